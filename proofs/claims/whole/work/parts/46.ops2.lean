/-! THE CALLS, second part -/
def sp_wipe (t : Int32) (a : Ab) : Int32 × Ab := if gin t 2 = true then (if t = 0 then (nI (aT0 a).length, ([], a.2)) else (nI (aT1 a).length, (a.1, [], a.2.2))) else (-2, a)
def sp_undo (t : Int32) (a : Ab) : Int32 × Ab := if gin t 2 = true then (if t = 0 then (if (aT0 a).length = 0 then (-3, a) else (nI ((aT0 a).length - 1), ((aT0 a).take ((aT0 a).length - 1), a.2))) else (if (aT1 a).length = 0 then (-3, a) else (nI ((aT1 a).length - 1), (a.1, (aT1 a).take ((aT1 a).length - 1), a.2.2)))) else (-2, a)
def sp_fault (t : Int32) (a : Ab) : Int32 × Ab := if gin t 2 = true then (if t = 0 then (flt0 (aT0 a), a) else (flt1 (aT1 a), a)) else (-2, a)
def sp_rider (r w : Int32) (a : Ab) : Int32 × Ab := if gin r (nRi (aT0 a)) = true then (if w = 0 then (rSt (aT0 a) (r.toNatClampNeg), a) else if w = 1 then (nI (rBo (aT0 a) (r.toNatClampNeg)), a) else if w = 2 then (nI (rLv (aT0 a) (r.toNatClampNeg)), a) else if w = 3 then (rWt (aT0 a) (r.toNatClampNeg), a) else (-2, a)) else (-2, a)
def sp_worth (k x : Int32) (a : Ab) : Int32 × Ab := if gin k 8 = true ∧ gin x 10 = true then (aO a (k.toNatClampNeg), (a.1, a.2.1, upd (aO a) (k.toNatClampNeg) x, a.2.2.2)) else (-2, a)
def sp_set (w x : Int32) (a : Ab) : Int32 × Ab := if w = 0 then (if gin x 10 = true then (aE a, (a.1, a.2.1, a.2.2.1, x, a.2.2.2.2)) else (-2, a)) else if w = 1 then (if gin x 1024 = true then (aC a, (a.1, a.2.1, a.2.2.1, a.2.2.2.1, x, a.2.2.2.2.2)) else (-2, a)) else if w = 2 then (if gin x 256 = true then (aF a, (a.1, a.2.1, a.2.2.1, a.2.2.2.1, a.2.2.2.2.1, x, a.2.2.2.2.2.2)) else (-2, a)) else (-2, a)
/-- the state behind day d -/
def beh (a : Ab) (d : Nat) : Sc := his (aP a) (aX a) (d + 1)
def sp_has (d r : Int32) (a : Ab) : Int32 × Ab := if gin d 10 = true ∧ gin r (nRi (aT0 a)) = true then ((beh a (d.toNatClampNeg)).1.1 (r.toNatClampNeg), a) else (-2, a)
def sp_torn (d r : Int32) (a : Ab) : Int32 × Ab := if gin d 10 = true ∧ gin r (nRi (aT0 a)) = true then (b2 ((beh a (d.toNatClampNeg)).1.2.2 (r.toNatClampNeg)), a) else (-2, a)
def bagv (a : Ab) (d : Nat) (i : Int32) : Int32 := if i = -1 then nI (beh a d).1.2.1.length else if i.toNatClampNeg < (beh a d).1.2.1.length then (beh a d).1.2.1.getD (i.toNatClampNeg) 0 else -1
def sp_bag (d i : Int32) (a : Ab) : Int32 × Ab := if gin d 10 = true ∧ -1 ≤ i.toInt ∧ i.toInt ≤ 27 then (bagv a (d.toNatClampNeg) i, a) else (-2, a)
def getp (a : Ab) (r d : Nat) : Bool := decide ((beh a d).1.1 r = rWt (aT0 a) r)
def getv (a : Ab) (r : Nat) : Int32 := if lst (getp a r) 10 0 < 10 then nI (lst (getp a r) 10 0) else -1
def sp_gets (r : Int32) (a : Ab) : Int32 × Ab := if gin r (nRi (aT0 a)) = true then (getv a (r.toNatClampNeg), a) else (-2, a)
def sp_first (w : Int32) (a : Ab) : Int32 × Ab := if w = 0 then ((beh a 9).2.2.1, a) else if w = 1 then ((beh a 9).2.2.2.1, a) else if w = 2 then ((beh a 9).2.2.2.2, a) else (-2, a)
def sp_still (a : Ab) : Int32 × Ab := (stN (aP a) (aX a) 10, a)
def sp_served (d : Int32) (a : Ab) : Int32 × Ab := if gin d 10 = true then (nI (srvN (aP a) (beh a (d.toNatClampNeg)).1.1), a) else (-2, a)
def sp_count (w : Int32) (a : Ab) : Int32 × Ab := if w = 0 then (nI (nRi (aT0 a)), a) else if w = 1 then (nI (bag0 (aT1 a)).length, a) else if w = 2 then (nI (aT0 a).length, a) else if w = 3 then (nI (aT1 a).length, a) else if w = 4 then (nI (beh a 9).2.1, a) else if w = 5 then (nI (pcN (srvN (aP a) (beh a 9).1.1)), a) else if w = 6 then (aC a, a) else if w = 7 then (nI (aS a).length, a) else if w = 8 then (aLa a, a) else (-2, a)
theorem txR_cut {v v' : gV} {t n : Nat} {l : List Int32} (h : txR v t l) (hn : n ≤ l.length) (e1 : v'.1 t 1 = nI n) (e2 : v'.1 (t + 1) = v.1 (t + 1)) : txR v' t (l.take n) := by
  have e : (l.take n).length = n := by rw [List.length_take]; omega
  refine ⟨by rw [e]; exact e1, by rw [e]; have := h.2.1; omega, fun i hi => ?_⟩
  rw [e] at hi
  rw [e2, h.2.2 i (by omega), List.getD_eq_getElem?_getD, List.getD_eq_getElem?_getD, List.getElem?_take, if_pos hi]
theorem wipe_X {v : gV} {a : Ab} {c : Nat} {t : Int32} (h : InvX v a c) (hc : c < 999980) : OKX (f_X7_wipe t v) (sp_wipe t a) c := by
  have hP := h.pt (by omega)
  obtain ⟨hO, h2, h4, -⟩ := id h
  unfold OKX f_X7_wipe
  refine wp_out 2 (by omega) (fun g1 => ?_) (fun g1 => ?_)
  · obtain ⟨k, hk, -, ek, -⟩ := gin_cl g1
    refine wp_gaT ek hk (wp_bd (wp_gaT ek hk (wp_bd ?_)))
    rcases (show k = 0 ∨ k = 1 by omega) with rfl | rfl
    · have hs : sp_wipe t a = (nI (aT0 a).length, ([], a.2)) := by
        unfold sp_wipe
        rw [if_pos g1, if_pos (show t = 0 from ek)]
      rw [hs]
      refine wp_bv (tellAnew_ok (hP.other (v' := sI v 2 1 0) (fun q hq => sI_n (by omega)) (l0 := []) (l1 := aT1 a) (by simp) hO.2.1 (txR_cut (n := 0) h2 (by omega) sI_s (sI_n (by omega))) (h4.kept (sI_n (by omega)) (sI_n (by omega))))) ?_
      rintro v3 h3
      exact wp_some ⟨h2.1, h3⟩
    · have hs : sp_wipe t a = (nI (aT1 a).length, (a.1, [], a.2.2)) := by
        unfold sp_wipe
        rw [if_pos g1, if_neg (show ¬ t = 0 by rw [ek]; decide)]
      rw [hs]
      refine wp_bv (tellAnew_ok (hP.other (v' := sI v 4 1 0) (fun q hq => sI_n (by omega)) (l0 := aT0 a) (l1 := []) hO.1 (by simp) (h2.kept (sI_n (by omega)) (sI_n (by omega))) (txR_cut (n := 0) h4 (by omega) sI_s (sI_n (by omega))))) ?_
      rintro v3 h3
      exact wp_some ⟨h4.1, h3⟩
  · unfold sp_wipe
    rw [if_neg g1]
    exact wp_some (OKX.same h (by omega))
theorem undo_X {v : gV} {a : Ab} {c : Nat} {t : Int32} (h : InvX v a c) (hc : c < 999980) : OKX (f_X7_undo t v) (sp_undo t a) c := by
  have hP := h.pt (by omega)
  obtain ⟨hO, h2, h4, -⟩ := id h
  unfold OKX f_X7_undo
  refine wp_out 2 (by omega) (fun g1 => ?_) (fun g1 => ?_)
  · obtain ⟨k, hk, -, ek, -⟩ := gin_cl g1
    refine wp_gaT ek hk ?_
    rcases (show k = 0 ∨ k = 1 by omega) with rfl | rfl
    · have hs : sp_undo t a = (if (aT0 a).length = 0 then (-3, a) else (nI ((aT0 a).length - 1), ((aT0 a).take ((aT0 a).length - 1), a.2))) := by
        unfold sp_undo
        rw [if_pos g1, if_pos (show t = 0 from ek)]
      rw [hs]
      have hl := hO.1
      have e1 : v.1 (2 + 2 * 0) 1 = nI (aT0 a).length := h2.1
      rw [e1]
      refine wp_if (fun c1 => ?_) (fun c1 => ?_)
      · rw [l_0, n_eq (by omega) (by omega)] at c1
        rw [if_pos c1]
        exact wp_some (OKX.same h (by omega))
      · rw [l_0, n_eq (by omega) (by omega)] at c1
        rw [if_neg c1]
        refine wp_gaT ek hk (wp_bd ?_)
        rw [e1, l_1, n_sub (by omega)]
        refine wp_bv (tellAnew_ok (hP.other (v' := sI v 2 1 (nI ((aT0 a).length - 1))) (fun q hq => sI_n (by omega)) (l0 := (aT0 a).take ((aT0 a).length - 1)) (l1 := aT1 a) (by rw [List.length_take]; omega) hO.2.1 (txR_cut h2 (by omega) sI_s (sI_n (by omega))) (h4.kept (sI_n (by omega)) (sI_n (by omega))))) ?_
        rintro v3 h3
        refine wp_gaT ek hk (wp_some ⟨?_, h3⟩)
        have this : v3.1 2 1 = nI ((aT0 a).take ((aT0 a).length - 1)).length := h3.2.1.1
        rw [List.length_take, show min ((aT0 a).length - 1) (aT0 a).length = (aT0 a).length - 1 by omega] at this
        exact this
    · have hs : sp_undo t a = (if (aT1 a).length = 0 then (-3, a) else (nI ((aT1 a).length - 1), (a.1, (aT1 a).take ((aT1 a).length - 1), a.2.2))) := by
        unfold sp_undo
        rw [if_pos g1, if_neg (show ¬ t = 0 by rw [ek]; decide)]
      rw [hs]
      have hl := hO.2.1
      have e1 : v.1 (2 + 2 * 1) 1 = nI (aT1 a).length := h4.1
      rw [e1]
      refine wp_if (fun c1 => ?_) (fun c1 => ?_)
      · rw [l_0, n_eq (by omega) (by omega)] at c1
        rw [if_pos c1]
        exact wp_some (OKX.same h (by omega))
      · rw [l_0, n_eq (by omega) (by omega)] at c1
        rw [if_neg c1]
        refine wp_gaT ek hk (wp_bd ?_)
        rw [e1, l_1, n_sub (by omega)]
        refine wp_bv (tellAnew_ok (hP.other (v' := sI v 4 1 (nI ((aT1 a).length - 1))) (fun q hq => sI_n (by omega)) (l0 := aT0 a) (l1 := (aT1 a).take ((aT1 a).length - 1)) hO.1 (by rw [List.length_take]; omega) (h2.kept (sI_n (by omega)) (sI_n (by omega))) (txR_cut h4 (by omega) sI_s (sI_n (by omega))))) ?_
        rintro v3 h3
        refine wp_gaT ek hk (wp_some ⟨?_, h3⟩)
        have this : v3.1 4 1 = nI ((aT1 a).take ((aT1 a).length - 1)).length := h3.2.2.1.1
        rw [List.length_take, show min ((aT1 a).length - 1) (aT1 a).length = (aT1 a).length - 1 by omega] at this
        exact this
  · unfold sp_undo
    rw [if_neg g1]
    exact wp_some (OKX.same h (by omega))
theorem fault_X {v : gV} {a : Ab} {c : Nat} {t : Int32} (h : InvX v a c) (hc : c < 999980) : OKX (f_X7_fault t v) (sp_fault t a) c := by
  obtain ⟨hO, h2, h4, -⟩ := id h
  unfold OKX f_X7_fault sp_fault
  refine wp_out 2 (by omega) (fun g1 => ?_) (fun g1 => ?_)
  · rw [if_pos g1]
    refine wp_if (fun c1 => ?_) (fun c1 => ?_)
    · rw [if_pos c1]
      refine wp_gaT (k := 0) rfl (by omega) (wp_bi (wp_of (faultAsRiders_ok (t := 2 + 2 * 0) h2)) ?_)
      rintro r v1 ⟨rfl, rfl⟩
      exact wp_some (OKX.same h (by omega))
    · rw [if_neg c1]
      refine wp_gaT (k := 1) rfl (by omega) (wp_bi (wp_of (faultAsBag_ok (t := 2 + 2 * 1) h4)) ?_)
      rintro r v1 ⟨rfl, rfl⟩
      exact wp_some (OKX.same h (by omega))
  · rw [if_neg g1]
    exact wp_some (OKX.same h (by omega))
theorem rider_X {v : gV} {a : Ab} {c : Nat} {r w : Int32} (h : InvX v a c) (hc : c < 999980) : OKX (f_X7_rider r w v) (sp_rider r w a) c := by
  obtain ⟨hO, h2, h4, hQ, h89, -⟩ := id h
  have hn := nRi_le hO.1
  unfold OKX f_X7_rider sp_rider
  rw [show v.1 6 0 = nI (nRi (aT0 a)) from hQ.1.2.1]
  refine wp_out (nRi (aT0 a)) (by omega) (fun g1 => ?_) (fun g1 => ?_)
  · obtain ⟨k, hk, -, rfl, ek⟩ := gin_cl g1
    rw [if_pos g1, ek]
    have gk := gin_N (i := k) (n := 8) (by omega) (by omega)
    have e7 : v.1 7 k = rSt (aT0 a) k := hQ.2.2.2.1 k hk
    have e10 : v.1 10 k = rWt (aT0 a) k := hQ.1.2.2.1 k hk
    refine wp_if (fun c1 => ?_) (fun c1 => wp_if (fun c2 => ?_) (fun c2 => wp_if (fun c3 => ?_) (fun c3 => wp_if (fun c4 => ?_) (fun c4 => ?_))))
    · rw [if_pos c1]
      refine wp_t gk ?_
      rw [e7]; exact wp_some (OKX.same h (by omega))
    · rw [if_neg c1, if_pos c2]
      refine wp_t gk ?_
      rw [(h89 k hk).1]; exact wp_some (OKX.same h (by omega))
    · rw [if_neg c1, if_neg c2, if_pos c3]
      refine wp_t gk ?_
      rw [(h89 k hk).2]; exact wp_some (OKX.same h (by omega))
    · rw [if_neg c1, if_neg c2, if_neg c3, if_pos c4]
      refine wp_t gk ?_
      rw [e10]; exact wp_some (OKX.same h (by omega))
    · rw [if_neg c1, if_neg c2, if_neg c3, if_neg c4]
      exact wp_some (OKX.same h (by omega))
  · rw [if_neg g1]
    exact wp_some (OKX.same h (by omega))
theorem PT.told {v : gV} {a : Ab} {c : Nat} (h : PT v a c) {v' : gV} {O : Nat → Int32} {E C F : Int32} (hq : ∀ q, q ≠ 6 → q ≠ 15 → v'.1 q = v.1 q) (hO : ∀ k, k < 8 → v'.1 15 k = O k ∧ 0 ≤ (O k).toInt ∧ (O k).toInt ≤ 9) (hE : v'.1 6 9 = E) (hC : v'.1 6 10 = C) (hF : v'.1 6 11 = F) (oE : ∃ e, e ≤ 9 ∧ E = nI e) (oC : ∃ k, k < 1024 ∧ C = nI k) (oF : ∃ k, k < 256 ∧ F = nI k) : PT v' (a.1, a.2.1, O, E, C, F, a.2.2.2.2.2.2) c := by
  obtain ⟨⟨o1, o2, o3, o4, o5, o6, o7⟩, h2, h4, h15, h69, h610, h611, ⟨k, z1, z2, z3⟩, hc, hN, hH, hL⟩ := h
  exact ⟨⟨o1, o2, fun k hk => (hO k hk).2, oE, oC, oF, o7⟩, h2.kept (hq _ (by omega) (by omega)) (hq _ (by omega) (by omega)), h4.kept (hq _ (by omega) (by omega)) (hq _ (by omega) (by omega)), fun k hk => (hO k hk).1, hE, hC, hF, ⟨k, z1, by rw [hq 92 (by omega) (by omega)]; exact z2, fun i hi => by rw [hq 94 (by omega) (by omega)]; exact z3 i hi⟩, hc, hN.kept (fun q _ => hq q (by omega) (by omega)), SHi.kept (a := a) hH (fun q _ => hq q (by omega) (by omega)), by rw [hq 0 (by omega) (by omega)]; exact hL⟩
theorem worth_X {v : gV} {a : Ab} {c : Nat} {k x : Int32} (h : InvX v a c) (hc : c < 999980) : OKX (f_X7_worth k x v) (sp_worth k x a) c := by
  have hP := h.pt (by omega)
  obtain ⟨hO, -, -, h15, h69, h610, h611, -⟩ := id hP
  unfold OKX f_X7_worth
  refine wp_out 8 (by omega) (fun g1 => wp_out 10 (by omega) (fun g2 => ?_) (fun g2 => ?_)) (fun g1 => ?_)
  · have hs : sp_worth k x a = (aO a k.toNatClampNeg, (a.1, a.2.1, upd (aO a) k.toNatClampNeg x, a.2.2.2)) := by
      unfold sp_worth
      rw [if_pos ⟨g1, g2⟩]
    rw [hs]
    obtain ⟨i, hi, -, rfl, ei⟩ := gin_cl g1
    obtain ⟨j, hj, -, rfl, ej⟩ := gin_cl g2
    refine wp_t g1 (wp_bd (wp_t g1 (wp_bd ?_)))
    rw [ei]
    refine wp_bv (tellAnew_ok (hP.told (v' := sI v 15 i (nI j)) (O := upd (aO a) i (nI j)) (E := aE a) (C := aC a) (F := aF a) (fun q _ h9 => sI_n h9) (fun q hq => ?_) (by rw [sI_n (by omega)]; exact h69) (by rw [sI_n (by omega)]; exact h610) (by rw [sI_n (by omega)]; exact h611) hO.2.2.2.1 hO.2.2.2.2.1 hO.2.2.2.2.2.1)) ?_
    · by_cases e : q = i
      · subst e
        rw [sI_s, up_s, n_ti (by omega)]
        exact ⟨rfl, by omega, by omega⟩
      · rw [sI_o e, up_n e]
        exact ⟨h15 q hq, hO.2.2.1 q hq⟩
    · rintro v3 h3
      exact wp_some ⟨h15 i hi, h3⟩
  · unfold sp_worth
    rw [if_neg (fun q => g2 q.2)]
    exact wp_some (OKX.same h (by omega))
  · unfold sp_worth
    rw [if_neg (fun q => g1 q.1)]
    exact wp_some (OKX.same h (by omega))
theorem set_X {v : gV} {a : Ab} {c : Nat} {w x : Int32} (h : InvX v a c) (hc : c < 999980) : OKX (f_X7_set w x v) (sp_set w x a) c := by
  have hP := h.pt (by omega)
  obtain ⟨hO, -, -, h15, h69, h610, h611, -⟩ := id hP
  have hO15 : ∀ (j : Nat) (y : Int32), ∀ k, k < 8 → (sI v 6 j y).1 15 k = aO a k ∧ 0 ≤ (aO a k).toInt ∧ (aO a k).toInt ≤ 9 := fun j y k hk => by rw [sI_n (by omega)]; exact ⟨h15 k hk, hO.2.2.1 k hk⟩
  unfold OKX f_X7_set sp_set
  refine wp_if (fun c1 => ?_) (fun c1 => wp_if (fun c2 => ?_) (fun c2 => wp_if (fun c3 => ?_) (fun c3 => ?_)))
  · rw [if_pos c1]
    refine wp_out 10 (by omega) (fun g1 => ?_) (fun g1 => ?_)
    · rw [if_pos g1]
      obtain ⟨j, hj, -, rfl, ej⟩ := gin_cl g1
      unfold f_X7_tellEven
      refine wp_bi (Q0 := fun z => z.1 = aE a ∧ InvX z.2 (a.1, a.2.1, a.2.2.1, nI j, a.2.2.2.2) (c + 1)) (wp_bd (wp_bd (wp_bv (tellAnew_ok (hP.told (v' := sI v 6 9 (nI j)) (O := aO a) (E := nI j) (C := aC a) (F := aF a) (fun q h8 _ => sI_n h8) (hO15 _ _) sI_s (by rw [sI_o (by omega)]; exact h610) (by rw [sI_o (by omega)]; exact h611) ⟨j, by omega, rfl⟩ hO.2.2.2.2.1 hO.2.2.2.2.2.1)) (fun v3 h3 => wp_some ⟨h69, h3⟩)))) (fun r v3 q => wp_some q)
    · rw [if_neg g1]
      exact wp_some (OKX.same h (by omega))
  · rw [if_neg c1, if_pos c2, l_1024]
    refine wp_out 1024 (by omega) (fun g1 => ?_) (fun g1 => ?_)
    · rw [if_pos g1]
      obtain ⟨j, hj, -, rfl, ej⟩ := gin_cl g1
      unfold f_X7_tellChanges
      refine wp_bi (Q0 := fun z => z.1 = aC a ∧ InvX z.2 (a.1, a.2.1, a.2.2.1, a.2.2.2.1, nI j, a.2.2.2.2.2) (c + 1)) (wp_bd (wp_bd (wp_bv (tellAnew_ok (hP.told (v' := sI v 6 10 (nI j)) (O := aO a) (E := aE a) (C := nI j) (F := aF a) (fun q h8 _ => sI_n h8) (hO15 _ _) (by rw [sI_o (by omega)]; exact h69) sI_s (by rw [sI_o (by omega)]; exact h611) hO.2.2.2.1 ⟨j, hj, rfl⟩ hO.2.2.2.2.2.1)) (fun v3 h3 => wp_some ⟨h610, h3⟩)))) (fun r v3 q => wp_some q)
    · rw [if_neg g1]
      exact wp_some (OKX.same h (by omega))
  · rw [if_neg c1, if_neg c2, if_pos c3, l_256]
    refine wp_out 256 (by omega) (fun g1 => ?_) (fun g1 => ?_)
    · rw [if_pos g1]
      obtain ⟨j, hj, -, rfl, ej⟩ := gin_cl g1
      unfold f_X7_tellForgets
      refine wp_bi (Q0 := fun z => z.1 = aF a ∧ InvX z.2 (a.1, a.2.1, a.2.2.1, a.2.2.2.1, a.2.2.2.2.1, nI j, a.2.2.2.2.2.2) (c + 1)) (wp_bd (wp_bd (wp_bv (tellAnew_ok (hP.told (v' := sI v 6 11 (nI j)) (O := aO a) (E := aE a) (C := aC a) (F := nI j) (fun q h8 _ => sI_n h8) (hO15 _ _) (by rw [sI_o (by omega)]; exact h69) (by rw [sI_o (by omega)]; exact h610) sI_s hO.2.2.2.1 hO.2.2.2.2.1 ⟨j, hj, rfl⟩)) (fun v3 h3 => wp_some ⟨h611, h3⟩)))) (fun r v3 q => wp_some q)
    · rw [if_neg g1]
      exact wp_some (OKX.same h (by omega))
  · rw [if_neg c1, if_neg c2, if_neg c3]
    exact wp_some (OKX.same h (by omega))
