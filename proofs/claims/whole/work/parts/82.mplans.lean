/-! THE REFERENCE: plans -/
def evA (a : Ab) (e : Int32) : Ab := (a.1, a.2.1, a.2.2.1, e, a.2.2.2.2)
def cgA (a : Ab) (c : Int32) : Ab := (a.1, a.2.1, a.2.2.1, a.2.2.2.1, c, a.2.2.2.2.2)
theorem RR.kept {u u' : gV} {l : List Int32} (h : RR u l) (h7 : u'.1 7 = u.1 7) (h0 : u'.1 0 7 = u.1 0 7) : RR u' l := by
  unfold RR
  rw [h7, h0]; exact h
theorem RB.kept {u u' : gV} {l : List Int32} (h : RB u l) (h8 : u'.1 8 = u.1 8) (h0 : u'.1 0 9 = u.1 0 9) : RB u' l := by
  unfold RB
  rw [h8, h0]; exact h
theorem evM {u : gV} {a : Ab} {e0 e : Int32} (h : RDY u (evA a e0)) (he : ∃ k, k ≤ 9 ∧ e = nI k) : RDY (sI u 10 0 e) (evA a e) := by
  obtain ⟨⟨o1, o2, o3, -, o5⟩, -, -, -, -, s1, s2, -⟩ := id h.1
  exact ⟨setM (a := evA a e0) (a' := evA a e) h.1 ⟨o1, o2, o3, he, o5⟩ rfl rfl rfl rfl sI_s (by rw [sI_o (by omega)]; exact s1) (by rw [sI_o (by omega)]; exact s2), RR.kept (l := aT0 a) h.2.1 (sI_n (by omega)) (by rw [sI_n (by omega)]), RB.kept (l := aT1 a) h.2.2 (sI_n (by omega)) (by rw [sI_n (by omega)])⟩
theorem cgM {u : gV} {a : Ab} {c0 c : Int32} (h : RDY u (cgA a c0)) (hc : ∃ k, k < 1024 ∧ c = nI k) : RDY (sI u 10 1 c) (cgA a c) := by
  obtain ⟨⟨o1, o2, o3, o4, -, o6⟩, -, -, -, s0, -, s2, -⟩ := id h.1
  exact ⟨setM (a := cgA a c0) (a' := cgA a c) h.1 ⟨o1, o2, o3, o4, hc, o6⟩ rfl rfl rfl rfl (by rw [sI_o (by omega)]; exact s0) sI_s (by rw [sI_o (by omega)]; exact s2), RR.kept (l := aT0 a) h.2.1 (sI_n (by omega)) (by rw [sI_n (by omega)]), RB.kept (l := aT1 a) h.2.2 (sI_n (by omega)) (by rw [sI_n (by omega)])⟩
theorem RDY.e0 {u : gV} {a : Ab} (h : RDY u a) : u.1 10 (0 : Int32).toNatClampNeg = aE a := h.1.2.2.2.2.1
theorem RDY.c0 {u : gV} {a : Ab} (h : RDY u a) : u.1 10 (1 : Int32).toNatClampNeg = aC a := h.1.2.2.2.2.2.1
/-- what the reference holds with i of them looked at -/
def bsM (f : Nat → Nat) (i : Nat) : Int32 × Int32 := if i = 0 then (-1, -1) else bsI f i
theorem bsM_s {f : Nat → Nat} (hf : ∀ k, f k ≤ 10) (i : Nat) (hi : i < 1000) : bsM f (i + 1) = if nI (f i) ≤ (bsM f i).2 then bsM f i else (nI i, nI (f i)) := by
  have e1 : bsM f (i + 1) = bsI f (i + 1) := if_neg (by omega)
  rw [e1, bsI_s hf i hi]
  cases i with
  | zero =>
    have hf0 := hf 0
    have : ¬ nI (f 0) ≤ (-1 : Int32) := by
      rw [i_le, n_ti (by omega)]
      have e1 : (-1 : Int32).toInt = -1 := by decide
      omega
    rw [show (bsI f 0).2 = -1 from rfl, show (bsM f 0).2 = -1 from rfl, if_neg this, if_neg this]
  | succ i => rw [show bsM f (i + 1) = bsI f (i + 1) from if_neg (by omega)]
theorem greater_M {u : gV} {x y : Int32} : f_X8_greater x y u = some (if x ≤ y then y else x, u) := by
  apply wp_is
  unfold f_X8_greater
  refine wp_if (fun c => ?_) (fun c => ?_)
  · rw [if_pos c]; exact wp_some rfl
  · rw [if_neg c]; exact wp_some rfl
theorem leastOf_M {u : gV} {a : Ab} {w : Int32} (h : RDY u a) : wp (f_X8_leastOf w u) (fun z => z.1 = leastv a w ∧ RDY z.2 a) := by
  have hf : ∀ k, evn a k ≤ 10 := fun k => pcN_le _
  have hE := h.1.1.2.2.2.1
  unfold f_X8_leastOf
  rw [h.e0]
  refine wp_t (by decide) (wp_bd (wp_bx3 (wp_ct (Z := fun z => (∃ e, RDY z.1 (evA a e)) ∧ z.2 = bsM (evn a) 10) (fun i z => z.2.2.2 = nI i ∧ (∃ e, RDY z.1 (evA a e)) ∧ (z.2.1, z.2.2.1) = bsM (evn a) i) 10 0 _ (by omega) (Nat.zero_le _) ⟨rfl, ⟨aE a, h⟩, rfl⟩ ?_ ?_) ?_))
  · rintro i ⟨v1, x, y, z⟩ hi ⟨e, ⟨e9, hI⟩, hb⟩
    have e : z = nI i := e
    subst e
    have hI : RDY v1 (evA a e9) := hI
    have hb : (x, y) = bsM (evn a) i := hb
    show wp (f_X8_leastOf_B15 w (aE a) x y (nI i) v1) _
    unfold f_X8_leastOf_B15 f_X8_leastOf_J58
    have h2 : RDY (sI v1 10 (0 : Int32).toNatClampNeg (nI i)) (evA a (nI i)) := evM hI ⟨i, by omega, rfl⟩
    refine wp_f (by rw [l_10, n_le (by omega) (by omega)]; omega) (wp_t (by decide) (wp_bd (wp_bv (lives_M h2) ?_)))
    rintro v2 ⟨h3, hL, -⟩
    refine wp_bi (wp_of (servedBy_M (d := 9) h3.tm hL (by omega))) ?_
    rintro r6 v4 ⟨rfl, rfl⟩
    refine wp_bi (wp_of (ones_M (Nat.lt_trans (srvN_lt (aP_ok h3.1.1)) (by omega)))) ?_
    rintro r9 v7 ⟨rfl, rfl⟩
    have en : pcN (srvN (aP (evA a (nI i))) (his (aP (evA a (nI i))) (aX (evA a (nI i))) (9 + 1)).1.1) = evn a i := rfl
    rw [en]
    have hbs := bsM_s hf i (by omega)
    have hy : (bsM (evn a) i).2 = y := by rw [← hb]
    rw [hy] at hbs
    refine wp_if (fun c1 => ?_) (fun c1 => ?_)
    · rw [if_pos c1] at hbs
      refine wp_bi (wp_of greater_M) ?_
      rintro r10 v8 ⟨rfl, rfl⟩
      rw [if_pos c1]
      exact wp_eq rfl ⟨nI_1 i, ⟨nI i, h3⟩, by rw [hbs]; exact hb⟩
    · rw [if_neg c1] at hbs
      refine wp_bi (wp_of greater_M) ?_
      rintro r10 v8 ⟨rfl, rfl⟩
      rw [if_neg c1]
      exact wp_eq rfl ⟨nI_1 i, ⟨nI i, h3⟩, by rw [hbs]⟩
  · rintro ⟨v1, x, y, z⟩ ⟨e, hI, hb⟩
    have e : z = nI 10 := e
    subst e
    show wp (f_X8_leastOf_B15 w (aE a) x y (nI 10) v1) _
    unfold f_X8_leastOf_B15
    exact wp_t (by rw [l_10, n_le (by omega) (by omega)]; exact Nat.le_refl _) (wp_some ⟨hI, hb⟩)
  · rintro v1 x y ⟨⟨e9, hI⟩, hb⟩
    have hI : RDY v1 (evA a e9) := hI
    have hb : (x, y) = (nI (bst (evn a) 9).1, nI (bst (evn a) 9).2) := hb
    have h4 : RDY (sI v1 10 (0 : Int32).toNatClampNeg (aE a)) a := evM hI hE
    unfold leastv
    generalize bst (evn a) 9 = B at *
    obtain ⟨rfl, rfl⟩ := Prod.mk.inj hb
    refine wp_t (by decide) (wp_bd (wp_if (fun c1 => ?_) (fun c1 => ?_)))
    · rw [if_pos c1]; exact wp_some ⟨rfl, h4⟩
    · rw [if_neg c1]; exact wp_some ⟨rfl, h4⟩
theorem least_M {u : gV} {a : Ab} {w : Int32} (h : InvM u a) : OKM (f_X8_least w u) (sp_least w a) := by
  unfold OKM f_X8_least
  refine wp_bv (reads_M h) ?_
  rintro u1 ⟨h1, h2⟩
  refine wp_gt isTwo_M (fun c1 => ?_) (fun c1 => ?_)
  · have hs : sp_least w a = (-2, a) := by unfold sp_least; rw [if_neg (by rw [c1]; exact Bool.false_ne_true)]
    rw [hs]; exact wp_some ⟨rfl, h1.1⟩
  · have hs : sp_least w a = (leastv a w, a) := by unfold sp_least; rw [if_pos c1]
    rw [hs]
    refine wp_bi (leastOf_M h1) ?_
    rintro r3 u3 ⟨e1, e2⟩
    exact wp_some ⟨e1, e2.1⟩
/-! with one on top -/
theorem FL.sI {u u' : gV} {q j : Nat} {x : Int32} (h : FL u u') (hq : q < 11) (hj : q = 0 → j ≠ 16 ∧ j ≠ 17 ∧ j ≠ 24 ∧ j ≠ 25) : FL (sI u q j x) (sI u' q j x) := by
  refine ⟨fun p h0 hp => ?_, fun k h1 h2 h3 h4 => ?_, h.2.2⟩
  · by_cases e : p = q
    · subst e
      rw [sI_q, sI_q, h.1 p h0 hp]
    · rw [sI_n e, sI_n e]; exact h.1 p h0 hp
  · by_cases e : (0 : Nat) = q
    · subst e
      rw [sI_q, sI_q]
      by_cases e2 : k = j
      · subst e2; rw [up_s, up_s]
      · rw [up_n e2, up_n e2]; exact h.2.1 k h1 h2 h3 h4
    · rw [sI_n e, sI_n e]; exact h.2.1 k h1 h2 h3 h4
theorem tpl_k {k : Nat} (hk : k < 8) : tpl (nI k) = [nI k] := by
  unfold tpl
  rw [if_neg (n_m1 (by omega))]
theorem topOf_M {u : gV} {a : Ab} {w : Int32} (h : RDY u a) : wp (f_X8_topOf w u) (fun z => z.1 = topv a w ∧ RDY z.2 a) := by
  have hf : ∀ k, tpn a k ≤ 10 := fun k => pcN_le _
  have hO := h.1.1
  have hbl := bag0_len (l := aT1 a)
  have hbl2 := hO.2.1
  have st : ∀ {v : gV}, RDY (sI v 0 13 (-1)) a → ∀ k, k < 8 → TM (sI v 0 13 (nI k)) (aP a) ∧ ST (sI v 0 13 (nI k)) (aP a) (rSt (aT0 a)) (bag0 (aT1 a)) (nI k) := fun {v} hv k hk => by
    have t := hv.tm
    have s := hv.st
    refine ⟨?_, ?_⟩
    · unfold TM at t ⊢
      rw [sI_o (by omega), sI_n (by omega), sI_n (by omega), sI_n (by omega)] at t ⊢
      exact t
    · obtain ⟨s1, s2, s3, s4, s5⟩ := s
      rw [sI_n (by omega)] at s1 s4
      rw [sI_o (by omega)] at s2
      refine ⟨?_, ?_, s3, ?_, sI_s⟩
      · rw [sI_n (by omega)]; exact s1
      · rw [sI_o (by omega)]; exact s2
      · rw [sI_n (by omega)]; exact s4
  unfold f_X8_topOf
  have h0 : RDY (sI u 0 13 (-1)) a := by
    have e : sI u 0 13 (-1) = u := by
      refine Prod.ext (funext fun q => ?_) rfl
      by_cases e : q = 0
      · subst e
        rw [sI_q]
        funext j
        by_cases e2 : j = 13
        · subst e2; rw [up_s]; exact h.1.2.2.2.2.2.2.2.1.symm
        · rw [up_n e2]
      · rw [sI_n e]
    rw [e]; exact h
  refine wp_bx3 (wp_ct (Z := fun z => RDY (sI z.1 0 13 (-1)) a ∧ z.2 = bsM (tpn a) 8) (fun i z => z.2.2.2 = nI i ∧ RDY (sI z.1 0 13 (-1)) a ∧ (z.2.1, z.2.2.1) = bsM (tpn a) i) 8 0 _ (by omega) (Nat.zero_le _) ⟨rfl, h0, rfl⟩ ?_ ?_) ?_
  · rintro i ⟨v1, x, y, z⟩ hi ⟨e, hI, hb⟩
    have e : z = nI i := e
    subst e
    have hI : RDY (sI v1 0 13 (-1)) a := hI
    have hb : (x, y) = bsM (tpn a) i := hb
    show wp (f_X8_topOf_B7 w x y (nI i) v1) _
    unfold f_X8_topOf_B7 f_X8_topOf_J47
    obtain ⟨hT, hS⟩ := st hI i hi
    have hA : okA (aP a) (ini (rSt (aT0 a)) (tpl (nI i) ++ bag0 (aT1 a))) := ini_okL hO (st_hv hO) (by rw [tpl_k hi]; simp; omega)
    refine wp_f (by rw [l_8, n_le (by omega) (by omega)]; omega) (wp_bd (wp_bv (lives_ok hT hS hA) ?_))
    rintro v2 ⟨hL, hF⟩
    have ex : ini (rSt (aT0 a)) (tpl (nI i) ++ bag0 (aT1 a)) = ini (rSt (aT0 a)) (nI i :: bag0 (aT1 a)) := by rw [tpl_k hi]; rfl
    rw [ex] at hL
    have hI2 : RDY (sI v2 0 13 (-1)) a := by
      have f1 : FL (sI (sI v1 0 13 (nI i)) 0 13 (-1)) (sI v2 0 13 (-1)) := hF.sI (by omega) (fun _ => by omega)
      have e1 : sI (sI v1 0 13 (nI i)) 0 13 (-1) = sI v1 0 13 (-1) := by
        refine Prod.ext (funext fun q => ?_) rfl
        by_cases e : q = 0
        · subst e
          rw [sI_q, sI_q, sI_q]
          funext j
          by_cases e2 : j = 13
          · subst e2; rw [up_s, up_s]
          · rw [up_n e2, up_n e2, up_n e2]
        · rw [sI_n e, sI_n e, sI_n e]
      rw [e1] at f1
      exact hI.L f1
    have hT2 := hT.kept hF
    refine wp_bi (wp_of (servedBy_M (d := 9) hT2 hL (by omega))) ?_
    rintro r6 v4 ⟨rfl, rfl⟩
    refine wp_bi (wp_of (ones_M (Nat.lt_trans (srvN_lt (aP_ok hO)) (by omega)))) ?_
    rintro r9 v7 ⟨rfl, rfl⟩
    have en : pcN (srvN (aP a) (his (aP a) (ini (rSt (aT0 a)) (nI i :: bag0 (aT1 a))) (9 + 1)).1.1) = tpn a i := rfl
    rw [en]
    have hbs := bsM_s hf i (by omega)
    have hy : (bsM (tpn a) i).2 = y := by rw [← hb]
    rw [hy] at hbs
    refine wp_if (fun c1 => ?_) (fun c1 => ?_)
    · rw [if_pos c1] at hbs
      refine wp_bi (wp_of greater_M) ?_
      rintro r10 v8 ⟨rfl, rfl⟩
      rw [if_pos c1]
      exact wp_eq rfl ⟨nI_1 i, hI2, by rw [hbs]; exact hb⟩
    · rw [if_neg c1] at hbs
      refine wp_bi (wp_of greater_M) ?_
      rintro r10 v8 ⟨rfl, rfl⟩
      rw [if_neg c1]
      exact wp_eq rfl ⟨nI_1 i, hI2, by rw [hbs]⟩
  · rintro ⟨v1, x, y, z⟩ ⟨e, hI, hb⟩
    have e : z = nI 8 := e
    subst e
    show wp (f_X8_topOf_B7 w x y (nI 8) v1) _
    unfold f_X8_topOf_B7
    exact wp_t (by rw [l_8, n_le (by omega) (by omega)]; exact Nat.le_refl _) (wp_some ⟨hI, hb⟩)
  · rintro v1 x y ⟨hI, hb⟩
    have hI : RDY (sI v1 0 13 (-1)) a := hI
    have hb : (x, y) = (nI (bst (tpn a) 7).1, nI (bst (tpn a) 7).2) := hb
    unfold topv
    generalize bst (tpn a) 7 = B at *
    obtain ⟨rfl, rfl⟩ := Prod.mk.inj hb
    refine wp_bd (wp_if (fun c1 => ?_) (fun c1 => ?_))
    · rw [if_pos c1]; exact wp_some ⟨rfl, hI⟩
    · rw [if_neg c1]; exact wp_some ⟨rfl, hI⟩
theorem top_M {u : gV} {a : Ab} {w : Int32} (h : InvM u a) : OKM (f_X8_top w u) (sp_top w a) := by
  unfold OKM f_X8_top
  refine wp_bv (reads_M h) ?_
  rintro u1 ⟨h1, h2⟩
  refine wp_gt isTwo_M (fun c1 => ?_) (fun c1 => ?_)
  · have hs : sp_top w a = (-2, a) := by unfold sp_top; rw [if_neg (by rw [c1]; exact Bool.false_ne_true)]
    rw [hs]; exact wp_some ⟨rfl, h1.1⟩
  · have hs : sp_top w a = (topv a w, a) := by unfold sp_top; rw [if_pos c1]
    rw [hs]
    refine wp_bi (topOf_M h1) ?_
    rintro r3 u3 ⟨e1, e2⟩
    exact wp_some ⟨e1, e2.1⟩
