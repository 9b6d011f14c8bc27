/-! THE CALLS, third part: days, seen -/
theorem has_X {v : gV} {a : Ab} {c : Nat} {d r : Int32} (h : InvX v a c) (hc : c < 999980) : OKX (f_X7_has d r v) (sp_has d r a) c := by
  obtain ⟨hO, -, -, hQ, -, hD, -⟩ := id h
  have hn := nRi_le hO.1
  unfold OKX f_X7_has
  refine wp_out 10 (by omega) (fun g1 => ?_) (fun g1 => ?_)
  · rw [show v.1 6 0 = nI (nRi (aT0 a)) from hQ.1.2.1]
    refine wp_out (nRi (aT0 a)) (by omega) (fun g2 => ?_) (fun g2 => ?_)
    · have hs : sp_has d r a = ((beh a (d.toNatClampNeg)).1.1 (r.toNatClampNeg), a) := by unfold sp_has; rw [if_pos ⟨g1, g2⟩]
      rw [hs]
      obtain ⟨i, hi, -, rfl, ei⟩ := gin_cl g1
      obtain ⟨j, hj, -, rfl, ej⟩ := gin_cl g2
      rw [ei, ej]
      refine wp_bi (wp_of (hasOn_ok rfl (aP_ok hO) hD hi hj)) ?_
      rintro q v1 ⟨rfl, rfl⟩
      exact wp_some (OKX.same h (by omega))
    · have hs : sp_has d r a = (-2, a) := by unfold sp_has; rw [if_neg (fun q => g2 q.2)]
      rw [hs]
      exact wp_some (OKX.same h (by omega))
  · have hs : sp_has d r a = (-2, a) := by unfold sp_has; rw [if_neg (fun q => g1 q.1)]
    rw [hs]
    exact wp_some (OKX.same h (by omega))
theorem bt_b2 {x : Int32} {i : Nat} (hi : i < 32) : (x >>> (nI i &&& 31)) &&& 1 = b2 (bt x i) := by
  cases h : bt x i with
  | true =>
    have : (x >>> (nI i &&& 31)) &&& 1 = 1 := by rw [bt_1 hi]; exact h
    rw [this]; rfl
  | false =>
    have h1 : ∀ j, j < 32 → bt 1 j = decide (j = 0) := by decide +kernel
    show _ = (0 : Int32)
    apply b_ext
    intro j hj
    rw [b_and, h1 j hj, b_0]
    by_cases hj0 : j = 0
    · subst hj0
      rw [b_sshr i hi x (by omega), if_pos (by omega), Nat.add_zero, h]
      rfl
    · simp [hj0]
theorem torn_X {v : gV} {a : Ab} {c : Nat} {d r : Int32} (h : InvX v a c) (hc : c < 999980) : OKX (f_X7_torn d r v) (sp_torn d r a) c := by
  obtain ⟨hO, -, -, hQ, -, hD, -⟩ := id h
  have hn := nRi_le hO.1
  unfold OKX f_X7_torn
  refine wp_out 10 (by omega) (fun g1 => ?_) (fun g1 => ?_)
  · rw [show v.1 6 0 = nI (nRi (aT0 a)) from hQ.1.2.1]
    refine wp_out (nRi (aT0 a)) (by omega) (fun g2 => ?_) (fun g2 => ?_)
    · have hs : sp_torn d r a = (b2 ((beh a (d.toNatClampNeg)).1.2.2 (r.toNatClampNeg)), a) := by unfold sp_torn; rw [if_pos ⟨g1, g2⟩]
      rw [hs]
      obtain ⟨i, hi, -, rfl, ei⟩ := gin_cl g1
      obtain ⟨j, hj, -, rfl, ej⟩ := gin_cl g2
      rw [ei, ej]
      refine wp_bi (tornOn_ok hD hi) ?_
      rintro q v1 ⟨e1, e2⟩
      have e1 : v1 = v := e1
      subst e1
      have e2 := e2 j hj
      have e2 : bt q j = (beh a i).1.2.2 j := e2
      rw [bt_b2 (by omega), e2]
      exact wp_some (OKX.same h (by omega))
    · have hs : sp_torn d r a = (-2, a) := by unfold sp_torn; rw [if_neg (fun q => g2 q.2)]
      rw [hs]
      exact wp_some (OKX.same h (by omega))
  · have hs : sp_torn d r a = (-2, a) := by unfold sp_torn; rw [if_neg (fun q => g1 q.1)]
    rw [hs]
    exact wp_some (OKX.same h (by omega))
theorem bag_X {v : gV} {a : Ab} {c : Nat} {d i : Int32} (h : InvX v a c) (hc : c < 999980) : OKX (f_X7_bag d i v) (sp_bag d i a) c := by
  obtain ⟨hO, -, -, hQ, -, hD, -⟩ := id h
  have e1 : (-1 : Int32).toInt = -1 := by decide
  have e27 : (27 : Int32).toInt = 27 := by decide
  unfold OKX f_X7_bag
  refine wp_out 10 (by omega) (fun g1 => wp_if (fun c1 => ?_) (fun c1 => wp_if (fun c2 => ?_) (fun c2 => ?_))) (fun g1 => ?_)
  · rw [i_lt, e1] at c1
    have hs : sp_bag d i a = (-2, a) := by unfold sp_bag; rw [if_neg (by omega)]
    rw [hs]
    exact wp_some (OKX.same h (by omega))
  · rw [i_lt, e1] at c1
    rw [i_le, e27] at c2
    have hs : sp_bag d i a = (bagv a (d.toNatClampNeg) i, a) := by unfold sp_bag; rw [if_pos ⟨g1, by omega, by omega⟩]
    rw [hs]
    obtain ⟨k, hk, -, rfl, ek⟩ := gin_cl g1
    rw [ek]
    refine wp_br (bagOn_ok rfl hD hk) ?_
    rintro g v1 ⟨z1, z2, z3⟩
    have z1 : v1 = v := z1
    have z2 : kB g = true := z2
    have z3 : bgR v g (beh a k).1.2.1 := z3
    subst z1
    refine ⟨z2, ?_⟩
    have z4 := z3.2.1
    rw [z3.1]
    unfold bagv
    refine wp_if (fun c3 => ?_) (fun c3 => ?_)
    · rw [if_pos c3]
      exact wp_some (OKX.same h (by omega))
    · rw [if_neg c3]
      have hi0 : 0 ≤ i.toInt := by
        rcases Int.lt_or_le i.toInt 0 with z | z
        · exact absurd (i_eq.mpr (by rw [e1]; omega)) c3
        · exact z
      obtain ⟨j, hj, rfl, ej⟩ := i_of hi0
      rw [n_cl hj]
      refine wp_if (fun c4 => ?_) (fun c4 => ?_)
      · rw [n_le (by omega) (by omega)] at c4
        rw [if_neg (by omega)]
        exact wp_some (OKX.same h (by omega))
      · rw [n_le (by omega) (by omega)] at c4
        rw [if_pos (show j < (beh a k).1.2.1.length by omega)]
        refine wp_t (gin_N (by omega) (by omega)) ?_
        rw [z3.2.2 j (by omega)]
        exact wp_some (OKX.same h (by omega))
  · rw [i_le, e27] at c2
    have hs : sp_bag d i a = (-2, a) := by unfold sp_bag; rw [if_neg (by omega)]
    rw [hs]
    exact wp_some (OKX.same h (by omega))
  · have hs : sp_bag d i a = (-2, a) := by unfold sp_bag; rw [if_neg (fun q => g1 q.1)]
    rw [hs]
    exact wp_some (OKX.same h (by omega))
theorem srv_bit {P : Pm} {h : Nat → Int32} {r : Nat} (hr : r < pN P) (hP : okP P) : bt (nI (srvN P h)) r = decide (h r = pW P r) := by
  have := hP.1
  rw [bt_nI (by omega)]
  unfold srvN
  rw [boN_bit]
  simp [hr]
theorem gets_X {v : gV} {a : Ab} {c : Nat} {r : Int32} (h : InvX v a c) (hc : c < 999980) : OKX (f_X7_gets r v) (sp_gets r a) c := by
  obtain ⟨hO, -, -, hQ, -, hD, -⟩ := id h
  have hn := nRi_le hO.1
  have hP := aP_ok hO
  unfold OKX f_X7_gets
  rw [show v.1 6 0 = nI (nRi (aT0 a)) from hQ.1.2.1]
  refine wp_out (nRi (aT0 a)) (by omega) (fun g1 => ?_) (fun g1 => ?_)
  · have hs : sp_gets r a = (getv a (r.toNatClampNeg), a) := by unfold sp_gets; rw [if_pos g1]
    rw [hs]
    obtain ⟨j, hj, -, rfl, ej⟩ := gin_cl g1
    rw [ej]
    refine wp_bs1 (wp_cnt (Z := fun o : gV ⊕ (Int32 × gV) => match o with | .inl v' => v' = v ∧ lst (getp a j) 10 0 = 10 | .inr r => r.2 = v ∧ lst (getp a j) 10 0 < 10 ∧ r.1 = nI (lst (getp a j) 10 0)) (fun i v' => v' = v ∧ lst (getp a j) 10 0 = lst (getp a j) (10 - i) i) 10 0 v (by omega) (Nat.zero_le _) ⟨rfl, rfl⟩ ?_ ?_) ?_ ?_
    · rintro i v' hi ⟨rfl, hx⟩
      obtain ⟨hy1, hy2⟩ := lst_at hi hx
      show wp (f_X7_gets_B19 (nI j) (nI i) v') _
      unfold f_X7_gets_B19
      refine wp_f (by rw [l_10, n_le (by omega) (by omega)]; omega) (wp_bi (wp_of (servedOn_ok hP hD hi)) ?_)
      rintro r3 v2 ⟨rfl, rfl⟩
      have hb : bt (nI (srvN (aP a) (his (aP a) (aX a) (i + 1)).1.1)) j = getp a j i := srv_bit (P := aP a) hj hP
      refine wp_if (fun c1 => ?_) (fun c1 => ?_)
      · rw [bt_i (by omega) hb] at c1
        have := hy1 c1
        exact wp_some ⟨rfl, by omega, by rw [this]⟩
      · rw [bt_i (by omega) hb] at c1
        exact wp_eq rfl ⟨nI_1 i, rfl, hy2 (by cases hq : getp a j i with | true => exact absurd hq c1 | false => rfl)⟩
    · rintro v' ⟨rfl, hx⟩
      show wp (f_X7_gets_B19 (nI j) (nI 10) v') _
      unfold f_X7_gets_B19
      exact wp_t (by rw [l_10, n_le (by omega) (by omega)]; exact Nat.le_refl _) (wp_some ⟨rfl, lst_end hx⟩)
    · rintro v' ⟨rfl, hx⟩
      unfold getv
      rw [if_neg (by omega)]
      exact wp_some (OKX.same h (by omega))
    · rintro ⟨z, v'⟩ ⟨e1, e2, e3⟩
      have e1 : v' = v := e1
      have e3 : z = nI (lst (getp a j) 10 0) := e3
      subst e1
      unfold getv
      rw [if_pos e2, e3]
      exact wp_some (OKX.same h (by omega))
  · have hs : sp_gets r a = (-2, a) := by unfold sp_gets; rw [if_neg g1]
    rw [hs]
    exact wp_some (OKX.same h (by omega))
theorem first_X {v : gV} {a : Ab} {c : Nat} {w : Int32} (h : InvX v a c) (hc : c < 999980) : OKX (f_X7_first w v) (sp_first w a) c := by
  obtain ⟨L, -, -, -, -, ⟨-, -, z1, z2, z3⟩, -⟩ := h.2.2.2.2.2.1
  have hb : beh a 9 = his (aP a) (aX a) 10 := rfl
  unfold OKX f_X7_first sp_first
  rw [z1, z2, z3, hb]
  refine wp_if (fun c1 => ?_) (fun c1 => wp_if (fun c2 => ?_) (fun c2 => wp_if (fun c3 => ?_) (fun c3 => ?_)))
  · rw [if_pos c1]; exact wp_some (OKX.same h (by omega))
  · rw [if_neg c1, if_pos c2]; exact wp_some (OKX.same h (by omega))
  · rw [if_neg c1, if_neg c2, if_pos c3]; exact wp_some (OKX.same h (by omega))
  · rw [if_neg c1, if_neg c2, if_neg c3]; exact wp_some (OKX.same h (by omega))
theorem still_X {v : gV} {a : Ab} {c : Nat} (h : InvX v a c) (hc : c < 999980) : OKX (f_X7_still v) (sp_still a) c := by
  obtain ⟨L, -, -, -, -, -, z1⟩ := h.2.2.2.2.2.1
  unfold OKX f_X7_still sp_still
  rw [z1]
  exact wp_some (OKX.same h (by omega))
theorem served_X {v : gV} {a : Ab} {c : Nat} {d : Int32} (h : InvX v a c) (hc : c < 999980) : OKX (f_X7_served d v) (sp_served d a) c := by
  obtain ⟨hO, -, -, hQ, -, hD, -⟩ := id h
  unfold OKX f_X7_served
  refine wp_out 10 (by omega) (fun g1 => ?_) (fun g1 => ?_)
  · have hs : sp_served d a = (nI (srvN (aP a) (beh a (d.toNatClampNeg)).1.1), a) := by unfold sp_served; rw [if_pos g1]
    rw [hs]
    obtain ⟨i, hi, -, rfl, ei⟩ := gin_cl g1
    rw [ei]
    refine wp_bi (wp_of (servedOn_ok (aP_ok hO) hD hi)) ?_
    rintro q v1 ⟨rfl, rfl⟩
    exact wp_some (OKX.same h (by omega))
  · have hs : sp_served d a = (-2, a) := by unfold sp_served; rw [if_neg g1]
    rw [hs]
    exact wp_some (OKX.same h (by omega))
theorem count_X {v : gV} {a : Ab} {c : Nat} {w : Int32} (h : InvX v a c) (hc : c < 999980) : OKX (f_X7_count w v) (sp_count w a) c := by
  obtain ⟨hO, h2, h4, hQ, -, hD, hN, hH, hL⟩ := id h
  obtain ⟨L, -, -, -, -, ⟨-, z1, -⟩, -⟩ := id hD
  unfold OKX f_X7_count sp_count
  rw [show v.1 6 0 = nI (nRi (aT0 a)) from hQ.1.2.1, show v.1 13 1 = nI (bag0 (aT1 a)).length from hQ.2.2.2.2.1.1, z1, show v.1 6 10 = aC a from hQ.2.2.1, hN.1, hL]
  refine wp_if (fun c0 => ?_) (fun c0 => wp_if (fun c1 => ?_) (fun c1 => wp_if (fun c2 => ?_) (fun c2 => wp_if (fun c3 => ?_) (fun c3 => wp_if (fun c4 => ?_) (fun c4 => wp_if (fun c5 => ?_) (fun c5 => wp_if (fun c6 => ?_) (fun c6 => wp_if (fun c7 => ?_) (fun c7 => wp_if (fun c8 => ?_) (fun c8 => ?_)))))))))
  · rw [if_pos c0]; exact wp_some (OKX.same h (by omega))
  · rw [if_neg c0, if_pos c1]; exact wp_some (OKX.same h (by omega))
  · rw [if_neg c0, if_neg c1, if_pos c2]
    refine wp_gaT (k := 0) rfl (by omega) ?_
    rw [show v.1 (2 + 2 * 0) 1 = nI (aT0 a).length from h2.1]
    exact wp_some (OKX.same h (by omega))
  · rw [if_neg c0, if_neg c1, if_neg c2, if_pos c3]
    refine wp_gaT (k := 1) rfl (by omega) ?_
    rw [show v.1 (2 + 2 * 1) 1 = nI (aT1 a).length from h4.1]
    exact wp_some (OKX.same h (by omega))
  · rw [if_neg c0, if_neg c1, if_neg c2, if_neg c3, if_pos c4]; exact wp_some (OKX.same h (by omega))
  · rw [if_neg c0, if_neg c1, if_neg c2, if_neg c3, if_neg c4, if_pos c5]
    refine wp_bi (wp_of (servedAtLast_ok (aP_ok hO) hD)) ?_
    rintro q v1 ⟨rfl, rfl⟩
    exact wp_some (OKX.same h (by omega))
  · rw [if_neg c0, if_neg c1, if_neg c2, if_neg c3, if_neg c4, if_neg c5, if_pos c6]; exact wp_some (OKX.same h (by omega))
  · rw [if_neg c0, if_neg c1, if_neg c2, if_neg c3, if_neg c4, if_neg c5, if_neg c6, if_pos c7]; exact wp_some (OKX.same h (by omega))
  · rw [if_neg c0, if_neg c1, if_neg c2, if_neg c3, if_neg c4, if_neg c5, if_neg c6, if_neg c7, if_pos c8]; exact wp_some (OKX.same h (by omega))
  · rw [if_neg c0, if_neg c1, if_neg c2, if_neg c3, if_neg c4, if_neg c5, if_neg c6, if_neg c7, if_neg c8]; exact wp_some (OKX.same h (by omega))
/-! seen -/
def sees (l : List (Nat × Nat × Nat)) (a : Ab) : Ab := (a.1, a.2.1, a.2.2.1, a.2.2.2.1, a.2.2.2.2.1, a.2.2.2.2.2.1, l, a.2.2.2.2.2.2.2)
def okT (d r y : Int32) : Bool := gin d 10 && gin r 8 && gin y 9
def sp_seen (d r y : Int32) (a : Ab) : Int32 × Ab := if okT d r y = true then (if (aS a).length = 8 then (-4, a) else (nI ((aS a).length + 1), sees (aS a ++ [(d.toNatClampNeg, r.toNatClampNeg, y.toNatClampNeg)]) a)) else (-2, a)
def sp_forget (a : Ab) : Int32 × Ab := (nI (aS a).length, sees [] a)
theorem mayBe_ok {v : gV} {d r y : Int32} : f_X3_mayBe d r y v = some (b2 (okT d r y), v) := by
  apply wp_is
  unfold f_X3_mayBe okT
  refine wp_out 10 (by omega) (fun g1 => wp_out 8 (by omega) (fun g2 => wp_out 9 (by omega) (fun g3 => ?_) (fun g3 => ?_)) (fun g2 => ?_)) (fun g1 => ?_)
  · exact b1 (Or.inr rfl) (by rw [g1, g2, g3]; rfl)
  · exact b1 (Or.inl rfl) (by rw [g1, g2]; cases hq : gin y 9 with | true => exact absurd hq g3 | false => rfl)
  · exact b1 (Or.inl rfl) (by rw [g1]; cases hq : gin r 8 with | true => exact absurd hq g2 | false => rfl)
  · exact b1 (Or.inl rfl) (by cases hq : gin d 10 with | true => exact absurd hq g1 | false => rfl)
/-- behind the head of the state: seen, sheets, finding -/
abbrev tl9 (a : Ab) (tl : List (Nat × Nat × Nat) × (Nat → Int32) × (Nat → Nat) × (Nat → Nat → Int32) × Int32) : Ab := (a.1, a.2.1, a.2.2.1, a.2.2.2.1, a.2.2.2.2.1, a.2.2.2.2.2.1, tl)
theorem InvX.new {v v' : gV} {a : Ab} {c : Nat} (tl : List (Nat × Nat × Nat) × (Nat → Int32) × (Nat → Nat) × (Nat → Nat → Int32) × Int32) (h : InvX v a c) (hq : ∀ q, 0 < q → q < 95 → v'.1 q = v.1 q) (h2 : v'.2 = v.2) (hO : okAb (tl9 a tl)) (hN : SNi v' tl.1) (hH : SHi v' (tl9 a tl)) (hL : v'.1 0 9 = tl.2.2.2.2) : InvX v' (tl9 a tl) c := by
  obtain ⟨-, b2, b3, b4, b5, b6, -⟩ := h
  refine ⟨hO, b2.kept (hq _ (by omega) (by omega)) (hq _ (by omega) (by omega)), b3.kept (hq _ (by omega) (by omega)) (hq _ (by omega) (by omega)), ?_, fun r hr => ?_, ?_, hN, hH, hL⟩
  · obtain ⟨q1, q2, q3, q4, q5, q6, q7, q8⟩ := b4
    refine ⟨?_, by rw [hq 6 (by omega) (by omega)]; exact q2, by rw [hq 6 (by omega) (by omega)]; exact q3, fun r hr => by rw [hq 7 (by omega) (by omega)]; exact q4 r hr, q5.kept (by rw [hq _ (by omega) (by omega)]) (fun k _ => by rw [hq _ (by omega) (by omega)]), q6, q7.kept (hq _ (by omega) (by omega)) (hq _ (by omega) (by omega)) h2, q8⟩
    unfold TD at q1 ⊢
    rw [hq 6 (by omega) (by omega), hq 10 (by omega) (by omega), hq 15 (by omega) (by omega), hq 11 (by omega) (by omega), hq 12 (by omega) (by omega)]
    exact q1
  · rw [hq 8 (by omega) (by omega), hq 9 (by omega) (by omega)]; exact b5 r hr
  · obtain ⟨L, z1, z2, z3, z4, z5, z6⟩ := b6
    exact ⟨L, z1, by rw [hq _ (by omega) (by omega)]; exact z2, fun d hd => (z3 d hd).kept (hq _ (by omega) (by omega)) (by rw [hq _ (by omega) (by omega)]) (by rw [hq _ (by omega) (by omega)]) (hq _ (by omega) (by omega)) (hq _ (by omega) (by omega)), z4, z5.kept (hq _ (by omega) (by omega)) (hq _ (by omega) (by omega)) (hq _ (by omega) (by omega)) (fun j _ => by rw [hq _ (by omega) (by omega)]), by rw [hq _ (by omega) (by omega)]; exact z6⟩
theorem InvX.sees {v v' : gV} {a : Ab} {c : Nat} {l : List (Nat × Nat × Nat)} (h : InvX v a c) (hq : ∀ q, (q < 95 ∨ 98 < q) → v'.1 q = v.1 q) (h2 : v'.2 = v.2) (hl : l.length ≤ 8) (hz : ∀ z ∈ l, z.1 < 10 ∧ z.2.1 < 8 ∧ z.2.2 < 9) (hS : SNi v' l) : InvX v' (sees l a) c := by
  obtain ⟨o1, o2, o3, o4, o5, o6, o7, o8, o9⟩ := id h.1
  refine InvX.new (l, a.2.2.2.2.2.2.2) h (fun q _ h9 => hq q (by omega)) h2 ⟨o1, o2, o3, o4, o5, o6, hl, hz, o9⟩ hS (fun s hs => ?_) (by rw [hq 0 (by omega)]; exact h.2.2.2.2.2.2.2.2)
  rw [hq _ (by omega), hq _ (by omega)]
  exact h.2.2.2.2.2.2.2.1 s hs
theorem sn_full {v : gV} {l : List (Nat × Nat × Nat)} (h : SNi v l) (hl : l.length ≤ 8) : f_X3_isFull v = some (b2 (decide (l.length = 8)), v) := by
  apply wp_is
  unfold f_X3_isFull
  rw [h.1]
  refine wp_if (fun c => ?_) (fun c => ?_)
  · rw [l_8, n_lt (by omega) (by omega)] at c
    exact b1 (Or.inl rfl) (by rw [decide_eq_false (by omega)]; rfl)
  · rw [l_8, n_lt (by omega) (by omega)] at c
    exact b1 (Or.inr rfl) (by rw [decide_eq_true (by omega)]; rfl)
theorem gd3 {l : List (Nat × Nat × Nat)} {z : Nat × Nat × Nat} {i : Nat} (h : i < l.length + 1) : (l ++ [z]).getD i (0, 0, 0) = if i = l.length then z else l.getD i (0, 0, 0) := by
  rw [List.getD_eq_getElem?_getD, List.getD_eq_getElem?_getD]
  by_cases e : i = l.length
  · subst e
    rw [if_pos rfl, List.getElem?_append_right (Nat.le_refl _)]
    simp
  · rw [if_neg e, List.getElem?_append_left (by omega)]
theorem sn_append {v : gV} {l : List (Nat × Nat × Nat)} {d r y : Nat} (h : SNi v l) (hl : l.length < 8) : wp (f_X3_append (nI d) (nI r) (nI y) v) (fun v' => SNi v' (l ++ [(d, r, y)]) ∧ (∀ q, (q < 95 ∨ 98 < q) → v'.1 q = v.1 q) ∧ v'.2 = v.2) := by
  unfold f_X3_append
  refine wp_bi (wp_of (sn_full h (by omega))) ?_
  rintro r3 v1 ⟨rfl, rfl⟩
  refine wp_t (by rw [b2_0, decide_eq_false (by omega)]) ?_
  rw [h.1]
  refine wp_t (gin_N hl (by omega)) (wp_bd ?_)
  rw [sI_n (q := 96) (a := 95) (by omega), h.1]
  refine wp_t (gin_N hl (by omega)) (wp_bd ?_)
  rw [sI_n (q := 97) (a := 95) (by omega), sI_n (q := 96) (a := 95) (by omega), h.1]
  refine wp_t (gin_N hl (by omega)) (wp_bd (wp_bd (wp_some ⟨⟨?_, fun i hi => ⟨?_, ?_, ?_⟩⟩, fun q hq => ?_, rfl⟩)))
  · rw [sI_s, sI_n (q := 98) (a := 95) (by omega), sI_n (q := 97) (a := 95) (by omega), sI_n (q := 96) (a := 95) (by omega), h.1, List.length_append]; exact nI_1 _
  · rw [List.length_append] at hi
    rw [gd3 hi, sI_n (by omega), sI_n (by omega), sI_n (by omega), n_cl (by omega)]
    by_cases e : i = l.length
    · subst e; rw [sI_s, if_pos rfl]
    · rw [sI_o e, if_neg e]; exact (h.2 i (by simp at hi; omega)).1
  · rw [List.length_append] at hi
    rw [gd3 hi, sI_n (by omega), sI_n (by omega), n_cl (by omega)]
    by_cases e : i = l.length
    · subst e; rw [sI_s, if_pos rfl]
    · rw [sI_o e, if_neg e, sI_n (by omega)]; exact (h.2 i (by simp at hi; omega)).2.1
  · rw [List.length_append] at hi
    rw [gd3 hi, sI_n (by omega), n_cl (by omega)]
    by_cases e : i = l.length
    · subst e; rw [sI_s, if_pos rfl]
    · rw [sI_o e, if_neg e, sI_n (by omega), sI_n (by omega)]; exact (h.2 i (by simp at hi; omega)).2.2
  · rw [sI_n (by omega), sI_n (by omega), sI_n (by omega), sI_n (by omega)]
theorem sees_ok {a : Ab} (h : okAb a) {d r y : Nat} (hl : (aS a).length < 8) (hd : d < 10) (hr : r < 8) (hy : y < 9) : (aS a ++ [(d, r, y)]).length ≤ 8 ∧ ∀ z ∈ aS a ++ [(d, r, y)], z.1 < 10 ∧ z.2.1 < 8 ∧ z.2.2 < 9 := by
  refine ⟨by simp; omega, fun z hz => ?_⟩
  rcases List.mem_append.mp hz with q | q
  · exact h.2.2.2.2.2.2.2.1 z q
  · rw [List.mem_singleton.mp q]; exact ⟨hd, hr, hy⟩
theorem okT_of {d r y : Int32} (h : okT d r y = true) : ∃ d' r' y', d' < 10 ∧ r' < 8 ∧ y' < 9 ∧ d = nI d' ∧ r = nI r' ∧ y = nI y' ∧ d.toNatClampNeg = d' ∧ r.toNatClampNeg = r' ∧ y.toNatClampNeg = y' := by
  unfold okT at h
  rw [Bool.and_eq_true, Bool.and_eq_true] at h
  obtain ⟨d', h1, -, h2, h3⟩ := gin_cl h.1.1
  obtain ⟨r', h4, -, h5, h6⟩ := gin_cl h.1.2
  obtain ⟨y', h7, -, h8, h9⟩ := gin_cl h.2
  exact ⟨d', r', y', h1, h4, h7, h2, h5, h8, h3, h6, h9⟩
theorem seen_X {v : gV} {a : Ab} {c : Nat} {d r y : Int32} (h : InvX v a c) (hc : c < 999980) : OKX (f_X7_seen d r y v) (sp_seen d r y a) c := by
  have hO := h.1
  have hN := h.2.2.2.2.2.2.1
  have hl := hO.2.2.2.2.2.2.1
  unfold OKX f_X7_seen
  refine wp_bi (wp_of mayBe_ok) ?_
  rintro r3 v1 ⟨rfl, rfl⟩
  refine wp_if (fun c1 => ?_) (fun c1 => ?_)
  · rw [b2_0] at c1
    have hs : sp_seen d r y a = (-2, a) := by unfold sp_seen; rw [if_neg (by rw [c1]; exact Bool.false_ne_true)]
    rw [hs]
    exact wp_some (OKX.same h (by omega))
  · have c1 : okT d r y = true := by
      rw [b2_0] at c1
      cases hq : okT d r y with
      | true => rfl
      | false => exact absurd hq c1
    have hs : sp_seen d r y a = (if (aS a).length = 8 then (-4, a) else (nI ((aS a).length + 1), sees (aS a ++ [(d.toNatClampNeg, r.toNatClampNeg, y.toNatClampNeg)]) a)) := by unfold sp_seen; rw [if_pos c1]
    rw [hs]
    refine wp_bi (wp_of (sn_full hN hl)) ?_
    rintro r6 v4 ⟨rfl, rfl⟩
    by_cases hf : (aS a).length = 8
    · rw [if_pos hf]
      refine wp_f (by rw [b2_0, decide_eq_true hf]; simp) (wp_some (OKX.same h (by omega)))
    · rw [if_neg hf]
      obtain ⟨d', r', y', q1, q2, q3, rfl, rfl, rfl, e1, e2, e3⟩ := okT_of c1
      rw [e1, e2, e3]
      refine wp_t (by rw [b2_0, decide_eq_false hf]) (wp_bv (sn_append hN (by omega)) ?_)
      rintro v7 ⟨z1, z2, z3⟩
      obtain ⟨k1, k2⟩ := sees_ok hO (d := d') (r := r') (y := y') (by omega) q1 q2 q3
      refine wp_some ⟨?_, (h.sees z2 z3 k1 k2 z1).mono (by omega) (by omega)⟩
      have := z1.1
      rw [List.length_append] at this
      exact this
theorem forget_X {v : gV} {a : Ab} {c : Nat} (h : InvX v a c) (hc : c < 999980) : OKX (f_X7_forget v) (sp_forget a) c := by
  have hN := h.2.2.2.2.2.2.1
  unfold OKX f_X7_forget sp_forget
  refine wp_bd (wp_bd (wp_some ⟨hN.1, (h.sees (l := []) (fun q hq => sI_n (by omega)) rfl (by simp) (fun z hz => by simp at hz) ⟨sI_s, fun i hi => by simp at hi⟩).mono (by omega) (by omega)⟩))
