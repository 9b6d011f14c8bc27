/-! THE REFERENCE: rings -/
def wnt (l : List Int32) (i j : Nat) : Bool := decide (rWt l i = rSt l j ∧ rWt l i ≠ rSt l i)
theorem wantsOf_M {u : gV} {l : List Int32} {i j : Nat} (h : RR u l) (hn : nRi l ≤ 8) (hi : i < nRi l) (hj : j < nRi l) : f_X8_wantsOf (nI i) (nI j) u = some (b2 (wnt l i j), u) := by
  apply wp_is
  unfold f_X8_wantsOf wnt
  rw [l_4, l_3, n_mul, n_mul, n_add, n_cl (a := 4 * i + 3) (by omega), n_cl (a := 4 * i) (by omega), n_cl (a := 4 * j) (by omega), (h.2 i hi).2.2.2, (h.2 i hi).1, (h.2 j hj).1]
  have g1 := gin_N (i := 4 * i + 3) (n := 32) (by omega) (by omega)
  have g2 := gin_N (i := 4 * i) (n := 32) (by omega) (by omega)
  have g3 := gin_N (i := 4 * j) (n := 32) (by omega) (by omega)
  refine wp_t g1 (wp_t g3 (wp_if (fun c => wp_t g1 (wp_t g2 (wp_if (fun c2 => ?_) (fun c2 => ?_)))) (fun c => ?_)))
  · exact b1 (Or.inl rfl) (by rw [decide_eq_false (fun q => q.2 c2)]; rfl)
  · exact b1 (Or.inr rfl) (by rw [decide_eq_true ⟨c, c2⟩]; rfl)
  · exact b1 (Or.inl rfl) (by rw [decide_eq_false (fun q => c q.1)]; rfl)
theorem rg1_w {l : List Int32} {i j k : Nat} : rg1 l i j k = (wnt l i j && wnt l j k && wnt l k i) := by
  unfold rg1 wnt
  rw [← Bool.decide_and, ← Bool.decide_and]
  congr 1
  exact propext ⟨fun ⟨a, b, c, d, e, f⟩ => ⟨⟨⟨a, d⟩, ⟨b, e⟩⟩, ⟨c, f⟩⟩, fun ⟨⟨⟨a, d⟩, ⟨b, e⟩⟩, ⟨c, f⟩⟩ => ⟨a, b, c, d, e, f⟩⟩
theorem isRing_M {u : gV} {l : List Int32} {i j k : Nat} (h : RR u l) (hn : nRi l ≤ 8) (hi : i < nRi l) (hj : j < nRi l) (hk : k < nRi l) : f_X8_isRing (nI i) (nI j) (nI k) u = some (b2 (rg l i j k), u) := by
  apply wp_is
  have e1 : rg l i j k = (rg1 l i j k || rg1 l i k j) := rfl
  have sec : rg1 l i j k = false → wp (f_X8_isRing_J27 (nI i) (nI j) (nI k) u) (fun z => z = (b2 (rg l i j k), u)) := fun q => by
    rw [e1, q, Bool.false_or, rg1_w]
    unfold f_X8_isRing_J27
    refine wp_gt (wantsOf_M h hn hi hk) (fun c => ?_) (fun c => wp_gt (wantsOf_M h hn hk hj) (fun c2 => ?_) (fun c2 => wp_gt (wantsOf_M h hn hj hi) (fun c3 => ?_) (fun c3 => ?_)))
    · exact b1 (Or.inl rfl) (by rw [c]; rfl)
    · exact b1 (Or.inl rfl) (by rw [c, c2]; rfl)
    · exact b1 (Or.inl rfl) (by rw [c, c2, c3]; rfl)
    · exact b1 (Or.inr rfl) (by rw [c, c2, c3]; rfl)
  unfold f_X8_isRing
  refine wp_gt (wantsOf_M h hn hi hj) (fun c => sec (by rw [rg1_w, c]; rfl)) (fun c => wp_gt (wantsOf_M h hn hj hk) (fun c2 => sec (by rw [rg1_w, c, c2]; rfl)) (fun c2 => wp_gt (wantsOf_M h hn hk hi) (fun c3 => sec (by rw [rg1_w, c, c2, c3]; rfl)) (fun c3 => ?_)))
  exact b1 (Or.inr rfl) (by rw [e1, rg1_w, c, c2, c3]; rfl)
theorem ringsNow_M {u : gV} {a : Ab} {w : Int32} (h : RDY u a) : f_X8_ringsNow w u = some (ringv a w, u) := by
  apply wp_is
  have hn := nRi_le h.1.1.1
  have hR := h.2.1
  unfold f_X8_ringsNow ringv
  generalize aT0 a = l at *
  refine wp_bx3 (wp_ct (Z := fun z => z.1 = u ∧ z.2 = (nI (rcN l 512), rcL l 512)) (fun c z => z.1 = u ∧ z.2.1 = nI (rcN l c) ∧ z.2.2.1 = rcL l c ∧ z.2.2.2 = nI c ∧ rcN l c ≤ c ∧ (rcN l c = 0 → rcL l c = -1) ∧ (rcN l c ≠ 0 → rcL l c ≠ -1)) 512 0 _ (by omega) (Nat.zero_le _) ⟨rfl, rfl, rfl, rfl, Nat.le_refl _, fun _ => rfl, fun q => absurd rfl q⟩ ?_ ?_) ?_
  · rintro c ⟨u1, x, y, z⟩ hc ⟨e1, e2, e3, e4, e5, e6, e7⟩
    have e1 : u1 = u := e1
    have e2 : x = nI (rcN l c) := e2
    have e3 : y = rcL l c := e3
    have e4 : z = nI c := e4
    subst e1 e2 e3 e4
    show wp (f_X8_ringsNow_B7 w (nI (rcN l c)) (rcL l c) (nI c) u1) _
    unfold f_X8_ringsNow_B7 f_X8_ringsNow_J85 f_X8_ringsNow_J89
    rw [hR.1, l_64, l_8, n_div (by omega) (by omega) (by omega), n_div (by omega) (by omega) (by omega), n_rem (by omega) (by omega) (by omega), n_rem (by omega) (by omega) (by omega)]
    have no : rc l c = false → SE (fun z : gV × Int32 × Int32 × Int32 => z.1 = u1 ∧ z.2.1 = nI (rcN l (c + 1)) ∧ z.2.2.1 = rcL l (c + 1) ∧ z.2.2.2 = nI (c + 1) ∧ rcN l (c + 1) ≤ c + 1 ∧ (rcN l (c + 1) = 0 → rcL l (c + 1) = -1) ∧ (rcN l (c + 1) ≠ 0 → rcL l (c + 1) ≠ -1)) (fun z : gV × Int32 × Int32 => z.1 = u1 ∧ z.2 = (nI (rcN l 512), rcL l 512)) (.inl (u1, nI (rcN l c), rcL l c, nI c + 1)) := fun q => by
      have sk := rc_skip (l := l) (c := c) (c' := c + 1) (by omega) (fun k' h1 h2 => by rw [show k' = c by omega]; exact q)
      show u1 = u1 ∧ nI (rcN l c) = nI (rcN l (c + 1)) ∧ rcL l c = rcL l (c + 1) ∧ nI c + 1 = nI (c + 1) ∧ _
      rw [sk.1, sk.2]
      exact ⟨rfl, rfl, rfl, nI_1 c, by omega, e6, e7⟩
    refine wp_f (by rw [l_512, n_le (by omega) (by omega)]; omega) (wp_bd (wp_bd (wp_bd (wp_if (fun c1 => ?_) (fun c1 => wp_if (fun c2 => ?_) (fun c2 => wp_if (fun c3 => ?_) (fun c3 => ?_)))))))
    · rw [n_le (by omega) (by omega)] at c1
      exact wp_some (no (by unfold rc; rw [decide_eq_false (by omega)]; rfl))
    · rw [n_le (by omega) (by omega)] at c2
      exact wp_some (no (by unfold rc; rw [decide_eq_false (by omega)]; rfl))
    · rw [n_le (by omega) (by omega)] at c3
      exact wp_some (no (by unfold rc; rw [decide_eq_false (by omega)]; rfl))
    · rw [n_le (by omega) (by omega)] at c1 c2 c3
      have hrc : rc l c = rg l (c / 64) (c / 8 % 8) (c % 8) := by unfold rc; rw [decide_eq_true (by omega)]; rfl
      refine wp_gt (isRing_M hR hn (by omega) (by omega) (by omega)) (fun c4 => ?_) (fun c4 => ?_)
      · exact wp_some (no (by rw [hrc]; exact c4))
      · obtain ⟨q1, q2⟩ := rc_step (l := l) (c := c) (by omega) (by rw [hrc]; exact c4)
        refine wp_if (fun c5 => ?_) (fun c5 => ?_)
        · rw [l_0, n_eq (by omega) (by omega)] at c5
          rw [if_pos (e6 c5)] at q2
          refine wp_some ⟨rfl, by rw [q1]; exact nI_1 _, q2.symm, nI_1 c, by omega, fun z => by omega, fun _ => by rw [q2]; exact n_m1 (by omega)⟩
        · rw [l_0, n_eq (by omega) (by omega)] at c5
          rw [if_neg (e7 c5)] at q2
          refine wp_some ⟨rfl, by rw [q1]; exact nI_1 _, q2.symm, nI_1 c, by omega, fun z => by omega, fun _ => by rw [q2]; exact e7 c5⟩
  · rintro ⟨u1, x, y, z⟩ ⟨e1, e2, e3, e4, -⟩
    have e1 : u1 = u := e1
    have e4 : z = nI 512 := e4
    subst e1 e4
    show wp (f_X8_ringsNow_B7 w x y (nI 512) u1) _
    unfold f_X8_ringsNow_B7
    exact wp_t (by rw [l_512, n_le (by omega) (by omega)]; exact Nat.le_refl _) (wp_some ⟨rfl, Prod.ext e2 e3⟩)
  · rintro u1 x y ⟨e1, e2⟩
    have e1 : u1 = u := e1
    have e2 : (x, y) = (nI (rcN l 512), rcL l 512) := e2
    subst e1
    obtain ⟨rfl, rfl⟩ := Prod.mk.inj e2
    refine wp_if (fun c => ?_) (fun c => ?_)
    · rw [if_pos c]; exact wp_some rfl
    · rw [if_neg c]; exact wp_some rfl
