/-! THE REFERENCE: days -/
def HM (v : gV) (P : Pm) (d : Nat) (σ : St) : Prop := (∀ r, r < pN P → v.1 14 (8 * d + r) = σ.1 r) ∧ (∀ r, r < pN P → v.1 15 (8 * d + r) = b2 (σ.2.2 r)) ∧ v.1 16 d = nI σ.2.1.length ∧ σ.2.1.length ≤ 29 ∧ ∀ i, i < σ.2.1.length → v.1 17 (29 * d + i) = σ.2.1.getD i 0
def FH (d : Nat) (v v' : gV) : Prop := (∀ q, (q < 14 ∨ 17 < q) → v'.1 q = v.1 q) ∧ (∀ j, (j < 8 * d ∨ 8 * d + 8 ≤ j) → v'.1 14 j = v.1 14 j ∧ v'.1 15 j = v.1 15 j) ∧ (∀ j, j ≠ d → v'.1 16 j = v.1 16 j) ∧ (∀ j, (j < 29 * d ∨ 29 * d + 29 ≤ j) → v'.1 17 j = v.1 17 j) ∧ v'.2 = v.2
theorem HM.kept {v v' : gV} {P : Pm} {d e : Nat} {σ : St} (hP : pN P ≤ 8) (h : HM v P e σ) (hF : FH d v v') (hed : e ≠ d) : HM v' P e σ := by
  obtain ⟨h1, h2, h3, h4, h5⟩ := h
  refine ⟨fun r hr => ?_, fun r hr => ?_, ?_, h4, fun i hi => ?_⟩
  · rw [(hF.2.1 _ (by omega)).1]; exact h1 r hr
  · rw [(hF.2.1 _ (by omega)).2]; exact h2 r hr
  · rw [hF.2.2.1 _ hed]; exact h3
  · rw [hF.2.2.2.1 _ (by omega)]; exact h5 i hi
theorem HM.same {v v' : gV} {P : Pm} {e : Nat} {σ : St} (h : HM v P e σ) (h14 : v'.1 14 = v.1 14) (h15 : v'.1 15 = v.1 15) (h16 : v'.1 16 = v.1 16) (h17 : v'.1 17 = v.1 17) : HM v' P e σ := by
  unfold HM
  rw [h14, h15, h16, h17]
  exact h
theorem keeps_ok {v : gV} {P : Pm} {σ : St} {d : Nat} (hT : TM v P) (hS : MS v P σ) (hd : d < 10) : wp (f_X8_keeps (nI d) v) (fun v' => HM v' P d σ ∧ FH d v v') := by
  obtain ⟨hP, h07, -⟩ := hT
  have hn := hP.1
  obtain ⟨hl1, hl2, hl3⟩ := hS.2.2
  unfold f_X8_keeps
  refine wp_bx1 (wp_cnt (Z := fun v' => (∀ r, r < pN P → v'.1 14 (8 * d + r) = σ.1 r ∧ v'.1 15 (8 * d + r) = b2 (σ.2.2 r)) ∧ (∀ q, q ≠ 14 → q ≠ 15 → v'.1 q = v.1 q) ∧ (∀ j, (j < 8 * d ∨ 8 * d + 8 ≤ j) → v'.1 14 j = v.1 14 j ∧ v'.1 15 j = v.1 15 j) ∧ v'.2 = v.2) (fun i v' => (∀ r, r < i → v'.1 14 (8 * d + r) = σ.1 r ∧ v'.1 15 (8 * d + r) = b2 (σ.2.2 r)) ∧ (∀ q, q ≠ 14 → q ≠ 15 → v'.1 q = v.1 q) ∧ (∀ j, (j < 8 * d ∨ 8 * d + 8 ≤ j) → v'.1 14 j = v.1 14 j ∧ v'.1 15 j = v.1 15 j) ∧ v'.2 = v.2) (pN P) 0 v (by omega) (Nat.zero_le _) ⟨fun r hr => absurd hr (Nat.not_lt_zero r), fun _ _ _ => rfl, fun _ _ => ⟨rfl, rfl⟩, rfl⟩ ?_ ?_) ?_
  · rintro i v1 hi ⟨i1, i2, i3, i4⟩
    show wp (f_X8_keeps_B2 (nI d) (nI i) v1) _
    unfold f_X8_keeps_B2
    rw [i2 0 (by omega) (by omega), h07, l_8, n_mul, n_add, n_cl (a := i) (by omega), n_cl (a := 8 * d + i) (by omega), i2 11 (by omega) (by omega), hS.1 i hi]
    have g8 := gin_N (i := i) (n := 8) (by omega) (by omega)
    have g80 := gin_N (i := 8 * d + i) (n := 80) (by omega) (by omega)
    refine wp_f (by rw [n_le (by omega) (by omega)]; omega) (wp_t g8 (wp_t g80 (wp_bd (wp_t g8 (wp_t g80 (wp_bd (wp_some ⟨nI_1 i, fun r hr => ?_, fun q h1 h2 => ?_, fun j hj => ?_, i4⟩)))))))
    · show (sI (sI v1 14 (8 * d + i) _) 15 (8 * d + i) _).1 14 (8 * d + r) = _ ∧ (sI (sI v1 14 (8 * d + i) _) 15 (8 * d + i) _).1 15 (8 * d + r) = _
      by_cases e : r = i
      · subst e
        rw [sI_n (by omega), sI_s, sI_s, sI_n (by omega), i2 12 (by omega) (by omega)]
        exact ⟨rfl, hS.2.1 r hi⟩
      · rw [sI_n (by omega), sI_o (by omega), sI_o (by omega), sI_n (by omega)]
        exact i1 r (by omega)
    · show (sI (sI v1 14 (8 * d + i) _) 15 (8 * d + i) _).1 q = _
      rw [sI_n h2, sI_n h1]; exact i2 q h1 h2
    · show (sI (sI v1 14 (8 * d + i) _) 15 (8 * d + i) _).1 14 j = _ ∧ (sI (sI v1 14 (8 * d + i) _) 15 (8 * d + i) _).1 15 j = _
      rw [sI_n (by omega), sI_o (by omega), sI_o (by omega), sI_n (by omega)]
      exact i3 j hj
  · rintro v1 ⟨i1, i2, i3, i4⟩
    show wp (f_X8_keeps_B2 (nI d) (nI (pN P)) v1) _
    unfold f_X8_keeps_B2
    rw [i2 0 (by omega) (by omega), h07]
    exact wp_t (by rw [n_le (by omega) (by omega)]; exact Nat.le_refl _) (wp_some ⟨i1, i2, i3, i4⟩)
  · rintro v1 ⟨i1, i2, i3, i4⟩
    refine wp_t (gin_N hd (by omega)) (wp_bd ?_)
    rw [n_cl (a := d) (by omega), i2 0 (by omega) (by omega), hl1]
    generalize hw : sI v1 16 d (nI σ.2.1.length) = w
    have w16 : w.1 16 d = nI σ.2.1.length := by rw [← hw, sI_s]
    have w16o : ∀ j, j ≠ d → w.1 16 j = v.1 16 j := fun j hj => by rw [← hw, sI_o hj, i2 16 (by omega) (by omega)]
    have wo : ∀ q, q ≠ 16 → w.1 q = v1.1 q := fun q hq => by rw [← hw, sI_n hq]
    have w2 : w.2 = v.2 := by rw [← hw]; exact i4
    refine wp_bx1 (wp_cnt (Z := fun v' => (∀ r, r < σ.2.1.length → v'.1 17 (29 * d + r) = σ.2.1.getD r 0) ∧ (∀ q, q ≠ 17 → v'.1 q = w.1 q) ∧ (∀ j, (j < 29 * d ∨ 29 * d + 29 ≤ j) → v'.1 17 j = w.1 17 j) ∧ v'.2 = v.2) (fun i v' => (∀ r, r < i → v'.1 17 (29 * d + r) = σ.2.1.getD r 0) ∧ (∀ q, q ≠ 17 → v'.1 q = w.1 q) ∧ (∀ j, (j < 29 * d ∨ 29 * d + 29 ≤ j) → v'.1 17 j = w.1 17 j) ∧ v'.2 = v.2) σ.2.1.length 0 w (by omega) (Nat.zero_le _) ⟨fun r hr => absurd hr (Nat.not_lt_zero r), fun _ _ => rfl, fun _ _ => rfl, w2⟩ ?_ ?_) ?_
    · rintro i v2 hi ⟨j1, j2, j3, j4⟩
      show wp (f_X8_keeps_B62 (nI d) (nI i) v2) _
      unfold f_X8_keeps_B62
      rw [j2 0 (by omega), wo 0 (by omega), i2 0 (by omega) (by omega), hl1, l_29, n_mul, n_add, n_cl (a := i) (by omega), n_cl (a := 29 * d + i) (by omega), j2 13 (by omega), wo 13 (by omega), i2 13 (by omega) (by omega), hl3 i hi]
      refine wp_f (by rw [n_le (by omega) (by omega)]; omega) (wp_t (gin_N (by omega) (by omega)) (wp_t (gin_N (by omega) (by omega)) (wp_bd (wp_some ⟨nI_1 i, fun r hr => ?_, fun q hq => ?_, fun j hj => ?_, j4⟩))))
      · show (sI v2 17 (29 * d + i) _).1 17 (29 * d + r) = _
        by_cases e : r = i
        · subst e; rw [sI_s]
        · rw [sI_o (by omega)]; exact j1 r (by omega)
      · show (sI v2 17 (29 * d + i) _).1 q = _
        rw [sI_n hq]; exact j2 q hq
      · show (sI v2 17 (29 * d + i) _).1 17 j = _
        rw [sI_o (by omega)]; exact j3 j hj
    · rintro v2 ⟨j1, j2, j3, j4⟩
      show wp (f_X8_keeps_B62 (nI d) (nI σ.2.1.length) v2) _
      unfold f_X8_keeps_B62
      rw [j2 0 (by omega), wo 0 (by omega), i2 0 (by omega) (by omega), hl1]
      exact wp_t (by rw [n_le (by omega) (by omega)]; exact Nat.le_refl _) (wp_some ⟨j1, j2, j3, j4⟩)
    · rintro v2 ⟨j1, j2, j3, j4⟩
      refine wp_some ⟨⟨fun r hr => ?_, fun r hr => ?_, ?_, hl2, j1⟩, fun q hq => ?_, fun j hj => ?_, fun j hj => ?_, fun j hj => ?_, j4⟩
      · rw [j2 14 (by omega), wo 14 (by omega)]; exact (i1 r hr).1
      · rw [j2 15 (by omega), wo 15 (by omega)]; exact (i1 r hr).2
      · rw [j2 16 (by omega)]; exact w16
      · rw [j2 q (by omega), wo q (by omega)]; exact i2 q (by omega) (by omega)
      · rw [j2 14 (by omega), wo 14 (by omega), j2 15 (by omega), wo 15 (by omega)]; exact i3 j hj
      · rw [j2 16 (by omega)]; exact w16o j hj
      · rw [j3 j hj, wo 17 (by omega), i2 17 (by omega) (by omega)]
