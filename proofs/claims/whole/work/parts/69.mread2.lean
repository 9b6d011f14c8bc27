def T0 (v : gV) (l : List Int32) : Prop := v.1 6 0 = nI l.length ∧ l.length ≤ 39 ∧ ∀ i, i < l.length → v.1 5 i = l.getD i 0
def T1 (v : gV) (l : List Int32) : Prop := v.1 6 1 = nI l.length ∧ l.length ≤ 16 ∧ ∀ i, i < l.length → v.1 5 (40 + i) = l.getD i 0
def FR0 (v v' : gV) : Prop := (∀ q, q ≠ 0 → q ≠ 7 → v'.1 q = v.1 q) ∧ (∀ j, j ≠ 7 → v'.1 0 j = v.1 0 j) ∧ v'.2 = v.2
def FR1 (v v' : gV) : Prop := (∀ q, q ≠ 0 → q ≠ 8 → v'.1 q = v.1 q) ∧ (∀ j, j ≠ 9 → v'.1 0 j = v.1 0 j) ∧ v'.2 = v.2
/-- the riders as they are read -/
def RR (v : gV) (l : List Int32) : Prop := v.1 0 7 = nI (nRi l) ∧ ∀ r, r < nRi l → v.1 7 (4 * r) = rSt l r ∧ v.1 7 (4 * r + 1) = nI (rBo l r) ∧ v.1 7 (4 * r + 2) = nI (rLv l r) ∧ v.1 7 (4 * r + 3) = rWt l r
def RB (v : gV) (l : List Int32) : Prop := v.1 0 9 = nI (bag0 l).length ∧ ∀ i, i < (bag0 l).length → v.1 8 i = (bag0 l).getD i 0
theorem readsRiders_M {v : gV} {l : List Int32} (h : T0 v l) : wp (f_X8_readsRiders v) (fun o => o.1 = flt0 l ∧ RR o.2 l ∧ FR0 v o.2) := by
  obtain ⟨h6, hl, h5⟩ := h
  have nz : ∀ (w : gV), FR0 v w → flt0 l ≠ -1 → RR (sI w 0 7 0) l ∧ FR0 v (sI w 0 7 0) := fun w hw hf => by
    have e : nRi l = 0 := by unfold nRi; rw [if_neg hf]
    refine ⟨⟨by rw [sI_s, e]; rfl, fun r hr => by rw [e] at hr; exact absurd hr (Nat.not_lt_zero r)⟩, fun q h0 h7 => by rw [sI_n h0]; exact hw.1 q h0 h7, fun j hj => by rw [sI_o hj]; exact hw.2.1 j hj, hw.2.2⟩
  unfold f_X8_readsRiders
  refine wp_bd (wp_t (by decide) (wp_bd ?_))
  rw [show (sI v 0 7 0).1 6 (0 : Int32).toNatClampNeg = nI l.length by rw [sI_n (by omega)]; exact h6]
  refine wp_bs1 (Q0 := SE (fun w : gV => lst (bad0 l) l.length 0 = l.length ∧ w.1 0 7 = nI ((l.length + 1) / 5) ∧ (∀ j, j < l.length → j % 5 < 4 → w.1 7 (4 * (j / 5) + j % 5) = vO (j % 5) (l.getD j 0)) ∧ FR0 v w) (fun o : Int32 × gV => o.1 = flt0 l ∧ RR o.2 l ∧ FR0 v o.2)) (wp_cnt (fun i w => lst (bad0 l) l.length 0 = lst (bad0 l) (l.length - i) i ∧ w.1 0 7 = nI ((i + 1) / 5) ∧ (∀ j, j < i → j % 5 < 4 → w.1 7 (4 * (j / 5) + j % 5) = vO (j % 5) (l.getD j 0)) ∧ FR0 v w) l.length 0 _ (by omega) (Nat.zero_le _) ⟨rfl, sI_s, fun j hj => absurd hj (Nat.not_lt_zero j), fun q h0 _ => sI_n h0, fun j hj => sI_o hj, rfl⟩ ?_ ?_) ?_ ?_
  · rintro i w hi ⟨i1, i2, i3, i4⟩
    show wp (f_X8_readsRiders_B14 (nI l.length) (nI i) w) _
    unfold f_X8_readsRiders_B14
    rw [l_5, n_rem (by omega) (by omega) (by omega), n_div (by omega) (by omega) (by omega), n_cl (a := i) (by omega), i4.1 5 (by omega) (by omega), h5 i hi]
    refine wp_f (by rw [n_le (by omega) (by omega)]; omega) (wp_bd (wp_t (gin_N (by omega) (by omega)) (wp_bi (wp_of (riderOf_ok (by omega))) ?_)))
    rintro r3 v3 ⟨rfl, rfl⟩
    by_cases hf : fitb (i % 5) (l.getD i 0) = true
    · rw [if_pos hf]
      have hb : bad0 l i = false := by unfold bad0; rw [hf]; rfl
      have j68 : ∀ w', (∀ j, j < i + 1 → j % 5 < 4 → w'.1 7 (4 * (j / 5) + j % 5) = vO (j % 5) (l.getD j 0)) → FR0 v w' → w'.1 0 7 = nI ((i + 1) / 5) → wp (f_X8_readsRiders_J68 (nI l.length) (nI i) (nI (i % 5)) w') (SE (fun a' : gV × Int32 => a'.2 = nI (i + 1) ∧ lst (bad0 l) l.length 0 = lst (bad0 l) (l.length - (i + 1)) (i + 1) ∧ a'.1.1 0 7 = nI ((i + 1 + 1) / 5) ∧ (∀ j, j < i + 1 → j % 5 < 4 → a'.1.1 7 (4 * (j / 5) + j % 5) = vO (j % 5) (l.getD j 0)) ∧ FR0 v a'.1) (SE (fun w : gV => lst (bad0 l) l.length 0 = l.length ∧ w.1 0 7 = nI ((l.length + 1) / 5) ∧ (∀ j, j < l.length → j % 5 < 4 → w.1 7 (4 * (j / 5) + j % 5) = vO (j % 5) (l.getD j 0)) ∧ FR0 v w) (fun o : Int32 × gV => o.1 = flt0 l ∧ RR o.2 l ∧ FR0 v o.2))) := fun w' z1 z2 z3 => by
        unfold f_X8_readsRiders_J68 f_X8_readsRiders_J83
        rw [z3, l_3]
        have nx := (lst_at hi i1).2 hb
        have fr : ∀ y, FR0 v (sI w' 0 7 y) := fun y => ⟨fun q h0 h7 => by rw [sI_n h0]; exact z2.1 q h0 h7, fun j hj => by rw [sI_o hj]; exact z2.2.1 j hj, z2.2.2⟩
        have k7 : ∀ y, ∀ j, j < i + 1 → j % 5 < 4 → (sI w' 0 7 y).1 7 (4 * (j / 5) + j % 5) = vO (j % 5) (l.getD j 0) := fun y j hj h4 => by rw [sI_n (by omega)]; exact z1 j hj h4
        refine wp_if (fun c => ?_) (fun c => ?_)
        · rw [n_eq (by omega) (by omega)] at c
          refine wp_bd (wp_some ⟨nI_1 i, nx, ?_, k7 _, fr _⟩)
          show (sI w' 0 7 _).1 0 7 = _
          rw [sI_s, l_1, n_add]
          congr 1
          omega
        · rw [n_eq (by omega) (by omega)] at c
          refine wp_bd (wp_some ⟨nI_1 i, nx, ?_, k7 _, fr _⟩)
          show (sI w' 0 7 _).1 0 7 = _
          rw [sI_s, l_0, n_add]
          congr 1
          omega
      refine wp_f (vO_ne hf) (wp_if (fun c => ?_) (fun c => ?_))
      · rw [l_4, n_le (by omega) (by omega)] at c
        refine j68 w (fun j hj h4 => ?_) i4 i2
        rcases Nat.lt_or_ge j i with z | z
        · exact i3 j z h4
        · rw [show j = i by omega] at h4; omega
      · rw [l_4, n_le (by omega) (by omega)] at c
        rw [l_4, n_mul, n_add, n_cl (a := 4 * (i / 5) + i % 5) (by omega)]
        refine wp_t (gin_N (by omega) (by omega)) (wp_bd (j68 _ (fun j hj h4 => ?_) ⟨fun q h0 h7 => by rw [sI_n h7]; exact i4.1 q h0 h7, fun j hj => by rw [sI_n (by omega)]; exact i4.2.1 j hj, i4.2.2⟩ (by rw [sI_n (by omega)]; exact i2)))
        by_cases z : j = i
        · subst z; rw [sI_s]
        · rw [sI_o (by omega)]; exact i3 j (by omega) h4
    · rw [if_neg hf]
      have hb : bad0 l i = true := by unfold bad0; rw [ne_t hf]; rfl
      have e : flt0 l = nI i := by
        have := (lst_at hi i1).1 hb
        unfold flt0
        rw [this, if_pos hi]
      refine wp_t rfl (wp_bd (wp_some ?_))
      obtain ⟨z1, z2⟩ := nz w i4 (by rw [e]; exact n_m1 (by omega))
      exact ⟨e.symm, z1, z2⟩
  · rintro w ⟨i1, i2, i3, i4⟩
    show wp (f_X8_readsRiders_B14 (nI l.length) (nI l.length) w) _
    unfold f_X8_readsRiders_B14
    exact wp_t (by rw [n_le (by omega) (by omega)]; exact Nat.le_refl _) (wp_some ⟨lst_end i1, i2, i3, i4⟩)
  · rintro w ⟨i1, i2, i3, i4⟩
    have i1 : lst (bad0 l) l.length 0 = l.length := i1
    have e0 : flt0 l = if l.length = 0 ∨ l.length % 5 = 4 then -1 else nI l.length := by unfold flt0; rw [i1, if_neg (Nat.lt_irrefl _)]
    have good : (l.length = 0 ∨ l.length % 5 = 4) → wp (some ((-1 : Int32), w)) (fun o => o.1 = flt0 l ∧ RR o.2 l ∧ FR0 v o.2) := fun c => by
      have e : flt0 l = -1 := by rw [e0, if_pos c]
      have en : nRi l = (l.length + 1) / 5 := by unfold nRi; rw [if_pos e]
      refine wp_some ⟨e.symm, ⟨by rw [en]; exact i2, fun r hr => ?_⟩, i4⟩
      obtain ⟨g1, -, g2, -, g3, -⟩ := rid_ok hl hr
      have a0 := i3 (5 * r) (by omega) (by omega)
      have a1 := i3 (5 * r + 1) (by omega) (by omega)
      have a2 := i3 (5 * r + 2) (by omega) (by omega)
      have a3 := i3 (5 * r + 3) (by omega) (by omega)
      rw [show 5 * r / 5 = r by omega, show 5 * r % 5 = 0 by omega] at a0
      rw [show (5 * r + 1) / 5 = r by omega, show (5 * r + 1) % 5 = 1 by omega] at a1
      rw [show (5 * r + 2) / 5 = r by omega, show (5 * r + 2) % 5 = 2 by omega] at a2
      rw [show (5 * r + 3) / 5 = r by omega, show (5 * r + 3) % 5 = 3 by omega] at a3
      exact ⟨a0, a1.trans g2, a2.trans g3, a3⟩
    rw [l_5, n_rem (by omega) (by omega) (by omega), l_0, l_4]
    refine wp_if (fun c => ?_) (fun c => wp_if (fun c2 => ?_) (fun c2 => ?_))
    · rw [n_le (by omega) (by omega)] at c
      exact good (Or.inl (by omega))
    · rw [n_eq (by omega) (by omega)] at c2
      exact good (Or.inr c2)
    · rw [n_le (by omega) (by omega)] at c
      rw [n_eq (by omega) (by omega)] at c2
      have e : flt0 l = nI l.length := by rw [e0, if_neg (by omega)]
      obtain ⟨z1, z2⟩ := nz w i4 (by rw [e]; exact n_m1 (by omega))
      exact wp_bd (wp_some ⟨e.symm, z1, z2⟩)
  · rintro q hq
    exact wp_some hq
