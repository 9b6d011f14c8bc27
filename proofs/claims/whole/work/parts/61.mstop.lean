/-! THE REFERENCE: who may, changing -/
def TM (v : gV) (P : Pm) : Prop := okP P ∧ v.1 0 7 = nI (pN P) ∧ (∀ r, r < pN P → v.1 7 (4 * r + 1) = nI (pB P r) ∧ v.1 7 (4 * r + 2) = nI (pL P r) ∧ v.1 7 (4 * r + 3) = pW P r) ∧ (∀ k, k < 8 → v.1 9 k = pO P k) ∧ v.1 10 0 = pE P ∧ v.1 10 1 = pC P ∧ v.1 10 2 = pF P
def MS (v : gV) (P : Pm) (σ : St) : Prop := (∀ r, r < pN P → v.1 11 r = σ.1 r) ∧ (∀ r, r < pN P → v.1 12 r = b2 (σ.2.2 r)) ∧ MB v σ.2.1
def tw (P : Pm) (σ : St) : Prop := ∀ r, r < pN P → σ.2.2 r = true → σ.1 r = pW P r
def bd8 (v : gV) (P : Pm) (p : Nat → Bool) : Prop := ∀ r, r < pN P → bt (v.1 0 16) r = p r
def MC (v : gV) (x : Sc) : Prop := v.1 0 24 = nI x.2.1 ∧ v.1 18 0 = x.2.2.1 ∧ v.1 18 1 = x.2.2.2.1 ∧ v.1 18 2 = x.2.2.2.2
theorem TM.kept {v v' : gV} {P : Pm} (h : TM v P) (hF : FL v v') : TM v' P := by
  obtain ⟨h1, h2, h3, h4, h5, h6, h7⟩ := h
  unfold TM
  rw [hF.1 7 (by omega) (by omega), hF.1 9 (by omega) (by omega), hF.1 10 (by omega) (by omega), hF.2.1 7 (by omega) (by omega) (by omega) (by omega)]
  exact ⟨h1, h2, h3, h4, h5, h6, h7⟩
theorem abs_b : ∀ p, p < 10 → ∀ q, q < 10 → ∀ e, e < 10 → (if 0 ≤ nI p - nI q then decide (nI e < nI p - nI q) else decide (nI e < -(nI p - nI q))) = !decide (nI p - nI q ≤ nI e ∧ -(nI p - nI q) ≤ nI e) := by decide +kernel
theorem abs_q {p q e : Nat} (hp : p < 10) (hq : q < 10) (he : e < 10) : ((0 ≤ nI p - nI q → (nI e < nI p - nI q ↔ ¬ (nI p - nI q ≤ nI e ∧ -(nI p - nI q) ≤ nI e))) ∧ (¬ 0 ≤ nI p - nI q → (nI e < -(nI p - nI q) ↔ ¬ (nI p - nI q ≤ nI e ∧ -(nI p - nI q) ≤ nI e)))) := by
  have h := abs_b p hp q hq e he
  refine ⟨fun c => ?_, fun c => ?_⟩
  · rw [if_pos c] at h
    rw [← decide_eq_true_iff (p := nI e < nI p - nI q), h, Bool.not_eq_true', decide_eq_false_iff_not]
  · rw [if_neg c] at h
    rw [← decide_eq_true_iff (p := nI e < -(nI p - nI q)), h, Bool.not_eq_true', decide_eq_false_iff_not]
theorem i09 {x : Int32} (h0 : 0 ≤ x.toInt) (h9 : x.toInt ≤ 9) : ∃ p, p < 10 ∧ x = nI p := by
  obtain ⟨n, h1, h2, h3⟩ := i_of h0
  exact ⟨n, by omega, h2⟩
theorem may_ok {v : gV} {P : Pm} {σ : St} {s r : Nat} (hT : TM v P) (hS : MS v P σ) (hB : bd8 v P (onb P s)) (hv' : ∀ r, r < pN P → hv (σ.1 r)) (hr : r < pN P) : f_X8_may (nI r) v = some (b2 (mon P s σ.1 r), v) := by
  apply wp_is
  obtain ⟨hP, h07, h7, h9, h100, h101, h102⟩ := hT
  have hn := hP.1
  obtain ⟨-, -, k, hk, ek⟩ := hP.2.1 r hr
  have no : ∀ (q : mon P s σ.1 r = false), ((0 : Int32), v) = (b2 (mon P s σ.1 r), v) := fun q => by rw [q]; rfl
  unfold f_X8_may
  refine wp_bi (wp_of (isIn_ok (by omega))) ?_
  rintro r3 v1 ⟨rfl, rfl⟩
  rw [hB r hr, l_4, l_3, n_mul, n_add, n_cl (a := r) (by omega), n_cl (a := 4 * r + 3) (by omega), hS.1 r hr, (h7 r hr).2.2]
  have g8 := gin_N (i := r) (n := 8) (by omega) (by omega)
  have g32 := gin_N (i := 4 * r + 3) (n := 32) (by omega) (by omega)
  refine wp_if (fun c => ?_) (fun c => ?_)
  · rw [b2_0] at c
    exact b1 (Or.inl rfl) (no (by unfold mon; rw [c]; rfl))
  · rw [b2_0] at c
    have c := ne_f c
    have hm : mon P s σ.1 r = myb (pO P) (pE P) (pW P r) (σ.1 r) := by unfold mon; rw [c, Bool.true_and]
    rw [hm] at no ⊢
    refine wp_t g8 (wp_if (fun c1 => ?_) (fun c1 => ?_))
    · refine b1 (Or.inl rfl) (no ?_)
      unfold myb
      refine decide_eq_false (fun q => ?_)
      rcases hv' r hr with z | ⟨j, hj, z⟩
      · exact q.1 z
      · rw [z, l_1, n_lt (by omega) (by omega)] at c1
        exact q.2.1 (by rw [z, show j = 0 by omega]; rfl)
    · rcases hv' r hr with z | ⟨j, hj, z⟩
      · rw [z] at c1
        exact absurd (by decide) c1
      · rw [z, l_1, n_lt (by omega) (by omega)] at c1
        rw [z, ek]
        refine wp_t g8 (wp_t g32 (wp_if (fun c2 => ?_) (fun c2 => ?_)))
        · refine b1 (Or.inl rfl) ?_
          rw [z, ek] at no
          refine no ?_
          unfold myb
          exact decide_eq_false (fun q => q.2.2.1 c2)
        · refine wp_t g8 (wp_t (gin_N hj (by omega)) (wp_t g32 (wp_t (gin_N hk (by omega)) (wp_bd ?_))))
          rw [n_cl (a := j) (by omega), n_cl (a := k) (by omega), h9 j hj, h9 k hk]
          obtain ⟨o1, o2⟩ := hP.2.2.1 j hj
          obtain ⟨o3, o4⟩ := hP.2.2.1 k hk
          obtain ⟨p, hp, ep⟩ := i09 o1 o2
          obtain ⟨q, hq, eq⟩ := i09 o3 o4
          obtain ⟨e, he, ee⟩ := i09 hP.2.2.2.1 hP.2.2.2.2
          obtain ⟨a1, a2⟩ := abs_q hp hq he
          have hy : myb (pO P) (pE P) (nI k) (nI j) = decide (nI p - nI q ≤ nI e ∧ -(nI p - nI q) ≤ nI e) := by
            unfold myb
            rw [n_cl (a := j) (by omega), n_cl (a := k) (by omega), ep, eq, ee]
            have n1 : nI j ≠ -1 := n_m1 (by omega)
            have n2 : nI j ≠ 0 := fun z => by rw [l_0, n_eq (by omega) (by omega)] at z; omega
            by_cases z : nI p - nI q ≤ nI e ∧ -(nI p - nI q) ≤ nI e
            · rw [decide_eq_true z, decide_eq_true ⟨n1, n2, c2, z.1, z.2⟩]
            · rw [decide_eq_false z, decide_eq_false (fun t => z t.2.2.2)]
          rw [hy, ep, eq]
          unfold f_X8_may_J80
          rw [show v.1 10 (0 : Int32).toNatClampNeg = nI e from h100.trans ee]
          refine wp_if (fun c3 => ?_) (fun c3 => ?_)
          · refine wp_t (by decide) (wp_if (fun c4 => ?_) (fun c4 => ?_))
            · exact b1 (Or.inl rfl) (by rw [decide_eq_false ((a1 c3).mp c4)]; rfl)
            · exact b1 (Or.inr rfl) (by rw [decide_eq_true (Decidable.byContradiction (fun t => c4 ((a1 c3).mpr t)))]; rfl)
          · refine wp_t (by decide) (wp_if (fun c4 => ?_) (fun c4 => ?_))
            · exact b1 (Or.inl rfl) (by rw [decide_eq_false ((a2 c3).mp c4)]; rfl)
            · exact b1 (Or.inr rfl) (by rw [decide_eq_true (Decidable.byContradiction (fun t => c4 ((a2 c3).mpr t)))]; rfl)
theorem other_ok {v : gV} {P : Pm} {σ : St} {s r : Nat} (hT : TM v P) (hS : MS v P σ) (hB : bd8 v P (onb P s)) (hv' : ∀ r, r < pN P → hv (σ.1 r)) (hr : r < pN P) : f_X8_other (nI r) v = some (if oth P s r σ.1 < pN P then nI (oth P s r σ.1) else -1, v) := by
  apply wp_is
  obtain ⟨hP, h07, h7, -⟩ := id hT
  have hn := hP.1
  unfold f_X8_other
  refine wp_bs1 (Q0 := SE (fun v' : gV => v' = v ∧ ¬ oth P s r σ.1 < pN P) (fun q : Int32 × gV => q = (nI (oth P s r σ.1), v) ∧ oth P s r σ.1 < pN P)) (wp_cnt (fun i v' => v' = v ∧ i ≤ oth P s r σ.1) (pN P) 0 v (by omega) (Nat.zero_le _) ⟨rfl, Nat.zero_le _⟩ ?_ ?_) ?_ ?_
  · rintro i v1 hi ⟨rfl, h1⟩
    have st : ∀ (q : othp P s r σ.1 i = false), i + 1 ≤ oth P s r σ.1 := fun q => by
      rcases Nat.lt_or_ge i (oth P s r σ.1) with z | z
      · exact z
      · have := lst_yes (p := othp P s r σ.1) (pN P) 0 (show oth P s r σ.1 < 0 + pN P by omega)
        have e : lst (othp P s r σ.1) (pN P) 0 = i := by show oth P s r σ.1 = i; omega
        rw [e, q] at this
        exact absurd this Bool.false_ne_true
    show wp (f_X8_other_B2 (nI r) (nI i) v1) _
    unfold f_X8_other_B2 f_X8_other_J48
    rw [h07]
    refine wp_f (by rw [n_le (by omega) (by omega)]; omega) (wp_if (fun c => ?_) (fun c => ?_))
    · rw [n_eq (by omega) (by omega)] at c
      exact wp_some ⟨nI_1 i, rfl, st (by unfold othp; rw [c, decide_eq_false (fun q => q rfl)]; rfl)⟩
    · rw [n_eq (by omega) (by omega)] at c
      refine wp_bi (wp_of (may_ok hT hS hB hv' hi)) ?_
      rintro r3 v3 ⟨rfl, rfl⟩
      refine wp_if (fun c1 => ?_) (fun c1 => ?_)
      · rw [b2_0] at c1
        exact wp_some ⟨nI_1 i, rfl, st (by unfold othp; rw [c1, Bool.and_false, Bool.false_and])⟩
      · rw [b2_0] at c1
        have c1 := ne_f c1
        rw [l_4, l_3, n_mul, n_mul, n_add, n_add, n_cl (a := 4 * r + 3) (by omega), n_cl (a := 4 * i + 3) (by omega), (h7 r hr).2.2, (h7 i hi).2.2]
        refine wp_t (gin_N (by omega) (by omega)) (wp_t (gin_N (by omega) (by omega)) (wp_if (fun c2 => ?_) (fun c2 => ?_)))
        · have ho : othp P s r σ.1 i = true := by unfold othp; rw [c1, decide_eq_true c, decide_eq_true c2]; rfl
          have e : oth P s r σ.1 = i := by
            rcases Nat.lt_or_ge i (oth P s r σ.1) with z | z
            · have := lst_no (p := othp P s r σ.1) (pN P) 0 i (Nat.zero_le _) z
              rw [ho] at this
              exact absurd this.symm Bool.false_ne_true
            · omega
          exact wp_some ⟨by rw [e], by omega⟩
        · exact wp_some ⟨nI_1 i, rfl, st (by unfold othp; rw [decide_eq_false c2, Bool.and_false])⟩
  · rintro v1 ⟨rfl, h1⟩
    show wp (f_X8_other_B2 (nI r) (nI (pN P)) v1) _
    unfold f_X8_other_B2
    rw [h07]
    exact wp_t (by rw [n_le (by omega) (by omega)]; exact Nat.le_refl _) (wp_some ⟨rfl, by omega⟩)
  · rintro v1 ⟨e1, e2⟩
    have e1 : v1 = v := e1
    subst e1
    rw [if_neg e2]
    exact wp_some rfl
  · rintro q ⟨e1, e2⟩
    rw [if_pos e2, e1]
    exact wp_some rfl
