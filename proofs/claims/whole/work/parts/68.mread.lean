/-! THE REFERENCE: reading the texts -/
def vO (k : Nat) (b : Int32) : Int32 := if k = 4 then 0 else if k = 0 ∨ k = 3 then b - 97 else b - 48
theorem vO_ne {k : Nat} {b : Int32} (h : fitb k b = true) : vO k b ≠ -9 := by
  have big : ∀ j : Nat, j ≤ 9 → nI j ≠ -9 := by decide +kernel
  unfold vO
  unfold fitb at h
  by_cases h4 : k = 4
  · rw [if_pos h4]; decide
  · rw [if_neg h4]
    by_cases h0 : k = 0 ∨ k = 3
    · rw [if_pos h0] at h ⊢
      have h := of_decide_eq_true h
      obtain ⟨j, hj, e⟩ := i_sub (c := 97) (k := 7) h.1 h.2 (by decide) (by omega) (by omega) (by omega)
      rw [e]; exact big j (by omega)
    · rw [if_neg h0] at h ⊢
      by_cases h1 : k = 1 ∨ k = 2
      · rw [if_pos h1] at h
        have h := of_decide_eq_true h
        obtain ⟨j, hj, e⟩ := i_sub (c := 48) (k := 9) h.1 h.2 (by decide) (by omega) (by omega) (by omega)
        rw [e]; exact big j (by omega)
      · rw [if_neg h1] at h
        have h := of_decide_eq_true h
        rw [h]; decide
theorem letterOf_ok {v : gV} {b : Int32} : f_X8_letterOf b v = some (if 97 ≤ b.toInt ∧ b.toInt ≤ 104 then b - 97 else -9, v) := by
  apply wp_is
  unfold f_X8_letterOf
  refine wp_bi (wp_of (in_i 97 104 (by decide) (by decide))) ?_
  rintro r v1 ⟨rfl, rfl⟩
  refine wp_if (fun c => ?_) (fun c => ?_)
  · rw [b2_0] at c
    rw [if_neg (of_decide_eq_false c)]
    exact wp_some rfl
  · rw [b2_0] at c
    rw [if_pos (of_decide_eq_true (ne_f c))]
    exact wp_some rfl
theorem riderOf_ok {v : gV} {k : Nat} {b : Int32} (hk : k < 5) : f_X8_riderOf (nI k) b v = some (if fitb k b = true then vO k b else -9, v) := by
  apply wp_is
  unfold f_X8_riderOf f_X8_riderOf_J27 fitb vO
  rw [l_4, l_0, l_3]
  have lt : wp (bi (f_X8_letterOf b v) (fun r3 v1 => some (r3, v1))) (fun z => z = (if (decide (97 ≤ b.toInt ∧ b.toInt ≤ 104)) = true then b - 97 else -9, v)) := by
    refine wp_bi (wp_of letterOf_ok) ?_
    rintro r v1 ⟨rfl, rfl⟩
    refine wp_some ?_
    by_cases z : 97 ≤ b.toInt ∧ b.toInt ≤ 104
    · rw [if_pos z, decide_eq_true z, if_pos rfl]
    · rw [if_neg z, decide_eq_false z, if_neg Bool.false_ne_true]
  have dg : wp (bi (f_X8_in b.toInt64 48 57 v) (fun r3 v1 => if r3 = nI 0 then some (-9, v1) else some (b - 48, v1))) (fun z => z = (if (decide (48 ≤ b.toInt ∧ b.toInt ≤ 57)) = true then b - 48 else -9, v)) := by
    refine wp_bi (wp_of (in_i 48 57 (by decide) (by decide))) ?_
    rintro r v1 ⟨rfl, rfl⟩
    refine wp_if (fun c => ?_) (fun c => ?_)
    · have c := b2_0.mp c
      rw [if_neg (by rw [show decide (48 ≤ b.toInt ∧ b.toInt ≤ 57) = false from c]; exact Bool.false_ne_true)]
      exact wp_some rfl
    · have c := ne_f (fun q => c (b2_0.mpr q))
      rw [if_pos (show decide (48 ≤ b.toInt ∧ b.toInt ≤ 57) = true from c)]
      exact wp_some rfl
  rcases (show k = 0 ∨ k = 1 ∨ k = 2 ∨ k = 3 ∨ k = 4 by omega) with rfl | rfl | rfl | rfl | rfl
  · exact wp_f (by decide) (wp_t rfl lt)
  · exact wp_f (by decide) (wp_f (by decide) (wp_f (by decide) dg))
  · exact wp_f (by decide) (wp_f (by decide) (wp_f (by decide) dg))
  · exact wp_f (by decide) (wp_f (by decide) (wp_t rfl lt))
  · refine wp_t rfl (wp_if (fun c => wp_some ?_) (fun c => wp_some ?_))
    · show _ = (if decide (b = 59) = true then (0 : Int32) else -9, v)
      rw [decide_eq_true c, if_pos rfl]; rfl
    · show _ = (if decide (b = 59) = true then (0 : Int32) else -9, v)
      rw [decide_eq_false c, if_neg Bool.false_ne_true]
