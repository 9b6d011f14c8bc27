theorem kd_9 {b : Int32} : (kdb b = -1 → (if 65 ≤ b.toInt ∧ b.toInt ≤ 72 then b - 65 + 8 else if 97 ≤ b.toInt ∧ b.toInt ≤ 104 then b - 97 else -9) = -9) ∧ (kdb b ≠ -1 → (if 65 ≤ b.toInt ∧ b.toInt ≤ 72 then b - 65 + 8 else if 97 ≤ b.toInt ∧ b.toInt ≤ 104 then b - 97 else -9) = kdb b ∧ kdb b ≠ -9) := by
  have big : ∀ j : Nat, j ≤ 15 → nI j ≠ -9 ∧ nI j ≠ -1 := by decide +kernel
  unfold kdb
  by_cases h1 : 97 ≤ b.toInt ∧ b.toInt ≤ 104
  · obtain ⟨j, hj, e⟩ := i_sub (c := 97) (k := 7) h1.1 h1.2 (by decide) (by omega) (by omega) (by omega)
    rw [if_pos h1, if_neg (show ¬ (65 ≤ b.toInt ∧ b.toInt ≤ 72) by omega), if_pos h1, e]
    exact ⟨fun q => absurd q (big j (by omega)).2, fun _ => ⟨rfl, (big j (by omega)).1⟩⟩
  · rw [if_neg h1, if_neg h1]
    by_cases h2 : 65 ≤ b.toInt ∧ b.toInt ≤ 72
    · obtain ⟨j, hj, e⟩ := i_sub (c := 65) (k := 7) h2.1 h2.2 (by decide) (by omega) (by omega) (by omega)
      rw [if_pos h2, if_pos h2, e, l_8, n_add]
      exact ⟨fun q => absurd q (big (j + 8) (by omega)).2, fun _ => ⟨rfl, (big (j + 8) (by omega)).1⟩⟩
    · rw [if_neg h2, if_neg h2]
      exact ⟨fun _ => rfl, fun q => absurd rfl q⟩
theorem readsBag_M {v : gV} {l : List Int32} (h : T1 v l) : wp (f_X8_readsBag v) (fun o => o.1 = flt1 l ∧ RB o.2 l ∧ FR1 v o.2) := by
  obtain ⟨h6, hl, h5⟩ := h
  unfold f_X8_readsBag
  refine wp_bd (wp_bs1 (Q0 := SE (fun w : gV => flt1 l = -1 ∧ RB w l ∧ FR1 v w) (fun o : Int32 × gV => o.1 = flt1 l ∧ RB o.2 l ∧ FR1 v o.2)) (wp_cnt (fun i w => lst (bad1 l) l.length 0 = lst (bad1 l) (l.length - i) i ∧ w.1 0 9 = nI i ∧ (∀ j, j < i → w.1 8 j = kdb (l.getD j 0)) ∧ FR1 v w) l.length 0 _ (by omega) (Nat.zero_le _) ⟨rfl, sI_s, fun j hj => absurd hj (Nat.not_lt_zero j), fun q h0 _ => sI_n h0, fun j hj => sI_o hj, rfl⟩ ?_ ?_) (fun w hw => wp_some ⟨hw.1.symm, hw.2⟩) (fun q hq => wp_some hq))
  · rintro i w hi ⟨i1, i2, i3, i4⟩
    show wp (f_X8_readsBag_B7 (nI i) w) _
    unfold f_X8_readsBag_B7
    rw [show w.1 6 (1 : Int32).toNatClampNeg = nI l.length by rw [i4.1 6 (by omega) (by omega)]; exact h6, l_40, n_add, n_cl (a := 40 + i) (by omega), i4.1 5 (by omega) (by omega), h5 i hi]
    have j55 : ∀ x, x = (if 65 ≤ (l.getD i 0).toInt ∧ (l.getD i 0).toInt ≤ 72 then l.getD i 0 - 65 + 8 else if 97 ≤ (l.getD i 0).toInt ∧ (l.getD i 0).toInt ≤ 104 then l.getD i 0 - 97 else -9) → wp (f_X8_readsBag_J55 (nI i) x w) (SE (fun a' : gV × Int32 => a'.2 = nI (i + 1) ∧ lst (bad1 l) l.length 0 = lst (bad1 l) (l.length - (i + 1)) (i + 1) ∧ a'.1.1 0 9 = nI (i + 1) ∧ (∀ j, j < i + 1 → a'.1.1 8 j = kdb (l.getD j 0)) ∧ FR1 v a'.1) (SE (fun w : gV => flt1 l = -1 ∧ RB w l ∧ FR1 v w) (fun o : Int32 × gV => o.1 = flt1 l ∧ RB o.2 l ∧ FR1 v o.2))) := fun x hx => by
      unfold f_X8_readsBag_J55
      by_cases hb : bad1 l i = true
      · have e9 := (kd_9 (b := l.getD i 0)).1 (of_decide_eq_true hb)
        rw [← hx] at e9
        have e : flt1 l = nI i := by
          have := (lst_at hi i1).1 hb
          unfold flt1
          rw [this, if_pos hi]
        have eb : bag0 l = [] := by unfold bag0; rw [if_neg (by rw [e]; exact n_m1 (by omega))]
        refine wp_t e9 (wp_bd (wp_some ⟨e.symm, ⟨?_, fun j hj => ?_⟩, fun q h0 h8 => ?_, fun j hj => ?_, i4.2.2⟩))
        · show (sI w 0 9 0).1 0 9 = _
          rw [sI_s, eb]; rfl
        · rw [eb] at hj; exact absurd hj (Nat.not_lt_zero j)
        · show (sI w 0 9 0).1 q = _
          rw [sI_n h0]; exact i4.1 q h0 h8
        · show (sI w 0 9 0).1 0 j = _
          rw [sI_o hj]; exact i4.2.1 j hj
      · have hb' : kdb (l.getD i 0) ≠ -1 := fun q => hb (decide_eq_true q)
        obtain ⟨e8, e9⟩ := (kd_9 (b := l.getD i 0)).2 hb'
        rw [← hx] at e8
        refine wp_f (by rw [e8]; exact e9) (wp_t (gin_N (by omega) (by omega)) (wp_bd (wp_bd (wp_some ⟨nI_1 i, (lst_at hi i1).2 (ne_t hb), ?_, fun j hj => ?_, fun q h0 h8 => ?_, fun j hj => ?_, i4.2.2⟩))))
        · show (sI (sI w 8 _ x) 0 9 _).1 0 9 = _
          rw [sI_s, sI_n (by omega), i2]; exact nI_1 i
        · show (sI (sI w 8 _ x) 0 9 _).1 8 j = _
          rw [sI_n (by omega), n_cl (by omega)]
          by_cases z : j = i
          · subst z; rw [sI_s]; exact e8
          · rw [sI_o z]; exact i3 j (by omega)
        · show (sI (sI w 8 _ x) 0 9 _).1 q = _
          rw [sI_n h0, sI_n h8]; exact i4.1 q h0 h8
        · show (sI (sI w 8 _ x) 0 9 _).1 0 j = _
          rw [sI_o hj, sI_n (by omega)]; exact i4.2.1 j hj
    refine wp_t (by decide) (wp_f (by rw [n_le (by omega) (by omega)]; omega) (wp_t (gin_N (by omega) (by omega)) (wp_bd (wp_bi (wp_of (in_i 65 72 (by decide) (by decide))) ?_))))
    rintro r3 v3 ⟨rfl, rfl⟩
    refine wp_if (fun c => ?_) (fun c => ?_)
    · rw [b2_0] at c
      refine wp_bi (wp_of letterOf_ok) ?_
      rintro r4 v4 ⟨rfl, rfl⟩
      exact j55 _ (by rw [if_neg (of_decide_eq_false c)])
    · rw [b2_0] at c
      exact j55 _ (by rw [if_pos (of_decide_eq_true (ne_f c))])
  · rintro w ⟨i1, i2, i3, i4⟩
    show wp (f_X8_readsBag_B7 (nI l.length) w) _
    unfold f_X8_readsBag_B7
    rw [show w.1 6 (1 : Int32).toNatClampNeg = nI l.length by rw [i4.1 6 (by omega) (by omega)]; exact h6]
    have e : flt1 l = -1 := by unfold flt1; rw [lst_end i1, if_neg (Nat.lt_irrefl _)]
    have eb : bag0 l = l.map kdb := by unfold bag0; rw [if_pos e]
    refine wp_t (by decide) (wp_t (by rw [n_le (by omega) (by omega)]; exact Nat.le_refl _) (wp_some ⟨e, ⟨by rw [eb, List.length_map]; exact i2, fun i hi => ?_⟩, i4⟩))
    rw [eb] at hi ⊢
    rw [List.length_map] at hi
    rw [i3 i hi, List.getD_eq_getElem?_getD, List.getD_eq_getElem?_getD, List.getElem?_map, List.getElem?_eq_getElem hi]
    rfl
