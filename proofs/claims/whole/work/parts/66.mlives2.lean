/-- what the reference has read: starts h, the bag l, and what lies on top t -/
def ST (v : gV) (P : Pm) (h : Nat → Int32) (l : List Int32) (t : Int32) : Prop := (∀ r, r < pN P → v.1 7 (4 * r) = h r) ∧ v.1 0 9 = nI l.length ∧ l.length ≤ 16 ∧ (∀ i, i < l.length → v.1 8 i = l.getD i 0) ∧ v.1 0 13 = t
def tpl (t : Int32) : List Int32 := if t = -1 then [] else [t]
theorem tpl_len (t : Int32) : (tpl t).length ≤ 1 := by
  unfold tpl
  split <;> simp
theorem tk_snoc {l : List Int32} {i : Nat} (h : i < l.length) : l.take i ++ [l.getD i 0] = l.take (i + 1) := by
  rw [List.take_succ, List.getD_eq_getElem?_getD, List.getElem?_eq_getElem h]
  rfl
theorem begins_ok {v : gV} {P : Pm} {h : Nat → Int32} {l : List Int32} {t : Int32} (hT : TM v P) (hI : ST v P h l t) : wp (f_X8_begins v) (fun v' => MS v' P (ini h (tpl t ++ l)).1 ∧ MC v' (ini h (tpl t ++ l)) ∧ v'.1 0 25 = -1 ∧ FL v v') := by
  obtain ⟨hP, h07, -⟩ := id hT
  have hn := hP.1
  obtain ⟨s1, s2, s3, s4, s5⟩ := hI
  have rest : ∀ w, MB w (tpl t) → FB8 v w → wp (f_X8_begins_J21 w) (fun v' => MS v' P (ini h (tpl t ++ l)).1 ∧ MC v' (ini h (tpl t ++ l)) ∧ v'.1 0 25 = -1 ∧ FL v v') := fun w wB wF => by
    have ht := tpl_len t
    unfold f_X8_begins_J21
    refine wp_bx1 (wp_cnt (Z := fun v' => MB v' (tpl t ++ l) ∧ FB8 v v') (fun i v' => MB v' (tpl t ++ l.take i) ∧ FB8 v v') l.length 0 w (by omega) (Nat.zero_le _) ⟨by rw [List.take_zero, List.append_nil]; exact wB, wF⟩ ?_ ?_) ?_
    · rintro i v1 hi ⟨i1, i2⟩
      show wp (f_X8_begins_B23 (nI i) v1) _
      unfold f_X8_begins_B23
      rw [i2.2.1 9 (by omega), s2, n_cl (a := i) (by omega), i2.1 8 (by omega) (by omega), s4 i hi]
      refine wp_f (by rw [n_le (by omega) (by omega)]; omega) (wp_t (gin_N (by omega) (by omega)) (wp_bv (puts_ok i1 (by rw [List.length_append, List.length_take]; omega)) ?_))
      rintro v2 ⟨k1, k2⟩
      refine wp_some ⟨nI_1 i, ?_, ⟨fun q h0 h1 => (k2.1 q h0 h1).trans (i2.1 q h0 h1), fun j hj => (k2.2.1 j hj).trans (i2.2.1 j hj), k2.2.2.trans i2.2.2⟩⟩
      rw [List.append_assoc, tk_snoc hi] at k1
      exact k1
    · rintro v1 ⟨i1, i2⟩
      show wp (f_X8_begins_B23 (nI l.length) v1) _
      unfold f_X8_begins_B23
      rw [i2.2.1 9 (by omega), s2]
      rw [List.take_length] at i1
      exact wp_t (by rw [n_le (by omega) (by omega)]; exact Nat.le_refl _) (wp_some ⟨i1, i2⟩)
    · rintro v1 ⟨i1, i2⟩
      refine wp_bx1 (wp_cnt (Z := fun v' => (∀ r, r < pN P → v'.1 11 r = h r ∧ v'.1 12 r = 0) ∧ (∀ q, q ≠ 11 → q ≠ 12 → v'.1 q = v1.1 q) ∧ v'.2 = v1.2) (fun i v' => (∀ r, r < i → v'.1 11 r = h r ∧ v'.1 12 r = 0) ∧ (∀ q, q ≠ 11 → q ≠ 12 → v'.1 q = v1.1 q) ∧ v'.2 = v1.2) (pN P) 0 v1 (by omega) (Nat.zero_le _) ⟨fun r hr => absurd hr (Nat.not_lt_zero r), fun _ _ _ => rfl, rfl⟩ ?_ ?_) ?_
      · rintro i v2 hi ⟨j1, j2, j3⟩
        show wp (f_X8_begins_B49 (nI i) v2) _
        unfold f_X8_begins_B49
        rw [j2 0 (by omega) (by omega), i2.2.1 7 (by omega), h07, l_4, n_mul, n_cl (a := i) (by omega), n_cl (a := 4 * i) (by omega), j2 7 (by omega) (by omega), i2.1 7 (by omega) (by omega), s1 i hi]
        have g8 := gin_N (i := i) (n := 8) (by omega) (by omega)
        refine wp_f (by rw [n_le (by omega) (by omega)]; omega) (wp_t (gin_N (by omega) (by omega)) (wp_t g8 (wp_bd (wp_t g8 (wp_bd (wp_some ⟨nI_1 i, fun r hr => ?_, fun q h1 h2 => ?_, j3⟩))))))
        · show (sI (sI v2 11 i _) 12 i _).1 11 r = _ ∧ (sI (sI v2 11 i _) 12 i _).1 12 r = _
          by_cases e : r = i
          · subst e
            rw [sI_n (by omega), sI_s, sI_s]
            exact ⟨rfl, rfl⟩
          · rw [sI_n (by omega), sI_o e, sI_o e, sI_n (by omega)]
            exact j1 r (by omega)
        · show (sI (sI v2 11 i _) 12 i _).1 q = _
          rw [sI_n h2, sI_n h1]; exact j2 q h1 h2
      · rintro v2 ⟨j1, j2, j3⟩
        show wp (f_X8_begins_B49 (nI (pN P)) v2) _
        unfold f_X8_begins_B49
        rw [j2 0 (by omega) (by omega), i2.2.1 7 (by omega), h07]
        exact wp_t (by rw [n_le (by omega) (by omega)]; exact Nat.le_refl _) (wp_some ⟨j1, j2, j3⟩)
      · rintro v2 ⟨j1, j2, j3⟩
        refine wp_t (by decide) (wp_bd (wp_t (by decide) (wp_bd (wp_t (by decide) (wp_bd (wp_bd (wp_bd (wp_some ⟨⟨fun r hr => ?_, fun r hr => ?_, ?_⟩, ⟨?_, ?_, ?_, ?_⟩, ?_, ?_, ?_, ?_⟩))))))))
        · rw [sI_n (by omega), sI_n (by omega), sI_n (by omega), sI_n (by omega), sI_n (by omega)]; exact (j1 r hr).1
        · rw [sI_n (by omega), sI_n (by omega), sI_n (by omega), sI_n (by omega), sI_n (by omega)]; exact (j1 r hr).2
        · unfold MB
          rw [sI_o (by omega), sI_o (by omega), sI_n (by omega), sI_n (by omega), sI_n (by omega), sI_n (by omega), sI_n (by omega), sI_n (by omega), sI_n (by omega), sI_n (by omega), j2 0 (by omega) (by omega), j2 13 (by omega) (by omega)]
          exact i1
        · rw [sI_o (by omega), sI_s]; rfl
        · rw [sI_n (by omega), sI_n (by omega), c_0, c_1, c_2, sI_o (by omega), sI_o (by omega), sI_s]; rfl
        · rw [sI_n (by omega), sI_n (by omega), c_0, c_1, c_2, sI_o (by omega), sI_s]; rfl
        · rw [sI_n (by omega), sI_n (by omega), c_0, c_1, c_2, sI_s]; rfl
        · rw [sI_s]
        · intro q h0 hq
          rw [sI_n h0, sI_n h0, sI_n (by omega), sI_n (by omega), sI_n (by omega), j2 q (by omega) (by omega)]
          exact i2.1 q h0 (by omega)
        · intro j q1 q2 q3 q4
          rw [sI_o q4, sI_o q3, sI_n (by omega), sI_n (by omega), sI_n (by omega), j2 0 (by omega) (by omega)]
          exact i2.2.1 j q2
        · exact j3.trans i2.2.2
  unfold f_X8_begins
  refine wp_bd ?_
  have e13 : (sI v 0 17 0).1 0 13 = t := by rw [sI_o (by omega)]; exact s5
  have f0 : FB8 v (sI v 0 17 0) := ⟨fun q h0 _ => sI_n h0, fun j hj => sI_o hj, rfl⟩
  have m0 : MB (sI v 0 17 0) [] := ⟨sI_s, Nat.zero_le _, fun i hi => absurd hi (Nat.not_lt_zero i)⟩
  rw [e13]
  refine wp_if (fun c => ?_) (fun c => ?_)
  · have e : tpl t = [] := by unfold tpl; rw [if_pos c]
    exact rest _ (by rw [e]; exact m0) f0
  · have e : tpl t = [t] := by unfold tpl; rw [if_neg c]
    refine wp_bv (puts_ok m0 (by show 0 < 29; omega)) ?_
    rintro v2 ⟨k1, k2⟩
    exact rest v2 (by rw [e]; exact k1) ⟨fun q h0 h1 => (k2.1 q h0 h1).trans (f0.1 q h0 h1), fun j hj => (k2.2.1 j hj).trans (f0.2.1 j hj), k2.2.2.trans f0.2.2⟩
