/-! THE REFERENCE: small parts -/
theorem lc_lt {x y : Int64} : (lg_cmp x y < 0) = (x.toInt < y.toInt) := by
  unfold lg_cmp
  by_cases h : x > y
  · rw [if_pos h]
    have h' : y.toInt < x.toInt := Int64.lt_iff_toInt_lt.mp h
    exact propext ⟨fun q => absurd q (by decide), fun q => by omega⟩
  · rw [if_neg h]
    have h' : ¬ y.toInt < x.toInt := fun q => h (Int64.lt_iff_toInt_lt.mpr q)
    by_cases e : x = y
    · rw [if_pos e]
      subst e
      exact propext ⟨fun q => absurd q (by decide), fun q => by omega⟩
    · rw [if_neg e]
      have e' : x.toInt ≠ y.toInt := fun q => e (Int64.toInt_inj.mp q)
      exact propext ⟨fun q => by omega, fun q => by decide⟩
theorem lc_gt {x y : Int64} : (0 < lg_cmp x y) = (y.toInt < x.toInt) := by
  unfold lg_cmp
  by_cases h : x > y
  · rw [if_pos h]
    have h' : y.toInt < x.toInt := Int64.lt_iff_toInt_lt.mp h
    exact propext ⟨fun q => h', fun q => by decide⟩
  · rw [if_neg h]
    have h' : ¬ y.toInt < x.toInt := fun q => h (Int64.lt_iff_toInt_lt.mpr q)
    by_cases e : x = y
    · rw [if_pos e]
      exact propext ⟨fun q => absurd q (by decide), fun q => absurd q h'⟩
    · rw [if_neg e]
      exact propext ⟨fun q => absurd q (by decide), fun q => absurd q h'⟩
theorem in_ok {v : gV} {x lo hi : Int64} : f_X8_in x lo hi v = some (b2 (decide (lo.toInt ≤ x.toInt ∧ x.toInt ≤ hi.toInt)), v) := by
  apply wp_is
  unfold f_X8_in
  refine wp_if (fun c => ?_) (fun c => wp_if (fun c2 => ?_) (fun c2 => ?_))
  · rw [lc_lt] at c
    exact b1 (Or.inl rfl) (by rw [decide_eq_false (by omega)]; rfl)
  · rw [lc_gt] at c2
    exact b1 (Or.inl rfl) (by rw [decide_eq_false (by omega)]; rfl)
  · rw [lc_lt] at c
    rw [lc_gt] at c2
    exact b1 (Or.inr rfl) (by rw [decide_eq_true (by omega)]; rfl)
/-- x lies from lo to hi -/
def btw (x : Int32) (lo hi : Int) : Bool := decide (lo ≤ x.toInt ∧ x.toInt ≤ hi)
theorem in_i {v : gV} {x : Int32} {lo hi : Int64} (l h : Int) (hl : lo.toInt = l) (hh : hi.toInt = h) : f_X8_in x.toInt64 lo hi v = some (b2 (btw x l h), v) := by
  rw [in_ok, Int32.toInt_toInt64, hl, hh]
  rfl
theorem btw_gin {x : Int32} {n : Nat} : btw x 0 ((n : Int) - 1) = gin x n := by
  unfold btw gin
  by_cases q : 0 ≤ x.toInt ∧ x.toInt < (n : Int)
  · rw [decide_eq_true q, decide_eq_true (by omega)]
  · rw [decide_eq_false q, decide_eq_false (by omega)]
theorem gb {b : Bool} : gbo (b2 b) = true := decide_eq_true (b2_01 b)
theorem isIn_ok {v : gV} {x : Int32} {i : Nat} (hi : i < 32) : f_X8_isIn x (nI i) v = some (b2 (bt x i), v) := by
  apply wp_is
  unfold f_X8_isIn
  refine wp_if (fun c => ?_) (fun c => ?_)
  · rw [bt_1 hi] at c
    exact b1 (Or.inr rfl) (by rw [c]; rfl)
  · rw [bt_1 hi] at c
    exact b1 (Or.inl rfl) (by rw [ne_t c]; rfl)
theorem isDay_M {v : gV} {x : Int32} : f_X8_isDay x v = some (b2 (gin x 10), v) := by
  apply wp_is
  unfold f_X8_isDay
  refine wp_bi (wp_of (in_i 0 9 (by decide) (by decide))) ?_
  rintro r v1 ⟨rfl, rfl⟩
  exact wp_t gb (wp_some (by rw [← btw_gin (n := 10)]; rfl))
theorem isSheet_M {v : gV} {x : Int32} : f_X8_isSheet x v = some (b2 (gin x 4), v) := by
  apply wp_is
  unfold f_X8_isSheet
  refine wp_bi (wp_of (in_i 0 3 (by decide) (by decide))) ?_
  rintro r v1 ⟨rfl, rfl⟩
  exact wp_t gb (wp_some (by rw [← btw_gin (n := 4)]; rfl))
theorem isRider_M {v : gV} {x : Int32} {n : Nat} (h : v.1 0 7 = nI n) (hn : n ≤ 8) : f_X8_isRider x v = some (b2 (gin x n), v) := by
  apply wp_is
  unfold f_X8_isRider
  have e : ((v.1 0 7 - (1 : Int32)).toInt64).toInt = (n : Int) - 1 := by
    rw [h, Int32.toInt_toInt64]
    have : ∀ n, n ≤ 8 → (nI n - 1).toInt = (n : Int) - 1 := by decide +kernel
    exact this n hn
  refine wp_bi (wp_of (in_i 0 ((n : Int) - 1) (by decide) e)) ?_
  rintro r v1 ⟨rfl, rfl⟩
  exact wp_t gb (wp_some (by rw [btw_gin]))
theorem isTwo_M {v : gV} {x : Int32} : f_X8_isTwo x v = some (b2 (gin x 2), v) := by
  apply wp_is
  unfold f_X8_isTwo
  refine wp_bi (wp_of (in_i 0 1 (by decide) (by decide))) ?_
  rintro r v1 ⟨rfl, rfl⟩
  exact wp_t gb (wp_some (by rw [← btw_gin (n := 2)]; rfl))
/-! the bag -/
def MB (v : gV) (l : List Int32) : Prop := v.1 0 17 = nI l.length ∧ l.length ≤ 29 ∧ ∀ i, i < l.length → v.1 13 i = l.getD i 0
/-- what the reference's days may change -/
def FL (v v' : gV) : Prop := (∀ q, q ≠ 0 → (q < 11 ∨ 18 < q) → v'.1 q = v.1 q) ∧ (∀ j, j ≠ 16 → j ≠ 17 → j ≠ 24 → j ≠ 25 → v'.1 0 j = v.1 0 j) ∧ v'.2 = v.2
theorem FL.rf {v : gV} : FL v v := ⟨fun _ _ _ => rfl, fun _ _ _ _ _ => rfl, rfl⟩
theorem FL.tr {v v' v'' : gV} (h : FL v v') (h' : FL v' v'') : FL v v'' := ⟨fun q h0 hq => (h'.1 q h0 hq).trans (h.1 q h0 hq), fun j h1 h2 h3 h4 => (h'.2.1 j h1 h2 h3 h4).trans (h.2.1 j h1 h2 h3 h4), h'.2.2.trans h.2.2⟩
/-- the bag alone changes -/
def FB8 (v v' : gV) : Prop := (∀ q, q ≠ 0 → q ≠ 13 → v'.1 q = v.1 q) ∧ (∀ j, j ≠ 17 → v'.1 0 j = v.1 0 j) ∧ v'.2 = v.2
theorem FB8.L {v v' : gV} (h : FB8 v v') : FL v v' := ⟨fun q h0 hq => h.1 q h0 (by omega), fun j _ h2 _ _ => h.2.1 j h2, h.2.2⟩
theorem puts_ok {v : gV} {l : List Int32} {x : Int32} (h : MB v l) (hl : l.length < 29) : wp (f_X8_puts x v) (fun v' => MB v' (l ++ [x]) ∧ FB8 v v') := by
  unfold f_X8_puts
  rw [h.1]
  refine wp_t (gin_N hl (by omega)) (wp_bd (wp_bd (wp_some ⟨⟨?_, ?_, fun i hi => ?_⟩, fun q h0 h1 => ?_, fun j hj => ?_, rfl⟩)))
  · rw [sI_s, sI_n (by omega), h.1, gd_len]; exact nI_1 _
  · rw [gd_len]; omega
  · rw [gd_len] at hi
    rw [sI_n (by omega), n_cl (by omega)]
    by_cases e : i = l.length
    · subst e; rw [sI_s, gd_r]
    · rw [sI_o e, gd_l (by omega)]; exact h.2.2 i (by omega)
  · rw [sI_n h0, sI_n h1]
  · rw [sI_o hj, sI_n (by omega)]
theorem find_ok {v : gV} {l : List Int32} {x : Int32} (h : MB v l) : f_X8_find x v = some (if ix x l < l.length then nI (ix x l) else -1, v) := by
  apply wp_is
  have hl := h.2.1
  unfold f_X8_find
  refine wp_bs1 (Q0 := SE (fun v' : gV => v' = v ∧ ¬ ix x l < l.length) (fun q : Int32 × gV => q = (nI (ix x l), v) ∧ ix x l < l.length)) (wp_cnt (fun i v' => v' = v ∧ i ≤ ix x l) l.length 0 v (by omega) (Nat.zero_le _) ⟨rfl, Nat.zero_le _⟩ ?_ ?_) ?_ ?_
  · rintro i v1 hi ⟨rfl, h1⟩
    show wp (f_X8_find_B2 x (nI i) v1) _
    unfold f_X8_find_B2
    rw [h.1, n_cl (by omega), h.2.2 i hi]
    refine wp_f (by rw [n_le (by omega) (by omega)]; omega) (wp_t (gin_N (by omega) (by omega)) (wp_if (fun c => ?_) (fun c => ?_)))
    · rw [ix_at l i h1 hi] at c
      exact wp_some ⟨by rw [c], by omega⟩
    · rw [ix_at l i h1 hi] at c
      exact wp_some ⟨nI_1 i, rfl, by omega⟩
  · rintro v1 ⟨rfl, h1⟩
    show wp (f_X8_find_B2 x (nI l.length) v1) _
    unfold f_X8_find_B2
    rw [h.1]
    exact wp_t (by rw [n_le (by omega) (by omega)]; omega) (wp_some ⟨rfl, by omega⟩)
  · rintro v1 ⟨e1, e2⟩
    have e1 : v1 = v := e1
    subst e1
    rw [if_neg e2]
    exact wp_some rfl
  · rintro q ⟨e1, e2⟩
    rw [if_pos e2, e1]
    exact wp_some rfl
theorem er_at {l : List Int32} {k i : Nat} : (l.eraseIdx k).getD i 0 = if i < k then l.getD i 0 else l.getD (i + 1) 0 := by
  rw [List.getD_eq_getElem?_getD, List.getElem?_eraseIdx]
  by_cases h : i < k
  · rw [if_pos h, if_pos h, List.getD_eq_getElem?_getD]
  · rw [if_neg h, if_neg h, List.getD_eq_getElem?_getD]
theorem takes_ok {v : gV} {l : List Int32} {k : Nat} (h : MB v l) (hk : k < l.length) : wp (f_X8_takes (nI k) v) (fun v' => MB v' (l.eraseIdx k) ∧ FB8 v v') := by
  have hl := h.2.1
  have he : (l.eraseIdx k).length = l.length - 1 := by rw [List.length_eraseIdx, if_pos hk]
  unfold f_X8_takes
  rw [h.1, l_1, n_sub (by omega)]
  refine wp_bd (wp_bx1 (wp_cnt (Z := fun v' => MB v' (l.eraseIdx k) ∧ FB8 v v') (fun i v' => k ≤ i ∧ v'.1 0 17 = nI (l.length - 1) ∧ (∀ j, j < l.length → v'.1 13 j = if j < k ∨ i ≤ j then l.getD j 0 else l.getD (j + 1) 0) ∧ FB8 v v') (l.length - 1) k _ (by omega) (by omega) ⟨Nat.le_refl _, sI_s, fun j hj => ?_, fun q h0 h1 => sI_n h0, fun j hj => sI_o hj, rfl⟩ ?_ ?_) (fun v' hv => wp_some hv))
  · rw [sI_n (by omega), if_pos (by omega)]; exact h.2.2 j hj
  · rintro i v1 hi ⟨hki, h1, h2, h3⟩
    show wp (f_X8_takes_B12 (nI i) v1) _
    unfold f_X8_takes_B12
    rw [h1, l_1, n_add]
    refine wp_f (by rw [n_le (by omega) (by omega)]; omega) (wp_t (gin_N (by omega) (by omega)) (wp_t (gin_N (by omega) (by omega)) (wp_bd (wp_some ⟨rfl, ?_⟩))))
    rw [n_cl (a := i) (by omega), n_cl (a := i + 1) (by omega)]
    refine ⟨by omega, ?_, fun j hj => ?_, fun q h0 q1 => ?_, fun j hj => ?_, h3.2.2⟩
    · show (sI v1 13 i _).1 0 17 = _
      rw [sI_n (by omega)]; exact h1
    · show (sI v1 13 i _).1 13 j = _
      by_cases e : j = i
      · subst e
        rw [sI_s, if_neg (by omega), h2 (j + 1) (by omega), if_pos (by omega)]
      · rw [sI_o e, h2 j hj]
        by_cases z : j < k ∨ i ≤ j
        · rw [if_pos z, if_pos (by omega)]
        · rw [if_neg z, if_neg (by omega)]
    · show (sI v1 13 i _).1 q = _
      rw [sI_n q1]; exact h3.1 q h0 q1
    · show (sI v1 13 i _).1 0 j = _
      rw [sI_n (by omega)]; exact h3.2.1 j hj
  · rintro v1 ⟨hki, h1, h2, h3⟩
    show wp (f_X8_takes_B12 (nI (l.length - 1)) v1) _
    unfold f_X8_takes_B12
    rw [h1]
    refine wp_t (by rw [n_le (by omega) (by omega)]; omega) (wp_some ⟨⟨by rw [he]; exact h1, by omega, fun j hj => ?_⟩, h3⟩)
    rw [he] at hj
    rw [h2 j (by omega), er_at]
    by_cases z : j < k
    · rw [if_pos (Or.inl z), if_pos z]
    · rw [if_neg (by omega), if_neg z]
