/-! THE CLASS: the bag -/
theorem wp_is {α : Type} {o : Option α} {a : α} (h : wp o (fun x => x = a)) : o = some a := by
  obtain ⟨x, e, rfl⟩ := h
  exact e
theorem wp_of {α : Type} {o : Option α} {a : α} (h : o = some a) : wp o (fun x => x = a) := ⟨a, h, rfl⟩
theorem ix_at {x : Int32} : ∀ (l : List Int32) (i : Nat), i ≤ ix x l → i < l.length → ((l.getD i 0 = x) = (ix x l = i))
  | [], i, _, h => absurd h (Nat.not_lt_zero i)
  | y :: t, 0, _, _ => by
    rw [ix]
    by_cases e : y = x
    · simp [e]
    · simp [e]
  | y :: t, i + 1, h, hl => by
    rw [ix] at h ⊢
    by_cases e : y = x
    · rw [if_pos e] at h
      omega
    · rw [if_neg e] at h ⊢
      have := ix_at (x := x) t i (by omega) (by simpa using hl)
      rw [List.getD_cons_succ, this]
      apply propext
      omega
def bgR (v : gV) (b : Nat) (l : List Int32) : Prop := v.1 b 1 = nI l.length ∧ l.length ≤ 29 ∧ ∀ i, i < l.length → v.1 (b + 1) i = l.getD i 0
/-- nothing but labels b and b + 1 has changed -/
def FB (b : Nat) (v v' : gV) : Prop := (∀ q, q ≠ b → q ≠ b + 1 → v'.1 q = v.1 q) ∧ v'.2 = v.2
theorem FB.rf {b : Nat} {v : gV} : FB b v v := ⟨fun _ _ _ => rfl, rfl⟩
theorem FB.tr {b : Nat} {v v' v'' : gV} (h : FB b v v') (h' : FB b v' v'') : FB b v v'' := ⟨fun q h1 h2 => (h'.1 q h1 h2).trans (h.1 q h1 h2), h'.2.trans h.2⟩
theorem bgR.kept {v v' : gV} {b : Nat} {l : List Int32} (h : bgR v b l) (h1 : v'.1 b 1 = v.1 b 1) (h2 : ∀ i, i < 29 → v'.1 (b + 1) i = v.1 (b + 1) i) : bgR v' b l := ⟨h1.trans h.1, h.2.1, fun i hi => (h2 i (by have := h.2.1; omega)).trans (h.2.2 i hi)⟩
theorem placeOf_ok {v : gV} {b : Nat} {l : List Int32} (x : Int32) (h : bgR v b l) : f_X0_placeOf b x v = some (if ix x l < l.length then nI (ix x l) else -1, v) := by
  apply wp_is
  unfold f_X0_placeOf
  have hb := h.2.1
  have hle := ix_le x l
  refine wp_bs1 (wp_cnt (Z := fun o : gV ⊕ (Int32 × gV) => match o with | .inl v' => v' = v ∧ ix x l = l.length | .inr r => r.2 = v ∧ ix x l < l.length ∧ r.1 = nI (ix x l)) (fun i v' => v' = v ∧ i ≤ ix x l) l.length 0 v (by omega) (Nat.zero_le _) ⟨rfl, Nat.zero_le _⟩ ?_ ?_) ?_ ?_
  · rintro i v' hi ⟨rfl, hx⟩
    show wp (f_X0_placeOf_B2 b x (nI i) v') _
    unfold f_X0_placeOf_B2
    refine wp_f (by rw [h.1, n_le (by omega) (by omega)]; omega) (wp_t (gin_N (by omega) (by omega)) ?_)
    rw [n_cl (by omega), h.2.2 i hi]
    refine wp_if (fun hc => ?_) (fun hc => ?_)
    · rw [ix_at l i hx hi] at hc
      exact wp_some ⟨rfl, by omega, by rw [hc]⟩
    · rw [ix_at l i hx hi] at hc
      exact wp_some ⟨nI_1 i, rfl, by omega⟩
  · rintro v' ⟨rfl, hx⟩
    show wp (f_X0_placeOf_B2 b x (nI l.length) v') _
    unfold f_X0_placeOf_B2
    exact wp_t (by rw [h.1, n_le (by omega) (by omega)]; exact Nat.le_refl _) (wp_some ⟨rfl, by omega⟩)
  · rintro v' ⟨rfl, e⟩
    exact wp_some (by rw [if_neg (by omega)])
  · rintro ⟨r, v'⟩ ⟨rfl, e1, e2⟩
    exact wp_some (by rw [if_pos e1]; rw [show r = _ from e2])
theorem putAtBottom_ok {v : gV} {b : Nat} {l : List Int32} (x : Int32) (h : bgR v b l) (hl : l.length < 29) : wp (f_X0_putAtBottom b x v) (fun v' => bgR v' b (l ++ [x]) ∧ FB b v v') := by
  unfold f_X0_putAtBottom
  rw [h.1]
  refine wp_f (by rw [n_le (by omega) (by omega)]; omega) (wp_t (gin_N hl (by omega)) (wp_bd (wp_bd (wp_some ?_))))
  rw [n_cl (by omega), sI_n (q := b + 1) (a := b) (by omega), h.1, l_1, n_add]
  refine ⟨⟨?_, ?_, fun i hi => ?_⟩, fun q h1 h2 => ?_, rfl⟩
  · rw [sI_s, List.length_append]; rfl
  · rw [List.length_append]; simp; omega
  · rw [sI_n (by omega)]
    rw [List.length_append] at hi
    simp at hi
    by_cases e : i = l.length
    · subst e
      rw [sI_s, gd_r]
    · rw [sI_o e, gd_l (by omega)]
      exact h.2.2 i (by omega)
  · rw [sI_n h1, sI_n h2]
theorem er_get {l : List Int32} {i k : Nat} : (l.eraseIdx i).getD k 0 = if k < i then l.getD k 0 else l.getD (k + 1) 0 := by
  rw [List.getD_eq_getElem?_getD, List.getElem?_eraseIdx]
  split
  · rw [List.getD_eq_getElem?_getD]
  · rw [List.getD_eq_getElem?_getD]
theorem takeOut_ok {v : gV} {b : Nat} {l : List Int32} {p : Nat} (h : bgR v b l) (hp : p < l.length) : wp (f_X0_takeOut b (nI p) v) (fun v' => bgR v' b (l.eraseIdx p) ∧ FB b v v') := by
  unfold f_X0_takeOut
  have hb := h.2.1
  rw [h.1]
  refine wp_f (by rw [l_0, n_lt (by omega) (by omega)]; omega) (wp_f (by rw [n_le (by omega) (by omega)]; omega) (wp_bd ?_))
  rw [l_1, n_sub (by omega)]
  refine wp_bx1 (wp_cnt (Z := fun v' => v'.1 b 1 = nI (l.length - 1) ∧ (∀ k, k < l.length → v'.1 (b + 1) k = if p ≤ k ∧ k < l.length - 1 then l.getD (k + 1) 0 else l.getD k 0) ∧ FB b v v') (fun j v' => p ≤ j ∧ v'.1 b 1 = nI (l.length - 1) ∧ (∀ k, k < l.length → v'.1 (b + 1) k = if p ≤ k ∧ k < j then l.getD (k + 1) 0 else l.getD k 0) ∧ FB b v v') (l.length - 1) p _ (by omega) (by omega) ⟨Nat.le_refl _, sI_s, fun k hk => ?_, ⟨fun q h1 _ => sI_n h1, rfl⟩⟩ ?_ ?_) ?_
  · rw [if_neg (by omega), sI_n (by omega)]
    exact h.2.2 k hk
  · rintro j v' hj ⟨h0, h1, h2, h3⟩
    show wp (f_X0_takeOut_B24 b (nI j) v') _
    unfold f_X0_takeOut_B24
    rw [h1]
    refine wp_f (by rw [n_le (by omega) (by omega)]; omega) ?_
    rw [l_1, n_add]
    refine wp_t (gin_N (by omega) (by omega)) (wp_t (gin_N (by omega) (by omega)) (wp_bd (wp_some ⟨rfl, by omega, ?_, fun k hk => ?_, h3.tr ⟨fun q _ h5 => sI_n h5, rfl⟩⟩)))
    · rw [sI_n (by omega)]; exact h1
    · rw [n_cl (by omega), n_cl (by omega)]
      by_cases e : k = j
      · subst e
        rw [sI_s, h2 _ (by omega), if_neg (by omega), if_pos (by omega)]
      · rw [sI_o e, h2 k hk]
        by_cases e2 : p ≤ k ∧ k < j
        · rw [if_pos e2, if_pos (by omega)]
        · rw [if_neg e2, if_neg (by omega)]
  · rintro v' ⟨-, h1, h2, h3⟩
    show wp (f_X0_takeOut_B24 b (nI (l.length - 1)) v') _
    unfold f_X0_takeOut_B24
    rw [h1]
    exact wp_t (by rw [n_le (by omega) (by omega)]; exact Nat.le_refl _) (wp_some ⟨h1, h2, h3⟩)
  · rintro v' ⟨h1, h2, h3⟩
    refine wp_some ⟨⟨?_, ?_, fun i hi => ?_⟩, h3⟩
    · rw [er_len hp]; exact h1
    · rw [er_len hp]; omega
    · rw [er_len hp] at hi
      rw [h2 i (by omega), er_get]
      by_cases e : i < p
      · rw [if_neg (by omega), if_pos e]
      · rw [if_pos (by omega), if_neg e]
theorem gcp_ok {sp dp m n0 n1 : Nat} (h0 : sp + m ≤ n0) (h1 : dp + m ≤ n1) (h2 : n0 < 2147483648) (h3 : n1 < 2147483648) : gcp (nI sp) (nI dp) (nI m) n0 n1 = true := by
  unfold gcp
  rw [n_ti (by omega), n_ti (by omega), n_ti (by omega)]
  exact decide_eq_true (by omega)
theorem cpy_in {f g : Nat → Int32} {sp dp m j : Nat} (h : dp ≤ j) (h2 : j < dp + m) : va_cpy f g sp dp m j = f (sp + (j - dp)) := if_pos ⟨h, h2⟩
theorem cpy_out {f g : Nat → Int32} {sp dp m j : Nat} (h : j < dp ∨ dp + m ≤ j) : va_cpy f g sp dp m j = g j := if_neg (by omega)
theorem become_ok {v : gV} {b q : Nat} {l : List Int32} (h : bgR v q l) (h1 : q ≠ b) (h2 : q ≠ b + 1) : wp (f_X0_become b q v) (fun v' => bgR v' b l ∧ FB b v v') := by
  unfold f_X0_become
  have hb := h.2.1
  rw [h.1]
  refine wp_t (gcp_ok (sp := 0) (dp := 0) (by omega) (by omega) (by omega) (by omega)) (wp_bd (wp_bd (wp_some ?_)))
  rw [sA_n h2, h.1]
  refine ⟨⟨sI_s, hb, fun i hi => ?_⟩, fun r h3 h4 => ?_, rfl⟩
  · rw [sI_n (by omega), sA_s, n_cl (by omega), c_0, cpy_in (Nat.zero_le _) (by omega), Nat.zero_add, Nat.sub_zero]
    exact h.2.2 i hi
  · rw [sI_n h3, sA_n h4]
theorem putOnTop_ok {v : gV} {b : Nat} {l : List Int32} (x : Int32) (h : bgR v b l) (hl : l.length < 29) : wp (f_X0_putOnTop b x v) (fun v' => bgR v' b (x :: l) ∧ FB b v v') := by
  unfold f_X0_putOnTop
  rw [h.1]
  refine wp_f (by rw [n_le (by omega) (by omega)]; omega) (wp_t (gcp_ok (sp := 0) (dp := 1) (by omega) (by omega) (by omega) (by omega)) (wp_bd (wp_t (gin_N (i := 0) (by omega) (by omega)) (wp_bd (wp_bd (wp_some ?_))))))
  rw [sI_n (q := b + 1) (a := b) (by omega), sA_n (by omega), h.1, l_1, n_add]
  refine ⟨⟨?_, ?_, fun i hi => ?_⟩, fun r h3 h4 => ?_, rfl⟩
  · rw [sI_s, List.length_cons]
  · rw [List.length_cons]; omega
  · rw [sI_n (by omega)]
    rw [c_0]
    rw [List.length_cons] at hi
    cases i with
    | zero => rw [sI_s]; rfl
    | succ i =>
      rw [sI_o (by omega), sA_s, n_cl (a := l.length) (by omega), n_cl (a := 1) (by omega)]
      rw [cpy_in (by omega) (by omega), List.getD_cons_succ, ← h.2.2 i (by omega), show 0 + (i + 1 - 1) = i by omega]
  · rw [sI_n h3, sI_n h4, sA_n h4]
