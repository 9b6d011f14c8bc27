/-! THE REFERENCE: sheets -/
theorem sheet_M {u : gV} {a : Ab} {s f n : Int32} (h : InvM u a) : OKM (f_X8_sheet s f n u) (sp_sheet s f n a) := by
  unfold OKM f_X8_sheet
  refine wp_gt isSheet_M (fun g1 => ?_) (fun g1 => wp_gt (in_g 3 (by decide)) (fun g2 => ?_) (fun g2 => wp_if (fun c1 => wp_if (fun c2 => ?_) (fun c2 => ?_)) (fun c1 => ?_)))
  · have hs : sp_sheet s f n a = (-2, a) := by unfold sp_sheet; rw [if_neg (fun q => by rw [g1] at q; exact Bool.false_ne_true q.1)]
    rw [hs]; exact wp_some ⟨rfl, h⟩
  · have hs : sp_sheet s f n a = (-2, a) := by unfold sp_sheet; rw [if_neg (fun q => by rw [g2] at q; exact Bool.false_ne_true q.2.1)]
    rw [hs]; exact wp_some ⟨rfl, h⟩
  · have hs : sp_sheet s f n a = (n, shF (s.toNatClampNeg) f (n.toNatClampNeg) (fun _ => 0) a) := by unfold sp_sheet; rw [if_pos ⟨g1, g2, c1⟩, if_pos c2]
    rw [hs]
    obtain ⟨k, hk, -, rfl, ck⟩ := gin_cl g1
    rw [ck]
    rw [i_le] at c1 c2
    obtain ⟨m, hm, rfl, em⟩ := i_of (x := n) (by have e0 : (0 : Int32).toInt = 0 := by decide
                                                 omega)
    have e60 : (60 : Int32).toInt = 60 := by decide
    have hm60 : m ≤ 60 := by omega
    rw [n_cl hm]
    refine wp_t g1 (wp_bd (wp_t g1 (wp_bd ?_)))
    generalize hw : sI (sI u 1 k f) 2 k (nI m) = w
    have w1 : ∀ q, q ≠ 1 → q ≠ 2 → w.1 q = u.1 q := fun q q1 q2 => by rw [← hw, sI_n q2, sI_n q1]
    refine wp_bx1 (wp_cnt (Z := fun v' => InvM v' (shF k f m (fun _ => 0) a)) (fun i v' => (∀ q, q ≠ 3 → v'.1 q = w.1 q) ∧ (∀ j, (j < 60 * k ∨ 60 * k + 60 ≤ j) → v'.1 3 j = w.1 3 j) ∧ ∀ j, j < i → v'.1 3 (60 * k + j) = 0) m 0 w (by omega) (Nat.zero_le _) ⟨fun _ _ => rfl, fun _ _ => rfl, fun j hj => absurd hj (Nat.not_lt_zero j)⟩ ?_ ?_) (fun v' hv => wp_some ⟨rfl, hv⟩)
    · rintro i v1 hi ⟨i1, i2, i3⟩
      show wp (f_X8_sheet_B55 (nI k) (nI m) (nI i) v1) _
      unfold f_X8_sheet_B55
      rw [l_60, n_mul, n_add, n_cl (a := 60 * k + i) (by omega)]
      refine wp_f (by rw [n_le (by omega) (by omega)]; omega) (wp_t (gin_N (by omega) (by omega)) (wp_bd (wp_some ⟨nI_1 i, fun q hq => ?_, fun j hj => ?_, fun j hj => ?_⟩)))
      · show (sI v1 3 _ _).1 q = _
        rw [sI_n hq]; exact i1 q hq
      · show (sI v1 3 _ _).1 3 j = _
        rw [sI_o (by omega)]; exact i2 j hj
      · show (sI v1 3 _ _).1 3 (60 * k + j) = _
        by_cases e : j = i
        · subst e; rw [sI_s]
        · rw [sI_o (by omega)]; exact i3 j (by omega)
    · rintro v1 ⟨i1, i2, i3⟩
      show wp (f_X8_sheet_B55 (nI k) (nI m) (nI m) v1) _
      unfold f_X8_sheet_B55
      refine wp_t (by rw [n_le (by omega) (by omega)]; omega) (wp_some ?_)
      refine shM h (fun q q1 q2 q3 q4 => by rw [i1 q q3]; exact w1 q q1 q2) (fun j hj => ?_) (fun j hj => ?_) (fun j hj => ?_) hk (Or.inr (gin3 g2)) hm60 ?_ (fun _ => ⟨?_, i3⟩)
      · rw [i1 1 (by omega), ← hw, sI_n (by omega), sI_o hj]
      · rw [i1 2 (by omega), ← hw, sI_o hj, sI_n (by omega)]
      · rw [i2 j hj, w1 3 (by omega) (by omega)]
      · rw [i1 1 (by omega), ← hw, sI_n (by omega), sI_s]
      · rw [i1 2 (by omega), ← hw, sI_s]
  · have hs : sp_sheet s f n a = fnd 5 a := by unfold sp_sheet; rw [if_pos ⟨g1, g2, c1⟩, if_neg c2]
    rw [hs]; exact finds_M h
  · have hs : sp_sheet s f n a = (-2, a) := by unfold sp_sheet; rw [if_neg (fun q => c1 q.2.2)]
    rw [hs]; exact wp_some ⟨rfl, h⟩
theorem lose_M {u : gV} {a : Ab} {s : Int32} (h : InvM u a) : OKM (f_X8_lose s u) (sp_lose s a) := by
  unfold OKM f_X8_lose
  refine wp_gt isSheet_M (fun g1 => ?_) (fun g1 => ?_)
  · have hs : sp_lose s a = (-2, a) := by unfold sp_lose; rw [if_neg (by rw [g1]; exact Bool.false_ne_true)]
    rw [hs]; exact wp_some ⟨rfl, h⟩
  · obtain ⟨k, hk, -, rfl, ck⟩ := gin_cl g1
    obtain ⟨hF, hN⟩ := h.1.2.2.2.2.2.2.2.2 k hk
    obtain ⟨e0, e1⟩ := h.2.2.2.2.2.2.2.2.2.1 k hk
    rw [ck, e0]
    refine wp_t g1 (wp_if (fun c1 => ?_) (fun c1 => ?_))
    · rw [frm_p hF] at c1
      have hs : sp_lose (nI k) a = (nI (aSN a k), shF k (-1) 0 (aSI a k) a) := by unfold sp_lose; rw [if_pos g1, ck, if_neg c1]
      rw [hs]
      refine wp_t g1 (wp_bd (wp_t g1 (wp_some ⟨?_, ?_⟩)))
      · show (sI u 1 k (-1)).1 2 k = _
        rw [sI_n (by omega)]; exact (e1 c1).1
      · exact shM h (fun q q1 _ _ _ => sI_n q1) (fun j hj => sI_o hj) (fun j hj => by rw [sI_n (by omega)]) (fun j hj => by rw [sI_n (by omega)]) hk (Or.inl rfl) (by omega) sI_s (fun q => absurd rfl q)
    · rw [frm_p hF] at c1
      have c1 : aSF a k = -1 := Decidable.byContradiction c1
      have hs : sp_lose (nI k) a = fnd 1 a := by unfold sp_lose; rw [if_pos g1, ck, if_pos c1]
      rw [hs]; exact finds_M h
/-- an item that can be reached, or why not -/
theorem lacks_M {u : gV} {a : Ab} {s f i : Int32} (h : InvM u a) (g1 : gin s 4 = true) (g2 : gin f 3 = true) : wp (f_X8_lacks s f i u) (fun z => z.1 = (refv s f i a).1 ∧ InvM z.2 (refv s f i a).2 ∧ (z.1 = 0 → z.2 = u ∧ gin i (aSN a (s.toNatClampNeg)) = true ∧ aSF a (s.toNatClampNeg) ≠ -1 ∧ aSF a (s.toNatClampNeg) = f)) := by
  have ff : ∀ (k : Int32) (hk : k = 1 ∨ k = 2 ∨ k = 3), wp (bi (f_X8_finds k u) (fun r v1 => some (r, v1))) (fun z => z.1 = (fnd k a).1 ∧ InvM z.2 (fnd k a).2 ∧ (z.1 = 0 → z.2 = u ∧ gin i (aSN a (s.toNatClampNeg)) = true ∧ aSF a (s.toNatClampNeg) ≠ -1 ∧ aSF a (s.toNatClampNeg) = f)) := fun k hk => by
    refine wp_mono (finds_M h) (fun z hz => ⟨hz.1, hz.2, fun q => ?_⟩)
    have := hz.1
    rw [q] at this
    have this : (0 : Int32) = -10 - k := this
    rcases hk with rfl | rfl | rfl
    · exact absurd this (by decide)
    · exact absurd this (by decide)
    · exact absurd this (by decide)
  obtain ⟨k, hk, -, rfl, ck⟩ := gin_cl g1
  obtain ⟨hF, hN⟩ := h.1.2.2.2.2.2.2.2.2 k hk
  obtain ⟨e0, e1⟩ := h.2.2.2.2.2.2.2.2.2.1 k hk
  unfold f_X8_lacks
  rw [ck] at ff ⊢
  rw [e0]
  refine wp_t g1 (wp_if (fun c1 => ?_) (fun c1 => ?_))
  · rw [frm_p hF] at c1
    have e1 := (e1 c1).1
    refine wp_t g1 (wp_if (fun c2 => ?_) (fun c2 => ?_))
    · refine wp_t g1 ?_
      have e9 : ((u.1 2 k - (1 : Int32)).toInt64).toInt = (aSN a k : Int) - 1 := by
        rw [e1, Int32.toInt_toInt64]
        have : ∀ n, n ≤ 60 → (nI n - 1).toInt = (n : Int) - 1 := by decide +kernel
        exact this _ hN
      refine wp_gt (in_g (aSN a k) e9) (fun c3 => ?_) (fun c3 => ?_)
      · have hs : refv (nI k) f i a = fnd 2 a := by unfold refv; rw [if_pos ⟨g1, g2⟩, ck, if_neg c1, if_pos c2, if_neg (by rw [c3]; exact Bool.false_ne_true)]
        rw [hs]; exact ff 2 (by simp)
      · have hs : refv (nI k) f i a = (0, a) := by unfold refv; rw [if_pos ⟨g1, g2⟩, ck, if_neg c1, if_pos c2, if_pos c3]
        rw [hs]; exact wp_some ⟨rfl, h, fun _ => ⟨rfl, c3, c1, c2⟩⟩
    · have hs : refv (nI k) f i a = fnd 3 a := by unfold refv; rw [if_pos ⟨g1, g2⟩, ck, if_neg c1, if_neg c2]
      rw [hs]; exact ff 3 (by simp)
  · rw [frm_p hF] at c1
    have c1 : aSF a k = -1 := Decidable.byContradiction c1
    have hs : refv (nI k) f i a = fnd 1 a := by unfold refv; rw [if_pos ⟨g1, g2⟩, ck, if_pos c1]
    rw [hs]; exact ff 1 (by simp)
theorem refv_n {s f i : Int32} {a : Ab} (h : ¬ (gin s 4 = true ∧ gin f 3 = true)) : refv s f i a = (-2, a) := by unfold refv; rw [if_neg h]
theorem get_M {u : gV} {a : Ab} {s f i : Int32} (h : InvM u a) : OKM (f_X8_get s f i u) (sp_get s f i a) := by
  unfold OKM f_X8_get f_X8_get_J29
  have no : ¬ (gin s 4 = true ∧ gin f 3 = true) → sp_get s f i a = (-2147483648, a) := fun q => by
    unfold sp_get
    rw [refv_n q, if_neg (show ¬ (-2 : Int32) = 0 by decide)]
  refine wp_gt isSheet_M (fun g1 => ?_) (fun g1 => wp_gt (in_g 3 (by decide)) (fun g2 => ?_) (fun g2 => ?_))
  · rw [no (fun q => by rw [g1] at q; exact Bool.false_ne_true q.1)]; exact wp_some ⟨rfl, h⟩
  · rw [no (fun q => by rw [g2] at q; exact Bool.false_ne_true q.2)]; exact wp_some ⟨rfl, h⟩
  · refine wp_bi (lacks_M h g1 g2) ?_
    rintro r v1 ⟨z1, z2, z3⟩
    have z1 : r = (refv s f i a).1 := z1
    have z2 : InvM v1 (refv s f i a).2 := z2
    refine wp_if (fun c1 => ?_) (fun c1 => ?_)
    · have hs : sp_get s f i a = (aSI a (s.toNatClampNeg) (i.toNatClampNeg), a) := by unfold sp_get; rw [if_pos (z1.symm.trans c1)]
      obtain ⟨e1, g2, g3, g4⟩ := z3 c1
      have e1 : v1 = u := e1
      subst e1
      rw [hs]
      obtain ⟨k, hk, -, rfl, ck⟩ := gin_cl g1
      rw [ck] at g2 g3 ⊢
      obtain ⟨m, hm, -, rfl, cm⟩ := gin_cl g2
      have hN := (h.1.2.2.2.2.2.2.2.2 k hk).2
      rw [cm, l_60, n_mul, n_add, n_cl (a := 60 * k + m) (by omega)]
      exact wp_t (gin_N (by omega) (by omega)) (wp_some ⟨((h.2.2.2.2.2.2.2.2.2.1 k hk).2 g3).2 m hm, h⟩)
    · have hs : sp_get s f i a = (-2147483648, (refv s f i a).2) := by unfold sp_get; rw [if_neg (fun q => c1 (z1.trans q))]
      rw [hs]; exact wp_some ⟨rfl, z2⟩
theorem cut_M {u : gV} {f x : Int32} : f_X8_cut f x u = some (cut f x, u) := by
  apply wp_is
  unfold f_X8_cut cut
  refine wp_if (fun c1 => ?_) (fun c1 => wp_if (fun c2 => ?_) (fun c2 => ?_))
  · rw [if_pos c1]; exact wp_some rfl
  · rw [if_neg c1, if_pos c2]; exact wp_some rfl
  · rw [if_neg c1, if_neg c2]; exact wp_some rfl
theorem lay_M {u : gV} {a : Ab} {s f i x : Int32} (h : InvM u a) : OKM (f_X8_lay s f i x u) (sp_lay s f i x a) := by
  unfold OKM f_X8_lay
  have no : ¬ (gin s 4 = true ∧ gin f 3 = true) → sp_lay s f i x a = (-2, a) := fun q => by
    unfold sp_lay
    rw [refv_n q, if_neg (show ¬ (-2 : Int32) = 0 by decide)]
  refine wp_gt isSheet_M (fun g1 => ?_) (fun g1 => wp_gt (in_g 3 (by decide)) (fun g2 => ?_) (fun g2 => ?_))
  · rw [no (fun q => by rw [g1] at q; exact Bool.false_ne_true q.1)]; exact wp_some ⟨rfl, h⟩
  · rw [no (fun q => by rw [g2] at q; exact Bool.false_ne_true q.2)]; exact wp_some ⟨rfl, h⟩
  · refine wp_bi (lacks_M h g1 g2) ?_
    rintro r v1 ⟨z1, z2, z3⟩
    have z1 : r = (refv s f i a).1 := z1
    have z2 : InvM v1 (refv s f i a).2 := z2
    refine wp_if (fun c1 => ?_) (fun c1 => ?_)
    · have hs : sp_lay s f i x a = (1, shF (s.toNatClampNeg) (aSF a (s.toNatClampNeg)) (aSN a (s.toNatClampNeg)) (upd (aSI a (s.toNatClampNeg)) (i.toNatClampNeg) (cut f x)) a) := by unfold sp_lay; rw [if_pos (z1.symm.trans c1)]
      obtain ⟨e1, g3, g4, g5⟩ := z3 c1
      have e1 : v1 = u := e1
      subst e1
      rw [hs]
      obtain ⟨k, hk, -, rfl, ck⟩ := gin_cl g1
      rw [ck] at g3 g4 g5 ⊢
      obtain ⟨m, hm, -, rfl, cm⟩ := gin_cl g3
      obtain ⟨hF, hN⟩ := h.1.2.2.2.2.2.2.2.2 k hk
      obtain ⟨e0, e1⟩ := h.2.2.2.2.2.2.2.2.2.1 k hk
      obtain ⟨e1, e2⟩ := e1 g4
      rw [cm, l_60, n_mul, n_add, n_cl (a := 60 * k + m) (by omega)]
      refine wp_bi (wp_of cut_M) ?_
      rintro r9 v9 ⟨rfl, rfl⟩
      refine wp_t (gin_N (by omega) (by omega)) (wp_bd (wp_some ⟨rfl, ?_⟩))
      refine shM h (fun q _ _ q3 _ => sI_n q3) (fun j hj => by rw [sI_n (by omega)]) (fun j hj => by rw [sI_n (by omega)]) (fun j hj => sI_o (by omega)) hk hF hN (by rw [sI_n (by omega)]; exact e0) (fun _ => ⟨by rw [sI_n (by omega)]; exact e1, fun j hj => ?_⟩)
      by_cases e : j = m
      · subst e; rw [sI_s, up_s]
      · rw [sI_o (by omega), up_n e]; exact e2 j hj
    · have hs : sp_lay s f i x a = refv s f i a := by unfold sp_lay; rw [if_neg (fun q => c1 (z1.trans q))]
      rw [hs]; exact wp_some ⟨z1, z2⟩
theorem lc_le0 {x y : Int64} : (lg_cmp x y ≤ 0) = (x.toInt ≤ y.toInt) := by
  apply propext
  have h : (lg_cmp x y ≤ 0) ↔ ¬ (0 < lg_cmp x y) := by rw [i_le, i_lt]; omega
  rw [h, lc_gt]; omega
theorem add64 {x y : Int32} (hx : 0 ≤ x.toInt) (hy : 0 ≤ y.toInt) : (x.toInt64 + y.toInt64).toInt = x.toInt + y.toInt := by
  have h1 := i_rng x
  have h2 := i_rng y
  rw [Int64.toInt_add, Int32.toInt_toInt64, Int32.toInt_toInt64]
  exact Int.bmod_eq_of_le (by omega) (by omega)
theorem copy_M {u : gV} {a : Ab} {s i t j n : Int32} (h : InvM u a) : OKM (f_X8_copy s i t j n u) (sp_copy s i t j n a) := by
  unfold OKM f_X8_copy f_X8_copy_J35 f_X8_copy_J111
  refine wp_gt isSheet_M (fun g1 => ?_) (fun g1 => wp_gt isSheet_M (fun g2 => ?_) (fun g2 => ?_))
  · have hs : sp_copy s i t j n a = (-2, a) := by unfold sp_copy; rw [if_neg (fun q => by rw [g1] at q; exact Bool.false_ne_true q.1)]
    rw [hs]; exact wp_some ⟨rfl, h⟩
  · have hs : sp_copy s i t j n a = (-2, a) := by unfold sp_copy; rw [if_neg (fun q => by rw [g2] at q; exact Bool.false_ne_true q.2)]
    rw [hs]; exact wp_some ⟨rfl, h⟩
  · obtain ⟨k, hk, -, rfl, ck⟩ := gin_cl g1
    obtain ⟨m, hm, -, rfl, cm⟩ := gin_cl g2
    obtain ⟨hF, hN⟩ := h.1.2.2.2.2.2.2.2.2 k hk
    obtain ⟨hF', hN'⟩ := h.1.2.2.2.2.2.2.2.2 m hm
    obtain ⟨e0, e1⟩ := h.2.2.2.2.2.2.2.2.2.1 k hk
    obtain ⟨e0', e1'⟩ := h.2.2.2.2.2.2.2.2.2.1 m hm
    rw [ck, cm, e0, e0']
    refine wp_t g1 (wp_if (fun c1 => ?_) (fun c1 => wp_t g2 (wp_if (fun c2 => ?_) (fun c2 => ?_))))
    · rw [frm_n hF] at c1
      have hs : sp_copy (nI k) i (nI m) j n a = fnd 1 a := by
        unfold sp_copy
        rw [if_pos ⟨g1, g2⟩, ck, cm, if_pos (Or.inl c1)]
      rw [hs]; exact finds_M h
    · rw [frm_n hF] at c1
      rw [frm_p hF'] at c2
      obtain ⟨e1, e2⟩ := e1 c1
      obtain ⟨e1', e2'⟩ := e1' c2
      refine wp_t g1 (wp_t g2 (wp_if (fun c3 => ?_) (fun c3 => ?_)))
      · have hs : sp_copy (nI k) i (nI m) j n a = (if hasI (aSN a k) i n = true ∧ hasI (aSN a m) j n = true then (1, shF m (aSF a m) (aSN a m) (va_cpy (aSI a k) (aSI a m) (i.toNatClampNeg) (j.toNatClampNeg) (n.toNatClampNeg)) a) else fnd 2 a) := by
          unfold sp_copy
          rw [if_pos ⟨g1, g2⟩, ck, cm, if_neg (fun q => q.elim c1 c2), if_pos c3]
        rw [hs]
        have z0 : (0 : Int32).toInt = 0 := by decide
        have bad1 : ¬ (0 ≤ i.toInt ∧ 0 ≤ n.toInt ∧ i.toInt + n.toInt ≤ (aSN a k : Int)) → OKM (bi (f_X8_finds 2 u) (fun r v1 => some (r, v1))) (if hasI (aSN a k) i n = true ∧ hasI (aSN a m) j n = true then (1, shF m (aSF a m) (aSN a m) (va_cpy (aSI a k) (aSI a m) (i.toNatClampNeg) (j.toNatClampNeg) (n.toNatClampNeg)) a) else fnd 2 a) := fun q => by
          rw [if_neg (fun z => q (of_decide_eq_true z.1))]; exact finds_M h
        have bad2 : ¬ (0 ≤ j.toInt ∧ 0 ≤ n.toInt ∧ j.toInt + n.toInt ≤ (aSN a m : Int)) → OKM (bi (f_X8_finds 2 u) (fun r v1 => some (r, v1))) (if hasI (aSN a k) i n = true ∧ hasI (aSN a m) j n = true then (1, shF m (aSF a m) (aSN a m) (va_cpy (aSI a k) (aSI a m) (i.toNatClampNeg) (j.toNatClampNeg) (n.toNatClampNeg)) a) else fnd 2 a) := fun q => by
          rw [if_neg (fun z => q (of_decide_eq_true z.2))]; exact finds_M h
        rw [e1, e1']
        refine wp_if (fun c4 => ?_) (fun c4 => wp_if (fun c5 => ?_) (fun c5 => wp_if (fun c6 => ?_) (fun c6 => wp_t g1 (wp_if (fun c7 => ?_) (fun c7 => wp_t g2 (wp_if (fun c8 => ?_) (fun c8 => ?_)))))))
        · rw [i_lt, z0] at c4; exact bad1 (by omega)
        · rw [i_lt, z0] at c5; exact bad2 (by omega)
        · rw [i_lt, z0] at c6; exact bad1 (by omega)
        · rw [i_lt, z0] at c4 c5 c6
          rw [lc_gt, add64 (by omega) (by omega), Int32.toInt_toInt64, n_ti (by omega)] at c7
          exact bad1 (by omega)
        · rw [i_lt, z0] at c4 c5 c6
          rw [lc_gt, add64 (by omega) (by omega), Int32.toInt_toInt64, n_ti (by omega)] at c7
          rw [lc_le0, add64 (by omega) (by omega), Int32.toInt_toInt64, n_ti (by omega)] at c8
          have k1 : hasI (aSN a k) i n = true := decide_eq_true (by omega)
          have k2 : hasI (aSN a m) j n = true := decide_eq_true (by omega)
          rw [if_pos ⟨k1, k2⟩]
          obtain ⟨i', hi', rfl, -⟩ := i_of (x := i) (by omega)
          obtain ⟨j', hj', rfl, -⟩ := i_of (x := j) (by omega)
          obtain ⟨n', hn', rfl, -⟩ := i_of (x := n) (by omega)
          rw [n_ti hi', n_ti hn'] at c7
          rw [n_ti hj', n_ti hn'] at c8
          rw [n_cl hi', n_cl hj', n_cl hn']
          refine wp_bx1 (wp_cnt (Z := fun v' => (∀ q, q ≠ 4 → v'.1 q = u.1 q) ∧ ∀ x, x < n' → v'.1 4 x = aSI a k (i' + x)) (fun y v' => (∀ q, q ≠ 4 → v'.1 q = u.1 q) ∧ ∀ x, x < y → v'.1 4 x = aSI a k (i' + x)) n' 0 u (by omega) (Nat.zero_le _) ⟨fun _ _ => rfl, fun x hx => absurd hx (Nat.not_lt_zero x)⟩ ?_ ?_) ?_
          · rintro y v1 hy ⟨i1, i2⟩
            show wp (f_X8_copy_B120 (nI k) (nI i') (nI m) (nI j') (nI n') (nI y) v1) _
            unfold f_X8_copy_B120
            rw [l_60, n_mul, n_add, n_add, n_cl (a := y) (by omega), n_cl (a := 60 * k + i' + y) (by omega), i1 3 (by omega), show 60 * k + i' + y = 60 * k + (i' + y) by omega, e2 (i' + y) (by omega)]
            refine wp_f (by rw [n_le (by omega) (by omega)]; omega) (wp_t (gin_N (by omega) (by omega)) (wp_t (gin_N (by omega) (by omega)) (wp_bd (wp_some ⟨nI_1 y, fun q hq => ?_, fun x hx => ?_⟩))))
            · show (sI v1 4 _ _).1 q = _
              rw [sI_n hq]; exact i1 q hq
            · show (sI v1 4 _ _).1 4 x = _
              by_cases e : x = y
              · subst e; rw [sI_s]
              · rw [sI_o e]; exact i2 x (by omega)
          · rintro v1 ⟨i1, i2⟩
            show wp (f_X8_copy_B120 (nI k) (nI i') (nI m) (nI j') (nI n') (nI n') v1) _
            unfold f_X8_copy_B120
            exact wp_t (by rw [n_le (by omega) (by omega)]; omega) (wp_some ⟨i1, i2⟩)
          · rintro w ⟨w1, w2⟩
            refine wp_bx1 (wp_cnt (Z := fun v' => InvM v' (shF m (aSF a m) (aSN a m) (va_cpy (aSI a k) (aSI a m) i' j' n') a)) (fun y v' => (∀ q, q ≠ 3 → q ≠ 4 → v'.1 q = u.1 q) ∧ v'.1 4 = w.1 4 ∧ (∀ x, (x < 60 * m + j' ∨ 60 * m + j' + y ≤ x) → v'.1 3 x = u.1 3 x) ∧ ∀ x, x < y → v'.1 3 (60 * m + j' + x) = aSI a k (i' + x)) n' 0 w (by omega) (Nat.zero_le _) ⟨fun q _ q4 => w1 q q4, rfl, fun x _ => by rw [w1 3 (by omega)], fun x hx => absurd hx (Nat.not_lt_zero x)⟩ ?_ ?_) (fun v' hv => wp_some ⟨rfl, hv⟩)
            · rintro y v1 hy ⟨i1, i2, i3, i4⟩
              show wp (f_X8_copy_B157 (nI m) (nI j') (nI n') (nI y) v1) _
              unfold f_X8_copy_B157
              rw [l_60, n_mul, n_add, n_add, n_cl (a := y) (by omega), n_cl (a := 60 * m + j' + y) (by omega), i2, w2 y hy]
              refine wp_f (by rw [n_le (by omega) (by omega)]; omega) (wp_t (gin_N (by omega) (by omega)) (wp_t (gin_N (by omega) (by omega)) (wp_bd (wp_some ⟨nI_1 y, fun q q3 q4 => ?_, ?_, fun x hx => ?_, fun x hx => ?_⟩))))
              · show (sI v1 3 _ _).1 q = _
                rw [sI_n q3]; exact i1 q q3 q4
              · show (sI v1 3 _ _).1 4 = _
                rw [sI_n (by omega)]; exact i2
              · show (sI v1 3 _ _).1 3 x = _
                rw [sI_o (by omega)]; exact i3 x (by omega)
              · show (sI v1 3 _ _).1 3 (60 * m + j' + x) = _
                by_cases e : x = y
                · subst e; rw [sI_s]
                · rw [sI_o (by omega)]; exact i4 x (by omega)
            · rintro v1 ⟨i1, i2, i3, i4⟩
              show wp (f_X8_copy_B157 (nI m) (nI j') (nI n') (nI n') v1) _
              unfold f_X8_copy_B157
              refine wp_t (by rw [n_le (by omega) (by omega)]; omega) (wp_some ?_)
              refine shM h (fun q _ _ q3 q4 => i1 q q3 q4) (fun x _ => by rw [i1 1 (by omega) (by omega)]) (fun x _ => by rw [i1 2 (by omega) (by omega)]) (fun x hx => i3 x (by omega)) hm hF' hN' (by rw [i1 1 (by omega) (by omega)]; exact e0') (fun _ => ⟨by rw [i1 2 (by omega) (by omega)]; exact e1', fun x hx => ?_⟩)
              unfold va_cpy
              by_cases z : j' ≤ x ∧ x < j' + n'
              · rw [if_pos z]
                have := i4 (x - j') (by omega)
                rw [show 60 * m + j' + (x - j') = 60 * m + x by omega] at this
                exact this
              · rw [if_neg z, i3 _ (by omega)]; exact e2' x hx
        · rw [i_lt, z0] at c4 c5 c6
          rw [lc_le0, add64 (by omega) (by omega), Int32.toInt_toInt64, n_ti (by omega)] at c8
          exact bad2 (by omega)
      · have hs : sp_copy (nI k) i (nI m) j n a = fnd 4 a := by
          unfold sp_copy
          rw [if_pos ⟨g1, g2⟩, ck, cm, if_neg (fun q => q.elim c1 c2), if_neg c3]
        rw [hs]; exact finds_M h
    · rw [frm_p hF'] at c2
      have c2 : aSF a m = -1 := Decidable.byContradiction c2
      have hs : sp_copy (nI k) i (nI m) j n a = fnd 1 a := by
        unfold sp_copy
        rw [if_pos ⟨g1, g2⟩, ck, cm, if_pos (Or.inr c2)]
      rw [hs]; exact finds_M h
