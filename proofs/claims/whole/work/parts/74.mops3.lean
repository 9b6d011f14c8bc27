/-! THE REFERENCE: the calls, third part -/
theorem count_M {u : gV} {a : Ab} {w : Int32} (h : InvM u a) : OKM (f_X8_count w u) (sp_count w a) := by
  unfold OKM f_X8_count f_X8_count_J66 sp_count
  refine wp_bv (reads_M h) ?_
  rintro u1 ⟨h1, h2⟩
  have h2' := h1.1
  refine wp_if (fun c => ?_) (fun c => ?_)
  · rw [if_pos c]; exact wp_some ⟨h1.2.1.1, h1.1⟩
  rw [if_neg c]
  refine wp_if (fun c => ?_) (fun c => ?_)
  · rw [if_pos c]; exact wp_some ⟨h1.2.2.1, h1.1⟩
  rw [if_neg c]
  refine wp_if (fun c => ?_) (fun c => ?_)
  · rw [if_pos c]
    subst c
    exact wp_t (by decide) (wp_some ⟨h1.1.2.1.1, h1.1⟩)
  rw [if_neg c]
  refine wp_if (fun c => ?_) (fun c => ?_)
  · rw [if_pos c]
    subst c
    exact wp_t (by decide) (wp_some ⟨h1.1.2.2.1.1, h1.1⟩)
  rw [if_neg c]
  refine wp_if (fun c => ?_) (fun c => ?_)
  · rw [if_pos c]; exact wp_some ⟨h2.2.1.1, h1.1⟩
  rw [if_neg c]
  refine wp_if (fun c => ?_) (fun c => ?_)
  · rw [if_pos c]
    refine wp_bi (wp_of (servedBy_M (d := 9) h1.tm h2 (by omega))) ?_
    rintro r3 u3 ⟨rfl, rfl⟩
    refine wp_bi (wp_of (ones_M (Nat.lt_trans (srvN_lt (aP_ok h.1)) (by omega)))) ?_
    rintro r4 u4 ⟨rfl, rfl⟩
    exact wp_some ⟨rfl, h1.1⟩
  rw [if_neg c]
  refine wp_if (fun c => ?_) (fun c => ?_)
  · rw [if_pos c]
    exact wp_t (by decide) (wp_some ⟨h1.1.2.2.2.2.2.1, h1.1⟩)
  rw [if_neg c]
  refine wp_if (fun c => ?_) (fun c => ?_)
  · rw [if_pos c]; exact wp_some ⟨h1.1.2.2.2.2.2.2.2.2.1.1, h1.1⟩
  rw [if_neg c]
  refine wp_if (fun c => ?_) (fun c => ?_)
  · rw [if_pos c]; exact wp_some ⟨h1.1.2.2.2.2.2.2.2.2.2.2, h1.1⟩
  rw [if_neg c]
  exact wp_some ⟨rfl, h1.1⟩
theorem bagOf_M {u : gV} {a : Ab} {d : Nat} {i : Int32} (h2 : LV u (aP a) (aX a)) (hd : d < 10) (h0 : -1 ≤ i.toInt) (h9 : i.toInt ≤ 27) : f_X8_bagOf (nI d) i u = some (bagv a d i, u) := by
  apply wp_is
  obtain ⟨-, -, b3, b4, b5⟩ := h2.1 d hd
  have b3 : u.1 16 d = nI (beh a d).1.2.1.length := b3
  have b4 : (beh a d).1.2.1.length ≤ 29 := b4
  have b5 : ∀ i, i < (beh a d).1.2.1.length → u.1 17 (29 * d + i) = (beh a d).1.2.1.getD i 0 := b5
  unfold f_X8_bagOf bagv
  generalize (beh a d).1.2.1 = l at *
  rw [n_cl (a := d) (by omega), b3]
  refine wp_if (fun c => ?_) (fun c => ?_)
  · rw [if_pos c]
    exact wp_t (gin_N hd (by omega)) (wp_some rfl)
  · rw [if_neg c]
    obtain ⟨k, hk, rfl, ek⟩ := i_of (x := i) (by
      have e1 : (-1 : Int32).toInt = -1 := by decide
      have : i.toInt ≠ -1 := fun q => c (i_eq.mpr (by rw [q, e1]))
      omega)
    rw [n_cl hk, l_29, n_mul, n_add, n_cl (a := 29 * d + k) (by omega)]
    refine wp_t (gin_N hd (by omega)) (wp_if (fun c2 => ?_) (fun c2 => ?_))
    · rw [n_le (by omega) (by omega)] at c2
      rw [if_neg (show ¬ k < l.length by omega)]
      exact wp_some rfl
    · rw [n_le (by omega) (by omega)] at c2
      rw [if_pos (show k < l.length by omega), b5 k (by omega)]
      exact wp_t (gin_N (by omega) (by omega)) (wp_some rfl)
theorem bag_M {u : gV} {a : Ab} {d i : Int32} (h : InvM u a) : OKM (f_X8_bag d i u) (sp_bag d i a) := by
  unfold OKM f_X8_bag
  refine wp_bv (reads_M h) ?_
  rintro u1 ⟨h1, h2⟩
  refine wp_gt isDay_M (fun c1 => ?_) (fun c1 => wp_gt (in_i (-1) 27 (by decide) (by decide)) (fun c2 => ?_) (fun c2 => ?_))
  · have hs : sp_bag d i a = (-2, a) := by unfold sp_bag; rw [if_neg (fun q => by rw [c1] at q; exact Bool.false_ne_true q.1)]
    rw [hs]
    exact wp_some ⟨rfl, h1.1⟩
  · have hs : sp_bag d i a = (-2, a) := by unfold sp_bag; rw [if_neg (fun q => of_decide_eq_false c2 q.2)]
    rw [hs]
    exact wp_some ⟨rfl, h1.1⟩
  · have c3 := of_decide_eq_true c2
    have hs : sp_bag d i a = (bagv a (d.toNatClampNeg) i, a) := by unfold sp_bag; rw [if_pos ⟨c1, c3⟩]
    rw [hs]
    obtain ⟨k, hk, -, rfl, ck⟩ := gin_cl c1
    rw [ck]
    refine wp_bi (wp_of (bagOf_M h2 hk c3.1 c3.2)) ?_
    rintro r3 u3 ⟨rfl, rfl⟩
    exact wp_some ⟨rfl, h1.1⟩
