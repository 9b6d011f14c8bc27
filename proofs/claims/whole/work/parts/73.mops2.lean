/-! THE REFERENCE: the calls, second part -/
theorem gin3' {x : Int32} : gin x 3 = true ↔ x = 0 ∨ x = 1 ∨ x = 2 := ⟨gin3, fun h => by rcases h with rfl | rfl | rfl <;> decide⟩
theorem in_g {v : gV} {x : Int32} {hi : Int64} (n : Nat) (hh : hi.toInt = (n : Int) - 1) : f_X8_in x.toInt64 0 hi v = some (b2 (gin x n), v) := by
  rw [in_i 0 ((n : Int) - 1) (by decide) hh, btw_gin]
theorem first_M {u : gV} {a : Ab} {w : Int32} (h : InvM u a) : OKM (f_X8_first w u) (sp_first w a) := by
  unfold OKM f_X8_first
  refine wp_bv (reads_M h) ?_
  rintro u1 ⟨h1, h2⟩
  obtain ⟨-, m1, m2, m3⟩ := h2.2.1
  refine wp_gt (in_g 3 (by decide)) (fun c1 => ?_) (fun c1 => wp_t c1 ?_)
  · have c2 : ¬ (w = 0 ∨ w = 1 ∨ w = 2) := fun q => by rw [gin3'.mpr q] at c1; exact Bool.false_ne_true c1.symm
    have hs : sp_first w a = (-2, a) := by unfold sp_first; rw [if_neg (fun q => c2 (Or.inl q)), if_neg (fun q => c2 (Or.inr (Or.inl q))), if_neg (fun q => c2 (Or.inr (Or.inr q)))]
    rw [hs]
    exact wp_some ⟨rfl, h1.1⟩
  · rcases gin3 c1 with rfl | rfl | rfl
    · exact wp_some ⟨m1, h1.1⟩
    · exact wp_some ⟨m2, h1.1⟩
    · exact wp_some ⟨m3, h1.1⟩
theorem fault_M {u : gV} {a : Ab} {t : Int32} (h : InvM u a) : OKM (f_X8_fault t u) (sp_fault t a) := by
  unfold OKM f_X8_fault
  refine wp_gt isTwo_M (fun c1 => ?_) (fun c1 => wp_if (fun c2 => ?_) (fun c2 => ?_))
  · have hs : sp_fault t a = (-2, a) := by unfold sp_fault; rw [if_neg (by rw [c1]; exact Bool.false_ne_true)]
    rw [hs]
    exact wp_some ⟨rfl, h⟩
  · have hs : sp_fault t a = (flt0 (aT0 a), a) := by unfold sp_fault; rw [if_pos c1, if_pos c2]
    rw [hs]
    refine wp_bi (readsRiders_M h.2.1) ?_
    rintro r u1 ⟨e1, -, e2⟩
    exact wp_some ⟨e1, h.kept e2.K⟩
  · have hs : sp_fault t a = (flt1 (aT1 a), a) := by unfold sp_fault; rw [if_pos c1, if_neg c2]
    rw [hs]
    refine wp_bi (readsBag_M h.2.2.1) ?_
    rintro r u1 ⟨e1, -, e2⟩
    exact wp_some ⟨e1, h.kept e2.K⟩
theorem rider_M {u : gV} {a : Ab} {r w : Int32} (h : InvM u a) : OKM (f_X8_rider r w u) (sp_rider r w a) := by
  have hn := nRi_le h.1.1
  unfold OKM f_X8_rider
  refine wp_bi (readsRiders_M h.2.1) ?_
  rintro r0 u1 ⟨-, e1, e2⟩
  have e1 : RR u1 (aT0 a) := e1
  have h1 : InvM u1 a := h.kept e2.K
  refine wp_gt (isRider_M e1.1 hn) (fun c1 => ?_) (fun c1 => wp_gt (in_g 4 (by decide)) (fun c2 => ?_) (fun c2 => ?_))
  · have hs : sp_rider r w a = (-2, a) := by unfold sp_rider; rw [if_neg (by rw [c1]; exact Bool.false_ne_true)]
    rw [hs]
    exact wp_some ⟨rfl, h1⟩
  · have n : ∀ k, k < 4 → w ≠ nI k := fun k hk q => by rw [q, gin_N hk (by omega)] at c2; exact Bool.false_ne_true c2.symm
    have hs : sp_rider r w a = (-2, a) := by unfold sp_rider; rw [if_pos c1, if_neg (show ¬ w = 0 from n 0 (by omega)), if_neg (show ¬ w = 1 from n 1 (by omega)), if_neg (show ¬ w = 2 from n 2 (by omega)), if_neg (show ¬ w = 3 from n 3 (by omega))]
    rw [hs]
    exact wp_some ⟨rfl, h1⟩
  · obtain ⟨k, hk, -, rfl, ck⟩ := gin_cl c1
    obtain ⟨m, hm, -, rfl, cm⟩ := gin_cl c2
    obtain ⟨a0, a1, a2, a3⟩ := e1.2 k hk
    unfold sp_rider
    rw [if_pos c1, ck, l_4, n_mul, n_add, n_cl (a := 4 * k + m) (by omega)]
    refine wp_t (gin_N (by omega) (by omega)) ?_
    rcases (show m = 0 ∨ m = 1 ∨ m = 2 ∨ m = 3 by omega) with rfl | rfl | rfl | rfl
    · exact wp_some ⟨a0, h1⟩
    · exact wp_some ⟨a1, h1⟩
    · exact wp_some ⟨a2, h1⟩
    · exact wp_some ⟨a3, h1⟩
theorem getsOf_M {u : gV} {a : Ab} {r : Nat} (h1 : RDY u a) (h2 : LV u (aP a) (aX a)) (hr : r < nRi (aT0 a)) : f_X8_getsOf (nI r) u = some (getv a r, u) := by
  apply wp_is
  have hn := nRi_le h1.1.1.1
  unfold f_X8_getsOf
  refine wp_bs1 (Q0 := SE (fun v' : gV => v' = u ∧ lst (getp a r) 10 0 = 10) (fun q : Int32 × gV => q = (nI (lst (getp a r) 10 0), u) ∧ lst (getp a r) 10 0 < 10)) (wp_cnt (fun i v' => v' = u ∧ lst (getp a r) 10 0 = lst (getp a r) (10 - i) i) 10 0 u (by omega) (Nat.zero_le _) ⟨rfl, rfl⟩ ?_ ?_) ?_ ?_
  · rintro i v1 hi ⟨rfl, hx⟩
    obtain ⟨hy1, hy2⟩ := lst_at hi hx
    show wp (f_X8_getsOf_B2 (nI r) (nI i) v1) _
    unfold f_X8_getsOf_B2
    refine wp_f (by rw [l_10, n_le (by omega) (by omega)]; omega) (wp_gt (isServed_M h1.tm h2 hi hr) (fun c => ?_) (fun c => ?_))
    · exact wp_some ⟨nI_1 i, rfl, hy2 c⟩
    · have := hy1 c
      exact wp_some ⟨by rw [this], by omega⟩
  · rintro v1 ⟨rfl, hx⟩
    show wp (f_X8_getsOf_B2 (nI r) (nI 10) v1) _
    unfold f_X8_getsOf_B2
    exact wp_t (by rw [l_10, n_le (by omega) (by omega)]; exact Nat.le_refl _) (wp_some ⟨rfl, lst_end hx⟩)
  · rintro v1 ⟨e1, e2⟩
    have e1 : v1 = u := e1
    subst e1
    unfold getv
    rw [if_neg (by omega)]
    exact wp_some rfl
  · rintro q ⟨e1, e2⟩
    unfold getv
    rw [if_pos e2, e1]
    exact wp_some rfl
theorem gets_M {u : gV} {a : Ab} {r : Int32} (h : InvM u a) : OKM (f_X8_gets r u) (sp_gets r a) := by
  have hn := nRi_le h.1.1
  unfold OKM f_X8_gets
  refine wp_bv (reads_M h) ?_
  rintro u1 ⟨h1, h2⟩
  refine wp_gt (isRider_M h1.2.1.1 hn) (fun c1 => ?_) (fun c1 => ?_)
  · have hs : sp_gets r a = (-2, a) := by unfold sp_gets; rw [if_neg (by rw [c1]; exact Bool.false_ne_true)]
    rw [hs]
    exact wp_some ⟨rfl, h1.1⟩
  · have hs : sp_gets r a = (getv a (r.toNatClampNeg), a) := by unfold sp_gets; rw [if_pos c1]
    rw [hs]
    obtain ⟨k, hk, -, rfl, ck⟩ := gin_cl c1
    rw [ck]
    refine wp_bi (wp_of (getsOf_M h1 h2 hk)) ?_
    rintro r3 u3 ⟨rfl, rfl⟩
    exact wp_some ⟨rfl, h1.1⟩
theorem forget_M {u : gV} {a : Ab} (h : InvM u a) : OKM (f_X8_forget u) (sp_forget a) := by
  unfold OKM f_X8_forget sp_forget
  obtain ⟨⟨o1, o2, o3, o4, o5, o6, o7, o8, o9⟩, t0, t1, w, s0, s1, s2, tp, sn, sh, la⟩ := h
  refine wp_bd (wp_bd (wp_some ⟨sn.1, ⟨o1, o2, o3, o4, o5, o6, Nat.zero_le _, fun z hz => absurd hz (List.not_mem_nil), o9⟩, ?_, ?_, fun k hk => ?_, ?_, ?_, ?_, ?_, ⟨?_, fun i hi => absurd hi (Nat.not_lt_zero i)⟩, fun s hs => ?_, ?_⟩))
  · show T0 (sI u 0 26 0) _
    unfold T0
    rw [sI_n (by omega), sI_n (by omega)]; exact t0
  · show T1 (sI u 0 26 0) _
    unfold T1
    rw [sI_n (by omega), sI_n (by omega)]; exact t1
  · show (sI u 0 26 0).1 9 k = _
    rw [sI_n (by omega)]; exact w k hk
  · show (sI u 0 26 0).1 10 0 = _
    rw [sI_n (by omega)]; exact s0
  · show (sI u 0 26 0).1 10 1 = _
    rw [sI_n (by omega)]; exact s1
  · show (sI u 0 26 0).1 10 2 = _
    rw [sI_n (by omega)]; exact s2
  · show (sI u 0 26 0).1 0 13 = _
    rw [sI_o (by omega)]; exact tp
  · show (sI u 0 26 0).1 0 26 = _
    rw [sI_s]; rfl
  · show (sI u 0 26 0).1 1 s = _ ∧ (_ → (sI u 0 26 0).1 2 s = _ ∧ ∀ j, _ → (sI u 0 26 0).1 3 (60 * s + j) = _)
    rw [sI_n (by omega), sI_n (by omega), sI_n (by omega)]; exact sh s hs
  · show (sI u 0 26 0).1 0 4 = _
    rw [sI_o (by omega)]; exact la
