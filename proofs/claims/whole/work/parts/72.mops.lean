/-! THE REFERENCE: the calls, first part -/
theorem wp_gt {ρ : Type} {o : Option (Int32 × gV)} {b : Bool} {v : gV} {k1 k2 : gV → Option ρ} {Q : ρ → Prop} (ho : o = some (b2 b, v)) (h1 : b = false → wp (k1 v) Q) (h2 : b = true → wp (k2 v) Q) : wp (bi o (fun r v1 => if r = 0 then k1 v1 else k2 v1)) Q := by
  refine wp_bi (wp_of ho) ?_
  rintro r v1 ⟨rfl, rfl⟩
  refine wp_if (fun c => ?_) (fun c => ?_)
  · rw [b2_0] at c; exact h1 c
  · rw [b2_0] at c; exact h2 (ne_f c)
theorem torn_M {u : gV} {a : Ab} {d r : Int32} (h : InvM u a) : OKM (f_X8_torn d r u) (sp_torn d r a) := by
  have hn := nRi_le h.1.1
  unfold OKM f_X8_torn
  refine wp_bv (reads_M h) ?_
  rintro u1 ⟨h1, h2⟩
  refine wp_gt isDay_M (fun c1 => ?_) (fun c1 => wp_gt (isRider_M h1.2.1.1 hn) (fun c2 => ?_) (fun c2 => ?_))
  · have hs : sp_torn d r a = (-2, a) := by unfold sp_torn; rw [if_neg (fun q => by rw [c1] at q; exact Bool.false_ne_true q.1)]
    rw [hs]
    exact wp_some ⟨rfl, h1.1⟩
  · have hs : sp_torn d r a = (-2, a) := by unfold sp_torn; rw [if_neg (fun q => by rw [c2] at q; exact Bool.false_ne_true q.2)]
    rw [hs]
    exact wp_some ⟨rfl, h1.1⟩
  · have hs : sp_torn d r a = (b2 ((beh a (d.toNatClampNeg)).1.2.2 (r.toNatClampNeg)), a) := by unfold sp_torn; rw [if_pos ⟨c1, c2⟩]
    rw [hs]
    obtain ⟨k, hk, -, rfl, ck⟩ := gin_cl c1
    obtain ⟨m, hm, -, rfl, cm⟩ := gin_cl c2
    rw [ck, cm, l_8, n_mul, n_add, n_cl (a := 8 * k + m) (by omega)]
    exact wp_t (gin_N (by omega) (by omega)) (wp_some ⟨(h2.1 k hk).2.1 m hm, h1.1⟩)
theorem still_M {u : gV} {a : Ab} (h : InvM u a) : OKM (f_X8_still u) (sp_still a) := by
  unfold OKM f_X8_still
  refine wp_bv (reads_M h) ?_
  rintro u1 ⟨h1, h2⟩
  exact wp_some ⟨h2.2.2.1, h1.1⟩
theorem ones_step : ∀ c, c < 1024 → c ≠ 0 → pcN (c &&& (c - 1)) + 1 = pcN c := by decide +kernel
theorem ones_M {u : gV} {c : Nat} (hc : c < 1024) : f_X8_ones (nI c) u = some (nI (pcN c), u) := by
  apply wp_is
  unfold f_X8_ones
  have hle := pcN_le c
  refine wp_bx2 (wp_lp (Z := fun z => z.1 = u ∧ z.2 = nI (pcN c)) (fun k z => ∃ x n, x < 1024 ∧ z.1 = u ∧ z.2.1 = nI n ∧ z.2.2 = nI x ∧ n + pcN x = pcN c ∧ k = pcN x) ?_ fu (pcN c) _ ⟨c, 0, hc, rfl, rfl, rfl, by omega, rfl⟩ (fu_big (by omega))) ?_
  · rintro k ⟨u1, y, z⟩ ⟨x, n, hx, e1, e2, e3, e4, rfl⟩
    have e1 : u1 = u := e1
    have e2 : y = nI n := e2
    have e3 : z = nI x := e3
    subst e1 e2 e3
    show wp (f_X8_ones_B4 (nI n) (nI x) u1) _
    unfold f_X8_ones_B4
    refine wp_if (fun c1 => ?_) (fun c1 => ?_)
    · rw [l_0, n_eq (by omega) (by omega)] at c1
      subst c1
      refine wp_some ⟨rfl, ?_⟩
      have : pcN 0 = 0 := by decide
      rw [← e4, this]
      rfl
    · rw [l_0, n_eq (by omega) (by omega)] at c1
      have hs := ones_step x hx c1
      rw [l_1, n_sub (by omega), fa_and]
      exact wp_bd (wp_some ⟨pcN (x &&& (x - 1)), by omega, x &&& (x - 1), n + 1, Nat.lt_of_le_of_lt Nat.and_le_left hx, rfl, nI_1 n, rfl, by omega, rfl⟩)
  · rintro u1 y ⟨e1, e2⟩
    have e1 : u1 = u := e1
    have e2 : y = nI (pcN c) := e2
    subst e1 e2
    exact wp_some rfl
theorem isServed_M {u : gV} {P : Pm} {x : Sc} {d r : Nat} (hT : TM u P) (hL : LV u P x) (hd : d < 10) (hr : r < pN P) : f_X8_isServed (nI d) (nI r) u = some (b2 (decide ((his P x (d + 1)).1.1 r = pW P r)), u) := by
  apply wp_is
  have hn := hT.1.1
  unfold f_X8_isServed
  rw [l_8, l_4, l_3, n_mul, n_mul, n_add, n_add, n_cl (a := 8 * d + r) (by omega), n_cl (a := 4 * r + 3) (by omega), (hL.1 d hd).1 r hr, (hT.2.2.1 r hr).2.2]
  refine wp_t (gin_N (by omega) (by omega)) (wp_t (gin_N (by omega) (by omega)) (wp_if (fun c => ?_) (fun c => ?_)))
  · exact b1 (Or.inr rfl) (by rw [decide_eq_true c]; rfl)
  · exact b1 (Or.inl rfl) (by rw [decide_eq_false c]; rfl)
theorem servedBy_M {u : gV} {P : Pm} {x : Sc} {d : Nat} (hT : TM u P) (hL : LV u P x) (hd : d < 10) : f_X8_servedBy (nI d) u = some (nI (srvN P (his P x (d + 1)).1.1), u) := by
  apply wp_is
  have hn := hT.1.1
  unfold f_X8_servedBy
  have e0 : nI (srvN P (his P x (d + 1)).1.1) = bo (fun r => decide ((his P x (d + 1)).1.1 r = pW P r)) (pN P) := (srv_N hT.1).symm
  rw [e0]
  refine wp_bx2 (wp_ct (Z := fun z => z.1 = u ∧ z.2 = bo (fun r => decide ((his P x (d + 1)).1.1 r = pW P r)) (pN P)) (fun i z => z.1 = u ∧ z.2.1 = bo (fun r => decide ((his P x (d + 1)).1.1 r = pW P r)) i ∧ z.2.2 = nI i) (pN P) 0 _ (by omega) (Nat.zero_le _) ⟨rfl, rfl, rfl⟩ ?_ ?_) ?_
  · rintro i ⟨u1, y, z⟩ hi ⟨e1, e2, e3⟩
    have e1 : u1 = u := e1
    have e2 : y = _ := e2
    have e3 : z = nI i := e3
    subst e1 e2 e3
    show wp (f_X8_servedBy_B4 (nI d) _ (nI i) u1) _
    unfold f_X8_servedBy_B4 f_X8_servedBy_J29
    rw [hT.2.1]
    refine wp_f (by rw [n_le (by omega) (by omega)]; omega) (wp_gt (isServed_M hT hL hd hi) (fun c => ?_) (fun c => ?_))
    · refine wp_bd (wp_some ⟨rfl, ?_, nI_1 i⟩)
      show bo _ i ||| 0 = bo _ (i + 1)
      rw [bo]
      rw [if_neg (by rw [c]; exact Bool.false_ne_true)]
      exact b_ext (fun j _ => by rw [b_or, b_0, Bool.or_false])
    · refine wp_bd (wp_some ⟨rfl, ?_, nI_1 i⟩)
      show bo _ i ||| _ = bo _ (i + 1)
      rw [bo]
      rw [if_pos c]
  · rintro ⟨u1, y, z⟩ ⟨e1, e2, e3⟩
    have e1 : u1 = u := e1
    have e2 : y = _ := e2
    have e3 : z = nI (pN P) := e3
    subst e1 e2 e3
    show wp (f_X8_servedBy_B4 (nI d) _ (nI (pN P)) u1) _
    unfold f_X8_servedBy_B4
    rw [hT.2.1]
    exact wp_t (by rw [n_le (by omega) (by omega)]; exact Nat.le_refl _) (wp_some ⟨rfl, rfl⟩)
  · rintro u1 y ⟨e1, e2⟩
    have e1 : u1 = u := e1
    have e2 : y = _ := e2
    subst e1 e2
    exact wp_some rfl
theorem served_M {u : gV} {a : Ab} {d : Int32} (h : InvM u a) : OKM (f_X8_served d u) (sp_served d a) := by
  unfold OKM f_X8_served
  refine wp_bv (reads_M h) ?_
  rintro u1 ⟨h1, h2⟩
  refine wp_gt isDay_M (fun c1 => ?_) (fun c1 => ?_)
  · have hs : sp_served d a = (-2, a) := by unfold sp_served; rw [if_neg (by rw [c1]; exact Bool.false_ne_true)]
    rw [hs]
    exact wp_some ⟨rfl, h1.1⟩
  · have hs : sp_served d a = (nI (srvN (aP a) (beh a (d.toNatClampNeg)).1.1), a) := by unfold sp_served; rw [if_pos c1]
    rw [hs]
    obtain ⟨k, hk, -, rfl, ck⟩ := gin_cl c1
    rw [ck]
    refine wp_bi (wp_of (servedBy_M h1.tm h2 hk)) ?_
    rintro r3 u3 ⟨rfl, rfl⟩
    exact wp_some ⟨rfl, h1.1⟩
