/-! THE REFERENCE: digest -/
theorem wp_dm {ρ : Type} {o : Option (Int32 × gV)} {s : Int32} {a : Ab} {h : Int64} {k : Int64 → gV → Option ρ} {Q : ρ → Prop} (ho : wp o (fun z => z.1 = s ∧ RDY z.2 a)) (hk : ∀ v, RDY v a → wp (k (dg h s) v) Q) : wp (bi o (fun r v => bd ((31 : Int64) * h + r.toInt64) (fun u => k u v))) Q := by
  refine wp_bi ho ?_
  rintro r v ⟨e1, e2⟩
  have e1 : r = s := e1
  subst e1
  exact wp_bd (hk v e2)
theorem wp_dn {ρ : Type} {o : Option (Int64 × gV)} {s : Int64} {a : Ab} {h : Int64} {k : Int64 → gV → Option ρ} {Q : ρ → Prop} (ho : wp o (fun z => z.1 = s ∧ RDY z.2 a)) (hk : ∀ v, RDY v a → wp (k (dgL h s) v) Q) : wp (bj o (fun r v => bd ((31 : Int64) * h + r) (fun u => k u v))) Q := by
  refine wp_bj ho ?_
  rintro r v ⟨e1, e2⟩
  have e1 : r = s := e1
  subst e1
  exact wp_bd (hk v e2)
theorem wp_dv {ρ : Type} {o : Option (Int32 × gV)} {s : Int32} {v : gV} {h : Int64} {k : Int64 → gV → Option ρ} {Q : ρ → Prop} (ho : o = some (s, v)) (hk : wp (k (dg h s) v) Q) : wp (bi o (fun r v => bd ((31 : Int64) * h + r.toInt64) (fun u => k u v))) Q := by
  subst ho
  exact hk
section
variable {a : Ab} {r : Nat}
theorem d_rider {u : gV} (h : RDY u a) (hr : r < nRi (aT0 a)) {i : Nat} (hi : i < 4) : u.1 7 (4 * r + i) = (sp_rider (nI r) (nI i) a).1 := by
  have hn := nRi_le h.1.1.1
  obtain ⟨a0, a1, a2, a3⟩ := h.2.1.2 r hr
  unfold sp_rider
  rw [if_pos (gin_N hr (by omega)), n_cl (a := r) (by omega)]
  rcases (show i = 0 ∨ i = 1 ∨ i = 2 ∨ i = 3 by omega) with rfl | rfl | rfl | rfl
  · exact a0
  · exact a1
  · exact a2
  · exact a3
theorem d_has {d : Nat} (hn : nRi (aT0 a) ≤ 8) (hr : r < nRi (aT0 a)) (hd : d < 10) : (sp_has (nI d) (nI r) a).1 = (beh a d).1.1 r := by
  unfold sp_has
  rw [if_pos ⟨gin_N hd (by omega), gin_N hr (by omega)⟩, n_cl (a := r) (by omega), n_cl (a := d) (by omega)]
theorem d_torn {d : Nat} (hn : nRi (aT0 a) ≤ 8) (hr : r < nRi (aT0 a)) (hd : d < 10) : (sp_torn (nI d) (nI r) a).1 = b2 ((beh a d).1.2.2 r) := by
  unfold sp_torn
  rw [if_pos ⟨gin_N hd (by omega), gin_N hr (by omega)⟩, n_cl (a := r) (by omega), n_cl (a := d) (by omega)]
theorem d_gets (hn : nRi (aT0 a) ≤ 8) (hr : r < nRi (aT0 a)) : (sp_gets (nI r) a).1 = getv a r := by
  unfold sp_gets
  rw [if_pos (gin_N hr (by omega)), n_cl (a := r) (by omega)]
theorem d_open {w : Int32} (hn : nRi (aT0 a) ≤ 8) (hr : r < nRi (aT0 a)) (hw : gin w 2 = true) : (sp_open (nI r) w a).1 = openv a r w := by
  unfold sp_open
  rw [if_pos ⟨gin_N hr (by omega), hw⟩, n_cl (a := r) (by omega)]
theorem d_had (hn : nRi (aT0 a) ≤ 8) (hr : r < nRi (aT0 a)) : (sp_had (nI r) a).1 = hadv a r := by
  unfold sp_had
  rw [if_pos (gin_N hr (by omega)), n_cl (a := r) (by omega)]
theorem d_maybe {w : Int32} (hn : nRi (aT0 a) ≤ 8) (hr : r < nRi (aT0 a)) (hw : gin w 2 = true) : (sp_maybe 5 3 (nI r) w a).1 = maybv a 5 3 r w := by
  unfold sp_maybe
  rw [if_pos ⟨by decide, by decide, gin_N hr (by omega), hw⟩, n_cl (a := r) (by omega), c_5, c_3]
theorem d_served {d : Nat} (hd : d < 10) : (sp_served (nI d) a).1 = nI (srvN (aP a) (beh a d).1.1) := by
  unfold sp_served
  rw [if_pos (gin_N hd (by omega)), n_cl (a := d) (by omega)]
theorem d_bag {d : Nat} {i : Int32} (hd : d < 10) (h0 : -1 ≤ i.toInt) (h9 : i.toInt ≤ 27) : (sp_bag (nI d) i a).1 = bagv a d i := by
  unfold sp_bag
  rw [if_pos ⟨gin_N hd (by omega), h0, h9⟩, n_cl (a := d) (by omega)]
theorem d_ask {d : Nat} (hd : d < 10) : (sp_ask (nI d) a).1 = askv a d := by
  unfold sp_ask
  rw [if_pos (gin_N hd (by omega)), n_cl (a := d) (by omega)]
theorem d_first {u : gV} (h : LV u (aP a) (aX a)) {i : Nat} (hi : i < 3) : u.1 18 i = (sp_first (nI i) a).1 := by
  obtain ⟨-, m1, m2, m3⟩ := h.2.1
  rcases (show i = 0 ∨ i = 1 ∨ i = 2 by omega) with rfl | rfl | rfl
  · exact m1
  · exact m2
  · exact m3
end
theorem tellsRider_M {u : gV} {a : Ab} {r : Nat} {h : Int64} (hv : RDY u a) (hr : r < nRi (aT0 a)) : wp (f_X8_tellsRider h (nI r) u) (fun z => z.1 = dgR a (nI r) h ∧ RDY z.2 a) := by
  have hn := nRi_le hv.1.1.1
  unfold f_X8_tellsRider
  refine wp_bv (lives_M hv) ?_
  rintro v1 ⟨h1, hL, -⟩
  refine wp_bx2 (wp_ct (Z := fun z => z.1 = v1 ∧ z.2 = fo (fun i h => dg h (sp_rider (nI r) (nI i) a).1) 4 h) (fun i z => z.1 = v1 ∧ z.2.1 = fo (fun i h => dg h (sp_rider (nI r) (nI i) a).1) i h ∧ z.2.2 = nI i) 4 0 _ (by omega) (Nat.zero_le _) ⟨rfl, rfl, rfl⟩ ?_ ?_) ?_
  · rintro i ⟨v2, x, y⟩ hi ⟨e1, e2, e3⟩
    have e1 : v2 = v1 := e1
    have e2 : x = fo (fun i h => dg h (sp_rider (nI r) (nI i) a).1) i h := e2
    have e3 : y = nI i := e3
    subst e1 e2 e3
    show wp (f_X8_tellsRider_B10 (nI r) _ (nI i) v2) _
    unfold f_X8_tellsRider_B10
    rw [l_4, n_mul, n_add, n_cl (a := 4 * r + i) (by omega), d_rider h1 hr hi]
    exact wp_f (by rw [n_le (by omega) (by omega)]; omega) (wp_t (gin_N (by omega) (by omega)) (wp_bd (wp_some ⟨rfl, rfl, nI_1 i⟩)))
  · rintro ⟨v2, x, y⟩ ⟨e1, e2, e3⟩
    have e3 : y = nI 4 := e3
    subst e3
    show wp (f_X8_tellsRider_B10 (nI r) x (nI 4) v2) _
    unfold f_X8_tellsRider_B10
    exact wp_t (by rw [l_4, n_le (by omega) (by omega)]; exact Nat.le_refl _) (wp_some ⟨e1, e2⟩)
  · rintro v2 x ⟨e1, e2⟩
    have e1 : v2 = v1 := e1
    have e2 : x = fo (fun i h => dg h (sp_rider (nI r) (nI i) a).1) 4 h := e2
    subst e1
    unfold dgR
    rw [← e2]
    clear e2
    have g0 : v2.1 14 r = (sp_has 0 (nI r) a).1 := by
      have := (hL.1 0 (by omega)).1 r hr
      rw [show 8 * 0 + r = r by omega] at this
      rw [show (0 : Int32) = nI 0 from rfl, d_has hn hr (by omega)]
      exact this
    have g9 : v2.1 14 (72 + r) = (sp_has 9 (nI r) a).1 := by
      rw [show (9 : Int32) = nI 9 from rfl, d_has hn hr (by omega)]
      exact (hL.1 9 (by omega)).1 r hr
    have t9 : v2.1 15 (72 + r) = (sp_torn 9 (nI r) a).1 := by
      rw [show (9 : Int32) = nI 9 from rfl, d_torn hn hr (by omega)]
      exact (hL.1 9 (by omega)).2.1 r hr
    have fg := getsOf_M h1 hL hr
    rw [← d_gets hn hr] at fg
    rw [l_72, n_add, n_cl (a := r) (by omega), n_cl (a := 72 + r) (by omega), g0, g9, t9]
    have fo0 : ∀ v, RDY v a → wp (f_X8_openOf (nI r) 0 v) (fun z => z.1 = (sp_open (nI r) 0 a).1 ∧ RDY z.2 a) := fun v hv => by
      rw [d_open hn hr (by decide)]; exact openOf_M hv hr (Or.inl rfl)
    have fo1 : ∀ v, RDY v a → wp (f_X8_openOf (nI r) 1 v) (fun z => z.1 = (sp_open (nI r) 1 a).1 ∧ RDY z.2 a) := fun v hv => by
      rw [d_open hn hr (by decide)]; exact openOf_M hv hr (Or.inr rfl)
    have fh : ∀ v, RDY v a → wp (f_X8_hadOf (nI r) v) (fun z => z.1 = (sp_had (nI r) a).1 ∧ RDY z.2 a) := fun v hv => by
      rw [d_had hn hr]; exact hadOf_M hv hr
    have fm0 : ∀ v, RDY v a → wp (f_X8_maybeOf 5 3 (nI r) 0 v) (fun z => z.1 = (sp_maybe 5 3 (nI r) 0 a).1 ∧ RDY z.2 a) := fun v hv => by
      rw [d_maybe hn hr (by decide)]; exact maybeOf_M (c := 5) (d := 3) hv (by omega) (by omega) hr
    have fm1 : ∀ v, RDY v a → wp (f_X8_maybeOf 5 3 (nI r) 1 v) (fun z => z.1 = (sp_maybe 5 3 (nI r) 1 a).1 ∧ RDY z.2 a) := fun v hv => by
      rw [d_maybe hn hr (by decide)]; exact maybeOf_M (c := 5) (d := 3) hv (by omega) (by omega) hr
    generalize (sp_has 0 (nI r) a).1 = s0 at *
    generalize (sp_has 9 (nI r) a).1 = s1 at *
    generalize (sp_torn 9 (nI r) a).1 = s2 at *
    generalize (sp_gets (nI r) a).1 = s3 at *
    generalize (sp_open (nI r) 0 a).1 = s4 at *
    generalize (sp_open (nI r) 1 a).1 = s5 at *
    generalize (sp_had (nI r) a).1 = s6 at *
    generalize (sp_maybe 5 3 (nI r) 0 a).1 = s7 at *
    generalize (sp_maybe 5 3 (nI r) 1 a).1 = s8 at *
    refine wp_t (gin_N (by omega) (by omega)) (wp_bd (wp_t (gin_N (by omega) (by omega)) (wp_bd (wp_t (gin_N (by omega) (by omega)) (wp_bd (wp_dv fg (wp_dm (fo0 v2 h1) (fun v3 h3 => wp_dm (fo1 v3 h3) (fun v4 h4 => wp_dm (fh v4 h4) (fun v5 h5 => wp_dn (fm0 v5 h5) (fun v6 h6 => ?_)))))))))))
    refine wp_bj (fm1 v6 h6) ?_
    rintro r9 v9 ⟨e1, e2⟩
    have e1 : r9 = s8 := e1
    subst e1
    exact wp_some ⟨rfl, e2⟩
theorem tellsDay_M {u : gV} {a : Ab} {d : Nat} {h : Int64} (hv : RDY u a) (hd : d < 10) : wp (f_X8_tellsDay h (nI d) u) (fun z => z.1 = dgD a (nI d) h ∧ RDY z.2 a) := by
  unfold f_X8_tellsDay dgD
  refine wp_bv (lives_M hv) ?_
  rintro v1 ⟨h1, hL, -⟩
  have f1 : f_X8_servedBy (nI d) v1 = some ((sp_served (nI d) a).1, v1) := by
    rw [d_served hd]; exact servedBy_M h1.tm hL hd
  have f2 : f_X8_bagOf (nI d) (-1) v1 = some ((sp_bag (nI d) (-1) a).1, v1) := by
    rw [d_bag hd (by decide) (by decide)]; exact bagOf_M hL hd (by decide) (by decide)
  have f3 : f_X8_bagOf (nI d) 0 v1 = some ((sp_bag (nI d) 0 a).1, v1) := by
    rw [d_bag hd (by decide) (by decide)]; exact bagOf_M hL hd (by decide) (by decide)
  have f4 : wp (f_X8_askOf (nI d) v1) (fun z => z.1 = (sp_ask (nI d) a).1 ∧ RDY z.2 a) := by
    rw [d_ask hd]; exact askOf_M h1 hd
  generalize (sp_served (nI d) a).1 = s0 at *
  generalize (sp_bag (nI d) (-1) a).1 = s1 at *
  generalize (sp_bag (nI d) 0 a).1 = s2 at *
  generalize (sp_ask (nI d) a).1 = s3 at *
  refine wp_dv f1 (wp_dv f2 (wp_dv f3 (wp_bi f4 ?_)))
  rintro r9 v9 ⟨e1, e2⟩
  have e1 : r9 = s3 := e1
  subst e1
  exact wp_some ⟨rfl, e2⟩
theorem digest_M {u : gV} {a : Ab} (hu : InvM u a) : wp (f_X8_digest u) (fun z => z.1 = sp_digest a ∧ InvM z.2 a) := by
  have hn := nRi_le hu.1.1
  unfold f_X8_digest sp_digest
  refine wp_bx2 (wp_ct (Z := fun z => InvM z.1 a ∧ z.2 = fo (fun i h => dg h (sp_count (nI i) a).1) 8 17) (fun i z => InvM z.1 a ∧ z.2.1 = fo (fun i h => dg h (sp_count (nI i) a).1) i 17 ∧ z.2.2 = nI i) 8 0 _ (by omega) (Nat.zero_le _) ⟨hu, rfl, rfl⟩ ?_ ?_) ?_
  · rintro i ⟨v2, x, y⟩ hi ⟨e1, e2, e3⟩
    have e1 : InvM v2 a := e1
    have e2 : x = fo (fun i h => dg h (sp_count (nI i) a).1) i 17 := e2
    have e3 : y = nI i := e3
    subst e2 e3
    show wp (f_X8_digest_B6 _ (nI i) v2) _
    unfold f_X8_digest_B6
    refine wp_f (by rw [l_8, n_le (by omega) (by omega)]; omega) (wp_bi (count_M e1) ?_)
    rintro r3 v3 ⟨k1, k2⟩
    have k1 : r3 = (sp_count (nI i) a).1 := k1
    have k2 : InvM v3 (sp_count (nI i) a).2 := k2
    rw [q_count] at k2
    refine wp_bd (wp_some ⟨k2, ?_, nI_1 i⟩)
    show (31 : Int64) * _ + r3.toInt64 = _
    rw [k1]
    rfl
  · rintro ⟨v2, x, y⟩ ⟨e1, e2, e3⟩
    have e3 : y = nI 8 := e3
    subst e3
    show wp (f_X8_digest_B6 x (nI 8) v2) _
    unfold f_X8_digest_B6
    exact wp_t (by rw [l_8, n_le (by omega) (by omega)]; exact Nat.le_refl _) (wp_some ⟨e1, e2⟩)
  · rintro v1 y2 ⟨i1, i2⟩
    have i1 : InvM v1 a := i1
    have i2 : y2 = fo (fun i h => dg h (sp_count (nI i) a).1) 8 17 := i2
    rw [← i2]
    clear i2
    have q0 : (sp_fault 0 a).1 = flt0 (aT0 a) := by unfold sp_fault; rw [if_pos (by decide), if_pos rfl]
    have q1 : (sp_fault 1 a).1 = flt1 (aT1 a) := by unfold sp_fault; rw [if_pos (by decide), if_neg (by decide)]
    rw [q0, q1]
    refine wp_bi (readsRiders_M i1.2.1) ?_
    rintro r5 v3 ⟨k1, k2, k3⟩
    have k1 : r5 = flt0 (aT0 a) := k1
    have k2 : RR v3 (aT0 a) := k2
    have k3 : FR0 v1 v3 := k3
    have i3 : InvM v3 a := i1.kept k3.K
    subst k1
    refine wp_bd (wp_bi (readsBag_M i3.2.2.1) ?_)
    rintro r9 v7 ⟨m1, m2, m3⟩
    have m1 : r9 = flt1 (aT1 a) := m1
    have m2 : RB v7 (aT1 a) := m2
    have m3 : FR1 v3 v7 := m3
    have h7 : RDY v7 a := ⟨i3.kept m3.K, k2.kept (m3.1 7 (by omega) (by omega)) (m3.2.1 7 (by omega)), m2⟩
    subst m1
    refine wp_bd ?_
    show wp (bx2 (lp (fun a : gV × Int64 × Int32 => f_X8_digest_B57 a.2.1 a.2.2 a.1) fu (v7, dg (dg y2 (flt0 (aT0 a))) (flt1 (aT1 a)), (0 : Int32))) _) _
    generalize dg (dg y2 (flt0 (aT0 a))) (flt1 (aT1 a)) = H0
    refine wp_bx2 (wp_ct (Z := fun z => RDY z.1 a ∧ z.2 = fo (fun r h => dgR a (nI r) h) (nRi (aT0 a)) H0) (fun i z => RDY z.1 a ∧ z.2.1 = fo (fun r h => dgR a (nI r) h) i H0 ∧ z.2.2 = nI i) (nRi (aT0 a)) 0 _ (by omega) (Nat.zero_le _) ⟨h7, rfl, rfl⟩ ?_ ?_) ?_
    · rintro i ⟨v2, x, y⟩ hi ⟨e1, e2, e3⟩
      have e1 : RDY v2 a := e1
      have e2 : x = fo (fun r h => dgR a (nI r) h) i H0 := e2
      have e3 : y = nI i := e3
      subst e2 e3
      show wp (f_X8_digest_B57 _ (nI i) v2) _
      unfold f_X8_digest_B57
      rw [e1.2.1.1]
      refine wp_f (by rw [n_le (by omega) (by omega)]; omega) (wp_bj (tellsRider_M e1 hi) ?_)
      rintro r3 v3 ⟨k1, k2⟩
      exact wp_some ⟨k2, k1, nI_1 i⟩
    · rintro ⟨v2, x, y⟩ ⟨e1, e2, e3⟩
      have e1 : RDY v2 a := e1
      have e3 : y = nI (nRi (aT0 a)) := e3
      subst e3
      show wp (f_X8_digest_B57 x (nI (nRi (aT0 a))) v2) _
      unfold f_X8_digest_B57
      rw [e1.2.1.1]
      exact wp_t (by rw [n_le (by omega) (by omega)]; exact Nat.le_refl _) (wp_some ⟨e1, e2⟩)
    · rintro v11 y12 ⟨h11, e12⟩
      have h11 : RDY v11 a := h11
      have e12 : y12 = fo (fun r h => dgR a (nI r) h) (nRi (aT0 a)) H0 := e12
      rw [← e12]
      clear e12
      refine wp_bj (tellsDay_M (d := 0) h11 (by omega)) ?_
      rintro r15 v13 ⟨e15, h13⟩
      have e15 : r15 = dgD a 0 y12 := e15
      rw [← e15]
      clear e15
      refine wp_bj (tellsDay_M (d := 4) h13 (by omega)) ?_
      rintro r18 v16 ⟨e18, h16⟩
      have e18 : r18 = dgD a 4 r15 := e18
      rw [← e18]
      clear e18
      refine wp_bj (tellsDay_M (d := 9) h16 (by omega)) ?_
      rintro r21 v19 ⟨e21, h19⟩
      have e21 : r21 = dgD a 9 r18 := e21
      rw [← e21]
      clear e21
      refine wp_bv (lives_M h19) ?_
      rintro v22 ⟨h22, hL, -⟩
      refine wp_bx2 (wp_ct (Z := fun z => z.1 = v22 ∧ z.2 = fo (fun i h => dg h (sp_first (nI i) a).1) 3 r21) (fun i z => z.1 = v22 ∧ z.2.1 = fo (fun i h => dg h (sp_first (nI i) a).1) i r21 ∧ z.2.2 = nI i) 3 0 _ (by omega) (Nat.zero_le _) ⟨rfl, rfl, rfl⟩ ?_ ?_) ?_
      · rintro i ⟨v2, x, y⟩ hi ⟨e1, e2, e3⟩
        have e1 : v2 = v22 := e1
        have e2 : x = fo (fun i h => dg h (sp_first (nI i) a).1) i r21 := e2
        have e3 : y = nI i := e3
        subst e1 e2 e3
        show wp (f_X8_digest_B102 _ (nI i) v2) _
        unfold f_X8_digest_B102
        rw [n_cl (a := i) (by omega), d_first hL hi]
        exact wp_f (by rw [l_3, n_le (by omega) (by omega)]; omega) (wp_t (gin_N (by omega) (by omega)) (wp_bd (wp_some ⟨rfl, rfl, nI_1 i⟩)))
      · rintro ⟨v2, x, y⟩ ⟨e1, e2, e3⟩
        have e3 : y = nI 3 := e3
        subst e3
        show wp (f_X8_digest_B102 x (nI 3) v2) _
        unfold f_X8_digest_B102
        exact wp_t (by rw [l_3, n_le (by omega) (by omega)]; exact Nat.le_refl _) (wp_some ⟨e1, e2⟩)
      · rintro v24 y25 ⟨e1, e25⟩
        have e1 : v24 = v22 := e1
        have e25 : y25 = fo (fun i h => dg h (sp_first (nI i) a).1) 3 r21 := e25
        subst e1
        rw [← e25]
        clear e25
        have z25 : v24.1 0 25 = (sp_still a).1 := hL.2.2.1
        have fr0 : f_X8_ringsNow 0 v24 = some ((sp_rings 0 a).1, v24) := by
          have := ringsNow_M (w := 0) h22
          unfold sp_rings
          rw [if_pos (by decide)]; exact this
        have fr1 : f_X8_ringsNow 1 v24 = some ((sp_rings 1 a).1, v24) := by
          have := ringsNow_M (w := 1) h22
          unfold sp_rings
          rw [if_pos (by decide)]; exact this
        have fl : ∀ w, gin w 2 = true → ∀ v, RDY v a → wp (f_X8_leastOf w v) (fun z => z.1 = (sp_least w a).1 ∧ RDY z.2 a) := fun w hw v hv => by
          unfold sp_least
          rw [if_pos hw]; exact leastOf_M hv
        have ft : ∀ w, gin w 2 = true → ∀ v, RDY v a → wp (f_X8_topOf w v) (fun z => z.1 = (sp_top w a).1 ∧ RDY z.2 a) := fun w hw v hv => by
          unfold sp_top
          rw [if_pos hw]; exact topOf_M hv
        have fd : ∀ w, gin w 2 = true → ∀ v, RDY v a → wp (f_X8_depotOf 7 9 w v) (fun z => z.1 = (sp_depot 7 9 w a).1 ∧ RDY z.2 a) := fun w hw v hv => by
          unfold sp_depot
          rw [if_pos ⟨by decide, hw⟩]; exact depotOf_M (n := 9) hv (by omega)
        have fw : ∀ v, RDY v a → wp (f_X8_wasNow v) (fun z => z.1 = (sp_was a).1 ∧ RDY z.2 a) := fun v hv => wasNow_M hv
        have fl0 := fl 0 (by decide)
        have fl1 := fl 1 (by decide)
        have ft0 := ft 0 (by decide)
        have ft1 := ft 1 (by decide)
        have fd0 := fd 0 (by decide)
        have fd1 := fd 1 (by decide)
        clear fl ft fd
        unfold dgE
        rw [z25]
        generalize (sp_still a).1 = s0 at *
        generalize (sp_rings 0 a).1 = s1 at *
        generalize (sp_rings 1 a).1 = s2 at *
        generalize (sp_least 0 a).1 = s3 at *
        generalize (sp_least 1 a).1 = s4 at *
        generalize (sp_top 0 a).1 = s5 at *
        generalize (sp_top 1 a).1 = s6 at *
        generalize (sp_was a).1 = s7 at *
        generalize (sp_depot 7 9 0 a).1 = s8 at *
        generalize (sp_depot 7 9 1 a).1 = s9 at *
        refine wp_bd (wp_dv fr0 (wp_dv fr1 (wp_dm (fl0 _ h22) (fun w1 k1 => wp_dm (fl1 _ k1) (fun w2 k2 => wp_dm (ft0 _ k2) (fun w3 k3 => wp_dm (ft1 _ k3) (fun w4 k4 => wp_dm (fw _ k4) (fun w5 k5 => wp_dm (fd0 _ k5) (fun w6 k6 => ?_)))))))))
        refine wp_bi (fd1 _ k6) ?_
        rintro r61 v59 ⟨e1, e2⟩
        have e1 : r61 = s9 := e1
        subst e1
        exact wp_some ⟨rfl, e2.1⟩
