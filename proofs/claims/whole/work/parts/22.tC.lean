set_option maxRecDepth 20000 in
theorem t_X7_clearAlike_B2 {Γ : gC} {Ω : gO} {v0 : gV} {o : (gV × Int32) ⊕ (gV)} (hX : gx_X Γ Ω cX7_clearAlike RX7 2 (none)) (hR : Γ.2.2.2.1 = gx_R 1) (x1 : Int32) (v : gV) (h : f_X7_clearAlike_B2 x1 v = some o) (hc : ∀ c0 c1, o = .inl (c0, c1) → gx_G Γ Ω LX (gx_Q Γ Ω LX none v0) 2 c0 2 [(0, .ref (Ω.1 0)), (1, .int c1)] []) (hz : ∀ z0, o = .inr z0 → gx_G Γ Ω LX (gx_Q Γ Ω LX none v0) 2 z0 24 [] []) : gx_G Γ Ω LX (gx_Q Γ Ω LX none v0) 2 v 2 [(0, .ref (Ω.1 0)), (1, .int x1)] [] := by
  rw [f_X7_clearAlike_B2] at h
  refine gi_iload_n (n := 3) hX 1 dX7_clearAlike_2 rfl rfl rfl ?_
  refine gi_bipush (x := (8 : Int32)) (n := 5) hX rfl dX7_clearAlike_3 rfl ?_
  refine gi_icmp_ge (tgt := 24) (n := 8) hX dX7_clearAlike_5 rfl rfl h (fun h => ?_) (fun h => ?_)
  · refine gi_sub [] rfl ?_
    exact hz _ (Option.some.inj h).symm
  · refine gi_aload_n (n := 9) hX 0 dX7_clearAlike_8 rfl rfl rfl ?_
    refine gi_getR (n := 12) hX 7 kc_X7 ly_X7 rfl rfl fl_X7_60 dX7_clearAlike_9 rfl ?_
    refine gi_iload_n (n := 13) hX 1 dX7_clearAlike_12 rfl rfl rfl ?_
    refine gi_aald (n := 14) hX ly_108 (Or.inr (Or.inr (Or.inr rfl))) dX7_clearAlike_13 rfl h (fun g1 k2 h => ?_)
    refine gi_iconst (x := (0 : Int32)) (n := 15) hX rfl dX7_clearAlike_14 rfl ?_
    obtain ⟨v3, e4, h⟩ := bv_some h
    refine gi_statV (st := []) (n := 18) hX hR ms_J7_fill_53178 ml_X7_221 (m_J7_fill_53178 Γ.2.1 Ω LX 9 g1 (of_decide_eq_true k2) (0 : Int32) v e4) rfl ⟨rfl, rfl⟩ rfl dX7_clearAlike_15 rfl rfl ?_
    refine gi_iinc (z := (1 : Int32)) (n := 21) hX 1 [(1, .int (x1 + (1 : Int32))), (0, .ref (Ω.1 0))] dX7_clearAlike_18 rfl rfl rfl rfl rfl rfl ?_
    refine gi_goto (n := 2) hX dX7_clearAlike_21 rfl ?_
    refine gi_sub [1, 0] rfl ?_
    exact hc _ _ (Option.some.inj h).symm
set_option maxRecDepth 20000 in
theorem t_X7_clearAlike {Γ : gC} {Ω : gO} {v0 : gV} (hX : gx_X Γ Ω cX7_clearAlike RX7 2 (none)) (hR : Γ.2.2.2.1 = gx_R 1)  (v : gV) (h : f_X7_clearAlike  v = some v0) : gx_G Γ Ω LX (gx_Q Γ Ω LX none v0) 2 v 0 [(0, .ref (Ω.1 0))] [] := by
  rw [f_X7_clearAlike] at h
  refine gi_iconst (x := (0 : Int32)) (n := 1) hX rfl dX7_clearAlike_0 rfl ?_
  refine gi_istore_n (n := 2) hX [(1, .int (0 : Int32)), (0, .ref (Ω.1 0))] dX7_clearAlike_1 rfl rfl rfl rfl ?_
  refine gi_sub [1, 0] rfl ?_
  have key := lp_ind (f := (fun a : gV × Int32 => f_X7_clearAlike_B2 a.2 a.1)) (P := (fun a : gV × Int32 => gx_G Γ Ω LX (gx_Q Γ Ω LX none v0) 2 a.1 2 [(0, .ref (Ω.1 0)), (1, .int a.2)] [])) (Z := (fun z : gV => gx_G Γ Ω LX (gx_Q Γ Ω LX none v0) 2 z 24 [] [])) (fun a o h hc hz => t_X7_clearAlike_B2 hX hR a.2 a.1 h (fun c0 c1 e => hc (c0, c1) e) (fun z0 e => hz z0 e)) fu
  obtain ⟨v1, e0, h⟩ := bx1_some h
  refine key (v, (0 : Int32)) _ e0 ?_
  show gx_G Γ Ω LX (gx_Q Γ Ω LX none v0) 2 v1 24 [] []
  exact gi_vret hX rfl dX7_clearAlike_24 h
theorem m_X7_clearAlike (l : Launch) (Ω : gO) (v : gV) {v0 : gV} (h : f_X7_clearAlike v = some v0) : gx_M l Ω LX yX7_clearAlike cX7_clearAlike 2 (none) 1 [.ref (Ω.1 0)] v none v0 := gx_start (lv := [(0, .ref (Ω.1 0))]) (by decide +kernel) (Nat.le_of_ble_eq_true rfl) rfl (fun Γ _ hR hX => t_X7_clearAlike hX hR v h)
set_option maxRecDepth 20000 in
theorem t_X7_rideWithEven {Γ : gC} {Ω : gO} {v0 : gV} (hX : gx_X Γ Ω cX7_rideWithEven RX7 2 (none)) (hR : Γ.2.2.2.1 = gx_R 4) (x1 : Int32) (v : gV) (h : f_X7_rideWithEven x1 v = some v0) : gx_G Γ Ω LX (gx_Q Γ Ω LX none v0) 2 v 0 [(0, .ref (Ω.1 0)), (1, .int x1)] [] := by
  rw [f_X7_rideWithEven] at h
  refine gi_aload_n (n := 1) hX 0 dX7_rideWithEven_0 rfl rfl rfl ?_
  refine gi_getR (n := 4) hX 3 kc_X7 ly_X7 rfl rfl fl_X7_34 dX7_rideWithEven_1 rfl ?_
  obtain ⟨v1, e2, h⟩ := bv_some h
  refine gi_virtV (st := []) (n := 7) hX hR kc_X1 (ly_R (rfl : kR 54 = true)) mv_X1_begin ml_X7_171 (m_X1_begin Γ.2.1 Ω 54 (rfl : kR 54 = true) v e2) rfl ⟨rfl, rfl⟩ rfl dX7_rideWithEven_4 rfl rfl ?_
  refine gi_aload_n (n := 8) hX 0 dX7_rideWithEven_7 rfl rfl rfl ?_
  refine gi_getR (n := 11) hX 3 kc_X7 ly_X7 rfl rfl fl_X7_34 dX7_rideWithEven_8 rfl ?_
  refine gi_iload_n (n := 12) hX 1 dX7_rideWithEven_11 rfl rfl rfl ?_
  refine gi_putI (n := 15) hX 1 kc_X1 (ly_R (rfl : kR 54 = true)) rfl rfl fl_X7_358 rfl rfl dX7_rideWithEven_12 rfl h (fun v3 h => ?_)
  refine gi_aload_n (n := 16) hX 0 dX7_rideWithEven_15 rfl rfl rfl ?_
  refine gi_getR (n := 19) hX 3 kc_X7 ly_X7 rfl rfl fl_X7_34 dX7_rideWithEven_16 rfl ?_
  obtain ⟨v4, e5, h⟩ := bv_some h
  refine gi_virtV (st := []) (n := 22) hX hR kc_X1 (ly_R (rfl : kR 54 = true)) mv_X1_go ml_X7_181 (m_X1_go Γ.2.1 Ω 54 (rfl : kR 54 = true) v3 e5) rfl ⟨rfl, rfl⟩ rfl dX7_rideWithEven_19 rfl rfl ?_
  exact gi_vret hX rfl dX7_rideWithEven_22 h
theorem m_X7_rideWithEven (l : Launch) (Ω : gO) (x1 : Int32) (v : gV) {v0 : gV} (h : f_X7_rideWithEven x1 v = some v0) : gx_M l Ω LX yX7_rideWithEven cX7_rideWithEven 2 (none) 4 [.ref (Ω.1 0), .int x1] v none v0 := gx_start (lv := [(0, .ref (Ω.1 0)), (1, .int x1)]) (by decide +kernel) (Nat.le_of_ble_eq_true rfl) rfl (fun Γ _ hR hX => t_X7_rideWithEven hX hR x1 v h)
set_option maxRecDepth 20000 in
theorem t_X7_countAlike_J40 {Γ : gC} {Ω : gO} {v0 : gV} {o : (gV × Int32) ⊕ (gV)} (hX : gx_X Γ Ω cX7_countAlike RX7 4 (none)) (hR : Γ.2.2.2.1 = gx_R 2) (x1 : Int32) (x2 : Int32) (s0 : Int32) (w1 : Nat) (hw1 : LX[w1]? = some (gk_i 9)) (v : gV) (h : f_X7_countAlike_J40 x1 x2 s0 w1 v = some o) (hc : ∀ c0 c1, o = .inl (c0, c1) → gx_G Γ Ω LX (gx_Q Γ Ω LX none v0) 4 c0 2 [(0, .ref (Ω.1 0)), (1, .int x1), (2, .int c1)] []) (hz : ∀ z0, o = .inr z0 → gx_G Γ Ω LX (gx_Q Γ Ω LX none v0) 4 z0 51 [] []) : gx_G Γ Ω LX (gx_Q Γ Ω LX none v0) 4 v 40 [(0, .ref (Ω.1 0)), (1, .int x1), (2, .int x2)] [.int s0, .ref (Ω.1 w1)] := by
  rw [f_X7_countAlike_J40] at h
  refine gi_dup2 (n := 41) hX rfl rfl dX7_countAlike_40 rfl ?_
  refine gi_iald (n := 42) hX hw1 dX7_countAlike_41 rfl h (fun h => ?_)
  refine gi_iconst (x := (1 : Int32)) (n := 43) hX rfl dX7_countAlike_42 rfl ?_
  refine gi_iadd (n := 44) hX dX7_countAlike_43 rfl ?_
  refine gi_iast (n := 45) hX hw1 dX7_countAlike_44 rfl h (fun v1 h => ?_)
  refine gi_iinc (z := (1 : Int32)) (n := 48) hX 2 [(2, .int (x2 + (1 : Int32))), (0, .ref (Ω.1 0)), (1, .int x1)] dX7_countAlike_45 rfl rfl rfl rfl rfl rfl ?_
  refine gi_goto (n := 2) hX dX7_countAlike_48 rfl ?_
  refine gi_sub [1, 2, 0] rfl ?_
  exact hc _ _ (Option.some.inj h).symm
set_option maxRecDepth 20000 in
theorem t_X7_countAlike_B2 {Γ : gC} {Ω : gO} {v0 : gV} {o : (gV × Int32) ⊕ (gV)} (hX : gx_X Γ Ω cX7_countAlike RX7 4 (none)) (hR : Γ.2.2.2.1 = gx_R 2) (x1 : Int32) (x2 : Int32) (v : gV) (h : f_X7_countAlike_B2 x1 x2 v = some o) (hc : ∀ c0 c1, o = .inl (c0, c1) → gx_G Γ Ω LX (gx_Q Γ Ω LX none v0) 4 c0 2 [(0, .ref (Ω.1 0)), (1, .int x1), (2, .int c1)] []) (hz : ∀ z0, o = .inr z0 → gx_G Γ Ω LX (gx_Q Γ Ω LX none v0) 4 z0 51 [] []) : gx_G Γ Ω LX (gx_Q Γ Ω LX none v0) 4 v 2 [(0, .ref (Ω.1 0)), (1, .int x1), (2, .int x2)] [] := by
  rw [f_X7_countAlike_B2] at h
  refine gi_iload_n (n := 3) hX 2 dX7_countAlike_2 rfl rfl rfl ?_
  refine gi_aload_n (n := 4) hX 0 dX7_countAlike_3 rfl rfl rfl ?_
  refine gi_getR (n := 7) hX 1 kc_X7 ly_X7 rfl rfl fl_X7_21 dX7_countAlike_4 rfl ?_
  refine gi_getI (n := 10) hX 0 kc_X6 ly_X6 rfl rfl fl_X7_92 dX7_countAlike_7 rfl ?_
  refine gi_icmp_ge (tgt := 51) (n := 13) hX dX7_countAlike_10 rfl rfl h (fun h => ?_) (fun h => ?_)
  · refine gi_sub [] rfl ?_
    exact hz _ (Option.some.inj h).symm
  · refine gi_aload_n (n := 14) hX 0 dX7_countAlike_13 rfl rfl rfl ?_
    refine gi_getR (n := 17) hX 3 kc_X7 ly_X7 rfl rfl fl_X7_34 dX7_countAlike_14 rfl ?_
    refine gi_iload_n (n := 18) hX 1 dX7_countAlike_17 rfl rfl rfl ?_
    refine gi_iload_n (n := 19) hX 2 dX7_countAlike_18 rfl rfl rfl ?_
    obtain ⟨r3, v1, e2, h⟩ := bi_some h
    refine gi_virtI (st := []) (n := 22) hX hR kc_X1 (ly_R (rfl : kR 54 = true)) mv_X1_hasOn ml_X7_120 (m_X1_hasOn Γ.2.1 Ω 54 (rfl : kR 54 = true) x1 x2 v e2) rfl ⟨rfl, rfl⟩ rfl dX7_countAlike_19 rfl rfl ?_
    refine gi_istore_n (n := 23) hX [(3, .int r3), (0, .ref (Ω.1 0)), (1, .int x1), (2, .int x2)] dX7_countAlike_22 rfl rfl rfl rfl ?_
    refine gi_aload_n (n := 24) hX 1 dX7_countAlike_23 rfl rfl rfl ?_
    refine gi_getR (n := 27) hX 7 kc_X7 ly_X7 rfl rfl fl_X7_60 dX7_countAlike_24 rfl ?_
    refine gi_iload_n (n := 28) hX 3 dX7_countAlike_27 rfl rfl rfl ?_
    refine gi_aald (n := 29) hX ly_108 (Or.inr (Or.inr (Or.inr rfl))) dX7_countAlike_28 rfl h (fun g4 k5 h => ?_)
    refine gi_iload_n (n := 30) hX 0 dX7_countAlike_29 rfl rfl rfl ?_
    refine gi_iconst (x := (-1 : Int32)) (n := 31) hX rfl dX7_countAlike_30 rfl ?_
    refine gi_icmp_ne (tgt := 39) (n := 34) hX dX7_countAlike_31 rfl rfl h (fun h => ?_) (fun h => ?_)
    · refine gi_iload_n (n := 40) hX 0 dX7_countAlike_39 rfl rfl rfl ?_
      refine gi_sub [1, 2, 3] rfl ?_
      exact t_X7_countAlike_J40 hX hR x1 x2 r3 g4 (of_decide_eq_true k5) v1 h hc hz
    · refine gi_bipush (x := (8 : Int32)) (n := 36) hX rfl dX7_countAlike_34 rfl ?_
      refine gi_goto (n := 40) hX dX7_countAlike_36 rfl ?_
      refine gi_sub [1, 2, 3] rfl ?_
      exact t_X7_countAlike_J40 hX hR x1 x2 (8 : Int32) g4 (of_decide_eq_true k5) v1 h hc hz
set_option maxRecDepth 20000 in
theorem t_X7_countAlike {Γ : gC} {Ω : gO} {v0 : gV} (hX : gx_X Γ Ω cX7_countAlike RX7 4 (none)) (hR : Γ.2.2.2.1 = gx_R 2) (x1 : Int32) (v : gV) (h : f_X7_countAlike x1 v = some v0) : gx_G Γ Ω LX (gx_Q Γ Ω LX none v0) 4 v 0 [(0, .ref (Ω.1 0)), (1, .int x1)] [] := by
  rw [f_X7_countAlike] at h
  refine gi_iconst (x := (0 : Int32)) (n := 1) hX rfl dX7_countAlike_0 rfl ?_
  refine gi_istore_n (n := 2) hX [(2, .int (0 : Int32)), (0, .ref (Ω.1 0)), (1, .int x1)] dX7_countAlike_1 rfl rfl rfl rfl ?_
  refine gi_sub [1, 2, 0] rfl ?_
  have key := lp_ind (f := (fun a : gV × Int32 => f_X7_countAlike_B2 x1 a.2 a.1)) (P := (fun a : gV × Int32 => gx_G Γ Ω LX (gx_Q Γ Ω LX none v0) 4 a.1 2 [(0, .ref (Ω.1 0)), (1, .int x1), (2, .int a.2)] [])) (Z := (fun z : gV => gx_G Γ Ω LX (gx_Q Γ Ω LX none v0) 4 z 51 [] [])) (fun a o h hc hz => t_X7_countAlike_B2 hX hR x1 a.2 a.1 h (fun c0 c1 e => hc (c0, c1) e) (fun z0 e => hz z0 e)) fu
  obtain ⟨v1, e0, h⟩ := bx1_some h
  refine key (v, (0 : Int32)) _ e0 ?_
  show gx_G Γ Ω LX (gx_Q Γ Ω LX none v0) 4 v1 51 [] []
  exact gi_vret hX rfl dX7_countAlike_51 h
theorem m_X7_countAlike (l : Launch) (Ω : gO) (x1 : Int32) (v : gV) {v0 : gV} (h : f_X7_countAlike x1 v = some v0) : gx_M l Ω LX yX7_countAlike cX7_countAlike 4 (none) 2 [.ref (Ω.1 0), .int x1] v none v0 := gx_start (lv := [(0, .ref (Ω.1 0)), (1, .int x1)]) (by decide +kernel) (Nat.le_of_ble_eq_true rfl) rfl (fun Γ _ hR hX => t_X7_countAlike hX hR x1 v h)
set_option maxRecDepth 20000 in
theorem t_X7_greatestOf_B10 {Γ : gC} {Ω : gO} {r0 : Int32} {v0 : gV} {o : (gV × Int32 × Int32) ⊕ (gV × Int32)} (hX : gx_X Γ Ω cX7_greatestOf RX7 6 (some .int)) (hR : Γ.2.2.2.1 = gx_R 1) (N : Nat) (x1 : Int32) (q2 : Nat) (hq2 : LX[q2]? = some (gk_i N)) (x3 : Int32) (x4 : Int32) (v : gV) (h : f_X7_greatestOf_B10 N x1 q2 x3 x4 v = some o) (hc : ∀ c0 c1 c2, o = .inl (c0, c1, c2) → gx_G Γ Ω LX (gx_Q Γ Ω LX (some (.int r0)) v0) 6 c0 10 [(1, .int c1), (2, .ref (Ω.1 q2)), (3, .int x3), (4, .int c2)] []) (hz : ∀ z0 z1, o = .inr (z0, z1) → gx_G Γ Ω LX (gx_Q Γ Ω LX (some (.int r0)) v0) 6 z0 35 [(1, .int z1)] []) : gx_G Γ Ω LX (gx_Q Γ Ω LX (some (.int r0)) v0) 6 v 10 [(1, .int x1), (2, .ref (Ω.1 q2)), (3, .int x3), (4, .int x4)] [] := by
  rw [f_X7_greatestOf_B10] at h
  refine gi_iload (n := 12) hX 3 dX7_greatestOf_10 rfl rfl ?_
  refine gi_iload_n (n := 13) hX 2 dX7_greatestOf_12 rfl rfl rfl ?_
  refine gi_icmp_ge (tgt := 35) (n := 16) hX dX7_greatestOf_13 rfl rfl h (fun h => ?_) (fun h => ?_)
  · refine gi_sub [0] rfl ?_
    exact hz _ _ (Option.some.inj h).symm
  · refine gi_aload_n (n := 17) hX 1 dX7_greatestOf_16 rfl rfl rfl ?_
    refine gi_iload (n := 19) hX 3 dX7_greatestOf_17 rfl rfl ?_
    refine gi_iald (n := 20) hX hq2 dX7_greatestOf_19 rfl h (fun h => ?_)
    refine gi_topI h (fun u1 h => ?_)
    refine gi_istore (n := 22) hX [(5, .int u1), (1, .int x1), (2, .ref (Ω.1 q2)), (3, .int x3), (4, .int x4)] dX7_greatestOf_20 rfl rfl rfl ?_
    refine gi_iload_n (n := 23) hX 1 dX7_greatestOf_22 rfl rfl rfl ?_
    refine gi_iload (n := 25) hX 0 dX7_greatestOf_23 rfl rfl ?_
    obtain ⟨r4, v2, e3, h⟩ := bi_some h
    refine gi_statI (st := []) (n := 28) hX hR ms_J9_max_7cf53 ml_X7_359 (m_J9_max_7cf53 Γ.2.1 Ω LX x1 u1 v e3) rfl ⟨rfl, rfl⟩ rfl dX7_greatestOf_25 rfl rfl ?_
    refine gi_istore_n (n := 29) hX [(1, .int r4), (5, .int u1), (2, .ref (Ω.1 q2)), (3, .int x3), (4, .int x4)] dX7_greatestOf_28 rfl rfl rfl rfl ?_
    refine gi_iinc (z := (1 : Int32)) (n := 32) hX 4 [(4, .int (x4 + (1 : Int32))), (1, .int r4), (5, .int u1), (2, .ref (Ω.1 q2)), (3, .int x3)] dX7_greatestOf_29 rfl rfl rfl rfl rfl rfl ?_
    refine gi_goto (n := 10) hX dX7_greatestOf_32 rfl ?_
    refine gi_sub [1, 3, 4, 0] rfl ?_
    exact hc _ _ _ (Option.some.inj h).symm
set_option maxRecDepth 20000 in
theorem t_X7_greatestOf {Γ : gC} {Ω : gO} {r0 : Int32} {v0 : gV} (hX : gx_X Γ Ω cX7_greatestOf RX7 6 (some .int)) (hR : Γ.2.2.2.1 = gx_R 1) (N : Nat) (q0 : Nat) (hq0 : LX[q0]? = some (gk_i N)) (v : gV) (h : f_X7_greatestOf N q0 v = some (r0, v0)) : gx_G Γ Ω LX (gx_Q Γ Ω LX (some (.int r0)) v0) 6 v 0 [(0, .ref (Ω.1 q0))] [] := by
  rw [f_X7_greatestOf] at h
  refine gi_iconst (x := (0 : Int32)) (n := 1) hX rfl dX7_greatestOf_0 rfl ?_
  refine gi_istore_n (n := 2) hX [(1, .int (0 : Int32)), (0, .ref (Ω.1 q0))] dX7_greatestOf_1 rfl rfl rfl rfl ?_
  refine gi_aload_n (n := 3) hX 1 dX7_greatestOf_2 rfl rfl rfl ?_
  refine gi_astore_n (n := 4) hX [(2, .ref (Ω.1 q0)), (1, .int (0 : Int32)), (0, .ref (Ω.1 q0))] dX7_greatestOf_3 rfl rfl rfl rfl ?_
  refine gi_aload_n (n := 5) hX 0 dX7_greatestOf_4 rfl rfl rfl ?_
  refine gi_ilen (n := 6) hX hq0 dX7_greatestOf_5 rfl ?_
  refine gi_topI h (fun u1 h => ?_)
  refine gi_istore_n (n := 7) hX [(3, .int u1), (2, .ref (Ω.1 q0)), (1, .int (0 : Int32)), (0, .ref (Ω.1 q0))] dX7_greatestOf_6 rfl rfl rfl rfl ?_
  refine gi_iconst (x := (0 : Int32)) (n := 8) hX rfl dX7_greatestOf_7 rfl ?_
  refine gi_istore (n := 10) hX [(4, .int (0 : Int32)), (3, .int u1), (2, .ref (Ω.1 q0)), (1, .int (0 : Int32)), (0, .ref (Ω.1 q0))] dX7_greatestOf_8 rfl rfl rfl ?_
  refine gi_sub [3, 2, 1, 0] rfl ?_
  have key := lp_ind (f := (fun a : gV × Int32 × Int32 => f_X7_greatestOf_B10 N a.2.1 q0 u1 a.2.2 a.1)) (P := (fun a : gV × Int32 × Int32 => gx_G Γ Ω LX (gx_Q Γ Ω LX (some (.int r0)) v0) 6 a.1 10 [(1, .int a.2.1), (2, .ref (Ω.1 q0)), (3, .int u1), (4, .int a.2.2)] [])) (Z := (fun z : gV × Int32 => gx_G Γ Ω LX (gx_Q Γ Ω LX (some (.int r0)) v0) 6 z.1 35 [(1, .int z.2)] [])) (fun a o h hc hz => t_X7_greatestOf_B10 hX hR N a.2.1 q0 hq0 u1 a.2.2 a.1 h (fun c0 c1 c2 e => hc (c0, c1, c2) e) (fun z0 z1 e => hz (z0, z1) e)) fu
  obtain ⟨v2, y3, e0, h⟩ := bx2_some h
  refine key (v, (0 : Int32), (0 : Int32)) _ e0 ?_
  show gx_G Γ Ω LX (gx_Q Γ Ω LX (some (.int r0)) v0) 6 v2 35 [(1, .int y3)] []
  refine gi_iload_n (n := 36) hX 0 dX7_greatestOf_35 rfl rfl rfl ?_
  exact gi_iret hX rfl dX7_greatestOf_36 h
theorem m_X7_greatestOf (l : Launch) (Ω : gO) (N : Nat) (q0 : Nat) (hq0 : LX[q0]? = some (gk_i N)) (v : gV) {r0 : Int32} {v0 : gV} (h : f_X7_greatestOf N q0 v = some (r0, v0)) : gx_M l Ω LX yX7_greatestOf cX7_greatestOf 6 (some .int) 1 [.ref (Ω.1 q0)] v (some (.int r0)) v0 := gx_start (lv := [(0, .ref (Ω.1 q0))]) (by decide +kernel) (Nat.le_of_ble_eq_true rfl) rfl (fun Γ _ hR hX => t_X7_greatestOf hX hR N q0 hq0 v h)
set_option maxRecDepth 20000 in
theorem t_X7_ask_J55 {Γ : gC} {Ω : gO} {r0 : Int32} {v0 : gV} {o : (gV × Int32) ⊕ (gV)} (hX : gx_X Γ Ω cX7_ask RX7 6 (some .int)) (hR : Γ.2.2.2.1 = gx_R 5) (x1 : Int32) (x2 : Int32) (v : gV) (h : f_X7_ask_J55 x1 x2 v = some o) (hc : ∀ c0 c1, o = .inl (c0, c1) → gx_G Γ Ω LX (gx_Q Γ Ω LX (some (.int r0)) v0) 6 c0 18 [(0, .ref (Ω.1 0)), (1, .int x1), (2, .int c1)] []) (hz : ∀ z0, o = .inr z0 → gx_G Γ Ω LX (gx_Q Γ Ω LX (some (.int r0)) v0) 6 z0 61 [(0, .ref (Ω.1 0))] []) : gx_G Γ Ω LX (gx_Q Γ Ω LX (some (.int r0)) v0) 6 v 55 [(0, .ref (Ω.1 0)), (1, .int x1), (2, .int x2)] [] := by
  rw [f_X7_ask_J55] at h
  refine gi_iinc (z := (1 : Int32)) (n := 58) hX 2 [(2, .int (x2 + (1 : Int32))), (0, .ref (Ω.1 0)), (1, .int x1)] dX7_ask_55 rfl rfl rfl rfl rfl rfl ?_
  refine gi_goto (n := 18) hX dX7_ask_58 rfl ?_
  refine gi_sub [1, 2, 0] rfl ?_
  exact hc _ _ (Option.some.inj h).symm
set_option maxRecDepth 20000 in
theorem t_X7_ask_B18 {Γ : gC} {Ω : gO} {r0 : Int32} {v0 : gV} {o : (gV × Int32) ⊕ (gV)} (hX : gx_X Γ Ω cX7_ask RX7 6 (some .int)) (hR : Γ.2.2.2.1 = gx_R 5) (x1 : Int32) (x2 : Int32) (v : gV) (h : f_X7_ask_B18 x1 x2 v = some o) (hc : ∀ c0 c1, o = .inl (c0, c1) → gx_G Γ Ω LX (gx_Q Γ Ω LX (some (.int r0)) v0) 6 c0 18 [(0, .ref (Ω.1 0)), (1, .int x1), (2, .int c1)] []) (hz : ∀ z0, o = .inr z0 → gx_G Γ Ω LX (gx_Q Γ Ω LX (some (.int r0)) v0) 6 z0 61 [(0, .ref (Ω.1 0))] []) : gx_G Γ Ω LX (gx_Q Γ Ω LX (some (.int r0)) v0) 6 v 18 [(0, .ref (Ω.1 0)), (1, .int x1), (2, .int x2)] [] := by
  rw [f_X7_ask_B18] at h
  refine gi_iload_n (n := 19) hX 2 dX7_ask_18 rfl rfl rfl ?_
  refine gi_bipush (x := (9 : Int32)) (n := 21) hX rfl dX7_ask_19 rfl ?_
  refine gi_icmp_gt (tgt := 61) (n := 24) hX dX7_ask_21 rfl rfl h (fun h => ?_) (fun h => ?_)
  · refine gi_sub [0] rfl ?_
    exact hz _ (Option.some.inj h).symm
  · refine gi_aload_n (n := 25) hX 0 dX7_ask_24 rfl rfl rfl ?_
    refine gi_iload_n (n := 26) hX 2 dX7_ask_25 rfl rfl rfl ?_
    obtain ⟨v1, e2, h⟩ := bv_some h
    refine gi_virtV (st := []) (n := 29) hX hR kc_X7 ly_X7 mv_X7_rideWithEven ml_X7_165 (m_X7_rideWithEven Γ.2.1 Ω x2 v e2) rfl ⟨rfl, rfl⟩ rfl dX7_ask_26 rfl rfl ?_
    refine gi_aload_n (n := 30) hX 0 dX7_ask_29 rfl rfl rfl ?_
    refine gi_getR (n := 33) hX 5 kc_X7 ly_X7 rfl rfl fl_X7_47 dX7_ask_30 rfl ?_
    refine gi_aload_n (n := 34) hX 0 dX7_ask_33 rfl rfl rfl ?_
    refine gi_getR (n := 37) hX 3 kc_X7 ly_X7 rfl rfl fl_X7_34 dX7_ask_34 rfl ?_
    refine gi_aload_n (n := 38) hX 0 dX7_ask_37 rfl rfl rfl ?_
    refine gi_getR (n := 41) hX 1 kc_X7 ly_X7 rfl rfl fl_X7_21 dX7_ask_38 rfl ?_
    refine gi_getI (n := 44) hX 0 kc_X6 ly_X6 rfl rfl fl_X7_92 dX7_ask_41 rfl ?_
    obtain ⟨r5, v3, e4, h⟩ := bi_some h
    refine gi_virtI (st := []) (n := 47) hX hR kc_X3 ly_X3 mv_X3_comeOutIn ml_X7_205 (m_X3_comeOutIn Γ.2.1 Ω 54 (rfl : kR 54 = true) (v1.1 6 0) v1 e4) rfl ⟨rfl, rfl⟩ rfl dX7_ask_44 rfl rfl ?_
    refine gi_if_eq (tgt := 55) (n := 50) hX dX7_ask_47 rfl rfl h (fun h => ?_) (fun h => ?_)
    · exact t_X7_ask_J55 hX hR x1 x2 v3 h hc hz
    · refine gi_aload_n (n := 51) hX 0 dX7_ask_50 rfl rfl rfl ?_
      refine gi_iload_n (n := 52) hX 1 dX7_ask_51 rfl rfl rfl ?_
      obtain ⟨v6, e7, h⟩ := bv_some h
      refine gi_virtV (st := []) (n := 55) hX hR kc_X7 ly_X7 mv_X7_countAlike ml_X7_212 (m_X7_countAlike Γ.2.1 Ω x1 v3 e7) rfl ⟨rfl, rfl⟩ rfl dX7_ask_52 rfl rfl ?_
      exact t_X7_ask_J55 hX hR x1 x2 v6 h hc hz
set_option maxRecDepth 20000 in
theorem t_X7_ask_J109 {Γ : gC} {Ω : gO} {r0 : Int32} {v0 : gV} {o : (gV × Int32 × Int32 × Int32) ⊕ (gV × Int32)} (hX : gx_X Γ Ω cX7_ask RX7 6 (some .int)) (hR : Γ.2.2.2.1 = gx_R 5) (x2 : Int32) (x3 : Int32) (x4 : Int32) (v : gV) (h : f_X7_ask_J109 x2 x3 x4 v = some o) (hc : ∀ c0 c1 c2 c3, o = .inl (c0, c1, c2, c3) → gx_G Γ Ω LX (gx_Q Γ Ω LX (some (.int r0)) v0) 6 c0 68 [(0, .ref (Ω.1 0)), (2, .int c1), (3, .int c2), (4, .int c3)] []) (hz : ∀ z0 z1, o = .inr (z0, z1) → gx_G Γ Ω LX (gx_Q Γ Ω LX (some (.int r0)) v0) 6 z0 115 [(2, .int z1)] []) : gx_G Γ Ω LX (gx_Q Γ Ω LX (some (.int r0)) v0) 6 v 109 [(0, .ref (Ω.1 0)), (2, .int x2), (3, .int x3), (4, .int x4)] [] := by
  rw [f_X7_ask_J109] at h
  refine gi_iinc (z := (1 : Int32)) (n := 112) hX 3 [(4, .int (x4 + (1 : Int32))), (0, .ref (Ω.1 0)), (2, .int x2), (3, .int x3)] dX7_ask_109 rfl rfl rfl rfl rfl rfl ?_
  refine gi_goto (n := 68) hX dX7_ask_112 rfl ?_
  refine gi_sub [1, 2, 3, 0] rfl ?_
  exact hc _ _ _ _ (Option.some.inj h).symm
set_option maxRecDepth 20000 in
theorem t_X7_ask_J103 {Γ : gC} {Ω : gO} {r0 : Int32} {v0 : gV} {o : (gV × Int32 × Int32 × Int32) ⊕ (gV × Int32)} (hX : gx_X Γ Ω cX7_ask RX7 6 (some .int)) (hR : Γ.2.2.2.1 = gx_R 5) (x4 : Int32) (x5 : Int32) (v : gV) (h : f_X7_ask_J103 x4 x5 v = some o) (hc : ∀ c0 c1 c2 c3, o = .inl (c0, c1, c2, c3) → gx_G Γ Ω LX (gx_Q Γ Ω LX (some (.int r0)) v0) 6 c0 68 [(0, .ref (Ω.1 0)), (2, .int c1), (3, .int c2), (4, .int c3)] []) (hz : ∀ z0 z1, o = .inr (z0, z1) → gx_G Γ Ω LX (gx_Q Γ Ω LX (some (.int r0)) v0) 6 z0 115 [(2, .int z1)] []) : gx_G Γ Ω LX (gx_Q Γ Ω LX (some (.int r0)) v0) 6 v 103 [(0, .ref (Ω.1 0)), (4, .int x4), (5, .int x5)] [] := by
  rw [f_X7_ask_J103] at h
  refine gi_iload (n := 105) hX 1 dX7_ask_103 rfl rfl ?_
  refine gi_istore_n (n := 106) hX [(2, .int x4), (0, .ref (Ω.1 0)), (4, .int x4), (5, .int x5)] dX7_ask_105 rfl rfl rfl rfl ?_
  refine gi_iload (n := 108) hX 3 dX7_ask_106 rfl rfl ?_
  refine gi_istore_n (n := 109) hX [(3, .int x5), (2, .int x4), (0, .ref (Ω.1 0)), (4, .int x4), (5, .int x5)] dX7_ask_108 rfl rfl rfl rfl ?_
  refine gi_sub [2, 1, 0, 3] rfl ?_
  exact t_X7_ask_J109 hX hR x4 x5 x4 v h hc hz
set_option maxRecDepth 20000 in
theorem t_X7_ask_B68 {Γ : gC} {Ω : gO} {r0 : Int32} {v0 : gV} {o : (gV × Int32 × Int32 × Int32) ⊕ (gV × Int32)} (hX : gx_X Γ Ω cX7_ask RX7 6 (some .int)) (hR : Γ.2.2.2.1 = gx_R 5) (x2 : Int32) (x3 : Int32) (x4 : Int32) (v : gV) (h : f_X7_ask_B68 x2 x3 x4 v = some o) (hc : ∀ c0 c1 c2 c3, o = .inl (c0, c1, c2, c3) → gx_G Γ Ω LX (gx_Q Γ Ω LX (some (.int r0)) v0) 6 c0 68 [(0, .ref (Ω.1 0)), (2, .int c1), (3, .int c2), (4, .int c3)] []) (hz : ∀ z0 z1, o = .inr (z0, z1) → gx_G Γ Ω LX (gx_Q Γ Ω LX (some (.int r0)) v0) 6 z0 115 [(2, .int z1)] []) : gx_G Γ Ω LX (gx_Q Γ Ω LX (some (.int r0)) v0) 6 v 68 [(0, .ref (Ω.1 0)), (2, .int x2), (3, .int x3), (4, .int x4)] [] := by
  rw [f_X7_ask_B68] at h
  refine gi_iload (n := 70) hX 3 dX7_ask_68 rfl rfl ?_
  refine gi_aload_n (n := 71) hX 0 dX7_ask_70 rfl rfl rfl ?_
  refine gi_getR (n := 74) hX 1 kc_X7 ly_X7 rfl rfl fl_X7_21 dX7_ask_71 rfl ?_
  refine gi_getI (n := 77) hX 0 kc_X6 ly_X6 rfl rfl fl_X7_92 dX7_ask_74 rfl ?_
  refine gi_icmp_ge (tgt := 115) (n := 80) hX dX7_ask_77 rfl rfl h (fun h => ?_) (fun h => ?_)
  · refine gi_sub [1] rfl ?_
    exact hz _ _ (Option.some.inj h).symm
  · refine gi_aload_n (n := 81) hX 0 dX7_ask_80 rfl rfl rfl ?_
    refine gi_getR (n := 84) hX 7 kc_X7 ly_X7 rfl rfl fl_X7_60 dX7_ask_81 rfl ?_
    refine gi_iload (n := 86) hX 3 dX7_ask_84 rfl rfl ?_
    refine gi_aald (n := 87) hX ly_108 (Or.inr (Or.inr (Or.inr rfl))) dX7_ask_86 rfl h (fun g1 k2 h => ?_)
    obtain ⟨r5, v3, e4, h⟩ := bi_some h
    refine gi_statI (st := []) (n := 90) hX hR ms_X7_greatestOf ml_X7_215 (m_X7_greatestOf Γ.2.1 Ω 9 g1 (of_decide_eq_true k2) v e4) rfl ⟨rfl, rfl⟩ rfl dX7_ask_87 rfl rfl ?_
    refine gi_istore (n := 92) hX [(5, .int r5), (0, .ref (Ω.1 0)), (2, .int x2), (3, .int x3), (4, .int x4)] dX7_ask_90 rfl rfl rfl ?_
    refine gi_iload_n (n := 93) hX 2 dX7_ask_92 rfl rfl rfl ?_
    refine gi_iconst (x := (-1 : Int32)) (n := 94) hX rfl dX7_ask_93 rfl ?_
    refine gi_icmp_eq (tgt := 103) (n := 97) hX dX7_ask_94 rfl rfl h (fun h => ?_) (fun h => ?_)
    · refine gi_sub [1, 4, 0] rfl ?_
      exact t_X7_ask_J103 hX hR x4 r5 v3 h hc hz
    · refine gi_iload (n := 99) hX 0 dX7_ask_97 rfl rfl ?_
      refine gi_iload_n (n := 100) hX 3 dX7_ask_99 rfl rfl rfl ?_
      refine gi_icmp_ge (tgt := 109) (n := 103) hX dX7_ask_100 rfl rfl h (fun h => ?_) (fun h => ?_)
      · refine gi_sub [1, 2, 3, 4] rfl ?_
        exact t_X7_ask_J109 hX hR x2 x3 x4 v3 h hc hz
      · refine gi_sub [1, 4, 0] rfl ?_
        exact t_X7_ask_J103 hX hR x4 r5 v3 h hc hz
set_option maxRecDepth 20000 in
theorem t_X7_ask {Γ : gC} {Ω : gO} {r0 : Int32} {v0 : gV} (hX : gx_X Γ Ω cX7_ask RX7 6 (some .int)) (hR : Γ.2.2.2.1 = gx_R 5) (x1 : Int32) (v : gV) (h : f_X7_ask x1 v = some (r0, v0)) : gx_G Γ Ω LX (gx_Q Γ Ω LX (some (.int r0)) v0) 6 v 0 [(0, .ref (Ω.1 0)), (1, .int x1)] [] := by
  rw [f_X7_ask] at h
  refine gi_iload_n (n := 1) hX 1 dX7_ask_0 rfl rfl rfl ?_
  refine gi_bipush (x := (10 : Int32)) (n := 3) hX rfl dX7_ask_1 rfl ?_
  obtain ⟨r3, v1, e2, h⟩ := bi_some h
  refine gi_statI (st := []) (n := 6) hX hR ms_X7_isOutside ml_X7_70 (m_X7_isOutside Γ.2.1 Ω x1 (10 : Int32) v e2) rfl ⟨rfl, rfl⟩ rfl dX7_ask_3 rfl rfl ?_
  refine gi_if_eq (tgt := 12) (n := 9) hX dX7_ask_6 rfl rfl h (fun h => ?_) (fun h => ?_)
  · refine gi_aload_n (n := 13) hX 0 dX7_ask_12 rfl rfl rfl ?_
    obtain ⟨v4, e5, h⟩ := bv_some h
    refine gi_virtV (st := []) (n := 16) hX hR kc_X7 ly_X7 mv_X7_clearAlike ml_X7_209 (m_X7_clearAlike Γ.2.1 Ω v1 e5) rfl ⟨rfl, rfl⟩ rfl dX7_ask_13 rfl rfl ?_
    refine gi_iconst (x := (0 : Int32)) (n := 17) hX rfl dX7_ask_16 rfl ?_
    refine gi_istore_n (n := 18) hX [(2, .int (0 : Int32)), (0, .ref (Ω.1 0)), (1, .int x1)] dX7_ask_17 rfl rfl rfl rfl ?_
    refine gi_sub [1, 2, 0] rfl ?_
    have key := lp_ind (f := (fun a : gV × Int32 => f_X7_ask_B18 x1 a.2 a.1)) (P := (fun a : gV × Int32 => gx_G Γ Ω LX (gx_Q Γ Ω LX (some (.int r0)) v0) 6 a.1 18 [(0, .ref (Ω.1 0)), (1, .int x1), (2, .int a.2)] [])) (Z := (fun z : gV => gx_G Γ Ω LX (gx_Q Γ Ω LX (some (.int r0)) v0) 6 z 61 [(0, .ref (Ω.1 0))] [])) (fun a o h hc hz => t_X7_ask_B18 hX hR x1 a.2 a.1 h (fun c0 c1 e => hc (c0, c1) e) (fun z0 e => hz z0 e)) fu
    obtain ⟨v6, e0, h⟩ := bx1_some h
    refine key (v4, (0 : Int32)) _ e0 ?_
    show gx_G Γ Ω LX (gx_Q Γ Ω LX (some (.int r0)) v0) 6 v6 61 [(0, .ref (Ω.1 0))] []
    refine gi_iconst (x := (-1 : Int32)) (n := 62) hX rfl dX7_ask_61 rfl ?_
    refine gi_istore_n (n := 63) hX [(2, .int (-1 : Int32)), (0, .ref (Ω.1 0))] dX7_ask_62 rfl rfl rfl rfl ?_
    refine gi_iconst (x := (0 : Int32)) (n := 64) hX rfl dX7_ask_63 rfl ?_
    refine gi_istore_n (n := 65) hX [(3, .int (0 : Int32)), (2, .int (-1 : Int32)), (0, .ref (Ω.1 0))] dX7_ask_64 rfl rfl rfl rfl ?_
    refine gi_iconst (x := (0 : Int32)) (n := 66) hX rfl dX7_ask_65 rfl ?_
    refine gi_istore (n := 68) hX [(4, .int (0 : Int32)), (3, .int (0 : Int32)), (2, .int (-1 : Int32)), (0, .ref (Ω.1 0))] dX7_ask_66 rfl rfl rfl ?_
    refine gi_sub [3, 2, 1, 0] rfl ?_
    have key := lp_ind (f := (fun a : gV × Int32 × Int32 × Int32 => f_X7_ask_B68 a.2.1 a.2.2.1 a.2.2.2 a.1)) (P := (fun a : gV × Int32 × Int32 × Int32 => gx_G Γ Ω LX (gx_Q Γ Ω LX (some (.int r0)) v0) 6 a.1 68 [(0, .ref (Ω.1 0)), (2, .int a.2.1), (3, .int a.2.2.1), (4, .int a.2.2.2)] [])) (Z := (fun z : gV × Int32 => gx_G Γ Ω LX (gx_Q Γ Ω LX (some (.int r0)) v0) 6 z.1 115 [(2, .int z.2)] [])) (fun a o h hc hz => t_X7_ask_B68 hX hR a.2.1 a.2.2.1 a.2.2.2 a.1 h (fun c0 c1 c2 c3 e => hc (c0, c1, c2, c3) e) (fun z0 z1 e => hz (z0, z1) e)) fu
    obtain ⟨v7, y8, e0, h⟩ := bx2_some h
    refine key (v6, (-1 : Int32), (0 : Int32), (0 : Int32)) _ e0 ?_
    show gx_G Γ Ω LX (gx_Q Γ Ω LX (some (.int r0)) v0) 6 v7 115 [(2, .int y8)] []
    refine gi_iload_n (n := 116) hX 0 dX7_ask_115 rfl rfl rfl ?_
    exact gi_iret hX rfl dX7_ask_116 h
  · refine gi_bipush (x := (-2 : Int32)) (n := 11) hX rfl dX7_ask_9 rfl ?_
    exact gi_iret hX rfl dX7_ask_11 h
theorem m_X7_ask (l : Launch) (Ω : gO) (x1 : Int32) (v : gV) {r0 : Int32} {v0 : gV} (h : f_X7_ask x1 v = some (r0, v0)) : gx_M l Ω LX yX7_ask cX7_ask 6 (some .int) 5 [.ref (Ω.1 0), .int x1] v (some (.int r0)) v0 := gx_start (lv := [(0, .ref (Ω.1 0)), (1, .int x1)]) (by decide +kernel) (Nat.le_of_ble_eq_true rfl) rfl (fun Γ _ hR hX => t_X7_ask hX hR x1 v h)
set_option maxRecDepth 20000 in
theorem t_X7_bag {Γ : gC} {Ω : gO} {r0 : Int32} {v0 : gV} (hX : gx_X Γ Ω cX7_bag RX7 4 (some .int)) (hR : Γ.2.2.2.1 = gx_R 2) (x1 : Int32) (x2 : Int32) (v : gV) (h : f_X7_bag x1 x2 v = some (r0, v0)) : gx_G Γ Ω LX (gx_Q Γ Ω LX (some (.int r0)) v0) 4 v 0 [(0, .ref (Ω.1 0)), (1, .int x1), (2, .int x2)] [] := by
  rw [f_X7_bag] at h
  refine gi_iload_n (n := 1) hX 1 dX7_bag_0 rfl rfl rfl ?_
  refine gi_bipush (x := (10 : Int32)) (n := 3) hX rfl dX7_bag_1 rfl ?_
  obtain ⟨r3, v1, e2, h⟩ := bi_some h
  refine gi_statI (st := []) (n := 6) hX hR ms_X7_isOutside ml_X7_70 (m_X7_isOutside Γ.2.1 Ω x1 (10 : Int32) v e2) rfl ⟨rfl, rfl⟩ rfl dX7_bag_3 rfl rfl ?_
  refine gi_if_ne (tgt := 20) (n := 9) hX dX7_bag_6 rfl rfl h (fun h => ?_) (fun h => ?_)
  · refine gi_bipush (x := (-2 : Int32)) (n := 22) hX rfl dX7_bag_20 rfl ?_
    exact gi_iret hX rfl dX7_bag_22 h
  · refine gi_iload_n (n := 10) hX 2 dX7_bag_9 rfl rfl rfl ?_
    refine gi_iconst (x := (-1 : Int32)) (n := 11) hX rfl dX7_bag_10 rfl ?_
    refine gi_icmp_lt (tgt := 20) (n := 14) hX dX7_bag_11 rfl rfl h (fun h => ?_) (fun h => ?_)
    · refine gi_bipush (x := (-2 : Int32)) (n := 22) hX rfl dX7_bag_20 rfl ?_
      exact gi_iret hX rfl dX7_bag_22 h
    · refine gi_iload_n (n := 15) hX 2 dX7_bag_14 rfl rfl rfl ?_
      refine gi_bipush (x := (27 : Int32)) (n := 17) hX rfl dX7_bag_15 rfl ?_
      refine gi_icmp_le (tgt := 23) (n := 20) hX dX7_bag_17 rfl rfl h (fun h => ?_) (fun h => ?_)
      · refine gi_aload_n (n := 24) hX 0 dX7_bag_23 rfl rfl rfl ?_
        refine gi_getR (n := 27) hX 2 kc_X7 ly_X7 rfl rfl fl_X7_30 dX7_bag_24 rfl ?_
        refine gi_iload_n (n := 28) hX 1 dX7_bag_27 rfl rfl rfl ?_
        obtain ⟨g6, v4, e5, k7, h⟩ := br_some h
        refine gi_virtR (st := []) (n := 31) hX hR kc_X1 (ly_R (rfl : kR 16 = true)) mv_X1_bagOn ml_X7_127 (m_X1_bagOn Γ.2.1 Ω 16 (rfl : kR 16 = true) x1 v1 e5) rfl ⟨rfl, rfl⟩ rfl dX7_bag_28 rfl rfl ?_
        refine gi_astore_n (n := 32) hX [(3, .ref (Ω.1 g6)), (0, .ref (Ω.1 0)), (1, .int x1), (2, .int x2)] dX7_bag_31 rfl rfl rfl rfl ?_
        refine gi_iload_n (n := 33) hX 3 dX7_bag_32 rfl rfl rfl ?_
        refine gi_iconst (x := (-1 : Int32)) (n := 34) hX rfl dX7_bag_33 rfl ?_
        refine gi_icmp_ne (tgt := 42) (n := 37) hX dX7_bag_34 rfl rfl h (fun h => ?_) (fun h => ?_)
        · refine gi_iload_n (n := 43) hX 3 dX7_bag_42 rfl rfl rfl ?_
          refine gi_aload_n (n := 44) hX 0 dX7_bag_43 rfl rfl rfl ?_
          refine gi_getI (n := 47) hX 1 kc_X0 (ly_B k7) rfl rfl fl_X7_131 dX7_bag_44 rfl ?_
          refine gi_icmp_ge (tgt := 59) (n := 50) hX dX7_bag_47 rfl rfl h (fun h => ?_) (fun h => ?_)
          · refine gi_iconst (x := (-1 : Int32)) (n := 60) hX rfl dX7_bag_59 rfl ?_
            exact gi_iret hX rfl dX7_bag_60 h
          · refine gi_aload_n (n := 51) hX 0 dX7_bag_50 rfl rfl rfl ?_
            refine gi_getR (n := 54) hX 0 kc_X0 (ly_B k7) rfl rfl fl_X7_134 dX7_bag_51 rfl ?_
            refine gi_iload_n (n := 55) hX 3 dX7_bag_54 rfl rfl rfl ?_
            refine gi_iald (n := 56) hX (ly_Bk k7) dX7_bag_55 rfl h (fun h => ?_)
            refine gi_goto (n := 60) hX dX7_bag_56 rfl ?_
            exact gi_iret hX rfl dX7_bag_60 h
        · refine gi_aload_n (n := 38) hX 0 dX7_bag_37 rfl rfl rfl ?_
          refine gi_getI (n := 41) hX 1 kc_X0 (ly_B k7) rfl rfl fl_X7_131 dX7_bag_38 rfl ?_
          exact gi_iret hX rfl dX7_bag_41 h
      · refine gi_bipush (x := (-2 : Int32)) (n := 22) hX rfl dX7_bag_20 rfl ?_
        exact gi_iret hX rfl dX7_bag_22 h
theorem m_X7_bag (l : Launch) (Ω : gO) (x1 : Int32) (x2 : Int32) (v : gV) {r0 : Int32} {v0 : gV} (h : f_X7_bag x1 x2 v = some (r0, v0)) : gx_M l Ω LX yX7_bag cX7_bag 4 (some .int) 2 [.ref (Ω.1 0), .int x1, .int x2] v (some (.int r0)) v0 := gx_start (lv := [(0, .ref (Ω.1 0)), (1, .int x1), (2, .int x2)]) (by decide +kernel) (Nat.le_of_ble_eq_true rfl) rfl (fun Γ _ hR hX => t_X7_bag hX hR x1 x2 v h)
set_option maxRecDepth 20000 in
theorem t_X7_chanceAbove_J59 {Γ : gC} {Ω : gO} {r0 : Int64} {v0 : gV} {o : (gV × Int64 × Int32) ⊕ (gV × Int64)} (hX : gx_X Γ Ω cX7_chanceAbove RX7 9 (some .long)) (hR : Γ.2.2.2.1 = gx_R 0) (x1 : Int32) (x2 : Int32) (x3 : Int64) (x5 : Int32) (x8 : Int32) (s0 : Int64) (s1 : Int64) (v : gV) (h : f_X7_chanceAbove_J59 x1 x2 x3 x5 x8 s0 s1 v = some o) (hc : ∀ c0 c1 c2, o = .inl (c0, c1, c2) → gx_G Γ Ω LX (gx_Q Γ Ω LX (some (.long r0)) v0) 9 c0 34 [(0, .ref (Ω.1 0)), (1, .int x1), (2, .int x2), (3, .long x3), (5, .int x5), (6, .long c1), (8, .int c2)] []) (hz : ∀ z0 z1, o = .inr (z0, z1) → gx_G Γ Ω LX (gx_Q Γ Ω LX (some (.long r0)) v0) 9 z0 68 [(0, .ref (Ω.1 0)), (1, .int x1), (2, .int x2), (3, .long x3), (5, .int x5), (6, .long z1)] []) : gx_G Γ Ω LX (gx_Q Γ Ω LX (some (.long r0)) v0) 9 v 59 [(0, .ref (Ω.1 0)), (1, .int x1), (2, .int x2), (3, .long x3), (5, .int x5), (8, .int x8)] [.long s0, .long s1] := by
  rw [f_X7_chanceAbove_J59] at h
  refine gi_lmul (n := 60) hX dX7_chanceAbove_59 rfl ?_
  refine gi_topJ h (fun u1 h => ?_)
  refine gi_lstore (n := 62) hX [(6, .long u1), (0, .ref (Ω.1 0)), (1, .int x1), (2, .int x2), (3, .long x3), (5, .int x5), (8, .int x8)] dX7_chanceAbove_60 rfl rfl rfl ?_
  refine gi_iinc (z := (1 : Int32)) (n := 65) hX 6 [(8, .int (x8 + (1 : Int32))), (6, .long u1), (0, .ref (Ω.1 0)), (1, .int x1), (2, .int x2), (3, .long x3), (5, .int x5)] dX7_chanceAbove_62 rfl rfl rfl rfl rfl rfl ?_
  refine gi_goto (n := 34) hX dX7_chanceAbove_65 rfl ?_
  refine gi_sub [2, 3, 4, 5, 6, 1, 0] rfl ?_
  exact hc _ _ _ (Option.some.inj h).symm
set_option maxRecDepth 20000 in
theorem t_X7_chanceAbove_B34 {Γ : gC} {Ω : gO} {r0 : Int64} {v0 : gV} {o : (gV × Int64 × Int32) ⊕ (gV × Int64)} (hX : gx_X Γ Ω cX7_chanceAbove RX7 9 (some .long)) (hR : Γ.2.2.2.1 = gx_R 0) (x1 : Int32) (x2 : Int32) (x3 : Int64) (x5 : Int32) (x6 : Int64) (x8 : Int32) (v : gV) (h : f_X7_chanceAbove_B34 x1 x2 x3 x5 x6 x8 v = some o) (hc : ∀ c0 c1 c2, o = .inl (c0, c1, c2) → gx_G Γ Ω LX (gx_Q Γ Ω LX (some (.long r0)) v0) 9 c0 34 [(0, .ref (Ω.1 0)), (1, .int x1), (2, .int x2), (3, .long x3), (5, .int x5), (6, .long c1), (8, .int c2)] []) (hz : ∀ z0 z1, o = .inr (z0, z1) → gx_G Γ Ω LX (gx_Q Γ Ω LX (some (.long r0)) v0) 9 z0 68 [(0, .ref (Ω.1 0)), (1, .int x1), (2, .int x2), (3, .long x3), (5, .int x5), (6, .long z1)] []) : gx_G Γ Ω LX (gx_Q Γ Ω LX (some (.long r0)) v0) 9 v 34 [(0, .ref (Ω.1 0)), (1, .int x1), (2, .int x2), (3, .long x3), (5, .int x5), (6, .long x6), (8, .int x8)] [] := by
  rw [f_X7_chanceAbove_B34] at h
  refine gi_iload (n := 36) hX 6 dX7_chanceAbove_34 rfl rfl ?_
  refine gi_iload_n (n := 37) hX 2 dX7_chanceAbove_36 rfl rfl rfl ?_
  refine gi_icmp_ge (tgt := 68) (n := 40) hX dX7_chanceAbove_37 rfl rfl h (fun h => ?_) (fun h => ?_)
  · refine gi_sub [0, 1, 2, 3, 4, 5] rfl ?_
    exact hz _ _ (Option.some.inj h).symm
  · refine gi_lload (n := 42) hX 5 dX7_chanceAbove_40 rfl rfl ?_
    refine gi_iload (n := 44) hX 6 dX7_chanceAbove_42 rfl rfl ?_
    refine gi_iload (n := 46) hX 4 dX7_chanceAbove_44 rfl rfl ?_
    refine gi_icmp_ge (tgt := 54) (n := 49) hX dX7_chanceAbove_46 rfl rfl h (fun h => ?_) (fun h => ?_)
    · refine gi_bipush (x := (16 : Int32)) (n := 56) hX rfl dX7_chanceAbove_54 rfl ?_
      refine gi_iload_n (n := 57) hX 1 dX7_chanceAbove_56 rfl rfl rfl ?_
      refine gi_isub (n := 58) hX dX7_chanceAbove_57 rfl ?_
      refine gi_i2l (n := 59) hX dX7_chanceAbove_58 rfl ?_
      refine gi_sub [0, 1, 2, 3, 4, 6] rfl ?_
      exact t_X7_chanceAbove_J59 hX hR x1 x2 x3 x5 x8 ((((16 : Int32) - x1)).toInt64) x6 v h hc hz
    · refine gi_iload_n (n := 50) hX 1 dX7_chanceAbove_49 rfl rfl rfl ?_
      refine gi_i2l (n := 51) hX dX7_chanceAbove_50 rfl ?_
      refine gi_goto (n := 59) hX dX7_chanceAbove_51 rfl ?_
      refine gi_sub [0, 1, 2, 3, 4, 6] rfl ?_
      exact t_X7_chanceAbove_J59 hX hR x1 x2 x3 x5 x8 ((x1).toInt64) x6 v h hc hz
set_option maxRecDepth 20000 in
theorem t_X7_chanceAbove_B5 {Γ : gC} {Ω : gO} {r0 : Int64} {v0 : gV} {o : (gV × Int64 × Int32) ⊕ (gV × Int64)} (hX : gx_X Γ Ω cX7_chanceAbove RX7 9 (some .long)) (hR : Γ.2.2.2.1 = gx_R 0) (x1 : Int32) (x2 : Int32) (x3 : Int64) (x5 : Int32) (v : gV) (h : f_X7_chanceAbove_B5 x1 x2 x3 x5 v = some o) (hc : ∀ c0 c1 c2, o = .inl (c0, c1, c2) → gx_G Γ Ω LX (gx_Q Γ Ω LX (some (.long r0)) v0) 9 c0 5 [(0, .ref (Ω.1 0)), (1, .int x1), (2, .int x2), (3, .long c1), (5, .int c2)] []) (hz : ∀ z0 z1, o = .inr (z0, z1) → gx_G Γ Ω LX (gx_Q Γ Ω LX (some (.long r0)) v0) 9 z0 79 [(3, .long z1)] []) : gx_G Γ Ω LX (gx_Q Γ Ω LX (some (.long r0)) v0) 9 v 5 [(0, .ref (Ω.1 0)), (1, .int x1), (2, .int x2), (3, .long x3), (5, .int x5)] [] := by
  rw [f_X7_chanceAbove_B5] at h
  refine gi_iload (n := 7) hX 4 dX7_chanceAbove_5 rfl rfl ?_
  refine gi_iload_n (n := 8) hX 2 dX7_chanceAbove_7 rfl rfl rfl ?_
  refine gi_icmp_gt (tgt := 79) (n := 11) hX dX7_chanceAbove_8 rfl rfl h (fun h => ?_) (fun h => ?_)
  · refine gi_sub [3] rfl ?_
    exact hz _ _ (Option.some.inj h).symm
  · refine gi_iload (n := 13) hX 4 dX7_chanceAbove_11 rfl rfl ?_
    refine gi_aload_n (n := 14) hX 0 dX7_chanceAbove_13 rfl rfl rfl ?_
    refine gi_getR (n := 17) hX 8 kc_X7 ly_X7 rfl rfl fl_X7_63 dX7_chanceAbove_14 rfl ?_
    refine gi_ilen (n := 18) hX ly_117 dX7_chanceAbove_17 rfl ?_
    refine gi_icmp_ge (tgt := 79) (n := 21) hX dX7_chanceAbove_18 rfl rfl h (fun h => ?_) (fun h => ?_)
    · refine gi_sub [3] rfl ?_
      exact hz _ _ (Option.some.inj h).symm
    · refine gi_aload_n (n := 22) hX 0 dX7_chanceAbove_21 rfl rfl rfl ?_
      refine gi_getR (n := 25) hX 8 kc_X7 ly_X7 rfl rfl fl_X7_63 dX7_chanceAbove_22 rfl ?_
      refine gi_iload (n := 27) hX 4 dX7_chanceAbove_25 rfl rfl ?_
      refine gi_iald (n := 28) hX ly_117 dX7_chanceAbove_27 rfl h (fun h => ?_)
      refine gi_i2l (n := 29) hX dX7_chanceAbove_28 rfl ?_
      refine gi_topJ h (fun u1 h => ?_)
      refine gi_lstore (n := 31) hX [(6, .long u1), (0, .ref (Ω.1 0)), (1, .int x1), (2, .int x2), (3, .long x3), (5, .int x5)] dX7_chanceAbove_29 rfl rfl rfl ?_
      refine gi_iconst (x := (0 : Int32)) (n := 32) hX rfl dX7_chanceAbove_31 rfl ?_
      refine gi_istore (n := 34) hX [(8, .int (0 : Int32)), (6, .long u1), (0, .ref (Ω.1 0)), (1, .int x1), (2, .int x2), (3, .long x3), (5, .int x5)] dX7_chanceAbove_32 rfl rfl rfl ?_
      refine gi_sub [2, 3, 4, 5, 6, 1, 0] rfl ?_
      have key := lp_ind (f := (fun a : gV × Int64 × Int32 => f_X7_chanceAbove_B34 x1 x2 x3 x5 a.2.1 a.2.2 a.1)) (P := (fun a : gV × Int64 × Int32 => gx_G Γ Ω LX (gx_Q Γ Ω LX (some (.long r0)) v0) 9 a.1 34 [(0, .ref (Ω.1 0)), (1, .int x1), (2, .int x2), (3, .long x3), (5, .int x5), (6, .long a.2.1), (8, .int a.2.2)] [])) (Z := (fun z : gV × Int64 => gx_G Γ Ω LX (gx_Q Γ Ω LX (some (.long r0)) v0) 9 z.1 68 [(0, .ref (Ω.1 0)), (1, .int x1), (2, .int x2), (3, .long x3), (5, .int x5), (6, .long z.2)] [])) (fun a o h hc hz => t_X7_chanceAbove_B34 hX hR x1 x2 x3 x5 a.2.1 a.2.2 a.1 h (fun c0 c1 c2 e => hc (c0, c1, c2) e) (fun z0 z1 e => hz (z0, z1) e)) fu
      obtain ⟨v2, y3, e0, h⟩ := bx2_some h
      refine key (v, u1, (0 : Int32)) _ e0 ?_
      show gx_G Γ Ω LX (gx_Q Γ Ω LX (some (.long r0)) v0) 9 v2 68 [(0, .ref (Ω.1 0)), (1, .int x1), (2, .int x2), (3, .long x3), (5, .int x5), (6, .long y3)] []
      refine gi_lload_n (n := 69) hX 3 dX7_chanceAbove_68 rfl rfl rfl ?_
      refine gi_lload (n := 71) hX 5 dX7_chanceAbove_69 rfl rfl ?_
      refine gi_ladd (n := 72) hX dX7_chanceAbove_71 rfl ?_
      refine gi_topJ h (fun u4 h => ?_)
      refine gi_lstore_n (n := 73) hX [(3, .long u4), (0, .ref (Ω.1 0)), (1, .int x1), (2, .int x2), (5, .int x5), (6, .long y3)] dX7_chanceAbove_72 rfl rfl rfl rfl ?_
      refine gi_iinc (z := (1 : Int32)) (n := 76) hX 4 [(5, .int (x5 + (1 : Int32))), (3, .long u4), (0, .ref (Ω.1 0)), (1, .int x1), (2, .int x2), (6, .long y3)] dX7_chanceAbove_73 rfl rfl rfl rfl rfl rfl ?_
      refine gi_goto (n := 5) hX dX7_chanceAbove_76 rfl ?_
      refine gi_sub [2, 3, 4, 1, 0] rfl ?_
      exact hc _ _ _ (Option.some.inj h).symm
set_option maxRecDepth 20000 in
theorem t_X7_chanceAbove {Γ : gC} {Ω : gO} {r0 : Int64} {v0 : gV} (hX : gx_X Γ Ω cX7_chanceAbove RX7 9 (some .long)) (hR : Γ.2.2.2.1 = gx_R 0) (x1 : Int32) (x2 : Int32) (v : gV) (h : f_X7_chanceAbove x1 x2 v = some (r0, v0)) : gx_G Γ Ω LX (gx_Q Γ Ω LX (some (.long r0)) v0) 9 v 0 [(0, .ref (Ω.1 0)), (1, .int x1), (2, .int x2)] [] := by
  rw [f_X7_chanceAbove] at h
  refine gi_lconst (x := (0 : Int64)) (n := 1) hX rfl dX7_chanceAbove_0 rfl ?_
  refine gi_lstore_n (n := 2) hX [(3, .long (0 : Int64)), (0, .ref (Ω.1 0)), (1, .int x1), (2, .int x2)] dX7_chanceAbove_1 rfl rfl rfl rfl ?_
  refine gi_iconst (x := (0 : Int32)) (n := 3) hX rfl dX7_chanceAbove_2 rfl ?_
  refine gi_istore (n := 5) hX [(5, .int (0 : Int32)), (3, .long (0 : Int64)), (0, .ref (Ω.1 0)), (1, .int x1), (2, .int x2)] dX7_chanceAbove_3 rfl rfl rfl ?_
  refine gi_sub [2, 3, 4, 1, 0] rfl ?_
  have key := lp_ind (f := (fun a : gV × Int64 × Int32 => f_X7_chanceAbove_B5 x1 x2 a.2.1 a.2.2 a.1)) (P := (fun a : gV × Int64 × Int32 => gx_G Γ Ω LX (gx_Q Γ Ω LX (some (.long r0)) v0) 9 a.1 5 [(0, .ref (Ω.1 0)), (1, .int x1), (2, .int x2), (3, .long a.2.1), (5, .int a.2.2)] [])) (Z := (fun z : gV × Int64 => gx_G Γ Ω LX (gx_Q Γ Ω LX (some (.long r0)) v0) 9 z.1 79 [(3, .long z.2)] [])) (fun a o h hc hz => t_X7_chanceAbove_B5 hX hR x1 x2 a.2.1 a.2.2 a.1 h (fun c0 c1 c2 e => hc (c0, c1, c2) e) (fun z0 z1 e => hz (z0, z1) e)) fu
  obtain ⟨v1, y2, e0, h⟩ := bx2_some h
  refine key (v, (0 : Int64), (0 : Int32)) _ e0 ?_
  show gx_G Γ Ω LX (gx_Q Γ Ω LX (some (.long r0)) v0) 9 v1 79 [(3, .long y2)] []
  refine gi_lload_n (n := 80) hX 0 dX7_chanceAbove_79 rfl rfl rfl ?_
  exact gi_lret hX rfl dX7_chanceAbove_80 h
theorem m_X7_chanceAbove (l : Launch) (Ω : gO) (x1 : Int32) (x2 : Int32) (v : gV) {r0 : Int64} {v0 : gV} (h : f_X7_chanceAbove x1 x2 v = some (r0, v0)) : gx_M l Ω LX yX7_chanceAbove cX7_chanceAbove 9 (some .long) 0 [.ref (Ω.1 0), .int x1, .int x2] v (some (.long r0)) v0 := gx_start (lv := [(0, .ref (Ω.1 0)), (1, .int x1), (2, .int x2)]) (by decide +kernel) (Nat.le_of_ble_eq_true rfl) rfl (fun Γ _ hR hX => t_X7_chanceAbove hX hR x1 x2 v h)
set_option maxRecDepth 20000 in
theorem t_X7_finding {Γ : gC} {Ω : gO} {r0 : Int32} {v0 : gV} (hX : gx_X Γ Ω cX7_finding RX7 2 (some .int)) (hR : Γ.2.2.2.1 = gx_R 0) (x1 : Int32) (v : gV) (h : f_X7_finding x1 v = some (r0, v0)) : gx_G Γ Ω LX (gx_Q Γ Ω LX (some (.int r0)) v0) 2 v 0 [(0, .ref (Ω.1 0)), (1, .int x1)] [] := by
  rw [f_X7_finding] at h
  refine gi_aload_n (n := 1) hX 0 dX7_finding_0 rfl rfl rfl ?_
  refine gi_iload_n (n := 2) hX 1 dX7_finding_1 rfl rfl rfl ?_
  refine gi_putI (n := 5) hX 9 kc_X7 ly_X7 rfl rfl fl_X7_276 rfl rfl dX7_finding_2 rfl h (fun v1 h => ?_)
  refine gi_bipush (x := (-10 : Int32)) (n := 7) hX rfl dX7_finding_5 rfl ?_
  refine gi_iload_n (n := 8) hX 1 dX7_finding_7 rfl rfl rfl ?_
  refine gi_isub (n := 9) hX dX7_finding_8 rfl ?_
  exact gi_iret hX rfl dX7_finding_9 h
theorem m_X7_finding (l : Launch) (Ω : gO) (x1 : Int32) (v : gV) {r0 : Int32} {v0 : gV} (h : f_X7_finding x1 v = some (r0, v0)) : gx_M l Ω LX yX7_finding cX7_finding 2 (some .int) 0 [.ref (Ω.1 0), .int x1] v (some (.int r0)) v0 := gx_start (lv := [(0, .ref (Ω.1 0)), (1, .int x1)]) (by decide +kernel) (Nat.le_of_ble_eq_true rfl) rfl (fun Γ _ hR hX => t_X7_finding hX hR x1 v h)
set_option maxRecDepth 20000 in
theorem t_X7_copy_J43 {Γ : gC} {Ω : gO} {r0 : Int32} {v0 : gV} (hX : gx_X Γ Ω cX7_copy RX7 6 (some .int)) (hR : Γ.2.2.2.1 = gx_R 1)  (v : gV) (h : f_X7_copy_J43  v = some (r0, v0)) : gx_G Γ Ω LX (gx_Q Γ Ω LX (some (.int r0)) v0) 6 v 43 [(0, .ref (Ω.1 0))] [] := by
  rw [f_X7_copy_J43] at h
  refine gi_aload_n (n := 44) hX 0 dX7_copy_43 rfl rfl rfl ?_
  refine gi_iconst (x := (1 : Int32)) (n := 45) hX rfl dX7_copy_44 rfl ?_
  obtain ⟨r3, v1, e2, h⟩ := bi_some h
  refine gi_virtI (st := []) (n := 48) hX hR kc_X7 ly_X7 mv_X7_finding ml_X7_195 (m_X7_finding Γ.2.1 Ω (1 : Int32) v e2) rfl ⟨rfl, rfl⟩ rfl dX7_copy_45 rfl rfl ?_
  exact gi_iret hX rfl dX7_copy_48 h
set_option maxRecDepth 20000 in
theorem t_X7_copy_J107 {Γ : gC} {Ω : gO} {r0 : Int32} {v0 : gV} (hX : gx_X Γ Ω cX7_copy RX7 6 (some .int)) (hR : Γ.2.2.2.1 = gx_R 1)  (v : gV) (h : f_X7_copy_J107  v = some (r0, v0)) : gx_G Γ Ω LX (gx_Q Γ Ω LX (some (.int r0)) v0) 6 v 107 [(0, .ref (Ω.1 0))] [] := by
  rw [f_X7_copy_J107] at h
  refine gi_aload_n (n := 108) hX 0 dX7_copy_107 rfl rfl rfl ?_
  refine gi_iconst (x := (2 : Int32)) (n := 109) hX rfl dX7_copy_108 rfl ?_
  obtain ⟨r3, v1, e2, h⟩ := bi_some h
  refine gi_virtI (st := []) (n := 112) hX hR kc_X7 ly_X7 mv_X7_finding ml_X7_195 (m_X7_finding Γ.2.1 Ω (2 : Int32) v e2) rfl ⟨rfl, rfl⟩ rfl dX7_copy_109 rfl rfl ?_
  exact gi_iret hX rfl dX7_copy_112 h
set_option maxRecDepth 20000 in
theorem t_X7_copy {Γ : gC} {Ω : gO} {r0 : Int32} {v0 : gV} (hX : gx_X Γ Ω cX7_copy RX7 6 (some .int)) (hR : Γ.2.2.2.1 = gx_R 1) (x1 : Int32) (x2 : Int32) (x3 : Int32) (x4 : Int32) (x5 : Int32) (v : gV) (h : f_X7_copy x1 x2 x3 x4 x5 v = some (r0, v0)) : gx_G Γ Ω LX (gx_Q Γ Ω LX (some (.int r0)) v0) 6 v 0 [(0, .ref (Ω.1 0)), (1, .int x1), (2, .int x2), (3, .int x3), (4, .int x4), (5, .int x5)] [] := by
  rw [f_X7_copy] at h
  refine gi_iload_n (n := 1) hX 1 dX7_copy_0 rfl rfl rfl ?_
  refine gi_iconst (x := (4 : Int32)) (n := 2) hX rfl dX7_copy_1 rfl ?_
  obtain ⟨r3, v1, e2, h⟩ := bi_some h
  refine gi_statI (st := []) (n := 5) hX hR ms_X7_isOutside ml_X7_70 (m_X7_isOutside Γ.2.1 Ω x1 (4 : Int32) v e2) rfl ⟨rfl, rfl⟩ rfl dX7_copy_2 rfl rfl ?_
  refine gi_if_ne (tgt := 16) (n := 8) hX dX7_copy_5 rfl rfl h (fun h => ?_) (fun h => ?_)
  · refine gi_bipush (x := (-2 : Int32)) (n := 18) hX rfl dX7_copy_16 rfl ?_
    exact gi_iret hX rfl dX7_copy_18 h
  · refine gi_iload_n (n := 9) hX 3 dX7_copy_8 rfl rfl rfl ?_
    refine gi_iconst (x := (4 : Int32)) (n := 10) hX rfl dX7_copy_9 rfl ?_
    obtain ⟨r6, v4, e5, h⟩ := bi_some h
    refine gi_statI (st := []) (n := 13) hX hR ms_X7_isOutside ml_X7_70 (m_X7_isOutside Γ.2.1 Ω x3 (4 : Int32) v1 e5) rfl ⟨rfl, rfl⟩ rfl dX7_copy_10 rfl rfl ?_
    refine gi_if_eq (tgt := 19) (n := 16) hX dX7_copy_13 rfl rfl h (fun h => ?_) (fun h => ?_)
    · refine gi_aload_n (n := 20) hX 0 dX7_copy_19 rfl rfl rfl ?_
      refine gi_getR (n := 23) hX 6 kc_X7 ly_X7 rfl rfl fl_X7_54 dX7_copy_20 rfl ?_
      refine gi_iload_n (n := 24) hX 1 dX7_copy_23 rfl rfl rfl ?_
      refine gi_aald (n := 25) hX ly_99 (Or.inr (Or.inl rfl)) dX7_copy_24 rfl h (fun g7 k8 h => ?_)
      obtain ⟨r11, v9, e10, h⟩ := bi_some h
      refine gi_virtI (st := []) (n := 28) hX hR kc_X2 (ly_S k8) mv_X2_isLost ml_X7_192 (m_X2_isLost Γ.2.1 Ω g7 k8 v4 e10) rfl ⟨rfl, rfl⟩ rfl dX7_copy_25 rfl rfl ?_
      refine gi_if_ne (tgt := 43) (n := 31) hX dX7_copy_28 rfl rfl h (fun h => ?_) (fun h => ?_)
      · refine gi_sub [0] rfl ?_
        exact t_X7_copy_J43 hX hR v9 h
      · refine gi_aload_n (n := 32) hX 0 dX7_copy_31 rfl rfl rfl ?_
        refine gi_getR (n := 35) hX 6 kc_X7 ly_X7 rfl rfl fl_X7_54 dX7_copy_32 rfl ?_
        refine gi_iload_n (n := 36) hX 3 dX7_copy_35 rfl rfl rfl ?_
        refine gi_aald (n := 37) hX ly_99 (Or.inr (Or.inl rfl)) dX7_copy_36 rfl h (fun g12 k13 h => ?_)
        obtain ⟨r16, v14, e15, h⟩ := bi_some h
        refine gi_virtI (st := []) (n := 40) hX hR kc_X2 (ly_S k13) mv_X2_isLost ml_X7_192 (m_X2_isLost Γ.2.1 Ω g12 k13 v9 e15) rfl ⟨rfl, rfl⟩ rfl dX7_copy_37 rfl rfl ?_
        refine gi_if_eq (tgt := 49) (n := 43) hX dX7_copy_40 rfl rfl h (fun h => ?_) (fun h => ?_)
        · refine gi_aload_n (n := 50) hX 0 dX7_copy_49 rfl rfl rfl ?_
          refine gi_getR (n := 53) hX 6 kc_X7 ly_X7 rfl rfl fl_X7_54 dX7_copy_50 rfl ?_
          refine gi_iload_n (n := 54) hX 1 dX7_copy_53 rfl rfl rfl ?_
          refine gi_aald (n := 55) hX ly_99 (Or.inr (Or.inl rfl)) dX7_copy_54 rfl h (fun g17 k18 h => ?_)
          refine gi_getI (n := 58) hX 0 kc_X2 (ly_S k18) rfl rfl fl_X7_255 dX7_copy_55 rfl ?_
          refine gi_aload_n (n := 59) hX 0 dX7_copy_58 rfl rfl rfl ?_
          refine gi_getR (n := 62) hX 6 kc_X7 ly_X7 rfl rfl fl_X7_54 dX7_copy_59 rfl ?_
          refine gi_iload_n (n := 63) hX 3 dX7_copy_62 rfl rfl rfl ?_
          refine gi_aald (n := 64) hX ly_99 (Or.inr (Or.inl rfl)) dX7_copy_63 rfl h (fun g19 k20 h => ?_)
          refine gi_getI (n := 67) hX 0 kc_X2 (ly_S k20) rfl rfl fl_X7_255 dX7_copy_64 rfl ?_
          refine gi_icmp_eq (tgt := 76) (n := 70) hX dX7_copy_67 rfl rfl h (fun h => ?_) (fun h => ?_)
          · refine gi_aload_n (n := 77) hX 0 dX7_copy_76 rfl rfl rfl ?_
            refine gi_getR (n := 80) hX 6 kc_X7 ly_X7 rfl rfl fl_X7_54 dX7_copy_77 rfl ?_
            refine gi_iload_n (n := 81) hX 1 dX7_copy_80 rfl rfl rfl ?_
            refine gi_aald (n := 82) hX ly_99 (Or.inr (Or.inl rfl)) dX7_copy_81 rfl h (fun g21 k22 h => ?_)
            refine gi_iload_n (n := 83) hX 2 dX7_copy_82 rfl rfl rfl ?_
            refine gi_iload (n := 85) hX 5 dX7_copy_83 rfl rfl ?_
            obtain ⟨r25, v23, e24, h⟩ := bi_some h
            refine gi_virtI (st := []) (n := 88) hX hR kc_X2 (ly_S k22) mv_X2_hasItems ml_X7_258 (m_X2_hasItems Γ.2.1 Ω g21 k22 x2 x5 v14 e24) rfl ⟨rfl, rfl⟩ rfl dX7_copy_85 rfl rfl ?_
            refine gi_if_eq (tgt := 107) (n := 91) hX dX7_copy_88 rfl rfl h (fun h => ?_) (fun h => ?_)
            · refine gi_sub [0] rfl ?_
              exact t_X7_copy_J107 hX hR v23 h
            · refine gi_aload_n (n := 92) hX 0 dX7_copy_91 rfl rfl rfl ?_
              refine gi_getR (n := 95) hX 6 kc_X7 ly_X7 rfl rfl fl_X7_54 dX7_copy_92 rfl ?_
              refine gi_iload_n (n := 96) hX 3 dX7_copy_95 rfl rfl rfl ?_
              refine gi_aald (n := 97) hX ly_99 (Or.inr (Or.inl rfl)) dX7_copy_96 rfl h (fun g26 k27 h => ?_)
              refine gi_iload (n := 99) hX 4 dX7_copy_97 rfl rfl ?_
              refine gi_iload (n := 101) hX 5 dX7_copy_99 rfl rfl ?_
              obtain ⟨r30, v28, e29, h⟩ := bi_some h
              refine gi_virtI (st := []) (n := 104) hX hR kc_X2 (ly_S k27) mv_X2_hasItems ml_X7_258 (m_X2_hasItems Γ.2.1 Ω g26 k27 x4 x5 v23 e29) rfl ⟨rfl, rfl⟩ rfl dX7_copy_101 rfl rfl ?_
              refine gi_if_ne (tgt := 113) (n := 107) hX dX7_copy_104 rfl rfl h (fun h => ?_) (fun h => ?_)
              · refine gi_aload_n (n := 114) hX 0 dX7_copy_113 rfl rfl rfl ?_
                refine gi_getR (n := 117) hX 6 kc_X7 ly_X7 rfl rfl fl_X7_54 dX7_copy_114 rfl ?_
                refine gi_iload_n (n := 118) hX 1 dX7_copy_117 rfl rfl rfl ?_
                refine gi_aald (n := 119) hX ly_99 (Or.inr (Or.inl rfl)) dX7_copy_118 rfl h (fun g31 k32 h => ?_)
                refine gi_getR (n := 122) hX 2 kc_X2 (ly_S k32) rfl rfl fl_X7_198 dX7_copy_119 rfl ?_
                refine gi_iload_n (n := 123) hX 2 dX7_copy_122 rfl rfl rfl ?_
                refine gi_aload_n (n := 124) hX 0 dX7_copy_123 rfl rfl rfl ?_
                refine gi_getR (n := 127) hX 6 kc_X7 ly_X7 rfl rfl fl_X7_54 dX7_copy_124 rfl ?_
                refine gi_iload_n (n := 128) hX 3 dX7_copy_127 rfl rfl rfl ?_
                refine gi_aald (n := 129) hX ly_99 (Or.inr (Or.inl rfl)) dX7_copy_128 rfl h (fun g33 k34 h => ?_)
                refine gi_getR (n := 132) hX 2 kc_X2 (ly_S k34) rfl rfl fl_X7_198 dX7_copy_129 rfl ?_
                refine gi_iload (n := 134) hX 4 dX7_copy_132 rfl rfl ?_
                refine gi_iload (n := 136) hX 5 dX7_copy_134 rfl rfl ?_
                refine gi_copy (d := 0) (st := []) (n := 139) hX (ly_Sk k32) (ly_Sk k34) ml_X7_261 w_nat w_sta w_sys hR rfl dX7_copy_136 rfl h (fun v35 h => ?_)
                refine gi_iconst (x := (1 : Int32)) (n := 140) hX rfl dX7_copy_139 rfl ?_
                exact gi_iret hX rfl dX7_copy_140 h
              · refine gi_sub [0] rfl ?_
                exact t_X7_copy_J107 hX hR v28 h
          · refine gi_aload_n (n := 71) hX 0 dX7_copy_70 rfl rfl rfl ?_
            refine gi_iconst (x := (4 : Int32)) (n := 72) hX rfl dX7_copy_71 rfl ?_
            obtain ⟨r38, v36, e37, h⟩ := bi_some h
            refine gi_virtI (st := []) (n := 75) hX hR kc_X7 ly_X7 mv_X7_finding ml_X7_195 (m_X7_finding Γ.2.1 Ω (4 : Int32) v14 e37) rfl ⟨rfl, rfl⟩ rfl dX7_copy_72 rfl rfl ?_
            exact gi_iret hX rfl dX7_copy_75 h
        · refine gi_sub [0] rfl ?_
          exact t_X7_copy_J43 hX hR v14 h
    · refine gi_bipush (x := (-2 : Int32)) (n := 18) hX rfl dX7_copy_16 rfl ?_
      exact gi_iret hX rfl dX7_copy_18 h
theorem m_X7_copy (l : Launch) (Ω : gO) (x1 : Int32) (x2 : Int32) (x3 : Int32) (x4 : Int32) (x5 : Int32) (v : gV) {r0 : Int32} {v0 : gV} (h : f_X7_copy x1 x2 x3 x4 x5 v = some (r0, v0)) : gx_M l Ω LX yX7_copy cX7_copy 6 (some .int) 1 [.ref (Ω.1 0), .int x1, .int x2, .int x3, .int x4, .int x5] v (some (.int r0)) v0 := gx_start (lv := [(0, .ref (Ω.1 0)), (1, .int x1), (2, .int x2), (3, .int x3), (4, .int x4), (5, .int x5)]) (by decide +kernel) (Nat.le_of_ble_eq_true rfl) rfl (fun Γ _ hR hX => t_X7_copy hX hR x1 x2 x3 x4 x5 v h)
set_option maxRecDepth 20000 in
theorem t_X7_count {Γ : gC} {Ω : gO} {r0 : Int32} {v0 : gV} (hX : gx_X Γ Ω cX7_count RX7 2 (some .int)) (hR : Γ.2.2.2.1 = gx_R 2) (x1 : Int32) (v : gV) (h : f_X7_count x1 v = some (r0, v0)) : gx_G Γ Ω LX (gx_Q Γ Ω LX (some (.int r0)) v0) 2 v 0 [(0, .ref (Ω.1 0)), (1, .int x1)] [] := by
  rw [f_X7_count] at h
  refine gi_iload_n (n := 1) hX 1 dX7_count_0 rfl rfl rfl ?_
  rcases if_split h with ⟨c0, h⟩ | ⟨c0, h⟩
  · refine gi_tin (k0 := (0 : Int32)) (off := 51) (tgt := 52) hX dX7_count_1 c0 rfl ?_
    refine gi_aload_n (n := 53) hX 0 dX7_count_52 rfl rfl rfl ?_
    refine gi_getR (n := 56) hX 1 kc_X7 ly_X7 rfl rfl fl_X7_21 dX7_count_53 rfl ?_
    refine gi_getI (n := 59) hX 0 kc_X6 ly_X6 rfl rfl fl_X7_92 dX7_count_56 rfl ?_
    exact gi_iret hX rfl dX7_count_59 h
  rcases if_split h with ⟨c1, h⟩ | ⟨c1, h⟩
  · refine gi_tin (k0 := (1 : Int32)) (off := 59) (tgt := 60) hX dX7_count_1 c1 rfl ?_
    refine gi_aload_n (n := 61) hX 0 dX7_count_60 rfl rfl rfl ?_
    refine gi_getR (n := 64) hX 1 kc_X7 ly_X7 rfl rfl fl_X7_21 dX7_count_61 rfl ?_
    refine gi_getR (n := 67) hX 7 kc_X6 ly_X6 rfl rfl fl_X7_272 dX7_count_64 rfl ?_
    refine gi_getI (n := 70) hX 1 kc_X0 (ly_B (rfl : kB 13 = true)) rfl rfl fl_X7_131 dX7_count_67 rfl ?_
    exact gi_iret hX rfl dX7_count_70 h
  rcases if_split h with ⟨c2, h⟩ | ⟨c2, h⟩
  · refine gi_tin (k0 := (2 : Int32)) (off := 70) (tgt := 71) hX dX7_count_1 c2 rfl ?_
    refine gi_aload_n (n := 72) hX 0 dX7_count_71 rfl rfl rfl ?_
    refine gi_getR (n := 75) hX 0 kc_X7 ly_X7 rfl rfl fl_X7_14 dX7_count_72 rfl ?_
    refine gi_iconst (x := (0 : Int32)) (n := 76) hX rfl dX7_count_75 rfl ?_
    refine gi_aald (n := 77) hX ly_1 (Or.inl rfl) dX7_count_76 rfl h (fun g1 k2 h => ?_)
    refine gi_getI (n := 80) hX 1 kc_X5 (ly_T k2) rfl rfl fl_X7_81 dX7_count_77 rfl ?_
    exact gi_iret hX rfl dX7_count_80 h
  rcases if_split h with ⟨c3, h⟩ | ⟨c3, h⟩
  · refine gi_tin (k0 := (3 : Int32)) (off := 80) (tgt := 81) hX dX7_count_1 c3 rfl ?_
    refine gi_aload_n (n := 82) hX 0 dX7_count_81 rfl rfl rfl ?_
    refine gi_getR (n := 85) hX 0 kc_X7 ly_X7 rfl rfl fl_X7_14 dX7_count_82 rfl ?_
    refine gi_iconst (x := (1 : Int32)) (n := 86) hX rfl dX7_count_85 rfl ?_
    refine gi_aald (n := 87) hX ly_1 (Or.inl rfl) dX7_count_86 rfl h (fun g3 k4 h => ?_)
    refine gi_getI (n := 90) hX 1 kc_X5 (ly_T k4) rfl rfl fl_X7_81 dX7_count_87 rfl ?_
    exact gi_iret hX rfl dX7_count_90 h
  rcases if_split h with ⟨c4, h⟩ | ⟨c4, h⟩
  · refine gi_tin (k0 := (4 : Int32)) (off := 90) (tgt := 91) hX dX7_count_1 c4 rfl ?_
    refine gi_aload_n (n := 92) hX 0 dX7_count_91 rfl rfl rfl ?_
    refine gi_getR (n := 95) hX 2 kc_X7 ly_X7 rfl rfl fl_X7_30 dX7_count_92 rfl ?_
    refine gi_getI (n := 98) hX 11 kc_X1 (ly_R (rfl : kR 16 = true)) rfl rfl fl_X7_273 dX7_count_95 rfl ?_
    exact gi_iret hX rfl dX7_count_98 h
  rcases if_split h with ⟨c5, h⟩ | ⟨c5, h⟩
  · refine gi_tin (k0 := (5 : Int32)) (off := 98) (tgt := 99) hX dX7_count_1 c5 rfl ?_
    refine gi_aload_n (n := 100) hX 0 dX7_count_99 rfl rfl rfl ?_
    refine gi_getR (n := 103) hX 2 kc_X7 ly_X7 rfl rfl fl_X7_30 dX7_count_100 rfl ?_
    obtain ⟨r7, v5, e6, h⟩ := bi_some h
    refine gi_virtI (st := []) (n := 106) hX hR kc_X1 (ly_R (rfl : kR 16 = true)) mv_X1_servedAtLast ml_X7_168 (m_X1_servedAtLast Γ.2.1 Ω 16 (rfl : kR 16 = true) v e6) rfl ⟨rfl, rfl⟩ rfl dX7_count_103 rfl rfl ?_
    exact gi_iret hX rfl dX7_count_106 h
  rcases if_split h with ⟨c6, h⟩ | ⟨c6, h⟩
  · refine gi_tin (k0 := (6 : Int32)) (off := 106) (tgt := 107) hX dX7_count_1 c6 rfl ?_
    refine gi_aload_n (n := 108) hX 0 dX7_count_107 rfl rfl rfl ?_
    refine gi_getR (n := 111) hX 1 kc_X7 ly_X7 rfl rfl fl_X7_21 dX7_count_108 rfl ?_
    refine gi_getI (n := 114) hX 10 kc_X6 ly_X6 rfl rfl fl_X7_227 dX7_count_111 rfl ?_
    exact gi_iret hX rfl dX7_count_114 h
  rcases if_split h with ⟨c7, h⟩ | ⟨c7, h⟩
  · refine gi_tin (k0 := (7 : Int32)) (off := 114) (tgt := 115) hX dX7_count_1 c7 rfl ?_
    refine gi_aload_n (n := 116) hX 0 dX7_count_115 rfl rfl rfl ?_
    refine gi_getR (n := 119) hX 5 kc_X7 ly_X7 rfl rfl fl_X7_47 dX7_count_116 rfl ?_
    refine gi_getI (n := 122) hX 3 kc_X3 ly_X3 rfl rfl fl_X7_191 dX7_count_119 rfl ?_
    exact gi_iret hX rfl dX7_count_122 h
  rcases if_split h with ⟨c8, h⟩ | ⟨c8, h⟩
  · refine gi_tin (k0 := (8 : Int32)) (off := 122) (tgt := 123) hX dX7_count_1 c8 rfl ?_
    refine gi_aload_n (n := 124) hX 0 dX7_count_123 rfl rfl rfl ?_
    refine gi_getI (n := 127) hX 9 kc_X7 ly_X7 rfl rfl fl_X7_276 dX7_count_124 rfl ?_
    exact gi_iret hX rfl dX7_count_127 h
  refine gi_tout (tgt := 128) hX dX7_count_1 (by have e0 := lv_neT (a := 0) c0 rfl; have e1 := lv_neT (a := 1) c1 rfl; have e2 := lv_neT (a := 2) c2 rfl; have e3 := lv_neT (a := 3) c3 rfl; have e4 := lv_neT (a := 4) c4 rfl; have e5 := lv_neT (a := 5) c5 rfl; have e6 := lv_neT (a := 6) c6 rfl; have e7 := lv_neT (a := 7) c7 rfl; have e8 := lv_neT (a := 8) c8 rfl; omega) rfl ?_
  refine gi_bipush (x := (-2 : Int32)) (n := 130) hX rfl dX7_count_128 rfl ?_
  exact gi_iret hX rfl dX7_count_130 h
theorem m_X7_count (l : Launch) (Ω : gO) (x1 : Int32) (v : gV) {r0 : Int32} {v0 : gV} (h : f_X7_count x1 v = some (r0, v0)) : gx_M l Ω LX yX7_count cX7_count 2 (some .int) 2 [.ref (Ω.1 0), .int x1] v (some (.int r0)) v0 := gx_start (lv := [(0, .ref (Ω.1 0)), (1, .int x1)]) (by decide +kernel) (Nat.le_of_ble_eq_true rfl) rfl (fun Γ _ hR hX => t_X7_count hX hR x1 v h)
set_option maxRecDepth 20000 in
theorem t_X7_depot_B44 {Γ : gC} {Ω : gO} {r0 : Int32} {v0 : gV} {o : (gV × Int32 × Int32) ⊕ (gV)} (hX : gx_X Γ Ω cX7_depot RX7 6 (some .int)) (hR : Γ.2.2.2.1 = gx_R 4) (x2 : Int32) (x3 : Int32) (x4 : Int32) (x5 : Int32) (v : gV) (h : f_X7_depot_B44 x2 x3 x4 x5 v = some o) (hc : ∀ c0 c1 c2, o = .inl (c0, c1, c2) → gx_G Γ Ω LX (gx_Q Γ Ω LX (some (.int r0)) v0) 6 c0 44 [(0, .ref (Ω.1 0)), (2, .int x2), (3, .int x3), (4, .int c1), (5, .int c2)] []) (hz : ∀ z0, o = .inr z0 → gx_G Γ Ω LX (gx_Q Γ Ω LX (some (.int r0)) v0) 6 z0 85 [(0, .ref (Ω.1 0)), (3, .int x3)] []) : gx_G Γ Ω LX (gx_Q Γ Ω LX (some (.int r0)) v0) 6 v 44 [(0, .ref (Ω.1 0)), (2, .int x2), (3, .int x3), (4, .int x4), (5, .int x5)] [] := by
  rw [f_X7_depot_B44] at h
  refine gi_iload (n := 46) hX 4 dX7_depot_44 rfl rfl ?_
  refine gi_iload_n (n := 47) hX 1 dX7_depot_46 rfl rfl rfl ?_
  refine gi_icmp_ge (tgt := 85) (n := 50) hX dX7_depot_47 rfl rfl h (fun h => ?_) (fun h => ?_)
  · refine gi_sub [0, 2] rfl ?_
    exact hz _ (Option.some.inj h).symm
  · refine gi_ldc (n := 52) hX co_X7_236 dX7_depot_50 rfl ?_
    refine gi_iload (n := 54) hX 3 dX7_depot_52 rfl rfl ?_
    refine gi_imul (n := 55) hX dX7_depot_54 rfl ?_
    refine gi_sipush (x := (12345 : Int32)) (n := 58) hX rfl dX7_depot_55 rfl ?_
    refine gi_iadd (n := 59) hX dX7_depot_58 rfl ?_
    refine gi_topI h (fun u1 h => ?_)
    refine gi_istore (n := 61) hX [(4, .int u1), (0, .ref (Ω.1 0)), (2, .int x2), (3, .int x3), (5, .int x5)] dX7_depot_59 rfl rfl rfl ?_
    refine gi_aload_n (n := 62) hX 1 dX7_depot_61 rfl rfl rfl ?_
    refine gi_getR (n := 65) hX 3 kc_X7 ly_X7 rfl rfl fl_X7_34 dX7_depot_62 rfl ?_
    refine gi_getR (n := 68) hX 4 kc_X1 (ly_R (rfl : kR 54 = true)) rfl rfl fl_X7_174 dX7_depot_65 rfl ?_
    refine gi_iload (n := 70) hX 0 dX7_depot_68 rfl rfl ?_
    refine gi_bipush (x := (16 : Int32)) (n := 72) hX rfl dX7_depot_70 rfl ?_
    refine gi_iushr (n := 73) hX dX7_depot_72 rfl ?_
    refine gi_bipush (x := (8 : Int32)) (n := 75) hX rfl dX7_depot_73 rfl ?_
    refine gi_irem (n := 76) hX (by decide) dX7_depot_75 rfl ?_
    obtain ⟨v2, e3, h⟩ := bv_some h
    refine gi_virtV (st := []) (n := 79) hX hR kc_X0 (ly_B (kb_R (rfl : kR 54 = true))) mv_X0_putAtBottom ml_X7_237 (m_X0_putAtBottom Γ.2.1 Ω (54 + 2) (kb_R (rfl : kR 54 = true)) (jrem (jushr u1 (16 : Int32)) (8 : Int32)) v e3) rfl ⟨rfl, rfl⟩ rfl dX7_depot_76 rfl rfl ?_
    refine gi_iinc (z := (1 : Int32)) (n := 82) hX 4 [(5, .int (x5 + (1 : Int32))), (4, .int u1), (0, .ref (Ω.1 0)), (2, .int x2), (3, .int x3)] dX7_depot_79 rfl rfl rfl rfl rfl rfl ?_
    refine gi_goto (n := 44) hX dX7_depot_82 rfl ?_
    refine gi_sub [2, 3, 4, 1, 0] rfl ?_
    exact hc _ _ _ (Option.some.inj h).symm
set_option maxRecDepth 20000 in
theorem t_X7_depot {Γ : gC} {Ω : gO} {r0 : Int32} {v0 : gV} (hX : gx_X Γ Ω cX7_depot RX7 6 (some .int)) (hR : Γ.2.2.2.1 = gx_R 4) (x1 : Int32) (x2 : Int32) (x3 : Int32) (v : gV) (h : f_X7_depot x1 x2 x3 v = some (r0, v0)) : gx_G Γ Ω LX (gx_Q Γ Ω LX (some (.int r0)) v0) 6 v 0 [(0, .ref (Ω.1 0)), (1, .int x1), (2, .int x2), (3, .int x3)] [] := by
  rw [f_X7_depot] at h
  refine gi_iload_n (n := 1) hX 2 dX7_depot_0 rfl rfl rfl ?_
  refine gi_bipush (x := (17 : Int32)) (n := 3) hX rfl dX7_depot_1 rfl ?_
  obtain ⟨r3, v1, e2, h⟩ := bi_some h
  refine gi_statI (st := []) (n := 6) hX hR ms_X7_isOutside ml_X7_70 (m_X7_isOutside Γ.2.1 Ω x2 (17 : Int32) v e2) rfl ⟨rfl, rfl⟩ rfl dX7_depot_3 rfl rfl ?_
  refine gi_if_ne (tgt := 17) (n := 9) hX dX7_depot_6 rfl rfl h (fun h => ?_) (fun h => ?_)
  · refine gi_bipush (x := (-2 : Int32)) (n := 19) hX rfl dX7_depot_17 rfl ?_
    exact gi_iret hX rfl dX7_depot_19 h
  · refine gi_iload_n (n := 10) hX 3 dX7_depot_9 rfl rfl rfl ?_
    refine gi_iconst (x := (2 : Int32)) (n := 11) hX rfl dX7_depot_10 rfl ?_
    obtain ⟨r6, v4, e5, h⟩ := bi_some h
    refine gi_statI (st := []) (n := 14) hX hR ms_X7_isOutside ml_X7_70 (m_X7_isOutside Γ.2.1 Ω x3 (2 : Int32) v1 e5) rfl ⟨rfl, rfl⟩ rfl dX7_depot_11 rfl rfl ?_
    refine gi_if_eq (tgt := 20) (n := 17) hX dX7_depot_14 rfl rfl h (fun h => ?_) (fun h => ?_)
    · refine gi_aload_n (n := 21) hX 0 dX7_depot_20 rfl rfl rfl ?_
      refine gi_getR (n := 24) hX 3 kc_X7 ly_X7 rfl rfl fl_X7_34 dX7_depot_21 rfl ?_
      obtain ⟨v7, e8, h⟩ := bv_some h
      refine gi_virtV (st := []) (n := 27) hX hR kc_X1 (ly_R (rfl : kR 54 = true)) mv_X1_begin ml_X7_171 (m_X1_begin Γ.2.1 Ω 54 (rfl : kR 54 = true) v4 e8) rfl ⟨rfl, rfl⟩ rfl dX7_depot_24 rfl rfl ?_
      refine gi_aload_n (n := 28) hX 0 dX7_depot_27 rfl rfl rfl ?_
      refine gi_getR (n := 31) hX 3 kc_X7 ly_X7 rfl rfl fl_X7_34 dX7_depot_28 rfl ?_
      refine gi_getR (n := 34) hX 4 kc_X1 (ly_R (rfl : kR 54 = true)) rfl rfl fl_X7_174 dX7_depot_31 rfl ?_
      refine gi_iconst (x := (0 : Int32)) (n := 35) hX rfl dX7_depot_34 rfl ?_
      refine gi_putI (n := 38) hX 1 kc_X0 (ly_B (kb_R (rfl : kR 54 = true))) rfl rfl fl_X7_131 rfl rfl dX7_depot_35 rfl h (fun v9 h => ?_)
      refine gi_iload_n (n := 39) hX 1 dX7_depot_38 rfl rfl rfl ?_
      refine gi_istore (n := 41) hX [(4, .int x1), (0, .ref (Ω.1 0)), (1, .int x1), (2, .int x2), (3, .int x3)] dX7_depot_39 rfl rfl rfl ?_
      refine gi_iconst (x := (0 : Int32)) (n := 42) hX rfl dX7_depot_41 rfl ?_
      refine gi_istore (n := 44) hX [(5, .int (0 : Int32)), (4, .int x1), (0, .ref (Ω.1 0)), (1, .int x1), (2, .int x2), (3, .int x3)] dX7_depot_42 rfl rfl rfl ?_
      refine gi_sub [2, 4, 5, 1, 0] rfl ?_
      have key := lp_ind (f := (fun a : gV × Int32 × Int32 => f_X7_depot_B44 x2 x3 a.2.1 a.2.2 a.1)) (P := (fun a : gV × Int32 × Int32 => gx_G Γ Ω LX (gx_Q Γ Ω LX (some (.int r0)) v0) 6 a.1 44 [(0, .ref (Ω.1 0)), (2, .int x2), (3, .int x3), (4, .int a.2.1), (5, .int a.2.2)] [])) (Z := (fun z : gV => gx_G Γ Ω LX (gx_Q Γ Ω LX (some (.int r0)) v0) 6 z 85 [(0, .ref (Ω.1 0)), (3, .int x3)] [])) (fun a o h hc hz => t_X7_depot_B44 hX hR x2 x3 a.2.1 a.2.2 a.1 h (fun c0 c1 c2 e => hc (c0, c1, c2) e) (fun z0 e => hz z0 e)) fu
      obtain ⟨v10, e0, h⟩ := bx1_some h
      refine key (v9, x1, (0 : Int32)) _ e0 ?_
      show gx_G Γ Ω LX (gx_Q Γ Ω LX (some (.int r0)) v0) 6 v10 85 [(0, .ref (Ω.1 0)), (3, .int x3)] []
      refine gi_aload_n (n := 86) hX 0 dX7_depot_85 rfl rfl rfl ?_
      refine gi_getR (n := 89) hX 3 kc_X7 ly_X7 rfl rfl fl_X7_34 dX7_depot_86 rfl ?_
      obtain ⟨v11, e12, h⟩ := bv_some h
      refine gi_virtV (st := []) (n := 92) hX hR kc_X1 (ly_R (rfl : kR 54 = true)) mv_X1_go ml_X7_181 (m_X1_go Γ.2.1 Ω 54 (rfl : kR 54 = true) v10 e12) rfl ⟨rfl, rfl⟩ rfl dX7_depot_89 rfl rfl ?_
      refine gi_iload_n (n := 93) hX 1 dX7_depot_92 rfl rfl rfl ?_
      refine gi_if_ne (tgt := 106) (n := 96) hX dX7_depot_93 rfl rfl h (fun h => ?_) (fun h => ?_)
      · refine gi_aload_n (n := 107) hX 0 dX7_depot_106 rfl rfl rfl ?_
        refine gi_getR (n := 110) hX 3 kc_X7 ly_X7 rfl rfl fl_X7_34 dX7_depot_107 rfl ?_
        refine gi_getR (n := 113) hX 4 kc_X1 (ly_R (rfl : kR 54 = true)) rfl rfl fl_X7_174 dX7_depot_110 rfl ?_
        refine gi_getI (n := 116) hX 1 kc_X0 (ly_B (kb_R (rfl : kR 54 = true))) rfl rfl fl_X7_131 dX7_depot_113 rfl ?_
        exact gi_iret hX rfl dX7_depot_116 h
      · refine gi_aload_n (n := 97) hX 0 dX7_depot_96 rfl rfl rfl ?_
        refine gi_getR (n := 100) hX 3 kc_X7 ly_X7 rfl rfl fl_X7_34 dX7_depot_97 rfl ?_
        obtain ⟨r15, v13, e14, h⟩ := bi_some h
        refine gi_virtI (st := []) (n := 103) hX hR kc_X1 (ly_R (rfl : kR 54 = true)) mv_X1_servedAtLast ml_X7_168 (m_X1_servedAtLast Γ.2.1 Ω 54 (rfl : kR 54 = true) v11 e14) rfl ⟨rfl, rfl⟩ rfl dX7_depot_100 rfl rfl ?_
        refine gi_goto (n := 116) hX dX7_depot_103 rfl ?_
        exact gi_iret hX rfl dX7_depot_116 h
    · refine gi_bipush (x := (-2 : Int32)) (n := 19) hX rfl dX7_depot_17 rfl ?_
      exact gi_iret hX rfl dX7_depot_19 h
theorem m_X7_depot (l : Launch) (Ω : gO) (x1 : Int32) (x2 : Int32) (x3 : Int32) (v : gV) {r0 : Int32} {v0 : gV} (h : f_X7_depot x1 x2 x3 v = some (r0, v0)) : gx_M l Ω LX yX7_depot cX7_depot 6 (some .int) 4 [.ref (Ω.1 0), .int x1, .int x2, .int x3] v (some (.int r0)) v0 := gx_start (lv := [(0, .ref (Ω.1 0)), (1, .int x1), (2, .int x2), (3, .int x3)]) (by decide +kernel) (Nat.le_of_ble_eq_true rfl) rfl (fun Γ _ hR hX => t_X7_depot hX hR x1 x2 x3 v h)
set_option maxRecDepth 20000 in
theorem t_X7_mix {Γ : gC} {Ω : gO} {r0 : Int64} {v0 : gV} (hX : gx_X Γ Ω cX7_mix RX7 4 (some .long)) (hR : Γ.2.2.2.1 = gx_R 0) (x0 : Int64) (x2 : Int64) (v : gV) (h : f_X7_mix x0 x2 v = some (r0, v0)) : gx_G Γ Ω LX (gx_Q Γ Ω LX (some (.long r0)) v0) 4 v 0 [(0, .long x0), (2, .long x2)] [] := by
  rw [f_X7_mix] at h
  refine gi_ldc2 (n := 3) hX co_X7_341 dX7_mix_0 rfl ?_
  refine gi_lload_n (n := 4) hX 0 dX7_mix_3 rfl rfl rfl ?_
  refine gi_lmul (n := 5) hX dX7_mix_4 rfl ?_
  refine gi_lload_n (n := 6) hX 1 dX7_mix_5 rfl rfl rfl ?_
  refine gi_ladd (n := 7) hX dX7_mix_6 rfl ?_
  exact gi_lret hX rfl dX7_mix_7 h
theorem m_X7_mix (l : Launch) (Ω : gO) (x0 : Int64) (x2 : Int64) (v : gV) {r0 : Int64} {v0 : gV} (h : f_X7_mix x0 x2 v = some (r0, v0)) : gx_M l Ω LX yX7_mix cX7_mix 4 (some .long) 0 [.long x0, .long x2] v (some (.long r0)) v0 := gx_start (lv := [(0, .long x0), (2, .long x2)]) (by decide +kernel) (Nat.le_of_ble_eq_true rfl) rfl (fun Γ _ hR hX => t_X7_mix hX hR x0 x2 v h)
set_option maxRecDepth 20000 in
theorem t_X7_fault {Γ : gC} {Ω : gO} {r0 : Int32} {v0 : gV} (hX : gx_X Γ Ω cX7_fault RX7 2 (some .int)) (hR : Γ.2.2.2.1 = gx_R 2) (x1 : Int32) (v : gV) (h : f_X7_fault x1 v = some (r0, v0)) : gx_G Γ Ω LX (gx_Q Γ Ω LX (some (.int r0)) v0) 2 v 0 [(0, .ref (Ω.1 0)), (1, .int x1)] [] := by
  rw [f_X7_fault] at h
  refine gi_iload_n (n := 1) hX 1 dX7_fault_0 rfl rfl rfl ?_
  refine gi_aload_n (n := 2) hX 0 dX7_fault_1 rfl rfl rfl ?_
  refine gi_getR (n := 5) hX 0 kc_X7 ly_X7 rfl rfl fl_X7_14 dX7_fault_2 rfl ?_
  refine gi_rlen (N := 2) (n := 6) hX ly_1 rfl rfl dX7_fault_5 rfl ?_
  obtain ⟨r3, v1, e2, h⟩ := bi_some h
  refine gi_statI (st := []) (n := 9) hX hR ms_X7_isOutside ml_X7_70 (m_X7_isOutside Γ.2.1 Ω x1 (nI 2) v e2) rfl ⟨rfl, rfl⟩ rfl dX7_fault_6 rfl rfl ?_
  refine gi_if_eq (tgt := 15) (n := 12) hX dX7_fault_9 rfl rfl h (fun h => ?_) (fun h => ?_)
  · refine gi_iload_n (n := 16) hX 1 dX7_fault_15 rfl rfl rfl ?_
    refine gi_if_ne (tgt := 31) (n := 19) hX dX7_fault_16 rfl rfl h (fun h => ?_) (fun h => ?_)
    · refine gi_aload_n (n := 32) hX 0 dX7_fault_31 rfl rfl rfl ?_
      refine gi_getR (n := 35) hX 0 kc_X7 ly_X7 rfl rfl fl_X7_14 dX7_fault_32 rfl ?_
      refine gi_iconst (x := (1 : Int32)) (n := 36) hX rfl dX7_fault_35 rfl ?_
      refine gi_aald (n := 37) hX ly_1 (Or.inl rfl) dX7_fault_36 rfl h (fun g4 k5 h => ?_)
      obtain ⟨r8, v6, e7, h⟩ := bi_some h
      refine gi_virtI (st := []) (n := 40) hX hR kc_X5 (ly_T k5) mv_X5_faultAsBag ml_X7_89 (m_X5_faultAsBag Γ.2.1 Ω g4 k5 v1 e7) rfl ⟨rfl, rfl⟩ rfl dX7_fault_37 rfl rfl ?_
      exact gi_iret hX rfl dX7_fault_40 h
    · refine gi_aload_n (n := 20) hX 0 dX7_fault_19 rfl rfl rfl ?_
      refine gi_getR (n := 23) hX 0 kc_X7 ly_X7 rfl rfl fl_X7_14 dX7_fault_20 rfl ?_
      refine gi_iconst (x := (0 : Int32)) (n := 24) hX rfl dX7_fault_23 rfl ?_
      refine gi_aald (n := 25) hX ly_1 (Or.inl rfl) dX7_fault_24 rfl h (fun g9 k10 h => ?_)
      obtain ⟨r13, v11, e12, h⟩ := bi_some h
      refine gi_virtI (st := []) (n := 28) hX hR kc_X5 (ly_T k10) mv_X5_faultAsRiders ml_X7_85 (m_X5_faultAsRiders Γ.2.1 Ω g9 k10 v1 e12) rfl ⟨rfl, rfl⟩ rfl dX7_fault_25 rfl rfl ?_
      refine gi_goto (n := 40) hX dX7_fault_28 rfl ?_
      exact gi_iret hX rfl dX7_fault_40 h
  · refine gi_bipush (x := (-2 : Int32)) (n := 14) hX rfl dX7_fault_12 rfl ?_
    exact gi_iret hX rfl dX7_fault_14 h
theorem m_X7_fault (l : Launch) (Ω : gO) (x1 : Int32) (v : gV) {r0 : Int32} {v0 : gV} (h : f_X7_fault x1 v = some (r0, v0)) : gx_M l Ω LX yX7_fault cX7_fault 2 (some .int) 2 [.ref (Ω.1 0), .int x1] v (some (.int r0)) v0 := gx_start (lv := [(0, .ref (Ω.1 0)), (1, .int x1)]) (by decide +kernel) (Nat.le_of_ble_eq_true rfl) rfl (fun Γ _ hR hX => t_X7_fault hX hR x1 v h)
set_option maxRecDepth 20000 in
theorem t_X7_rider {Γ : gC} {Ω : gO} {r0 : Int32} {v0 : gV} (hX : gx_X Γ Ω cX7_rider RX7 3 (some .int)) (hR : Γ.2.2.2.1 = gx_R 1) (x1 : Int32) (x2 : Int32) (v : gV) (h : f_X7_rider x1 x2 v = some (r0, v0)) : gx_G Γ Ω LX (gx_Q Γ Ω LX (some (.int r0)) v0) 3 v 0 [(0, .ref (Ω.1 0)), (1, .int x1), (2, .int x2)] [] := by
  rw [f_X7_rider] at h
  refine gi_iload_n (n := 1) hX 1 dX7_rider_0 rfl rfl rfl ?_
  refine gi_aload_n (n := 2) hX 0 dX7_rider_1 rfl rfl rfl ?_
  refine gi_getR (n := 5) hX 1 kc_X7 ly_X7 rfl rfl fl_X7_21 dX7_rider_2 rfl ?_
  refine gi_getI (n := 8) hX 0 kc_X6 ly_X6 rfl rfl fl_X7_92 dX7_rider_5 rfl ?_
  obtain ⟨r3, v1, e2, h⟩ := bi_some h
  refine gi_statI (st := []) (n := 11) hX hR ms_X7_isOutside ml_X7_70 (m_X7_isOutside Γ.2.1 Ω x1 (v.1 6 0) v e2) rfl ⟨rfl, rfl⟩ rfl dX7_rider_8 rfl rfl ?_
  refine gi_if_eq (tgt := 17) (n := 14) hX dX7_rider_11 rfl rfl h (fun h => ?_) (fun h => ?_)
  · refine gi_iload_n (n := 18) hX 2 dX7_rider_17 rfl rfl rfl ?_
    rcases if_split h with ⟨c0, h⟩ | ⟨c0, h⟩
    · refine gi_tin (k0 := (0 : Int32)) (off := 30) (tgt := 48) hX dX7_rider_18 c0 rfl ?_
      refine gi_aload_n (n := 49) hX 0 dX7_rider_48 rfl rfl rfl ?_
      refine gi_getR (n := 52) hX 1 kc_X7 ly_X7 rfl rfl fl_X7_21 dX7_rider_49 rfl ?_
      refine gi_getR (n := 55) hX 1 kc_X6 ly_X6 rfl rfl fl_X7_95 dX7_rider_52 rfl ?_
      refine gi_iload_n (n := 56) hX 1 dX7_rider_55 rfl rfl rfl ?_
      refine gi_iald (n := 57) hX ly_7 dX7_rider_56 rfl h (fun h => ?_)
      exact gi_iret hX rfl dX7_rider_57 h
    rcases if_split h with ⟨c1, h⟩ | ⟨c1, h⟩
    · refine gi_tin (k0 := (1 : Int32)) (off := 40) (tgt := 58) hX dX7_rider_18 c1 rfl ?_
      refine gi_aload_n (n := 59) hX 0 dX7_rider_58 rfl rfl rfl ?_
      refine gi_getR (n := 62) hX 1 kc_X7 ly_X7 rfl rfl fl_X7_21 dX7_rider_59 rfl ?_
      refine gi_getR (n := 65) hX 2 kc_X6 ly_X6 rfl rfl fl_X7_98 dX7_rider_62 rfl ?_
      refine gi_iload_n (n := 66) hX 1 dX7_rider_65 rfl rfl rfl ?_
      refine gi_iald (n := 67) hX ly_8 dX7_rider_66 rfl h (fun h => ?_)
      exact gi_iret hX rfl dX7_rider_67 h
    rcases if_split h with ⟨c2, h⟩ | ⟨c2, h⟩
    · refine gi_tin (k0 := (2 : Int32)) (off := 50) (tgt := 68) hX dX7_rider_18 c2 rfl ?_
      refine gi_aload_n (n := 69) hX 0 dX7_rider_68 rfl rfl rfl ?_
      refine gi_getR (n := 72) hX 1 kc_X7 ly_X7 rfl rfl fl_X7_21 dX7_rider_69 rfl ?_
      refine gi_getR (n := 75) hX 3 kc_X6 ly_X6 rfl rfl fl_X7_101 dX7_rider_72 rfl ?_
      refine gi_iload_n (n := 76) hX 1 dX7_rider_75 rfl rfl rfl ?_
      refine gi_iald (n := 77) hX ly_9 dX7_rider_76 rfl h (fun h => ?_)
      exact gi_iret hX rfl dX7_rider_77 h
    rcases if_split h with ⟨c3, h⟩ | ⟨c3, h⟩
    · refine gi_tin (k0 := (3 : Int32)) (off := 60) (tgt := 78) hX dX7_rider_18 c3 rfl ?_
      refine gi_aload_n (n := 79) hX 0 dX7_rider_78 rfl rfl rfl ?_
      refine gi_getR (n := 82) hX 1 kc_X7 ly_X7 rfl rfl fl_X7_21 dX7_rider_79 rfl ?_
      refine gi_getR (n := 85) hX 4 kc_X6 ly_X6 rfl rfl fl_X7_104 dX7_rider_82 rfl ?_
      refine gi_iload_n (n := 86) hX 1 dX7_rider_85 rfl rfl rfl ?_
      refine gi_iald (n := 87) hX ly_10 dX7_rider_86 rfl h (fun h => ?_)
      exact gi_iret hX rfl dX7_rider_87 h
    refine gi_tout (tgt := 88) hX dX7_rider_18 (by have e0 := lv_neT (a := 0) c0 rfl; have e1 := lv_neT (a := 1) c1 rfl; have e2 := lv_neT (a := 2) c2 rfl; have e3 := lv_neT (a := 3) c3 rfl; omega) rfl ?_
    refine gi_bipush (x := (-2 : Int32)) (n := 90) hX rfl dX7_rider_88 rfl ?_
    exact gi_iret hX rfl dX7_rider_90 h
  · refine gi_bipush (x := (-2 : Int32)) (n := 16) hX rfl dX7_rider_14 rfl ?_
    exact gi_iret hX rfl dX7_rider_16 h
theorem m_X7_rider (l : Launch) (Ω : gO) (x1 : Int32) (x2 : Int32) (v : gV) {r0 : Int32} {v0 : gV} (h : f_X7_rider x1 x2 v = some (r0, v0)) : gx_M l Ω LX yX7_rider cX7_rider 3 (some .int) 1 [.ref (Ω.1 0), .int x1, .int x2] v (some (.int r0)) v0 := gx_start (lv := [(0, .ref (Ω.1 0)), (1, .int x1), (2, .int x2)]) (by decide +kernel) (Nat.le_of_ble_eq_true rfl) rfl (fun Γ _ hR hX => t_X7_rider hX hR x1 x2 v h)
set_option maxRecDepth 20000 in
theorem t_X7_has {Γ : gC} {Ω : gO} {r0 : Int32} {v0 : gV} (hX : gx_X Γ Ω cX7_has RX7 3 (some .int)) (hR : Γ.2.2.2.1 = gx_R 2) (x1 : Int32) (x2 : Int32) (v : gV) (h : f_X7_has x1 x2 v = some (r0, v0)) : gx_G Γ Ω LX (gx_Q Γ Ω LX (some (.int r0)) v0) 3 v 0 [(0, .ref (Ω.1 0)), (1, .int x1), (2, .int x2)] [] := by
  rw [f_X7_has] at h
  refine gi_iload_n (n := 1) hX 1 dX7_has_0 rfl rfl rfl ?_
  refine gi_bipush (x := (10 : Int32)) (n := 3) hX rfl dX7_has_1 rfl ?_
  obtain ⟨r3, v1, e2, h⟩ := bi_some h
  refine gi_statI (st := []) (n := 6) hX hR ms_X7_isOutside ml_X7_70 (m_X7_isOutside Γ.2.1 Ω x1 (10 : Int32) v e2) rfl ⟨rfl, rfl⟩ rfl dX7_has_3 rfl rfl ?_
  refine gi_if_ne (tgt := 23) (n := 9) hX dX7_has_6 rfl rfl h (fun h => ?_) (fun h => ?_)
  · refine gi_bipush (x := (-2 : Int32)) (n := 25) hX rfl dX7_has_23 rfl ?_
    exact gi_iret hX rfl dX7_has_25 h
  · refine gi_iload_n (n := 10) hX 2 dX7_has_9 rfl rfl rfl ?_
    refine gi_aload_n (n := 11) hX 0 dX7_has_10 rfl rfl rfl ?_
    refine gi_getR (n := 14) hX 1 kc_X7 ly_X7 rfl rfl fl_X7_21 dX7_has_11 rfl ?_
    refine gi_getI (n := 17) hX 0 kc_X6 ly_X6 rfl rfl fl_X7_92 dX7_has_14 rfl ?_
    obtain ⟨r6, v4, e5, h⟩ := bi_some h
    refine gi_statI (st := []) (n := 20) hX hR ms_X7_isOutside ml_X7_70 (m_X7_isOutside Γ.2.1 Ω x2 (v1.1 6 0) v1 e5) rfl ⟨rfl, rfl⟩ rfl dX7_has_17 rfl rfl ?_
    refine gi_if_eq (tgt := 26) (n := 23) hX dX7_has_20 rfl rfl h (fun h => ?_) (fun h => ?_)
    · refine gi_aload_n (n := 27) hX 0 dX7_has_26 rfl rfl rfl ?_
      refine gi_getR (n := 30) hX 2 kc_X7 ly_X7 rfl rfl fl_X7_30 dX7_has_27 rfl ?_
      refine gi_iload_n (n := 31) hX 1 dX7_has_30 rfl rfl rfl ?_
      refine gi_iload_n (n := 32) hX 2 dX7_has_31 rfl rfl rfl ?_
      obtain ⟨r9, v7, e8, h⟩ := bi_some h
      refine gi_virtI (st := []) (n := 35) hX hR kc_X1 (ly_R (rfl : kR 16 = true)) mv_X1_hasOn ml_X7_120 (m_X1_hasOn Γ.2.1 Ω 16 (rfl : kR 16 = true) x1 x2 v4 e8) rfl ⟨rfl, rfl⟩ rfl dX7_has_32 rfl rfl ?_
      exact gi_iret hX rfl dX7_has_35 h
    · refine gi_bipush (x := (-2 : Int32)) (n := 25) hX rfl dX7_has_23 rfl ?_
      exact gi_iret hX rfl dX7_has_25 h
theorem m_X7_has (l : Launch) (Ω : gO) (x1 : Int32) (x2 : Int32) (v : gV) {r0 : Int32} {v0 : gV} (h : f_X7_has x1 x2 v = some (r0, v0)) : gx_M l Ω LX yX7_has cX7_has 3 (some .int) 2 [.ref (Ω.1 0), .int x1, .int x2] v (some (.int r0)) v0 := gx_start (lv := [(0, .ref (Ω.1 0)), (1, .int x1), (2, .int x2)]) (by decide +kernel) (Nat.le_of_ble_eq_true rfl) rfl (fun Γ _ hR hX => t_X7_has hX hR x1 x2 v h)
set_option maxRecDepth 20000 in
theorem t_X7_torn {Γ : gC} {Ω : gO} {r0 : Int32} {v0 : gV} (hX : gx_X Γ Ω cX7_torn RX7 3 (some .int)) (hR : Γ.2.2.2.1 = gx_R 2) (x1 : Int32) (x2 : Int32) (v : gV) (h : f_X7_torn x1 x2 v = some (r0, v0)) : gx_G Γ Ω LX (gx_Q Γ Ω LX (some (.int r0)) v0) 3 v 0 [(0, .ref (Ω.1 0)), (1, .int x1), (2, .int x2)] [] := by
  rw [f_X7_torn] at h
  refine gi_iload_n (n := 1) hX 1 dX7_torn_0 rfl rfl rfl ?_
  refine gi_bipush (x := (10 : Int32)) (n := 3) hX rfl dX7_torn_1 rfl ?_
  obtain ⟨r3, v1, e2, h⟩ := bi_some h
  refine gi_statI (st := []) (n := 6) hX hR ms_X7_isOutside ml_X7_70 (m_X7_isOutside Γ.2.1 Ω x1 (10 : Int32) v e2) rfl ⟨rfl, rfl⟩ rfl dX7_torn_3 rfl rfl ?_
  refine gi_if_ne (tgt := 23) (n := 9) hX dX7_torn_6 rfl rfl h (fun h => ?_) (fun h => ?_)
  · refine gi_bipush (x := (-2 : Int32)) (n := 25) hX rfl dX7_torn_23 rfl ?_
    exact gi_iret hX rfl dX7_torn_25 h
  · refine gi_iload_n (n := 10) hX 2 dX7_torn_9 rfl rfl rfl ?_
    refine gi_aload_n (n := 11) hX 0 dX7_torn_10 rfl rfl rfl ?_
    refine gi_getR (n := 14) hX 1 kc_X7 ly_X7 rfl rfl fl_X7_21 dX7_torn_11 rfl ?_
    refine gi_getI (n := 17) hX 0 kc_X6 ly_X6 rfl rfl fl_X7_92 dX7_torn_14 rfl ?_
    obtain ⟨r6, v4, e5, h⟩ := bi_some h
    refine gi_statI (st := []) (n := 20) hX hR ms_X7_isOutside ml_X7_70 (m_X7_isOutside Γ.2.1 Ω x2 (v1.1 6 0) v1 e5) rfl ⟨rfl, rfl⟩ rfl dX7_torn_17 rfl rfl ?_
    refine gi_if_eq (tgt := 26) (n := 23) hX dX7_torn_20 rfl rfl h (fun h => ?_) (fun h => ?_)
    · refine gi_aload_n (n := 27) hX 0 dX7_torn_26 rfl rfl rfl ?_
      refine gi_getR (n := 30) hX 2 kc_X7 ly_X7 rfl rfl fl_X7_30 dX7_torn_27 rfl ?_
      refine gi_iload_n (n := 31) hX 1 dX7_torn_30 rfl rfl rfl ?_
      obtain ⟨r9, v7, e8, h⟩ := bi_some h
      refine gi_virtI (st := []) (n := 34) hX hR kc_X1 (ly_R (rfl : kR 16 = true)) mv_X1_tornOn ml_X7_124 (m_X1_tornOn Γ.2.1 Ω 16 (rfl : kR 16 = true) x1 v4 e8) rfl ⟨rfl, rfl⟩ rfl dX7_torn_31 rfl rfl ?_
      refine gi_iload_n (n := 35) hX 2 dX7_torn_34 rfl rfl rfl ?_
      refine gi_ishr (n := 36) hX dX7_torn_35 rfl ?_
      refine gi_iconst (x := (1 : Int32)) (n := 37) hX rfl dX7_torn_36 rfl ?_
      refine gi_iand (n := 38) hX dX7_torn_37 rfl ?_
      exact gi_iret hX rfl dX7_torn_38 h
    · refine gi_bipush (x := (-2 : Int32)) (n := 25) hX rfl dX7_torn_23 rfl ?_
      exact gi_iret hX rfl dX7_torn_25 h
theorem m_X7_torn (l : Launch) (Ω : gO) (x1 : Int32) (x2 : Int32) (v : gV) {r0 : Int32} {v0 : gV} (h : f_X7_torn x1 x2 v = some (r0, v0)) : gx_M l Ω LX yX7_torn cX7_torn 3 (some .int) 2 [.ref (Ω.1 0), .int x1, .int x2] v (some (.int r0)) v0 := gx_start (lv := [(0, .ref (Ω.1 0)), (1, .int x1), (2, .int x2)]) (by decide +kernel) (Nat.le_of_ble_eq_true rfl) rfl (fun Γ _ hR hX => t_X7_torn hX hR x1 x2 v h)
set_option maxRecDepth 20000 in
theorem t_X7_gets_B19 {Γ : gC} {Ω : gO} {r0 : Int32} {v0 : gV} {o : (gV × Int32) ⊕ ((gV) ⊕ (Int32 × gV))} (hX : gx_X Γ Ω cX7_gets RX7 3 (some .int)) (hR : Γ.2.2.2.1 = gx_R 2) (x1 : Int32) (x2 : Int32) (v : gV) (h : f_X7_gets_B19 x1 x2 v = some o) (hc : ∀ c0 c1, o = .inl (c0, c1) → gx_G Γ Ω LX (gx_Q Γ Ω LX (some (.int r0)) v0) 3 c0 19 [(0, .ref (Ω.1 0)), (1, .int x1), (2, .int c1)] []) (hz : ∀ z0, o = .inr (.inl z0) → gx_G Γ Ω LX (gx_Q Γ Ω LX (some (.int r0)) v0) 3 z0 49 [] []) (hr : ∀ q0 q1, o = .inr (.inr (q0, q1)) → some (q0, q1) = some (r0, v0)) : gx_G Γ Ω LX (gx_Q Γ Ω LX (some (.int r0)) v0) 3 v 19 [(0, .ref (Ω.1 0)), (1, .int x1), (2, .int x2)] [] := by
  rw [f_X7_gets_B19] at h
  refine gi_iload_n (n := 20) hX 2 dX7_gets_19 rfl rfl rfl ?_
  refine gi_bipush (x := (10 : Int32)) (n := 22) hX rfl dX7_gets_20 rfl ?_
  refine gi_icmp_ge (tgt := 49) (n := 25) hX dX7_gets_22 rfl rfl h (fun h => ?_) (fun h => ?_)
  · refine gi_sub [] rfl ?_
    exact hz _ (Option.some.inj h).symm
  · refine gi_aload_n (n := 26) hX 0 dX7_gets_25 rfl rfl rfl ?_
    refine gi_getR (n := 29) hX 2 kc_X7 ly_X7 rfl rfl fl_X7_30 dX7_gets_26 rfl ?_
    refine gi_iload_n (n := 30) hX 2 dX7_gets_29 rfl rfl rfl ?_
    obtain ⟨r3, v1, e2, h⟩ := bi_some h
    refine gi_virtI (st := []) (n := 33) hX hR kc_X1 (ly_R (rfl : kR 16 = true)) mv_X1_servedOn ml_X7_137 (m_X1_servedOn Γ.2.1 Ω 16 (rfl : kR 16 = true) x2 v e2) rfl ⟨rfl, rfl⟩ rfl dX7_gets_30 rfl rfl ?_
    refine gi_iload_n (n := 34) hX 1 dX7_gets_33 rfl rfl rfl ?_
    refine gi_ishr (n := 35) hX dX7_gets_34 rfl ?_
    refine gi_iconst (x := (1 : Int32)) (n := 36) hX rfl dX7_gets_35 rfl ?_
    refine gi_iand (n := 37) hX dX7_gets_36 rfl ?_
    refine gi_iconst (x := (1 : Int32)) (n := 38) hX rfl dX7_gets_37 rfl ?_
    refine gi_icmp_ne (tgt := 43) (n := 41) hX dX7_gets_38 rfl rfl h (fun h => ?_) (fun h => ?_)
    · refine gi_iinc (z := (1 : Int32)) (n := 46) hX 2 [(2, .int (x2 + (1 : Int32))), (0, .ref (Ω.1 0)), (1, .int x1)] dX7_gets_43 rfl rfl rfl rfl rfl rfl ?_
      refine gi_goto (n := 19) hX dX7_gets_46 rfl ?_
      refine gi_sub [1, 2, 0] rfl ?_
      exact hc _ _ (Option.some.inj h).symm
    · refine gi_iload_n (n := 42) hX 2 dX7_gets_41 rfl rfl rfl ?_
      exact gi_iret hX rfl dX7_gets_42 (hr _ _ (Option.some.inj h).symm)
set_option maxRecDepth 20000 in
theorem t_X7_gets {Γ : gC} {Ω : gO} {r0 : Int32} {v0 : gV} (hX : gx_X Γ Ω cX7_gets RX7 3 (some .int)) (hR : Γ.2.2.2.1 = gx_R 2) (x1 : Int32) (v : gV) (h : f_X7_gets x1 v = some (r0, v0)) : gx_G Γ Ω LX (gx_Q Γ Ω LX (some (.int r0)) v0) 3 v 0 [(0, .ref (Ω.1 0)), (1, .int x1)] [] := by
  rw [f_X7_gets] at h
  refine gi_iload_n (n := 1) hX 1 dX7_gets_0 rfl rfl rfl ?_
  refine gi_aload_n (n := 2) hX 0 dX7_gets_1 rfl rfl rfl ?_
  refine gi_getR (n := 5) hX 1 kc_X7 ly_X7 rfl rfl fl_X7_21 dX7_gets_2 rfl ?_
  refine gi_getI (n := 8) hX 0 kc_X6 ly_X6 rfl rfl fl_X7_92 dX7_gets_5 rfl ?_
  obtain ⟨r3, v1, e2, h⟩ := bi_some h
  refine gi_statI (st := []) (n := 11) hX hR ms_X7_isOutside ml_X7_70 (m_X7_isOutside Γ.2.1 Ω x1 (v.1 6 0) v e2) rfl ⟨rfl, rfl⟩ rfl dX7_gets_8 rfl rfl ?_
  refine gi_if_eq (tgt := 17) (n := 14) hX dX7_gets_11 rfl rfl h (fun h => ?_) (fun h => ?_)
  · refine gi_iconst (x := (0 : Int32)) (n := 18) hX rfl dX7_gets_17 rfl ?_
    refine gi_istore_n (n := 19) hX [(2, .int (0 : Int32)), (0, .ref (Ω.1 0)), (1, .int x1)] dX7_gets_18 rfl rfl rfl rfl ?_
    refine gi_sub [1, 2, 0] rfl ?_
    have key := lp_ind (f := (fun a : gV × Int32 => f_X7_gets_B19 x1 a.2 a.1)) (P := (fun a : gV × Int32 => gx_G Γ Ω LX (gx_Q Γ Ω LX (some (.int r0)) v0) 3 a.1 19 [(0, .ref (Ω.1 0)), (1, .int x1), (2, .int a.2)] [])) (Z := (fun w : (gV) ⊕ (Int32 × gV) => Sum.elim (fun z : gV => gx_G Γ Ω LX (gx_Q Γ Ω LX (some (.int r0)) v0) 3 z 49 [] []) (fun q => some q = some (r0, v0)) w)) (fun a o h hc hz => t_X7_gets_B19 hX hR x1 a.2 a.1 h (fun c0 c1 e => hc (c0, c1) e) (fun z0 e => hz (.inl z0) e) (fun q0 q1 e => hz (.inr (q0, q1)) e)) fu
    rcases bs1_some h with ⟨v4, e0, h⟩ | ⟨q, e0, h⟩
    · refine key (v1, (0 : Int32)) _ e0 ?_
      show gx_G Γ Ω LX (gx_Q Γ Ω LX (some (.int r0)) v0) 3 v4 49 [] []
      refine gi_iconst (x := (-1 : Int32)) (n := 50) hX rfl dX7_gets_49 rfl ?_
      exact gi_iret hX rfl dX7_gets_50 h
    · refine key (v1, (0 : Int32)) _ e0 ?_
      show some q = some (r0, v0)
      exact h
  · refine gi_bipush (x := (-2 : Int32)) (n := 16) hX rfl dX7_gets_14 rfl ?_
    exact gi_iret hX rfl dX7_gets_16 h
theorem m_X7_gets (l : Launch) (Ω : gO) (x1 : Int32) (v : gV) {r0 : Int32} {v0 : gV} (h : f_X7_gets x1 v = some (r0, v0)) : gx_M l Ω LX yX7_gets cX7_gets 3 (some .int) 2 [.ref (Ω.1 0), .int x1] v (some (.int r0)) v0 := gx_start (lv := [(0, .ref (Ω.1 0)), (1, .int x1)]) (by decide +kernel) (Nat.le_of_ble_eq_true rfl) rfl (fun Γ _ hR hX => t_X7_gets hX hR x1 v h)
set_option maxRecDepth 20000 in
theorem t_X7_open_J86 {Γ : gC} {Ω : gO} {r0 : Int32} {v0 : gV} {o : (gV × Int32) ⊕ ((gV) ⊕ (Int32 × gV))} (hX : gx_X Γ Ω cX7_open RX7 5 (some .int)) (hR : Γ.2.2.2.1 = gx_R 5) (x1 : Int32) (x2 : Int32) (x3 : Int32) (x4 : Int32) (v : gV) (h : f_X7_open_J86 x1 x2 x3 x4 v = some o) (hc : ∀ c0 c1, o = .inl (c0, c1) → gx_G Γ Ω LX (gx_Q Γ Ω LX (some (.int r0)) v0) 5 c0 35 [(0, .ref (Ω.1 0)), (1, .int x1), (2, .int x2), (3, .int x3), (4, .int c1)] []) (hz : ∀ z0, o = .inr (.inl z0) → gx_G Γ Ω LX (gx_Q Γ Ω LX (some (.int r0)) v0) 5 z0 92 [(0, .ref (Ω.1 0)), (1, .int x1), (2, .int x2), (3, .int x3)] []) (hr : ∀ q0 q1, o = .inr (.inr (q0, q1)) → some (q0, q1) = some (r0, v0)) : gx_G Γ Ω LX (gx_Q Γ Ω LX (some (.int r0)) v0) 5 v 86 [(0, .ref (Ω.1 0)), (1, .int x1), (2, .int x2), (3, .int x3), (4, .int x4)] [] := by
  rw [f_X7_open_J86] at h
  refine gi_iinc (z := (1 : Int32)) (n := 89) hX 4 [(4, .int (x4 + (1 : Int32))), (0, .ref (Ω.1 0)), (1, .int x1), (2, .int x2), (3, .int x3)] dX7_open_86 rfl rfl rfl rfl rfl rfl ?_
  refine gi_goto (n := 35) hX dX7_open_89 rfl ?_
  refine gi_sub [1, 2, 3, 4, 0] rfl ?_
  exact hc _ _ (Option.some.inj h).symm
set_option maxRecDepth 20000 in
theorem t_X7_open_B35 {Γ : gC} {Ω : gO} {r0 : Int32} {v0 : gV} {o : (gV × Int32) ⊕ ((gV) ⊕ (Int32 × gV))} (hX : gx_X Γ Ω cX7_open RX7 5 (some .int)) (hR : Γ.2.2.2.1 = gx_R 5) (x1 : Int32) (x2 : Int32) (x3 : Int32) (x4 : Int32) (v : gV) (h : f_X7_open_B35 x1 x2 x3 x4 v = some o) (hc : ∀ c0 c1, o = .inl (c0, c1) → gx_G Γ Ω LX (gx_Q Γ Ω LX (some (.int r0)) v0) 5 c0 35 [(0, .ref (Ω.1 0)), (1, .int x1), (2, .int x2), (3, .int x3), (4, .int c1)] []) (hz : ∀ z0, o = .inr (.inl z0) → gx_G Γ Ω LX (gx_Q Γ Ω LX (some (.int r0)) v0) 5 z0 92 [(0, .ref (Ω.1 0)), (1, .int x1), (2, .int x2), (3, .int x3)] []) (hr : ∀ q0 q1, o = .inr (.inr (q0, q1)) → some (q0, q1) = some (r0, v0)) : gx_G Γ Ω LX (gx_Q Γ Ω LX (some (.int r0)) v0) 5 v 35 [(0, .ref (Ω.1 0)), (1, .int x1), (2, .int x2), (3, .int x3), (4, .int x4)] [] := by
  rw [f_X7_open_B35] at h
  refine gi_iload (n := 37) hX 4 dX7_open_35 rfl rfl ?_
  refine gi_sipush (x := (1024 : Int32)) (n := 40) hX rfl dX7_open_37 rfl ?_
  refine gi_icmp_ge (tgt := 92) (n := 43) hX dX7_open_40 rfl rfl h (fun h => ?_) (fun h => ?_)
  · refine gi_sub [0, 1, 2, 3] rfl ?_
    exact hz _ (Option.some.inj h).symm
  · refine gi_iload (n := 45) hX 4 dX7_open_43 rfl rfl ?_
    obtain ⟨r3, v1, e2, h⟩ := bi_some h
    refine gi_statI (st := []) (n := 48) hX hR ms_J6_bitCount_0f7a4 ml_X7_156 (m_J6_bitCount_0f7a4 Γ.2.1 Ω LX x4 v e2) rfl ⟨rfl, rfl⟩ rfl dX7_open_45 rfl rfl ?_
    refine gi_iload_n (n := 49) hX 3 dX7_open_48 rfl rfl rfl ?_
    refine gi_icmp_ne (tgt := 86) (n := 52) hX dX7_open_49 rfl rfl h (fun h => ?_) (fun h => ?_)
    · exact t_X7_open_J86 hX hR x1 x2 x3 x4 v1 h hc hz hr
    · refine gi_aload_n (n := 53) hX 0 dX7_open_52 rfl rfl rfl ?_
      refine gi_getR (n := 56) hX 4 kc_X7 ly_X7 rfl rfl fl_X7_40 dX7_open_53 rfl ?_
      refine gi_iload (n := 58) hX 4 dX7_open_56 rfl rfl ?_
      refine gi_bipush (x := (9 : Int32)) (n := 60) hX rfl dX7_open_58 rfl ?_
      refine gi_aload_n (n := 61) hX 0 dX7_open_60 rfl rfl rfl ?_
      refine gi_getR (n := 64) hX 3 kc_X7 ly_X7 rfl rfl fl_X7_34 dX7_open_61 rfl ?_
      obtain ⟨r6, v4, e5, h⟩ := bi_some h
      refine gi_virtI (st := []) (n := 67) hX hR kc_X4 ly_X4 mv_X4_servedBy ml_X7_161 (m_X4_servedBy Γ.2.1 Ω x4 (9 : Int32) 54 (rfl : kR 54 = true) v1 e5) rfl ⟨rfl, rfl⟩ rfl dX7_open_64 rfl rfl ?_
      refine gi_iload_n (n := 68) hX 1 dX7_open_67 rfl rfl rfl ?_
      refine gi_ishr (n := 69) hX dX7_open_68 rfl ?_
      refine gi_iconst (x := (1 : Int32)) (n := 70) hX rfl dX7_open_69 rfl ?_
      refine gi_iand (n := 71) hX dX7_open_70 rfl ?_
      refine gi_iconst (x := (1 : Int32)) (n := 72) hX rfl dX7_open_71 rfl ?_
      refine gi_icmp_ne (tgt := 86) (n := 75) hX dX7_open_72 rfl rfl h (fun h => ?_) (fun h => ?_)
      · exact t_X7_open_J86 hX hR x1 x2 x3 x4 v4 h hc hz hr
      · refine gi_iload_n (n := 76) hX 2 dX7_open_75 rfl rfl rfl ?_
        refine gi_if_ne (tgt := 83) (n := 79) hX dX7_open_76 rfl rfl h (fun h => ?_) (fun h => ?_)
        · refine gi_iload (n := 85) hX 4 dX7_open_83 rfl rfl ?_
          exact gi_iret hX rfl dX7_open_85 (hr _ _ (Option.some.inj h).symm)
        · refine gi_iload_n (n := 80) hX 3 dX7_open_79 rfl rfl rfl ?_
          refine gi_goto (n := 85) hX dX7_open_80 rfl ?_
          exact gi_iret hX rfl dX7_open_85 (hr _ _ (Option.some.inj h).symm)
set_option maxRecDepth 20000 in
theorem t_X7_open_B27 {Γ : gC} {Ω : gO} {r0 : Int32} {v0 : gV} {o : (gV × Int32) ⊕ ((gV) ⊕ (Int32 × gV))} (hX : gx_X Γ Ω cX7_open RX7 5 (some .int)) (hR : Γ.2.2.2.1 = gx_R 5) (x1 : Int32) (x2 : Int32) (x3 : Int32) (v : gV) (h : f_X7_open_B27 x1 x2 x3 v = some o) (hc : ∀ c0 c1, o = .inl (c0, c1) → gx_G Γ Ω LX (gx_Q Γ Ω LX (some (.int r0)) v0) 5 c0 27 [(0, .ref (Ω.1 0)), (1, .int x1), (2, .int x2), (3, .int c1)] []) (hz : ∀ z0, o = .inr (.inl z0) → gx_G Γ Ω LX (gx_Q Γ Ω LX (some (.int r0)) v0) 5 z0 98 [] []) (hr : ∀ q0 q1, o = .inr (.inr (q0, q1)) → some (q0, q1) = some (r0, v0)) : gx_G Γ Ω LX (gx_Q Γ Ω LX (some (.int r0)) v0) 5 v 27 [(0, .ref (Ω.1 0)), (1, .int x1), (2, .int x2), (3, .int x3)] [] := by
  rw [f_X7_open_B27] at h
  refine gi_iload_n (n := 28) hX 3 dX7_open_27 rfl rfl rfl ?_
  refine gi_iconst (x := (3 : Int32)) (n := 29) hX rfl dX7_open_28 rfl ?_
  refine gi_icmp_gt (tgt := 98) (n := 32) hX dX7_open_29 rfl rfl h (fun h => ?_) (fun h => ?_)
  · refine gi_sub [] rfl ?_
    exact hz _ (Option.some.inj h).symm
  · refine gi_iconst (x := (0 : Int32)) (n := 33) hX rfl dX7_open_32 rfl ?_
    refine gi_istore (n := 35) hX [(4, .int (0 : Int32)), (0, .ref (Ω.1 0)), (1, .int x1), (2, .int x2), (3, .int x3)] dX7_open_33 rfl rfl rfl ?_
    refine gi_sub [1, 2, 3, 4, 0] rfl ?_
    have key := lp_ind (f := (fun a : gV × Int32 => f_X7_open_B35 x1 x2 x3 a.2 a.1)) (P := (fun a : gV × Int32 => gx_G Γ Ω LX (gx_Q Γ Ω LX (some (.int r0)) v0) 5 a.1 35 [(0, .ref (Ω.1 0)), (1, .int x1), (2, .int x2), (3, .int x3), (4, .int a.2)] [])) (Z := (fun w : (gV) ⊕ (Int32 × gV) => Sum.elim (fun z : gV => gx_G Γ Ω LX (gx_Q Γ Ω LX (some (.int r0)) v0) 5 z 92 [(0, .ref (Ω.1 0)), (1, .int x1), (2, .int x2), (3, .int x3)] []) (fun q => some q = some (r0, v0)) w)) (fun a o h hc hz => t_X7_open_B35 hX hR x1 x2 x3 a.2 a.1 h (fun c0 c1 e => hc (c0, c1) e) (fun z0 e => hz (.inl z0) e) (fun q0 q1 e => hz (.inr (q0, q1)) e)) fu
    rcases bs1_some h with ⟨v1, e0, h⟩ | ⟨q, e0, h⟩
    · refine key (v, (0 : Int32)) _ e0 ?_
      show gx_G Γ Ω LX (gx_Q Γ Ω LX (some (.int r0)) v0) 5 v1 92 [(0, .ref (Ω.1 0)), (1, .int x1), (2, .int x2), (3, .int x3)] []
      refine gi_iinc (z := (1 : Int32)) (n := 95) hX 3 [(3, .int (x3 + (1 : Int32))), (0, .ref (Ω.1 0)), (1, .int x1), (2, .int x2)] dX7_open_92 rfl rfl rfl rfl rfl rfl ?_
      refine gi_goto (n := 27) hX dX7_open_95 rfl ?_
      refine gi_sub [1, 2, 3, 0] rfl ?_
      exact hc _ _ (Option.some.inj h).symm
    · refine key (v, (0 : Int32)) _ e0 ?_
      show some q = some (r0, v0)
      exact hr _ _ (Option.some.inj h).symm
set_option maxRecDepth 20000 in
theorem t_X7_open {Γ : gC} {Ω : gO} {r0 : Int32} {v0 : gV} (hX : gx_X Γ Ω cX7_open RX7 5 (some .int)) (hR : Γ.2.2.2.1 = gx_R 5) (x1 : Int32) (x2 : Int32) (v : gV) (h : f_X7_open x1 x2 v = some (r0, v0)) : gx_G Γ Ω LX (gx_Q Γ Ω LX (some (.int r0)) v0) 5 v 0 [(0, .ref (Ω.1 0)), (1, .int x1), (2, .int x2)] [] := by
  rw [f_X7_open] at h
  refine gi_iload_n (n := 1) hX 1 dX7_open_0 rfl rfl rfl ?_
  refine gi_aload_n (n := 2) hX 0 dX7_open_1 rfl rfl rfl ?_
  refine gi_getR (n := 5) hX 1 kc_X7 ly_X7 rfl rfl fl_X7_21 dX7_open_2 rfl ?_
  refine gi_getI (n := 8) hX 0 kc_X6 ly_X6 rfl rfl fl_X7_92 dX7_open_5 rfl ?_
  obtain ⟨r3, v1, e2, h⟩ := bi_some h
  refine gi_statI (st := []) (n := 11) hX hR ms_X7_isOutside ml_X7_70 (m_X7_isOutside Γ.2.1 Ω x1 (v.1 6 0) v e2) rfl ⟨rfl, rfl⟩ rfl dX7_open_8 rfl rfl ?_
  refine gi_if_ne (tgt := 22) (n := 14) hX dX7_open_11 rfl rfl h (fun h => ?_) (fun h => ?_)
  · refine gi_bipush (x := (-2 : Int32)) (n := 24) hX rfl dX7_open_22 rfl ?_
    exact gi_iret hX rfl dX7_open_24 h
  · refine gi_iload_n (n := 15) hX 2 dX7_open_14 rfl rfl rfl ?_
    refine gi_iconst (x := (2 : Int32)) (n := 16) hX rfl dX7_open_15 rfl ?_
    obtain ⟨r6, v4, e5, h⟩ := bi_some h
    refine gi_statI (st := []) (n := 19) hX hR ms_X7_isOutside ml_X7_70 (m_X7_isOutside Γ.2.1 Ω x2 (2 : Int32) v1 e5) rfl ⟨rfl, rfl⟩ rfl dX7_open_16 rfl rfl ?_
    refine gi_if_eq (tgt := 25) (n := 22) hX dX7_open_19 rfl rfl h (fun h => ?_) (fun h => ?_)
    · refine gi_iconst (x := (0 : Int32)) (n := 26) hX rfl dX7_open_25 rfl ?_
      refine gi_istore_n (n := 27) hX [(3, .int (0 : Int32)), (0, .ref (Ω.1 0)), (1, .int x1), (2, .int x2)] dX7_open_26 rfl rfl rfl rfl ?_
      refine gi_sub [1, 2, 3, 0] rfl ?_
      have key := lp_ind (f := (fun a : gV × Int32 => f_X7_open_B27 x1 x2 a.2 a.1)) (P := (fun a : gV × Int32 => gx_G Γ Ω LX (gx_Q Γ Ω LX (some (.int r0)) v0) 5 a.1 27 [(0, .ref (Ω.1 0)), (1, .int x1), (2, .int x2), (3, .int a.2)] [])) (Z := (fun w : (gV) ⊕ (Int32 × gV) => Sum.elim (fun z : gV => gx_G Γ Ω LX (gx_Q Γ Ω LX (some (.int r0)) v0) 5 z 98 [] []) (fun q => some q = some (r0, v0)) w)) (fun a o h hc hz => t_X7_open_B27 hX hR x1 x2 a.2 a.1 h (fun c0 c1 e => hc (c0, c1) e) (fun z0 e => hz (.inl z0) e) (fun q0 q1 e => hz (.inr (q0, q1)) e)) fu
      rcases bs1_some h with ⟨v7, e0, h⟩ | ⟨q, e0, h⟩
      · refine key (v4, (0 : Int32)) _ e0 ?_
        show gx_G Γ Ω LX (gx_Q Γ Ω LX (some (.int r0)) v0) 5 v7 98 [] []
        refine gi_iconst (x := (-1 : Int32)) (n := 99) hX rfl dX7_open_98 rfl ?_
        exact gi_iret hX rfl dX7_open_99 h
      · refine key (v4, (0 : Int32)) _ e0 ?_
        show some q = some (r0, v0)
        exact h
    · refine gi_bipush (x := (-2 : Int32)) (n := 24) hX rfl dX7_open_22 rfl ?_
      exact gi_iret hX rfl dX7_open_24 h
theorem m_X7_open (l : Launch) (Ω : gO) (x1 : Int32) (x2 : Int32) (v : gV) {r0 : Int32} {v0 : gV} (h : f_X7_open x1 x2 v = some (r0, v0)) : gx_M l Ω LX yX7_open cX7_open 5 (some .int) 5 [.ref (Ω.1 0), .int x1, .int x2] v (some (.int r0)) v0 := gx_start (lv := [(0, .ref (Ω.1 0)), (1, .int x1), (2, .int x2)]) (by decide +kernel) (Nat.le_of_ble_eq_true rfl) rfl (fun Γ _ hR hX => t_X7_open hX hR x1 x2 v h)
set_option maxRecDepth 20000 in
theorem t_X7_had_J78 {Γ : gC} {Ω : gO} {r0 : Int32} {v0 : gV} {o : (gV × Int32 × Int32) ⊕ (gV × Int32)} (hX : gx_X Γ Ω cX7_had RX7 4 (some .int)) (hR : Γ.2.2.2.1 = gx_R 4) (x1 : Int32) (x2 : Int32) (x3 : Int32) (v : gV) (h : f_X7_had_J78 x1 x2 x3 v = some o) (hc : ∀ c0 c1 c2, o = .inl (c0, c1, c2) → gx_G Γ Ω LX (gx_Q Γ Ω LX (some (.int r0)) v0) 4 c0 21 [(0, .ref (Ω.1 0)), (1, .int x1), (2, .int c1), (3, .int c2)] []) (hz : ∀ z0 z1, o = .inr (z0, z1) → gx_G Γ Ω LX (gx_Q Γ Ω LX (some (.int r0)) v0) 4 z0 84 [(2, .int z1)] []) : gx_G Γ Ω LX (gx_Q Γ Ω LX (some (.int r0)) v0) 4 v 78 [(0, .ref (Ω.1 0)), (1, .int x1), (2, .int x2), (3, .int x3)] [] := by
  rw [f_X7_had_J78] at h
  refine gi_iinc (z := (1 : Int32)) (n := 81) hX 3 [(3, .int (x3 + (1 : Int32))), (0, .ref (Ω.1 0)), (1, .int x1), (2, .int x2)] dX7_had_78 rfl rfl rfl rfl rfl rfl ?_
  refine gi_goto (n := 21) hX dX7_had_81 rfl ?_
  refine gi_sub [1, 2, 3, 0] rfl ?_
  exact hc _ _ _ (Option.some.inj h).symm
set_option maxRecDepth 20000 in
theorem t_X7_had_B21 {Γ : gC} {Ω : gO} {r0 : Int32} {v0 : gV} {o : (gV × Int32 × Int32) ⊕ (gV × Int32)} (hX : gx_X Γ Ω cX7_had RX7 4 (some .int)) (hR : Γ.2.2.2.1 = gx_R 4) (x1 : Int32) (x2 : Int32) (x3 : Int32) (v : gV) (h : f_X7_had_B21 x1 x2 x3 v = some o) (hc : ∀ c0 c1 c2, o = .inl (c0, c1, c2) → gx_G Γ Ω LX (gx_Q Γ Ω LX (some (.int r0)) v0) 4 c0 21 [(0, .ref (Ω.1 0)), (1, .int x1), (2, .int c1), (3, .int c2)] []) (hz : ∀ z0 z1, o = .inr (z0, z1) → gx_G Γ Ω LX (gx_Q Γ Ω LX (some (.int r0)) v0) 4 z0 84 [(2, .int z1)] []) : gx_G Γ Ω LX (gx_Q Γ Ω LX (some (.int r0)) v0) 4 v 21 [(0, .ref (Ω.1 0)), (1, .int x1), (2, .int x2), (3, .int x3)] [] := by
  rw [f_X7_had_B21] at h
  refine gi_iload_n (n := 22) hX 3 dX7_had_21 rfl rfl rfl ?_
  refine gi_bipush (x := (8 : Int32)) (n := 24) hX rfl dX7_had_22 rfl ?_
  refine gi_icmp_ge (tgt := 84) (n := 27) hX dX7_had_24 rfl rfl h (fun h => ?_) (fun h => ?_)
  · refine gi_sub [2] rfl ?_
    exact hz _ _ (Option.some.inj h).symm
  · refine gi_aload_n (n := 28) hX 0 dX7_had_27 rfl rfl rfl ?_
    refine gi_getR (n := 31) hX 3 kc_X7 ly_X7 rfl rfl fl_X7_34 dX7_had_28 rfl ?_
    obtain ⟨v1, e2, h⟩ := bv_some h
    refine gi_virtV (st := []) (n := 34) hX hR kc_X1 (ly_R (rfl : kR 54 = true)) mv_X1_begin ml_X7_171 (m_X1_begin Γ.2.1 Ω 54 (rfl : kR 54 = true) v e2) rfl ⟨rfl, rfl⟩ rfl dX7_had_31 rfl rfl ?_
    refine gi_aload_n (n := 35) hX 0 dX7_had_34 rfl rfl rfl ?_
    refine gi_getR (n := 38) hX 3 kc_X7 ly_X7 rfl rfl fl_X7_34 dX7_had_35 rfl ?_
    refine gi_getR (n := 41) hX 3 kc_X1 (ly_R (rfl : kR 54 = true)) rfl rfl fl_X7_202 dX7_had_38 rfl ?_
    refine gi_iload_n (n := 42) hX 1 dX7_had_41 rfl rfl rfl ?_
    refine gi_iload_n (n := 43) hX 3 dX7_had_42 rfl rfl rfl ?_
    refine gi_iast (n := 44) hX (ly_R1 (rfl : kR 54 = true)) dX7_had_43 rfl h (fun v3 h => ?_)
    refine gi_aload_n (n := 45) hX 0 dX7_had_44 rfl rfl rfl ?_
    refine gi_getR (n := 48) hX 3 kc_X7 ly_X7 rfl rfl fl_X7_34 dX7_had_45 rfl ?_
    obtain ⟨v4, e5, h⟩ := bv_some h
    refine gi_virtV (st := []) (n := 51) hX hR kc_X1 (ly_R (rfl : kR 54 = true)) mv_X1_go ml_X7_181 (m_X1_go Γ.2.1 Ω 54 (rfl : kR 54 = true) v3 e5) rfl ⟨rfl, rfl⟩ rfl dX7_had_48 rfl rfl ?_
    refine gi_aload_n (n := 52) hX 0 dX7_had_51 rfl rfl rfl ?_
    refine gi_getR (n := 55) hX 5 kc_X7 ly_X7 rfl rfl fl_X7_47 dX7_had_52 rfl ?_
    refine gi_aload_n (n := 56) hX 0 dX7_had_55 rfl rfl rfl ?_
    refine gi_getR (n := 59) hX 3 kc_X7 ly_X7 rfl rfl fl_X7_34 dX7_had_56 rfl ?_
    refine gi_aload_n (n := 60) hX 0 dX7_had_59 rfl rfl rfl ?_
    refine gi_getR (n := 63) hX 1 kc_X7 ly_X7 rfl rfl fl_X7_21 dX7_had_60 rfl ?_
    refine gi_getI (n := 66) hX 0 kc_X6 ly_X6 rfl rfl fl_X7_92 dX7_had_63 rfl ?_
    obtain ⟨r8, v6, e7, h⟩ := bi_some h
    refine gi_virtI (st := []) (n := 69) hX hR kc_X3 ly_X3 mv_X3_comeOutIn ml_X7_205 (m_X3_comeOutIn Γ.2.1 Ω 54 (rfl : kR 54 = true) (v4.1 6 0) v4 e7) rfl ⟨rfl, rfl⟩ rfl dX7_had_66 rfl rfl ?_
    refine gi_if_eq (tgt := 78) (n := 72) hX dX7_had_69 rfl rfl h (fun h => ?_) (fun h => ?_)
    · exact t_X7_had_J78 hX hR x1 x2 x3 v6 h hc hz
    · refine gi_iload_n (n := 73) hX 2 dX7_had_72 rfl rfl rfl ?_
      refine gi_iconst (x := (1 : Int32)) (n := 74) hX rfl dX7_had_73 rfl ?_
      refine gi_iload_n (n := 75) hX 3 dX7_had_74 rfl rfl rfl ?_
      refine gi_ishl (n := 76) hX dX7_had_75 rfl ?_
      refine gi_ior (n := 77) hX dX7_had_76 rfl ?_
      refine gi_topI h (fun u9 h => ?_)
      refine gi_istore_n (n := 78) hX [(2, .int u9), (0, .ref (Ω.1 0)), (1, .int x1), (3, .int x3)] dX7_had_77 rfl rfl rfl rfl ?_
      refine gi_sub [1, 2, 0, 3] rfl ?_
      exact t_X7_had_J78 hX hR x1 u9 x3 v6 h hc hz
set_option maxRecDepth 20000 in
theorem t_X7_had {Γ : gC} {Ω : gO} {r0 : Int32} {v0 : gV} (hX : gx_X Γ Ω cX7_had RX7 4 (some .int)) (hR : Γ.2.2.2.1 = gx_R 4) (x1 : Int32) (v : gV) (h : f_X7_had x1 v = some (r0, v0)) : gx_G Γ Ω LX (gx_Q Γ Ω LX (some (.int r0)) v0) 4 v 0 [(0, .ref (Ω.1 0)), (1, .int x1)] [] := by
  rw [f_X7_had] at h
  refine gi_iload_n (n := 1) hX 1 dX7_had_0 rfl rfl rfl ?_
  refine gi_aload_n (n := 2) hX 0 dX7_had_1 rfl rfl rfl ?_
  refine gi_getR (n := 5) hX 1 kc_X7 ly_X7 rfl rfl fl_X7_21 dX7_had_2 rfl ?_
  refine gi_getI (n := 8) hX 0 kc_X6 ly_X6 rfl rfl fl_X7_92 dX7_had_5 rfl ?_
  obtain ⟨r3, v1, e2, h⟩ := bi_some h
  refine gi_statI (st := []) (n := 11) hX hR ms_X7_isOutside ml_X7_70 (m_X7_isOutside Γ.2.1 Ω x1 (v.1 6 0) v e2) rfl ⟨rfl, rfl⟩ rfl dX7_had_8 rfl rfl ?_
  refine gi_if_eq (tgt := 17) (n := 14) hX dX7_had_11 rfl rfl h (fun h => ?_) (fun h => ?_)
  · refine gi_iconst (x := (0 : Int32)) (n := 18) hX rfl dX7_had_17 rfl ?_
    refine gi_istore_n (n := 19) hX [(2, .int (0 : Int32)), (0, .ref (Ω.1 0)), (1, .int x1)] dX7_had_18 rfl rfl rfl rfl ?_
    refine gi_iconst (x := (0 : Int32)) (n := 20) hX rfl dX7_had_19 rfl ?_
    refine gi_istore_n (n := 21) hX [(3, .int (0 : Int32)), (2, .int (0 : Int32)), (0, .ref (Ω.1 0)), (1, .int x1)] dX7_had_20 rfl rfl rfl rfl ?_
    refine gi_sub [2, 3, 1, 0] rfl ?_
    have key := lp_ind (f := (fun a : gV × Int32 × Int32 => f_X7_had_B21 x1 a.2.1 a.2.2 a.1)) (P := (fun a : gV × Int32 × Int32 => gx_G Γ Ω LX (gx_Q Γ Ω LX (some (.int r0)) v0) 4 a.1 21 [(0, .ref (Ω.1 0)), (1, .int x1), (2, .int a.2.1), (3, .int a.2.2)] [])) (Z := (fun z : gV × Int32 => gx_G Γ Ω LX (gx_Q Γ Ω LX (some (.int r0)) v0) 4 z.1 84 [(2, .int z.2)] [])) (fun a o h hc hz => t_X7_had_B21 hX hR x1 a.2.1 a.2.2 a.1 h (fun c0 c1 c2 e => hc (c0, c1, c2) e) (fun z0 z1 e => hz (z0, z1) e)) fu
    obtain ⟨v4, y5, e0, h⟩ := bx2_some h
    refine key (v1, (0 : Int32), (0 : Int32)) _ e0 ?_
    show gx_G Γ Ω LX (gx_Q Γ Ω LX (some (.int r0)) v0) 4 v4 84 [(2, .int y5)] []
    refine gi_iload_n (n := 85) hX 0 dX7_had_84 rfl rfl rfl ?_
    exact gi_iret hX rfl dX7_had_85 h
  · refine gi_bipush (x := (-2 : Int32)) (n := 16) hX rfl dX7_had_14 rfl ?_
    exact gi_iret hX rfl dX7_had_16 h
theorem m_X7_had (l : Launch) (Ω : gO) (x1 : Int32) (v : gV) {r0 : Int32} {v0 : gV} (h : f_X7_had x1 v = some (r0, v0)) : gx_M l Ω LX yX7_had cX7_had 4 (some .int) 4 [.ref (Ω.1 0), .int x1] v (some (.int r0)) v0 := gx_start (lv := [(0, .ref (Ω.1 0)), (1, .int x1)]) (by decide +kernel) (Nat.le_of_ble_eq_true rfl) rfl (fun Γ _ hR hX => t_X7_had hX hR x1 v h)
set_option maxRecDepth 20000 in
theorem t_X7_maybe_J41 {Γ : gC} {Ω : gO} {r0 : Int64} {v0 : gV} (hX : gx_X Γ Ω cX7_maybe RX7 11 (some .long)) (hR : Γ.2.2.2.1 = gx_R 5)  (v : gV) (h : f_X7_maybe_J41  v = some (r0, v0)) : gx_G Γ Ω LX (gx_Q Γ Ω LX (some (.long r0)) v0) 11 v 41 [] [] := by
  rw [f_X7_maybe_J41] at h
  refine gi_ldc2 (n := 44) hX co_X7_219 dX7_maybe_41 rfl ?_
  exact gi_lret hX rfl dX7_maybe_44 h
set_option maxRecDepth 20000 in
theorem t_X7_maybe_J115 {Γ : gC} {Ω : gO} {r0 : Int64} {v0 : gV} {o : (gV × Int32) ⊕ (gV)} (hX : gx_X Γ Ω cX7_maybe RX7 11 (some .long)) (hR : Γ.2.2.2.1 = gx_R 5) (x1 : Int32) (x2 : Int32) (x3 : Int32) (x4 : Int32) (x5 : Int32) (v : gV) (h : f_X7_maybe_J115 x1 x2 x3 x4 x5 v = some o) (hc : ∀ c0 c1, o = .inl (c0, c1) → gx_G Γ Ω LX (gx_Q Γ Ω LX (some (.long r0)) v0) 11 c0 56 [(0, .ref (Ω.1 0)), (1, .int x1), (2, .int x2), (3, .int x3), (4, .int x4), (5, .int c1)] []) (hz : ∀ z0, o = .inr z0 → gx_G Γ Ω LX (gx_Q Γ Ω LX (some (.long r0)) v0) 11 z0 121 [(0, .ref (Ω.1 0)), (1, .int x1), (4, .int x4)] []) : gx_G Γ Ω LX (gx_Q Γ Ω LX (some (.long r0)) v0) 11 v 115 [(0, .ref (Ω.1 0)), (1, .int x1), (2, .int x2), (3, .int x3), (4, .int x4), (5, .int x5)] [] := by
  rw [f_X7_maybe_J115] at h
  refine gi_iinc (z := (1 : Int32)) (n := 118) hX 5 [(5, .int (x5 + (1 : Int32))), (0, .ref (Ω.1 0)), (1, .int x1), (2, .int x2), (3, .int x3), (4, .int x4)] dX7_maybe_115 rfl rfl rfl rfl rfl rfl ?_
  refine gi_goto (n := 56) hX dX7_maybe_118 rfl ?_
  refine gi_sub [1, 2, 3, 4, 5, 0] rfl ?_
  exact hc _ _ (Option.some.inj h).symm
set_option maxRecDepth 20000 in
theorem t_X7_maybe_B56 {Γ : gC} {Ω : gO} {r0 : Int64} {v0 : gV} {o : (gV × Int32) ⊕ (gV)} (hX : gx_X Γ Ω cX7_maybe RX7 11 (some .long)) (hR : Γ.2.2.2.1 = gx_R 5) (x1 : Int32) (x2 : Int32) (x3 : Int32) (x4 : Int32) (x5 : Int32) (v : gV) (h : f_X7_maybe_B56 x1 x2 x3 x4 x5 v = some o) (hc : ∀ c0 c1, o = .inl (c0, c1) → gx_G Γ Ω LX (gx_Q Γ Ω LX (some (.long r0)) v0) 11 c0 56 [(0, .ref (Ω.1 0)), (1, .int x1), (2, .int x2), (3, .int x3), (4, .int x4), (5, .int c1)] []) (hz : ∀ z0, o = .inr z0 → gx_G Γ Ω LX (gx_Q Γ Ω LX (some (.long r0)) v0) 11 z0 121 [(0, .ref (Ω.1 0)), (1, .int x1), (4, .int x4)] []) : gx_G Γ Ω LX (gx_Q Γ Ω LX (some (.long r0)) v0) 11 v 56 [(0, .ref (Ω.1 0)), (1, .int x1), (2, .int x2), (3, .int x3), (4, .int x4), (5, .int x5)] [] := by
  rw [f_X7_maybe_B56] at h
  refine gi_iload (n := 58) hX 5 dX7_maybe_56 rfl rfl ?_
  refine gi_sipush (x := (1024 : Int32)) (n := 61) hX rfl dX7_maybe_58 rfl ?_
  refine gi_icmp_ge (tgt := 121) (n := 64) hX dX7_maybe_61 rfl rfl h (fun h => ?_) (fun h => ?_)
  · refine gi_sub [0, 1, 4] rfl ?_
    exact hz _ (Option.some.inj h).symm
  · refine gi_iload (n := 66) hX 5 dX7_maybe_64 rfl rfl ?_
    refine gi_aload_n (n := 67) hX 0 dX7_maybe_66 rfl rfl rfl ?_
    refine gi_getR (n := 70) hX 1 kc_X7 ly_X7 rfl rfl fl_X7_21 dX7_maybe_67 rfl ?_
    refine gi_getI (n := 73) hX 10 kc_X6 ly_X6 rfl rfl fl_X7_227 dX7_maybe_70 rfl ?_
    refine gi_iconst (x := (-1 : Int32)) (n := 74) hX rfl dX7_maybe_73 rfl ?_
    refine gi_ixor (n := 75) hX dX7_maybe_74 rfl ?_
    refine gi_iand (n := 76) hX dX7_maybe_75 rfl ?_
    refine gi_if_ne (tgt := 115) (n := 79) hX dX7_maybe_76 rfl rfl h (fun h => ?_) (fun h => ?_)
    · exact t_X7_maybe_J115 hX hR x1 x2 x3 x4 x5 v h hc hz
    · refine gi_aload_n (n := 80) hX 0 dX7_maybe_79 rfl rfl rfl ?_
      refine gi_getR (n := 83) hX 4 kc_X7 ly_X7 rfl rfl fl_X7_40 dX7_maybe_80 rfl ?_
      refine gi_iload (n := 85) hX 5 dX7_maybe_83 rfl rfl ?_
      refine gi_iload_n (n := 86) hX 2 dX7_maybe_85 rfl rfl rfl ?_
      refine gi_aload_n (n := 87) hX 0 dX7_maybe_86 rfl rfl rfl ?_
      refine gi_getR (n := 90) hX 3 kc_X7 ly_X7 rfl rfl fl_X7_34 dX7_maybe_87 rfl ?_
      obtain ⟨r3, v1, e2, h⟩ := bi_some h
      refine gi_virtI (st := []) (n := 93) hX hR kc_X4 ly_X4 mv_X4_servedBy ml_X7_161 (m_X4_servedBy Γ.2.1 Ω x5 x2 54 (rfl : kR 54 = true) v e2) rfl ⟨rfl, rfl⟩ rfl dX7_maybe_90 rfl rfl ?_
      refine gi_iload_n (n := 94) hX 3 dX7_maybe_93 rfl rfl rfl ?_
      refine gi_ishr (n := 95) hX dX7_maybe_94 rfl ?_
      refine gi_iconst (x := (1 : Int32)) (n := 96) hX rfl dX7_maybe_95 rfl ?_
      refine gi_iand (n := 97) hX dX7_maybe_96 rfl ?_
      refine gi_iconst (x := (1 : Int32)) (n := 98) hX rfl dX7_maybe_97 rfl ?_
      refine gi_icmp_ne (tgt := 115) (n := 101) hX dX7_maybe_98 rfl rfl h (fun h => ?_) (fun h => ?_)
      · exact t_X7_maybe_J115 hX hR x1 x2 x3 x4 x5 v1 h hc hz
      · refine gi_aload_n (n := 102) hX 0 dX7_maybe_101 rfl rfl rfl ?_
        refine gi_getR (n := 105) hX 8 kc_X7 ly_X7 rfl rfl fl_X7_63 dX7_maybe_102 rfl ?_
        refine gi_iload (n := 107) hX 5 dX7_maybe_105 rfl rfl ?_
        obtain ⟨r6, v4, e5, h⟩ := bi_some h
        refine gi_statI (st := [.ref (Ω.1 117)]) (n := 110) hX hR ms_J6_bitCount_0f7a4 ml_X7_156 (m_J6_bitCount_0f7a4 Γ.2.1 Ω LX x5 v1 e5) rfl ⟨rfl, rfl⟩ rfl dX7_maybe_107 rfl rfl ?_
        refine gi_dup2 (n := 111) hX rfl rfl dX7_maybe_110 rfl ?_
        refine gi_iald (n := 112) hX ly_117 dX7_maybe_111 rfl h (fun h => ?_)
        refine gi_iconst (x := (1 : Int32)) (n := 113) hX rfl dX7_maybe_112 rfl ?_
        refine gi_iadd (n := 114) hX dX7_maybe_113 rfl ?_
        refine gi_iast (n := 115) hX ly_117 dX7_maybe_114 rfl h (fun v7 h => ?_)
        exact t_X7_maybe_J115 hX hR x1 x2 x3 x4 x5 v7 h hc hz
set_option maxRecDepth 20000 in
theorem t_X7_maybe_B153 {Γ : gC} {Ω : gO} {r0 : Int64} {v0 : gV} {o : (gV × Int64 × Int64 × Int32) ⊕ (gV × Int64 × Int64)} (hX : gx_X Γ Ω cX7_maybe RX7 11 (some .long)) (hR : Γ.2.2.2.1 = gx_R 5) (x4 : Int32) (x5 : Int32) (x6 : Int64) (x8 : Int64) (x10 : Int32) (v : gV) (h : f_X7_maybe_B153 x4 x5 x6 x8 x10 v = some o) (hc : ∀ c0 c1 c2 c3, o = .inl (c0, c1, c2, c3) → gx_G Γ Ω LX (gx_Q Γ Ω LX (some (.long r0)) v0) 11 c0 153 [(4, .int x4), (5, .int x5), (6, .long c1), (8, .long c2), (10, .int c3)] []) (hz : ∀ z0 z1 z2, o = .inr (z0, z1, z2) → gx_G Γ Ω LX (gx_Q Γ Ω LX (some (.long r0)) v0) 11 z0 195 [(4, .int x4), (6, .long z1), (8, .long z2)] []) : gx_G Γ Ω LX (gx_Q Γ Ω LX (some (.long r0)) v0) 11 v 153 [(4, .int x4), (5, .int x5), (6, .long x6), (8, .long x8), (10, .int x10)] [] := by
  rw [f_X7_maybe_B153] at h
  refine gi_iload (n := 155) hX 4 dX7_maybe_153 rfl rfl ?_
  refine gi_iconst (x := (4 : Int32)) (n := 156) hX rfl dX7_maybe_155 rfl ?_
  refine gi_iload (n := 158) hX 1 dX7_maybe_156 rfl rfl ?_
  refine gi_imul (n := 159) hX dX7_maybe_158 rfl ?_
  refine gi_icmp_ge (tgt := 195) (n := 162) hX dX7_maybe_159 rfl rfl h (fun h => ?_) (fun h => ?_)
  · refine gi_sub [0, 2, 3] rfl ?_
    exact hz _ _ _ (Option.some.inj h).symm
  · refine gi_lload (n := 164) hX 2 dX7_maybe_162 rfl rfl ?_
    refine gi_ldc2 (n := 167) hX co_X7_234 dX7_maybe_164 rfl ?_
    refine gi_lrem (n := 168) hX (by decide) dX7_maybe_167 rfl ?_
    refine gi_lconst (x := (0 : Int64)) (n := 169) hX rfl dX7_maybe_168 rfl ?_
    refine gi_lcmp (n := 170) hX dX7_maybe_169 rfl ?_
    refine gi_if_ne (tgt := 195) (n := 173) hX dX7_maybe_170 rfl rfl h (fun h => ?_) (fun h => ?_)
    · refine gi_sub [0, 2, 3] rfl ?_
      exact hz _ _ _ (Option.some.inj h).symm
    · refine gi_lload (n := 175) hX 2 dX7_maybe_173 rfl rfl ?_
      refine gi_ldc2 (n := 178) hX co_X7_234 dX7_maybe_175 rfl ?_
      refine gi_ldiv (n := 179) hX (by decide) dX7_maybe_178 rfl ?_
      refine gi_topJ h (fun u1 h => ?_)
      refine gi_lstore (n := 181) hX [(6, .long u1), (4, .int x4), (5, .int x5), (8, .long x8), (10, .int x10)] dX7_maybe_179 rfl rfl rfl ?_
      refine gi_lload (n := 183) hX 3 dX7_maybe_181 rfl rfl ?_
      refine gi_ldc2 (n := 186) hX co_X7_234 dX7_maybe_183 rfl ?_
      refine gi_ldiv (n := 187) hX (by decide) dX7_maybe_186 rfl ?_
      refine gi_topJ h (fun u2 h => ?_)
      refine gi_lstore (n := 189) hX [(8, .long u2), (6, .long u1), (4, .int x4), (5, .int x5), (10, .int x10)] dX7_maybe_187 rfl rfl rfl ?_
      refine gi_iinc (z := (1 : Int32)) (n := 192) hX 4 [(10, .int (x10 + (1 : Int32))), (8, .long u2), (6, .long u1), (4, .int x4), (5, .int x5)] dX7_maybe_189 rfl rfl rfl rfl rfl rfl ?_
      refine gi_goto (n := 153) hX dX7_maybe_192 rfl ?_
      refine gi_sub [3, 4, 2, 1, 0] rfl ?_
      exact hc _ _ _ _ (Option.some.inj h).symm
set_option maxRecDepth 20000 in
theorem t_X7_maybe_J195 {Γ : gC} {Ω : gO} {r0 : Int64} {v0 : gV} (hX : gx_X Γ Ω cX7_maybe RX7 11 (some .long)) (hR : Γ.2.2.2.1 = gx_R 5) (x4 : Int32) (x6 : Int64) (x8 : Int64) (v : gV) (h : f_X7_maybe_J195 x4 x6 x8 v = some (r0, v0)) : gx_G Γ Ω LX (gx_Q Γ Ω LX (some (.long r0)) v0) 11 v 195 [(4, .int x4), (6, .long x6), (8, .long x8)] [] := by
  rw [f_X7_maybe_J195] at h
  refine gi_iload (n := 197) hX 0 dX7_maybe_195 rfl rfl ?_
  refine gi_if_ne (tgt := 205) (n := 200) hX dX7_maybe_197 rfl rfl h (fun h => ?_) (fun h => ?_)
  · refine gi_lload (n := 207) hX 2 dX7_maybe_205 rfl rfl ?_
    exact gi_lret hX rfl dX7_maybe_207 h
  · refine gi_lload (n := 202) hX 1 dX7_maybe_200 rfl rfl ?_
    refine gi_goto (n := 207) hX dX7_maybe_202 rfl ?_
    exact gi_lret hX rfl dX7_maybe_207 h
set_option maxRecDepth 20000 in
theorem t_X7_maybe {Γ : gC} {Ω : gO} {r0 : Int64} {v0 : gV} (hX : gx_X Γ Ω cX7_maybe RX7 11 (some .long)) (hR : Γ.2.2.2.1 = gx_R 5) (x1 : Int32) (x2 : Int32) (x3 : Int32) (x4 : Int32) (v : gV) (h : f_X7_maybe x1 x2 x3 x4 v = some (r0, v0)) : gx_G Γ Ω LX (gx_Q Γ Ω LX (some (.long r0)) v0) 11 v 0 [(0, .ref (Ω.1 0)), (1, .int x1), (2, .int x2), (3, .int x3), (4, .int x4)] [] := by
  rw [f_X7_maybe] at h
  refine gi_iload_n (n := 1) hX 1 dX7_maybe_0 rfl rfl rfl ?_
  refine gi_bipush (x := (17 : Int32)) (n := 3) hX rfl dX7_maybe_1 rfl ?_
  obtain ⟨r3, v1, e2, h⟩ := bi_some h
  refine gi_statI (st := []) (n := 6) hX hR ms_X7_isOutside ml_X7_70 (m_X7_isOutside Γ.2.1 Ω x1 (17 : Int32) v e2) rfl ⟨rfl, rfl⟩ rfl dX7_maybe_3 rfl rfl ?_
  refine gi_if_ne (tgt := 41) (n := 9) hX dX7_maybe_6 rfl rfl h (fun h => ?_) (fun h => ?_)
  · refine gi_sub [] rfl ?_
    exact t_X7_maybe_J41 hX hR v1 h
  · refine gi_iload_n (n := 10) hX 2 dX7_maybe_9 rfl rfl rfl ?_
    refine gi_bipush (x := (10 : Int32)) (n := 12) hX rfl dX7_maybe_10 rfl ?_
    obtain ⟨r6, v4, e5, h⟩ := bi_some h
    refine gi_statI (st := []) (n := 15) hX hR ms_X7_isOutside ml_X7_70 (m_X7_isOutside Γ.2.1 Ω x2 (10 : Int32) v1 e5) rfl ⟨rfl, rfl⟩ rfl dX7_maybe_12 rfl rfl ?_
    refine gi_if_ne (tgt := 41) (n := 18) hX dX7_maybe_15 rfl rfl h (fun h => ?_) (fun h => ?_)
    · refine gi_sub [] rfl ?_
      exact t_X7_maybe_J41 hX hR v4 h
    · refine gi_iload_n (n := 19) hX 3 dX7_maybe_18 rfl rfl rfl ?_
      refine gi_aload_n (n := 20) hX 0 dX7_maybe_19 rfl rfl rfl ?_
      refine gi_getR (n := 23) hX 1 kc_X7 ly_X7 rfl rfl fl_X7_21 dX7_maybe_20 rfl ?_
      refine gi_getI (n := 26) hX 0 kc_X6 ly_X6 rfl rfl fl_X7_92 dX7_maybe_23 rfl ?_
      obtain ⟨r9, v7, e8, h⟩ := bi_some h
      refine gi_statI (st := []) (n := 29) hX hR ms_X7_isOutside ml_X7_70 (m_X7_isOutside Γ.2.1 Ω x3 (v4.1 6 0) v4 e8) rfl ⟨rfl, rfl⟩ rfl dX7_maybe_26 rfl rfl ?_
      refine gi_if_ne (tgt := 41) (n := 32) hX dX7_maybe_29 rfl rfl h (fun h => ?_) (fun h => ?_)
      · refine gi_sub [] rfl ?_
        exact t_X7_maybe_J41 hX hR v7 h
      · refine gi_iload (n := 34) hX 4 dX7_maybe_32 rfl rfl ?_
        refine gi_iconst (x := (2 : Int32)) (n := 35) hX rfl dX7_maybe_34 rfl ?_
        obtain ⟨r12, v10, e11, h⟩ := bi_some h
        refine gi_statI (st := []) (n := 38) hX hR ms_X7_isOutside ml_X7_70 (m_X7_isOutside Γ.2.1 Ω x4 (2 : Int32) v7 e11) rfl ⟨rfl, rfl⟩ rfl dX7_maybe_35 rfl rfl ?_
        refine gi_if_eq (tgt := 45) (n := 41) hX dX7_maybe_38 rfl rfl h (fun h => ?_) (fun h => ?_)
        · refine gi_aload_n (n := 46) hX 0 dX7_maybe_45 rfl rfl rfl ?_
          refine gi_getR (n := 49) hX 8 kc_X7 ly_X7 rfl rfl fl_X7_63 dX7_maybe_46 rfl ?_
          refine gi_iconst (x := (0 : Int32)) (n := 50) hX rfl dX7_maybe_49 rfl ?_
          obtain ⟨v13, e14, h⟩ := bv_some h
          refine gi_statV (st := []) (n := 53) hX hR ms_J7_fill_53178 ml_X7_221 (m_J7_fill_53178 Γ.2.1 Ω LX 11 117 ly_117 (0 : Int32) v10 e14) rfl ⟨rfl, rfl⟩ rfl dX7_maybe_50 rfl rfl ?_
          refine gi_iconst (x := (0 : Int32)) (n := 54) hX rfl dX7_maybe_53 rfl ?_
          refine gi_istore (n := 56) hX [(5, .int (0 : Int32)), (0, .ref (Ω.1 0)), (1, .int x1), (2, .int x2), (3, .int x3), (4, .int x4)] dX7_maybe_54 rfl rfl rfl ?_
          refine gi_sub [1, 2, 3, 4, 5, 0] rfl ?_
          have key := lp_ind (f := (fun a : gV × Int32 => f_X7_maybe_B56 x1 x2 x3 x4 a.2 a.1)) (P := (fun a : gV × Int32 => gx_G Γ Ω LX (gx_Q Γ Ω LX (some (.long r0)) v0) 11 a.1 56 [(0, .ref (Ω.1 0)), (1, .int x1), (2, .int x2), (3, .int x3), (4, .int x4), (5, .int a.2)] [])) (Z := (fun z : gV => gx_G Γ Ω LX (gx_Q Γ Ω LX (some (.long r0)) v0) 11 z 121 [(0, .ref (Ω.1 0)), (1, .int x1), (4, .int x4)] [])) (fun a o h hc hz => t_X7_maybe_B56 hX hR x1 x2 x3 x4 a.2 a.1 h (fun c0 c1 e => hc (c0, c1) e) (fun z0 e => hz z0 e)) fu
          obtain ⟨v15, e0, h⟩ := bx1_some h
          refine key (v13, (0 : Int32)) _ e0 ?_
          show gx_G Γ Ω LX (gx_Q Γ Ω LX (some (.long r0)) v0) 11 v15 121 [(0, .ref (Ω.1 0)), (1, .int x1), (4, .int x4)] []
          refine gi_aload_n (n := 122) hX 0 dX7_maybe_121 rfl rfl rfl ?_
          refine gi_getR (n := 125) hX 1 kc_X7 ly_X7 rfl rfl fl_X7_21 dX7_maybe_122 rfl ?_
          refine gi_getI (n := 128) hX 10 kc_X6 ly_X6 rfl rfl fl_X7_227 dX7_maybe_125 rfl ?_
          obtain ⟨r18, v16, e17, h⟩ := bi_some h
          refine gi_statI (st := []) (n := 131) hX hR ms_J6_bitCount_0f7a4 ml_X7_156 (m_J6_bitCount_0f7a4 Γ.2.1 Ω LX (v15.1 6 10) v15 e17) rfl ⟨rfl, rfl⟩ rfl dX7_maybe_128 rfl rfl ?_
          refine gi_istore (n := 133) hX [(5, .int r18), (0, .ref (Ω.1 0)), (1, .int x1), (4, .int x4)] dX7_maybe_131 rfl rfl rfl ?_
          refine gi_aload_n (n := 134) hX 1 dX7_maybe_133 rfl rfl rfl ?_
          refine gi_iload_n (n := 135) hX 2 dX7_maybe_134 rfl rfl rfl ?_
          refine gi_iload (n := 137) hX 0 dX7_maybe_135 rfl rfl ?_
          obtain ⟨r21, v19, e20, h⟩ := bj_some h
          refine gi_virtJ (st := []) (n := 140) hX hR kc_X7 ly_X7 mv_X7_chanceAbove ml_X7_230 (m_X7_chanceAbove Γ.2.1 Ω x1 r18 v16 e20) rfl ⟨rfl, rfl⟩ rfl dX7_maybe_137 rfl rfl ?_
          refine gi_lstore (n := 142) hX [(6, .long r21), (5, .int r18), (0, .ref (Ω.1 0)), (1, .int x1), (4, .int x4)] dX7_maybe_140 rfl rfl rfl ?_
          refine gi_lconst (x := (1 : Int64)) (n := 143) hX rfl dX7_maybe_142 rfl ?_
          refine gi_iconst (x := (4 : Int32)) (n := 144) hX rfl dX7_maybe_143 rfl ?_
          refine gi_iload (n := 146) hX 1 dX7_maybe_144 rfl rfl ?_
          refine gi_imul (n := 147) hX dX7_maybe_146 rfl ?_
          refine gi_lshl (n := 148) hX dX7_maybe_147 rfl ?_
          refine gi_topJ h (fun u22 h => ?_)
          refine gi_lstore (n := 150) hX [(8, .long u22), (6, .long r21), (5, .int r18), (0, .ref (Ω.1 0)), (1, .int x1), (4, .int x4)] dX7_maybe_148 rfl rfl rfl ?_
          refine gi_iconst (x := (0 : Int32)) (n := 151) hX rfl dX7_maybe_150 rfl ?_
          refine gi_istore (n := 153) hX [(10, .int (0 : Int32)), (8, .long u22), (6, .long r21), (5, .int r18), (0, .ref (Ω.1 0)), (1, .int x1), (4, .int x4)] dX7_maybe_151 rfl rfl rfl ?_
          refine gi_sub [6, 3, 2, 1, 0] rfl ?_
          have key := lp_ind (f := (fun a : gV × Int64 × Int64 × Int32 => f_X7_maybe_B153 x4 r18 a.2.1 a.2.2.1 a.2.2.2 a.1)) (P := (fun a : gV × Int64 × Int64 × Int32 => gx_G Γ Ω LX (gx_Q Γ Ω LX (some (.long r0)) v0) 11 a.1 153 [(4, .int x4), (5, .int r18), (6, .long a.2.1), (8, .long a.2.2.1), (10, .int a.2.2.2)] [])) (Z := (fun z : gV × Int64 × Int64 => gx_G Γ Ω LX (gx_Q Γ Ω LX (some (.long r0)) v0) 11 z.1 195 [(4, .int x4), (6, .long z.2.1), (8, .long z.2.2)] [])) (fun a o h hc hz => t_X7_maybe_B153 hX hR x4 r18 a.2.1 a.2.2.1 a.2.2.2 a.1 h (fun c0 c1 c2 c3 e => hc (c0, c1, c2, c3) e) (fun z0 z1 z2 e => hz (z0, z1, z2) e)) fu
          obtain ⟨v23, y24, y25, e0, h⟩ := bx3_some h
          refine key (v19, r21, u22, (0 : Int32)) _ e0 ?_
          show gx_G Γ Ω LX (gx_Q Γ Ω LX (some (.long r0)) v0) 11 v23 195 [(4, .int x4), (6, .long y24), (8, .long y25)] []
          exact t_X7_maybe_J195 hX hR x4 y24 y25 v23 h
        · refine gi_sub [] rfl ?_
          exact t_X7_maybe_J41 hX hR v10 h
theorem m_X7_maybe (l : Launch) (Ω : gO) (x1 : Int32) (x2 : Int32) (x3 : Int32) (x4 : Int32) (v : gV) {r0 : Int64} {v0 : gV} (h : f_X7_maybe x1 x2 x3 x4 v = some (r0, v0)) : gx_M l Ω LX yX7_maybe cX7_maybe 11 (some .long) 5 [.ref (Ω.1 0), .int x1, .int x2, .int x3, .int x4] v (some (.long r0)) v0 := gx_start (lv := [(0, .ref (Ω.1 0)), (1, .int x1), (2, .int x2), (3, .int x3), (4, .int x4)]) (by decide +kernel) (Nat.le_of_ble_eq_true rfl) rfl (fun Γ _ hR hX => t_X7_maybe hX hR x1 x2 x3 x4 v h)
set_option maxRecDepth 20000 in
theorem t_X7_served {Γ : gC} {Ω : gO} {r0 : Int32} {v0 : gV} (hX : gx_X Γ Ω cX7_served RX7 2 (some .int)) (hR : Γ.2.2.2.1 = gx_R 2) (x1 : Int32) (v : gV) (h : f_X7_served x1 v = some (r0, v0)) : gx_G Γ Ω LX (gx_Q Γ Ω LX (some (.int r0)) v0) 2 v 0 [(0, .ref (Ω.1 0)), (1, .int x1)] [] := by
  rw [f_X7_served] at h
  refine gi_iload_n (n := 1) hX 1 dX7_served_0 rfl rfl rfl ?_
  refine gi_bipush (x := (10 : Int32)) (n := 3) hX rfl dX7_served_1 rfl ?_
  obtain ⟨r3, v1, e2, h⟩ := bi_some h
  refine gi_statI (st := []) (n := 6) hX hR ms_X7_isOutside ml_X7_70 (m_X7_isOutside Γ.2.1 Ω x1 (10 : Int32) v e2) rfl ⟨rfl, rfl⟩ rfl dX7_served_3 rfl rfl ?_
  refine gi_if_eq (tgt := 14) (n := 9) hX dX7_served_6 rfl rfl h (fun h => ?_) (fun h => ?_)
  · refine gi_aload_n (n := 15) hX 0 dX7_served_14 rfl rfl rfl ?_
    refine gi_getR (n := 18) hX 2 kc_X7 ly_X7 rfl rfl fl_X7_30 dX7_served_15 rfl ?_
    refine gi_iload_n (n := 19) hX 1 dX7_served_18 rfl rfl rfl ?_
    obtain ⟨r6, v4, e5, h⟩ := bi_some h
    refine gi_virtI (st := []) (n := 22) hX hR kc_X1 (ly_R (rfl : kR 16 = true)) mv_X1_servedOn ml_X7_137 (m_X1_servedOn Γ.2.1 Ω 16 (rfl : kR 16 = true) x1 v1 e5) rfl ⟨rfl, rfl⟩ rfl dX7_served_19 rfl rfl ?_
    exact gi_iret hX rfl dX7_served_22 h
  · refine gi_bipush (x := (-2 : Int32)) (n := 11) hX rfl dX7_served_9 rfl ?_
    refine gi_goto (n := 22) hX dX7_served_11 rfl ?_
    exact gi_iret hX rfl dX7_served_22 h
theorem m_X7_served (l : Launch) (Ω : gO) (x1 : Int32) (v : gV) {r0 : Int32} {v0 : gV} (h : f_X7_served x1 v = some (r0, v0)) : gx_M l Ω LX yX7_served cX7_served 2 (some .int) 2 [.ref (Ω.1 0), .int x1] v (some (.int r0)) v0 := gx_start (lv := [(0, .ref (Ω.1 0)), (1, .int x1)]) (by decide +kernel) (Nat.le_of_ble_eq_true rfl) rfl (fun Γ _ hR hX => t_X7_served hX hR x1 v h)
set_option maxRecDepth 20000 in
theorem t_X7_first {Γ : gC} {Ω : gO} {r0 : Int32} {v0 : gV} (hX : gx_X Γ Ω cX7_first RX7 2 (some .int)) (hR : Γ.2.2.2.1 = gx_R 0) (x1 : Int32) (v : gV) (h : f_X7_first x1 v = some (r0, v0)) : gx_G Γ Ω LX (gx_Q Γ Ω LX (some (.int r0)) v0) 2 v 0 [(0, .ref (Ω.1 0)), (1, .int x1)] [] := by
  rw [f_X7_first] at h
  refine gi_iload_n (n := 1) hX 1 dX7_first_0 rfl rfl rfl ?_
  rcases if_split h with ⟨c0, h⟩ | ⟨c0, h⟩
  · refine gi_tin (k0 := (0 : Int32)) (off := 27) (tgt := 28) hX dX7_first_1 c0 rfl ?_
    refine gi_aload_n (n := 29) hX 0 dX7_first_28 rfl rfl rfl ?_
    refine gi_getR (n := 32) hX 2 kc_X7 ly_X7 rfl rfl fl_X7_30 dX7_first_29 rfl ?_
    refine gi_getI (n := 35) hX 12 kc_X1 (ly_R (rfl : kR 16 = true)) rfl rfl fl_X7_140 dX7_first_32 rfl ?_
    exact gi_iret hX rfl dX7_first_35 h
  rcases if_split h with ⟨c1, h⟩ | ⟨c1, h⟩
  · refine gi_tin (k0 := (1 : Int32)) (off := 35) (tgt := 36) hX dX7_first_1 c1 rfl ?_
    refine gi_aload_n (n := 37) hX 0 dX7_first_36 rfl rfl rfl ?_
    refine gi_getR (n := 40) hX 2 kc_X7 ly_X7 rfl rfl fl_X7_30 dX7_first_37 rfl ?_
    refine gi_getI (n := 43) hX 13 kc_X1 (ly_R (rfl : kR 16 = true)) rfl rfl fl_X7_143 dX7_first_40 rfl ?_
    exact gi_iret hX rfl dX7_first_43 h
  rcases if_split h with ⟨c2, h⟩ | ⟨c2, h⟩
  · refine gi_tin (k0 := (2 : Int32)) (off := 43) (tgt := 44) hX dX7_first_1 c2 rfl ?_
    refine gi_aload_n (n := 45) hX 0 dX7_first_44 rfl rfl rfl ?_
    refine gi_getR (n := 48) hX 2 kc_X7 ly_X7 rfl rfl fl_X7_30 dX7_first_45 rfl ?_
    refine gi_getI (n := 51) hX 14 kc_X1 (ly_R (rfl : kR 16 = true)) rfl rfl fl_X7_146 dX7_first_48 rfl ?_
    exact gi_iret hX rfl dX7_first_51 h
  refine gi_tout (tgt := 52) hX dX7_first_1 (by have e0 := lv_neT (a := 0) c0 rfl; have e1 := lv_neT (a := 1) c1 rfl; have e2 := lv_neT (a := 2) c2 rfl; omega) rfl ?_
  refine gi_bipush (x := (-2 : Int32)) (n := 54) hX rfl dX7_first_52 rfl ?_
  exact gi_iret hX rfl dX7_first_54 h
theorem m_X7_first (l : Launch) (Ω : gO) (x1 : Int32) (v : gV) {r0 : Int32} {v0 : gV} (h : f_X7_first x1 v = some (r0, v0)) : gx_M l Ω LX yX7_first cX7_first 2 (some .int) 0 [.ref (Ω.1 0), .int x1] v (some (.int r0)) v0 := gx_start (lv := [(0, .ref (Ω.1 0)), (1, .int x1)]) (by decide +kernel) (Nat.le_of_ble_eq_true rfl) rfl (fun Γ _ hR hX => t_X7_first hX hR x1 v h)
set_option maxRecDepth 20000 in
theorem t_X7_still {Γ : gC} {Ω : gO} {r0 : Int32} {v0 : gV} (hX : gx_X Γ Ω cX7_still RX7 1 (some .int)) (hR : Γ.2.2.2.1 = gx_R 0)  (v : gV) (h : f_X7_still  v = some (r0, v0)) : gx_G Γ Ω LX (gx_Q Γ Ω LX (some (.int r0)) v0) 1 v 0 [(0, .ref (Ω.1 0))] [] := by
  rw [f_X7_still] at h
  refine gi_aload_n (n := 1) hX 0 dX7_still_0 rfl rfl rfl ?_
  refine gi_getR (n := 4) hX 2 kc_X7 ly_X7 rfl rfl fl_X7_30 dX7_still_1 rfl ?_
  refine gi_getI (n := 7) hX 15 kc_X1 (ly_R (rfl : kR 16 = true)) rfl rfl fl_X7_149 dX7_still_4 rfl ?_
  exact gi_iret hX rfl dX7_still_7 h
theorem m_X7_still (l : Launch) (Ω : gO) (v : gV) {r0 : Int32} {v0 : gV} (h : f_X7_still v = some (r0, v0)) : gx_M l Ω LX yX7_still cX7_still 1 (some .int) 0 [.ref (Ω.1 0)] v (some (.int r0)) v0 := gx_start (lv := [(0, .ref (Ω.1 0))]) (by decide +kernel) (Nat.le_of_ble_eq_true rfl) rfl (fun Γ _ hR hX => t_X7_still hX hR v h)
