set_option maxRecDepth 20000 in
theorem t_X8_in {Γ : gC} {Ω : gO} {r0 : Int32} {v0 : gV} (hX : gx_X Γ Ω cX8_in RX8 6 (some .boolean)) (hR : Γ.2.2.2.1 = gx_R 0) (x0 : Int64) (x2 : Int64) (x4 : Int64) (v : gV) (h : f_X8_in x0 x2 x4 v = some (r0, v0)) : gx_G Γ Ω LM (gx_Q Γ Ω LM (some (.int r0)) v0) 6 v 0 [(0, .long x0), (2, .long x2), (4, .long x4)] [] := by
  rw [f_X8_in] at h
  refine gi_lload_n (n := 1) hX 0 dX8_in_0 rfl rfl rfl ?_
  refine gi_lload_n (n := 2) hX 1 dX8_in_1 rfl rfl rfl ?_
  refine gi_lcmp (n := 3) hX dX8_in_2 rfl ?_
  refine gi_if_lt (tgt := 17) (n := 6) hX dX8_in_3 rfl rfl h (fun h => ?_) (fun h => ?_)
  · refine gi_iconst (x := (0 : Int32)) (n := 18) hX rfl dX8_in_17 rfl ?_
    exact gi_zret hX rfl dX8_in_18 h
  · refine gi_lload_n (n := 7) hX 0 dX8_in_6 rfl rfl rfl ?_
    refine gi_lload (n := 9) hX 2 dX8_in_7 rfl rfl ?_
    refine gi_lcmp (n := 10) hX dX8_in_9 rfl ?_
    refine gi_if_gt (tgt := 17) (n := 13) hX dX8_in_10 rfl rfl h (fun h => ?_) (fun h => ?_)
    · refine gi_iconst (x := (0 : Int32)) (n := 18) hX rfl dX8_in_17 rfl ?_
      exact gi_zret hX rfl dX8_in_18 h
    · refine gi_iconst (x := (1 : Int32)) (n := 14) hX rfl dX8_in_13 rfl ?_
      refine gi_goto (n := 18) hX dX8_in_14 rfl ?_
      exact gi_zret hX rfl dX8_in_18 h
theorem m_X8_in (l : Launch) (Ω : gO) (x0 : Int64) (x2 : Int64) (x4 : Int64) (v : gV) {r0 : Int32} {v0 : gV} (h : f_X8_in x0 x2 x4 v = some (r0, v0)) : gx_M l Ω LM yX8_in cX8_in 6 (some .boolean) 0 [.long x0, .long x2, .long x4] v (some (.int r0)) v0 := gx_start (lv := [(0, .long x0), (2, .long x2), (4, .long x4)]) (by decide +kernel) (Nat.le_of_ble_eq_true rfl) rfl (fun Γ _ hR hX => t_X8_in hX hR x0 x2 x4 v h)
set_option maxRecDepth 20000 in
theorem t_X8_letterOf {Γ : gC} {Ω : gO} {r0 : Int32} {v0 : gV} (hX : gx_X Γ Ω cX8_letterOf RX8 1 (some .int)) (hR : Γ.2.2.2.1 = gx_R 1) (x0 : Int32) (v : gV) (h : f_X8_letterOf x0 v = some (r0, v0)) : gx_G Γ Ω LM (gx_Q Γ Ω LM (some (.int r0)) v0) 1 v 0 [(0, .int x0)] [] := by
  rw [f_X8_letterOf] at h
  refine gi_iload_n (n := 1) hX 0 dX8_letterOf_0 rfl rfl rfl ?_
  refine gi_i2l (n := 2) hX dX8_letterOf_1 rfl ?_
  refine gi_ldc2 (n := 5) hX co_X8_109 dX8_letterOf_2 rfl ?_
  refine gi_ldc2 (n := 8) hX co_X8_111 dX8_letterOf_5 rfl ?_
  obtain ⟨r3, v1, e2, h⟩ := bi_some h
  refine gi_statI (st := []) (n := 11) hX hR ms_X8_in ml_X8_76 (m_X8_in Γ.2.1 Ω ((x0).toInt64) (97 : Int64) (104 : Int64) v e2) rfl ⟨rfl, rfl⟩ rfl dX8_letterOf_8 rfl rfl ?_
  refine gi_if_eq (tgt := 21) (n := 14) hX dX8_letterOf_11 rfl rfl h (fun h => ?_) (fun h => ?_)
  · refine gi_bipush (x := (-9 : Int32)) (n := 23) hX rfl dX8_letterOf_21 rfl ?_
    exact gi_iret hX rfl dX8_letterOf_23 h
  · refine gi_iload_n (n := 15) hX 0 dX8_letterOf_14 rfl rfl rfl ?_
    refine gi_bipush (x := (97 : Int32)) (n := 17) hX rfl dX8_letterOf_15 rfl ?_
    refine gi_isub (n := 18) hX dX8_letterOf_17 rfl ?_
    refine gi_goto (n := 23) hX dX8_letterOf_18 rfl ?_
    exact gi_iret hX rfl dX8_letterOf_23 h
theorem m_X8_letterOf (l : Launch) (Ω : gO) (x0 : Int32) (v : gV) {r0 : Int32} {v0 : gV} (h : f_X8_letterOf x0 v = some (r0, v0)) : gx_M l Ω LM yX8_letterOf cX8_letterOf 1 (some .int) 1 [.int x0] v (some (.int r0)) v0 := gx_start (lv := [(0, .int x0)]) (by decide +kernel) (Nat.le_of_ble_eq_true rfl) rfl (fun Γ _ hR hX => t_X8_letterOf hX hR x0 v h)
set_option maxRecDepth 20000 in
theorem t_X8_riderOf_J27 {Γ : gC} {Ω : gO} {r0 : Int32} {v0 : gV} (hX : gx_X Γ Ω cX8_riderOf RX8 2 (some .int)) (hR : Γ.2.2.2.1 = gx_R 2) (x1 : Int32) (v : gV) (h : f_X8_riderOf_J27 x1 v = some (r0, v0)) : gx_G Γ Ω LM (gx_Q Γ Ω LM (some (.int r0)) v0) 2 v 27 [(1, .int x1)] [] := by
  rw [f_X8_riderOf_J27] at h
  refine gi_iload_n (n := 28) hX 0 dX8_riderOf_27 rfl rfl rfl ?_
  obtain ⟨r3, v1, e2, h⟩ := bi_some h
  refine gi_statI (st := []) (n := 31) hX hR ms_X8_letterOf ml_X8_113 (m_X8_letterOf Γ.2.1 Ω x1 v e2) rfl ⟨rfl, rfl⟩ rfl dX8_riderOf_28 rfl rfl ?_
  refine gi_goto (n := 57) hX dX8_riderOf_31 rfl ?_
  exact gi_iret hX rfl dX8_riderOf_57 h
set_option maxRecDepth 20000 in
theorem t_X8_riderOf {Γ : gC} {Ω : gO} {r0 : Int32} {v0 : gV} (hX : gx_X Γ Ω cX8_riderOf RX8 2 (some .int)) (hR : Γ.2.2.2.1 = gx_R 2) (x0 : Int32) (x1 : Int32) (v : gV) (h : f_X8_riderOf x0 x1 v = some (r0, v0)) : gx_G Γ Ω LM (gx_Q Γ Ω LM (some (.int r0)) v0) 2 v 0 [(0, .int x0), (1, .int x1)] [] := by
  rw [f_X8_riderOf] at h
  refine gi_iload_n (n := 1) hX 0 dX8_riderOf_0 rfl rfl rfl ?_
  refine gi_iconst (x := (4 : Int32)) (n := 2) hX rfl dX8_riderOf_1 rfl ?_
  refine gi_icmp_ne (tgt := 18) (n := 5) hX dX8_riderOf_2 rfl rfl h (fun h => ?_) (fun h => ?_)
  · refine gi_iload_n (n := 19) hX 0 dX8_riderOf_18 rfl rfl rfl ?_
    refine gi_if_eq (tgt := 27) (n := 22) hX dX8_riderOf_19 rfl rfl h (fun h => ?_) (fun h => ?_)
    · refine gi_sub [1] rfl ?_
      exact t_X8_riderOf_J27 hX hR x1 v h
    · refine gi_iload_n (n := 23) hX 0 dX8_riderOf_22 rfl rfl rfl ?_
      refine gi_iconst (x := (3 : Int32)) (n := 24) hX rfl dX8_riderOf_23 rfl ?_
      refine gi_icmp_ne (tgt := 34) (n := 27) hX dX8_riderOf_24 rfl rfl h (fun h => ?_) (fun h => ?_)
      · refine gi_iload_n (n := 35) hX 1 dX8_riderOf_34 rfl rfl rfl ?_
        refine gi_i2l (n := 36) hX dX8_riderOf_35 rfl ?_
        refine gi_ldc2 (n := 39) hX co_X8_116 dX8_riderOf_36 rfl ?_
        refine gi_ldc2 (n := 42) hX co_X8_118 dX8_riderOf_39 rfl ?_
        obtain ⟨r3, v1, e2, h⟩ := bi_some h
        refine gi_statI (st := []) (n := 45) hX hR ms_X8_in ml_X8_76 (m_X8_in Γ.2.1 Ω ((x1).toInt64) (48 : Int64) (57 : Int64) v e2) rfl ⟨rfl, rfl⟩ rfl dX8_riderOf_42 rfl rfl ?_
        refine gi_if_eq (tgt := 55) (n := 48) hX dX8_riderOf_45 rfl rfl h (fun h => ?_) (fun h => ?_)
        · refine gi_bipush (x := (-9 : Int32)) (n := 57) hX rfl dX8_riderOf_55 rfl ?_
          exact gi_iret hX rfl dX8_riderOf_57 h
        · refine gi_iload_n (n := 49) hX 1 dX8_riderOf_48 rfl rfl rfl ?_
          refine gi_bipush (x := (48 : Int32)) (n := 51) hX rfl dX8_riderOf_49 rfl ?_
          refine gi_isub (n := 52) hX dX8_riderOf_51 rfl ?_
          refine gi_goto (n := 57) hX dX8_riderOf_52 rfl ?_
          exact gi_iret hX rfl dX8_riderOf_57 h
      · refine gi_sub [1] rfl ?_
        exact t_X8_riderOf_J27 hX hR x1 v h
  · refine gi_iload_n (n := 6) hX 1 dX8_riderOf_5 rfl rfl rfl ?_
    refine gi_bipush (x := (59 : Int32)) (n := 8) hX rfl dX8_riderOf_6 rfl ?_
    refine gi_icmp_ne (tgt := 15) (n := 11) hX dX8_riderOf_8 rfl rfl h (fun h => ?_) (fun h => ?_)
    · refine gi_bipush (x := (-9 : Int32)) (n := 17) hX rfl dX8_riderOf_15 rfl ?_
      exact gi_iret hX rfl dX8_riderOf_17 h
    · refine gi_iconst (x := (0 : Int32)) (n := 12) hX rfl dX8_riderOf_11 rfl ?_
      refine gi_goto (n := 17) hX dX8_riderOf_12 rfl ?_
      exact gi_iret hX rfl dX8_riderOf_17 h
theorem m_X8_riderOf (l : Launch) (Ω : gO) (x0 : Int32) (x1 : Int32) (v : gV) {r0 : Int32} {v0 : gV} (h : f_X8_riderOf x0 x1 v = some (r0, v0)) : gx_M l Ω LM yX8_riderOf cX8_riderOf 2 (some .int) 2 [.int x0, .int x1] v (some (.int r0)) v0 := gx_start (lv := [(0, .int x0), (1, .int x1)]) (by decide +kernel) (Nat.le_of_ble_eq_true rfl) rfl (fun Γ _ hR hX => t_X8_riderOf hX hR x0 x1 v h)
set_option maxRecDepth 20000 in
theorem t_X8_readsRiders_J83 {Γ : gC} {Ω : gO} {r0 : Int32} {v0 : gV} {o : (gV × Int32) ⊕ ((gV) ⊕ (Int32 × gV))} (hX : gx_X Γ Ω cX8_readsRiders RX8 5 (some .int)) (hR : Γ.2.2.2.1 = gx_R 3) (x1 : Int32) (x2 : Int32) (s0 : Int32) (s1 : Int32) (v : gV) (h : f_X8_readsRiders_J83 x1 x2 s0 s1 v = some o) (hc : ∀ c0 c1, o = .inl (c0, c1) → gx_G Γ Ω LM (gx_Q Γ Ω LM (some (.int r0)) v0) 5 c0 14 [(0, .ref (Ω.1 0)), (1, .int x1), (2, .int c1)] []) (hz : ∀ z0, o = .inr (.inl z0) → gx_G Γ Ω LM (gx_Q Γ Ω LM (some (.int r0)) v0) 5 z0 93 [(0, .ref (Ω.1 0)), (1, .int x1)] []) (hr : ∀ q0 q1, o = .inr (.inr (q0, q1)) → some (q0, q1) = some (r0, v0)) : gx_G Γ Ω LM (gx_Q Γ Ω LM (some (.int r0)) v0) 5 v 83 [(0, .ref (Ω.1 0)), (1, .int x1), (2, .int x2)] [.int s0, .int s1, .ref (Ω.1 0)] := by
  rw [f_X8_readsRiders_J83] at h
  refine gi_iadd (n := 84) hX dX8_readsRiders_83 rfl ?_
  refine gi_putI (n := 87) hX 7 kc_X8 ly_X8 rfl rfl fl_X8_120 rfl rfl dX8_readsRiders_84 rfl h (fun v1 h => ?_)
  refine gi_iinc (z := (1 : Int32)) (n := 90) hX 2 [(2, .int (x2 + (1 : Int32))), (0, .ref (Ω.1 0)), (1, .int x1)] dX8_readsRiders_87 rfl rfl rfl rfl rfl rfl ?_
  refine gi_goto (n := 14) hX dX8_readsRiders_90 rfl ?_
  refine gi_sub [1, 2, 0] rfl ?_
  exact hc _ _ (Option.some.inj h).symm
set_option maxRecDepth 20000 in
theorem t_X8_readsRiders_J68 {Γ : gC} {Ω : gO} {r0 : Int32} {v0 : gV} {o : (gV × Int32) ⊕ ((gV) ⊕ (Int32 × gV))} (hX : gx_X Γ Ω cX8_readsRiders RX8 5 (some .int)) (hR : Γ.2.2.2.1 = gx_R 3) (x1 : Int32) (x2 : Int32) (x3 : Int32) (v : gV) (h : f_X8_readsRiders_J68 x1 x2 x3 v = some o) (hc : ∀ c0 c1, o = .inl (c0, c1) → gx_G Γ Ω LM (gx_Q Γ Ω LM (some (.int r0)) v0) 5 c0 14 [(0, .ref (Ω.1 0)), (1, .int x1), (2, .int c1)] []) (hz : ∀ z0, o = .inr (.inl z0) → gx_G Γ Ω LM (gx_Q Γ Ω LM (some (.int r0)) v0) 5 z0 93 [(0, .ref (Ω.1 0)), (1, .int x1)] []) (hr : ∀ q0 q1, o = .inr (.inr (q0, q1)) → some (q0, q1) = some (r0, v0)) : gx_G Γ Ω LM (gx_Q Γ Ω LM (some (.int r0)) v0) 5 v 68 [(0, .ref (Ω.1 0)), (1, .int x1), (2, .int x2), (3, .int x3)] [] := by
  rw [f_X8_readsRiders_J68] at h
  refine gi_aload_n (n := 69) hX 0 dX8_readsRiders_68 rfl rfl rfl ?_
  refine gi_dup (n := 70) hX rfl dX8_readsRiders_69 rfl ?_
  refine gi_getI (n := 73) hX 7 kc_X8 ly_X8 rfl rfl fl_X8_120 dX8_readsRiders_70 rfl ?_
  refine gi_iload_n (n := 74) hX 3 dX8_readsRiders_73 rfl rfl rfl ?_
  refine gi_iconst (x := (3 : Int32)) (n := 75) hX rfl dX8_readsRiders_74 rfl ?_
  refine gi_icmp_ne (tgt := 82) (n := 78) hX dX8_readsRiders_75 rfl rfl h (fun h => ?_) (fun h => ?_)
  · refine gi_iconst (x := (0 : Int32)) (n := 83) hX rfl dX8_readsRiders_82 rfl ?_
    refine gi_sub [0, 1, 2] rfl ?_
    exact t_X8_readsRiders_J83 hX hR x1 x2 (0 : Int32) (v.1 0 7) v h hc hz hr
  · refine gi_iconst (x := (1 : Int32)) (n := 79) hX rfl dX8_readsRiders_78 rfl ?_
    refine gi_goto (n := 83) hX dX8_readsRiders_79 rfl ?_
    refine gi_sub [0, 1, 2] rfl ?_
    exact t_X8_readsRiders_J83 hX hR x1 x2 (1 : Int32) (v.1 0 7) v h hc hz hr
set_option maxRecDepth 20000 in
theorem t_X8_readsRiders_B14 {Γ : gC} {Ω : gO} {r0 : Int32} {v0 : gV} {o : (gV × Int32) ⊕ ((gV) ⊕ (Int32 × gV))} (hX : gx_X Γ Ω cX8_readsRiders RX8 5 (some .int)) (hR : Γ.2.2.2.1 = gx_R 3) (x1 : Int32) (x2 : Int32) (v : gV) (h : f_X8_readsRiders_B14 x1 x2 v = some o) (hc : ∀ c0 c1, o = .inl (c0, c1) → gx_G Γ Ω LM (gx_Q Γ Ω LM (some (.int r0)) v0) 5 c0 14 [(0, .ref (Ω.1 0)), (1, .int x1), (2, .int c1)] []) (hz : ∀ z0, o = .inr (.inl z0) → gx_G Γ Ω LM (gx_Q Γ Ω LM (some (.int r0)) v0) 5 z0 93 [(0, .ref (Ω.1 0)), (1, .int x1)] []) (hr : ∀ q0 q1, o = .inr (.inr (q0, q1)) → some (q0, q1) = some (r0, v0)) : gx_G Γ Ω LM (gx_Q Γ Ω LM (some (.int r0)) v0) 5 v 14 [(0, .ref (Ω.1 0)), (1, .int x1), (2, .int x2)] [] := by
  rw [f_X8_readsRiders_B14] at h
  refine gi_iload_n (n := 15) hX 2 dX8_readsRiders_14 rfl rfl rfl ?_
  refine gi_iload_n (n := 16) hX 1 dX8_readsRiders_15 rfl rfl rfl ?_
  refine gi_icmp_ge (tgt := 93) (n := 19) hX dX8_readsRiders_16 rfl rfl h (fun h => ?_) (fun h => ?_)
  · refine gi_sub [0, 1] rfl ?_
    exact hz _ (Option.some.inj h).symm
  · refine gi_iload_n (n := 20) hX 2 dX8_readsRiders_19 rfl rfl rfl ?_
    refine gi_iconst (x := (5 : Int32)) (n := 21) hX rfl dX8_readsRiders_20 rfl ?_
    refine gi_irem (n := 22) hX (by decide) dX8_readsRiders_21 rfl ?_
    refine gi_topI h (fun u1 h => ?_)
    refine gi_istore_n (n := 23) hX [(3, .int u1), (0, .ref (Ω.1 0)), (1, .int x1), (2, .int x2)] dX8_readsRiders_22 rfl rfl rfl rfl ?_
    refine gi_iload_n (n := 24) hX 0 dX8_readsRiders_23 rfl rfl rfl ?_
    refine gi_aload_n (n := 25) hX 1 dX8_readsRiders_24 rfl rfl rfl ?_
    refine gi_getR (n := 28) hX 5 kc_X8 ly_X8 rfl rfl fl_X8_22 dX8_readsRiders_25 rfl ?_
    refine gi_iload_n (n := 29) hX 3 dX8_readsRiders_28 rfl rfl rfl ?_
    refine gi_iald (n := 30) hX lm_5 dX8_readsRiders_29 rfl h (fun h => ?_)
    obtain ⟨r4, v2, e3, h⟩ := bi_some h
    refine gi_statI (st := []) (n := 33) hX hR ms_X8_riderOf ml_X8_123 (m_X8_riderOf Γ.2.1 Ω u1 (v.1 5 (x2).toNatClampNeg) v e3) rfl ⟨rfl, rfl⟩ rfl dX8_readsRiders_30 rfl rfl ?_
    refine gi_istore (n := 35) hX [(4, .int r4), (3, .int u1), (0, .ref (Ω.1 0)), (1, .int x1), (2, .int x2)] dX8_readsRiders_33 rfl rfl rfl ?_
    refine gi_iload (n := 37) hX 0 dX8_readsRiders_35 rfl rfl ?_
    refine gi_bipush (x := (-9 : Int32)) (n := 39) hX rfl dX8_readsRiders_37 rfl ?_
    refine gi_icmp_ne (tgt := 49) (n := 42) hX dX8_readsRiders_39 rfl rfl h (fun h => ?_) (fun h => ?_)
    · refine gi_iload_n (n := 50) hX 1 dX8_readsRiders_49 rfl rfl rfl ?_
      refine gi_iconst (x := (4 : Int32)) (n := 51) hX rfl dX8_readsRiders_50 rfl ?_
      refine gi_icmp_ge (tgt := 68) (n := 54) hX dX8_readsRiders_51 rfl rfl h (fun h => ?_) (fun h => ?_)
      · refine gi_sub [2, 3, 4, 1] rfl ?_
        exact t_X8_readsRiders_J68 hX hR x1 x2 u1 v2 h hc hz hr
      · refine gi_aload_n (n := 55) hX 2 dX8_readsRiders_54 rfl rfl rfl ?_
        refine gi_getR (n := 58) hX 8 kc_X8 ly_X8 rfl rfl fl_X8_28 dX8_readsRiders_55 rfl ?_
        refine gi_iconst (x := (4 : Int32)) (n := 59) hX rfl dX8_readsRiders_58 rfl ?_
        refine gi_iload_n (n := 60) hX 4 dX8_readsRiders_59 rfl rfl rfl ?_
        refine gi_iconst (x := (5 : Int32)) (n := 61) hX rfl dX8_readsRiders_60 rfl ?_
        refine gi_idiv (n := 62) hX (by decide) dX8_readsRiders_61 rfl ?_
        refine gi_imul (n := 63) hX dX8_readsRiders_62 rfl ?_
        refine gi_iload_n (n := 64) hX 1 dX8_readsRiders_63 rfl rfl rfl ?_
        refine gi_iadd (n := 65) hX dX8_readsRiders_64 rfl ?_
        refine gi_iload (n := 67) hX 0 dX8_readsRiders_65 rfl rfl ?_
        refine gi_iast (n := 68) hX lm_7 dX8_readsRiders_67 rfl h (fun v5 h => ?_)
        refine gi_sub [2, 3, 4, 1] rfl ?_
        exact t_X8_readsRiders_J68 hX hR x1 x2 u1 v5 h hc hz hr
    · refine gi_aload_n (n := 43) hX 2 dX8_readsRiders_42 rfl rfl rfl ?_
      refine gi_iconst (x := (0 : Int32)) (n := 44) hX rfl dX8_readsRiders_43 rfl ?_
      refine gi_putI (n := 47) hX 7 kc_X8 ly_X8 rfl rfl fl_X8_120 rfl rfl dX8_readsRiders_44 rfl h (fun v6 h => ?_)
      refine gi_iload_n (n := 48) hX 4 dX8_readsRiders_47 rfl rfl rfl ?_
      exact gi_iret hX rfl dX8_readsRiders_48 (hr _ _ (Option.some.inj h).symm)
set_option maxRecDepth 20000 in
theorem t_X8_readsRiders {Γ : gC} {Ω : gO} {r0 : Int32} {v0 : gV} (hX : gx_X Γ Ω cX8_readsRiders RX8 5 (some .int)) (hR : Γ.2.2.2.1 = gx_R 3)  (v : gV) (h : f_X8_readsRiders  v = some (r0, v0)) : gx_G Γ Ω LM (gx_Q Γ Ω LM (some (.int r0)) v0) 5 v 0 [(0, .ref (Ω.1 0))] [] := by
  rw [f_X8_readsRiders] at h
  refine gi_aload_n (n := 1) hX 0 dX8_readsRiders_0 rfl rfl rfl ?_
  refine gi_iconst (x := (0 : Int32)) (n := 2) hX rfl dX8_readsRiders_1 rfl ?_
  refine gi_putI (n := 5) hX 7 kc_X8 ly_X8 rfl rfl fl_X8_120 rfl rfl dX8_readsRiders_2 rfl h (fun v1 h => ?_)
  refine gi_aload_n (n := 6) hX 0 dX8_readsRiders_5 rfl rfl rfl ?_
  refine gi_getR (n := 9) hX 6 kc_X8 ly_X8 rfl rfl fl_X8_25 dX8_readsRiders_6 rfl ?_
  refine gi_iconst (x := (0 : Int32)) (n := 10) hX rfl dX8_readsRiders_9 rfl ?_
  refine gi_iald (n := 11) hX lm_6 dX8_readsRiders_10 rfl h (fun h => ?_)
  refine gi_topI h (fun u2 h => ?_)
  refine gi_istore_n (n := 12) hX [(1, .int u2), (0, .ref (Ω.1 0))] dX8_readsRiders_11 rfl rfl rfl rfl ?_
  refine gi_iconst (x := (0 : Int32)) (n := 13) hX rfl dX8_readsRiders_12 rfl ?_
  refine gi_istore_n (n := 14) hX [(2, .int (0 : Int32)), (1, .int u2), (0, .ref (Ω.1 0))] dX8_readsRiders_13 rfl rfl rfl rfl ?_
  refine gi_sub [2, 1, 0] rfl ?_
  have key := lp_ind (f := (fun a : gV × Int32 => f_X8_readsRiders_B14 u2 a.2 a.1)) (P := (fun a : gV × Int32 => gx_G Γ Ω LM (gx_Q Γ Ω LM (some (.int r0)) v0) 5 a.1 14 [(0, .ref (Ω.1 0)), (1, .int u2), (2, .int a.2)] [])) (Z := (fun w : (gV) ⊕ (Int32 × gV) => Sum.elim (fun z : gV => gx_G Γ Ω LM (gx_Q Γ Ω LM (some (.int r0)) v0) 5 z 93 [(0, .ref (Ω.1 0)), (1, .int u2)] []) (fun q => some q = some (r0, v0)) w)) (fun a o h hc hz => t_X8_readsRiders_B14 hX hR u2 a.2 a.1 h (fun c0 c1 e => hc (c0, c1) e) (fun z0 e => hz (.inl z0) e) (fun q0 q1 e => hz (.inr (q0, q1)) e)) fu
  rcases bs1_some h with ⟨v3, e0, h⟩ | ⟨q, e0, h⟩
  · refine key (v1, (0 : Int32)) _ e0 ?_
    show gx_G Γ Ω LM (gx_Q Γ Ω LM (some (.int r0)) v0) 5 v3 93 [(0, .ref (Ω.1 0)), (1, .int u2)] []
    refine gi_iload_n (n := 94) hX 1 dX8_readsRiders_93 rfl rfl rfl ?_
    refine gi_if_le (tgt := 111) (n := 97) hX dX8_readsRiders_94 rfl rfl h (fun h => ?_) (fun h => ?_)
    · refine gi_iconst (x := (-1 : Int32)) (n := 112) hX rfl dX8_readsRiders_111 rfl ?_
      exact gi_iret hX rfl dX8_readsRiders_112 h
    · refine gi_iload_n (n := 98) hX 1 dX8_readsRiders_97 rfl rfl rfl ?_
      refine gi_iconst (x := (5 : Int32)) (n := 99) hX rfl dX8_readsRiders_98 rfl ?_
      refine gi_irem (n := 100) hX (by decide) dX8_readsRiders_99 rfl ?_
      refine gi_iconst (x := (4 : Int32)) (n := 101) hX rfl dX8_readsRiders_100 rfl ?_
      refine gi_icmp_eq (tgt := 111) (n := 104) hX dX8_readsRiders_101 rfl rfl h (fun h => ?_) (fun h => ?_)
      · refine gi_iconst (x := (-1 : Int32)) (n := 112) hX rfl dX8_readsRiders_111 rfl ?_
        exact gi_iret hX rfl dX8_readsRiders_112 h
      · refine gi_aload_n (n := 105) hX 0 dX8_readsRiders_104 rfl rfl rfl ?_
        refine gi_iconst (x := (0 : Int32)) (n := 106) hX rfl dX8_readsRiders_105 rfl ?_
        refine gi_putI (n := 109) hX 7 kc_X8 ly_X8 rfl rfl fl_X8_120 rfl rfl dX8_readsRiders_106 rfl h (fun v4 h => ?_)
        refine gi_iload_n (n := 110) hX 1 dX8_readsRiders_109 rfl rfl rfl ?_
        exact gi_iret hX rfl dX8_readsRiders_110 h
  · refine key (v1, (0 : Int32)) _ e0 ?_
    show some q = some (r0, v0)
    exact h
theorem m_X8_readsRiders (l : Launch) (Ω : gO) (v : gV) {r0 : Int32} {v0 : gV} (h : f_X8_readsRiders v = some (r0, v0)) : gx_M l Ω LM yX8_readsRiders cX8_readsRiders 5 (some .int) 3 [.ref (Ω.1 0)] v (some (.int r0)) v0 := gx_start (lv := [(0, .ref (Ω.1 0))]) (by decide +kernel) (Nat.le_of_ble_eq_true rfl) rfl (fun Γ _ hR hX => t_X8_readsRiders hX hR v h)
set_option maxRecDepth 20000 in
theorem t_X8_readsBag_J55 {Γ : gC} {Ω : gO} {r0 : Int32} {v0 : gV} {o : (gV × Int32) ⊕ ((gV) ⊕ (Int32 × gV))} (hX : gx_X Γ Ω cX8_readsBag RX8 4 (some .int)) (hR : Γ.2.2.2.1 = gx_R 2) (x1 : Int32) (s0 : Int32) (v : gV) (h : f_X8_readsBag_J55 x1 s0 v = some o) (hc : ∀ c0 c1, o = .inl (c0, c1) → gx_G Γ Ω LM (gx_Q Γ Ω LM (some (.int r0)) v0) 4 c0 7 [(0, .ref (Ω.1 0)), (1, .int c1)] []) (hz : ∀ z0, o = .inr (.inl z0) → gx_G Γ Ω LM (gx_Q Γ Ω LM (some (.int r0)) v0) 4 z0 92 [] []) (hr : ∀ q0 q1, o = .inr (.inr (q0, q1)) → some (q0, q1) = some (r0, v0)) : gx_G Γ Ω LM (gx_Q Γ Ω LM (some (.int r0)) v0) 4 v 55 [(0, .ref (Ω.1 0)), (1, .int x1)] [.int s0] := by
  rw [f_X8_readsBag_J55] at h
  refine gi_istore_n (n := 56) hX [(3, .int s0), (0, .ref (Ω.1 0)), (1, .int x1)] dX8_readsBag_55 rfl rfl rfl rfl ?_
  refine gi_iload_n (n := 57) hX 0 dX8_readsBag_56 rfl rfl rfl ?_
  refine gi_bipush (x := (-9 : Int32)) (n := 59) hX rfl dX8_readsBag_57 rfl ?_
  refine gi_icmp_ne (tgt := 69) (n := 62) hX dX8_readsBag_59 rfl rfl h (fun h => ?_) (fun h => ?_)
  · refine gi_aload_n (n := 70) hX 1 dX8_readsBag_69 rfl rfl rfl ?_
    refine gi_getR (n := 73) hX 10 kc_X8 ly_X8 rfl rfl fl_X8_31 dX8_readsBag_70 rfl ?_
    refine gi_iload_n (n := 74) hX 2 dX8_readsBag_73 rfl rfl rfl ?_
    refine gi_iload_n (n := 75) hX 0 dX8_readsBag_74 rfl rfl rfl ?_
    refine gi_iast (n := 76) hX lm_8 dX8_readsBag_75 rfl h (fun v1 h => ?_)
    refine gi_aload_n (n := 77) hX 1 dX8_readsBag_76 rfl rfl rfl ?_
    refine gi_dup (n := 78) hX rfl dX8_readsBag_77 rfl ?_
    refine gi_getI (n := 81) hX 9 kc_X8 ly_X8 rfl rfl fl_X8_126 dX8_readsBag_78 rfl ?_
    refine gi_iconst (x := (1 : Int32)) (n := 82) hX rfl dX8_readsBag_81 rfl ?_
    refine gi_iadd (n := 83) hX dX8_readsBag_82 rfl ?_
    refine gi_putI (n := 86) hX 9 kc_X8 ly_X8 rfl rfl fl_X8_126 rfl rfl dX8_readsBag_83 rfl h (fun v2 h => ?_)
    refine gi_iinc (z := (1 : Int32)) (n := 89) hX 2 [(1, .int (x1 + (1 : Int32))), (3, .int s0), (0, .ref (Ω.1 0))] dX8_readsBag_86 rfl rfl rfl rfl rfl rfl ?_
    refine gi_goto (n := 7) hX dX8_readsBag_89 rfl ?_
    refine gi_sub [2, 0] rfl ?_
    exact hc _ _ (Option.some.inj h).symm
  · refine gi_aload_n (n := 63) hX 1 dX8_readsBag_62 rfl rfl rfl ?_
    refine gi_iconst (x := (0 : Int32)) (n := 64) hX rfl dX8_readsBag_63 rfl ?_
    refine gi_putI (n := 67) hX 9 kc_X8 ly_X8 rfl rfl fl_X8_126 rfl rfl dX8_readsBag_64 rfl h (fun v3 h => ?_)
    refine gi_iload_n (n := 68) hX 2 dX8_readsBag_67 rfl rfl rfl ?_
    exact gi_iret hX rfl dX8_readsBag_68 (hr _ _ (Option.some.inj h).symm)
set_option maxRecDepth 20000 in
theorem t_X8_readsBag_B7 {Γ : gC} {Ω : gO} {r0 : Int32} {v0 : gV} {o : (gV × Int32) ⊕ ((gV) ⊕ (Int32 × gV))} (hX : gx_X Γ Ω cX8_readsBag RX8 4 (some .int)) (hR : Γ.2.2.2.1 = gx_R 2) (x1 : Int32) (v : gV) (h : f_X8_readsBag_B7 x1 v = some o) (hc : ∀ c0 c1, o = .inl (c0, c1) → gx_G Γ Ω LM (gx_Q Γ Ω LM (some (.int r0)) v0) 4 c0 7 [(0, .ref (Ω.1 0)), (1, .int c1)] []) (hz : ∀ z0, o = .inr (.inl z0) → gx_G Γ Ω LM (gx_Q Γ Ω LM (some (.int r0)) v0) 4 z0 92 [] []) (hr : ∀ q0 q1, o = .inr (.inr (q0, q1)) → some (q0, q1) = some (r0, v0)) : gx_G Γ Ω LM (gx_Q Γ Ω LM (some (.int r0)) v0) 4 v 7 [(0, .ref (Ω.1 0)), (1, .int x1)] [] := by
  rw [f_X8_readsBag_B7] at h
  refine gi_iload_n (n := 8) hX 1 dX8_readsBag_7 rfl rfl rfl ?_
  refine gi_aload_n (n := 9) hX 0 dX8_readsBag_8 rfl rfl rfl ?_
  refine gi_getR (n := 12) hX 6 kc_X8 ly_X8 rfl rfl fl_X8_25 dX8_readsBag_9 rfl ?_
  refine gi_iconst (x := (1 : Int32)) (n := 13) hX rfl dX8_readsBag_12 rfl ?_
  refine gi_iald (n := 14) hX lm_6 dX8_readsBag_13 rfl h (fun h => ?_)
  refine gi_icmp_ge (tgt := 92) (n := 17) hX dX8_readsBag_14 rfl rfl h (fun h => ?_) (fun h => ?_)
  · refine gi_sub [] rfl ?_
    exact hz _ (Option.some.inj h).symm
  · refine gi_aload_n (n := 18) hX 0 dX8_readsBag_17 rfl rfl rfl ?_
    refine gi_getR (n := 21) hX 5 kc_X8 ly_X8 rfl rfl fl_X8_22 dX8_readsBag_18 rfl ?_
    refine gi_bipush (x := (40 : Int32)) (n := 23) hX rfl dX8_readsBag_21 rfl ?_
    refine gi_iload_n (n := 24) hX 1 dX8_readsBag_23 rfl rfl rfl ?_
    refine gi_iadd (n := 25) hX dX8_readsBag_24 rfl ?_
    refine gi_iald (n := 26) hX lm_5 dX8_readsBag_25 rfl h (fun h => ?_)
    refine gi_topI h (fun u1 h => ?_)
    refine gi_istore_n (n := 27) hX [(2, .int u1), (0, .ref (Ω.1 0)), (1, .int x1)] dX8_readsBag_26 rfl rfl rfl rfl ?_
    refine gi_iload_n (n := 28) hX 0 dX8_readsBag_27 rfl rfl rfl ?_
    refine gi_i2l (n := 29) hX dX8_readsBag_28 rfl ?_
    refine gi_ldc2 (n := 32) hX co_X8_129 dX8_readsBag_29 rfl ?_
    refine gi_ldc2 (n := 35) hX co_X8_131 dX8_readsBag_32 rfl ?_
    obtain ⟨r4, v2, e3, h⟩ := bi_some h
    refine gi_statI (st := []) (n := 38) hX hR ms_X8_in ml_X8_76 (m_X8_in Γ.2.1 Ω ((u1).toInt64) (65 : Int64) (72 : Int64) v e3) rfl ⟨rfl, rfl⟩ rfl dX8_readsBag_35 rfl rfl ?_
    refine gi_if_eq (tgt := 51) (n := 41) hX dX8_readsBag_38 rfl rfl h (fun h => ?_) (fun h => ?_)
    · refine gi_iload_n (n := 52) hX 0 dX8_readsBag_51 rfl rfl rfl ?_
      obtain ⟨r7, v5, e6, h⟩ := bi_some h
      refine gi_statI (st := []) (n := 55) hX hR ms_X8_letterOf ml_X8_113 (m_X8_letterOf Γ.2.1 Ω u1 v2 e6) rfl ⟨rfl, rfl⟩ rfl dX8_readsBag_52 rfl rfl ?_
      refine gi_sub [1, 2] rfl ?_
      exact t_X8_readsBag_J55 hX hR x1 r7 v5 h hc hz hr
    · refine gi_iload_n (n := 42) hX 0 dX8_readsBag_41 rfl rfl rfl ?_
      refine gi_bipush (x := (65 : Int32)) (n := 44) hX rfl dX8_readsBag_42 rfl ?_
      refine gi_isub (n := 45) hX dX8_readsBag_44 rfl ?_
      refine gi_bipush (x := (8 : Int32)) (n := 47) hX rfl dX8_readsBag_45 rfl ?_
      refine gi_iadd (n := 48) hX dX8_readsBag_47 rfl ?_
      refine gi_goto (n := 55) hX dX8_readsBag_48 rfl ?_
      refine gi_sub [1, 2] rfl ?_
      exact t_X8_readsBag_J55 hX hR x1 ((u1 - (65 : Int32)) + (8 : Int32)) v2 h hc hz hr
set_option maxRecDepth 20000 in
theorem t_X8_readsBag {Γ : gC} {Ω : gO} {r0 : Int32} {v0 : gV} (hX : gx_X Γ Ω cX8_readsBag RX8 4 (some .int)) (hR : Γ.2.2.2.1 = gx_R 2)  (v : gV) (h : f_X8_readsBag  v = some (r0, v0)) : gx_G Γ Ω LM (gx_Q Γ Ω LM (some (.int r0)) v0) 4 v 0 [(0, .ref (Ω.1 0))] [] := by
  rw [f_X8_readsBag] at h
  refine gi_aload_n (n := 1) hX 0 dX8_readsBag_0 rfl rfl rfl ?_
  refine gi_iconst (x := (0 : Int32)) (n := 2) hX rfl dX8_readsBag_1 rfl ?_
  refine gi_putI (n := 5) hX 9 kc_X8 ly_X8 rfl rfl fl_X8_126 rfl rfl dX8_readsBag_2 rfl h (fun v1 h => ?_)
  refine gi_iconst (x := (0 : Int32)) (n := 6) hX rfl dX8_readsBag_5 rfl ?_
  refine gi_istore_n (n := 7) hX [(1, .int (0 : Int32)), (0, .ref (Ω.1 0))] dX8_readsBag_6 rfl rfl rfl rfl ?_
  refine gi_sub [1, 0] rfl ?_
  have key := lp_ind (f := (fun a : gV × Int32 => f_X8_readsBag_B7 a.2 a.1)) (P := (fun a : gV × Int32 => gx_G Γ Ω LM (gx_Q Γ Ω LM (some (.int r0)) v0) 4 a.1 7 [(0, .ref (Ω.1 0)), (1, .int a.2)] [])) (Z := (fun w : (gV) ⊕ (Int32 × gV) => Sum.elim (fun z : gV => gx_G Γ Ω LM (gx_Q Γ Ω LM (some (.int r0)) v0) 4 z 92 [] []) (fun q => some q = some (r0, v0)) w)) (fun a o h hc hz => t_X8_readsBag_B7 hX hR a.2 a.1 h (fun c0 c1 e => hc (c0, c1) e) (fun z0 e => hz (.inl z0) e) (fun q0 q1 e => hz (.inr (q0, q1)) e)) fu
  rcases bs1_some h with ⟨v2, e0, h⟩ | ⟨q, e0, h⟩
  · refine key (v1, (0 : Int32)) _ e0 ?_
    show gx_G Γ Ω LM (gx_Q Γ Ω LM (some (.int r0)) v0) 4 v2 92 [] []
    refine gi_iconst (x := (-1 : Int32)) (n := 93) hX rfl dX8_readsBag_92 rfl ?_
    exact gi_iret hX rfl dX8_readsBag_93 h
  · refine key (v1, (0 : Int32)) _ e0 ?_
    show some q = some (r0, v0)
    exact h
theorem m_X8_readsBag (l : Launch) (Ω : gO) (v : gV) {r0 : Int32} {v0 : gV} (h : f_X8_readsBag v = some (r0, v0)) : gx_M l Ω LM yX8_readsBag cX8_readsBag 4 (some .int) 2 [.ref (Ω.1 0)] v (some (.int r0)) v0 := gx_start (lv := [(0, .ref (Ω.1 0))]) (by decide +kernel) (Nat.le_of_ble_eq_true rfl) rfl (fun Γ _ hR hX => t_X8_readsBag hX hR v h)
set_option maxRecDepth 20000 in
theorem t_X8_puts {Γ : gC} {Ω : gO} {v0 : gV} (hX : gx_X Γ Ω cX8_puts RX8 2 (none)) (hR : Γ.2.2.2.1 = gx_R 0) (x1 : Int32) (v : gV) (h : f_X8_puts x1 v = some v0) : gx_G Γ Ω LM (gx_Q Γ Ω LM none v0) 2 v 0 [(0, .ref (Ω.1 0)), (1, .int x1)] [] := by
  rw [f_X8_puts] at h
  refine gi_aload_n (n := 1) hX 0 dX8_puts_0 rfl rfl rfl ?_
  refine gi_getR (n := 4) hX 18 kc_X8 ly_X8 rfl rfl fl_X8_46 dX8_puts_1 rfl ?_
  refine gi_aload_n (n := 5) hX 0 dX8_puts_4 rfl rfl rfl ?_
  refine gi_getI (n := 8) hX 17 kc_X8 ly_X8 rfl rfl fl_X8_147 dX8_puts_5 rfl ?_
  refine gi_iload_n (n := 9) hX 1 dX8_puts_8 rfl rfl rfl ?_
  refine gi_iast (n := 10) hX lm_13 dX8_puts_9 rfl h (fun v1 h => ?_)
  refine gi_aload_n (n := 11) hX 0 dX8_puts_10 rfl rfl rfl ?_
  refine gi_dup (n := 12) hX rfl dX8_puts_11 rfl ?_
  refine gi_getI (n := 15) hX 17 kc_X8 ly_X8 rfl rfl fl_X8_147 dX8_puts_12 rfl ?_
  refine gi_iconst (x := (1 : Int32)) (n := 16) hX rfl dX8_puts_15 rfl ?_
  refine gi_iadd (n := 17) hX dX8_puts_16 rfl ?_
  refine gi_putI (n := 20) hX 17 kc_X8 ly_X8 rfl rfl fl_X8_147 rfl rfl dX8_puts_17 rfl h (fun v2 h => ?_)
  exact gi_vret hX rfl dX8_puts_20 h
theorem m_X8_puts (l : Launch) (Ω : gO) (x1 : Int32) (v : gV) {v0 : gV} (h : f_X8_puts x1 v = some v0) : gx_M l Ω LM yX8_puts cX8_puts 2 (none) 0 [.ref (Ω.1 0), .int x1] v none v0 := gx_start (lv := [(0, .ref (Ω.1 0)), (1, .int x1)]) (by decide +kernel) (Nat.le_of_ble_eq_true rfl) rfl (fun Γ _ hR hX => t_X8_puts hX hR x1 v h)
set_option maxRecDepth 20000 in
theorem t_X8_begins_B23 {Γ : gC} {Ω : gO} {v0 : gV} {o : (gV × Int32) ⊕ (gV)} (hX : gx_X Γ Ω cX8_begins RX8 2 (none)) (hR : Γ.2.2.2.1 = gx_R 1) (x1 : Int32) (v : gV) (h : f_X8_begins_B23 x1 v = some o) (hc : ∀ c0 c1, o = .inl (c0, c1) → gx_G Γ Ω LM (gx_Q Γ Ω LM none v0) 2 c0 23 [(0, .ref (Ω.1 0)), (1, .int c1)] []) (hz : ∀ z0, o = .inr z0 → gx_G Γ Ω LM (gx_Q Γ Ω LM none v0) 2 z0 47 [(0, .ref (Ω.1 0))] []) : gx_G Γ Ω LM (gx_Q Γ Ω LM none v0) 2 v 23 [(0, .ref (Ω.1 0)), (1, .int x1)] [] := by
  rw [f_X8_begins_B23] at h
  refine gi_iload_n (n := 24) hX 1 dX8_begins_23 rfl rfl rfl ?_
  refine gi_aload_n (n := 25) hX 0 dX8_begins_24 rfl rfl rfl ?_
  refine gi_getI (n := 28) hX 9 kc_X8 ly_X8 rfl rfl fl_X8_126 dX8_begins_25 rfl ?_
  refine gi_icmp_ge (tgt := 47) (n := 31) hX dX8_begins_28 rfl rfl h (fun h => ?_) (fun h => ?_)
  · refine gi_sub [0] rfl ?_
    exact hz _ (Option.some.inj h).symm
  · refine gi_aload_n (n := 32) hX 0 dX8_begins_31 rfl rfl rfl ?_
    refine gi_aload_n (n := 33) hX 0 dX8_begins_32 rfl rfl rfl ?_
    refine gi_getR (n := 36) hX 10 kc_X8 ly_X8 rfl rfl fl_X8_31 dX8_begins_33 rfl ?_
    refine gi_iload_n (n := 37) hX 1 dX8_begins_36 rfl rfl rfl ?_
    refine gi_iald (n := 38) hX lm_8 dX8_begins_37 rfl h (fun h => ?_)
    obtain ⟨v1, e2, h⟩ := bv_some h
    refine gi_virtV (st := []) (n := 41) hX hR kc_X8 ly_X8 mv_X8_puts ml_X8_160 (m_X8_puts Γ.2.1 Ω (v.1 8 (x1).toNatClampNeg) v e2) rfl ⟨rfl, rfl⟩ rfl dX8_begins_38 rfl rfl ?_
    refine gi_iinc (z := (1 : Int32)) (n := 44) hX 1 [(1, .int (x1 + (1 : Int32))), (0, .ref (Ω.1 0))] dX8_begins_41 rfl rfl rfl rfl rfl rfl ?_
    refine gi_goto (n := 23) hX dX8_begins_44 rfl ?_
    refine gi_sub [1, 0] rfl ?_
    exact hc _ _ (Option.some.inj h).symm
set_option maxRecDepth 20000 in
theorem t_X8_begins_B49 {Γ : gC} {Ω : gO} {v0 : gV} {o : (gV × Int32) ⊕ (gV)} (hX : gx_X Γ Ω cX8_begins RX8 2 (none)) (hR : Γ.2.2.2.1 = gx_R 1) (x1 : Int32) (v : gV) (h : f_X8_begins_B49 x1 v = some o) (hc : ∀ c0 c1, o = .inl (c0, c1) → gx_G Γ Ω LM (gx_Q Γ Ω LM none v0) 2 c0 49 [(0, .ref (Ω.1 0)), (1, .int c1)] []) (hz : ∀ z0, o = .inr z0 → gx_G Γ Ω LM (gx_Q Γ Ω LM none v0) 2 z0 84 [(0, .ref (Ω.1 0))] []) : gx_G Γ Ω LM (gx_Q Γ Ω LM none v0) 2 v 49 [(0, .ref (Ω.1 0)), (1, .int x1)] [] := by
  rw [f_X8_begins_B49] at h
  refine gi_iload_n (n := 50) hX 1 dX8_begins_49 rfl rfl rfl ?_
  refine gi_aload_n (n := 51) hX 0 dX8_begins_50 rfl rfl rfl ?_
  refine gi_getI (n := 54) hX 7 kc_X8 ly_X8 rfl rfl fl_X8_120 dX8_begins_51 rfl ?_
  refine gi_icmp_ge (tgt := 84) (n := 57) hX dX8_begins_54 rfl rfl h (fun h => ?_) (fun h => ?_)
  · refine gi_sub [0] rfl ?_
    exact hz _ (Option.some.inj h).symm
  · refine gi_aload_n (n := 58) hX 0 dX8_begins_57 rfl rfl rfl ?_
    refine gi_getR (n := 61) hX 14 kc_X8 ly_X8 rfl rfl fl_X8_40 dX8_begins_58 rfl ?_
    refine gi_iload_n (n := 62) hX 1 dX8_begins_61 rfl rfl rfl ?_
    refine gi_aload_n (n := 63) hX 0 dX8_begins_62 rfl rfl rfl ?_
    refine gi_getR (n := 66) hX 8 kc_X8 ly_X8 rfl rfl fl_X8_28 dX8_begins_63 rfl ?_
    refine gi_iconst (x := (4 : Int32)) (n := 67) hX rfl dX8_begins_66 rfl ?_
    refine gi_iload_n (n := 68) hX 1 dX8_begins_67 rfl rfl rfl ?_
    refine gi_imul (n := 69) hX dX8_begins_68 rfl ?_
    refine gi_iald (n := 70) hX lm_7 dX8_begins_69 rfl h (fun h => ?_)
    refine gi_iast (n := 71) hX lm_11 dX8_begins_70 rfl h (fun v1 h => ?_)
    refine gi_aload_n (n := 72) hX 0 dX8_begins_71 rfl rfl rfl ?_
    refine gi_getR (n := 75) hX 15 kc_X8 ly_X8 rfl rfl fl_X8_43 dX8_begins_72 rfl ?_
    refine gi_iload_n (n := 76) hX 1 dX8_begins_75 rfl rfl rfl ?_
    refine gi_iconst (x := (0 : Int32)) (n := 77) hX rfl dX8_begins_76 rfl ?_
    refine gi_iast (n := 78) hX lm_12 dX8_begins_77 rfl h (fun v2 h => ?_)
    refine gi_iinc (z := (1 : Int32)) (n := 81) hX 1 [(1, .int (x1 + (1 : Int32))), (0, .ref (Ω.1 0))] dX8_begins_78 rfl rfl rfl rfl rfl rfl ?_
    refine gi_goto (n := 49) hX dX8_begins_81 rfl ?_
    refine gi_sub [1, 0] rfl ?_
    exact hc _ _ (Option.some.inj h).symm
set_option maxRecDepth 20000 in
theorem t_X8_begins_J21 {Γ : gC} {Ω : gO} {v0 : gV} (hX : gx_X Γ Ω cX8_begins RX8 2 (none)) (hR : Γ.2.2.2.1 = gx_R 1)  (v : gV) (h : f_X8_begins_J21  v = some v0) : gx_G Γ Ω LM (gx_Q Γ Ω LM none v0) 2 v 21 [(0, .ref (Ω.1 0))] [] := by
  rw [f_X8_begins_J21] at h
  refine gi_iconst (x := (0 : Int32)) (n := 22) hX rfl dX8_begins_21 rfl ?_
  refine gi_istore_n (n := 23) hX [(1, .int (0 : Int32)), (0, .ref (Ω.1 0))] dX8_begins_22 rfl rfl rfl rfl ?_
  refine gi_sub [1, 0] rfl ?_
  have key := lp_ind (f := (fun a : gV × Int32 => f_X8_begins_B23 a.2 a.1)) (P := (fun a : gV × Int32 => gx_G Γ Ω LM (gx_Q Γ Ω LM none v0) 2 a.1 23 [(0, .ref (Ω.1 0)), (1, .int a.2)] [])) (Z := (fun z : gV => gx_G Γ Ω LM (gx_Q Γ Ω LM none v0) 2 z 47 [(0, .ref (Ω.1 0))] [])) (fun a o h hc hz => t_X8_begins_B23 hX hR a.2 a.1 h (fun c0 c1 e => hc (c0, c1) e) (fun z0 e => hz z0 e)) fu
  obtain ⟨v1, e0, h⟩ := bx1_some h
  refine key (v, (0 : Int32)) _ e0 ?_
  show gx_G Γ Ω LM (gx_Q Γ Ω LM none v0) 2 v1 47 [(0, .ref (Ω.1 0))] []
  refine gi_iconst (x := (0 : Int32)) (n := 48) hX rfl dX8_begins_47 rfl ?_
  refine gi_istore_n (n := 49) hX [(1, .int (0 : Int32)), (0, .ref (Ω.1 0))] dX8_begins_48 rfl rfl rfl rfl ?_
  refine gi_sub [1, 0] rfl ?_
  have key := lp_ind (f := (fun a : gV × Int32 => f_X8_begins_B49 a.2 a.1)) (P := (fun a : gV × Int32 => gx_G Γ Ω LM (gx_Q Γ Ω LM none v0) 2 a.1 49 [(0, .ref (Ω.1 0)), (1, .int a.2)] [])) (Z := (fun z : gV => gx_G Γ Ω LM (gx_Q Γ Ω LM none v0) 2 z 84 [(0, .ref (Ω.1 0))] [])) (fun a o h hc hz => t_X8_begins_B49 hX hR a.2 a.1 h (fun c0 c1 e => hc (c0, c1) e) (fun z0 e => hz z0 e)) fu
  obtain ⟨v2, e0, h⟩ := bx1_some h
  refine key (v1, (0 : Int32)) _ e0 ?_
  show gx_G Γ Ω LM (gx_Q Γ Ω LM none v0) 2 v2 84 [(0, .ref (Ω.1 0))] []
  refine gi_aload_n (n := 85) hX 0 dX8_begins_84 rfl rfl rfl ?_
  refine gi_getR (n := 88) hX 23 kc_X8 ly_X8 rfl rfl fl_X8_61 dX8_begins_85 rfl ?_
  refine gi_iconst (x := (0 : Int32)) (n := 89) hX rfl dX8_begins_88 rfl ?_
  refine gi_iconst (x := (-1 : Int32)) (n := 90) hX rfl dX8_begins_89 rfl ?_
  refine gi_iast (n := 91) hX lm_18 dX8_begins_90 rfl h (fun v3 h => ?_)
  refine gi_aload_n (n := 92) hX 0 dX8_begins_91 rfl rfl rfl ?_
  refine gi_getR (n := 95) hX 23 kc_X8 ly_X8 rfl rfl fl_X8_61 dX8_begins_92 rfl ?_
  refine gi_iconst (x := (1 : Int32)) (n := 96) hX rfl dX8_begins_95 rfl ?_
  refine gi_iconst (x := (-1 : Int32)) (n := 97) hX rfl dX8_begins_96 rfl ?_
  refine gi_iast (n := 98) hX lm_18 dX8_begins_97 rfl h (fun v4 h => ?_)
  refine gi_aload_n (n := 99) hX 0 dX8_begins_98 rfl rfl rfl ?_
  refine gi_getR (n := 102) hX 23 kc_X8 ly_X8 rfl rfl fl_X8_61 dX8_begins_99 rfl ?_
  refine gi_iconst (x := (2 : Int32)) (n := 103) hX rfl dX8_begins_102 rfl ?_
  refine gi_iconst (x := (-1 : Int32)) (n := 104) hX rfl dX8_begins_103 rfl ?_
  refine gi_iast (n := 105) hX lm_18 dX8_begins_104 rfl h (fun v5 h => ?_)
  refine gi_aload_n (n := 106) hX 0 dX8_begins_105 rfl rfl rfl ?_
  refine gi_iconst (x := (0 : Int32)) (n := 107) hX rfl dX8_begins_106 rfl ?_
  refine gi_putI (n := 110) hX 24 kc_X8 ly_X8 rfl rfl fl_X8_180 rfl rfl dX8_begins_107 rfl h (fun v6 h => ?_)
  refine gi_aload_n (n := 111) hX 0 dX8_begins_110 rfl rfl rfl ?_
  refine gi_iconst (x := (-1 : Int32)) (n := 112) hX rfl dX8_begins_111 rfl ?_
  refine gi_putI (n := 115) hX 25 kc_X8 ly_X8 rfl rfl fl_X8_183 rfl rfl dX8_begins_112 rfl h (fun v7 h => ?_)
  exact gi_vret hX rfl dX8_begins_115 h
set_option maxRecDepth 20000 in
theorem t_X8_begins {Γ : gC} {Ω : gO} {v0 : gV} (hX : gx_X Γ Ω cX8_begins RX8 2 (none)) (hR : Γ.2.2.2.1 = gx_R 1)  (v : gV) (h : f_X8_begins  v = some v0) : gx_G Γ Ω LM (gx_Q Γ Ω LM none v0) 2 v 0 [(0, .ref (Ω.1 0))] [] := by
  rw [f_X8_begins] at h
  refine gi_aload_n (n := 1) hX 0 dX8_begins_0 rfl rfl rfl ?_
  refine gi_iconst (x := (0 : Int32)) (n := 2) hX rfl dX8_begins_1 rfl ?_
  refine gi_putI (n := 5) hX 17 kc_X8 ly_X8 rfl rfl fl_X8_147 rfl rfl dX8_begins_2 rfl h (fun v1 h => ?_)
  refine gi_aload_n (n := 6) hX 0 dX8_begins_5 rfl rfl rfl ?_
  refine gi_getI (n := 9) hX 13 kc_X8 ly_X8 rfl rfl fl_X8_70 dX8_begins_6 rfl ?_
  refine gi_iconst (x := (-1 : Int32)) (n := 10) hX rfl dX8_begins_9 rfl ?_
  refine gi_icmp_eq (tgt := 21) (n := 13) hX dX8_begins_10 rfl rfl h (fun h => ?_) (fun h => ?_)
  · exact t_X8_begins_J21 hX hR v1 h
  · refine gi_aload_n (n := 14) hX 0 dX8_begins_13 rfl rfl rfl ?_
    refine gi_aload_n (n := 15) hX 0 dX8_begins_14 rfl rfl rfl ?_
    refine gi_getI (n := 18) hX 13 kc_X8 ly_X8 rfl rfl fl_X8_70 dX8_begins_15 rfl ?_
    obtain ⟨v2, e3, h⟩ := bv_some h
    refine gi_virtV (st := []) (n := 21) hX hR kc_X8 ly_X8 mv_X8_puts ml_X8_160 (m_X8_puts Γ.2.1 Ω (v1.1 0 13) v1 e3) rfl ⟨rfl, rfl⟩ rfl dX8_begins_18 rfl rfl ?_
    exact t_X8_begins_J21 hX hR v2 h
theorem m_X8_begins (l : Launch) (Ω : gO) (v : gV) {v0 : gV} (h : f_X8_begins v = some v0) : gx_M l Ω LM yX8_begins cX8_begins 2 (none) 1 [.ref (Ω.1 0)] v none v0 := gx_start (lv := [(0, .ref (Ω.1 0))]) (by decide +kernel) (Nat.le_of_ble_eq_true rfl) rfl (fun Γ _ hR hX => t_X8_begins hX hR v h)
set_option maxRecDepth 20000 in
theorem t_X8_isIn {Γ : gC} {Ω : gO} {r0 : Int32} {v0 : gV} (hX : gx_X Γ Ω cX8_isIn RX8 2 (some .boolean)) (hR : Γ.2.2.2.1 = gx_R 0) (x0 : Int32) (x1 : Int32) (v : gV) (h : f_X8_isIn x0 x1 v = some (r0, v0)) : gx_G Γ Ω LM (gx_Q Γ Ω LM (some (.int r0)) v0) 2 v 0 [(0, .int x0), (1, .int x1)] [] := by
  rw [f_X8_isIn] at h
  refine gi_iload_n (n := 1) hX 0 dX8_isIn_0 rfl rfl rfl ?_
  refine gi_iload_n (n := 2) hX 1 dX8_isIn_1 rfl rfl rfl ?_
  refine gi_ishr (n := 3) hX dX8_isIn_2 rfl ?_
  refine gi_iconst (x := (1 : Int32)) (n := 4) hX rfl dX8_isIn_3 rfl ?_
  refine gi_iand (n := 5) hX dX8_isIn_4 rfl ?_
  refine gi_iconst (x := (1 : Int32)) (n := 6) hX rfl dX8_isIn_5 rfl ?_
  refine gi_icmp_ne (tgt := 13) (n := 9) hX dX8_isIn_6 rfl rfl h (fun h => ?_) (fun h => ?_)
  · refine gi_iconst (x := (0 : Int32)) (n := 14) hX rfl dX8_isIn_13 rfl ?_
    exact gi_zret hX rfl dX8_isIn_14 h
  · refine gi_iconst (x := (1 : Int32)) (n := 10) hX rfl dX8_isIn_9 rfl ?_
    refine gi_goto (n := 14) hX dX8_isIn_10 rfl ?_
    exact gi_zret hX rfl dX8_isIn_14 h
theorem m_X8_isIn (l : Launch) (Ω : gO) (x0 : Int32) (x1 : Int32) (v : gV) {r0 : Int32} {v0 : gV} (h : f_X8_isIn x0 x1 v = some (r0, v0)) : gx_M l Ω LM yX8_isIn cX8_isIn 2 (some .boolean) 0 [.int x0, .int x1] v (some (.int r0)) v0 := gx_start (lv := [(0, .int x0), (1, .int x1)]) (by decide +kernel) (Nat.le_of_ble_eq_true rfl) rfl (fun Γ _ hR hX => t_X8_isIn hX hR x0 x1 v h)
set_option maxRecDepth 20000 in
theorem t_X8_may_J80 {Γ : gC} {Ω : gO} {r0 : Int32} {v0 : gV} (hX : gx_X Γ Ω cX8_may RX8 3 (some .boolean)) (hR : Γ.2.2.2.1 = gx_R 1) (s0 : Int32) (v : gV) (h : f_X8_may_J80 s0 v = some (r0, v0)) : gx_G Γ Ω LM (gx_Q Γ Ω LM (some (.int r0)) v0) 3 v 80 [(0, .ref (Ω.1 0))] [.int s0] := by
  rw [f_X8_may_J80] at h
  refine gi_aload_n (n := 81) hX 0 dX8_may_80 rfl rfl rfl ?_
  refine gi_getR (n := 84) hX 12 kc_X8 ly_X8 rfl rfl fl_X8_37 dX8_may_81 rfl ?_
  refine gi_iconst (x := (0 : Int32)) (n := 85) hX rfl dX8_may_84 rfl ?_
  refine gi_iald (n := 86) hX lm_10 dX8_may_85 rfl h (fun h => ?_)
  refine gi_icmp_gt (tgt := 93) (n := 89) hX dX8_may_86 rfl rfl h (fun h => ?_) (fun h => ?_)
  · refine gi_iconst (x := (0 : Int32)) (n := 94) hX rfl dX8_may_93 rfl ?_
    exact gi_zret hX rfl dX8_may_94 h
  · refine gi_iconst (x := (1 : Int32)) (n := 90) hX rfl dX8_may_89 rfl ?_
    refine gi_goto (n := 94) hX dX8_may_90 rfl ?_
    exact gi_zret hX rfl dX8_may_94 h
set_option maxRecDepth 20000 in
theorem t_X8_may {Γ : gC} {Ω : gO} {r0 : Int32} {v0 : gV} (hX : gx_X Γ Ω cX8_may RX8 3 (some .boolean)) (hR : Γ.2.2.2.1 = gx_R 1) (x1 : Int32) (v : gV) (h : f_X8_may x1 v = some (r0, v0)) : gx_G Γ Ω LM (gx_Q Γ Ω LM (some (.int r0)) v0) 3 v 0 [(0, .ref (Ω.1 0)), (1, .int x1)] [] := by
  rw [f_X8_may] at h
  refine gi_aload_n (n := 1) hX 0 dX8_may_0 rfl rfl rfl ?_
  refine gi_getI (n := 4) hX 16 kc_X8 ly_X8 rfl rfl fl_X8_150 dX8_may_1 rfl ?_
  refine gi_iload_n (n := 5) hX 1 dX8_may_4 rfl rfl rfl ?_
  obtain ⟨r3, v1, e2, h⟩ := bi_some h
  refine gi_statI (st := []) (n := 8) hX hR ms_X8_isIn ml_X8_153 (m_X8_isIn Γ.2.1 Ω (v.1 0 16) x1 v e2) rfl ⟨rfl, rfl⟩ rfl dX8_may_5 rfl rfl ?_
  refine gi_if_eq (tgt := 40) (n := 11) hX dX8_may_8 rfl rfl h (fun h => ?_) (fun h => ?_)
  · refine gi_iconst (x := (0 : Int32)) (n := 41) hX rfl dX8_may_40 rfl ?_
    exact gi_zret hX rfl dX8_may_41 h
  · refine gi_aload_n (n := 12) hX 0 dX8_may_11 rfl rfl rfl ?_
    refine gi_getR (n := 15) hX 14 kc_X8 ly_X8 rfl rfl fl_X8_40 dX8_may_12 rfl ?_
    refine gi_iload_n (n := 16) hX 1 dX8_may_15 rfl rfl rfl ?_
    refine gi_iald (n := 17) hX lm_11 dX8_may_16 rfl h (fun h => ?_)
    refine gi_iconst (x := (1 : Int32)) (n := 18) hX rfl dX8_may_17 rfl ?_
    refine gi_icmp_lt (tgt := 40) (n := 21) hX dX8_may_18 rfl rfl h (fun h => ?_) (fun h => ?_)
    · refine gi_iconst (x := (0 : Int32)) (n := 41) hX rfl dX8_may_40 rfl ?_
      exact gi_zret hX rfl dX8_may_41 h
    · refine gi_aload_n (n := 22) hX 0 dX8_may_21 rfl rfl rfl ?_
      refine gi_getR (n := 25) hX 14 kc_X8 ly_X8 rfl rfl fl_X8_40 dX8_may_22 rfl ?_
      refine gi_iload_n (n := 26) hX 1 dX8_may_25 rfl rfl rfl ?_
      refine gi_iald (n := 27) hX lm_11 dX8_may_26 rfl h (fun h => ?_)
      refine gi_aload_n (n := 28) hX 0 dX8_may_27 rfl rfl rfl ?_
      refine gi_getR (n := 31) hX 8 kc_X8 ly_X8 rfl rfl fl_X8_28 dX8_may_28 rfl ?_
      refine gi_iconst (x := (4 : Int32)) (n := 32) hX rfl dX8_may_31 rfl ?_
      refine gi_iload_n (n := 33) hX 1 dX8_may_32 rfl rfl rfl ?_
      refine gi_imul (n := 34) hX dX8_may_33 rfl ?_
      refine gi_iconst (x := (3 : Int32)) (n := 35) hX rfl dX8_may_34 rfl ?_
      refine gi_iadd (n := 36) hX dX8_may_35 rfl ?_
      refine gi_iald (n := 37) hX lm_7 dX8_may_36 rfl h (fun h => ?_)
      refine gi_icmp_ne (tgt := 42) (n := 40) hX dX8_may_37 rfl rfl h (fun h => ?_) (fun h => ?_)
      · refine gi_aload_n (n := 43) hX 0 dX8_may_42 rfl rfl rfl ?_
        refine gi_getR (n := 46) hX 11 kc_X8 ly_X8 rfl rfl fl_X8_34 dX8_may_43 rfl ?_
        refine gi_aload_n (n := 47) hX 0 dX8_may_46 rfl rfl rfl ?_
        refine gi_getR (n := 50) hX 14 kc_X8 ly_X8 rfl rfl fl_X8_40 dX8_may_47 rfl ?_
        refine gi_iload_n (n := 51) hX 1 dX8_may_50 rfl rfl rfl ?_
        refine gi_iald (n := 52) hX lm_11 dX8_may_51 rfl h (fun h => ?_)
        refine gi_iald (n := 53) hX lm_9 dX8_may_52 rfl h (fun h => ?_)
        refine gi_aload_n (n := 54) hX 0 dX8_may_53 rfl rfl rfl ?_
        refine gi_getR (n := 57) hX 11 kc_X8 ly_X8 rfl rfl fl_X8_34 dX8_may_54 rfl ?_
        refine gi_aload_n (n := 58) hX 0 dX8_may_57 rfl rfl rfl ?_
        refine gi_getR (n := 61) hX 8 kc_X8 ly_X8 rfl rfl fl_X8_28 dX8_may_58 rfl ?_
        refine gi_iconst (x := (4 : Int32)) (n := 62) hX rfl dX8_may_61 rfl ?_
        refine gi_iload_n (n := 63) hX 1 dX8_may_62 rfl rfl rfl ?_
        refine gi_imul (n := 64) hX dX8_may_63 rfl ?_
        refine gi_iconst (x := (3 : Int32)) (n := 65) hX rfl dX8_may_64 rfl ?_
        refine gi_iadd (n := 66) hX dX8_may_65 rfl ?_
        refine gi_iald (n := 67) hX lm_7 dX8_may_66 rfl h (fun h => ?_)
        refine gi_iald (n := 68) hX lm_9 dX8_may_67 rfl h (fun h => ?_)
        refine gi_isub (n := 69) hX dX8_may_68 rfl ?_
        refine gi_topI h (fun u4 h => ?_)
        refine gi_istore_n (n := 70) hX [(2, .int u4), (0, .ref (Ω.1 0)), (1, .int x1)] dX8_may_69 rfl rfl rfl rfl ?_
        refine gi_iload_n (n := 71) hX 0 dX8_may_70 rfl rfl rfl ?_
        refine gi_if_ge (tgt := 79) (n := 74) hX dX8_may_71 rfl rfl h (fun h => ?_) (fun h => ?_)
        · refine gi_iload_n (n := 80) hX 0 dX8_may_79 rfl rfl rfl ?_
          refine gi_sub [1] rfl ?_
          exact t_X8_may_J80 hX hR u4 v1 h
        · refine gi_iload_n (n := 75) hX 0 dX8_may_74 rfl rfl rfl ?_
          refine gi_ineg (n := 76) hX dX8_may_75 rfl ?_
          refine gi_goto (n := 80) hX dX8_may_76 rfl ?_
          refine gi_sub [1] rfl ?_
          exact t_X8_may_J80 hX hR (-u4) v1 h
      · refine gi_iconst (x := (0 : Int32)) (n := 41) hX rfl dX8_may_40 rfl ?_
        exact gi_zret hX rfl dX8_may_41 h
theorem m_X8_may (l : Launch) (Ω : gO) (x1 : Int32) (v : gV) {r0 : Int32} {v0 : gV} (h : f_X8_may x1 v = some (r0, v0)) : gx_M l Ω LM yX8_may cX8_may 3 (some .boolean) 1 [.ref (Ω.1 0), .int x1] v (some (.int r0)) v0 := gx_start (lv := [(0, .ref (Ω.1 0)), (1, .int x1)]) (by decide +kernel) (Nat.le_of_ble_eq_true rfl) rfl (fun Γ _ hR hX => t_X8_may hX hR x1 v h)
set_option maxRecDepth 20000 in
theorem t_X8_find_B2 {Γ : gC} {Ω : gO} {r0 : Int32} {v0 : gV} {o : (gV × Int32) ⊕ ((gV) ⊕ (Int32 × gV))} (hX : gx_X Γ Ω cX8_find RX8 3 (some .int)) (hR : Γ.2.2.2.1 = gx_R 0) (x1 : Int32) (x2 : Int32) (v : gV) (h : f_X8_find_B2 x1 x2 v = some o) (hc : ∀ c0 c1, o = .inl (c0, c1) → gx_G Γ Ω LM (gx_Q Γ Ω LM (some (.int r0)) v0) 3 c0 2 [(0, .ref (Ω.1 0)), (1, .int x1), (2, .int c1)] []) (hz : ∀ z0, o = .inr (.inl z0) → gx_G Γ Ω LM (gx_Q Γ Ω LM (some (.int r0)) v0) 3 z0 28 [] []) (hr : ∀ q0 q1, o = .inr (.inr (q0, q1)) → some (q0, q1) = some (r0, v0)) : gx_G Γ Ω LM (gx_Q Γ Ω LM (some (.int r0)) v0) 3 v 2 [(0, .ref (Ω.1 0)), (1, .int x1), (2, .int x2)] [] := by
  rw [f_X8_find_B2] at h
  refine gi_iload_n (n := 3) hX 2 dX8_find_2 rfl rfl rfl ?_
  refine gi_aload_n (n := 4) hX 0 dX8_find_3 rfl rfl rfl ?_
  refine gi_getI (n := 7) hX 17 kc_X8 ly_X8 rfl rfl fl_X8_147 dX8_find_4 rfl ?_
  refine gi_icmp_ge (tgt := 28) (n := 10) hX dX8_find_7 rfl rfl h (fun h => ?_) (fun h => ?_)
  · refine gi_sub [] rfl ?_
    exact hz _ (Option.some.inj h).symm
  · refine gi_aload_n (n := 11) hX 0 dX8_find_10 rfl rfl rfl ?_
    refine gi_getR (n := 14) hX 18 kc_X8 ly_X8 rfl rfl fl_X8_46 dX8_find_11 rfl ?_
    refine gi_iload_n (n := 15) hX 2 dX8_find_14 rfl rfl rfl ?_
    refine gi_iald (n := 16) hX lm_13 dX8_find_15 rfl h (fun h => ?_)
    refine gi_iload_n (n := 17) hX 1 dX8_find_16 rfl rfl rfl ?_
    refine gi_icmp_ne (tgt := 22) (n := 20) hX dX8_find_17 rfl rfl h (fun h => ?_) (fun h => ?_)
    · refine gi_iinc (z := (1 : Int32)) (n := 25) hX 2 [(2, .int (x2 + (1 : Int32))), (0, .ref (Ω.1 0)), (1, .int x1)] dX8_find_22 rfl rfl rfl rfl rfl rfl ?_
      refine gi_goto (n := 2) hX dX8_find_25 rfl ?_
      refine gi_sub [1, 2, 0] rfl ?_
      exact hc _ _ (Option.some.inj h).symm
    · refine gi_iload_n (n := 21) hX 2 dX8_find_20 rfl rfl rfl ?_
      exact gi_iret hX rfl dX8_find_21 (hr _ _ (Option.some.inj h).symm)
set_option maxRecDepth 20000 in
theorem t_X8_find {Γ : gC} {Ω : gO} {r0 : Int32} {v0 : gV} (hX : gx_X Γ Ω cX8_find RX8 3 (some .int)) (hR : Γ.2.2.2.1 = gx_R 0) (x1 : Int32) (v : gV) (h : f_X8_find x1 v = some (r0, v0)) : gx_G Γ Ω LM (gx_Q Γ Ω LM (some (.int r0)) v0) 3 v 0 [(0, .ref (Ω.1 0)), (1, .int x1)] [] := by
  rw [f_X8_find] at h
  refine gi_iconst (x := (0 : Int32)) (n := 1) hX rfl dX8_find_0 rfl ?_
  refine gi_istore_n (n := 2) hX [(2, .int (0 : Int32)), (0, .ref (Ω.1 0)), (1, .int x1)] dX8_find_1 rfl rfl rfl rfl ?_
  refine gi_sub [1, 2, 0] rfl ?_
  have key := lp_ind (f := (fun a : gV × Int32 => f_X8_find_B2 x1 a.2 a.1)) (P := (fun a : gV × Int32 => gx_G Γ Ω LM (gx_Q Γ Ω LM (some (.int r0)) v0) 3 a.1 2 [(0, .ref (Ω.1 0)), (1, .int x1), (2, .int a.2)] [])) (Z := (fun w : (gV) ⊕ (Int32 × gV) => Sum.elim (fun z : gV => gx_G Γ Ω LM (gx_Q Γ Ω LM (some (.int r0)) v0) 3 z 28 [] []) (fun q => some q = some (r0, v0)) w)) (fun a o h hc hz => t_X8_find_B2 hX hR x1 a.2 a.1 h (fun c0 c1 e => hc (c0, c1) e) (fun z0 e => hz (.inl z0) e) (fun q0 q1 e => hz (.inr (q0, q1)) e)) fu
  rcases bs1_some h with ⟨v1, e0, h⟩ | ⟨q, e0, h⟩
  · refine key (v, (0 : Int32)) _ e0 ?_
    show gx_G Γ Ω LM (gx_Q Γ Ω LM (some (.int r0)) v0) 3 v1 28 [] []
    refine gi_iconst (x := (-1 : Int32)) (n := 29) hX rfl dX8_find_28 rfl ?_
    exact gi_iret hX rfl dX8_find_29 h
  · refine key (v, (0 : Int32)) _ e0 ?_
    show some q = some (r0, v0)
    exact h
theorem m_X8_find (l : Launch) (Ω : gO) (x1 : Int32) (v : gV) {r0 : Int32} {v0 : gV} (h : f_X8_find x1 v = some (r0, v0)) : gx_M l Ω LM yX8_find cX8_find 3 (some .int) 0 [.ref (Ω.1 0), .int x1] v (some (.int r0)) v0 := gx_start (lv := [(0, .ref (Ω.1 0)), (1, .int x1)]) (by decide +kernel) (Nat.le_of_ble_eq_true rfl) rfl (fun Γ _ hR hX => t_X8_find hX hR x1 v h)
set_option maxRecDepth 20000 in
theorem t_X8_takes_B12 {Γ : gC} {Ω : gO} {v0 : gV} {o : (gV × Int32) ⊕ (gV)} (hX : gx_X Γ Ω cX8_takes RX8 3 (none)) (hR : Γ.2.2.2.1 = gx_R 0) (x2 : Int32) (v : gV) (h : f_X8_takes_B12 x2 v = some o) (hc : ∀ c0 c1, o = .inl (c0, c1) → gx_G Γ Ω LM (gx_Q Γ Ω LM none v0) 3 c0 12 [(0, .ref (Ω.1 0)), (2, .int c1)] []) (hz : ∀ z0, o = .inr z0 → gx_G Γ Ω LM (gx_Q Γ Ω LM none v0) 3 z0 40 [] []) : gx_G Γ Ω LM (gx_Q Γ Ω LM none v0) 3 v 12 [(0, .ref (Ω.1 0)), (2, .int x2)] [] := by
  rw [f_X8_takes_B12] at h
  refine gi_iload_n (n := 13) hX 1 dX8_takes_12 rfl rfl rfl ?_
  refine gi_aload_n (n := 14) hX 0 dX8_takes_13 rfl rfl rfl ?_
  refine gi_getI (n := 17) hX 17 kc_X8 ly_X8 rfl rfl fl_X8_147 dX8_takes_14 rfl ?_
  refine gi_icmp_ge (tgt := 40) (n := 20) hX dX8_takes_17 rfl rfl h (fun h => ?_) (fun h => ?_)
  · refine gi_sub [] rfl ?_
    exact hz _ (Option.some.inj h).symm
  · refine gi_aload_n (n := 21) hX 0 dX8_takes_20 rfl rfl rfl ?_
    refine gi_getR (n := 24) hX 18 kc_X8 ly_X8 rfl rfl fl_X8_46 dX8_takes_21 rfl ?_
    refine gi_iload_n (n := 25) hX 1 dX8_takes_24 rfl rfl rfl ?_
    refine gi_aload_n (n := 26) hX 0 dX8_takes_25 rfl rfl rfl ?_
    refine gi_getR (n := 29) hX 18 kc_X8 ly_X8 rfl rfl fl_X8_46 dX8_takes_26 rfl ?_
    refine gi_iload_n (n := 30) hX 1 dX8_takes_29 rfl rfl rfl ?_
    refine gi_iconst (x := (1 : Int32)) (n := 31) hX rfl dX8_takes_30 rfl ?_
    refine gi_iadd (n := 32) hX dX8_takes_31 rfl ?_
    refine gi_iald (n := 33) hX lm_13 dX8_takes_32 rfl h (fun h => ?_)
    refine gi_iast (n := 34) hX lm_13 dX8_takes_33 rfl h (fun v1 h => ?_)
    refine gi_iinc (z := (1 : Int32)) (n := 37) hX 1 [(2, .int (x2 + (1 : Int32))), (0, .ref (Ω.1 0))] dX8_takes_34 rfl rfl rfl rfl rfl rfl ?_
    refine gi_goto (n := 12) hX dX8_takes_37 rfl ?_
    refine gi_sub [1, 0] rfl ?_
    exact hc _ _ (Option.some.inj h).symm
set_option maxRecDepth 20000 in
theorem t_X8_takes {Γ : gC} {Ω : gO} {v0 : gV} (hX : gx_X Γ Ω cX8_takes RX8 3 (none)) (hR : Γ.2.2.2.1 = gx_R 0) (x1 : Int32) (v : gV) (h : f_X8_takes x1 v = some v0) : gx_G Γ Ω LM (gx_Q Γ Ω LM none v0) 3 v 0 [(0, .ref (Ω.1 0)), (1, .int x1)] [] := by
  rw [f_X8_takes] at h
  refine gi_aload_n (n := 1) hX 0 dX8_takes_0 rfl rfl rfl ?_
  refine gi_dup (n := 2) hX rfl dX8_takes_1 rfl ?_
  refine gi_getI (n := 5) hX 17 kc_X8 ly_X8 rfl rfl fl_X8_147 dX8_takes_2 rfl ?_
  refine gi_iconst (x := (1 : Int32)) (n := 6) hX rfl dX8_takes_5 rfl ?_
  refine gi_isub (n := 7) hX dX8_takes_6 rfl ?_
  refine gi_putI (n := 10) hX 17 kc_X8 ly_X8 rfl rfl fl_X8_147 rfl rfl dX8_takes_7 rfl h (fun v1 h => ?_)
  refine gi_iload_n (n := 11) hX 1 dX8_takes_10 rfl rfl rfl ?_
  refine gi_istore_n (n := 12) hX [(2, .int x1), (0, .ref (Ω.1 0)), (1, .int x1)] dX8_takes_11 rfl rfl rfl rfl ?_
  refine gi_sub [1, 0] rfl ?_
  have key := lp_ind (f := (fun a : gV × Int32 => f_X8_takes_B12 a.2 a.1)) (P := (fun a : gV × Int32 => gx_G Γ Ω LM (gx_Q Γ Ω LM none v0) 3 a.1 12 [(0, .ref (Ω.1 0)), (2, .int a.2)] [])) (Z := (fun z : gV => gx_G Γ Ω LM (gx_Q Γ Ω LM none v0) 3 z 40 [] [])) (fun a o h hc hz => t_X8_takes_B12 hX hR a.2 a.1 h (fun c0 c1 e => hc (c0, c1) e) (fun z0 e => hz z0 e)) fu
  obtain ⟨v2, e0, h⟩ := bx1_some h
  refine key (v1, x1) _ e0 ?_
  show gx_G Γ Ω LM (gx_Q Γ Ω LM none v0) 3 v2 40 [] []
  exact gi_vret hX rfl dX8_takes_40 h
theorem m_X8_takes (l : Launch) (Ω : gO) (x1 : Int32) (v : gV) {v0 : gV} (h : f_X8_takes x1 v = some v0) : gx_M l Ω LM yX8_takes cX8_takes 3 (none) 0 [.ref (Ω.1 0), .int x1] v none v0 := gx_start (lv := [(0, .ref (Ω.1 0)), (1, .int x1)]) (by decide +kernel) (Nat.le_of_ble_eq_true rfl) rfl (fun Γ _ hR hX => t_X8_takes hX hR x1 v h)
set_option maxRecDepth 20000 in
theorem t_X8_gives {Γ : gC} {Ω : gO} {v0 : gV} (hX : gx_X Γ Ω cX8_gives RX8 3 (none)) (hR : Γ.2.2.2.1 = gx_R 1) (x1 : Int32) (x2 : Int32) (v : gV) (h : f_X8_gives x1 x2 v = some v0) : gx_G Γ Ω LM (gx_Q Γ Ω LM none v0) 3 v 0 [(0, .ref (Ω.1 0)), (1, .int x1), (2, .int x2)] [] := by
  rw [f_X8_gives] at h
  refine gi_aload_n (n := 1) hX 0 dX8_gives_0 rfl rfl rfl ?_
  refine gi_aload_n (n := 2) hX 0 dX8_gives_1 rfl rfl rfl ?_
  refine gi_getR (n := 5) hX 14 kc_X8 ly_X8 rfl rfl fl_X8_40 dX8_gives_2 rfl ?_
  refine gi_iload_n (n := 6) hX 1 dX8_gives_5 rfl rfl rfl ?_
  refine gi_iald (n := 7) hX lm_11 dX8_gives_6 rfl h (fun h => ?_)
  obtain ⟨v1, e2, h⟩ := bv_some h
  refine gi_virtV (st := []) (n := 10) hX hR kc_X8 ly_X8 mv_X8_puts ml_X8_160 (m_X8_puts Γ.2.1 Ω (v.1 11 (x1).toNatClampNeg) v e2) rfl ⟨rfl, rfl⟩ rfl dX8_gives_7 rfl rfl ?_
  refine gi_aload_n (n := 11) hX 0 dX8_gives_10 rfl rfl rfl ?_
  refine gi_getR (n := 14) hX 14 kc_X8 ly_X8 rfl rfl fl_X8_40 dX8_gives_11 rfl ?_
  refine gi_iload_n (n := 15) hX 1 dX8_gives_14 rfl rfl rfl ?_
  refine gi_aload_n (n := 16) hX 0 dX8_gives_15 rfl rfl rfl ?_
  refine gi_getR (n := 19) hX 8 kc_X8 ly_X8 rfl rfl fl_X8_28 dX8_gives_16 rfl ?_
  refine gi_iconst (x := (4 : Int32)) (n := 20) hX rfl dX8_gives_19 rfl ?_
  refine gi_iload_n (n := 21) hX 1 dX8_gives_20 rfl rfl rfl ?_
  refine gi_imul (n := 22) hX dX8_gives_21 rfl ?_
  refine gi_iconst (x := (3 : Int32)) (n := 23) hX rfl dX8_gives_22 rfl ?_
  refine gi_iadd (n := 24) hX dX8_gives_23 rfl ?_
  refine gi_iald (n := 25) hX lm_7 dX8_gives_24 rfl h (fun h => ?_)
  refine gi_iast (n := 26) hX lm_11 dX8_gives_25 rfl h (fun v3 h => ?_)
  refine gi_aload_n (n := 27) hX 0 dX8_gives_26 rfl rfl rfl ?_
  refine gi_getR (n := 30) hX 15 kc_X8 ly_X8 rfl rfl fl_X8_43 dX8_gives_27 rfl ?_
  refine gi_iload_n (n := 31) hX 1 dX8_gives_30 rfl rfl rfl ?_
  refine gi_iload_n (n := 32) hX 2 dX8_gives_31 rfl rfl rfl ?_
  refine gi_iast (n := 33) hX lm_12 dX8_gives_32 rfl h (fun v4 h => ?_)
  exact gi_vret hX rfl dX8_gives_33 h
theorem m_X8_gives (l : Launch) (Ω : gO) (x1 : Int32) (x2 : Int32) (v : gV) {v0 : gV} (h : f_X8_gives x1 x2 v = some v0) : gx_M l Ω LM yX8_gives cX8_gives 3 (none) 1 [.ref (Ω.1 0), .int x1, .int x2] v none v0 := gx_start (lv := [(0, .ref (Ω.1 0)), (1, .int x1), (2, .int x2)]) (by decide +kernel) (Nat.le_of_ble_eq_true rfl) rfl (fun Γ _ hR hX => t_X8_gives hX hR x1 x2 v h)
set_option maxRecDepth 20000 in
theorem t_X8_other_J48 {Γ : gC} {Ω : gO} {r0 : Int32} {v0 : gV} {o : (gV × Int32) ⊕ ((gV) ⊕ (Int32 × gV))} (hX : gx_X Γ Ω cX8_other RX8 3 (some .int)) (hR : Γ.2.2.2.1 = gx_R 2) (x1 : Int32) (x2 : Int32) (v : gV) (h : f_X8_other_J48 x1 x2 v = some o) (hc : ∀ c0 c1, o = .inl (c0, c1) → gx_G Γ Ω LM (gx_Q Γ Ω LM (some (.int r0)) v0) 3 c0 2 [(0, .ref (Ω.1 0)), (1, .int x1), (2, .int c1)] []) (hz : ∀ z0, o = .inr (.inl z0) → gx_G Γ Ω LM (gx_Q Γ Ω LM (some (.int r0)) v0) 3 z0 54 [] []) (hr : ∀ q0 q1, o = .inr (.inr (q0, q1)) → some (q0, q1) = some (r0, v0)) : gx_G Γ Ω LM (gx_Q Γ Ω LM (some (.int r0)) v0) 3 v 48 [(0, .ref (Ω.1 0)), (1, .int x1), (2, .int x2)] [] := by
  rw [f_X8_other_J48] at h
  refine gi_iinc (z := (1 : Int32)) (n := 51) hX 2 [(2, .int (x2 + (1 : Int32))), (0, .ref (Ω.1 0)), (1, .int x1)] dX8_other_48 rfl rfl rfl rfl rfl rfl ?_
  refine gi_goto (n := 2) hX dX8_other_51 rfl ?_
  refine gi_sub [1, 2, 0] rfl ?_
  exact hc _ _ (Option.some.inj h).symm
set_option maxRecDepth 20000 in
theorem t_X8_other_B2 {Γ : gC} {Ω : gO} {r0 : Int32} {v0 : gV} {o : (gV × Int32) ⊕ ((gV) ⊕ (Int32 × gV))} (hX : gx_X Γ Ω cX8_other RX8 3 (some .int)) (hR : Γ.2.2.2.1 = gx_R 2) (x1 : Int32) (x2 : Int32) (v : gV) (h : f_X8_other_B2 x1 x2 v = some o) (hc : ∀ c0 c1, o = .inl (c0, c1) → gx_G Γ Ω LM (gx_Q Γ Ω LM (some (.int r0)) v0) 3 c0 2 [(0, .ref (Ω.1 0)), (1, .int x1), (2, .int c1)] []) (hz : ∀ z0, o = .inr (.inl z0) → gx_G Γ Ω LM (gx_Q Γ Ω LM (some (.int r0)) v0) 3 z0 54 [] []) (hr : ∀ q0 q1, o = .inr (.inr (q0, q1)) → some (q0, q1) = some (r0, v0)) : gx_G Γ Ω LM (gx_Q Γ Ω LM (some (.int r0)) v0) 3 v 2 [(0, .ref (Ω.1 0)), (1, .int x1), (2, .int x2)] [] := by
  rw [f_X8_other_B2] at h
  refine gi_iload_n (n := 3) hX 2 dX8_other_2 rfl rfl rfl ?_
  refine gi_aload_n (n := 4) hX 0 dX8_other_3 rfl rfl rfl ?_
  refine gi_getI (n := 7) hX 7 kc_X8 ly_X8 rfl rfl fl_X8_120 dX8_other_4 rfl ?_
  refine gi_icmp_ge (tgt := 54) (n := 10) hX dX8_other_7 rfl rfl h (fun h => ?_) (fun h => ?_)
  · refine gi_sub [] rfl ?_
    exact hz _ (Option.some.inj h).symm
  · refine gi_iload_n (n := 11) hX 2 dX8_other_10 rfl rfl rfl ?_
    refine gi_iload_n (n := 12) hX 1 dX8_other_11 rfl rfl rfl ?_
    refine gi_icmp_eq (tgt := 48) (n := 15) hX dX8_other_12 rfl rfl h (fun h => ?_) (fun h => ?_)
    · exact t_X8_other_J48 hX hR x1 x2 v h hc hz hr
    · refine gi_aload_n (n := 16) hX 0 dX8_other_15 rfl rfl rfl ?_
      refine gi_iload_n (n := 17) hX 2 dX8_other_16 rfl rfl rfl ?_
      obtain ⟨r3, v1, e2, h⟩ := bi_some h
      refine gi_virtI (st := []) (n := 20) hX hR kc_X8 ly_X8 mv_X8_may ml_X8_157 (m_X8_may Γ.2.1 Ω x2 v e2) rfl ⟨rfl, rfl⟩ rfl dX8_other_17 rfl rfl ?_
      refine gi_if_eq (tgt := 48) (n := 23) hX dX8_other_20 rfl rfl h (fun h => ?_) (fun h => ?_)
      · exact t_X8_other_J48 hX hR x1 x2 v1 h hc hz hr
      · refine gi_aload_n (n := 24) hX 0 dX8_other_23 rfl rfl rfl ?_
        refine gi_getR (n := 27) hX 8 kc_X8 ly_X8 rfl rfl fl_X8_28 dX8_other_24 rfl ?_
        refine gi_iconst (x := (4 : Int32)) (n := 28) hX rfl dX8_other_27 rfl ?_
        refine gi_iload_n (n := 29) hX 2 dX8_other_28 rfl rfl rfl ?_
        refine gi_imul (n := 30) hX dX8_other_29 rfl ?_
        refine gi_iconst (x := (3 : Int32)) (n := 31) hX rfl dX8_other_30 rfl ?_
        refine gi_iadd (n := 32) hX dX8_other_31 rfl ?_
        refine gi_iald (n := 33) hX lm_7 dX8_other_32 rfl h (fun h => ?_)
        refine gi_aload_n (n := 34) hX 0 dX8_other_33 rfl rfl rfl ?_
        refine gi_getR (n := 37) hX 8 kc_X8 ly_X8 rfl rfl fl_X8_28 dX8_other_34 rfl ?_
        refine gi_iconst (x := (4 : Int32)) (n := 38) hX rfl dX8_other_37 rfl ?_
        refine gi_iload_n (n := 39) hX 1 dX8_other_38 rfl rfl rfl ?_
        refine gi_imul (n := 40) hX dX8_other_39 rfl ?_
        refine gi_iconst (x := (3 : Int32)) (n := 41) hX rfl dX8_other_40 rfl ?_
        refine gi_iadd (n := 42) hX dX8_other_41 rfl ?_
        refine gi_iald (n := 43) hX lm_7 dX8_other_42 rfl h (fun h => ?_)
        refine gi_icmp_ne (tgt := 48) (n := 46) hX dX8_other_43 rfl rfl h (fun h => ?_) (fun h => ?_)
        · exact t_X8_other_J48 hX hR x1 x2 v1 h hc hz hr
        · refine gi_iload_n (n := 47) hX 2 dX8_other_46 rfl rfl rfl ?_
          exact gi_iret hX rfl dX8_other_47 (hr _ _ (Option.some.inj h).symm)
set_option maxRecDepth 20000 in
theorem t_X8_other {Γ : gC} {Ω : gO} {r0 : Int32} {v0 : gV} (hX : gx_X Γ Ω cX8_other RX8 3 (some .int)) (hR : Γ.2.2.2.1 = gx_R 2) (x1 : Int32) (v : gV) (h : f_X8_other x1 v = some (r0, v0)) : gx_G Γ Ω LM (gx_Q Γ Ω LM (some (.int r0)) v0) 3 v 0 [(0, .ref (Ω.1 0)), (1, .int x1)] [] := by
  rw [f_X8_other] at h
  refine gi_iconst (x := (0 : Int32)) (n := 1) hX rfl dX8_other_0 rfl ?_
  refine gi_istore_n (n := 2) hX [(2, .int (0 : Int32)), (0, .ref (Ω.1 0)), (1, .int x1)] dX8_other_1 rfl rfl rfl rfl ?_
  refine gi_sub [1, 2, 0] rfl ?_
  have key := lp_ind (f := (fun a : gV × Int32 => f_X8_other_B2 x1 a.2 a.1)) (P := (fun a : gV × Int32 => gx_G Γ Ω LM (gx_Q Γ Ω LM (some (.int r0)) v0) 3 a.1 2 [(0, .ref (Ω.1 0)), (1, .int x1), (2, .int a.2)] [])) (Z := (fun w : (gV) ⊕ (Int32 × gV) => Sum.elim (fun z : gV => gx_G Γ Ω LM (gx_Q Γ Ω LM (some (.int r0)) v0) 3 z 54 [] []) (fun q => some q = some (r0, v0)) w)) (fun a o h hc hz => t_X8_other_B2 hX hR x1 a.2 a.1 h (fun c0 c1 e => hc (c0, c1) e) (fun z0 e => hz (.inl z0) e) (fun q0 q1 e => hz (.inr (q0, q1)) e)) fu
  rcases bs1_some h with ⟨v1, e0, h⟩ | ⟨q, e0, h⟩
  · refine key (v, (0 : Int32)) _ e0 ?_
    show gx_G Γ Ω LM (gx_Q Γ Ω LM (some (.int r0)) v0) 3 v1 54 [] []
    refine gi_iconst (x := (-1 : Int32)) (n := 55) hX rfl dX8_other_54 rfl ?_
    exact gi_iret hX rfl dX8_other_55 h
  · refine key (v, (0 : Int32)) _ e0 ?_
    show some q = some (r0, v0)
    exact h
theorem m_X8_other (l : Launch) (Ω : gO) (x1 : Int32) (v : gV) {r0 : Int32} {v0 : gV} (h : f_X8_other x1 v = some (r0, v0)) : gx_M l Ω LM yX8_other cX8_other 3 (some .int) 2 [.ref (Ω.1 0), .int x1] v (some (.int r0)) v0 := gx_start (lv := [(0, .ref (Ω.1 0)), (1, .int x1)]) (by decide +kernel) (Nat.le_of_ble_eq_true rfl) rfl (fun Γ _ hR hX => t_X8_other hX hR x1 v h)
set_option maxRecDepth 20000 in
theorem t_X8_changesOne_J60 {Γ : gC} {Ω : gO} {r0 : Int32} {v0 : gV} (hX : gx_X Γ Ω cX8_changesOne RX8 6 (some .boolean)) (hR : Γ.2.2.2.1 = gx_R 3) (x1 : Int32) (x4 : Int32) (s0 : Int32) (v : gV) (h : f_X8_changesOne_J60 x1 x4 s0 v = some (r0, v0)) : gx_G Γ Ω LM (gx_Q Γ Ω LM (some (.int r0)) v0) 6 v 60 [(0, .ref (Ω.1 0)), (1, .int x1), (4, .int x4)] [.int s0] := by
  rw [f_X8_changesOne_J60] at h
  refine gi_istore (n := 62) hX [(5, .int s0), (0, .ref (Ω.1 0)), (1, .int x1), (4, .int x4)] dX8_changesOne_60 rfl rfl rfl ?_
  refine gi_iload (n := 64) hX 0 dX8_changesOne_62 rfl rfl ?_
  refine gi_iconst (x := (-1 : Int32)) (n := 65) hX rfl dX8_changesOne_64 rfl ?_
  refine gi_icmp_ne (tgt := 70) (n := 68) hX dX8_changesOne_65 rfl rfl h (fun h => ?_) (fun h => ?_)
  · refine gi_aload_n (n := 71) hX 1 dX8_changesOne_70 rfl rfl rfl ?_
    refine gi_iload (n := 73) hX 3 dX8_changesOne_71 rfl rfl ?_
    obtain ⟨v1, e2, h⟩ := bv_some h
    refine gi_virtV (st := []) (n := 76) hX hR kc_X8 ly_X8 mv_X8_takes ml_X8_167 (m_X8_takes Γ.2.1 Ω x4 v e2) rfl ⟨rfl, rfl⟩ rfl dX8_changesOne_73 rfl rfl ?_
    refine gi_aload_n (n := 77) hX 1 dX8_changesOne_76 rfl rfl rfl ?_
    refine gi_iload_n (n := 78) hX 2 dX8_changesOne_77 rfl rfl rfl ?_
    refine gi_iconst (x := (1 : Int32)) (n := 79) hX rfl dX8_changesOne_78 rfl ?_
    obtain ⟨v3, e4, h⟩ := bv_some h
    refine gi_virtV (st := []) (n := 82) hX hR kc_X8 ly_X8 mv_X8_gives ml_X8_170 (m_X8_gives Γ.2.1 Ω x1 (1 : Int32) v1 e4) rfl ⟨rfl, rfl⟩ rfl dX8_changesOne_79 rfl rfl ?_
    refine gi_aload_n (n := 83) hX 1 dX8_changesOne_82 rfl rfl rfl ?_
    refine gi_iload (n := 85) hX 0 dX8_changesOne_83 rfl rfl ?_
    refine gi_iconst (x := (1 : Int32)) (n := 86) hX rfl dX8_changesOne_85 rfl ?_
    obtain ⟨v5, e6, h⟩ := bv_some h
    refine gi_virtV (st := []) (n := 89) hX hR kc_X8 ly_X8 mv_X8_gives ml_X8_170 (m_X8_gives Γ.2.1 Ω s0 (1 : Int32) v3 e6) rfl ⟨rfl, rfl⟩ rfl dX8_changesOne_86 rfl rfl ?_
    refine gi_iconst (x := (1 : Int32)) (n := 90) hX rfl dX8_changesOne_89 rfl ?_
    exact gi_zret hX rfl dX8_changesOne_90 h
  · refine gi_iconst (x := (0 : Int32)) (n := 69) hX rfl dX8_changesOne_68 rfl ?_
    exact gi_zret hX rfl dX8_changesOne_69 h
set_option maxRecDepth 20000 in
theorem t_X8_changesOne {Γ : gC} {Ω : gO} {r0 : Int32} {v0 : gV} (hX : gx_X Γ Ω cX8_changesOne RX8 6 (some .boolean)) (hR : Γ.2.2.2.1 = gx_R 3) (x1 : Int32) (v : gV) (h : f_X8_changesOne x1 v = some (r0, v0)) : gx_G Γ Ω LM (gx_Q Γ Ω LM (some (.int r0)) v0) 6 v 0 [(0, .ref (Ω.1 0)), (1, .int x1)] [] := by
  rw [f_X8_changesOne] at h
  refine gi_aload_n (n := 1) hX 0 dX8_changesOne_0 rfl rfl rfl ?_
  refine gi_getR (n := 4) hX 8 kc_X8 ly_X8 rfl rfl fl_X8_28 dX8_changesOne_1 rfl ?_
  refine gi_iconst (x := (4 : Int32)) (n := 5) hX rfl dX8_changesOne_4 rfl ?_
  refine gi_iload_n (n := 6) hX 1 dX8_changesOne_5 rfl rfl rfl ?_
  refine gi_imul (n := 7) hX dX8_changesOne_6 rfl ?_
  refine gi_iconst (x := (3 : Int32)) (n := 8) hX rfl dX8_changesOne_7 rfl ?_
  refine gi_iadd (n := 9) hX dX8_changesOne_8 rfl ?_
  refine gi_iald (n := 10) hX lm_7 dX8_changesOne_9 rfl h (fun h => ?_)
  refine gi_topI h (fun u1 h => ?_)
  refine gi_istore_n (n := 11) hX [(2, .int u1), (0, .ref (Ω.1 0)), (1, .int x1)] dX8_changesOne_10 rfl rfl rfl rfl ?_
  refine gi_aload_n (n := 12) hX 1 dX8_changesOne_11 rfl rfl rfl ?_
  refine gi_iload_n (n := 13) hX 0 dX8_changesOne_12 rfl rfl rfl ?_
  obtain ⟨r4, v2, e3, h⟩ := bi_some h
  refine gi_virtI (st := []) (n := 16) hX hR kc_X8 ly_X8 mv_X8_find ml_X8_164 (m_X8_find Γ.2.1 Ω u1 v e3) rfl ⟨rfl, rfl⟩ rfl dX8_changesOne_13 rfl rfl ?_
  refine gi_istore_n (n := 17) hX [(3, .int r4), (2, .int u1), (0, .ref (Ω.1 0)), (1, .int x1)] dX8_changesOne_16 rfl rfl rfl rfl ?_
  refine gi_iload_n (n := 18) hX 0 dX8_changesOne_17 rfl rfl rfl ?_
  refine gi_iconst (x := (-1 : Int32)) (n := 19) hX rfl dX8_changesOne_18 rfl ?_
  refine gi_icmp_eq (tgt := 35) (n := 22) hX dX8_changesOne_19 rfl rfl h (fun h => ?_) (fun h => ?_)
  · refine gi_aload_n (n := 36) hX 2 dX8_changesOne_35 rfl rfl rfl ?_
    refine gi_iload_n (n := 37) hX 1 dX8_changesOne_36 rfl rfl rfl ?_
    refine gi_bipush (x := (8 : Int32)) (n := 39) hX rfl dX8_changesOne_37 rfl ?_
    refine gi_iadd (n := 40) hX dX8_changesOne_39 rfl ?_
    obtain ⟨r7, v5, e6, h⟩ := bi_some h
    refine gi_virtI (st := []) (n := 43) hX hR kc_X8 ly_X8 mv_X8_find ml_X8_164 (m_X8_find Γ.2.1 Ω (u1 + (8 : Int32)) v2 e6) rfl ⟨rfl, rfl⟩ rfl dX8_changesOne_40 rfl rfl ?_
    refine gi_istore (n := 45) hX [(4, .int r7), (3, .int r4), (2, .int u1), (0, .ref (Ω.1 0)), (1, .int x1)] dX8_changesOne_43 rfl rfl rfl ?_
    refine gi_iload (n := 47) hX 0 dX8_changesOne_45 rfl rfl ?_
    refine gi_iconst (x := (-1 : Int32)) (n := 48) hX rfl dX8_changesOne_47 rfl ?_
    refine gi_icmp_ne (tgt := 55) (n := 51) hX dX8_changesOne_48 rfl rfl h (fun h => ?_) (fun h => ?_)
    · refine gi_aload_n (n := 56) hX 3 dX8_changesOne_55 rfl rfl rfl ?_
      refine gi_iload_n (n := 57) hX 4 dX8_changesOne_56 rfl rfl rfl ?_
      obtain ⟨r10, v8, e9, h⟩ := bi_some h
      refine gi_virtI (st := []) (n := 60) hX hR kc_X8 ly_X8 mv_X8_other ml_X8_174 (m_X8_other Γ.2.1 Ω x1 v5 e9) rfl ⟨rfl, rfl⟩ rfl dX8_changesOne_57 rfl rfl ?_
      refine gi_sub [3, 4, 0] rfl ?_
      exact t_X8_changesOne_J60 hX hR x1 r7 r10 v8 h
    · refine gi_iconst (x := (-1 : Int32)) (n := 52) hX rfl dX8_changesOne_51 rfl ?_
      refine gi_goto (n := 60) hX dX8_changesOne_52 rfl ?_
      refine gi_sub [3, 4, 0] rfl ?_
      exact t_X8_changesOne_J60 hX hR x1 r7 (-1 : Int32) v5 h
  · refine gi_aload_n (n := 23) hX 2 dX8_changesOne_22 rfl rfl rfl ?_
    refine gi_iload_n (n := 24) hX 0 dX8_changesOne_23 rfl rfl rfl ?_
    obtain ⟨v11, e12, h⟩ := bv_some h
    refine gi_virtV (st := []) (n := 27) hX hR kc_X8 ly_X8 mv_X8_takes ml_X8_167 (m_X8_takes Γ.2.1 Ω r4 v2 e12) rfl ⟨rfl, rfl⟩ rfl dX8_changesOne_24 rfl rfl ?_
    refine gi_aload_n (n := 28) hX 2 dX8_changesOne_27 rfl rfl rfl ?_
    refine gi_iload_n (n := 29) hX 3 dX8_changesOne_28 rfl rfl rfl ?_
    refine gi_iconst (x := (0 : Int32)) (n := 30) hX rfl dX8_changesOne_29 rfl ?_
    obtain ⟨v13, e14, h⟩ := bv_some h
    refine gi_virtV (st := []) (n := 33) hX hR kc_X8 ly_X8 mv_X8_gives ml_X8_170 (m_X8_gives Γ.2.1 Ω x1 (0 : Int32) v11 e14) rfl ⟨rfl, rfl⟩ rfl dX8_changesOne_30 rfl rfl ?_
    refine gi_iconst (x := (1 : Int32)) (n := 34) hX rfl dX8_changesOne_33 rfl ?_
    exact gi_zret hX rfl dX8_changesOne_34 h
theorem m_X8_changesOne (l : Launch) (Ω : gO) (x1 : Int32) (v : gV) {r0 : Int32} {v0 : gV} (h : f_X8_changesOne x1 v = some (r0, v0)) : gx_M l Ω LM yX8_changesOne cX8_changesOne 6 (some .boolean) 3 [.ref (Ω.1 0), .int x1] v (some (.int r0)) v0 := gx_start (lv := [(0, .ref (Ω.1 0)), (1, .int x1)]) (by decide +kernel) (Nat.le_of_ble_eq_true rfl) rfl (fun Γ _ hR hX => t_X8_changesOne hX hR x1 v h)
set_option maxRecDepth 20000 in
theorem t_X8_stops_J96 {Γ : gC} {Ω : gO} {v0 : gV} {o : (gV × Int32) ⊕ (gV)} (hX : gx_X Γ Ω cX8_stops RX8 4 (none)) (hR : Γ.2.2.2.1 = gx_R 4) (x1 : Int32) (x2 : Int32) (x3 : Int32) (v : gV) (h : f_X8_stops_J96 x1 x2 x3 v = some o) (hc : ∀ c0 c1, o = .inl (c0, c1) → gx_G Γ Ω LM (gx_Q Γ Ω LM none v0) 4 c0 2 [(0, .ref (Ω.1 0)), (1, .int x1), (2, .int x2), (3, .int c1)] []) (hz : ∀ z0, o = .inr z0 → gx_G Γ Ω LM (gx_Q Γ Ω LM none v0) 4 z0 102 [(0, .ref (Ω.1 0)), (1, .int x1), (2, .int x2)] []) : gx_G Γ Ω LM (gx_Q Γ Ω LM none v0) 4 v 96 [(0, .ref (Ω.1 0)), (1, .int x1), (2, .int x2), (3, .int x3)] [] := by
  rw [f_X8_stops_J96] at h
  refine gi_iinc (z := (1 : Int32)) (n := 99) hX 3 [(3, .int (x3 + (1 : Int32))), (0, .ref (Ω.1 0)), (1, .int x1), (2, .int x2)] dX8_stops_96 rfl rfl rfl rfl rfl rfl ?_
  refine gi_goto (n := 2) hX dX8_stops_99 rfl ?_
  refine gi_sub [1, 2, 3, 0] rfl ?_
  exact hc _ _ (Option.some.inj h).symm
set_option maxRecDepth 20000 in
theorem t_X8_stops_B2 {Γ : gC} {Ω : gO} {v0 : gV} {o : (gV × Int32) ⊕ (gV)} (hX : gx_X Γ Ω cX8_stops RX8 4 (none)) (hR : Γ.2.2.2.1 = gx_R 4) (x1 : Int32) (x2 : Int32) (x3 : Int32) (v : gV) (h : f_X8_stops_B2 x1 x2 x3 v = some o) (hc : ∀ c0 c1, o = .inl (c0, c1) → gx_G Γ Ω LM (gx_Q Γ Ω LM none v0) 4 c0 2 [(0, .ref (Ω.1 0)), (1, .int x1), (2, .int x2), (3, .int c1)] []) (hz : ∀ z0, o = .inr z0 → gx_G Γ Ω LM (gx_Q Γ Ω LM none v0) 4 z0 102 [(0, .ref (Ω.1 0)), (1, .int x1), (2, .int x2)] []) : gx_G Γ Ω LM (gx_Q Γ Ω LM none v0) 4 v 2 [(0, .ref (Ω.1 0)), (1, .int x1), (2, .int x2), (3, .int x3)] [] := by
  rw [f_X8_stops_B2] at h
  refine gi_iload_n (n := 3) hX 3 dX8_stops_2 rfl rfl rfl ?_
  refine gi_aload_n (n := 4) hX 0 dX8_stops_3 rfl rfl rfl ?_
  refine gi_getI (n := 7) hX 7 kc_X8 ly_X8 rfl rfl fl_X8_120 dX8_stops_4 rfl ?_
  refine gi_icmp_ge (tgt := 102) (n := 10) hX dX8_stops_7 rfl rfl h (fun h => ?_) (fun h => ?_)
  · refine gi_sub [0, 1, 2] rfl ?_
    exact hz _ (Option.some.inj h).symm
  · refine gi_aload_n (n := 11) hX 0 dX8_stops_10 rfl rfl rfl ?_
    refine gi_getI (n := 14) hX 16 kc_X8 ly_X8 rfl rfl fl_X8_150 dX8_stops_11 rfl ?_
    refine gi_iload_n (n := 15) hX 3 dX8_stops_14 rfl rfl rfl ?_
    obtain ⟨r3, v1, e2, h⟩ := bi_some h
    refine gi_statI (st := []) (n := 18) hX hR ms_X8_isIn ml_X8_153 (m_X8_isIn Γ.2.1 Ω (v.1 0 16) x3 v e2) rfl ⟨rfl, rfl⟩ rfl dX8_stops_15 rfl rfl ?_
    refine gi_if_eq (tgt := 96) (n := 21) hX dX8_stops_18 rfl rfl h (fun h => ?_) (fun h => ?_)
    · exact t_X8_stops_J96 hX hR x1 x2 x3 v1 h hc hz
    · refine gi_aload_n (n := 22) hX 0 dX8_stops_21 rfl rfl rfl ?_
      refine gi_getR (n := 25) hX 8 kc_X8 ly_X8 rfl rfl fl_X8_28 dX8_stops_22 rfl ?_
      refine gi_iconst (x := (4 : Int32)) (n := 26) hX rfl dX8_stops_25 rfl ?_
      refine gi_iload_n (n := 27) hX 3 dX8_stops_26 rfl rfl rfl ?_
      refine gi_imul (n := 28) hX dX8_stops_27 rfl ?_
      refine gi_iconst (x := (2 : Int32)) (n := 29) hX rfl dX8_stops_28 rfl ?_
      refine gi_iadd (n := 30) hX dX8_stops_29 rfl ?_
      refine gi_iald (n := 31) hX lm_7 dX8_stops_30 rfl h (fun h => ?_)
      refine gi_iload_n (n := 32) hX 2 dX8_stops_31 rfl rfl rfl ?_
      refine gi_icmp_ne (tgt := 96) (n := 35) hX dX8_stops_32 rfl rfl h (fun h => ?_) (fun h => ?_)
      · exact t_X8_stops_J96 hX hR x1 x2 x3 v1 h hc hz
      · refine gi_aload_n (n := 36) hX 0 dX8_stops_35 rfl rfl rfl ?_
        refine gi_dup (n := 37) hX rfl dX8_stops_36 rfl ?_
        refine gi_getI (n := 40) hX 16 kc_X8 ly_X8 rfl rfl fl_X8_150 dX8_stops_37 rfl ?_
        refine gi_iconst (x := (1 : Int32)) (n := 41) hX rfl dX8_stops_40 rfl ?_
        refine gi_iload_n (n := 42) hX 3 dX8_stops_41 rfl rfl rfl ?_
        refine gi_ishl (n := 43) hX dX8_stops_42 rfl ?_
        refine gi_iconst (x := (-1 : Int32)) (n := 44) hX rfl dX8_stops_43 rfl ?_
        refine gi_ixor (n := 45) hX dX8_stops_44 rfl ?_
        refine gi_iand (n := 46) hX dX8_stops_45 rfl ?_
        refine gi_putI (n := 49) hX 16 kc_X8 ly_X8 rfl rfl fl_X8_150 rfl rfl dX8_stops_46 rfl h (fun v4 h => ?_)
        refine gi_aload_n (n := 50) hX 0 dX8_stops_49 rfl rfl rfl ?_
        refine gi_getR (n := 53) hX 12 kc_X8 ly_X8 rfl rfl fl_X8_37 dX8_stops_50 rfl ?_
        refine gi_iconst (x := (2 : Int32)) (n := 54) hX rfl dX8_stops_53 rfl ?_
        refine gi_iald (n := 55) hX lm_10 dX8_stops_54 rfl h (fun h => ?_)
        refine gi_iload_n (n := 56) hX 3 dX8_stops_55 rfl rfl rfl ?_
        obtain ⟨r7, v5, e6, h⟩ := bi_some h
        refine gi_statI (st := []) (n := 59) hX hR ms_X8_isIn ml_X8_153 (m_X8_isIn Γ.2.1 Ω (v4.1 10 ((2 : Int32)).toNatClampNeg) x3 v4 e6) rfl ⟨rfl, rfl⟩ rfl dX8_stops_56 rfl rfl ?_
        refine gi_if_eq (tgt := 96) (n := 62) hX dX8_stops_59 rfl rfl h (fun h => ?_) (fun h => ?_)
        · exact t_X8_stops_J96 hX hR x1 x2 x3 v5 h hc hz
        · refine gi_aload_n (n := 63) hX 0 dX8_stops_62 rfl rfl rfl ?_
          refine gi_getR (n := 66) hX 14 kc_X8 ly_X8 rfl rfl fl_X8_40 dX8_stops_63 rfl ?_
          refine gi_iload_n (n := 67) hX 3 dX8_stops_66 rfl rfl rfl ?_
          refine gi_iald (n := 68) hX lm_11 dX8_stops_67 rfl h (fun h => ?_)
          refine gi_iconst (x := (-1 : Int32)) (n := 69) hX rfl dX8_stops_68 rfl ?_
          refine gi_icmp_eq (tgt := 96) (n := 72) hX dX8_stops_69 rfl rfl h (fun h => ?_) (fun h => ?_)
          · exact t_X8_stops_J96 hX hR x1 x2 x3 v5 h hc hz
          · refine gi_aload_n (n := 73) hX 0 dX8_stops_72 rfl rfl rfl ?_
            refine gi_aload_n (n := 74) hX 0 dX8_stops_73 rfl rfl rfl ?_
            refine gi_getR (n := 77) hX 14 kc_X8 ly_X8 rfl rfl fl_X8_40 dX8_stops_74 rfl ?_
            refine gi_iload_n (n := 78) hX 3 dX8_stops_77 rfl rfl rfl ?_
            refine gi_iald (n := 79) hX lm_11 dX8_stops_78 rfl h (fun h => ?_)
            obtain ⟨v8, e9, h⟩ := bv_some h
            refine gi_virtV (st := []) (n := 82) hX hR kc_X8 ly_X8 mv_X8_puts ml_X8_160 (m_X8_puts Γ.2.1 Ω (v5.1 11 (x3).toNatClampNeg) v5 e9) rfl ⟨rfl, rfl⟩ rfl dX8_stops_79 rfl rfl ?_
            refine gi_aload_n (n := 83) hX 0 dX8_stops_82 rfl rfl rfl ?_
            refine gi_getR (n := 86) hX 14 kc_X8 ly_X8 rfl rfl fl_X8_40 dX8_stops_83 rfl ?_
            refine gi_iload_n (n := 87) hX 3 dX8_stops_86 rfl rfl rfl ?_
            refine gi_iconst (x := (-1 : Int32)) (n := 88) hX rfl dX8_stops_87 rfl ?_
            refine gi_iast (n := 89) hX lm_11 dX8_stops_88 rfl h (fun v10 h => ?_)
            refine gi_aload_n (n := 90) hX 0 dX8_stops_89 rfl rfl rfl ?_
            refine gi_getR (n := 93) hX 15 kc_X8 ly_X8 rfl rfl fl_X8_43 dX8_stops_90 rfl ?_
            refine gi_iload_n (n := 94) hX 3 dX8_stops_93 rfl rfl rfl ?_
            refine gi_iconst (x := (0 : Int32)) (n := 95) hX rfl dX8_stops_94 rfl ?_
            refine gi_iast (n := 96) hX lm_12 dX8_stops_95 rfl h (fun v11 h => ?_)
            exact t_X8_stops_J96 hX hR x1 x2 x3 v11 h hc hz
set_option maxRecDepth 20000 in
theorem t_X8_stops_J152 {Γ : gC} {Ω : gO} {v0 : gV} {o : (gV × Int32) ⊕ (gV)} (hX : gx_X Γ Ω cX8_stops RX8 4 (none)) (hR : Γ.2.2.2.1 = gx_R 4) (x1 : Int32) (x2 : Int32) (x3 : Int32) (s0 : Int32) (s1 : Int32) (v : gV) (h : f_X8_stops_J152 x1 x2 x3 s0 s1 v = some o) (hc : ∀ c0 c1, o = .inl (c0, c1) → gx_G Γ Ω LM (gx_Q Γ Ω LM none v0) 4 c0 104 [(0, .ref (Ω.1 0)), (1, .int x1), (2, .int x2), (3, .int c1)] []) (hz : ∀ z0, o = .inr z0 → gx_G Γ Ω LM (gx_Q Γ Ω LM none v0) 4 z0 162 [(0, .ref (Ω.1 0)), (1, .int x1), (2, .int x2)] []) : gx_G Γ Ω LM (gx_Q Γ Ω LM none v0) 4 v 152 [(0, .ref (Ω.1 0)), (1, .int x1), (2, .int x2), (3, .int x3)] [.int s0, .int s1, .ref (Ω.1 0)] := by
  rw [f_X8_stops_J152] at h
  refine gi_ior (n := 153) hX dX8_stops_152 rfl ?_
  refine gi_putI (n := 156) hX 16 kc_X8 ly_X8 rfl rfl fl_X8_150 rfl rfl dX8_stops_153 rfl h (fun v1 h => ?_)
  refine gi_iinc (z := (1 : Int32)) (n := 159) hX 3 [(3, .int (x3 + (1 : Int32))), (0, .ref (Ω.1 0)), (1, .int x1), (2, .int x2)] dX8_stops_156 rfl rfl rfl rfl rfl rfl ?_
  refine gi_goto (n := 104) hX dX8_stops_159 rfl ?_
  refine gi_sub [1, 2, 3, 0] rfl ?_
  exact hc _ _ (Option.some.inj h).symm
set_option maxRecDepth 20000 in
theorem t_X8_stops_J151 {Γ : gC} {Ω : gO} {v0 : gV} {o : (gV × Int32) ⊕ (gV)} (hX : gx_X Γ Ω cX8_stops RX8 4 (none)) (hR : Γ.2.2.2.1 = gx_R 4) (x1 : Int32) (x2 : Int32) (x3 : Int32) (s0 : Int32) (v : gV) (h : f_X8_stops_J151 x1 x2 x3 s0 v = some o) (hc : ∀ c0 c1, o = .inl (c0, c1) → gx_G Γ Ω LM (gx_Q Γ Ω LM none v0) 4 c0 104 [(0, .ref (Ω.1 0)), (1, .int x1), (2, .int x2), (3, .int c1)] []) (hz : ∀ z0, o = .inr z0 → gx_G Γ Ω LM (gx_Q Γ Ω LM none v0) 4 z0 162 [(0, .ref (Ω.1 0)), (1, .int x1), (2, .int x2)] []) : gx_G Γ Ω LM (gx_Q Γ Ω LM none v0) 4 v 151 [(0, .ref (Ω.1 0)), (1, .int x1), (2, .int x2), (3, .int x3)] [.int s0, .ref (Ω.1 0)] := by
  rw [f_X8_stops_J151] at h
  refine gi_iconst (x := (0 : Int32)) (n := 152) hX rfl dX8_stops_151 rfl ?_
  exact t_X8_stops_J152 hX hR x1 x2 x3 (0 : Int32) s0 v h hc hz
set_option maxRecDepth 20000 in
theorem t_X8_stops_B104 {Γ : gC} {Ω : gO} {v0 : gV} {o : (gV × Int32) ⊕ (gV)} (hX : gx_X Γ Ω cX8_stops RX8 4 (none)) (hR : Γ.2.2.2.1 = gx_R 4) (x1 : Int32) (x2 : Int32) (x3 : Int32) (v : gV) (h : f_X8_stops_B104 x1 x2 x3 v = some o) (hc : ∀ c0 c1, o = .inl (c0, c1) → gx_G Γ Ω LM (gx_Q Γ Ω LM none v0) 4 c0 104 [(0, .ref (Ω.1 0)), (1, .int x1), (2, .int x2), (3, .int c1)] []) (hz : ∀ z0, o = .inr z0 → gx_G Γ Ω LM (gx_Q Γ Ω LM none v0) 4 z0 162 [(0, .ref (Ω.1 0)), (1, .int x1), (2, .int x2)] []) : gx_G Γ Ω LM (gx_Q Γ Ω LM none v0) 4 v 104 [(0, .ref (Ω.1 0)), (1, .int x1), (2, .int x2), (3, .int x3)] [] := by
  rw [f_X8_stops_B104] at h
  refine gi_iload_n (n := 105) hX 3 dX8_stops_104 rfl rfl rfl ?_
  refine gi_aload_n (n := 106) hX 0 dX8_stops_105 rfl rfl rfl ?_
  refine gi_getI (n := 109) hX 7 kc_X8 ly_X8 rfl rfl fl_X8_120 dX8_stops_106 rfl ?_
  refine gi_icmp_ge (tgt := 162) (n := 112) hX dX8_stops_109 rfl rfl h (fun h => ?_) (fun h => ?_)
  · refine gi_sub [0, 1, 2] rfl ?_
    exact hz _ (Option.some.inj h).symm
  · refine gi_aload_n (n := 113) hX 0 dX8_stops_112 rfl rfl rfl ?_
    refine gi_dup (n := 114) hX rfl dX8_stops_113 rfl ?_
    refine gi_getI (n := 117) hX 16 kc_X8 ly_X8 rfl rfl fl_X8_150 dX8_stops_114 rfl ?_
    refine gi_aload_n (n := 118) hX 0 dX8_stops_117 rfl rfl rfl ?_
    refine gi_getR (n := 121) hX 8 kc_X8 ly_X8 rfl rfl fl_X8_28 dX8_stops_118 rfl ?_
    refine gi_iconst (x := (4 : Int32)) (n := 122) hX rfl dX8_stops_121 rfl ?_
    refine gi_iload_n (n := 123) hX 3 dX8_stops_122 rfl rfl rfl ?_
    refine gi_imul (n := 124) hX dX8_stops_123 rfl ?_
    refine gi_iconst (x := (1 : Int32)) (n := 125) hX rfl dX8_stops_124 rfl ?_
    refine gi_iadd (n := 126) hX dX8_stops_125 rfl ?_
    refine gi_iald (n := 127) hX lm_7 dX8_stops_126 rfl h (fun h => ?_)
    refine gi_iload_n (n := 128) hX 2 dX8_stops_127 rfl rfl rfl ?_
    refine gi_icmp_ne (tgt := 151) (n := 131) hX dX8_stops_128 rfl rfl h (fun h => ?_) (fun h => ?_)
    · exact t_X8_stops_J151 hX hR x1 x2 x3 (v.1 0 16) v h hc hz
    · refine gi_aload_n (n := 132) hX 0 dX8_stops_131 rfl rfl rfl ?_
      refine gi_getR (n := 135) hX 8 kc_X8 ly_X8 rfl rfl fl_X8_28 dX8_stops_132 rfl ?_
      refine gi_iconst (x := (4 : Int32)) (n := 136) hX rfl dX8_stops_135 rfl ?_
      refine gi_iload_n (n := 137) hX 3 dX8_stops_136 rfl rfl rfl ?_
      refine gi_imul (n := 138) hX dX8_stops_137 rfl ?_
      refine gi_iconst (x := (2 : Int32)) (n := 139) hX rfl dX8_stops_138 rfl ?_
      refine gi_iadd (n := 140) hX dX8_stops_139 rfl ?_
      refine gi_iald (n := 141) hX lm_7 dX8_stops_140 rfl h (fun h => ?_)
      refine gi_iload_n (n := 142) hX 2 dX8_stops_141 rfl rfl rfl ?_
      refine gi_icmp_le (tgt := 151) (n := 145) hX dX8_stops_142 rfl rfl h (fun h => ?_) (fun h => ?_)
      · exact t_X8_stops_J151 hX hR x1 x2 x3 (v.1 0 16) v h hc hz
      · refine gi_iconst (x := (1 : Int32)) (n := 146) hX rfl dX8_stops_145 rfl ?_
        refine gi_iload_n (n := 147) hX 3 dX8_stops_146 rfl rfl rfl ?_
        refine gi_ishl (n := 148) hX dX8_stops_147 rfl ?_
        refine gi_goto (n := 152) hX dX8_stops_148 rfl ?_
        exact t_X8_stops_J152 hX hR x1 x2 x3 ((1 : Int32) <<< (x3 &&& 31)) (v.1 0 16) v h hc hz
set_option maxRecDepth 20000 in
theorem t_X8_stops_J239 {Γ : gC} {Ω : gO} {v0 : gV} {o : (gV × Int32) ⊕ (gV)} (hX : gx_X Γ Ω cX8_stops RX8 4 (none)) (hR : Γ.2.2.2.1 = gx_R 4) (x1 : Int32) (x2 : Int32) (x3 : Int32) (v : gV) (h : f_X8_stops_J239 x1 x2 x3 v = some o) (hc : ∀ c0 c1, o = .inl (c0, c1) → gx_G Γ Ω LM (gx_Q Γ Ω LM none v0) 4 c0 164 [(0, .ref (Ω.1 0)), (1, .int x1), (2, .int x2), (3, .int c1)] []) (hz : ∀ z0, o = .inr z0 → gx_G Γ Ω LM (gx_Q Γ Ω LM none v0) 4 z0 245 [] []) : gx_G Γ Ω LM (gx_Q Γ Ω LM none v0) 4 v 239 [(0, .ref (Ω.1 0)), (1, .int x1), (2, .int x2), (3, .int x3)] [] := by
  rw [f_X8_stops_J239] at h
  refine gi_iinc (z := (1 : Int32)) (n := 242) hX 3 [(3, .int (x3 + (1 : Int32))), (0, .ref (Ω.1 0)), (1, .int x1), (2, .int x2)] dX8_stops_239 rfl rfl rfl rfl rfl rfl ?_
  refine gi_goto (n := 164) hX dX8_stops_242 rfl ?_
  refine gi_sub [1, 2, 3, 0] rfl ?_
  exact hc _ _ (Option.some.inj h).symm
set_option maxRecDepth 20000 in
theorem t_X8_stops_J229 {Γ : gC} {Ω : gO} {v0 : gV} {o : (gV × Int32) ⊕ (gV)} (hX : gx_X Γ Ω cX8_stops RX8 4 (none)) (hR : Γ.2.2.2.1 = gx_R 4) (x1 : Int32) (x2 : Int32) (x3 : Int32) (v : gV) (h : f_X8_stops_J229 x1 x2 x3 v = some o) (hc : ∀ c0 c1, o = .inl (c0, c1) → gx_G Γ Ω LM (gx_Q Γ Ω LM none v0) 4 c0 164 [(0, .ref (Ω.1 0)), (1, .int x1), (2, .int x2), (3, .int c1)] []) (hz : ∀ z0, o = .inr z0 → gx_G Γ Ω LM (gx_Q Γ Ω LM none v0) 4 z0 245 [] []) : gx_G Γ Ω LM (gx_Q Γ Ω LM none v0) 4 v 229 [(0, .ref (Ω.1 0)), (1, .int x1), (2, .int x2), (3, .int x3)] [] := by
  rw [f_X8_stops_J229] at h
  refine gi_aload_n (n := 230) hX 0 dX8_stops_229 rfl rfl rfl ?_
  refine gi_dup (n := 231) hX rfl dX8_stops_230 rfl ?_
  refine gi_getI (n := 234) hX 24 kc_X8 ly_X8 rfl rfl fl_X8_180 dX8_stops_231 rfl ?_
  refine gi_iconst (x := (1 : Int32)) (n := 235) hX rfl dX8_stops_234 rfl ?_
  refine gi_iadd (n := 236) hX dX8_stops_235 rfl ?_
  refine gi_putI (n := 239) hX 24 kc_X8 ly_X8 rfl rfl fl_X8_180 rfl rfl dX8_stops_236 rfl h (fun v1 h => ?_)
  exact t_X8_stops_J239 hX hR x1 x2 x3 v1 h hc hz
set_option maxRecDepth 20000 in
theorem t_X8_stops_B164 {Γ : gC} {Ω : gO} {v0 : gV} {o : (gV × Int32) ⊕ (gV)} (hX : gx_X Γ Ω cX8_stops RX8 4 (none)) (hR : Γ.2.2.2.1 = gx_R 4) (x1 : Int32) (x2 : Int32) (x3 : Int32) (v : gV) (h : f_X8_stops_B164 x1 x2 x3 v = some o) (hc : ∀ c0 c1, o = .inl (c0, c1) → gx_G Γ Ω LM (gx_Q Γ Ω LM none v0) 4 c0 164 [(0, .ref (Ω.1 0)), (1, .int x1), (2, .int x2), (3, .int c1)] []) (hz : ∀ z0, o = .inr z0 → gx_G Γ Ω LM (gx_Q Γ Ω LM none v0) 4 z0 245 [] []) : gx_G Γ Ω LM (gx_Q Γ Ω LM none v0) 4 v 164 [(0, .ref (Ω.1 0)), (1, .int x1), (2, .int x2), (3, .int x3)] [] := by
  rw [f_X8_stops_B164] at h
  refine gi_iload_n (n := 165) hX 3 dX8_stops_164 rfl rfl rfl ?_
  refine gi_aload_n (n := 166) hX 0 dX8_stops_165 rfl rfl rfl ?_
  refine gi_getI (n := 169) hX 7 kc_X8 ly_X8 rfl rfl fl_X8_120 dX8_stops_166 rfl ?_
  refine gi_icmp_ge (tgt := 245) (n := 172) hX dX8_stops_169 rfl rfl h (fun h => ?_) (fun h => ?_)
  · refine gi_sub [] rfl ?_
    exact hz _ (Option.some.inj h).symm
  · refine gi_aload_n (n := 173) hX 0 dX8_stops_172 rfl rfl rfl ?_
    refine gi_getR (n := 176) hX 12 kc_X8 ly_X8 rfl rfl fl_X8_37 dX8_stops_173 rfl ?_
    refine gi_iconst (x := (1 : Int32)) (n := 177) hX rfl dX8_stops_176 rfl ?_
    refine gi_iald (n := 178) hX lm_10 dX8_stops_177 rfl h (fun h => ?_)
    refine gi_iload_n (n := 179) hX 2 dX8_stops_178 rfl rfl rfl ?_
    obtain ⟨r3, v1, e2, h⟩ := bi_some h
    refine gi_statI (st := []) (n := 182) hX hR ms_X8_isIn ml_X8_153 (m_X8_isIn Γ.2.1 Ω (v.1 10 ((1 : Int32)).toNatClampNeg) x2 v e2) rfl ⟨rfl, rfl⟩ rfl dX8_stops_179 rfl rfl ?_
    refine gi_if_eq (tgt := 245) (n := 185) hX dX8_stops_182 rfl rfl h (fun h => ?_) (fun h => ?_)
    · refine gi_sub [] rfl ?_
      exact hz _ (Option.some.inj h).symm
    · refine gi_aload_n (n := 186) hX 0 dX8_stops_185 rfl rfl rfl ?_
      refine gi_iload_n (n := 187) hX 3 dX8_stops_186 rfl rfl rfl ?_
      obtain ⟨r6, v4, e5, h⟩ := bi_some h
      refine gi_virtI (st := []) (n := 190) hX hR kc_X8 ly_X8 mv_X8_may ml_X8_157 (m_X8_may Γ.2.1 Ω x3 v1 e5) rfl ⟨rfl, rfl⟩ rfl dX8_stops_187 rfl rfl ?_
      refine gi_if_eq (tgt := 239) (n := 193) hX dX8_stops_190 rfl rfl h (fun h => ?_) (fun h => ?_)
      · exact t_X8_stops_J239 hX hR x1 x2 x3 v4 h hc hz
      · refine gi_aload_n (n := 194) hX 0 dX8_stops_193 rfl rfl rfl ?_
        refine gi_iload_n (n := 195) hX 3 dX8_stops_194 rfl rfl rfl ?_
        obtain ⟨r9, v7, e8, h⟩ := bi_some h
        refine gi_virtI (st := []) (n := 198) hX hR kc_X8 ly_X8 mv_X8_changesOne ml_X8_177 (m_X8_changesOne Γ.2.1 Ω x3 v4 e8) rfl ⟨rfl, rfl⟩ rfl dX8_stops_195 rfl rfl ?_
        refine gi_if_eq (tgt := 239) (n := 201) hX dX8_stops_198 rfl rfl h (fun h => ?_) (fun h => ?_)
        · exact t_X8_stops_J239 hX hR x1 x2 x3 v7 h hc hz
        · refine gi_aload_n (n := 202) hX 0 dX8_stops_201 rfl rfl rfl ?_
          refine gi_getI (n := 205) hX 24 kc_X8 ly_X8 rfl rfl fl_X8_180 dX8_stops_202 rfl ?_
          refine gi_if_ne (tgt := 229) (n := 208) hX dX8_stops_205 rfl rfl h (fun h => ?_) (fun h => ?_)
          · exact t_X8_stops_J229 hX hR x1 x2 x3 v7 h hc hz
          · refine gi_aload_n (n := 209) hX 0 dX8_stops_208 rfl rfl rfl ?_
            refine gi_getR (n := 212) hX 23 kc_X8 ly_X8 rfl rfl fl_X8_61 dX8_stops_209 rfl ?_
            refine gi_iconst (x := (0 : Int32)) (n := 213) hX rfl dX8_stops_212 rfl ?_
            refine gi_iload_n (n := 214) hX 1 dX8_stops_213 rfl rfl rfl ?_
            refine gi_iast (n := 215) hX lm_18 dX8_stops_214 rfl h (fun v10 h => ?_)
            refine gi_aload_n (n := 216) hX 0 dX8_stops_215 rfl rfl rfl ?_
            refine gi_getR (n := 219) hX 23 kc_X8 ly_X8 rfl rfl fl_X8_61 dX8_stops_216 rfl ?_
            refine gi_iconst (x := (1 : Int32)) (n := 220) hX rfl dX8_stops_219 rfl ?_
            refine gi_iload_n (n := 221) hX 2 dX8_stops_220 rfl rfl rfl ?_
            refine gi_iast (n := 222) hX lm_18 dX8_stops_221 rfl h (fun v11 h => ?_)
            refine gi_aload_n (n := 223) hX 0 dX8_stops_222 rfl rfl rfl ?_
            refine gi_getR (n := 226) hX 23 kc_X8 ly_X8 rfl rfl fl_X8_61 dX8_stops_223 rfl ?_
            refine gi_iconst (x := (2 : Int32)) (n := 227) hX rfl dX8_stops_226 rfl ?_
            refine gi_iload_n (n := 228) hX 3 dX8_stops_227 rfl rfl rfl ?_
            refine gi_iast (n := 229) hX lm_18 dX8_stops_228 rfl h (fun v12 h => ?_)
            exact t_X8_stops_J229 hX hR x1 x2 x3 v12 h hc hz
set_option maxRecDepth 20000 in
theorem t_X8_stops {Γ : gC} {Ω : gO} {v0 : gV} (hX : gx_X Γ Ω cX8_stops RX8 4 (none)) (hR : Γ.2.2.2.1 = gx_R 4) (x1 : Int32) (x2 : Int32) (v : gV) (h : f_X8_stops x1 x2 v = some v0) : gx_G Γ Ω LM (gx_Q Γ Ω LM none v0) 4 v 0 [(0, .ref (Ω.1 0)), (1, .int x1), (2, .int x2)] [] := by
  rw [f_X8_stops] at h
  refine gi_iconst (x := (0 : Int32)) (n := 1) hX rfl dX8_stops_0 rfl ?_
  refine gi_istore_n (n := 2) hX [(3, .int (0 : Int32)), (0, .ref (Ω.1 0)), (1, .int x1), (2, .int x2)] dX8_stops_1 rfl rfl rfl rfl ?_
  refine gi_sub [1, 2, 3, 0] rfl ?_
  have key := lp_ind (f := (fun a : gV × Int32 => f_X8_stops_B2 x1 x2 a.2 a.1)) (P := (fun a : gV × Int32 => gx_G Γ Ω LM (gx_Q Γ Ω LM none v0) 4 a.1 2 [(0, .ref (Ω.1 0)), (1, .int x1), (2, .int x2), (3, .int a.2)] [])) (Z := (fun z : gV => gx_G Γ Ω LM (gx_Q Γ Ω LM none v0) 4 z 102 [(0, .ref (Ω.1 0)), (1, .int x1), (2, .int x2)] [])) (fun a o h hc hz => t_X8_stops_B2 hX hR x1 x2 a.2 a.1 h (fun c0 c1 e => hc (c0, c1) e) (fun z0 e => hz z0 e)) fu
  obtain ⟨v1, e0, h⟩ := bx1_some h
  refine key (v, (0 : Int32)) _ e0 ?_
  show gx_G Γ Ω LM (gx_Q Γ Ω LM none v0) 4 v1 102 [(0, .ref (Ω.1 0)), (1, .int x1), (2, .int x2)] []
  refine gi_iconst (x := (0 : Int32)) (n := 103) hX rfl dX8_stops_102 rfl ?_
  refine gi_istore_n (n := 104) hX [(3, .int (0 : Int32)), (0, .ref (Ω.1 0)), (1, .int x1), (2, .int x2)] dX8_stops_103 rfl rfl rfl rfl ?_
  refine gi_sub [1, 2, 3, 0] rfl ?_
  have key := lp_ind (f := (fun a : gV × Int32 => f_X8_stops_B104 x1 x2 a.2 a.1)) (P := (fun a : gV × Int32 => gx_G Γ Ω LM (gx_Q Γ Ω LM none v0) 4 a.1 104 [(0, .ref (Ω.1 0)), (1, .int x1), (2, .int x2), (3, .int a.2)] [])) (Z := (fun z : gV => gx_G Γ Ω LM (gx_Q Γ Ω LM none v0) 4 z 162 [(0, .ref (Ω.1 0)), (1, .int x1), (2, .int x2)] [])) (fun a o h hc hz => t_X8_stops_B104 hX hR x1 x2 a.2 a.1 h (fun c0 c1 e => hc (c0, c1) e) (fun z0 e => hz z0 e)) fu
  obtain ⟨v2, e0, h⟩ := bx1_some h
  refine key (v1, (0 : Int32)) _ e0 ?_
  show gx_G Γ Ω LM (gx_Q Γ Ω LM none v0) 4 v2 162 [(0, .ref (Ω.1 0)), (1, .int x1), (2, .int x2)] []
  refine gi_iconst (x := (0 : Int32)) (n := 163) hX rfl dX8_stops_162 rfl ?_
  refine gi_istore_n (n := 164) hX [(3, .int (0 : Int32)), (0, .ref (Ω.1 0)), (1, .int x1), (2, .int x2)] dX8_stops_163 rfl rfl rfl rfl ?_
  refine gi_sub [1, 2, 3, 0] rfl ?_
  have key := lp_ind (f := (fun a : gV × Int32 => f_X8_stops_B164 x1 x2 a.2 a.1)) (P := (fun a : gV × Int32 => gx_G Γ Ω LM (gx_Q Γ Ω LM none v0) 4 a.1 164 [(0, .ref (Ω.1 0)), (1, .int x1), (2, .int x2), (3, .int a.2)] [])) (Z := (fun z : gV => gx_G Γ Ω LM (gx_Q Γ Ω LM none v0) 4 z 245 [] [])) (fun a o h hc hz => t_X8_stops_B164 hX hR x1 x2 a.2 a.1 h (fun c0 c1 e => hc (c0, c1) e) (fun z0 e => hz z0 e)) fu
  obtain ⟨v3, e0, h⟩ := bx1_some h
  refine key (v2, (0 : Int32)) _ e0 ?_
  show gx_G Γ Ω LM (gx_Q Γ Ω LM none v0) 4 v3 245 [] []
  exact gi_vret hX rfl dX8_stops_245 h
theorem m_X8_stops (l : Launch) (Ω : gO) (x1 : Int32) (x2 : Int32) (v : gV) {v0 : gV} (h : f_X8_stops x1 x2 v = some v0) : gx_M l Ω LM yX8_stops cX8_stops 4 (none) 4 [.ref (Ω.1 0), .int x1, .int x2] v none v0 := gx_start (lv := [(0, .ref (Ω.1 0)), (1, .int x1), (2, .int x2)]) (by decide +kernel) (Nat.le_of_ble_eq_true rfl) rfl (fun Γ _ hR hX => t_X8_stops hX hR x1 x2 v h)
set_option maxRecDepth 20000 in
theorem t_X8_keeps_B2 {Γ : gC} {Ω : gO} {v0 : gV} {o : (gV × Int32) ⊕ (gV)} (hX : gx_X Γ Ω cX8_keeps RX8 3 (none)) (hR : Γ.2.2.2.1 = gx_R 0) (x1 : Int32) (x2 : Int32) (v : gV) (h : f_X8_keeps_B2 x1 x2 v = some o) (hc : ∀ c0 c1, o = .inl (c0, c1) → gx_G Γ Ω LM (gx_Q Γ Ω LM none v0) 3 c0 2 [(0, .ref (Ω.1 0)), (1, .int x1), (2, .int c1)] []) (hz : ∀ z0, o = .inr z0 → gx_G Γ Ω LM (gx_Q Γ Ω LM none v0) 3 z0 50 [(0, .ref (Ω.1 0)), (1, .int x1)] []) : gx_G Γ Ω LM (gx_Q Γ Ω LM none v0) 3 v 2 [(0, .ref (Ω.1 0)), (1, .int x1), (2, .int x2)] [] := by
  rw [f_X8_keeps_B2] at h
  refine gi_iload_n (n := 3) hX 2 dX8_keeps_2 rfl rfl rfl ?_
  refine gi_aload_n (n := 4) hX 0 dX8_keeps_3 rfl rfl rfl ?_
  refine gi_getI (n := 7) hX 7 kc_X8 ly_X8 rfl rfl fl_X8_120 dX8_keeps_4 rfl ?_
  refine gi_icmp_ge (tgt := 50) (n := 10) hX dX8_keeps_7 rfl rfl h (fun h => ?_) (fun h => ?_)
  · refine gi_sub [0, 1] rfl ?_
    exact hz _ (Option.some.inj h).symm
  · refine gi_aload_n (n := 11) hX 0 dX8_keeps_10 rfl rfl rfl ?_
    refine gi_getR (n := 14) hX 19 kc_X8 ly_X8 rfl rfl fl_X8_49 dX8_keeps_11 rfl ?_
    refine gi_bipush (x := (8 : Int32)) (n := 16) hX rfl dX8_keeps_14 rfl ?_
    refine gi_iload_n (n := 17) hX 1 dX8_keeps_16 rfl rfl rfl ?_
    refine gi_imul (n := 18) hX dX8_keeps_17 rfl ?_
    refine gi_iload_n (n := 19) hX 2 dX8_keeps_18 rfl rfl rfl ?_
    refine gi_iadd (n := 20) hX dX8_keeps_19 rfl ?_
    refine gi_aload_n (n := 21) hX 0 dX8_keeps_20 rfl rfl rfl ?_
    refine gi_getR (n := 24) hX 14 kc_X8 ly_X8 rfl rfl fl_X8_40 dX8_keeps_21 rfl ?_
    refine gi_iload_n (n := 25) hX 2 dX8_keeps_24 rfl rfl rfl ?_
    refine gi_iald (n := 26) hX lm_11 dX8_keeps_25 rfl h (fun h => ?_)
    refine gi_iast (n := 27) hX lm_14 dX8_keeps_26 rfl h (fun v1 h => ?_)
    refine gi_aload_n (n := 28) hX 0 dX8_keeps_27 rfl rfl rfl ?_
    refine gi_getR (n := 31) hX 20 kc_X8 ly_X8 rfl rfl fl_X8_52 dX8_keeps_28 rfl ?_
    refine gi_bipush (x := (8 : Int32)) (n := 33) hX rfl dX8_keeps_31 rfl ?_
    refine gi_iload_n (n := 34) hX 1 dX8_keeps_33 rfl rfl rfl ?_
    refine gi_imul (n := 35) hX dX8_keeps_34 rfl ?_
    refine gi_iload_n (n := 36) hX 2 dX8_keeps_35 rfl rfl rfl ?_
    refine gi_iadd (n := 37) hX dX8_keeps_36 rfl ?_
    refine gi_aload_n (n := 38) hX 0 dX8_keeps_37 rfl rfl rfl ?_
    refine gi_getR (n := 41) hX 15 kc_X8 ly_X8 rfl rfl fl_X8_43 dX8_keeps_38 rfl ?_
    refine gi_iload_n (n := 42) hX 2 dX8_keeps_41 rfl rfl rfl ?_
    refine gi_iald (n := 43) hX lm_12 dX8_keeps_42 rfl h (fun h => ?_)
    refine gi_iast (n := 44) hX lm_15 dX8_keeps_43 rfl h (fun v2 h => ?_)
    refine gi_iinc (z := (1 : Int32)) (n := 47) hX 2 [(2, .int (x2 + (1 : Int32))), (0, .ref (Ω.1 0)), (1, .int x1)] dX8_keeps_44 rfl rfl rfl rfl rfl rfl ?_
    refine gi_goto (n := 2) hX dX8_keeps_47 rfl ?_
    refine gi_sub [1, 2, 0] rfl ?_
    exact hc _ _ (Option.some.inj h).symm
set_option maxRecDepth 20000 in
theorem t_X8_keeps_B62 {Γ : gC} {Ω : gO} {v0 : gV} {o : (gV × Int32) ⊕ (gV)} (hX : gx_X Γ Ω cX8_keeps RX8 3 (none)) (hR : Γ.2.2.2.1 = gx_R 0) (x1 : Int32) (x2 : Int32) (v : gV) (h : f_X8_keeps_B62 x1 x2 v = some o) (hc : ∀ c0 c1, o = .inl (c0, c1) → gx_G Γ Ω LM (gx_Q Γ Ω LM none v0) 3 c0 62 [(0, .ref (Ω.1 0)), (1, .int x1), (2, .int c1)] []) (hz : ∀ z0, o = .inr z0 → gx_G Γ Ω LM (gx_Q Γ Ω LM none v0) 3 z0 93 [] []) : gx_G Γ Ω LM (gx_Q Γ Ω LM none v0) 3 v 62 [(0, .ref (Ω.1 0)), (1, .int x1), (2, .int x2)] [] := by
  rw [f_X8_keeps_B62] at h
  refine gi_iload_n (n := 63) hX 2 dX8_keeps_62 rfl rfl rfl ?_
  refine gi_aload_n (n := 64) hX 0 dX8_keeps_63 rfl rfl rfl ?_
  refine gi_getI (n := 67) hX 17 kc_X8 ly_X8 rfl rfl fl_X8_147 dX8_keeps_64 rfl ?_
  refine gi_icmp_ge (tgt := 93) (n := 70) hX dX8_keeps_67 rfl rfl h (fun h => ?_) (fun h => ?_)
  · refine gi_sub [] rfl ?_
    exact hz _ (Option.some.inj h).symm
  · refine gi_aload_n (n := 71) hX 0 dX8_keeps_70 rfl rfl rfl ?_
    refine gi_getR (n := 74) hX 22 kc_X8 ly_X8 rfl rfl fl_X8_58 dX8_keeps_71 rfl ?_
    refine gi_bipush (x := (29 : Int32)) (n := 76) hX rfl dX8_keeps_74 rfl ?_
    refine gi_iload_n (n := 77) hX 1 dX8_keeps_76 rfl rfl rfl ?_
    refine gi_imul (n := 78) hX dX8_keeps_77 rfl ?_
    refine gi_iload_n (n := 79) hX 2 dX8_keeps_78 rfl rfl rfl ?_
    refine gi_iadd (n := 80) hX dX8_keeps_79 rfl ?_
    refine gi_aload_n (n := 81) hX 0 dX8_keeps_80 rfl rfl rfl ?_
    refine gi_getR (n := 84) hX 18 kc_X8 ly_X8 rfl rfl fl_X8_46 dX8_keeps_81 rfl ?_
    refine gi_iload_n (n := 85) hX 2 dX8_keeps_84 rfl rfl rfl ?_
    refine gi_iald (n := 86) hX lm_13 dX8_keeps_85 rfl h (fun h => ?_)
    refine gi_iast (n := 87) hX lm_17 dX8_keeps_86 rfl h (fun v1 h => ?_)
    refine gi_iinc (z := (1 : Int32)) (n := 90) hX 2 [(2, .int (x2 + (1 : Int32))), (0, .ref (Ω.1 0)), (1, .int x1)] dX8_keeps_87 rfl rfl rfl rfl rfl rfl ?_
    refine gi_goto (n := 62) hX dX8_keeps_90 rfl ?_
    refine gi_sub [1, 2, 0] rfl ?_
    exact hc _ _ (Option.some.inj h).symm
set_option maxRecDepth 20000 in
theorem t_X8_keeps {Γ : gC} {Ω : gO} {v0 : gV} (hX : gx_X Γ Ω cX8_keeps RX8 3 (none)) (hR : Γ.2.2.2.1 = gx_R 0) (x1 : Int32) (v : gV) (h : f_X8_keeps x1 v = some v0) : gx_G Γ Ω LM (gx_Q Γ Ω LM none v0) 3 v 0 [(0, .ref (Ω.1 0)), (1, .int x1)] [] := by
  rw [f_X8_keeps] at h
  refine gi_iconst (x := (0 : Int32)) (n := 1) hX rfl dX8_keeps_0 rfl ?_
  refine gi_istore_n (n := 2) hX [(2, .int (0 : Int32)), (0, .ref (Ω.1 0)), (1, .int x1)] dX8_keeps_1 rfl rfl rfl rfl ?_
  refine gi_sub [1, 2, 0] rfl ?_
  have key := lp_ind (f := (fun a : gV × Int32 => f_X8_keeps_B2 x1 a.2 a.1)) (P := (fun a : gV × Int32 => gx_G Γ Ω LM (gx_Q Γ Ω LM none v0) 3 a.1 2 [(0, .ref (Ω.1 0)), (1, .int x1), (2, .int a.2)] [])) (Z := (fun z : gV => gx_G Γ Ω LM (gx_Q Γ Ω LM none v0) 3 z 50 [(0, .ref (Ω.1 0)), (1, .int x1)] [])) (fun a o h hc hz => t_X8_keeps_B2 hX hR x1 a.2 a.1 h (fun c0 c1 e => hc (c0, c1) e) (fun z0 e => hz z0 e)) fu
  obtain ⟨v1, e0, h⟩ := bx1_some h
  refine key (v, (0 : Int32)) _ e0 ?_
  show gx_G Γ Ω LM (gx_Q Γ Ω LM none v0) 3 v1 50 [(0, .ref (Ω.1 0)), (1, .int x1)] []
  refine gi_aload_n (n := 51) hX 0 dX8_keeps_50 rfl rfl rfl ?_
  refine gi_getR (n := 54) hX 21 kc_X8 ly_X8 rfl rfl fl_X8_55 dX8_keeps_51 rfl ?_
  refine gi_iload_n (n := 55) hX 1 dX8_keeps_54 rfl rfl rfl ?_
  refine gi_aload_n (n := 56) hX 0 dX8_keeps_55 rfl rfl rfl ?_
  refine gi_getI (n := 59) hX 17 kc_X8 ly_X8 rfl rfl fl_X8_147 dX8_keeps_56 rfl ?_
  refine gi_iast (n := 60) hX lm_16 dX8_keeps_59 rfl h (fun v2 h => ?_)
  refine gi_iconst (x := (0 : Int32)) (n := 61) hX rfl dX8_keeps_60 rfl ?_
  refine gi_istore_n (n := 62) hX [(2, .int (0 : Int32)), (0, .ref (Ω.1 0)), (1, .int x1)] dX8_keeps_61 rfl rfl rfl rfl ?_
  refine gi_sub [1, 2, 0] rfl ?_
  have key := lp_ind (f := (fun a : gV × Int32 => f_X8_keeps_B62 x1 a.2 a.1)) (P := (fun a : gV × Int32 => gx_G Γ Ω LM (gx_Q Γ Ω LM none v0) 3 a.1 62 [(0, .ref (Ω.1 0)), (1, .int x1), (2, .int a.2)] [])) (Z := (fun z : gV => gx_G Γ Ω LM (gx_Q Γ Ω LM none v0) 3 z 93 [] [])) (fun a o h hc hz => t_X8_keeps_B62 hX hR x1 a.2 a.1 h (fun c0 c1 e => hc (c0, c1) e) (fun z0 e => hz z0 e)) fu
  obtain ⟨v3, e0, h⟩ := bx1_some h
  refine key (v2, (0 : Int32)) _ e0 ?_
  show gx_G Γ Ω LM (gx_Q Γ Ω LM none v0) 3 v3 93 [] []
  exact gi_vret hX rfl dX8_keeps_93 h
theorem m_X8_keeps (l : Launch) (Ω : gO) (x1 : Int32) (v : gV) {v0 : gV} (h : f_X8_keeps x1 v = some v0) : gx_M l Ω LM yX8_keeps cX8_keeps 3 (none) 0 [.ref (Ω.1 0), .int x1] v none v0 := gx_start (lv := [(0, .ref (Ω.1 0)), (1, .int x1)]) (by decide +kernel) (Nat.le_of_ble_eq_true rfl) rfl (fun Γ _ hR hX => t_X8_keeps hX hR x1 v h)
set_option maxRecDepth 20000 in
theorem t_X8_lives_B24 {Γ : gC} {Ω : gO} {v0 : gV} {o : (gV × Int32) ⊕ (gV)} (hX : gx_X Γ Ω cX8_lives RX8 4 (none)) (hR : Γ.2.2.2.1 = gx_R 5) (x1 : Int32) (x2 : Int32) (x3 : Int32) (v : gV) (h : f_X8_lives_B24 x1 x2 x3 v = some o) (hc : ∀ c0 c1, o = .inl (c0, c1) → gx_G Γ Ω LM (gx_Q Γ Ω LM none v0) 4 c0 24 [(0, .ref (Ω.1 0)), (1, .int x1), (2, .int x2), (3, .int c1)] []) (hz : ∀ z0, o = .inr z0 → gx_G Γ Ω LM (gx_Q Γ Ω LM none v0) 4 z0 42 [(0, .ref (Ω.1 0)), (1, .int x1), (2, .int x2)] []) : gx_G Γ Ω LM (gx_Q Γ Ω LM none v0) 4 v 24 [(0, .ref (Ω.1 0)), (1, .int x1), (2, .int x2), (3, .int x3)] [] := by
  rw [f_X8_lives_B24] at h
  refine gi_iload_n (n := 25) hX 3 dX8_lives_24 rfl rfl rfl ?_
  refine gi_bipush (x := (10 : Int32)) (n := 27) hX rfl dX8_lives_25 rfl ?_
  refine gi_icmp_ge (tgt := 42) (n := 30) hX dX8_lives_27 rfl rfl h (fun h => ?_) (fun h => ?_)
  · refine gi_sub [0, 1, 2] rfl ?_
    exact hz _ (Option.some.inj h).symm
  · refine gi_aload_n (n := 31) hX 0 dX8_lives_30 rfl rfl rfl ?_
    refine gi_iload_n (n := 32) hX 1 dX8_lives_31 rfl rfl rfl ?_
    refine gi_iload_n (n := 33) hX 3 dX8_lives_32 rfl rfl rfl ?_
    obtain ⟨v1, e2, h⟩ := bv_some h
    refine gi_virtV (st := []) (n := 36) hX hR kc_X8 ly_X8 mv_X8_stops ml_X8_189 (m_X8_stops Γ.2.1 Ω x1 x3 v e2) rfl ⟨rfl, rfl⟩ rfl dX8_lives_33 rfl rfl ?_
    refine gi_iinc (z := (1 : Int32)) (n := 39) hX 3 [(3, .int (x3 + (1 : Int32))), (0, .ref (Ω.1 0)), (1, .int x1), (2, .int x2)] dX8_lives_36 rfl rfl rfl rfl rfl rfl ?_
    refine gi_goto (n := 24) hX dX8_lives_39 rfl ?_
    refine gi_sub [1, 2, 3, 0] rfl ?_
    exact hc _ _ (Option.some.inj h).symm
set_option maxRecDepth 20000 in
theorem t_X8_lives_J67 {Γ : gC} {Ω : gO} {v0 : gV} {o : (gV × Int32) ⊕ (gV)} (hX : gx_X Γ Ω cX8_lives RX8 4 (none)) (hR : Γ.2.2.2.1 = gx_R 5) (x1 : Int32) (s0 : Int32) (v : gV) (h : f_X8_lives_J67 x1 s0 v = some o) (hc : ∀ c0 c1, o = .inl (c0, c1) → gx_G Γ Ω LM (gx_Q Γ Ω LM none v0) 4 c0 6 [(0, .ref (Ω.1 0)), (1, .int c1)] []) (hz : ∀ z0, o = .inr z0 → gx_G Γ Ω LM (gx_Q Γ Ω LM none v0) 4 z0 81 [] []) : gx_G Γ Ω LM (gx_Q Γ Ω LM none v0) 4 v 67 [(0, .ref (Ω.1 0)), (1, .int x1)] [.int s0, .ref (Ω.1 0)] := by
  rw [f_X8_lives_J67] at h
  refine gi_putI (n := 70) hX 25 kc_X8 ly_X8 rfl rfl fl_X8_183 rfl rfl dX8_lives_67 rfl h (fun v1 h => ?_)
  refine gi_aload_n (n := 71) hX 0 dX8_lives_70 rfl rfl rfl ?_
  refine gi_iload_n (n := 72) hX 1 dX8_lives_71 rfl rfl rfl ?_
  obtain ⟨v2, e3, h⟩ := bv_some h
  refine gi_virtV (st := []) (n := 75) hX hR kc_X8 ly_X8 mv_X8_keeps ml_X8_192 (m_X8_keeps Γ.2.1 Ω x1 v1 e3) rfl ⟨rfl, rfl⟩ rfl dX8_lives_72 rfl rfl ?_
  refine gi_iinc (z := (1 : Int32)) (n := 78) hX 1 [(1, .int (x1 + (1 : Int32))), (0, .ref (Ω.1 0))] dX8_lives_75 rfl rfl rfl rfl rfl rfl ?_
  refine gi_goto (n := 6) hX dX8_lives_78 rfl ?_
  refine gi_sub [1, 0] rfl ?_
  exact hc _ _ (Option.some.inj h).symm
set_option maxRecDepth 20000 in
theorem t_X8_lives_J63 {Γ : gC} {Ω : gO} {v0 : gV} {o : (gV × Int32) ⊕ (gV)} (hX : gx_X Γ Ω cX8_lives RX8 4 (none)) (hR : Γ.2.2.2.1 = gx_R 5) (x1 : Int32) (v : gV) (h : f_X8_lives_J63 x1 v = some o) (hc : ∀ c0 c1, o = .inl (c0, c1) → gx_G Γ Ω LM (gx_Q Γ Ω LM none v0) 4 c0 6 [(0, .ref (Ω.1 0)), (1, .int c1)] []) (hz : ∀ z0, o = .inr z0 → gx_G Γ Ω LM (gx_Q Γ Ω LM none v0) 4 z0 81 [] []) : gx_G Γ Ω LM (gx_Q Γ Ω LM none v0) 4 v 63 [(0, .ref (Ω.1 0)), (1, .int x1)] [.ref (Ω.1 0)] := by
  rw [f_X8_lives_J63] at h
  refine gi_aload_n (n := 64) hX 0 dX8_lives_63 rfl rfl rfl ?_
  refine gi_getI (n := 67) hX 25 kc_X8 ly_X8 rfl rfl fl_X8_183 dX8_lives_64 rfl ?_
  exact t_X8_lives_J67 hX hR x1 (v.1 0 25) v h hc hz
set_option maxRecDepth 20000 in
theorem t_X8_lives_B6 {Γ : gC} {Ω : gO} {v0 : gV} {o : (gV × Int32) ⊕ (gV)} (hX : gx_X Γ Ω cX8_lives RX8 4 (none)) (hR : Γ.2.2.2.1 = gx_R 5) (x1 : Int32) (v : gV) (h : f_X8_lives_B6 x1 v = some o) (hc : ∀ c0 c1, o = .inl (c0, c1) → gx_G Γ Ω LM (gx_Q Γ Ω LM none v0) 4 c0 6 [(0, .ref (Ω.1 0)), (1, .int c1)] []) (hz : ∀ z0, o = .inr z0 → gx_G Γ Ω LM (gx_Q Γ Ω LM none v0) 4 z0 81 [] []) : gx_G Γ Ω LM (gx_Q Γ Ω LM none v0) 4 v 6 [(0, .ref (Ω.1 0)), (1, .int x1)] [] := by
  rw [f_X8_lives_B6] at h
  refine gi_iload_n (n := 7) hX 1 dX8_lives_6 rfl rfl rfl ?_
  refine gi_bipush (x := (10 : Int32)) (n := 9) hX rfl dX8_lives_7 rfl ?_
  refine gi_icmp_ge (tgt := 81) (n := 12) hX dX8_lives_9 rfl rfl h (fun h => ?_) (fun h => ?_)
  · refine gi_sub [] rfl ?_
    exact hz _ (Option.some.inj h).symm
  · refine gi_aload_n (n := 13) hX 0 dX8_lives_12 rfl rfl rfl ?_
    refine gi_getI (n := 16) hX 24 kc_X8 ly_X8 rfl rfl fl_X8_180 dX8_lives_13 rfl ?_
    refine gi_topI h (fun u1 h => ?_)
    refine gi_istore_n (n := 17) hX [(2, .int u1), (0, .ref (Ω.1 0)), (1, .int x1)] dX8_lives_16 rfl rfl rfl rfl ?_
    refine gi_aload_n (n := 18) hX 1 dX8_lives_17 rfl rfl rfl ?_
    refine gi_iconst (x := (0 : Int32)) (n := 19) hX rfl dX8_lives_18 rfl ?_
    refine gi_putI (n := 22) hX 16 kc_X8 ly_X8 rfl rfl fl_X8_150 rfl rfl dX8_lives_19 rfl h (fun v2 h => ?_)
    refine gi_iconst (x := (0 : Int32)) (n := 23) hX rfl dX8_lives_22 rfl ?_
    refine gi_istore_n (n := 24) hX [(3, .int (0 : Int32)), (2, .int u1), (0, .ref (Ω.1 0)), (1, .int x1)] dX8_lives_23 rfl rfl rfl rfl ?_
    refine gi_sub [2, 3, 1, 0] rfl ?_
    have key := lp_ind (f := (fun a : gV × Int32 => f_X8_lives_B24 x1 u1 a.2 a.1)) (P := (fun a : gV × Int32 => gx_G Γ Ω LM (gx_Q Γ Ω LM none v0) 4 a.1 24 [(0, .ref (Ω.1 0)), (1, .int x1), (2, .int u1), (3, .int a.2)] [])) (Z := (fun z : gV => gx_G Γ Ω LM (gx_Q Γ Ω LM none v0) 4 z 42 [(0, .ref (Ω.1 0)), (1, .int x1), (2, .int u1)] [])) (fun a o h hc hz => t_X8_lives_B24 hX hR x1 u1 a.2 a.1 h (fun c0 c1 e => hc (c0, c1) e) (fun z0 e => hz z0 e)) fu
    obtain ⟨v3, e0, h⟩ := bx1_some h
    refine key (v2, (0 : Int32)) _ e0 ?_
    show gx_G Γ Ω LM (gx_Q Γ Ω LM none v0) 4 v3 42 [(0, .ref (Ω.1 0)), (1, .int x1), (2, .int u1)] []
    refine gi_aload_n (n := 43) hX 0 dX8_lives_42 rfl rfl rfl ?_
    refine gi_aload_n (n := 44) hX 0 dX8_lives_43 rfl rfl rfl ?_
    refine gi_getI (n := 47) hX 25 kc_X8 ly_X8 rfl rfl fl_X8_183 dX8_lives_44 rfl ?_
    refine gi_iconst (x := (-1 : Int32)) (n := 48) hX rfl dX8_lives_47 rfl ?_
    refine gi_icmp_ne (tgt := 63) (n := 51) hX dX8_lives_48 rfl rfl h (fun h => ?_) (fun h => ?_)
    · refine gi_sub [0, 1] rfl ?_
      exact t_X8_lives_J63 hX hR x1 v3 h hc hz
    · refine gi_aload_n (n := 52) hX 0 dX8_lives_51 rfl rfl rfl ?_
      refine gi_getI (n := 55) hX 24 kc_X8 ly_X8 rfl rfl fl_X8_180 dX8_lives_52 rfl ?_
      refine gi_iload_n (n := 56) hX 2 dX8_lives_55 rfl rfl rfl ?_
      refine gi_icmp_ne (tgt := 63) (n := 59) hX dX8_lives_56 rfl rfl h (fun h => ?_) (fun h => ?_)
      · refine gi_sub [0, 1] rfl ?_
        exact t_X8_lives_J63 hX hR x1 v3 h hc hz
      · refine gi_iload_n (n := 60) hX 1 dX8_lives_59 rfl rfl rfl ?_
        refine gi_goto (n := 67) hX dX8_lives_60 rfl ?_
        refine gi_sub [0, 1] rfl ?_
        exact t_X8_lives_J67 hX hR x1 x1 v3 h hc hz
set_option maxRecDepth 20000 in
theorem t_X8_lives {Γ : gC} {Ω : gO} {v0 : gV} (hX : gx_X Γ Ω cX8_lives RX8 4 (none)) (hR : Γ.2.2.2.1 = gx_R 5)  (v : gV) (h : f_X8_lives  v = some v0) : gx_G Γ Ω LM (gx_Q Γ Ω LM none v0) 4 v 0 [(0, .ref (Ω.1 0))] [] := by
  rw [f_X8_lives] at h
  refine gi_aload_n (n := 1) hX 0 dX8_lives_0 rfl rfl rfl ?_
  obtain ⟨v1, e2, h⟩ := bv_some h
  refine gi_virtV (st := []) (n := 4) hX hR kc_X8 ly_X8 mv_X8_begins ml_X8_186 (m_X8_begins Γ.2.1 Ω v e2) rfl ⟨rfl, rfl⟩ rfl dX8_lives_1 rfl rfl ?_
  refine gi_iconst (x := (0 : Int32)) (n := 5) hX rfl dX8_lives_4 rfl ?_
  refine gi_istore_n (n := 6) hX [(1, .int (0 : Int32)), (0, .ref (Ω.1 0))] dX8_lives_5 rfl rfl rfl rfl ?_
  refine gi_sub [1, 0] rfl ?_
  have key := lp_ind (f := (fun a : gV × Int32 => f_X8_lives_B6 a.2 a.1)) (P := (fun a : gV × Int32 => gx_G Γ Ω LM (gx_Q Γ Ω LM none v0) 4 a.1 6 [(0, .ref (Ω.1 0)), (1, .int a.2)] [])) (Z := (fun z : gV => gx_G Γ Ω LM (gx_Q Γ Ω LM none v0) 4 z 81 [] [])) (fun a o h hc hz => t_X8_lives_B6 hX hR a.2 a.1 h (fun c0 c1 e => hc (c0, c1) e) (fun z0 e => hz z0 e)) fu
  obtain ⟨v3, e0, h⟩ := bx1_some h
  refine key (v1, (0 : Int32)) _ e0 ?_
  show gx_G Γ Ω LM (gx_Q Γ Ω LM none v0) 4 v3 81 [] []
  exact gi_vret hX rfl dX8_lives_81 h
theorem m_X8_lives (l : Launch) (Ω : gO) (v : gV) {v0 : gV} (h : f_X8_lives v = some v0) : gx_M l Ω LM yX8_lives cX8_lives 4 (none) 5 [.ref (Ω.1 0)] v none v0 := gx_start (lv := [(0, .ref (Ω.1 0))]) (by decide +kernel) (Nat.le_of_ble_eq_true rfl) rfl (fun Γ _ hR hX => t_X8_lives hX hR v h)
set_option maxRecDepth 20000 in
theorem t_X8_reads {Γ : gC} {Ω : gO} {v0 : gV} (hX : gx_X Γ Ω cX8_reads RX8 1 (none)) (hR : Γ.2.2.2.1 = gx_R 6)  (v : gV) (h : f_X8_reads  v = some v0) : gx_G Γ Ω LM (gx_Q Γ Ω LM none v0) 1 v 0 [(0, .ref (Ω.1 0))] [] := by
  rw [f_X8_reads] at h
  refine gi_aload_n (n := 1) hX 0 dX8_reads_0 rfl rfl rfl ?_
  obtain ⟨r3, v1, e2, h⟩ := bi_some h
  refine gi_virtI (st := []) (n := 4) hX hR kc_X8 ly_X8 mv_X8_readsRiders ml_X8_133 (m_X8_readsRiders Γ.2.1 Ω v e2) rfl ⟨rfl, rfl⟩ rfl dX8_reads_1 rfl rfl ?_
  refine gi_pop (n := 5) hX rfl dX8_reads_4 rfl ?_
  refine gi_aload_n (n := 6) hX 0 dX8_reads_5 rfl rfl rfl ?_
  obtain ⟨r6, v4, e5, h⟩ := bi_some h
  refine gi_virtI (st := []) (n := 9) hX hR kc_X8 ly_X8 mv_X8_readsBag ml_X8_137 (m_X8_readsBag Γ.2.1 Ω v1 e5) rfl ⟨rfl, rfl⟩ rfl dX8_reads_6 rfl rfl ?_
  refine gi_pop (n := 10) hX rfl dX8_reads_9 rfl ?_
  refine gi_aload_n (n := 11) hX 0 dX8_reads_10 rfl rfl rfl ?_
  obtain ⟨v7, e8, h⟩ := bv_some h
  refine gi_virtV (st := []) (n := 14) hX hR kc_X8 ly_X8 mv_X8_lives ml_X8_195 (m_X8_lives Γ.2.1 Ω v4 e8) rfl ⟨rfl, rfl⟩ rfl dX8_reads_11 rfl rfl ?_
  exact gi_vret hX rfl dX8_reads_14 h
theorem m_X8_reads (l : Launch) (Ω : gO) (v : gV) {v0 : gV} (h : f_X8_reads v = some v0) : gx_M l Ω LM yX8_reads cX8_reads 1 (none) 6 [.ref (Ω.1 0)] v none v0 := gx_start (lv := [(0, .ref (Ω.1 0))]) (by decide +kernel) (Nat.le_of_ble_eq_true rfl) rfl (fun Γ _ hR hX => t_X8_reads hX hR v h)
set_option maxRecDepth 20000 in
theorem t_X8_isDay {Γ : gC} {Ω : gO} {r0 : Int32} {v0 : gV} (hX : gx_X Γ Ω cX8_isDay RX8 1 (some .boolean)) (hR : Γ.2.2.2.1 = gx_R 1) (x0 : Int32) (v : gV) (h : f_X8_isDay x0 v = some (r0, v0)) : gx_G Γ Ω LM (gx_Q Γ Ω LM (some (.int r0)) v0) 1 v 0 [(0, .int x0)] [] := by
  rw [f_X8_isDay] at h
  refine gi_iload_n (n := 1) hX 0 dX8_isDay_0 rfl rfl rfl ?_
  refine gi_i2l (n := 2) hX dX8_isDay_1 rfl ?_
  refine gi_lconst (x := (0 : Int64)) (n := 3) hX rfl dX8_isDay_2 rfl ?_
  refine gi_ldc2 (n := 6) hX co_X8_140 dX8_isDay_3 rfl ?_
  obtain ⟨r3, v1, e2, h⟩ := bi_some h
  refine gi_statI (st := []) (n := 9) hX hR ms_X8_in ml_X8_76 (m_X8_in Γ.2.1 Ω ((x0).toInt64) (0 : Int64) (9 : Int64) v e2) rfl ⟨rfl, rfl⟩ rfl dX8_isDay_6 rfl rfl ?_
  exact gi_zret hX rfl dX8_isDay_9 h
theorem m_X8_isDay (l : Launch) (Ω : gO) (x0 : Int32) (v : gV) {r0 : Int32} {v0 : gV} (h : f_X8_isDay x0 v = some (r0, v0)) : gx_M l Ω LM yX8_isDay cX8_isDay 1 (some .boolean) 1 [.int x0] v (some (.int r0)) v0 := gx_start (lv := [(0, .int x0)]) (by decide +kernel) (Nat.le_of_ble_eq_true rfl) rfl (fun Γ _ hR hX => t_X8_isDay hX hR x0 v h)
set_option maxRecDepth 20000 in
theorem t_X8_isRider {Γ : gC} {Ω : gO} {r0 : Int32} {v0 : gV} (hX : gx_X Γ Ω cX8_isRider RX8 2 (some .boolean)) (hR : Γ.2.2.2.1 = gx_R 1) (x1 : Int32) (v : gV) (h : f_X8_isRider x1 v = some (r0, v0)) : gx_G Γ Ω LM (gx_Q Γ Ω LM (some (.int r0)) v0) 2 v 0 [(0, .ref (Ω.1 0)), (1, .int x1)] [] := by
  rw [f_X8_isRider] at h
  refine gi_iload_n (n := 1) hX 1 dX8_isRider_0 rfl rfl rfl ?_
  refine gi_i2l (n := 2) hX dX8_isRider_1 rfl ?_
  refine gi_lconst (x := (0 : Int64)) (n := 3) hX rfl dX8_isRider_2 rfl ?_
  refine gi_aload_n (n := 4) hX 0 dX8_isRider_3 rfl rfl rfl ?_
  refine gi_getI (n := 7) hX 7 kc_X8 ly_X8 rfl rfl fl_X8_120 dX8_isRider_4 rfl ?_
  refine gi_iconst (x := (1 : Int32)) (n := 8) hX rfl dX8_isRider_7 rfl ?_
  refine gi_isub (n := 9) hX dX8_isRider_8 rfl ?_
  refine gi_i2l (n := 10) hX dX8_isRider_9 rfl ?_
  obtain ⟨r3, v1, e2, h⟩ := bi_some h
  refine gi_statI (st := []) (n := 13) hX hR ms_X8_in ml_X8_76 (m_X8_in Γ.2.1 Ω ((x1).toInt64) (0 : Int64) ((((v.1 0 7) - (1 : Int32))).toInt64) v e2) rfl ⟨rfl, rfl⟩ rfl dX8_isRider_10 rfl rfl ?_
  exact gi_zret hX rfl dX8_isRider_13 h
theorem m_X8_isRider (l : Launch) (Ω : gO) (x1 : Int32) (v : gV) {r0 : Int32} {v0 : gV} (h : f_X8_isRider x1 v = some (r0, v0)) : gx_M l Ω LM yX8_isRider cX8_isRider 2 (some .boolean) 1 [.ref (Ω.1 0), .int x1] v (some (.int r0)) v0 := gx_start (lv := [(0, .ref (Ω.1 0)), (1, .int x1)]) (by decide +kernel) (Nat.le_of_ble_eq_true rfl) rfl (fun Γ _ hR hX => t_X8_isRider hX hR x1 v h)
set_option maxRecDepth 20000 in
theorem t_X8_isSeen_J98 {Γ : gC} {Ω : gO} {r0 : Int32} {v0 : gV} {o : (gV × Int32 × Int32) ⊕ (gV × Int32)} (hX : gx_X Γ Ω cX8_isSeen RX8 5 (some .boolean)) (hR : Γ.2.2.2.1 = gx_R 6) (x2 : Int32) (s0 : Int32) (v : gV) (h : f_X8_isSeen_J98 x2 s0 v = some o) (hc : ∀ c0 c1 c2, o = .inl (c0, c1, c2) → gx_G Γ Ω LM (gx_Q Γ Ω LM (some (.int r0)) v0) 5 c0 8 [(0, .ref (Ω.1 0)), (1, .int c1), (2, .int c2)] []) (hz : ∀ z0 z1, o = .inr (z0, z1) → gx_G Γ Ω LM (gx_Q Γ Ω LM (some (.int r0)) v0) 5 z0 105 [(1, .int z1)] []) : gx_G Γ Ω LM (gx_Q Γ Ω LM (some (.int r0)) v0) 5 v 98 [(0, .ref (Ω.1 0)), (2, .int x2)] [.int s0] := by
  rw [f_X8_isSeen_J98] at h
  refine gi_istore_n (n := 99) hX [(1, .int s0), (0, .ref (Ω.1 0)), (2, .int x2)] dX8_isSeen_98 rfl rfl rfl rfl ?_
  refine gi_iinc (z := (1 : Int32)) (n := 102) hX 2 [(2, .int (x2 + (1 : Int32))), (1, .int s0), (0, .ref (Ω.1 0))] dX8_isSeen_99 rfl rfl rfl rfl rfl rfl ?_
  refine gi_goto (n := 8) hX dX8_isSeen_102 rfl ?_
  refine gi_sub [2, 1, 0] rfl ?_
  exact hc _ _ _ (Option.some.inj h).symm
set_option maxRecDepth 20000 in
theorem t_X8_isSeen_J97 {Γ : gC} {Ω : gO} {r0 : Int32} {v0 : gV} {o : (gV × Int32 × Int32) ⊕ (gV × Int32)} (hX : gx_X Γ Ω cX8_isSeen RX8 5 (some .boolean)) (hR : Γ.2.2.2.1 = gx_R 6) (x2 : Int32) (v : gV) (h : f_X8_isSeen_J97 x2 v = some o) (hc : ∀ c0 c1 c2, o = .inl (c0, c1, c2) → gx_G Γ Ω LM (gx_Q Γ Ω LM (some (.int r0)) v0) 5 c0 8 [(0, .ref (Ω.1 0)), (1, .int c1), (2, .int c2)] []) (hz : ∀ z0 z1, o = .inr (z0, z1) → gx_G Γ Ω LM (gx_Q Γ Ω LM (some (.int r0)) v0) 5 z0 105 [(1, .int z1)] []) : gx_G Γ Ω LM (gx_Q Γ Ω LM (some (.int r0)) v0) 5 v 97 [(0, .ref (Ω.1 0)), (2, .int x2)] [] := by
  rw [f_X8_isSeen_J97] at h
  refine gi_iconst (x := (0 : Int32)) (n := 98) hX rfl dX8_isSeen_97 rfl ?_
  exact t_X8_isSeen_J98 hX hR x2 (0 : Int32) v h hc hz
set_option maxRecDepth 20000 in
theorem t_X8_isSeen_J56 {Γ : gC} {Ω : gO} {r0 : Int32} {v0 : gV} {o : (gV × Int32 × Int32) ⊕ (gV × Int32)} (hX : gx_X Γ Ω cX8_isSeen RX8 5 (some .boolean)) (hR : Γ.2.2.2.1 = gx_R 6) (x1 : Int32) (x2 : Int32) (x3 : Int32) (s0 : Int32) (v : gV) (h : f_X8_isSeen_J56 x1 x2 x3 s0 v = some o) (hc : ∀ c0 c1 c2, o = .inl (c0, c1, c2) → gx_G Γ Ω LM (gx_Q Γ Ω LM (some (.int r0)) v0) 5 c0 8 [(0, .ref (Ω.1 0)), (1, .int c1), (2, .int c2)] []) (hz : ∀ z0 z1, o = .inr (z0, z1) → gx_G Γ Ω LM (gx_Q Γ Ω LM (some (.int r0)) v0) 5 z0 105 [(1, .int z1)] []) : gx_G Γ Ω LM (gx_Q Γ Ω LM (some (.int r0)) v0) 5 v 56 [(0, .ref (Ω.1 0)), (1, .int x1), (2, .int x2), (3, .int x3)] [.int s0] := by
  rw [f_X8_isSeen_J56] at h
  refine gi_istore (n := 58) hX [(4, .int s0), (0, .ref (Ω.1 0)), (1, .int x1), (2, .int x2), (3, .int x3)] dX8_isSeen_56 rfl rfl rfl ?_
  refine gi_iload_n (n := 59) hX 2 dX8_isSeen_58 rfl rfl rfl ?_
  refine gi_if_eq (tgt := 97) (n := 62) hX dX8_isSeen_59 rfl rfl h (fun h => ?_) (fun h => ?_)
  · refine gi_sub [1, 3] rfl ?_
    exact t_X8_isSeen_J97 hX hR x2 v h hc hz
  · refine gi_aload_n (n := 63) hX 1 dX8_isSeen_62 rfl rfl rfl ?_
    refine gi_iload_n (n := 64) hX 4 dX8_isSeen_63 rfl rfl rfl ?_
    obtain ⟨r3, v1, e2, h⟩ := bi_some h
    refine gi_virtI (st := []) (n := 67) hX hR kc_X8 ly_X8 mv_X8_isRider ml_X8_142 (m_X8_isRider Γ.2.1 Ω x3 v e2) rfl ⟨rfl, rfl⟩ rfl dX8_isSeen_64 rfl rfl ?_
    refine gi_if_eq (tgt := 97) (n := 70) hX dX8_isSeen_67 rfl rfl h (fun h => ?_) (fun h => ?_)
    · refine gi_sub [1, 3] rfl ?_
      exact t_X8_isSeen_J97 hX hR x2 v1 h hc hz
    · refine gi_aload_n (n := 71) hX 1 dX8_isSeen_70 rfl rfl rfl ?_
      refine gi_getR (n := 74) hX 19 kc_X8 ly_X8 rfl rfl fl_X8_49 dX8_isSeen_71 rfl ?_
      refine gi_bipush (x := (8 : Int32)) (n := 76) hX rfl dX8_isSeen_74 rfl ?_
      refine gi_aload_n (n := 77) hX 1 dX8_isSeen_76 rfl rfl rfl ?_
      refine gi_getR (n := 80) hX 27 kc_X8 ly_X8 rfl rfl fl_X8_64 dX8_isSeen_77 rfl ?_
      refine gi_iconst (x := (3 : Int32)) (n := 81) hX rfl dX8_isSeen_80 rfl ?_
      refine gi_iload_n (n := 82) hX 3 dX8_isSeen_81 rfl rfl rfl ?_
      refine gi_imul (n := 83) hX dX8_isSeen_82 rfl ?_
      refine gi_iald (n := 84) hX lm_19 dX8_isSeen_83 rfl h (fun h => ?_)
      refine gi_imul (n := 85) hX dX8_isSeen_84 rfl ?_
      refine gi_iload_n (n := 86) hX 4 dX8_isSeen_85 rfl rfl rfl ?_
      refine gi_iadd (n := 87) hX dX8_isSeen_86 rfl ?_
      refine gi_iald (n := 88) hX lm_14 dX8_isSeen_87 rfl h (fun h => ?_)
      refine gi_iload (n := 90) hX 0 dX8_isSeen_88 rfl rfl ?_
      refine gi_icmp_ne (tgt := 97) (n := 93) hX dX8_isSeen_90 rfl rfl h (fun h => ?_) (fun h => ?_)
      · refine gi_sub [1, 3] rfl ?_
        exact t_X8_isSeen_J97 hX hR x2 v1 h hc hz
      · refine gi_iconst (x := (1 : Int32)) (n := 94) hX rfl dX8_isSeen_93 rfl ?_
        refine gi_goto (n := 98) hX dX8_isSeen_94 rfl ?_
        refine gi_sub [1, 3] rfl ?_
        exact t_X8_isSeen_J98 hX hR x2 (1 : Int32) v1 h hc hz
set_option maxRecDepth 20000 in
theorem t_X8_isSeen_B8 {Γ : gC} {Ω : gO} {r0 : Int32} {v0 : gV} {o : (gV × Int32 × Int32) ⊕ (gV × Int32)} (hX : gx_X Γ Ω cX8_isSeen RX8 5 (some .boolean)) (hR : Γ.2.2.2.1 = gx_R 6) (x1 : Int32) (x2 : Int32) (v : gV) (h : f_X8_isSeen_B8 x1 x2 v = some o) (hc : ∀ c0 c1 c2, o = .inl (c0, c1, c2) → gx_G Γ Ω LM (gx_Q Γ Ω LM (some (.int r0)) v0) 5 c0 8 [(0, .ref (Ω.1 0)), (1, .int c1), (2, .int c2)] []) (hz : ∀ z0 z1, o = .inr (z0, z1) → gx_G Γ Ω LM (gx_Q Γ Ω LM (some (.int r0)) v0) 5 z0 105 [(1, .int z1)] []) : gx_G Γ Ω LM (gx_Q Γ Ω LM (some (.int r0)) v0) 5 v 8 [(0, .ref (Ω.1 0)), (1, .int x1), (2, .int x2)] [] := by
  rw [f_X8_isSeen_B8] at h
  refine gi_iload_n (n := 9) hX 2 dX8_isSeen_8 rfl rfl rfl ?_
  refine gi_aload_n (n := 10) hX 0 dX8_isSeen_9 rfl rfl rfl ?_
  refine gi_getI (n := 13) hX 26 kc_X8 ly_X8 rfl rfl fl_X8_247 dX8_isSeen_10 rfl ?_
  refine gi_icmp_ge (tgt := 105) (n := 16) hX dX8_isSeen_13 rfl rfl h (fun h => ?_) (fun h => ?_)
  · refine gi_sub [1] rfl ?_
    exact hz _ _ (Option.some.inj h).symm
  · refine gi_aload_n (n := 17) hX 0 dX8_isSeen_16 rfl rfl rfl ?_
    refine gi_getR (n := 20) hX 27 kc_X8 ly_X8 rfl rfl fl_X8_64 dX8_isSeen_17 rfl ?_
    refine gi_iconst (x := (3 : Int32)) (n := 21) hX rfl dX8_isSeen_20 rfl ?_
    refine gi_iload_n (n := 22) hX 2 dX8_isSeen_21 rfl rfl rfl ?_
    refine gi_imul (n := 23) hX dX8_isSeen_22 rfl ?_
    refine gi_iconst (x := (1 : Int32)) (n := 24) hX rfl dX8_isSeen_23 rfl ?_
    refine gi_iadd (n := 25) hX dX8_isSeen_24 rfl ?_
    refine gi_iald (n := 26) hX lm_19 dX8_isSeen_25 rfl h (fun h => ?_)
    refine gi_topI h (fun u1 h => ?_)
    refine gi_istore_n (n := 27) hX [(3, .int u1), (0, .ref (Ω.1 0)), (1, .int x1), (2, .int x2)] dX8_isSeen_26 rfl rfl rfl rfl ?_
    refine gi_aload_n (n := 28) hX 1 dX8_isSeen_27 rfl rfl rfl ?_
    refine gi_getR (n := 31) hX 27 kc_X8 ly_X8 rfl rfl fl_X8_64 dX8_isSeen_28 rfl ?_
    refine gi_iconst (x := (3 : Int32)) (n := 32) hX rfl dX8_isSeen_31 rfl ?_
    refine gi_iload_n (n := 33) hX 3 dX8_isSeen_32 rfl rfl rfl ?_
    refine gi_imul (n := 34) hX dX8_isSeen_33 rfl ?_
    refine gi_iconst (x := (2 : Int32)) (n := 35) hX rfl dX8_isSeen_34 rfl ?_
    refine gi_iadd (n := 36) hX dX8_isSeen_35 rfl ?_
    refine gi_iald (n := 37) hX lm_19 dX8_isSeen_36 rfl h (fun h => ?_)
    refine gi_bipush (x := (8 : Int32)) (n := 39) hX rfl dX8_isSeen_37 rfl ?_
    refine gi_icmp_ne (tgt := 46) (n := 42) hX dX8_isSeen_39 rfl rfl h (fun h => ?_) (fun h => ?_)
    · refine gi_aload_n (n := 47) hX 1 dX8_isSeen_46 rfl rfl rfl ?_
      refine gi_getR (n := 50) hX 27 kc_X8 ly_X8 rfl rfl fl_X8_64 dX8_isSeen_47 rfl ?_
      refine gi_iconst (x := (3 : Int32)) (n := 51) hX rfl dX8_isSeen_50 rfl ?_
      refine gi_iload_n (n := 52) hX 3 dX8_isSeen_51 rfl rfl rfl ?_
      refine gi_imul (n := 53) hX dX8_isSeen_52 rfl ?_
      refine gi_iconst (x := (2 : Int32)) (n := 54) hX rfl dX8_isSeen_53 rfl ?_
      refine gi_iadd (n := 55) hX dX8_isSeen_54 rfl ?_
      refine gi_iald (n := 56) hX lm_19 dX8_isSeen_55 rfl h (fun h => ?_)
      refine gi_sub [1, 2, 3, 0] rfl ?_
      exact t_X8_isSeen_J56 hX hR x1 x2 u1 (v.1 19 ((((3 : Int32) * x2) + (2 : Int32))).toNatClampNeg) v h hc hz
    · refine gi_iconst (x := (-1 : Int32)) (n := 43) hX rfl dX8_isSeen_42 rfl ?_
      refine gi_goto (n := 56) hX dX8_isSeen_43 rfl ?_
      refine gi_sub [1, 2, 3, 0] rfl ?_
      exact t_X8_isSeen_J56 hX hR x1 x2 u1 (-1 : Int32) v h hc hz
set_option maxRecDepth 20000 in
theorem t_X8_isSeen {Γ : gC} {Ω : gO} {r0 : Int32} {v0 : gV} (hX : gx_X Γ Ω cX8_isSeen RX8 5 (some .boolean)) (hR : Γ.2.2.2.1 = gx_R 6)  (v : gV) (h : f_X8_isSeen  v = some (r0, v0)) : gx_G Γ Ω LM (gx_Q Γ Ω LM (some (.int r0)) v0) 5 v 0 [(0, .ref (Ω.1 0))] [] := by
  rw [f_X8_isSeen] at h
  refine gi_aload_n (n := 1) hX 0 dX8_isSeen_0 rfl rfl rfl ?_
  obtain ⟨v1, e2, h⟩ := bv_some h
  refine gi_virtV (st := []) (n := 4) hX hR kc_X8 ly_X8 mv_X8_lives ml_X8_195 (m_X8_lives Γ.2.1 Ω v e2) rfl ⟨rfl, rfl⟩ rfl dX8_isSeen_1 rfl rfl ?_
  refine gi_iconst (x := (1 : Int32)) (n := 5) hX rfl dX8_isSeen_4 rfl ?_
  refine gi_istore_n (n := 6) hX [(1, .int (1 : Int32)), (0, .ref (Ω.1 0))] dX8_isSeen_5 rfl rfl rfl rfl ?_
  refine gi_iconst (x := (0 : Int32)) (n := 7) hX rfl dX8_isSeen_6 rfl ?_
  refine gi_istore_n (n := 8) hX [(2, .int (0 : Int32)), (1, .int (1 : Int32)), (0, .ref (Ω.1 0))] dX8_isSeen_7 rfl rfl rfl rfl ?_
  refine gi_sub [2, 1, 0] rfl ?_
  have key := lp_ind (f := (fun a : gV × Int32 × Int32 => f_X8_isSeen_B8 a.2.1 a.2.2 a.1)) (P := (fun a : gV × Int32 × Int32 => gx_G Γ Ω LM (gx_Q Γ Ω LM (some (.int r0)) v0) 5 a.1 8 [(0, .ref (Ω.1 0)), (1, .int a.2.1), (2, .int a.2.2)] [])) (Z := (fun z : gV × Int32 => gx_G Γ Ω LM (gx_Q Γ Ω LM (some (.int r0)) v0) 5 z.1 105 [(1, .int z.2)] [])) (fun a o h hc hz => t_X8_isSeen_B8 hX hR a.2.1 a.2.2 a.1 h (fun c0 c1 c2 e => hc (c0, c1, c2) e) (fun z0 z1 e => hz (z0, z1) e)) fu
  obtain ⟨v3, y4, e0, h⟩ := bx2_some h
  refine key (v1, (1 : Int32), (0 : Int32)) _ e0 ?_
  show gx_G Γ Ω LM (gx_Q Γ Ω LM (some (.int r0)) v0) 5 v3 105 [(1, .int y4)] []
  refine gi_iload_n (n := 106) hX 0 dX8_isSeen_105 rfl rfl rfl ?_
  exact gi_zret hX rfl dX8_isSeen_106 h
theorem m_X8_isSeen (l : Launch) (Ω : gO) (v : gV) {r0 : Int32} {v0 : gV} (h : f_X8_isSeen v = some (r0, v0)) : gx_M l Ω LM yX8_isSeen cX8_isSeen 5 (some .boolean) 6 [.ref (Ω.1 0)] v (some (.int r0)) v0 := gx_start (lv := [(0, .ref (Ω.1 0))]) (by decide +kernel) (Nat.le_of_ble_eq_true rfl) rfl (fun Γ _ hR hX => t_X8_isSeen hX hR v h)
set_option maxRecDepth 20000 in
theorem t_X8_wasNow_J39 {Γ : gC} {Ω : gO} {r0 : Int32} {v0 : gV} {o : (gV × Int32 × Int32) ⊕ (gV × Int32)} (hX : gx_X Γ Ω cX8_wasNow RX8 4 (some .int)) (hR : Γ.2.2.2.1 = gx_R 7) (x1 : Int32) (x3 : Int32) (s0 : Int32) (s1 : Int32) (v : gV) (h : f_X8_wasNow_J39 x1 x3 s0 s1 v = some o) (hc : ∀ c0 c1 c2, o = .inl (c0, c1, c2) → gx_G Γ Ω LM (gx_Q Γ Ω LM (some (.int r0)) v0) 4 c0 11 [(0, .ref (Ω.1 0)), (1, .int x1), (2, .int c1), (3, .int c2)] []) (hz : ∀ z0 z1, o = .inr (z0, z1) → gx_G Γ Ω LM (gx_Q Γ Ω LM (some (.int r0)) v0) 4 z0 47 [(0, .ref (Ω.1 0)), (1, .int x1), (2, .int z1)] []) : gx_G Γ Ω LM (gx_Q Γ Ω LM (some (.int r0)) v0) 4 v 39 [(0, .ref (Ω.1 0)), (1, .int x1), (3, .int x3)] [.int s0, .int s1] := by
  rw [f_X8_wasNow_J39] at h
  refine gi_ior (n := 40) hX dX8_wasNow_39 rfl ?_
  refine gi_topI h (fun u1 h => ?_)
  refine gi_istore_n (n := 41) hX [(2, .int u1), (0, .ref (Ω.1 0)), (1, .int x1), (3, .int x3)] dX8_wasNow_40 rfl rfl rfl rfl ?_
  refine gi_iinc (z := (1 : Int32)) (n := 44) hX 3 [(3, .int (x3 + (1 : Int32))), (2, .int u1), (0, .ref (Ω.1 0)), (1, .int x1)] dX8_wasNow_41 rfl rfl rfl rfl rfl rfl ?_
  refine gi_goto (n := 11) hX dX8_wasNow_44 rfl ?_
  refine gi_sub [2, 3, 1, 0] rfl ?_
  exact hc _ _ _ (Option.some.inj h).symm
set_option maxRecDepth 20000 in
theorem t_X8_wasNow_B11 {Γ : gC} {Ω : gO} {r0 : Int32} {v0 : gV} {o : (gV × Int32 × Int32) ⊕ (gV × Int32)} (hX : gx_X Γ Ω cX8_wasNow RX8 4 (some .int)) (hR : Γ.2.2.2.1 = gx_R 7) (x1 : Int32) (x2 : Int32) (x3 : Int32) (v : gV) (h : f_X8_wasNow_B11 x1 x2 x3 v = some o) (hc : ∀ c0 c1 c2, o = .inl (c0, c1, c2) → gx_G Γ Ω LM (gx_Q Γ Ω LM (some (.int r0)) v0) 4 c0 11 [(0, .ref (Ω.1 0)), (1, .int x1), (2, .int c1), (3, .int c2)] []) (hz : ∀ z0 z1, o = .inr (z0, z1) → gx_G Γ Ω LM (gx_Q Γ Ω LM (some (.int r0)) v0) 4 z0 47 [(0, .ref (Ω.1 0)), (1, .int x1), (2, .int z1)] []) : gx_G Γ Ω LM (gx_Q Γ Ω LM (some (.int r0)) v0) 4 v 11 [(0, .ref (Ω.1 0)), (1, .int x1), (2, .int x2), (3, .int x3)] [] := by
  rw [f_X8_wasNow_B11] at h
  refine gi_iload_n (n := 12) hX 3 dX8_wasNow_11 rfl rfl rfl ?_
  refine gi_bipush (x := (10 : Int32)) (n := 14) hX rfl dX8_wasNow_12 rfl ?_
  refine gi_icmp_ge (tgt := 47) (n := 17) hX dX8_wasNow_14 rfl rfl h (fun h => ?_) (fun h => ?_)
  · refine gi_sub [0, 1, 2] rfl ?_
    exact hz _ _ (Option.some.inj h).symm
  · refine gi_aload_n (n := 18) hX 0 dX8_wasNow_17 rfl rfl rfl ?_
    refine gi_getR (n := 21) hX 12 kc_X8 ly_X8 rfl rfl fl_X8_37 dX8_wasNow_18 rfl ?_
    refine gi_iconst (x := (0 : Int32)) (n := 22) hX rfl dX8_wasNow_21 rfl ?_
    refine gi_iload_n (n := 23) hX 3 dX8_wasNow_22 rfl rfl rfl ?_
    refine gi_iast (n := 24) hX lm_10 dX8_wasNow_23 rfl h (fun v1 h => ?_)
    refine gi_iload_n (n := 25) hX 2 dX8_wasNow_24 rfl rfl rfl ?_
    refine gi_aload_n (n := 26) hX 0 dX8_wasNow_25 rfl rfl rfl ?_
    obtain ⟨r4, v2, e3, h⟩ := bi_some h
    refine gi_virtI (st := [.int x2]) (n := 29) hX hR kc_X8 ly_X8 mv_X8_isSeen ml_X8_253 (m_X8_isSeen Γ.2.1 Ω v1 e3) rfl ⟨rfl, rfl⟩ rfl dX8_wasNow_26 rfl rfl ?_
    refine gi_if_eq (tgt := 38) (n := 32) hX dX8_wasNow_29 rfl rfl h (fun h => ?_) (fun h => ?_)
    · refine gi_iconst (x := (0 : Int32)) (n := 39) hX rfl dX8_wasNow_38 rfl ?_
      refine gi_sub [0, 1, 3] rfl ?_
      exact t_X8_wasNow_J39 hX hR x1 x3 (0 : Int32) x2 v2 h hc hz
    · refine gi_iconst (x := (1 : Int32)) (n := 33) hX rfl dX8_wasNow_32 rfl ?_
      refine gi_iload_n (n := 34) hX 3 dX8_wasNow_33 rfl rfl rfl ?_
      refine gi_ishl (n := 35) hX dX8_wasNow_34 rfl ?_
      refine gi_goto (n := 39) hX dX8_wasNow_35 rfl ?_
      refine gi_sub [0, 1, 3] rfl ?_
      exact t_X8_wasNow_J39 hX hR x1 x3 ((1 : Int32) <<< (x3 &&& 31)) x2 v2 h hc hz
set_option maxRecDepth 20000 in
theorem t_X8_wasNow {Γ : gC} {Ω : gO} {r0 : Int32} {v0 : gV} (hX : gx_X Γ Ω cX8_wasNow RX8 4 (some .int)) (hR : Γ.2.2.2.1 = gx_R 7)  (v : gV) (h : f_X8_wasNow  v = some (r0, v0)) : gx_G Γ Ω LM (gx_Q Γ Ω LM (some (.int r0)) v0) 4 v 0 [(0, .ref (Ω.1 0))] [] := by
  rw [f_X8_wasNow] at h
  refine gi_aload_n (n := 1) hX 0 dX8_wasNow_0 rfl rfl rfl ?_
  refine gi_getR (n := 4) hX 12 kc_X8 ly_X8 rfl rfl fl_X8_37 dX8_wasNow_1 rfl ?_
  refine gi_iconst (x := (0 : Int32)) (n := 5) hX rfl dX8_wasNow_4 rfl ?_
  refine gi_iald (n := 6) hX lm_10 dX8_wasNow_5 rfl h (fun h => ?_)
  refine gi_topI h (fun u1 h => ?_)
  refine gi_istore_n (n := 7) hX [(1, .int u1), (0, .ref (Ω.1 0))] dX8_wasNow_6 rfl rfl rfl rfl ?_
  refine gi_iconst (x := (0 : Int32)) (n := 8) hX rfl dX8_wasNow_7 rfl ?_
  refine gi_istore_n (n := 9) hX [(2, .int (0 : Int32)), (1, .int u1), (0, .ref (Ω.1 0))] dX8_wasNow_8 rfl rfl rfl rfl ?_
  refine gi_iconst (x := (0 : Int32)) (n := 10) hX rfl dX8_wasNow_9 rfl ?_
  refine gi_istore_n (n := 11) hX [(3, .int (0 : Int32)), (2, .int (0 : Int32)), (1, .int u1), (0, .ref (Ω.1 0))] dX8_wasNow_10 rfl rfl rfl rfl ?_
  refine gi_sub [3, 2, 1, 0] rfl ?_
  have key := lp_ind (f := (fun a : gV × Int32 × Int32 => f_X8_wasNow_B11 u1 a.2.1 a.2.2 a.1)) (P := (fun a : gV × Int32 × Int32 => gx_G Γ Ω LM (gx_Q Γ Ω LM (some (.int r0)) v0) 4 a.1 11 [(0, .ref (Ω.1 0)), (1, .int u1), (2, .int a.2.1), (3, .int a.2.2)] [])) (Z := (fun z : gV × Int32 => gx_G Γ Ω LM (gx_Q Γ Ω LM (some (.int r0)) v0) 4 z.1 47 [(0, .ref (Ω.1 0)), (1, .int u1), (2, .int z.2)] [])) (fun a o h hc hz => t_X8_wasNow_B11 hX hR u1 a.2.1 a.2.2 a.1 h (fun c0 c1 c2 e => hc (c0, c1, c2) e) (fun z0 z1 e => hz (z0, z1) e)) fu
  obtain ⟨v2, y3, e0, h⟩ := bx2_some h
  refine key (v, (0 : Int32), (0 : Int32)) _ e0 ?_
  show gx_G Γ Ω LM (gx_Q Γ Ω LM (some (.int r0)) v0) 4 v2 47 [(0, .ref (Ω.1 0)), (1, .int u1), (2, .int y3)] []
  refine gi_aload_n (n := 48) hX 0 dX8_wasNow_47 rfl rfl rfl ?_
  refine gi_getR (n := 51) hX 12 kc_X8 ly_X8 rfl rfl fl_X8_37 dX8_wasNow_48 rfl ?_
  refine gi_iconst (x := (0 : Int32)) (n := 52) hX rfl dX8_wasNow_51 rfl ?_
  refine gi_iload_n (n := 53) hX 1 dX8_wasNow_52 rfl rfl rfl ?_
  refine gi_iast (n := 54) hX lm_10 dX8_wasNow_53 rfl h (fun v4 h => ?_)
  refine gi_iload_n (n := 55) hX 2 dX8_wasNow_54 rfl rfl rfl ?_
  exact gi_iret hX rfl dX8_wasNow_55 h
theorem m_X8_wasNow (l : Launch) (Ω : gO) (v : gV) {r0 : Int32} {v0 : gV} (h : f_X8_wasNow v = some (r0, v0)) : gx_M l Ω LM yX8_wasNow cX8_wasNow 4 (some .int) 7 [.ref (Ω.1 0)] v (some (.int r0)) v0 := gx_start (lv := [(0, .ref (Ω.1 0))]) (by decide +kernel) (Nat.le_of_ble_eq_true rfl) rfl (fun Γ _ hR hX => t_X8_wasNow hX hR v h)
set_option maxRecDepth 20000 in
theorem t_X8_greater {Γ : gC} {Ω : gO} {r0 : Int32} {v0 : gV} (hX : gx_X Γ Ω cX8_greater RX8 2 (some .int)) (hR : Γ.2.2.2.1 = gx_R 0) (x0 : Int32) (x1 : Int32) (v : gV) (h : f_X8_greater x0 x1 v = some (r0, v0)) : gx_G Γ Ω LM (gx_Q Γ Ω LM (some (.int r0)) v0) 2 v 0 [(0, .int x0), (1, .int x1)] [] := by
  rw [f_X8_greater] at h
  refine gi_iload_n (n := 1) hX 0 dX8_greater_0 rfl rfl rfl ?_
  refine gi_iload_n (n := 2) hX 1 dX8_greater_1 rfl rfl rfl ?_
  refine gi_icmp_le (tgt := 9) (n := 5) hX dX8_greater_2 rfl rfl h (fun h => ?_) (fun h => ?_)
  · refine gi_iload_n (n := 10) hX 1 dX8_greater_9 rfl rfl rfl ?_
    exact gi_iret hX rfl dX8_greater_10 h
  · refine gi_iload_n (n := 6) hX 0 dX8_greater_5 rfl rfl rfl ?_
    refine gi_goto (n := 10) hX dX8_greater_6 rfl ?_
    exact gi_iret hX rfl dX8_greater_10 h
theorem m_X8_greater (l : Launch) (Ω : gO) (x0 : Int32) (x1 : Int32) (v : gV) {r0 : Int32} {v0 : gV} (h : f_X8_greater x0 x1 v = some (r0, v0)) : gx_M l Ω LM yX8_greater cX8_greater 2 (some .int) 0 [.int x0, .int x1] v (some (.int r0)) v0 := gx_start (lv := [(0, .int x0), (1, .int x1)]) (by decide +kernel) (Nat.le_of_ble_eq_true rfl) rfl (fun Γ _ hR hX => t_X8_greater hX hR x0 x1 v h)
set_option maxRecDepth 20000 in
theorem t_X8_askOf_B15 {Γ : gC} {Ω : gO} {r0 : Int32} {v0 : gV} {o : (gV × Int32) ⊕ (gV)} (hX : gx_X Γ Ω cX8_askOf RX8 9 (some .int)) (hR : Γ.2.2.2.1 = gx_R 8) (x1 : Int32) (x2 : Int32) (x3 : Int32) (x4 : Int32) (v : gV) (h : f_X8_askOf_B15 x1 x2 x3 x4 v = some o) (hc : ∀ c0 c1, o = .inl (c0, c1) → gx_G Γ Ω LM (gx_Q Γ Ω LM (some (.int r0)) v0) 9 c0 15 [(0, .ref (Ω.1 0)), (1, .int x1), (2, .int x2), (3, .int x3), (4, .int c1)] []) (hz : ∀ z0, o = .inr z0 → gx_G Γ Ω LM (gx_Q Γ Ω LM (some (.int r0)) v0) 9 z0 36 [(0, .ref (Ω.1 0)), (1, .int x1), (2, .int x2), (3, .int x3)] []) : gx_G Γ Ω LM (gx_Q Γ Ω LM (some (.int r0)) v0) 9 v 15 [(0, .ref (Ω.1 0)), (1, .int x1), (2, .int x2), (3, .int x3), (4, .int x4)] [] := by
  rw [f_X8_askOf_B15] at h
  refine gi_iload (n := 17) hX 4 dX8_askOf_15 rfl rfl ?_
  refine gi_bipush (x := (72 : Int32)) (n := 19) hX rfl dX8_askOf_17 rfl ?_
  refine gi_icmp_ge (tgt := 36) (n := 22) hX dX8_askOf_19 rfl rfl h (fun h => ?_) (fun h => ?_)
  · refine gi_sub [0, 1, 2, 3] rfl ?_
    exact hz _ (Option.some.inj h).symm
  · refine gi_aload_n (n := 23) hX 0 dX8_askOf_22 rfl rfl rfl ?_
    refine gi_getR (n := 26) hX 28 kc_X8 ly_X8 rfl rfl fl_X8_67 dX8_askOf_23 rfl ?_
    refine gi_iload (n := 28) hX 4 dX8_askOf_26 rfl rfl ?_
    refine gi_iconst (x := (0 : Int32)) (n := 29) hX rfl dX8_askOf_28 rfl ?_
    refine gi_iast (n := 30) hX lm_20 dX8_askOf_29 rfl h (fun v1 h => ?_)
    refine gi_iinc (z := (1 : Int32)) (n := 33) hX 4 [(4, .int (x4 + (1 : Int32))), (0, .ref (Ω.1 0)), (1, .int x1), (2, .int x2), (3, .int x3)] dX8_askOf_30 rfl rfl rfl rfl rfl rfl ?_
    refine gi_goto (n := 15) hX dX8_askOf_33 rfl ?_
    refine gi_sub [1, 2, 3, 4, 0] rfl ?_
    exact hc _ _ (Option.some.inj h).symm
set_option maxRecDepth 20000 in
theorem t_X8_askOf_J114 {Γ : gC} {Ω : gO} {r0 : Int32} {v0 : gV} {o : (gV × Int32) ⊕ (gV)} (hX : gx_X Γ Ω cX8_askOf RX8 9 (some .int)) (hR : Γ.2.2.2.1 = gx_R 8) (x1 : Int32) (x2 : Int32) (x3 : Int32) (x4 : Int32) (v : gV) (h : f_X8_askOf_J114 x1 x2 x3 x4 v = some o) (hc : ∀ c0 c1, o = .inl (c0, c1) → gx_G Γ Ω LM (gx_Q Γ Ω LM (some (.int r0)) v0) 9 c0 39 [(0, .ref (Ω.1 0)), (1, .int x1), (2, .int x2), (3, .int x3), (4, .int c1)] []) (hz : ∀ z0, o = .inr z0 → gx_G Γ Ω LM (gx_Q Γ Ω LM (some (.int r0)) v0) 9 z0 120 [(0, .ref (Ω.1 0)), (3, .int x3)] []) : gx_G Γ Ω LM (gx_Q Γ Ω LM (some (.int r0)) v0) 9 v 114 [(0, .ref (Ω.1 0)), (1, .int x1), (2, .int x2), (3, .int x3), (4, .int x4)] [] := by
  rw [f_X8_askOf_J114] at h
  refine gi_iinc (z := (1 : Int32)) (n := 117) hX 4 [(4, .int (x4 + (1 : Int32))), (0, .ref (Ω.1 0)), (1, .int x1), (2, .int x2), (3, .int x3)] dX8_askOf_114 rfl rfl rfl rfl rfl rfl ?_
  refine gi_goto (n := 39) hX dX8_askOf_117 rfl ?_
  refine gi_sub [1, 2, 3, 4, 0] rfl ?_
  exact hc _ _ (Option.some.inj h).symm
set_option maxRecDepth 20000 in
theorem t_X8_askOf_B70 {Γ : gC} {Ω : gO} {r0 : Int32} {v0 : gV} {o : (gV × Int32) ⊕ (gV)} (hX : gx_X Γ Ω cX8_askOf RX8 9 (some .int)) (hR : Γ.2.2.2.1 = gx_R 8) (x1 : Int32) (x2 : Int32) (x3 : Int32) (x4 : Int32) (x5 : Int32) (v : gV) (h : f_X8_askOf_B70 x1 x2 x3 x4 x5 v = some o) (hc : ∀ c0 c1, o = .inl (c0, c1) → gx_G Γ Ω LM (gx_Q Γ Ω LM (some (.int r0)) v0) 9 c0 70 [(0, .ref (Ω.1 0)), (1, .int x1), (2, .int x2), (3, .int x3), (4, .int x4), (5, .int c1)] []) (hz : ∀ z0, o = .inr z0 → gx_G Γ Ω LM (gx_Q Γ Ω LM (some (.int r0)) v0) 9 z0 114 [(0, .ref (Ω.1 0)), (1, .int x1), (2, .int x2), (3, .int x3), (4, .int x4)] []) : gx_G Γ Ω LM (gx_Q Γ Ω LM (some (.int r0)) v0) 9 v 70 [(0, .ref (Ω.1 0)), (1, .int x1), (2, .int x2), (3, .int x3), (4, .int x4), (5, .int x5)] [] := by
  rw [f_X8_askOf_B70] at h
  refine gi_iload (n := 72) hX 5 dX8_askOf_70 rfl rfl ?_
  refine gi_aload_n (n := 73) hX 0 dX8_askOf_72 rfl rfl rfl ?_
  refine gi_getI (n := 76) hX 7 kc_X8 ly_X8 rfl rfl fl_X8_120 dX8_askOf_73 rfl ?_
  refine gi_icmp_ge (tgt := 114) (n := 79) hX dX8_askOf_76 rfl rfl h (fun h => ?_) (fun h => ?_)
  · refine gi_sub [0, 1, 2, 3, 4] rfl ?_
    exact hz _ (Option.some.inj h).symm
  · refine gi_aload_n (n := 80) hX 0 dX8_askOf_79 rfl rfl rfl ?_
    refine gi_getR (n := 83) hX 28 kc_X8 ly_X8 rfl rfl fl_X8_67 dX8_askOf_80 rfl ?_
    refine gi_bipush (x := (9 : Int32)) (n := 85) hX rfl dX8_askOf_83 rfl ?_
    refine gi_iload (n := 87) hX 5 dX8_askOf_85 rfl rfl ?_
    refine gi_imul (n := 88) hX dX8_askOf_87 rfl ?_
    refine gi_aload_n (n := 89) hX 0 dX8_askOf_88 rfl rfl rfl ?_
    refine gi_getR (n := 92) hX 19 kc_X8 ly_X8 rfl rfl fl_X8_49 dX8_askOf_89 rfl ?_
    refine gi_bipush (x := (8 : Int32)) (n := 94) hX rfl dX8_askOf_92 rfl ?_
    refine gi_iload_n (n := 95) hX 1 dX8_askOf_94 rfl rfl rfl ?_
    refine gi_imul (n := 96) hX dX8_askOf_95 rfl ?_
    refine gi_iload (n := 98) hX 5 dX8_askOf_96 rfl rfl ?_
    refine gi_iadd (n := 99) hX dX8_askOf_98 rfl ?_
    refine gi_iald (n := 100) hX lm_14 dX8_askOf_99 rfl h (fun h => ?_)
    refine gi_iadd (n := 101) hX dX8_askOf_100 rfl ?_
    refine gi_iconst (x := (1 : Int32)) (n := 102) hX rfl dX8_askOf_101 rfl ?_
    refine gi_iadd (n := 103) hX dX8_askOf_102 rfl ?_
    refine gi_dup2 (n := 104) hX rfl rfl dX8_askOf_103 rfl ?_
    refine gi_iald (n := 105) hX lm_20 dX8_askOf_104 rfl h (fun h => ?_)
    refine gi_iconst (x := (1 : Int32)) (n := 106) hX rfl dX8_askOf_105 rfl ?_
    refine gi_iadd (n := 107) hX dX8_askOf_106 rfl ?_
    refine gi_iast (n := 108) hX lm_20 dX8_askOf_107 rfl h (fun v1 h => ?_)
    refine gi_iinc (z := (1 : Int32)) (n := 111) hX 5 [(5, .int (x5 + (1 : Int32))), (0, .ref (Ω.1 0)), (1, .int x1), (2, .int x2), (3, .int x3), (4, .int x4)] dX8_askOf_108 rfl rfl rfl rfl rfl rfl ?_
    refine gi_goto (n := 70) hX dX8_askOf_111 rfl ?_
    refine gi_sub [1, 2, 3, 4, 5, 0] rfl ?_
    exact hc _ _ (Option.some.inj h).symm
set_option maxRecDepth 20000 in
theorem t_X8_askOf_B39 {Γ : gC} {Ω : gO} {r0 : Int32} {v0 : gV} {o : (gV × Int32) ⊕ (gV)} (hX : gx_X Γ Ω cX8_askOf RX8 9 (some .int)) (hR : Γ.2.2.2.1 = gx_R 8) (x1 : Int32) (x2 : Int32) (x3 : Int32) (x4 : Int32) (v : gV) (h : f_X8_askOf_B39 x1 x2 x3 x4 v = some o) (hc : ∀ c0 c1, o = .inl (c0, c1) → gx_G Γ Ω LM (gx_Q Γ Ω LM (some (.int r0)) v0) 9 c0 39 [(0, .ref (Ω.1 0)), (1, .int x1), (2, .int x2), (3, .int x3), (4, .int c1)] []) (hz : ∀ z0, o = .inr z0 → gx_G Γ Ω LM (gx_Q Γ Ω LM (some (.int r0)) v0) 9 z0 120 [(0, .ref (Ω.1 0)), (3, .int x3)] []) : gx_G Γ Ω LM (gx_Q Γ Ω LM (some (.int r0)) v0) 9 v 39 [(0, .ref (Ω.1 0)), (1, .int x1), (2, .int x2), (3, .int x3), (4, .int x4)] [] := by
  rw [f_X8_askOf_B39] at h
  refine gi_iload (n := 41) hX 4 dX8_askOf_39 rfl rfl ?_
  refine gi_bipush (x := (10 : Int32)) (n := 43) hX rfl dX8_askOf_41 rfl ?_
  refine gi_icmp_ge (tgt := 120) (n := 46) hX dX8_askOf_43 rfl rfl h (fun h => ?_) (fun h => ?_)
  · refine gi_sub [0, 3] rfl ?_
    exact hz _ (Option.some.inj h).symm
  · refine gi_iload_n (n := 47) hX 2 dX8_askOf_46 rfl rfl rfl ?_
    refine gi_iload (n := 49) hX 4 dX8_askOf_47 rfl rfl ?_
    obtain ⟨r3, v1, e2, h⟩ := bi_some h
    refine gi_statI (st := []) (n := 52) hX hR ms_X8_isIn ml_X8_153 (m_X8_isIn Γ.2.1 Ω x2 x4 v e2) rfl ⟨rfl, rfl⟩ rfl dX8_askOf_49 rfl rfl ?_
    refine gi_if_eq (tgt := 114) (n := 55) hX dX8_askOf_52 rfl rfl h (fun h => ?_) (fun h => ?_)
    · exact t_X8_askOf_J114 hX hR x1 x2 x3 x4 v1 h hc hz
    · refine gi_aload_n (n := 56) hX 0 dX8_askOf_55 rfl rfl rfl ?_
      refine gi_getR (n := 59) hX 12 kc_X8 ly_X8 rfl rfl fl_X8_37 dX8_askOf_56 rfl ?_
      refine gi_iconst (x := (0 : Int32)) (n := 60) hX rfl dX8_askOf_59 rfl ?_
      refine gi_iload (n := 62) hX 4 dX8_askOf_60 rfl rfl ?_
      refine gi_iast (n := 63) hX lm_10 dX8_askOf_62 rfl h (fun v4 h => ?_)
      refine gi_aload_n (n := 64) hX 0 dX8_askOf_63 rfl rfl rfl ?_
      obtain ⟨v5, e6, h⟩ := bv_some h
      refine gi_virtV (st := []) (n := 67) hX hR kc_X8 ly_X8 mv_X8_lives ml_X8_195 (m_X8_lives Γ.2.1 Ω v4 e6) rfl ⟨rfl, rfl⟩ rfl dX8_askOf_64 rfl rfl ?_
      refine gi_iconst (x := (0 : Int32)) (n := 68) hX rfl dX8_askOf_67 rfl ?_
      refine gi_istore (n := 70) hX [(5, .int (0 : Int32)), (0, .ref (Ω.1 0)), (1, .int x1), (2, .int x2), (3, .int x3), (4, .int x4)] dX8_askOf_68 rfl rfl rfl ?_
      refine gi_sub [1, 2, 3, 4, 5, 0] rfl ?_
      have key := lp_ind (f := (fun a : gV × Int32 => f_X8_askOf_B70 x1 x2 x3 x4 a.2 a.1)) (P := (fun a : gV × Int32 => gx_G Γ Ω LM (gx_Q Γ Ω LM (some (.int r0)) v0) 9 a.1 70 [(0, .ref (Ω.1 0)), (1, .int x1), (2, .int x2), (3, .int x3), (4, .int x4), (5, .int a.2)] [])) (Z := (fun z : gV => gx_G Γ Ω LM (gx_Q Γ Ω LM (some (.int r0)) v0) 9 z 114 [(0, .ref (Ω.1 0)), (1, .int x1), (2, .int x2), (3, .int x3), (4, .int x4)] [])) (fun a o h hc hz => t_X8_askOf_B70 hX hR x1 x2 x3 x4 a.2 a.1 h (fun c0 c1 e => hc (c0, c1) e) (fun z0 e => hz z0 e)) fu
      obtain ⟨v7, e0, h⟩ := bx1_some h
      refine key (v5, (0 : Int32)) _ e0 ?_
      show gx_G Γ Ω LM (gx_Q Γ Ω LM (some (.int r0)) v0) 9 v7 114 [(0, .ref (Ω.1 0)), (1, .int x1), (2, .int x2), (3, .int x3), (4, .int x4)] []
      exact t_X8_askOf_J114 hX hR x1 x2 x3 x4 v7 h hc hz
set_option maxRecDepth 20000 in
theorem t_X8_askOf_B151 {Γ : gC} {Ω : gO} {r0 : Int32} {v0 : gV} {o : (gV × Int32 × Int32) ⊕ (gV × Int32)} (hX : gx_X Γ Ω cX8_askOf RX8 9 (some .int)) (hR : Γ.2.2.2.1 = gx_R 8) (x4 : Int32) (x5 : Int32) (x6 : Int32) (x7 : Int32) (x8 : Int32) (v : gV) (h : f_X8_askOf_B151 x4 x5 x6 x7 x8 v = some o) (hc : ∀ c0 c1 c2, o = .inl (c0, c1, c2) → gx_G Γ Ω LM (gx_Q Γ Ω LM (some (.int r0)) v0) 9 c0 151 [(0, .ref (Ω.1 0)), (4, .int x4), (5, .int x5), (6, .int x6), (7, .int c1), (8, .int c2)] []) (hz : ∀ z0 z1, o = .inr (z0, z1) → gx_G Γ Ω LM (gx_Q Γ Ω LM (some (.int r0)) v0) 9 z0 184 [(0, .ref (Ω.1 0)), (4, .int x4), (5, .int x5), (6, .int x6), (7, .int z1)] []) : gx_G Γ Ω LM (gx_Q Γ Ω LM (some (.int r0)) v0) 9 v 151 [(0, .ref (Ω.1 0)), (4, .int x4), (5, .int x5), (6, .int x6), (7, .int x7), (8, .int x8)] [] := by
  rw [f_X8_askOf_B151] at h
  refine gi_iload (n := 153) hX 5 dX8_askOf_151 rfl rfl ?_
  refine gi_bipush (x := (9 : Int32)) (n := 155) hX rfl dX8_askOf_153 rfl ?_
  refine gi_icmp_ge (tgt := 184) (n := 158) hX dX8_askOf_155 rfl rfl h (fun h => ?_) (fun h => ?_)
  · refine gi_sub [0, 1, 2, 3, 4] rfl ?_
    exact hz _ _ (Option.some.inj h).symm
  · refine gi_aload_n (n := 159) hX 0 dX8_askOf_158 rfl rfl rfl ?_
    refine gi_getR (n := 162) hX 28 kc_X8 ly_X8 rfl rfl fl_X8_67 dX8_askOf_159 rfl ?_
    refine gi_bipush (x := (9 : Int32)) (n := 164) hX rfl dX8_askOf_162 rfl ?_
    refine gi_iload (n := 166) hX 3 dX8_askOf_164 rfl rfl ?_
    refine gi_imul (n := 167) hX dX8_askOf_166 rfl ?_
    refine gi_iload (n := 169) hX 5 dX8_askOf_167 rfl rfl ?_
    refine gi_iadd (n := 170) hX dX8_askOf_169 rfl ?_
    refine gi_iald (n := 171) hX lm_20 dX8_askOf_170 rfl h (fun h => ?_)
    refine gi_iload (n := 173) hX 4 dX8_askOf_171 rfl rfl ?_
    obtain ⟨r3, v1, e2, h⟩ := bi_some h
    refine gi_statI (st := []) (n := 176) hX hR ms_X8_greater ml_X8_236 (m_X8_greater Γ.2.1 Ω (v.1 20 ((((9 : Int32) * x6) + x8)).toNatClampNeg) x7 v e2) rfl ⟨rfl, rfl⟩ rfl dX8_askOf_173 rfl rfl ?_
    refine gi_istore (n := 178) hX [(7, .int r3), (0, .ref (Ω.1 0)), (4, .int x4), (5, .int x5), (6, .int x6), (8, .int x8)] dX8_askOf_176 rfl rfl rfl ?_
    refine gi_iinc (z := (1 : Int32)) (n := 181) hX 5 [(8, .int (x8 + (1 : Int32))), (7, .int r3), (0, .ref (Ω.1 0)), (4, .int x4), (5, .int x5), (6, .int x6)] dX8_askOf_178 rfl rfl rfl rfl rfl rfl ?_
    refine gi_goto (n := 151) hX dX8_askOf_181 rfl ?_
    refine gi_sub [2, 3, 4, 5, 1, 0] rfl ?_
    exact hc _ _ _ (Option.some.inj h).symm
set_option maxRecDepth 20000 in
theorem t_X8_askOf_J230 {Γ : gC} {Ω : gO} {r0 : Int32} {v0 : gV} {o : (gV × Int32 × Int32 × Int32) ⊕ (gV × Int32)} (hX : gx_X Γ Ω cX8_askOf RX8 9 (some .int)) (hR : Γ.2.2.2.1 = gx_R 8) (x4 : Int32) (x6 : Int32) (s0 : Int32) (v : gV) (h : f_X8_askOf_J230 x4 x6 s0 v = some o) (hc : ∀ c0 c1 c2 c3, o = .inl (c0, c1, c2, c3) → gx_G Γ Ω LM (gx_Q Γ Ω LM (some (.int r0)) v0) 9 c0 136 [(0, .ref (Ω.1 0)), (4, .int c1), (5, .int c2), (6, .int c3)] []) (hz : ∀ z0 z1, o = .inr (z0, z1) → gx_G Γ Ω LM (gx_Q Γ Ω LM (some (.int r0)) v0) 9 z0 238 [(4, .int z1)] []) : gx_G Γ Ω LM (gx_Q Γ Ω LM (some (.int r0)) v0) 9 v 230 [(0, .ref (Ω.1 0)), (4, .int x4), (6, .int x6)] [.int s0] := by
  rw [f_X8_askOf_J230] at h
  refine gi_istore (n := 232) hX [(5, .int s0), (0, .ref (Ω.1 0)), (4, .int x4), (6, .int x6)] dX8_askOf_230 rfl rfl rfl ?_
  refine gi_iinc (z := (1 : Int32)) (n := 235) hX 3 [(6, .int (x6 + (1 : Int32))), (5, .int s0), (0, .ref (Ω.1 0)), (4, .int x4)] dX8_askOf_232 rfl rfl rfl rfl rfl rfl ?_
  refine gi_goto (n := 136) hX dX8_askOf_235 rfl ?_
  refine gi_sub [2, 3, 1, 0] rfl ?_
  exact hc _ _ _ _ (Option.some.inj h).symm
set_option maxRecDepth 20000 in
theorem t_X8_askOf_J216 {Γ : gC} {Ω : gO} {r0 : Int32} {v0 : gV} {o : (gV × Int32 × Int32 × Int32) ⊕ (gV × Int32)} (hX : gx_X Γ Ω cX8_askOf RX8 9 (some .int)) (hR : Γ.2.2.2.1 = gx_R 8) (x5 : Int32) (x6 : Int32) (x7 : Int32) (x8 : Int32) (s0 : Int32) (v : gV) (h : f_X8_askOf_J216 x5 x6 x7 x8 s0 v = some o) (hc : ∀ c0 c1 c2 c3, o = .inl (c0, c1, c2, c3) → gx_G Γ Ω LM (gx_Q Γ Ω LM (some (.int r0)) v0) 9 c0 136 [(0, .ref (Ω.1 0)), (4, .int c1), (5, .int c2), (6, .int c3)] []) (hz : ∀ z0 z1, o = .inr (z0, z1) → gx_G Γ Ω LM (gx_Q Γ Ω LM (some (.int r0)) v0) 9 z0 238 [(4, .int z1)] []) : gx_G Γ Ω LM (gx_Q Γ Ω LM (some (.int r0)) v0) 9 v 216 [(0, .ref (Ω.1 0)), (5, .int x5), (6, .int x6), (7, .int x7), (8, .int x8)] [.int s0] := by
  rw [f_X8_askOf_J216] at h
  refine gi_istore (n := 218) hX [(4, .int s0), (0, .ref (Ω.1 0)), (5, .int x5), (6, .int x6), (7, .int x7), (8, .int x8)] dX8_askOf_216 rfl rfl rfl ?_
  refine gi_iload (n := 220) hX 5 dX8_askOf_218 rfl rfl ?_
  refine gi_if_eq (tgt := 228) (n := 223) hX dX8_askOf_220 rfl rfl h (fun h => ?_) (fun h => ?_)
  · refine gi_iload (n := 230) hX 2 dX8_askOf_228 rfl rfl ?_
    refine gi_sub [1, 0, 3] rfl ?_
    exact t_X8_askOf_J230 hX hR s0 x6 x5 v h hc hz
  · refine gi_iload (n := 225) hX 4 dX8_askOf_223 rfl rfl ?_
    refine gi_goto (n := 230) hX dX8_askOf_225 rfl ?_
    refine gi_sub [1, 0, 3] rfl ?_
    exact t_X8_askOf_J230 hX hR s0 x6 x7 v h hc hz
set_option maxRecDepth 20000 in
theorem t_X8_askOf_J202 {Γ : gC} {Ω : gO} {r0 : Int32} {v0 : gV} {o : (gV × Int32 × Int32 × Int32) ⊕ (gV × Int32)} (hX : gx_X Γ Ω cX8_askOf RX8 9 (some .int)) (hR : Γ.2.2.2.1 = gx_R 8) (x4 : Int32) (x5 : Int32) (x6 : Int32) (x7 : Int32) (s0 : Int32) (v : gV) (h : f_X8_askOf_J202 x4 x5 x6 x7 s0 v = some o) (hc : ∀ c0 c1 c2 c3, o = .inl (c0, c1, c2, c3) → gx_G Γ Ω LM (gx_Q Γ Ω LM (some (.int r0)) v0) 9 c0 136 [(0, .ref (Ω.1 0)), (4, .int c1), (5, .int c2), (6, .int c3)] []) (hz : ∀ z0 z1, o = .inr (z0, z1) → gx_G Γ Ω LM (gx_Q Γ Ω LM (some (.int r0)) v0) 9 z0 238 [(4, .int z1)] []) : gx_G Γ Ω LM (gx_Q Γ Ω LM (some (.int r0)) v0) 9 v 202 [(0, .ref (Ω.1 0)), (4, .int x4), (5, .int x5), (6, .int x6), (7, .int x7)] [.int s0] := by
  rw [f_X8_askOf_J202] at h
  refine gi_istore (n := 204) hX [(8, .int s0), (0, .ref (Ω.1 0)), (4, .int x4), (5, .int x5), (6, .int x6), (7, .int x7)] dX8_askOf_202 rfl rfl rfl ?_
  refine gi_iload (n := 206) hX 0 dX8_askOf_204 rfl rfl ?_
  refine gi_if_eq (tgt := 214) (n := 209) hX dX8_askOf_206 rfl rfl h (fun h => ?_) (fun h => ?_)
  · refine gi_iload (n := 216) hX 2 dX8_askOf_214 rfl rfl ?_
    refine gi_sub [1, 3, 4, 5, 0] rfl ?_
    exact t_X8_askOf_J216 hX hR x5 x6 x7 s0 x4 v h hc hz
  · refine gi_iload (n := 211) hX 4 dX8_askOf_209 rfl rfl ?_
    refine gi_goto (n := 216) hX dX8_askOf_211 rfl ?_
    refine gi_sub [1, 3, 4, 5, 0] rfl ?_
    exact t_X8_askOf_J216 hX hR x5 x6 x7 s0 x6 v h hc hz
set_option maxRecDepth 20000 in
theorem t_X8_askOf_J197 {Γ : gC} {Ω : gO} {r0 : Int32} {v0 : gV} {o : (gV × Int32 × Int32 × Int32) ⊕ (gV × Int32)} (hX : gx_X Γ Ω cX8_askOf RX8 9 (some .int)) (hR : Γ.2.2.2.1 = gx_R 8) (x4 : Int32) (x5 : Int32) (x6 : Int32) (x7 : Int32) (v : gV) (h : f_X8_askOf_J197 x4 x5 x6 x7 v = some o) (hc : ∀ c0 c1 c2 c3, o = .inl (c0, c1, c2, c3) → gx_G Γ Ω LM (gx_Q Γ Ω LM (some (.int r0)) v0) 9 c0 136 [(0, .ref (Ω.1 0)), (4, .int c1), (5, .int c2), (6, .int c3)] []) (hz : ∀ z0 z1, o = .inr (z0, z1) → gx_G Γ Ω LM (gx_Q Γ Ω LM (some (.int r0)) v0) 9 z0 238 [(4, .int z1)] []) : gx_G Γ Ω LM (gx_Q Γ Ω LM (some (.int r0)) v0) 9 v 197 [(0, .ref (Ω.1 0)), (4, .int x4), (5, .int x5), (6, .int x6), (7, .int x7)] [] := by
  rw [f_X8_askOf_J197] at h
  refine gi_iconst (x := (1 : Int32)) (n := 198) hX rfl dX8_askOf_197 rfl ?_
  refine gi_goto (n := 202) hX dX8_askOf_198 rfl ?_
  exact t_X8_askOf_J202 hX hR x4 x5 x6 x7 (1 : Int32) v h hc hz
set_option maxRecDepth 20000 in
theorem t_X8_askOf_B136 {Γ : gC} {Ω : gO} {r0 : Int32} {v0 : gV} {o : (gV × Int32 × Int32 × Int32) ⊕ (gV × Int32)} (hX : gx_X Γ Ω cX8_askOf RX8 9 (some .int)) (hR : Γ.2.2.2.1 = gx_R 8) (x4 : Int32) (x5 : Int32) (x6 : Int32) (v : gV) (h : f_X8_askOf_B136 x4 x5 x6 v = some o) (hc : ∀ c0 c1 c2 c3, o = .inl (c0, c1, c2, c3) → gx_G Γ Ω LM (gx_Q Γ Ω LM (some (.int r0)) v0) 9 c0 136 [(0, .ref (Ω.1 0)), (4, .int c1), (5, .int c2), (6, .int c3)] []) (hz : ∀ z0 z1, o = .inr (z0, z1) → gx_G Γ Ω LM (gx_Q Γ Ω LM (some (.int r0)) v0) 9 z0 238 [(4, .int z1)] []) : gx_G Γ Ω LM (gx_Q Γ Ω LM (some (.int r0)) v0) 9 v 136 [(0, .ref (Ω.1 0)), (4, .int x4), (5, .int x5), (6, .int x6)] [] := by
  rw [f_X8_askOf_B136] at h
  refine gi_iload (n := 138) hX 3 dX8_askOf_136 rfl rfl ?_
  refine gi_aload_n (n := 139) hX 0 dX8_askOf_138 rfl rfl rfl ?_
  refine gi_getI (n := 142) hX 7 kc_X8 ly_X8 rfl rfl fl_X8_120 dX8_askOf_139 rfl ?_
  refine gi_icmp_ge (tgt := 238) (n := 145) hX dX8_askOf_142 rfl rfl h (fun h => ?_) (fun h => ?_)
  · refine gi_sub [1] rfl ?_
    exact hz _ _ (Option.some.inj h).symm
  · refine gi_iconst (x := (0 : Int32)) (n := 146) hX rfl dX8_askOf_145 rfl ?_
    refine gi_istore (n := 148) hX [(7, .int (0 : Int32)), (0, .ref (Ω.1 0)), (4, .int x4), (5, .int x5), (6, .int x6)] dX8_askOf_146 rfl rfl rfl ?_
    refine gi_iconst (x := (0 : Int32)) (n := 149) hX rfl dX8_askOf_148 rfl ?_
    refine gi_istore (n := 151) hX [(8, .int (0 : Int32)), (7, .int (0 : Int32)), (0, .ref (Ω.1 0)), (4, .int x4), (5, .int x5), (6, .int x6)] dX8_askOf_149 rfl rfl rfl ?_
    refine gi_sub [2, 3, 4, 5, 1, 0] rfl ?_
    have key := lp_ind (f := (fun a : gV × Int32 × Int32 => f_X8_askOf_B151 x4 x5 x6 a.2.1 a.2.2 a.1)) (P := (fun a : gV × Int32 × Int32 => gx_G Γ Ω LM (gx_Q Γ Ω LM (some (.int r0)) v0) 9 a.1 151 [(0, .ref (Ω.1 0)), (4, .int x4), (5, .int x5), (6, .int x6), (7, .int a.2.1), (8, .int a.2.2)] [])) (Z := (fun z : gV × Int32 => gx_G Γ Ω LM (gx_Q Γ Ω LM (some (.int r0)) v0) 9 z.1 184 [(0, .ref (Ω.1 0)), (4, .int x4), (5, .int x5), (6, .int x6), (7, .int z.2)] [])) (fun a o h hc hz => t_X8_askOf_B151 hX hR x4 x5 x6 a.2.1 a.2.2 a.1 h (fun c0 c1 c2 e => hc (c0, c1, c2) e) (fun z0 z1 e => hz (z0, z1) e)) fu
    obtain ⟨v1, y2, e0, h⟩ := bx2_some h
    refine key (v, (0 : Int32), (0 : Int32)) _ e0 ?_
    show gx_G Γ Ω LM (gx_Q Γ Ω LM (some (.int r0)) v0) 9 v1 184 [(0, .ref (Ω.1 0)), (4, .int x4), (5, .int x5), (6, .int x6), (7, .int y2)] []
    refine gi_iload (n := 186) hX 1 dX8_askOf_184 rfl rfl ?_
    refine gi_iconst (x := (-1 : Int32)) (n := 187) hX rfl dX8_askOf_186 rfl ?_
    refine gi_icmp_eq (tgt := 197) (n := 190) hX dX8_askOf_187 rfl rfl h (fun h => ?_) (fun h => ?_)
    · exact t_X8_askOf_J197 hX hR x4 x5 x6 y2 v1 h hc hz
    · refine gi_iload (n := 192) hX 4 dX8_askOf_190 rfl rfl ?_
      refine gi_iload (n := 194) hX 2 dX8_askOf_192 rfl rfl ?_
      refine gi_icmp_ge (tgt := 201) (n := 197) hX dX8_askOf_194 rfl rfl h (fun h => ?_) (fun h => ?_)
      · refine gi_iconst (x := (0 : Int32)) (n := 202) hX rfl dX8_askOf_201 rfl ?_
        exact t_X8_askOf_J202 hX hR x4 x5 x6 y2 (0 : Int32) v1 h hc hz
      · exact t_X8_askOf_J197 hX hR x4 x5 x6 y2 v1 h hc hz
set_option maxRecDepth 20000 in
theorem t_X8_askOf {Γ : gC} {Ω : gO} {r0 : Int32} {v0 : gV} (hX : gx_X Γ Ω cX8_askOf RX8 9 (some .int)) (hR : Γ.2.2.2.1 = gx_R 8) (x1 : Int32) (v : gV) (h : f_X8_askOf x1 v = some (r0, v0)) : gx_G Γ Ω LM (gx_Q Γ Ω LM (some (.int r0)) v0) 9 v 0 [(0, .ref (Ω.1 0)), (1, .int x1)] [] := by
  rw [f_X8_askOf] at h
  refine gi_aload_n (n := 1) hX 0 dX8_askOf_0 rfl rfl rfl ?_
  obtain ⟨r3, v1, e2, h⟩ := bi_some h
  refine gi_virtI (st := []) (n := 4) hX hR kc_X8 ly_X8 mv_X8_wasNow ml_X8_260 (m_X8_wasNow Γ.2.1 Ω v e2) rfl ⟨rfl, rfl⟩ rfl dX8_askOf_1 rfl rfl ?_
  refine gi_istore_n (n := 5) hX [(2, .int r3), (0, .ref (Ω.1 0)), (1, .int x1)] dX8_askOf_4 rfl rfl rfl rfl ?_
  refine gi_aload_n (n := 6) hX 1 dX8_askOf_5 rfl rfl rfl ?_
  refine gi_getR (n := 9) hX 12 kc_X8 ly_X8 rfl rfl fl_X8_37 dX8_askOf_6 rfl ?_
  refine gi_iconst (x := (0 : Int32)) (n := 10) hX rfl dX8_askOf_9 rfl ?_
  refine gi_iald (n := 11) hX lm_10 dX8_askOf_10 rfl h (fun h => ?_)
  refine gi_topI h (fun u4 h => ?_)
  refine gi_istore_n (n := 12) hX [(3, .int u4), (2, .int r3), (0, .ref (Ω.1 0)), (1, .int x1)] dX8_askOf_11 rfl rfl rfl rfl ?_
  refine gi_iconst (x := (0 : Int32)) (n := 13) hX rfl dX8_askOf_12 rfl ?_
  refine gi_istore (n := 15) hX [(4, .int (0 : Int32)), (3, .int u4), (2, .int r3), (0, .ref (Ω.1 0)), (1, .int x1)] dX8_askOf_13 rfl rfl rfl ?_
  refine gi_sub [3, 4, 2, 1, 0] rfl ?_
  have key := lp_ind (f := (fun a : gV × Int32 => f_X8_askOf_B15 x1 r3 u4 a.2 a.1)) (P := (fun a : gV × Int32 => gx_G Γ Ω LM (gx_Q Γ Ω LM (some (.int r0)) v0) 9 a.1 15 [(0, .ref (Ω.1 0)), (1, .int x1), (2, .int r3), (3, .int u4), (4, .int a.2)] [])) (Z := (fun z : gV => gx_G Γ Ω LM (gx_Q Γ Ω LM (some (.int r0)) v0) 9 z 36 [(0, .ref (Ω.1 0)), (1, .int x1), (2, .int r3), (3, .int u4)] [])) (fun a o h hc hz => t_X8_askOf_B15 hX hR x1 r3 u4 a.2 a.1 h (fun c0 c1 e => hc (c0, c1) e) (fun z0 e => hz z0 e)) fu
  obtain ⟨v5, e0, h⟩ := bx1_some h
  refine key (v1, (0 : Int32)) _ e0 ?_
  show gx_G Γ Ω LM (gx_Q Γ Ω LM (some (.int r0)) v0) 9 v5 36 [(0, .ref (Ω.1 0)), (1, .int x1), (2, .int r3), (3, .int u4)] []
  refine gi_iconst (x := (0 : Int32)) (n := 37) hX rfl dX8_askOf_36 rfl ?_
  refine gi_istore (n := 39) hX [(4, .int (0 : Int32)), (0, .ref (Ω.1 0)), (1, .int x1), (2, .int r3), (3, .int u4)] dX8_askOf_37 rfl rfl rfl ?_
  refine gi_sub [1, 2, 3, 4, 0] rfl ?_
  have key := lp_ind (f := (fun a : gV × Int32 => f_X8_askOf_B39 x1 r3 u4 a.2 a.1)) (P := (fun a : gV × Int32 => gx_G Γ Ω LM (gx_Q Γ Ω LM (some (.int r0)) v0) 9 a.1 39 [(0, .ref (Ω.1 0)), (1, .int x1), (2, .int r3), (3, .int u4), (4, .int a.2)] [])) (Z := (fun z : gV => gx_G Γ Ω LM (gx_Q Γ Ω LM (some (.int r0)) v0) 9 z 120 [(0, .ref (Ω.1 0)), (3, .int u4)] [])) (fun a o h hc hz => t_X8_askOf_B39 hX hR x1 r3 u4 a.2 a.1 h (fun c0 c1 e => hc (c0, c1) e) (fun z0 e => hz z0 e)) fu
  obtain ⟨v6, e0, h⟩ := bx1_some h
  refine key (v5, (0 : Int32)) _ e0 ?_
  show gx_G Γ Ω LM (gx_Q Γ Ω LM (some (.int r0)) v0) 9 v6 120 [(0, .ref (Ω.1 0)), (3, .int u4)] []
  refine gi_aload_n (n := 121) hX 0 dX8_askOf_120 rfl rfl rfl ?_
  refine gi_getR (n := 124) hX 12 kc_X8 ly_X8 rfl rfl fl_X8_37 dX8_askOf_121 rfl ?_
  refine gi_iconst (x := (0 : Int32)) (n := 125) hX rfl dX8_askOf_124 rfl ?_
  refine gi_iload_n (n := 126) hX 1 dX8_askOf_125 rfl rfl rfl ?_
  refine gi_iast (n := 127) hX lm_10 dX8_askOf_126 rfl h (fun v7 h => ?_)
  refine gi_iconst (x := (-1 : Int32)) (n := 128) hX rfl dX8_askOf_127 rfl ?_
  refine gi_istore (n := 130) hX [(4, .int (-1 : Int32)), (0, .ref (Ω.1 0)), (3, .int u4)] dX8_askOf_128 rfl rfl rfl ?_
  refine gi_iconst (x := (0 : Int32)) (n := 131) hX rfl dX8_askOf_130 rfl ?_
  refine gi_istore (n := 133) hX [(5, .int (0 : Int32)), (4, .int (-1 : Int32)), (0, .ref (Ω.1 0)), (3, .int u4)] dX8_askOf_131 rfl rfl rfl ?_
  refine gi_iconst (x := (0 : Int32)) (n := 134) hX rfl dX8_askOf_133 rfl ?_
  refine gi_istore (n := 136) hX [(6, .int (0 : Int32)), (5, .int (0 : Int32)), (4, .int (-1 : Int32)), (0, .ref (Ω.1 0)), (3, .int u4)] dX8_askOf_134 rfl rfl rfl ?_
  refine gi_sub [3, 2, 1, 0] rfl ?_
  have key := lp_ind (f := (fun a : gV × Int32 × Int32 × Int32 => f_X8_askOf_B136 a.2.1 a.2.2.1 a.2.2.2 a.1)) (P := (fun a : gV × Int32 × Int32 × Int32 => gx_G Γ Ω LM (gx_Q Γ Ω LM (some (.int r0)) v0) 9 a.1 136 [(0, .ref (Ω.1 0)), (4, .int a.2.1), (5, .int a.2.2.1), (6, .int a.2.2.2)] [])) (Z := (fun z : gV × Int32 => gx_G Γ Ω LM (gx_Q Γ Ω LM (some (.int r0)) v0) 9 z.1 238 [(4, .int z.2)] [])) (fun a o h hc hz => t_X8_askOf_B136 hX hR a.2.1 a.2.2.1 a.2.2.2 a.1 h (fun c0 c1 c2 c3 e => hc (c0, c1, c2, c3) e) (fun z0 z1 e => hz (z0, z1) e)) fu
  obtain ⟨v8, y9, e0, h⟩ := bx2_some h
  refine key (v7, (-1 : Int32), (0 : Int32), (0 : Int32)) _ e0 ?_
  show gx_G Γ Ω LM (gx_Q Γ Ω LM (some (.int r0)) v0) 9 v8 238 [(4, .int y9)] []
  refine gi_iload (n := 240) hX 0 dX8_askOf_238 rfl rfl ?_
  exact gi_iret hX rfl dX8_askOf_240 h
theorem m_X8_askOf (l : Launch) (Ω : gO) (x1 : Int32) (v : gV) {r0 : Int32} {v0 : gV} (h : f_X8_askOf x1 v = some (r0, v0)) : gx_M l Ω LM yX8_askOf cX8_askOf 9 (some .int) 8 [.ref (Ω.1 0), .int x1] v (some (.int r0)) v0 := gx_start (lv := [(0, .ref (Ω.1 0)), (1, .int x1)]) (by decide +kernel) (Nat.le_of_ble_eq_true rfl) rfl (fun Γ _ hR hX => t_X8_askOf hX hR x1 v h)
set_option maxRecDepth 20000 in
theorem t_X8_ask {Γ : gC} {Ω : gO} {r0 : Int32} {v0 : gV} (hX : gx_X Γ Ω cX8_ask RX8 2 (some .int)) (hR : Γ.2.2.2.1 = gx_R 9) (x1 : Int32) (v : gV) (h : f_X8_ask x1 v = some (r0, v0)) : gx_G Γ Ω LM (gx_Q Γ Ω LM (some (.int r0)) v0) 2 v 0 [(0, .ref (Ω.1 0)), (1, .int x1)] [] := by
  rw [f_X8_ask] at h
  refine gi_aload_n (n := 1) hX 0 dX8_ask_0 rfl rfl rfl ?_
  obtain ⟨v1, e2, h⟩ := bv_some h
  refine gi_virtV (st := []) (n := 4) hX hR kc_X8 ly_X8 mv_X8_reads ml_X8_198 (m_X8_reads Γ.2.1 Ω v e2) rfl ⟨rfl, rfl⟩ rfl dX8_ask_1 rfl rfl ?_
  refine gi_iload_n (n := 5) hX 1 dX8_ask_4 rfl rfl rfl ?_
  obtain ⟨r5, v3, e4, h⟩ := bi_some h
  refine gi_statI (st := []) (n := 8) hX hR ms_X8_isDay ml_X8_201 (m_X8_isDay Γ.2.1 Ω x1 v1 e4) rfl ⟨rfl, rfl⟩ rfl dX8_ask_5 rfl rfl ?_
  refine gi_if_eq (tgt := 19) (n := 11) hX dX8_ask_8 rfl rfl h (fun h => ?_) (fun h => ?_)
  · refine gi_bipush (x := (-2 : Int32)) (n := 21) hX rfl dX8_ask_19 rfl ?_
    exact gi_iret hX rfl dX8_ask_21 h
  · refine gi_aload_n (n := 12) hX 0 dX8_ask_11 rfl rfl rfl ?_
    refine gi_iload_n (n := 13) hX 1 dX8_ask_12 rfl rfl rfl ?_
    obtain ⟨r8, v6, e7, h⟩ := bi_some h
    refine gi_virtI (st := []) (n := 16) hX hR kc_X8 ly_X8 mv_X8_askOf ml_X8_263 (m_X8_askOf Γ.2.1 Ω x1 v3 e7) rfl ⟨rfl, rfl⟩ rfl dX8_ask_13 rfl rfl ?_
    refine gi_goto (n := 21) hX dX8_ask_16 rfl ?_
    exact gi_iret hX rfl dX8_ask_21 h
theorem m_X8_ask (l : Launch) (Ω : gO) (x1 : Int32) (v : gV) {r0 : Int32} {v0 : gV} (h : f_X8_ask x1 v = some (r0, v0)) : gx_M l Ω LM yX8_ask cX8_ask 2 (some .int) 9 [.ref (Ω.1 0), .int x1] v (some (.int r0)) v0 := gx_start (lv := [(0, .ref (Ω.1 0)), (1, .int x1)]) (by decide +kernel) (Nat.le_of_ble_eq_true rfl) rfl (fun Γ _ hR hX => t_X8_ask hX hR x1 v h)
set_option maxRecDepth 20000 in
theorem t_X8_bagOf {Γ : gC} {Ω : gO} {r0 : Int32} {v0 : gV} (hX : gx_X Γ Ω cX8_bagOf RX8 3 (some .int)) (hR : Γ.2.2.2.1 = gx_R 0) (x1 : Int32) (x2 : Int32) (v : gV) (h : f_X8_bagOf x1 x2 v = some (r0, v0)) : gx_G Γ Ω LM (gx_Q Γ Ω LM (some (.int r0)) v0) 3 v 0 [(0, .ref (Ω.1 0)), (1, .int x1), (2, .int x2)] [] := by
  rw [f_X8_bagOf] at h
  refine gi_iload_n (n := 1) hX 2 dX8_bagOf_0 rfl rfl rfl ?_
  refine gi_iconst (x := (-1 : Int32)) (n := 2) hX rfl dX8_bagOf_1 rfl ?_
  refine gi_icmp_ne (tgt := 14) (n := 5) hX dX8_bagOf_2 rfl rfl h (fun h => ?_) (fun h => ?_)
  · refine gi_iload_n (n := 15) hX 2 dX8_bagOf_14 rfl rfl rfl ?_
    refine gi_aload_n (n := 16) hX 0 dX8_bagOf_15 rfl rfl rfl ?_
    refine gi_getR (n := 19) hX 21 kc_X8 ly_X8 rfl rfl fl_X8_55 dX8_bagOf_16 rfl ?_
    refine gi_iload_n (n := 20) hX 1 dX8_bagOf_19 rfl rfl rfl ?_
    refine gi_iald (n := 21) hX lm_16 dX8_bagOf_20 rfl h (fun h => ?_)
    refine gi_icmp_ge (tgt := 38) (n := 24) hX dX8_bagOf_21 rfl rfl h (fun h => ?_) (fun h => ?_)
    · refine gi_iconst (x := (-1 : Int32)) (n := 39) hX rfl dX8_bagOf_38 rfl ?_
      exact gi_iret hX rfl dX8_bagOf_39 h
    · refine gi_aload_n (n := 25) hX 0 dX8_bagOf_24 rfl rfl rfl ?_
      refine gi_getR (n := 28) hX 22 kc_X8 ly_X8 rfl rfl fl_X8_58 dX8_bagOf_25 rfl ?_
      refine gi_bipush (x := (29 : Int32)) (n := 30) hX rfl dX8_bagOf_28 rfl ?_
      refine gi_iload_n (n := 31) hX 1 dX8_bagOf_30 rfl rfl rfl ?_
      refine gi_imul (n := 32) hX dX8_bagOf_31 rfl ?_
      refine gi_iload_n (n := 33) hX 2 dX8_bagOf_32 rfl rfl rfl ?_
      refine gi_iadd (n := 34) hX dX8_bagOf_33 rfl ?_
      refine gi_iald (n := 35) hX lm_17 dX8_bagOf_34 rfl h (fun h => ?_)
      refine gi_goto (n := 39) hX dX8_bagOf_35 rfl ?_
      exact gi_iret hX rfl dX8_bagOf_39 h
  · refine gi_aload_n (n := 6) hX 0 dX8_bagOf_5 rfl rfl rfl ?_
    refine gi_getR (n := 9) hX 21 kc_X8 ly_X8 rfl rfl fl_X8_55 dX8_bagOf_6 rfl ?_
    refine gi_iload_n (n := 10) hX 1 dX8_bagOf_9 rfl rfl rfl ?_
    refine gi_iald (n := 11) hX lm_16 dX8_bagOf_10 rfl h (fun h => ?_)
    refine gi_goto (n := 39) hX dX8_bagOf_11 rfl ?_
    exact gi_iret hX rfl dX8_bagOf_39 h
theorem m_X8_bagOf (l : Launch) (Ω : gO) (x1 : Int32) (x2 : Int32) (v : gV) {r0 : Int32} {v0 : gV} (h : f_X8_bagOf x1 x2 v = some (r0, v0)) : gx_M l Ω LM yX8_bagOf cX8_bagOf 3 (some .int) 0 [.ref (Ω.1 0), .int x1, .int x2] v (some (.int r0)) v0 := gx_start (lv := [(0, .ref (Ω.1 0)), (1, .int x1), (2, .int x2)]) (by decide +kernel) (Nat.le_of_ble_eq_true rfl) rfl (fun Γ _ hR hX => t_X8_bagOf hX hR x1 x2 v h)
set_option maxRecDepth 20000 in
theorem t_X8_bag {Γ : gC} {Ω : gO} {r0 : Int32} {v0 : gV} (hX : gx_X Γ Ω cX8_bag RX8 3 (some .int)) (hR : Γ.2.2.2.1 = gx_R 7) (x1 : Int32) (x2 : Int32) (v : gV) (h : f_X8_bag x1 x2 v = some (r0, v0)) : gx_G Γ Ω LM (gx_Q Γ Ω LM (some (.int r0)) v0) 3 v 0 [(0, .ref (Ω.1 0)), (1, .int x1), (2, .int x2)] [] := by
  rw [f_X8_bag] at h
  refine gi_aload_n (n := 1) hX 0 dX8_bag_0 rfl rfl rfl ?_
  obtain ⟨v1, e2, h⟩ := bv_some h
  refine gi_virtV (st := []) (n := 4) hX hR kc_X8 ly_X8 mv_X8_reads ml_X8_198 (m_X8_reads Γ.2.1 Ω v e2) rfl ⟨rfl, rfl⟩ rfl dX8_bag_1 rfl rfl ?_
  refine gi_iload_n (n := 5) hX 1 dX8_bag_4 rfl rfl rfl ?_
  obtain ⟨r5, v3, e4, h⟩ := bi_some h
  refine gi_statI (st := []) (n := 8) hX hR ms_X8_isDay ml_X8_201 (m_X8_isDay Γ.2.1 Ω x1 v1 e4) rfl ⟨rfl, rfl⟩ rfl dX8_bag_5 rfl rfl ?_
  refine gi_if_eq (tgt := 34) (n := 11) hX dX8_bag_8 rfl rfl h (fun h => ?_) (fun h => ?_)
  · refine gi_bipush (x := (-2 : Int32)) (n := 36) hX rfl dX8_bag_34 rfl ?_
    exact gi_iret hX rfl dX8_bag_36 h
  · refine gi_iload_n (n := 12) hX 2 dX8_bag_11 rfl rfl rfl ?_
    refine gi_i2l (n := 13) hX dX8_bag_12 rfl ?_
    refine gi_ldc2 (n := 16) hX co_X8_204 dX8_bag_13 rfl ?_
    refine gi_ldc2 (n := 19) hX co_X8_206 dX8_bag_16 rfl ?_
    obtain ⟨r8, v6, e7, h⟩ := bi_some h
    refine gi_statI (st := []) (n := 22) hX hR ms_X8_in ml_X8_76 (m_X8_in Γ.2.1 Ω ((x2).toInt64) (-1 : Int64) (27 : Int64) v3 e7) rfl ⟨rfl, rfl⟩ rfl dX8_bag_19 rfl rfl ?_
    refine gi_if_eq (tgt := 34) (n := 25) hX dX8_bag_22 rfl rfl h (fun h => ?_) (fun h => ?_)
    · refine gi_bipush (x := (-2 : Int32)) (n := 36) hX rfl dX8_bag_34 rfl ?_
      exact gi_iret hX rfl dX8_bag_36 h
    · refine gi_aload_n (n := 26) hX 0 dX8_bag_25 rfl rfl rfl ?_
      refine gi_iload_n (n := 27) hX 1 dX8_bag_26 rfl rfl rfl ?_
      refine gi_iload_n (n := 28) hX 2 dX8_bag_27 rfl rfl rfl ?_
      obtain ⟨r11, v9, e10, h⟩ := bi_some h
      refine gi_virtI (st := []) (n := 31) hX hR kc_X8 ly_X8 mv_X8_bagOf ml_X8_208 (m_X8_bagOf Γ.2.1 Ω x1 x2 v6 e10) rfl ⟨rfl, rfl⟩ rfl dX8_bag_28 rfl rfl ?_
      refine gi_goto (n := 36) hX dX8_bag_31 rfl ?_
      exact gi_iret hX rfl dX8_bag_36 h
theorem m_X8_bag (l : Launch) (Ω : gO) (x1 : Int32) (x2 : Int32) (v : gV) {r0 : Int32} {v0 : gV} (h : f_X8_bag x1 x2 v = some (r0, v0)) : gx_M l Ω LM yX8_bag cX8_bag 3 (some .int) 7 [.ref (Ω.1 0), .int x1, .int x2] v (some (.int r0)) v0 := gx_start (lv := [(0, .ref (Ω.1 0)), (1, .int x1), (2, .int x2)]) (by decide +kernel) (Nat.le_of_ble_eq_true rfl) rfl (fun Γ _ hR hX => t_X8_bag hX hR x1 x2 v h)
set_option maxRecDepth 20000 in
theorem t_X8_isSheet {Γ : gC} {Ω : gO} {r0 : Int32} {v0 : gV} (hX : gx_X Γ Ω cX8_isSheet RX8 1 (some .boolean)) (hR : Γ.2.2.2.1 = gx_R 1) (x0 : Int32) (v : gV) (h : f_X8_isSheet x0 v = some (r0, v0)) : gx_G Γ Ω LM (gx_Q Γ Ω LM (some (.int r0)) v0) 1 v 0 [(0, .int x0)] [] := by
  rw [f_X8_isSheet] at h
  refine gi_iload_n (n := 1) hX 0 dX8_isSheet_0 rfl rfl rfl ?_
  refine gi_i2l (n := 2) hX dX8_isSheet_1 rfl ?_
  refine gi_lconst (x := (0 : Int64)) (n := 3) hX rfl dX8_isSheet_2 rfl ?_
  refine gi_ldc2 (n := 6) hX co_X8_83 dX8_isSheet_3 rfl ?_
  obtain ⟨r3, v1, e2, h⟩ := bi_some h
  refine gi_statI (st := []) (n := 9) hX hR ms_X8_in ml_X8_76 (m_X8_in Γ.2.1 Ω ((x0).toInt64) (0 : Int64) (3 : Int64) v e2) rfl ⟨rfl, rfl⟩ rfl dX8_isSheet_6 rfl rfl ?_
  exact gi_zret hX rfl dX8_isSheet_9 h
theorem m_X8_isSheet (l : Launch) (Ω : gO) (x0 : Int32) (v : gV) {r0 : Int32} {v0 : gV} (h : f_X8_isSheet x0 v = some (r0, v0)) : gx_M l Ω LM yX8_isSheet cX8_isSheet 1 (some .boolean) 1 [.int x0] v (some (.int r0)) v0 := gx_start (lv := [(0, .int x0)]) (by decide +kernel) (Nat.le_of_ble_eq_true rfl) rfl (fun Γ _ hR hX => t_X8_isSheet hX hR x0 v h)
set_option maxRecDepth 20000 in
theorem t_X8_finds {Γ : gC} {Ω : gO} {r0 : Int32} {v0 : gV} (hX : gx_X Γ Ω cX8_finds RX8 2 (some .int)) (hR : Γ.2.2.2.1 = gx_R 0) (x1 : Int32) (v : gV) (h : f_X8_finds x1 v = some (r0, v0)) : gx_G Γ Ω LM (gx_Q Γ Ω LM (some (.int r0)) v0) 2 v 0 [(0, .ref (Ω.1 0)), (1, .int x1)] [] := by
  rw [f_X8_finds] at h
  refine gi_aload_n (n := 1) hX 0 dX8_finds_0 rfl rfl rfl ?_
  refine gi_iload_n (n := 2) hX 1 dX8_finds_1 rfl rfl rfl ?_
  refine gi_putI (n := 5) hX 4 kc_X8 ly_X8 rfl rfl fl_X8_80 rfl rfl dX8_finds_2 rfl h (fun v1 h => ?_)
  refine gi_bipush (x := (-10 : Int32)) (n := 7) hX rfl dX8_finds_5 rfl ?_
  refine gi_iload_n (n := 8) hX 1 dX8_finds_7 rfl rfl rfl ?_
  refine gi_isub (n := 9) hX dX8_finds_8 rfl ?_
  exact gi_iret hX rfl dX8_finds_9 h
theorem m_X8_finds (l : Launch) (Ω : gO) (x1 : Int32) (v : gV) {r0 : Int32} {v0 : gV} (h : f_X8_finds x1 v = some (r0, v0)) : gx_M l Ω LM yX8_finds cX8_finds 2 (some .int) 0 [.ref (Ω.1 0), .int x1] v (some (.int r0)) v0 := gx_start (lv := [(0, .ref (Ω.1 0)), (1, .int x1)]) (by decide +kernel) (Nat.le_of_ble_eq_true rfl) rfl (fun Γ _ hR hX => t_X8_finds hX hR x1 v h)
set_option maxRecDepth 20000 in
theorem t_X8_copy_J35 {Γ : gC} {Ω : gO} {r0 : Int32} {v0 : gV} (hX : gx_X Γ Ω cX8_copy RX8 7 (some .int)) (hR : Γ.2.2.2.1 = gx_R 2)  (v : gV) (h : f_X8_copy_J35  v = some (r0, v0)) : gx_G Γ Ω LM (gx_Q Γ Ω LM (some (.int r0)) v0) 7 v 35 [(0, .ref (Ω.1 0))] [] := by
  rw [f_X8_copy_J35] at h
  refine gi_aload_n (n := 36) hX 0 dX8_copy_35 rfl rfl rfl ?_
  refine gi_iconst (x := (1 : Int32)) (n := 37) hX rfl dX8_copy_36 rfl ?_
  obtain ⟨r3, v1, e2, h⟩ := bi_some h
  refine gi_virtI (st := []) (n := 40) hX hR kc_X8 ly_X8 mv_X8_finds ml_X8_91 (m_X8_finds Γ.2.1 Ω (1 : Int32) v e2) rfl ⟨rfl, rfl⟩ rfl dX8_copy_37 rfl rfl ?_
  exact gi_iret hX rfl dX8_copy_40 h
set_option maxRecDepth 20000 in
theorem t_X8_copy_J111 {Γ : gC} {Ω : gO} {r0 : Int32} {v0 : gV} (hX : gx_X Γ Ω cX8_copy RX8 7 (some .int)) (hR : Γ.2.2.2.1 = gx_R 2)  (v : gV) (h : f_X8_copy_J111  v = some (r0, v0)) : gx_G Γ Ω LM (gx_Q Γ Ω LM (some (.int r0)) v0) 7 v 111 [(0, .ref (Ω.1 0))] [] := by
  rw [f_X8_copy_J111] at h
  refine gi_aload_n (n := 112) hX 0 dX8_copy_111 rfl rfl rfl ?_
  refine gi_iconst (x := (2 : Int32)) (n := 113) hX rfl dX8_copy_112 rfl ?_
  obtain ⟨r3, v1, e2, h⟩ := bi_some h
  refine gi_virtI (st := []) (n := 116) hX hR kc_X8 ly_X8 mv_X8_finds ml_X8_91 (m_X8_finds Γ.2.1 Ω (2 : Int32) v e2) rfl ⟨rfl, rfl⟩ rfl dX8_copy_113 rfl rfl ?_
  exact gi_iret hX rfl dX8_copy_116 h
set_option maxRecDepth 20000 in
theorem t_X8_copy_B120 {Γ : gC} {Ω : gO} {r0 : Int32} {v0 : gV} {o : (gV × Int32) ⊕ (gV)} (hX : gx_X Γ Ω cX8_copy RX8 7 (some .int)) (hR : Γ.2.2.2.1 = gx_R 2) (x1 : Int32) (x2 : Int32) (x3 : Int32) (x4 : Int32) (x5 : Int32) (x6 : Int32) (v : gV) (h : f_X8_copy_B120 x1 x2 x3 x4 x5 x6 v = some o) (hc : ∀ c0 c1, o = .inl (c0, c1) → gx_G Γ Ω LM (gx_Q Γ Ω LM (some (.int r0)) v0) 7 c0 120 [(0, .ref (Ω.1 0)), (1, .int x1), (2, .int x2), (3, .int x3), (4, .int x4), (5, .int x5), (6, .int c1)] []) (hz : ∀ z0, o = .inr z0 → gx_G Γ Ω LM (gx_Q Γ Ω LM (some (.int r0)) v0) 7 z0 154 [(0, .ref (Ω.1 0)), (3, .int x3), (4, .int x4), (5, .int x5)] []) : gx_G Γ Ω LM (gx_Q Γ Ω LM (some (.int r0)) v0) 7 v 120 [(0, .ref (Ω.1 0)), (1, .int x1), (2, .int x2), (3, .int x3), (4, .int x4), (5, .int x5), (6, .int x6)] [] := by
  rw [f_X8_copy_B120] at h
  refine gi_iload (n := 122) hX 6 dX8_copy_120 rfl rfl ?_
  refine gi_iload (n := 124) hX 5 dX8_copy_122 rfl rfl ?_
  refine gi_icmp_ge (tgt := 154) (n := 127) hX dX8_copy_124 rfl rfl h (fun h => ?_) (fun h => ?_)
  · refine gi_sub [0, 3, 4, 5] rfl ?_
    exact hz _ (Option.some.inj h).symm
  · refine gi_aload_n (n := 128) hX 0 dX8_copy_127 rfl rfl rfl ?_
    refine gi_getR (n := 131) hX 3 kc_X8 ly_X8 rfl rfl fl_X8_19 dX8_copy_128 rfl ?_
    refine gi_iload (n := 133) hX 6 dX8_copy_131 rfl rfl ?_
    refine gi_aload_n (n := 134) hX 0 dX8_copy_133 rfl rfl rfl ?_
    refine gi_getR (n := 137) hX 2 kc_X8 ly_X8 rfl rfl fl_X8_16 dX8_copy_134 rfl ?_
    refine gi_bipush (x := (60 : Int32)) (n := 139) hX rfl dX8_copy_137 rfl ?_
    refine gi_iload_n (n := 140) hX 1 dX8_copy_139 rfl rfl rfl ?_
    refine gi_imul (n := 141) hX dX8_copy_140 rfl ?_
    refine gi_iload_n (n := 142) hX 2 dX8_copy_141 rfl rfl rfl ?_
    refine gi_iadd (n := 143) hX dX8_copy_142 rfl ?_
    refine gi_iload (n := 145) hX 6 dX8_copy_143 rfl rfl ?_
    refine gi_iadd (n := 146) hX dX8_copy_145 rfl ?_
    refine gi_iald (n := 147) hX lm_3 dX8_copy_146 rfl h (fun h => ?_)
    refine gi_iast (n := 148) hX lm_4 dX8_copy_147 rfl h (fun v1 h => ?_)
    refine gi_iinc (z := (1 : Int32)) (n := 151) hX 6 [(6, .int (x6 + (1 : Int32))), (0, .ref (Ω.1 0)), (1, .int x1), (2, .int x2), (3, .int x3), (4, .int x4), (5, .int x5)] dX8_copy_148 rfl rfl rfl rfl rfl rfl ?_
    refine gi_goto (n := 120) hX dX8_copy_151 rfl ?_
    refine gi_sub [1, 2, 3, 4, 5, 6, 0] rfl ?_
    exact hc _ _ (Option.some.inj h).symm
set_option maxRecDepth 20000 in
theorem t_X8_copy_B157 {Γ : gC} {Ω : gO} {r0 : Int32} {v0 : gV} {o : (gV × Int32) ⊕ (gV)} (hX : gx_X Γ Ω cX8_copy RX8 7 (some .int)) (hR : Γ.2.2.2.1 = gx_R 2) (x3 : Int32) (x4 : Int32) (x5 : Int32) (x6 : Int32) (v : gV) (h : f_X8_copy_B157 x3 x4 x5 x6 v = some o) (hc : ∀ c0 c1, o = .inl (c0, c1) → gx_G Γ Ω LM (gx_Q Γ Ω LM (some (.int r0)) v0) 7 c0 157 [(0, .ref (Ω.1 0)), (3, .int x3), (4, .int x4), (5, .int x5), (6, .int c1)] []) (hz : ∀ z0, o = .inr z0 → gx_G Γ Ω LM (gx_Q Γ Ω LM (some (.int r0)) v0) 7 z0 192 [] []) : gx_G Γ Ω LM (gx_Q Γ Ω LM (some (.int r0)) v0) 7 v 157 [(0, .ref (Ω.1 0)), (3, .int x3), (4, .int x4), (5, .int x5), (6, .int x6)] [] := by
  rw [f_X8_copy_B157] at h
  refine gi_iload (n := 159) hX 4 dX8_copy_157 rfl rfl ?_
  refine gi_iload (n := 161) hX 3 dX8_copy_159 rfl rfl ?_
  refine gi_icmp_ge (tgt := 192) (n := 164) hX dX8_copy_161 rfl rfl h (fun h => ?_) (fun h => ?_)
  · refine gi_sub [] rfl ?_
    exact hz _ (Option.some.inj h).symm
  · refine gi_aload_n (n := 165) hX 0 dX8_copy_164 rfl rfl rfl ?_
    refine gi_getR (n := 168) hX 2 kc_X8 ly_X8 rfl rfl fl_X8_16 dX8_copy_165 rfl ?_
    refine gi_bipush (x := (60 : Int32)) (n := 170) hX rfl dX8_copy_168 rfl ?_
    refine gi_iload_n (n := 171) hX 1 dX8_copy_170 rfl rfl rfl ?_
    refine gi_imul (n := 172) hX dX8_copy_171 rfl ?_
    refine gi_iload (n := 174) hX 2 dX8_copy_172 rfl rfl ?_
    refine gi_iadd (n := 175) hX dX8_copy_174 rfl ?_
    refine gi_iload (n := 177) hX 4 dX8_copy_175 rfl rfl ?_
    refine gi_iadd (n := 178) hX dX8_copy_177 rfl ?_
    refine gi_aload_n (n := 179) hX 0 dX8_copy_178 rfl rfl rfl ?_
    refine gi_getR (n := 182) hX 3 kc_X8 ly_X8 rfl rfl fl_X8_19 dX8_copy_179 rfl ?_
    refine gi_iload (n := 184) hX 4 dX8_copy_182 rfl rfl ?_
    refine gi_iald (n := 185) hX lm_4 dX8_copy_184 rfl h (fun h => ?_)
    refine gi_iast (n := 186) hX lm_3 dX8_copy_185 rfl h (fun v1 h => ?_)
    refine gi_iinc (z := (1 : Int32)) (n := 189) hX 4 [(6, .int (x6 + (1 : Int32))), (0, .ref (Ω.1 0)), (3, .int x3), (4, .int x4), (5, .int x5)] dX8_copy_186 rfl rfl rfl rfl rfl rfl ?_
    refine gi_goto (n := 157) hX dX8_copy_189 rfl ?_
    refine gi_sub [1, 2, 3, 4, 0] rfl ?_
    exact hc _ _ (Option.some.inj h).symm
set_option maxRecDepth 20000 in
theorem t_X8_copy {Γ : gC} {Ω : gO} {r0 : Int32} {v0 : gV} (hX : gx_X Γ Ω cX8_copy RX8 7 (some .int)) (hR : Γ.2.2.2.1 = gx_R 2) (x1 : Int32) (x2 : Int32) (x3 : Int32) (x4 : Int32) (x5 : Int32) (v : gV) (h : f_X8_copy x1 x2 x3 x4 x5 v = some (r0, v0)) : gx_G Γ Ω LM (gx_Q Γ Ω LM (some (.int r0)) v0) 7 v 0 [(0, .ref (Ω.1 0)), (1, .int x1), (2, .int x2), (3, .int x3), (4, .int x4), (5, .int x5)] [] := by
  rw [f_X8_copy] at h
  refine gi_iload_n (n := 1) hX 1 dX8_copy_0 rfl rfl rfl ?_
  obtain ⟨r3, v1, e2, h⟩ := bi_some h
  refine gi_statI (st := []) (n := 4) hX hR ms_X8_isSheet ml_X8_85 (m_X8_isSheet Γ.2.1 Ω x1 v e2) rfl ⟨rfl, rfl⟩ rfl dX8_copy_1 rfl rfl ?_
  refine gi_if_eq (tgt := 14) (n := 7) hX dX8_copy_4 rfl rfl h (fun h => ?_) (fun h => ?_)
  · refine gi_bipush (x := (-2 : Int32)) (n := 16) hX rfl dX8_copy_14 rfl ?_
    exact gi_iret hX rfl dX8_copy_16 h
  · refine gi_iload_n (n := 8) hX 3 dX8_copy_7 rfl rfl rfl ?_
    obtain ⟨r6, v4, e5, h⟩ := bi_some h
    refine gi_statI (st := []) (n := 11) hX hR ms_X8_isSheet ml_X8_85 (m_X8_isSheet Γ.2.1 Ω x3 v1 e5) rfl ⟨rfl, rfl⟩ rfl dX8_copy_8 rfl rfl ?_
    refine gi_if_ne (tgt := 17) (n := 14) hX dX8_copy_11 rfl rfl h (fun h => ?_) (fun h => ?_)
    · refine gi_aload_n (n := 18) hX 0 dX8_copy_17 rfl rfl rfl ?_
      refine gi_getR (n := 21) hX 0 kc_X8 ly_X8 rfl rfl fl_X8_7 dX8_copy_18 rfl ?_
      refine gi_iload_n (n := 22) hX 1 dX8_copy_21 rfl rfl rfl ?_
      refine gi_iald (n := 23) hX lm_1 dX8_copy_22 rfl h (fun h => ?_)
      refine gi_if_lt (tgt := 35) (n := 26) hX dX8_copy_23 rfl rfl h (fun h => ?_) (fun h => ?_)
      · refine gi_sub [0] rfl ?_
        exact t_X8_copy_J35 hX hR v4 h
      · refine gi_aload_n (n := 27) hX 0 dX8_copy_26 rfl rfl rfl ?_
        refine gi_getR (n := 30) hX 0 kc_X8 ly_X8 rfl rfl fl_X8_7 dX8_copy_27 rfl ?_
        refine gi_iload_n (n := 31) hX 3 dX8_copy_30 rfl rfl rfl ?_
        refine gi_iald (n := 32) hX lm_1 dX8_copy_31 rfl h (fun h => ?_)
        refine gi_if_ge (tgt := 41) (n := 35) hX dX8_copy_32 rfl rfl h (fun h => ?_) (fun h => ?_)
        · refine gi_aload_n (n := 42) hX 0 dX8_copy_41 rfl rfl rfl ?_
          refine gi_getR (n := 45) hX 0 kc_X8 ly_X8 rfl rfl fl_X8_7 dX8_copy_42 rfl ?_
          refine gi_iload_n (n := 46) hX 1 dX8_copy_45 rfl rfl rfl ?_
          refine gi_iald (n := 47) hX lm_1 dX8_copy_46 rfl h (fun h => ?_)
          refine gi_aload_n (n := 48) hX 0 dX8_copy_47 rfl rfl rfl ?_
          refine gi_getR (n := 51) hX 0 kc_X8 ly_X8 rfl rfl fl_X8_7 dX8_copy_48 rfl ?_
          refine gi_iload_n (n := 52) hX 3 dX8_copy_51 rfl rfl rfl ?_
          refine gi_iald (n := 53) hX lm_1 dX8_copy_52 rfl h (fun h => ?_)
          refine gi_icmp_eq (tgt := 62) (n := 56) hX dX8_copy_53 rfl rfl h (fun h => ?_) (fun h => ?_)
          · refine gi_iload_n (n := 63) hX 2 dX8_copy_62 rfl rfl rfl ?_
            refine gi_if_lt (tgt := 111) (n := 66) hX dX8_copy_63 rfl rfl h (fun h => ?_) (fun h => ?_)
            · refine gi_sub [0] rfl ?_
              exact t_X8_copy_J111 hX hR v4 h
            · refine gi_iload (n := 68) hX 4 dX8_copy_66 rfl rfl ?_
              refine gi_if_lt (tgt := 111) (n := 71) hX dX8_copy_68 rfl rfl h (fun h => ?_) (fun h => ?_)
              · refine gi_sub [0] rfl ?_
                exact t_X8_copy_J111 hX hR v4 h
              · refine gi_iload (n := 73) hX 5 dX8_copy_71 rfl rfl ?_
                refine gi_if_lt (tgt := 111) (n := 76) hX dX8_copy_73 rfl rfl h (fun h => ?_) (fun h => ?_)
                · refine gi_sub [0] rfl ?_
                  exact t_X8_copy_J111 hX hR v4 h
                · refine gi_iload_n (n := 77) hX 2 dX8_copy_76 rfl rfl rfl ?_
                  refine gi_i2l (n := 78) hX dX8_copy_77 rfl ?_
                  refine gi_iload (n := 80) hX 5 dX8_copy_78 rfl rfl ?_
                  refine gi_i2l (n := 81) hX dX8_copy_80 rfl ?_
                  refine gi_ladd (n := 82) hX dX8_copy_81 rfl ?_
                  refine gi_aload_n (n := 83) hX 0 dX8_copy_82 rfl rfl rfl ?_
                  refine gi_getR (n := 86) hX 1 kc_X8 ly_X8 rfl rfl fl_X8_13 dX8_copy_83 rfl ?_
                  refine gi_iload_n (n := 87) hX 1 dX8_copy_86 rfl rfl rfl ?_
                  refine gi_iald (n := 88) hX lm_2 dX8_copy_87 rfl h (fun h => ?_)
                  refine gi_i2l (n := 89) hX dX8_copy_88 rfl ?_
                  refine gi_lcmp (n := 90) hX dX8_copy_89 rfl ?_
                  refine gi_if_gt (tgt := 111) (n := 93) hX dX8_copy_90 rfl rfl h (fun h => ?_) (fun h => ?_)
                  · refine gi_sub [0] rfl ?_
                    exact t_X8_copy_J111 hX hR v4 h
                  · refine gi_iload (n := 95) hX 4 dX8_copy_93 rfl rfl ?_
                    refine gi_i2l (n := 96) hX dX8_copy_95 rfl ?_
                    refine gi_iload (n := 98) hX 5 dX8_copy_96 rfl rfl ?_
                    refine gi_i2l (n := 99) hX dX8_copy_98 rfl ?_
                    refine gi_ladd (n := 100) hX dX8_copy_99 rfl ?_
                    refine gi_aload_n (n := 101) hX 0 dX8_copy_100 rfl rfl rfl ?_
                    refine gi_getR (n := 104) hX 1 kc_X8 ly_X8 rfl rfl fl_X8_13 dX8_copy_101 rfl ?_
                    refine gi_iload_n (n := 105) hX 3 dX8_copy_104 rfl rfl rfl ?_
                    refine gi_iald (n := 106) hX lm_2 dX8_copy_105 rfl h (fun h => ?_)
                    refine gi_i2l (n := 107) hX dX8_copy_106 rfl ?_
                    refine gi_lcmp (n := 108) hX dX8_copy_107 rfl ?_
                    refine gi_if_le (tgt := 117) (n := 111) hX dX8_copy_108 rfl rfl h (fun h => ?_) (fun h => ?_)
                    · refine gi_iconst (x := (0 : Int32)) (n := 118) hX rfl dX8_copy_117 rfl ?_
                      refine gi_istore (n := 120) hX [(6, .int (0 : Int32)), (0, .ref (Ω.1 0)), (1, .int x1), (2, .int x2), (3, .int x3), (4, .int x4), (5, .int x5)] dX8_copy_118 rfl rfl rfl ?_
                      refine gi_sub [1, 2, 3, 4, 5, 6, 0] rfl ?_
                      have key := lp_ind (f := (fun a : gV × Int32 => f_X8_copy_B120 x1 x2 x3 x4 x5 a.2 a.1)) (P := (fun a : gV × Int32 => gx_G Γ Ω LM (gx_Q Γ Ω LM (some (.int r0)) v0) 7 a.1 120 [(0, .ref (Ω.1 0)), (1, .int x1), (2, .int x2), (3, .int x3), (4, .int x4), (5, .int x5), (6, .int a.2)] [])) (Z := (fun z : gV => gx_G Γ Ω LM (gx_Q Γ Ω LM (some (.int r0)) v0) 7 z 154 [(0, .ref (Ω.1 0)), (3, .int x3), (4, .int x4), (5, .int x5)] [])) (fun a o h hc hz => t_X8_copy_B120 hX hR x1 x2 x3 x4 x5 a.2 a.1 h (fun c0 c1 e => hc (c0, c1) e) (fun z0 e => hz z0 e)) fu
                      obtain ⟨v7, e0, h⟩ := bx1_some h
                      refine key (v4, (0 : Int32)) _ e0 ?_
                      show gx_G Γ Ω LM (gx_Q Γ Ω LM (some (.int r0)) v0) 7 v7 154 [(0, .ref (Ω.1 0)), (3, .int x3), (4, .int x4), (5, .int x5)] []
                      refine gi_iconst (x := (0 : Int32)) (n := 155) hX rfl dX8_copy_154 rfl ?_
                      refine gi_istore (n := 157) hX [(6, .int (0 : Int32)), (0, .ref (Ω.1 0)), (3, .int x3), (4, .int x4), (5, .int x5)] dX8_copy_155 rfl rfl rfl ?_
                      refine gi_sub [1, 2, 3, 4, 0] rfl ?_
                      have key := lp_ind (f := (fun a : gV × Int32 => f_X8_copy_B157 x3 x4 x5 a.2 a.1)) (P := (fun a : gV × Int32 => gx_G Γ Ω LM (gx_Q Γ Ω LM (some (.int r0)) v0) 7 a.1 157 [(0, .ref (Ω.1 0)), (3, .int x3), (4, .int x4), (5, .int x5), (6, .int a.2)] [])) (Z := (fun z : gV => gx_G Γ Ω LM (gx_Q Γ Ω LM (some (.int r0)) v0) 7 z 192 [] [])) (fun a o h hc hz => t_X8_copy_B157 hX hR x3 x4 x5 a.2 a.1 h (fun c0 c1 e => hc (c0, c1) e) (fun z0 e => hz z0 e)) fu
                      obtain ⟨v8, e0, h⟩ := bx1_some h
                      refine key (v7, (0 : Int32)) _ e0 ?_
                      show gx_G Γ Ω LM (gx_Q Γ Ω LM (some (.int r0)) v0) 7 v8 192 [] []
                      refine gi_iconst (x := (1 : Int32)) (n := 193) hX rfl dX8_copy_192 rfl ?_
                      exact gi_iret hX rfl dX8_copy_193 h
                    · refine gi_sub [0] rfl ?_
                      exact t_X8_copy_J111 hX hR v4 h
          · refine gi_aload_n (n := 57) hX 0 dX8_copy_56 rfl rfl rfl ?_
            refine gi_iconst (x := (4 : Int32)) (n := 58) hX rfl dX8_copy_57 rfl ?_
            obtain ⟨r11, v9, e10, h⟩ := bi_some h
            refine gi_virtI (st := []) (n := 61) hX hR kc_X8 ly_X8 mv_X8_finds ml_X8_91 (m_X8_finds Γ.2.1 Ω (4 : Int32) v4 e10) rfl ⟨rfl, rfl⟩ rfl dX8_copy_58 rfl rfl ?_
            exact gi_iret hX rfl dX8_copy_61 h
        · refine gi_sub [0] rfl ?_
          exact t_X8_copy_J35 hX hR v4 h
    · refine gi_bipush (x := (-2 : Int32)) (n := 16) hX rfl dX8_copy_14 rfl ?_
      exact gi_iret hX rfl dX8_copy_16 h
theorem m_X8_copy (l : Launch) (Ω : gO) (x1 : Int32) (x2 : Int32) (x3 : Int32) (x4 : Int32) (x5 : Int32) (v : gV) {r0 : Int32} {v0 : gV} (h : f_X8_copy x1 x2 x3 x4 x5 v = some (r0, v0)) : gx_M l Ω LM yX8_copy cX8_copy 7 (some .int) 2 [.ref (Ω.1 0), .int x1, .int x2, .int x3, .int x4, .int x5] v (some (.int r0)) v0 := gx_start (lv := [(0, .ref (Ω.1 0)), (1, .int x1), (2, .int x2), (3, .int x3), (4, .int x4), (5, .int x5)]) (by decide +kernel) (Nat.le_of_ble_eq_true rfl) rfl (fun Γ _ hR hX => t_X8_copy hX hR x1 x2 x3 x4 x5 v h)
set_option maxRecDepth 20000 in
theorem t_X8_isServed {Γ : gC} {Ω : gO} {r0 : Int32} {v0 : gV} (hX : gx_X Γ Ω cX8_isServed RX8 3 (some .boolean)) (hR : Γ.2.2.2.1 = gx_R 0) (x1 : Int32) (x2 : Int32) (v : gV) (h : f_X8_isServed x1 x2 v = some (r0, v0)) : gx_G Γ Ω LM (gx_Q Γ Ω LM (some (.int r0)) v0) 3 v 0 [(0, .ref (Ω.1 0)), (1, .int x1), (2, .int x2)] [] := by
  rw [f_X8_isServed] at h
  refine gi_aload_n (n := 1) hX 0 dX8_isServed_0 rfl rfl rfl ?_
  refine gi_getR (n := 4) hX 19 kc_X8 ly_X8 rfl rfl fl_X8_49 dX8_isServed_1 rfl ?_
  refine gi_bipush (x := (8 : Int32)) (n := 6) hX rfl dX8_isServed_4 rfl ?_
  refine gi_iload_n (n := 7) hX 1 dX8_isServed_6 rfl rfl rfl ?_
  refine gi_imul (n := 8) hX dX8_isServed_7 rfl ?_
  refine gi_iload_n (n := 9) hX 2 dX8_isServed_8 rfl rfl rfl ?_
  refine gi_iadd (n := 10) hX dX8_isServed_9 rfl ?_
  refine gi_iald (n := 11) hX lm_14 dX8_isServed_10 rfl h (fun h => ?_)
  refine gi_aload_n (n := 12) hX 0 dX8_isServed_11 rfl rfl rfl ?_
  refine gi_getR (n := 15) hX 8 kc_X8 ly_X8 rfl rfl fl_X8_28 dX8_isServed_12 rfl ?_
  refine gi_iconst (x := (4 : Int32)) (n := 16) hX rfl dX8_isServed_15 rfl ?_
  refine gi_iload_n (n := 17) hX 2 dX8_isServed_16 rfl rfl rfl ?_
  refine gi_imul (n := 18) hX dX8_isServed_17 rfl ?_
  refine gi_iconst (x := (3 : Int32)) (n := 19) hX rfl dX8_isServed_18 rfl ?_
  refine gi_iadd (n := 20) hX dX8_isServed_19 rfl ?_
  refine gi_iald (n := 21) hX lm_7 dX8_isServed_20 rfl h (fun h => ?_)
  refine gi_icmp_ne (tgt := 28) (n := 24) hX dX8_isServed_21 rfl rfl h (fun h => ?_) (fun h => ?_)
  · refine gi_iconst (x := (0 : Int32)) (n := 29) hX rfl dX8_isServed_28 rfl ?_
    exact gi_zret hX rfl dX8_isServed_29 h
  · refine gi_iconst (x := (1 : Int32)) (n := 25) hX rfl dX8_isServed_24 rfl ?_
    refine gi_goto (n := 29) hX dX8_isServed_25 rfl ?_
    exact gi_zret hX rfl dX8_isServed_29 h
theorem m_X8_isServed (l : Launch) (Ω : gO) (x1 : Int32) (x2 : Int32) (v : gV) {r0 : Int32} {v0 : gV} (h : f_X8_isServed x1 x2 v = some (r0, v0)) : gx_M l Ω LM yX8_isServed cX8_isServed 3 (some .boolean) 0 [.ref (Ω.1 0), .int x1, .int x2] v (some (.int r0)) v0 := gx_start (lv := [(0, .ref (Ω.1 0)), (1, .int x1), (2, .int x2)]) (by decide +kernel) (Nat.le_of_ble_eq_true rfl) rfl (fun Γ _ hR hX => t_X8_isServed hX hR x1 x2 v h)
set_option maxRecDepth 20000 in
theorem t_X8_servedBy_J29 {Γ : gC} {Ω : gO} {r0 : Int32} {v0 : gV} {o : (gV × Int32 × Int32) ⊕ (gV × Int32)} (hX : gx_X Γ Ω cX8_servedBy RX8 4 (some .int)) (hR : Γ.2.2.2.1 = gx_R 1) (x1 : Int32) (x3 : Int32) (s0 : Int32) (s1 : Int32) (v : gV) (h : f_X8_servedBy_J29 x1 x3 s0 s1 v = some o) (hc : ∀ c0 c1 c2, o = .inl (c0, c1, c2) → gx_G Γ Ω LM (gx_Q Γ Ω LM (some (.int r0)) v0) 4 c0 4 [(0, .ref (Ω.1 0)), (1, .int x1), (2, .int c1), (3, .int c2)] []) (hz : ∀ z0 z1, o = .inr (z0, z1) → gx_G Γ Ω LM (gx_Q Γ Ω LM (some (.int r0)) v0) 4 z0 37 [(2, .int z1)] []) : gx_G Γ Ω LM (gx_Q Γ Ω LM (some (.int r0)) v0) 4 v 29 [(0, .ref (Ω.1 0)), (1, .int x1), (3, .int x3)] [.int s0, .int s1] := by
  rw [f_X8_servedBy_J29] at h
  refine gi_ior (n := 30) hX dX8_servedBy_29 rfl ?_
  refine gi_topI h (fun u1 h => ?_)
  refine gi_istore_n (n := 31) hX [(2, .int u1), (0, .ref (Ω.1 0)), (1, .int x1), (3, .int x3)] dX8_servedBy_30 rfl rfl rfl rfl ?_
  refine gi_iinc (z := (1 : Int32)) (n := 34) hX 3 [(3, .int (x3 + (1 : Int32))), (2, .int u1), (0, .ref (Ω.1 0)), (1, .int x1)] dX8_servedBy_31 rfl rfl rfl rfl rfl rfl ?_
  refine gi_goto (n := 4) hX dX8_servedBy_34 rfl ?_
  refine gi_sub [2, 3, 1, 0] rfl ?_
  exact hc _ _ _ (Option.some.inj h).symm
set_option maxRecDepth 20000 in
theorem t_X8_servedBy_B4 {Γ : gC} {Ω : gO} {r0 : Int32} {v0 : gV} {o : (gV × Int32 × Int32) ⊕ (gV × Int32)} (hX : gx_X Γ Ω cX8_servedBy RX8 4 (some .int)) (hR : Γ.2.2.2.1 = gx_R 1) (x1 : Int32) (x2 : Int32) (x3 : Int32) (v : gV) (h : f_X8_servedBy_B4 x1 x2 x3 v = some o) (hc : ∀ c0 c1 c2, o = .inl (c0, c1, c2) → gx_G Γ Ω LM (gx_Q Γ Ω LM (some (.int r0)) v0) 4 c0 4 [(0, .ref (Ω.1 0)), (1, .int x1), (2, .int c1), (3, .int c2)] []) (hz : ∀ z0 z1, o = .inr (z0, z1) → gx_G Γ Ω LM (gx_Q Γ Ω LM (some (.int r0)) v0) 4 z0 37 [(2, .int z1)] []) : gx_G Γ Ω LM (gx_Q Γ Ω LM (some (.int r0)) v0) 4 v 4 [(0, .ref (Ω.1 0)), (1, .int x1), (2, .int x2), (3, .int x3)] [] := by
  rw [f_X8_servedBy_B4] at h
  refine gi_iload_n (n := 5) hX 3 dX8_servedBy_4 rfl rfl rfl ?_
  refine gi_aload_n (n := 6) hX 0 dX8_servedBy_5 rfl rfl rfl ?_
  refine gi_getI (n := 9) hX 7 kc_X8 ly_X8 rfl rfl fl_X8_120 dX8_servedBy_6 rfl ?_
  refine gi_icmp_ge (tgt := 37) (n := 12) hX dX8_servedBy_9 rfl rfl h (fun h => ?_) (fun h => ?_)
  · refine gi_sub [2] rfl ?_
    exact hz _ _ (Option.some.inj h).symm
  · refine gi_iload_n (n := 13) hX 2 dX8_servedBy_12 rfl rfl rfl ?_
    refine gi_aload_n (n := 14) hX 0 dX8_servedBy_13 rfl rfl rfl ?_
    refine gi_iload_n (n := 15) hX 1 dX8_servedBy_14 rfl rfl rfl ?_
    refine gi_iload_n (n := 16) hX 3 dX8_servedBy_15 rfl rfl rfl ?_
    obtain ⟨r3, v1, e2, h⟩ := bi_some h
    refine gi_virtI (st := [.int x2]) (n := 19) hX hR kc_X8 ly_X8 mv_X8_isServed ml_X8_211 (m_X8_isServed Γ.2.1 Ω x1 x3 v e2) rfl ⟨rfl, rfl⟩ rfl dX8_servedBy_16 rfl rfl ?_
    refine gi_if_eq (tgt := 28) (n := 22) hX dX8_servedBy_19 rfl rfl h (fun h => ?_) (fun h => ?_)
    · refine gi_iconst (x := (0 : Int32)) (n := 29) hX rfl dX8_servedBy_28 rfl ?_
      refine gi_sub [0, 1, 3] rfl ?_
      exact t_X8_servedBy_J29 hX hR x1 x3 (0 : Int32) x2 v1 h hc hz
    · refine gi_iconst (x := (1 : Int32)) (n := 23) hX rfl dX8_servedBy_22 rfl ?_
      refine gi_iload_n (n := 24) hX 3 dX8_servedBy_23 rfl rfl rfl ?_
      refine gi_ishl (n := 25) hX dX8_servedBy_24 rfl ?_
      refine gi_goto (n := 29) hX dX8_servedBy_25 rfl ?_
      refine gi_sub [0, 1, 3] rfl ?_
      exact t_X8_servedBy_J29 hX hR x1 x3 ((1 : Int32) <<< (x3 &&& 31)) x2 v1 h hc hz
set_option maxRecDepth 20000 in
theorem t_X8_servedBy {Γ : gC} {Ω : gO} {r0 : Int32} {v0 : gV} (hX : gx_X Γ Ω cX8_servedBy RX8 4 (some .int)) (hR : Γ.2.2.2.1 = gx_R 1) (x1 : Int32) (v : gV) (h : f_X8_servedBy x1 v = some (r0, v0)) : gx_G Γ Ω LM (gx_Q Γ Ω LM (some (.int r0)) v0) 4 v 0 [(0, .ref (Ω.1 0)), (1, .int x1)] [] := by
  rw [f_X8_servedBy] at h
  refine gi_iconst (x := (0 : Int32)) (n := 1) hX rfl dX8_servedBy_0 rfl ?_
  refine gi_istore_n (n := 2) hX [(2, .int (0 : Int32)), (0, .ref (Ω.1 0)), (1, .int x1)] dX8_servedBy_1 rfl rfl rfl rfl ?_
  refine gi_iconst (x := (0 : Int32)) (n := 3) hX rfl dX8_servedBy_2 rfl ?_
  refine gi_istore_n (n := 4) hX [(3, .int (0 : Int32)), (2, .int (0 : Int32)), (0, .ref (Ω.1 0)), (1, .int x1)] dX8_servedBy_3 rfl rfl rfl rfl ?_
  refine gi_sub [2, 3, 1, 0] rfl ?_
  have key := lp_ind (f := (fun a : gV × Int32 × Int32 => f_X8_servedBy_B4 x1 a.2.1 a.2.2 a.1)) (P := (fun a : gV × Int32 × Int32 => gx_G Γ Ω LM (gx_Q Γ Ω LM (some (.int r0)) v0) 4 a.1 4 [(0, .ref (Ω.1 0)), (1, .int x1), (2, .int a.2.1), (3, .int a.2.2)] [])) (Z := (fun z : gV × Int32 => gx_G Γ Ω LM (gx_Q Γ Ω LM (some (.int r0)) v0) 4 z.1 37 [(2, .int z.2)] [])) (fun a o h hc hz => t_X8_servedBy_B4 hX hR x1 a.2.1 a.2.2 a.1 h (fun c0 c1 c2 e => hc (c0, c1, c2) e) (fun z0 z1 e => hz (z0, z1) e)) fu
  obtain ⟨v1, y2, e0, h⟩ := bx2_some h
  refine key (v, (0 : Int32), (0 : Int32)) _ e0 ?_
  show gx_G Γ Ω LM (gx_Q Γ Ω LM (some (.int r0)) v0) 4 v1 37 [(2, .int y2)] []
  refine gi_iload_n (n := 38) hX 0 dX8_servedBy_37 rfl rfl rfl ?_
  exact gi_iret hX rfl dX8_servedBy_38 h
theorem m_X8_servedBy (l : Launch) (Ω : gO) (x1 : Int32) (v : gV) {r0 : Int32} {v0 : gV} (h : f_X8_servedBy x1 v = some (r0, v0)) : gx_M l Ω LM yX8_servedBy cX8_servedBy 4 (some .int) 1 [.ref (Ω.1 0), .int x1] v (some (.int r0)) v0 := gx_start (lv := [(0, .ref (Ω.1 0)), (1, .int x1)]) (by decide +kernel) (Nat.le_of_ble_eq_true rfl) rfl (fun Γ _ hR hX => t_X8_servedBy hX hR x1 v h)
set_option maxRecDepth 20000 in
theorem t_X8_ones_B4 {Γ : gC} {Ω : gO} {r0 : Int32} {v0 : gV} {o : (gV × Int32 × Int32) ⊕ (gV × Int32)} (hX : gx_X Γ Ω cX8_ones RX8 3 (some .int)) (hR : Γ.2.2.2.1 = gx_R 0) (x1 : Int32) (x2 : Int32) (v : gV) (h : f_X8_ones_B4 x1 x2 v = some o) (hc : ∀ c0 c1 c2, o = .inl (c0, c1, c2) → gx_G Γ Ω LM (gx_Q Γ Ω LM (some (.int r0)) v0) 3 c0 4 [(1, .int c1), (2, .int c2)] []) (hz : ∀ z0 z1, o = .inr (z0, z1) → gx_G Γ Ω LM (gx_Q Γ Ω LM (some (.int r0)) v0) 3 z0 20 [(1, .int z1)] []) : gx_G Γ Ω LM (gx_Q Γ Ω LM (some (.int r0)) v0) 3 v 4 [(1, .int x1), (2, .int x2)] [] := by
  rw [f_X8_ones_B4] at h
  refine gi_iload_n (n := 5) hX 1 dX8_ones_4 rfl rfl rfl ?_
  refine gi_if_eq (tgt := 20) (n := 8) hX dX8_ones_5 rfl rfl h (fun h => ?_) (fun h => ?_)
  · refine gi_sub [0] rfl ?_
    exact hz _ _ (Option.some.inj h).symm
  · refine gi_iinc (z := (1 : Int32)) (n := 11) hX 0 [(1, .int (x1 + (1 : Int32))), (2, .int x2)] dX8_ones_8 rfl rfl rfl rfl rfl rfl ?_
    refine gi_iload_n (n := 12) hX 1 dX8_ones_11 rfl rfl rfl ?_
    refine gi_iload_n (n := 13) hX 1 dX8_ones_12 rfl rfl rfl ?_
    refine gi_iconst (x := (1 : Int32)) (n := 14) hX rfl dX8_ones_13 rfl ?_
    refine gi_isub (n := 15) hX dX8_ones_14 rfl ?_
    refine gi_iand (n := 16) hX dX8_ones_15 rfl ?_
    refine gi_topI h (fun u1 h => ?_)
    refine gi_istore_n (n := 17) hX [(2, .int u1), (1, .int (x1 + (1 : Int32)))] dX8_ones_16 rfl rfl rfl rfl ?_
    refine gi_goto (n := 4) hX dX8_ones_17 rfl ?_
    refine gi_sub [1, 0] rfl ?_
    exact hc _ _ _ (Option.some.inj h).symm
set_option maxRecDepth 20000 in
theorem t_X8_ones {Γ : gC} {Ω : gO} {r0 : Int32} {v0 : gV} (hX : gx_X Γ Ω cX8_ones RX8 3 (some .int)) (hR : Γ.2.2.2.1 = gx_R 0) (x0 : Int32) (v : gV) (h : f_X8_ones x0 v = some (r0, v0)) : gx_G Γ Ω LM (gx_Q Γ Ω LM (some (.int r0)) v0) 3 v 0 [(0, .int x0)] [] := by
  rw [f_X8_ones] at h
  refine gi_iconst (x := (0 : Int32)) (n := 1) hX rfl dX8_ones_0 rfl ?_
  refine gi_istore_n (n := 2) hX [(1, .int (0 : Int32)), (0, .int x0)] dX8_ones_1 rfl rfl rfl rfl ?_
  refine gi_iload_n (n := 3) hX 1 dX8_ones_2 rfl rfl rfl ?_
  refine gi_istore_n (n := 4) hX [(2, .int x0), (1, .int (0 : Int32)), (0, .int x0)] dX8_ones_3 rfl rfl rfl rfl ?_
  refine gi_sub [1, 0] rfl ?_
  have key := lp_ind (f := (fun a : gV × Int32 × Int32 => f_X8_ones_B4 a.2.1 a.2.2 a.1)) (P := (fun a : gV × Int32 × Int32 => gx_G Γ Ω LM (gx_Q Γ Ω LM (some (.int r0)) v0) 3 a.1 4 [(1, .int a.2.1), (2, .int a.2.2)] [])) (Z := (fun z : gV × Int32 => gx_G Γ Ω LM (gx_Q Γ Ω LM (some (.int r0)) v0) 3 z.1 20 [(1, .int z.2)] [])) (fun a o h hc hz => t_X8_ones_B4 hX hR a.2.1 a.2.2 a.1 h (fun c0 c1 c2 e => hc (c0, c1, c2) e) (fun z0 z1 e => hz (z0, z1) e)) fu
  obtain ⟨v1, y2, e0, h⟩ := bx2_some h
  refine key (v, (0 : Int32), x0) _ e0 ?_
  show gx_G Γ Ω LM (gx_Q Γ Ω LM (some (.int r0)) v0) 3 v1 20 [(1, .int y2)] []
  refine gi_iload_n (n := 21) hX 0 dX8_ones_20 rfl rfl rfl ?_
  exact gi_iret hX rfl dX8_ones_21 h
theorem m_X8_ones (l : Launch) (Ω : gO) (x0 : Int32) (v : gV) {r0 : Int32} {v0 : gV} (h : f_X8_ones x0 v = some (r0, v0)) : gx_M l Ω LM yX8_ones cX8_ones 3 (some .int) 0 [.int x0] v (some (.int r0)) v0 := gx_start (lv := [(0, .int x0)]) (by decide +kernel) (Nat.le_of_ble_eq_true rfl) rfl (fun Γ _ hR hX => t_X8_ones hX hR x0 v h)
set_option maxRecDepth 20000 in
theorem t_X8_count_J66 {Γ : gC} {Ω : gO} {r0 : Int32} {v0 : gV} (hX : gx_X Γ Ω cX8_count RX8 2 (some .int)) (hR : Γ.2.2.2.1 = gx_R 7) (x1 : Int32) (v : gV) (h : f_X8_count_J66 x1 v = some (r0, v0)) : gx_G Γ Ω LM (gx_Q Γ Ω LM (some (.int r0)) v0) 2 v 66 [(0, .ref (Ω.1 0)), (1, .int x1)] [] := by
  rw [f_X8_count_J66] at h
  refine gi_aload_n (n := 67) hX 0 dX8_count_66 rfl rfl rfl ?_
  refine gi_getR (n := 70) hX 6 kc_X8 ly_X8 rfl rfl fl_X8_25 dX8_count_67 rfl ?_
  refine gi_iload_n (n := 71) hX 1 dX8_count_70 rfl rfl rfl ?_
  refine gi_iconst (x := (2 : Int32)) (n := 72) hX rfl dX8_count_71 rfl ?_
  refine gi_isub (n := 73) hX dX8_count_72 rfl ?_
  refine gi_iald (n := 74) hX lm_6 dX8_count_73 rfl h (fun h => ?_)
  exact gi_iret hX rfl dX8_count_74 h
set_option maxRecDepth 20000 in
theorem t_X8_count {Γ : gC} {Ω : gO} {r0 : Int32} {v0 : gV} (hX : gx_X Γ Ω cX8_count RX8 2 (some .int)) (hR : Γ.2.2.2.1 = gx_R 7) (x1 : Int32) (v : gV) (h : f_X8_count x1 v = some (r0, v0)) : gx_G Γ Ω LM (gx_Q Γ Ω LM (some (.int r0)) v0) 2 v 0 [(0, .ref (Ω.1 0)), (1, .int x1)] [] := by
  rw [f_X8_count] at h
  refine gi_aload_n (n := 1) hX 0 dX8_count_0 rfl rfl rfl ?_
  obtain ⟨v1, e2, h⟩ := bv_some h
  refine gi_virtV (st := []) (n := 4) hX hR kc_X8 ly_X8 mv_X8_reads ml_X8_198 (m_X8_reads Γ.2.1 Ω v e2) rfl ⟨rfl, rfl⟩ rfl dX8_count_1 rfl rfl ?_
  refine gi_iload_n (n := 5) hX 1 dX8_count_4 rfl rfl rfl ?_
  rcases if_split h with ⟨c0, h⟩ | ⟨c0, h⟩
  · refine gi_tin (k0 := (0 : Int32)) (off := 51) (tgt := 56) hX dX8_count_5 c0 rfl ?_
    refine gi_aload_n (n := 57) hX 0 dX8_count_56 rfl rfl rfl ?_
    refine gi_getI (n := 60) hX 7 kc_X8 ly_X8 rfl rfl fl_X8_120 dX8_count_57 rfl ?_
    exact gi_iret hX rfl dX8_count_60 h
  rcases if_split h with ⟨c1, h⟩ | ⟨c1, h⟩
  · refine gi_tin (k0 := (1 : Int32)) (off := 56) (tgt := 61) hX dX8_count_5 c1 rfl ?_
    refine gi_aload_n (n := 62) hX 0 dX8_count_61 rfl rfl rfl ?_
    refine gi_getI (n := 65) hX 9 kc_X8 ly_X8 rfl rfl fl_X8_126 dX8_count_62 rfl ?_
    exact gi_iret hX rfl dX8_count_65 h
  rcases if_split h with ⟨c2, h⟩ | ⟨c2, h⟩
  · refine gi_tin (k0 := (2 : Int32)) (off := 61) (tgt := 66) hX dX8_count_5 c2 rfl ?_
    exact t_X8_count_J66 hX hR x1 v1 h
  rcases if_split h with ⟨c3, h⟩ | ⟨c3, h⟩
  · refine gi_tin (k0 := (3 : Int32)) (off := 61) (tgt := 66) hX dX8_count_5 c3 rfl ?_
    exact t_X8_count_J66 hX hR x1 v1 h
  rcases if_split h with ⟨c4, h⟩ | ⟨c4, h⟩
  · refine gi_tin (k0 := (4 : Int32)) (off := 70) (tgt := 75) hX dX8_count_5 c4 rfl ?_
    refine gi_aload_n (n := 76) hX 0 dX8_count_75 rfl rfl rfl ?_
    refine gi_getI (n := 79) hX 24 kc_X8 ly_X8 rfl rfl fl_X8_180 dX8_count_76 rfl ?_
    exact gi_iret hX rfl dX8_count_79 h
  rcases if_split h with ⟨c5, h⟩ | ⟨c5, h⟩
  · refine gi_tin (k0 := (5 : Int32)) (off := 75) (tgt := 80) hX dX8_count_5 c5 rfl ?_
    refine gi_aload_n (n := 81) hX 0 dX8_count_80 rfl rfl rfl ?_
    refine gi_bipush (x := (9 : Int32)) (n := 83) hX rfl dX8_count_81 rfl ?_
    obtain ⟨r5, v3, e4, h⟩ := bi_some h
    refine gi_virtI (st := []) (n := 86) hX hR kc_X8 ly_X8 mv_X8_servedBy ml_X8_217 (m_X8_servedBy Γ.2.1 Ω (9 : Int32) v1 e4) rfl ⟨rfl, rfl⟩ rfl dX8_count_83 rfl rfl ?_
    obtain ⟨r8, v6, e7, h⟩ := bi_some h
    refine gi_statI (st := []) (n := 89) hX hR ms_X8_ones ml_X8_230 (m_X8_ones Γ.2.1 Ω r5 v3 e7) rfl ⟨rfl, rfl⟩ rfl dX8_count_86 rfl rfl ?_
    exact gi_iret hX rfl dX8_count_89 h
  rcases if_split h with ⟨c6, h⟩ | ⟨c6, h⟩
  · refine gi_tin (k0 := (6 : Int32)) (off := 85) (tgt := 90) hX dX8_count_5 c6 rfl ?_
    refine gi_aload_n (n := 91) hX 0 dX8_count_90 rfl rfl rfl ?_
    refine gi_getR (n := 94) hX 12 kc_X8 ly_X8 rfl rfl fl_X8_37 dX8_count_91 rfl ?_
    refine gi_iconst (x := (1 : Int32)) (n := 95) hX rfl dX8_count_94 rfl ?_
    refine gi_iald (n := 96) hX lm_10 dX8_count_95 rfl h (fun h => ?_)
    exact gi_iret hX rfl dX8_count_96 h
  rcases if_split h with ⟨c7, h⟩ | ⟨c7, h⟩
  · refine gi_tin (k0 := (7 : Int32)) (off := 92) (tgt := 97) hX dX8_count_5 c7 rfl ?_
    refine gi_aload_n (n := 98) hX 0 dX8_count_97 rfl rfl rfl ?_
    refine gi_getI (n := 101) hX 26 kc_X8 ly_X8 rfl rfl fl_X8_247 dX8_count_98 rfl ?_
    exact gi_iret hX rfl dX8_count_101 h
  rcases if_split h with ⟨c8, h⟩ | ⟨c8, h⟩
  · refine gi_tin (k0 := (8 : Int32)) (off := 97) (tgt := 102) hX dX8_count_5 c8 rfl ?_
    refine gi_aload_n (n := 103) hX 0 dX8_count_102 rfl rfl rfl ?_
    refine gi_getI (n := 106) hX 4 kc_X8 ly_X8 rfl rfl fl_X8_80 dX8_count_103 rfl ?_
    exact gi_iret hX rfl dX8_count_106 h
  refine gi_tout (tgt := 107) hX dX8_count_5 (by have e0 := lv_neT (a := 0) c0 rfl; have e1 := lv_neT (a := 1) c1 rfl; have e2 := lv_neT (a := 2) c2 rfl; have e3 := lv_neT (a := 3) c3 rfl; have e4 := lv_neT (a := 4) c4 rfl; have e5 := lv_neT (a := 5) c5 rfl; have e6 := lv_neT (a := 6) c6 rfl; have e7 := lv_neT (a := 7) c7 rfl; have e8 := lv_neT (a := 8) c8 rfl; omega) rfl ?_
  refine gi_bipush (x := (-2 : Int32)) (n := 109) hX rfl dX8_count_107 rfl ?_
  exact gi_iret hX rfl dX8_count_109 h
theorem m_X8_count (l : Launch) (Ω : gO) (x1 : Int32) (v : gV) {r0 : Int32} {v0 : gV} (h : f_X8_count x1 v = some (r0, v0)) : gx_M l Ω LM yX8_count cX8_count 2 (some .int) 7 [.ref (Ω.1 0), .int x1] v (some (.int r0)) v0 := gx_start (lv := [(0, .ref (Ω.1 0)), (1, .int x1)]) (by decide +kernel) (Nat.le_of_ble_eq_true rfl) rfl (fun Γ _ hR hX => t_X8_count hX hR x1 v h)
set_option maxRecDepth 20000 in
theorem t_X8_cut {Γ : gC} {Ω : gO} {r0 : Int32} {v0 : gV} (hX : gx_X Γ Ω cX8_cut RX8 2 (some .int)) (hR : Γ.2.2.2.1 = gx_R 0) (x0 : Int32) (x1 : Int32) (v : gV) (h : f_X8_cut x0 x1 v = some (r0, v0)) : gx_G Γ Ω LM (gx_Q Γ Ω LM (some (.int r0)) v0) 2 v 0 [(0, .int x0), (1, .int x1)] [] := by
  rw [f_X8_cut] at h
  refine gi_iload_n (n := 1) hX 0 dX8_cut_0 rfl rfl rfl ?_
  refine gi_if_ne (tgt := 9) (n := 4) hX dX8_cut_1 rfl rfl h (fun h => ?_) (fun h => ?_)
  · refine gi_iload_n (n := 10) hX 0 dX8_cut_9 rfl rfl rfl ?_
    refine gi_iconst (x := (1 : Int32)) (n := 11) hX rfl dX8_cut_10 rfl ?_
    refine gi_icmp_ne (tgt := 19) (n := 14) hX dX8_cut_11 rfl rfl h (fun h => ?_) (fun h => ?_)
    · refine gi_iload_n (n := 20) hX 1 dX8_cut_19 rfl rfl rfl ?_
      exact gi_iret hX rfl dX8_cut_20 h
    · refine gi_iload_n (n := 15) hX 1 dX8_cut_14 rfl rfl rfl ?_
      refine gi_i2s (n := 16) hX dX8_cut_15 rfl ?_
      refine gi_goto (n := 20) hX dX8_cut_16 rfl ?_
      exact gi_iret hX rfl dX8_cut_20 h
  · refine gi_iload_n (n := 5) hX 1 dX8_cut_4 rfl rfl rfl ?_
    refine gi_i2b (n := 6) hX dX8_cut_5 rfl ?_
    refine gi_goto (n := 20) hX dX8_cut_6 rfl ?_
    exact gi_iret hX rfl dX8_cut_20 h
theorem m_X8_cut (l : Launch) (Ω : gO) (x0 : Int32) (x1 : Int32) (v : gV) {r0 : Int32} {v0 : gV} (h : f_X8_cut x0 x1 v = some (r0, v0)) : gx_M l Ω LM yX8_cut cX8_cut 2 (some .int) 0 [.int x0, .int x1] v (some (.int r0)) v0 := gx_start (lv := [(0, .int x0), (1, .int x1)]) (by decide +kernel) (Nat.le_of_ble_eq_true rfl) rfl (fun Γ _ hR hX => t_X8_cut hX hR x0 x1 v h)
set_option maxRecDepth 20000 in
theorem t_X8_isTwo {Γ : gC} {Ω : gO} {r0 : Int32} {v0 : gV} (hX : gx_X Γ Ω cX8_isTwo RX8 1 (some .boolean)) (hR : Γ.2.2.2.1 = gx_R 1) (x0 : Int32) (v : gV) (h : f_X8_isTwo x0 v = some (r0, v0)) : gx_G Γ Ω LM (gx_Q Γ Ω LM (some (.int r0)) v0) 1 v 0 [(0, .int x0)] [] := by
  rw [f_X8_isTwo] at h
  refine gi_iload_n (n := 1) hX 0 dX8_isTwo_0 rfl rfl rfl ?_
  refine gi_i2l (n := 2) hX dX8_isTwo_1 rfl ?_
  refine gi_lconst (x := (0 : Int64)) (n := 3) hX rfl dX8_isTwo_2 rfl ?_
  refine gi_lconst (x := (1 : Int64)) (n := 4) hX rfl dX8_isTwo_3 rfl ?_
  obtain ⟨r3, v1, e2, h⟩ := bi_some h
  refine gi_statI (st := []) (n := 7) hX hR ms_X8_in ml_X8_76 (m_X8_in Γ.2.1 Ω ((x0).toInt64) (0 : Int64) (1 : Int64) v e2) rfl ⟨rfl, rfl⟩ rfl dX8_isTwo_4 rfl rfl ?_
  exact gi_zret hX rfl dX8_isTwo_7 h
theorem m_X8_isTwo (l : Launch) (Ω : gO) (x0 : Int32) (v : gV) {r0 : Int32} {v0 : gV} (h : f_X8_isTwo x0 v = some (r0, v0)) : gx_M l Ω LM yX8_isTwo cX8_isTwo 1 (some .boolean) 1 [.int x0] v (some (.int r0)) v0 := gx_start (lv := [(0, .int x0)]) (by decide +kernel) (Nat.le_of_ble_eq_true rfl) rfl (fun Γ _ hR hX => t_X8_isTwo hX hR x0 v h)
set_option maxRecDepth 20000 in
theorem t_X8_lot {Γ : gC} {Ω : gO} {r0 : Int32} {v0 : gV} (hX : gx_X Γ Ω cX8_lot RX8 2 (some .int)) (hR : Γ.2.2.2.1 = gx_R 0) (x1 : Int32) (v : gV) (h : f_X8_lot x1 v = some (r0, v0)) : gx_G Γ Ω LM (gx_Q Γ Ω LM (some (.int r0)) v0) 2 v 0 [(0, .ref (Ω.1 0)), (1, .int x1)] [] := by
  rw [f_X8_lot] at h
  refine gi_aload_n (n := 1) hX 0 dX8_lot_0 rfl rfl rfl ?_
  refine gi_ldcw (n := 4) hX co_X8_280 dX8_lot_1 rfl ?_
  refine gi_aload_n (n := 5) hX 0 dX8_lot_4 rfl rfl rfl ?_
  refine gi_getI (n := 8) hX 29 kc_X8 ly_X8 rfl rfl fl_X8_281 dX8_lot_5 rfl ?_
  refine gi_imul (n := 9) hX dX8_lot_8 rfl ?_
  refine gi_sipush (x := (12345 : Int32)) (n := 12) hX rfl dX8_lot_9 rfl ?_
  refine gi_iadd (n := 13) hX dX8_lot_12 rfl ?_
  refine gi_putI (n := 16) hX 29 kc_X8 ly_X8 rfl rfl fl_X8_281 rfl rfl dX8_lot_13 rfl h (fun v1 h => ?_)
  refine gi_aload_n (n := 17) hX 0 dX8_lot_16 rfl rfl rfl ?_
  refine gi_getI (n := 20) hX 29 kc_X8 ly_X8 rfl rfl fl_X8_281 dX8_lot_17 rfl ?_
  refine gi_bipush (x := (16 : Int32)) (n := 22) hX rfl dX8_lot_20 rfl ?_
  refine gi_iushr (n := 23) hX dX8_lot_22 rfl ?_
  refine gi_iload_n (n := 24) hX 1 dX8_lot_23 rfl rfl rfl ?_
  obtain ⟨h9, h⟩ := ifn_some h
  refine gi_irem (n := 25) hX h9 dX8_lot_24 rfl ?_
  exact gi_iret hX rfl dX8_lot_25 h
theorem m_X8_lot (l : Launch) (Ω : gO) (x1 : Int32) (v : gV) {r0 : Int32} {v0 : gV} (h : f_X8_lot x1 v = some (r0, v0)) : gx_M l Ω LM yX8_lot cX8_lot 2 (some .int) 0 [.ref (Ω.1 0), .int x1] v (some (.int r0)) v0 := gx_start (lv := [(0, .ref (Ω.1 0)), (1, .int x1)]) (by decide +kernel) (Nat.le_of_ble_eq_true rfl) rfl (fun Γ _ hR hX => t_X8_lot hX hR x1 v h)
set_option maxRecDepth 20000 in
theorem t_X8_depotOf_B8 {Γ : gC} {Ω : gO} {r0 : Int32} {v0 : gV} {o : (gV × Int32) ⊕ (gV)} (hX : gx_X Γ Ω cX8_depotOf RX8 5 (some .int)) (hR : Γ.2.2.2.1 = gx_R 6) (x2 : Int32) (x3 : Int32) (x4 : Int32) (v : gV) (h : f_X8_depotOf_B8 x2 x3 x4 v = some o) (hc : ∀ c0 c1, o = .inl (c0, c1) → gx_G Γ Ω LM (gx_Q Γ Ω LM (some (.int r0)) v0) 5 c0 8 [(0, .ref (Ω.1 0)), (2, .int x2), (3, .int x3), (4, .int c1)] []) (hz : ∀ z0, o = .inr z0 → gx_G Γ Ω LM (gx_Q Γ Ω LM (some (.int r0)) v0) 5 z0 33 [(0, .ref (Ω.1 0)), (2, .int x2), (3, .int x3)] []) : gx_G Γ Ω LM (gx_Q Γ Ω LM (some (.int r0)) v0) 5 v 8 [(0, .ref (Ω.1 0)), (2, .int x2), (3, .int x3), (4, .int x4)] [] := by
  rw [f_X8_depotOf_B8] at h
  refine gi_iload (n := 10) hX 3 dX8_depotOf_8 rfl rfl ?_
  refine gi_iload_n (n := 11) hX 1 dX8_depotOf_10 rfl rfl rfl ?_
  refine gi_icmp_ge (tgt := 33) (n := 14) hX dX8_depotOf_11 rfl rfl h (fun h => ?_) (fun h => ?_)
  · refine gi_sub [0, 1, 2] rfl ?_
    exact hz _ (Option.some.inj h).symm
  · refine gi_aload_n (n := 15) hX 0 dX8_depotOf_14 rfl rfl rfl ?_
    refine gi_getR (n := 18) hX 10 kc_X8 ly_X8 rfl rfl fl_X8_31 dX8_depotOf_15 rfl ?_
    refine gi_iload (n := 20) hX 3 dX8_depotOf_18 rfl rfl ?_
    refine gi_aload_n (n := 21) hX 0 dX8_depotOf_20 rfl rfl rfl ?_
    refine gi_bipush (x := (8 : Int32)) (n := 23) hX rfl dX8_depotOf_21 rfl ?_
    obtain ⟨r3, v1, e2, h⟩ := bi_some h
    refine gi_virtI (st := [.int x4, .ref (Ω.1 8)]) (n := 26) hX hR kc_X8 ly_X8 mv_X8_lot ml_X8_284 (m_X8_lot Γ.2.1 Ω (8 : Int32) v e2) rfl ⟨rfl, rfl⟩ rfl dX8_depotOf_23 rfl rfl ?_
    refine gi_iast (n := 27) hX lm_8 dX8_depotOf_26 rfl h (fun v4 h => ?_)
    refine gi_iinc (z := (1 : Int32)) (n := 30) hX 3 [(4, .int (x4 + (1 : Int32))), (0, .ref (Ω.1 0)), (2, .int x2), (3, .int x3)] dX8_depotOf_27 rfl rfl rfl rfl rfl rfl ?_
    refine gi_goto (n := 8) hX dX8_depotOf_30 rfl ?_
    refine gi_sub [1, 2, 3, 0] rfl ?_
    exact hc _ _ (Option.some.inj h).symm
set_option maxRecDepth 20000 in
theorem t_X8_depotOf {Γ : gC} {Ω : gO} {r0 : Int32} {v0 : gV} (hX : gx_X Γ Ω cX8_depotOf RX8 5 (some .int)) (hR : Γ.2.2.2.1 = gx_R 6) (x1 : Int32) (x2 : Int32) (x3 : Int32) (v : gV) (h : f_X8_depotOf x1 x2 x3 v = some (r0, v0)) : gx_G Γ Ω LM (gx_Q Γ Ω LM (some (.int r0)) v0) 5 v 0 [(0, .ref (Ω.1 0)), (1, .int x1), (2, .int x2), (3, .int x3)] [] := by
  rw [f_X8_depotOf] at h
  refine gi_aload_n (n := 1) hX 0 dX8_depotOf_0 rfl rfl rfl ?_
  refine gi_iload_n (n := 2) hX 1 dX8_depotOf_1 rfl rfl rfl ?_
  refine gi_putI (n := 5) hX 29 kc_X8 ly_X8 rfl rfl fl_X8_281 rfl rfl dX8_depotOf_2 rfl h (fun v1 h => ?_)
  refine gi_iconst (x := (0 : Int32)) (n := 6) hX rfl dX8_depotOf_5 rfl ?_
  refine gi_istore (n := 8) hX [(4, .int (0 : Int32)), (0, .ref (Ω.1 0)), (1, .int x1), (2, .int x2), (3, .int x3)] dX8_depotOf_6 rfl rfl rfl ?_
  refine gi_sub [1, 3, 4, 0] rfl ?_
  have key := lp_ind (f := (fun a : gV × Int32 => f_X8_depotOf_B8 x2 x3 a.2 a.1)) (P := (fun a : gV × Int32 => gx_G Γ Ω LM (gx_Q Γ Ω LM (some (.int r0)) v0) 5 a.1 8 [(0, .ref (Ω.1 0)), (2, .int x2), (3, .int x3), (4, .int a.2)] [])) (Z := (fun z : gV => gx_G Γ Ω LM (gx_Q Γ Ω LM (some (.int r0)) v0) 5 z 33 [(0, .ref (Ω.1 0)), (2, .int x2), (3, .int x3)] [])) (fun a o h hc hz => t_X8_depotOf_B8 hX hR x2 x3 a.2 a.1 h (fun c0 c1 e => hc (c0, c1) e) (fun z0 e => hz z0 e)) fu
  obtain ⟨v2, e0, h⟩ := bx1_some h
  refine key (v1, (0 : Int32)) _ e0 ?_
  show gx_G Γ Ω LM (gx_Q Γ Ω LM (some (.int r0)) v0) 5 v2 33 [(0, .ref (Ω.1 0)), (2, .int x2), (3, .int x3)] []
  refine gi_aload_n (n := 34) hX 0 dX8_depotOf_33 rfl rfl rfl ?_
  refine gi_iload_n (n := 35) hX 1 dX8_depotOf_34 rfl rfl rfl ?_
  refine gi_putI (n := 38) hX 9 kc_X8 ly_X8 rfl rfl fl_X8_126 rfl rfl dX8_depotOf_35 rfl h (fun v3 h => ?_)
  refine gi_aload_n (n := 39) hX 0 dX8_depotOf_38 rfl rfl rfl ?_
  obtain ⟨v4, e5, h⟩ := bv_some h
  refine gi_virtV (st := []) (n := 42) hX hR kc_X8 ly_X8 mv_X8_lives ml_X8_195 (m_X8_lives Γ.2.1 Ω v3 e5) rfl ⟨rfl, rfl⟩ rfl dX8_depotOf_39 rfl rfl ?_
  refine gi_aload_n (n := 43) hX 0 dX8_depotOf_42 rfl rfl rfl ?_
  obtain ⟨r8, v6, e7, h⟩ := bi_some h
  refine gi_virtI (st := []) (n := 46) hX hR kc_X8 ly_X8 mv_X8_readsBag ml_X8_137 (m_X8_readsBag Γ.2.1 Ω v4 e7) rfl ⟨rfl, rfl⟩ rfl dX8_depotOf_43 rfl rfl ?_
  refine gi_pop (n := 47) hX rfl dX8_depotOf_46 rfl ?_
  refine gi_iload_n (n := 48) hX 2 dX8_depotOf_47 rfl rfl rfl ?_
  refine gi_if_ne (tgt := 63) (n := 51) hX dX8_depotOf_48 rfl rfl h (fun h => ?_) (fun h => ?_)
  · refine gi_aload_n (n := 64) hX 0 dX8_depotOf_63 rfl rfl rfl ?_
    refine gi_getR (n := 67) hX 21 kc_X8 ly_X8 rfl rfl fl_X8_55 dX8_depotOf_64 rfl ?_
    refine gi_bipush (x := (9 : Int32)) (n := 69) hX rfl dX8_depotOf_67 rfl ?_
    refine gi_iald (n := 70) hX lm_16 dX8_depotOf_69 rfl h (fun h => ?_)
    exact gi_iret hX rfl dX8_depotOf_70 h
  · refine gi_aload_n (n := 52) hX 0 dX8_depotOf_51 rfl rfl rfl ?_
    refine gi_bipush (x := (9 : Int32)) (n := 54) hX rfl dX8_depotOf_52 rfl ?_
    obtain ⟨r11, v9, e10, h⟩ := bi_some h
    refine gi_virtI (st := []) (n := 57) hX hR kc_X8 ly_X8 mv_X8_servedBy ml_X8_217 (m_X8_servedBy Γ.2.1 Ω (9 : Int32) v6 e10) rfl ⟨rfl, rfl⟩ rfl dX8_depotOf_54 rfl rfl ?_
    obtain ⟨r14, v12, e13, h⟩ := bi_some h
    refine gi_statI (st := []) (n := 60) hX hR ms_X8_ones ml_X8_230 (m_X8_ones Γ.2.1 Ω r11 v9 e13) rfl ⟨rfl, rfl⟩ rfl dX8_depotOf_57 rfl rfl ?_
    refine gi_goto (n := 70) hX dX8_depotOf_60 rfl ?_
    exact gi_iret hX rfl dX8_depotOf_70 h
theorem m_X8_depotOf (l : Launch) (Ω : gO) (x1 : Int32) (x2 : Int32) (x3 : Int32) (v : gV) {r0 : Int32} {v0 : gV} (h : f_X8_depotOf x1 x2 x3 v = some (r0, v0)) : gx_M l Ω LM yX8_depotOf cX8_depotOf 5 (some .int) 6 [.ref (Ω.1 0), .int x1, .int x2, .int x3] v (some (.int r0)) v0 := gx_start (lv := [(0, .ref (Ω.1 0)), (1, .int x1), (2, .int x2), (3, .int x3)]) (by decide +kernel) (Nat.le_of_ble_eq_true rfl) rfl (fun Γ _ hR hX => t_X8_depotOf hX hR x1 x2 x3 v h)
set_option maxRecDepth 20000 in
theorem t_X8_depot {Γ : gC} {Ω : gO} {r0 : Int32} {v0 : gV} (hX : gx_X Γ Ω cX8_depot RX8 4 (some .int)) (hR : Γ.2.2.2.1 = gx_R 7) (x1 : Int32) (x2 : Int32) (x3 : Int32) (v : gV) (h : f_X8_depot x1 x2 x3 v = some (r0, v0)) : gx_G Γ Ω LM (gx_Q Γ Ω LM (some (.int r0)) v0) 4 v 0 [(0, .ref (Ω.1 0)), (1, .int x1), (2, .int x2), (3, .int x3)] [] := by
  rw [f_X8_depot] at h
  refine gi_aload_n (n := 1) hX 0 dX8_depot_0 rfl rfl rfl ?_
  obtain ⟨v1, e2, h⟩ := bv_some h
  refine gi_virtV (st := []) (n := 4) hX hR kc_X8 ly_X8 mv_X8_reads ml_X8_198 (m_X8_reads Γ.2.1 Ω v e2) rfl ⟨rfl, rfl⟩ rfl dX8_depot_1 rfl rfl ?_
  refine gi_iload_n (n := 5) hX 2 dX8_depot_4 rfl rfl rfl ?_
  refine gi_i2l (n := 6) hX dX8_depot_5 rfl ?_
  refine gi_lconst (x := (0 : Int64)) (n := 7) hX rfl dX8_depot_6 rfl ?_
  refine gi_ldc2 (n := 10) hX co_X8_270 dX8_depot_7 rfl ?_
  obtain ⟨r5, v3, e4, h⟩ := bi_some h
  refine gi_statI (st := []) (n := 13) hX hR ms_X8_in ml_X8_76 (m_X8_in Γ.2.1 Ω ((x2).toInt64) (0 : Int64) (16 : Int64) v1 e4) rfl ⟨rfl, rfl⟩ rfl dX8_depot_10 rfl rfl ?_
  refine gi_if_eq (tgt := 33) (n := 16) hX dX8_depot_13 rfl rfl h (fun h => ?_) (fun h => ?_)
  · refine gi_bipush (x := (-2 : Int32)) (n := 35) hX rfl dX8_depot_33 rfl ?_
    exact gi_iret hX rfl dX8_depot_35 h
  · refine gi_iload_n (n := 17) hX 3 dX8_depot_16 rfl rfl rfl ?_
    obtain ⟨r8, v6, e7, h⟩ := bi_some h
    refine gi_statI (st := []) (n := 20) hX hR ms_X8_isTwo ml_X8_104 (m_X8_isTwo Γ.2.1 Ω x3 v3 e7) rfl ⟨rfl, rfl⟩ rfl dX8_depot_17 rfl rfl ?_
    refine gi_if_eq (tgt := 33) (n := 23) hX dX8_depot_20 rfl rfl h (fun h => ?_) (fun h => ?_)
    · refine gi_bipush (x := (-2 : Int32)) (n := 35) hX rfl dX8_depot_33 rfl ?_
      exact gi_iret hX rfl dX8_depot_35 h
    · refine gi_aload_n (n := 24) hX 0 dX8_depot_23 rfl rfl rfl ?_
      refine gi_iload_n (n := 25) hX 1 dX8_depot_24 rfl rfl rfl ?_
      refine gi_iload_n (n := 26) hX 2 dX8_depot_25 rfl rfl rfl ?_
      refine gi_iload_n (n := 27) hX 3 dX8_depot_26 rfl rfl rfl ?_
      obtain ⟨r11, v9, e10, h⟩ := bi_some h
      refine gi_virtI (st := []) (n := 30) hX hR kc_X8 ly_X8 mv_X8_depotOf ml_X8_287 (m_X8_depotOf Γ.2.1 Ω x1 x2 x3 v6 e10) rfl ⟨rfl, rfl⟩ rfl dX8_depot_27 rfl rfl ?_
      refine gi_goto (n := 35) hX dX8_depot_30 rfl ?_
      exact gi_iret hX rfl dX8_depot_35 h
theorem m_X8_depot (l : Launch) (Ω : gO) (x1 : Int32) (x2 : Int32) (x3 : Int32) (v : gV) {r0 : Int32} {v0 : gV} (h : f_X8_depot x1 x2 x3 v = some (r0, v0)) : gx_M l Ω LM yX8_depot cX8_depot 4 (some .int) 7 [.ref (Ω.1 0), .int x1, .int x2, .int x3] v (some (.int r0)) v0 := gx_start (lv := [(0, .ref (Ω.1 0)), (1, .int x1), (2, .int x2), (3, .int x3)]) (by decide +kernel) (Nat.le_of_ble_eq_true rfl) rfl (fun Γ _ hR hX => t_X8_depot hX hR x1 x2 x3 v h)
set_option maxRecDepth 20000 in
theorem t_X8_getsOf_B2 {Γ : gC} {Ω : gO} {r0 : Int32} {v0 : gV} {o : (gV × Int32) ⊕ ((gV) ⊕ (Int32 × gV))} (hX : gx_X Γ Ω cX8_getsOf RX8 3 (some .int)) (hR : Γ.2.2.2.1 = gx_R 1) (x1 : Int32) (x2 : Int32) (v : gV) (h : f_X8_getsOf_B2 x1 x2 v = some o) (hc : ∀ c0 c1, o = .inl (c0, c1) → gx_G Γ Ω LM (gx_Q Γ Ω LM (some (.int r0)) v0) 3 c0 2 [(0, .ref (Ω.1 0)), (1, .int x1), (2, .int c1)] []) (hz : ∀ z0, o = .inr (.inl z0) → gx_G Γ Ω LM (gx_Q Γ Ω LM (some (.int r0)) v0) 3 z0 25 [] []) (hr : ∀ q0 q1, o = .inr (.inr (q0, q1)) → some (q0, q1) = some (r0, v0)) : gx_G Γ Ω LM (gx_Q Γ Ω LM (some (.int r0)) v0) 3 v 2 [(0, .ref (Ω.1 0)), (1, .int x1), (2, .int x2)] [] := by
  rw [f_X8_getsOf_B2] at h
  refine gi_iload_n (n := 3) hX 2 dX8_getsOf_2 rfl rfl rfl ?_
  refine gi_bipush (x := (10 : Int32)) (n := 5) hX rfl dX8_getsOf_3 rfl ?_
  refine gi_icmp_ge (tgt := 25) (n := 8) hX dX8_getsOf_5 rfl rfl h (fun h => ?_) (fun h => ?_)
  · refine gi_sub [] rfl ?_
    exact hz _ (Option.some.inj h).symm
  · refine gi_aload_n (n := 9) hX 0 dX8_getsOf_8 rfl rfl rfl ?_
    refine gi_iload_n (n := 10) hX 2 dX8_getsOf_9 rfl rfl rfl ?_
    refine gi_iload_n (n := 11) hX 1 dX8_getsOf_10 rfl rfl rfl ?_
    obtain ⟨r3, v1, e2, h⟩ := bi_some h
    refine gi_virtI (st := []) (n := 14) hX hR kc_X8 ly_X8 mv_X8_isServed ml_X8_211 (m_X8_isServed Γ.2.1 Ω x2 x1 v e2) rfl ⟨rfl, rfl⟩ rfl dX8_getsOf_11 rfl rfl ?_
    refine gi_if_eq (tgt := 19) (n := 17) hX dX8_getsOf_14 rfl rfl h (fun h => ?_) (fun h => ?_)
    · refine gi_iinc (z := (1 : Int32)) (n := 22) hX 2 [(2, .int (x2 + (1 : Int32))), (0, .ref (Ω.1 0)), (1, .int x1)] dX8_getsOf_19 rfl rfl rfl rfl rfl rfl ?_
      refine gi_goto (n := 2) hX dX8_getsOf_22 rfl ?_
      refine gi_sub [1, 2, 0] rfl ?_
      exact hc _ _ (Option.some.inj h).symm
    · refine gi_iload_n (n := 18) hX 2 dX8_getsOf_17 rfl rfl rfl ?_
      exact gi_iret hX rfl dX8_getsOf_18 (hr _ _ (Option.some.inj h).symm)
set_option maxRecDepth 20000 in
theorem t_X8_getsOf {Γ : gC} {Ω : gO} {r0 : Int32} {v0 : gV} (hX : gx_X Γ Ω cX8_getsOf RX8 3 (some .int)) (hR : Γ.2.2.2.1 = gx_R 1) (x1 : Int32) (v : gV) (h : f_X8_getsOf x1 v = some (r0, v0)) : gx_G Γ Ω LM (gx_Q Γ Ω LM (some (.int r0)) v0) 3 v 0 [(0, .ref (Ω.1 0)), (1, .int x1)] [] := by
  rw [f_X8_getsOf] at h
  refine gi_iconst (x := (0 : Int32)) (n := 1) hX rfl dX8_getsOf_0 rfl ?_
  refine gi_istore_n (n := 2) hX [(2, .int (0 : Int32)), (0, .ref (Ω.1 0)), (1, .int x1)] dX8_getsOf_1 rfl rfl rfl rfl ?_
  refine gi_sub [1, 2, 0] rfl ?_
  have key := lp_ind (f := (fun a : gV × Int32 => f_X8_getsOf_B2 x1 a.2 a.1)) (P := (fun a : gV × Int32 => gx_G Γ Ω LM (gx_Q Γ Ω LM (some (.int r0)) v0) 3 a.1 2 [(0, .ref (Ω.1 0)), (1, .int x1), (2, .int a.2)] [])) (Z := (fun w : (gV) ⊕ (Int32 × gV) => Sum.elim (fun z : gV => gx_G Γ Ω LM (gx_Q Γ Ω LM (some (.int r0)) v0) 3 z 25 [] []) (fun q => some q = some (r0, v0)) w)) (fun a o h hc hz => t_X8_getsOf_B2 hX hR x1 a.2 a.1 h (fun c0 c1 e => hc (c0, c1) e) (fun z0 e => hz (.inl z0) e) (fun q0 q1 e => hz (.inr (q0, q1)) e)) fu
  rcases bs1_some h with ⟨v1, e0, h⟩ | ⟨q, e0, h⟩
  · refine key (v, (0 : Int32)) _ e0 ?_
    show gx_G Γ Ω LM (gx_Q Γ Ω LM (some (.int r0)) v0) 3 v1 25 [] []
    refine gi_iconst (x := (-1 : Int32)) (n := 26) hX rfl dX8_getsOf_25 rfl ?_
    exact gi_iret hX rfl dX8_getsOf_26 h
  · refine key (v, (0 : Int32)) _ e0 ?_
    show some q = some (r0, v0)
    exact h
theorem m_X8_getsOf (l : Launch) (Ω : gO) (x1 : Int32) (v : gV) {r0 : Int32} {v0 : gV} (h : f_X8_getsOf x1 v = some (r0, v0)) : gx_M l Ω LM yX8_getsOf cX8_getsOf 3 (some .int) 1 [.ref (Ω.1 0), .int x1] v (some (.int r0)) v0 := gx_start (lv := [(0, .ref (Ω.1 0)), (1, .int x1)]) (by decide +kernel) (Nat.le_of_ble_eq_true rfl) rfl (fun Γ _ hR hX => t_X8_getsOf hX hR x1 v h)
set_option maxRecDepth 20000 in
theorem t_X8_openOf_J86 {Γ : gC} {Ω : gO} {r0 : Int32} {v0 : gV} {o : (gV × Int32 × Int32 × Int32) ⊕ (gV × Int32 × Int32)} (hX : gx_X Γ Ω cX8_openOf RX8 8 (some .int)) (hR : Γ.2.2.2.1 = gx_R 6) (x1 : Int32) (x2 : Int32) (x3 : Int32) (x4 : Int32) (x5 : Int32) (x6 : Int32) (v : gV) (h : f_X8_openOf_J86 x1 x2 x3 x4 x5 x6 v = some o) (hc : ∀ c0 c1 c2 c3, o = .inl (c0, c1, c2, c3) → gx_G Γ Ω LM (gx_Q Γ Ω LM (some (.int r0)) v0) 8 c0 16 [(0, .ref (Ω.1 0)), (1, .int x1), (2, .int x2), (3, .int x3), (4, .int c1), (5, .int c2), (6, .int c3)] []) (hz : ∀ z0 z1 z2, o = .inr (z0, z1, z2) → gx_G Γ Ω LM (gx_Q Γ Ω LM (some (.int r0)) v0) 8 z0 92 [(0, .ref (Ω.1 0)), (2, .int x2), (3, .int x3), (4, .int z1), (5, .int z2)] []) : gx_G Γ Ω LM (gx_Q Γ Ω LM (some (.int r0)) v0) 8 v 86 [(0, .ref (Ω.1 0)), (1, .int x1), (2, .int x2), (3, .int x3), (4, .int x4), (5, .int x5), (6, .int x6)] [] := by
  rw [f_X8_openOf_J86] at h
  refine gi_iinc (z := (1 : Int32)) (n := 89) hX 6 [(6, .int (x6 + (1 : Int32))), (0, .ref (Ω.1 0)), (1, .int x1), (2, .int x2), (3, .int x3), (4, .int x4), (5, .int x5)] dX8_openOf_86 rfl rfl rfl rfl rfl rfl ?_
  refine gi_goto (n := 16) hX dX8_openOf_89 rfl ?_
  refine gi_sub [1, 2, 3, 4, 5, 6, 0] rfl ?_
  exact hc _ _ _ _ (Option.some.inj h).symm
set_option maxRecDepth 20000 in
theorem t_X8_openOf_J84 {Γ : gC} {Ω : gO} {r0 : Int32} {v0 : gV} {o : (gV × Int32 × Int32 × Int32) ⊕ (gV × Int32 × Int32)} (hX : gx_X Γ Ω cX8_openOf RX8 8 (some .int)) (hR : Γ.2.2.2.1 = gx_R 6) (x1 : Int32) (x2 : Int32) (x3 : Int32) (x4 : Int32) (x6 : Int32) (s0 : Int32) (v : gV) (h : f_X8_openOf_J84 x1 x2 x3 x4 x6 s0 v = some o) (hc : ∀ c0 c1 c2 c3, o = .inl (c0, c1, c2, c3) → gx_G Γ Ω LM (gx_Q Γ Ω LM (some (.int r0)) v0) 8 c0 16 [(0, .ref (Ω.1 0)), (1, .int x1), (2, .int x2), (3, .int x3), (4, .int c1), (5, .int c2), (6, .int c3)] []) (hz : ∀ z0 z1 z2, o = .inr (z0, z1, z2) → gx_G Γ Ω LM (gx_Q Γ Ω LM (some (.int r0)) v0) 8 z0 92 [(0, .ref (Ω.1 0)), (2, .int x2), (3, .int x3), (4, .int z1), (5, .int z2)] []) : gx_G Γ Ω LM (gx_Q Γ Ω LM (some (.int r0)) v0) 8 v 84 [(0, .ref (Ω.1 0)), (1, .int x1), (2, .int x2), (3, .int x3), (4, .int x4), (6, .int x6)] [.int s0] := by
  rw [f_X8_openOf_J84] at h
  refine gi_istore (n := 86) hX [(5, .int s0), (0, .ref (Ω.1 0)), (1, .int x1), (2, .int x2), (3, .int x3), (4, .int x4), (6, .int x6)] dX8_openOf_84 rfl rfl rfl ?_
  refine gi_sub [1, 2, 3, 4, 5, 0, 6] rfl ?_
  exact t_X8_openOf_J86 hX hR x1 x2 x3 x4 s0 x6 v h hc hz
set_option maxRecDepth 20000 in
theorem t_X8_openOf_J67 {Γ : gC} {Ω : gO} {r0 : Int32} {v0 : gV} {o : (gV × Int32 × Int32 × Int32) ⊕ (gV × Int32 × Int32)} (hX : gx_X Γ Ω cX8_openOf RX8 8 (some .int)) (hR : Γ.2.2.2.1 = gx_R 6) (x1 : Int32) (x2 : Int32) (x3 : Int32) (x5 : Int32) (x6 : Int32) (x7 : Int32) (s0 : Int32) (v : gV) (h : f_X8_openOf_J67 x1 x2 x3 x5 x6 x7 s0 v = some o) (hc : ∀ c0 c1 c2 c3, o = .inl (c0, c1, c2, c3) → gx_G Γ Ω LM (gx_Q Γ Ω LM (some (.int r0)) v0) 8 c0 16 [(0, .ref (Ω.1 0)), (1, .int x1), (2, .int x2), (3, .int x3), (4, .int c1), (5, .int c2), (6, .int c3)] []) (hz : ∀ z0 z1 z2, o = .inr (z0, z1, z2) → gx_G Γ Ω LM (gx_Q Γ Ω LM (some (.int r0)) v0) 8 z0 92 [(0, .ref (Ω.1 0)), (2, .int x2), (3, .int x3), (4, .int z1), (5, .int z2)] []) : gx_G Γ Ω LM (gx_Q Γ Ω LM (some (.int r0)) v0) 8 v 67 [(0, .ref (Ω.1 0)), (1, .int x1), (2, .int x2), (3, .int x3), (5, .int x5), (6, .int x6), (7, .int x7)] [.int s0] := by
  rw [f_X8_openOf_J67] at h
  refine gi_istore (n := 69) hX [(4, .int s0), (0, .ref (Ω.1 0)), (1, .int x1), (2, .int x2), (3, .int x3), (5, .int x5), (6, .int x6), (7, .int x7)] dX8_openOf_67 rfl rfl rfl ?_
  refine gi_iload (n := 71) hX 7 dX8_openOf_69 rfl rfl ?_
  refine gi_if_eq (tgt := 82) (n := 74) hX dX8_openOf_71 rfl rfl h (fun h => ?_) (fun h => ?_)
  · refine gi_iload (n := 84) hX 5 dX8_openOf_82 rfl rfl ?_
    refine gi_sub [1, 2, 3, 4, 0, 6] rfl ?_
    exact t_X8_openOf_J84 hX hR x1 x2 x3 s0 x6 x5 v h hc hz
  · refine gi_iload (n := 76) hX 6 dX8_openOf_74 rfl rfl ?_
    obtain ⟨r3, v1, e2, h⟩ := bi_some h
    refine gi_statI (st := []) (n := 79) hX hR ms_X8_ones ml_X8_230 (m_X8_ones Γ.2.1 Ω x6 v e2) rfl ⟨rfl, rfl⟩ rfl dX8_openOf_76 rfl rfl ?_
    refine gi_goto (n := 84) hX dX8_openOf_79 rfl ?_
    refine gi_sub [1, 2, 3, 4, 0, 6] rfl ?_
    exact t_X8_openOf_J84 hX hR x1 x2 x3 s0 x6 r3 v1 h hc hz
set_option maxRecDepth 20000 in
theorem t_X8_openOf_B16 {Γ : gC} {Ω : gO} {r0 : Int32} {v0 : gV} {o : (gV × Int32 × Int32 × Int32) ⊕ (gV × Int32 × Int32)} (hX : gx_X Γ Ω cX8_openOf RX8 8 (some .int)) (hR : Γ.2.2.2.1 = gx_R 6) (x1 : Int32) (x2 : Int32) (x3 : Int32) (x4 : Int32) (x5 : Int32) (x6 : Int32) (v : gV) (h : f_X8_openOf_B16 x1 x2 x3 x4 x5 x6 v = some o) (hc : ∀ c0 c1 c2 c3, o = .inl (c0, c1, c2, c3) → gx_G Γ Ω LM (gx_Q Γ Ω LM (some (.int r0)) v0) 8 c0 16 [(0, .ref (Ω.1 0)), (1, .int x1), (2, .int x2), (3, .int x3), (4, .int c1), (5, .int c2), (6, .int c3)] []) (hz : ∀ z0 z1 z2, o = .inr (z0, z1, z2) → gx_G Γ Ω LM (gx_Q Γ Ω LM (some (.int r0)) v0) 8 z0 92 [(0, .ref (Ω.1 0)), (2, .int x2), (3, .int x3), (4, .int z1), (5, .int z2)] []) : gx_G Γ Ω LM (gx_Q Γ Ω LM (some (.int r0)) v0) 8 v 16 [(0, .ref (Ω.1 0)), (1, .int x1), (2, .int x2), (3, .int x3), (4, .int x4), (5, .int x5), (6, .int x6)] [] := by
  rw [f_X8_openOf_B16] at h
  refine gi_iload (n := 18) hX 6 dX8_openOf_16 rfl rfl ?_
  refine gi_sipush (x := (1024 : Int32)) (n := 21) hX rfl dX8_openOf_18 rfl ?_
  refine gi_icmp_ge (tgt := 92) (n := 24) hX dX8_openOf_21 rfl rfl h (fun h => ?_) (fun h => ?_)
  · refine gi_sub [0, 2, 3, 4, 5] rfl ?_
    exact hz _ _ _ (Option.some.inj h).symm
  · refine gi_iload (n := 26) hX 6 dX8_openOf_24 rfl rfl ?_
    obtain ⟨r3, v1, e2, h⟩ := bi_some h
    refine gi_statI (st := []) (n := 29) hX hR ms_X8_ones ml_X8_230 (m_X8_ones Γ.2.1 Ω x6 v e2) rfl ⟨rfl, rfl⟩ rfl dX8_openOf_26 rfl rfl ?_
    refine gi_iload (n := 31) hX 5 dX8_openOf_29 rfl rfl ?_
    refine gi_icmp_ge (tgt := 86) (n := 34) hX dX8_openOf_31 rfl rfl h (fun h => ?_) (fun h => ?_)
    · exact t_X8_openOf_J86 hX hR x1 x2 x3 x4 x5 x6 v1 h hc hz
    · refine gi_aload_n (n := 35) hX 0 dX8_openOf_34 rfl rfl rfl ?_
      refine gi_getR (n := 38) hX 12 kc_X8 ly_X8 rfl rfl fl_X8_37 dX8_openOf_35 rfl ?_
      refine gi_iconst (x := (1 : Int32)) (n := 39) hX rfl dX8_openOf_38 rfl ?_
      refine gi_iload (n := 41) hX 6 dX8_openOf_39 rfl rfl ?_
      refine gi_iast (n := 42) hX lm_10 dX8_openOf_41 rfl h (fun v4 h => ?_)
      refine gi_aload_n (n := 43) hX 0 dX8_openOf_42 rfl rfl rfl ?_
      obtain ⟨v5, e6, h⟩ := bv_some h
      refine gi_virtV (st := []) (n := 46) hX hR kc_X8 ly_X8 mv_X8_lives ml_X8_195 (m_X8_lives Γ.2.1 Ω v4 e6) rfl ⟨rfl, rfl⟩ rfl dX8_openOf_43 rfl rfl ?_
      refine gi_aload_n (n := 47) hX 0 dX8_openOf_46 rfl rfl rfl ?_
      refine gi_bipush (x := (9 : Int32)) (n := 49) hX rfl dX8_openOf_47 rfl ?_
      refine gi_iload_n (n := 50) hX 1 dX8_openOf_49 rfl rfl rfl ?_
      obtain ⟨r9, v7, e8, h⟩ := bi_some h
      refine gi_virtI (st := []) (n := 53) hX hR kc_X8 ly_X8 mv_X8_isServed ml_X8_211 (m_X8_isServed Γ.2.1 Ω (9 : Int32) x1 v5 e8) rfl ⟨rfl, rfl⟩ rfl dX8_openOf_50 rfl rfl ?_
      refine gi_istore (n := 55) hX [(7, .int r9), (0, .ref (Ω.1 0)), (1, .int x1), (2, .int x2), (3, .int x3), (4, .int x4), (5, .int x5), (6, .int x6)] dX8_openOf_53 rfl rfl rfl ?_
      refine gi_iload (n := 57) hX 0 dX8_openOf_55 rfl rfl ?_
      refine gi_if_eq (tgt := 65) (n := 60) hX dX8_openOf_57 rfl rfl h (fun h => ?_) (fun h => ?_)
      · refine gi_iload (n := 67) hX 5 dX8_openOf_65 rfl rfl ?_
        refine gi_sub [1, 2, 3, 4, 6, 7, 0] rfl ?_
        exact t_X8_openOf_J67 hX hR x1 x2 x3 x5 x6 r9 x4 v7 h hc hz
      · refine gi_iload (n := 62) hX 7 dX8_openOf_60 rfl rfl ?_
        refine gi_goto (n := 67) hX dX8_openOf_62 rfl ?_
        refine gi_sub [1, 2, 3, 4, 6, 7, 0] rfl ?_
        exact t_X8_openOf_J67 hX hR x1 x2 x3 x5 x6 r9 x6 v7 h hc hz
set_option maxRecDepth 20000 in
theorem t_X8_openOf {Γ : gC} {Ω : gO} {r0 : Int32} {v0 : gV} (hX : gx_X Γ Ω cX8_openOf RX8 8 (some .int)) (hR : Γ.2.2.2.1 = gx_R 6) (x1 : Int32) (x2 : Int32) (v : gV) (h : f_X8_openOf x1 x2 v = some (r0, v0)) : gx_G Γ Ω LM (gx_Q Γ Ω LM (some (.int r0)) v0) 8 v 0 [(0, .ref (Ω.1 0)), (1, .int x1), (2, .int x2)] [] := by
  rw [f_X8_openOf] at h
  refine gi_aload_n (n := 1) hX 0 dX8_openOf_0 rfl rfl rfl ?_
  refine gi_getR (n := 4) hX 12 kc_X8 ly_X8 rfl rfl fl_X8_37 dX8_openOf_1 rfl ?_
  refine gi_iconst (x := (1 : Int32)) (n := 5) hX rfl dX8_openOf_4 rfl ?_
  refine gi_iald (n := 6) hX lm_10 dX8_openOf_5 rfl h (fun h => ?_)
  refine gi_topI h (fun u1 h => ?_)
  refine gi_istore_n (n := 7) hX [(3, .int u1), (0, .ref (Ω.1 0)), (1, .int x1), (2, .int x2)] dX8_openOf_6 rfl rfl rfl rfl ?_
  refine gi_iconst (x := (-1 : Int32)) (n := 8) hX rfl dX8_openOf_7 rfl ?_
  refine gi_istore (n := 10) hX [(4, .int (-1 : Int32)), (3, .int u1), (0, .ref (Ω.1 0)), (1, .int x1), (2, .int x2)] dX8_openOf_8 rfl rfl rfl ?_
  refine gi_iconst (x := (4 : Int32)) (n := 11) hX rfl dX8_openOf_10 rfl ?_
  refine gi_istore (n := 13) hX [(5, .int (4 : Int32)), (4, .int (-1 : Int32)), (3, .int u1), (0, .ref (Ω.1 0)), (1, .int x1), (2, .int x2)] dX8_openOf_11 rfl rfl rfl ?_
  refine gi_iconst (x := (0 : Int32)) (n := 14) hX rfl dX8_openOf_13 rfl ?_
  refine gi_istore (n := 16) hX [(6, .int (0 : Int32)), (5, .int (4 : Int32)), (4, .int (-1 : Int32)), (3, .int u1), (0, .ref (Ω.1 0)), (1, .int x1), (2, .int x2)] dX8_openOf_14 rfl rfl rfl ?_
  refine gi_sub [4, 5, 6, 3, 2, 1, 0] rfl ?_
  have key := lp_ind (f := (fun a : gV × Int32 × Int32 × Int32 => f_X8_openOf_B16 x1 x2 u1 a.2.1 a.2.2.1 a.2.2.2 a.1)) (P := (fun a : gV × Int32 × Int32 × Int32 => gx_G Γ Ω LM (gx_Q Γ Ω LM (some (.int r0)) v0) 8 a.1 16 [(0, .ref (Ω.1 0)), (1, .int x1), (2, .int x2), (3, .int u1), (4, .int a.2.1), (5, .int a.2.2.1), (6, .int a.2.2.2)] [])) (Z := (fun z : gV × Int32 × Int32 => gx_G Γ Ω LM (gx_Q Γ Ω LM (some (.int r0)) v0) 8 z.1 92 [(0, .ref (Ω.1 0)), (2, .int x2), (3, .int u1), (4, .int z.2.1), (5, .int z.2.2)] [])) (fun a o h hc hz => t_X8_openOf_B16 hX hR x1 x2 u1 a.2.1 a.2.2.1 a.2.2.2 a.1 h (fun c0 c1 c2 c3 e => hc (c0, c1, c2, c3) e) (fun z0 z1 z2 e => hz (z0, z1, z2) e)) fu
  obtain ⟨v2, y3, y4, e0, h⟩ := bx3_some h
  refine key (v, (-1 : Int32), (4 : Int32), (0 : Int32)) _ e0 ?_
  show gx_G Γ Ω LM (gx_Q Γ Ω LM (some (.int r0)) v0) 8 v2 92 [(0, .ref (Ω.1 0)), (2, .int x2), (3, .int u1), (4, .int y3), (5, .int y4)] []
  refine gi_aload_n (n := 93) hX 0 dX8_openOf_92 rfl rfl rfl ?_
  refine gi_getR (n := 96) hX 12 kc_X8 ly_X8 rfl rfl fl_X8_37 dX8_openOf_93 rfl ?_
  refine gi_iconst (x := (1 : Int32)) (n := 97) hX rfl dX8_openOf_96 rfl ?_
  refine gi_iload_n (n := 98) hX 2 dX8_openOf_97 rfl rfl rfl ?_
  refine gi_iast (n := 99) hX lm_10 dX8_openOf_98 rfl h (fun v5 h => ?_)
  refine gi_iload (n := 101) hX 3 dX8_openOf_99 rfl rfl ?_
  refine gi_iconst (x := (-1 : Int32)) (n := 102) hX rfl dX8_openOf_101 rfl ?_
  refine gi_icmp_eq (tgt := 110) (n := 105) hX dX8_openOf_102 rfl rfl h (fun h => ?_) (fun h => ?_)
  · refine gi_iload (n := 112) hX 3 dX8_openOf_110 rfl rfl ?_
    refine gi_goto (n := 117) hX dX8_openOf_112 rfl ?_
    exact gi_iret hX rfl dX8_openOf_117 h
  · refine gi_iload_n (n := 106) hX 1 dX8_openOf_105 rfl rfl rfl ?_
    refine gi_iconst (x := (1 : Int32)) (n := 107) hX rfl dX8_openOf_106 rfl ?_
    refine gi_icmp_ne (tgt := 115) (n := 110) hX dX8_openOf_107 rfl rfl h (fun h => ?_) (fun h => ?_)
    · refine gi_iload (n := 117) hX 4 dX8_openOf_115 rfl rfl ?_
      exact gi_iret hX rfl dX8_openOf_117 h
    · refine gi_iload (n := 112) hX 3 dX8_openOf_110 rfl rfl ?_
      refine gi_goto (n := 117) hX dX8_openOf_112 rfl ?_
      exact gi_iret hX rfl dX8_openOf_117 h
theorem m_X8_openOf (l : Launch) (Ω : gO) (x1 : Int32) (x2 : Int32) (v : gV) {r0 : Int32} {v0 : gV} (h : f_X8_openOf x1 x2 v = some (r0, v0)) : gx_M l Ω LM yX8_openOf cX8_openOf 8 (some .int) 6 [.ref (Ω.1 0), .int x1, .int x2] v (some (.int r0)) v0 := gx_start (lv := [(0, .ref (Ω.1 0)), (1, .int x1), (2, .int x2)]) (by decide +kernel) (Nat.le_of_ble_eq_true rfl) rfl (fun Γ _ hR hX => t_X8_openOf hX hR x1 x2 v h)
