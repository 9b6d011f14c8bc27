set_option maxRecDepth 20000 in
theorem t_J6_bitCount_0f7a4 {Γ : gC} {Ω : gO} {r0 : Int32} {v0 : gV} (lay : List gk) (hX : gx_X Γ Ω cJ6_bitCount_0f7a4 RJ6 1 (some .int)) (hR : Γ.2.2.2.1 = gx_R 0) (x0 : Int32) (v : gV) (h : f_J6_bitCount_0f7a4 x0 v = some (r0, v0)) : gx_G Γ Ω lay (gx_Q Γ Ω lay (some (.int r0)) v0) 1 v 0 [(0, .int x0)] [] := by
  rw [f_J6_bitCount_0f7a4] at h
  refine gi_iload_n (n := 1) hX 0 dJ6_bitCount_0f7a4_0 rfl rfl rfl ?_
  refine gi_iload_n (n := 2) hX 0 dJ6_bitCount_0f7a4_1 rfl rfl rfl ?_
  refine gi_iconst (x := (1 : Int32)) (n := 3) hX rfl dJ6_bitCount_0f7a4_2 rfl ?_
  refine gi_iushr (n := 4) hX dJ6_bitCount_0f7a4_3 rfl ?_
  refine gi_ldcw (n := 7) hX co_J6_265 dJ6_bitCount_0f7a4_4 rfl ?_
  refine gi_iand (n := 8) hX dJ6_bitCount_0f7a4_7 rfl ?_
  refine gi_isub (n := 9) hX dJ6_bitCount_0f7a4_8 rfl ?_
  refine gi_topI h (fun u1 h => ?_)
  refine gi_istore_n (n := 10) hX [(0, .int u1)] dJ6_bitCount_0f7a4_9 rfl rfl rfl rfl ?_
  refine gi_iload_n (n := 11) hX 0 dJ6_bitCount_0f7a4_10 rfl rfl rfl ?_
  refine gi_ldcw (n := 14) hX co_J6_266 dJ6_bitCount_0f7a4_11 rfl ?_
  refine gi_iand (n := 15) hX dJ6_bitCount_0f7a4_14 rfl ?_
  refine gi_iload_n (n := 16) hX 0 dJ6_bitCount_0f7a4_15 rfl rfl rfl ?_
  refine gi_iconst (x := (2 : Int32)) (n := 17) hX rfl dJ6_bitCount_0f7a4_16 rfl ?_
  refine gi_iushr (n := 18) hX dJ6_bitCount_0f7a4_17 rfl ?_
  refine gi_ldcw (n := 21) hX co_J6_266 dJ6_bitCount_0f7a4_18 rfl ?_
  refine gi_iand (n := 22) hX dJ6_bitCount_0f7a4_21 rfl ?_
  refine gi_iadd (n := 23) hX dJ6_bitCount_0f7a4_22 rfl ?_
  refine gi_topI h (fun u2 h => ?_)
  refine gi_istore_n (n := 24) hX [(0, .int u2)] dJ6_bitCount_0f7a4_23 rfl rfl rfl rfl ?_
  refine gi_iload_n (n := 25) hX 0 dJ6_bitCount_0f7a4_24 rfl rfl rfl ?_
  refine gi_iload_n (n := 26) hX 0 dJ6_bitCount_0f7a4_25 rfl rfl rfl ?_
  refine gi_iconst (x := (4 : Int32)) (n := 27) hX rfl dJ6_bitCount_0f7a4_26 rfl ?_
  refine gi_iushr (n := 28) hX dJ6_bitCount_0f7a4_27 rfl ?_
  refine gi_iadd (n := 29) hX dJ6_bitCount_0f7a4_28 rfl ?_
  refine gi_ldcw (n := 32) hX co_J6_267 dJ6_bitCount_0f7a4_29 rfl ?_
  refine gi_iand (n := 33) hX dJ6_bitCount_0f7a4_32 rfl ?_
  refine gi_topI h (fun u3 h => ?_)
  refine gi_istore_n (n := 34) hX [(0, .int u3)] dJ6_bitCount_0f7a4_33 rfl rfl rfl rfl ?_
  refine gi_iload_n (n := 35) hX 0 dJ6_bitCount_0f7a4_34 rfl rfl rfl ?_
  refine gi_iload_n (n := 36) hX 0 dJ6_bitCount_0f7a4_35 rfl rfl rfl ?_
  refine gi_bipush (x := (8 : Int32)) (n := 38) hX rfl dJ6_bitCount_0f7a4_36 rfl ?_
  refine gi_iushr (n := 39) hX dJ6_bitCount_0f7a4_38 rfl ?_
  refine gi_iadd (n := 40) hX dJ6_bitCount_0f7a4_39 rfl ?_
  refine gi_topI h (fun u4 h => ?_)
  refine gi_istore_n (n := 41) hX [(0, .int u4)] dJ6_bitCount_0f7a4_40 rfl rfl rfl rfl ?_
  refine gi_iload_n (n := 42) hX 0 dJ6_bitCount_0f7a4_41 rfl rfl rfl ?_
  refine gi_iload_n (n := 43) hX 0 dJ6_bitCount_0f7a4_42 rfl rfl rfl ?_
  refine gi_bipush (x := (16 : Int32)) (n := 45) hX rfl dJ6_bitCount_0f7a4_43 rfl ?_
  refine gi_iushr (n := 46) hX dJ6_bitCount_0f7a4_45 rfl ?_
  refine gi_iadd (n := 47) hX dJ6_bitCount_0f7a4_46 rfl ?_
  refine gi_topI h (fun u5 h => ?_)
  refine gi_istore_n (n := 48) hX [(0, .int u5)] dJ6_bitCount_0f7a4_47 rfl rfl rfl rfl ?_
  refine gi_iload_n (n := 49) hX 0 dJ6_bitCount_0f7a4_48 rfl rfl rfl ?_
  refine gi_bipush (x := (63 : Int32)) (n := 51) hX rfl dJ6_bitCount_0f7a4_49 rfl ?_
  refine gi_iand (n := 52) hX dJ6_bitCount_0f7a4_51 rfl ?_
  exact gi_iret hX rfl dJ6_bitCount_0f7a4_52 h
theorem m_J6_bitCount_0f7a4 (l : Launch) (Ω : gO) (lay : List gk) (x0 : Int32) (v : gV) {r0 : Int32} {v0 : gV} (h : f_J6_bitCount_0f7a4 x0 v = some (r0, v0)) : gx_M l Ω lay yJ6_bitCount_0f7a4 cJ6_bitCount_0f7a4 1 (some .int) 0 [.int x0] v (some (.int r0)) v0 := gx_start (lv := [(0, .int x0)]) (by decide +kernel) (Nat.le_of_ble_eq_true rfl) rfl (fun Γ _ hR hX => t_J6_bitCount_0f7a4 lay hX hR x0 v h)
set_option maxRecDepth 20000 in
theorem t_J7_fill_53178_B5 {Γ : gC} {Ω : gO} {v0 : gV} (lay : List gk) {o : (gV × Int32) ⊕ (gV)} (hX : gx_X Γ Ω cJ7_fill_53178 RJ7 4 (none)) (hR : Γ.2.2.2.1 = gx_R 0) (N : Nat) (q0 : Nat) (hq0 : lay[q0]? = some (gk_i N)) (x1 : Int32) (x2 : Int32) (x3 : Int32) (v : gV) (h : f_J7_fill_53178_B5 N q0 x1 x2 x3 v = some o) (hc : ∀ c0 c1, o = .inl (c0, c1) → gx_G Γ Ω lay (gx_Q Γ Ω lay none v0) 4 c0 5 [(0, .ref (Ω.1 q0)), (1, .int x1), (2, .int c1), (3, .int x3)] []) (hz : ∀ z0, o = .inr z0 → gx_G Γ Ω lay (gx_Q Γ Ω lay none v0) 4 z0 20 [] []) : gx_G Γ Ω lay (gx_Q Γ Ω lay none v0) 4 v 5 [(0, .ref (Ω.1 q0)), (1, .int x1), (2, .int x2), (3, .int x3)] [] := by
  rw [f_J7_fill_53178_B5] at h
  refine gi_iload_n (n := 6) hX 2 dJ7_fill_53178_5 rfl rfl rfl ?_
  refine gi_iload_n (n := 7) hX 3 dJ7_fill_53178_6 rfl rfl rfl ?_
  refine gi_icmp_ge (tgt := 20) (n := 10) hX dJ7_fill_53178_7 rfl rfl h (fun h => ?_) (fun h => ?_)
  · refine gi_sub [] rfl ?_
    exact hz _ (Option.some.inj h).symm
  · refine gi_aload_n (n := 11) hX 0 dJ7_fill_53178_10 rfl rfl rfl ?_
    refine gi_iload_n (n := 12) hX 2 dJ7_fill_53178_11 rfl rfl rfl ?_
    refine gi_iload_n (n := 13) hX 1 dJ7_fill_53178_12 rfl rfl rfl ?_
    refine gi_iast (n := 14) hX hq0 dJ7_fill_53178_13 rfl h (fun v1 h => ?_)
    refine gi_iinc (z := (1 : Int32)) (n := 17) hX 2 [(2, .int (x2 + (1 : Int32))), (0, .ref (Ω.1 q0)), (1, .int x1), (3, .int x3)] dJ7_fill_53178_14 rfl rfl rfl rfl rfl rfl ?_
    refine gi_goto (n := 5) hX dJ7_fill_53178_17 rfl ?_
    refine gi_sub [1, 2, 0, 3] rfl ?_
    exact hc _ _ (Option.some.inj h).symm
set_option maxRecDepth 20000 in
theorem t_J7_fill_53178 {Γ : gC} {Ω : gO} {v0 : gV} (lay : List gk) (hX : gx_X Γ Ω cJ7_fill_53178 RJ7 4 (none)) (hR : Γ.2.2.2.1 = gx_R 0) (N : Nat) (q0 : Nat) (hq0 : lay[q0]? = some (gk_i N)) (x1 : Int32) (v : gV) (h : f_J7_fill_53178 N q0 x1 v = some v0) : gx_G Γ Ω lay (gx_Q Γ Ω lay none v0) 4 v 0 [(0, .ref (Ω.1 q0)), (1, .int x1)] [] := by
  rw [f_J7_fill_53178] at h
  refine gi_iconst (x := (0 : Int32)) (n := 1) hX rfl dJ7_fill_53178_0 rfl ?_
  refine gi_istore_n (n := 2) hX [(2, .int (0 : Int32)), (0, .ref (Ω.1 q0)), (1, .int x1)] dJ7_fill_53178_1 rfl rfl rfl rfl ?_
  refine gi_aload_n (n := 3) hX 1 dJ7_fill_53178_2 rfl rfl rfl ?_
  refine gi_ilen (n := 4) hX hq0 dJ7_fill_53178_3 rfl ?_
  refine gi_topI h (fun u1 h => ?_)
  refine gi_istore_n (n := 5) hX [(3, .int u1), (2, .int (0 : Int32)), (0, .ref (Ω.1 q0)), (1, .int x1)] dJ7_fill_53178_4 rfl rfl rfl rfl ?_
  refine gi_sub [2, 3, 1, 0] rfl ?_
  have key := lp_ind (f := (fun a : gV × Int32 => f_J7_fill_53178_B5 N q0 x1 a.2 u1 a.1)) (P := (fun a : gV × Int32 => gx_G Γ Ω lay (gx_Q Γ Ω lay none v0) 4 a.1 5 [(0, .ref (Ω.1 q0)), (1, .int x1), (2, .int a.2), (3, .int u1)] [])) (Z := (fun z : gV => gx_G Γ Ω lay (gx_Q Γ Ω lay none v0) 4 z 20 [] [])) (fun a o h hc hz => t_J7_fill_53178_B5 lay hX hR N q0 hq0 x1 a.2 u1 a.1 h (fun c0 c1 e => hc (c0, c1) e) (fun z0 e => hz z0 e)) fu
  obtain ⟨v2, e0, h⟩ := bx1_some h
  refine key (v, (0 : Int32)) _ e0 ?_
  show gx_G Γ Ω lay (gx_Q Γ Ω lay none v0) 4 v2 20 [] []
  exact gi_vret hX rfl dJ7_fill_53178_20 h
theorem m_J7_fill_53178 (l : Launch) (Ω : gO) (lay : List gk) (N : Nat) (q0 : Nat) (hq0 : lay[q0]? = some (gk_i N)) (x1 : Int32) (v : gV) {v0 : gV} (h : f_J7_fill_53178 N q0 x1 v = some v0) : gx_M l Ω lay yJ7_fill_53178 cJ7_fill_53178 4 (none) 0 [.ref (Ω.1 q0), .int x1] v none v0 := gx_start (lv := [(0, .ref (Ω.1 q0)), (1, .int x1)]) (by decide +kernel) (Nat.le_of_ble_eq_true rfl) rfl (fun Γ _ hR hX => t_J7_fill_53178 lay hX hR N q0 hq0 x1 v h)
set_option maxRecDepth 20000 in
theorem t_J9_max_7cf53 {Γ : gC} {Ω : gO} {r0 : Int32} {v0 : gV} (lay : List gk) (hX : gx_X Γ Ω cJ9_max_7cf53 RJ9 2 (some .int)) (hR : Γ.2.2.2.1 = gx_R 0) (x0 : Int32) (x1 : Int32) (v : gV) (h : f_J9_max_7cf53 x0 x1 v = some (r0, v0)) : gx_G Γ Ω lay (gx_Q Γ Ω lay (some (.int r0)) v0) 2 v 0 [(0, .int x0), (1, .int x1)] [] := by
  rw [f_J9_max_7cf53] at h
  refine gi_iload_n (n := 1) hX 0 dJ9_max_7cf53_0 rfl rfl rfl ?_
  refine gi_iload_n (n := 2) hX 1 dJ9_max_7cf53_1 rfl rfl rfl ?_
  refine gi_icmp_lt (tgt := 9) (n := 5) hX dJ9_max_7cf53_2 rfl rfl h (fun h => ?_) (fun h => ?_)
  · refine gi_iload_n (n := 10) hX 1 dJ9_max_7cf53_9 rfl rfl rfl ?_
    exact gi_iret hX rfl dJ9_max_7cf53_10 h
  · refine gi_iload_n (n := 6) hX 0 dJ9_max_7cf53_5 rfl rfl rfl ?_
    refine gi_goto (n := 10) hX dJ9_max_7cf53_6 rfl ?_
    exact gi_iret hX rfl dJ9_max_7cf53_10 h
theorem m_J9_max_7cf53 (l : Launch) (Ω : gO) (lay : List gk) (x0 : Int32) (x1 : Int32) (v : gV) {r0 : Int32} {v0 : gV} (h : f_J9_max_7cf53 x0 x1 v = some (r0, v0)) : gx_M l Ω lay yJ9_max_7cf53 cJ9_max_7cf53 2 (some .int) 0 [.int x0, .int x1] v (some (.int r0)) v0 := gx_start (lv := [(0, .int x0), (1, .int x1)]) (by decide +kernel) (Nat.le_of_ble_eq_true rfl) rfl (fun Γ _ hR hX => t_J9_max_7cf53 lay hX hR x0 x1 v h)
set_option maxRecDepth 20000 in
theorem t_J9_min_7cf53 {Γ : gC} {Ω : gO} {r0 : Int32} {v0 : gV} (lay : List gk) (hX : gx_X Γ Ω cJ9_min_7cf53 RJ9 2 (some .int)) (hR : Γ.2.2.2.1 = gx_R 0) (x0 : Int32) (x1 : Int32) (v : gV) (h : f_J9_min_7cf53 x0 x1 v = some (r0, v0)) : gx_G Γ Ω lay (gx_Q Γ Ω lay (some (.int r0)) v0) 2 v 0 [(0, .int x0), (1, .int x1)] [] := by
  rw [f_J9_min_7cf53] at h
  refine gi_iload_n (n := 1) hX 0 dJ9_min_7cf53_0 rfl rfl rfl ?_
  refine gi_iload_n (n := 2) hX 1 dJ9_min_7cf53_1 rfl rfl rfl ?_
  refine gi_icmp_gt (tgt := 9) (n := 5) hX dJ9_min_7cf53_2 rfl rfl h (fun h => ?_) (fun h => ?_)
  · refine gi_iload_n (n := 10) hX 1 dJ9_min_7cf53_9 rfl rfl rfl ?_
    exact gi_iret hX rfl dJ9_min_7cf53_10 h
  · refine gi_iload_n (n := 6) hX 0 dJ9_min_7cf53_5 rfl rfl rfl ?_
    refine gi_goto (n := 10) hX dJ9_min_7cf53_6 rfl ?_
    exact gi_iret hX rfl dJ9_min_7cf53_10 h
theorem m_J9_min_7cf53 (l : Launch) (Ω : gO) (lay : List gk) (x0 : Int32) (x1 : Int32) (v : gV) {r0 : Int32} {v0 : gV} (h : f_J9_min_7cf53 x0 x1 v = some (r0, v0)) : gx_M l Ω lay yJ9_min_7cf53 cJ9_min_7cf53 2 (some .int) 0 [.int x0, .int x1] v (some (.int r0)) v0 := gx_start (lv := [(0, .int x0), (1, .int x1)]) (by decide +kernel) (Nat.le_of_ble_eq_true rfl) rfl (fun Γ _ hR hX => t_J9_min_7cf53 lay hX hR x0 x1 v h)
set_option maxRecDepth 20000 in
theorem t_X0_become {Γ : gC} {Ω : gO} {v0 : gV} (hX : gx_X Γ Ω cX0_become RX0 2 (none)) (hR : Γ.2.2.2.1 = gx_R 1) (b : Nat) (hb : kB b = true) (q1 : Nat) (hq1 : kB q1 = true) (v : gV) (h : f_X0_become b q1 v = some v0) : gx_G Γ Ω LX (gx_Q Γ Ω LX none v0) 2 v 0 [(0, .ref (Ω.1 b)), (1, .ref (Ω.1 q1))] [] := by
  rw [f_X0_become] at h
  refine gi_aload_n (n := 1) hX 1 dX0_become_0 rfl rfl rfl ?_
  refine gi_getR (n := 4) hX 0 kc_X0 (ly_B hq1) rfl rfl fl_X0_9 dX0_become_1 rfl ?_
  refine gi_iconst (x := (0 : Int32)) (n := 5) hX rfl dX0_become_4 rfl ?_
  refine gi_aload_n (n := 6) hX 0 dX0_become_5 rfl rfl rfl ?_
  refine gi_getR (n := 9) hX 0 kc_X0 (ly_B hb) rfl rfl fl_X0_9 dX0_become_6 rfl ?_
  refine gi_iconst (x := (0 : Int32)) (n := 10) hX rfl dX0_become_9 rfl ?_
  refine gi_aload_n (n := 11) hX 1 dX0_become_10 rfl rfl rfl ?_
  refine gi_getI (n := 14) hX 1 kc_X0 (ly_B hq1) rfl rfl fl_X0_15 dX0_become_11 rfl ?_
  refine gi_copy (d := 0) (st := []) (n := 17) hX (ly_Bk hq1) (ly_Bk hb) ml_X0_19 w_nat w_sta w_sys hR rfl dX0_become_14 rfl h (fun v1 h => ?_)
  refine gi_aload_n (n := 18) hX 0 dX0_become_17 rfl rfl rfl ?_
  refine gi_aload_n (n := 19) hX 1 dX0_become_18 rfl rfl rfl ?_
  refine gi_getI (n := 22) hX 1 kc_X0 (ly_B hq1) rfl rfl fl_X0_15 dX0_become_19 rfl ?_
  refine gi_putI (n := 25) hX 1 kc_X0 (ly_B hb) rfl rfl fl_X0_15 rfl rfl dX0_become_22 rfl h (fun v2 h => ?_)
  exact gi_vret hX rfl dX0_become_25 h
theorem m_X0_become (l : Launch) (Ω : gO) (b : Nat) (hb : kB b = true) (q1 : Nat) (hq1 : kB q1 = true) (v : gV) {v0 : gV} (h : f_X0_become b q1 v = some v0) : gx_M l Ω LX yX0_become cX0_become 2 (none) 1 [.ref (Ω.1 b), .ref (Ω.1 q1)] v none v0 := gx_start (lv := [(0, .ref (Ω.1 b)), (1, .ref (Ω.1 q1))]) (by decide +kernel) (Nat.le_of_ble_eq_true rfl) rfl (fun Γ _ hR hX => t_X0_become hX hR b hb q1 hq1 v h)
set_option maxRecDepth 20000 in
theorem t_X0_placeOf_B2 {Γ : gC} {Ω : gO} {r0 : Int32} {v0 : gV} {o : (gV × Int32) ⊕ ((gV) ⊕ (Int32 × gV))} (hX : gx_X Γ Ω cX0_placeOf RX0 3 (some .int)) (hR : Γ.2.2.2.1 = gx_R 0) (b : Nat) (hb : kB b = true) (x1 : Int32) (x2 : Int32) (v : gV) (h : f_X0_placeOf_B2 b x1 x2 v = some o) (hc : ∀ c0 c1, o = .inl (c0, c1) → gx_G Γ Ω LX (gx_Q Γ Ω LX (some (.int r0)) v0) 3 c0 2 [(0, .ref (Ω.1 b)), (1, .int x1), (2, .int c1)] []) (hz : ∀ z0, o = .inr (.inl z0) → gx_G Γ Ω LX (gx_Q Γ Ω LX (some (.int r0)) v0) 3 z0 28 [] []) (hr : ∀ q0 q1, o = .inr (.inr (q0, q1)) → some (q0, q1) = some (r0, v0)) : gx_G Γ Ω LX (gx_Q Γ Ω LX (some (.int r0)) v0) 3 v 2 [(0, .ref (Ω.1 b)), (1, .int x1), (2, .int x2)] [] := by
  rw [f_X0_placeOf_B2] at h
  refine gi_iload_n (n := 3) hX 2 dX0_placeOf_2 rfl rfl rfl ?_
  refine gi_aload_n (n := 4) hX 0 dX0_placeOf_3 rfl rfl rfl ?_
  refine gi_getI (n := 7) hX 1 kc_X0 (ly_B hb) rfl rfl fl_X0_15 dX0_placeOf_4 rfl ?_
  refine gi_icmp_ge (tgt := 28) (n := 10) hX dX0_placeOf_7 rfl rfl h (fun h => ?_) (fun h => ?_)
  · refine gi_sub [] rfl ?_
    exact hz _ (Option.some.inj h).symm
  · refine gi_aload_n (n := 11) hX 0 dX0_placeOf_10 rfl rfl rfl ?_
    refine gi_getR (n := 14) hX 0 kc_X0 (ly_B hb) rfl rfl fl_X0_9 dX0_placeOf_11 rfl ?_
    refine gi_iload_n (n := 15) hX 2 dX0_placeOf_14 rfl rfl rfl ?_
    refine gi_iald (n := 16) hX (ly_Bk hb) dX0_placeOf_15 rfl h (fun h => ?_)
    refine gi_iload_n (n := 17) hX 1 dX0_placeOf_16 rfl rfl rfl ?_
    refine gi_icmp_ne (tgt := 22) (n := 20) hX dX0_placeOf_17 rfl rfl h (fun h => ?_) (fun h => ?_)
    · refine gi_iinc (z := (1 : Int32)) (n := 25) hX 2 [(2, .int (x2 + (1 : Int32))), (0, .ref (Ω.1 b)), (1, .int x1)] dX0_placeOf_22 rfl rfl rfl rfl rfl rfl ?_
      refine gi_goto (n := 2) hX dX0_placeOf_25 rfl ?_
      refine gi_sub [1, 2, 0] rfl ?_
      exact hc _ _ (Option.some.inj h).symm
    · refine gi_iload_n (n := 21) hX 2 dX0_placeOf_20 rfl rfl rfl ?_
      exact gi_iret hX rfl dX0_placeOf_21 (hr _ _ (Option.some.inj h).symm)
set_option maxRecDepth 20000 in
theorem t_X0_placeOf {Γ : gC} {Ω : gO} {r0 : Int32} {v0 : gV} (hX : gx_X Γ Ω cX0_placeOf RX0 3 (some .int)) (hR : Γ.2.2.2.1 = gx_R 0) (b : Nat) (hb : kB b = true) (x1 : Int32) (v : gV) (h : f_X0_placeOf b x1 v = some (r0, v0)) : gx_G Γ Ω LX (gx_Q Γ Ω LX (some (.int r0)) v0) 3 v 0 [(0, .ref (Ω.1 b)), (1, .int x1)] [] := by
  rw [f_X0_placeOf] at h
  refine gi_iconst (x := (0 : Int32)) (n := 1) hX rfl dX0_placeOf_0 rfl ?_
  refine gi_istore_n (n := 2) hX [(2, .int (0 : Int32)), (0, .ref (Ω.1 b)), (1, .int x1)] dX0_placeOf_1 rfl rfl rfl rfl ?_
  refine gi_sub [1, 2, 0] rfl ?_
  have key := lp_ind (f := (fun a : gV × Int32 => f_X0_placeOf_B2 b x1 a.2 a.1)) (P := (fun a : gV × Int32 => gx_G Γ Ω LX (gx_Q Γ Ω LX (some (.int r0)) v0) 3 a.1 2 [(0, .ref (Ω.1 b)), (1, .int x1), (2, .int a.2)] [])) (Z := (fun w : (gV) ⊕ (Int32 × gV) => Sum.elim (fun z : gV => gx_G Γ Ω LX (gx_Q Γ Ω LX (some (.int r0)) v0) 3 z 28 [] []) (fun q => some q = some (r0, v0)) w)) (fun a o h hc hz => t_X0_placeOf_B2 hX hR b hb x1 a.2 a.1 h (fun c0 c1 e => hc (c0, c1) e) (fun z0 e => hz (.inl z0) e) (fun q0 q1 e => hz (.inr (q0, q1)) e)) fu
  rcases bs1_some h with ⟨v1, e0, h⟩ | ⟨q, e0, h⟩
  · refine key (v, (0 : Int32)) _ e0 ?_
    show gx_G Γ Ω LX (gx_Q Γ Ω LX (some (.int r0)) v0) 3 v1 28 [] []
    refine gi_iconst (x := (-1 : Int32)) (n := 29) hX rfl dX0_placeOf_28 rfl ?_
    exact gi_iret hX rfl dX0_placeOf_29 h
  · refine key (v, (0 : Int32)) _ e0 ?_
    show some q = some (r0, v0)
    exact h
theorem m_X0_placeOf (l : Launch) (Ω : gO) (b : Nat) (hb : kB b = true) (x1 : Int32) (v : gV) {r0 : Int32} {v0 : gV} (h : f_X0_placeOf b x1 v = some (r0, v0)) : gx_M l Ω LX yX0_placeOf cX0_placeOf 3 (some .int) 0 [.ref (Ω.1 b), .int x1] v (some (.int r0)) v0 := gx_start (lv := [(0, .ref (Ω.1 b)), (1, .int x1)]) (by decide +kernel) (Nat.le_of_ble_eq_true rfl) rfl (fun Γ _ hR hX => t_X0_placeOf hX hR b hb x1 v h)
set_option maxRecDepth 20000 in
theorem t_X0_putAtBottom {Γ : gC} {Ω : gO} {v0 : gV} (hX : gx_X Γ Ω cX0_putAtBottom RX0 2 (none)) (hR : Γ.2.2.2.1 = gx_R 0) (b : Nat) (hb : kB b = true) (x1 : Int32) (v : gV) (h : f_X0_putAtBottom b x1 v = some v0) : gx_G Γ Ω LX (gx_Q Γ Ω LX none v0) 2 v 0 [(0, .ref (Ω.1 b)), (1, .int x1)] [] := by
  rw [f_X0_putAtBottom] at h
  refine gi_aload_n (n := 1) hX 0 dX0_putAtBottom_0 rfl rfl rfl ?_
  refine gi_getI (n := 4) hX 1 kc_X0 (ly_B hb) rfl rfl fl_X0_15 dX0_putAtBottom_1 rfl ?_
  refine gi_aload_n (n := 5) hX 0 dX0_putAtBottom_4 rfl rfl rfl ?_
  refine gi_getR (n := 8) hX 0 kc_X0 (ly_B hb) rfl rfl fl_X0_9 dX0_putAtBottom_5 rfl ?_
  refine gi_ilen (n := 9) hX (ly_Bk hb) dX0_putAtBottom_8 rfl ?_
  refine gi_icmp_ge (tgt := 32) (n := 12) hX dX0_putAtBottom_9 rfl rfl h (fun h => ?_) (fun h => ?_)
  · exact gi_vret hX rfl dX0_putAtBottom_32 h
  · refine gi_aload_n (n := 13) hX 0 dX0_putAtBottom_12 rfl rfl rfl ?_
    refine gi_getR (n := 16) hX 0 kc_X0 (ly_B hb) rfl rfl fl_X0_9 dX0_putAtBottom_13 rfl ?_
    refine gi_aload_n (n := 17) hX 0 dX0_putAtBottom_16 rfl rfl rfl ?_
    refine gi_getI (n := 20) hX 1 kc_X0 (ly_B hb) rfl rfl fl_X0_15 dX0_putAtBottom_17 rfl ?_
    refine gi_iload_n (n := 21) hX 1 dX0_putAtBottom_20 rfl rfl rfl ?_
    refine gi_iast (n := 22) hX (ly_Bk hb) dX0_putAtBottom_21 rfl h (fun v1 h => ?_)
    refine gi_aload_n (n := 23) hX 0 dX0_putAtBottom_22 rfl rfl rfl ?_
    refine gi_dup (n := 24) hX rfl dX0_putAtBottom_23 rfl ?_
    refine gi_getI (n := 27) hX 1 kc_X0 (ly_B hb) rfl rfl fl_X0_15 dX0_putAtBottom_24 rfl ?_
    refine gi_iconst (x := (1 : Int32)) (n := 28) hX rfl dX0_putAtBottom_27 rfl ?_
    refine gi_iadd (n := 29) hX dX0_putAtBottom_28 rfl ?_
    refine gi_putI (n := 32) hX 1 kc_X0 (ly_B hb) rfl rfl fl_X0_15 rfl rfl dX0_putAtBottom_29 rfl h (fun v2 h => ?_)
    exact gi_vret hX rfl dX0_putAtBottom_32 h
theorem m_X0_putAtBottom (l : Launch) (Ω : gO) (b : Nat) (hb : kB b = true) (x1 : Int32) (v : gV) {v0 : gV} (h : f_X0_putAtBottom b x1 v = some v0) : gx_M l Ω LX yX0_putAtBottom cX0_putAtBottom 2 (none) 0 [.ref (Ω.1 b), .int x1] v none v0 := gx_start (lv := [(0, .ref (Ω.1 b)), (1, .int x1)]) (by decide +kernel) (Nat.le_of_ble_eq_true rfl) rfl (fun Γ _ hR hX => t_X0_putAtBottom hX hR b hb x1 v h)
set_option maxRecDepth 20000 in
theorem t_X0_putOnTop {Γ : gC} {Ω : gO} {v0 : gV} (hX : gx_X Γ Ω cX0_putOnTop RX0 2 (none)) (hR : Γ.2.2.2.1 = gx_R 1) (b : Nat) (hb : kB b = true) (x1 : Int32) (v : gV) (h : f_X0_putOnTop b x1 v = some v0) : gx_G Γ Ω LX (gx_Q Γ Ω LX none v0) 2 v 0 [(0, .ref (Ω.1 b)), (1, .int x1)] [] := by
  rw [f_X0_putOnTop] at h
  refine gi_aload_n (n := 1) hX 0 dX0_putOnTop_0 rfl rfl rfl ?_
  refine gi_getI (n := 4) hX 1 kc_X0 (ly_B hb) rfl rfl fl_X0_15 dX0_putOnTop_1 rfl ?_
  refine gi_aload_n (n := 5) hX 0 dX0_putOnTop_4 rfl rfl rfl ?_
  refine gi_getR (n := 8) hX 0 kc_X0 (ly_B hb) rfl rfl fl_X0_9 dX0_putOnTop_5 rfl ?_
  refine gi_ilen (n := 9) hX (ly_Bk hb) dX0_putOnTop_8 rfl ?_
  refine gi_icmp_ge (tgt := 46) (n := 12) hX dX0_putOnTop_9 rfl rfl h (fun h => ?_) (fun h => ?_)
  · exact gi_vret hX rfl dX0_putOnTop_46 h
  · refine gi_aload_n (n := 13) hX 0 dX0_putOnTop_12 rfl rfl rfl ?_
    refine gi_getR (n := 16) hX 0 kc_X0 (ly_B hb) rfl rfl fl_X0_9 dX0_putOnTop_13 rfl ?_
    refine gi_iconst (x := (0 : Int32)) (n := 17) hX rfl dX0_putOnTop_16 rfl ?_
    refine gi_aload_n (n := 18) hX 0 dX0_putOnTop_17 rfl rfl rfl ?_
    refine gi_getR (n := 21) hX 0 kc_X0 (ly_B hb) rfl rfl fl_X0_9 dX0_putOnTop_18 rfl ?_
    refine gi_iconst (x := (1 : Int32)) (n := 22) hX rfl dX0_putOnTop_21 rfl ?_
    refine gi_aload_n (n := 23) hX 0 dX0_putOnTop_22 rfl rfl rfl ?_
    refine gi_getI (n := 26) hX 1 kc_X0 (ly_B hb) rfl rfl fl_X0_15 dX0_putOnTop_23 rfl ?_
    refine gi_copy (d := 0) (st := []) (n := 29) hX (ly_Bk hb) (ly_Bk hb) ml_X0_19 w_nat w_sta w_sys hR rfl dX0_putOnTop_26 rfl h (fun v1 h => ?_)
    refine gi_aload_n (n := 30) hX 0 dX0_putOnTop_29 rfl rfl rfl ?_
    refine gi_getR (n := 33) hX 0 kc_X0 (ly_B hb) rfl rfl fl_X0_9 dX0_putOnTop_30 rfl ?_
    refine gi_iconst (x := (0 : Int32)) (n := 34) hX rfl dX0_putOnTop_33 rfl ?_
    refine gi_iload_n (n := 35) hX 1 dX0_putOnTop_34 rfl rfl rfl ?_
    refine gi_iast (n := 36) hX (ly_Bk hb) dX0_putOnTop_35 rfl h (fun v2 h => ?_)
    refine gi_aload_n (n := 37) hX 0 dX0_putOnTop_36 rfl rfl rfl ?_
    refine gi_dup (n := 38) hX rfl dX0_putOnTop_37 rfl ?_
    refine gi_getI (n := 41) hX 1 kc_X0 (ly_B hb) rfl rfl fl_X0_15 dX0_putOnTop_38 rfl ?_
    refine gi_iconst (x := (1 : Int32)) (n := 42) hX rfl dX0_putOnTop_41 rfl ?_
    refine gi_iadd (n := 43) hX dX0_putOnTop_42 rfl ?_
    refine gi_putI (n := 46) hX 1 kc_X0 (ly_B hb) rfl rfl fl_X0_15 rfl rfl dX0_putOnTop_43 rfl h (fun v3 h => ?_)
    exact gi_vret hX rfl dX0_putOnTop_46 h
theorem m_X0_putOnTop (l : Launch) (Ω : gO) (b : Nat) (hb : kB b = true) (x1 : Int32) (v : gV) {v0 : gV} (h : f_X0_putOnTop b x1 v = some v0) : gx_M l Ω LX yX0_putOnTop cX0_putOnTop 2 (none) 1 [.ref (Ω.1 b), .int x1] v none v0 := gx_start (lv := [(0, .ref (Ω.1 b)), (1, .int x1)]) (by decide +kernel) (Nat.le_of_ble_eq_true rfl) rfl (fun Γ _ hR hX => t_X0_putOnTop hX hR b hb x1 v h)
set_option maxRecDepth 20000 in
theorem t_X0_takeOut_B24 {Γ : gC} {Ω : gO} {v0 : gV} {o : (gV × Int32) ⊕ (gV)} (hX : gx_X Γ Ω cX0_takeOut RX0 3 (none)) (hR : Γ.2.2.2.1 = gx_R 0) (b : Nat) (hb : kB b = true) (x2 : Int32) (v : gV) (h : f_X0_takeOut_B24 b x2 v = some o) (hc : ∀ c0 c1, o = .inl (c0, c1) → gx_G Γ Ω LX (gx_Q Γ Ω LX none v0) 3 c0 24 [(0, .ref (Ω.1 b)), (2, .int c1)] []) (hz : ∀ z0, o = .inr z0 → gx_G Γ Ω LX (gx_Q Γ Ω LX none v0) 3 z0 52 [] []) : gx_G Γ Ω LX (gx_Q Γ Ω LX none v0) 3 v 24 [(0, .ref (Ω.1 b)), (2, .int x2)] [] := by
  rw [f_X0_takeOut_B24] at h
  refine gi_iload_n (n := 25) hX 1 dX0_takeOut_24 rfl rfl rfl ?_
  refine gi_aload_n (n := 26) hX 0 dX0_takeOut_25 rfl rfl rfl ?_
  refine gi_getI (n := 29) hX 1 kc_X0 (ly_B hb) rfl rfl fl_X0_15 dX0_takeOut_26 rfl ?_
  refine gi_icmp_ge (tgt := 52) (n := 32) hX dX0_takeOut_29 rfl rfl h (fun h => ?_) (fun h => ?_)
  · refine gi_sub [] rfl ?_
    exact hz _ (Option.some.inj h).symm
  · refine gi_aload_n (n := 33) hX 0 dX0_takeOut_32 rfl rfl rfl ?_
    refine gi_getR (n := 36) hX 0 kc_X0 (ly_B hb) rfl rfl fl_X0_9 dX0_takeOut_33 rfl ?_
    refine gi_iload_n (n := 37) hX 1 dX0_takeOut_36 rfl rfl rfl ?_
    refine gi_aload_n (n := 38) hX 0 dX0_takeOut_37 rfl rfl rfl ?_
    refine gi_getR (n := 41) hX 0 kc_X0 (ly_B hb) rfl rfl fl_X0_9 dX0_takeOut_38 rfl ?_
    refine gi_iload_n (n := 42) hX 1 dX0_takeOut_41 rfl rfl rfl ?_
    refine gi_iconst (x := (1 : Int32)) (n := 43) hX rfl dX0_takeOut_42 rfl ?_
    refine gi_iadd (n := 44) hX dX0_takeOut_43 rfl ?_
    refine gi_iald (n := 45) hX (ly_Bk hb) dX0_takeOut_44 rfl h (fun h => ?_)
    refine gi_iast (n := 46) hX (ly_Bk hb) dX0_takeOut_45 rfl h (fun v1 h => ?_)
    refine gi_iinc (z := (1 : Int32)) (n := 49) hX 1 [(2, .int (x2 + (1 : Int32))), (0, .ref (Ω.1 b))] dX0_takeOut_46 rfl rfl rfl rfl rfl rfl ?_
    refine gi_goto (n := 24) hX dX0_takeOut_49 rfl ?_
    refine gi_sub [1, 0] rfl ?_
    exact hc _ _ (Option.some.inj h).symm
set_option maxRecDepth 20000 in
theorem t_X0_takeOut {Γ : gC} {Ω : gO} {v0 : gV} (hX : gx_X Γ Ω cX0_takeOut RX0 3 (none)) (hR : Γ.2.2.2.1 = gx_R 0) (b : Nat) (hb : kB b = true) (x1 : Int32) (v : gV) (h : f_X0_takeOut b x1 v = some v0) : gx_G Γ Ω LX (gx_Q Γ Ω LX none v0) 3 v 0 [(0, .ref (Ω.1 b)), (1, .int x1)] [] := by
  rw [f_X0_takeOut] at h
  refine gi_iload_n (n := 1) hX 1 dX0_takeOut_0 rfl rfl rfl ?_
  refine gi_if_lt (tgt := 52) (n := 4) hX dX0_takeOut_1 rfl rfl h (fun h => ?_) (fun h => ?_)
  · exact gi_vret hX rfl dX0_takeOut_52 h
  · refine gi_iload_n (n := 5) hX 1 dX0_takeOut_4 rfl rfl rfl ?_
    refine gi_aload_n (n := 6) hX 0 dX0_takeOut_5 rfl rfl rfl ?_
    refine gi_getI (n := 9) hX 1 kc_X0 (ly_B hb) rfl rfl fl_X0_15 dX0_takeOut_6 rfl ?_
    refine gi_icmp_ge (tgt := 52) (n := 12) hX dX0_takeOut_9 rfl rfl h (fun h => ?_) (fun h => ?_)
    · exact gi_vret hX rfl dX0_takeOut_52 h
    · refine gi_aload_n (n := 13) hX 0 dX0_takeOut_12 rfl rfl rfl ?_
      refine gi_dup (n := 14) hX rfl dX0_takeOut_13 rfl ?_
      refine gi_getI (n := 17) hX 1 kc_X0 (ly_B hb) rfl rfl fl_X0_15 dX0_takeOut_14 rfl ?_
      refine gi_iconst (x := (1 : Int32)) (n := 18) hX rfl dX0_takeOut_17 rfl ?_
      refine gi_isub (n := 19) hX dX0_takeOut_18 rfl ?_
      refine gi_putI (n := 22) hX 1 kc_X0 (ly_B hb) rfl rfl fl_X0_15 rfl rfl dX0_takeOut_19 rfl h (fun v1 h => ?_)
      refine gi_iload_n (n := 23) hX 1 dX0_takeOut_22 rfl rfl rfl ?_
      refine gi_istore_n (n := 24) hX [(2, .int x1), (0, .ref (Ω.1 b)), (1, .int x1)] dX0_takeOut_23 rfl rfl rfl rfl ?_
      refine gi_sub [1, 0] rfl ?_
      have key := lp_ind (f := (fun a : gV × Int32 => f_X0_takeOut_B24 b a.2 a.1)) (P := (fun a : gV × Int32 => gx_G Γ Ω LX (gx_Q Γ Ω LX none v0) 3 a.1 24 [(0, .ref (Ω.1 b)), (2, .int a.2)] [])) (Z := (fun z : gV => gx_G Γ Ω LX (gx_Q Γ Ω LX none v0) 3 z 52 [] [])) (fun a o h hc hz => t_X0_takeOut_B24 hX hR b hb a.2 a.1 h (fun c0 c1 e => hc (c0, c1) e) (fun z0 e => hz z0 e)) fu
      obtain ⟨v2, e0, h⟩ := bx1_some h
      refine key (v1, x1) _ e0 ?_
      show gx_G Γ Ω LX (gx_Q Γ Ω LX none v0) 3 v2 52 [] []
      exact gi_vret hX rfl dX0_takeOut_52 h
theorem m_X0_takeOut (l : Launch) (Ω : gO) (b : Nat) (hb : kB b = true) (x1 : Int32) (v : gV) {v0 : gV} (h : f_X0_takeOut b x1 v = some v0) : gx_M l Ω LX yX0_takeOut cX0_takeOut 3 (none) 0 [.ref (Ω.1 b), .int x1] v none v0 := gx_start (lv := [(0, .ref (Ω.1 b)), (1, .int x1)]) (by decide +kernel) (Nat.le_of_ble_eq_true rfl) rfl (fun Γ _ hR hX => t_X0_takeOut hX hR b hb x1 v h)
set_option maxRecDepth 20000 in
theorem t_X6_mayChange {Γ : gC} {Ω : gO} {r0 : Int32} {v0 : gV} (hX : gx_X Γ Ω cX6_mayChange RX6 5 (some .boolean)) (hR : Γ.2.2.2.1 = gx_R 0) (x1 : Int32) (x2 : Int32) (x3 : Int32) (v : gV) (h : f_X6_mayChange x1 x2 x3 v = some (r0, v0)) : gx_G Γ Ω LX (gx_Q Γ Ω LX (some (.int r0)) v0) 5 v 0 [(0, .ref (Ω.1 6)), (1, .int x1), (2, .int x2), (3, .int x3)] [] := by
  rw [f_X6_mayChange] at h
  refine gi_iload_n (n := 1) hX 2 dX6_mayChange_0 rfl rfl rfl ?_
  refine gi_iconst (x := (-1 : Int32)) (n := 2) hX rfl dX6_mayChange_1 rfl ?_
  refine gi_icmp_eq (tgt := 19) (n := 5) hX dX6_mayChange_2 rfl rfl h (fun h => ?_) (fun h => ?_)
  · refine gi_iconst (x := (0 : Int32)) (n := 20) hX rfl dX6_mayChange_19 rfl ?_
    exact gi_zret hX rfl dX6_mayChange_20 h
  · refine gi_iload_n (n := 6) hX 2 dX6_mayChange_5 rfl rfl rfl ?_
    refine gi_if_eq (tgt := 19) (n := 9) hX dX6_mayChange_6 rfl rfl h (fun h => ?_) (fun h => ?_)
    · refine gi_iconst (x := (0 : Int32)) (n := 20) hX rfl dX6_mayChange_19 rfl ?_
      exact gi_zret hX rfl dX6_mayChange_20 h
    · refine gi_iload_n (n := 10) hX 2 dX6_mayChange_9 rfl rfl rfl ?_
      refine gi_aload_n (n := 11) hX 0 dX6_mayChange_10 rfl rfl rfl ?_
      refine gi_getR (n := 14) hX 4 kc_X6 ly_X6 rfl rfl fl_X6_21 dX6_mayChange_11 rfl ?_
      refine gi_iload_n (n := 15) hX 1 dX6_mayChange_14 rfl rfl rfl ?_
      refine gi_iald (n := 16) hX ly_10 dX6_mayChange_15 rfl h (fun h => ?_)
      refine gi_icmp_ne (tgt := 21) (n := 19) hX dX6_mayChange_16 rfl rfl h (fun h => ?_) (fun h => ?_)
      · refine gi_aload_n (n := 22) hX 0 dX6_mayChange_21 rfl rfl rfl ?_
        refine gi_getR (n := 25) hX 8 kc_X6 ly_X6 rfl rfl fl_X6_37 dX6_mayChange_22 rfl ?_
        refine gi_iload_n (n := 26) hX 2 dX6_mayChange_25 rfl rfl rfl ?_
        refine gi_iald (n := 27) hX ly_15 dX6_mayChange_26 rfl h (fun h => ?_)
        refine gi_aload_n (n := 28) hX 0 dX6_mayChange_27 rfl rfl rfl ?_
        refine gi_getR (n := 31) hX 8 kc_X6 ly_X6 rfl rfl fl_X6_37 dX6_mayChange_28 rfl ?_
        refine gi_aload_n (n := 32) hX 0 dX6_mayChange_31 rfl rfl rfl ?_
        refine gi_getR (n := 35) hX 4 kc_X6 ly_X6 rfl rfl fl_X6_21 dX6_mayChange_32 rfl ?_
        refine gi_iload_n (n := 36) hX 1 dX6_mayChange_35 rfl rfl rfl ?_
        refine gi_iald (n := 37) hX ly_10 dX6_mayChange_36 rfl h (fun h => ?_)
        refine gi_iald (n := 38) hX ly_15 dX6_mayChange_37 rfl h (fun h => ?_)
        refine gi_isub (n := 39) hX dX6_mayChange_38 rfl ?_
        refine gi_topI h (fun u1 h => ?_)
        refine gi_istore (n := 41) hX [(4, .int u1), (0, .ref (Ω.1 6)), (1, .int x1), (2, .int x2), (3, .int x3)] dX6_mayChange_39 rfl rfl rfl ?_
        refine gi_iload (n := 43) hX 0 dX6_mayChange_41 rfl rfl ?_
        refine gi_iload_n (n := 44) hX 4 dX6_mayChange_43 rfl rfl rfl ?_
        refine gi_icmp_gt (tgt := 58) (n := 47) hX dX6_mayChange_44 rfl rfl h (fun h => ?_) (fun h => ?_)
        · refine gi_iconst (x := (0 : Int32)) (n := 59) hX rfl dX6_mayChange_58 rfl ?_
          exact gi_zret hX rfl dX6_mayChange_59 h
        · refine gi_iload (n := 49) hX 0 dX6_mayChange_47 rfl rfl ?_
          refine gi_ineg (n := 50) hX dX6_mayChange_49 rfl ?_
          refine gi_iload_n (n := 51) hX 4 dX6_mayChange_50 rfl rfl rfl ?_
          refine gi_icmp_gt (tgt := 58) (n := 54) hX dX6_mayChange_51 rfl rfl h (fun h => ?_) (fun h => ?_)
          · refine gi_iconst (x := (0 : Int32)) (n := 59) hX rfl dX6_mayChange_58 rfl ?_
            exact gi_zret hX rfl dX6_mayChange_59 h
          · refine gi_iconst (x := (1 : Int32)) (n := 55) hX rfl dX6_mayChange_54 rfl ?_
            refine gi_goto (n := 59) hX dX6_mayChange_55 rfl ?_
            exact gi_zret hX rfl dX6_mayChange_59 h
      · refine gi_iconst (x := (0 : Int32)) (n := 20) hX rfl dX6_mayChange_19 rfl ?_
        exact gi_zret hX rfl dX6_mayChange_20 h
theorem m_X6_mayChange (l : Launch) (Ω : gO) (x1 : Int32) (x2 : Int32) (x3 : Int32) (v : gV) {r0 : Int32} {v0 : gV} (h : f_X6_mayChange x1 x2 x3 v = some (r0, v0)) : gx_M l Ω LX yX6_mayChange cX6_mayChange 5 (some .boolean) 0 [.ref (Ω.1 6), .int x1, .int x2, .int x3] v (some (.int r0)) v0 := gx_start (lv := [(0, .ref (Ω.1 6)), (1, .int x1), (2, .int x2), (3, .int x3)]) (by decide +kernel) (Nat.le_of_ble_eq_true rfl) rfl (fun Γ _ hR hX => t_X6_mayChange hX hR x1 x2 x3 v h)
set_option maxRecDepth 20000 in
theorem t_X2_giveUp {Γ : gC} {Ω : gO} {v0 : gV} (hX : gx_X Γ Ω cX2_giveUp RX2 1 (none)) (hR : Γ.2.2.2.1 = gx_R 0) (b : Nat) (hb : kS b = true) (v : gV) (h : f_X2_giveUp b v = some v0) : gx_G Γ Ω LX (gx_Q Γ Ω LX none v0) 1 v 0 [(0, .ref (Ω.1 b))] [] := by
  rw [f_X2_giveUp] at h
  refine gi_aload_n (n := 1) hX 0 dX2_giveUp_0 rfl rfl rfl ?_
  refine gi_iconst (x := (-1 : Int32)) (n := 2) hX rfl dX2_giveUp_1 rfl ?_
  refine gi_putI (n := 5) hX 0 kc_X2 (ly_S hb) rfl rfl fl_X2_9 rfl rfl dX2_giveUp_2 rfl h (fun v1 h => ?_)
  refine gi_aload_n (n := 6) hX 0 dX2_giveUp_5 rfl rfl rfl ?_
  refine gi_iconst (x := (0 : Int32)) (n := 7) hX rfl dX2_giveUp_6 rfl ?_
  refine gi_putI (n := 10) hX 1 kc_X2 (ly_S hb) rfl rfl fl_X2_19 rfl rfl dX2_giveUp_7 rfl h (fun v2 h => ?_)
  exact gi_vret hX rfl dX2_giveUp_10 h
theorem m_X2_giveUp (l : Launch) (Ω : gO) (b : Nat) (hb : kS b = true) (v : gV) {v0 : gV} (h : f_X2_giveUp b v = some v0) : gx_M l Ω LX yX2_giveUp cX2_giveUp 1 (none) 0 [.ref (Ω.1 b)] v none v0 := gx_start (lv := [(0, .ref (Ω.1 b))]) (by decide +kernel) (Nat.le_of_ble_eq_true rfl) rfl (fun Γ _ hR hX => t_X2_giveUp hX hR b hb v h)
set_option maxRecDepth 20000 in
theorem t_X2_hasItems {Γ : gC} {Ω : gO} {r0 : Int32} {v0 : gV} (hX : gx_X Γ Ω cX2_hasItems RX2 3 (some .boolean)) (hR : Γ.2.2.2.1 = gx_R 0) (b : Nat) (hb : kS b = true) (x1 : Int32) (x2 : Int32) (v : gV) (h : f_X2_hasItems b x1 x2 v = some (r0, v0)) : gx_G Γ Ω LX (gx_Q Γ Ω LX (some (.int r0)) v0) 3 v 0 [(0, .ref (Ω.1 b)), (1, .int x1), (2, .int x2)] [] := by
  rw [f_X2_hasItems] at h
  refine gi_iload_n (n := 1) hX 1 dX2_hasItems_0 rfl rfl rfl ?_
  refine gi_if_lt (tgt := 30) (n := 4) hX dX2_hasItems_1 rfl rfl h (fun h => ?_) (fun h => ?_)
  · refine gi_iconst (x := (0 : Int32)) (n := 31) hX rfl dX2_hasItems_30 rfl ?_
    exact gi_zret hX rfl dX2_hasItems_31 h
  · refine gi_iload_n (n := 5) hX 2 dX2_hasItems_4 rfl rfl rfl ?_
    refine gi_if_lt (tgt := 30) (n := 8) hX dX2_hasItems_5 rfl rfl h (fun h => ?_) (fun h => ?_)
    · refine gi_iconst (x := (0 : Int32)) (n := 31) hX rfl dX2_hasItems_30 rfl ?_
      exact gi_zret hX rfl dX2_hasItems_31 h
    · refine gi_iload_n (n := 9) hX 1 dX2_hasItems_8 rfl rfl rfl ?_
      refine gi_aload_n (n := 10) hX 0 dX2_hasItems_9 rfl rfl rfl ?_
      refine gi_getI (n := 13) hX 1 kc_X2 (ly_S hb) rfl rfl fl_X2_19 dX2_hasItems_10 rfl ?_
      refine gi_icmp_gt (tgt := 30) (n := 16) hX dX2_hasItems_13 rfl rfl h (fun h => ?_) (fun h => ?_)
      · refine gi_iconst (x := (0 : Int32)) (n := 31) hX rfl dX2_hasItems_30 rfl ?_
        exact gi_zret hX rfl dX2_hasItems_31 h
      · refine gi_iload_n (n := 17) hX 2 dX2_hasItems_16 rfl rfl rfl ?_
        refine gi_aload_n (n := 18) hX 0 dX2_hasItems_17 rfl rfl rfl ?_
        refine gi_getI (n := 21) hX 1 kc_X2 (ly_S hb) rfl rfl fl_X2_19 dX2_hasItems_18 rfl ?_
        refine gi_iload_n (n := 22) hX 1 dX2_hasItems_21 rfl rfl rfl ?_
        refine gi_isub (n := 23) hX dX2_hasItems_22 rfl ?_
        refine gi_icmp_gt (tgt := 30) (n := 26) hX dX2_hasItems_23 rfl rfl h (fun h => ?_) (fun h => ?_)
        · refine gi_iconst (x := (0 : Int32)) (n := 31) hX rfl dX2_hasItems_30 rfl ?_
          exact gi_zret hX rfl dX2_hasItems_31 h
        · refine gi_iconst (x := (1 : Int32)) (n := 27) hX rfl dX2_hasItems_26 rfl ?_
          refine gi_goto (n := 31) hX dX2_hasItems_27 rfl ?_
          exact gi_zret hX rfl dX2_hasItems_31 h
theorem m_X2_hasItems (l : Launch) (Ω : gO) (b : Nat) (hb : kS b = true) (x1 : Int32) (x2 : Int32) (v : gV) {r0 : Int32} {v0 : gV} (h : f_X2_hasItems b x1 x2 v = some (r0, v0)) : gx_M l Ω LX yX2_hasItems cX2_hasItems 3 (some .boolean) 0 [.ref (Ω.1 b), .int x1, .int x2] v (some (.int r0)) v0 := gx_start (lv := [(0, .ref (Ω.1 b)), (1, .int x1), (2, .int x2)]) (by decide +kernel) (Nat.le_of_ble_eq_true rfl) rfl (fun Γ _ hR hX => t_X2_hasItems hX hR b hb x1 x2 v h)
set_option maxRecDepth 20000 in
theorem t_X2_isLost {Γ : gC} {Ω : gO} {r0 : Int32} {v0 : gV} (hX : gx_X Γ Ω cX2_isLost RX2 1 (some .boolean)) (hR : Γ.2.2.2.1 = gx_R 0) (b : Nat) (hb : kS b = true) (v : gV) (h : f_X2_isLost b v = some (r0, v0)) : gx_G Γ Ω LX (gx_Q Γ Ω LX (some (.int r0)) v0) 1 v 0 [(0, .ref (Ω.1 b))] [] := by
  rw [f_X2_isLost] at h
  refine gi_aload_n (n := 1) hX 0 dX2_isLost_0 rfl rfl rfl ?_
  refine gi_getI (n := 4) hX 0 kc_X2 (ly_S hb) rfl rfl fl_X2_9 dX2_isLost_1 rfl ?_
  refine gi_iconst (x := (-1 : Int32)) (n := 5) hX rfl dX2_isLost_4 rfl ?_
  refine gi_icmp_ne (tgt := 12) (n := 8) hX dX2_isLost_5 rfl rfl h (fun h => ?_) (fun h => ?_)
  · refine gi_iconst (x := (0 : Int32)) (n := 13) hX rfl dX2_isLost_12 rfl ?_
    exact gi_zret hX rfl dX2_isLost_13 h
  · refine gi_iconst (x := (1 : Int32)) (n := 9) hX rfl dX2_isLost_8 rfl ?_
    refine gi_goto (n := 13) hX dX2_isLost_9 rfl ?_
    exact gi_zret hX rfl dX2_isLost_13 h
theorem m_X2_isLost (l : Launch) (Ω : gO) (b : Nat) (hb : kS b = true) (v : gV) {r0 : Int32} {v0 : gV} (h : f_X2_isLost b v = some (r0, v0)) : gx_M l Ω LX yX2_isLost cX2_isLost 1 (some .boolean) 0 [.ref (Ω.1 b)] v (some (.int r0)) v0 := gx_start (lv := [(0, .ref (Ω.1 b))]) (by decide +kernel) (Nat.le_of_ble_eq_true rfl) rfl (fun Γ _ hR hX => t_X2_isLost hX hR b hb v h)
set_option maxRecDepth 20000 in
theorem t_X2_put_J43 {Γ : gC} {Ω : gO} {v0 : gV} (hX : gx_X Γ Ω cX2_put RX2 3 (none)) (hR : Γ.2.2.2.1 = gx_R 0) (b : Nat) (hb : kS b = true) (s0 : Int32) (s1 : Int32) (w2 : Nat) (hw2 : LX[w2]? = some (gk_i 60)) (v : gV) (h : f_X2_put_J43 b s0 s1 w2 v = some v0) : gx_G Γ Ω LX (gx_Q Γ Ω LX none v0) 3 v 43 [] [.int s0, .int s1, .ref (Ω.1 w2)] := by
  rw [f_X2_put_J43] at h
  refine gi_iast (n := 44) hX hw2 dX2_put_43 rfl h (fun v1 h => ?_)
  exact gi_vret hX rfl dX2_put_44 h
set_option maxRecDepth 20000 in
theorem t_X2_put {Γ : gC} {Ω : gO} {v0 : gV} (hX : gx_X Γ Ω cX2_put RX2 3 (none)) (hR : Γ.2.2.2.1 = gx_R 0) (b : Nat) (hb : kS b = true) (x1 : Int32) (x2 : Int32) (v : gV) (h : f_X2_put b x1 x2 v = some v0) : gx_G Γ Ω LX (gx_Q Γ Ω LX none v0) 3 v 0 [(0, .ref (Ω.1 b)), (1, .int x1), (2, .int x2)] [] := by
  rw [f_X2_put] at h
  refine gi_iload_n (n := 1) hX 1 dX2_put_0 rfl rfl rfl ?_
  refine gi_if_lt (tgt := 44) (n := 4) hX dX2_put_1 rfl rfl h (fun h => ?_) (fun h => ?_)
  · exact gi_vret hX rfl dX2_put_44 h
  · refine gi_iload_n (n := 5) hX 1 dX2_put_4 rfl rfl rfl ?_
    refine gi_aload_n (n := 6) hX 0 dX2_put_5 rfl rfl rfl ?_
    refine gi_getI (n := 9) hX 1 kc_X2 (ly_S hb) rfl rfl fl_X2_19 dX2_put_6 rfl ?_
    refine gi_icmp_ge (tgt := 44) (n := 12) hX dX2_put_9 rfl rfl h (fun h => ?_) (fun h => ?_)
    · exact gi_vret hX rfl dX2_put_44 h
    · refine gi_aload_n (n := 13) hX 0 dX2_put_12 rfl rfl rfl ?_
      refine gi_getR (n := 16) hX 2 kc_X2 (ly_S hb) rfl rfl fl_X2_15 dX2_put_13 rfl ?_
      refine gi_iload_n (n := 17) hX 1 dX2_put_16 rfl rfl rfl ?_
      refine gi_aload_n (n := 18) hX 0 dX2_put_17 rfl rfl rfl ?_
      refine gi_getI (n := 21) hX 0 kc_X2 (ly_S hb) rfl rfl fl_X2_9 dX2_put_18 rfl ?_
      refine gi_if_ne (tgt := 29) (n := 24) hX dX2_put_21 rfl rfl h (fun h => ?_) (fun h => ?_)
      · refine gi_aload_n (n := 30) hX 0 dX2_put_29 rfl rfl rfl ?_
        refine gi_getI (n := 33) hX 0 kc_X2 (ly_S hb) rfl rfl fl_X2_9 dX2_put_30 rfl ?_
        refine gi_iconst (x := (1 : Int32)) (n := 34) hX rfl dX2_put_33 rfl ?_
        refine gi_icmp_ne (tgt := 42) (n := 37) hX dX2_put_34 rfl rfl h (fun h => ?_) (fun h => ?_)
        · refine gi_iload_n (n := 43) hX 2 dX2_put_42 rfl rfl rfl ?_
          refine gi_sub [] rfl ?_
          exact t_X2_put_J43 hX hR b hb x2 x1 (b + 1) (ly_Sk hb) v h
        · refine gi_iload_n (n := 38) hX 2 dX2_put_37 rfl rfl rfl ?_
          refine gi_i2s (n := 39) hX dX2_put_38 rfl ?_
          refine gi_goto (n := 43) hX dX2_put_39 rfl ?_
          refine gi_sub [] rfl ?_
          exact t_X2_put_J43 hX hR b hb ((x2).toInt16.toInt32) x1 (b + 1) (ly_Sk hb) v h
      · refine gi_iload_n (n := 25) hX 2 dX2_put_24 rfl rfl rfl ?_
        refine gi_i2b (n := 26) hX dX2_put_25 rfl ?_
        refine gi_goto (n := 43) hX dX2_put_26 rfl ?_
        refine gi_sub [] rfl ?_
        exact t_X2_put_J43 hX hR b hb ((x2).toInt8.toInt32) x1 (b + 1) (ly_Sk hb) v h
theorem m_X2_put (l : Launch) (Ω : gO) (b : Nat) (hb : kS b = true) (x1 : Int32) (x2 : Int32) (v : gV) {v0 : gV} (h : f_X2_put b x1 x2 v = some v0) : gx_M l Ω LX yX2_put cX2_put 3 (none) 0 [.ref (Ω.1 b), .int x1, .int x2] v none v0 := gx_start (lv := [(0, .ref (Ω.1 b)), (1, .int x1), (2, .int x2)]) (by decide +kernel) (Nat.le_of_ble_eq_true rfl) rfl (fun Γ _ hR hX => t_X2_put hX hR b hb x1 x2 v h)
set_option maxRecDepth 20000 in
theorem t_X2_startAnew {Γ : gC} {Ω : gO} {v0 : gV} (hX : gx_X Γ Ω cX2_startAnew RX2 3 (none)) (hR : Γ.2.2.2.1 = gx_R 1) (b : Nat) (hb : kS b = true) (x1 : Int32) (x2 : Int32) (v : gV) (h : f_X2_startAnew b x1 x2 v = some v0) : gx_G Γ Ω LX (gx_Q Γ Ω LX none v0) 3 v 0 [(0, .ref (Ω.1 b)), (1, .int x1), (2, .int x2)] [] := by
  rw [f_X2_startAnew] at h
  refine gi_aload_n (n := 1) hX 0 dX2_startAnew_0 rfl rfl rfl ?_
  refine gi_iload_n (n := 2) hX 1 dX2_startAnew_1 rfl rfl rfl ?_
  refine gi_putI (n := 5) hX 0 kc_X2 (ly_S hb) rfl rfl fl_X2_9 rfl rfl dX2_startAnew_2 rfl h (fun v1 h => ?_)
  refine gi_aload_n (n := 6) hX 0 dX2_startAnew_5 rfl rfl rfl ?_
  refine gi_iload_n (n := 7) hX 2 dX2_startAnew_6 rfl rfl rfl ?_
  refine gi_putI (n := 10) hX 1 kc_X2 (ly_S hb) rfl rfl fl_X2_19 rfl rfl dX2_startAnew_7 rfl h (fun v2 h => ?_)
  refine gi_aload_n (n := 11) hX 0 dX2_startAnew_10 rfl rfl rfl ?_
  refine gi_getR (n := 14) hX 2 kc_X2 (ly_S hb) rfl rfl fl_X2_15 dX2_startAnew_11 rfl ?_
  refine gi_iconst (x := (0 : Int32)) (n := 15) hX rfl dX2_startAnew_14 rfl ?_
  obtain ⟨v3, e4, h⟩ := bv_some h
  refine gi_statV (st := []) (n := 18) hX hR ms_J7_fill_53178 ml_X2_22 (m_J7_fill_53178 Γ.2.1 Ω LX 60 (b + 1) (ly_Sk hb) (0 : Int32) v2 e4) rfl ⟨rfl, rfl⟩ rfl dX2_startAnew_15 rfl rfl ?_
  exact gi_vret hX rfl dX2_startAnew_18 h
theorem m_X2_startAnew (l : Launch) (Ω : gO) (b : Nat) (hb : kS b = true) (x1 : Int32) (x2 : Int32) (v : gV) {v0 : gV} (h : f_X2_startAnew b x1 x2 v = some v0) : gx_M l Ω LX yX2_startAnew cX2_startAnew 3 (none) 1 [.ref (Ω.1 b), .int x1, .int x2] v none v0 := gx_start (lv := [(0, .ref (Ω.1 b)), (1, .int x1), (2, .int x2)]) (by decide +kernel) (Nat.le_of_ble_eq_true rfl) rfl (fun Γ _ hR hX => t_X2_startAnew hX hR b hb x1 x2 v h)
set_option maxRecDepth 20000 in
theorem t_X3_isFull {Γ : gC} {Ω : gO} {r0 : Int32} {v0 : gV} (hX : gx_X Γ Ω cX3_isFull RX3 1 (some .boolean)) (hR : Γ.2.2.2.1 = gx_R 0)  (v : gV) (h : f_X3_isFull  v = some (r0, v0)) : gx_G Γ Ω LX (gx_Q Γ Ω LX (some (.int r0)) v0) 1 v 0 [(0, .ref (Ω.1 95))] [] := by
  rw [f_X3_isFull] at h
  refine gi_aload_n (n := 1) hX 0 dX3_isFull_0 rfl rfl rfl ?_
  refine gi_getI (n := 4) hX 3 kc_X3 ly_X3 rfl rfl fl_X3_25 dX3_isFull_1 rfl ?_
  refine gi_bipush (x := (8 : Int32)) (n := 6) hX rfl dX3_isFull_4 rfl ?_
  refine gi_icmp_lt (tgt := 13) (n := 9) hX dX3_isFull_6 rfl rfl h (fun h => ?_) (fun h => ?_)
  · refine gi_iconst (x := (0 : Int32)) (n := 14) hX rfl dX3_isFull_13 rfl ?_
    exact gi_zret hX rfl dX3_isFull_14 h
  · refine gi_iconst (x := (1 : Int32)) (n := 10) hX rfl dX3_isFull_9 rfl ?_
    refine gi_goto (n := 14) hX dX3_isFull_10 rfl ?_
    exact gi_zret hX rfl dX3_isFull_14 h
theorem m_X3_isFull (l : Launch) (Ω : gO) (v : gV) {r0 : Int32} {v0 : gV} (h : f_X3_isFull v = some (r0, v0)) : gx_M l Ω LX yX3_isFull cX3_isFull 1 (some .boolean) 0 [.ref (Ω.1 95)] v (some (.int r0)) v0 := gx_start (lv := [(0, .ref (Ω.1 95))]) (by decide +kernel) (Nat.le_of_ble_eq_true rfl) rfl (fun Γ _ hR hX => t_X3_isFull hX hR v h)
set_option maxRecDepth 20000 in
theorem t_X3_append {Γ : gC} {Ω : gO} {v0 : gV} (hX : gx_X Γ Ω cX3_append RX3 4 (none)) (hR : Γ.2.2.2.1 = gx_R 1) (x1 : Int32) (x2 : Int32) (x3 : Int32) (v : gV) (h : f_X3_append x1 x2 x3 v = some v0) : gx_G Γ Ω LX (gx_Q Γ Ω LX none v0) 4 v 0 [(0, .ref (Ω.1 95)), (1, .int x1), (2, .int x2), (3, .int x3)] [] := by
  rw [f_X3_append] at h
  refine gi_aload_n (n := 1) hX 0 dX3_append_0 rfl rfl rfl ?_
  obtain ⟨r3, v1, e2, h⟩ := bi_some h
  refine gi_virtI (st := []) (n := 4) hX hR kc_X3 ly_X3 mv_X3_isFull ml_X3_29 (m_X3_isFull Γ.2.1 Ω v e2) rfl ⟨rfl, rfl⟩ rfl dX3_append_1 rfl rfl ?_
  refine gi_if_ne (tgt := 47) (n := 7) hX dX3_append_4 rfl rfl h (fun h => ?_) (fun h => ?_)
  · exact gi_vret hX rfl dX3_append_47 h
  · refine gi_aload_n (n := 8) hX 0 dX3_append_7 rfl rfl rfl ?_
    refine gi_getR (n := 11) hX 0 kc_X3 ly_X3 rfl rfl fl_X3_9 dX3_append_8 rfl ?_
    refine gi_aload_n (n := 12) hX 0 dX3_append_11 rfl rfl rfl ?_
    refine gi_getI (n := 15) hX 3 kc_X3 ly_X3 rfl rfl fl_X3_25 dX3_append_12 rfl ?_
    refine gi_iload_n (n := 16) hX 1 dX3_append_15 rfl rfl rfl ?_
    refine gi_iast (n := 17) hX ly_96 dX3_append_16 rfl h (fun v4 h => ?_)
    refine gi_aload_n (n := 18) hX 0 dX3_append_17 rfl rfl rfl ?_
    refine gi_getR (n := 21) hX 1 kc_X3 ly_X3 rfl rfl fl_X3_15 dX3_append_18 rfl ?_
    refine gi_aload_n (n := 22) hX 0 dX3_append_21 rfl rfl rfl ?_
    refine gi_getI (n := 25) hX 3 kc_X3 ly_X3 rfl rfl fl_X3_25 dX3_append_22 rfl ?_
    refine gi_iload_n (n := 26) hX 2 dX3_append_25 rfl rfl rfl ?_
    refine gi_iast (n := 27) hX ly_97 dX3_append_26 rfl h (fun v5 h => ?_)
    refine gi_aload_n (n := 28) hX 0 dX3_append_27 rfl rfl rfl ?_
    refine gi_getR (n := 31) hX 2 kc_X3 ly_X3 rfl rfl fl_X3_18 dX3_append_28 rfl ?_
    refine gi_aload_n (n := 32) hX 0 dX3_append_31 rfl rfl rfl ?_
    refine gi_getI (n := 35) hX 3 kc_X3 ly_X3 rfl rfl fl_X3_25 dX3_append_32 rfl ?_
    refine gi_iload_n (n := 36) hX 3 dX3_append_35 rfl rfl rfl ?_
    refine gi_iast (n := 37) hX ly_98 dX3_append_36 rfl h (fun v6 h => ?_)
    refine gi_aload_n (n := 38) hX 0 dX3_append_37 rfl rfl rfl ?_
    refine gi_dup (n := 39) hX rfl dX3_append_38 rfl ?_
    refine gi_getI (n := 42) hX 3 kc_X3 ly_X3 rfl rfl fl_X3_25 dX3_append_39 rfl ?_
    refine gi_iconst (x := (1 : Int32)) (n := 43) hX rfl dX3_append_42 rfl ?_
    refine gi_iadd (n := 44) hX dX3_append_43 rfl ?_
    refine gi_putI (n := 47) hX 3 kc_X3 ly_X3 rfl rfl fl_X3_25 rfl rfl dX3_append_44 rfl h (fun v7 h => ?_)
    exact gi_vret hX rfl dX3_append_47 h
theorem m_X3_append (l : Launch) (Ω : gO) (x1 : Int32) (x2 : Int32) (x3 : Int32) (v : gV) {v0 : gV} (h : f_X3_append x1 x2 x3 v = some v0) : gx_M l Ω LX yX3_append cX3_append 4 (none) 1 [.ref (Ω.1 95), .int x1, .int x2, .int x3] v none v0 := gx_start (lv := [(0, .ref (Ω.1 95)), (1, .int x1), (2, .int x2), (3, .int x3)]) (by decide +kernel) (Nat.le_of_ble_eq_true rfl) rfl (fun Γ _ hR hX => t_X3_append hX hR x1 x2 x3 v h)
set_option maxRecDepth 20000 in
theorem t_X7_isOutside {Γ : gC} {Ω : gO} {r0 : Int32} {v0 : gV} (hX : gx_X Γ Ω cX7_isOutside RX7 2 (some .boolean)) (hR : Γ.2.2.2.1 = gx_R 0) (x0 : Int32) (x1 : Int32) (v : gV) (h : f_X7_isOutside x0 x1 v = some (r0, v0)) : gx_G Γ Ω LX (gx_Q Γ Ω LX (some (.int r0)) v0) 2 v 0 [(0, .int x0), (1, .int x1)] [] := by
  rw [f_X7_isOutside] at h
  refine gi_iload_n (n := 1) hX 0 dX7_isOutside_0 rfl rfl rfl ?_
  refine gi_if_lt (tgt := 9) (n := 4) hX dX7_isOutside_1 rfl rfl h (fun h => ?_) (fun h => ?_)
  · refine gi_iconst (x := (1 : Int32)) (n := 10) hX rfl dX7_isOutside_9 rfl ?_
    refine gi_goto (n := 14) hX dX7_isOutside_10 rfl ?_
    exact gi_zret hX rfl dX7_isOutside_14 h
  · refine gi_iload_n (n := 5) hX 0 dX7_isOutside_4 rfl rfl rfl ?_
    refine gi_iload_n (n := 6) hX 1 dX7_isOutside_5 rfl rfl rfl ?_
    refine gi_icmp_lt (tgt := 13) (n := 9) hX dX7_isOutside_6 rfl rfl h (fun h => ?_) (fun h => ?_)
    · refine gi_iconst (x := (0 : Int32)) (n := 14) hX rfl dX7_isOutside_13 rfl ?_
      exact gi_zret hX rfl dX7_isOutside_14 h
    · refine gi_iconst (x := (1 : Int32)) (n := 10) hX rfl dX7_isOutside_9 rfl ?_
      refine gi_goto (n := 14) hX dX7_isOutside_10 rfl ?_
      exact gi_zret hX rfl dX7_isOutside_14 h
theorem m_X7_isOutside (l : Launch) (Ω : gO) (x0 : Int32) (x1 : Int32) (v : gV) {r0 : Int32} {v0 : gV} (h : f_X7_isOutside x0 x1 v = some (r0, v0)) : gx_M l Ω LX yX7_isOutside cX7_isOutside 2 (some .boolean) 0 [.int x0, .int x1] v (some (.int r0)) v0 := gx_start (lv := [(0, .int x0), (1, .int x1)]) (by decide +kernel) (Nat.le_of_ble_eq_true rfl) rfl (fun Γ _ hR hX => t_X7_isOutside hX hR x0 x1 v h)
set_option maxRecDepth 20000 in
theorem t_X3_mayBe {Γ : gC} {Ω : gO} {r0 : Int32} {v0 : gV} (hX : gx_X Γ Ω cX3_mayBe RX3 3 (some .boolean)) (hR : Γ.2.2.2.1 = gx_R 1) (x0 : Int32) (x1 : Int32) (x2 : Int32) (v : gV) (h : f_X3_mayBe x0 x1 x2 v = some (r0, v0)) : gx_G Γ Ω LX (gx_Q Γ Ω LX (some (.int r0)) v0) 3 v 0 [(0, .int x0), (1, .int x1), (2, .int x2)] [] := by
  rw [f_X3_mayBe] at h
  refine gi_iload_n (n := 1) hX 0 dX3_mayBe_0 rfl rfl rfl ?_
  refine gi_bipush (x := (10 : Int32)) (n := 3) hX rfl dX3_mayBe_1 rfl ?_
  obtain ⟨r3, v1, e2, h⟩ := bi_some h
  refine gi_statNI (st := []) (n := 6) hX hR ms_X7_isOutside hX.2.2.2.2.2.1.2 (m_X7_isOutside Γ.2.1 Ω x0 (10 : Int32) v e2) rfl ⟨rfl, rfl⟩ rfl dX3_mayBe_3 rfl rfl ?_
  refine gi_if_ne (tgt := 31) (n := 9) hX dX3_mayBe_6 rfl rfl h (fun h => ?_) (fun h => ?_)
  · refine gi_iconst (x := (0 : Int32)) (n := 32) hX rfl dX3_mayBe_31 rfl ?_
    exact gi_zret hX rfl dX3_mayBe_32 h
  · refine gi_iload_n (n := 10) hX 1 dX3_mayBe_9 rfl rfl rfl ?_
    refine gi_bipush (x := (8 : Int32)) (n := 12) hX rfl dX3_mayBe_10 rfl ?_
    obtain ⟨r6, v4, e5, h⟩ := bi_some h
    refine gi_statNI (st := []) (n := 15) hX hR ms_X7_isOutside hX.2.2.2.2.2.1.2 (m_X7_isOutside Γ.2.1 Ω x1 (8 : Int32) v1 e5) rfl ⟨rfl, rfl⟩ rfl dX3_mayBe_12 rfl rfl ?_
    refine gi_if_ne (tgt := 31) (n := 18) hX dX3_mayBe_15 rfl rfl h (fun h => ?_) (fun h => ?_)
    · refine gi_iconst (x := (0 : Int32)) (n := 32) hX rfl dX3_mayBe_31 rfl ?_
      exact gi_zret hX rfl dX3_mayBe_32 h
    · refine gi_iload_n (n := 19) hX 2 dX3_mayBe_18 rfl rfl rfl ?_
      refine gi_bipush (x := (9 : Int32)) (n := 21) hX rfl dX3_mayBe_19 rfl ?_
      obtain ⟨r9, v7, e8, h⟩ := bi_some h
      refine gi_statNI (st := []) (n := 24) hX hR ms_X7_isOutside hX.2.2.2.2.2.1.2 (m_X7_isOutside Γ.2.1 Ω x2 (9 : Int32) v4 e8) rfl ⟨rfl, rfl⟩ rfl dX3_mayBe_21 rfl rfl ?_
      refine gi_if_ne (tgt := 31) (n := 27) hX dX3_mayBe_24 rfl rfl h (fun h => ?_) (fun h => ?_)
      · refine gi_iconst (x := (0 : Int32)) (n := 32) hX rfl dX3_mayBe_31 rfl ?_
        exact gi_zret hX rfl dX3_mayBe_32 h
      · refine gi_iconst (x := (1 : Int32)) (n := 28) hX rfl dX3_mayBe_27 rfl ?_
        refine gi_goto (n := 32) hX dX3_mayBe_28 rfl ?_
        exact gi_zret hX rfl dX3_mayBe_32 h
theorem m_X3_mayBe (l : Launch) (Ω : gO) (x0 : Int32) (x1 : Int32) (x2 : Int32) (v : gV) {r0 : Int32} {v0 : gV} (h : f_X3_mayBe x0 x1 x2 v = some (r0, v0)) : gx_M l Ω LX yX3_mayBe cX3_mayBe 3 (some .boolean) 1 [.int x0, .int x1, .int x2] v (some (.int r0)) v0 := gx_start (lv := [(0, .int x0), (1, .int x1), (2, .int x2)]) (by decide +kernel) (Nat.le_of_ble_eq_true rfl) rfl (fun Γ _ hR hX => t_X3_mayBe hX hR x0 x1 x2 v h)
set_option maxRecDepth 20000 in
theorem t_X5_isFull {Γ : gC} {Ω : gO} {r0 : Int32} {v0 : gV} (hX : gx_X Γ Ω cX5_isFull RX5 1 (some .boolean)) (hR : Γ.2.2.2.1 = gx_R 0) (b : Nat) (hb : kT b = true) (v : gV) (h : f_X5_isFull b v = some (r0, v0)) : gx_G Γ Ω LX (gx_Q Γ Ω LX (some (.int r0)) v0) 1 v 0 [(0, .ref (Ω.1 b))] [] := by
  rw [f_X5_isFull] at h
  refine gi_aload_n (n := 1) hX 0 dX5_isFull_0 rfl rfl rfl ?_
  refine gi_getI (n := 4) hX 1 kc_X5 (ly_T hb) rfl rfl fl_X5_21 dX5_isFull_1 rfl ?_
  refine gi_aload_n (n := 5) hX 0 dX5_isFull_4 rfl rfl rfl ?_
  refine gi_getR (n := 8) hX 0 kc_X5 (ly_T hb) rfl rfl fl_X5_15 dX5_isFull_5 rfl ?_
  refine gi_ilen (n := 9) hX (ly_Tk hb) dX5_isFull_8 rfl ?_
  refine gi_icmp_lt (tgt := 16) (n := 12) hX dX5_isFull_9 rfl rfl h (fun h => ?_) (fun h => ?_)
  · refine gi_iconst (x := (0 : Int32)) (n := 17) hX rfl dX5_isFull_16 rfl ?_
    exact gi_zret hX rfl dX5_isFull_17 h
  · refine gi_iconst (x := (1 : Int32)) (n := 13) hX rfl dX5_isFull_12 rfl ?_
    refine gi_goto (n := 17) hX dX5_isFull_13 rfl ?_
    exact gi_zret hX rfl dX5_isFull_17 h
theorem m_X5_isFull (l : Launch) (Ω : gO) (b : Nat) (hb : kT b = true) (v : gV) {r0 : Int32} {v0 : gV} (h : f_X5_isFull b v = some (r0, v0)) : gx_M l Ω LX yX5_isFull cX5_isFull 1 (some .boolean) 0 [.ref (Ω.1 b)] v (some (.int r0)) v0 := gx_start (lv := [(0, .ref (Ω.1 b))]) (by decide +kernel) (Nat.le_of_ble_eq_true rfl) rfl (fun Γ _ hR hX => t_X5_isFull hX hR b hb v h)
set_option maxRecDepth 20000 in
theorem t_X5_append {Γ : gC} {Ω : gO} {v0 : gV} (hX : gx_X Γ Ω cX5_append RX5 2 (none)) (hR : Γ.2.2.2.1 = gx_R 1) (b : Nat) (hb : kT b = true) (x1 : Int32) (v : gV) (h : f_X5_append b x1 v = some v0) : gx_G Γ Ω LX (gx_Q Γ Ω LX none v0) 2 v 0 [(0, .ref (Ω.1 b)), (1, .int x1)] [] := by
  rw [f_X5_append] at h
  refine gi_aload_n (n := 1) hX 0 dX5_append_0 rfl rfl rfl ?_
  obtain ⟨r3, v1, e2, h⟩ := bi_some h
  refine gi_virtI (st := []) (n := 4) hX hR kc_X5 (ly_T hb) mv_X5_isFull ml_X5_25 (m_X5_isFull Γ.2.1 Ω b hb v e2) rfl ⟨rfl, rfl⟩ rfl dX5_append_1 rfl rfl ?_
  refine gi_if_ne (tgt := 27) (n := 7) hX dX5_append_4 rfl rfl h (fun h => ?_) (fun h => ?_)
  · exact gi_vret hX rfl dX5_append_27 h
  · refine gi_aload_n (n := 8) hX 0 dX5_append_7 rfl rfl rfl ?_
    refine gi_getR (n := 11) hX 0 kc_X5 (ly_T hb) rfl rfl fl_X5_15 dX5_append_8 rfl ?_
    refine gi_aload_n (n := 12) hX 0 dX5_append_11 rfl rfl rfl ?_
    refine gi_getI (n := 15) hX 1 kc_X5 (ly_T hb) rfl rfl fl_X5_21 dX5_append_12 rfl ?_
    refine gi_iload_n (n := 16) hX 1 dX5_append_15 rfl rfl rfl ?_
    refine gi_iast (n := 17) hX (ly_Tk hb) dX5_append_16 rfl h (fun v4 h => ?_)
    refine gi_aload_n (n := 18) hX 0 dX5_append_17 rfl rfl rfl ?_
    refine gi_dup (n := 19) hX rfl dX5_append_18 rfl ?_
    refine gi_getI (n := 22) hX 1 kc_X5 (ly_T hb) rfl rfl fl_X5_21 dX5_append_19 rfl ?_
    refine gi_iconst (x := (1 : Int32)) (n := 23) hX rfl dX5_append_22 rfl ?_
    refine gi_iadd (n := 24) hX dX5_append_23 rfl ?_
    refine gi_putI (n := 27) hX 1 kc_X5 (ly_T hb) rfl rfl fl_X5_21 rfl rfl dX5_append_24 rfl h (fun v5 h => ?_)
    exact gi_vret hX rfl dX5_append_27 h
theorem m_X5_append (l : Launch) (Ω : gO) (b : Nat) (hb : kT b = true) (x1 : Int32) (v : gV) {v0 : gV} (h : f_X5_append b x1 v = some v0) : gx_M l Ω LX yX5_append cX5_append 2 (none) 1 [.ref (Ω.1 b), .int x1] v none v0 := gx_start (lv := [(0, .ref (Ω.1 b)), (1, .int x1)]) (by decide +kernel) (Nat.le_of_ble_eq_true rfl) rfl (fun Γ _ hR hX => t_X5_append hX hR b hb x1 v h)
set_option maxRecDepth 20000 in
theorem t_X5_kindOf_J17 {Γ : gC} {Ω : gO} {r0 : Int32} {v0 : gV} (hX : gx_X Γ Ω cX5_kindOf RX5 1 (some .int)) (hR : Γ.2.2.2.1 = gx_R 0) (x0 : Int32) (v : gV) (h : f_X5_kindOf_J17 x0 v = some (r0, v0)) : gx_G Γ Ω LX (gx_Q Γ Ω LX (some (.int r0)) v0) 1 v 17 [(0, .int x0)] [] := by
  rw [f_X5_kindOf_J17] at h
  refine gi_iload_n (n := 18) hX 0 dX5_kindOf_17 rfl rfl rfl ?_
  refine gi_bipush (x := (65 : Int32)) (n := 20) hX rfl dX5_kindOf_18 rfl ?_
  refine gi_icmp_lt (tgt := 39) (n := 23) hX dX5_kindOf_20 rfl rfl h (fun h => ?_) (fun h => ?_)
  · refine gi_iconst (x := (-1 : Int32)) (n := 40) hX rfl dX5_kindOf_39 rfl ?_
    exact gi_iret hX rfl dX5_kindOf_40 h
  · refine gi_iload_n (n := 24) hX 0 dX5_kindOf_23 rfl rfl rfl ?_
    refine gi_bipush (x := (72 : Int32)) (n := 26) hX rfl dX5_kindOf_24 rfl ?_
    refine gi_icmp_gt (tgt := 39) (n := 29) hX dX5_kindOf_26 rfl rfl h (fun h => ?_) (fun h => ?_)
    · refine gi_iconst (x := (-1 : Int32)) (n := 40) hX rfl dX5_kindOf_39 rfl ?_
      exact gi_iret hX rfl dX5_kindOf_40 h
    · refine gi_iload_n (n := 30) hX 0 dX5_kindOf_29 rfl rfl rfl ?_
      refine gi_bipush (x := (65 : Int32)) (n := 32) hX rfl dX5_kindOf_30 rfl ?_
      refine gi_isub (n := 33) hX dX5_kindOf_32 rfl ?_
      refine gi_bipush (x := (8 : Int32)) (n := 35) hX rfl dX5_kindOf_33 rfl ?_
      refine gi_iadd (n := 36) hX dX5_kindOf_35 rfl ?_
      refine gi_goto (n := 40) hX dX5_kindOf_36 rfl ?_
      exact gi_iret hX rfl dX5_kindOf_40 h
set_option maxRecDepth 20000 in
theorem t_X5_kindOf {Γ : gC} {Ω : gO} {r0 : Int32} {v0 : gV} (hX : gx_X Γ Ω cX5_kindOf RX5 1 (some .int)) (hR : Γ.2.2.2.1 = gx_R 0) (x0 : Int32) (v : gV) (h : f_X5_kindOf x0 v = some (r0, v0)) : gx_G Γ Ω LX (gx_Q Γ Ω LX (some (.int r0)) v0) 1 v 0 [(0, .int x0)] [] := by
  rw [f_X5_kindOf] at h
  refine gi_iload_n (n := 1) hX 0 dX5_kindOf_0 rfl rfl rfl ?_
  refine gi_bipush (x := (97 : Int32)) (n := 3) hX rfl dX5_kindOf_1 rfl ?_
  refine gi_icmp_lt (tgt := 17) (n := 6) hX dX5_kindOf_3 rfl rfl h (fun h => ?_) (fun h => ?_)
  · exact t_X5_kindOf_J17 hX hR x0 v h
  · refine gi_iload_n (n := 7) hX 0 dX5_kindOf_6 rfl rfl rfl ?_
    refine gi_bipush (x := (104 : Int32)) (n := 9) hX rfl dX5_kindOf_7 rfl ?_
    refine gi_icmp_gt (tgt := 17) (n := 12) hX dX5_kindOf_9 rfl rfl h (fun h => ?_) (fun h => ?_)
    · exact t_X5_kindOf_J17 hX hR x0 v h
    · refine gi_iload_n (n := 13) hX 0 dX5_kindOf_12 rfl rfl rfl ?_
      refine gi_bipush (x := (97 : Int32)) (n := 15) hX rfl dX5_kindOf_13 rfl ?_
      refine gi_isub (n := 16) hX dX5_kindOf_15 rfl ?_
      exact gi_iret hX rfl dX5_kindOf_16 h
theorem m_X5_kindOf (l : Launch) (Ω : gO) (x0 : Int32) (v : gV) {r0 : Int32} {v0 : gV} (h : f_X5_kindOf x0 v = some (r0, v0)) : gx_M l Ω LX yX5_kindOf cX5_kindOf 1 (some .int) 0 [.int x0] v (some (.int r0)) v0 := gx_start (lv := [(0, .int x0)]) (by decide +kernel) (Nat.le_of_ble_eq_true rfl) rfl (fun Γ _ hR hX => t_X5_kindOf hX hR x0 v h)
set_option maxRecDepth 20000 in
theorem t_X5_faultAsBag_B2 {Γ : gC} {Ω : gO} {r0 : Int32} {v0 : gV} {o : (gV × Int32) ⊕ ((gV) ⊕ (Int32 × gV))} (hX : gx_X Γ Ω cX5_faultAsBag RX5 2 (some .int)) (hR : Γ.2.2.2.1 = gx_R 1) (b : Nat) (hb : kT b = true) (x1 : Int32) (v : gV) (h : f_X5_faultAsBag_B2 b x1 v = some o) (hc : ∀ c0 c1, o = .inl (c0, c1) → gx_G Γ Ω LX (gx_Q Γ Ω LX (some (.int r0)) v0) 2 c0 2 [(0, .ref (Ω.1 b)), (1, .int c1)] []) (hz : ∀ z0, o = .inr (.inl z0) → gx_G Γ Ω LX (gx_Q Γ Ω LX (some (.int r0)) v0) 2 z0 31 [] []) (hr : ∀ q0 q1, o = .inr (.inr (q0, q1)) → some (q0, q1) = some (r0, v0)) : gx_G Γ Ω LX (gx_Q Γ Ω LX (some (.int r0)) v0) 2 v 2 [(0, .ref (Ω.1 b)), (1, .int x1)] [] := by
  rw [f_X5_faultAsBag_B2] at h
  refine gi_iload_n (n := 3) hX 1 dX5_faultAsBag_2 rfl rfl rfl ?_
  refine gi_aload_n (n := 4) hX 0 dX5_faultAsBag_3 rfl rfl rfl ?_
  refine gi_getI (n := 7) hX 1 kc_X5 (ly_T hb) rfl rfl fl_X5_21 dX5_faultAsBag_4 rfl ?_
  refine gi_icmp_ge (tgt := 31) (n := 10) hX dX5_faultAsBag_7 rfl rfl h (fun h => ?_) (fun h => ?_)
  · refine gi_sub [] rfl ?_
    exact hz _ (Option.some.inj h).symm
  · refine gi_aload_n (n := 11) hX 0 dX5_faultAsBag_10 rfl rfl rfl ?_
    refine gi_getR (n := 14) hX 0 kc_X5 (ly_T hb) rfl rfl fl_X5_15 dX5_faultAsBag_11 rfl ?_
    refine gi_iload_n (n := 15) hX 1 dX5_faultAsBag_14 rfl rfl rfl ?_
    refine gi_iald (n := 16) hX (ly_Tk hb) dX5_faultAsBag_15 rfl h (fun h => ?_)
    obtain ⟨r3, v1, e2, h⟩ := bi_some h
    refine gi_statI (st := []) (n := 19) hX hR ms_X5_kindOf ml_X5_33 (m_X5_kindOf Γ.2.1 Ω (v.1 (b + 1) (x1).toNatClampNeg) v e2) rfl ⟨rfl, rfl⟩ rfl dX5_faultAsBag_16 rfl rfl ?_
    refine gi_iconst (x := (-1 : Int32)) (n := 20) hX rfl dX5_faultAsBag_19 rfl ?_
    refine gi_icmp_ne (tgt := 25) (n := 23) hX dX5_faultAsBag_20 rfl rfl h (fun h => ?_) (fun h => ?_)
    · refine gi_iinc (z := (1 : Int32)) (n := 28) hX 1 [(1, .int (x1 + (1 : Int32))), (0, .ref (Ω.1 b))] dX5_faultAsBag_25 rfl rfl rfl rfl rfl rfl ?_
      refine gi_goto (n := 2) hX dX5_faultAsBag_28 rfl ?_
      refine gi_sub [1, 0] rfl ?_
      exact hc _ _ (Option.some.inj h).symm
    · refine gi_iload_n (n := 24) hX 1 dX5_faultAsBag_23 rfl rfl rfl ?_
      exact gi_iret hX rfl dX5_faultAsBag_24 (hr _ _ (Option.some.inj h).symm)
set_option maxRecDepth 20000 in
theorem t_X5_faultAsBag {Γ : gC} {Ω : gO} {r0 : Int32} {v0 : gV} (hX : gx_X Γ Ω cX5_faultAsBag RX5 2 (some .int)) (hR : Γ.2.2.2.1 = gx_R 1) (b : Nat) (hb : kT b = true) (v : gV) (h : f_X5_faultAsBag b v = some (r0, v0)) : gx_G Γ Ω LX (gx_Q Γ Ω LX (some (.int r0)) v0) 2 v 0 [(0, .ref (Ω.1 b))] [] := by
  rw [f_X5_faultAsBag] at h
  refine gi_iconst (x := (0 : Int32)) (n := 1) hX rfl dX5_faultAsBag_0 rfl ?_
  refine gi_istore_n (n := 2) hX [(1, .int (0 : Int32)), (0, .ref (Ω.1 b))] dX5_faultAsBag_1 rfl rfl rfl rfl ?_
  refine gi_sub [1, 0] rfl ?_
  have key := lp_ind (f := (fun a : gV × Int32 => f_X5_faultAsBag_B2 b a.2 a.1)) (P := (fun a : gV × Int32 => gx_G Γ Ω LX (gx_Q Γ Ω LX (some (.int r0)) v0) 2 a.1 2 [(0, .ref (Ω.1 b)), (1, .int a.2)] [])) (Z := (fun w : (gV) ⊕ (Int32 × gV) => Sum.elim (fun z : gV => gx_G Γ Ω LX (gx_Q Γ Ω LX (some (.int r0)) v0) 2 z 31 [] []) (fun q => some q = some (r0, v0)) w)) (fun a o h hc hz => t_X5_faultAsBag_B2 hX hR b hb a.2 a.1 h (fun c0 c1 e => hc (c0, c1) e) (fun z0 e => hz (.inl z0) e) (fun q0 q1 e => hz (.inr (q0, q1)) e)) fu
  rcases bs1_some h with ⟨v1, e0, h⟩ | ⟨q, e0, h⟩
  · refine key (v, (0 : Int32)) _ e0 ?_
    show gx_G Γ Ω LX (gx_Q Γ Ω LX (some (.int r0)) v0) 2 v1 31 [] []
    refine gi_iconst (x := (-1 : Int32)) (n := 32) hX rfl dX5_faultAsBag_31 rfl ?_
    exact gi_iret hX rfl dX5_faultAsBag_32 h
  · refine key (v, (0 : Int32)) _ e0 ?_
    show some q = some (r0, v0)
    exact h
theorem m_X5_faultAsBag (l : Launch) (Ω : gO) (b : Nat) (hb : kT b = true) (v : gV) {r0 : Int32} {v0 : gV} (h : f_X5_faultAsBag b v = some (r0, v0)) : gx_M l Ω LX yX5_faultAsBag cX5_faultAsBag 2 (some .int) 1 [.ref (Ω.1 b)] v (some (.int r0)) v0 := gx_start (lv := [(0, .ref (Ω.1 b))]) (by decide +kernel) (Nat.le_of_ble_eq_true rfl) rfl (fun Γ _ hR hX => t_X5_faultAsBag hX hR b hb v h)
set_option maxRecDepth 20000 in
theorem t_X5_fitsRider_J32 {Γ : gC} {Ω : gO} {r0 : Int32} {v0 : gV} (hX : gx_X Γ Ω cX5_fitsRider RX5 2 (some .boolean)) (hR : Γ.2.2.2.1 = gx_R 0) (x1 : Int32) (v : gV) (h : f_X5_fitsRider_J32 x1 v = some (r0, v0)) : gx_G Γ Ω LX (gx_Q Γ Ω LX (some (.int r0)) v0) 2 v 32 [(1, .int x1)] [] := by
  rw [f_X5_fitsRider_J32] at h
  refine gi_iload_n (n := 33) hX 0 dX5_fitsRider_32 rfl rfl rfl ?_
  refine gi_bipush (x := (97 : Int32)) (n := 35) hX rfl dX5_fitsRider_33 rfl ?_
  refine gi_icmp_lt (tgt := 48) (n := 38) hX dX5_fitsRider_35 rfl rfl h (fun h => ?_) (fun h => ?_)
  · refine gi_iconst (x := (0 : Int32)) (n := 49) hX rfl dX5_fitsRider_48 rfl ?_
    exact gi_zret hX rfl dX5_fitsRider_49 h
  · refine gi_iload_n (n := 39) hX 0 dX5_fitsRider_38 rfl rfl rfl ?_
    refine gi_bipush (x := (104 : Int32)) (n := 41) hX rfl dX5_fitsRider_39 rfl ?_
    refine gi_icmp_gt (tgt := 48) (n := 44) hX dX5_fitsRider_41 rfl rfl h (fun h => ?_) (fun h => ?_)
    · refine gi_iconst (x := (0 : Int32)) (n := 49) hX rfl dX5_fitsRider_48 rfl ?_
      exact gi_zret hX rfl dX5_fitsRider_49 h
    · refine gi_iconst (x := (1 : Int32)) (n := 45) hX rfl dX5_fitsRider_44 rfl ?_
      refine gi_goto (n := 49) hX dX5_fitsRider_45 rfl ?_
      exact gi_zret hX rfl dX5_fitsRider_49 h
set_option maxRecDepth 20000 in
theorem t_X5_fitsRider_J50 {Γ : gC} {Ω : gO} {r0 : Int32} {v0 : gV} (hX : gx_X Γ Ω cX5_fitsRider RX5 2 (some .boolean)) (hR : Γ.2.2.2.1 = gx_R 0) (x1 : Int32) (v : gV) (h : f_X5_fitsRider_J50 x1 v = some (r0, v0)) : gx_G Γ Ω LX (gx_Q Γ Ω LX (some (.int r0)) v0) 2 v 50 [(1, .int x1)] [] := by
  rw [f_X5_fitsRider_J50] at h
  refine gi_iload_n (n := 51) hX 0 dX5_fitsRider_50 rfl rfl rfl ?_
  refine gi_bipush (x := (48 : Int32)) (n := 53) hX rfl dX5_fitsRider_51 rfl ?_
  refine gi_icmp_lt (tgt := 66) (n := 56) hX dX5_fitsRider_53 rfl rfl h (fun h => ?_) (fun h => ?_)
  · refine gi_iconst (x := (0 : Int32)) (n := 67) hX rfl dX5_fitsRider_66 rfl ?_
    exact gi_zret hX rfl dX5_fitsRider_67 h
  · refine gi_iload_n (n := 57) hX 0 dX5_fitsRider_56 rfl rfl rfl ?_
    refine gi_bipush (x := (57 : Int32)) (n := 59) hX rfl dX5_fitsRider_57 rfl ?_
    refine gi_icmp_gt (tgt := 66) (n := 62) hX dX5_fitsRider_59 rfl rfl h (fun h => ?_) (fun h => ?_)
    · refine gi_iconst (x := (0 : Int32)) (n := 67) hX rfl dX5_fitsRider_66 rfl ?_
      exact gi_zret hX rfl dX5_fitsRider_67 h
    · refine gi_iconst (x := (1 : Int32)) (n := 63) hX rfl dX5_fitsRider_62 rfl ?_
      refine gi_goto (n := 67) hX dX5_fitsRider_63 rfl ?_
      exact gi_zret hX rfl dX5_fitsRider_67 h
set_option maxRecDepth 20000 in
theorem t_X5_fitsRider {Γ : gC} {Ω : gO} {r0 : Int32} {v0 : gV} (hX : gx_X Γ Ω cX5_fitsRider RX5 2 (some .boolean)) (hR : Γ.2.2.2.1 = gx_R 0) (x0 : Int32) (x1 : Int32) (v : gV) (h : f_X5_fitsRider x0 x1 v = some (r0, v0)) : gx_G Γ Ω LX (gx_Q Γ Ω LX (some (.int r0)) v0) 2 v 0 [(0, .int x0), (1, .int x1)] [] := by
  rw [f_X5_fitsRider] at h
  refine gi_iload_n (n := 1) hX 0 dX5_fitsRider_0 rfl rfl rfl ?_
  rcases if_split h with ⟨c0, h⟩ | ⟨c0, h⟩
  · refine gi_tin (k0 := (0 : Int32)) (off := 31) (tgt := 32) hX dX5_fitsRider_1 c0 rfl ?_
    refine gi_sub [1] rfl ?_
    exact t_X5_fitsRider_J32 hX hR x1 v h
  rcases if_split h with ⟨c1, h⟩ | ⟨c1, h⟩
  · refine gi_tin (k0 := (1 : Int32)) (off := 49) (tgt := 50) hX dX5_fitsRider_1 c1 rfl ?_
    refine gi_sub [1] rfl ?_
    exact t_X5_fitsRider_J50 hX hR x1 v h
  rcases if_split h with ⟨c2, h⟩ | ⟨c2, h⟩
  · refine gi_tin (k0 := (2 : Int32)) (off := 49) (tgt := 50) hX dX5_fitsRider_1 c2 rfl ?_
    refine gi_sub [1] rfl ?_
    exact t_X5_fitsRider_J50 hX hR x1 v h
  rcases if_split h with ⟨c3, h⟩ | ⟨c3, h⟩
  · refine gi_tin (k0 := (3 : Int32)) (off := 31) (tgt := 32) hX dX5_fitsRider_1 c3 rfl ?_
    refine gi_sub [1] rfl ?_
    exact t_X5_fitsRider_J32 hX hR x1 v h
  refine gi_tout (tgt := 68) hX dX5_fitsRider_1 (by have e0 := lv_neT (a := 0) c0 rfl; have e1 := lv_neT (a := 1) c1 rfl; have e2 := lv_neT (a := 2) c2 rfl; have e3 := lv_neT (a := 3) c3 rfl; omega) rfl ?_
  refine gi_iload_n (n := 69) hX 1 dX5_fitsRider_68 rfl rfl rfl ?_
  refine gi_bipush (x := (59 : Int32)) (n := 71) hX rfl dX5_fitsRider_69 rfl ?_
  refine gi_icmp_ne (tgt := 78) (n := 74) hX dX5_fitsRider_71 rfl rfl h (fun h => ?_) (fun h => ?_)
  · refine gi_iconst (x := (0 : Int32)) (n := 79) hX rfl dX5_fitsRider_78 rfl ?_
    exact gi_zret hX rfl dX5_fitsRider_79 h
  · refine gi_iconst (x := (1 : Int32)) (n := 75) hX rfl dX5_fitsRider_74 rfl ?_
    refine gi_goto (n := 79) hX dX5_fitsRider_75 rfl ?_
    exact gi_zret hX rfl dX5_fitsRider_79 h
theorem m_X5_fitsRider (l : Launch) (Ω : gO) (x0 : Int32) (x1 : Int32) (v : gV) {r0 : Int32} {v0 : gV} (h : f_X5_fitsRider x0 x1 v = some (r0, v0)) : gx_M l Ω LX yX5_fitsRider cX5_fitsRider 2 (some .boolean) 0 [.int x0, .int x1] v (some (.int r0)) v0 := gx_start (lv := [(0, .int x0), (1, .int x1)]) (by decide +kernel) (Nat.le_of_ble_eq_true rfl) rfl (fun Γ _ hR hX => t_X5_fitsRider hX hR x0 x1 v h)
set_option maxRecDepth 20000 in
theorem t_X5_faultAsRiders_B2 {Γ : gC} {Ω : gO} {r0 : Int32} {v0 : gV} {o : (gV × Int32) ⊕ ((gV) ⊕ (Int32 × gV))} (hX : gx_X Γ Ω cX5_faultAsRiders RX5 2 (some .int)) (hR : Γ.2.2.2.1 = gx_R 1) (b : Nat) (hb : kT b = true) (x1 : Int32) (v : gV) (h : f_X5_faultAsRiders_B2 b x1 v = some o) (hc : ∀ c0 c1, o = .inl (c0, c1) → gx_G Γ Ω LX (gx_Q Γ Ω LX (some (.int r0)) v0) 2 c0 2 [(0, .ref (Ω.1 b)), (1, .int c1)] []) (hz : ∀ z0, o = .inr (.inl z0) → gx_G Γ Ω LX (gx_Q Γ Ω LX (some (.int r0)) v0) 2 z0 39 [(0, .ref (Ω.1 b))] []) (hr : ∀ q0 q1, o = .inr (.inr (q0, q1)) → some (q0, q1) = some (r0, v0)) : gx_G Γ Ω LX (gx_Q Γ Ω LX (some (.int r0)) v0) 2 v 2 [(0, .ref (Ω.1 b)), (1, .int x1)] [] := by
  rw [f_X5_faultAsRiders_B2] at h
  refine gi_iload_n (n := 3) hX 1 dX5_faultAsRiders_2 rfl rfl rfl ?_
  refine gi_aload_n (n := 4) hX 0 dX5_faultAsRiders_3 rfl rfl rfl ?_
  refine gi_getI (n := 7) hX 1 kc_X5 (ly_T hb) rfl rfl fl_X5_21 dX5_faultAsRiders_4 rfl ?_
  refine gi_icmp_ge (tgt := 39) (n := 10) hX dX5_faultAsRiders_7 rfl rfl h (fun h => ?_) (fun h => ?_)
  · refine gi_sub [0] rfl ?_
    exact hz _ (Option.some.inj h).symm
  · refine gi_iload_n (n := 11) hX 1 dX5_faultAsRiders_10 rfl rfl rfl ?_
    refine gi_bipush (x := (40 : Int32)) (n := 13) hX rfl dX5_faultAsRiders_11 rfl ?_
    refine gi_icmp_ge (tgt := 31) (n := 16) hX dX5_faultAsRiders_13 rfl rfl h (fun h => ?_) (fun h => ?_)
    · refine gi_iload_n (n := 32) hX 1 dX5_faultAsRiders_31 rfl rfl rfl ?_
      exact gi_iret hX rfl dX5_faultAsRiders_32 (hr _ _ (Option.some.inj h).symm)
    · refine gi_iload_n (n := 17) hX 1 dX5_faultAsRiders_16 rfl rfl rfl ?_
      refine gi_iconst (x := (5 : Int32)) (n := 18) hX rfl dX5_faultAsRiders_17 rfl ?_
      refine gi_irem (n := 19) hX (by decide) dX5_faultAsRiders_18 rfl ?_
      refine gi_aload_n (n := 20) hX 0 dX5_faultAsRiders_19 rfl rfl rfl ?_
      refine gi_getR (n := 23) hX 0 kc_X5 (ly_T hb) rfl rfl fl_X5_15 dX5_faultAsRiders_20 rfl ?_
      refine gi_iload_n (n := 24) hX 1 dX5_faultAsRiders_23 rfl rfl rfl ?_
      refine gi_iald (n := 25) hX (ly_Tk hb) dX5_faultAsRiders_24 rfl h (fun h => ?_)
      obtain ⟨r3, v1, e2, h⟩ := bi_some h
      refine gi_statI (st := []) (n := 28) hX hR ms_X5_fitsRider ml_X5_29 (m_X5_fitsRider Γ.2.1 Ω (jrem x1 (5 : Int32)) (v.1 (b + 1) (x1).toNatClampNeg) v e2) rfl ⟨rfl, rfl⟩ rfl dX5_faultAsRiders_25 rfl rfl ?_
      refine gi_if_ne (tgt := 33) (n := 31) hX dX5_faultAsRiders_28 rfl rfl h (fun h => ?_) (fun h => ?_)
      · refine gi_iinc (z := (1 : Int32)) (n := 36) hX 1 [(1, .int (x1 + (1 : Int32))), (0, .ref (Ω.1 b))] dX5_faultAsRiders_33 rfl rfl rfl rfl rfl rfl ?_
        refine gi_goto (n := 2) hX dX5_faultAsRiders_36 rfl ?_
        refine gi_sub [1, 0] rfl ?_
        exact hc _ _ (Option.some.inj h).symm
      · refine gi_iload_n (n := 32) hX 1 dX5_faultAsRiders_31 rfl rfl rfl ?_
        exact gi_iret hX rfl dX5_faultAsRiders_32 (hr _ _ (Option.some.inj h).symm)
set_option maxRecDepth 20000 in
theorem t_X5_faultAsRiders {Γ : gC} {Ω : gO} {r0 : Int32} {v0 : gV} (hX : gx_X Γ Ω cX5_faultAsRiders RX5 2 (some .int)) (hR : Γ.2.2.2.1 = gx_R 1) (b : Nat) (hb : kT b = true) (v : gV) (h : f_X5_faultAsRiders b v = some (r0, v0)) : gx_G Γ Ω LX (gx_Q Γ Ω LX (some (.int r0)) v0) 2 v 0 [(0, .ref (Ω.1 b))] [] := by
  rw [f_X5_faultAsRiders] at h
  refine gi_iconst (x := (0 : Int32)) (n := 1) hX rfl dX5_faultAsRiders_0 rfl ?_
  refine gi_istore_n (n := 2) hX [(1, .int (0 : Int32)), (0, .ref (Ω.1 b))] dX5_faultAsRiders_1 rfl rfl rfl rfl ?_
  refine gi_sub [1, 0] rfl ?_
  have key := lp_ind (f := (fun a : gV × Int32 => f_X5_faultAsRiders_B2 b a.2 a.1)) (P := (fun a : gV × Int32 => gx_G Γ Ω LX (gx_Q Γ Ω LX (some (.int r0)) v0) 2 a.1 2 [(0, .ref (Ω.1 b)), (1, .int a.2)] [])) (Z := (fun w : (gV) ⊕ (Int32 × gV) => Sum.elim (fun z : gV => gx_G Γ Ω LX (gx_Q Γ Ω LX (some (.int r0)) v0) 2 z 39 [(0, .ref (Ω.1 b))] []) (fun q => some q = some (r0, v0)) w)) (fun a o h hc hz => t_X5_faultAsRiders_B2 hX hR b hb a.2 a.1 h (fun c0 c1 e => hc (c0, c1) e) (fun z0 e => hz (.inl z0) e) (fun q0 q1 e => hz (.inr (q0, q1)) e)) fu
  rcases bs1_some h with ⟨v1, e0, h⟩ | ⟨q, e0, h⟩
  · refine key (v, (0 : Int32)) _ e0 ?_
    show gx_G Γ Ω LX (gx_Q Γ Ω LX (some (.int r0)) v0) 2 v1 39 [(0, .ref (Ω.1 b))] []
    refine gi_aload_n (n := 40) hX 0 dX5_faultAsRiders_39 rfl rfl rfl ?_
    refine gi_getI (n := 43) hX 1 kc_X5 (ly_T hb) rfl rfl fl_X5_21 dX5_faultAsRiders_40 rfl ?_
    refine gi_if_eq (tgt := 56) (n := 46) hX dX5_faultAsRiders_43 rfl rfl h (fun h => ?_) (fun h => ?_)
    · refine gi_iconst (x := (-1 : Int32)) (n := 57) hX rfl dX5_faultAsRiders_56 rfl ?_
      refine gi_goto (n := 64) hX dX5_faultAsRiders_57 rfl ?_
      exact gi_iret hX rfl dX5_faultAsRiders_64 h
    · refine gi_aload_n (n := 47) hX 0 dX5_faultAsRiders_46 rfl rfl rfl ?_
      refine gi_getI (n := 50) hX 1 kc_X5 (ly_T hb) rfl rfl fl_X5_21 dX5_faultAsRiders_47 rfl ?_
      refine gi_iconst (x := (5 : Int32)) (n := 51) hX rfl dX5_faultAsRiders_50 rfl ?_
      refine gi_irem (n := 52) hX (by decide) dX5_faultAsRiders_51 rfl ?_
      refine gi_iconst (x := (4 : Int32)) (n := 53) hX rfl dX5_faultAsRiders_52 rfl ?_
      refine gi_icmp_ne (tgt := 60) (n := 56) hX dX5_faultAsRiders_53 rfl rfl h (fun h => ?_) (fun h => ?_)
      · refine gi_aload_n (n := 61) hX 0 dX5_faultAsRiders_60 rfl rfl rfl ?_
        refine gi_getI (n := 64) hX 1 kc_X5 (ly_T hb) rfl rfl fl_X5_21 dX5_faultAsRiders_61 rfl ?_
        exact gi_iret hX rfl dX5_faultAsRiders_64 h
      · refine gi_iconst (x := (-1 : Int32)) (n := 57) hX rfl dX5_faultAsRiders_56 rfl ?_
        refine gi_goto (n := 64) hX dX5_faultAsRiders_57 rfl ?_
        exact gi_iret hX rfl dX5_faultAsRiders_64 h
  · refine key (v, (0 : Int32)) _ e0 ?_
    show some q = some (r0, v0)
    exact h
theorem m_X5_faultAsRiders (l : Launch) (Ω : gO) (b : Nat) (hb : kT b = true) (v : gV) {r0 : Int32} {v0 : gV} (h : f_X5_faultAsRiders b v = some (r0, v0)) : gx_M l Ω LX yX5_faultAsRiders cX5_faultAsRiders 2 (some .int) 1 [.ref (Ω.1 b)] v (some (.int r0)) v0 := gx_start (lv := [(0, .ref (Ω.1 b))]) (by decide +kernel) (Nat.le_of_ble_eq_true rfl) rfl (fun Γ _ hR hX => t_X5_faultAsRiders hX hR b hb v h)
set_option maxRecDepth 20000 in
theorem t_X6_isRing {Γ : gC} {Ω : gO} {r0 : Int32} {v0 : gV} (hX : gx_X Γ Ω cX6_isRing RX6 4 (some .boolean)) (hR : Γ.2.2.2.1 = gx_R 0) (x1 : Int32) (x2 : Int32) (x3 : Int32) (v : gV) (h : f_X6_isRing x1 x2 x3 v = some (r0, v0)) : gx_G Γ Ω LX (gx_Q Γ Ω LX (some (.int r0)) v0) 4 v 0 [(0, .ref (Ω.1 6)), (1, .int x1), (2, .int x2), (3, .int x3)] [] := by
  rw [f_X6_isRing] at h
  refine gi_aload_n (n := 1) hX 0 dX6_isRing_0 rfl rfl rfl ?_
  refine gi_getR (n := 4) hX 4 kc_X6 ly_X6 rfl rfl fl_X6_21 dX6_isRing_1 rfl ?_
  refine gi_iload_n (n := 5) hX 1 dX6_isRing_4 rfl rfl rfl ?_
  refine gi_iald (n := 6) hX ly_10 dX6_isRing_5 rfl h (fun h => ?_)
  refine gi_aload_n (n := 7) hX 0 dX6_isRing_6 rfl rfl rfl ?_
  refine gi_getR (n := 10) hX 1 kc_X6 ly_X6 rfl rfl fl_X6_9 dX6_isRing_7 rfl ?_
  refine gi_iload_n (n := 11) hX 2 dX6_isRing_10 rfl rfl rfl ?_
  refine gi_iald (n := 12) hX ly_7 dX6_isRing_11 rfl h (fun h => ?_)
  refine gi_icmp_ne (tgt := 94) (n := 15) hX dX6_isRing_12 rfl rfl h (fun h => ?_) (fun h => ?_)
  · refine gi_iconst (x := (0 : Int32)) (n := 95) hX rfl dX6_isRing_94 rfl ?_
    exact gi_zret hX rfl dX6_isRing_95 h
  · refine gi_aload_n (n := 16) hX 0 dX6_isRing_15 rfl rfl rfl ?_
    refine gi_getR (n := 19) hX 4 kc_X6 ly_X6 rfl rfl fl_X6_21 dX6_isRing_16 rfl ?_
    refine gi_iload_n (n := 20) hX 2 dX6_isRing_19 rfl rfl rfl ?_
    refine gi_iald (n := 21) hX ly_10 dX6_isRing_20 rfl h (fun h => ?_)
    refine gi_aload_n (n := 22) hX 0 dX6_isRing_21 rfl rfl rfl ?_
    refine gi_getR (n := 25) hX 1 kc_X6 ly_X6 rfl rfl fl_X6_9 dX6_isRing_22 rfl ?_
    refine gi_iload_n (n := 26) hX 3 dX6_isRing_25 rfl rfl rfl ?_
    refine gi_iald (n := 27) hX ly_7 dX6_isRing_26 rfl h (fun h => ?_)
    refine gi_icmp_ne (tgt := 94) (n := 30) hX dX6_isRing_27 rfl rfl h (fun h => ?_) (fun h => ?_)
    · refine gi_iconst (x := (0 : Int32)) (n := 95) hX rfl dX6_isRing_94 rfl ?_
      exact gi_zret hX rfl dX6_isRing_95 h
    · refine gi_aload_n (n := 31) hX 0 dX6_isRing_30 rfl rfl rfl ?_
      refine gi_getR (n := 34) hX 4 kc_X6 ly_X6 rfl rfl fl_X6_21 dX6_isRing_31 rfl ?_
      refine gi_iload_n (n := 35) hX 3 dX6_isRing_34 rfl rfl rfl ?_
      refine gi_iald (n := 36) hX ly_10 dX6_isRing_35 rfl h (fun h => ?_)
      refine gi_aload_n (n := 37) hX 0 dX6_isRing_36 rfl rfl rfl ?_
      refine gi_getR (n := 40) hX 1 kc_X6 ly_X6 rfl rfl fl_X6_9 dX6_isRing_37 rfl ?_
      refine gi_iload_n (n := 41) hX 1 dX6_isRing_40 rfl rfl rfl ?_
      refine gi_iald (n := 42) hX ly_7 dX6_isRing_41 rfl h (fun h => ?_)
      refine gi_icmp_ne (tgt := 94) (n := 45) hX dX6_isRing_42 rfl rfl h (fun h => ?_) (fun h => ?_)
      · refine gi_iconst (x := (0 : Int32)) (n := 95) hX rfl dX6_isRing_94 rfl ?_
        exact gi_zret hX rfl dX6_isRing_95 h
      · refine gi_aload_n (n := 46) hX 0 dX6_isRing_45 rfl rfl rfl ?_
        refine gi_getR (n := 49) hX 4 kc_X6 ly_X6 rfl rfl fl_X6_21 dX6_isRing_46 rfl ?_
        refine gi_iload_n (n := 50) hX 1 dX6_isRing_49 rfl rfl rfl ?_
        refine gi_iald (n := 51) hX ly_10 dX6_isRing_50 rfl h (fun h => ?_)
        refine gi_aload_n (n := 52) hX 0 dX6_isRing_51 rfl rfl rfl ?_
        refine gi_getR (n := 55) hX 1 kc_X6 ly_X6 rfl rfl fl_X6_9 dX6_isRing_52 rfl ?_
        refine gi_iload_n (n := 56) hX 1 dX6_isRing_55 rfl rfl rfl ?_
        refine gi_iald (n := 57) hX ly_7 dX6_isRing_56 rfl h (fun h => ?_)
        refine gi_icmp_eq (tgt := 94) (n := 60) hX dX6_isRing_57 rfl rfl h (fun h => ?_) (fun h => ?_)
        · refine gi_iconst (x := (0 : Int32)) (n := 95) hX rfl dX6_isRing_94 rfl ?_
          exact gi_zret hX rfl dX6_isRing_95 h
        · refine gi_aload_n (n := 61) hX 0 dX6_isRing_60 rfl rfl rfl ?_
          refine gi_getR (n := 64) hX 4 kc_X6 ly_X6 rfl rfl fl_X6_21 dX6_isRing_61 rfl ?_
          refine gi_iload_n (n := 65) hX 2 dX6_isRing_64 rfl rfl rfl ?_
          refine gi_iald (n := 66) hX ly_10 dX6_isRing_65 rfl h (fun h => ?_)
          refine gi_aload_n (n := 67) hX 0 dX6_isRing_66 rfl rfl rfl ?_
          refine gi_getR (n := 70) hX 1 kc_X6 ly_X6 rfl rfl fl_X6_9 dX6_isRing_67 rfl ?_
          refine gi_iload_n (n := 71) hX 2 dX6_isRing_70 rfl rfl rfl ?_
          refine gi_iald (n := 72) hX ly_7 dX6_isRing_71 rfl h (fun h => ?_)
          refine gi_icmp_eq (tgt := 94) (n := 75) hX dX6_isRing_72 rfl rfl h (fun h => ?_) (fun h => ?_)
          · refine gi_iconst (x := (0 : Int32)) (n := 95) hX rfl dX6_isRing_94 rfl ?_
            exact gi_zret hX rfl dX6_isRing_95 h
          · refine gi_aload_n (n := 76) hX 0 dX6_isRing_75 rfl rfl rfl ?_
            refine gi_getR (n := 79) hX 4 kc_X6 ly_X6 rfl rfl fl_X6_21 dX6_isRing_76 rfl ?_
            refine gi_iload_n (n := 80) hX 3 dX6_isRing_79 rfl rfl rfl ?_
            refine gi_iald (n := 81) hX ly_10 dX6_isRing_80 rfl h (fun h => ?_)
            refine gi_aload_n (n := 82) hX 0 dX6_isRing_81 rfl rfl rfl ?_
            refine gi_getR (n := 85) hX 1 kc_X6 ly_X6 rfl rfl fl_X6_9 dX6_isRing_82 rfl ?_
            refine gi_iload_n (n := 86) hX 3 dX6_isRing_85 rfl rfl rfl ?_
            refine gi_iald (n := 87) hX ly_7 dX6_isRing_86 rfl h (fun h => ?_)
            refine gi_icmp_eq (tgt := 94) (n := 90) hX dX6_isRing_87 rfl rfl h (fun h => ?_) (fun h => ?_)
            · refine gi_iconst (x := (0 : Int32)) (n := 95) hX rfl dX6_isRing_94 rfl ?_
              exact gi_zret hX rfl dX6_isRing_95 h
            · refine gi_iconst (x := (1 : Int32)) (n := 91) hX rfl dX6_isRing_90 rfl ?_
              refine gi_goto (n := 95) hX dX6_isRing_91 rfl ?_
              exact gi_zret hX rfl dX6_isRing_95 h
theorem m_X6_isRing (l : Launch) (Ω : gO) (x1 : Int32) (x2 : Int32) (x3 : Int32) (v : gV) {r0 : Int32} {v0 : gV} (h : f_X6_isRing x1 x2 x3 v = some (r0, v0)) : gx_M l Ω LX yX6_isRing cX6_isRing 4 (some .boolean) 0 [.ref (Ω.1 6), .int x1, .int x2, .int x3] v (some (.int r0)) v0 := gx_start (lv := [(0, .ref (Ω.1 6)), (1, .int x1), (2, .int x2), (3, .int x3)]) (by decide +kernel) (Nat.le_of_ble_eq_true rfl) rfl (fun Γ _ hR hX => t_X6_isRing hX hR x1 x2 x3 v h)
set_option maxRecDepth 20000 in
theorem t_X6_placeOnBoard_B7 {Γ : gC} {Ω : gO} {v0 : gV} {o : (gV × Int32) ⊕ (gV)} (hX : gx_X Γ Ω cX6_placeOnBoard RX6 3 (none)) (hR : Γ.2.2.2.1 = gx_R 0) (x1 : Int32) (x2 : Int32) (v : gV) (h : f_X6_placeOnBoard_B7 x1 x2 v = some o) (hc : ∀ c0 c1, o = .inl (c0, c1) → gx_G Γ Ω LX (gx_Q Γ Ω LX none v0) 3 c0 7 [(0, .ref (Ω.1 6)), (1, .int x1), (2, .int c1)] []) (hz : ∀ z0, o = .inr z0 → gx_G Γ Ω LX (gx_Q Γ Ω LX none v0) 3 z0 35 [(0, .ref (Ω.1 6)), (1, .int x1)] []) : gx_G Γ Ω LX (gx_Q Γ Ω LX none v0) 3 v 7 [(0, .ref (Ω.1 6)), (1, .int x1), (2, .int x2)] [] := by
  rw [f_X6_placeOnBoard_B7] at h
  refine gi_iload_n (n := 8) hX 2 dX6_placeOnBoard_7 rfl rfl rfl ?_
  refine gi_aload_n (n := 9) hX 0 dX6_placeOnBoard_8 rfl rfl rfl ?_
  refine gi_getR (n := 12) hX 3 kc_X6 ly_X6 rfl rfl fl_X6_18 dX6_placeOnBoard_9 rfl ?_
  refine gi_iload_n (n := 13) hX 1 dX6_placeOnBoard_12 rfl rfl rfl ?_
  refine gi_iald (n := 14) hX ly_9 dX6_placeOnBoard_13 rfl h (fun h => ?_)
  refine gi_icmp_ge (tgt := 35) (n := 17) hX dX6_placeOnBoard_14 rfl rfl h (fun h => ?_) (fun h => ?_)
  · refine gi_sub [0, 1] rfl ?_
    exact hz _ (Option.some.inj h).symm
  · refine gi_aload_n (n := 18) hX 0 dX6_placeOnBoard_17 rfl rfl rfl ?_
    refine gi_getR (n := 21) hX 5 kc_X6 ly_X6 rfl rfl fl_X6_24 dX6_placeOnBoard_18 rfl ?_
    refine gi_iload_n (n := 22) hX 2 dX6_placeOnBoard_21 rfl rfl rfl ?_
    refine gi_dup2 (n := 23) hX rfl rfl dX6_placeOnBoard_22 rfl ?_
    refine gi_iald (n := 24) hX ly_11 dX6_placeOnBoard_23 rfl h (fun h => ?_)
    refine gi_iconst (x := (1 : Int32)) (n := 25) hX rfl dX6_placeOnBoard_24 rfl ?_
    refine gi_iload_n (n := 26) hX 1 dX6_placeOnBoard_25 rfl rfl rfl ?_
    refine gi_ishl (n := 27) hX dX6_placeOnBoard_26 rfl ?_
    refine gi_ior (n := 28) hX dX6_placeOnBoard_27 rfl ?_
    refine gi_iast (n := 29) hX ly_11 dX6_placeOnBoard_28 rfl h (fun v1 h => ?_)
    refine gi_iinc (z := (1 : Int32)) (n := 32) hX 2 [(2, .int (x2 + (1 : Int32))), (0, .ref (Ω.1 6)), (1, .int x1)] dX6_placeOnBoard_29 rfl rfl rfl rfl rfl rfl ?_
    refine gi_goto (n := 7) hX dX6_placeOnBoard_32 rfl ?_
    refine gi_sub [1, 2, 0] rfl ?_
    exact hc _ _ (Option.some.inj h).symm
set_option maxRecDepth 20000 in
theorem t_X6_placeOnBoard {Γ : gC} {Ω : gO} {v0 : gV} (hX : gx_X Γ Ω cX6_placeOnBoard RX6 3 (none)) (hR : Γ.2.2.2.1 = gx_R 0) (x1 : Int32) (v : gV) (h : f_X6_placeOnBoard x1 v = some v0) : gx_G Γ Ω LX (gx_Q Γ Ω LX none v0) 3 v 0 [(0, .ref (Ω.1 6)), (1, .int x1)] [] := by
  rw [f_X6_placeOnBoard] at h
  refine gi_aload_n (n := 1) hX 0 dX6_placeOnBoard_0 rfl rfl rfl ?_
  refine gi_getR (n := 4) hX 2 kc_X6 ly_X6 rfl rfl fl_X6_15 dX6_placeOnBoard_1 rfl ?_
  refine gi_iload_n (n := 5) hX 1 dX6_placeOnBoard_4 rfl rfl rfl ?_
  refine gi_iald (n := 6) hX ly_8 dX6_placeOnBoard_5 rfl h (fun h => ?_)
  refine gi_topI h (fun u1 h => ?_)
  refine gi_istore_n (n := 7) hX [(2, .int u1), (0, .ref (Ω.1 6)), (1, .int x1)] dX6_placeOnBoard_6 rfl rfl rfl rfl ?_
  refine gi_sub [1, 2, 0] rfl ?_
  have key := lp_ind (f := (fun a : gV × Int32 => f_X6_placeOnBoard_B7 x1 a.2 a.1)) (P := (fun a : gV × Int32 => gx_G Γ Ω LX (gx_Q Γ Ω LX none v0) 3 a.1 7 [(0, .ref (Ω.1 6)), (1, .int x1), (2, .int a.2)] [])) (Z := (fun z : gV => gx_G Γ Ω LX (gx_Q Γ Ω LX none v0) 3 z 35 [(0, .ref (Ω.1 6)), (1, .int x1)] [])) (fun a o h hc hz => t_X6_placeOnBoard_B7 hX hR x1 a.2 a.1 h (fun c0 c1 e => hc (c0, c1) e) (fun z0 e => hz z0 e)) fu
  obtain ⟨v2, e0, h⟩ := bx1_some h
  refine key (v, u1) _ e0 ?_
  show gx_G Γ Ω LX (gx_Q Γ Ω LX none v0) 3 v2 35 [(0, .ref (Ω.1 6)), (1, .int x1)] []
  refine gi_aload_n (n := 36) hX 0 dX6_placeOnBoard_35 rfl rfl rfl ?_
  refine gi_getR (n := 39) hX 2 kc_X6 ly_X6 rfl rfl fl_X6_15 dX6_placeOnBoard_36 rfl ?_
  refine gi_iload_n (n := 40) hX 1 dX6_placeOnBoard_39 rfl rfl rfl ?_
  refine gi_iald (n := 41) hX ly_8 dX6_placeOnBoard_40 rfl h (fun h => ?_)
  refine gi_aload_n (n := 42) hX 0 dX6_placeOnBoard_41 rfl rfl rfl ?_
  refine gi_getR (n := 45) hX 3 kc_X6 ly_X6 rfl rfl fl_X6_18 dX6_placeOnBoard_42 rfl ?_
  refine gi_iload_n (n := 46) hX 1 dX6_placeOnBoard_45 rfl rfl rfl ?_
  refine gi_iald (n := 47) hX ly_9 dX6_placeOnBoard_46 rfl h (fun h => ?_)
  refine gi_icmp_ge (tgt := 67) (n := 50) hX dX6_placeOnBoard_47 rfl rfl h (fun h => ?_) (fun h => ?_)
  · exact gi_vret hX rfl dX6_placeOnBoard_67 h
  · refine gi_aload_n (n := 51) hX 0 dX6_placeOnBoard_50 rfl rfl rfl ?_
    refine gi_getR (n := 54) hX 6 kc_X6 ly_X6 rfl rfl fl_X6_27 dX6_placeOnBoard_51 rfl ?_
    refine gi_aload_n (n := 55) hX 0 dX6_placeOnBoard_54 rfl rfl rfl ?_
    refine gi_getR (n := 58) hX 3 kc_X6 ly_X6 rfl rfl fl_X6_18 dX6_placeOnBoard_55 rfl ?_
    refine gi_iload_n (n := 59) hX 1 dX6_placeOnBoard_58 rfl rfl rfl ?_
    refine gi_iald (n := 60) hX ly_9 dX6_placeOnBoard_59 rfl h (fun h => ?_)
    refine gi_dup2 (n := 61) hX rfl rfl dX6_placeOnBoard_60 rfl ?_
    refine gi_iald (n := 62) hX ly_12 dX6_placeOnBoard_61 rfl h (fun h => ?_)
    refine gi_iconst (x := (1 : Int32)) (n := 63) hX rfl dX6_placeOnBoard_62 rfl ?_
    refine gi_iload_n (n := 64) hX 1 dX6_placeOnBoard_63 rfl rfl rfl ?_
    refine gi_ishl (n := 65) hX dX6_placeOnBoard_64 rfl ?_
    refine gi_ior (n := 66) hX dX6_placeOnBoard_65 rfl ?_
    refine gi_iast (n := 67) hX ly_12 dX6_placeOnBoard_66 rfl h (fun v3 h => ?_)
    exact gi_vret hX rfl dX6_placeOnBoard_67 h
theorem m_X6_placeOnBoard (l : Launch) (Ω : gO) (x1 : Int32) (v : gV) {v0 : gV} (h : f_X6_placeOnBoard x1 v = some v0) : gx_M l Ω LX yX6_placeOnBoard cX6_placeOnBoard 3 (none) 0 [.ref (Ω.1 6), .int x1] v none v0 := gx_start (lv := [(0, .ref (Ω.1 6)), (1, .int x1)]) (by decide +kernel) (Nat.le_of_ble_eq_true rfl) rfl (fun Γ _ hR hX => t_X6_placeOnBoard hX hR x1 v h)
set_option maxRecDepth 20000 in
theorem t_X6_readBag_B27 {Γ : gC} {Ω : gO} {v0 : gV} {o : (gV × Int32) ⊕ (gV)} (hX : gx_X Γ Ω cX6_readBag RX6 4 (none)) (hR : Γ.2.2.2.1 = gx_R 2) (q1 : Nat) (hq1 : kT q1 = true) (x2 : Int32) (x3 : Int32) (v : gV) (h : f_X6_readBag_B27 q1 x2 x3 v = some o) (hc : ∀ c0 c1, o = .inl (c0, c1) → gx_G Γ Ω LX (gx_Q Γ Ω LX none v0) 4 c0 27 [(0, .ref (Ω.1 6)), (1, .ref (Ω.1 q1)), (2, .int x2), (3, .int c1)] []) (hz : ∀ z0, o = .inr z0 → gx_G Γ Ω LX (gx_Q Γ Ω LX none v0) 4 z0 54 [] []) : gx_G Γ Ω LX (gx_Q Γ Ω LX none v0) 4 v 27 [(0, .ref (Ω.1 6)), (1, .ref (Ω.1 q1)), (2, .int x2), (3, .int x3)] [] := by
  rw [f_X6_readBag_B27] at h
  refine gi_iload_n (n := 28) hX 3 dX6_readBag_27 rfl rfl rfl ?_
  refine gi_iload_n (n := 29) hX 2 dX6_readBag_28 rfl rfl rfl ?_
  refine gi_icmp_ge (tgt := 54) (n := 32) hX dX6_readBag_29 rfl rfl h (fun h => ?_) (fun h => ?_)
  · refine gi_sub [] rfl ?_
    exact hz _ (Option.some.inj h).symm
  · refine gi_aload_n (n := 33) hX 0 dX6_readBag_32 rfl rfl rfl ?_
    refine gi_getR (n := 36) hX 7 kc_X6 ly_X6 rfl rfl fl_X6_33 dX6_readBag_33 rfl ?_
    refine gi_aload_n (n := 37) hX 1 dX6_readBag_36 rfl rfl rfl ?_
    refine gi_getR (n := 40) hX 0 kc_X5 (ly_T hq1) rfl rfl fl_X6_65 dX6_readBag_37 rfl ?_
    refine gi_iload_n (n := 41) hX 3 dX6_readBag_40 rfl rfl rfl ?_
    refine gi_iald (n := 42) hX (ly_Tk hq1) dX6_readBag_41 rfl h (fun h => ?_)
    obtain ⟨r3, v1, e2, h⟩ := bi_some h
    refine gi_statI (st := [.ref (Ω.1 13)]) (n := 45) hX hR ms_X5_kindOf ml_X6_76 (m_X5_kindOf Γ.2.1 Ω (v.1 (q1 + 1) (x3).toNatClampNeg) v e2) rfl ⟨rfl, rfl⟩ rfl dX6_readBag_42 rfl rfl ?_
    obtain ⟨v4, e5, h⟩ := bv_some h
    refine gi_virtV (st := []) (n := 48) hX hR kc_X0 (ly_B (rfl : kB 13 = true)) mv_X0_putAtBottom ml_X6_80 (m_X0_putAtBottom Γ.2.1 Ω 13 (rfl : kB 13 = true) r3 v1 e5) rfl ⟨rfl, rfl⟩ rfl dX6_readBag_45 rfl rfl ?_
    refine gi_iinc (z := (1 : Int32)) (n := 51) hX 3 [(3, .int (x3 + (1 : Int32))), (0, .ref (Ω.1 6)), (1, .ref (Ω.1 q1)), (2, .int x2)] dX6_readBag_48 rfl rfl rfl rfl rfl rfl ?_
    refine gi_goto (n := 27) hX dX6_readBag_51 rfl ?_
    refine gi_sub [1, 2, 3, 0] rfl ?_
    exact hc _ _ (Option.some.inj h).symm
set_option maxRecDepth 20000 in
theorem t_X6_readBag_J24 {Γ : gC} {Ω : gO} {v0 : gV} (hX : gx_X Γ Ω cX6_readBag RX6 4 (none)) (hR : Γ.2.2.2.1 = gx_R 2) (q1 : Nat) (hq1 : kT q1 = true) (s0 : Int32) (v : gV) (h : f_X6_readBag_J24 q1 s0 v = some v0) : gx_G Γ Ω LX (gx_Q Γ Ω LX none v0) 4 v 24 [(0, .ref (Ω.1 6)), (1, .ref (Ω.1 q1))] [.int s0] := by
  rw [f_X6_readBag_J24] at h
  refine gi_istore_n (n := 25) hX [(2, .int s0), (0, .ref (Ω.1 6)), (1, .ref (Ω.1 q1))] dX6_readBag_24 rfl rfl rfl rfl ?_
  refine gi_iconst (x := (0 : Int32)) (n := 26) hX rfl dX6_readBag_25 rfl ?_
  refine gi_istore_n (n := 27) hX [(3, .int (0 : Int32)), (2, .int s0), (0, .ref (Ω.1 6)), (1, .ref (Ω.1 q1))] dX6_readBag_26 rfl rfl rfl rfl ?_
  refine gi_sub [2, 3, 1, 0] rfl ?_
  have key := lp_ind (f := (fun a : gV × Int32 => f_X6_readBag_B27 q1 s0 a.2 a.1)) (P := (fun a : gV × Int32 => gx_G Γ Ω LX (gx_Q Γ Ω LX none v0) 4 a.1 27 [(0, .ref (Ω.1 6)), (1, .ref (Ω.1 q1)), (2, .int s0), (3, .int a.2)] [])) (Z := (fun z : gV => gx_G Γ Ω LX (gx_Q Γ Ω LX none v0) 4 z 54 [] [])) (fun a o h hc hz => t_X6_readBag_B27 hX hR q1 hq1 s0 a.2 a.1 h (fun c0 c1 e => hc (c0, c1) e) (fun z0 e => hz z0 e)) fu
  obtain ⟨v1, e0, h⟩ := bx1_some h
  refine key (v, (0 : Int32)) _ e0 ?_
  show gx_G Γ Ω LX (gx_Q Γ Ω LX none v0) 4 v1 54 [] []
  exact gi_vret hX rfl dX6_readBag_54 h
set_option maxRecDepth 20000 in
theorem t_X6_readBag {Γ : gC} {Ω : gO} {v0 : gV} (hX : gx_X Γ Ω cX6_readBag RX6 4 (none)) (hR : Γ.2.2.2.1 = gx_R 2) (q1 : Nat) (hq1 : kT q1 = true) (v : gV) (h : f_X6_readBag q1 v = some v0) : gx_G Γ Ω LX (gx_Q Γ Ω LX none v0) 4 v 0 [(0, .ref (Ω.1 6)), (1, .ref (Ω.1 q1))] [] := by
  rw [f_X6_readBag] at h
  refine gi_aload_n (n := 1) hX 0 dX6_readBag_0 rfl rfl rfl ?_
  refine gi_getR (n := 4) hX 7 kc_X6 ly_X6 rfl rfl fl_X6_33 dX6_readBag_1 rfl ?_
  refine gi_iconst (x := (0 : Int32)) (n := 5) hX rfl dX6_readBag_4 rfl ?_
  refine gi_putI (n := 8) hX 1 kc_X0 (ly_B (rfl : kB 13 = true)) rfl rfl fl_X6_72 rfl rfl dX6_readBag_5 rfl h (fun v1 h => ?_)
  refine gi_aload_n (n := 9) hX 1 dX6_readBag_8 rfl rfl rfl ?_
  obtain ⟨r4, v2, e3, h⟩ := bi_some h
  refine gi_virtI (st := []) (n := 12) hX hR kc_X5 (ly_T hq1) mv_X5_faultAsBag ml_X6_73 (m_X5_faultAsBag Γ.2.1 Ω q1 hq1 v1 e3) rfl ⟨rfl, rfl⟩ rfl dX6_readBag_9 rfl rfl ?_
  refine gi_iconst (x := (-1 : Int32)) (n := 13) hX rfl dX6_readBag_12 rfl ?_
  refine gi_icmp_ne (tgt := 23) (n := 16) hX dX6_readBag_13 rfl rfl h (fun h => ?_) (fun h => ?_)
  · refine gi_iconst (x := (0 : Int32)) (n := 24) hX rfl dX6_readBag_23 rfl ?_
    exact t_X6_readBag_J24 hX hR q1 hq1 (0 : Int32) v2 h
  · refine gi_aload_n (n := 17) hX 1 dX6_readBag_16 rfl rfl rfl ?_
    refine gi_getI (n := 20) hX 1 kc_X5 (ly_T hq1) rfl rfl fl_X6_59 dX6_readBag_17 rfl ?_
    refine gi_goto (n := 24) hX dX6_readBag_20 rfl ?_
    exact t_X6_readBag_J24 hX hR q1 hq1 (v2.1 q1 1) v2 h
theorem m_X6_readBag (l : Launch) (Ω : gO) (q1 : Nat) (hq1 : kT q1 = true) (v : gV) {v0 : gV} (h : f_X6_readBag q1 v = some v0) : gx_M l Ω LX yX6_readBag cX6_readBag 4 (none) 2 [.ref (Ω.1 6), .ref (Ω.1 q1)] v none v0 := gx_start (lv := [(0, .ref (Ω.1 6)), (1, .ref (Ω.1 q1))]) (by decide +kernel) (Nat.le_of_ble_eq_true rfl) rfl (fun Γ _ hR hX => t_X6_readBag hX hR q1 hq1 v h)
set_option maxRecDepth 20000 in
theorem t_X6_readRiders_B42 {Γ : gC} {Ω : gO} {v0 : gV} {o : (gV × Int32) ⊕ (gV)} (hX : gx_X Γ Ω cX6_readRiders RX6 3 (none)) (hR : Γ.2.2.2.1 = gx_R 2) (q1 : Nat) (hq1 : kT q1 = true) (x2 : Int32) (v : gV) (h : f_X6_readRiders_B42 q1 x2 v = some o) (hc : ∀ c0 c1, o = .inl (c0, c1) → gx_G Γ Ω LX (gx_Q Γ Ω LX none v0) 3 c0 42 [(0, .ref (Ω.1 6)), (1, .ref (Ω.1 q1)), (2, .int c1)] []) (hz : ∀ z0, o = .inr z0 → gx_G Γ Ω LX (gx_Q Γ Ω LX none v0) 3 z0 135 [] []) : gx_G Γ Ω LX (gx_Q Γ Ω LX none v0) 3 v 42 [(0, .ref (Ω.1 6)), (1, .ref (Ω.1 q1)), (2, .int x2)] [] := by
  rw [f_X6_readRiders_B42] at h
  refine gi_iload_n (n := 43) hX 2 dX6_readRiders_42 rfl rfl rfl ?_
  refine gi_aload_n (n := 44) hX 0 dX6_readRiders_43 rfl rfl rfl ?_
  refine gi_getI (n := 47) hX 0 kc_X6 ly_X6 rfl rfl fl_X6_62 dX6_readRiders_44 rfl ?_
  refine gi_icmp_ge (tgt := 135) (n := 50) hX dX6_readRiders_47 rfl rfl h (fun h => ?_) (fun h => ?_)
  · refine gi_sub [] rfl ?_
    exact hz _ (Option.some.inj h).symm
  · refine gi_aload_n (n := 51) hX 0 dX6_readRiders_50 rfl rfl rfl ?_
    refine gi_getR (n := 54) hX 1 kc_X6 ly_X6 rfl rfl fl_X6_9 dX6_readRiders_51 rfl ?_
    refine gi_iload_n (n := 55) hX 2 dX6_readRiders_54 rfl rfl rfl ?_
    refine gi_aload_n (n := 56) hX 1 dX6_readRiders_55 rfl rfl rfl ?_
    refine gi_getR (n := 59) hX 0 kc_X5 (ly_T hq1) rfl rfl fl_X6_65 dX6_readRiders_56 rfl ?_
    refine gi_iconst (x := (5 : Int32)) (n := 60) hX rfl dX6_readRiders_59 rfl ?_
    refine gi_iload_n (n := 61) hX 2 dX6_readRiders_60 rfl rfl rfl ?_
    refine gi_imul (n := 62) hX dX6_readRiders_61 rfl ?_
    refine gi_iald (n := 63) hX (ly_Tk hq1) dX6_readRiders_62 rfl h (fun h => ?_)
    refine gi_bipush (x := (97 : Int32)) (n := 65) hX rfl dX6_readRiders_63 rfl ?_
    refine gi_isub (n := 66) hX dX6_readRiders_65 rfl ?_
    refine gi_iast (n := 67) hX ly_7 dX6_readRiders_66 rfl h (fun v1 h => ?_)
    refine gi_aload_n (n := 68) hX 0 dX6_readRiders_67 rfl rfl rfl ?_
    refine gi_getR (n := 71) hX 2 kc_X6 ly_X6 rfl rfl fl_X6_15 dX6_readRiders_68 rfl ?_
    refine gi_iload_n (n := 72) hX 2 dX6_readRiders_71 rfl rfl rfl ?_
    refine gi_aload_n (n := 73) hX 1 dX6_readRiders_72 rfl rfl rfl ?_
    refine gi_getR (n := 76) hX 0 kc_X5 (ly_T hq1) rfl rfl fl_X6_65 dX6_readRiders_73 rfl ?_
    refine gi_iconst (x := (5 : Int32)) (n := 77) hX rfl dX6_readRiders_76 rfl ?_
    refine gi_iload_n (n := 78) hX 2 dX6_readRiders_77 rfl rfl rfl ?_
    refine gi_imul (n := 79) hX dX6_readRiders_78 rfl ?_
    refine gi_iconst (x := (1 : Int32)) (n := 80) hX rfl dX6_readRiders_79 rfl ?_
    refine gi_iadd (n := 81) hX dX6_readRiders_80 rfl ?_
    refine gi_iald (n := 82) hX (ly_Tk hq1) dX6_readRiders_81 rfl h (fun h => ?_)
    refine gi_bipush (x := (48 : Int32)) (n := 84) hX rfl dX6_readRiders_82 rfl ?_
    refine gi_isub (n := 85) hX dX6_readRiders_84 rfl ?_
    refine gi_iast (n := 86) hX ly_8 dX6_readRiders_85 rfl h (fun v2 h => ?_)
    refine gi_aload_n (n := 87) hX 0 dX6_readRiders_86 rfl rfl rfl ?_
    refine gi_getR (n := 90) hX 3 kc_X6 ly_X6 rfl rfl fl_X6_18 dX6_readRiders_87 rfl ?_
    refine gi_iload_n (n := 91) hX 2 dX6_readRiders_90 rfl rfl rfl ?_
    refine gi_aload_n (n := 92) hX 1 dX6_readRiders_91 rfl rfl rfl ?_
    refine gi_getR (n := 95) hX 0 kc_X5 (ly_T hq1) rfl rfl fl_X6_65 dX6_readRiders_92 rfl ?_
    refine gi_iconst (x := (5 : Int32)) (n := 96) hX rfl dX6_readRiders_95 rfl ?_
    refine gi_iload_n (n := 97) hX 2 dX6_readRiders_96 rfl rfl rfl ?_
    refine gi_imul (n := 98) hX dX6_readRiders_97 rfl ?_
    refine gi_iconst (x := (2 : Int32)) (n := 99) hX rfl dX6_readRiders_98 rfl ?_
    refine gi_iadd (n := 100) hX dX6_readRiders_99 rfl ?_
    refine gi_iald (n := 101) hX (ly_Tk hq1) dX6_readRiders_100 rfl h (fun h => ?_)
    refine gi_bipush (x := (48 : Int32)) (n := 103) hX rfl dX6_readRiders_101 rfl ?_
    refine gi_isub (n := 104) hX dX6_readRiders_103 rfl ?_
    refine gi_iast (n := 105) hX ly_9 dX6_readRiders_104 rfl h (fun v3 h => ?_)
    refine gi_aload_n (n := 106) hX 0 dX6_readRiders_105 rfl rfl rfl ?_
    refine gi_getR (n := 109) hX 4 kc_X6 ly_X6 rfl rfl fl_X6_21 dX6_readRiders_106 rfl ?_
    refine gi_iload_n (n := 110) hX 2 dX6_readRiders_109 rfl rfl rfl ?_
    refine gi_aload_n (n := 111) hX 1 dX6_readRiders_110 rfl rfl rfl ?_
    refine gi_getR (n := 114) hX 0 kc_X5 (ly_T hq1) rfl rfl fl_X6_65 dX6_readRiders_111 rfl ?_
    refine gi_iconst (x := (5 : Int32)) (n := 115) hX rfl dX6_readRiders_114 rfl ?_
    refine gi_iload_n (n := 116) hX 2 dX6_readRiders_115 rfl rfl rfl ?_
    refine gi_imul (n := 117) hX dX6_readRiders_116 rfl ?_
    refine gi_iconst (x := (3 : Int32)) (n := 118) hX rfl dX6_readRiders_117 rfl ?_
    refine gi_iadd (n := 119) hX dX6_readRiders_118 rfl ?_
    refine gi_iald (n := 120) hX (ly_Tk hq1) dX6_readRiders_119 rfl h (fun h => ?_)
    refine gi_bipush (x := (97 : Int32)) (n := 122) hX rfl dX6_readRiders_120 rfl ?_
    refine gi_isub (n := 123) hX dX6_readRiders_122 rfl ?_
    refine gi_iast (n := 124) hX ly_10 dX6_readRiders_123 rfl h (fun v4 h => ?_)
    refine gi_aload_n (n := 125) hX 0 dX6_readRiders_124 rfl rfl rfl ?_
    refine gi_iload_n (n := 126) hX 2 dX6_readRiders_125 rfl rfl rfl ?_
    obtain ⟨v5, e6, h⟩ := bv_some h
    refine gi_virtV (st := []) (n := 129) hX hR kc_X6 ly_X6 mv_X6_placeOnBoard ml_X6_68 (m_X6_placeOnBoard Γ.2.1 Ω x2 v4 e6) rfl ⟨rfl, rfl⟩ rfl dX6_readRiders_126 rfl rfl ?_
    refine gi_iinc (z := (1 : Int32)) (n := 132) hX 2 [(2, .int (x2 + (1 : Int32))), (0, .ref (Ω.1 6)), (1, .ref (Ω.1 q1))] dX6_readRiders_129 rfl rfl rfl rfl rfl rfl ?_
    refine gi_goto (n := 42) hX dX6_readRiders_132 rfl ?_
    refine gi_sub [1, 2, 0] rfl ?_
    exact hc _ _ (Option.some.inj h).symm
set_option maxRecDepth 20000 in
theorem t_X6_readRiders_J37 {Γ : gC} {Ω : gO} {v0 : gV} (hX : gx_X Γ Ω cX6_readRiders RX6 3 (none)) (hR : Γ.2.2.2.1 = gx_R 2) (q1 : Nat) (hq1 : kT q1 = true) (s0 : Int32) (v : gV) (h : f_X6_readRiders_J37 q1 s0 v = some v0) : gx_G Γ Ω LX (gx_Q Γ Ω LX none v0) 3 v 37 [(0, .ref (Ω.1 6)), (1, .ref (Ω.1 q1))] [.int s0, .ref (Ω.1 6)] := by
  rw [f_X6_readRiders_J37] at h
  refine gi_putI (n := 40) hX 0 kc_X6 ly_X6 rfl rfl fl_X6_62 rfl rfl dX6_readRiders_37 rfl h (fun v1 h => ?_)
  refine gi_iconst (x := (0 : Int32)) (n := 41) hX rfl dX6_readRiders_40 rfl ?_
  refine gi_istore_n (n := 42) hX [(2, .int (0 : Int32)), (0, .ref (Ω.1 6)), (1, .ref (Ω.1 q1))] dX6_readRiders_41 rfl rfl rfl rfl ?_
  refine gi_sub [1, 2, 0] rfl ?_
  have key := lp_ind (f := (fun a : gV × Int32 => f_X6_readRiders_B42 q1 a.2 a.1)) (P := (fun a : gV × Int32 => gx_G Γ Ω LX (gx_Q Γ Ω LX none v0) 3 a.1 42 [(0, .ref (Ω.1 6)), (1, .ref (Ω.1 q1)), (2, .int a.2)] [])) (Z := (fun z : gV => gx_G Γ Ω LX (gx_Q Γ Ω LX none v0) 3 z 135 [] [])) (fun a o h hc hz => t_X6_readRiders_B42 hX hR q1 hq1 a.2 a.1 h (fun c0 c1 e => hc (c0, c1) e) (fun z0 e => hz z0 e)) fu
  obtain ⟨v2, e0, h⟩ := bx1_some h
  refine key (v1, (0 : Int32)) _ e0 ?_
  show gx_G Γ Ω LX (gx_Q Γ Ω LX none v0) 3 v2 135 [] []
  exact gi_vret hX rfl dX6_readRiders_135 h
set_option maxRecDepth 20000 in
theorem t_X6_readRiders {Γ : gC} {Ω : gO} {v0 : gV} (hX : gx_X Γ Ω cX6_readRiders RX6 3 (none)) (hR : Γ.2.2.2.1 = gx_R 2) (q1 : Nat) (hq1 : kT q1 = true) (v : gV) (h : f_X6_readRiders q1 v = some v0) : gx_G Γ Ω LX (gx_Q Γ Ω LX none v0) 3 v 0 [(0, .ref (Ω.1 6)), (1, .ref (Ω.1 q1))] [] := by
  rw [f_X6_readRiders] at h
  refine gi_aload_n (n := 1) hX 0 dX6_readRiders_0 rfl rfl rfl ?_
  refine gi_getR (n := 4) hX 5 kc_X6 ly_X6 rfl rfl fl_X6_24 dX6_readRiders_1 rfl ?_
  refine gi_iconst (x := (0 : Int32)) (n := 5) hX rfl dX6_readRiders_4 rfl ?_
  obtain ⟨v1, e2, h⟩ := bv_some h
  refine gi_statV (st := []) (n := 8) hX hR ms_J7_fill_53178 ml_X6_47 (m_J7_fill_53178 Γ.2.1 Ω LX 10 11 ly_11 (0 : Int32) v e2) rfl ⟨rfl, rfl⟩ rfl dX6_readRiders_5 rfl rfl ?_
  refine gi_aload_n (n := 9) hX 0 dX6_readRiders_8 rfl rfl rfl ?_
  refine gi_getR (n := 12) hX 6 kc_X6 ly_X6 rfl rfl fl_X6_27 dX6_readRiders_9 rfl ?_
  refine gi_iconst (x := (0 : Int32)) (n := 13) hX rfl dX6_readRiders_12 rfl ?_
  obtain ⟨v3, e4, h⟩ := bv_some h
  refine gi_statV (st := []) (n := 16) hX hR ms_J7_fill_53178 ml_X6_47 (m_J7_fill_53178 Γ.2.1 Ω LX 10 12 ly_12 (0 : Int32) v1 e4) rfl ⟨rfl, rfl⟩ rfl dX6_readRiders_13 rfl rfl ?_
  refine gi_aload_n (n := 17) hX 0 dX6_readRiders_16 rfl rfl rfl ?_
  refine gi_aload_n (n := 18) hX 1 dX6_readRiders_17 rfl rfl rfl ?_
  obtain ⟨r7, v5, e6, h⟩ := bi_some h
  refine gi_virtI (st := [.ref (Ω.1 6)]) (n := 21) hX hR kc_X5 (ly_T hq1) mv_X5_faultAsRiders ml_X6_53 (m_X5_faultAsRiders Γ.2.1 Ω q1 hq1 v3 e6) rfl ⟨rfl, rfl⟩ rfl dX6_readRiders_18 rfl rfl ?_
  refine gi_iconst (x := (-1 : Int32)) (n := 22) hX rfl dX6_readRiders_21 rfl ?_
  refine gi_icmp_ne (tgt := 36) (n := 25) hX dX6_readRiders_22 rfl rfl h (fun h => ?_) (fun h => ?_)
  · refine gi_iconst (x := (0 : Int32)) (n := 37) hX rfl dX6_readRiders_36 rfl ?_
    exact t_X6_readRiders_J37 hX hR q1 hq1 (0 : Int32) v5 h
  · refine gi_aload_n (n := 26) hX 1 dX6_readRiders_25 rfl rfl rfl ?_
    refine gi_getI (n := 29) hX 1 kc_X5 (ly_T hq1) rfl rfl fl_X6_59 dX6_readRiders_26 rfl ?_
    refine gi_iconst (x := (1 : Int32)) (n := 30) hX rfl dX6_readRiders_29 rfl ?_
    refine gi_iadd (n := 31) hX dX6_readRiders_30 rfl ?_
    refine gi_iconst (x := (5 : Int32)) (n := 32) hX rfl dX6_readRiders_31 rfl ?_
    refine gi_idiv (n := 33) hX (by decide) dX6_readRiders_32 rfl ?_
    refine gi_goto (n := 37) hX dX6_readRiders_33 rfl ?_
    exact t_X6_readRiders_J37 hX hR q1 hq1 (((v5.1 q1 1) + (1 : Int32)) / (5 : Int32)) v5 h
theorem m_X6_readRiders (l : Launch) (Ω : gO) (q1 : Nat) (hq1 : kT q1 = true) (v : gV) {v0 : gV} (h : f_X6_readRiders q1 v = some v0) : gx_M l Ω LX yX6_readRiders cX6_readRiders 3 (none) 2 [.ref (Ω.1 6), .ref (Ω.1 q1)] v none v0 := gx_start (lv := [(0, .ref (Ω.1 6)), (1, .ref (Ω.1 q1))]) (by decide +kernel) (Nat.le_of_ble_eq_true rfl) rfl (fun Γ _ hR hX => t_X6_readRiders hX hR q1 hq1 v h)
