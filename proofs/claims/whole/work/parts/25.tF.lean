set_option maxRecDepth 20000 in
theorem t_X8_hadOf_J47 {Γ : gC} {Ω : gO} {r0 : Int32} {v0 : gV} {o : (gV × Int32 × Int32) ⊕ (gV × Int32)} (hX : gx_X Γ Ω cX8_hadOf RX8 5 (some .int)) (hR : Γ.2.2.2.1 = gx_R 7) (x1 : Int32) (x2 : Int32) (x4 : Int32) (s0 : Int32) (s1 : Int32) (v : gV) (h : f_X8_hadOf_J47 x1 x2 x4 s0 s1 v = some o) (hc : ∀ c0 c1 c2, o = .inl (c0, c1, c2) → gx_G Γ Ω LM (gx_Q Γ Ω LM (some (.int r0)) v0) 5 c0 14 [(0, .ref (Ω.1 0)), (1, .int x1), (2, .int x2), (3, .int c1), (4, .int c2)] []) (hz : ∀ z0 z1, o = .inr (z0, z1) → gx_G Γ Ω LM (gx_Q Γ Ω LM (some (.int r0)) v0) 5 z0 55 [(0, .ref (Ω.1 0)), (1, .int x1), (2, .int x2), (3, .int z1)] []) : gx_G Γ Ω LM (gx_Q Γ Ω LM (some (.int r0)) v0) 5 v 47 [(0, .ref (Ω.1 0)), (1, .int x1), (2, .int x2), (4, .int x4)] [.int s0, .int s1] := by
  rw [f_X8_hadOf_J47] at h
  refine gi_ior (n := 48) hX dX8_hadOf_47 rfl ?_
  refine gi_topI h (fun u1 h => ?_)
  refine gi_istore_n (n := 49) hX [(3, .int u1), (0, .ref (Ω.1 0)), (1, .int x1), (2, .int x2), (4, .int x4)] dX8_hadOf_48 rfl rfl rfl rfl ?_
  refine gi_iinc (z := (1 : Int32)) (n := 52) hX 4 [(4, .int (x4 + (1 : Int32))), (3, .int u1), (0, .ref (Ω.1 0)), (1, .int x1), (2, .int x2)] dX8_hadOf_49 rfl rfl rfl rfl rfl rfl ?_
  refine gi_goto (n := 14) hX dX8_hadOf_52 rfl ?_
  refine gi_sub [2, 3, 4, 1, 0] rfl ?_
  exact hc _ _ _ (Option.some.inj h).symm
set_option maxRecDepth 20000 in
theorem t_X8_hadOf_B14 {Γ : gC} {Ω : gO} {r0 : Int32} {v0 : gV} {o : (gV × Int32 × Int32) ⊕ (gV × Int32)} (hX : gx_X Γ Ω cX8_hadOf RX8 5 (some .int)) (hR : Γ.2.2.2.1 = gx_R 7) (x1 : Int32) (x2 : Int32) (x3 : Int32) (x4 : Int32) (v : gV) (h : f_X8_hadOf_B14 x1 x2 x3 x4 v = some o) (hc : ∀ c0 c1 c2, o = .inl (c0, c1, c2) → gx_G Γ Ω LM (gx_Q Γ Ω LM (some (.int r0)) v0) 5 c0 14 [(0, .ref (Ω.1 0)), (1, .int x1), (2, .int x2), (3, .int c1), (4, .int c2)] []) (hz : ∀ z0 z1, o = .inr (z0, z1) → gx_G Γ Ω LM (gx_Q Γ Ω LM (some (.int r0)) v0) 5 z0 55 [(0, .ref (Ω.1 0)), (1, .int x1), (2, .int x2), (3, .int z1)] []) : gx_G Γ Ω LM (gx_Q Γ Ω LM (some (.int r0)) v0) 5 v 14 [(0, .ref (Ω.1 0)), (1, .int x1), (2, .int x2), (3, .int x3), (4, .int x4)] [] := by
  rw [f_X8_hadOf_B14] at h
  refine gi_iload (n := 16) hX 4 dX8_hadOf_14 rfl rfl ?_
  refine gi_bipush (x := (8 : Int32)) (n := 18) hX rfl dX8_hadOf_16 rfl ?_
  refine gi_icmp_ge (tgt := 55) (n := 21) hX dX8_hadOf_18 rfl rfl h (fun h => ?_) (fun h => ?_)
  · refine gi_sub [0, 1, 2, 3] rfl ?_
    exact hz _ _ (Option.some.inj h).symm
  · refine gi_aload_n (n := 22) hX 0 dX8_hadOf_21 rfl rfl rfl ?_
    refine gi_getR (n := 25) hX 8 kc_X8 ly_X8 rfl rfl fl_X8_28 dX8_hadOf_22 rfl ?_
    refine gi_iconst (x := (4 : Int32)) (n := 26) hX rfl dX8_hadOf_25 rfl ?_
    refine gi_iload_n (n := 27) hX 1 dX8_hadOf_26 rfl rfl rfl ?_
    refine gi_imul (n := 28) hX dX8_hadOf_27 rfl ?_
    refine gi_iload (n := 30) hX 4 dX8_hadOf_28 rfl rfl ?_
    refine gi_iast (n := 31) hX lm_7 dX8_hadOf_30 rfl h (fun v1 h => ?_)
    refine gi_iload_n (n := 32) hX 3 dX8_hadOf_31 rfl rfl rfl ?_
    refine gi_aload_n (n := 33) hX 0 dX8_hadOf_32 rfl rfl rfl ?_
    obtain ⟨r4, v2, e3, h⟩ := bi_some h
    refine gi_virtI (st := [.int x3]) (n := 36) hX hR kc_X8 ly_X8 mv_X8_isSeen ml_X8_253 (m_X8_isSeen Γ.2.1 Ω v1 e3) rfl ⟨rfl, rfl⟩ rfl dX8_hadOf_33 rfl rfl ?_
    refine gi_if_eq (tgt := 46) (n := 39) hX dX8_hadOf_36 rfl rfl h (fun h => ?_) (fun h => ?_)
    · refine gi_iconst (x := (0 : Int32)) (n := 47) hX rfl dX8_hadOf_46 rfl ?_
      refine gi_sub [0, 1, 2, 4] rfl ?_
      exact t_X8_hadOf_J47 hX hR x1 x2 x4 (0 : Int32) x3 v2 h hc hz
    · refine gi_iconst (x := (1 : Int32)) (n := 40) hX rfl dX8_hadOf_39 rfl ?_
      refine gi_iload (n := 42) hX 4 dX8_hadOf_40 rfl rfl ?_
      refine gi_ishl (n := 43) hX dX8_hadOf_42 rfl ?_
      refine gi_goto (n := 47) hX dX8_hadOf_43 rfl ?_
      refine gi_sub [0, 1, 2, 4] rfl ?_
      exact t_X8_hadOf_J47 hX hR x1 x2 x4 ((1 : Int32) <<< (x4 &&& 31)) x3 v2 h hc hz
set_option maxRecDepth 20000 in
theorem t_X8_hadOf {Γ : gC} {Ω : gO} {r0 : Int32} {v0 : gV} (hX : gx_X Γ Ω cX8_hadOf RX8 5 (some .int)) (hR : Γ.2.2.2.1 = gx_R 7) (x1 : Int32) (v : gV) (h : f_X8_hadOf x1 v = some (r0, v0)) : gx_G Γ Ω LM (gx_Q Γ Ω LM (some (.int r0)) v0) 5 v 0 [(0, .ref (Ω.1 0)), (1, .int x1)] [] := by
  rw [f_X8_hadOf] at h
  refine gi_aload_n (n := 1) hX 0 dX8_hadOf_0 rfl rfl rfl ?_
  refine gi_getR (n := 4) hX 8 kc_X8 ly_X8 rfl rfl fl_X8_28 dX8_hadOf_1 rfl ?_
  refine gi_iconst (x := (4 : Int32)) (n := 5) hX rfl dX8_hadOf_4 rfl ?_
  refine gi_iload_n (n := 6) hX 1 dX8_hadOf_5 rfl rfl rfl ?_
  refine gi_imul (n := 7) hX dX8_hadOf_6 rfl ?_
  refine gi_iald (n := 8) hX lm_7 dX8_hadOf_7 rfl h (fun h => ?_)
  refine gi_topI h (fun u1 h => ?_)
  refine gi_istore_n (n := 9) hX [(2, .int u1), (0, .ref (Ω.1 0)), (1, .int x1)] dX8_hadOf_8 rfl rfl rfl rfl ?_
  refine gi_iconst (x := (0 : Int32)) (n := 10) hX rfl dX8_hadOf_9 rfl ?_
  refine gi_istore_n (n := 11) hX [(3, .int (0 : Int32)), (2, .int u1), (0, .ref (Ω.1 0)), (1, .int x1)] dX8_hadOf_10 rfl rfl rfl rfl ?_
  refine gi_iconst (x := (0 : Int32)) (n := 12) hX rfl dX8_hadOf_11 rfl ?_
  refine gi_istore (n := 14) hX [(4, .int (0 : Int32)), (3, .int (0 : Int32)), (2, .int u1), (0, .ref (Ω.1 0)), (1, .int x1)] dX8_hadOf_12 rfl rfl rfl ?_
  refine gi_sub [3, 4, 2, 1, 0] rfl ?_
  have key := lp_ind (f := (fun a : gV × Int32 × Int32 => f_X8_hadOf_B14 x1 u1 a.2.1 a.2.2 a.1)) (P := (fun a : gV × Int32 × Int32 => gx_G Γ Ω LM (gx_Q Γ Ω LM (some (.int r0)) v0) 5 a.1 14 [(0, .ref (Ω.1 0)), (1, .int x1), (2, .int u1), (3, .int a.2.1), (4, .int a.2.2)] [])) (Z := (fun z : gV × Int32 => gx_G Γ Ω LM (gx_Q Γ Ω LM (some (.int r0)) v0) 5 z.1 55 [(0, .ref (Ω.1 0)), (1, .int x1), (2, .int u1), (3, .int z.2)] [])) (fun a o h hc hz => t_X8_hadOf_B14 hX hR x1 u1 a.2.1 a.2.2 a.1 h (fun c0 c1 c2 e => hc (c0, c1, c2) e) (fun z0 z1 e => hz (z0, z1) e)) fu
  obtain ⟨v2, y3, e0, h⟩ := bx2_some h
  refine key (v, (0 : Int32), (0 : Int32)) _ e0 ?_
  show gx_G Γ Ω LM (gx_Q Γ Ω LM (some (.int r0)) v0) 5 v2 55 [(0, .ref (Ω.1 0)), (1, .int x1), (2, .int u1), (3, .int y3)] []
  refine gi_aload_n (n := 56) hX 0 dX8_hadOf_55 rfl rfl rfl ?_
  refine gi_getR (n := 59) hX 8 kc_X8 ly_X8 rfl rfl fl_X8_28 dX8_hadOf_56 rfl ?_
  refine gi_iconst (x := (4 : Int32)) (n := 60) hX rfl dX8_hadOf_59 rfl ?_
  refine gi_iload_n (n := 61) hX 1 dX8_hadOf_60 rfl rfl rfl ?_
  refine gi_imul (n := 62) hX dX8_hadOf_61 rfl ?_
  refine gi_iload_n (n := 63) hX 2 dX8_hadOf_62 rfl rfl rfl ?_
  refine gi_iast (n := 64) hX lm_7 dX8_hadOf_63 rfl h (fun v4 h => ?_)
  refine gi_iload_n (n := 65) hX 3 dX8_hadOf_64 rfl rfl rfl ?_
  exact gi_iret hX rfl dX8_hadOf_65 h
theorem m_X8_hadOf (l : Launch) (Ω : gO) (x1 : Int32) (v : gV) {r0 : Int32} {v0 : gV} (h : f_X8_hadOf x1 v = some (r0, v0)) : gx_M l Ω LM yX8_hadOf cX8_hadOf 5 (some .int) 7 [.ref (Ω.1 0), .int x1] v (some (.int r0)) v0 := gx_start (lv := [(0, .ref (Ω.1 0)), (1, .int x1)]) (by decide +kernel) (Nat.le_of_ble_eq_true rfl) rfl (fun Γ _ hR hX => t_X8_hadOf hX hR x1 v h)
set_option maxRecDepth 20000 in
theorem t_X8_part_B6 {Γ : gC} {Ω : gO} {r0 : Int64} {v0 : gV} {o : (gV × Int64 × Int64) ⊕ (gV × Int64)} (hX : gx_X Γ Ω cX8_part RX8 11 (some .long)) (hR : Γ.2.2.2.1 = gx_R 0) (x0 : Int64) (x2 : Int64) (x4 : Int32) (x5 : Int64) (x7 : Int64) (v : gV) (h : f_X8_part_B6 x0 x2 x4 x5 x7 v = some o) (hc : ∀ c0 c1 c2, o = .inl (c0, c1, c2) → gx_G Γ Ω LM (gx_Q Γ Ω LM (some (.long r0)) v0) 11 c0 6 [(0, .long x0), (2, .long x2), (4, .int x4), (5, .long c1), (7, .long c2)] []) (hz : ∀ z0 z1, o = .inr (z0, z1) → gx_G Γ Ω LM (gx_Q Γ Ω LM (some (.long r0)) v0) 11 z0 31 [(0, .long x0), (2, .long x2), (4, .int x4), (5, .long z1)] []) : gx_G Γ Ω LM (gx_Q Γ Ω LM (some (.long r0)) v0) 11 v 6 [(0, .long x0), (2, .long x2), (4, .int x4), (5, .long x5), (7, .long x7)] [] := by
  rw [f_X8_part_B6] at h
  refine gi_lload (n := 8) hX 4 dX8_part_6 rfl rfl ?_
  refine gi_lconst (x := (0 : Int64)) (n := 9) hX rfl dX8_part_8 rfl ?_
  refine gi_lcmp (n := 10) hX dX8_part_9 rfl ?_
  refine gi_if_eq (tgt := 31) (n := 13) hX dX8_part_10 rfl rfl h (fun h => ?_) (fun h => ?_)
  · refine gi_sub [0, 1, 2, 3] rfl ?_
    exact hz _ _ (Option.some.inj h).symm
  · refine gi_lload (n := 15) hX 3 dX8_part_13 rfl rfl ?_
    refine gi_lload (n := 17) hX 4 dX8_part_15 rfl rfl ?_
    obtain ⟨h9, h⟩ := ifn_some h
    refine gi_lrem (n := 18) hX h9 dX8_part_17 rfl ?_
    refine gi_topJ h (fun u1 h => ?_)
    refine gi_lstore (n := 20) hX [(9, .long u1), (0, .long x0), (2, .long x2), (4, .int x4), (5, .long x5), (7, .long x7)] dX8_part_18 rfl rfl rfl ?_
    refine gi_lload (n := 22) hX 5 dX8_part_20 rfl rfl ?_
    refine gi_lstore (n := 24) hX [(5, .long x7), (9, .long u1), (0, .long x0), (2, .long x2), (4, .int x4), (7, .long x7)] dX8_part_22 rfl rfl rfl ?_
    refine gi_lload (n := 26) hX 1 dX8_part_24 rfl rfl ?_
    refine gi_lstore (n := 28) hX [(7, .long u1), (5, .long x7), (9, .long u1), (0, .long x0), (2, .long x2), (4, .int x4)] dX8_part_26 rfl rfl rfl ?_
    refine gi_goto (n := 6) hX dX8_part_28 rfl ?_
    refine gi_sub [3, 4, 5, 1, 0] rfl ?_
    exact hc _ _ _ (Option.some.inj h).symm
set_option maxRecDepth 20000 in
theorem t_X8_part_J41 {Γ : gC} {Ω : gO} {r0 : Int64} {v0 : gV} (hX : gx_X Γ Ω cX8_part RX8 11 (some .long)) (hR : Γ.2.2.2.1 = gx_R 0) (x5 : Int64) (s0 : Int64) (v : gV) (h : f_X8_part_J41 x5 s0 v = some (r0, v0)) : gx_G Γ Ω LM (gx_Q Γ Ω LM (some (.long r0)) v0) 11 v 41 [(5, .long x5)] [.long s0] := by
  rw [f_X8_part_J41] at h
  refine gi_lload (n := 43) hX 0 dX8_part_41 rfl rfl ?_
  obtain ⟨h9, h⟩ := ifn_some h
  refine gi_ldiv (n := 44) hX h9 dX8_part_43 rfl ?_
  exact gi_lret hX rfl dX8_part_44 h
set_option maxRecDepth 20000 in
theorem t_X8_part {Γ : gC} {Ω : gO} {r0 : Int64} {v0 : gV} (hX : gx_X Γ Ω cX8_part RX8 11 (some .long)) (hR : Γ.2.2.2.1 = gx_R 0) (x0 : Int64) (x2 : Int64) (x4 : Int32) (v : gV) (h : f_X8_part x0 x2 x4 v = some (r0, v0)) : gx_G Γ Ω LM (gx_Q Γ Ω LM (some (.long r0)) v0) 11 v 0 [(0, .long x0), (2, .long x2), (4, .int x4)] [] := by
  rw [f_X8_part] at h
  refine gi_lload_n (n := 1) hX 0 dX8_part_0 rfl rfl rfl ?_
  refine gi_lstore (n := 3) hX [(5, .long x0), (0, .long x0), (2, .long x2), (4, .int x4)] dX8_part_1 rfl rfl rfl ?_
  refine gi_lload_n (n := 4) hX 2 dX8_part_3 rfl rfl rfl ?_
  refine gi_lstore (n := 6) hX [(7, .long x2), (5, .long x0), (0, .long x0), (2, .long x2), (4, .int x4)] dX8_part_4 rfl rfl rfl ?_
  refine gi_sub [2, 3, 4, 1, 0] rfl ?_
  have key := lp_ind (f := (fun a : gV × Int64 × Int64 => f_X8_part_B6 x0 x2 x4 a.2.1 a.2.2 a.1)) (P := (fun a : gV × Int64 × Int64 => gx_G Γ Ω LM (gx_Q Γ Ω LM (some (.long r0)) v0) 11 a.1 6 [(0, .long x0), (2, .long x2), (4, .int x4), (5, .long a.2.1), (7, .long a.2.2)] [])) (Z := (fun z : gV × Int64 => gx_G Γ Ω LM (gx_Q Γ Ω LM (some (.long r0)) v0) 11 z.1 31 [(0, .long x0), (2, .long x2), (4, .int x4), (5, .long z.2)] [])) (fun a o h hc hz => t_X8_part_B6 hX hR x0 x2 x4 a.2.1 a.2.2 a.1 h (fun c0 c1 c2 e => hc (c0, c1, c2) e) (fun z0 z1 e => hz (z0, z1) e)) fu
  obtain ⟨v1, y2, e0, h⟩ := bx2_some h
  refine key (v, x0, x2) _ e0 ?_
  show gx_G Γ Ω LM (gx_Q Γ Ω LM (some (.long r0)) v0) 11 v1 31 [(0, .long x0), (2, .long x2), (4, .int x4), (5, .long y2)] []
  refine gi_iload (n := 33) hX 2 dX8_part_31 rfl rfl ?_
  refine gi_if_ne (tgt := 40) (n := 36) hX dX8_part_33 rfl rfl h (fun h => ?_) (fun h => ?_)
  · refine gi_lload_n (n := 41) hX 1 dX8_part_40 rfl rfl rfl ?_
    refine gi_sub [3] rfl ?_
    exact t_X8_part_J41 hX hR y2 x2 v1 h
  · refine gi_lload_n (n := 37) hX 0 dX8_part_36 rfl rfl rfl ?_
    refine gi_goto (n := 41) hX dX8_part_37 rfl ?_
    refine gi_sub [3] rfl ?_
    exact t_X8_part_J41 hX hR y2 x0 v1 h
theorem m_X8_part (l : Launch) (Ω : gO) (x0 : Int64) (x2 : Int64) (x4 : Int32) (v : gV) {r0 : Int64} {v0 : gV} (h : f_X8_part x0 x2 x4 v = some (r0, v0)) : gx_M l Ω LM yX8_part cX8_part 11 (some .long) 0 [.long x0, .long x2, .int x4] v (some (.long r0)) v0 := gx_start (lv := [(0, .long x0), (2, .long x2), (4, .int x4)]) (by decide +kernel) (Nat.le_of_ble_eq_true rfl) rfl (fun Γ _ hR hX => t_X8_part hX hR x0 x2 x4 v h)
set_option maxRecDepth 20000 in
theorem t_X8_maybeOf_J106 {Γ : gC} {Ω : gO} {r0 : Int64} {v0 : gV} {o : (gV × Int64 × Int32) ⊕ (gV × Int64)} (hX : gx_X Γ Ω cX8_maybeOf RX8 12 (some .long)) (hR : Γ.2.2.2.1 = gx_R 6) (x1 : Int32) (x2 : Int32) (x3 : Int32) (x4 : Int32) (x5 : Int32) (x6 : Int64) (x8 : Int32) (x11 : Int32) (s0 : Int64) (s1 : Int64) (v : gV) (h : f_X8_maybeOf_J106 x1 x2 x3 x4 x5 x6 x8 x11 s0 s1 v = some o) (hc : ∀ c0 c1 c2, o = .inl (c0, c1, c2) → gx_G Γ Ω LM (gx_Q Γ Ω LM (some (.long r0)) v0) 12 c0 63 [(0, .ref (Ω.1 0)), (1, .int x1), (2, .int x2), (3, .int x3), (4, .int x4), (5, .int x5), (6, .long x6), (8, .int x8), (9, .long c1), (11, .int c2)] []) (hz : ∀ z0 z1, o = .inr (z0, z1) → gx_G Γ Ω LM (gx_Q Γ Ω LM (some (.long r0)) v0) 12 z0 115 [(0, .ref (Ω.1 0)), (1, .int x1), (2, .int x2), (3, .int x3), (4, .int x4), (5, .int x5), (6, .long x6), (8, .int x8), (9, .long z1)] []) : gx_G Γ Ω LM (gx_Q Γ Ω LM (some (.long r0)) v0) 12 v 106 [(0, .ref (Ω.1 0)), (1, .int x1), (2, .int x2), (3, .int x3), (4, .int x4), (5, .int x5), (6, .long x6), (8, .int x8), (11, .int x11)] [.long s0, .long s1] := by
  rw [f_X8_maybeOf_J106] at h
  refine gi_lmul (n := 107) hX dX8_maybeOf_106 rfl ?_
  refine gi_topJ h (fun u1 h => ?_)
  refine gi_lstore (n := 109) hX [(9, .long u1), (0, .ref (Ω.1 0)), (1, .int x1), (2, .int x2), (3, .int x3), (4, .int x4), (5, .int x5), (6, .long x6), (8, .int x8), (11, .int x11)] dX8_maybeOf_107 rfl rfl rfl ?_
  refine gi_iinc (z := (1 : Int32)) (n := 112) hX 9 [(11, .int (x11 + (1 : Int32))), (9, .long u1), (0, .ref (Ω.1 0)), (1, .int x1), (2, .int x2), (3, .int x3), (4, .int x4), (5, .int x5), (6, .long x6), (8, .int x8)] dX8_maybeOf_109 rfl rfl rfl rfl rfl rfl ?_
  refine gi_goto (n := 63) hX dX8_maybeOf_112 rfl ?_
  refine gi_sub [2, 3, 4, 5, 6, 7, 8, 9, 1, 0] rfl ?_
  exact hc _ _ _ (Option.some.inj h).symm
set_option maxRecDepth 20000 in
theorem t_X8_maybeOf_B63 {Γ : gC} {Ω : gO} {r0 : Int64} {v0 : gV} {o : (gV × Int64 × Int32) ⊕ (gV × Int64)} (hX : gx_X Γ Ω cX8_maybeOf RX8 12 (some .long)) (hR : Γ.2.2.2.1 = gx_R 6) (x1 : Int32) (x2 : Int32) (x3 : Int32) (x4 : Int32) (x5 : Int32) (x6 : Int64) (x8 : Int32) (x9 : Int64) (x11 : Int32) (v : gV) (h : f_X8_maybeOf_B63 x1 x2 x3 x4 x5 x6 x8 x9 x11 v = some o) (hc : ∀ c0 c1 c2, o = .inl (c0, c1, c2) → gx_G Γ Ω LM (gx_Q Γ Ω LM (some (.long r0)) v0) 12 c0 63 [(0, .ref (Ω.1 0)), (1, .int x1), (2, .int x2), (3, .int x3), (4, .int x4), (5, .int x5), (6, .long x6), (8, .int x8), (9, .long c1), (11, .int c2)] []) (hz : ∀ z0 z1, o = .inr (z0, z1) → gx_G Γ Ω LM (gx_Q Γ Ω LM (some (.long r0)) v0) 12 z0 115 [(0, .ref (Ω.1 0)), (1, .int x1), (2, .int x2), (3, .int x3), (4, .int x4), (5, .int x5), (6, .long x6), (8, .int x8), (9, .long z1)] []) : gx_G Γ Ω LM (gx_Q Γ Ω LM (some (.long r0)) v0) 12 v 63 [(0, .ref (Ω.1 0)), (1, .int x1), (2, .int x2), (3, .int x3), (4, .int x4), (5, .int x5), (6, .long x6), (8, .int x8), (9, .long x9), (11, .int x11)] [] := by
  rw [f_X8_maybeOf_B63] at h
  refine gi_iload (n := 65) hX 9 dX8_maybeOf_63 rfl rfl ?_
  refine gi_bipush (x := (10 : Int32)) (n := 67) hX rfl dX8_maybeOf_65 rfl ?_
  refine gi_icmp_ge (tgt := 115) (n := 70) hX dX8_maybeOf_67 rfl rfl h (fun h => ?_) (fun h => ?_)
  · refine gi_sub [0, 1, 2, 3, 4, 5, 6, 7, 8] rfl ?_
    exact hz _ _ (Option.some.inj h).symm
  · refine gi_lload (n := 72) hX 8 dX8_maybeOf_70 rfl rfl ?_
    refine gi_iload (n := 74) hX 5 dX8_maybeOf_72 rfl rfl ?_
    refine gi_iload (n := 76) hX 9 dX8_maybeOf_74 rfl rfl ?_
    obtain ⟨r3, v1, e2, h⟩ := bi_some h
    refine gi_statI (st := [.long x9]) (n := 79) hX hR ms_X8_isIn ml_X8_153 (m_X8_isIn Γ.2.1 Ω x5 x11 v e2) rfl ⟨rfl, rfl⟩ rfl dX8_maybeOf_76 rfl rfl ?_
    refine gi_if_ne (tgt := 86) (n := 82) hX dX8_maybeOf_79 rfl rfl h (fun h => ?_) (fun h => ?_)
    · refine gi_iload (n := 88) hX 7 dX8_maybeOf_86 rfl rfl ?_
      refine gi_iload (n := 90) hX 9 dX8_maybeOf_88 rfl rfl ?_
      obtain ⟨r6, v4, e5, h⟩ := bi_some h
      refine gi_statI (st := [.long x9]) (n := 93) hX hR ms_X8_isIn ml_X8_153 (m_X8_isIn Γ.2.1 Ω x8 x11 v1 e5) rfl ⟨rfl, rfl⟩ rfl dX8_maybeOf_90 rfl rfl ?_
      refine gi_if_eq (tgt := 101) (n := 96) hX dX8_maybeOf_93 rfl rfl h (fun h => ?_) (fun h => ?_)
      · refine gi_bipush (x := (16 : Int32)) (n := 103) hX rfl dX8_maybeOf_101 rfl ?_
        refine gi_iload_n (n := 104) hX 1 dX8_maybeOf_103 rfl rfl rfl ?_
        refine gi_isub (n := 105) hX dX8_maybeOf_104 rfl ?_
        refine gi_i2l (n := 106) hX dX8_maybeOf_105 rfl ?_
        refine gi_sub [0, 1, 2, 3, 4, 5, 6, 7, 9] rfl ?_
        exact t_X8_maybeOf_J106 hX hR x1 x2 x3 x4 x5 x6 x8 x11 ((((16 : Int32) - x1)).toInt64) x9 v4 h hc hz
      · refine gi_iload_n (n := 97) hX 1 dX8_maybeOf_96 rfl rfl rfl ?_
        refine gi_i2l (n := 98) hX dX8_maybeOf_97 rfl ?_
        refine gi_goto (n := 106) hX dX8_maybeOf_98 rfl ?_
        refine gi_sub [0, 1, 2, 3, 4, 5, 6, 7, 9] rfl ?_
        exact t_X8_maybeOf_J106 hX hR x1 x2 x3 x4 x5 x6 x8 x11 ((x1).toInt64) x9 v4 h hc hz
    · refine gi_lconst (x := (1 : Int64)) (n := 83) hX rfl dX8_maybeOf_82 rfl ?_
      refine gi_goto (n := 106) hX dX8_maybeOf_83 rfl ?_
      refine gi_sub [0, 1, 2, 3, 4, 5, 6, 7, 9] rfl ?_
      exact t_X8_maybeOf_J106 hX hR x1 x2 x3 x4 x5 x6 x8 x11 (1 : Int64) x9 v1 h hc hz
set_option maxRecDepth 20000 in
theorem t_X8_maybeOf_J122 {Γ : gC} {Ω : gO} {r0 : Int64} {v0 : gV} {o : (gV × Int64 × Int32) ⊕ (gV × Int64)} (hX : gx_X Γ Ω cX8_maybeOf RX8 12 (some .long)) (hR : Γ.2.2.2.1 = gx_R 6) (x1 : Int32) (x2 : Int32) (x3 : Int32) (x4 : Int32) (x5 : Int32) (x6 : Int64) (x8 : Int32) (v : gV) (h : f_X8_maybeOf_J122 x1 x2 x3 x4 x5 x6 x8 v = some o) (hc : ∀ c0 c1 c2, o = .inl (c0, c1, c2) → gx_G Γ Ω LM (gx_Q Γ Ω LM (some (.long r0)) v0) 12 c0 14 [(0, .ref (Ω.1 0)), (1, .int x1), (2, .int x2), (3, .int x3), (4, .int x4), (5, .int x5), (6, .long c1), (8, .int c2)] []) (hz : ∀ z0 z1, o = .inr (z0, z1) → gx_G Γ Ω LM (gx_Q Γ Ω LM (some (.long r0)) v0) 12 z0 128 [(0, .ref (Ω.1 0)), (4, .int x4), (5, .int x5), (6, .long z1)] []) : gx_G Γ Ω LM (gx_Q Γ Ω LM (some (.long r0)) v0) 12 v 122 [(0, .ref (Ω.1 0)), (1, .int x1), (2, .int x2), (3, .int x3), (4, .int x4), (5, .int x5), (6, .long x6), (8, .int x8)] [] := by
  rw [f_X8_maybeOf_J122] at h
  refine gi_iinc (z := (1 : Int32)) (n := 125) hX 7 [(8, .int (x8 + (1 : Int32))), (0, .ref (Ω.1 0)), (1, .int x1), (2, .int x2), (3, .int x3), (4, .int x4), (5, .int x5), (6, .long x6)] dX8_maybeOf_122 rfl rfl rfl rfl rfl rfl ?_
  refine gi_goto (n := 14) hX dX8_maybeOf_125 rfl ?_
  refine gi_sub [1, 2, 3, 4, 5, 6, 7, 0] rfl ?_
  exact hc _ _ _ (Option.some.inj h).symm
set_option maxRecDepth 20000 in
theorem t_X8_maybeOf_J58 {Γ : gC} {Ω : gO} {r0 : Int64} {v0 : gV} {o : (gV × Int64 × Int32) ⊕ (gV × Int64)} (hX : gx_X Γ Ω cX8_maybeOf RX8 12 (some .long)) (hR : Γ.2.2.2.1 = gx_R 6) (x1 : Int32) (x2 : Int32) (x3 : Int32) (x4 : Int32) (x5 : Int32) (x6 : Int64) (x8 : Int32) (s0 : Int64) (v : gV) (h : f_X8_maybeOf_J58 x1 x2 x3 x4 x5 x6 x8 s0 v = some o) (hc : ∀ c0 c1 c2, o = .inl (c0, c1, c2) → gx_G Γ Ω LM (gx_Q Γ Ω LM (some (.long r0)) v0) 12 c0 14 [(0, .ref (Ω.1 0)), (1, .int x1), (2, .int x2), (3, .int x3), (4, .int x4), (5, .int x5), (6, .long c1), (8, .int c2)] []) (hz : ∀ z0 z1, o = .inr (z0, z1) → gx_G Γ Ω LM (gx_Q Γ Ω LM (some (.long r0)) v0) 12 z0 128 [(0, .ref (Ω.1 0)), (4, .int x4), (5, .int x5), (6, .long z1)] []) : gx_G Γ Ω LM (gx_Q Γ Ω LM (some (.long r0)) v0) 12 v 58 [(0, .ref (Ω.1 0)), (1, .int x1), (2, .int x2), (3, .int x3), (4, .int x4), (5, .int x5), (6, .long x6), (8, .int x8)] [.long s0] := by
  rw [f_X8_maybeOf_J58] at h
  refine gi_lstore (n := 60) hX [(9, .long s0), (0, .ref (Ω.1 0)), (1, .int x1), (2, .int x2), (3, .int x3), (4, .int x4), (5, .int x5), (6, .long x6), (8, .int x8)] dX8_maybeOf_58 rfl rfl rfl ?_
  refine gi_iconst (x := (0 : Int32)) (n := 61) hX rfl dX8_maybeOf_60 rfl ?_
  refine gi_istore (n := 63) hX [(11, .int (0 : Int32)), (9, .long s0), (0, .ref (Ω.1 0)), (1, .int x1), (2, .int x2), (3, .int x3), (4, .int x4), (5, .int x5), (6, .long x6), (8, .int x8)] dX8_maybeOf_61 rfl rfl rfl ?_
  refine gi_sub [2, 3, 4, 5, 6, 7, 8, 9, 1, 0] rfl ?_
  have key := lp_ind (f := (fun a : gV × Int64 × Int32 => f_X8_maybeOf_B63 x1 x2 x3 x4 x5 x6 x8 a.2.1 a.2.2 a.1)) (P := (fun a : gV × Int64 × Int32 => gx_G Γ Ω LM (gx_Q Γ Ω LM (some (.long r0)) v0) 12 a.1 63 [(0, .ref (Ω.1 0)), (1, .int x1), (2, .int x2), (3, .int x3), (4, .int x4), (5, .int x5), (6, .long x6), (8, .int x8), (9, .long a.2.1), (11, .int a.2.2)] [])) (Z := (fun z : gV × Int64 => gx_G Γ Ω LM (gx_Q Γ Ω LM (some (.long r0)) v0) 12 z.1 115 [(0, .ref (Ω.1 0)), (1, .int x1), (2, .int x2), (3, .int x3), (4, .int x4), (5, .int x5), (6, .long x6), (8, .int x8), (9, .long z.2)] [])) (fun a o h hc hz => t_X8_maybeOf_B63 hX hR x1 x2 x3 x4 x5 x6 x8 a.2.1 a.2.2 a.1 h (fun c0 c1 c2 e => hc (c0, c1, c2) e) (fun z0 z1 e => hz (z0, z1) e)) fu
  obtain ⟨v1, y2, e0, h⟩ := bx2_some h
  refine key (v, s0, (0 : Int32)) _ e0 ?_
  show gx_G Γ Ω LM (gx_Q Γ Ω LM (some (.long r0)) v0) 12 v1 115 [(0, .ref (Ω.1 0)), (1, .int x1), (2, .int x2), (3, .int x3), (4, .int x4), (5, .int x5), (6, .long x6), (8, .int x8), (9, .long y2)] []
  refine gi_lload (n := 117) hX 6 dX8_maybeOf_115 rfl rfl ?_
  refine gi_lload (n := 119) hX 8 dX8_maybeOf_117 rfl rfl ?_
  refine gi_ladd (n := 120) hX dX8_maybeOf_119 rfl ?_
  refine gi_topJ h (fun u3 h => ?_)
  refine gi_lstore (n := 122) hX [(6, .long u3), (0, .ref (Ω.1 0)), (1, .int x1), (2, .int x2), (3, .int x3), (4, .int x4), (5, .int x5), (8, .int x8), (9, .long y2)] dX8_maybeOf_120 rfl rfl rfl ?_
  refine gi_sub [1, 2, 3, 4, 5, 6, 0, 7] rfl ?_
  exact t_X8_maybeOf_J122 hX hR x1 x2 x3 x4 x5 u3 x8 v1 h hc hz
set_option maxRecDepth 20000 in
theorem t_X8_maybeOf_B14 {Γ : gC} {Ω : gO} {r0 : Int64} {v0 : gV} {o : (gV × Int64 × Int32) ⊕ (gV × Int64)} (hX : gx_X Γ Ω cX8_maybeOf RX8 12 (some .long)) (hR : Γ.2.2.2.1 = gx_R 6) (x1 : Int32) (x2 : Int32) (x3 : Int32) (x4 : Int32) (x5 : Int32) (x6 : Int64) (x8 : Int32) (v : gV) (h : f_X8_maybeOf_B14 x1 x2 x3 x4 x5 x6 x8 v = some o) (hc : ∀ c0 c1 c2, o = .inl (c0, c1, c2) → gx_G Γ Ω LM (gx_Q Γ Ω LM (some (.long r0)) v0) 12 c0 14 [(0, .ref (Ω.1 0)), (1, .int x1), (2, .int x2), (3, .int x3), (4, .int x4), (5, .int x5), (6, .long c1), (8, .int c2)] []) (hz : ∀ z0 z1, o = .inr (z0, z1) → gx_G Γ Ω LM (gx_Q Γ Ω LM (some (.long r0)) v0) 12 z0 128 [(0, .ref (Ω.1 0)), (4, .int x4), (5, .int x5), (6, .long z1)] []) : gx_G Γ Ω LM (gx_Q Γ Ω LM (some (.long r0)) v0) 12 v 14 [(0, .ref (Ω.1 0)), (1, .int x1), (2, .int x2), (3, .int x3), (4, .int x4), (5, .int x5), (6, .long x6), (8, .int x8)] [] := by
  rw [f_X8_maybeOf_B14] at h
  refine gi_iload (n := 16) hX 7 dX8_maybeOf_14 rfl rfl ?_
  refine gi_sipush (x := (1024 : Int32)) (n := 19) hX rfl dX8_maybeOf_16 rfl ?_
  refine gi_icmp_ge (tgt := 128) (n := 22) hX dX8_maybeOf_19 rfl rfl h (fun h => ?_) (fun h => ?_)
  · refine gi_sub [0, 4, 5, 6] rfl ?_
    exact hz _ _ (Option.some.inj h).symm
  · refine gi_iload (n := 24) hX 7 dX8_maybeOf_22 rfl rfl ?_
    refine gi_iload (n := 26) hX 5 dX8_maybeOf_24 rfl rfl ?_
    refine gi_iconst (x := (-1 : Int32)) (n := 27) hX rfl dX8_maybeOf_26 rfl ?_
    refine gi_ixor (n := 28) hX dX8_maybeOf_27 rfl ?_
    refine gi_iand (n := 29) hX dX8_maybeOf_28 rfl ?_
    refine gi_if_ne (tgt := 122) (n := 32) hX dX8_maybeOf_29 rfl rfl h (fun h => ?_) (fun h => ?_)
    · exact t_X8_maybeOf_J122 hX hR x1 x2 x3 x4 x5 x6 x8 v h hc hz
    · refine gi_aload_n (n := 33) hX 0 dX8_maybeOf_32 rfl rfl rfl ?_
      refine gi_getR (n := 36) hX 12 kc_X8 ly_X8 rfl rfl fl_X8_37 dX8_maybeOf_33 rfl ?_
      refine gi_iconst (x := (1 : Int32)) (n := 37) hX rfl dX8_maybeOf_36 rfl ?_
      refine gi_iload (n := 39) hX 7 dX8_maybeOf_37 rfl rfl ?_
      refine gi_iast (n := 40) hX lm_10 dX8_maybeOf_39 rfl h (fun v1 h => ?_)
      refine gi_aload_n (n := 41) hX 0 dX8_maybeOf_40 rfl rfl rfl ?_
      obtain ⟨v2, e3, h⟩ := bv_some h
      refine gi_virtV (st := []) (n := 44) hX hR kc_X8 ly_X8 mv_X8_lives ml_X8_195 (m_X8_lives Γ.2.1 Ω v1 e3) rfl ⟨rfl, rfl⟩ rfl dX8_maybeOf_41 rfl rfl ?_
      refine gi_aload_n (n := 45) hX 0 dX8_maybeOf_44 rfl rfl rfl ?_
      refine gi_iload_n (n := 46) hX 2 dX8_maybeOf_45 rfl rfl rfl ?_
      refine gi_iload_n (n := 47) hX 3 dX8_maybeOf_46 rfl rfl rfl ?_
      obtain ⟨r6, v4, e5, h⟩ := bi_some h
      refine gi_virtI (st := []) (n := 50) hX hR kc_X8 ly_X8 mv_X8_isServed ml_X8_211 (m_X8_isServed Γ.2.1 Ω x2 x3 v2 e5) rfl ⟨rfl, rfl⟩ rfl dX8_maybeOf_47 rfl rfl ?_
      refine gi_if_eq (tgt := 57) (n := 53) hX dX8_maybeOf_50 rfl rfl h (fun h => ?_) (fun h => ?_)
      · refine gi_lconst (x := (0 : Int64)) (n := 58) hX rfl dX8_maybeOf_57 rfl ?_
        exact t_X8_maybeOf_J58 hX hR x1 x2 x3 x4 x5 x6 x8 (0 : Int64) v4 h hc hz
      · refine gi_lconst (x := (1 : Int64)) (n := 54) hX rfl dX8_maybeOf_53 rfl ?_
        refine gi_goto (n := 58) hX dX8_maybeOf_54 rfl ?_
        exact t_X8_maybeOf_J58 hX hR x1 x2 x3 x4 x5 x6 x8 (1 : Int64) v4 h hc hz
set_option maxRecDepth 20000 in
theorem t_X8_maybeOf {Γ : gC} {Ω : gO} {r0 : Int64} {v0 : gV} (hX : gx_X Γ Ω cX8_maybeOf RX8 12 (some .long)) (hR : Γ.2.2.2.1 = gx_R 6) (x1 : Int32) (x2 : Int32) (x3 : Int32) (x4 : Int32) (v : gV) (h : f_X8_maybeOf x1 x2 x3 x4 v = some (r0, v0)) : gx_G Γ Ω LM (gx_Q Γ Ω LM (some (.long r0)) v0) 12 v 0 [(0, .ref (Ω.1 0)), (1, .int x1), (2, .int x2), (3, .int x3), (4, .int x4)] [] := by
  rw [f_X8_maybeOf] at h
  refine gi_aload_n (n := 1) hX 0 dX8_maybeOf_0 rfl rfl rfl ?_
  refine gi_getR (n := 4) hX 12 kc_X8 ly_X8 rfl rfl fl_X8_37 dX8_maybeOf_1 rfl ?_
  refine gi_iconst (x := (1 : Int32)) (n := 5) hX rfl dX8_maybeOf_4 rfl ?_
  refine gi_iald (n := 6) hX lm_10 dX8_maybeOf_5 rfl h (fun h => ?_)
  refine gi_topI h (fun u1 h => ?_)
  refine gi_istore (n := 8) hX [(5, .int u1), (0, .ref (Ω.1 0)), (1, .int x1), (2, .int x2), (3, .int x3), (4, .int x4)] dX8_maybeOf_6 rfl rfl rfl ?_
  refine gi_lconst (x := (0 : Int64)) (n := 9) hX rfl dX8_maybeOf_8 rfl ?_
  refine gi_lstore (n := 11) hX [(6, .long (0 : Int64)), (5, .int u1), (0, .ref (Ω.1 0)), (1, .int x1), (2, .int x2), (3, .int x3), (4, .int x4)] dX8_maybeOf_9 rfl rfl rfl ?_
  refine gi_iconst (x := (0 : Int32)) (n := 12) hX rfl dX8_maybeOf_11 rfl ?_
  refine gi_istore (n := 14) hX [(8, .int (0 : Int32)), (6, .long (0 : Int64)), (5, .int u1), (0, .ref (Ω.1 0)), (1, .int x1), (2, .int x2), (3, .int x3), (4, .int x4)] dX8_maybeOf_12 rfl rfl rfl ?_
  refine gi_sub [3, 4, 5, 6, 7, 2, 1, 0] rfl ?_
  have key := lp_ind (f := (fun a : gV × Int64 × Int32 => f_X8_maybeOf_B14 x1 x2 x3 x4 u1 a.2.1 a.2.2 a.1)) (P := (fun a : gV × Int64 × Int32 => gx_G Γ Ω LM (gx_Q Γ Ω LM (some (.long r0)) v0) 12 a.1 14 [(0, .ref (Ω.1 0)), (1, .int x1), (2, .int x2), (3, .int x3), (4, .int x4), (5, .int u1), (6, .long a.2.1), (8, .int a.2.2)] [])) (Z := (fun z : gV × Int64 => gx_G Γ Ω LM (gx_Q Γ Ω LM (some (.long r0)) v0) 12 z.1 128 [(0, .ref (Ω.1 0)), (4, .int x4), (5, .int u1), (6, .long z.2)] [])) (fun a o h hc hz => t_X8_maybeOf_B14 hX hR x1 x2 x3 x4 u1 a.2.1 a.2.2 a.1 h (fun c0 c1 c2 e => hc (c0, c1, c2) e) (fun z0 z1 e => hz (z0, z1) e)) fu
  obtain ⟨v2, y3, e0, h⟩ := bx2_some h
  refine key (v, (0 : Int64), (0 : Int32)) _ e0 ?_
  show gx_G Γ Ω LM (gx_Q Γ Ω LM (some (.long r0)) v0) 12 v2 128 [(0, .ref (Ω.1 0)), (4, .int x4), (5, .int u1), (6, .long y3)] []
  refine gi_aload_n (n := 129) hX 0 dX8_maybeOf_128 rfl rfl rfl ?_
  refine gi_getR (n := 132) hX 12 kc_X8 ly_X8 rfl rfl fl_X8_37 dX8_maybeOf_129 rfl ?_
  refine gi_iconst (x := (1 : Int32)) (n := 133) hX rfl dX8_maybeOf_132 rfl ?_
  refine gi_iload (n := 135) hX 2 dX8_maybeOf_133 rfl rfl ?_
  refine gi_iast (n := 136) hX lm_10 dX8_maybeOf_135 rfl h (fun v4 h => ?_)
  refine gi_lload (n := 138) hX 3 dX8_maybeOf_136 rfl rfl ?_
  refine gi_lconst (x := (1 : Int64)) (n := 139) hX rfl dX8_maybeOf_138 rfl ?_
  refine gi_iconst (x := (4 : Int32)) (n := 140) hX rfl dX8_maybeOf_139 rfl ?_
  refine gi_iload (n := 142) hX 2 dX8_maybeOf_140 rfl rfl ?_
  obtain ⟨r7, v5, e6, h⟩ := bi_some h
  refine gi_statI (st := [.int (4 : Int32), .long (1 : Int64), .long y3]) (n := 145) hX hR ms_X8_ones ml_X8_230 (m_X8_ones Γ.2.1 Ω u1 v4 e6) rfl ⟨rfl, rfl⟩ rfl dX8_maybeOf_142 rfl rfl ?_
  refine gi_imul (n := 146) hX dX8_maybeOf_145 rfl ?_
  refine gi_lshl (n := 147) hX dX8_maybeOf_146 rfl ?_
  refine gi_iload (n := 149) hX 1 dX8_maybeOf_147 rfl rfl ?_
  obtain ⟨r10, v8, e9, h⟩ := bj_some h
  refine gi_statJ (st := []) (n := 152) hX hR ms_X8_part ml_X8_266 (m_X8_part Γ.2.1 Ω y3 ((1 : Int64) <<< ((((4 : Int32) * r7)).toInt64 &&& 63)) x4 v5 e9) rfl ⟨rfl, rfl⟩ rfl dX8_maybeOf_149 rfl rfl ?_
  exact gi_lret hX rfl dX8_maybeOf_152 h
theorem m_X8_maybeOf (l : Launch) (Ω : gO) (x1 : Int32) (x2 : Int32) (x3 : Int32) (x4 : Int32) (v : gV) {r0 : Int64} {v0 : gV} (h : f_X8_maybeOf x1 x2 x3 x4 v = some (r0, v0)) : gx_M l Ω LM yX8_maybeOf cX8_maybeOf 12 (some .long) 6 [.ref (Ω.1 0), .int x1, .int x2, .int x3, .int x4] v (some (.long r0)) v0 := gx_start (lv := [(0, .ref (Ω.1 0)), (1, .int x1), (2, .int x2), (3, .int x3), (4, .int x4)]) (by decide +kernel) (Nat.le_of_ble_eq_true rfl) rfl (fun Γ _ hR hX => t_X8_maybeOf hX hR x1 x2 x3 x4 v h)
set_option maxRecDepth 20000 in
theorem t_X8_tellsRider_B10 {Γ : gC} {Ω : gO} {r0 : Int64} {v0 : gV} {o : (gV × Int64 × Int32) ⊕ (gV × Int64)} (hX : gx_X Γ Ω cX8_tellsRider RX8 7 (some .long)) (hR : Γ.2.2.2.1 = gx_R 8) (x3 : Int32) (x4 : Int64) (x6 : Int32) (v : gV) (h : f_X8_tellsRider_B10 x3 x4 x6 v = some o) (hc : ∀ c0 c1 c2, o = .inl (c0, c1, c2) → gx_G Γ Ω LM (gx_Q Γ Ω LM (some (.long r0)) v0) 7 c0 10 [(0, .ref (Ω.1 0)), (3, .int x3), (4, .long c1), (6, .int c2)] []) (hz : ∀ z0 z1, o = .inr (z0, z1) → gx_G Γ Ω LM (gx_Q Γ Ω LM (some (.long r0)) v0) 7 z0 43 [(0, .ref (Ω.1 0)), (3, .int x3), (4, .long z1)] []) : gx_G Γ Ω LM (gx_Q Γ Ω LM (some (.long r0)) v0) 7 v 10 [(0, .ref (Ω.1 0)), (3, .int x3), (4, .long x4), (6, .int x6)] [] := by
  rw [f_X8_tellsRider_B10] at h
  refine gi_iload (n := 12) hX 3 dX8_tellsRider_10 rfl rfl ?_
  refine gi_iconst (x := (4 : Int32)) (n := 13) hX rfl dX8_tellsRider_12 rfl ?_
  refine gi_icmp_ge (tgt := 43) (n := 16) hX dX8_tellsRider_13 rfl rfl h (fun h => ?_) (fun h => ?_)
  · refine gi_sub [0, 1, 2] rfl ?_
    exact hz _ _ (Option.some.inj h).symm
  · refine gi_ldc2 (n := 19) hX co_X8_293 dX8_tellsRider_16 rfl ?_
    refine gi_lload (n := 21) hX 2 dX8_tellsRider_19 rfl rfl ?_
    refine gi_lmul (n := 22) hX dX8_tellsRider_21 rfl ?_
    refine gi_aload_n (n := 23) hX 0 dX8_tellsRider_22 rfl rfl rfl ?_
    refine gi_getR (n := 26) hX 8 kc_X8 ly_X8 rfl rfl fl_X8_28 dX8_tellsRider_23 rfl ?_
    refine gi_iconst (x := (4 : Int32)) (n := 27) hX rfl dX8_tellsRider_26 rfl ?_
    refine gi_iload_n (n := 28) hX 1 dX8_tellsRider_27 rfl rfl rfl ?_
    refine gi_imul (n := 29) hX dX8_tellsRider_28 rfl ?_
    refine gi_iload (n := 31) hX 3 dX8_tellsRider_29 rfl rfl ?_
    refine gi_iadd (n := 32) hX dX8_tellsRider_31 rfl ?_
    refine gi_iald (n := 33) hX lm_7 dX8_tellsRider_32 rfl h (fun h => ?_)
    refine gi_i2l (n := 34) hX dX8_tellsRider_33 rfl ?_
    refine gi_ladd (n := 35) hX dX8_tellsRider_34 rfl ?_
    refine gi_topJ h (fun u1 h => ?_)
    refine gi_lstore (n := 37) hX [(4, .long u1), (0, .ref (Ω.1 0)), (3, .int x3), (6, .int x6)] dX8_tellsRider_35 rfl rfl rfl ?_
    refine gi_iinc (z := (1 : Int32)) (n := 40) hX 3 [(6, .int (x6 + (1 : Int32))), (4, .long u1), (0, .ref (Ω.1 0)), (3, .int x3)] dX8_tellsRider_37 rfl rfl rfl rfl rfl rfl ?_
    refine gi_goto (n := 10) hX dX8_tellsRider_40 rfl ?_
    refine gi_sub [2, 3, 1, 0] rfl ?_
    exact hc _ _ _ (Option.some.inj h).symm
set_option maxRecDepth 20000 in
theorem t_X8_tellsRider {Γ : gC} {Ω : gO} {r0 : Int64} {v0 : gV} (hX : gx_X Γ Ω cX8_tellsRider RX8 7 (some .long)) (hR : Γ.2.2.2.1 = gx_R 8) (x1 : Int64) (x3 : Int32) (v : gV) (h : f_X8_tellsRider x1 x3 v = some (r0, v0)) : gx_G Γ Ω LM (gx_Q Γ Ω LM (some (.long r0)) v0) 7 v 0 [(0, .ref (Ω.1 0)), (1, .long x1), (3, .int x3)] [] := by
  rw [f_X8_tellsRider] at h
  refine gi_aload_n (n := 1) hX 0 dX8_tellsRider_0 rfl rfl rfl ?_
  obtain ⟨v1, e2, h⟩ := bv_some h
  refine gi_virtV (st := []) (n := 4) hX hR kc_X8 ly_X8 mv_X8_lives ml_X8_195 (m_X8_lives Γ.2.1 Ω v e2) rfl ⟨rfl, rfl⟩ rfl dX8_tellsRider_1 rfl rfl ?_
  refine gi_lload_n (n := 5) hX 1 dX8_tellsRider_4 rfl rfl rfl ?_
  refine gi_lstore (n := 7) hX [(4, .long x1), (0, .ref (Ω.1 0)), (1, .long x1), (3, .int x3)] dX8_tellsRider_5 rfl rfl rfl ?_
  refine gi_iconst (x := (0 : Int32)) (n := 8) hX rfl dX8_tellsRider_7 rfl ?_
  refine gi_istore (n := 10) hX [(6, .int (0 : Int32)), (4, .long x1), (0, .ref (Ω.1 0)), (1, .long x1), (3, .int x3)] dX8_tellsRider_8 rfl rfl rfl ?_
  refine gi_sub [2, 4, 1, 0] rfl ?_
  have key := lp_ind (f := (fun a : gV × Int64 × Int32 => f_X8_tellsRider_B10 x3 a.2.1 a.2.2 a.1)) (P := (fun a : gV × Int64 × Int32 => gx_G Γ Ω LM (gx_Q Γ Ω LM (some (.long r0)) v0) 7 a.1 10 [(0, .ref (Ω.1 0)), (3, .int x3), (4, .long a.2.1), (6, .int a.2.2)] [])) (Z := (fun z : gV × Int64 => gx_G Γ Ω LM (gx_Q Γ Ω LM (some (.long r0)) v0) 7 z.1 43 [(0, .ref (Ω.1 0)), (3, .int x3), (4, .long z.2)] [])) (fun a o h hc hz => t_X8_tellsRider_B10 hX hR x3 a.2.1 a.2.2 a.1 h (fun c0 c1 c2 e => hc (c0, c1, c2) e) (fun z0 z1 e => hz (z0, z1) e)) fu
  obtain ⟨v3, y4, e0, h⟩ := bx2_some h
  refine key (v1, x1, (0 : Int32)) _ e0 ?_
  show gx_G Γ Ω LM (gx_Q Γ Ω LM (some (.long r0)) v0) 7 v3 43 [(0, .ref (Ω.1 0)), (3, .int x3), (4, .long y4)] []
  refine gi_ldc2 (n := 46) hX co_X8_293 dX8_tellsRider_43 rfl ?_
  refine gi_lload (n := 48) hX 2 dX8_tellsRider_46 rfl rfl ?_
  refine gi_lmul (n := 49) hX dX8_tellsRider_48 rfl ?_
  refine gi_aload_n (n := 50) hX 0 dX8_tellsRider_49 rfl rfl rfl ?_
  refine gi_getR (n := 53) hX 19 kc_X8 ly_X8 rfl rfl fl_X8_49 dX8_tellsRider_50 rfl ?_
  refine gi_iload_n (n := 54) hX 1 dX8_tellsRider_53 rfl rfl rfl ?_
  refine gi_iald (n := 55) hX lm_14 dX8_tellsRider_54 rfl h (fun h => ?_)
  refine gi_i2l (n := 56) hX dX8_tellsRider_55 rfl ?_
  refine gi_ladd (n := 57) hX dX8_tellsRider_56 rfl ?_
  refine gi_topJ h (fun u5 h => ?_)
  refine gi_lstore (n := 59) hX [(4, .long u5), (0, .ref (Ω.1 0)), (3, .int x3)] dX8_tellsRider_57 rfl rfl rfl ?_
  refine gi_ldc2 (n := 62) hX co_X8_293 dX8_tellsRider_59 rfl ?_
  refine gi_lload (n := 64) hX 0 dX8_tellsRider_62 rfl rfl ?_
  refine gi_lmul (n := 65) hX dX8_tellsRider_64 rfl ?_
  refine gi_aload_n (n := 66) hX 1 dX8_tellsRider_65 rfl rfl rfl ?_
  refine gi_getR (n := 69) hX 19 kc_X8 ly_X8 rfl rfl fl_X8_49 dX8_tellsRider_66 rfl ?_
  refine gi_bipush (x := (72 : Int32)) (n := 71) hX rfl dX8_tellsRider_69 rfl ?_
  refine gi_iload_n (n := 72) hX 2 dX8_tellsRider_71 rfl rfl rfl ?_
  refine gi_iadd (n := 73) hX dX8_tellsRider_72 rfl ?_
  refine gi_iald (n := 74) hX lm_14 dX8_tellsRider_73 rfl h (fun h => ?_)
  refine gi_i2l (n := 75) hX dX8_tellsRider_74 rfl ?_
  refine gi_ladd (n := 76) hX dX8_tellsRider_75 rfl ?_
  refine gi_topJ h (fun u6 h => ?_)
  refine gi_lstore (n := 78) hX [(4, .long u6), (0, .ref (Ω.1 0)), (3, .int x3)] dX8_tellsRider_76 rfl rfl rfl ?_
  refine gi_ldc2 (n := 81) hX co_X8_293 dX8_tellsRider_78 rfl ?_
  refine gi_lload (n := 83) hX 0 dX8_tellsRider_81 rfl rfl ?_
  refine gi_lmul (n := 84) hX dX8_tellsRider_83 rfl ?_
  refine gi_aload_n (n := 85) hX 1 dX8_tellsRider_84 rfl rfl rfl ?_
  refine gi_getR (n := 88) hX 20 kc_X8 ly_X8 rfl rfl fl_X8_52 dX8_tellsRider_85 rfl ?_
  refine gi_bipush (x := (72 : Int32)) (n := 90) hX rfl dX8_tellsRider_88 rfl ?_
  refine gi_iload_n (n := 91) hX 2 dX8_tellsRider_90 rfl rfl rfl ?_
  refine gi_iadd (n := 92) hX dX8_tellsRider_91 rfl ?_
  refine gi_iald (n := 93) hX lm_15 dX8_tellsRider_92 rfl h (fun h => ?_)
  refine gi_i2l (n := 94) hX dX8_tellsRider_93 rfl ?_
  refine gi_ladd (n := 95) hX dX8_tellsRider_94 rfl ?_
  refine gi_topJ h (fun u7 h => ?_)
  refine gi_lstore (n := 97) hX [(4, .long u7), (0, .ref (Ω.1 0)), (3, .int x3)] dX8_tellsRider_95 rfl rfl rfl ?_
  refine gi_ldc2 (n := 100) hX co_X8_293 dX8_tellsRider_97 rfl ?_
  refine gi_lload (n := 102) hX 0 dX8_tellsRider_100 rfl rfl ?_
  refine gi_lmul (n := 103) hX dX8_tellsRider_102 rfl ?_
  refine gi_aload_n (n := 104) hX 1 dX8_tellsRider_103 rfl rfl rfl ?_
  refine gi_iload_n (n := 105) hX 2 dX8_tellsRider_104 rfl rfl rfl ?_
  obtain ⟨r10, v8, e9, h⟩ := bi_some h
  refine gi_virtI (st := [.long ((31 : Int64) * u7)]) (n := 108) hX hR kc_X8 ly_X8 mv_X8_getsOf ml_X8_214 (m_X8_getsOf Γ.2.1 Ω x3 v3 e9) rfl ⟨rfl, rfl⟩ rfl dX8_tellsRider_105 rfl rfl ?_
  refine gi_i2l (n := 109) hX dX8_tellsRider_108 rfl ?_
  refine gi_ladd (n := 110) hX dX8_tellsRider_109 rfl ?_
  refine gi_topJ h (fun u11 h => ?_)
  refine gi_lstore (n := 112) hX [(4, .long u11), (0, .ref (Ω.1 0)), (3, .int x3)] dX8_tellsRider_110 rfl rfl rfl ?_
  refine gi_ldc2 (n := 115) hX co_X8_293 dX8_tellsRider_112 rfl ?_
  refine gi_lload (n := 117) hX 0 dX8_tellsRider_115 rfl rfl ?_
  refine gi_lmul (n := 118) hX dX8_tellsRider_117 rfl ?_
  refine gi_aload_n (n := 119) hX 1 dX8_tellsRider_118 rfl rfl rfl ?_
  refine gi_iload_n (n := 120) hX 2 dX8_tellsRider_119 rfl rfl rfl ?_
  refine gi_iconst (x := (0 : Int32)) (n := 121) hX rfl dX8_tellsRider_120 rfl ?_
  obtain ⟨r14, v12, e13, h⟩ := bi_some h
  refine gi_virtI (st := [.long ((31 : Int64) * u11)]) (n := 124) hX hR kc_X8 ly_X8 mv_X8_openOf ml_X8_233 (m_X8_openOf Γ.2.1 Ω x3 (0 : Int32) v8 e13) rfl ⟨rfl, rfl⟩ rfl dX8_tellsRider_121 rfl rfl ?_
  refine gi_i2l (n := 125) hX dX8_tellsRider_124 rfl ?_
  refine gi_ladd (n := 126) hX dX8_tellsRider_125 rfl ?_
  refine gi_topJ h (fun u15 h => ?_)
  refine gi_lstore (n := 128) hX [(4, .long u15), (0, .ref (Ω.1 0)), (3, .int x3)] dX8_tellsRider_126 rfl rfl rfl ?_
  refine gi_ldc2 (n := 131) hX co_X8_293 dX8_tellsRider_128 rfl ?_
  refine gi_lload (n := 133) hX 0 dX8_tellsRider_131 rfl rfl ?_
  refine gi_lmul (n := 134) hX dX8_tellsRider_133 rfl ?_
  refine gi_aload_n (n := 135) hX 1 dX8_tellsRider_134 rfl rfl rfl ?_
  refine gi_iload_n (n := 136) hX 2 dX8_tellsRider_135 rfl rfl rfl ?_
  refine gi_iconst (x := (1 : Int32)) (n := 137) hX rfl dX8_tellsRider_136 rfl ?_
  obtain ⟨r18, v16, e17, h⟩ := bi_some h
  refine gi_virtI (st := [.long ((31 : Int64) * u15)]) (n := 140) hX hR kc_X8 ly_X8 mv_X8_openOf ml_X8_233 (m_X8_openOf Γ.2.1 Ω x3 (1 : Int32) v12 e17) rfl ⟨rfl, rfl⟩ rfl dX8_tellsRider_137 rfl rfl ?_
  refine gi_i2l (n := 141) hX dX8_tellsRider_140 rfl ?_
  refine gi_ladd (n := 142) hX dX8_tellsRider_141 rfl ?_
  refine gi_topJ h (fun u19 h => ?_)
  refine gi_lstore (n := 144) hX [(4, .long u19), (0, .ref (Ω.1 0)), (3, .int x3)] dX8_tellsRider_142 rfl rfl rfl ?_
  refine gi_ldc2 (n := 147) hX co_X8_293 dX8_tellsRider_144 rfl ?_
  refine gi_lload (n := 149) hX 0 dX8_tellsRider_147 rfl rfl ?_
  refine gi_lmul (n := 150) hX dX8_tellsRider_149 rfl ?_
  refine gi_aload_n (n := 151) hX 1 dX8_tellsRider_150 rfl rfl rfl ?_
  refine gi_iload_n (n := 152) hX 2 dX8_tellsRider_151 rfl rfl rfl ?_
  obtain ⟨r22, v20, e21, h⟩ := bi_some h
  refine gi_virtI (st := [.long ((31 : Int64) * u19)]) (n := 155) hX hR kc_X8 ly_X8 mv_X8_hadOf ml_X8_257 (m_X8_hadOf Γ.2.1 Ω x3 v16 e21) rfl ⟨rfl, rfl⟩ rfl dX8_tellsRider_152 rfl rfl ?_
  refine gi_i2l (n := 156) hX dX8_tellsRider_155 rfl ?_
  refine gi_ladd (n := 157) hX dX8_tellsRider_156 rfl ?_
  refine gi_topJ h (fun u23 h => ?_)
  refine gi_lstore (n := 159) hX [(4, .long u23), (0, .ref (Ω.1 0)), (3, .int x3)] dX8_tellsRider_157 rfl rfl rfl ?_
  refine gi_ldc2 (n := 162) hX co_X8_293 dX8_tellsRider_159 rfl ?_
  refine gi_lload (n := 164) hX 0 dX8_tellsRider_162 rfl rfl ?_
  refine gi_lmul (n := 165) hX dX8_tellsRider_164 rfl ?_
  refine gi_aload_n (n := 166) hX 1 dX8_tellsRider_165 rfl rfl rfl ?_
  refine gi_iconst (x := (5 : Int32)) (n := 167) hX rfl dX8_tellsRider_166 rfl ?_
  refine gi_iconst (x := (3 : Int32)) (n := 168) hX rfl dX8_tellsRider_167 rfl ?_
  refine gi_iload_n (n := 169) hX 2 dX8_tellsRider_168 rfl rfl rfl ?_
  refine gi_iconst (x := (0 : Int32)) (n := 170) hX rfl dX8_tellsRider_169 rfl ?_
  obtain ⟨r26, v24, e25, h⟩ := bj_some h
  refine gi_virtJ (st := [.long ((31 : Int64) * u23)]) (n := 173) hX hR kc_X8 ly_X8 mv_X8_maybeOf ml_X8_272 (m_X8_maybeOf Γ.2.1 Ω (5 : Int32) (3 : Int32) x3 (0 : Int32) v20 e25) rfl ⟨rfl, rfl⟩ rfl dX8_tellsRider_170 rfl rfl ?_
  refine gi_ladd (n := 174) hX dX8_tellsRider_173 rfl ?_
  refine gi_topJ h (fun u27 h => ?_)
  refine gi_lstore (n := 176) hX [(4, .long u27), (0, .ref (Ω.1 0)), (3, .int x3)] dX8_tellsRider_174 rfl rfl rfl ?_
  refine gi_ldc2 (n := 179) hX co_X8_293 dX8_tellsRider_176 rfl ?_
  refine gi_lload (n := 181) hX 0 dX8_tellsRider_179 rfl rfl ?_
  refine gi_lmul (n := 182) hX dX8_tellsRider_181 rfl ?_
  refine gi_aload_n (n := 183) hX 1 dX8_tellsRider_182 rfl rfl rfl ?_
  refine gi_iconst (x := (5 : Int32)) (n := 184) hX rfl dX8_tellsRider_183 rfl ?_
  refine gi_iconst (x := (3 : Int32)) (n := 185) hX rfl dX8_tellsRider_184 rfl ?_
  refine gi_iload_n (n := 186) hX 2 dX8_tellsRider_185 rfl rfl rfl ?_
  refine gi_iconst (x := (1 : Int32)) (n := 187) hX rfl dX8_tellsRider_186 rfl ?_
  obtain ⟨r30, v28, e29, h⟩ := bj_some h
  refine gi_virtJ (st := [.long ((31 : Int64) * u27)]) (n := 190) hX hR kc_X8 ly_X8 mv_X8_maybeOf ml_X8_272 (m_X8_maybeOf Γ.2.1 Ω (5 : Int32) (3 : Int32) x3 (1 : Int32) v24 e29) rfl ⟨rfl, rfl⟩ rfl dX8_tellsRider_187 rfl rfl ?_
  refine gi_ladd (n := 191) hX dX8_tellsRider_190 rfl ?_
  exact gi_lret hX rfl dX8_tellsRider_191 h
theorem m_X8_tellsRider (l : Launch) (Ω : gO) (x1 : Int64) (x3 : Int32) (v : gV) {r0 : Int64} {v0 : gV} (h : f_X8_tellsRider x1 x3 v = some (r0, v0)) : gx_M l Ω LM yX8_tellsRider cX8_tellsRider 7 (some .long) 8 [.ref (Ω.1 0), .long x1, .int x3] v (some (.long r0)) v0 := gx_start (lv := [(0, .ref (Ω.1 0)), (1, .long x1), (3, .int x3)]) (by decide +kernel) (Nat.le_of_ble_eq_true rfl) rfl (fun Γ _ hR hX => t_X8_tellsRider hX hR x1 x3 v h)
set_option maxRecDepth 20000 in
theorem t_X8_tellsDay {Γ : gC} {Ω : gO} {r0 : Int64} {v0 : gV} (hX : gx_X Γ Ω cX8_tellsDay RX8 6 (some .long)) (hR : Γ.2.2.2.1 = gx_R 9) (x1 : Int64) (x3 : Int32) (v : gV) (h : f_X8_tellsDay x1 x3 v = some (r0, v0)) : gx_G Γ Ω LM (gx_Q Γ Ω LM (some (.long r0)) v0) 6 v 0 [(0, .ref (Ω.1 0)), (1, .long x1), (3, .int x3)] [] := by
  rw [f_X8_tellsDay] at h
  refine gi_aload_n (n := 1) hX 0 dX8_tellsDay_0 rfl rfl rfl ?_
  obtain ⟨v1, e2, h⟩ := bv_some h
  refine gi_virtV (st := []) (n := 4) hX hR kc_X8 ly_X8 mv_X8_lives ml_X8_195 (m_X8_lives Γ.2.1 Ω v e2) rfl ⟨rfl, rfl⟩ rfl dX8_tellsDay_1 rfl rfl ?_
  refine gi_ldc2 (n := 7) hX co_X8_293 dX8_tellsDay_4 rfl ?_
  refine gi_lload_n (n := 8) hX 1 dX8_tellsDay_7 rfl rfl rfl ?_
  refine gi_lmul (n := 9) hX dX8_tellsDay_8 rfl ?_
  refine gi_aload_n (n := 10) hX 0 dX8_tellsDay_9 rfl rfl rfl ?_
  refine gi_iload_n (n := 11) hX 2 dX8_tellsDay_10 rfl rfl rfl ?_
  obtain ⟨r5, v3, e4, h⟩ := bi_some h
  refine gi_virtI (st := [.long ((31 : Int64) * x1)]) (n := 14) hX hR kc_X8 ly_X8 mv_X8_servedBy ml_X8_217 (m_X8_servedBy Γ.2.1 Ω x3 v1 e4) rfl ⟨rfl, rfl⟩ rfl dX8_tellsDay_11 rfl rfl ?_
  refine gi_i2l (n := 15) hX dX8_tellsDay_14 rfl ?_
  refine gi_ladd (n := 16) hX dX8_tellsDay_15 rfl ?_
  refine gi_topJ h (fun u6 h => ?_)
  refine gi_lstore (n := 18) hX [(4, .long u6), (0, .ref (Ω.1 0)), (1, .long x1), (3, .int x3)] dX8_tellsDay_16 rfl rfl rfl ?_
  refine gi_ldc2 (n := 21) hX co_X8_293 dX8_tellsDay_18 rfl ?_
  refine gi_lload (n := 23) hX 0 dX8_tellsDay_21 rfl rfl ?_
  refine gi_lmul (n := 24) hX dX8_tellsDay_23 rfl ?_
  refine gi_aload_n (n := 25) hX 1 dX8_tellsDay_24 rfl rfl rfl ?_
  refine gi_iload_n (n := 26) hX 3 dX8_tellsDay_25 rfl rfl rfl ?_
  refine gi_iconst (x := (-1 : Int32)) (n := 27) hX rfl dX8_tellsDay_26 rfl ?_
  obtain ⟨r9, v7, e8, h⟩ := bi_some h
  refine gi_virtI (st := [.long ((31 : Int64) * u6)]) (n := 30) hX hR kc_X8 ly_X8 mv_X8_bagOf ml_X8_208 (m_X8_bagOf Γ.2.1 Ω x3 (-1 : Int32) v3 e8) rfl ⟨rfl, rfl⟩ rfl dX8_tellsDay_27 rfl rfl ?_
  refine gi_i2l (n := 31) hX dX8_tellsDay_30 rfl ?_
  refine gi_ladd (n := 32) hX dX8_tellsDay_31 rfl ?_
  refine gi_topJ h (fun u10 h => ?_)
  refine gi_lstore (n := 34) hX [(4, .long u10), (0, .ref (Ω.1 0)), (1, .long x1), (3, .int x3)] dX8_tellsDay_32 rfl rfl rfl ?_
  refine gi_ldc2 (n := 37) hX co_X8_293 dX8_tellsDay_34 rfl ?_
  refine gi_lload (n := 39) hX 0 dX8_tellsDay_37 rfl rfl ?_
  refine gi_lmul (n := 40) hX dX8_tellsDay_39 rfl ?_
  refine gi_aload_n (n := 41) hX 1 dX8_tellsDay_40 rfl rfl rfl ?_
  refine gi_iload_n (n := 42) hX 3 dX8_tellsDay_41 rfl rfl rfl ?_
  refine gi_iconst (x := (0 : Int32)) (n := 43) hX rfl dX8_tellsDay_42 rfl ?_
  obtain ⟨r13, v11, e12, h⟩ := bi_some h
  refine gi_virtI (st := [.long ((31 : Int64) * u10)]) (n := 46) hX hR kc_X8 ly_X8 mv_X8_bagOf ml_X8_208 (m_X8_bagOf Γ.2.1 Ω x3 (0 : Int32) v7 e12) rfl ⟨rfl, rfl⟩ rfl dX8_tellsDay_43 rfl rfl ?_
  refine gi_i2l (n := 47) hX dX8_tellsDay_46 rfl ?_
  refine gi_ladd (n := 48) hX dX8_tellsDay_47 rfl ?_
  refine gi_topJ h (fun u14 h => ?_)
  refine gi_lstore (n := 50) hX [(4, .long u14), (0, .ref (Ω.1 0)), (1, .long x1), (3, .int x3)] dX8_tellsDay_48 rfl rfl rfl ?_
  refine gi_ldc2 (n := 53) hX co_X8_293 dX8_tellsDay_50 rfl ?_
  refine gi_lload (n := 55) hX 0 dX8_tellsDay_53 rfl rfl ?_
  refine gi_lmul (n := 56) hX dX8_tellsDay_55 rfl ?_
  refine gi_aload_n (n := 57) hX 1 dX8_tellsDay_56 rfl rfl rfl ?_
  refine gi_iload_n (n := 58) hX 3 dX8_tellsDay_57 rfl rfl rfl ?_
  obtain ⟨r17, v15, e16, h⟩ := bi_some h
  refine gi_virtI (st := [.long ((31 : Int64) * u14)]) (n := 61) hX hR kc_X8 ly_X8 mv_X8_askOf ml_X8_263 (m_X8_askOf Γ.2.1 Ω x3 v11 e16) rfl ⟨rfl, rfl⟩ rfl dX8_tellsDay_58 rfl rfl ?_
  refine gi_i2l (n := 62) hX dX8_tellsDay_61 rfl ?_
  refine gi_ladd (n := 63) hX dX8_tellsDay_62 rfl ?_
  exact gi_lret hX rfl dX8_tellsDay_63 h
theorem m_X8_tellsDay (l : Launch) (Ω : gO) (x1 : Int64) (x3 : Int32) (v : gV) {r0 : Int64} {v0 : gV} (h : f_X8_tellsDay x1 x3 v = some (r0, v0)) : gx_M l Ω LM yX8_tellsDay cX8_tellsDay 6 (some .long) 9 [.ref (Ω.1 0), .long x1, .int x3] v (some (.long r0)) v0 := gx_start (lv := [(0, .ref (Ω.1 0)), (1, .long x1), (3, .int x3)]) (by decide +kernel) (Nat.le_of_ble_eq_true rfl) rfl (fun Γ _ hR hX => t_X8_tellsDay hX hR x1 x3 v h)
set_option maxRecDepth 20000 in
theorem t_X8_wantsOf {Γ : gC} {Ω : gO} {r0 : Int32} {v0 : gV} (hX : gx_X Γ Ω cX8_wantsOf RX8 3 (some .boolean)) (hR : Γ.2.2.2.1 = gx_R 0) (x1 : Int32) (x2 : Int32) (v : gV) (h : f_X8_wantsOf x1 x2 v = some (r0, v0)) : gx_G Γ Ω LM (gx_Q Γ Ω LM (some (.int r0)) v0) 3 v 0 [(0, .ref (Ω.1 0)), (1, .int x1), (2, .int x2)] [] := by
  rw [f_X8_wantsOf] at h
  refine gi_aload_n (n := 1) hX 0 dX8_wantsOf_0 rfl rfl rfl ?_
  refine gi_getR (n := 4) hX 8 kc_X8 ly_X8 rfl rfl fl_X8_28 dX8_wantsOf_1 rfl ?_
  refine gi_iconst (x := (4 : Int32)) (n := 5) hX rfl dX8_wantsOf_4 rfl ?_
  refine gi_iload_n (n := 6) hX 1 dX8_wantsOf_5 rfl rfl rfl ?_
  refine gi_imul (n := 7) hX dX8_wantsOf_6 rfl ?_
  refine gi_iconst (x := (3 : Int32)) (n := 8) hX rfl dX8_wantsOf_7 rfl ?_
  refine gi_iadd (n := 9) hX dX8_wantsOf_8 rfl ?_
  refine gi_iald (n := 10) hX lm_7 dX8_wantsOf_9 rfl h (fun h => ?_)
  refine gi_aload_n (n := 11) hX 0 dX8_wantsOf_10 rfl rfl rfl ?_
  refine gi_getR (n := 14) hX 8 kc_X8 ly_X8 rfl rfl fl_X8_28 dX8_wantsOf_11 rfl ?_
  refine gi_iconst (x := (4 : Int32)) (n := 15) hX rfl dX8_wantsOf_14 rfl ?_
  refine gi_iload_n (n := 16) hX 2 dX8_wantsOf_15 rfl rfl rfl ?_
  refine gi_imul (n := 17) hX dX8_wantsOf_16 rfl ?_
  refine gi_iald (n := 18) hX lm_7 dX8_wantsOf_17 rfl h (fun h => ?_)
  refine gi_icmp_ne (tgt := 46) (n := 21) hX dX8_wantsOf_18 rfl rfl h (fun h => ?_) (fun h => ?_)
  · refine gi_iconst (x := (0 : Int32)) (n := 47) hX rfl dX8_wantsOf_46 rfl ?_
    exact gi_zret hX rfl dX8_wantsOf_47 h
  · refine gi_aload_n (n := 22) hX 0 dX8_wantsOf_21 rfl rfl rfl ?_
    refine gi_getR (n := 25) hX 8 kc_X8 ly_X8 rfl rfl fl_X8_28 dX8_wantsOf_22 rfl ?_
    refine gi_iconst (x := (4 : Int32)) (n := 26) hX rfl dX8_wantsOf_25 rfl ?_
    refine gi_iload_n (n := 27) hX 1 dX8_wantsOf_26 rfl rfl rfl ?_
    refine gi_imul (n := 28) hX dX8_wantsOf_27 rfl ?_
    refine gi_iconst (x := (3 : Int32)) (n := 29) hX rfl dX8_wantsOf_28 rfl ?_
    refine gi_iadd (n := 30) hX dX8_wantsOf_29 rfl ?_
    refine gi_iald (n := 31) hX lm_7 dX8_wantsOf_30 rfl h (fun h => ?_)
    refine gi_aload_n (n := 32) hX 0 dX8_wantsOf_31 rfl rfl rfl ?_
    refine gi_getR (n := 35) hX 8 kc_X8 ly_X8 rfl rfl fl_X8_28 dX8_wantsOf_32 rfl ?_
    refine gi_iconst (x := (4 : Int32)) (n := 36) hX rfl dX8_wantsOf_35 rfl ?_
    refine gi_iload_n (n := 37) hX 1 dX8_wantsOf_36 rfl rfl rfl ?_
    refine gi_imul (n := 38) hX dX8_wantsOf_37 rfl ?_
    refine gi_iald (n := 39) hX lm_7 dX8_wantsOf_38 rfl h (fun h => ?_)
    refine gi_icmp_eq (tgt := 46) (n := 42) hX dX8_wantsOf_39 rfl rfl h (fun h => ?_) (fun h => ?_)
    · refine gi_iconst (x := (0 : Int32)) (n := 47) hX rfl dX8_wantsOf_46 rfl ?_
      exact gi_zret hX rfl dX8_wantsOf_47 h
    · refine gi_iconst (x := (1 : Int32)) (n := 43) hX rfl dX8_wantsOf_42 rfl ?_
      refine gi_goto (n := 47) hX dX8_wantsOf_43 rfl ?_
      exact gi_zret hX rfl dX8_wantsOf_47 h
theorem m_X8_wantsOf (l : Launch) (Ω : gO) (x1 : Int32) (x2 : Int32) (v : gV) {r0 : Int32} {v0 : gV} (h : f_X8_wantsOf x1 x2 v = some (r0, v0)) : gx_M l Ω LM yX8_wantsOf cX8_wantsOf 3 (some .boolean) 0 [.ref (Ω.1 0), .int x1, .int x2] v (some (.int r0)) v0 := gx_start (lv := [(0, .ref (Ω.1 0)), (1, .int x1), (2, .int x2)]) (by decide +kernel) (Nat.le_of_ble_eq_true rfl) rfl (fun Γ _ hR hX => t_X8_wantsOf hX hR x1 x2 v h)
set_option maxRecDepth 20000 in
theorem t_X8_isRing_J27 {Γ : gC} {Ω : gO} {r0 : Int32} {v0 : gV} (hX : gx_X Γ Ω cX8_isRing RX8 4 (some .boolean)) (hR : Γ.2.2.2.1 = gx_R 1) (x1 : Int32) (x2 : Int32) (x3 : Int32) (v : gV) (h : f_X8_isRing_J27 x1 x2 x3 v = some (r0, v0)) : gx_G Γ Ω LM (gx_Q Γ Ω LM (some (.int r0)) v0) 4 v 27 [(0, .ref (Ω.1 0)), (1, .int x1), (2, .int x2), (3, .int x3)] [] := by
  rw [f_X8_isRing_J27] at h
  refine gi_aload_n (n := 28) hX 0 dX8_isRing_27 rfl rfl rfl ?_
  refine gi_iload_n (n := 29) hX 1 dX8_isRing_28 rfl rfl rfl ?_
  refine gi_iload_n (n := 30) hX 3 dX8_isRing_29 rfl rfl rfl ?_
  obtain ⟨r3, v1, e2, h⟩ := bi_some h
  refine gi_virtI (st := []) (n := 33) hX hR kc_X8 ly_X8 mv_X8_wantsOf ml_X8_220 (m_X8_wantsOf Γ.2.1 Ω x1 x3 v e2) rfl ⟨rfl, rfl⟩ rfl dX8_isRing_30 rfl rfl ?_
  refine gi_if_eq (tgt := 58) (n := 36) hX dX8_isRing_33 rfl rfl h (fun h => ?_) (fun h => ?_)
  · refine gi_iconst (x := (0 : Int32)) (n := 59) hX rfl dX8_isRing_58 rfl ?_
    exact gi_zret hX rfl dX8_isRing_59 h
  · refine gi_aload_n (n := 37) hX 0 dX8_isRing_36 rfl rfl rfl ?_
    refine gi_iload_n (n := 38) hX 3 dX8_isRing_37 rfl rfl rfl ?_
    refine gi_iload_n (n := 39) hX 2 dX8_isRing_38 rfl rfl rfl ?_
    obtain ⟨r6, v4, e5, h⟩ := bi_some h
    refine gi_virtI (st := []) (n := 42) hX hR kc_X8 ly_X8 mv_X8_wantsOf ml_X8_220 (m_X8_wantsOf Γ.2.1 Ω x3 x2 v1 e5) rfl ⟨rfl, rfl⟩ rfl dX8_isRing_39 rfl rfl ?_
    refine gi_if_eq (tgt := 58) (n := 45) hX dX8_isRing_42 rfl rfl h (fun h => ?_) (fun h => ?_)
    · refine gi_iconst (x := (0 : Int32)) (n := 59) hX rfl dX8_isRing_58 rfl ?_
      exact gi_zret hX rfl dX8_isRing_59 h
    · refine gi_aload_n (n := 46) hX 0 dX8_isRing_45 rfl rfl rfl ?_
      refine gi_iload_n (n := 47) hX 2 dX8_isRing_46 rfl rfl rfl ?_
      refine gi_iload_n (n := 48) hX 1 dX8_isRing_47 rfl rfl rfl ?_
      obtain ⟨r9, v7, e8, h⟩ := bi_some h
      refine gi_virtI (st := []) (n := 51) hX hR kc_X8 ly_X8 mv_X8_wantsOf ml_X8_220 (m_X8_wantsOf Γ.2.1 Ω x2 x1 v4 e8) rfl ⟨rfl, rfl⟩ rfl dX8_isRing_48 rfl rfl ?_
      refine gi_if_eq (tgt := 58) (n := 54) hX dX8_isRing_51 rfl rfl h (fun h => ?_) (fun h => ?_)
      · refine gi_iconst (x := (0 : Int32)) (n := 59) hX rfl dX8_isRing_58 rfl ?_
        exact gi_zret hX rfl dX8_isRing_59 h
      · refine gi_iconst (x := (1 : Int32)) (n := 55) hX rfl dX8_isRing_54 rfl ?_
        refine gi_goto (n := 59) hX dX8_isRing_55 rfl ?_
        exact gi_zret hX rfl dX8_isRing_59 h
set_option maxRecDepth 20000 in
theorem t_X8_isRing {Γ : gC} {Ω : gO} {r0 : Int32} {v0 : gV} (hX : gx_X Γ Ω cX8_isRing RX8 4 (some .boolean)) (hR : Γ.2.2.2.1 = gx_R 1) (x1 : Int32) (x2 : Int32) (x3 : Int32) (v : gV) (h : f_X8_isRing x1 x2 x3 v = some (r0, v0)) : gx_G Γ Ω LM (gx_Q Γ Ω LM (some (.int r0)) v0) 4 v 0 [(0, .ref (Ω.1 0)), (1, .int x1), (2, .int x2), (3, .int x3)] [] := by
  rw [f_X8_isRing] at h
  refine gi_aload_n (n := 1) hX 0 dX8_isRing_0 rfl rfl rfl ?_
  refine gi_iload_n (n := 2) hX 1 dX8_isRing_1 rfl rfl rfl ?_
  refine gi_iload_n (n := 3) hX 2 dX8_isRing_2 rfl rfl rfl ?_
  obtain ⟨r3, v1, e2, h⟩ := bi_some h
  refine gi_virtI (st := []) (n := 6) hX hR kc_X8 ly_X8 mv_X8_wantsOf ml_X8_220 (m_X8_wantsOf Γ.2.1 Ω x1 x2 v e2) rfl ⟨rfl, rfl⟩ rfl dX8_isRing_3 rfl rfl ?_
  refine gi_if_eq (tgt := 27) (n := 9) hX dX8_isRing_6 rfl rfl h (fun h => ?_) (fun h => ?_)
  · exact t_X8_isRing_J27 hX hR x1 x2 x3 v1 h
  · refine gi_aload_n (n := 10) hX 0 dX8_isRing_9 rfl rfl rfl ?_
    refine gi_iload_n (n := 11) hX 2 dX8_isRing_10 rfl rfl rfl ?_
    refine gi_iload_n (n := 12) hX 3 dX8_isRing_11 rfl rfl rfl ?_
    obtain ⟨r6, v4, e5, h⟩ := bi_some h
    refine gi_virtI (st := []) (n := 15) hX hR kc_X8 ly_X8 mv_X8_wantsOf ml_X8_220 (m_X8_wantsOf Γ.2.1 Ω x2 x3 v1 e5) rfl ⟨rfl, rfl⟩ rfl dX8_isRing_12 rfl rfl ?_
    refine gi_if_eq (tgt := 27) (n := 18) hX dX8_isRing_15 rfl rfl h (fun h => ?_) (fun h => ?_)
    · exact t_X8_isRing_J27 hX hR x1 x2 x3 v4 h
    · refine gi_aload_n (n := 19) hX 0 dX8_isRing_18 rfl rfl rfl ?_
      refine gi_iload_n (n := 20) hX 3 dX8_isRing_19 rfl rfl rfl ?_
      refine gi_iload_n (n := 21) hX 1 dX8_isRing_20 rfl rfl rfl ?_
      obtain ⟨r9, v7, e8, h⟩ := bi_some h
      refine gi_virtI (st := []) (n := 24) hX hR kc_X8 ly_X8 mv_X8_wantsOf ml_X8_220 (m_X8_wantsOf Γ.2.1 Ω x3 x1 v4 e8) rfl ⟨rfl, rfl⟩ rfl dX8_isRing_21 rfl rfl ?_
      refine gi_if_ne (tgt := 54) (n := 27) hX dX8_isRing_24 rfl rfl h (fun h => ?_) (fun h => ?_)
      · refine gi_iconst (x := (1 : Int32)) (n := 55) hX rfl dX8_isRing_54 rfl ?_
        refine gi_goto (n := 59) hX dX8_isRing_55 rfl ?_
        exact gi_zret hX rfl dX8_isRing_59 h
      · exact t_X8_isRing_J27 hX hR x1 x2 x3 v7 h
theorem m_X8_isRing (l : Launch) (Ω : gO) (x1 : Int32) (x2 : Int32) (x3 : Int32) (v : gV) {r0 : Int32} {v0 : gV} (h : f_X8_isRing x1 x2 x3 v = some (r0, v0)) : gx_M l Ω LM yX8_isRing cX8_isRing 4 (some .boolean) 1 [.ref (Ω.1 0), .int x1, .int x2, .int x3] v (some (.int r0)) v0 := gx_start (lv := [(0, .ref (Ω.1 0)), (1, .int x1), (2, .int x2), (3, .int x3)]) (by decide +kernel) (Nat.le_of_ble_eq_true rfl) rfl (fun Γ _ hR hX => t_X8_isRing hX hR x1 x2 x3 v h)
set_option maxRecDepth 20000 in
theorem t_X8_ringsNow_J89 {Γ : gC} {Ω : gO} {r0 : Int32} {v0 : gV} {o : (gV × Int32 × Int32 × Int32) ⊕ (gV × Int32 × Int32)} (hX : gx_X Γ Ω cX8_ringsNow RX8 8 (some .int)) (hR : Γ.2.2.2.1 = gx_R 2) (x1 : Int32) (x2 : Int32) (x3 : Int32) (x4 : Int32) (v : gV) (h : f_X8_ringsNow_J89 x1 x2 x3 x4 v = some o) (hc : ∀ c0 c1 c2 c3, o = .inl (c0, c1, c2, c3) → gx_G Γ Ω LM (gx_Q Γ Ω LM (some (.int r0)) v0) 8 c0 7 [(0, .ref (Ω.1 0)), (1, .int x1), (2, .int c1), (3, .int c2), (4, .int c3)] []) (hz : ∀ z0 z1 z2, o = .inr (z0, z1, z2) → gx_G Γ Ω LM (gx_Q Γ Ω LM (some (.int r0)) v0) 8 z0 95 [(1, .int x1), (2, .int z1), (3, .int z2)] []) : gx_G Γ Ω LM (gx_Q Γ Ω LM (some (.int r0)) v0) 8 v 89 [(0, .ref (Ω.1 0)), (1, .int x1), (2, .int x2), (3, .int x3), (4, .int x4)] [] := by
  rw [f_X8_ringsNow_J89] at h
  refine gi_iinc (z := (1 : Int32)) (n := 92) hX 4 [(4, .int (x4 + (1 : Int32))), (0, .ref (Ω.1 0)), (1, .int x1), (2, .int x2), (3, .int x3)] dX8_ringsNow_89 rfl rfl rfl rfl rfl rfl ?_
  refine gi_goto (n := 7) hX dX8_ringsNow_92 rfl ?_
  refine gi_sub [1, 2, 3, 4, 0] rfl ?_
  exact hc _ _ _ _ (Option.some.inj h).symm
set_option maxRecDepth 20000 in
theorem t_X8_ringsNow_J85 {Γ : gC} {Ω : gO} {r0 : Int32} {v0 : gV} {o : (gV × Int32 × Int32 × Int32) ⊕ (gV × Int32 × Int32)} (hX : gx_X Γ Ω cX8_ringsNow RX8 8 (some .int)) (hR : Γ.2.2.2.1 = gx_R 2) (x1 : Int32) (x2 : Int32) (x4 : Int32) (s0 : Int32) (v : gV) (h : f_X8_ringsNow_J85 x1 x2 x4 s0 v = some o) (hc : ∀ c0 c1 c2 c3, o = .inl (c0, c1, c2, c3) → gx_G Γ Ω LM (gx_Q Γ Ω LM (some (.int r0)) v0) 8 c0 7 [(0, .ref (Ω.1 0)), (1, .int x1), (2, .int c1), (3, .int c2), (4, .int c3)] []) (hz : ∀ z0 z1 z2, o = .inr (z0, z1, z2) → gx_G Γ Ω LM (gx_Q Γ Ω LM (some (.int r0)) v0) 8 z0 95 [(1, .int x1), (2, .int z1), (3, .int z2)] []) : gx_G Γ Ω LM (gx_Q Γ Ω LM (some (.int r0)) v0) 8 v 85 [(0, .ref (Ω.1 0)), (1, .int x1), (2, .int x2), (4, .int x4)] [.int s0] := by
  rw [f_X8_ringsNow_J85] at h
  refine gi_istore_n (n := 86) hX [(3, .int s0), (0, .ref (Ω.1 0)), (1, .int x1), (2, .int x2), (4, .int x4)] dX8_ringsNow_85 rfl rfl rfl rfl ?_
  refine gi_iinc (z := (1 : Int32)) (n := 89) hX 3 [(2, .int (x2 + (1 : Int32))), (3, .int s0), (0, .ref (Ω.1 0)), (1, .int x1), (4, .int x4)] dX8_ringsNow_86 rfl rfl rfl rfl rfl rfl ?_
  refine gi_sub [2, 3, 0, 1, 4] rfl ?_
  exact t_X8_ringsNow_J89 hX hR x1 (x2 + (1 : Int32)) s0 x4 v h hc hz
set_option maxRecDepth 20000 in
theorem t_X8_ringsNow_B7 {Γ : gC} {Ω : gO} {r0 : Int32} {v0 : gV} {o : (gV × Int32 × Int32 × Int32) ⊕ (gV × Int32 × Int32)} (hX : gx_X Γ Ω cX8_ringsNow RX8 8 (some .int)) (hR : Γ.2.2.2.1 = gx_R 2) (x1 : Int32) (x2 : Int32) (x3 : Int32) (x4 : Int32) (v : gV) (h : f_X8_ringsNow_B7 x1 x2 x3 x4 v = some o) (hc : ∀ c0 c1 c2 c3, o = .inl (c0, c1, c2, c3) → gx_G Γ Ω LM (gx_Q Γ Ω LM (some (.int r0)) v0) 8 c0 7 [(0, .ref (Ω.1 0)), (1, .int x1), (2, .int c1), (3, .int c2), (4, .int c3)] []) (hz : ∀ z0 z1 z2, o = .inr (z0, z1, z2) → gx_G Γ Ω LM (gx_Q Γ Ω LM (some (.int r0)) v0) 8 z0 95 [(1, .int x1), (2, .int z1), (3, .int z2)] []) : gx_G Γ Ω LM (gx_Q Γ Ω LM (some (.int r0)) v0) 8 v 7 [(0, .ref (Ω.1 0)), (1, .int x1), (2, .int x2), (3, .int x3), (4, .int x4)] [] := by
  rw [f_X8_ringsNow_B7] at h
  refine gi_iload (n := 9) hX 4 dX8_ringsNow_7 rfl rfl ?_
  refine gi_sipush (x := (512 : Int32)) (n := 12) hX rfl dX8_ringsNow_9 rfl ?_
  refine gi_icmp_ge (tgt := 95) (n := 15) hX dX8_ringsNow_12 rfl rfl h (fun h => ?_) (fun h => ?_)
  · refine gi_sub [1, 2, 3] rfl ?_
    exact hz _ _ _ (Option.some.inj h).symm
  · refine gi_iload (n := 17) hX 4 dX8_ringsNow_15 rfl rfl ?_
    refine gi_bipush (x := (64 : Int32)) (n := 19) hX rfl dX8_ringsNow_17 rfl ?_
    refine gi_idiv (n := 20) hX (by decide) dX8_ringsNow_19 rfl ?_
    refine gi_topI h (fun u1 h => ?_)
    refine gi_istore (n := 22) hX [(5, .int u1), (0, .ref (Ω.1 0)), (1, .int x1), (2, .int x2), (3, .int x3), (4, .int x4)] dX8_ringsNow_20 rfl rfl rfl ?_
    refine gi_iload (n := 24) hX 5 dX8_ringsNow_22 rfl rfl ?_
    refine gi_bipush (x := (8 : Int32)) (n := 26) hX rfl dX8_ringsNow_24 rfl ?_
    refine gi_idiv (n := 27) hX (by decide) dX8_ringsNow_26 rfl ?_
    refine gi_bipush (x := (8 : Int32)) (n := 29) hX rfl dX8_ringsNow_27 rfl ?_
    refine gi_irem (n := 30) hX (by decide) dX8_ringsNow_29 rfl ?_
    refine gi_topI h (fun u2 h => ?_)
    refine gi_istore (n := 32) hX [(6, .int u2), (5, .int u1), (0, .ref (Ω.1 0)), (1, .int x1), (2, .int x2), (3, .int x3), (4, .int x4)] dX8_ringsNow_30 rfl rfl rfl ?_
    refine gi_iload (n := 34) hX 6 dX8_ringsNow_32 rfl rfl ?_
    refine gi_bipush (x := (8 : Int32)) (n := 36) hX rfl dX8_ringsNow_34 rfl ?_
    refine gi_irem (n := 37) hX (by decide) dX8_ringsNow_36 rfl ?_
    refine gi_topI h (fun u3 h => ?_)
    refine gi_istore (n := 39) hX [(7, .int u3), (6, .int u2), (5, .int u1), (0, .ref (Ω.1 0)), (1, .int x1), (2, .int x2), (3, .int x3), (4, .int x4)] dX8_ringsNow_37 rfl rfl rfl ?_
    refine gi_iload (n := 41) hX 2 dX8_ringsNow_39 rfl rfl ?_
    refine gi_iload (n := 43) hX 1 dX8_ringsNow_41 rfl rfl ?_
    refine gi_icmp_ge (tgt := 89) (n := 46) hX dX8_ringsNow_43 rfl rfl h (fun h => ?_) (fun h => ?_)
    · refine gi_sub [3, 4, 5, 6, 7] rfl ?_
      exact t_X8_ringsNow_J89 hX hR x1 x2 x3 x4 v h hc hz
    · refine gi_iload (n := 48) hX 1 dX8_ringsNow_46 rfl rfl ?_
      refine gi_iload (n := 50) hX 0 dX8_ringsNow_48 rfl rfl ?_
      refine gi_icmp_ge (tgt := 89) (n := 53) hX dX8_ringsNow_50 rfl rfl h (fun h => ?_) (fun h => ?_)
      · refine gi_sub [3, 4, 5, 6, 7] rfl ?_
        exact t_X8_ringsNow_J89 hX hR x1 x2 x3 x4 v h hc hz
      · refine gi_iload (n := 55) hX 0 dX8_ringsNow_53 rfl rfl ?_
        refine gi_aload_n (n := 56) hX 3 dX8_ringsNow_55 rfl rfl rfl ?_
        refine gi_getI (n := 59) hX 7 kc_X8 ly_X8 rfl rfl fl_X8_120 dX8_ringsNow_56 rfl ?_
        refine gi_icmp_ge (tgt := 89) (n := 62) hX dX8_ringsNow_59 rfl rfl h (fun h => ?_) (fun h => ?_)
        · refine gi_sub [3, 4, 5, 6, 7] rfl ?_
          exact t_X8_ringsNow_J89 hX hR x1 x2 x3 x4 v h hc hz
        · refine gi_aload_n (n := 63) hX 3 dX8_ringsNow_62 rfl rfl rfl ?_
          refine gi_iload (n := 65) hX 2 dX8_ringsNow_63 rfl rfl ?_
          refine gi_iload (n := 67) hX 1 dX8_ringsNow_65 rfl rfl ?_
          refine gi_iload (n := 69) hX 0 dX8_ringsNow_67 rfl rfl ?_
          obtain ⟨r6, v4, e5, h⟩ := bi_some h
          refine gi_virtI (st := []) (n := 72) hX hR kc_X8 ly_X8 mv_X8_isRing ml_X8_223 (m_X8_isRing Γ.2.1 Ω u1 u2 u3 v e5) rfl ⟨rfl, rfl⟩ rfl dX8_ringsNow_69 rfl rfl ?_
          refine gi_if_eq (tgt := 89) (n := 75) hX dX8_ringsNow_72 rfl rfl h (fun h => ?_) (fun h => ?_)
          · refine gi_sub [3, 4, 5, 6, 7] rfl ?_
            exact t_X8_ringsNow_J89 hX hR x1 x2 x3 x4 v4 h hc hz
          · refine gi_iload_n (n := 76) hX 5 dX8_ringsNow_75 rfl rfl rfl ?_
            refine gi_if_ne (tgt := 84) (n := 79) hX dX8_ringsNow_76 rfl rfl h (fun h => ?_) (fun h => ?_)
            · refine gi_iload_n (n := 85) hX 6 dX8_ringsNow_84 rfl rfl rfl ?_
              refine gi_sub [3, 4, 5, 7] rfl ?_
              exact t_X8_ringsNow_J85 hX hR x1 x2 x4 x3 v4 h hc hz
            · refine gi_iload (n := 81) hX 7 dX8_ringsNow_79 rfl rfl ?_
              refine gi_goto (n := 85) hX dX8_ringsNow_81 rfl ?_
              refine gi_sub [3, 4, 5, 7] rfl ?_
              exact t_X8_ringsNow_J85 hX hR x1 x2 x4 x4 v4 h hc hz
set_option maxRecDepth 20000 in
theorem t_X8_ringsNow {Γ : gC} {Ω : gO} {r0 : Int32} {v0 : gV} (hX : gx_X Γ Ω cX8_ringsNow RX8 8 (some .int)) (hR : Γ.2.2.2.1 = gx_R 2) (x1 : Int32) (v : gV) (h : f_X8_ringsNow x1 v = some (r0, v0)) : gx_G Γ Ω LM (gx_Q Γ Ω LM (some (.int r0)) v0) 8 v 0 [(0, .ref (Ω.1 0)), (1, .int x1)] [] := by
  rw [f_X8_ringsNow] at h
  refine gi_iconst (x := (0 : Int32)) (n := 1) hX rfl dX8_ringsNow_0 rfl ?_
  refine gi_istore_n (n := 2) hX [(2, .int (0 : Int32)), (0, .ref (Ω.1 0)), (1, .int x1)] dX8_ringsNow_1 rfl rfl rfl rfl ?_
  refine gi_iconst (x := (-1 : Int32)) (n := 3) hX rfl dX8_ringsNow_2 rfl ?_
  refine gi_istore_n (n := 4) hX [(3, .int (-1 : Int32)), (2, .int (0 : Int32)), (0, .ref (Ω.1 0)), (1, .int x1)] dX8_ringsNow_3 rfl rfl rfl rfl ?_
  refine gi_iconst (x := (0 : Int32)) (n := 5) hX rfl dX8_ringsNow_4 rfl ?_
  refine gi_istore (n := 7) hX [(4, .int (0 : Int32)), (3, .int (-1 : Int32)), (2, .int (0 : Int32)), (0, .ref (Ω.1 0)), (1, .int x1)] dX8_ringsNow_5 rfl rfl rfl ?_
  refine gi_sub [3, 4, 2, 1, 0] rfl ?_
  have key := lp_ind (f := (fun a : gV × Int32 × Int32 × Int32 => f_X8_ringsNow_B7 x1 a.2.1 a.2.2.1 a.2.2.2 a.1)) (P := (fun a : gV × Int32 × Int32 × Int32 => gx_G Γ Ω LM (gx_Q Γ Ω LM (some (.int r0)) v0) 8 a.1 7 [(0, .ref (Ω.1 0)), (1, .int x1), (2, .int a.2.1), (3, .int a.2.2.1), (4, .int a.2.2.2)] [])) (Z := (fun z : gV × Int32 × Int32 => gx_G Γ Ω LM (gx_Q Γ Ω LM (some (.int r0)) v0) 8 z.1 95 [(1, .int x1), (2, .int z.2.1), (3, .int z.2.2)] [])) (fun a o h hc hz => t_X8_ringsNow_B7 hX hR x1 a.2.1 a.2.2.1 a.2.2.2 a.1 h (fun c0 c1 c2 c3 e => hc (c0, c1, c2, c3) e) (fun z0 z1 z2 e => hz (z0, z1, z2) e)) fu
  obtain ⟨v1, y2, y3, e0, h⟩ := bx3_some h
  refine key (v, (0 : Int32), (-1 : Int32), (0 : Int32)) _ e0 ?_
  show gx_G Γ Ω LM (gx_Q Γ Ω LM (some (.int r0)) v0) 8 v1 95 [(1, .int x1), (2, .int y2), (3, .int y3)] []
  refine gi_iload_n (n := 96) hX 0 dX8_ringsNow_95 rfl rfl rfl ?_
  refine gi_if_ne (tgt := 103) (n := 99) hX dX8_ringsNow_96 rfl rfl h (fun h => ?_) (fun h => ?_)
  · refine gi_iload_n (n := 104) hX 2 dX8_ringsNow_103 rfl rfl rfl ?_
    exact gi_iret hX rfl dX8_ringsNow_104 h
  · refine gi_iload_n (n := 100) hX 1 dX8_ringsNow_99 rfl rfl rfl ?_
    refine gi_goto (n := 104) hX dX8_ringsNow_100 rfl ?_
    exact gi_iret hX rfl dX8_ringsNow_104 h
theorem m_X8_ringsNow (l : Launch) (Ω : gO) (x1 : Int32) (v : gV) {r0 : Int32} {v0 : gV} (h : f_X8_ringsNow x1 v = some (r0, v0)) : gx_M l Ω LM yX8_ringsNow cX8_ringsNow 8 (some .int) 2 [.ref (Ω.1 0), .int x1] v (some (.int r0)) v0 := gx_start (lv := [(0, .ref (Ω.1 0)), (1, .int x1)]) (by decide +kernel) (Nat.le_of_ble_eq_true rfl) rfl (fun Γ _ hR hX => t_X8_ringsNow hX hR x1 v h)
set_option maxRecDepth 20000 in
theorem t_X8_leastOf_J58 {Γ : gC} {Ω : gO} {r0 : Int32} {v0 : gV} {o : (gV × Int32 × Int32 × Int32) ⊕ (gV × Int32 × Int32)} (hX : gx_X Γ Ω cX8_leastOf RX8 7 (some .int)) (hR : Γ.2.2.2.1 = gx_R 6) (x1 : Int32) (x2 : Int32) (x4 : Int32) (x5 : Int32) (x6 : Int32) (s0 : Int32) (v : gV) (h : f_X8_leastOf_J58 x1 x2 x4 x5 x6 s0 v = some o) (hc : ∀ c0 c1 c2 c3, o = .inl (c0, c1, c2, c3) → gx_G Γ Ω LM (gx_Q Γ Ω LM (some (.int r0)) v0) 7 c0 15 [(0, .ref (Ω.1 0)), (1, .int x1), (2, .int x2), (3, .int c1), (4, .int c2), (5, .int c3)] []) (hz : ∀ z0 z1 z2, o = .inr (z0, z1, z2) → gx_G Γ Ω LM (gx_Q Γ Ω LM (some (.int r0)) v0) 7 z0 74 [(0, .ref (Ω.1 0)), (1, .int x1), (2, .int x2), (3, .int z1), (4, .int z2)] []) : gx_G Γ Ω LM (gx_Q Γ Ω LM (some (.int r0)) v0) 7 v 58 [(0, .ref (Ω.1 0)), (1, .int x1), (2, .int x2), (4, .int x4), (5, .int x5), (6, .int x6)] [.int s0] := by
  rw [f_X8_leastOf_J58] at h
  refine gi_istore_n (n := 59) hX [(3, .int s0), (0, .ref (Ω.1 0)), (1, .int x1), (2, .int x2), (4, .int x4), (5, .int x5), (6, .int x6)] dX8_leastOf_58 rfl rfl rfl rfl ?_
  refine gi_iload (n := 61) hX 6 dX8_leastOf_59 rfl rfl ?_
  refine gi_iload (n := 63) hX 4 dX8_leastOf_61 rfl rfl ?_
  obtain ⟨r3, v1, e2, h⟩ := bi_some h
  refine gi_statI (st := []) (n := 66) hX hR ms_X8_greater ml_X8_236 (m_X8_greater Γ.2.1 Ω x6 x4 v e2) rfl ⟨rfl, rfl⟩ rfl dX8_leastOf_63 rfl rfl ?_
  refine gi_istore (n := 68) hX [(4, .int r3), (3, .int s0), (0, .ref (Ω.1 0)), (1, .int x1), (2, .int x2), (5, .int x5), (6, .int x6)] dX8_leastOf_66 rfl rfl rfl ?_
  refine gi_iinc (z := (1 : Int32)) (n := 71) hX 5 [(5, .int (x5 + (1 : Int32))), (4, .int r3), (3, .int s0), (0, .ref (Ω.1 0)), (1, .int x1), (2, .int x2), (6, .int x6)] dX8_leastOf_68 rfl rfl rfl rfl rfl rfl ?_
  refine gi_goto (n := 15) hX dX8_leastOf_71 rfl ?_
  refine gi_sub [3, 4, 5, 2, 1, 0] rfl ?_
  exact hc _ _ _ _ (Option.some.inj h).symm
set_option maxRecDepth 20000 in
theorem t_X8_leastOf_B15 {Γ : gC} {Ω : gO} {r0 : Int32} {v0 : gV} {o : (gV × Int32 × Int32 × Int32) ⊕ (gV × Int32 × Int32)} (hX : gx_X Γ Ω cX8_leastOf RX8 7 (some .int)) (hR : Γ.2.2.2.1 = gx_R 6) (x1 : Int32) (x2 : Int32) (x3 : Int32) (x4 : Int32) (x5 : Int32) (v : gV) (h : f_X8_leastOf_B15 x1 x2 x3 x4 x5 v = some o) (hc : ∀ c0 c1 c2 c3, o = .inl (c0, c1, c2, c3) → gx_G Γ Ω LM (gx_Q Γ Ω LM (some (.int r0)) v0) 7 c0 15 [(0, .ref (Ω.1 0)), (1, .int x1), (2, .int x2), (3, .int c1), (4, .int c2), (5, .int c3)] []) (hz : ∀ z0 z1 z2, o = .inr (z0, z1, z2) → gx_G Γ Ω LM (gx_Q Γ Ω LM (some (.int r0)) v0) 7 z0 74 [(0, .ref (Ω.1 0)), (1, .int x1), (2, .int x2), (3, .int z1), (4, .int z2)] []) : gx_G Γ Ω LM (gx_Q Γ Ω LM (some (.int r0)) v0) 7 v 15 [(0, .ref (Ω.1 0)), (1, .int x1), (2, .int x2), (3, .int x3), (4, .int x4), (5, .int x5)] [] := by
  rw [f_X8_leastOf_B15] at h
  refine gi_iload (n := 17) hX 5 dX8_leastOf_15 rfl rfl ?_
  refine gi_bipush (x := (10 : Int32)) (n := 19) hX rfl dX8_leastOf_17 rfl ?_
  refine gi_icmp_ge (tgt := 74) (n := 22) hX dX8_leastOf_19 rfl rfl h (fun h => ?_) (fun h => ?_)
  · refine gi_sub [0, 1, 2, 3, 4] rfl ?_
    exact hz _ _ _ (Option.some.inj h).symm
  · refine gi_aload_n (n := 23) hX 0 dX8_leastOf_22 rfl rfl rfl ?_
    refine gi_getR (n := 26) hX 12 kc_X8 ly_X8 rfl rfl fl_X8_37 dX8_leastOf_23 rfl ?_
    refine gi_iconst (x := (0 : Int32)) (n := 27) hX rfl dX8_leastOf_26 rfl ?_
    refine gi_iload (n := 29) hX 5 dX8_leastOf_27 rfl rfl ?_
    refine gi_iast (n := 30) hX lm_10 dX8_leastOf_29 rfl h (fun v1 h => ?_)
    refine gi_aload_n (n := 31) hX 0 dX8_leastOf_30 rfl rfl rfl ?_
    obtain ⟨v2, e3, h⟩ := bv_some h
    refine gi_virtV (st := []) (n := 34) hX hR kc_X8 ly_X8 mv_X8_lives ml_X8_195 (m_X8_lives Γ.2.1 Ω v1 e3) rfl ⟨rfl, rfl⟩ rfl dX8_leastOf_31 rfl rfl ?_
    refine gi_aload_n (n := 35) hX 0 dX8_leastOf_34 rfl rfl rfl ?_
    refine gi_bipush (x := (9 : Int32)) (n := 37) hX rfl dX8_leastOf_35 rfl ?_
    obtain ⟨r6, v4, e5, h⟩ := bi_some h
    refine gi_virtI (st := []) (n := 40) hX hR kc_X8 ly_X8 mv_X8_servedBy ml_X8_217 (m_X8_servedBy Γ.2.1 Ω (9 : Int32) v2 e5) rfl ⟨rfl, rfl⟩ rfl dX8_leastOf_37 rfl rfl ?_
    obtain ⟨r9, v7, e8, h⟩ := bi_some h
    refine gi_statI (st := []) (n := 43) hX hR ms_X8_ones ml_X8_230 (m_X8_ones Γ.2.1 Ω r6 v4 e8) rfl ⟨rfl, rfl⟩ rfl dX8_leastOf_40 rfl rfl ?_
    refine gi_istore (n := 45) hX [(6, .int r9), (0, .ref (Ω.1 0)), (1, .int x1), (2, .int x2), (3, .int x3), (4, .int x4), (5, .int x5)] dX8_leastOf_43 rfl rfl rfl ?_
    refine gi_iload (n := 47) hX 0 dX8_leastOf_45 rfl rfl ?_
    refine gi_iload (n := 49) hX 5 dX8_leastOf_47 rfl rfl ?_
    refine gi_icmp_le (tgt := 57) (n := 52) hX dX8_leastOf_49 rfl rfl h (fun h => ?_) (fun h => ?_)
    · refine gi_iload_n (n := 58) hX 4 dX8_leastOf_57 rfl rfl rfl ?_
      refine gi_sub [1, 2, 3, 5, 6, 0] rfl ?_
      exact t_X8_leastOf_J58 hX hR x1 x2 x4 x5 r9 x3 v7 h hc hz
    · refine gi_iload (n := 54) hX 6 dX8_leastOf_52 rfl rfl ?_
      refine gi_goto (n := 58) hX dX8_leastOf_54 rfl ?_
      refine gi_sub [1, 2, 3, 5, 6, 0] rfl ?_
      exact t_X8_leastOf_J58 hX hR x1 x2 x4 x5 r9 x5 v7 h hc hz
set_option maxRecDepth 20000 in
theorem t_X8_leastOf {Γ : gC} {Ω : gO} {r0 : Int32} {v0 : gV} (hX : gx_X Γ Ω cX8_leastOf RX8 7 (some .int)) (hR : Γ.2.2.2.1 = gx_R 6) (x1 : Int32) (v : gV) (h : f_X8_leastOf x1 v = some (r0, v0)) : gx_G Γ Ω LM (gx_Q Γ Ω LM (some (.int r0)) v0) 7 v 0 [(0, .ref (Ω.1 0)), (1, .int x1)] [] := by
  rw [f_X8_leastOf] at h
  refine gi_aload_n (n := 1) hX 0 dX8_leastOf_0 rfl rfl rfl ?_
  refine gi_getR (n := 4) hX 12 kc_X8 ly_X8 rfl rfl fl_X8_37 dX8_leastOf_1 rfl ?_
  refine gi_iconst (x := (0 : Int32)) (n := 5) hX rfl dX8_leastOf_4 rfl ?_
  refine gi_iald (n := 6) hX lm_10 dX8_leastOf_5 rfl h (fun h => ?_)
  refine gi_topI h (fun u1 h => ?_)
  refine gi_istore_n (n := 7) hX [(2, .int u1), (0, .ref (Ω.1 0)), (1, .int x1)] dX8_leastOf_6 rfl rfl rfl rfl ?_
  refine gi_iconst (x := (-1 : Int32)) (n := 8) hX rfl dX8_leastOf_7 rfl ?_
  refine gi_istore_n (n := 9) hX [(3, .int (-1 : Int32)), (2, .int u1), (0, .ref (Ω.1 0)), (1, .int x1)] dX8_leastOf_8 rfl rfl rfl rfl ?_
  refine gi_iconst (x := (-1 : Int32)) (n := 10) hX rfl dX8_leastOf_9 rfl ?_
  refine gi_istore (n := 12) hX [(4, .int (-1 : Int32)), (3, .int (-1 : Int32)), (2, .int u1), (0, .ref (Ω.1 0)), (1, .int x1)] dX8_leastOf_10 rfl rfl rfl ?_
  refine gi_iconst (x := (0 : Int32)) (n := 13) hX rfl dX8_leastOf_12 rfl ?_
  refine gi_istore (n := 15) hX [(5, .int (0 : Int32)), (4, .int (-1 : Int32)), (3, .int (-1 : Int32)), (2, .int u1), (0, .ref (Ω.1 0)), (1, .int x1)] dX8_leastOf_13 rfl rfl rfl ?_
  refine gi_sub [4, 5, 3, 2, 1, 0] rfl ?_
  have key := lp_ind (f := (fun a : gV × Int32 × Int32 × Int32 => f_X8_leastOf_B15 x1 u1 a.2.1 a.2.2.1 a.2.2.2 a.1)) (P := (fun a : gV × Int32 × Int32 × Int32 => gx_G Γ Ω LM (gx_Q Γ Ω LM (some (.int r0)) v0) 7 a.1 15 [(0, .ref (Ω.1 0)), (1, .int x1), (2, .int u1), (3, .int a.2.1), (4, .int a.2.2.1), (5, .int a.2.2.2)] [])) (Z := (fun z : gV × Int32 × Int32 => gx_G Γ Ω LM (gx_Q Γ Ω LM (some (.int r0)) v0) 7 z.1 74 [(0, .ref (Ω.1 0)), (1, .int x1), (2, .int u1), (3, .int z.2.1), (4, .int z.2.2)] [])) (fun a o h hc hz => t_X8_leastOf_B15 hX hR x1 u1 a.2.1 a.2.2.1 a.2.2.2 a.1 h (fun c0 c1 c2 c3 e => hc (c0, c1, c2, c3) e) (fun z0 z1 z2 e => hz (z0, z1, z2) e)) fu
  obtain ⟨v2, y3, y4, e0, h⟩ := bx3_some h
  refine key (v, (-1 : Int32), (-1 : Int32), (0 : Int32)) _ e0 ?_
  show gx_G Γ Ω LM (gx_Q Γ Ω LM (some (.int r0)) v0) 7 v2 74 [(0, .ref (Ω.1 0)), (1, .int x1), (2, .int u1), (3, .int y3), (4, .int y4)] []
  refine gi_aload_n (n := 75) hX 0 dX8_leastOf_74 rfl rfl rfl ?_
  refine gi_getR (n := 78) hX 12 kc_X8 ly_X8 rfl rfl fl_X8_37 dX8_leastOf_75 rfl ?_
  refine gi_iconst (x := (0 : Int32)) (n := 79) hX rfl dX8_leastOf_78 rfl ?_
  refine gi_iload_n (n := 80) hX 2 dX8_leastOf_79 rfl rfl rfl ?_
  refine gi_iast (n := 81) hX lm_10 dX8_leastOf_80 rfl h (fun v5 h => ?_)
  refine gi_iload_n (n := 82) hX 1 dX8_leastOf_81 rfl rfl rfl ?_
  refine gi_if_ne (tgt := 89) (n := 85) hX dX8_leastOf_82 rfl rfl h (fun h => ?_) (fun h => ?_)
  · refine gi_iload (n := 91) hX 4 dX8_leastOf_89 rfl rfl ?_
    exact gi_iret hX rfl dX8_leastOf_91 h
  · refine gi_iload_n (n := 86) hX 3 dX8_leastOf_85 rfl rfl rfl ?_
    refine gi_goto (n := 91) hX dX8_leastOf_86 rfl ?_
    exact gi_iret hX rfl dX8_leastOf_91 h
theorem m_X8_leastOf (l : Launch) (Ω : gO) (x1 : Int32) (v : gV) {r0 : Int32} {v0 : gV} (h : f_X8_leastOf x1 v = some (r0, v0)) : gx_M l Ω LM yX8_leastOf cX8_leastOf 7 (some .int) 6 [.ref (Ω.1 0), .int x1] v (some (.int r0)) v0 := gx_start (lv := [(0, .ref (Ω.1 0)), (1, .int x1)]) (by decide +kernel) (Nat.le_of_ble_eq_true rfl) rfl (fun Γ _ hR hX => t_X8_leastOf hX hR x1 v h)
set_option maxRecDepth 20000 in
theorem t_X8_topOf_J47 {Γ : gC} {Ω : gO} {r0 : Int32} {v0 : gV} {o : (gV × Int32 × Int32 × Int32) ⊕ (gV × Int32 × Int32)} (hX : gx_X Γ Ω cX8_topOf RX8 6 (some .int)) (hR : Γ.2.2.2.1 = gx_R 6) (x1 : Int32) (x3 : Int32) (x4 : Int32) (x5 : Int32) (s0 : Int32) (v : gV) (h : f_X8_topOf_J47 x1 x3 x4 x5 s0 v = some o) (hc : ∀ c0 c1 c2 c3, o = .inl (c0, c1, c2, c3) → gx_G Γ Ω LM (gx_Q Γ Ω LM (some (.int r0)) v0) 6 c0 7 [(0, .ref (Ω.1 0)), (1, .int x1), (2, .int c1), (3, .int c2), (4, .int c3)] []) (hz : ∀ z0 z1 z2, o = .inr (z0, z1, z2) → gx_G Γ Ω LM (gx_Q Γ Ω LM (some (.int r0)) v0) 6 z0 61 [(0, .ref (Ω.1 0)), (1, .int x1), (2, .int z1), (3, .int z2)] []) : gx_G Γ Ω LM (gx_Q Γ Ω LM (some (.int r0)) v0) 6 v 47 [(0, .ref (Ω.1 0)), (1, .int x1), (3, .int x3), (4, .int x4), (5, .int x5)] [.int s0] := by
  rw [f_X8_topOf_J47] at h
  refine gi_istore_n (n := 48) hX [(2, .int s0), (0, .ref (Ω.1 0)), (1, .int x1), (3, .int x3), (4, .int x4), (5, .int x5)] dX8_topOf_47 rfl rfl rfl rfl ?_
  refine gi_iload (n := 50) hX 5 dX8_topOf_48 rfl rfl ?_
  refine gi_iload_n (n := 51) hX 3 dX8_topOf_50 rfl rfl rfl ?_
  obtain ⟨r3, v1, e2, h⟩ := bi_some h
  refine gi_statI (st := []) (n := 54) hX hR ms_X8_greater ml_X8_236 (m_X8_greater Γ.2.1 Ω x5 x3 v e2) rfl ⟨rfl, rfl⟩ rfl dX8_topOf_51 rfl rfl ?_
  refine gi_istore_n (n := 55) hX [(3, .int r3), (2, .int s0), (0, .ref (Ω.1 0)), (1, .int x1), (4, .int x4), (5, .int x5)] dX8_topOf_54 rfl rfl rfl rfl ?_
  refine gi_iinc (z := (1 : Int32)) (n := 58) hX 4 [(4, .int (x4 + (1 : Int32))), (3, .int r3), (2, .int s0), (0, .ref (Ω.1 0)), (1, .int x1), (5, .int x5)] dX8_topOf_55 rfl rfl rfl rfl rfl rfl ?_
  refine gi_goto (n := 7) hX dX8_topOf_58 rfl ?_
  refine gi_sub [3, 4, 2, 1, 0] rfl ?_
  exact hc _ _ _ _ (Option.some.inj h).symm
set_option maxRecDepth 20000 in
theorem t_X8_topOf_B7 {Γ : gC} {Ω : gO} {r0 : Int32} {v0 : gV} {o : (gV × Int32 × Int32 × Int32) ⊕ (gV × Int32 × Int32)} (hX : gx_X Γ Ω cX8_topOf RX8 6 (some .int)) (hR : Γ.2.2.2.1 = gx_R 6) (x1 : Int32) (x2 : Int32) (x3 : Int32) (x4 : Int32) (v : gV) (h : f_X8_topOf_B7 x1 x2 x3 x4 v = some o) (hc : ∀ c0 c1 c2 c3, o = .inl (c0, c1, c2, c3) → gx_G Γ Ω LM (gx_Q Γ Ω LM (some (.int r0)) v0) 6 c0 7 [(0, .ref (Ω.1 0)), (1, .int x1), (2, .int c1), (3, .int c2), (4, .int c3)] []) (hz : ∀ z0 z1 z2, o = .inr (z0, z1, z2) → gx_G Γ Ω LM (gx_Q Γ Ω LM (some (.int r0)) v0) 6 z0 61 [(0, .ref (Ω.1 0)), (1, .int x1), (2, .int z1), (3, .int z2)] []) : gx_G Γ Ω LM (gx_Q Γ Ω LM (some (.int r0)) v0) 6 v 7 [(0, .ref (Ω.1 0)), (1, .int x1), (2, .int x2), (3, .int x3), (4, .int x4)] [] := by
  rw [f_X8_topOf_B7] at h
  refine gi_iload (n := 9) hX 4 dX8_topOf_7 rfl rfl ?_
  refine gi_bipush (x := (8 : Int32)) (n := 11) hX rfl dX8_topOf_9 rfl ?_
  refine gi_icmp_ge (tgt := 61) (n := 14) hX dX8_topOf_11 rfl rfl h (fun h => ?_) (fun h => ?_)
  · refine gi_sub [0, 1, 2, 3] rfl ?_
    exact hz _ _ _ (Option.some.inj h).symm
  · refine gi_aload_n (n := 15) hX 0 dX8_topOf_14 rfl rfl rfl ?_
    refine gi_iload (n := 17) hX 4 dX8_topOf_15 rfl rfl ?_
    refine gi_putI (n := 20) hX 13 kc_X8 ly_X8 rfl rfl fl_X8_70 rfl rfl dX8_topOf_17 rfl h (fun v1 h => ?_)
    refine gi_aload_n (n := 21) hX 0 dX8_topOf_20 rfl rfl rfl ?_
    obtain ⟨v2, e3, h⟩ := bv_some h
    refine gi_virtV (st := []) (n := 24) hX hR kc_X8 ly_X8 mv_X8_lives ml_X8_195 (m_X8_lives Γ.2.1 Ω v1 e3) rfl ⟨rfl, rfl⟩ rfl dX8_topOf_21 rfl rfl ?_
    refine gi_aload_n (n := 25) hX 0 dX8_topOf_24 rfl rfl rfl ?_
    refine gi_bipush (x := (9 : Int32)) (n := 27) hX rfl dX8_topOf_25 rfl ?_
    obtain ⟨r6, v4, e5, h⟩ := bi_some h
    refine gi_virtI (st := []) (n := 30) hX hR kc_X8 ly_X8 mv_X8_servedBy ml_X8_217 (m_X8_servedBy Γ.2.1 Ω (9 : Int32) v2 e5) rfl ⟨rfl, rfl⟩ rfl dX8_topOf_27 rfl rfl ?_
    obtain ⟨r9, v7, e8, h⟩ := bi_some h
    refine gi_statI (st := []) (n := 33) hX hR ms_X8_ones ml_X8_230 (m_X8_ones Γ.2.1 Ω r6 v4 e8) rfl ⟨rfl, rfl⟩ rfl dX8_topOf_30 rfl rfl ?_
    refine gi_istore (n := 35) hX [(5, .int r9), (0, .ref (Ω.1 0)), (1, .int x1), (2, .int x2), (3, .int x3), (4, .int x4)] dX8_topOf_33 rfl rfl rfl ?_
    refine gi_iload (n := 37) hX 0 dX8_topOf_35 rfl rfl ?_
    refine gi_iload_n (n := 38) hX 4 dX8_topOf_37 rfl rfl rfl ?_
    refine gi_icmp_le (tgt := 46) (n := 41) hX dX8_topOf_38 rfl rfl h (fun h => ?_) (fun h => ?_)
    · refine gi_iload_n (n := 47) hX 3 dX8_topOf_46 rfl rfl rfl ?_
      refine gi_sub [1, 2, 4, 5, 0] rfl ?_
      exact t_X8_topOf_J47 hX hR x1 x3 x4 r9 x2 v7 h hc hz
    · refine gi_iload (n := 43) hX 5 dX8_topOf_41 rfl rfl ?_
      refine gi_goto (n := 47) hX dX8_topOf_43 rfl ?_
      refine gi_sub [1, 2, 4, 5, 0] rfl ?_
      exact t_X8_topOf_J47 hX hR x1 x3 x4 r9 x4 v7 h hc hz
set_option maxRecDepth 20000 in
theorem t_X8_topOf {Γ : gC} {Ω : gO} {r0 : Int32} {v0 : gV} (hX : gx_X Γ Ω cX8_topOf RX8 6 (some .int)) (hR : Γ.2.2.2.1 = gx_R 6) (x1 : Int32) (v : gV) (h : f_X8_topOf x1 v = some (r0, v0)) : gx_G Γ Ω LM (gx_Q Γ Ω LM (some (.int r0)) v0) 6 v 0 [(0, .ref (Ω.1 0)), (1, .int x1)] [] := by
  rw [f_X8_topOf] at h
  refine gi_iconst (x := (-1 : Int32)) (n := 1) hX rfl dX8_topOf_0 rfl ?_
  refine gi_istore_n (n := 2) hX [(2, .int (-1 : Int32)), (0, .ref (Ω.1 0)), (1, .int x1)] dX8_topOf_1 rfl rfl rfl rfl ?_
  refine gi_iconst (x := (-1 : Int32)) (n := 3) hX rfl dX8_topOf_2 rfl ?_
  refine gi_istore_n (n := 4) hX [(3, .int (-1 : Int32)), (2, .int (-1 : Int32)), (0, .ref (Ω.1 0)), (1, .int x1)] dX8_topOf_3 rfl rfl rfl rfl ?_
  refine gi_iconst (x := (0 : Int32)) (n := 5) hX rfl dX8_topOf_4 rfl ?_
  refine gi_istore (n := 7) hX [(4, .int (0 : Int32)), (3, .int (-1 : Int32)), (2, .int (-1 : Int32)), (0, .ref (Ω.1 0)), (1, .int x1)] dX8_topOf_5 rfl rfl rfl ?_
  refine gi_sub [3, 4, 2, 1, 0] rfl ?_
  have key := lp_ind (f := (fun a : gV × Int32 × Int32 × Int32 => f_X8_topOf_B7 x1 a.2.1 a.2.2.1 a.2.2.2 a.1)) (P := (fun a : gV × Int32 × Int32 × Int32 => gx_G Γ Ω LM (gx_Q Γ Ω LM (some (.int r0)) v0) 6 a.1 7 [(0, .ref (Ω.1 0)), (1, .int x1), (2, .int a.2.1), (3, .int a.2.2.1), (4, .int a.2.2.2)] [])) (Z := (fun z : gV × Int32 × Int32 => gx_G Γ Ω LM (gx_Q Γ Ω LM (some (.int r0)) v0) 6 z.1 61 [(0, .ref (Ω.1 0)), (1, .int x1), (2, .int z.2.1), (3, .int z.2.2)] [])) (fun a o h hc hz => t_X8_topOf_B7 hX hR x1 a.2.1 a.2.2.1 a.2.2.2 a.1 h (fun c0 c1 c2 c3 e => hc (c0, c1, c2, c3) e) (fun z0 z1 z2 e => hz (z0, z1, z2) e)) fu
  obtain ⟨v1, y2, y3, e0, h⟩ := bx3_some h
  refine key (v, (-1 : Int32), (-1 : Int32), (0 : Int32)) _ e0 ?_
  show gx_G Γ Ω LM (gx_Q Γ Ω LM (some (.int r0)) v0) 6 v1 61 [(0, .ref (Ω.1 0)), (1, .int x1), (2, .int y2), (3, .int y3)] []
  refine gi_aload_n (n := 62) hX 0 dX8_topOf_61 rfl rfl rfl ?_
  refine gi_iconst (x := (-1 : Int32)) (n := 63) hX rfl dX8_topOf_62 rfl ?_
  refine gi_putI (n := 66) hX 13 kc_X8 ly_X8 rfl rfl fl_X8_70 rfl rfl dX8_topOf_63 rfl h (fun v4 h => ?_)
  refine gi_iload_n (n := 67) hX 1 dX8_topOf_66 rfl rfl rfl ?_
  refine gi_if_ne (tgt := 74) (n := 70) hX dX8_topOf_67 rfl rfl h (fun h => ?_) (fun h => ?_)
  · refine gi_iload_n (n := 75) hX 3 dX8_topOf_74 rfl rfl rfl ?_
    exact gi_iret hX rfl dX8_topOf_75 h
  · refine gi_iload_n (n := 71) hX 2 dX8_topOf_70 rfl rfl rfl ?_
    refine gi_goto (n := 75) hX dX8_topOf_71 rfl ?_
    exact gi_iret hX rfl dX8_topOf_75 h
theorem m_X8_topOf (l : Launch) (Ω : gO) (x1 : Int32) (v : gV) {r0 : Int32} {v0 : gV} (h : f_X8_topOf x1 v = some (r0, v0)) : gx_M l Ω LM yX8_topOf cX8_topOf 6 (some .int) 6 [.ref (Ω.1 0), .int x1] v (some (.int r0)) v0 := gx_start (lv := [(0, .ref (Ω.1 0)), (1, .int x1)]) (by decide +kernel) (Nat.le_of_ble_eq_true rfl) rfl (fun Γ _ hR hX => t_X8_topOf hX hR x1 v h)
set_option maxRecDepth 20000 in
theorem t_X8_digest_B6 {Γ : gC} {Ω : gO} {r0 : Int64} {v0 : gV} {o : (gV × Int64 × Int32) ⊕ (gV × Int64)} (hX : gx_X Γ Ω cX8_digest RX8 4 (some .long)) (hR : Γ.2.2.2.1 = gx_R 10) (x1 : Int64) (x3 : Int32) (v : gV) (h : f_X8_digest_B6 x1 x3 v = some o) (hc : ∀ c0 c1 c2, o = .inl (c0, c1, c2) → gx_G Γ Ω LM (gx_Q Γ Ω LM (some (.long r0)) v0) 4 c0 6 [(0, .ref (Ω.1 0)), (1, .long c1), (3, .int c2)] []) (hz : ∀ z0 z1, o = .inr (z0, z1) → gx_G Γ Ω LM (gx_Q Γ Ω LM (some (.long r0)) v0) 4 z0 31 [(0, .ref (Ω.1 0)), (1, .long z1)] []) : gx_G Γ Ω LM (gx_Q Γ Ω LM (some (.long r0)) v0) 4 v 6 [(0, .ref (Ω.1 0)), (1, .long x1), (3, .int x3)] [] := by
  rw [f_X8_digest_B6] at h
  refine gi_iload_n (n := 7) hX 2 dX8_digest_6 rfl rfl rfl ?_
  refine gi_bipush (x := (8 : Int32)) (n := 9) hX rfl dX8_digest_7 rfl ?_
  refine gi_icmp_ge (tgt := 31) (n := 12) hX dX8_digest_9 rfl rfl h (fun h => ?_) (fun h => ?_)
  · refine gi_sub [0, 1] rfl ?_
    exact hz _ _ (Option.some.inj h).symm
  · refine gi_ldc2 (n := 15) hX co_X8_293 dX8_digest_12 rfl ?_
    refine gi_lload_n (n := 16) hX 1 dX8_digest_15 rfl rfl rfl ?_
    refine gi_lmul (n := 17) hX dX8_digest_16 rfl ?_
    refine gi_aload_n (n := 18) hX 0 dX8_digest_17 rfl rfl rfl ?_
    refine gi_iload_n (n := 19) hX 2 dX8_digest_18 rfl rfl rfl ?_
    obtain ⟨r3, v1, e2, h⟩ := bi_some h
    refine gi_virtI (st := [.long ((31 : Int64) * x1)]) (n := 22) hX hR kc_X8 ly_X8 mv_X8_count ml_X8_297 (m_X8_count Γ.2.1 Ω x3 v e2) rfl ⟨rfl, rfl⟩ rfl dX8_digest_19 rfl rfl ?_
    refine gi_i2l (n := 23) hX dX8_digest_22 rfl ?_
    refine gi_ladd (n := 24) hX dX8_digest_23 rfl ?_
    refine gi_topJ h (fun u4 h => ?_)
    refine gi_lstore_n (n := 25) hX [(1, .long u4), (0, .ref (Ω.1 0)), (3, .int x3)] dX8_digest_24 rfl rfl rfl rfl ?_
    refine gi_iinc (z := (1 : Int32)) (n := 28) hX 2 [(3, .int (x3 + (1 : Int32))), (1, .long u4), (0, .ref (Ω.1 0))] dX8_digest_25 rfl rfl rfl rfl rfl rfl ?_
    refine gi_goto (n := 6) hX dX8_digest_28 rfl ?_
    refine gi_sub [2, 1, 0] rfl ?_
    exact hc _ _ _ (Option.some.inj h).symm
set_option maxRecDepth 20000 in
theorem t_X8_digest_B57 {Γ : gC} {Ω : gO} {r0 : Int64} {v0 : gV} {o : (gV × Int64 × Int32) ⊕ (gV × Int64)} (hX : gx_X Γ Ω cX8_digest RX8 4 (some .long)) (hR : Γ.2.2.2.1 = gx_R 10) (x1 : Int64) (x3 : Int32) (v : gV) (h : f_X8_digest_B57 x1 x3 v = some o) (hc : ∀ c0 c1 c2, o = .inl (c0, c1, c2) → gx_G Γ Ω LM (gx_Q Γ Ω LM (some (.long r0)) v0) 4 c0 57 [(0, .ref (Ω.1 0)), (1, .long c1), (3, .int c2)] []) (hz : ∀ z0 z1, o = .inr (z0, z1) → gx_G Γ Ω LM (gx_Q Γ Ω LM (some (.long r0)) v0) 4 z0 78 [(0, .ref (Ω.1 0)), (1, .long z1)] []) : gx_G Γ Ω LM (gx_Q Γ Ω LM (some (.long r0)) v0) 4 v 57 [(0, .ref (Ω.1 0)), (1, .long x1), (3, .int x3)] [] := by
  rw [f_X8_digest_B57] at h
  refine gi_iload_n (n := 58) hX 2 dX8_digest_57 rfl rfl rfl ?_
  refine gi_aload_n (n := 59) hX 0 dX8_digest_58 rfl rfl rfl ?_
  refine gi_getI (n := 62) hX 7 kc_X8 ly_X8 rfl rfl fl_X8_120 dX8_digest_59 rfl ?_
  refine gi_icmp_ge (tgt := 78) (n := 65) hX dX8_digest_62 rfl rfl h (fun h => ?_) (fun h => ?_)
  · refine gi_sub [0, 1] rfl ?_
    exact hz _ _ (Option.some.inj h).symm
  · refine gi_aload_n (n := 66) hX 0 dX8_digest_65 rfl rfl rfl ?_
    refine gi_lload_n (n := 67) hX 1 dX8_digest_66 rfl rfl rfl ?_
    refine gi_iload_n (n := 68) hX 2 dX8_digest_67 rfl rfl rfl ?_
    obtain ⟨r3, v1, e2, h⟩ := bj_some h
    refine gi_virtJ (st := []) (n := 71) hX hR kc_X8 ly_X8 mv_X8_tellsRider ml_X8_300 (m_X8_tellsRider Γ.2.1 Ω x1 x3 v e2) rfl ⟨rfl, rfl⟩ rfl dX8_digest_68 rfl rfl ?_
    refine gi_lstore_n (n := 72) hX [(1, .long r3), (0, .ref (Ω.1 0)), (3, .int x3)] dX8_digest_71 rfl rfl rfl rfl ?_
    refine gi_iinc (z := (1 : Int32)) (n := 75) hX 2 [(3, .int (x3 + (1 : Int32))), (1, .long r3), (0, .ref (Ω.1 0))] dX8_digest_72 rfl rfl rfl rfl rfl rfl ?_
    refine gi_goto (n := 57) hX dX8_digest_75 rfl ?_
    refine gi_sub [2, 1, 0] rfl ?_
    exact hc _ _ _ (Option.some.inj h).symm
set_option maxRecDepth 20000 in
theorem t_X8_digest_B102 {Γ : gC} {Ω : gO} {r0 : Int64} {v0 : gV} {o : (gV × Int64 × Int32) ⊕ (gV × Int64)} (hX : gx_X Γ Ω cX8_digest RX8 4 (some .long)) (hR : Γ.2.2.2.1 = gx_R 10) (x1 : Int64) (x3 : Int32) (v : gV) (h : f_X8_digest_B102 x1 x3 v = some o) (hc : ∀ c0 c1 c2, o = .inl (c0, c1, c2) → gx_G Γ Ω LM (gx_Q Γ Ω LM (some (.long r0)) v0) 4 c0 102 [(0, .ref (Ω.1 0)), (1, .long c1), (3, .int c2)] []) (hz : ∀ z0 z1, o = .inr (z0, z1) → gx_G Γ Ω LM (gx_Q Γ Ω LM (some (.long r0)) v0) 4 z0 127 [(0, .ref (Ω.1 0)), (1, .long z1)] []) : gx_G Γ Ω LM (gx_Q Γ Ω LM (some (.long r0)) v0) 4 v 102 [(0, .ref (Ω.1 0)), (1, .long x1), (3, .int x3)] [] := by
  rw [f_X8_digest_B102] at h
  refine gi_iload_n (n := 103) hX 2 dX8_digest_102 rfl rfl rfl ?_
  refine gi_iconst (x := (3 : Int32)) (n := 104) hX rfl dX8_digest_103 rfl ?_
  refine gi_icmp_ge (tgt := 127) (n := 107) hX dX8_digest_104 rfl rfl h (fun h => ?_) (fun h => ?_)
  · refine gi_sub [0, 1] rfl ?_
    exact hz _ _ (Option.some.inj h).symm
  · refine gi_ldc2 (n := 110) hX co_X8_293 dX8_digest_107 rfl ?_
    refine gi_lload_n (n := 111) hX 1 dX8_digest_110 rfl rfl rfl ?_
    refine gi_lmul (n := 112) hX dX8_digest_111 rfl ?_
    refine gi_aload_n (n := 113) hX 0 dX8_digest_112 rfl rfl rfl ?_
    refine gi_getR (n := 116) hX 23 kc_X8 ly_X8 rfl rfl fl_X8_61 dX8_digest_113 rfl ?_
    refine gi_iload_n (n := 117) hX 2 dX8_digest_116 rfl rfl rfl ?_
    refine gi_iald (n := 118) hX lm_18 dX8_digest_117 rfl h (fun h => ?_)
    refine gi_i2l (n := 119) hX dX8_digest_118 rfl ?_
    refine gi_ladd (n := 120) hX dX8_digest_119 rfl ?_
    refine gi_topJ h (fun u1 h => ?_)
    refine gi_lstore_n (n := 121) hX [(1, .long u1), (0, .ref (Ω.1 0)), (3, .int x3)] dX8_digest_120 rfl rfl rfl rfl ?_
    refine gi_iinc (z := (1 : Int32)) (n := 124) hX 2 [(3, .int (x3 + (1 : Int32))), (1, .long u1), (0, .ref (Ω.1 0))] dX8_digest_121 rfl rfl rfl rfl rfl rfl ?_
    refine gi_goto (n := 102) hX dX8_digest_124 rfl ?_
    refine gi_sub [2, 1, 0] rfl ?_
    exact hc _ _ _ (Option.some.inj h).symm
set_option maxRecDepth 20000 in
theorem t_X8_digest {Γ : gC} {Ω : gO} {r0 : Int64} {v0 : gV} (hX : gx_X Γ Ω cX8_digest RX8 4 (some .long)) (hR : Γ.2.2.2.1 = gx_R 10)  (v : gV) (h : f_X8_digest  v = some (r0, v0)) : gx_G Γ Ω LM (gx_Q Γ Ω LM (some (.long r0)) v0) 4 v 0 [(0, .ref (Ω.1 0))] [] := by
  rw [f_X8_digest] at h
  refine gi_ldc2 (n := 3) hX co_X8_295 dX8_digest_0 rfl ?_
  refine gi_lstore_n (n := 4) hX [(1, .long (17 : Int64)), (0, .ref (Ω.1 0))] dX8_digest_3 rfl rfl rfl rfl ?_
  refine gi_iconst (x := (0 : Int32)) (n := 5) hX rfl dX8_digest_4 rfl ?_
  refine gi_istore_n (n := 6) hX [(3, .int (0 : Int32)), (1, .long (17 : Int64)), (0, .ref (Ω.1 0))] dX8_digest_5 rfl rfl rfl rfl ?_
  refine gi_sub [2, 1, 0] rfl ?_
  have key := lp_ind (f := (fun a : gV × Int64 × Int32 => f_X8_digest_B6 a.2.1 a.2.2 a.1)) (P := (fun a : gV × Int64 × Int32 => gx_G Γ Ω LM (gx_Q Γ Ω LM (some (.long r0)) v0) 4 a.1 6 [(0, .ref (Ω.1 0)), (1, .long a.2.1), (3, .int a.2.2)] [])) (Z := (fun z : gV × Int64 => gx_G Γ Ω LM (gx_Q Γ Ω LM (some (.long r0)) v0) 4 z.1 31 [(0, .ref (Ω.1 0)), (1, .long z.2)] [])) (fun a o h hc hz => t_X8_digest_B6 hX hR a.2.1 a.2.2 a.1 h (fun c0 c1 c2 e => hc (c0, c1, c2) e) (fun z0 z1 e => hz (z0, z1) e)) fu
  obtain ⟨v1, y2, e0, h⟩ := bx2_some h
  refine key (v, (17 : Int64), (0 : Int32)) _ e0 ?_
  show gx_G Γ Ω LM (gx_Q Γ Ω LM (some (.long r0)) v0) 4 v1 31 [(0, .ref (Ω.1 0)), (1, .long y2)] []
  refine gi_ldc2 (n := 34) hX co_X8_293 dX8_digest_31 rfl ?_
  refine gi_lload_n (n := 35) hX 1 dX8_digest_34 rfl rfl rfl ?_
  refine gi_lmul (n := 36) hX dX8_digest_35 rfl ?_
  refine gi_aload_n (n := 37) hX 0 dX8_digest_36 rfl rfl rfl ?_
  obtain ⟨r5, v3, e4, h⟩ := bi_some h
  refine gi_virtI (st := [.long ((31 : Int64) * y2)]) (n := 40) hX hR kc_X8 ly_X8 mv_X8_readsRiders ml_X8_133 (m_X8_readsRiders Γ.2.1 Ω v1 e4) rfl ⟨rfl, rfl⟩ rfl dX8_digest_37 rfl rfl ?_
  refine gi_i2l (n := 41) hX dX8_digest_40 rfl ?_
  refine gi_ladd (n := 42) hX dX8_digest_41 rfl ?_
  refine gi_topJ h (fun u6 h => ?_)
  refine gi_lstore_n (n := 43) hX [(1, .long u6), (0, .ref (Ω.1 0))] dX8_digest_42 rfl rfl rfl rfl ?_
  refine gi_ldc2 (n := 46) hX co_X8_293 dX8_digest_43 rfl ?_
  refine gi_lload_n (n := 47) hX 0 dX8_digest_46 rfl rfl rfl ?_
  refine gi_lmul (n := 48) hX dX8_digest_47 rfl ?_
  refine gi_aload_n (n := 49) hX 1 dX8_digest_48 rfl rfl rfl ?_
  obtain ⟨r9, v7, e8, h⟩ := bi_some h
  refine gi_virtI (st := [.long ((31 : Int64) * u6)]) (n := 52) hX hR kc_X8 ly_X8 mv_X8_readsBag ml_X8_137 (m_X8_readsBag Γ.2.1 Ω v3 e8) rfl ⟨rfl, rfl⟩ rfl dX8_digest_49 rfl rfl ?_
  refine gi_i2l (n := 53) hX dX8_digest_52 rfl ?_
  refine gi_ladd (n := 54) hX dX8_digest_53 rfl ?_
  refine gi_topJ h (fun u10 h => ?_)
  refine gi_lstore_n (n := 55) hX [(1, .long u10), (0, .ref (Ω.1 0))] dX8_digest_54 rfl rfl rfl rfl ?_
  refine gi_iconst (x := (0 : Int32)) (n := 56) hX rfl dX8_digest_55 rfl ?_
  refine gi_istore_n (n := 57) hX [(3, .int (0 : Int32)), (1, .long u10), (0, .ref (Ω.1 0))] dX8_digest_56 rfl rfl rfl rfl ?_
  refine gi_sub [2, 1, 0] rfl ?_
  have key := lp_ind (f := (fun a : gV × Int64 × Int32 => f_X8_digest_B57 a.2.1 a.2.2 a.1)) (P := (fun a : gV × Int64 × Int32 => gx_G Γ Ω LM (gx_Q Γ Ω LM (some (.long r0)) v0) 4 a.1 57 [(0, .ref (Ω.1 0)), (1, .long a.2.1), (3, .int a.2.2)] [])) (Z := (fun z : gV × Int64 => gx_G Γ Ω LM (gx_Q Γ Ω LM (some (.long r0)) v0) 4 z.1 78 [(0, .ref (Ω.1 0)), (1, .long z.2)] [])) (fun a o h hc hz => t_X8_digest_B57 hX hR a.2.1 a.2.2 a.1 h (fun c0 c1 c2 e => hc (c0, c1, c2) e) (fun z0 z1 e => hz (z0, z1) e)) fu
  obtain ⟨v11, y12, e0, h⟩ := bx2_some h
  refine key (v7, u10, (0 : Int32)) _ e0 ?_
  show gx_G Γ Ω LM (gx_Q Γ Ω LM (some (.long r0)) v0) 4 v11 78 [(0, .ref (Ω.1 0)), (1, .long y12)] []
  refine gi_aload_n (n := 79) hX 0 dX8_digest_78 rfl rfl rfl ?_
  refine gi_aload_n (n := 80) hX 0 dX8_digest_79 rfl rfl rfl ?_
  refine gi_aload_n (n := 81) hX 0 dX8_digest_80 rfl rfl rfl ?_
  refine gi_lload_n (n := 82) hX 1 dX8_digest_81 rfl rfl rfl ?_
  refine gi_iconst (x := (0 : Int32)) (n := 83) hX rfl dX8_digest_82 rfl ?_
  obtain ⟨r15, v13, e14, h⟩ := bj_some h
  refine gi_virtJ (st := [.ref (Ω.1 0), .ref (Ω.1 0)]) (n := 86) hX hR kc_X8 ly_X8 mv_X8_tellsDay ml_X8_304 (m_X8_tellsDay Γ.2.1 Ω y12 (0 : Int32) v11 e14) rfl ⟨rfl, rfl⟩ rfl dX8_digest_83 rfl rfl ?_
  refine gi_iconst (x := (4 : Int32)) (n := 87) hX rfl dX8_digest_86 rfl ?_
  obtain ⟨r18, v16, e17, h⟩ := bj_some h
  refine gi_virtJ (st := [.ref (Ω.1 0)]) (n := 90) hX hR kc_X8 ly_X8 mv_X8_tellsDay ml_X8_304 (m_X8_tellsDay Γ.2.1 Ω r15 (4 : Int32) v13 e17) rfl ⟨rfl, rfl⟩ rfl dX8_digest_87 rfl rfl ?_
  refine gi_bipush (x := (9 : Int32)) (n := 92) hX rfl dX8_digest_90 rfl ?_
  obtain ⟨r21, v19, e20, h⟩ := bj_some h
  refine gi_virtJ (st := []) (n := 95) hX hR kc_X8 ly_X8 mv_X8_tellsDay ml_X8_304 (m_X8_tellsDay Γ.2.1 Ω r18 (9 : Int32) v16 e20) rfl ⟨rfl, rfl⟩ rfl dX8_digest_92 rfl rfl ?_
  refine gi_lstore_n (n := 96) hX [(1, .long r21), (0, .ref (Ω.1 0))] dX8_digest_95 rfl rfl rfl rfl ?_
  refine gi_aload_n (n := 97) hX 1 dX8_digest_96 rfl rfl rfl ?_
  obtain ⟨v22, e23, h⟩ := bv_some h
  refine gi_virtV (st := []) (n := 100) hX hR kc_X8 ly_X8 mv_X8_lives ml_X8_195 (m_X8_lives Γ.2.1 Ω v19 e23) rfl ⟨rfl, rfl⟩ rfl dX8_digest_97 rfl rfl ?_
  refine gi_iconst (x := (0 : Int32)) (n := 101) hX rfl dX8_digest_100 rfl ?_
  refine gi_istore_n (n := 102) hX [(3, .int (0 : Int32)), (1, .long r21), (0, .ref (Ω.1 0))] dX8_digest_101 rfl rfl rfl rfl ?_
  refine gi_sub [2, 1, 0] rfl ?_
  have key := lp_ind (f := (fun a : gV × Int64 × Int32 => f_X8_digest_B102 a.2.1 a.2.2 a.1)) (P := (fun a : gV × Int64 × Int32 => gx_G Γ Ω LM (gx_Q Γ Ω LM (some (.long r0)) v0) 4 a.1 102 [(0, .ref (Ω.1 0)), (1, .long a.2.1), (3, .int a.2.2)] [])) (Z := (fun z : gV × Int64 => gx_G Γ Ω LM (gx_Q Γ Ω LM (some (.long r0)) v0) 4 z.1 127 [(0, .ref (Ω.1 0)), (1, .long z.2)] [])) (fun a o h hc hz => t_X8_digest_B102 hX hR a.2.1 a.2.2 a.1 h (fun c0 c1 c2 e => hc (c0, c1, c2) e) (fun z0 z1 e => hz (z0, z1) e)) fu
  obtain ⟨v24, y25, e0, h⟩ := bx2_some h
  refine key (v22, r21, (0 : Int32)) _ e0 ?_
  show gx_G Γ Ω LM (gx_Q Γ Ω LM (some (.long r0)) v0) 4 v24 127 [(0, .ref (Ω.1 0)), (1, .long y25)] []
  refine gi_ldc2 (n := 130) hX co_X8_293 dX8_digest_127 rfl ?_
  refine gi_lload_n (n := 131) hX 1 dX8_digest_130 rfl rfl rfl ?_
  refine gi_lmul (n := 132) hX dX8_digest_131 rfl ?_
  refine gi_aload_n (n := 133) hX 0 dX8_digest_132 rfl rfl rfl ?_
  refine gi_getI (n := 136) hX 25 kc_X8 ly_X8 rfl rfl fl_X8_183 dX8_digest_133 rfl ?_
  refine gi_i2l (n := 137) hX dX8_digest_136 rfl ?_
  refine gi_ladd (n := 138) hX dX8_digest_137 rfl ?_
  refine gi_topJ h (fun u26 h => ?_)
  refine gi_lstore_n (n := 139) hX [(1, .long u26), (0, .ref (Ω.1 0))] dX8_digest_138 rfl rfl rfl rfl ?_
  refine gi_ldc2 (n := 142) hX co_X8_293 dX8_digest_139 rfl ?_
  refine gi_lload_n (n := 143) hX 0 dX8_digest_142 rfl rfl rfl ?_
  refine gi_lmul (n := 144) hX dX8_digest_143 rfl ?_
  refine gi_aload_n (n := 145) hX 1 dX8_digest_144 rfl rfl rfl ?_
  refine gi_iconst (x := (0 : Int32)) (n := 146) hX rfl dX8_digest_145 rfl ?_
  obtain ⟨r29, v27, e28, h⟩ := bi_some h
  refine gi_virtI (st := [.long ((31 : Int64) * u26)]) (n := 149) hX hR kc_X8 ly_X8 mv_X8_ringsNow ml_X8_227 (m_X8_ringsNow Γ.2.1 Ω (0 : Int32) v24 e28) rfl ⟨rfl, rfl⟩ rfl dX8_digest_146 rfl rfl ?_
  refine gi_i2l (n := 150) hX dX8_digest_149 rfl ?_
  refine gi_ladd (n := 151) hX dX8_digest_150 rfl ?_
  refine gi_topJ h (fun u30 h => ?_)
  refine gi_lstore_n (n := 152) hX [(1, .long u30), (0, .ref (Ω.1 0))] dX8_digest_151 rfl rfl rfl rfl ?_
  refine gi_ldc2 (n := 155) hX co_X8_293 dX8_digest_152 rfl ?_
  refine gi_lload_n (n := 156) hX 0 dX8_digest_155 rfl rfl rfl ?_
  refine gi_lmul (n := 157) hX dX8_digest_156 rfl ?_
  refine gi_aload_n (n := 158) hX 1 dX8_digest_157 rfl rfl rfl ?_
  refine gi_iconst (x := (1 : Int32)) (n := 159) hX rfl dX8_digest_158 rfl ?_
  obtain ⟨r33, v31, e32, h⟩ := bi_some h
  refine gi_virtI (st := [.long ((31 : Int64) * u30)]) (n := 162) hX hR kc_X8 ly_X8 mv_X8_ringsNow ml_X8_227 (m_X8_ringsNow Γ.2.1 Ω (1 : Int32) v27 e32) rfl ⟨rfl, rfl⟩ rfl dX8_digest_159 rfl rfl ?_
  refine gi_i2l (n := 163) hX dX8_digest_162 rfl ?_
  refine gi_ladd (n := 164) hX dX8_digest_163 rfl ?_
  refine gi_topJ h (fun u34 h => ?_)
  refine gi_lstore_n (n := 165) hX [(1, .long u34), (0, .ref (Ω.1 0))] dX8_digest_164 rfl rfl rfl rfl ?_
  refine gi_ldc2 (n := 168) hX co_X8_293 dX8_digest_165 rfl ?_
  refine gi_lload_n (n := 169) hX 0 dX8_digest_168 rfl rfl rfl ?_
  refine gi_lmul (n := 170) hX dX8_digest_169 rfl ?_
  refine gi_aload_n (n := 171) hX 1 dX8_digest_170 rfl rfl rfl ?_
  refine gi_iconst (x := (0 : Int32)) (n := 172) hX rfl dX8_digest_171 rfl ?_
  obtain ⟨r37, v35, e36, h⟩ := bi_some h
  refine gi_virtI (st := [.long ((31 : Int64) * u34)]) (n := 175) hX hR kc_X8 ly_X8 mv_X8_leastOf ml_X8_239 (m_X8_leastOf Γ.2.1 Ω (0 : Int32) v31 e36) rfl ⟨rfl, rfl⟩ rfl dX8_digest_172 rfl rfl ?_
  refine gi_i2l (n := 176) hX dX8_digest_175 rfl ?_
  refine gi_ladd (n := 177) hX dX8_digest_176 rfl ?_
  refine gi_topJ h (fun u38 h => ?_)
  refine gi_lstore_n (n := 178) hX [(1, .long u38), (0, .ref (Ω.1 0))] dX8_digest_177 rfl rfl rfl rfl ?_
  refine gi_ldc2 (n := 181) hX co_X8_293 dX8_digest_178 rfl ?_
  refine gi_lload_n (n := 182) hX 0 dX8_digest_181 rfl rfl rfl ?_
  refine gi_lmul (n := 183) hX dX8_digest_182 rfl ?_
  refine gi_aload_n (n := 184) hX 1 dX8_digest_183 rfl rfl rfl ?_
  refine gi_iconst (x := (1 : Int32)) (n := 185) hX rfl dX8_digest_184 rfl ?_
  obtain ⟨r41, v39, e40, h⟩ := bi_some h
  refine gi_virtI (st := [.long ((31 : Int64) * u38)]) (n := 188) hX hR kc_X8 ly_X8 mv_X8_leastOf ml_X8_239 (m_X8_leastOf Γ.2.1 Ω (1 : Int32) v35 e40) rfl ⟨rfl, rfl⟩ rfl dX8_digest_185 rfl rfl ?_
  refine gi_i2l (n := 189) hX dX8_digest_188 rfl ?_
  refine gi_ladd (n := 190) hX dX8_digest_189 rfl ?_
  refine gi_topJ h (fun u42 h => ?_)
  refine gi_lstore_n (n := 191) hX [(1, .long u42), (0, .ref (Ω.1 0))] dX8_digest_190 rfl rfl rfl rfl ?_
  refine gi_ldc2 (n := 194) hX co_X8_293 dX8_digest_191 rfl ?_
  refine gi_lload_n (n := 195) hX 0 dX8_digest_194 rfl rfl rfl ?_
  refine gi_lmul (n := 196) hX dX8_digest_195 rfl ?_
  refine gi_aload_n (n := 197) hX 1 dX8_digest_196 rfl rfl rfl ?_
  refine gi_iconst (x := (0 : Int32)) (n := 198) hX rfl dX8_digest_197 rfl ?_
  obtain ⟨r45, v43, e44, h⟩ := bi_some h
  refine gi_virtI (st := [.long ((31 : Int64) * u42)]) (n := 201) hX hR kc_X8 ly_X8 mv_X8_topOf ml_X8_242 (m_X8_topOf Γ.2.1 Ω (0 : Int32) v39 e44) rfl ⟨rfl, rfl⟩ rfl dX8_digest_198 rfl rfl ?_
  refine gi_i2l (n := 202) hX dX8_digest_201 rfl ?_
  refine gi_ladd (n := 203) hX dX8_digest_202 rfl ?_
  refine gi_topJ h (fun u46 h => ?_)
  refine gi_lstore_n (n := 204) hX [(1, .long u46), (0, .ref (Ω.1 0))] dX8_digest_203 rfl rfl rfl rfl ?_
  refine gi_ldc2 (n := 207) hX co_X8_293 dX8_digest_204 rfl ?_
  refine gi_lload_n (n := 208) hX 0 dX8_digest_207 rfl rfl rfl ?_
  refine gi_lmul (n := 209) hX dX8_digest_208 rfl ?_
  refine gi_aload_n (n := 210) hX 1 dX8_digest_209 rfl rfl rfl ?_
  refine gi_iconst (x := (1 : Int32)) (n := 211) hX rfl dX8_digest_210 rfl ?_
  obtain ⟨r49, v47, e48, h⟩ := bi_some h
  refine gi_virtI (st := [.long ((31 : Int64) * u46)]) (n := 214) hX hR kc_X8 ly_X8 mv_X8_topOf ml_X8_242 (m_X8_topOf Γ.2.1 Ω (1 : Int32) v43 e48) rfl ⟨rfl, rfl⟩ rfl dX8_digest_211 rfl rfl ?_
  refine gi_i2l (n := 215) hX dX8_digest_214 rfl ?_
  refine gi_ladd (n := 216) hX dX8_digest_215 rfl ?_
  refine gi_topJ h (fun u50 h => ?_)
  refine gi_lstore_n (n := 217) hX [(1, .long u50), (0, .ref (Ω.1 0))] dX8_digest_216 rfl rfl rfl rfl ?_
  refine gi_ldc2 (n := 220) hX co_X8_293 dX8_digest_217 rfl ?_
  refine gi_lload_n (n := 221) hX 0 dX8_digest_220 rfl rfl rfl ?_
  refine gi_lmul (n := 222) hX dX8_digest_221 rfl ?_
  refine gi_aload_n (n := 223) hX 1 dX8_digest_222 rfl rfl rfl ?_
  obtain ⟨r53, v51, e52, h⟩ := bi_some h
  refine gi_virtI (st := [.long ((31 : Int64) * u50)]) (n := 226) hX hR kc_X8 ly_X8 mv_X8_wasNow ml_X8_260 (m_X8_wasNow Γ.2.1 Ω v47 e52) rfl ⟨rfl, rfl⟩ rfl dX8_digest_223 rfl rfl ?_
  refine gi_i2l (n := 227) hX dX8_digest_226 rfl ?_
  refine gi_ladd (n := 228) hX dX8_digest_227 rfl ?_
  refine gi_topJ h (fun u54 h => ?_)
  refine gi_lstore_n (n := 229) hX [(1, .long u54), (0, .ref (Ω.1 0))] dX8_digest_228 rfl rfl rfl rfl ?_
  refine gi_ldc2 (n := 232) hX co_X8_293 dX8_digest_229 rfl ?_
  refine gi_lload_n (n := 233) hX 0 dX8_digest_232 rfl rfl rfl ?_
  refine gi_lmul (n := 234) hX dX8_digest_233 rfl ?_
  refine gi_aload_n (n := 235) hX 1 dX8_digest_234 rfl rfl rfl ?_
  refine gi_bipush (x := (7 : Int32)) (n := 237) hX rfl dX8_digest_235 rfl ?_
  refine gi_bipush (x := (9 : Int32)) (n := 239) hX rfl dX8_digest_237 rfl ?_
  refine gi_iconst (x := (0 : Int32)) (n := 240) hX rfl dX8_digest_239 rfl ?_
  obtain ⟨r57, v55, e56, h⟩ := bi_some h
  refine gi_virtI (st := [.long ((31 : Int64) * u54)]) (n := 243) hX hR kc_X8 ly_X8 mv_X8_depotOf ml_X8_287 (m_X8_depotOf Γ.2.1 Ω (7 : Int32) (9 : Int32) (0 : Int32) v51 e56) rfl ⟨rfl, rfl⟩ rfl dX8_digest_240 rfl rfl ?_
  refine gi_i2l (n := 244) hX dX8_digest_243 rfl ?_
  refine gi_ladd (n := 245) hX dX8_digest_244 rfl ?_
  refine gi_topJ h (fun u58 h => ?_)
  refine gi_lstore_n (n := 246) hX [(1, .long u58), (0, .ref (Ω.1 0))] dX8_digest_245 rfl rfl rfl rfl ?_
  refine gi_ldc2 (n := 249) hX co_X8_293 dX8_digest_246 rfl ?_
  refine gi_lload_n (n := 250) hX 0 dX8_digest_249 rfl rfl rfl ?_
  refine gi_lmul (n := 251) hX dX8_digest_250 rfl ?_
  refine gi_aload_n (n := 252) hX 1 dX8_digest_251 rfl rfl rfl ?_
  refine gi_bipush (x := (7 : Int32)) (n := 254) hX rfl dX8_digest_252 rfl ?_
  refine gi_bipush (x := (9 : Int32)) (n := 256) hX rfl dX8_digest_254 rfl ?_
  refine gi_iconst (x := (1 : Int32)) (n := 257) hX rfl dX8_digest_256 rfl ?_
  obtain ⟨r61, v59, e60, h⟩ := bi_some h
  refine gi_virtI (st := [.long ((31 : Int64) * u58)]) (n := 260) hX hR kc_X8 ly_X8 mv_X8_depotOf ml_X8_287 (m_X8_depotOf Γ.2.1 Ω (7 : Int32) (9 : Int32) (1 : Int32) v55 e60) rfl ⟨rfl, rfl⟩ rfl dX8_digest_257 rfl rfl ?_
  refine gi_i2l (n := 261) hX dX8_digest_260 rfl ?_
  refine gi_ladd (n := 262) hX dX8_digest_261 rfl ?_
  exact gi_lret hX rfl dX8_digest_262 h
theorem m_X8_digest (l : Launch) (Ω : gO) (v : gV) {r0 : Int64} {v0 : gV} (h : f_X8_digest v = some (r0, v0)) : gx_M l Ω LM yX8_digest cX8_digest 4 (some .long) 10 [.ref (Ω.1 0)] v (some (.long r0)) v0 := gx_start (lv := [(0, .ref (Ω.1 0))]) (by decide +kernel) (Nat.le_of_ble_eq_true rfl) rfl (fun Γ _ hR hX => t_X8_digest hX hR v h)
set_option maxRecDepth 20000 in
theorem t_X8_fault {Γ : gC} {Ω : gO} {r0 : Int32} {v0 : gV} (hX : gx_X Γ Ω cX8_fault RX8 2 (some .int)) (hR : Γ.2.2.2.1 = gx_R 4) (x1 : Int32) (v : gV) (h : f_X8_fault x1 v = some (r0, v0)) : gx_G Γ Ω LM (gx_Q Γ Ω LM (some (.int r0)) v0) 2 v 0 [(0, .ref (Ω.1 0)), (1, .int x1)] [] := by
  rw [f_X8_fault] at h
  refine gi_iload_n (n := 1) hX 1 dX8_fault_0 rfl rfl rfl ?_
  obtain ⟨r3, v1, e2, h⟩ := bi_some h
  refine gi_statI (st := []) (n := 4) hX hR ms_X8_isTwo ml_X8_104 (m_X8_isTwo Γ.2.1 Ω x1 v e2) rfl ⟨rfl, rfl⟩ rfl dX8_fault_1 rfl rfl ?_
  refine gi_if_ne (tgt := 12) (n := 7) hX dX8_fault_4 rfl rfl h (fun h => ?_) (fun h => ?_)
  · refine gi_iload_n (n := 13) hX 1 dX8_fault_12 rfl rfl rfl ?_
    refine gi_if_ne (tgt := 23) (n := 16) hX dX8_fault_13 rfl rfl h (fun h => ?_) (fun h => ?_)
    · refine gi_aload_n (n := 24) hX 0 dX8_fault_23 rfl rfl rfl ?_
      obtain ⟨r6, v4, e5, h⟩ := bi_some h
      refine gi_virtI (st := []) (n := 27) hX hR kc_X8 ly_X8 mv_X8_readsBag ml_X8_137 (m_X8_readsBag Γ.2.1 Ω v1 e5) rfl ⟨rfl, rfl⟩ rfl dX8_fault_24 rfl rfl ?_
      exact gi_iret hX rfl dX8_fault_27 h
    · refine gi_aload_n (n := 17) hX 0 dX8_fault_16 rfl rfl rfl ?_
      obtain ⟨r9, v7, e8, h⟩ := bi_some h
      refine gi_virtI (st := []) (n := 20) hX hR kc_X8 ly_X8 mv_X8_readsRiders ml_X8_133 (m_X8_readsRiders Γ.2.1 Ω v1 e8) rfl ⟨rfl, rfl⟩ rfl dX8_fault_17 rfl rfl ?_
      refine gi_goto (n := 27) hX dX8_fault_20 rfl ?_
      exact gi_iret hX rfl dX8_fault_27 h
  · refine gi_bipush (x := (-2 : Int32)) (n := 9) hX rfl dX8_fault_7 rfl ?_
    refine gi_goto (n := 27) hX dX8_fault_9 rfl ?_
    exact gi_iret hX rfl dX8_fault_27 h
theorem m_X8_fault (l : Launch) (Ω : gO) (x1 : Int32) (v : gV) {r0 : Int32} {v0 : gV} (h : f_X8_fault x1 v = some (r0, v0)) : gx_M l Ω LM yX8_fault cX8_fault 2 (some .int) 4 [.ref (Ω.1 0), .int x1] v (some (.int r0)) v0 := gx_start (lv := [(0, .ref (Ω.1 0)), (1, .int x1)]) (by decide +kernel) (Nat.le_of_ble_eq_true rfl) rfl (fun Γ _ hR hX => t_X8_fault hX hR x1 v h)
set_option maxRecDepth 20000 in
theorem t_X8_first {Γ : gC} {Ω : gO} {r0 : Int32} {v0 : gV} (hX : gx_X Γ Ω cX8_first RX8 2 (some .int)) (hR : Γ.2.2.2.1 = gx_R 7) (x1 : Int32) (v : gV) (h : f_X8_first x1 v = some (r0, v0)) : gx_G Γ Ω LM (gx_Q Γ Ω LM (some (.int r0)) v0) 2 v 0 [(0, .ref (Ω.1 0)), (1, .int x1)] [] := by
  rw [f_X8_first] at h
  refine gi_aload_n (n := 1) hX 0 dX8_first_0 rfl rfl rfl ?_
  obtain ⟨v1, e2, h⟩ := bv_some h
  refine gi_virtV (st := []) (n := 4) hX hR kc_X8 ly_X8 mv_X8_reads ml_X8_198 (m_X8_reads Γ.2.1 Ω v e2) rfl ⟨rfl, rfl⟩ rfl dX8_first_1 rfl rfl ?_
  refine gi_iload_n (n := 5) hX 1 dX8_first_4 rfl rfl rfl ?_
  refine gi_i2l (n := 6) hX dX8_first_5 rfl ?_
  refine gi_lconst (x := (0 : Int64)) (n := 7) hX rfl dX8_first_6 rfl ?_
  refine gi_ldc2 (n := 10) hX co_X8_89 dX8_first_7 rfl ?_
  obtain ⟨r5, v3, e4, h⟩ := bi_some h
  refine gi_statI (st := []) (n := 13) hX hR ms_X8_in ml_X8_76 (m_X8_in Γ.2.1 Ω ((x1).toInt64) (0 : Int64) (2 : Int64) v1 e4) rfl ⟨rfl, rfl⟩ rfl dX8_first_10 rfl rfl ?_
  refine gi_if_eq (tgt := 25) (n := 16) hX dX8_first_13 rfl rfl h (fun h => ?_) (fun h => ?_)
  · refine gi_bipush (x := (-2 : Int32)) (n := 27) hX rfl dX8_first_25 rfl ?_
    exact gi_iret hX rfl dX8_first_27 h
  · refine gi_aload_n (n := 17) hX 0 dX8_first_16 rfl rfl rfl ?_
    refine gi_getR (n := 20) hX 23 kc_X8 ly_X8 rfl rfl fl_X8_61 dX8_first_17 rfl ?_
    refine gi_iload_n (n := 21) hX 1 dX8_first_20 rfl rfl rfl ?_
    refine gi_iald (n := 22) hX lm_18 dX8_first_21 rfl h (fun h => ?_)
    refine gi_goto (n := 27) hX dX8_first_22 rfl ?_
    exact gi_iret hX rfl dX8_first_27 h
theorem m_X8_first (l : Launch) (Ω : gO) (x1 : Int32) (v : gV) {r0 : Int32} {v0 : gV} (h : f_X8_first x1 v = some (r0, v0)) : gx_M l Ω LM yX8_first cX8_first 2 (some .int) 7 [.ref (Ω.1 0), .int x1] v (some (.int r0)) v0 := gx_start (lv := [(0, .ref (Ω.1 0)), (1, .int x1)]) (by decide +kernel) (Nat.le_of_ble_eq_true rfl) rfl (fun Γ _ hR hX => t_X8_first hX hR x1 v h)
set_option maxRecDepth 20000 in
theorem t_X8_forget {Γ : gC} {Ω : gO} {r0 : Int32} {v0 : gV} (hX : gx_X Γ Ω cX8_forget RX8 2 (some .int)) (hR : Γ.2.2.2.1 = gx_R 0)  (v : gV) (h : f_X8_forget  v = some (r0, v0)) : gx_G Γ Ω LM (gx_Q Γ Ω LM (some (.int r0)) v0) 2 v 0 [(0, .ref (Ω.1 0))] [] := by
  rw [f_X8_forget] at h
  refine gi_aload_n (n := 1) hX 0 dX8_forget_0 rfl rfl rfl ?_
  refine gi_getI (n := 4) hX 26 kc_X8 ly_X8 rfl rfl fl_X8_247 dX8_forget_1 rfl ?_
  refine gi_topI h (fun u1 h => ?_)
  refine gi_istore_n (n := 5) hX [(1, .int u1), (0, .ref (Ω.1 0))] dX8_forget_4 rfl rfl rfl rfl ?_
  refine gi_aload_n (n := 6) hX 1 dX8_forget_5 rfl rfl rfl ?_
  refine gi_iconst (x := (0 : Int32)) (n := 7) hX rfl dX8_forget_6 rfl ?_
  refine gi_putI (n := 10) hX 26 kc_X8 ly_X8 rfl rfl fl_X8_247 rfl rfl dX8_forget_7 rfl h (fun v2 h => ?_)
  refine gi_iload_n (n := 11) hX 0 dX8_forget_10 rfl rfl rfl ?_
  exact gi_iret hX rfl dX8_forget_11 h
theorem m_X8_forget (l : Launch) (Ω : gO) (v : gV) {r0 : Int32} {v0 : gV} (h : f_X8_forget v = some (r0, v0)) : gx_M l Ω LM yX8_forget cX8_forget 2 (some .int) 0 [.ref (Ω.1 0)] v (some (.int r0)) v0 := gx_start (lv := [(0, .ref (Ω.1 0))]) (by decide +kernel) (Nat.le_of_ble_eq_true rfl) rfl (fun Γ _ hR hX => t_X8_forget hX hR v h)
set_option maxRecDepth 20000 in
theorem t_X8_lacks {Γ : gC} {Ω : gO} {r0 : Int32} {v0 : gV} (hX : gx_X Γ Ω cX8_lacks RX8 4 (some .int)) (hR : Γ.2.2.2.1 = gx_R 1) (x1 : Int32) (x2 : Int32) (x3 : Int32) (v : gV) (h : f_X8_lacks x1 x2 x3 v = some (r0, v0)) : gx_G Γ Ω LM (gx_Q Γ Ω LM (some (.int r0)) v0) 4 v 0 [(0, .ref (Ω.1 0)), (1, .int x1), (2, .int x2), (3, .int x3)] [] := by
  rw [f_X8_lacks] at h
  refine gi_aload_n (n := 1) hX 0 dX8_lacks_0 rfl rfl rfl ?_
  refine gi_getR (n := 4) hX 0 kc_X8 ly_X8 rfl rfl fl_X8_7 dX8_lacks_1 rfl ?_
  refine gi_iload_n (n := 5) hX 1 dX8_lacks_4 rfl rfl rfl ?_
  refine gi_iald (n := 6) hX lm_1 dX8_lacks_5 rfl h (fun h => ?_)
  refine gi_if_ge (tgt := 15) (n := 9) hX dX8_lacks_6 rfl rfl h (fun h => ?_) (fun h => ?_)
  · refine gi_aload_n (n := 16) hX 0 dX8_lacks_15 rfl rfl rfl ?_
    refine gi_getR (n := 19) hX 0 kc_X8 ly_X8 rfl rfl fl_X8_7 dX8_lacks_16 rfl ?_
    refine gi_iload_n (n := 20) hX 1 dX8_lacks_19 rfl rfl rfl ?_
    refine gi_iald (n := 21) hX lm_1 dX8_lacks_20 rfl h (fun h => ?_)
    refine gi_iload_n (n := 22) hX 2 dX8_lacks_21 rfl rfl rfl ?_
    refine gi_icmp_eq (tgt := 31) (n := 25) hX dX8_lacks_22 rfl rfl h (fun h => ?_) (fun h => ?_)
    · refine gi_iload_n (n := 32) hX 3 dX8_lacks_31 rfl rfl rfl ?_
      refine gi_i2l (n := 33) hX dX8_lacks_32 rfl ?_
      refine gi_lconst (x := (0 : Int64)) (n := 34) hX rfl dX8_lacks_33 rfl ?_
      refine gi_aload_n (n := 35) hX 0 dX8_lacks_34 rfl rfl rfl ?_
      refine gi_getR (n := 38) hX 1 kc_X8 ly_X8 rfl rfl fl_X8_13 dX8_lacks_35 rfl ?_
      refine gi_iload_n (n := 39) hX 1 dX8_lacks_38 rfl rfl rfl ?_
      refine gi_iald (n := 40) hX lm_2 dX8_lacks_39 rfl h (fun h => ?_)
      refine gi_iconst (x := (1 : Int32)) (n := 41) hX rfl dX8_lacks_40 rfl ?_
      refine gi_isub (n := 42) hX dX8_lacks_41 rfl ?_
      refine gi_i2l (n := 43) hX dX8_lacks_42 rfl ?_
      obtain ⟨r3, v1, e2, h⟩ := bi_some h
      refine gi_statI (st := []) (n := 46) hX hR ms_X8_in ml_X8_76 (m_X8_in Γ.2.1 Ω ((x3).toInt64) (0 : Int64) ((((v.1 2 (x1).toNatClampNeg) - (1 : Int32))).toInt64) v e2) rfl ⟨rfl, rfl⟩ rfl dX8_lacks_43 rfl rfl ?_
      refine gi_if_eq (tgt := 53) (n := 49) hX dX8_lacks_46 rfl rfl h (fun h => ?_) (fun h => ?_)
      · refine gi_aload_n (n := 54) hX 0 dX8_lacks_53 rfl rfl rfl ?_
        refine gi_iconst (x := (2 : Int32)) (n := 55) hX rfl dX8_lacks_54 rfl ?_
        obtain ⟨r6, v4, e5, h⟩ := bi_some h
        refine gi_virtI (st := []) (n := 58) hX hR kc_X8 ly_X8 mv_X8_finds ml_X8_91 (m_X8_finds Γ.2.1 Ω (2 : Int32) v1 e5) rfl ⟨rfl, rfl⟩ rfl dX8_lacks_55 rfl rfl ?_
        exact gi_iret hX rfl dX8_lacks_58 h
      · refine gi_iconst (x := (0 : Int32)) (n := 50) hX rfl dX8_lacks_49 rfl ?_
        refine gi_goto (n := 58) hX dX8_lacks_50 rfl ?_
        exact gi_iret hX rfl dX8_lacks_58 h
    · refine gi_aload_n (n := 26) hX 0 dX8_lacks_25 rfl rfl rfl ?_
      refine gi_iconst (x := (3 : Int32)) (n := 27) hX rfl dX8_lacks_26 rfl ?_
      obtain ⟨r9, v7, e8, h⟩ := bi_some h
      refine gi_virtI (st := []) (n := 30) hX hR kc_X8 ly_X8 mv_X8_finds ml_X8_91 (m_X8_finds Γ.2.1 Ω (3 : Int32) v e8) rfl ⟨rfl, rfl⟩ rfl dX8_lacks_27 rfl rfl ?_
      exact gi_iret hX rfl dX8_lacks_30 h
  · refine gi_aload_n (n := 10) hX 0 dX8_lacks_9 rfl rfl rfl ?_
    refine gi_iconst (x := (1 : Int32)) (n := 11) hX rfl dX8_lacks_10 rfl ?_
    obtain ⟨r12, v10, e11, h⟩ := bi_some h
    refine gi_virtI (st := []) (n := 14) hX hR kc_X8 ly_X8 mv_X8_finds ml_X8_91 (m_X8_finds Γ.2.1 Ω (1 : Int32) v e11) rfl ⟨rfl, rfl⟩ rfl dX8_lacks_11 rfl rfl ?_
    exact gi_iret hX rfl dX8_lacks_14 h
theorem m_X8_lacks (l : Launch) (Ω : gO) (x1 : Int32) (x2 : Int32) (x3 : Int32) (v : gV) {r0 : Int32} {v0 : gV} (h : f_X8_lacks x1 x2 x3 v = some (r0, v0)) : gx_M l Ω LM yX8_lacks cX8_lacks 4 (some .int) 1 [.ref (Ω.1 0), .int x1, .int x2, .int x3] v (some (.int r0)) v0 := gx_start (lv := [(0, .ref (Ω.1 0)), (1, .int x1), (2, .int x2), (3, .int x3)]) (by decide +kernel) (Nat.le_of_ble_eq_true rfl) rfl (fun Γ _ hR hX => t_X8_lacks hX hR x1 x2 x3 v h)
set_option maxRecDepth 20000 in
theorem t_X8_get_J29 {Γ : gC} {Ω : gO} {r0 : Int32} {v0 : gV} (hX : gx_X Γ Ω cX8_get RX8 4 (some .int)) (hR : Γ.2.2.2.1 = gx_R 2)  (v : gV) (h : f_X8_get_J29  v = some (r0, v0)) : gx_G Γ Ω LM (gx_Q Γ Ω LM (some (.int r0)) v0) 4 v 29 [] [] := by
  rw [f_X8_get_J29] at h
  refine gi_ldc (n := 31) hX co_X8_103 dX8_get_29 rfl ?_
  exact gi_iret hX rfl dX8_get_31 h
set_option maxRecDepth 20000 in
theorem t_X8_get {Γ : gC} {Ω : gO} {r0 : Int32} {v0 : gV} (hX : gx_X Γ Ω cX8_get RX8 4 (some .int)) (hR : Γ.2.2.2.1 = gx_R 2) (x1 : Int32) (x2 : Int32) (x3 : Int32) (v : gV) (h : f_X8_get x1 x2 x3 v = some (r0, v0)) : gx_G Γ Ω LM (gx_Q Γ Ω LM (some (.int r0)) v0) 4 v 0 [(0, .ref (Ω.1 0)), (1, .int x1), (2, .int x2), (3, .int x3)] [] := by
  rw [f_X8_get] at h
  refine gi_iload_n (n := 1) hX 1 dX8_get_0 rfl rfl rfl ?_
  obtain ⟨r3, v1, e2, h⟩ := bi_some h
  refine gi_statI (st := []) (n := 4) hX hR ms_X8_isSheet ml_X8_85 (m_X8_isSheet Γ.2.1 Ω x1 v e2) rfl ⟨rfl, rfl⟩ rfl dX8_get_1 rfl rfl ?_
  refine gi_if_eq (tgt := 29) (n := 7) hX dX8_get_4 rfl rfl h (fun h => ?_) (fun h => ?_)
  · refine gi_sub [] rfl ?_
    exact t_X8_get_J29 hX hR v1 h
  · refine gi_iload_n (n := 8) hX 2 dX8_get_7 rfl rfl rfl ?_
    refine gi_i2l (n := 9) hX dX8_get_8 rfl ?_
    refine gi_lconst (x := (0 : Int64)) (n := 10) hX rfl dX8_get_9 rfl ?_
    refine gi_ldc2 (n := 13) hX co_X8_89 dX8_get_10 rfl ?_
    obtain ⟨r6, v4, e5, h⟩ := bi_some h
    refine gi_statI (st := []) (n := 16) hX hR ms_X8_in ml_X8_76 (m_X8_in Γ.2.1 Ω ((x2).toInt64) (0 : Int64) (2 : Int64) v1 e5) rfl ⟨rfl, rfl⟩ rfl dX8_get_13 rfl rfl ?_
    refine gi_if_eq (tgt := 29) (n := 19) hX dX8_get_16 rfl rfl h (fun h => ?_) (fun h => ?_)
    · refine gi_sub [] rfl ?_
      exact t_X8_get_J29 hX hR v4 h
    · refine gi_aload_n (n := 20) hX 0 dX8_get_19 rfl rfl rfl ?_
      refine gi_iload_n (n := 21) hX 1 dX8_get_20 rfl rfl rfl ?_
      refine gi_iload_n (n := 22) hX 2 dX8_get_21 rfl rfl rfl ?_
      refine gi_iload_n (n := 23) hX 3 dX8_get_22 rfl rfl rfl ?_
      obtain ⟨r9, v7, e8, h⟩ := bi_some h
      refine gi_virtI (st := []) (n := 26) hX hR kc_X8 ly_X8 mv_X8_lacks ml_X8_95 (m_X8_lacks Γ.2.1 Ω x1 x2 x3 v4 e8) rfl ⟨rfl, rfl⟩ rfl dX8_get_23 rfl rfl ?_
      refine gi_if_eq (tgt := 32) (n := 29) hX dX8_get_26 rfl rfl h (fun h => ?_) (fun h => ?_)
      · refine gi_aload_n (n := 33) hX 0 dX8_get_32 rfl rfl rfl ?_
        refine gi_getR (n := 36) hX 2 kc_X8 ly_X8 rfl rfl fl_X8_16 dX8_get_33 rfl ?_
        refine gi_bipush (x := (60 : Int32)) (n := 38) hX rfl dX8_get_36 rfl ?_
        refine gi_iload_n (n := 39) hX 1 dX8_get_38 rfl rfl rfl ?_
        refine gi_imul (n := 40) hX dX8_get_39 rfl ?_
        refine gi_iload_n (n := 41) hX 3 dX8_get_40 rfl rfl rfl ?_
        refine gi_iadd (n := 42) hX dX8_get_41 rfl ?_
        refine gi_iald (n := 43) hX lm_3 dX8_get_42 rfl h (fun h => ?_)
        exact gi_iret hX rfl dX8_get_43 h
      · refine gi_sub [] rfl ?_
        exact t_X8_get_J29 hX hR v7 h
theorem m_X8_get (l : Launch) (Ω : gO) (x1 : Int32) (x2 : Int32) (x3 : Int32) (v : gV) {r0 : Int32} {v0 : gV} (h : f_X8_get x1 x2 x3 v = some (r0, v0)) : gx_M l Ω LM yX8_get cX8_get 4 (some .int) 2 [.ref (Ω.1 0), .int x1, .int x2, .int x3] v (some (.int r0)) v0 := gx_start (lv := [(0, .ref (Ω.1 0)), (1, .int x1), (2, .int x2), (3, .int x3)]) (by decide +kernel) (Nat.le_of_ble_eq_true rfl) rfl (fun Γ _ hR hX => t_X8_get hX hR x1 x2 x3 v h)
set_option maxRecDepth 20000 in
theorem t_X8_gets {Γ : gC} {Ω : gO} {r0 : Int32} {v0 : gV} (hX : gx_X Γ Ω cX8_gets RX8 2 (some .int)) (hR : Γ.2.2.2.1 = gx_R 7) (x1 : Int32) (v : gV) (h : f_X8_gets x1 v = some (r0, v0)) : gx_G Γ Ω LM (gx_Q Γ Ω LM (some (.int r0)) v0) 2 v 0 [(0, .ref (Ω.1 0)), (1, .int x1)] [] := by
  rw [f_X8_gets] at h
  refine gi_aload_n (n := 1) hX 0 dX8_gets_0 rfl rfl rfl ?_
  obtain ⟨v1, e2, h⟩ := bv_some h
  refine gi_virtV (st := []) (n := 4) hX hR kc_X8 ly_X8 mv_X8_reads ml_X8_198 (m_X8_reads Γ.2.1 Ω v e2) rfl ⟨rfl, rfl⟩ rfl dX8_gets_1 rfl rfl ?_
  refine gi_aload_n (n := 5) hX 0 dX8_gets_4 rfl rfl rfl ?_
  refine gi_iload_n (n := 6) hX 1 dX8_gets_5 rfl rfl rfl ?_
  obtain ⟨r5, v3, e4, h⟩ := bi_some h
  refine gi_virtI (st := []) (n := 9) hX hR kc_X8 ly_X8 mv_X8_isRider ml_X8_142 (m_X8_isRider Γ.2.1 Ω x1 v1 e4) rfl ⟨rfl, rfl⟩ rfl dX8_gets_6 rfl rfl ?_
  refine gi_if_eq (tgt := 20) (n := 12) hX dX8_gets_9 rfl rfl h (fun h => ?_) (fun h => ?_)
  · refine gi_bipush (x := (-2 : Int32)) (n := 22) hX rfl dX8_gets_20 rfl ?_
    exact gi_iret hX rfl dX8_gets_22 h
  · refine gi_aload_n (n := 13) hX 0 dX8_gets_12 rfl rfl rfl ?_
    refine gi_iload_n (n := 14) hX 1 dX8_gets_13 rfl rfl rfl ?_
    obtain ⟨r8, v6, e7, h⟩ := bi_some h
    refine gi_virtI (st := []) (n := 17) hX hR kc_X8 ly_X8 mv_X8_getsOf ml_X8_214 (m_X8_getsOf Γ.2.1 Ω x1 v3 e7) rfl ⟨rfl, rfl⟩ rfl dX8_gets_14 rfl rfl ?_
    refine gi_goto (n := 22) hX dX8_gets_17 rfl ?_
    exact gi_iret hX rfl dX8_gets_22 h
theorem m_X8_gets (l : Launch) (Ω : gO) (x1 : Int32) (v : gV) {r0 : Int32} {v0 : gV} (h : f_X8_gets x1 v = some (r0, v0)) : gx_M l Ω LM yX8_gets cX8_gets 2 (some .int) 7 [.ref (Ω.1 0), .int x1] v (some (.int r0)) v0 := gx_start (lv := [(0, .ref (Ω.1 0)), (1, .int x1)]) (by decide +kernel) (Nat.le_of_ble_eq_true rfl) rfl (fun Γ _ hR hX => t_X8_gets hX hR x1 v h)
set_option maxRecDepth 20000 in
theorem t_X8_had {Γ : gC} {Ω : gO} {r0 : Int32} {v0 : gV} (hX : gx_X Γ Ω cX8_had RX8 2 (some .int)) (hR : Γ.2.2.2.1 = gx_R 8) (x1 : Int32) (v : gV) (h : f_X8_had x1 v = some (r0, v0)) : gx_G Γ Ω LM (gx_Q Γ Ω LM (some (.int r0)) v0) 2 v 0 [(0, .ref (Ω.1 0)), (1, .int x1)] [] := by
  rw [f_X8_had] at h
  refine gi_aload_n (n := 1) hX 0 dX8_had_0 rfl rfl rfl ?_
  obtain ⟨v1, e2, h⟩ := bv_some h
  refine gi_virtV (st := []) (n := 4) hX hR kc_X8 ly_X8 mv_X8_reads ml_X8_198 (m_X8_reads Γ.2.1 Ω v e2) rfl ⟨rfl, rfl⟩ rfl dX8_had_1 rfl rfl ?_
  refine gi_aload_n (n := 5) hX 0 dX8_had_4 rfl rfl rfl ?_
  refine gi_iload_n (n := 6) hX 1 dX8_had_5 rfl rfl rfl ?_
  obtain ⟨r5, v3, e4, h⟩ := bi_some h
  refine gi_virtI (st := []) (n := 9) hX hR kc_X8 ly_X8 mv_X8_isRider ml_X8_142 (m_X8_isRider Γ.2.1 Ω x1 v1 e4) rfl ⟨rfl, rfl⟩ rfl dX8_had_6 rfl rfl ?_
  refine gi_if_eq (tgt := 20) (n := 12) hX dX8_had_9 rfl rfl h (fun h => ?_) (fun h => ?_)
  · refine gi_bipush (x := (-2 : Int32)) (n := 22) hX rfl dX8_had_20 rfl ?_
    exact gi_iret hX rfl dX8_had_22 h
  · refine gi_aload_n (n := 13) hX 0 dX8_had_12 rfl rfl rfl ?_
    refine gi_iload_n (n := 14) hX 1 dX8_had_13 rfl rfl rfl ?_
    obtain ⟨r8, v6, e7, h⟩ := bi_some h
    refine gi_virtI (st := []) (n := 17) hX hR kc_X8 ly_X8 mv_X8_hadOf ml_X8_257 (m_X8_hadOf Γ.2.1 Ω x1 v3 e7) rfl ⟨rfl, rfl⟩ rfl dX8_had_14 rfl rfl ?_
    refine gi_goto (n := 22) hX dX8_had_17 rfl ?_
    exact gi_iret hX rfl dX8_had_22 h
theorem m_X8_had (l : Launch) (Ω : gO) (x1 : Int32) (v : gV) {r0 : Int32} {v0 : gV} (h : f_X8_had x1 v = some (r0, v0)) : gx_M l Ω LM yX8_had cX8_had 2 (some .int) 8 [.ref (Ω.1 0), .int x1] v (some (.int r0)) v0 := gx_start (lv := [(0, .ref (Ω.1 0)), (1, .int x1)]) (by decide +kernel) (Nat.le_of_ble_eq_true rfl) rfl (fun Γ _ hR hX => t_X8_had hX hR x1 v h)
set_option maxRecDepth 20000 in
theorem t_X8_has {Γ : gC} {Ω : gO} {r0 : Int32} {v0 : gV} (hX : gx_X Γ Ω cX8_has RX8 3 (some .int)) (hR : Γ.2.2.2.1 = gx_R 7) (x1 : Int32) (x2 : Int32) (v : gV) (h : f_X8_has x1 x2 v = some (r0, v0)) : gx_G Γ Ω LM (gx_Q Γ Ω LM (some (.int r0)) v0) 3 v 0 [(0, .ref (Ω.1 0)), (1, .int x1), (2, .int x2)] [] := by
  rw [f_X8_has] at h
  refine gi_aload_n (n := 1) hX 0 dX8_has_0 rfl rfl rfl ?_
  obtain ⟨v1, e2, h⟩ := bv_some h
  refine gi_virtV (st := []) (n := 4) hX hR kc_X8 ly_X8 mv_X8_reads ml_X8_198 (m_X8_reads Γ.2.1 Ω v e2) rfl ⟨rfl, rfl⟩ rfl dX8_has_1 rfl rfl ?_
  refine gi_iload_n (n := 5) hX 1 dX8_has_4 rfl rfl rfl ?_
  obtain ⟨r5, v3, e4, h⟩ := bi_some h
  refine gi_statI (st := []) (n := 8) hX hR ms_X8_isDay ml_X8_201 (m_X8_isDay Γ.2.1 Ω x1 v1 e4) rfl ⟨rfl, rfl⟩ rfl dX8_has_5 rfl rfl ?_
  refine gi_if_eq (tgt := 33) (n := 11) hX dX8_has_8 rfl rfl h (fun h => ?_) (fun h => ?_)
  · refine gi_bipush (x := (-2 : Int32)) (n := 35) hX rfl dX8_has_33 rfl ?_
    exact gi_iret hX rfl dX8_has_35 h
  · refine gi_aload_n (n := 12) hX 0 dX8_has_11 rfl rfl rfl ?_
    refine gi_iload_n (n := 13) hX 2 dX8_has_12 rfl rfl rfl ?_
    obtain ⟨r8, v6, e7, h⟩ := bi_some h
    refine gi_virtI (st := []) (n := 16) hX hR kc_X8 ly_X8 mv_X8_isRider ml_X8_142 (m_X8_isRider Γ.2.1 Ω x2 v3 e7) rfl ⟨rfl, rfl⟩ rfl dX8_has_13 rfl rfl ?_
    refine gi_if_eq (tgt := 33) (n := 19) hX dX8_has_16 rfl rfl h (fun h => ?_) (fun h => ?_)
    · refine gi_bipush (x := (-2 : Int32)) (n := 35) hX rfl dX8_has_33 rfl ?_
      exact gi_iret hX rfl dX8_has_35 h
    · refine gi_aload_n (n := 20) hX 0 dX8_has_19 rfl rfl rfl ?_
      refine gi_getR (n := 23) hX 19 kc_X8 ly_X8 rfl rfl fl_X8_49 dX8_has_20 rfl ?_
      refine gi_bipush (x := (8 : Int32)) (n := 25) hX rfl dX8_has_23 rfl ?_
      refine gi_iload_n (n := 26) hX 1 dX8_has_25 rfl rfl rfl ?_
      refine gi_imul (n := 27) hX dX8_has_26 rfl ?_
      refine gi_iload_n (n := 28) hX 2 dX8_has_27 rfl rfl rfl ?_
      refine gi_iadd (n := 29) hX dX8_has_28 rfl ?_
      refine gi_iald (n := 30) hX lm_14 dX8_has_29 rfl h (fun h => ?_)
      refine gi_goto (n := 35) hX dX8_has_30 rfl ?_
      exact gi_iret hX rfl dX8_has_35 h
theorem m_X8_has (l : Launch) (Ω : gO) (x1 : Int32) (x2 : Int32) (v : gV) {r0 : Int32} {v0 : gV} (h : f_X8_has x1 x2 v = some (r0, v0)) : gx_M l Ω LM yX8_has cX8_has 3 (some .int) 7 [.ref (Ω.1 0), .int x1, .int x2] v (some (.int r0)) v0 := gx_start (lv := [(0, .ref (Ω.1 0)), (1, .int x1), (2, .int x2)]) (by decide +kernel) (Nat.le_of_ble_eq_true rfl) rfl (fun Γ _ hR hX => t_X8_has hX hR x1 x2 v h)
set_option maxRecDepth 20000 in
theorem t_X8_lay {Γ : gC} {Ω : gO} {r0 : Int32} {v0 : gV} (hX : gx_X Γ Ω cX8_lay RX8 6 (some .int)) (hR : Γ.2.2.2.1 = gx_R 2) (x1 : Int32) (x2 : Int32) (x3 : Int32) (x4 : Int32) (v : gV) (h : f_X8_lay x1 x2 x3 x4 v = some (r0, v0)) : gx_G Γ Ω LM (gx_Q Γ Ω LM (some (.int r0)) v0) 6 v 0 [(0, .ref (Ω.1 0)), (1, .int x1), (2, .int x2), (3, .int x3), (4, .int x4)] [] := by
  rw [f_X8_lay] at h
  refine gi_iload_n (n := 1) hX 1 dX8_lay_0 rfl rfl rfl ?_
  obtain ⟨r3, v1, e2, h⟩ := bi_some h
  refine gi_statI (st := []) (n := 4) hX hR ms_X8_isSheet ml_X8_85 (m_X8_isSheet Γ.2.1 Ω x1 v e2) rfl ⟨rfl, rfl⟩ rfl dX8_lay_1 rfl rfl ?_
  refine gi_if_eq (tgt := 19) (n := 7) hX dX8_lay_4 rfl rfl h (fun h => ?_) (fun h => ?_)
  · refine gi_bipush (x := (-2 : Int32)) (n := 21) hX rfl dX8_lay_19 rfl ?_
    exact gi_iret hX rfl dX8_lay_21 h
  · refine gi_iload_n (n := 8) hX 2 dX8_lay_7 rfl rfl rfl ?_
    refine gi_i2l (n := 9) hX dX8_lay_8 rfl ?_
    refine gi_lconst (x := (0 : Int64)) (n := 10) hX rfl dX8_lay_9 rfl ?_
    refine gi_ldc2 (n := 13) hX co_X8_89 dX8_lay_10 rfl ?_
    obtain ⟨r6, v4, e5, h⟩ := bi_some h
    refine gi_statI (st := []) (n := 16) hX hR ms_X8_in ml_X8_76 (m_X8_in Γ.2.1 Ω ((x2).toInt64) (0 : Int64) (2 : Int64) v1 e5) rfl ⟨rfl, rfl⟩ rfl dX8_lay_13 rfl rfl ?_
    refine gi_if_ne (tgt := 22) (n := 19) hX dX8_lay_16 rfl rfl h (fun h => ?_) (fun h => ?_)
    · refine gi_aload_n (n := 23) hX 0 dX8_lay_22 rfl rfl rfl ?_
      refine gi_iload_n (n := 24) hX 1 dX8_lay_23 rfl rfl rfl ?_
      refine gi_iload_n (n := 25) hX 2 dX8_lay_24 rfl rfl rfl ?_
      refine gi_iload_n (n := 26) hX 3 dX8_lay_25 rfl rfl rfl ?_
      obtain ⟨r9, v7, e8, h⟩ := bi_some h
      refine gi_virtI (st := []) (n := 29) hX hR kc_X8 ly_X8 mv_X8_lacks ml_X8_95 (m_X8_lacks Γ.2.1 Ω x1 x2 x3 v4 e8) rfl ⟨rfl, rfl⟩ rfl dX8_lay_26 rfl rfl ?_
      refine gi_istore (n := 31) hX [(5, .int r9), (0, .ref (Ω.1 0)), (1, .int x1), (2, .int x2), (3, .int x3), (4, .int x4)] dX8_lay_29 rfl rfl rfl ?_
      refine gi_iload (n := 33) hX 0 dX8_lay_31 rfl rfl ?_
      refine gi_if_eq (tgt := 39) (n := 36) hX dX8_lay_33 rfl rfl h (fun h => ?_) (fun h => ?_)
      · refine gi_aload_n (n := 40) hX 1 dX8_lay_39 rfl rfl rfl ?_
        refine gi_getR (n := 43) hX 2 kc_X8 ly_X8 rfl rfl fl_X8_16 dX8_lay_40 rfl ?_
        refine gi_bipush (x := (60 : Int32)) (n := 45) hX rfl dX8_lay_43 rfl ?_
        refine gi_iload_n (n := 46) hX 2 dX8_lay_45 rfl rfl rfl ?_
        refine gi_imul (n := 47) hX dX8_lay_46 rfl ?_
        refine gi_iload_n (n := 48) hX 4 dX8_lay_47 rfl rfl rfl ?_
        refine gi_iadd (n := 49) hX dX8_lay_48 rfl ?_
        refine gi_iload_n (n := 50) hX 3 dX8_lay_49 rfl rfl rfl ?_
        refine gi_iload (n := 52) hX 5 dX8_lay_50 rfl rfl ?_
        obtain ⟨r12, v10, e11, h⟩ := bi_some h
        refine gi_statI (st := [.int (((60 : Int32) * x1) + x3), .ref (Ω.1 3)]) (n := 55) hX hR ms_X8_cut ml_X8_99 (m_X8_cut Γ.2.1 Ω x2 x4 v7 e11) rfl ⟨rfl, rfl⟩ rfl dX8_lay_52 rfl rfl ?_
        refine gi_iast (n := 56) hX lm_3 dX8_lay_55 rfl h (fun v13 h => ?_)
        refine gi_iconst (x := (1 : Int32)) (n := 57) hX rfl dX8_lay_56 rfl ?_
        exact gi_iret hX rfl dX8_lay_57 h
      · refine gi_iload (n := 38) hX 0 dX8_lay_36 rfl rfl ?_
        exact gi_iret hX rfl dX8_lay_38 h
    · refine gi_bipush (x := (-2 : Int32)) (n := 21) hX rfl dX8_lay_19 rfl ?_
      exact gi_iret hX rfl dX8_lay_21 h
theorem m_X8_lay (l : Launch) (Ω : gO) (x1 : Int32) (x2 : Int32) (x3 : Int32) (x4 : Int32) (v : gV) {r0 : Int32} {v0 : gV} (h : f_X8_lay x1 x2 x3 x4 v = some (r0, v0)) : gx_M l Ω LM yX8_lay cX8_lay 6 (some .int) 2 [.ref (Ω.1 0), .int x1, .int x2, .int x3, .int x4] v (some (.int r0)) v0 := gx_start (lv := [(0, .ref (Ω.1 0)), (1, .int x1), (2, .int x2), (3, .int x3), (4, .int x4)]) (by decide +kernel) (Nat.le_of_ble_eq_true rfl) rfl (fun Γ _ hR hX => t_X8_lay hX hR x1 x2 x3 x4 v h)
set_option maxRecDepth 20000 in
theorem t_X8_least {Γ : gC} {Ω : gO} {r0 : Int32} {v0 : gV} (hX : gx_X Γ Ω cX8_least RX8 2 (some .int)) (hR : Γ.2.2.2.1 = gx_R 7) (x1 : Int32) (v : gV) (h : f_X8_least x1 v = some (r0, v0)) : gx_G Γ Ω LM (gx_Q Γ Ω LM (some (.int r0)) v0) 2 v 0 [(0, .ref (Ω.1 0)), (1, .int x1)] [] := by
  rw [f_X8_least] at h
  refine gi_aload_n (n := 1) hX 0 dX8_least_0 rfl rfl rfl ?_
  obtain ⟨v1, e2, h⟩ := bv_some h
  refine gi_virtV (st := []) (n := 4) hX hR kc_X8 ly_X8 mv_X8_reads ml_X8_198 (m_X8_reads Γ.2.1 Ω v e2) rfl ⟨rfl, rfl⟩ rfl dX8_least_1 rfl rfl ?_
  refine gi_iload_n (n := 5) hX 1 dX8_least_4 rfl rfl rfl ?_
  obtain ⟨r5, v3, e4, h⟩ := bi_some h
  refine gi_statI (st := []) (n := 8) hX hR ms_X8_isTwo ml_X8_104 (m_X8_isTwo Γ.2.1 Ω x1 v1 e4) rfl ⟨rfl, rfl⟩ rfl dX8_least_5 rfl rfl ?_
  refine gi_if_eq (tgt := 19) (n := 11) hX dX8_least_8 rfl rfl h (fun h => ?_) (fun h => ?_)
  · refine gi_bipush (x := (-2 : Int32)) (n := 21) hX rfl dX8_least_19 rfl ?_
    exact gi_iret hX rfl dX8_least_21 h
  · refine gi_aload_n (n := 12) hX 0 dX8_least_11 rfl rfl rfl ?_
    refine gi_iload_n (n := 13) hX 1 dX8_least_12 rfl rfl rfl ?_
    obtain ⟨r8, v6, e7, h⟩ := bi_some h
    refine gi_virtI (st := []) (n := 16) hX hR kc_X8 ly_X8 mv_X8_leastOf ml_X8_239 (m_X8_leastOf Γ.2.1 Ω x1 v3 e7) rfl ⟨rfl, rfl⟩ rfl dX8_least_13 rfl rfl ?_
    refine gi_goto (n := 21) hX dX8_least_16 rfl ?_
    exact gi_iret hX rfl dX8_least_21 h
theorem m_X8_least (l : Launch) (Ω : gO) (x1 : Int32) (v : gV) {r0 : Int32} {v0 : gV} (h : f_X8_least x1 v = some (r0, v0)) : gx_M l Ω LM yX8_least cX8_least 2 (some .int) 7 [.ref (Ω.1 0), .int x1] v (some (.int r0)) v0 := gx_start (lv := [(0, .ref (Ω.1 0)), (1, .int x1)]) (by decide +kernel) (Nat.le_of_ble_eq_true rfl) rfl (fun Γ _ hR hX => t_X8_least hX hR x1 v h)
set_option maxRecDepth 20000 in
theorem t_X8_lesser {Γ : gC} {Ω : gO} {r0 : Int32} {v0 : gV} (hX : gx_X Γ Ω cX8_lesser RX8 2 (some .int)) (hR : Γ.2.2.2.1 = gx_R 0) (x0 : Int32) (x1 : Int32) (v : gV) (h : f_X8_lesser x0 x1 v = some (r0, v0)) : gx_G Γ Ω LM (gx_Q Γ Ω LM (some (.int r0)) v0) 2 v 0 [(0, .int x0), (1, .int x1)] [] := by
  rw [f_X8_lesser] at h
  refine gi_iload_n (n := 1) hX 0 dX8_lesser_0 rfl rfl rfl ?_
  refine gi_iload_n (n := 2) hX 1 dX8_lesser_1 rfl rfl rfl ?_
  refine gi_icmp_ge (tgt := 9) (n := 5) hX dX8_lesser_2 rfl rfl h (fun h => ?_) (fun h => ?_)
  · refine gi_iload_n (n := 10) hX 1 dX8_lesser_9 rfl rfl rfl ?_
    exact gi_iret hX rfl dX8_lesser_10 h
  · refine gi_iload_n (n := 6) hX 0 dX8_lesser_5 rfl rfl rfl ?_
    refine gi_goto (n := 10) hX dX8_lesser_6 rfl ?_
    exact gi_iret hX rfl dX8_lesser_10 h
theorem m_X8_lesser (l : Launch) (Ω : gO) (x0 : Int32) (x1 : Int32) (v : gV) {r0 : Int32} {v0 : gV} (h : f_X8_lesser x0 x1 v = some (r0, v0)) : gx_M l Ω LM yX8_lesser cX8_lesser 2 (some .int) 0 [.int x0, .int x1] v (some (.int r0)) v0 := gx_start (lv := [(0, .int x0), (1, .int x1)]) (by decide +kernel) (Nat.le_of_ble_eq_true rfl) rfl (fun Γ _ hR hX => t_X8_lesser hX hR x0 x1 v h)
set_option maxRecDepth 20000 in
theorem t_X8_lose {Γ : gC} {Ω : gO} {r0 : Int32} {v0 : gV} (hX : gx_X Γ Ω cX8_lose RX8 2 (some .int)) (hR : Γ.2.2.2.1 = gx_R 2) (x1 : Int32) (v : gV) (h : f_X8_lose x1 v = some (r0, v0)) : gx_G Γ Ω LM (gx_Q Γ Ω LM (some (.int r0)) v0) 2 v 0 [(0, .ref (Ω.1 0)), (1, .int x1)] [] := by
  rw [f_X8_lose] at h
  refine gi_iload_n (n := 1) hX 1 dX8_lose_0 rfl rfl rfl ?_
  obtain ⟨r3, v1, e2, h⟩ := bi_some h
  refine gi_statI (st := []) (n := 4) hX hR ms_X8_isSheet ml_X8_85 (m_X8_isSheet Γ.2.1 Ω x1 v e2) rfl ⟨rfl, rfl⟩ rfl dX8_lose_1 rfl rfl ?_
  refine gi_if_ne (tgt := 10) (n := 7) hX dX8_lose_4 rfl rfl h (fun h => ?_) (fun h => ?_)
  · refine gi_aload_n (n := 11) hX 0 dX8_lose_10 rfl rfl rfl ?_
    refine gi_getR (n := 14) hX 0 kc_X8 ly_X8 rfl rfl fl_X8_7 dX8_lose_11 rfl ?_
    refine gi_iload_n (n := 15) hX 1 dX8_lose_14 rfl rfl rfl ?_
    refine gi_iald (n := 16) hX lm_1 dX8_lose_15 rfl h (fun h => ?_)
    refine gi_if_ge (tgt := 25) (n := 19) hX dX8_lose_16 rfl rfl h (fun h => ?_) (fun h => ?_)
    · refine gi_aload_n (n := 26) hX 0 dX8_lose_25 rfl rfl rfl ?_
      refine gi_getR (n := 29) hX 0 kc_X8 ly_X8 rfl rfl fl_X8_7 dX8_lose_26 rfl ?_
      refine gi_iload_n (n := 30) hX 1 dX8_lose_29 rfl rfl rfl ?_
      refine gi_iconst (x := (-1 : Int32)) (n := 31) hX rfl dX8_lose_30 rfl ?_
      refine gi_iast (n := 32) hX lm_1 dX8_lose_31 rfl h (fun v4 h => ?_)
      refine gi_aload_n (n := 33) hX 0 dX8_lose_32 rfl rfl rfl ?_
      refine gi_getR (n := 36) hX 1 kc_X8 ly_X8 rfl rfl fl_X8_13 dX8_lose_33 rfl ?_
      refine gi_iload_n (n := 37) hX 1 dX8_lose_36 rfl rfl rfl ?_
      refine gi_iald (n := 38) hX lm_2 dX8_lose_37 rfl h (fun h => ?_)
      exact gi_iret hX rfl dX8_lose_38 h
    · refine gi_aload_n (n := 20) hX 0 dX8_lose_19 rfl rfl rfl ?_
      refine gi_iconst (x := (1 : Int32)) (n := 21) hX rfl dX8_lose_20 rfl ?_
      obtain ⟨r7, v5, e6, h⟩ := bi_some h
      refine gi_virtI (st := []) (n := 24) hX hR kc_X8 ly_X8 mv_X8_finds ml_X8_91 (m_X8_finds Γ.2.1 Ω (1 : Int32) v1 e6) rfl ⟨rfl, rfl⟩ rfl dX8_lose_21 rfl rfl ?_
      exact gi_iret hX rfl dX8_lose_24 h
  · refine gi_bipush (x := (-2 : Int32)) (n := 9) hX rfl dX8_lose_7 rfl ?_
    exact gi_iret hX rfl dX8_lose_9 h
theorem m_X8_lose (l : Launch) (Ω : gO) (x1 : Int32) (v : gV) {r0 : Int32} {v0 : gV} (h : f_X8_lose x1 v = some (r0, v0)) : gx_M l Ω LM yX8_lose cX8_lose 2 (some .int) 2 [.ref (Ω.1 0), .int x1] v (some (.int r0)) v0 := gx_start (lv := [(0, .ref (Ω.1 0)), (1, .int x1)]) (by decide +kernel) (Nat.le_of_ble_eq_true rfl) rfl (fun Γ _ hR hX => t_X8_lose hX hR x1 v h)
set_option maxRecDepth 20000 in
theorem t_X8_no {Γ : gC} {Ω : gO} {r0 : Int64} {v0 : gV} (hX : gx_X Γ Ω cX8_no RX8 1 (some .long)) (hR : Γ.2.2.2.1 = gx_R 0) (x0 : Int32) (v : gV) (h : f_X8_no x0 v = some (r0, v0)) : gx_G Γ Ω LM (gx_Q Γ Ω LM (some (.long r0)) v0) 1 v 0 [(0, .int x0)] [] := by
  rw [f_X8_no] at h
  refine gi_ldc2 (n := 3) hX co_X8_74 dX8_no_0 rfl ?_
  refine gi_iload_n (n := 4) hX 0 dX8_no_3 rfl rfl rfl ?_
  refine gi_i2l (n := 5) hX dX8_no_4 rfl ?_
  refine gi_lsub (n := 6) hX dX8_no_5 rfl ?_
  exact gi_lret hX rfl dX8_no_6 h
theorem m_X8_no (l : Launch) (Ω : gO) (x0 : Int32) (v : gV) {r0 : Int64} {v0 : gV} (h : f_X8_no x0 v = some (r0, v0)) : gx_M l Ω LM yX8_no cX8_no 1 (some .long) 0 [.int x0] v (some (.long r0)) v0 := gx_start (lv := [(0, .int x0)]) (by decide +kernel) (Nat.le_of_ble_eq_true rfl) rfl (fun Γ _ hR hX => t_X8_no hX hR x0 v h)
set_option maxRecDepth 20000 in
theorem t_X8_maybe_J51 {Γ : gC} {Ω : gO} {r0 : Int64} {v0 : gV} (hX : gx_X Γ Ω cX8_maybe RX8 5 (some .long)) (hR : Γ.2.2.2.1 = gx_R 7)  (v : gV) (h : f_X8_maybe_J51  v = some (r0, v0)) : gx_G Γ Ω LM (gx_Q Γ Ω LM (some (.long r0)) v0) 5 v 51 [] [] := by
  rw [f_X8_maybe_J51] at h
  refine gi_bipush (x := (-2 : Int32)) (n := 53) hX rfl dX8_maybe_51 rfl ?_
  obtain ⟨r3, v1, e2, h⟩ := bj_some h
  refine gi_statJ (st := []) (n := 56) hX hR ms_X8_no ml_X8_276 (m_X8_no Γ.2.1 Ω (-2 : Int32) v e2) rfl ⟨rfl, rfl⟩ rfl dX8_maybe_53 rfl rfl ?_
  exact gi_lret hX rfl dX8_maybe_56 h
set_option maxRecDepth 20000 in
theorem t_X8_maybe {Γ : gC} {Ω : gO} {r0 : Int64} {v0 : gV} (hX : gx_X Γ Ω cX8_maybe RX8 5 (some .long)) (hR : Γ.2.2.2.1 = gx_R 7) (x1 : Int32) (x2 : Int32) (x3 : Int32) (x4 : Int32) (v : gV) (h : f_X8_maybe x1 x2 x3 x4 v = some (r0, v0)) : gx_G Γ Ω LM (gx_Q Γ Ω LM (some (.long r0)) v0) 5 v 0 [(0, .ref (Ω.1 0)), (1, .int x1), (2, .int x2), (3, .int x3), (4, .int x4)] [] := by
  rw [f_X8_maybe] at h
  refine gi_aload_n (n := 1) hX 0 dX8_maybe_0 rfl rfl rfl ?_
  obtain ⟨v1, e2, h⟩ := bv_some h
  refine gi_virtV (st := []) (n := 4) hX hR kc_X8 ly_X8 mv_X8_reads ml_X8_198 (m_X8_reads Γ.2.1 Ω v e2) rfl ⟨rfl, rfl⟩ rfl dX8_maybe_1 rfl rfl ?_
  refine gi_iload_n (n := 5) hX 1 dX8_maybe_4 rfl rfl rfl ?_
  refine gi_i2l (n := 6) hX dX8_maybe_5 rfl ?_
  refine gi_lconst (x := (0 : Int64)) (n := 7) hX rfl dX8_maybe_6 rfl ?_
  refine gi_ldc2 (n := 10) hX co_X8_270 dX8_maybe_7 rfl ?_
  obtain ⟨r5, v3, e4, h⟩ := bi_some h
  refine gi_statI (st := []) (n := 13) hX hR ms_X8_in ml_X8_76 (m_X8_in Γ.2.1 Ω ((x1).toInt64) (0 : Int64) (16 : Int64) v1 e4) rfl ⟨rfl, rfl⟩ rfl dX8_maybe_10 rfl rfl ?_
  refine gi_if_eq (tgt := 51) (n := 16) hX dX8_maybe_13 rfl rfl h (fun h => ?_) (fun h => ?_)
  · refine gi_sub [] rfl ?_
    exact t_X8_maybe_J51 hX hR v3 h
  · refine gi_iload_n (n := 17) hX 2 dX8_maybe_16 rfl rfl rfl ?_
    obtain ⟨r8, v6, e7, h⟩ := bi_some h
    refine gi_statI (st := []) (n := 20) hX hR ms_X8_isDay ml_X8_201 (m_X8_isDay Γ.2.1 Ω x2 v3 e7) rfl ⟨rfl, rfl⟩ rfl dX8_maybe_17 rfl rfl ?_
    refine gi_if_eq (tgt := 51) (n := 23) hX dX8_maybe_20 rfl rfl h (fun h => ?_) (fun h => ?_)
    · refine gi_sub [] rfl ?_
      exact t_X8_maybe_J51 hX hR v6 h
    · refine gi_aload_n (n := 24) hX 0 dX8_maybe_23 rfl rfl rfl ?_
      refine gi_iload_n (n := 25) hX 3 dX8_maybe_24 rfl rfl rfl ?_
      obtain ⟨r11, v9, e10, h⟩ := bi_some h
      refine gi_virtI (st := []) (n := 28) hX hR kc_X8 ly_X8 mv_X8_isRider ml_X8_142 (m_X8_isRider Γ.2.1 Ω x3 v6 e10) rfl ⟨rfl, rfl⟩ rfl dX8_maybe_25 rfl rfl ?_
      refine gi_if_eq (tgt := 51) (n := 31) hX dX8_maybe_28 rfl rfl h (fun h => ?_) (fun h => ?_)
      · refine gi_sub [] rfl ?_
        exact t_X8_maybe_J51 hX hR v9 h
      · refine gi_iload (n := 33) hX 4 dX8_maybe_31 rfl rfl ?_
        obtain ⟨r14, v12, e13, h⟩ := bi_some h
        refine gi_statI (st := []) (n := 36) hX hR ms_X8_isTwo ml_X8_104 (m_X8_isTwo Γ.2.1 Ω x4 v9 e13) rfl ⟨rfl, rfl⟩ rfl dX8_maybe_33 rfl rfl ?_
        refine gi_if_eq (tgt := 51) (n := 39) hX dX8_maybe_36 rfl rfl h (fun h => ?_) (fun h => ?_)
        · refine gi_sub [] rfl ?_
          exact t_X8_maybe_J51 hX hR v12 h
        · refine gi_aload_n (n := 40) hX 0 dX8_maybe_39 rfl rfl rfl ?_
          refine gi_iload_n (n := 41) hX 1 dX8_maybe_40 rfl rfl rfl ?_
          refine gi_iload_n (n := 42) hX 2 dX8_maybe_41 rfl rfl rfl ?_
          refine gi_iload_n (n := 43) hX 3 dX8_maybe_42 rfl rfl rfl ?_
          refine gi_iload (n := 45) hX 4 dX8_maybe_43 rfl rfl ?_
          obtain ⟨r17, v15, e16, h⟩ := bj_some h
          refine gi_virtJ (st := []) (n := 48) hX hR kc_X8 ly_X8 mv_X8_maybeOf ml_X8_272 (m_X8_maybeOf Γ.2.1 Ω x1 x2 x3 x4 v12 e16) rfl ⟨rfl, rfl⟩ rfl dX8_maybe_45 rfl rfl ?_
          refine gi_goto (n := 56) hX dX8_maybe_48 rfl ?_
          exact gi_lret hX rfl dX8_maybe_56 h
theorem m_X8_maybe (l : Launch) (Ω : gO) (x1 : Int32) (x2 : Int32) (x3 : Int32) (x4 : Int32) (v : gV) {r0 : Int64} {v0 : gV} (h : f_X8_maybe x1 x2 x3 x4 v = some (r0, v0)) : gx_M l Ω LM yX8_maybe cX8_maybe 5 (some .long) 7 [.ref (Ω.1 0), .int x1, .int x2, .int x3, .int x4] v (some (.long r0)) v0 := gx_start (lv := [(0, .ref (Ω.1 0)), (1, .int x1), (2, .int x2), (3, .int x3), (4, .int x4)]) (by decide +kernel) (Nat.le_of_ble_eq_true rfl) rfl (fun Γ _ hR hX => t_X8_maybe hX hR x1 x2 x3 x4 v h)
set_option maxRecDepth 20000 in
theorem t_X8_open {Γ : gC} {Ω : gO} {r0 : Int32} {v0 : gV} (hX : gx_X Γ Ω cX8_open RX8 3 (some .int)) (hR : Γ.2.2.2.1 = gx_R 7) (x1 : Int32) (x2 : Int32) (v : gV) (h : f_X8_open x1 x2 v = some (r0, v0)) : gx_G Γ Ω LM (gx_Q Γ Ω LM (some (.int r0)) v0) 3 v 0 [(0, .ref (Ω.1 0)), (1, .int x1), (2, .int x2)] [] := by
  rw [f_X8_open] at h
  refine gi_aload_n (n := 1) hX 0 dX8_open_0 rfl rfl rfl ?_
  obtain ⟨v1, e2, h⟩ := bv_some h
  refine gi_virtV (st := []) (n := 4) hX hR kc_X8 ly_X8 mv_X8_reads ml_X8_198 (m_X8_reads Γ.2.1 Ω v e2) rfl ⟨rfl, rfl⟩ rfl dX8_open_1 rfl rfl ?_
  refine gi_aload_n (n := 5) hX 0 dX8_open_4 rfl rfl rfl ?_
  refine gi_iload_n (n := 6) hX 1 dX8_open_5 rfl rfl rfl ?_
  obtain ⟨r5, v3, e4, h⟩ := bi_some h
  refine gi_virtI (st := []) (n := 9) hX hR kc_X8 ly_X8 mv_X8_isRider ml_X8_142 (m_X8_isRider Γ.2.1 Ω x1 v1 e4) rfl ⟨rfl, rfl⟩ rfl dX8_open_6 rfl rfl ?_
  refine gi_if_eq (tgt := 28) (n := 12) hX dX8_open_9 rfl rfl h (fun h => ?_) (fun h => ?_)
  · refine gi_bipush (x := (-2 : Int32)) (n := 30) hX rfl dX8_open_28 rfl ?_
    exact gi_iret hX rfl dX8_open_30 h
  · refine gi_iload_n (n := 13) hX 2 dX8_open_12 rfl rfl rfl ?_
    obtain ⟨r8, v6, e7, h⟩ := bi_some h
    refine gi_statI (st := []) (n := 16) hX hR ms_X8_isTwo ml_X8_104 (m_X8_isTwo Γ.2.1 Ω x2 v3 e7) rfl ⟨rfl, rfl⟩ rfl dX8_open_13 rfl rfl ?_
    refine gi_if_eq (tgt := 28) (n := 19) hX dX8_open_16 rfl rfl h (fun h => ?_) (fun h => ?_)
    · refine gi_bipush (x := (-2 : Int32)) (n := 30) hX rfl dX8_open_28 rfl ?_
      exact gi_iret hX rfl dX8_open_30 h
    · refine gi_aload_n (n := 20) hX 0 dX8_open_19 rfl rfl rfl ?_
      refine gi_iload_n (n := 21) hX 1 dX8_open_20 rfl rfl rfl ?_
      refine gi_iload_n (n := 22) hX 2 dX8_open_21 rfl rfl rfl ?_
      obtain ⟨r11, v9, e10, h⟩ := bi_some h
      refine gi_virtI (st := []) (n := 25) hX hR kc_X8 ly_X8 mv_X8_openOf ml_X8_233 (m_X8_openOf Γ.2.1 Ω x1 x2 v6 e10) rfl ⟨rfl, rfl⟩ rfl dX8_open_22 rfl rfl ?_
      refine gi_goto (n := 30) hX dX8_open_25 rfl ?_
      exact gi_iret hX rfl dX8_open_30 h
theorem m_X8_open (l : Launch) (Ω : gO) (x1 : Int32) (x2 : Int32) (v : gV) {r0 : Int32} {v0 : gV} (h : f_X8_open x1 x2 v = some (r0, v0)) : gx_M l Ω LM yX8_open cX8_open 3 (some .int) 7 [.ref (Ω.1 0), .int x1, .int x2] v (some (.int r0)) v0 := gx_start (lv := [(0, .ref (Ω.1 0)), (1, .int x1), (2, .int x2)]) (by decide +kernel) (Nat.le_of_ble_eq_true rfl) rfl (fun Γ _ hR hX => t_X8_open hX hR x1 x2 v h)
set_option maxRecDepth 20000 in
theorem t_X8_seen {Γ : gC} {Ω : gO} {r0 : Int32} {v0 : gV} (hX : gx_X Γ Ω cX8_seen RX8 4 (some .int)) (hR : Γ.2.2.2.1 = gx_R 2) (x1 : Int32) (x2 : Int32) (x3 : Int32) (v : gV) (h : f_X8_seen x1 x2 x3 v = some (r0, v0)) : gx_G Γ Ω LM (gx_Q Γ Ω LM (some (.int r0)) v0) 4 v 0 [(0, .ref (Ω.1 0)), (1, .int x1), (2, .int x2), (3, .int x3)] [] := by
  rw [f_X8_seen] at h
  refine gi_iload_n (n := 1) hX 1 dX8_seen_0 rfl rfl rfl ?_
  obtain ⟨r3, v1, e2, h⟩ := bi_some h
  refine gi_statI (st := []) (n := 4) hX hR ms_X8_isDay ml_X8_201 (m_X8_isDay Γ.2.1 Ω x1 v e2) rfl ⟨rfl, rfl⟩ rfl dX8_seen_1 rfl rfl ?_
  refine gi_if_eq (tgt := 31) (n := 7) hX dX8_seen_4 rfl rfl h (fun h => ?_) (fun h => ?_)
  · refine gi_bipush (x := (-2 : Int32)) (n := 33) hX rfl dX8_seen_31 rfl ?_
    exact gi_iret hX rfl dX8_seen_33 h
  · refine gi_iload_n (n := 8) hX 2 dX8_seen_7 rfl rfl rfl ?_
    refine gi_i2l (n := 9) hX dX8_seen_8 rfl ?_
    refine gi_lconst (x := (0 : Int64)) (n := 10) hX rfl dX8_seen_9 rfl ?_
    refine gi_ldc2 (n := 13) hX co_X8_145 dX8_seen_10 rfl ?_
    obtain ⟨r6, v4, e5, h⟩ := bi_some h
    refine gi_statI (st := []) (n := 16) hX hR ms_X8_in ml_X8_76 (m_X8_in Γ.2.1 Ω ((x2).toInt64) (0 : Int64) (7 : Int64) v1 e5) rfl ⟨rfl, rfl⟩ rfl dX8_seen_13 rfl rfl ?_
    refine gi_if_eq (tgt := 31) (n := 19) hX dX8_seen_16 rfl rfl h (fun h => ?_) (fun h => ?_)
    · refine gi_bipush (x := (-2 : Int32)) (n := 33) hX rfl dX8_seen_31 rfl ?_
      exact gi_iret hX rfl dX8_seen_33 h
    · refine gi_iload_n (n := 20) hX 3 dX8_seen_19 rfl rfl rfl ?_
      refine gi_i2l (n := 21) hX dX8_seen_20 rfl ?_
      refine gi_lconst (x := (0 : Int64)) (n := 22) hX rfl dX8_seen_21 rfl ?_
      refine gi_ldc2 (n := 25) hX co_X8_245 dX8_seen_22 rfl ?_
      obtain ⟨r9, v7, e8, h⟩ := bi_some h
      refine gi_statI (st := []) (n := 28) hX hR ms_X8_in ml_X8_76 (m_X8_in Γ.2.1 Ω ((x3).toInt64) (0 : Int64) (8 : Int64) v4 e8) rfl ⟨rfl, rfl⟩ rfl dX8_seen_25 rfl rfl ?_
      refine gi_if_ne (tgt := 34) (n := 31) hX dX8_seen_28 rfl rfl h (fun h => ?_) (fun h => ?_)
      · refine gi_aload_n (n := 35) hX 0 dX8_seen_34 rfl rfl rfl ?_
        refine gi_getI (n := 38) hX 26 kc_X8 ly_X8 rfl rfl fl_X8_247 dX8_seen_35 rfl ?_
        refine gi_bipush (x := (8 : Int32)) (n := 40) hX rfl dX8_seen_38 rfl ?_
        refine gi_icmp_ne (tgt := 46) (n := 43) hX dX8_seen_40 rfl rfl h (fun h => ?_) (fun h => ?_)
        · refine gi_aload_n (n := 47) hX 0 dX8_seen_46 rfl rfl rfl ?_
          refine gi_getR (n := 50) hX 27 kc_X8 ly_X8 rfl rfl fl_X8_64 dX8_seen_47 rfl ?_
          refine gi_iconst (x := (3 : Int32)) (n := 51) hX rfl dX8_seen_50 rfl ?_
          refine gi_aload_n (n := 52) hX 0 dX8_seen_51 rfl rfl rfl ?_
          refine gi_getI (n := 55) hX 26 kc_X8 ly_X8 rfl rfl fl_X8_247 dX8_seen_52 rfl ?_
          refine gi_imul (n := 56) hX dX8_seen_55 rfl ?_
          refine gi_iload_n (n := 57) hX 1 dX8_seen_56 rfl rfl rfl ?_
          refine gi_iast (n := 58) hX lm_19 dX8_seen_57 rfl h (fun v10 h => ?_)
          refine gi_aload_n (n := 59) hX 0 dX8_seen_58 rfl rfl rfl ?_
          refine gi_getR (n := 62) hX 27 kc_X8 ly_X8 rfl rfl fl_X8_64 dX8_seen_59 rfl ?_
          refine gi_iconst (x := (3 : Int32)) (n := 63) hX rfl dX8_seen_62 rfl ?_
          refine gi_aload_n (n := 64) hX 0 dX8_seen_63 rfl rfl rfl ?_
          refine gi_getI (n := 67) hX 26 kc_X8 ly_X8 rfl rfl fl_X8_247 dX8_seen_64 rfl ?_
          refine gi_imul (n := 68) hX dX8_seen_67 rfl ?_
          refine gi_iconst (x := (1 : Int32)) (n := 69) hX rfl dX8_seen_68 rfl ?_
          refine gi_iadd (n := 70) hX dX8_seen_69 rfl ?_
          refine gi_iload_n (n := 71) hX 2 dX8_seen_70 rfl rfl rfl ?_
          refine gi_iast (n := 72) hX lm_19 dX8_seen_71 rfl h (fun v11 h => ?_)
          refine gi_aload_n (n := 73) hX 0 dX8_seen_72 rfl rfl rfl ?_
          refine gi_getR (n := 76) hX 27 kc_X8 ly_X8 rfl rfl fl_X8_64 dX8_seen_73 rfl ?_
          refine gi_iconst (x := (3 : Int32)) (n := 77) hX rfl dX8_seen_76 rfl ?_
          refine gi_aload_n (n := 78) hX 0 dX8_seen_77 rfl rfl rfl ?_
          refine gi_getI (n := 81) hX 26 kc_X8 ly_X8 rfl rfl fl_X8_247 dX8_seen_78 rfl ?_
          refine gi_imul (n := 82) hX dX8_seen_81 rfl ?_
          refine gi_iconst (x := (2 : Int32)) (n := 83) hX rfl dX8_seen_82 rfl ?_
          refine gi_iadd (n := 84) hX dX8_seen_83 rfl ?_
          refine gi_iload_n (n := 85) hX 3 dX8_seen_84 rfl rfl rfl ?_
          refine gi_iast (n := 86) hX lm_19 dX8_seen_85 rfl h (fun v12 h => ?_)
          refine gi_aload_n (n := 87) hX 0 dX8_seen_86 rfl rfl rfl ?_
          refine gi_dup (n := 88) hX rfl dX8_seen_87 rfl ?_
          refine gi_getI (n := 91) hX 26 kc_X8 ly_X8 rfl rfl fl_X8_247 dX8_seen_88 rfl ?_
          refine gi_iconst (x := (1 : Int32)) (n := 92) hX rfl dX8_seen_91 rfl ?_
          refine gi_iadd (n := 93) hX dX8_seen_92 rfl ?_
          refine gi_putI (n := 96) hX 26 kc_X8 ly_X8 rfl rfl fl_X8_247 rfl rfl dX8_seen_93 rfl h (fun v13 h => ?_)
          refine gi_aload_n (n := 97) hX 0 dX8_seen_96 rfl rfl rfl ?_
          refine gi_getI (n := 100) hX 26 kc_X8 ly_X8 rfl rfl fl_X8_247 dX8_seen_97 rfl ?_
          exact gi_iret hX rfl dX8_seen_100 h
        · refine gi_bipush (x := (-4 : Int32)) (n := 45) hX rfl dX8_seen_43 rfl ?_
          exact gi_iret hX rfl dX8_seen_45 h
      · refine gi_bipush (x := (-2 : Int32)) (n := 33) hX rfl dX8_seen_31 rfl ?_
        exact gi_iret hX rfl dX8_seen_33 h
theorem m_X8_seen (l : Launch) (Ω : gO) (x1 : Int32) (x2 : Int32) (x3 : Int32) (v : gV) {r0 : Int32} {v0 : gV} (h : f_X8_seen x1 x2 x3 v = some (r0, v0)) : gx_M l Ω LM yX8_seen cX8_seen 4 (some .int) 2 [.ref (Ω.1 0), .int x1, .int x2, .int x3] v (some (.int r0)) v0 := gx_start (lv := [(0, .ref (Ω.1 0)), (1, .int x1), (2, .int x2), (3, .int x3)]) (by decide +kernel) (Nat.le_of_ble_eq_true rfl) rfl (fun Γ _ hR hX => t_X8_seen hX hR x1 x2 x3 v h)
set_option maxRecDepth 20000 in
theorem t_X8_read_J105 {Γ : gC} {Ω : gO} {r0 : Int32} {v0 : gV} {o : (gV × Int32 × Int32) ⊕ (gV × Int32)} (hX : gx_X Γ Ω cX8_read RX8 5 (some .int)) (hR : Γ.2.2.2.1 = gx_R 3) (x1 : Int32) (x3 : Int32) (s0 : Int32) (s1 : Int32) (v : gV) (h : f_X8_read_J105 x1 x3 s0 s1 v = some o) (hc : ∀ c0 c1 c2, o = .inl (c0, c1, c2) → gx_G Γ Ω LM (gx_Q Γ Ω LM (some (.int r0)) v0) 5 c0 29 [(0, .ref (Ω.1 0)), (1, .int x1), (2, .int c1), (3, .int c2)] []) (hz : ∀ z0 z1, o = .inr (z0, z1) → gx_G Γ Ω LM (gx_Q Γ Ω LM (some (.int r0)) v0) 5 z0 110 [(2, .int z1)] []) : gx_G Γ Ω LM (gx_Q Γ Ω LM (some (.int r0)) v0) 5 v 105 [(0, .ref (Ω.1 0)), (1, .int x1), (3, .int x3)] [.int s0, .int s1] := by
  rw [f_X8_read_J105] at h
  refine gi_iadd (n := 106) hX dX8_read_105 rfl ?_
  refine gi_topI h (fun u1 h => ?_)
  refine gi_istore_n (n := 107) hX [(2, .int u1), (0, .ref (Ω.1 0)), (1, .int x1), (3, .int x3)] dX8_read_106 rfl rfl rfl rfl ?_
  refine gi_goto (n := 29) hX dX8_read_107 rfl ?_
  refine gi_sub [1, 2, 0, 3] rfl ?_
  exact hc _ _ _ (Option.some.inj h).symm
set_option maxRecDepth 20000 in
theorem t_X8_read_J94 {Γ : gC} {Ω : gO} {r0 : Int32} {v0 : gV} {o : (gV × Int32 × Int32) ⊕ (gV × Int32)} (hX : gx_X Γ Ω cX8_read RX8 5 (some .int)) (hR : Γ.2.2.2.1 = gx_R 3) (x1 : Int32) (x2 : Int32) (s0 : Int32) (v : gV) (h : f_X8_read_J94 x1 x2 s0 v = some o) (hc : ∀ c0 c1 c2, o = .inl (c0, c1, c2) → gx_G Γ Ω LM (gx_Q Γ Ω LM (some (.int r0)) v0) 5 c0 29 [(0, .ref (Ω.1 0)), (1, .int x1), (2, .int c1), (3, .int c2)] []) (hz : ∀ z0 z1, o = .inr (z0, z1) → gx_G Γ Ω LM (gx_Q Γ Ω LM (some (.int r0)) v0) 5 z0 110 [(2, .int z1)] []) : gx_G Γ Ω LM (gx_Q Γ Ω LM (some (.int r0)) v0) 5 v 94 [(0, .ref (Ω.1 0)), (1, .int x1), (2, .int x2)] [.int s0] := by
  rw [f_X8_read_J94] at h
  refine gi_istore_n (n := 95) hX [(3, .int s0), (0, .ref (Ω.1 0)), (1, .int x1), (2, .int x2)] dX8_read_94 rfl rfl rfl rfl ?_
  refine gi_iload_n (n := 96) hX 3 dX8_read_95 rfl rfl rfl ?_
  refine gi_iload_n (n := 97) hX 0 dX8_read_96 rfl rfl rfl ?_
  refine gi_if_eq (tgt := 104) (n := 100) hX dX8_read_97 rfl rfl h (fun h => ?_) (fun h => ?_)
  · refine gi_iconst (x := (0 : Int32)) (n := 105) hX rfl dX8_read_104 rfl ?_
    refine gi_sub [1, 2, 0] rfl ?_
    exact t_X8_read_J105 hX hR x1 s0 (0 : Int32) x2 v h hc hz
  · refine gi_iconst (x := (1 : Int32)) (n := 101) hX rfl dX8_read_100 rfl ?_
    refine gi_goto (n := 105) hX dX8_read_101 rfl ?_
    refine gi_sub [1, 2, 0] rfl ?_
    exact t_X8_read_J105 hX hR x1 s0 (1 : Int32) x2 v h hc hz
set_option maxRecDepth 20000 in
theorem t_X8_read_B29 {Γ : gC} {Ω : gO} {r0 : Int32} {v0 : gV} {o : (gV × Int32 × Int32) ⊕ (gV × Int32)} (hX : gx_X Γ Ω cX8_read RX8 5 (some .int)) (hR : Γ.2.2.2.1 = gx_R 3) (x1 : Int32) (x2 : Int32) (x3 : Int32) (v : gV) (h : f_X8_read_B29 x1 x2 x3 v = some o) (hc : ∀ c0 c1 c2, o = .inl (c0, c1, c2) → gx_G Γ Ω LM (gx_Q Γ Ω LM (some (.int r0)) v0) 5 c0 29 [(0, .ref (Ω.1 0)), (1, .int x1), (2, .int c1), (3, .int c2)] []) (hz : ∀ z0 z1, o = .inr (z0, z1) → gx_G Γ Ω LM (gx_Q Γ Ω LM (some (.int r0)) v0) 5 z0 110 [(2, .int z1)] []) : gx_G Γ Ω LM (gx_Q Γ Ω LM (some (.int r0)) v0) 5 v 29 [(0, .ref (Ω.1 0)), (1, .int x1), (2, .int x2), (3, .int x3)] [] := by
  rw [f_X8_read_B29] at h
  refine gi_iload_n (n := 30) hX 3 dX8_read_29 rfl rfl rfl ?_
  refine gi_if_eq (tgt := 110) (n := 33) hX dX8_read_30 rfl rfl h (fun h => ?_) (fun h => ?_)
  · refine gi_sub [2] rfl ?_
    exact hz _ _ (Option.some.inj h).symm
  · refine gi_iconst (x := (3 : Int32)) (n := 34) hX rfl dX8_read_33 rfl ?_
    refine gi_iload_n (n := 35) hX 2 dX8_read_34 rfl rfl rfl ?_
    refine gi_imul (n := 36) hX dX8_read_35 rfl ?_
    refine gi_iconst (x := (3 : Int32)) (n := 37) hX rfl dX8_read_36 rfl ?_
    refine gi_iadd (n := 38) hX dX8_read_37 rfl ?_
    refine gi_aload_n (n := 39) hX 0 dX8_read_38 rfl rfl rfl ?_
    refine gi_getR (n := 42) hX 1 kc_X8 ly_X8 rfl rfl fl_X8_13 dX8_read_39 rfl ?_
    refine gi_iload_n (n := 43) hX 1 dX8_read_42 rfl rfl rfl ?_
    refine gi_iald (n := 44) hX lm_2 dX8_read_43 rfl h (fun h => ?_)
    refine gi_icmp_gt (tgt := 110) (n := 47) hX dX8_read_44 rfl rfl h (fun h => ?_) (fun h => ?_)
    · refine gi_sub [2] rfl ?_
      exact hz _ _ (Option.some.inj h).symm
    · refine gi_bipush (x := (60 : Int32)) (n := 49) hX rfl dX8_read_47 rfl ?_
      refine gi_iload_n (n := 50) hX 1 dX8_read_49 rfl rfl rfl ?_
      refine gi_imul (n := 51) hX dX8_read_50 rfl ?_
      refine gi_iconst (x := (3 : Int32)) (n := 52) hX rfl dX8_read_51 rfl ?_
      refine gi_iload_n (n := 53) hX 2 dX8_read_52 rfl rfl rfl ?_
      refine gi_imul (n := 54) hX dX8_read_53 rfl ?_
      refine gi_iadd (n := 55) hX dX8_read_54 rfl ?_
      refine gi_topI h (fun u1 h => ?_)
      refine gi_istore (n := 57) hX [(4, .int u1), (0, .ref (Ω.1 0)), (1, .int x1), (2, .int x2), (3, .int x3)] dX8_read_55 rfl rfl rfl ?_
      refine gi_aload_n (n := 58) hX 1 dX8_read_57 rfl rfl rfl ?_
      refine gi_aload_n (n := 59) hX 1 dX8_read_58 rfl rfl rfl ?_
      refine gi_getR (n := 62) hX 2 kc_X8 ly_X8 rfl rfl fl_X8_16 dX8_read_59 rfl ?_
      refine gi_iload (n := 64) hX 0 dX8_read_62 rfl rfl ?_
      refine gi_iald (n := 65) hX lm_3 dX8_read_64 rfl h (fun h => ?_)
      refine gi_aload_n (n := 66) hX 1 dX8_read_65 rfl rfl rfl ?_
      refine gi_getR (n := 69) hX 2 kc_X8 ly_X8 rfl rfl fl_X8_16 dX8_read_66 rfl ?_
      refine gi_iload (n := 71) hX 0 dX8_read_69 rfl rfl ?_
      refine gi_iconst (x := (1 : Int32)) (n := 72) hX rfl dX8_read_71 rfl ?_
      refine gi_iadd (n := 73) hX dX8_read_72 rfl ?_
      refine gi_iald (n := 74) hX lm_3 dX8_read_73 rfl h (fun h => ?_)
      refine gi_aload_n (n := 75) hX 1 dX8_read_74 rfl rfl rfl ?_
      refine gi_getR (n := 78) hX 2 kc_X8 ly_X8 rfl rfl fl_X8_16 dX8_read_75 rfl ?_
      refine gi_iload (n := 80) hX 0 dX8_read_78 rfl rfl ?_
      refine gi_iconst (x := (2 : Int32)) (n := 81) hX rfl dX8_read_80 rfl ?_
      refine gi_iadd (n := 82) hX dX8_read_81 rfl ?_
      refine gi_iald (n := 83) hX lm_3 dX8_read_82 rfl h (fun h => ?_)
      obtain ⟨r4, v2, e3, h⟩ := bi_some h
      refine gi_virtI (st := []) (n := 86) hX hR kc_X8 ly_X8 mv_X8_seen ml_X8_250 (m_X8_seen Γ.2.1 Ω (v.1 3 (u1).toNatClampNeg) (v.1 3 ((u1 + (1 : Int32))).toNatClampNeg) (v.1 3 ((u1 + (2 : Int32))).toNatClampNeg) v e3) rfl ⟨rfl, rfl⟩ rfl dX8_read_83 rfl rfl ?_
      refine gi_if_lt (tgt := 93) (n := 89) hX dX8_read_86 rfl rfl h (fun h => ?_) (fun h => ?_)
      · refine gi_iconst (x := (0 : Int32)) (n := 94) hX rfl dX8_read_93 rfl ?_
        refine gi_sub [1, 2, 3] rfl ?_
        exact t_X8_read_J94 hX hR x1 x2 (0 : Int32) v2 h hc hz
      · refine gi_iconst (x := (1 : Int32)) (n := 90) hX rfl dX8_read_89 rfl ?_
        refine gi_goto (n := 94) hX dX8_read_90 rfl ?_
        refine gi_sub [1, 2, 3] rfl ?_
        exact t_X8_read_J94 hX hR x1 x2 (1 : Int32) v2 h hc hz
set_option maxRecDepth 20000 in
theorem t_X8_read {Γ : gC} {Ω : gO} {r0 : Int32} {v0 : gV} (hX : gx_X Γ Ω cX8_read RX8 5 (some .int)) (hR : Γ.2.2.2.1 = gx_R 3) (x1 : Int32) (v : gV) (h : f_X8_read x1 v = some (r0, v0)) : gx_G Γ Ω LM (gx_Q Γ Ω LM (some (.int r0)) v0) 5 v 0 [(0, .ref (Ω.1 0)), (1, .int x1)] [] := by
  rw [f_X8_read] at h
  refine gi_iload_n (n := 1) hX 1 dX8_read_0 rfl rfl rfl ?_
  obtain ⟨r3, v1, e2, h⟩ := bi_some h
  refine gi_statI (st := []) (n := 4) hX hR ms_X8_isSheet ml_X8_85 (m_X8_isSheet Γ.2.1 Ω x1 v e2) rfl ⟨rfl, rfl⟩ rfl dX8_read_1 rfl rfl ?_
  refine gi_if_ne (tgt := 10) (n := 7) hX dX8_read_4 rfl rfl h (fun h => ?_) (fun h => ?_)
  · refine gi_aload_n (n := 11) hX 0 dX8_read_10 rfl rfl rfl ?_
    refine gi_getR (n := 14) hX 0 kc_X8 ly_X8 rfl rfl fl_X8_7 dX8_read_11 rfl ?_
    refine gi_iload_n (n := 15) hX 1 dX8_read_14 rfl rfl rfl ?_
    refine gi_iald (n := 16) hX lm_1 dX8_read_15 rfl h (fun h => ?_)
    refine gi_if_ge (tgt := 25) (n := 19) hX dX8_read_16 rfl rfl h (fun h => ?_) (fun h => ?_)
    · refine gi_iconst (x := (0 : Int32)) (n := 26) hX rfl dX8_read_25 rfl ?_
      refine gi_istore_n (n := 27) hX [(2, .int (0 : Int32)), (0, .ref (Ω.1 0)), (1, .int x1)] dX8_read_26 rfl rfl rfl rfl ?_
      refine gi_iconst (x := (1 : Int32)) (n := 28) hX rfl dX8_read_27 rfl ?_
      refine gi_istore_n (n := 29) hX [(3, .int (1 : Int32)), (2, .int (0 : Int32)), (0, .ref (Ω.1 0)), (1, .int x1)] dX8_read_28 rfl rfl rfl rfl ?_
      refine gi_sub [2, 3, 1, 0] rfl ?_
      have key := lp_ind (f := (fun a : gV × Int32 × Int32 => f_X8_read_B29 x1 a.2.1 a.2.2 a.1)) (P := (fun a : gV × Int32 × Int32 => gx_G Γ Ω LM (gx_Q Γ Ω LM (some (.int r0)) v0) 5 a.1 29 [(0, .ref (Ω.1 0)), (1, .int x1), (2, .int a.2.1), (3, .int a.2.2)] [])) (Z := (fun z : gV × Int32 => gx_G Γ Ω LM (gx_Q Γ Ω LM (some (.int r0)) v0) 5 z.1 110 [(2, .int z.2)] [])) (fun a o h hc hz => t_X8_read_B29 hX hR x1 a.2.1 a.2.2 a.1 h (fun c0 c1 c2 e => hc (c0, c1, c2) e) (fun z0 z1 e => hz (z0, z1) e)) fu
      obtain ⟨v4, y5, e0, h⟩ := bx2_some h
      refine key (v1, (0 : Int32), (1 : Int32)) _ e0 ?_
      show gx_G Γ Ω LM (gx_Q Γ Ω LM (some (.int r0)) v0) 5 v4 110 [(2, .int y5)] []
      refine gi_iload_n (n := 111) hX 0 dX8_read_110 rfl rfl rfl ?_
      exact gi_iret hX rfl dX8_read_111 h
    · refine gi_aload_n (n := 20) hX 0 dX8_read_19 rfl rfl rfl ?_
      refine gi_iconst (x := (1 : Int32)) (n := 21) hX rfl dX8_read_20 rfl ?_
      obtain ⟨r8, v6, e7, h⟩ := bi_some h
      refine gi_virtI (st := []) (n := 24) hX hR kc_X8 ly_X8 mv_X8_finds ml_X8_91 (m_X8_finds Γ.2.1 Ω (1 : Int32) v1 e7) rfl ⟨rfl, rfl⟩ rfl dX8_read_21 rfl rfl ?_
      exact gi_iret hX rfl dX8_read_24 h
  · refine gi_bipush (x := (-2 : Int32)) (n := 9) hX rfl dX8_read_7 rfl ?_
    exact gi_iret hX rfl dX8_read_9 h
theorem m_X8_read (l : Launch) (Ω : gO) (x1 : Int32) (v : gV) {r0 : Int32} {v0 : gV} (h : f_X8_read x1 v = some (r0, v0)) : gx_M l Ω LM yX8_read cX8_read 5 (some .int) 3 [.ref (Ω.1 0), .int x1] v (some (.int r0)) v0 := gx_start (lv := [(0, .ref (Ω.1 0)), (1, .int x1)]) (by decide +kernel) (Nat.le_of_ble_eq_true rfl) rfl (fun Γ _ hR hX => t_X8_read hX hR x1 v h)
set_option maxRecDepth 20000 in
theorem t_X8_rider {Γ : gC} {Ω : gO} {r0 : Int32} {v0 : gV} (hX : gx_X Γ Ω cX8_rider RX8 3 (some .int)) (hR : Γ.2.2.2.1 = gx_R 4) (x1 : Int32) (x2 : Int32) (v : gV) (h : f_X8_rider x1 x2 v = some (r0, v0)) : gx_G Γ Ω LM (gx_Q Γ Ω LM (some (.int r0)) v0) 3 v 0 [(0, .ref (Ω.1 0)), (1, .int x1), (2, .int x2)] [] := by
  rw [f_X8_rider] at h
  refine gi_aload_n (n := 1) hX 0 dX8_rider_0 rfl rfl rfl ?_
  obtain ⟨r3, v1, e2, h⟩ := bi_some h
  refine gi_virtI (st := []) (n := 4) hX hR kc_X8 ly_X8 mv_X8_readsRiders ml_X8_133 (m_X8_readsRiders Γ.2.1 Ω v e2) rfl ⟨rfl, rfl⟩ rfl dX8_rider_1 rfl rfl ?_
  refine gi_pop (n := 5) hX rfl dX8_rider_4 rfl ?_
  refine gi_aload_n (n := 6) hX 0 dX8_rider_5 rfl rfl rfl ?_
  refine gi_iload_n (n := 7) hX 1 dX8_rider_6 rfl rfl rfl ?_
  obtain ⟨r6, v4, e5, h⟩ := bi_some h
  refine gi_virtI (st := []) (n := 10) hX hR kc_X8 ly_X8 mv_X8_isRider ml_X8_142 (m_X8_isRider Γ.2.1 Ω x1 v1 e5) rfl ⟨rfl, rfl⟩ rfl dX8_rider_7 rfl rfl ?_
  refine gi_if_eq (tgt := 38) (n := 13) hX dX8_rider_10 rfl rfl h (fun h => ?_) (fun h => ?_)
  · refine gi_bipush (x := (-2 : Int32)) (n := 40) hX rfl dX8_rider_38 rfl ?_
    exact gi_iret hX rfl dX8_rider_40 h
  · refine gi_iload_n (n := 14) hX 2 dX8_rider_13 rfl rfl rfl ?_
    refine gi_i2l (n := 15) hX dX8_rider_14 rfl ?_
    refine gi_lconst (x := (0 : Int64)) (n := 16) hX rfl dX8_rider_15 rfl ?_
    refine gi_ldc2 (n := 19) hX co_X8_83 dX8_rider_16 rfl ?_
    obtain ⟨r9, v7, e8, h⟩ := bi_some h
    refine gi_statI (st := []) (n := 22) hX hR ms_X8_in ml_X8_76 (m_X8_in Γ.2.1 Ω ((x2).toInt64) (0 : Int64) (3 : Int64) v4 e8) rfl ⟨rfl, rfl⟩ rfl dX8_rider_19 rfl rfl ?_
    refine gi_if_eq (tgt := 38) (n := 25) hX dX8_rider_22 rfl rfl h (fun h => ?_) (fun h => ?_)
    · refine gi_bipush (x := (-2 : Int32)) (n := 40) hX rfl dX8_rider_38 rfl ?_
      exact gi_iret hX rfl dX8_rider_40 h
    · refine gi_aload_n (n := 26) hX 0 dX8_rider_25 rfl rfl rfl ?_
      refine gi_getR (n := 29) hX 8 kc_X8 ly_X8 rfl rfl fl_X8_28 dX8_rider_26 rfl ?_
      refine gi_iconst (x := (4 : Int32)) (n := 30) hX rfl dX8_rider_29 rfl ?_
      refine gi_iload_n (n := 31) hX 1 dX8_rider_30 rfl rfl rfl ?_
      refine gi_imul (n := 32) hX dX8_rider_31 rfl ?_
      refine gi_iload_n (n := 33) hX 2 dX8_rider_32 rfl rfl rfl ?_
      refine gi_iadd (n := 34) hX dX8_rider_33 rfl ?_
      refine gi_iald (n := 35) hX lm_7 dX8_rider_34 rfl h (fun h => ?_)
      refine gi_goto (n := 40) hX dX8_rider_35 rfl ?_
      exact gi_iret hX rfl dX8_rider_40 h
theorem m_X8_rider (l : Launch) (Ω : gO) (x1 : Int32) (x2 : Int32) (v : gV) {r0 : Int32} {v0 : gV} (h : f_X8_rider x1 x2 v = some (r0, v0)) : gx_M l Ω LM yX8_rider cX8_rider 3 (some .int) 4 [.ref (Ω.1 0), .int x1, .int x2] v (some (.int r0)) v0 := gx_start (lv := [(0, .ref (Ω.1 0)), (1, .int x1), (2, .int x2)]) (by decide +kernel) (Nat.le_of_ble_eq_true rfl) rfl (fun Γ _ hR hX => t_X8_rider hX hR x1 x2 v h)
set_option maxRecDepth 20000 in
theorem t_X8_rings {Γ : gC} {Ω : gO} {r0 : Int32} {v0 : gV} (hX : gx_X Γ Ω cX8_rings RX8 2 (some .int)) (hR : Γ.2.2.2.1 = gx_R 7) (x1 : Int32) (v : gV) (h : f_X8_rings x1 v = some (r0, v0)) : gx_G Γ Ω LM (gx_Q Γ Ω LM (some (.int r0)) v0) 2 v 0 [(0, .ref (Ω.1 0)), (1, .int x1)] [] := by
  rw [f_X8_rings] at h
  refine gi_aload_n (n := 1) hX 0 dX8_rings_0 rfl rfl rfl ?_
  obtain ⟨v1, e2, h⟩ := bv_some h
  refine gi_virtV (st := []) (n := 4) hX hR kc_X8 ly_X8 mv_X8_reads ml_X8_198 (m_X8_reads Γ.2.1 Ω v e2) rfl ⟨rfl, rfl⟩ rfl dX8_rings_1 rfl rfl ?_
  refine gi_iload_n (n := 5) hX 1 dX8_rings_4 rfl rfl rfl ?_
  obtain ⟨r5, v3, e4, h⟩ := bi_some h
  refine gi_statI (st := []) (n := 8) hX hR ms_X8_isTwo ml_X8_104 (m_X8_isTwo Γ.2.1 Ω x1 v1 e4) rfl ⟨rfl, rfl⟩ rfl dX8_rings_5 rfl rfl ?_
  refine gi_if_eq (tgt := 19) (n := 11) hX dX8_rings_8 rfl rfl h (fun h => ?_) (fun h => ?_)
  · refine gi_bipush (x := (-2 : Int32)) (n := 21) hX rfl dX8_rings_19 rfl ?_
    exact gi_iret hX rfl dX8_rings_21 h
  · refine gi_aload_n (n := 12) hX 0 dX8_rings_11 rfl rfl rfl ?_
    refine gi_iload_n (n := 13) hX 1 dX8_rings_12 rfl rfl rfl ?_
    obtain ⟨r8, v6, e7, h⟩ := bi_some h
    refine gi_virtI (st := []) (n := 16) hX hR kc_X8 ly_X8 mv_X8_ringsNow ml_X8_227 (m_X8_ringsNow Γ.2.1 Ω x1 v3 e7) rfl ⟨rfl, rfl⟩ rfl dX8_rings_13 rfl rfl ?_
    refine gi_goto (n := 21) hX dX8_rings_16 rfl ?_
    exact gi_iret hX rfl dX8_rings_21 h
theorem m_X8_rings (l : Launch) (Ω : gO) (x1 : Int32) (v : gV) {r0 : Int32} {v0 : gV} (h : f_X8_rings x1 v = some (r0, v0)) : gx_M l Ω LM yX8_rings cX8_rings 2 (some .int) 7 [.ref (Ω.1 0), .int x1] v (some (.int r0)) v0 := gx_start (lv := [(0, .ref (Ω.1 0)), (1, .int x1)]) (by decide +kernel) (Nat.le_of_ble_eq_true rfl) rfl (fun Γ _ hR hX => t_X8_rings hX hR x1 v h)
set_option maxRecDepth 20000 in
theorem t_X8_served {Γ : gC} {Ω : gO} {r0 : Int32} {v0 : gV} (hX : gx_X Γ Ω cX8_served RX8 2 (some .int)) (hR : Γ.2.2.2.1 = gx_R 7) (x1 : Int32) (v : gV) (h : f_X8_served x1 v = some (r0, v0)) : gx_G Γ Ω LM (gx_Q Γ Ω LM (some (.int r0)) v0) 2 v 0 [(0, .ref (Ω.1 0)), (1, .int x1)] [] := by
  rw [f_X8_served] at h
  refine gi_aload_n (n := 1) hX 0 dX8_served_0 rfl rfl rfl ?_
  obtain ⟨v1, e2, h⟩ := bv_some h
  refine gi_virtV (st := []) (n := 4) hX hR kc_X8 ly_X8 mv_X8_reads ml_X8_198 (m_X8_reads Γ.2.1 Ω v e2) rfl ⟨rfl, rfl⟩ rfl dX8_served_1 rfl rfl ?_
  refine gi_iload_n (n := 5) hX 1 dX8_served_4 rfl rfl rfl ?_
  obtain ⟨r5, v3, e4, h⟩ := bi_some h
  refine gi_statI (st := []) (n := 8) hX hR ms_X8_isDay ml_X8_201 (m_X8_isDay Γ.2.1 Ω x1 v1 e4) rfl ⟨rfl, rfl⟩ rfl dX8_served_5 rfl rfl ?_
  refine gi_if_eq (tgt := 19) (n := 11) hX dX8_served_8 rfl rfl h (fun h => ?_) (fun h => ?_)
  · refine gi_bipush (x := (-2 : Int32)) (n := 21) hX rfl dX8_served_19 rfl ?_
    exact gi_iret hX rfl dX8_served_21 h
  · refine gi_aload_n (n := 12) hX 0 dX8_served_11 rfl rfl rfl ?_
    refine gi_iload_n (n := 13) hX 1 dX8_served_12 rfl rfl rfl ?_
    obtain ⟨r8, v6, e7, h⟩ := bi_some h
    refine gi_virtI (st := []) (n := 16) hX hR kc_X8 ly_X8 mv_X8_servedBy ml_X8_217 (m_X8_servedBy Γ.2.1 Ω x1 v3 e7) rfl ⟨rfl, rfl⟩ rfl dX8_served_13 rfl rfl ?_
    refine gi_goto (n := 21) hX dX8_served_16 rfl ?_
    exact gi_iret hX rfl dX8_served_21 h
theorem m_X8_served (l : Launch) (Ω : gO) (x1 : Int32) (v : gV) {r0 : Int32} {v0 : gV} (h : f_X8_served x1 v = some (r0, v0)) : gx_M l Ω LM yX8_served cX8_served 2 (some .int) 7 [.ref (Ω.1 0), .int x1] v (some (.int r0)) v0 := gx_start (lv := [(0, .ref (Ω.1 0)), (1, .int x1)]) (by decide +kernel) (Nat.le_of_ble_eq_true rfl) rfl (fun Γ _ hR hX => t_X8_served hX hR x1 v h)
set_option maxRecDepth 20000 in
theorem t_X8_set_J23 {Γ : gC} {Ω : gO} {r0 : Int32} {v0 : gV} (hX : gx_X Γ Ω cX8_set RX8 5 (some .int)) (hR : Γ.2.2.2.1 = gx_R 1) (x1 : Int32) (x2 : Int32) (s0 : Int32) (v : gV) (h : f_X8_set_J23 x1 x2 s0 v = some (r0, v0)) : gx_G Γ Ω LM (gx_Q Γ Ω LM (some (.int r0)) v0) 5 v 23 [(0, .ref (Ω.1 0)), (1, .int x1), (2, .int x2)] [.int s0] := by
  rw [f_X8_set_J23] at h
  refine gi_istore_n (n := 24) hX [(3, .int s0), (0, .ref (Ω.1 0)), (1, .int x1), (2, .int x2)] dX8_set_23 rfl rfl rfl rfl ?_
  refine gi_iload_n (n := 25) hX 2 dX8_set_24 rfl rfl rfl ?_
  refine gi_i2l (n := 26) hX dX8_set_25 rfl ?_
  refine gi_lconst (x := (0 : Int64)) (n := 27) hX rfl dX8_set_26 rfl ?_
  refine gi_ldc2 (n := 30) hX co_X8_89 dX8_set_27 rfl ?_
  obtain ⟨r3, v1, e2, h⟩ := bi_some h
  refine gi_statI (st := []) (n := 33) hX hR ms_X8_in ml_X8_76 (m_X8_in Γ.2.1 Ω ((x1).toInt64) (0 : Int64) (2 : Int64) v e2) rfl ⟨rfl, rfl⟩ rfl dX8_set_30 rfl rfl ?_
  refine gi_if_eq (tgt := 47) (n := 36) hX dX8_set_33 rfl rfl h (fun h => ?_) (fun h => ?_)
  · refine gi_bipush (x := (-2 : Int32)) (n := 49) hX rfl dX8_set_47 rfl ?_
    exact gi_iret hX rfl dX8_set_49 h
  · refine gi_iload_n (n := 37) hX 3 dX8_set_36 rfl rfl rfl ?_
    refine gi_i2l (n := 38) hX dX8_set_37 rfl ?_
    refine gi_lconst (x := (0 : Int64)) (n := 39) hX rfl dX8_set_38 rfl ?_
    refine gi_iload_n (n := 40) hX 0 dX8_set_39 rfl rfl rfl ?_
    refine gi_i2l (n := 41) hX dX8_set_40 rfl ?_
    obtain ⟨r6, v4, e5, h⟩ := bi_some h
    refine gi_statI (st := []) (n := 44) hX hR ms_X8_in ml_X8_76 (m_X8_in Γ.2.1 Ω ((x2).toInt64) (0 : Int64) ((s0).toInt64) v1 e5) rfl ⟨rfl, rfl⟩ rfl dX8_set_41 rfl rfl ?_
    refine gi_if_ne (tgt := 50) (n := 47) hX dX8_set_44 rfl rfl h (fun h => ?_) (fun h => ?_)
    · refine gi_aload_n (n := 51) hX 1 dX8_set_50 rfl rfl rfl ?_
      refine gi_getR (n := 54) hX 12 kc_X8 ly_X8 rfl rfl fl_X8_37 dX8_set_51 rfl ?_
      refine gi_iload_n (n := 55) hX 2 dX8_set_54 rfl rfl rfl ?_
      refine gi_iald (n := 56) hX lm_10 dX8_set_55 rfl h (fun h => ?_)
      refine gi_topI h (fun u7 h => ?_)
      refine gi_istore (n := 58) hX [(4, .int u7), (3, .int s0), (0, .ref (Ω.1 0)), (1, .int x1), (2, .int x2)] dX8_set_56 rfl rfl rfl ?_
      refine gi_aload_n (n := 59) hX 2 dX8_set_58 rfl rfl rfl ?_
      refine gi_getR (n := 62) hX 12 kc_X8 ly_X8 rfl rfl fl_X8_37 dX8_set_59 rfl ?_
      refine gi_iload_n (n := 63) hX 3 dX8_set_62 rfl rfl rfl ?_
      refine gi_iload_n (n := 64) hX 4 dX8_set_63 rfl rfl rfl ?_
      refine gi_iast (n := 65) hX lm_10 dX8_set_64 rfl h (fun v8 h => ?_)
      refine gi_iload (n := 67) hX 0 dX8_set_65 rfl rfl ?_
      exact gi_iret hX rfl dX8_set_67 h
    · refine gi_bipush (x := (-2 : Int32)) (n := 49) hX rfl dX8_set_47 rfl ?_
      exact gi_iret hX rfl dX8_set_49 h
set_option maxRecDepth 20000 in
theorem t_X8_set {Γ : gC} {Ω : gO} {r0 : Int32} {v0 : gV} (hX : gx_X Γ Ω cX8_set RX8 5 (some .int)) (hR : Γ.2.2.2.1 = gx_R 1) (x1 : Int32) (x2 : Int32) (v : gV) (h : f_X8_set x1 x2 v = some (r0, v0)) : gx_G Γ Ω LM (gx_Q Γ Ω LM (some (.int r0)) v0) 5 v 0 [(0, .ref (Ω.1 0)), (1, .int x1), (2, .int x2)] [] := by
  rw [f_X8_set] at h
  refine gi_iload_n (n := 1) hX 1 dX8_set_0 rfl rfl rfl ?_
  refine gi_if_ne (tgt := 9) (n := 4) hX dX8_set_1 rfl rfl h (fun h => ?_) (fun h => ?_)
  · refine gi_iload_n (n := 10) hX 1 dX8_set_9 rfl rfl rfl ?_
    refine gi_iconst (x := (1 : Int32)) (n := 11) hX rfl dX8_set_10 rfl ?_
    refine gi_icmp_ne (tgt := 20) (n := 14) hX dX8_set_11 rfl rfl h (fun h => ?_) (fun h => ?_)
    · refine gi_sipush (x := (255 : Int32)) (n := 23) hX rfl dX8_set_20 rfl ?_
      exact t_X8_set_J23 hX hR x1 x2 (255 : Int32) v h
    · refine gi_sipush (x := (1023 : Int32)) (n := 17) hX rfl dX8_set_14 rfl ?_
      refine gi_goto (n := 23) hX dX8_set_17 rfl ?_
      exact t_X8_set_J23 hX hR x1 x2 (1023 : Int32) v h
  · refine gi_bipush (x := (9 : Int32)) (n := 6) hX rfl dX8_set_4 rfl ?_
    refine gi_goto (n := 23) hX dX8_set_6 rfl ?_
    exact t_X8_set_J23 hX hR x1 x2 (9 : Int32) v h
theorem m_X8_set (l : Launch) (Ω : gO) (x1 : Int32) (x2 : Int32) (v : gV) {r0 : Int32} {v0 : gV} (h : f_X8_set x1 x2 v = some (r0, v0)) : gx_M l Ω LM yX8_set cX8_set 5 (some .int) 1 [.ref (Ω.1 0), .int x1, .int x2] v (some (.int r0)) v0 := gx_start (lv := [(0, .ref (Ω.1 0)), (1, .int x1), (2, .int x2)]) (by decide +kernel) (Nat.le_of_ble_eq_true rfl) rfl (fun Γ _ hR hX => t_X8_set hX hR x1 x2 v h)
set_option maxRecDepth 20000 in
theorem t_X8_sheet_B55 {Γ : gC} {Ω : gO} {r0 : Int32} {v0 : gV} {o : (gV × Int32) ⊕ (gV)} (hX : gx_X Γ Ω cX8_sheet RX8 5 (some .int)) (hR : Γ.2.2.2.1 = gx_R 2) (x1 : Int32) (x3 : Int32) (x4 : Int32) (v : gV) (h : f_X8_sheet_B55 x1 x3 x4 v = some o) (hc : ∀ c0 c1, o = .inl (c0, c1) → gx_G Γ Ω LM (gx_Q Γ Ω LM (some (.int r0)) v0) 5 c0 55 [(0, .ref (Ω.1 0)), (1, .int x1), (3, .int x3), (4, .int c1)] []) (hz : ∀ z0, o = .inr z0 → gx_G Γ Ω LM (gx_Q Γ Ω LM (some (.int r0)) v0) 5 z0 80 [(3, .int x3)] []) : gx_G Γ Ω LM (gx_Q Γ Ω LM (some (.int r0)) v0) 5 v 55 [(0, .ref (Ω.1 0)), (1, .int x1), (3, .int x3), (4, .int x4)] [] := by
  rw [f_X8_sheet_B55] at h
  refine gi_iload (n := 57) hX 3 dX8_sheet_55 rfl rfl ?_
  refine gi_iload_n (n := 58) hX 2 dX8_sheet_57 rfl rfl rfl ?_
  refine gi_icmp_ge (tgt := 80) (n := 61) hX dX8_sheet_58 rfl rfl h (fun h => ?_) (fun h => ?_)
  · refine gi_sub [2] rfl ?_
    exact hz _ (Option.some.inj h).symm
  · refine gi_aload_n (n := 62) hX 0 dX8_sheet_61 rfl rfl rfl ?_
    refine gi_getR (n := 65) hX 2 kc_X8 ly_X8 rfl rfl fl_X8_16 dX8_sheet_62 rfl ?_
    refine gi_bipush (x := (60 : Int32)) (n := 67) hX rfl dX8_sheet_65 rfl ?_
    refine gi_iload_n (n := 68) hX 1 dX8_sheet_67 rfl rfl rfl ?_
    refine gi_imul (n := 69) hX dX8_sheet_68 rfl ?_
    refine gi_iload (n := 71) hX 3 dX8_sheet_69 rfl rfl ?_
    refine gi_iadd (n := 72) hX dX8_sheet_71 rfl ?_
    refine gi_iconst (x := (0 : Int32)) (n := 73) hX rfl dX8_sheet_72 rfl ?_
    refine gi_iast (n := 74) hX lm_3 dX8_sheet_73 rfl h (fun v1 h => ?_)
    refine gi_iinc (z := (1 : Int32)) (n := 77) hX 3 [(4, .int (x4 + (1 : Int32))), (0, .ref (Ω.1 0)), (1, .int x1), (3, .int x3)] dX8_sheet_74 rfl rfl rfl rfl rfl rfl ?_
    refine gi_goto (n := 55) hX dX8_sheet_77 rfl ?_
    refine gi_sub [1, 2, 3, 0] rfl ?_
    exact hc _ _ (Option.some.inj h).symm
set_option maxRecDepth 20000 in
theorem t_X8_sheet {Γ : gC} {Ω : gO} {r0 : Int32} {v0 : gV} (hX : gx_X Γ Ω cX8_sheet RX8 5 (some .int)) (hR : Γ.2.2.2.1 = gx_R 2) (x1 : Int32) (x2 : Int32) (x3 : Int32) (v : gV) (h : f_X8_sheet x1 x2 x3 v = some (r0, v0)) : gx_G Γ Ω LM (gx_Q Γ Ω LM (some (.int r0)) v0) 5 v 0 [(0, .ref (Ω.1 0)), (1, .int x1), (2, .int x2), (3, .int x3)] [] := by
  rw [f_X8_sheet] at h
  refine gi_iload_n (n := 1) hX 1 dX8_sheet_0 rfl rfl rfl ?_
  obtain ⟨r3, v1, e2, h⟩ := bi_some h
  refine gi_statI (st := []) (n := 4) hX hR ms_X8_isSheet ml_X8_85 (m_X8_isSheet Γ.2.1 Ω x1 v e2) rfl ⟨rfl, rfl⟩ rfl dX8_sheet_1 rfl rfl ?_
  refine gi_if_eq (tgt := 25) (n := 7) hX dX8_sheet_4 rfl rfl h (fun h => ?_) (fun h => ?_)
  · refine gi_bipush (x := (-2 : Int32)) (n := 27) hX rfl dX8_sheet_25 rfl ?_
    exact gi_iret hX rfl dX8_sheet_27 h
  · refine gi_iload_n (n := 8) hX 2 dX8_sheet_7 rfl rfl rfl ?_
    refine gi_i2l (n := 9) hX dX8_sheet_8 rfl ?_
    refine gi_lconst (x := (0 : Int64)) (n := 10) hX rfl dX8_sheet_9 rfl ?_
    refine gi_ldc2 (n := 13) hX co_X8_89 dX8_sheet_10 rfl ?_
    obtain ⟨r6, v4, e5, h⟩ := bi_some h
    refine gi_statI (st := []) (n := 16) hX hR ms_X8_in ml_X8_76 (m_X8_in Γ.2.1 Ω ((x2).toInt64) (0 : Int64) (2 : Int64) v1 e5) rfl ⟨rfl, rfl⟩ rfl dX8_sheet_13 rfl rfl ?_
    refine gi_if_eq (tgt := 25) (n := 19) hX dX8_sheet_16 rfl rfl h (fun h => ?_) (fun h => ?_)
    · refine gi_bipush (x := (-2 : Int32)) (n := 27) hX rfl dX8_sheet_25 rfl ?_
      exact gi_iret hX rfl dX8_sheet_27 h
    · refine gi_iload_n (n := 20) hX 3 dX8_sheet_19 rfl rfl rfl ?_
      refine gi_bipush (x := (60 : Int32)) (n := 22) hX rfl dX8_sheet_20 rfl ?_
      refine gi_icmp_le (tgt := 28) (n := 25) hX dX8_sheet_22 rfl rfl h (fun h => ?_) (fun h => ?_)
      · refine gi_iload_n (n := 29) hX 3 dX8_sheet_28 rfl rfl rfl ?_
        refine gi_if_ge (tgt := 38) (n := 32) hX dX8_sheet_29 rfl rfl h (fun h => ?_) (fun h => ?_)
        · refine gi_aload_n (n := 39) hX 0 dX8_sheet_38 rfl rfl rfl ?_
          refine gi_getR (n := 42) hX 0 kc_X8 ly_X8 rfl rfl fl_X8_7 dX8_sheet_39 rfl ?_
          refine gi_iload_n (n := 43) hX 1 dX8_sheet_42 rfl rfl rfl ?_
          refine gi_iload_n (n := 44) hX 2 dX8_sheet_43 rfl rfl rfl ?_
          refine gi_iast (n := 45) hX lm_1 dX8_sheet_44 rfl h (fun v7 h => ?_)
          refine gi_aload_n (n := 46) hX 0 dX8_sheet_45 rfl rfl rfl ?_
          refine gi_getR (n := 49) hX 1 kc_X8 ly_X8 rfl rfl fl_X8_13 dX8_sheet_46 rfl ?_
          refine gi_iload_n (n := 50) hX 1 dX8_sheet_49 rfl rfl rfl ?_
          refine gi_iload_n (n := 51) hX 3 dX8_sheet_50 rfl rfl rfl ?_
          refine gi_iast (n := 52) hX lm_2 dX8_sheet_51 rfl h (fun v8 h => ?_)
          refine gi_iconst (x := (0 : Int32)) (n := 53) hX rfl dX8_sheet_52 rfl ?_
          refine gi_istore (n := 55) hX [(4, .int (0 : Int32)), (0, .ref (Ω.1 0)), (1, .int x1), (2, .int x2), (3, .int x3)] dX8_sheet_53 rfl rfl rfl ?_
          refine gi_sub [1, 2, 4, 0] rfl ?_
          have key := lp_ind (f := (fun a : gV × Int32 => f_X8_sheet_B55 x1 x3 a.2 a.1)) (P := (fun a : gV × Int32 => gx_G Γ Ω LM (gx_Q Γ Ω LM (some (.int r0)) v0) 5 a.1 55 [(0, .ref (Ω.1 0)), (1, .int x1), (3, .int x3), (4, .int a.2)] [])) (Z := (fun z : gV => gx_G Γ Ω LM (gx_Q Γ Ω LM (some (.int r0)) v0) 5 z 80 [(3, .int x3)] [])) (fun a o h hc hz => t_X8_sheet_B55 hX hR x1 x3 a.2 a.1 h (fun c0 c1 e => hc (c0, c1) e) (fun z0 e => hz z0 e)) fu
          obtain ⟨v9, e0, h⟩ := bx1_some h
          refine key (v8, (0 : Int32)) _ e0 ?_
          show gx_G Γ Ω LM (gx_Q Γ Ω LM (some (.int r0)) v0) 5 v9 80 [(3, .int x3)] []
          refine gi_iload_n (n := 81) hX 0 dX8_sheet_80 rfl rfl rfl ?_
          exact gi_iret hX rfl dX8_sheet_81 h
        · refine gi_aload_n (n := 33) hX 0 dX8_sheet_32 rfl rfl rfl ?_
          refine gi_iconst (x := (5 : Int32)) (n := 34) hX rfl dX8_sheet_33 rfl ?_
          obtain ⟨r12, v10, e11, h⟩ := bi_some h
          refine gi_virtI (st := []) (n := 37) hX hR kc_X8 ly_X8 mv_X8_finds ml_X8_91 (m_X8_finds Γ.2.1 Ω (5 : Int32) v4 e11) rfl ⟨rfl, rfl⟩ rfl dX8_sheet_34 rfl rfl ?_
          exact gi_iret hX rfl dX8_sheet_37 h
      · refine gi_bipush (x := (-2 : Int32)) (n := 27) hX rfl dX8_sheet_25 rfl ?_
        exact gi_iret hX rfl dX8_sheet_27 h
theorem m_X8_sheet (l : Launch) (Ω : gO) (x1 : Int32) (x2 : Int32) (x3 : Int32) (v : gV) {r0 : Int32} {v0 : gV} (h : f_X8_sheet x1 x2 x3 v = some (r0, v0)) : gx_M l Ω LM yX8_sheet cX8_sheet 5 (some .int) 2 [.ref (Ω.1 0), .int x1, .int x2, .int x3] v (some (.int r0)) v0 := gx_start (lv := [(0, .ref (Ω.1 0)), (1, .int x1), (2, .int x2), (3, .int x3)]) (by decide +kernel) (Nat.le_of_ble_eq_true rfl) rfl (fun Γ _ hR hX => t_X8_sheet hX hR x1 x2 x3 v h)
set_option maxRecDepth 20000 in
theorem t_X8_still {Γ : gC} {Ω : gO} {r0 : Int32} {v0 : gV} (hX : gx_X Γ Ω cX8_still RX8 1 (some .int)) (hR : Γ.2.2.2.1 = gx_R 7)  (v : gV) (h : f_X8_still  v = some (r0, v0)) : gx_G Γ Ω LM (gx_Q Γ Ω LM (some (.int r0)) v0) 1 v 0 [(0, .ref (Ω.1 0))] [] := by
  rw [f_X8_still] at h
  refine gi_aload_n (n := 1) hX 0 dX8_still_0 rfl rfl rfl ?_
  obtain ⟨v1, e2, h⟩ := bv_some h
  refine gi_virtV (st := []) (n := 4) hX hR kc_X8 ly_X8 mv_X8_reads ml_X8_198 (m_X8_reads Γ.2.1 Ω v e2) rfl ⟨rfl, rfl⟩ rfl dX8_still_1 rfl rfl ?_
  refine gi_aload_n (n := 5) hX 0 dX8_still_4 rfl rfl rfl ?_
  refine gi_getI (n := 8) hX 25 kc_X8 ly_X8 rfl rfl fl_X8_183 dX8_still_5 rfl ?_
  exact gi_iret hX rfl dX8_still_8 h
theorem m_X8_still (l : Launch) (Ω : gO) (v : gV) {r0 : Int32} {v0 : gV} (h : f_X8_still v = some (r0, v0)) : gx_M l Ω LM yX8_still cX8_still 1 (some .int) 7 [.ref (Ω.1 0)] v (some (.int r0)) v0 := gx_start (lv := [(0, .ref (Ω.1 0))]) (by decide +kernel) (Nat.le_of_ble_eq_true rfl) rfl (fun Γ _ hR hX => t_X8_still hX hR v h)
set_option maxRecDepth 20000 in
theorem t_X8_top {Γ : gC} {Ω : gO} {r0 : Int32} {v0 : gV} (hX : gx_X Γ Ω cX8_top RX8 2 (some .int)) (hR : Γ.2.2.2.1 = gx_R 7) (x1 : Int32) (v : gV) (h : f_X8_top x1 v = some (r0, v0)) : gx_G Γ Ω LM (gx_Q Γ Ω LM (some (.int r0)) v0) 2 v 0 [(0, .ref (Ω.1 0)), (1, .int x1)] [] := by
  rw [f_X8_top] at h
  refine gi_aload_n (n := 1) hX 0 dX8_top_0 rfl rfl rfl ?_
  obtain ⟨v1, e2, h⟩ := bv_some h
  refine gi_virtV (st := []) (n := 4) hX hR kc_X8 ly_X8 mv_X8_reads ml_X8_198 (m_X8_reads Γ.2.1 Ω v e2) rfl ⟨rfl, rfl⟩ rfl dX8_top_1 rfl rfl ?_
  refine gi_iload_n (n := 5) hX 1 dX8_top_4 rfl rfl rfl ?_
  obtain ⟨r5, v3, e4, h⟩ := bi_some h
  refine gi_statI (st := []) (n := 8) hX hR ms_X8_isTwo ml_X8_104 (m_X8_isTwo Γ.2.1 Ω x1 v1 e4) rfl ⟨rfl, rfl⟩ rfl dX8_top_5 rfl rfl ?_
  refine gi_if_eq (tgt := 19) (n := 11) hX dX8_top_8 rfl rfl h (fun h => ?_) (fun h => ?_)
  · refine gi_bipush (x := (-2 : Int32)) (n := 21) hX rfl dX8_top_19 rfl ?_
    exact gi_iret hX rfl dX8_top_21 h
  · refine gi_aload_n (n := 12) hX 0 dX8_top_11 rfl rfl rfl ?_
    refine gi_iload_n (n := 13) hX 1 dX8_top_12 rfl rfl rfl ?_
    obtain ⟨r8, v6, e7, h⟩ := bi_some h
    refine gi_virtI (st := []) (n := 16) hX hR kc_X8 ly_X8 mv_X8_topOf ml_X8_242 (m_X8_topOf Γ.2.1 Ω x1 v3 e7) rfl ⟨rfl, rfl⟩ rfl dX8_top_13 rfl rfl ?_
    refine gi_goto (n := 21) hX dX8_top_16 rfl ?_
    exact gi_iret hX rfl dX8_top_21 h
theorem m_X8_top (l : Launch) (Ω : gO) (x1 : Int32) (v : gV) {r0 : Int32} {v0 : gV} (h : f_X8_top x1 v = some (r0, v0)) : gx_M l Ω LM yX8_top cX8_top 2 (some .int) 7 [.ref (Ω.1 0), .int x1] v (some (.int r0)) v0 := gx_start (lv := [(0, .ref (Ω.1 0)), (1, .int x1)]) (by decide +kernel) (Nat.le_of_ble_eq_true rfl) rfl (fun Γ _ hR hX => t_X8_top hX hR x1 v h)
set_option maxRecDepth 20000 in
theorem t_X8_torn {Γ : gC} {Ω : gO} {r0 : Int32} {v0 : gV} (hX : gx_X Γ Ω cX8_torn RX8 3 (some .int)) (hR : Γ.2.2.2.1 = gx_R 7) (x1 : Int32) (x2 : Int32) (v : gV) (h : f_X8_torn x1 x2 v = some (r0, v0)) : gx_G Γ Ω LM (gx_Q Γ Ω LM (some (.int r0)) v0) 3 v 0 [(0, .ref (Ω.1 0)), (1, .int x1), (2, .int x2)] [] := by
  rw [f_X8_torn] at h
  refine gi_aload_n (n := 1) hX 0 dX8_torn_0 rfl rfl rfl ?_
  obtain ⟨v1, e2, h⟩ := bv_some h
  refine gi_virtV (st := []) (n := 4) hX hR kc_X8 ly_X8 mv_X8_reads ml_X8_198 (m_X8_reads Γ.2.1 Ω v e2) rfl ⟨rfl, rfl⟩ rfl dX8_torn_1 rfl rfl ?_
  refine gi_iload_n (n := 5) hX 1 dX8_torn_4 rfl rfl rfl ?_
  obtain ⟨r5, v3, e4, h⟩ := bi_some h
  refine gi_statI (st := []) (n := 8) hX hR ms_X8_isDay ml_X8_201 (m_X8_isDay Γ.2.1 Ω x1 v1 e4) rfl ⟨rfl, rfl⟩ rfl dX8_torn_5 rfl rfl ?_
  refine gi_if_eq (tgt := 33) (n := 11) hX dX8_torn_8 rfl rfl h (fun h => ?_) (fun h => ?_)
  · refine gi_bipush (x := (-2 : Int32)) (n := 35) hX rfl dX8_torn_33 rfl ?_
    exact gi_iret hX rfl dX8_torn_35 h
  · refine gi_aload_n (n := 12) hX 0 dX8_torn_11 rfl rfl rfl ?_
    refine gi_iload_n (n := 13) hX 2 dX8_torn_12 rfl rfl rfl ?_
    obtain ⟨r8, v6, e7, h⟩ := bi_some h
    refine gi_virtI (st := []) (n := 16) hX hR kc_X8 ly_X8 mv_X8_isRider ml_X8_142 (m_X8_isRider Γ.2.1 Ω x2 v3 e7) rfl ⟨rfl, rfl⟩ rfl dX8_torn_13 rfl rfl ?_
    refine gi_if_eq (tgt := 33) (n := 19) hX dX8_torn_16 rfl rfl h (fun h => ?_) (fun h => ?_)
    · refine gi_bipush (x := (-2 : Int32)) (n := 35) hX rfl dX8_torn_33 rfl ?_
      exact gi_iret hX rfl dX8_torn_35 h
    · refine gi_aload_n (n := 20) hX 0 dX8_torn_19 rfl rfl rfl ?_
      refine gi_getR (n := 23) hX 20 kc_X8 ly_X8 rfl rfl fl_X8_52 dX8_torn_20 rfl ?_
      refine gi_bipush (x := (8 : Int32)) (n := 25) hX rfl dX8_torn_23 rfl ?_
      refine gi_iload_n (n := 26) hX 1 dX8_torn_25 rfl rfl rfl ?_
      refine gi_imul (n := 27) hX dX8_torn_26 rfl ?_
      refine gi_iload_n (n := 28) hX 2 dX8_torn_27 rfl rfl rfl ?_
      refine gi_iadd (n := 29) hX dX8_torn_28 rfl ?_
      refine gi_iald (n := 30) hX lm_15 dX8_torn_29 rfl h (fun h => ?_)
      refine gi_goto (n := 35) hX dX8_torn_30 rfl ?_
      exact gi_iret hX rfl dX8_torn_35 h
theorem m_X8_torn (l : Launch) (Ω : gO) (x1 : Int32) (x2 : Int32) (v : gV) {r0 : Int32} {v0 : gV} (h : f_X8_torn x1 x2 v = some (r0, v0)) : gx_M l Ω LM yX8_torn cX8_torn 3 (some .int) 7 [.ref (Ω.1 0), .int x1, .int x2] v (some (.int r0)) v0 := gx_start (lv := [(0, .ref (Ω.1 0)), (1, .int x1), (2, .int x2)]) (by decide +kernel) (Nat.le_of_ble_eq_true rfl) rfl (fun Γ _ hR hX => t_X8_torn hX hR x1 x2 v h)
set_option maxRecDepth 20000 in
theorem t_X8_type_J39 {Γ : gC} {Ω : gO} {r0 : Int32} {v0 : gV} (hX : gx_X Γ Ω cX8_type RX8 3 (some .int)) (hR : Γ.2.2.2.1 = gx_R 2) (x1 : Int32) (x2 : Int32) (s0 : Int32) (s1 : Int32) (v : gV) (h : f_X8_type_J39 x1 x2 s0 s1 v = some (r0, v0)) : gx_G Γ Ω LM (gx_Q Γ Ω LM (some (.int r0)) v0) 3 v 39 [(0, .ref (Ω.1 0)), (1, .int x1), (2, .int x2)] [.int s0, .int s1] := by
  rw [f_X8_type_J39] at h
  refine gi_icmp_ne (tgt := 45) (n := 42) hX dX8_type_39 rfl rfl h (fun h => ?_) (fun h => ?_)
  · refine gi_aload_n (n := 46) hX 0 dX8_type_45 rfl rfl rfl ?_
    refine gi_getR (n := 49) hX 5 kc_X8 ly_X8 rfl rfl fl_X8_22 dX8_type_46 rfl ?_
    refine gi_bipush (x := (40 : Int32)) (n := 51) hX rfl dX8_type_49 rfl ?_
    refine gi_iload_n (n := 52) hX 1 dX8_type_51 rfl rfl rfl ?_
    refine gi_imul (n := 53) hX dX8_type_52 rfl ?_
    refine gi_aload_n (n := 54) hX 0 dX8_type_53 rfl rfl rfl ?_
    refine gi_getR (n := 57) hX 6 kc_X8 ly_X8 rfl rfl fl_X8_25 dX8_type_54 rfl ?_
    refine gi_iload_n (n := 58) hX 1 dX8_type_57 rfl rfl rfl ?_
    refine gi_iald (n := 59) hX lm_6 dX8_type_58 rfl h (fun h => ?_)
    refine gi_iadd (n := 60) hX dX8_type_59 rfl ?_
    refine gi_iload_n (n := 61) hX 2 dX8_type_60 rfl rfl rfl ?_
    refine gi_iast (n := 62) hX lm_5 dX8_type_61 rfl h (fun v1 h => ?_)
    refine gi_aload_n (n := 63) hX 0 dX8_type_62 rfl rfl rfl ?_
    refine gi_getR (n := 66) hX 6 kc_X8 ly_X8 rfl rfl fl_X8_25 dX8_type_63 rfl ?_
    refine gi_iload_n (n := 67) hX 1 dX8_type_66 rfl rfl rfl ?_
    refine gi_dup2 (n := 68) hX rfl rfl dX8_type_67 rfl ?_
    refine gi_iald (n := 69) hX lm_6 dX8_type_68 rfl h (fun h => ?_)
    refine gi_iconst (x := (1 : Int32)) (n := 70) hX rfl dX8_type_69 rfl ?_
    refine gi_iadd (n := 71) hX dX8_type_70 rfl ?_
    refine gi_iast (n := 72) hX lm_6 dX8_type_71 rfl h (fun v2 h => ?_)
    refine gi_aload_n (n := 73) hX 0 dX8_type_72 rfl rfl rfl ?_
    refine gi_getR (n := 76) hX 6 kc_X8 ly_X8 rfl rfl fl_X8_25 dX8_type_73 rfl ?_
    refine gi_iload_n (n := 77) hX 1 dX8_type_76 rfl rfl rfl ?_
    refine gi_iald (n := 78) hX lm_6 dX8_type_77 rfl h (fun h => ?_)
    exact gi_iret hX rfl dX8_type_78 h
  · refine gi_bipush (x := (-4 : Int32)) (n := 44) hX rfl dX8_type_42 rfl ?_
    exact gi_iret hX rfl dX8_type_44 h
set_option maxRecDepth 20000 in
theorem t_X8_type {Γ : gC} {Ω : gO} {r0 : Int32} {v0 : gV} (hX : gx_X Γ Ω cX8_type RX8 3 (some .int)) (hR : Γ.2.2.2.1 = gx_R 2) (x1 : Int32) (x2 : Int32) (v : gV) (h : f_X8_type x1 x2 v = some (r0, v0)) : gx_G Γ Ω LM (gx_Q Γ Ω LM (some (.int r0)) v0) 3 v 0 [(0, .ref (Ω.1 0)), (1, .int x1), (2, .int x2)] [] := by
  rw [f_X8_type] at h
  refine gi_iload_n (n := 1) hX 1 dX8_type_0 rfl rfl rfl ?_
  obtain ⟨r3, v1, e2, h⟩ := bi_some h
  refine gi_statI (st := []) (n := 4) hX hR ms_X8_isTwo ml_X8_104 (m_X8_isTwo Γ.2.1 Ω x1 v e2) rfl ⟨rfl, rfl⟩ rfl dX8_type_1 rfl rfl ?_
  refine gi_if_eq (tgt := 19) (n := 7) hX dX8_type_4 rfl rfl h (fun h => ?_) (fun h => ?_)
  · refine gi_bipush (x := (-2 : Int32)) (n := 21) hX rfl dX8_type_19 rfl ?_
    exact gi_iret hX rfl dX8_type_21 h
  · refine gi_iload_n (n := 8) hX 2 dX8_type_7 rfl rfl rfl ?_
    refine gi_i2l (n := 9) hX dX8_type_8 rfl ?_
    refine gi_lconst (x := (0 : Int64)) (n := 10) hX rfl dX8_type_9 rfl ?_
    refine gi_ldc2 (n := 13) hX co_X8_107 dX8_type_10 rfl ?_
    obtain ⟨r6, v4, e5, h⟩ := bi_some h
    refine gi_statI (st := []) (n := 16) hX hR ms_X8_in ml_X8_76 (m_X8_in Γ.2.1 Ω ((x2).toInt64) (0 : Int64) (255 : Int64) v1 e5) rfl ⟨rfl, rfl⟩ rfl dX8_type_13 rfl rfl ?_
    refine gi_if_ne (tgt := 22) (n := 19) hX dX8_type_16 rfl rfl h (fun h => ?_) (fun h => ?_)
    · refine gi_aload_n (n := 23) hX 0 dX8_type_22 rfl rfl rfl ?_
      refine gi_getR (n := 26) hX 6 kc_X8 ly_X8 rfl rfl fl_X8_25 dX8_type_23 rfl ?_
      refine gi_iload_n (n := 27) hX 1 dX8_type_26 rfl rfl rfl ?_
      refine gi_iald (n := 28) hX lm_6 dX8_type_27 rfl h (fun h => ?_)
      refine gi_iload_n (n := 29) hX 1 dX8_type_28 rfl rfl rfl ?_
      refine gi_if_ne (tgt := 37) (n := 32) hX dX8_type_29 rfl rfl h (fun h => ?_) (fun h => ?_)
      · refine gi_bipush (x := (16 : Int32)) (n := 39) hX rfl dX8_type_37 rfl ?_
        exact t_X8_type_J39 hX hR x1 x2 (16 : Int32) (v4.1 6 (x1).toNatClampNeg) v4 h
      · refine gi_bipush (x := (39 : Int32)) (n := 34) hX rfl dX8_type_32 rfl ?_
        refine gi_goto (n := 39) hX dX8_type_34 rfl ?_
        exact t_X8_type_J39 hX hR x1 x2 (39 : Int32) (v4.1 6 (x1).toNatClampNeg) v4 h
    · refine gi_bipush (x := (-2 : Int32)) (n := 21) hX rfl dX8_type_19 rfl ?_
      exact gi_iret hX rfl dX8_type_21 h
theorem m_X8_type (l : Launch) (Ω : gO) (x1 : Int32) (x2 : Int32) (v : gV) {r0 : Int32} {v0 : gV} (h : f_X8_type x1 x2 v = some (r0, v0)) : gx_M l Ω LM yX8_type cX8_type 3 (some .int) 2 [.ref (Ω.1 0), .int x1, .int x2] v (some (.int r0)) v0 := gx_start (lv := [(0, .ref (Ω.1 0)), (1, .int x1), (2, .int x2)]) (by decide +kernel) (Nat.le_of_ble_eq_true rfl) rfl (fun Γ _ hR hX => t_X8_type hX hR x1 x2 v h)
set_option maxRecDepth 20000 in
theorem t_X8_undo {Γ : gC} {Ω : gO} {r0 : Int32} {v0 : gV} (hX : gx_X Γ Ω cX8_undo RX8 2 (some .int)) (hR : Γ.2.2.2.1 = gx_R 2) (x1 : Int32) (v : gV) (h : f_X8_undo x1 v = some (r0, v0)) : gx_G Γ Ω LM (gx_Q Γ Ω LM (some (.int r0)) v0) 2 v 0 [(0, .ref (Ω.1 0)), (1, .int x1)] [] := by
  rw [f_X8_undo] at h
  refine gi_iload_n (n := 1) hX 1 dX8_undo_0 rfl rfl rfl ?_
  obtain ⟨r3, v1, e2, h⟩ := bi_some h
  refine gi_statI (st := []) (n := 4) hX hR ms_X8_isTwo ml_X8_104 (m_X8_isTwo Γ.2.1 Ω x1 v e2) rfl ⟨rfl, rfl⟩ rfl dX8_undo_1 rfl rfl ?_
  refine gi_if_ne (tgt := 10) (n := 7) hX dX8_undo_4 rfl rfl h (fun h => ?_) (fun h => ?_)
  · refine gi_aload_n (n := 11) hX 0 dX8_undo_10 rfl rfl rfl ?_
    refine gi_getR (n := 14) hX 6 kc_X8 ly_X8 rfl rfl fl_X8_25 dX8_undo_11 rfl ?_
    refine gi_iload_n (n := 15) hX 1 dX8_undo_14 rfl rfl rfl ?_
    refine gi_iald (n := 16) hX lm_6 dX8_undo_15 rfl h (fun h => ?_)
    refine gi_if_ne (tgt := 22) (n := 19) hX dX8_undo_16 rfl rfl h (fun h => ?_) (fun h => ?_)
    · refine gi_aload_n (n := 23) hX 0 dX8_undo_22 rfl rfl rfl ?_
      refine gi_getR (n := 26) hX 6 kc_X8 ly_X8 rfl rfl fl_X8_25 dX8_undo_23 rfl ?_
      refine gi_iload_n (n := 27) hX 1 dX8_undo_26 rfl rfl rfl ?_
      refine gi_dup2 (n := 28) hX rfl rfl dX8_undo_27 rfl ?_
      refine gi_iald (n := 29) hX lm_6 dX8_undo_28 rfl h (fun h => ?_)
      refine gi_iconst (x := (1 : Int32)) (n := 30) hX rfl dX8_undo_29 rfl ?_
      refine gi_isub (n := 31) hX dX8_undo_30 rfl ?_
      refine gi_iast (n := 32) hX lm_6 dX8_undo_31 rfl h (fun v4 h => ?_)
      refine gi_aload_n (n := 33) hX 0 dX8_undo_32 rfl rfl rfl ?_
      refine gi_getR (n := 36) hX 6 kc_X8 ly_X8 rfl rfl fl_X8_25 dX8_undo_33 rfl ?_
      refine gi_iload_n (n := 37) hX 1 dX8_undo_36 rfl rfl rfl ?_
      refine gi_iald (n := 38) hX lm_6 dX8_undo_37 rfl h (fun h => ?_)
      exact gi_iret hX rfl dX8_undo_38 h
    · refine gi_bipush (x := (-3 : Int32)) (n := 21) hX rfl dX8_undo_19 rfl ?_
      exact gi_iret hX rfl dX8_undo_21 h
  · refine gi_bipush (x := (-2 : Int32)) (n := 9) hX rfl dX8_undo_7 rfl ?_
    exact gi_iret hX rfl dX8_undo_9 h
theorem m_X8_undo (l : Launch) (Ω : gO) (x1 : Int32) (v : gV) {r0 : Int32} {v0 : gV} (h : f_X8_undo x1 v = some (r0, v0)) : gx_M l Ω LM yX8_undo cX8_undo 2 (some .int) 2 [.ref (Ω.1 0), .int x1] v (some (.int r0)) v0 := gx_start (lv := [(0, .ref (Ω.1 0)), (1, .int x1)]) (by decide +kernel) (Nat.le_of_ble_eq_true rfl) rfl (fun Γ _ hR hX => t_X8_undo hX hR x1 v h)
set_option maxRecDepth 20000 in
theorem t_X8_was {Γ : gC} {Ω : gO} {r0 : Int32} {v0 : gV} (hX : gx_X Γ Ω cX8_was RX8 1 (some .int)) (hR : Γ.2.2.2.1 = gx_R 8)  (v : gV) (h : f_X8_was  v = some (r0, v0)) : gx_G Γ Ω LM (gx_Q Γ Ω LM (some (.int r0)) v0) 1 v 0 [(0, .ref (Ω.1 0))] [] := by
  rw [f_X8_was] at h
  refine gi_aload_n (n := 1) hX 0 dX8_was_0 rfl rfl rfl ?_
  obtain ⟨v1, e2, h⟩ := bv_some h
  refine gi_virtV (st := []) (n := 4) hX hR kc_X8 ly_X8 mv_X8_reads ml_X8_198 (m_X8_reads Γ.2.1 Ω v e2) rfl ⟨rfl, rfl⟩ rfl dX8_was_1 rfl rfl ?_
  refine gi_aload_n (n := 5) hX 0 dX8_was_4 rfl rfl rfl ?_
  obtain ⟨r5, v3, e4, h⟩ := bi_some h
  refine gi_virtI (st := []) (n := 8) hX hR kc_X8 ly_X8 mv_X8_wasNow ml_X8_260 (m_X8_wasNow Γ.2.1 Ω v1 e4) rfl ⟨rfl, rfl⟩ rfl dX8_was_5 rfl rfl ?_
  exact gi_iret hX rfl dX8_was_8 h
theorem m_X8_was (l : Launch) (Ω : gO) (v : gV) {r0 : Int32} {v0 : gV} (h : f_X8_was v = some (r0, v0)) : gx_M l Ω LM yX8_was cX8_was 1 (some .int) 8 [.ref (Ω.1 0)] v (some (.int r0)) v0 := gx_start (lv := [(0, .ref (Ω.1 0))]) (by decide +kernel) (Nat.le_of_ble_eq_true rfl) rfl (fun Γ _ hR hX => t_X8_was hX hR v h)
set_option maxRecDepth 20000 in
theorem t_X8_wipe {Γ : gC} {Ω : gO} {r0 : Int32} {v0 : gV} (hX : gx_X Γ Ω cX8_wipe RX8 3 (some .int)) (hR : Γ.2.2.2.1 = gx_R 2) (x1 : Int32) (v : gV) (h : f_X8_wipe x1 v = some (r0, v0)) : gx_G Γ Ω LM (gx_Q Γ Ω LM (some (.int r0)) v0) 3 v 0 [(0, .ref (Ω.1 0)), (1, .int x1)] [] := by
  rw [f_X8_wipe] at h
  refine gi_iload_n (n := 1) hX 1 dX8_wipe_0 rfl rfl rfl ?_
  obtain ⟨r3, v1, e2, h⟩ := bi_some h
  refine gi_statI (st := []) (n := 4) hX hR ms_X8_isTwo ml_X8_104 (m_X8_isTwo Γ.2.1 Ω x1 v e2) rfl ⟨rfl, rfl⟩ rfl dX8_wipe_1 rfl rfl ?_
  refine gi_if_ne (tgt := 10) (n := 7) hX dX8_wipe_4 rfl rfl h (fun h => ?_) (fun h => ?_)
  · refine gi_aload_n (n := 11) hX 0 dX8_wipe_10 rfl rfl rfl ?_
    refine gi_getR (n := 14) hX 6 kc_X8 ly_X8 rfl rfl fl_X8_25 dX8_wipe_11 rfl ?_
    refine gi_iload_n (n := 15) hX 1 dX8_wipe_14 rfl rfl rfl ?_
    refine gi_iald (n := 16) hX lm_6 dX8_wipe_15 rfl h (fun h => ?_)
    refine gi_topI h (fun u4 h => ?_)
    refine gi_istore_n (n := 17) hX [(2, .int u4), (0, .ref (Ω.1 0)), (1, .int x1)] dX8_wipe_16 rfl rfl rfl rfl ?_
    refine gi_aload_n (n := 18) hX 1 dX8_wipe_17 rfl rfl rfl ?_
    refine gi_getR (n := 21) hX 6 kc_X8 ly_X8 rfl rfl fl_X8_25 dX8_wipe_18 rfl ?_
    refine gi_iload_n (n := 22) hX 2 dX8_wipe_21 rfl rfl rfl ?_
    refine gi_iconst (x := (0 : Int32)) (n := 23) hX rfl dX8_wipe_22 rfl ?_
    refine gi_iast (n := 24) hX lm_6 dX8_wipe_23 rfl h (fun v5 h => ?_)
    refine gi_iload_n (n := 25) hX 0 dX8_wipe_24 rfl rfl rfl ?_
    exact gi_iret hX rfl dX8_wipe_25 h
  · refine gi_bipush (x := (-2 : Int32)) (n := 9) hX rfl dX8_wipe_7 rfl ?_
    exact gi_iret hX rfl dX8_wipe_9 h
theorem m_X8_wipe (l : Launch) (Ω : gO) (x1 : Int32) (v : gV) {r0 : Int32} {v0 : gV} (h : f_X8_wipe x1 v = some (r0, v0)) : gx_M l Ω LM yX8_wipe cX8_wipe 3 (some .int) 2 [.ref (Ω.1 0), .int x1] v (some (.int r0)) v0 := gx_start (lv := [(0, .ref (Ω.1 0)), (1, .int x1)]) (by decide +kernel) (Nat.le_of_ble_eq_true rfl) rfl (fun Γ _ hR hX => t_X8_wipe hX hR x1 v h)
set_option maxRecDepth 20000 in
theorem t_X8_worth {Γ : gC} {Ω : gO} {r0 : Int32} {v0 : gV} (hX : gx_X Γ Ω cX8_worth RX8 4 (some .int)) (hR : Γ.2.2.2.1 = gx_R 1) (x1 : Int32) (x2 : Int32) (v : gV) (h : f_X8_worth x1 x2 v = some (r0, v0)) : gx_G Γ Ω LM (gx_Q Γ Ω LM (some (.int r0)) v0) 4 v 0 [(0, .ref (Ω.1 0)), (1, .int x1), (2, .int x2)] [] := by
  rw [f_X8_worth] at h
  refine gi_iload_n (n := 1) hX 1 dX8_worth_0 rfl rfl rfl ?_
  refine gi_i2l (n := 2) hX dX8_worth_1 rfl ?_
  refine gi_lconst (x := (0 : Int64)) (n := 3) hX rfl dX8_worth_2 rfl ?_
  refine gi_ldc2 (n := 6) hX co_X8_145 dX8_worth_3 rfl ?_
  obtain ⟨r3, v1, e2, h⟩ := bi_some h
  refine gi_statI (st := []) (n := 9) hX hR ms_X8_in ml_X8_76 (m_X8_in Γ.2.1 Ω ((x1).toInt64) (0 : Int64) (7 : Int64) v e2) rfl ⟨rfl, rfl⟩ rfl dX8_worth_6 rfl rfl ?_
  refine gi_if_eq (tgt := 24) (n := 12) hX dX8_worth_9 rfl rfl h (fun h => ?_) (fun h => ?_)
  · refine gi_bipush (x := (-2 : Int32)) (n := 26) hX rfl dX8_worth_24 rfl ?_
    exact gi_iret hX rfl dX8_worth_26 h
  · refine gi_iload_n (n := 13) hX 2 dX8_worth_12 rfl rfl rfl ?_
    refine gi_i2l (n := 14) hX dX8_worth_13 rfl ?_
    refine gi_lconst (x := (0 : Int64)) (n := 15) hX rfl dX8_worth_14 rfl ?_
    refine gi_ldc2 (n := 18) hX co_X8_140 dX8_worth_15 rfl ?_
    obtain ⟨r6, v4, e5, h⟩ := bi_some h
    refine gi_statI (st := []) (n := 21) hX hR ms_X8_in ml_X8_76 (m_X8_in Γ.2.1 Ω ((x2).toInt64) (0 : Int64) (9 : Int64) v1 e5) rfl ⟨rfl, rfl⟩ rfl dX8_worth_18 rfl rfl ?_
    refine gi_if_ne (tgt := 27) (n := 24) hX dX8_worth_21 rfl rfl h (fun h => ?_) (fun h => ?_)
    · refine gi_aload_n (n := 28) hX 0 dX8_worth_27 rfl rfl rfl ?_
      refine gi_getR (n := 31) hX 11 kc_X8 ly_X8 rfl rfl fl_X8_34 dX8_worth_28 rfl ?_
      refine gi_iload_n (n := 32) hX 1 dX8_worth_31 rfl rfl rfl ?_
      refine gi_iald (n := 33) hX lm_9 dX8_worth_32 rfl h (fun h => ?_)
      refine gi_topI h (fun u7 h => ?_)
      refine gi_istore_n (n := 34) hX [(3, .int u7), (0, .ref (Ω.1 0)), (1, .int x1), (2, .int x2)] dX8_worth_33 rfl rfl rfl rfl ?_
      refine gi_aload_n (n := 35) hX 1 dX8_worth_34 rfl rfl rfl ?_
      refine gi_getR (n := 38) hX 11 kc_X8 ly_X8 rfl rfl fl_X8_34 dX8_worth_35 rfl ?_
      refine gi_iload_n (n := 39) hX 2 dX8_worth_38 rfl rfl rfl ?_
      refine gi_iload_n (n := 40) hX 3 dX8_worth_39 rfl rfl rfl ?_
      refine gi_iast (n := 41) hX lm_9 dX8_worth_40 rfl h (fun v8 h => ?_)
      refine gi_iload_n (n := 42) hX 0 dX8_worth_41 rfl rfl rfl ?_
      exact gi_iret hX rfl dX8_worth_42 h
    · refine gi_bipush (x := (-2 : Int32)) (n := 26) hX rfl dX8_worth_24 rfl ?_
      exact gi_iret hX rfl dX8_worth_26 h
theorem m_X8_worth (l : Launch) (Ω : gO) (x1 : Int32) (x2 : Int32) (v : gV) {r0 : Int32} {v0 : gV} (h : f_X8_worth x1 x2 v = some (r0, v0)) : gx_M l Ω LM yX8_worth cX8_worth 4 (some .int) 1 [.ref (Ω.1 0), .int x1, .int x2] v (some (.int r0)) v0 := gx_start (lv := [(0, .ref (Ω.1 0)), (1, .int x1), (2, .int x2)]) (by decide +kernel) (Nat.le_of_ble_eq_true rfl) rfl (fun Γ _ hR hX => t_X8_worth hX hR x1 x2 v h)
set_option maxRecDepth 20000 in
theorem t_X8_write_B55 {Γ : gC} {Ω : gO} {r0 : Int32} {v0 : gV} {o : (gV × Int32) ⊕ (gV)} (hX : gx_X Γ Ω cX8_write RX8 5 (some .int)) (hR : Γ.2.2.2.1 = gx_R 7) (x1 : Int32) (x2 : Int32) (x3 : Int32) (x4 : Int32) (v : gV) (h : f_X8_write_B55 x1 x2 x3 x4 v = some o) (hc : ∀ c0 c1, o = .inl (c0, c1) → gx_G Γ Ω LM (gx_Q Γ Ω LM (some (.int r0)) v0) 5 c0 55 [(0, .ref (Ω.1 0)), (1, .int x1), (2, .int x2), (3, .int x3), (4, .int c1)] []) (hz : ∀ z0, o = .inr z0 → gx_G Γ Ω LM (gx_Q Γ Ω LM (some (.int r0)) v0) 5 z0 100 [(3, .int x3)] []) : gx_G Γ Ω LM (gx_Q Γ Ω LM (some (.int r0)) v0) 5 v 55 [(0, .ref (Ω.1 0)), (1, .int x1), (2, .int x2), (3, .int x3), (4, .int x4)] [] := by
  rw [f_X8_write_B55] at h
  refine gi_iload (n := 57) hX 4 dX8_write_55 rfl rfl ?_
  refine gi_iload_n (n := 58) hX 3 dX8_write_57 rfl rfl rfl ?_
  refine gi_icmp_ge (tgt := 100) (n := 61) hX dX8_write_58 rfl rfl h (fun h => ?_) (fun h => ?_)
  · refine gi_sub [3] rfl ?_
    exact hz _ (Option.some.inj h).symm
  · refine gi_aload_n (n := 62) hX 0 dX8_write_61 rfl rfl rfl ?_
    refine gi_getR (n := 65) hX 2 kc_X8 ly_X8 rfl rfl fl_X8_16 dX8_write_62 rfl ?_
    refine gi_bipush (x := (60 : Int32)) (n := 67) hX rfl dX8_write_65 rfl ?_
    refine gi_iload_n (n := 68) hX 2 dX8_write_67 rfl rfl rfl ?_
    refine gi_imul (n := 69) hX dX8_write_68 rfl ?_
    refine gi_iload (n := 71) hX 4 dX8_write_69 rfl rfl ?_
    refine gi_iadd (n := 72) hX dX8_write_71 rfl ?_
    refine gi_aload_n (n := 73) hX 0 dX8_write_72 rfl rfl rfl ?_
    refine gi_getR (n := 76) hX 0 kc_X8 ly_X8 rfl rfl fl_X8_7 dX8_write_73 rfl ?_
    refine gi_iload_n (n := 77) hX 2 dX8_write_76 rfl rfl rfl ?_
    refine gi_iald (n := 78) hX lm_1 dX8_write_77 rfl h (fun h => ?_)
    refine gi_aload_n (n := 79) hX 0 dX8_write_78 rfl rfl rfl ?_
    refine gi_getR (n := 82) hX 22 kc_X8 ly_X8 rfl rfl fl_X8_58 dX8_write_79 rfl ?_
    refine gi_bipush (x := (29 : Int32)) (n := 84) hX rfl dX8_write_82 rfl ?_
    refine gi_iload_n (n := 85) hX 1 dX8_write_84 rfl rfl rfl ?_
    refine gi_imul (n := 86) hX dX8_write_85 rfl ?_
    refine gi_iload (n := 88) hX 4 dX8_write_86 rfl rfl ?_
    refine gi_iadd (n := 89) hX dX8_write_88 rfl ?_
    refine gi_iald (n := 90) hX lm_17 dX8_write_89 rfl h (fun h => ?_)
    obtain ⟨r3, v1, e2, h⟩ := bi_some h
    refine gi_statI (st := [.int (((60 : Int32) * x2) + x4), .ref (Ω.1 3)]) (n := 93) hX hR ms_X8_cut ml_X8_99 (m_X8_cut Γ.2.1 Ω (v.1 1 (x2).toNatClampNeg) (v.1 17 ((((29 : Int32) * x1) + x4)).toNatClampNeg) v e2) rfl ⟨rfl, rfl⟩ rfl dX8_write_90 rfl rfl ?_
    refine gi_iast (n := 94) hX lm_3 dX8_write_93 rfl h (fun v4 h => ?_)
    refine gi_iinc (z := (1 : Int32)) (n := 97) hX 4 [(4, .int (x4 + (1 : Int32))), (0, .ref (Ω.1 0)), (1, .int x1), (2, .int x2), (3, .int x3)] dX8_write_94 rfl rfl rfl rfl rfl rfl ?_
    refine gi_goto (n := 55) hX dX8_write_97 rfl ?_
    refine gi_sub [1, 2, 3, 4, 0] rfl ?_
    exact hc _ _ (Option.some.inj h).symm
set_option maxRecDepth 20000 in
theorem t_X8_write {Γ : gC} {Ω : gO} {r0 : Int32} {v0 : gV} (hX : gx_X Γ Ω cX8_write RX8 5 (some .int)) (hR : Γ.2.2.2.1 = gx_R 7) (x1 : Int32) (x2 : Int32) (v : gV) (h : f_X8_write x1 x2 v = some (r0, v0)) : gx_G Γ Ω LM (gx_Q Γ Ω LM (some (.int r0)) v0) 5 v 0 [(0, .ref (Ω.1 0)), (1, .int x1), (2, .int x2)] [] := by
  rw [f_X8_write] at h
  refine gi_iload_n (n := 1) hX 1 dX8_write_0 rfl rfl rfl ?_
  obtain ⟨r3, v1, e2, h⟩ := bi_some h
  refine gi_statI (st := []) (n := 4) hX hR ms_X8_isDay ml_X8_201 (m_X8_isDay Γ.2.1 Ω x1 v e2) rfl ⟨rfl, rfl⟩ rfl dX8_write_1 rfl rfl ?_
  refine gi_if_eq (tgt := 14) (n := 7) hX dX8_write_4 rfl rfl h (fun h => ?_) (fun h => ?_)
  · refine gi_bipush (x := (-2 : Int32)) (n := 16) hX rfl dX8_write_14 rfl ?_
    exact gi_iret hX rfl dX8_write_16 h
  · refine gi_iload_n (n := 8) hX 2 dX8_write_7 rfl rfl rfl ?_
    obtain ⟨r6, v4, e5, h⟩ := bi_some h
    refine gi_statI (st := []) (n := 11) hX hR ms_X8_isSheet ml_X8_85 (m_X8_isSheet Γ.2.1 Ω x2 v1 e5) rfl ⟨rfl, rfl⟩ rfl dX8_write_8 rfl rfl ?_
    refine gi_if_ne (tgt := 17) (n := 14) hX dX8_write_11 rfl rfl h (fun h => ?_) (fun h => ?_)
    · refine gi_aload_n (n := 18) hX 0 dX8_write_17 rfl rfl rfl ?_
      refine gi_getR (n := 21) hX 0 kc_X8 ly_X8 rfl rfl fl_X8_7 dX8_write_18 rfl ?_
      refine gi_iload_n (n := 22) hX 2 dX8_write_21 rfl rfl rfl ?_
      refine gi_iald (n := 23) hX lm_1 dX8_write_22 rfl h (fun h => ?_)
      refine gi_if_ge (tgt := 32) (n := 26) hX dX8_write_23 rfl rfl h (fun h => ?_) (fun h => ?_)
      · refine gi_aload_n (n := 33) hX 0 dX8_write_32 rfl rfl rfl ?_
        obtain ⟨v7, e8, h⟩ := bv_some h
        refine gi_virtV (st := []) (n := 36) hX hR kc_X8 ly_X8 mv_X8_reads ml_X8_198 (m_X8_reads Γ.2.1 Ω v4 e8) rfl ⟨rfl, rfl⟩ rfl dX8_write_33 rfl rfl ?_
        refine gi_aload_n (n := 37) hX 0 dX8_write_36 rfl rfl rfl ?_
        refine gi_getR (n := 40) hX 1 kc_X8 ly_X8 rfl rfl fl_X8_13 dX8_write_37 rfl ?_
        refine gi_iload_n (n := 41) hX 2 dX8_write_40 rfl rfl rfl ?_
        refine gi_iald (n := 42) hX lm_2 dX8_write_41 rfl h (fun h => ?_)
        refine gi_aload_n (n := 43) hX 0 dX8_write_42 rfl rfl rfl ?_
        refine gi_getR (n := 46) hX 21 kc_X8 ly_X8 rfl rfl fl_X8_55 dX8_write_43 rfl ?_
        refine gi_iload_n (n := 47) hX 1 dX8_write_46 rfl rfl rfl ?_
        refine gi_iald (n := 48) hX lm_16 dX8_write_47 rfl h (fun h => ?_)
        obtain ⟨r11, v9, e10, h⟩ := bi_some h
        refine gi_statI (st := []) (n := 51) hX hR ms_X8_lesser ml_X8_290 (m_X8_lesser Γ.2.1 Ω (v7.1 2 (x2).toNatClampNeg) (v7.1 16 (x1).toNatClampNeg) v7 e10) rfl ⟨rfl, rfl⟩ rfl dX8_write_48 rfl rfl ?_
        refine gi_istore_n (n := 52) hX [(3, .int r11), (0, .ref (Ω.1 0)), (1, .int x1), (2, .int x2)] dX8_write_51 rfl rfl rfl rfl ?_
        refine gi_iconst (x := (0 : Int32)) (n := 53) hX rfl dX8_write_52 rfl ?_
        refine gi_istore (n := 55) hX [(4, .int (0 : Int32)), (3, .int r11), (0, .ref (Ω.1 0)), (1, .int x1), (2, .int x2)] dX8_write_53 rfl rfl rfl ?_
        refine gi_sub [2, 3, 4, 1, 0] rfl ?_
        have key := lp_ind (f := (fun a : gV × Int32 => f_X8_write_B55 x1 x2 r11 a.2 a.1)) (P := (fun a : gV × Int32 => gx_G Γ Ω LM (gx_Q Γ Ω LM (some (.int r0)) v0) 5 a.1 55 [(0, .ref (Ω.1 0)), (1, .int x1), (2, .int x2), (3, .int r11), (4, .int a.2)] [])) (Z := (fun z : gV => gx_G Γ Ω LM (gx_Q Γ Ω LM (some (.int r0)) v0) 5 z 100 [(3, .int r11)] [])) (fun a o h hc hz => t_X8_write_B55 hX hR x1 x2 r11 a.2 a.1 h (fun c0 c1 e => hc (c0, c1) e) (fun z0 e => hz z0 e)) fu
        obtain ⟨v12, e0, h⟩ := bx1_some h
        refine key (v9, (0 : Int32)) _ e0 ?_
        show gx_G Γ Ω LM (gx_Q Γ Ω LM (some (.int r0)) v0) 5 v12 100 [(3, .int r11)] []
        refine gi_iload_n (n := 101) hX 0 dX8_write_100 rfl rfl rfl ?_
        exact gi_iret hX rfl dX8_write_101 h
      · refine gi_aload_n (n := 27) hX 0 dX8_write_26 rfl rfl rfl ?_
        refine gi_iconst (x := (1 : Int32)) (n := 28) hX rfl dX8_write_27 rfl ?_
        obtain ⟨r15, v13, e14, h⟩ := bi_some h
        refine gi_virtI (st := []) (n := 31) hX hR kc_X8 ly_X8 mv_X8_finds ml_X8_91 (m_X8_finds Γ.2.1 Ω (1 : Int32) v4 e14) rfl ⟨rfl, rfl⟩ rfl dX8_write_28 rfl rfl ?_
        exact gi_iret hX rfl dX8_write_31 h
    · refine gi_bipush (x := (-2 : Int32)) (n := 16) hX rfl dX8_write_14 rfl ?_
      exact gi_iret hX rfl dX8_write_16 h
theorem m_X8_write (l : Launch) (Ω : gO) (x1 : Int32) (x2 : Int32) (v : gV) {r0 : Int32} {v0 : gV} (h : f_X8_write x1 x2 v = some (r0, v0)) : gx_M l Ω LM yX8_write cX8_write 5 (some .int) 7 [.ref (Ω.1 0), .int x1, .int x2] v (some (.int r0)) v0 := gx_start (lv := [(0, .ref (Ω.1 0)), (1, .int x1), (2, .int x2)]) (by decide +kernel) (Nat.le_of_ble_eq_true rfl) rfl (fun Γ _ hR hX => t_X8_write hX hR x1 x2 v h)
