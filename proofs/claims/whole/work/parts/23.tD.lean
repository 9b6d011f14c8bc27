set_option maxRecDepth 20000 in
theorem t_X7_rings_J125 {Γ : gC} {Ω : gO} {r0 : Int32} {v0 : gV} {o : (gV × Int32 × Int32 × Int32) ⊕ (gV × Int32 × Int32)} (hX : gx_X Γ Ω cX7_rings RX7 7 (some .int)) (hR : Γ.2.2.2.1 = gx_R 1) (x1 : Int32) (x2 : Int32) (x3 : Int32) (x4 : Int32) (x5 : Int32) (x6 : Int32) (v : gV) (h : f_X7_rings_J125 x1 x2 x3 x4 x5 x6 v = some o) (hc : ∀ c0 c1 c2 c3, o = .inl (c0, c1, c2, c3) → gx_G Γ Ω LX (gx_Q Γ Ω LX (some (.int r0)) v0) 7 c0 54 [(0, .ref (Ω.1 0)), (1, .int x1), (2, .int c1), (3, .int c2), (4, .int x4), (5, .int x5), (6, .int c3)] []) (hz : ∀ z0 z1 z2, o = .inr (z0, z1, z2) → gx_G Γ Ω LX (gx_Q Γ Ω LX (some (.int r0)) v0) 7 z0 131 [(0, .ref (Ω.1 0)), (1, .int x1), (2, .int z1), (3, .int z2), (4, .int x4), (5, .int x5)] []) : gx_G Γ Ω LX (gx_Q Γ Ω LX (some (.int r0)) v0) 7 v 125 [(0, .ref (Ω.1 0)), (1, .int x1), (2, .int x2), (3, .int x3), (4, .int x4), (5, .int x5), (6, .int x6)] [] := by
  rw [f_X7_rings_J125] at h
  refine gi_iinc (z := (1 : Int32)) (n := 128) hX 6 [(6, .int (x6 + (1 : Int32))), (0, .ref (Ω.1 0)), (1, .int x1), (2, .int x2), (3, .int x3), (4, .int x4), (5, .int x5)] dX7_rings_125 rfl rfl rfl rfl rfl rfl ?_
  refine gi_goto (n := 54) hX dX7_rings_128 rfl ?_
  refine gi_sub [1, 2, 3, 4, 5, 6, 0] rfl ?_
  exact hc _ _ _ _ (Option.some.inj h).symm
set_option maxRecDepth 20000 in
theorem t_X7_rings_J124 {Γ : gC} {Ω : gO} {r0 : Int32} {v0 : gV} {o : (gV × Int32 × Int32 × Int32) ⊕ (gV × Int32 × Int32)} (hX : gx_X Γ Ω cX7_rings RX7 7 (some .int)) (hR : Γ.2.2.2.1 = gx_R 1) (x1 : Int32) (x2 : Int32) (x4 : Int32) (x5 : Int32) (x6 : Int32) (s0 : Int32) (v : gV) (h : f_X7_rings_J124 x1 x2 x4 x5 x6 s0 v = some o) (hc : ∀ c0 c1 c2 c3, o = .inl (c0, c1, c2, c3) → gx_G Γ Ω LX (gx_Q Γ Ω LX (some (.int r0)) v0) 7 c0 54 [(0, .ref (Ω.1 0)), (1, .int x1), (2, .int c1), (3, .int c2), (4, .int x4), (5, .int x5), (6, .int c3)] []) (hz : ∀ z0 z1 z2, o = .inr (z0, z1, z2) → gx_G Γ Ω LX (gx_Q Γ Ω LX (some (.int r0)) v0) 7 z0 131 [(0, .ref (Ω.1 0)), (1, .int x1), (2, .int z1), (3, .int z2), (4, .int x4), (5, .int x5)] []) : gx_G Γ Ω LX (gx_Q Γ Ω LX (some (.int r0)) v0) 7 v 124 [(0, .ref (Ω.1 0)), (1, .int x1), (2, .int x2), (4, .int x4), (5, .int x5), (6, .int x6)] [.int s0] := by
  rw [f_X7_rings_J124] at h
  refine gi_istore_n (n := 125) hX [(3, .int s0), (0, .ref (Ω.1 0)), (1, .int x1), (2, .int x2), (4, .int x4), (5, .int x5), (6, .int x6)] dX7_rings_124 rfl rfl rfl rfl ?_
  refine gi_sub [1, 2, 3, 0, 4, 5, 6] rfl ?_
  exact t_X7_rings_J125 hX hR x1 x2 s0 x4 x5 x6 v h hc hz
set_option maxRecDepth 20000 in
theorem t_X7_rings_J98 {Γ : gC} {Ω : gO} {r0 : Int32} {v0 : gV} {o : (gV × Int32 × Int32 × Int32) ⊕ (gV × Int32 × Int32)} (hX : gx_X Γ Ω cX7_rings RX7 7 (some .int)) (hR : Γ.2.2.2.1 = gx_R 1) (x1 : Int32) (x2 : Int32) (x3 : Int32) (x4 : Int32) (x5 : Int32) (x6 : Int32) (v : gV) (h : f_X7_rings_J98 x1 x2 x3 x4 x5 x6 v = some o) (hc : ∀ c0 c1 c2 c3, o = .inl (c0, c1, c2, c3) → gx_G Γ Ω LX (gx_Q Γ Ω LX (some (.int r0)) v0) 7 c0 54 [(0, .ref (Ω.1 0)), (1, .int x1), (2, .int c1), (3, .int c2), (4, .int x4), (5, .int x5), (6, .int c3)] []) (hz : ∀ z0 z1 z2, o = .inr (z0, z1, z2) → gx_G Γ Ω LX (gx_Q Γ Ω LX (some (.int r0)) v0) 7 z0 131 [(0, .ref (Ω.1 0)), (1, .int x1), (2, .int z1), (3, .int z2), (4, .int x4), (5, .int x5)] []) : gx_G Γ Ω LX (gx_Q Γ Ω LX (some (.int r0)) v0) 7 v 98 [(0, .ref (Ω.1 0)), (1, .int x1), (2, .int x2), (3, .int x3), (4, .int x4), (5, .int x5), (6, .int x6)] [] := by
  rw [f_X7_rings_J98] at h
  refine gi_iinc (z := (1 : Int32)) (n := 101) hX 2 [(2, .int (x2 + (1 : Int32))), (0, .ref (Ω.1 0)), (1, .int x1), (3, .int x3), (4, .int x4), (5, .int x5), (6, .int x6)] dX7_rings_98 rfl rfl rfl rfl rfl rfl ?_
  refine gi_iload_n (n := 102) hX 3 dX7_rings_101 rfl rfl rfl ?_
  refine gi_iconst (x := (-1 : Int32)) (n := 103) hX rfl dX7_rings_102 rfl ?_
  refine gi_icmp_ne (tgt := 123) (n := 106) hX dX7_rings_103 rfl rfl h (fun h => ?_) (fun h => ?_)
  · refine gi_iload_n (n := 124) hX 3 dX7_rings_123 rfl rfl rfl ?_
    refine gi_sub [1, 2, 0, 4, 5, 6] rfl ?_
    exact t_X7_rings_J124 hX hR x1 (x2 + (1 : Int32)) x4 x5 x6 x3 v h hc hz
  · refine gi_bipush (x := (64 : Int32)) (n := 108) hX rfl dX7_rings_106 rfl ?_
    refine gi_iload (n := 110) hX 4 dX7_rings_108 rfl rfl ?_
    refine gi_imul (n := 111) hX dX7_rings_110 rfl ?_
    refine gi_bipush (x := (8 : Int32)) (n := 113) hX rfl dX7_rings_111 rfl ?_
    refine gi_iload (n := 115) hX 5 dX7_rings_113 rfl rfl ?_
    refine gi_imul (n := 116) hX dX7_rings_115 rfl ?_
    refine gi_iadd (n := 117) hX dX7_rings_116 rfl ?_
    refine gi_iload (n := 119) hX 6 dX7_rings_117 rfl rfl ?_
    refine gi_iadd (n := 120) hX dX7_rings_119 rfl ?_
    refine gi_goto (n := 124) hX dX7_rings_120 rfl ?_
    refine gi_sub [1, 2, 0, 4, 5, 6] rfl ?_
    exact t_X7_rings_J124 hX hR x1 (x2 + (1 : Int32)) x4 x5 x6 ((((64 : Int32) * x4) + ((8 : Int32) * x5)) + x6) v h hc hz
set_option maxRecDepth 20000 in
theorem t_X7_rings_B54 {Γ : gC} {Ω : gO} {r0 : Int32} {v0 : gV} {o : (gV × Int32 × Int32 × Int32) ⊕ (gV × Int32 × Int32)} (hX : gx_X Γ Ω cX7_rings RX7 7 (some .int)) (hR : Γ.2.2.2.1 = gx_R 1) (x1 : Int32) (x2 : Int32) (x3 : Int32) (x4 : Int32) (x5 : Int32) (x6 : Int32) (v : gV) (h : f_X7_rings_B54 x1 x2 x3 x4 x5 x6 v = some o) (hc : ∀ c0 c1 c2 c3, o = .inl (c0, c1, c2, c3) → gx_G Γ Ω LX (gx_Q Γ Ω LX (some (.int r0)) v0) 7 c0 54 [(0, .ref (Ω.1 0)), (1, .int x1), (2, .int c1), (3, .int c2), (4, .int x4), (5, .int x5), (6, .int c3)] []) (hz : ∀ z0 z1 z2, o = .inr (z0, z1, z2) → gx_G Γ Ω LX (gx_Q Γ Ω LX (some (.int r0)) v0) 7 z0 131 [(0, .ref (Ω.1 0)), (1, .int x1), (2, .int z1), (3, .int z2), (4, .int x4), (5, .int x5)] []) : gx_G Γ Ω LX (gx_Q Γ Ω LX (some (.int r0)) v0) 7 v 54 [(0, .ref (Ω.1 0)), (1, .int x1), (2, .int x2), (3, .int x3), (4, .int x4), (5, .int x5), (6, .int x6)] [] := by
  rw [f_X7_rings_B54] at h
  refine gi_iload (n := 56) hX 6 dX7_rings_54 rfl rfl ?_
  refine gi_aload_n (n := 57) hX 0 dX7_rings_56 rfl rfl rfl ?_
  refine gi_getR (n := 60) hX 1 kc_X7 ly_X7 rfl rfl fl_X7_21 dX7_rings_57 rfl ?_
  refine gi_getI (n := 63) hX 0 kc_X6 ly_X6 rfl rfl fl_X7_92 dX7_rings_60 rfl ?_
  refine gi_icmp_ge (tgt := 131) (n := 66) hX dX7_rings_63 rfl rfl h (fun h => ?_) (fun h => ?_)
  · refine gi_sub [0, 1, 2, 3, 4, 5] rfl ?_
    exact hz _ _ _ (Option.some.inj h).symm
  · refine gi_aload_n (n := 67) hX 0 dX7_rings_66 rfl rfl rfl ?_
    refine gi_getR (n := 70) hX 1 kc_X7 ly_X7 rfl rfl fl_X7_21 dX7_rings_67 rfl ?_
    refine gi_iload (n := 72) hX 4 dX7_rings_70 rfl rfl ?_
    refine gi_iload (n := 74) hX 5 dX7_rings_72 rfl rfl ?_
    refine gi_iload (n := 76) hX 6 dX7_rings_74 rfl rfl ?_
    obtain ⟨r3, v1, e2, h⟩ := bi_some h
    refine gi_virtI (st := []) (n := 79) hX hR kc_X6 ly_X6 mv_X6_isRing ml_X7_152 (m_X6_isRing Γ.2.1 Ω x4 x5 x6 v e2) rfl ⟨rfl, rfl⟩ rfl dX7_rings_76 rfl rfl ?_
    refine gi_if_ne (tgt := 98) (n := 82) hX dX7_rings_79 rfl rfl h (fun h => ?_) (fun h => ?_)
    · exact t_X7_rings_J98 hX hR x1 x2 x3 x4 x5 x6 v1 h hc hz
    · refine gi_aload_n (n := 83) hX 0 dX7_rings_82 rfl rfl rfl ?_
      refine gi_getR (n := 86) hX 1 kc_X7 ly_X7 rfl rfl fl_X7_21 dX7_rings_83 rfl ?_
      refine gi_iload (n := 88) hX 4 dX7_rings_86 rfl rfl ?_
      refine gi_iload (n := 90) hX 6 dX7_rings_88 rfl rfl ?_
      refine gi_iload (n := 92) hX 5 dX7_rings_90 rfl rfl ?_
      obtain ⟨r6, v4, e5, h⟩ := bi_some h
      refine gi_virtI (st := []) (n := 95) hX hR kc_X6 ly_X6 mv_X6_isRing ml_X7_152 (m_X6_isRing Γ.2.1 Ω x4 x6 x5 v1 e5) rfl ⟨rfl, rfl⟩ rfl dX7_rings_92 rfl rfl ?_
      refine gi_if_eq (tgt := 125) (n := 98) hX dX7_rings_95 rfl rfl h (fun h => ?_) (fun h => ?_)
      · exact t_X7_rings_J125 hX hR x1 x2 x3 x4 x5 x6 v4 h hc hz
      · exact t_X7_rings_J98 hX hR x1 x2 x3 x4 x5 x6 v4 h hc hz
set_option maxRecDepth 20000 in
theorem t_X7_rings_B36 {Γ : gC} {Ω : gO} {r0 : Int32} {v0 : gV} {o : (gV × Int32 × Int32 × Int32) ⊕ (gV × Int32 × Int32)} (hX : gx_X Γ Ω cX7_rings RX7 7 (some .int)) (hR : Γ.2.2.2.1 = gx_R 1) (x1 : Int32) (x2 : Int32) (x3 : Int32) (x4 : Int32) (x5 : Int32) (v : gV) (h : f_X7_rings_B36 x1 x2 x3 x4 x5 v = some o) (hc : ∀ c0 c1 c2 c3, o = .inl (c0, c1, c2, c3) → gx_G Γ Ω LX (gx_Q Γ Ω LX (some (.int r0)) v0) 7 c0 36 [(0, .ref (Ω.1 0)), (1, .int x1), (2, .int c1), (3, .int c2), (4, .int x4), (5, .int c3)] []) (hz : ∀ z0 z1 z2, o = .inr (z0, z1, z2) → gx_G Γ Ω LX (gx_Q Γ Ω LX (some (.int r0)) v0) 7 z0 137 [(0, .ref (Ω.1 0)), (1, .int x1), (2, .int z1), (3, .int z2), (4, .int x4)] []) : gx_G Γ Ω LX (gx_Q Γ Ω LX (some (.int r0)) v0) 7 v 36 [(0, .ref (Ω.1 0)), (1, .int x1), (2, .int x2), (3, .int x3), (4, .int x4), (5, .int x5)] [] := by
  rw [f_X7_rings_B36] at h
  refine gi_iload (n := 38) hX 5 dX7_rings_36 rfl rfl ?_
  refine gi_aload_n (n := 39) hX 0 dX7_rings_38 rfl rfl rfl ?_
  refine gi_getR (n := 42) hX 1 kc_X7 ly_X7 rfl rfl fl_X7_21 dX7_rings_39 rfl ?_
  refine gi_getI (n := 45) hX 0 kc_X6 ly_X6 rfl rfl fl_X7_92 dX7_rings_42 rfl ?_
  refine gi_icmp_ge (tgt := 137) (n := 48) hX dX7_rings_45 rfl rfl h (fun h => ?_) (fun h => ?_)
  · refine gi_sub [0, 1, 2, 3, 4] rfl ?_
    exact hz _ _ _ (Option.some.inj h).symm
  · refine gi_iload (n := 50) hX 5 dX7_rings_48 rfl rfl ?_
    refine gi_iconst (x := (1 : Int32)) (n := 51) hX rfl dX7_rings_50 rfl ?_
    refine gi_iadd (n := 52) hX dX7_rings_51 rfl ?_
    refine gi_topI h (fun u1 h => ?_)
    refine gi_istore (n := 54) hX [(6, .int u1), (0, .ref (Ω.1 0)), (1, .int x1), (2, .int x2), (3, .int x3), (4, .int x4), (5, .int x5)] dX7_rings_52 rfl rfl rfl ?_
    refine gi_sub [1, 2, 3, 4, 5, 6, 0] rfl ?_
    have key := lp_ind (f := (fun a : gV × Int32 × Int32 × Int32 => f_X7_rings_B54 x1 a.2.1 a.2.2.1 x4 x5 a.2.2.2 a.1)) (P := (fun a : gV × Int32 × Int32 × Int32 => gx_G Γ Ω LX (gx_Q Γ Ω LX (some (.int r0)) v0) 7 a.1 54 [(0, .ref (Ω.1 0)), (1, .int x1), (2, .int a.2.1), (3, .int a.2.2.1), (4, .int x4), (5, .int x5), (6, .int a.2.2.2)] [])) (Z := (fun z : gV × Int32 × Int32 => gx_G Γ Ω LX (gx_Q Γ Ω LX (some (.int r0)) v0) 7 z.1 131 [(0, .ref (Ω.1 0)), (1, .int x1), (2, .int z.2.1), (3, .int z.2.2), (4, .int x4), (5, .int x5)] [])) (fun a o h hc hz => t_X7_rings_B54 hX hR x1 a.2.1 a.2.2.1 x4 x5 a.2.2.2 a.1 h (fun c0 c1 c2 c3 e => hc (c0, c1, c2, c3) e) (fun z0 z1 z2 e => hz (z0, z1, z2) e)) fu
    obtain ⟨v2, y3, y4, e0, h⟩ := bx3_some h
    refine key (v, x2, x3, u1) _ e0 ?_
    show gx_G Γ Ω LX (gx_Q Γ Ω LX (some (.int r0)) v0) 7 v2 131 [(0, .ref (Ω.1 0)), (1, .int x1), (2, .int y3), (3, .int y4), (4, .int x4), (5, .int x5)] []
    refine gi_iinc (z := (1 : Int32)) (n := 134) hX 5 [(5, .int (x5 + (1 : Int32))), (0, .ref (Ω.1 0)), (1, .int x1), (2, .int y3), (3, .int y4), (4, .int x4)] dX7_rings_131 rfl rfl rfl rfl rfl rfl ?_
    refine gi_goto (n := 36) hX dX7_rings_134 rfl ?_
    refine gi_sub [1, 2, 3, 4, 5, 0] rfl ?_
    exact hc _ _ _ _ (Option.some.inj h).symm
set_option maxRecDepth 20000 in
theorem t_X7_rings_B18 {Γ : gC} {Ω : gO} {r0 : Int32} {v0 : gV} {o : (gV × Int32 × Int32 × Int32) ⊕ (gV × Int32 × Int32)} (hX : gx_X Γ Ω cX7_rings RX7 7 (some .int)) (hR : Γ.2.2.2.1 = gx_R 1) (x1 : Int32) (x2 : Int32) (x3 : Int32) (x4 : Int32) (v : gV) (h : f_X7_rings_B18 x1 x2 x3 x4 v = some o) (hc : ∀ c0 c1 c2 c3, o = .inl (c0, c1, c2, c3) → gx_G Γ Ω LX (gx_Q Γ Ω LX (some (.int r0)) v0) 7 c0 18 [(0, .ref (Ω.1 0)), (1, .int x1), (2, .int c1), (3, .int c2), (4, .int c3)] []) (hz : ∀ z0 z1 z2, o = .inr (z0, z1, z2) → gx_G Γ Ω LX (gx_Q Γ Ω LX (some (.int r0)) v0) 7 z0 143 [(1, .int x1), (2, .int z1), (3, .int z2)] []) : gx_G Γ Ω LX (gx_Q Γ Ω LX (some (.int r0)) v0) 7 v 18 [(0, .ref (Ω.1 0)), (1, .int x1), (2, .int x2), (3, .int x3), (4, .int x4)] [] := by
  rw [f_X7_rings_B18] at h
  refine gi_iload (n := 20) hX 4 dX7_rings_18 rfl rfl ?_
  refine gi_aload_n (n := 21) hX 0 dX7_rings_20 rfl rfl rfl ?_
  refine gi_getR (n := 24) hX 1 kc_X7 ly_X7 rfl rfl fl_X7_21 dX7_rings_21 rfl ?_
  refine gi_getI (n := 27) hX 0 kc_X6 ly_X6 rfl rfl fl_X7_92 dX7_rings_24 rfl ?_
  refine gi_icmp_ge (tgt := 143) (n := 30) hX dX7_rings_27 rfl rfl h (fun h => ?_) (fun h => ?_)
  · refine gi_sub [1, 2, 3] rfl ?_
    exact hz _ _ _ (Option.some.inj h).symm
  · refine gi_iload (n := 32) hX 4 dX7_rings_30 rfl rfl ?_
    refine gi_iconst (x := (1 : Int32)) (n := 33) hX rfl dX7_rings_32 rfl ?_
    refine gi_iadd (n := 34) hX dX7_rings_33 rfl ?_
    refine gi_topI h (fun u1 h => ?_)
    refine gi_istore (n := 36) hX [(5, .int u1), (0, .ref (Ω.1 0)), (1, .int x1), (2, .int x2), (3, .int x3), (4, .int x4)] dX7_rings_34 rfl rfl rfl ?_
    refine gi_sub [1, 2, 3, 4, 5, 0] rfl ?_
    have key := lp_ind (f := (fun a : gV × Int32 × Int32 × Int32 => f_X7_rings_B36 x1 a.2.1 a.2.2.1 x4 a.2.2.2 a.1)) (P := (fun a : gV × Int32 × Int32 × Int32 => gx_G Γ Ω LX (gx_Q Γ Ω LX (some (.int r0)) v0) 7 a.1 36 [(0, .ref (Ω.1 0)), (1, .int x1), (2, .int a.2.1), (3, .int a.2.2.1), (4, .int x4), (5, .int a.2.2.2)] [])) (Z := (fun z : gV × Int32 × Int32 => gx_G Γ Ω LX (gx_Q Γ Ω LX (some (.int r0)) v0) 7 z.1 137 [(0, .ref (Ω.1 0)), (1, .int x1), (2, .int z.2.1), (3, .int z.2.2), (4, .int x4)] [])) (fun a o h hc hz => t_X7_rings_B36 hX hR x1 a.2.1 a.2.2.1 x4 a.2.2.2 a.1 h (fun c0 c1 c2 c3 e => hc (c0, c1, c2, c3) e) (fun z0 z1 z2 e => hz (z0, z1, z2) e)) fu
    obtain ⟨v2, y3, y4, e0, h⟩ := bx3_some h
    refine key (v, x2, x3, u1) _ e0 ?_
    show gx_G Γ Ω LX (gx_Q Γ Ω LX (some (.int r0)) v0) 7 v2 137 [(0, .ref (Ω.1 0)), (1, .int x1), (2, .int y3), (3, .int y4), (4, .int x4)] []
    refine gi_iinc (z := (1 : Int32)) (n := 140) hX 4 [(4, .int (x4 + (1 : Int32))), (0, .ref (Ω.1 0)), (1, .int x1), (2, .int y3), (3, .int y4)] dX7_rings_137 rfl rfl rfl rfl rfl rfl ?_
    refine gi_goto (n := 18) hX dX7_rings_140 rfl ?_
    refine gi_sub [1, 2, 3, 4, 0] rfl ?_
    exact hc _ _ _ _ (Option.some.inj h).symm
set_option maxRecDepth 20000 in
theorem t_X7_rings {Γ : gC} {Ω : gO} {r0 : Int32} {v0 : gV} (hX : gx_X Γ Ω cX7_rings RX7 7 (some .int)) (hR : Γ.2.2.2.1 = gx_R 1) (x1 : Int32) (v : gV) (h : f_X7_rings x1 v = some (r0, v0)) : gx_G Γ Ω LX (gx_Q Γ Ω LX (some (.int r0)) v0) 7 v 0 [(0, .ref (Ω.1 0)), (1, .int x1)] [] := by
  rw [f_X7_rings] at h
  refine gi_iload_n (n := 1) hX 1 dX7_rings_0 rfl rfl rfl ?_
  refine gi_iconst (x := (2 : Int32)) (n := 2) hX rfl dX7_rings_1 rfl ?_
  obtain ⟨r3, v1, e2, h⟩ := bi_some h
  refine gi_statI (st := []) (n := 5) hX hR ms_X7_isOutside ml_X7_70 (m_X7_isOutside Γ.2.1 Ω x1 (2 : Int32) v e2) rfl ⟨rfl, rfl⟩ rfl dX7_rings_2 rfl rfl ?_
  refine gi_if_eq (tgt := 11) (n := 8) hX dX7_rings_5 rfl rfl h (fun h => ?_) (fun h => ?_)
  · refine gi_iconst (x := (0 : Int32)) (n := 12) hX rfl dX7_rings_11 rfl ?_
    refine gi_istore_n (n := 13) hX [(2, .int (0 : Int32)), (0, .ref (Ω.1 0)), (1, .int x1)] dX7_rings_12 rfl rfl rfl rfl ?_
    refine gi_iconst (x := (-1 : Int32)) (n := 14) hX rfl dX7_rings_13 rfl ?_
    refine gi_istore_n (n := 15) hX [(3, .int (-1 : Int32)), (2, .int (0 : Int32)), (0, .ref (Ω.1 0)), (1, .int x1)] dX7_rings_14 rfl rfl rfl rfl ?_
    refine gi_iconst (x := (0 : Int32)) (n := 16) hX rfl dX7_rings_15 rfl ?_
    refine gi_istore (n := 18) hX [(4, .int (0 : Int32)), (3, .int (-1 : Int32)), (2, .int (0 : Int32)), (0, .ref (Ω.1 0)), (1, .int x1)] dX7_rings_16 rfl rfl rfl ?_
    refine gi_sub [3, 4, 2, 1, 0] rfl ?_
    have key := lp_ind (f := (fun a : gV × Int32 × Int32 × Int32 => f_X7_rings_B18 x1 a.2.1 a.2.2.1 a.2.2.2 a.1)) (P := (fun a : gV × Int32 × Int32 × Int32 => gx_G Γ Ω LX (gx_Q Γ Ω LX (some (.int r0)) v0) 7 a.1 18 [(0, .ref (Ω.1 0)), (1, .int x1), (2, .int a.2.1), (3, .int a.2.2.1), (4, .int a.2.2.2)] [])) (Z := (fun z : gV × Int32 × Int32 => gx_G Γ Ω LX (gx_Q Γ Ω LX (some (.int r0)) v0) 7 z.1 143 [(1, .int x1), (2, .int z.2.1), (3, .int z.2.2)] [])) (fun a o h hc hz => t_X7_rings_B18 hX hR x1 a.2.1 a.2.2.1 a.2.2.2 a.1 h (fun c0 c1 c2 c3 e => hc (c0, c1, c2, c3) e) (fun z0 z1 z2 e => hz (z0, z1, z2) e)) fu
    obtain ⟨v4, y5, y6, e0, h⟩ := bx3_some h
    refine key (v1, (0 : Int32), (-1 : Int32), (0 : Int32)) _ e0 ?_
    show gx_G Γ Ω LX (gx_Q Γ Ω LX (some (.int r0)) v0) 7 v4 143 [(1, .int x1), (2, .int y5), (3, .int y6)] []
    refine gi_iload_n (n := 144) hX 0 dX7_rings_143 rfl rfl rfl ?_
    refine gi_if_ne (tgt := 151) (n := 147) hX dX7_rings_144 rfl rfl h (fun h => ?_) (fun h => ?_)
    · refine gi_iload_n (n := 152) hX 2 dX7_rings_151 rfl rfl rfl ?_
      exact gi_iret hX rfl dX7_rings_152 h
    · refine gi_iload_n (n := 148) hX 1 dX7_rings_147 rfl rfl rfl ?_
      refine gi_goto (n := 152) hX dX7_rings_148 rfl ?_
      exact gi_iret hX rfl dX7_rings_152 h
  · refine gi_bipush (x := (-2 : Int32)) (n := 10) hX rfl dX7_rings_8 rfl ?_
    exact gi_iret hX rfl dX7_rings_10 h
theorem m_X7_rings (l : Launch) (Ω : gO) (x1 : Int32) (v : gV) {r0 : Int32} {v0 : gV} (h : f_X7_rings x1 v = some (r0, v0)) : gx_M l Ω LX yX7_rings cX7_rings 7 (some .int) 1 [.ref (Ω.1 0), .int x1] v (some (.int r0)) v0 := gx_start (lv := [(0, .ref (Ω.1 0)), (1, .int x1)]) (by decide +kernel) (Nat.le_of_ble_eq_true rfl) rfl (fun Γ _ hR hX => t_X7_rings hX hR x1 v h)
set_option maxRecDepth 20000 in
theorem t_X7_least_J52 {Γ : gC} {Ω : gO} {r0 : Int32} {v0 : gV} {o : (gV × Int32 × Int32 × Int32) ⊕ (gV × Int32 × Int32)} (hX : gx_X Γ Ω cX7_least RX7 6 (some .int)) (hR : Γ.2.2.2.1 = gx_R 5) (x1 : Int32) (x2 : Int32) (x3 : Int32) (x4 : Int32) (v : gV) (h : f_X7_least_J52 x1 x2 x3 x4 v = some o) (hc : ∀ c0 c1 c2 c3, o = .inl (c0, c1, c2, c3) → gx_G Γ Ω LX (gx_Q Γ Ω LX (some (.int r0)) v0) 6 c0 18 [(0, .ref (Ω.1 0)), (1, .int x1), (2, .int c1), (3, .int c2), (4, .int c3)] []) (hz : ∀ z0 z1 z2, o = .inr (z0, z1, z2) → gx_G Γ Ω LX (gx_Q Γ Ω LX (some (.int r0)) v0) 6 z0 58 [(1, .int x1), (2, .int z1), (3, .int z2)] []) : gx_G Γ Ω LX (gx_Q Γ Ω LX (some (.int r0)) v0) 6 v 52 [(0, .ref (Ω.1 0)), (1, .int x1), (2, .int x2), (3, .int x3), (4, .int x4)] [] := by
  rw [f_X7_least_J52] at h
  refine gi_iinc (z := (1 : Int32)) (n := 55) hX 4 [(4, .int (x4 + (1 : Int32))), (0, .ref (Ω.1 0)), (1, .int x1), (2, .int x2), (3, .int x3)] dX7_least_52 rfl rfl rfl rfl rfl rfl ?_
  refine gi_goto (n := 18) hX dX7_least_55 rfl ?_
  refine gi_sub [1, 2, 3, 4, 0] rfl ?_
  exact hc _ _ _ _ (Option.some.inj h).symm
set_option maxRecDepth 20000 in
theorem t_X7_least_B18 {Γ : gC} {Ω : gO} {r0 : Int32} {v0 : gV} {o : (gV × Int32 × Int32 × Int32) ⊕ (gV × Int32 × Int32)} (hX : gx_X Γ Ω cX7_least RX7 6 (some .int)) (hR : Γ.2.2.2.1 = gx_R 5) (x1 : Int32) (x2 : Int32) (x3 : Int32) (x4 : Int32) (v : gV) (h : f_X7_least_B18 x1 x2 x3 x4 v = some o) (hc : ∀ c0 c1 c2 c3, o = .inl (c0, c1, c2, c3) → gx_G Γ Ω LX (gx_Q Γ Ω LX (some (.int r0)) v0) 6 c0 18 [(0, .ref (Ω.1 0)), (1, .int x1), (2, .int c1), (3, .int c2), (4, .int c3)] []) (hz : ∀ z0 z1 z2, o = .inr (z0, z1, z2) → gx_G Γ Ω LX (gx_Q Γ Ω LX (some (.int r0)) v0) 6 z0 58 [(1, .int x1), (2, .int z1), (3, .int z2)] []) : gx_G Γ Ω LX (gx_Q Γ Ω LX (some (.int r0)) v0) 6 v 18 [(0, .ref (Ω.1 0)), (1, .int x1), (2, .int x2), (3, .int x3), (4, .int x4)] [] := by
  rw [f_X7_least_B18] at h
  refine gi_iload (n := 20) hX 4 dX7_least_18 rfl rfl ?_
  refine gi_bipush (x := (9 : Int32)) (n := 22) hX rfl dX7_least_20 rfl ?_
  refine gi_icmp_gt (tgt := 58) (n := 25) hX dX7_least_22 rfl rfl h (fun h => ?_) (fun h => ?_)
  · refine gi_sub [1, 2, 3] rfl ?_
    exact hz _ _ _ (Option.some.inj h).symm
  · refine gi_aload_n (n := 26) hX 0 dX7_least_25 rfl rfl rfl ?_
    refine gi_iload (n := 28) hX 4 dX7_least_26 rfl rfl ?_
    obtain ⟨v1, e2, h⟩ := bv_some h
    refine gi_virtV (st := []) (n := 31) hX hR kc_X7 ly_X7 mv_X7_rideWithEven ml_X7_165 (m_X7_rideWithEven Γ.2.1 Ω x4 v e2) rfl ⟨rfl, rfl⟩ rfl dX7_least_28 rfl rfl ?_
    refine gi_aload_n (n := 32) hX 0 dX7_least_31 rfl rfl rfl ?_
    refine gi_getR (n := 35) hX 3 kc_X7 ly_X7 rfl rfl fl_X7_34 dX7_least_32 rfl ?_
    obtain ⟨r5, v3, e4, h⟩ := bi_some h
    refine gi_virtI (st := []) (n := 38) hX hR kc_X1 (ly_R (rfl : kR 54 = true)) mv_X1_servedAtLast ml_X7_168 (m_X1_servedAtLast Γ.2.1 Ω 54 (rfl : kR 54 = true) v1 e4) rfl ⟨rfl, rfl⟩ rfl dX7_least_35 rfl rfl ?_
    refine gi_istore (n := 40) hX [(5, .int r5), (0, .ref (Ω.1 0)), (1, .int x1), (2, .int x2), (3, .int x3), (4, .int x4)] dX7_least_38 rfl rfl rfl ?_
    refine gi_iload (n := 42) hX 0 dX7_least_40 rfl rfl ?_
    refine gi_iload_n (n := 43) hX 4 dX7_least_42 rfl rfl rfl ?_
    refine gi_icmp_le (tgt := 52) (n := 46) hX dX7_least_43 rfl rfl h (fun h => ?_) (fun h => ?_)
    · refine gi_sub [1, 2, 3, 4, 5] rfl ?_
      exact t_X7_least_J52 hX hR x1 x2 x3 x4 v3 h hc hz
    · refine gi_iload (n := 48) hX 0 dX7_least_46 rfl rfl ?_
      refine gi_istore_n (n := 49) hX [(3, .int r5), (5, .int r5), (0, .ref (Ω.1 0)), (1, .int x1), (2, .int x2), (4, .int x4)] dX7_least_48 rfl rfl rfl rfl ?_
      refine gi_iload (n := 51) hX 5 dX7_least_49 rfl rfl ?_
      refine gi_istore_n (n := 52) hX [(2, .int x4), (3, .int r5), (5, .int r5), (0, .ref (Ω.1 0)), (1, .int x1), (4, .int x4)] dX7_least_51 rfl rfl rfl rfl ?_
      refine gi_sub [3, 4, 0, 1, 5] rfl ?_
      exact t_X7_least_J52 hX hR x1 x4 r5 x4 v3 h hc hz
set_option maxRecDepth 20000 in
theorem t_X7_least {Γ : gC} {Ω : gO} {r0 : Int32} {v0 : gV} (hX : gx_X Γ Ω cX7_least RX7 6 (some .int)) (hR : Γ.2.2.2.1 = gx_R 5) (x1 : Int32) (v : gV) (h : f_X7_least x1 v = some (r0, v0)) : gx_G Γ Ω LX (gx_Q Γ Ω LX (some (.int r0)) v0) 6 v 0 [(0, .ref (Ω.1 0)), (1, .int x1)] [] := by
  rw [f_X7_least] at h
  refine gi_iload_n (n := 1) hX 1 dX7_least_0 rfl rfl rfl ?_
  refine gi_iconst (x := (2 : Int32)) (n := 2) hX rfl dX7_least_1 rfl ?_
  obtain ⟨r3, v1, e2, h⟩ := bi_some h
  refine gi_statI (st := []) (n := 5) hX hR ms_X7_isOutside ml_X7_70 (m_X7_isOutside Γ.2.1 Ω x1 (2 : Int32) v e2) rfl ⟨rfl, rfl⟩ rfl dX7_least_2 rfl rfl ?_
  refine gi_if_eq (tgt := 11) (n := 8) hX dX7_least_5 rfl rfl h (fun h => ?_) (fun h => ?_)
  · refine gi_iconst (x := (0 : Int32)) (n := 12) hX rfl dX7_least_11 rfl ?_
    refine gi_istore_n (n := 13) hX [(2, .int (0 : Int32)), (0, .ref (Ω.1 0)), (1, .int x1)] dX7_least_12 rfl rfl rfl rfl ?_
    refine gi_iconst (x := (-1 : Int32)) (n := 14) hX rfl dX7_least_13 rfl ?_
    refine gi_istore_n (n := 15) hX [(3, .int (-1 : Int32)), (2, .int (0 : Int32)), (0, .ref (Ω.1 0)), (1, .int x1)] dX7_least_14 rfl rfl rfl rfl ?_
    refine gi_iconst (x := (0 : Int32)) (n := 16) hX rfl dX7_least_15 rfl ?_
    refine gi_istore (n := 18) hX [(4, .int (0 : Int32)), (3, .int (-1 : Int32)), (2, .int (0 : Int32)), (0, .ref (Ω.1 0)), (1, .int x1)] dX7_least_16 rfl rfl rfl ?_
    refine gi_sub [3, 4, 2, 1, 0] rfl ?_
    have key := lp_ind (f := (fun a : gV × Int32 × Int32 × Int32 => f_X7_least_B18 x1 a.2.1 a.2.2.1 a.2.2.2 a.1)) (P := (fun a : gV × Int32 × Int32 × Int32 => gx_G Γ Ω LX (gx_Q Γ Ω LX (some (.int r0)) v0) 6 a.1 18 [(0, .ref (Ω.1 0)), (1, .int x1), (2, .int a.2.1), (3, .int a.2.2.1), (4, .int a.2.2.2)] [])) (Z := (fun z : gV × Int32 × Int32 => gx_G Γ Ω LX (gx_Q Γ Ω LX (some (.int r0)) v0) 6 z.1 58 [(1, .int x1), (2, .int z.2.1), (3, .int z.2.2)] [])) (fun a o h hc hz => t_X7_least_B18 hX hR x1 a.2.1 a.2.2.1 a.2.2.2 a.1 h (fun c0 c1 c2 c3 e => hc (c0, c1, c2, c3) e) (fun z0 z1 z2 e => hz (z0, z1, z2) e)) fu
    obtain ⟨v4, y5, y6, e0, h⟩ := bx3_some h
    refine key (v1, (0 : Int32), (-1 : Int32), (0 : Int32)) _ e0 ?_
    show gx_G Γ Ω LX (gx_Q Γ Ω LX (some (.int r0)) v0) 6 v4 58 [(1, .int x1), (2, .int y5), (3, .int y6)] []
    refine gi_iload_n (n := 59) hX 0 dX7_least_58 rfl rfl rfl ?_
    refine gi_if_ne (tgt := 66) (n := 62) hX dX7_least_59 rfl rfl h (fun h => ?_) (fun h => ?_)
    · refine gi_iload_n (n := 67) hX 2 dX7_least_66 rfl rfl rfl ?_
      exact gi_iret hX rfl dX7_least_67 h
    · refine gi_iload_n (n := 63) hX 1 dX7_least_62 rfl rfl rfl ?_
      refine gi_goto (n := 67) hX dX7_least_63 rfl ?_
      exact gi_iret hX rfl dX7_least_67 h
  · refine gi_bipush (x := (-2 : Int32)) (n := 10) hX rfl dX7_least_8 rfl ?_
    exact gi_iret hX rfl dX7_least_10 h
theorem m_X7_least (l : Launch) (Ω : gO) (x1 : Int32) (v : gV) {r0 : Int32} {v0 : gV} (h : f_X7_least x1 v = some (r0, v0)) : gx_M l Ω LX yX7_least cX7_least 6 (some .int) 5 [.ref (Ω.1 0), .int x1] v (some (.int r0)) v0 := gx_start (lv := [(0, .ref (Ω.1 0)), (1, .int x1)]) (by decide +kernel) (Nat.le_of_ble_eq_true rfl) rfl (fun Γ _ hR hX => t_X7_least hX hR x1 v h)
set_option maxRecDepth 20000 in
theorem t_X7_top_J72 {Γ : gC} {Ω : gO} {r0 : Int32} {v0 : gV} {o : (gV × Int32 × Int32 × Int32) ⊕ (gV × Int32 × Int32)} (hX : gx_X Γ Ω cX7_top RX7 6 (some .int)) (hR : Γ.2.2.2.1 = gx_R 4) (x1 : Int32) (x2 : Int32) (x3 : Int32) (x4 : Int32) (v : gV) (h : f_X7_top_J72 x1 x2 x3 x4 v = some o) (hc : ∀ c0 c1 c2 c3, o = .inl (c0, c1, c2, c3) → gx_G Γ Ω LX (gx_Q Γ Ω LX (some (.int r0)) v0) 6 c0 18 [(0, .ref (Ω.1 0)), (1, .int x1), (2, .int c1), (3, .int c2), (4, .int c3)] []) (hz : ∀ z0 z1 z2, o = .inr (z0, z1, z2) → gx_G Γ Ω LX (gx_Q Γ Ω LX (some (.int r0)) v0) 6 z0 78 [(1, .int x1), (2, .int z1), (3, .int z2)] []) : gx_G Γ Ω LX (gx_Q Γ Ω LX (some (.int r0)) v0) 6 v 72 [(0, .ref (Ω.1 0)), (1, .int x1), (2, .int x2), (3, .int x3), (4, .int x4)] [] := by
  rw [f_X7_top_J72] at h
  refine gi_iinc (z := (1 : Int32)) (n := 75) hX 4 [(4, .int (x4 + (1 : Int32))), (0, .ref (Ω.1 0)), (1, .int x1), (2, .int x2), (3, .int x3)] dX7_top_72 rfl rfl rfl rfl rfl rfl ?_
  refine gi_goto (n := 18) hX dX7_top_75 rfl ?_
  refine gi_sub [1, 2, 3, 4, 0] rfl ?_
  exact hc _ _ _ _ (Option.some.inj h).symm
set_option maxRecDepth 20000 in
theorem t_X7_top_B18 {Γ : gC} {Ω : gO} {r0 : Int32} {v0 : gV} {o : (gV × Int32 × Int32 × Int32) ⊕ (gV × Int32 × Int32)} (hX : gx_X Γ Ω cX7_top RX7 6 (some .int)) (hR : Γ.2.2.2.1 = gx_R 4) (x1 : Int32) (x2 : Int32) (x3 : Int32) (x4 : Int32) (v : gV) (h : f_X7_top_B18 x1 x2 x3 x4 v = some o) (hc : ∀ c0 c1 c2 c3, o = .inl (c0, c1, c2, c3) → gx_G Γ Ω LX (gx_Q Γ Ω LX (some (.int r0)) v0) 6 c0 18 [(0, .ref (Ω.1 0)), (1, .int x1), (2, .int c1), (3, .int c2), (4, .int c3)] []) (hz : ∀ z0 z1 z2, o = .inr (z0, z1, z2) → gx_G Γ Ω LX (gx_Q Γ Ω LX (some (.int r0)) v0) 6 z0 78 [(1, .int x1), (2, .int z1), (3, .int z2)] []) : gx_G Γ Ω LX (gx_Q Γ Ω LX (some (.int r0)) v0) 6 v 18 [(0, .ref (Ω.1 0)), (1, .int x1), (2, .int x2), (3, .int x3), (4, .int x4)] [] := by
  rw [f_X7_top_B18] at h
  refine gi_iload (n := 20) hX 4 dX7_top_18 rfl rfl ?_
  refine gi_bipush (x := (8 : Int32)) (n := 22) hX rfl dX7_top_20 rfl ?_
  refine gi_icmp_ge (tgt := 78) (n := 25) hX dX7_top_22 rfl rfl h (fun h => ?_) (fun h => ?_)
  · refine gi_sub [1, 2, 3] rfl ?_
    exact hz _ _ _ (Option.some.inj h).symm
  · refine gi_aload_n (n := 26) hX 0 dX7_top_25 rfl rfl rfl ?_
    refine gi_getR (n := 29) hX 3 kc_X7 ly_X7 rfl rfl fl_X7_34 dX7_top_26 rfl ?_
    obtain ⟨v1, e2, h⟩ := bv_some h
    refine gi_virtV (st := []) (n := 32) hX hR kc_X1 (ly_R (rfl : kR 54 = true)) mv_X1_begin ml_X7_171 (m_X1_begin Γ.2.1 Ω 54 (rfl : kR 54 = true) v e2) rfl ⟨rfl, rfl⟩ rfl dX7_top_29 rfl rfl ?_
    refine gi_aload_n (n := 33) hX 0 dX7_top_32 rfl rfl rfl ?_
    refine gi_getR (n := 36) hX 3 kc_X7 ly_X7 rfl rfl fl_X7_34 dX7_top_33 rfl ?_
    refine gi_getR (n := 39) hX 4 kc_X1 (ly_R (rfl : kR 54 = true)) rfl rfl fl_X7_174 dX7_top_36 rfl ?_
    refine gi_iload (n := 41) hX 4 dX7_top_39 rfl rfl ?_
    obtain ⟨v3, e4, h⟩ := bv_some h
    refine gi_virtV (st := []) (n := 44) hX hR kc_X0 (ly_B (kb_R (rfl : kR 54 = true))) mv_X0_putOnTop ml_X7_178 (m_X0_putOnTop Γ.2.1 Ω (54 + 2) (kb_R (rfl : kR 54 = true)) x4 v1 e4) rfl ⟨rfl, rfl⟩ rfl dX7_top_41 rfl rfl ?_
    refine gi_aload_n (n := 45) hX 0 dX7_top_44 rfl rfl rfl ?_
    refine gi_getR (n := 48) hX 3 kc_X7 ly_X7 rfl rfl fl_X7_34 dX7_top_45 rfl ?_
    obtain ⟨v5, e6, h⟩ := bv_some h
    refine gi_virtV (st := []) (n := 51) hX hR kc_X1 (ly_R (rfl : kR 54 = true)) mv_X1_go ml_X7_181 (m_X1_go Γ.2.1 Ω 54 (rfl : kR 54 = true) v3 e6) rfl ⟨rfl, rfl⟩ rfl dX7_top_48 rfl rfl ?_
    refine gi_aload_n (n := 52) hX 0 dX7_top_51 rfl rfl rfl ?_
    refine gi_getR (n := 55) hX 3 kc_X7 ly_X7 rfl rfl fl_X7_34 dX7_top_52 rfl ?_
    obtain ⟨r9, v7, e8, h⟩ := bi_some h
    refine gi_virtI (st := []) (n := 58) hX hR kc_X1 (ly_R (rfl : kR 54 = true)) mv_X1_servedAtLast ml_X7_168 (m_X1_servedAtLast Γ.2.1 Ω 54 (rfl : kR 54 = true) v5 e8) rfl ⟨rfl, rfl⟩ rfl dX7_top_55 rfl rfl ?_
    refine gi_istore (n := 60) hX [(5, .int r9), (0, .ref (Ω.1 0)), (1, .int x1), (2, .int x2), (3, .int x3), (4, .int x4)] dX7_top_58 rfl rfl rfl ?_
    refine gi_iload (n := 62) hX 0 dX7_top_60 rfl rfl ?_
    refine gi_iload_n (n := 63) hX 4 dX7_top_62 rfl rfl rfl ?_
    refine gi_icmp_le (tgt := 72) (n := 66) hX dX7_top_63 rfl rfl h (fun h => ?_) (fun h => ?_)
    · refine gi_sub [1, 2, 3, 4, 5] rfl ?_
      exact t_X7_top_J72 hX hR x1 x2 x3 x4 v7 h hc hz
    · refine gi_iload (n := 68) hX 0 dX7_top_66 rfl rfl ?_
      refine gi_istore_n (n := 69) hX [(3, .int r9), (5, .int r9), (0, .ref (Ω.1 0)), (1, .int x1), (2, .int x2), (4, .int x4)] dX7_top_68 rfl rfl rfl rfl ?_
      refine gi_iload (n := 71) hX 5 dX7_top_69 rfl rfl ?_
      refine gi_istore_n (n := 72) hX [(2, .int x4), (3, .int r9), (5, .int r9), (0, .ref (Ω.1 0)), (1, .int x1), (4, .int x4)] dX7_top_71 rfl rfl rfl rfl ?_
      refine gi_sub [3, 4, 0, 1, 5] rfl ?_
      exact t_X7_top_J72 hX hR x1 x4 r9 x4 v7 h hc hz
set_option maxRecDepth 20000 in
theorem t_X7_top {Γ : gC} {Ω : gO} {r0 : Int32} {v0 : gV} (hX : gx_X Γ Ω cX7_top RX7 6 (some .int)) (hR : Γ.2.2.2.1 = gx_R 4) (x1 : Int32) (v : gV) (h : f_X7_top x1 v = some (r0, v0)) : gx_G Γ Ω LX (gx_Q Γ Ω LX (some (.int r0)) v0) 6 v 0 [(0, .ref (Ω.1 0)), (1, .int x1)] [] := by
  rw [f_X7_top] at h
  refine gi_iload_n (n := 1) hX 1 dX7_top_0 rfl rfl rfl ?_
  refine gi_iconst (x := (2 : Int32)) (n := 2) hX rfl dX7_top_1 rfl ?_
  obtain ⟨r3, v1, e2, h⟩ := bi_some h
  refine gi_statI (st := []) (n := 5) hX hR ms_X7_isOutside ml_X7_70 (m_X7_isOutside Γ.2.1 Ω x1 (2 : Int32) v e2) rfl ⟨rfl, rfl⟩ rfl dX7_top_2 rfl rfl ?_
  refine gi_if_eq (tgt := 11) (n := 8) hX dX7_top_5 rfl rfl h (fun h => ?_) (fun h => ?_)
  · refine gi_iconst (x := (0 : Int32)) (n := 12) hX rfl dX7_top_11 rfl ?_
    refine gi_istore_n (n := 13) hX [(2, .int (0 : Int32)), (0, .ref (Ω.1 0)), (1, .int x1)] dX7_top_12 rfl rfl rfl rfl ?_
    refine gi_iconst (x := (-1 : Int32)) (n := 14) hX rfl dX7_top_13 rfl ?_
    refine gi_istore_n (n := 15) hX [(3, .int (-1 : Int32)), (2, .int (0 : Int32)), (0, .ref (Ω.1 0)), (1, .int x1)] dX7_top_14 rfl rfl rfl rfl ?_
    refine gi_iconst (x := (0 : Int32)) (n := 16) hX rfl dX7_top_15 rfl ?_
    refine gi_istore (n := 18) hX [(4, .int (0 : Int32)), (3, .int (-1 : Int32)), (2, .int (0 : Int32)), (0, .ref (Ω.1 0)), (1, .int x1)] dX7_top_16 rfl rfl rfl ?_
    refine gi_sub [3, 4, 2, 1, 0] rfl ?_
    have key := lp_ind (f := (fun a : gV × Int32 × Int32 × Int32 => f_X7_top_B18 x1 a.2.1 a.2.2.1 a.2.2.2 a.1)) (P := (fun a : gV × Int32 × Int32 × Int32 => gx_G Γ Ω LX (gx_Q Γ Ω LX (some (.int r0)) v0) 6 a.1 18 [(0, .ref (Ω.1 0)), (1, .int x1), (2, .int a.2.1), (3, .int a.2.2.1), (4, .int a.2.2.2)] [])) (Z := (fun z : gV × Int32 × Int32 => gx_G Γ Ω LX (gx_Q Γ Ω LX (some (.int r0)) v0) 6 z.1 78 [(1, .int x1), (2, .int z.2.1), (3, .int z.2.2)] [])) (fun a o h hc hz => t_X7_top_B18 hX hR x1 a.2.1 a.2.2.1 a.2.2.2 a.1 h (fun c0 c1 c2 c3 e => hc (c0, c1, c2, c3) e) (fun z0 z1 z2 e => hz (z0, z1, z2) e)) fu
    obtain ⟨v4, y5, y6, e0, h⟩ := bx3_some h
    refine key (v1, (0 : Int32), (-1 : Int32), (0 : Int32)) _ e0 ?_
    show gx_G Γ Ω LX (gx_Q Γ Ω LX (some (.int r0)) v0) 6 v4 78 [(1, .int x1), (2, .int y5), (3, .int y6)] []
    refine gi_iload_n (n := 79) hX 0 dX7_top_78 rfl rfl rfl ?_
    refine gi_if_ne (tgt := 86) (n := 82) hX dX7_top_79 rfl rfl h (fun h => ?_) (fun h => ?_)
    · refine gi_iload_n (n := 87) hX 2 dX7_top_86 rfl rfl rfl ?_
      exact gi_iret hX rfl dX7_top_87 h
    · refine gi_iload_n (n := 83) hX 1 dX7_top_82 rfl rfl rfl ?_
      refine gi_goto (n := 87) hX dX7_top_83 rfl ?_
      exact gi_iret hX rfl dX7_top_87 h
  · refine gi_bipush (x := (-2 : Int32)) (n := 10) hX rfl dX7_top_8 rfl ?_
    exact gi_iret hX rfl dX7_top_10 h
theorem m_X7_top (l : Launch) (Ω : gO) (x1 : Int32) (v : gV) {r0 : Int32} {v0 : gV} (h : f_X7_top x1 v = some (r0, v0)) : gx_M l Ω LX yX7_top cX7_top 6 (some .int) 4 [.ref (Ω.1 0), .int x1] v (some (.int r0)) v0 := gx_start (lv := [(0, .ref (Ω.1 0)), (1, .int x1)]) (by decide +kernel) (Nat.le_of_ble_eq_true rfl) rfl (fun Γ _ hR hX => t_X7_top hX hR x1 v h)
set_option maxRecDepth 20000 in
theorem t_X7_was_J42 {Γ : gC} {Ω : gO} {r0 : Int32} {v0 : gV} {o : (gV × Int32 × Int32) ⊕ (gV × Int32)} (hX : gx_X Γ Ω cX7_was RX7 3 (some .int)) (hR : Γ.2.2.2.1 = gx_R 5) (x1 : Int32) (x2 : Int32) (v : gV) (h : f_X7_was_J42 x1 x2 v = some o) (hc : ∀ c0 c1 c2, o = .inl (c0, c1, c2) → gx_G Γ Ω LX (gx_Q Γ Ω LX (some (.int r0)) v0) 3 c0 4 [(0, .ref (Ω.1 0)), (1, .int c1), (2, .int c2)] []) (hz : ∀ z0 z1, o = .inr (z0, z1) → gx_G Γ Ω LX (gx_Q Γ Ω LX (some (.int r0)) v0) 3 z0 48 [(1, .int z1)] []) : gx_G Γ Ω LX (gx_Q Γ Ω LX (some (.int r0)) v0) 3 v 42 [(0, .ref (Ω.1 0)), (1, .int x1), (2, .int x2)] [] := by
  rw [f_X7_was_J42] at h
  refine gi_iinc (z := (1 : Int32)) (n := 45) hX 2 [(2, .int (x2 + (1 : Int32))), (0, .ref (Ω.1 0)), (1, .int x1)] dX7_was_42 rfl rfl rfl rfl rfl rfl ?_
  refine gi_goto (n := 4) hX dX7_was_45 rfl ?_
  refine gi_sub [1, 2, 0] rfl ?_
  exact hc _ _ _ (Option.some.inj h).symm
set_option maxRecDepth 20000 in
theorem t_X7_was_B4 {Γ : gC} {Ω : gO} {r0 : Int32} {v0 : gV} {o : (gV × Int32 × Int32) ⊕ (gV × Int32)} (hX : gx_X Γ Ω cX7_was RX7 3 (some .int)) (hR : Γ.2.2.2.1 = gx_R 5) (x1 : Int32) (x2 : Int32) (v : gV) (h : f_X7_was_B4 x1 x2 v = some o) (hc : ∀ c0 c1 c2, o = .inl (c0, c1, c2) → gx_G Γ Ω LX (gx_Q Γ Ω LX (some (.int r0)) v0) 3 c0 4 [(0, .ref (Ω.1 0)), (1, .int c1), (2, .int c2)] []) (hz : ∀ z0 z1, o = .inr (z0, z1) → gx_G Γ Ω LX (gx_Q Γ Ω LX (some (.int r0)) v0) 3 z0 48 [(1, .int z1)] []) : gx_G Γ Ω LX (gx_Q Γ Ω LX (some (.int r0)) v0) 3 v 4 [(0, .ref (Ω.1 0)), (1, .int x1), (2, .int x2)] [] := by
  rw [f_X7_was_B4] at h
  refine gi_iload_n (n := 5) hX 2 dX7_was_4 rfl rfl rfl ?_
  refine gi_bipush (x := (9 : Int32)) (n := 7) hX rfl dX7_was_5 rfl ?_
  refine gi_icmp_gt (tgt := 48) (n := 10) hX dX7_was_7 rfl rfl h (fun h => ?_) (fun h => ?_)
  · refine gi_sub [1] rfl ?_
    exact hz _ _ (Option.some.inj h).symm
  · refine gi_aload_n (n := 11) hX 0 dX7_was_10 rfl rfl rfl ?_
    refine gi_iload_n (n := 12) hX 2 dX7_was_11 rfl rfl rfl ?_
    obtain ⟨v1, e2, h⟩ := bv_some h
    refine gi_virtV (st := []) (n := 15) hX hR kc_X7 ly_X7 mv_X7_rideWithEven ml_X7_165 (m_X7_rideWithEven Γ.2.1 Ω x2 v e2) rfl ⟨rfl, rfl⟩ rfl dX7_was_12 rfl rfl ?_
    refine gi_aload_n (n := 16) hX 0 dX7_was_15 rfl rfl rfl ?_
    refine gi_getR (n := 19) hX 5 kc_X7 ly_X7 rfl rfl fl_X7_47 dX7_was_16 rfl ?_
    refine gi_aload_n (n := 20) hX 0 dX7_was_19 rfl rfl rfl ?_
    refine gi_getR (n := 23) hX 3 kc_X7 ly_X7 rfl rfl fl_X7_34 dX7_was_20 rfl ?_
    refine gi_aload_n (n := 24) hX 0 dX7_was_23 rfl rfl rfl ?_
    refine gi_getR (n := 27) hX 1 kc_X7 ly_X7 rfl rfl fl_X7_21 dX7_was_24 rfl ?_
    refine gi_getI (n := 30) hX 0 kc_X6 ly_X6 rfl rfl fl_X7_92 dX7_was_27 rfl ?_
    obtain ⟨r5, v3, e4, h⟩ := bi_some h
    refine gi_virtI (st := []) (n := 33) hX hR kc_X3 ly_X3 mv_X3_comeOutIn ml_X7_205 (m_X3_comeOutIn Γ.2.1 Ω 54 (rfl : kR 54 = true) (v1.1 6 0) v1 e4) rfl ⟨rfl, rfl⟩ rfl dX7_was_30 rfl rfl ?_
    refine gi_if_eq (tgt := 42) (n := 36) hX dX7_was_33 rfl rfl h (fun h => ?_) (fun h => ?_)
    · exact t_X7_was_J42 hX hR x1 x2 v3 h hc hz
    · refine gi_iload_n (n := 37) hX 1 dX7_was_36 rfl rfl rfl ?_
      refine gi_iconst (x := (1 : Int32)) (n := 38) hX rfl dX7_was_37 rfl ?_
      refine gi_iload_n (n := 39) hX 2 dX7_was_38 rfl rfl rfl ?_
      refine gi_ishl (n := 40) hX dX7_was_39 rfl ?_
      refine gi_ior (n := 41) hX dX7_was_40 rfl ?_
      refine gi_topI h (fun u6 h => ?_)
      refine gi_istore_n (n := 42) hX [(1, .int u6), (0, .ref (Ω.1 0)), (2, .int x2)] dX7_was_41 rfl rfl rfl rfl ?_
      refine gi_sub [1, 0, 2] rfl ?_
      exact t_X7_was_J42 hX hR u6 x2 v3 h hc hz
set_option maxRecDepth 20000 in
theorem t_X7_was {Γ : gC} {Ω : gO} {r0 : Int32} {v0 : gV} (hX : gx_X Γ Ω cX7_was RX7 3 (some .int)) (hR : Γ.2.2.2.1 = gx_R 5)  (v : gV) (h : f_X7_was  v = some (r0, v0)) : gx_G Γ Ω LX (gx_Q Γ Ω LX (some (.int r0)) v0) 3 v 0 [(0, .ref (Ω.1 0))] [] := by
  rw [f_X7_was] at h
  refine gi_iconst (x := (0 : Int32)) (n := 1) hX rfl dX7_was_0 rfl ?_
  refine gi_istore_n (n := 2) hX [(1, .int (0 : Int32)), (0, .ref (Ω.1 0))] dX7_was_1 rfl rfl rfl rfl ?_
  refine gi_iconst (x := (0 : Int32)) (n := 3) hX rfl dX7_was_2 rfl ?_
  refine gi_istore_n (n := 4) hX [(2, .int (0 : Int32)), (1, .int (0 : Int32)), (0, .ref (Ω.1 0))] dX7_was_3 rfl rfl rfl rfl ?_
  refine gi_sub [2, 1, 0] rfl ?_
  have key := lp_ind (f := (fun a : gV × Int32 × Int32 => f_X7_was_B4 a.2.1 a.2.2 a.1)) (P := (fun a : gV × Int32 × Int32 => gx_G Γ Ω LX (gx_Q Γ Ω LX (some (.int r0)) v0) 3 a.1 4 [(0, .ref (Ω.1 0)), (1, .int a.2.1), (2, .int a.2.2)] [])) (Z := (fun z : gV × Int32 => gx_G Γ Ω LX (gx_Q Γ Ω LX (some (.int r0)) v0) 3 z.1 48 [(1, .int z.2)] [])) (fun a o h hc hz => t_X7_was_B4 hX hR a.2.1 a.2.2 a.1 h (fun c0 c1 c2 e => hc (c0, c1, c2) e) (fun z0 z1 e => hz (z0, z1) e)) fu
  obtain ⟨v1, y2, e0, h⟩ := bx2_some h
  refine key (v, (0 : Int32), (0 : Int32)) _ e0 ?_
  show gx_G Γ Ω LX (gx_Q Γ Ω LX (some (.int r0)) v0) 3 v1 48 [(1, .int y2)] []
  refine gi_iload_n (n := 49) hX 0 dX7_was_48 rfl rfl rfl ?_
  exact gi_iret hX rfl dX7_was_49 h
theorem m_X7_was (l : Launch) (Ω : gO) (v : gV) {r0 : Int32} {v0 : gV} (h : f_X7_was v = some (r0, v0)) : gx_M l Ω LX yX7_was cX7_was 3 (some .int) 5 [.ref (Ω.1 0)] v (some (.int r0)) v0 := gx_start (lv := [(0, .ref (Ω.1 0))]) (by decide +kernel) (Nat.le_of_ble_eq_true rfl) rfl (fun Γ _ hR hX => t_X7_was hX hR v h)
set_option maxRecDepth 20000 in
theorem t_X7_digest_B6 {Γ : gC} {Ω : gO} {r0 : Int64} {v0 : gV} {o : (gV × Int64 × Int32) ⊕ (gV × Int64)} (hX : gx_X Γ Ω cX7_digest RX7 5 (some .long)) (hR : Γ.2.2.2.1 = gx_R 6) (x1 : Int64) (x3 : Int32) (v : gV) (h : f_X7_digest_B6 x1 x3 v = some o) (hc : ∀ c0 c1 c2, o = .inl (c0, c1, c2) → gx_G Γ Ω LX (gx_Q Γ Ω LX (some (.long r0)) v0) 5 c0 6 [(0, .ref (Ω.1 0)), (1, .long c1), (3, .int c2)] []) (hz : ∀ z0 z1, o = .inr (z0, z1) → gx_G Γ Ω LX (gx_Q Γ Ω LX (some (.long r0)) v0) 5 z0 29 [(0, .ref (Ω.1 0)), (1, .long z1)] []) : gx_G Γ Ω LX (gx_Q Γ Ω LX (some (.long r0)) v0) 5 v 6 [(0, .ref (Ω.1 0)), (1, .long x1), (3, .int x3)] [] := by
  rw [f_X7_digest_B6] at h
  refine gi_iload_n (n := 7) hX 2 dX7_digest_6 rfl rfl rfl ?_
  refine gi_bipush (x := (8 : Int32)) (n := 9) hX rfl dX7_digest_7 rfl ?_
  refine gi_icmp_ge (tgt := 29) (n := 12) hX dX7_digest_9 rfl rfl h (fun h => ?_) (fun h => ?_)
  · refine gi_sub [0, 1] rfl ?_
    exact hz _ _ (Option.some.inj h).symm
  · refine gi_lload_n (n := 13) hX 1 dX7_digest_12 rfl rfl rfl ?_
    refine gi_aload_n (n := 14) hX 0 dX7_digest_13 rfl rfl rfl ?_
    refine gi_iload_n (n := 15) hX 2 dX7_digest_14 rfl rfl rfl ?_
    obtain ⟨r3, v1, e2, h⟩ := bi_some h
    refine gi_virtI (st := [.long x1]) (n := 18) hX hR kc_X7 ly_X7 mv_X7_count ml_X7_281 (m_X7_count Γ.2.1 Ω x3 v e2) rfl ⟨rfl, rfl⟩ rfl dX7_digest_15 rfl rfl ?_
    refine gi_i2l (n := 19) hX dX7_digest_18 rfl ?_
    obtain ⟨r6, v4, e5, h⟩ := bj_some h
    refine gi_statJ (st := []) (n := 22) hX hR ms_X7_mix ml_X7_284 (m_X7_mix Γ.2.1 Ω x1 ((r3).toInt64) v1 e5) rfl ⟨rfl, rfl⟩ rfl dX7_digest_19 rfl rfl ?_
    refine gi_lstore_n (n := 23) hX [(1, .long r6), (0, .ref (Ω.1 0)), (3, .int x3)] dX7_digest_22 rfl rfl rfl rfl ?_
    refine gi_iinc (z := (1 : Int32)) (n := 26) hX 2 [(3, .int (x3 + (1 : Int32))), (1, .long r6), (0, .ref (Ω.1 0))] dX7_digest_23 rfl rfl rfl rfl rfl rfl ?_
    refine gi_goto (n := 6) hX dX7_digest_26 rfl ?_
    refine gi_sub [2, 1, 0] rfl ?_
    exact hc _ _ _ (Option.some.inj h).symm
set_option maxRecDepth 20000 in
theorem t_X7_digest_B65 {Γ : gC} {Ω : gO} {r0 : Int64} {v0 : gV} {o : (gV × Int64 × Int32) ⊕ (gV × Int64)} (hX : gx_X Γ Ω cX7_digest RX7 5 (some .long)) (hR : Γ.2.2.2.1 = gx_R 6) (x1 : Int64) (x3 : Int32) (x4 : Int32) (v : gV) (h : f_X7_digest_B65 x1 x3 x4 v = some o) (hc : ∀ c0 c1 c2, o = .inl (c0, c1, c2) → gx_G Γ Ω LX (gx_Q Γ Ω LX (some (.long r0)) v0) 5 c0 65 [(0, .ref (Ω.1 0)), (1, .long c1), (3, .int x3), (4, .int c2)] []) (hz : ∀ z0 z1, o = .inr (z0, z1) → gx_G Γ Ω LX (gx_Q Γ Ω LX (some (.long r0)) v0) 5 z0 90 [(0, .ref (Ω.1 0)), (1, .long z1), (3, .int x3)] []) : gx_G Γ Ω LX (gx_Q Γ Ω LX (some (.long r0)) v0) 5 v 65 [(0, .ref (Ω.1 0)), (1, .long x1), (3, .int x3), (4, .int x4)] [] := by
  rw [f_X7_digest_B65] at h
  refine gi_iload (n := 67) hX 3 dX7_digest_65 rfl rfl ?_
  refine gi_iconst (x := (4 : Int32)) (n := 68) hX rfl dX7_digest_67 rfl ?_
  refine gi_icmp_ge (tgt := 90) (n := 71) hX dX7_digest_68 rfl rfl h (fun h => ?_) (fun h => ?_)
  · refine gi_sub [0, 1, 2] rfl ?_
    exact hz _ _ (Option.some.inj h).symm
  · refine gi_lload_n (n := 72) hX 1 dX7_digest_71 rfl rfl rfl ?_
    refine gi_aload_n (n := 73) hX 0 dX7_digest_72 rfl rfl rfl ?_
    refine gi_iload_n (n := 74) hX 2 dX7_digest_73 rfl rfl rfl ?_
    refine gi_iload (n := 76) hX 3 dX7_digest_74 rfl rfl ?_
    obtain ⟨r3, v1, e2, h⟩ := bi_some h
    refine gi_virtI (st := [.long x1]) (n := 79) hX hR kc_X7 ly_X7 mv_X7_rider ml_X7_291 (m_X7_rider Γ.2.1 Ω x3 x4 v e2) rfl ⟨rfl, rfl⟩ rfl dX7_digest_76 rfl rfl ?_
    refine gi_i2l (n := 80) hX dX7_digest_79 rfl ?_
    obtain ⟨r6, v4, e5, h⟩ := bj_some h
    refine gi_statJ (st := []) (n := 83) hX hR ms_X7_mix ml_X7_284 (m_X7_mix Γ.2.1 Ω x1 ((r3).toInt64) v1 e5) rfl ⟨rfl, rfl⟩ rfl dX7_digest_80 rfl rfl ?_
    refine gi_lstore_n (n := 84) hX [(1, .long r6), (0, .ref (Ω.1 0)), (3, .int x3), (4, .int x4)] dX7_digest_83 rfl rfl rfl rfl ?_
    refine gi_iinc (z := (1 : Int32)) (n := 87) hX 3 [(4, .int (x4 + (1 : Int32))), (1, .long r6), (0, .ref (Ω.1 0)), (3, .int x3)] dX7_digest_84 rfl rfl rfl rfl rfl rfl ?_
    refine gi_goto (n := 65) hX dX7_digest_87 rfl ?_
    refine gi_sub [2, 1, 3, 0] rfl ?_
    exact hc _ _ _ (Option.some.inj h).symm
set_option maxRecDepth 20000 in
theorem t_X7_digest_B51 {Γ : gC} {Ω : gO} {r0 : Int64} {v0 : gV} {o : (gV × Int64 × Int32) ⊕ (gV × Int64)} (hX : gx_X Γ Ω cX7_digest RX7 5 (some .long)) (hR : Γ.2.2.2.1 = gx_R 6) (x1 : Int64) (x3 : Int32) (v : gV) (h : f_X7_digest_B51 x1 x3 v = some o) (hc : ∀ c0 c1 c2, o = .inl (c0, c1, c2) → gx_G Γ Ω LX (gx_Q Γ Ω LX (some (.long r0)) v0) 5 c0 51 [(0, .ref (Ω.1 0)), (1, .long c1), (3, .int c2)] []) (hz : ∀ z0 z1, o = .inr (z0, z1) → gx_G Γ Ω LX (gx_Q Γ Ω LX (some (.long r0)) v0) 5 z0 194 [(0, .ref (Ω.1 0)), (1, .long z1)] []) : gx_G Γ Ω LX (gx_Q Γ Ω LX (some (.long r0)) v0) 5 v 51 [(0, .ref (Ω.1 0)), (1, .long x1), (3, .int x3)] [] := by
  rw [f_X7_digest_B51] at h
  refine gi_iload_n (n := 52) hX 2 dX7_digest_51 rfl rfl rfl ?_
  refine gi_aload_n (n := 53) hX 0 dX7_digest_52 rfl rfl rfl ?_
  refine gi_getR (n := 56) hX 1 kc_X7 ly_X7 rfl rfl fl_X7_21 dX7_digest_53 rfl ?_
  refine gi_getI (n := 59) hX 0 kc_X6 ly_X6 rfl rfl fl_X7_92 dX7_digest_56 rfl ?_
  refine gi_icmp_ge (tgt := 194) (n := 62) hX dX7_digest_59 rfl rfl h (fun h => ?_) (fun h => ?_)
  · refine gi_sub [0, 1] rfl ?_
    exact hz _ _ (Option.some.inj h).symm
  · refine gi_iconst (x := (0 : Int32)) (n := 63) hX rfl dX7_digest_62 rfl ?_
    refine gi_istore (n := 65) hX [(4, .int (0 : Int32)), (0, .ref (Ω.1 0)), (1, .long x1), (3, .int x3)] dX7_digest_63 rfl rfl rfl ?_
    refine gi_sub [1, 2, 3, 0] rfl ?_
    have key := lp_ind (f := (fun a : gV × Int64 × Int32 => f_X7_digest_B65 a.2.1 x3 a.2.2 a.1)) (P := (fun a : gV × Int64 × Int32 => gx_G Γ Ω LX (gx_Q Γ Ω LX (some (.long r0)) v0) 5 a.1 65 [(0, .ref (Ω.1 0)), (1, .long a.2.1), (3, .int x3), (4, .int a.2.2)] [])) (Z := (fun z : gV × Int64 => gx_G Γ Ω LX (gx_Q Γ Ω LX (some (.long r0)) v0) 5 z.1 90 [(0, .ref (Ω.1 0)), (1, .long z.2), (3, .int x3)] [])) (fun a o h hc hz => t_X7_digest_B65 hX hR a.2.1 x3 a.2.2 a.1 h (fun c0 c1 c2 e => hc (c0, c1, c2) e) (fun z0 z1 e => hz (z0, z1) e)) fu
    obtain ⟨v1, y2, e0, h⟩ := bx2_some h
    refine key (v, x1, (0 : Int32)) _ e0 ?_
    show gx_G Γ Ω LX (gx_Q Γ Ω LX (some (.long r0)) v0) 5 v1 90 [(0, .ref (Ω.1 0)), (1, .long y2), (3, .int x3)] []
    refine gi_lload_n (n := 91) hX 1 dX7_digest_90 rfl rfl rfl ?_
    refine gi_aload_n (n := 92) hX 0 dX7_digest_91 rfl rfl rfl ?_
    refine gi_iconst (x := (0 : Int32)) (n := 93) hX rfl dX7_digest_92 rfl ?_
    refine gi_iload_n (n := 94) hX 2 dX7_digest_93 rfl rfl rfl ?_
    obtain ⟨r5, v3, e4, h⟩ := bi_some h
    refine gi_virtI (st := [.long y2]) (n := 97) hX hR kc_X7 ly_X7 mv_X7_has ml_X7_294 (m_X7_has Γ.2.1 Ω (0 : Int32) x3 v1 e4) rfl ⟨rfl, rfl⟩ rfl dX7_digest_94 rfl rfl ?_
    refine gi_i2l (n := 98) hX dX7_digest_97 rfl ?_
    obtain ⟨r8, v6, e7, h⟩ := bj_some h
    refine gi_statJ (st := []) (n := 101) hX hR ms_X7_mix ml_X7_284 (m_X7_mix Γ.2.1 Ω y2 ((r5).toInt64) v3 e7) rfl ⟨rfl, rfl⟩ rfl dX7_digest_98 rfl rfl ?_
    refine gi_aload_n (n := 102) hX 0 dX7_digest_101 rfl rfl rfl ?_
    refine gi_bipush (x := (9 : Int32)) (n := 104) hX rfl dX7_digest_102 rfl ?_
    refine gi_iload_n (n := 105) hX 2 dX7_digest_104 rfl rfl rfl ?_
    obtain ⟨r11, v9, e10, h⟩ := bi_some h
    refine gi_virtI (st := [.long r8]) (n := 108) hX hR kc_X7 ly_X7 mv_X7_has ml_X7_294 (m_X7_has Γ.2.1 Ω (9 : Int32) x3 v6 e10) rfl ⟨rfl, rfl⟩ rfl dX7_digest_105 rfl rfl ?_
    refine gi_i2l (n := 109) hX dX7_digest_108 rfl ?_
    obtain ⟨r14, v12, e13, h⟩ := bj_some h
    refine gi_statJ (st := []) (n := 112) hX hR ms_X7_mix ml_X7_284 (m_X7_mix Γ.2.1 Ω r8 ((r11).toInt64) v9 e13) rfl ⟨rfl, rfl⟩ rfl dX7_digest_109 rfl rfl ?_
    refine gi_aload_n (n := 113) hX 0 dX7_digest_112 rfl rfl rfl ?_
    refine gi_bipush (x := (9 : Int32)) (n := 115) hX rfl dX7_digest_113 rfl ?_
    refine gi_iload_n (n := 116) hX 2 dX7_digest_115 rfl rfl rfl ?_
    obtain ⟨r17, v15, e16, h⟩ := bi_some h
    refine gi_virtI (st := [.long r14]) (n := 119) hX hR kc_X7 ly_X7 mv_X7_torn ml_X7_296 (m_X7_torn Γ.2.1 Ω (9 : Int32) x3 v12 e16) rfl ⟨rfl, rfl⟩ rfl dX7_digest_116 rfl rfl ?_
    refine gi_i2l (n := 120) hX dX7_digest_119 rfl ?_
    obtain ⟨r20, v18, e19, h⟩ := bj_some h
    refine gi_statJ (st := []) (n := 123) hX hR ms_X7_mix ml_X7_284 (m_X7_mix Γ.2.1 Ω r14 ((r17).toInt64) v15 e19) rfl ⟨rfl, rfl⟩ rfl dX7_digest_120 rfl rfl ?_
    refine gi_aload_n (n := 124) hX 0 dX7_digest_123 rfl rfl rfl ?_
    refine gi_iload_n (n := 125) hX 2 dX7_digest_124 rfl rfl rfl ?_
    obtain ⟨r23, v21, e22, h⟩ := bi_some h
    refine gi_virtI (st := [.long r20]) (n := 128) hX hR kc_X7 ly_X7 mv_X7_gets ml_X7_299 (m_X7_gets Γ.2.1 Ω x3 v18 e22) rfl ⟨rfl, rfl⟩ rfl dX7_digest_125 rfl rfl ?_
    refine gi_i2l (n := 129) hX dX7_digest_128 rfl ?_
    obtain ⟨r26, v24, e25, h⟩ := bj_some h
    refine gi_statJ (st := []) (n := 132) hX hR ms_X7_mix ml_X7_284 (m_X7_mix Γ.2.1 Ω r20 ((r23).toInt64) v21 e25) rfl ⟨rfl, rfl⟩ rfl dX7_digest_129 rfl rfl ?_
    refine gi_lstore_n (n := 133) hX [(1, .long r26), (0, .ref (Ω.1 0)), (3, .int x3)] dX7_digest_132 rfl rfl rfl rfl ?_
    refine gi_lload_n (n := 134) hX 0 dX7_digest_133 rfl rfl rfl ?_
    refine gi_aload_n (n := 135) hX 1 dX7_digest_134 rfl rfl rfl ?_
    refine gi_iload_n (n := 136) hX 2 dX7_digest_135 rfl rfl rfl ?_
    refine gi_iconst (x := (0 : Int32)) (n := 137) hX rfl dX7_digest_136 rfl ?_
    obtain ⟨r29, v27, e28, h⟩ := bi_some h
    refine gi_virtI (st := [.long r26]) (n := 140) hX hR kc_X7 ly_X7 mv_X7_open ml_X7_302 (m_X7_open Γ.2.1 Ω x3 (0 : Int32) v24 e28) rfl ⟨rfl, rfl⟩ rfl dX7_digest_137 rfl rfl ?_
    refine gi_i2l (n := 141) hX dX7_digest_140 rfl ?_
    obtain ⟨r32, v30, e31, h⟩ := bj_some h
    refine gi_statJ (st := []) (n := 144) hX hR ms_X7_mix ml_X7_284 (m_X7_mix Γ.2.1 Ω r26 ((r29).toInt64) v27 e31) rfl ⟨rfl, rfl⟩ rfl dX7_digest_141 rfl rfl ?_
    refine gi_aload_n (n := 145) hX 1 dX7_digest_144 rfl rfl rfl ?_
    refine gi_iload_n (n := 146) hX 2 dX7_digest_145 rfl rfl rfl ?_
    refine gi_iconst (x := (1 : Int32)) (n := 147) hX rfl dX7_digest_146 rfl ?_
    obtain ⟨r35, v33, e34, h⟩ := bi_some h
    refine gi_virtI (st := [.long r32]) (n := 150) hX hR kc_X7 ly_X7 mv_X7_open ml_X7_302 (m_X7_open Γ.2.1 Ω x3 (1 : Int32) v30 e34) rfl ⟨rfl, rfl⟩ rfl dX7_digest_147 rfl rfl ?_
    refine gi_i2l (n := 151) hX dX7_digest_150 rfl ?_
    obtain ⟨r38, v36, e37, h⟩ := bj_some h
    refine gi_statJ (st := []) (n := 154) hX hR ms_X7_mix ml_X7_284 (m_X7_mix Γ.2.1 Ω r32 ((r35).toInt64) v33 e37) rfl ⟨rfl, rfl⟩ rfl dX7_digest_151 rfl rfl ?_
    refine gi_aload_n (n := 155) hX 1 dX7_digest_154 rfl rfl rfl ?_
    refine gi_iload_n (n := 156) hX 2 dX7_digest_155 rfl rfl rfl ?_
    obtain ⟨r41, v39, e40, h⟩ := bi_some h
    refine gi_virtI (st := [.long r38]) (n := 159) hX hR kc_X7 ly_X7 mv_X7_had ml_X7_305 (m_X7_had Γ.2.1 Ω x3 v36 e40) rfl ⟨rfl, rfl⟩ rfl dX7_digest_156 rfl rfl ?_
    refine gi_i2l (n := 160) hX dX7_digest_159 rfl ?_
    obtain ⟨r44, v42, e43, h⟩ := bj_some h
    refine gi_statJ (st := []) (n := 163) hX hR ms_X7_mix ml_X7_284 (m_X7_mix Γ.2.1 Ω r38 ((r41).toInt64) v39 e43) rfl ⟨rfl, rfl⟩ rfl dX7_digest_160 rfl rfl ?_
    refine gi_lstore_n (n := 164) hX [(1, .long r44), (0, .ref (Ω.1 0)), (3, .int x3)] dX7_digest_163 rfl rfl rfl rfl ?_
    refine gi_lload_n (n := 165) hX 0 dX7_digest_164 rfl rfl rfl ?_
    refine gi_aload_n (n := 166) hX 1 dX7_digest_165 rfl rfl rfl ?_
    refine gi_iconst (x := (5 : Int32)) (n := 167) hX rfl dX7_digest_166 rfl ?_
    refine gi_iconst (x := (3 : Int32)) (n := 168) hX rfl dX7_digest_167 rfl ?_
    refine gi_iload_n (n := 169) hX 2 dX7_digest_168 rfl rfl rfl ?_
    refine gi_iconst (x := (0 : Int32)) (n := 170) hX rfl dX7_digest_169 rfl ?_
    obtain ⟨r47, v45, e46, h⟩ := bj_some h
    refine gi_virtJ (st := [.long r44]) (n := 173) hX hR kc_X7 ly_X7 mv_X7_maybe ml_X7_308 (m_X7_maybe Γ.2.1 Ω (5 : Int32) (3 : Int32) x3 (0 : Int32) v42 e46) rfl ⟨rfl, rfl⟩ rfl dX7_digest_170 rfl rfl ?_
    obtain ⟨r50, v48, e49, h⟩ := bj_some h
    refine gi_statJ (st := []) (n := 176) hX hR ms_X7_mix ml_X7_284 (m_X7_mix Γ.2.1 Ω r44 r47 v45 e49) rfl ⟨rfl, rfl⟩ rfl dX7_digest_173 rfl rfl ?_
    refine gi_aload_n (n := 177) hX 1 dX7_digest_176 rfl rfl rfl ?_
    refine gi_iconst (x := (5 : Int32)) (n := 178) hX rfl dX7_digest_177 rfl ?_
    refine gi_iconst (x := (3 : Int32)) (n := 179) hX rfl dX7_digest_178 rfl ?_
    refine gi_iload_n (n := 180) hX 2 dX7_digest_179 rfl rfl rfl ?_
    refine gi_iconst (x := (1 : Int32)) (n := 181) hX rfl dX7_digest_180 rfl ?_
    obtain ⟨r53, v51, e52, h⟩ := bj_some h
    refine gi_virtJ (st := [.long r50]) (n := 184) hX hR kc_X7 ly_X7 mv_X7_maybe ml_X7_308 (m_X7_maybe Γ.2.1 Ω (5 : Int32) (3 : Int32) x3 (1 : Int32) v48 e52) rfl ⟨rfl, rfl⟩ rfl dX7_digest_181 rfl rfl ?_
    obtain ⟨r56, v54, e55, h⟩ := bj_some h
    refine gi_statJ (st := []) (n := 187) hX hR ms_X7_mix ml_X7_284 (m_X7_mix Γ.2.1 Ω r50 r53 v51 e55) rfl ⟨rfl, rfl⟩ rfl dX7_digest_184 rfl rfl ?_
    refine gi_lstore_n (n := 188) hX [(1, .long r56), (0, .ref (Ω.1 0)), (3, .int x3)] dX7_digest_187 rfl rfl rfl rfl ?_
    refine gi_iinc (z := (1 : Int32)) (n := 191) hX 2 [(3, .int (x3 + (1 : Int32))), (1, .long r56), (0, .ref (Ω.1 0))] dX7_digest_188 rfl rfl rfl rfl rfl rfl ?_
    refine gi_goto (n := 51) hX dX7_digest_191 rfl ?_
    refine gi_sub [2, 1, 0] rfl ?_
    exact hc _ _ _ (Option.some.inj h).symm
set_option maxRecDepth 20000 in
theorem t_X7_digest_J220 {Γ : gC} {Ω : gO} {r0 : Int64} {v0 : gV} {o : (gV × Int64 × Int32) ⊕ (gV × Int64)} (hX : gx_X Γ Ω cX7_digest RX7 5 (some .long)) (hR : Γ.2.2.2.1 = gx_R 6) (x1 : Int64) (x3 : Int32) (s0 : Int32) (v : gV) (h : f_X7_digest_J220 x1 x3 s0 v = some o) (hc : ∀ c0 c1 c2, o = .inl (c0, c1, c2) → gx_G Γ Ω LX (gx_Q Γ Ω LX (some (.long r0)) v0) 5 c0 196 [(0, .ref (Ω.1 0)), (1, .long c1), (3, .int c2)] []) (hz : ∀ z0 z1, o = .inr (z0, z1) → gx_G Γ Ω LX (gx_Q Γ Ω LX (some (.long r0)) v0) 5 z0 272 [(0, .ref (Ω.1 0)), (1, .long z1)] []) : gx_G Γ Ω LX (gx_Q Γ Ω LX (some (.long r0)) v0) 5 v 220 [(0, .ref (Ω.1 0)), (1, .long x1), (3, .int x3)] [.int s0] := by
  rw [f_X7_digest_J220] at h
  refine gi_istore (n := 222) hX [(4, .int s0), (0, .ref (Ω.1 0)), (1, .long x1), (3, .int x3)] dX7_digest_220 rfl rfl rfl ?_
  refine gi_lload_n (n := 223) hX 2 dX7_digest_222 rfl rfl rfl ?_
  refine gi_aload_n (n := 224) hX 1 dX7_digest_223 rfl rfl rfl ?_
  refine gi_iload (n := 226) hX 0 dX7_digest_224 rfl rfl ?_
  obtain ⟨r3, v1, e2, h⟩ := bi_some h
  refine gi_virtI (st := [.long x1]) (n := 229) hX hR kc_X7 ly_X7 mv_X7_served ml_X7_312 (m_X7_served Γ.2.1 Ω s0 v e2) rfl ⟨rfl, rfl⟩ rfl dX7_digest_226 rfl rfl ?_
  refine gi_i2l (n := 230) hX dX7_digest_229 rfl ?_
  obtain ⟨r6, v4, e5, h⟩ := bj_some h
  refine gi_statJ (st := []) (n := 233) hX hR ms_X7_mix ml_X7_284 (m_X7_mix Γ.2.1 Ω x1 ((r3).toInt64) v1 e5) rfl ⟨rfl, rfl⟩ rfl dX7_digest_230 rfl rfl ?_
  refine gi_aload_n (n := 234) hX 1 dX7_digest_233 rfl rfl rfl ?_
  refine gi_iload (n := 236) hX 0 dX7_digest_234 rfl rfl ?_
  refine gi_iconst (x := (-1 : Int32)) (n := 237) hX rfl dX7_digest_236 rfl ?_
  obtain ⟨r9, v7, e8, h⟩ := bi_some h
  refine gi_virtI (st := [.long r6]) (n := 240) hX hR kc_X7 ly_X7 mv_X7_bag ml_X7_315 (m_X7_bag Γ.2.1 Ω s0 (-1 : Int32) v4 e8) rfl ⟨rfl, rfl⟩ rfl dX7_digest_237 rfl rfl ?_
  refine gi_i2l (n := 241) hX dX7_digest_240 rfl ?_
  obtain ⟨r12, v10, e11, h⟩ := bj_some h
  refine gi_statJ (st := []) (n := 244) hX hR ms_X7_mix ml_X7_284 (m_X7_mix Γ.2.1 Ω r6 ((r9).toInt64) v7 e11) rfl ⟨rfl, rfl⟩ rfl dX7_digest_241 rfl rfl ?_
  refine gi_aload_n (n := 245) hX 1 dX7_digest_244 rfl rfl rfl ?_
  refine gi_iload (n := 247) hX 0 dX7_digest_245 rfl rfl ?_
  refine gi_iconst (x := (0 : Int32)) (n := 248) hX rfl dX7_digest_247 rfl ?_
  obtain ⟨r15, v13, e14, h⟩ := bi_some h
  refine gi_virtI (st := [.long r12]) (n := 251) hX hR kc_X7 ly_X7 mv_X7_bag ml_X7_315 (m_X7_bag Γ.2.1 Ω s0 (0 : Int32) v10 e14) rfl ⟨rfl, rfl⟩ rfl dX7_digest_248 rfl rfl ?_
  refine gi_i2l (n := 252) hX dX7_digest_251 rfl ?_
  obtain ⟨r18, v16, e17, h⟩ := bj_some h
  refine gi_statJ (st := []) (n := 255) hX hR ms_X7_mix ml_X7_284 (m_X7_mix Γ.2.1 Ω r12 ((r15).toInt64) v13 e17) rfl ⟨rfl, rfl⟩ rfl dX7_digest_252 rfl rfl ?_
  refine gi_aload_n (n := 256) hX 1 dX7_digest_255 rfl rfl rfl ?_
  refine gi_iload (n := 258) hX 0 dX7_digest_256 rfl rfl ?_
  obtain ⟨r21, v19, e20, h⟩ := bi_some h
  refine gi_virtI (st := [.long r18]) (n := 261) hX hR kc_X7 ly_X7 mv_X7_ask ml_X7_317 (m_X7_ask Γ.2.1 Ω s0 v16 e20) rfl ⟨rfl, rfl⟩ rfl dX7_digest_258 rfl rfl ?_
  refine gi_i2l (n := 262) hX dX7_digest_261 rfl ?_
  obtain ⟨r24, v22, e23, h⟩ := bj_some h
  refine gi_statJ (st := []) (n := 265) hX hR ms_X7_mix ml_X7_284 (m_X7_mix Γ.2.1 Ω r18 ((r21).toInt64) v19 e23) rfl ⟨rfl, rfl⟩ rfl dX7_digest_262 rfl rfl ?_
  refine gi_lstore_n (n := 266) hX [(1, .long r24), (4, .int s0), (0, .ref (Ω.1 0)), (3, .int x3)] dX7_digest_265 rfl rfl rfl rfl ?_
  refine gi_iinc (z := (1 : Int32)) (n := 269) hX 3 [(3, .int (x3 + (1 : Int32))), (1, .long r24), (4, .int s0), (0, .ref (Ω.1 0))] dX7_digest_266 rfl rfl rfl rfl rfl rfl ?_
  refine gi_goto (n := 196) hX dX7_digest_269 rfl ?_
  refine gi_sub [3, 1, 0] rfl ?_
  exact hc _ _ _ (Option.some.inj h).symm
set_option maxRecDepth 20000 in
theorem t_X7_digest_B196 {Γ : gC} {Ω : gO} {r0 : Int64} {v0 : gV} {o : (gV × Int64 × Int32) ⊕ (gV × Int64)} (hX : gx_X Γ Ω cX7_digest RX7 5 (some .long)) (hR : Γ.2.2.2.1 = gx_R 6) (x1 : Int64) (x3 : Int32) (v : gV) (h : f_X7_digest_B196 x1 x3 v = some o) (hc : ∀ c0 c1 c2, o = .inl (c0, c1, c2) → gx_G Γ Ω LX (gx_Q Γ Ω LX (some (.long r0)) v0) 5 c0 196 [(0, .ref (Ω.1 0)), (1, .long c1), (3, .int c2)] []) (hz : ∀ z0 z1, o = .inr (z0, z1) → gx_G Γ Ω LX (gx_Q Γ Ω LX (some (.long r0)) v0) 5 z0 272 [(0, .ref (Ω.1 0)), (1, .long z1)] []) : gx_G Γ Ω LX (gx_Q Γ Ω LX (some (.long r0)) v0) 5 v 196 [(0, .ref (Ω.1 0)), (1, .long x1), (3, .int x3)] [] := by
  rw [f_X7_digest_B196] at h
  refine gi_iload_n (n := 197) hX 2 dX7_digest_196 rfl rfl rfl ?_
  refine gi_iconst (x := (3 : Int32)) (n := 198) hX rfl dX7_digest_197 rfl ?_
  refine gi_icmp_ge (tgt := 272) (n := 201) hX dX7_digest_198 rfl rfl h (fun h => ?_) (fun h => ?_)
  · refine gi_sub [0, 1] rfl ?_
    exact hz _ _ (Option.some.inj h).symm
  · refine gi_iload_n (n := 202) hX 2 dX7_digest_201 rfl rfl rfl ?_
    refine gi_if_ne (tgt := 209) (n := 205) hX dX7_digest_202 rfl rfl h (fun h => ?_) (fun h => ?_)
    · refine gi_iload_n (n := 210) hX 2 dX7_digest_209 rfl rfl rfl ?_
      refine gi_iconst (x := (1 : Int32)) (n := 211) hX rfl dX7_digest_210 rfl ?_
      refine gi_icmp_ne (tgt := 218) (n := 214) hX dX7_digest_211 rfl rfl h (fun h => ?_) (fun h => ?_)
      · refine gi_bipush (x := (9 : Int32)) (n := 220) hX rfl dX7_digest_218 rfl ?_
        exact t_X7_digest_J220 hX hR x1 x3 (9 : Int32) v h hc hz
      · refine gi_iconst (x := (4 : Int32)) (n := 215) hX rfl dX7_digest_214 rfl ?_
        refine gi_goto (n := 220) hX dX7_digest_215 rfl ?_
        exact t_X7_digest_J220 hX hR x1 x3 (4 : Int32) v h hc hz
    · refine gi_iconst (x := (0 : Int32)) (n := 206) hX rfl dX7_digest_205 rfl ?_
      refine gi_goto (n := 220) hX dX7_digest_206 rfl ?_
      exact t_X7_digest_J220 hX hR x1 x3 (0 : Int32) v h hc hz
set_option maxRecDepth 20000 in
theorem t_X7_digest_B274 {Γ : gC} {Ω : gO} {r0 : Int64} {v0 : gV} {o : (gV × Int64 × Int32) ⊕ (gV × Int64)} (hX : gx_X Γ Ω cX7_digest RX7 5 (some .long)) (hR : Γ.2.2.2.1 = gx_R 6) (x1 : Int64) (x3 : Int32) (v : gV) (h : f_X7_digest_B274 x1 x3 v = some o) (hc : ∀ c0 c1 c2, o = .inl (c0, c1, c2) → gx_G Γ Ω LX (gx_Q Γ Ω LX (some (.long r0)) v0) 5 c0 274 [(0, .ref (Ω.1 0)), (1, .long c1), (3, .int c2)] []) (hz : ∀ z0 z1, o = .inr (z0, z1) → gx_G Γ Ω LX (gx_Q Γ Ω LX (some (.long r0)) v0) 5 z0 296 [(0, .ref (Ω.1 0)), (1, .long z1)] []) : gx_G Γ Ω LX (gx_Q Γ Ω LX (some (.long r0)) v0) 5 v 274 [(0, .ref (Ω.1 0)), (1, .long x1), (3, .int x3)] [] := by
  rw [f_X7_digest_B274] at h
  refine gi_iload_n (n := 275) hX 2 dX7_digest_274 rfl rfl rfl ?_
  refine gi_iconst (x := (3 : Int32)) (n := 276) hX rfl dX7_digest_275 rfl ?_
  refine gi_icmp_ge (tgt := 296) (n := 279) hX dX7_digest_276 rfl rfl h (fun h => ?_) (fun h => ?_)
  · refine gi_sub [0, 1] rfl ?_
    exact hz _ _ (Option.some.inj h).symm
  · refine gi_lload_n (n := 280) hX 1 dX7_digest_279 rfl rfl rfl ?_
    refine gi_aload_n (n := 281) hX 0 dX7_digest_280 rfl rfl rfl ?_
    refine gi_iload_n (n := 282) hX 2 dX7_digest_281 rfl rfl rfl ?_
    obtain ⟨r3, v1, e2, h⟩ := bi_some h
    refine gi_virtI (st := [.long x1]) (n := 285) hX hR kc_X7 ly_X7 mv_X7_first ml_X7_320 (m_X7_first Γ.2.1 Ω x3 v e2) rfl ⟨rfl, rfl⟩ rfl dX7_digest_282 rfl rfl ?_
    refine gi_i2l (n := 286) hX dX7_digest_285 rfl ?_
    obtain ⟨r6, v4, e5, h⟩ := bj_some h
    refine gi_statJ (st := []) (n := 289) hX hR ms_X7_mix ml_X7_284 (m_X7_mix Γ.2.1 Ω x1 ((r3).toInt64) v1 e5) rfl ⟨rfl, rfl⟩ rfl dX7_digest_286 rfl rfl ?_
    refine gi_lstore_n (n := 290) hX [(1, .long r6), (0, .ref (Ω.1 0)), (3, .int x3)] dX7_digest_289 rfl rfl rfl rfl ?_
    refine gi_iinc (z := (1 : Int32)) (n := 293) hX 2 [(3, .int (x3 + (1 : Int32))), (1, .long r6), (0, .ref (Ω.1 0))] dX7_digest_290 rfl rfl rfl rfl rfl rfl ?_
    refine gi_goto (n := 274) hX dX7_digest_293 rfl ?_
    refine gi_sub [2, 1, 0] rfl ?_
    exact hc _ _ _ (Option.some.inj h).symm
set_option maxRecDepth 20000 in
theorem t_X7_digest {Γ : gC} {Ω : gO} {r0 : Int64} {v0 : gV} (hX : gx_X Γ Ω cX7_digest RX7 5 (some .long)) (hR : Γ.2.2.2.1 = gx_R 6)  (v : gV) (h : f_X7_digest  v = some (r0, v0)) : gx_G Γ Ω LX (gx_Q Γ Ω LX (some (.long r0)) v0) 5 v 0 [(0, .ref (Ω.1 0))] [] := by
  rw [f_X7_digest] at h
  refine gi_ldc2 (n := 3) hX co_X7_279 dX7_digest_0 rfl ?_
  refine gi_lstore_n (n := 4) hX [(1, .long (17 : Int64)), (0, .ref (Ω.1 0))] dX7_digest_3 rfl rfl rfl rfl ?_
  refine gi_iconst (x := (0 : Int32)) (n := 5) hX rfl dX7_digest_4 rfl ?_
  refine gi_istore_n (n := 6) hX [(3, .int (0 : Int32)), (1, .long (17 : Int64)), (0, .ref (Ω.1 0))] dX7_digest_5 rfl rfl rfl rfl ?_
  refine gi_sub [2, 1, 0] rfl ?_
  have key := lp_ind (f := (fun a : gV × Int64 × Int32 => f_X7_digest_B6 a.2.1 a.2.2 a.1)) (P := (fun a : gV × Int64 × Int32 => gx_G Γ Ω LX (gx_Q Γ Ω LX (some (.long r0)) v0) 5 a.1 6 [(0, .ref (Ω.1 0)), (1, .long a.2.1), (3, .int a.2.2)] [])) (Z := (fun z : gV × Int64 => gx_G Γ Ω LX (gx_Q Γ Ω LX (some (.long r0)) v0) 5 z.1 29 [(0, .ref (Ω.1 0)), (1, .long z.2)] [])) (fun a o h hc hz => t_X7_digest_B6 hX hR a.2.1 a.2.2 a.1 h (fun c0 c1 c2 e => hc (c0, c1, c2) e) (fun z0 z1 e => hz (z0, z1) e)) fu
  obtain ⟨v1, y2, e0, h⟩ := bx2_some h
  refine key (v, (17 : Int64), (0 : Int32)) _ e0 ?_
  show gx_G Γ Ω LX (gx_Q Γ Ω LX (some (.long r0)) v0) 5 v1 29 [(0, .ref (Ω.1 0)), (1, .long y2)] []
  refine gi_lload_n (n := 30) hX 1 dX7_digest_29 rfl rfl rfl ?_
  refine gi_aload_n (n := 31) hX 0 dX7_digest_30 rfl rfl rfl ?_
  refine gi_iconst (x := (0 : Int32)) (n := 32) hX rfl dX7_digest_31 rfl ?_
  obtain ⟨r5, v3, e4, h⟩ := bi_some h
  refine gi_virtI (st := [.long y2]) (n := 35) hX hR kc_X7 ly_X7 mv_X7_fault ml_X7_288 (m_X7_fault Γ.2.1 Ω (0 : Int32) v1 e4) rfl ⟨rfl, rfl⟩ rfl dX7_digest_32 rfl rfl ?_
  refine gi_i2l (n := 36) hX dX7_digest_35 rfl ?_
  obtain ⟨r8, v6, e7, h⟩ := bj_some h
  refine gi_statJ (st := []) (n := 39) hX hR ms_X7_mix ml_X7_284 (m_X7_mix Γ.2.1 Ω y2 ((r5).toInt64) v3 e7) rfl ⟨rfl, rfl⟩ rfl dX7_digest_36 rfl rfl ?_
  refine gi_aload_n (n := 40) hX 0 dX7_digest_39 rfl rfl rfl ?_
  refine gi_iconst (x := (1 : Int32)) (n := 41) hX rfl dX7_digest_40 rfl ?_
  obtain ⟨r11, v9, e10, h⟩ := bi_some h
  refine gi_virtI (st := [.long r8]) (n := 44) hX hR kc_X7 ly_X7 mv_X7_fault ml_X7_288 (m_X7_fault Γ.2.1 Ω (1 : Int32) v6 e10) rfl ⟨rfl, rfl⟩ rfl dX7_digest_41 rfl rfl ?_
  refine gi_i2l (n := 45) hX dX7_digest_44 rfl ?_
  obtain ⟨r14, v12, e13, h⟩ := bj_some h
  refine gi_statJ (st := []) (n := 48) hX hR ms_X7_mix ml_X7_284 (m_X7_mix Γ.2.1 Ω r8 ((r11).toInt64) v9 e13) rfl ⟨rfl, rfl⟩ rfl dX7_digest_45 rfl rfl ?_
  refine gi_lstore_n (n := 49) hX [(1, .long r14), (0, .ref (Ω.1 0))] dX7_digest_48 rfl rfl rfl rfl ?_
  refine gi_iconst (x := (0 : Int32)) (n := 50) hX rfl dX7_digest_49 rfl ?_
  refine gi_istore_n (n := 51) hX [(3, .int (0 : Int32)), (1, .long r14), (0, .ref (Ω.1 0))] dX7_digest_50 rfl rfl rfl rfl ?_
  refine gi_sub [2, 1, 0] rfl ?_
  have key := lp_ind (f := (fun a : gV × Int64 × Int32 => f_X7_digest_B51 a.2.1 a.2.2 a.1)) (P := (fun a : gV × Int64 × Int32 => gx_G Γ Ω LX (gx_Q Γ Ω LX (some (.long r0)) v0) 5 a.1 51 [(0, .ref (Ω.1 0)), (1, .long a.2.1), (3, .int a.2.2)] [])) (Z := (fun z : gV × Int64 => gx_G Γ Ω LX (gx_Q Γ Ω LX (some (.long r0)) v0) 5 z.1 194 [(0, .ref (Ω.1 0)), (1, .long z.2)] [])) (fun a o h hc hz => t_X7_digest_B51 hX hR a.2.1 a.2.2 a.1 h (fun c0 c1 c2 e => hc (c0, c1, c2) e) (fun z0 z1 e => hz (z0, z1) e)) fu
  obtain ⟨v15, y16, e0, h⟩ := bx2_some h
  refine key (v12, r14, (0 : Int32)) _ e0 ?_
  show gx_G Γ Ω LX (gx_Q Γ Ω LX (some (.long r0)) v0) 5 v15 194 [(0, .ref (Ω.1 0)), (1, .long y16)] []
  refine gi_iconst (x := (0 : Int32)) (n := 195) hX rfl dX7_digest_194 rfl ?_
  refine gi_istore_n (n := 196) hX [(3, .int (0 : Int32)), (0, .ref (Ω.1 0)), (1, .long y16)] dX7_digest_195 rfl rfl rfl rfl ?_
  refine gi_sub [1, 2, 0] rfl ?_
  have key := lp_ind (f := (fun a : gV × Int64 × Int32 => f_X7_digest_B196 a.2.1 a.2.2 a.1)) (P := (fun a : gV × Int64 × Int32 => gx_G Γ Ω LX (gx_Q Γ Ω LX (some (.long r0)) v0) 5 a.1 196 [(0, .ref (Ω.1 0)), (1, .long a.2.1), (3, .int a.2.2)] [])) (Z := (fun z : gV × Int64 => gx_G Γ Ω LX (gx_Q Γ Ω LX (some (.long r0)) v0) 5 z.1 272 [(0, .ref (Ω.1 0)), (1, .long z.2)] [])) (fun a o h hc hz => t_X7_digest_B196 hX hR a.2.1 a.2.2 a.1 h (fun c0 c1 c2 e => hc (c0, c1, c2) e) (fun z0 z1 e => hz (z0, z1) e)) fu
  obtain ⟨v17, y18, e0, h⟩ := bx2_some h
  refine key (v15, y16, (0 : Int32)) _ e0 ?_
  show gx_G Γ Ω LX (gx_Q Γ Ω LX (some (.long r0)) v0) 5 v17 272 [(0, .ref (Ω.1 0)), (1, .long y18)] []
  refine gi_iconst (x := (0 : Int32)) (n := 273) hX rfl dX7_digest_272 rfl ?_
  refine gi_istore_n (n := 274) hX [(3, .int (0 : Int32)), (0, .ref (Ω.1 0)), (1, .long y18)] dX7_digest_273 rfl rfl rfl rfl ?_
  refine gi_sub [1, 2, 0] rfl ?_
  have key := lp_ind (f := (fun a : gV × Int64 × Int32 => f_X7_digest_B274 a.2.1 a.2.2 a.1)) (P := (fun a : gV × Int64 × Int32 => gx_G Γ Ω LX (gx_Q Γ Ω LX (some (.long r0)) v0) 5 a.1 274 [(0, .ref (Ω.1 0)), (1, .long a.2.1), (3, .int a.2.2)] [])) (Z := (fun z : gV × Int64 => gx_G Γ Ω LX (gx_Q Γ Ω LX (some (.long r0)) v0) 5 z.1 296 [(0, .ref (Ω.1 0)), (1, .long z.2)] [])) (fun a o h hc hz => t_X7_digest_B274 hX hR a.2.1 a.2.2 a.1 h (fun c0 c1 c2 e => hc (c0, c1, c2) e) (fun z0 z1 e => hz (z0, z1) e)) fu
  obtain ⟨v19, y20, e0, h⟩ := bx2_some h
  refine key (v17, y18, (0 : Int32)) _ e0 ?_
  show gx_G Γ Ω LX (gx_Q Γ Ω LX (some (.long r0)) v0) 5 v19 296 [(0, .ref (Ω.1 0)), (1, .long y20)] []
  refine gi_lload_n (n := 297) hX 1 dX7_digest_296 rfl rfl rfl ?_
  refine gi_aload_n (n := 298) hX 0 dX7_digest_297 rfl rfl rfl ?_
  obtain ⟨r23, v21, e22, h⟩ := bi_some h
  refine gi_virtI (st := [.long y20]) (n := 301) hX hR kc_X7 ly_X7 mv_X7_still ml_X7_323 (m_X7_still Γ.2.1 Ω v19 e22) rfl ⟨rfl, rfl⟩ rfl dX7_digest_298 rfl rfl ?_
  refine gi_i2l (n := 302) hX dX7_digest_301 rfl ?_
  obtain ⟨r26, v24, e25, h⟩ := bj_some h
  refine gi_statJ (st := []) (n := 305) hX hR ms_X7_mix ml_X7_284 (m_X7_mix Γ.2.1 Ω y20 ((r23).toInt64) v21 e25) rfl ⟨rfl, rfl⟩ rfl dX7_digest_302 rfl rfl ?_
  refine gi_aload_n (n := 306) hX 0 dX7_digest_305 rfl rfl rfl ?_
  refine gi_iconst (x := (0 : Int32)) (n := 307) hX rfl dX7_digest_306 rfl ?_
  obtain ⟨r29, v27, e28, h⟩ := bi_some h
  refine gi_virtI (st := [.long r26]) (n := 310) hX hR kc_X7 ly_X7 mv_X7_rings ml_X7_326 (m_X7_rings Γ.2.1 Ω (0 : Int32) v24 e28) rfl ⟨rfl, rfl⟩ rfl dX7_digest_307 rfl rfl ?_
  refine gi_i2l (n := 311) hX dX7_digest_310 rfl ?_
  obtain ⟨r32, v30, e31, h⟩ := bj_some h
  refine gi_statJ (st := []) (n := 314) hX hR ms_X7_mix ml_X7_284 (m_X7_mix Γ.2.1 Ω r26 ((r29).toInt64) v27 e31) rfl ⟨rfl, rfl⟩ rfl dX7_digest_311 rfl rfl ?_
  refine gi_aload_n (n := 315) hX 0 dX7_digest_314 rfl rfl rfl ?_
  refine gi_iconst (x := (1 : Int32)) (n := 316) hX rfl dX7_digest_315 rfl ?_
  obtain ⟨r35, v33, e34, h⟩ := bi_some h
  refine gi_virtI (st := [.long r32]) (n := 319) hX hR kc_X7 ly_X7 mv_X7_rings ml_X7_326 (m_X7_rings Γ.2.1 Ω (1 : Int32) v30 e34) rfl ⟨rfl, rfl⟩ rfl dX7_digest_316 rfl rfl ?_
  refine gi_i2l (n := 320) hX dX7_digest_319 rfl ?_
  obtain ⟨r38, v36, e37, h⟩ := bj_some h
  refine gi_statJ (st := []) (n := 323) hX hR ms_X7_mix ml_X7_284 (m_X7_mix Γ.2.1 Ω r32 ((r35).toInt64) v33 e37) rfl ⟨rfl, rfl⟩ rfl dX7_digest_320 rfl rfl ?_
  refine gi_lstore_n (n := 324) hX [(1, .long r38), (0, .ref (Ω.1 0))] dX7_digest_323 rfl rfl rfl rfl ?_
  refine gi_lload_n (n := 325) hX 0 dX7_digest_324 rfl rfl rfl ?_
  refine gi_aload_n (n := 326) hX 1 dX7_digest_325 rfl rfl rfl ?_
  refine gi_iconst (x := (0 : Int32)) (n := 327) hX rfl dX7_digest_326 rfl ?_
  obtain ⟨r41, v39, e40, h⟩ := bi_some h
  refine gi_virtI (st := [.long r38]) (n := 330) hX hR kc_X7 ly_X7 mv_X7_least ml_X7_329 (m_X7_least Γ.2.1 Ω (0 : Int32) v36 e40) rfl ⟨rfl, rfl⟩ rfl dX7_digest_327 rfl rfl ?_
  refine gi_i2l (n := 331) hX dX7_digest_330 rfl ?_
  obtain ⟨r44, v42, e43, h⟩ := bj_some h
  refine gi_statJ (st := []) (n := 334) hX hR ms_X7_mix ml_X7_284 (m_X7_mix Γ.2.1 Ω r38 ((r41).toInt64) v39 e43) rfl ⟨rfl, rfl⟩ rfl dX7_digest_331 rfl rfl ?_
  refine gi_aload_n (n := 335) hX 1 dX7_digest_334 rfl rfl rfl ?_
  refine gi_iconst (x := (1 : Int32)) (n := 336) hX rfl dX7_digest_335 rfl ?_
  obtain ⟨r47, v45, e46, h⟩ := bi_some h
  refine gi_virtI (st := [.long r44]) (n := 339) hX hR kc_X7 ly_X7 mv_X7_least ml_X7_329 (m_X7_least Γ.2.1 Ω (1 : Int32) v42 e46) rfl ⟨rfl, rfl⟩ rfl dX7_digest_336 rfl rfl ?_
  refine gi_i2l (n := 340) hX dX7_digest_339 rfl ?_
  obtain ⟨r50, v48, e49, h⟩ := bj_some h
  refine gi_statJ (st := []) (n := 343) hX hR ms_X7_mix ml_X7_284 (m_X7_mix Γ.2.1 Ω r44 ((r47).toInt64) v45 e49) rfl ⟨rfl, rfl⟩ rfl dX7_digest_340 rfl rfl ?_
  refine gi_aload_n (n := 344) hX 1 dX7_digest_343 rfl rfl rfl ?_
  refine gi_iconst (x := (0 : Int32)) (n := 345) hX rfl dX7_digest_344 rfl ?_
  obtain ⟨r53, v51, e52, h⟩ := bi_some h
  refine gi_virtI (st := [.long r50]) (n := 348) hX hR kc_X7 ly_X7 mv_X7_top ml_X7_332 (m_X7_top Γ.2.1 Ω (0 : Int32) v48 e52) rfl ⟨rfl, rfl⟩ rfl dX7_digest_345 rfl rfl ?_
  refine gi_i2l (n := 349) hX dX7_digest_348 rfl ?_
  obtain ⟨r56, v54, e55, h⟩ := bj_some h
  refine gi_statJ (st := []) (n := 352) hX hR ms_X7_mix ml_X7_284 (m_X7_mix Γ.2.1 Ω r50 ((r53).toInt64) v51 e55) rfl ⟨rfl, rfl⟩ rfl dX7_digest_349 rfl rfl ?_
  refine gi_aload_n (n := 353) hX 1 dX7_digest_352 rfl rfl rfl ?_
  refine gi_iconst (x := (1 : Int32)) (n := 354) hX rfl dX7_digest_353 rfl ?_
  obtain ⟨r59, v57, e58, h⟩ := bi_some h
  refine gi_virtI (st := [.long r56]) (n := 357) hX hR kc_X7 ly_X7 mv_X7_top ml_X7_332 (m_X7_top Γ.2.1 Ω (1 : Int32) v54 e58) rfl ⟨rfl, rfl⟩ rfl dX7_digest_354 rfl rfl ?_
  refine gi_i2l (n := 358) hX dX7_digest_357 rfl ?_
  obtain ⟨r62, v60, e61, h⟩ := bj_some h
  refine gi_statJ (st := []) (n := 361) hX hR ms_X7_mix ml_X7_284 (m_X7_mix Γ.2.1 Ω r56 ((r59).toInt64) v57 e61) rfl ⟨rfl, rfl⟩ rfl dX7_digest_358 rfl rfl ?_
  refine gi_lstore_n (n := 362) hX [(1, .long r62), (0, .ref (Ω.1 0))] dX7_digest_361 rfl rfl rfl rfl ?_
  refine gi_lload_n (n := 363) hX 0 dX7_digest_362 rfl rfl rfl ?_
  refine gi_aload_n (n := 364) hX 1 dX7_digest_363 rfl rfl rfl ?_
  obtain ⟨r65, v63, e64, h⟩ := bi_some h
  refine gi_virtI (st := [.long r62]) (n := 367) hX hR kc_X7 ly_X7 mv_X7_was ml_X7_335 (m_X7_was Γ.2.1 Ω v60 e64) rfl ⟨rfl, rfl⟩ rfl dX7_digest_364 rfl rfl ?_
  refine gi_i2l (n := 368) hX dX7_digest_367 rfl ?_
  obtain ⟨r68, v66, e67, h⟩ := bj_some h
  refine gi_statJ (st := []) (n := 371) hX hR ms_X7_mix ml_X7_284 (m_X7_mix Γ.2.1 Ω r62 ((r65).toInt64) v63 e67) rfl ⟨rfl, rfl⟩ rfl dX7_digest_368 rfl rfl ?_
  refine gi_aload_n (n := 372) hX 1 dX7_digest_371 rfl rfl rfl ?_
  refine gi_bipush (x := (7 : Int32)) (n := 374) hX rfl dX7_digest_372 rfl ?_
  refine gi_bipush (x := (9 : Int32)) (n := 376) hX rfl dX7_digest_374 rfl ?_
  refine gi_iconst (x := (0 : Int32)) (n := 377) hX rfl dX7_digest_376 rfl ?_
  obtain ⟨r71, v69, e70, h⟩ := bi_some h
  refine gi_virtI (st := [.long r68]) (n := 380) hX hR kc_X7 ly_X7 mv_X7_depot ml_X7_338 (m_X7_depot Γ.2.1 Ω (7 : Int32) (9 : Int32) (0 : Int32) v66 e70) rfl ⟨rfl, rfl⟩ rfl dX7_digest_377 rfl rfl ?_
  refine gi_i2l (n := 381) hX dX7_digest_380 rfl ?_
  obtain ⟨r74, v72, e73, h⟩ := bj_some h
  refine gi_statJ (st := []) (n := 384) hX hR ms_X7_mix ml_X7_284 (m_X7_mix Γ.2.1 Ω r68 ((r71).toInt64) v69 e73) rfl ⟨rfl, rfl⟩ rfl dX7_digest_381 rfl rfl ?_
  refine gi_aload_n (n := 385) hX 1 dX7_digest_384 rfl rfl rfl ?_
  refine gi_bipush (x := (7 : Int32)) (n := 387) hX rfl dX7_digest_385 rfl ?_
  refine gi_bipush (x := (9 : Int32)) (n := 389) hX rfl dX7_digest_387 rfl ?_
  refine gi_iconst (x := (1 : Int32)) (n := 390) hX rfl dX7_digest_389 rfl ?_
  obtain ⟨r77, v75, e76, h⟩ := bi_some h
  refine gi_virtI (st := [.long r74]) (n := 393) hX hR kc_X7 ly_X7 mv_X7_depot ml_X7_338 (m_X7_depot Γ.2.1 Ω (7 : Int32) (9 : Int32) (1 : Int32) v72 e76) rfl ⟨rfl, rfl⟩ rfl dX7_digest_390 rfl rfl ?_
  refine gi_i2l (n := 394) hX dX7_digest_393 rfl ?_
  obtain ⟨r80, v78, e79, h⟩ := bj_some h
  refine gi_statJ (st := []) (n := 397) hX hR ms_X7_mix ml_X7_284 (m_X7_mix Γ.2.1 Ω r74 ((r77).toInt64) v75 e79) rfl ⟨rfl, rfl⟩ rfl dX7_digest_394 rfl rfl ?_
  exact gi_lret hX rfl dX7_digest_397 h
theorem m_X7_digest (l : Launch) (Ω : gO) (v : gV) {r0 : Int64} {v0 : gV} (h : f_X7_digest v = some (r0, v0)) : gx_M l Ω LX yX7_digest cX7_digest 5 (some .long) 6 [.ref (Ω.1 0)] v (some (.long r0)) v0 := gx_start (lv := [(0, .ref (Ω.1 0))]) (by decide +kernel) (Nat.le_of_ble_eq_true rfl) rfl (fun Γ _ hR hX => t_X7_digest hX hR v h)
set_option maxRecDepth 20000 in
theorem t_X7_forget {Γ : gC} {Ω : gO} {r0 : Int32} {v0 : gV} (hX : gx_X Γ Ω cX7_forget RX7 2 (some .int)) (hR : Γ.2.2.2.1 = gx_R 0)  (v : gV) (h : f_X7_forget  v = some (r0, v0)) : gx_G Γ Ω LX (gx_Q Γ Ω LX (some (.int r0)) v0) 2 v 0 [(0, .ref (Ω.1 0))] [] := by
  rw [f_X7_forget] at h
  refine gi_aload_n (n := 1) hX 0 dX7_forget_0 rfl rfl rfl ?_
  refine gi_getR (n := 4) hX 5 kc_X7 ly_X7 rfl rfl fl_X7_47 dX7_forget_1 rfl ?_
  refine gi_getI (n := 7) hX 3 kc_X3 ly_X3 rfl rfl fl_X7_191 dX7_forget_4 rfl ?_
  refine gi_topI h (fun u1 h => ?_)
  refine gi_istore_n (n := 8) hX [(1, .int u1), (0, .ref (Ω.1 0))] dX7_forget_7 rfl rfl rfl rfl ?_
  refine gi_aload_n (n := 9) hX 1 dX7_forget_8 rfl rfl rfl ?_
  refine gi_getR (n := 12) hX 5 kc_X7 ly_X7 rfl rfl fl_X7_47 dX7_forget_9 rfl ?_
  refine gi_iconst (x := (0 : Int32)) (n := 13) hX rfl dX7_forget_12 rfl ?_
  refine gi_putI (n := 16) hX 3 kc_X3 ly_X3 rfl rfl fl_X7_191 rfl rfl dX7_forget_13 rfl h (fun v2 h => ?_)
  refine gi_iload_n (n := 17) hX 0 dX7_forget_16 rfl rfl rfl ?_
  exact gi_iret hX rfl dX7_forget_17 h
theorem m_X7_forget (l : Launch) (Ω : gO) (v : gV) {r0 : Int32} {v0 : gV} (h : f_X7_forget v = some (r0, v0)) : gx_M l Ω LX yX7_forget cX7_forget 2 (some .int) 0 [.ref (Ω.1 0)] v (some (.int r0)) v0 := gx_start (lv := [(0, .ref (Ω.1 0))]) (by decide +kernel) (Nat.le_of_ble_eq_true rfl) rfl (fun Γ _ hR hX => t_X7_forget hX hR v h)
set_option maxRecDepth 20000 in
theorem t_X7_refusalOfItem {Γ : gC} {Ω : gO} {r0 : Int32} {v0 : gV} (hX : gx_X Γ Ω cX7_refusalOfItem RX7 4 (some .int)) (hR : Γ.2.2.2.1 = gx_R 1) (x1 : Int32) (x2 : Int32) (x3 : Int32) (v : gV) (h : f_X7_refusalOfItem x1 x2 x3 v = some (r0, v0)) : gx_G Γ Ω LX (gx_Q Γ Ω LX (some (.int r0)) v0) 4 v 0 [(0, .ref (Ω.1 0)), (1, .int x1), (2, .int x2), (3, .int x3)] [] := by
  rw [f_X7_refusalOfItem] at h
  refine gi_iload_n (n := 1) hX 1 dX7_refusalOfItem_0 rfl rfl rfl ?_
  refine gi_iconst (x := (4 : Int32)) (n := 2) hX rfl dX7_refusalOfItem_1 rfl ?_
  obtain ⟨r3, v1, e2, h⟩ := bi_some h
  refine gi_statI (st := []) (n := 5) hX hR ms_X7_isOutside ml_X7_70 (m_X7_isOutside Γ.2.1 Ω x1 (4 : Int32) v e2) rfl ⟨rfl, rfl⟩ rfl dX7_refusalOfItem_2 rfl rfl ?_
  refine gi_if_ne (tgt := 16) (n := 8) hX dX7_refusalOfItem_5 rfl rfl h (fun h => ?_) (fun h => ?_)
  · refine gi_bipush (x := (-2 : Int32)) (n := 18) hX rfl dX7_refusalOfItem_16 rfl ?_
    exact gi_iret hX rfl dX7_refusalOfItem_18 h
  · refine gi_iload_n (n := 9) hX 2 dX7_refusalOfItem_8 rfl rfl rfl ?_
    refine gi_iconst (x := (3 : Int32)) (n := 10) hX rfl dX7_refusalOfItem_9 rfl ?_
    obtain ⟨r6, v4, e5, h⟩ := bi_some h
    refine gi_statI (st := []) (n := 13) hX hR ms_X7_isOutside ml_X7_70 (m_X7_isOutside Γ.2.1 Ω x2 (3 : Int32) v1 e5) rfl ⟨rfl, rfl⟩ rfl dX7_refusalOfItem_10 rfl rfl ?_
    refine gi_if_eq (tgt := 19) (n := 16) hX dX7_refusalOfItem_13 rfl rfl h (fun h => ?_) (fun h => ?_)
    · refine gi_aload_n (n := 20) hX 0 dX7_refusalOfItem_19 rfl rfl rfl ?_
      refine gi_getR (n := 23) hX 6 kc_X7 ly_X7 rfl rfl fl_X7_54 dX7_refusalOfItem_20 rfl ?_
      refine gi_iload_n (n := 24) hX 1 dX7_refusalOfItem_23 rfl rfl rfl ?_
      refine gi_aald (n := 25) hX ly_99 (Or.inr (Or.inl rfl)) dX7_refusalOfItem_24 rfl h (fun g7 k8 h => ?_)
      obtain ⟨r11, v9, e10, h⟩ := bi_some h
      refine gi_virtI (st := []) (n := 28) hX hR kc_X2 (ly_S k8) mv_X2_isLost ml_X7_192 (m_X2_isLost Γ.2.1 Ω g7 k8 v4 e10) rfl ⟨rfl, rfl⟩ rfl dX7_refusalOfItem_25 rfl rfl ?_
      refine gi_if_eq (tgt := 37) (n := 31) hX dX7_refusalOfItem_28 rfl rfl h (fun h => ?_) (fun h => ?_)
      · refine gi_aload_n (n := 38) hX 0 dX7_refusalOfItem_37 rfl rfl rfl ?_
        refine gi_getR (n := 41) hX 6 kc_X7 ly_X7 rfl rfl fl_X7_54 dX7_refusalOfItem_38 rfl ?_
        refine gi_iload_n (n := 42) hX 1 dX7_refusalOfItem_41 rfl rfl rfl ?_
        refine gi_aald (n := 43) hX ly_99 (Or.inr (Or.inl rfl)) dX7_refusalOfItem_42 rfl h (fun g12 k13 h => ?_)
        refine gi_getI (n := 46) hX 0 kc_X2 (ly_S k13) rfl rfl fl_X7_255 dX7_refusalOfItem_43 rfl ?_
        refine gi_iload_n (n := 47) hX 2 dX7_refusalOfItem_46 rfl rfl rfl ?_
        refine gi_icmp_eq (tgt := 56) (n := 50) hX dX7_refusalOfItem_47 rfl rfl h (fun h => ?_) (fun h => ?_)
        · refine gi_aload_n (n := 57) hX 0 dX7_refusalOfItem_56 rfl rfl rfl ?_
          refine gi_getR (n := 60) hX 6 kc_X7 ly_X7 rfl rfl fl_X7_54 dX7_refusalOfItem_57 rfl ?_
          refine gi_iload_n (n := 61) hX 1 dX7_refusalOfItem_60 rfl rfl rfl ?_
          refine gi_aald (n := 62) hX ly_99 (Or.inr (Or.inl rfl)) dX7_refusalOfItem_61 rfl h (fun g14 k15 h => ?_)
          refine gi_iload_n (n := 63) hX 3 dX7_refusalOfItem_62 rfl rfl rfl ?_
          refine gi_iconst (x := (1 : Int32)) (n := 64) hX rfl dX7_refusalOfItem_63 rfl ?_
          obtain ⟨r18, v16, e17, h⟩ := bi_some h
          refine gi_virtI (st := []) (n := 67) hX hR kc_X2 (ly_S k15) mv_X2_hasItems ml_X7_258 (m_X2_hasItems Γ.2.1 Ω g14 k15 x3 (1 : Int32) v9 e17) rfl ⟨rfl, rfl⟩ rfl dX7_refusalOfItem_64 rfl rfl ?_
          refine gi_if_eq (tgt := 74) (n := 70) hX dX7_refusalOfItem_67 rfl rfl h (fun h => ?_) (fun h => ?_)
          · refine gi_aload_n (n := 75) hX 0 dX7_refusalOfItem_74 rfl rfl rfl ?_
            refine gi_iconst (x := (2 : Int32)) (n := 76) hX rfl dX7_refusalOfItem_75 rfl ?_
            obtain ⟨r21, v19, e20, h⟩ := bi_some h
            refine gi_virtI (st := []) (n := 79) hX hR kc_X7 ly_X7 mv_X7_finding ml_X7_195 (m_X7_finding Γ.2.1 Ω (2 : Int32) v16 e20) rfl ⟨rfl, rfl⟩ rfl dX7_refusalOfItem_76 rfl rfl ?_
            exact gi_iret hX rfl dX7_refusalOfItem_79 h
          · refine gi_iconst (x := (0 : Int32)) (n := 71) hX rfl dX7_refusalOfItem_70 rfl ?_
            refine gi_goto (n := 79) hX dX7_refusalOfItem_71 rfl ?_
            exact gi_iret hX rfl dX7_refusalOfItem_79 h
        · refine gi_aload_n (n := 51) hX 0 dX7_refusalOfItem_50 rfl rfl rfl ?_
          refine gi_iconst (x := (3 : Int32)) (n := 52) hX rfl dX7_refusalOfItem_51 rfl ?_
          obtain ⟨r24, v22, e23, h⟩ := bi_some h
          refine gi_virtI (st := []) (n := 55) hX hR kc_X7 ly_X7 mv_X7_finding ml_X7_195 (m_X7_finding Γ.2.1 Ω (3 : Int32) v9 e23) rfl ⟨rfl, rfl⟩ rfl dX7_refusalOfItem_52 rfl rfl ?_
          exact gi_iret hX rfl dX7_refusalOfItem_55 h
      · refine gi_aload_n (n := 32) hX 0 dX7_refusalOfItem_31 rfl rfl rfl ?_
        refine gi_iconst (x := (1 : Int32)) (n := 33) hX rfl dX7_refusalOfItem_32 rfl ?_
        obtain ⟨r27, v25, e26, h⟩ := bi_some h
        refine gi_virtI (st := []) (n := 36) hX hR kc_X7 ly_X7 mv_X7_finding ml_X7_195 (m_X7_finding Γ.2.1 Ω (1 : Int32) v9 e26) rfl ⟨rfl, rfl⟩ rfl dX7_refusalOfItem_33 rfl rfl ?_
        exact gi_iret hX rfl dX7_refusalOfItem_36 h
    · refine gi_bipush (x := (-2 : Int32)) (n := 18) hX rfl dX7_refusalOfItem_16 rfl ?_
      exact gi_iret hX rfl dX7_refusalOfItem_18 h
theorem m_X7_refusalOfItem (l : Launch) (Ω : gO) (x1 : Int32) (x2 : Int32) (x3 : Int32) (v : gV) {r0 : Int32} {v0 : gV} (h : f_X7_refusalOfItem x1 x2 x3 v = some (r0, v0)) : gx_M l Ω LX yX7_refusalOfItem cX7_refusalOfItem 4 (some .int) 1 [.ref (Ω.1 0), .int x1, .int x2, .int x3] v (some (.int r0)) v0 := gx_start (lv := [(0, .ref (Ω.1 0)), (1, .int x1), (2, .int x2), (3, .int x3)]) (by decide +kernel) (Nat.le_of_ble_eq_true rfl) rfl (fun Γ _ hR hX => t_X7_refusalOfItem hX hR x1 x2 x3 v h)
set_option maxRecDepth 20000 in
theorem t_X7_get {Γ : gC} {Ω : gO} {r0 : Int32} {v0 : gV} (hX : gx_X Γ Ω cX7_get RX7 4 (some .int)) (hR : Γ.2.2.2.1 = gx_R 2) (x1 : Int32) (x2 : Int32) (x3 : Int32) (v : gV) (h : f_X7_get x1 x2 x3 v = some (r0, v0)) : gx_G Γ Ω LX (gx_Q Γ Ω LX (some (.int r0)) v0) 4 v 0 [(0, .ref (Ω.1 0)), (1, .int x1), (2, .int x2), (3, .int x3)] [] := by
  rw [f_X7_get] at h
  refine gi_aload_n (n := 1) hX 0 dX7_get_0 rfl rfl rfl ?_
  refine gi_iload_n (n := 2) hX 1 dX7_get_1 rfl rfl rfl ?_
  refine gi_iload_n (n := 3) hX 2 dX7_get_2 rfl rfl rfl ?_
  refine gi_iload_n (n := 4) hX 3 dX7_get_3 rfl rfl rfl ?_
  obtain ⟨r3, v1, e2, h⟩ := bi_some h
  refine gi_virtI (st := []) (n := 7) hX hR kc_X7 ly_X7 mv_X7_refusalOfItem ml_X7_247 (m_X7_refusalOfItem Γ.2.1 Ω x1 x2 x3 v e2) rfl ⟨rfl, rfl⟩ rfl dX7_get_4 rfl rfl ?_
  refine gi_if_eq (tgt := 15) (n := 10) hX dX7_get_7 rfl rfl h (fun h => ?_) (fun h => ?_)
  · refine gi_aload_n (n := 16) hX 0 dX7_get_15 rfl rfl rfl ?_
    refine gi_getR (n := 19) hX 6 kc_X7 ly_X7 rfl rfl fl_X7_54 dX7_get_16 rfl ?_
    refine gi_iload_n (n := 20) hX 1 dX7_get_19 rfl rfl rfl ?_
    refine gi_aald (n := 21) hX ly_99 (Or.inr (Or.inl rfl)) dX7_get_20 rfl h (fun g4 k5 h => ?_)
    refine gi_getR (n := 24) hX 2 kc_X2 (ly_S k5) rfl rfl fl_X7_198 dX7_get_21 rfl ?_
    refine gi_iload_n (n := 25) hX 3 dX7_get_24 rfl rfl rfl ?_
    refine gi_iald (n := 26) hX (ly_Sk k5) dX7_get_25 rfl h (fun h => ?_)
    exact gi_iret hX rfl dX7_get_26 h
  · refine gi_ldc (n := 12) hX co_X7_254 dX7_get_10 rfl ?_
    refine gi_goto (n := 26) hX dX7_get_12 rfl ?_
    exact gi_iret hX rfl dX7_get_26 h
theorem m_X7_get (l : Launch) (Ω : gO) (x1 : Int32) (x2 : Int32) (x3 : Int32) (v : gV) {r0 : Int32} {v0 : gV} (h : f_X7_get x1 x2 x3 v = some (r0, v0)) : gx_M l Ω LX yX7_get cX7_get 4 (some .int) 2 [.ref (Ω.1 0), .int x1, .int x2, .int x3] v (some (.int r0)) v0 := gx_start (lv := [(0, .ref (Ω.1 0)), (1, .int x1), (2, .int x2), (3, .int x3)]) (by decide +kernel) (Nat.le_of_ble_eq_true rfl) rfl (fun Γ _ hR hX => t_X7_get hX hR x1 x2 x3 v h)
set_option maxRecDepth 20000 in
theorem t_X7_lay {Γ : gC} {Ω : gO} {r0 : Int32} {v0 : gV} (hX : gx_X Γ Ω cX7_lay RX7 6 (some .int)) (hR : Γ.2.2.2.1 = gx_R 2) (x1 : Int32) (x2 : Int32) (x3 : Int32) (x4 : Int32) (v : gV) (h : f_X7_lay x1 x2 x3 x4 v = some (r0, v0)) : gx_G Γ Ω LX (gx_Q Γ Ω LX (some (.int r0)) v0) 6 v 0 [(0, .ref (Ω.1 0)), (1, .int x1), (2, .int x2), (3, .int x3), (4, .int x4)] [] := by
  rw [f_X7_lay] at h
  refine gi_aload_n (n := 1) hX 0 dX7_lay_0 rfl rfl rfl ?_
  refine gi_iload_n (n := 2) hX 1 dX7_lay_1 rfl rfl rfl ?_
  refine gi_iload_n (n := 3) hX 2 dX7_lay_2 rfl rfl rfl ?_
  refine gi_iload_n (n := 4) hX 3 dX7_lay_3 rfl rfl rfl ?_
  obtain ⟨r3, v1, e2, h⟩ := bi_some h
  refine gi_virtI (st := []) (n := 7) hX hR kc_X7 ly_X7 mv_X7_refusalOfItem ml_X7_247 (m_X7_refusalOfItem Γ.2.1 Ω x1 x2 x3 v e2) rfl ⟨rfl, rfl⟩ rfl dX7_lay_4 rfl rfl ?_
  refine gi_istore (n := 9) hX [(5, .int r3), (0, .ref (Ω.1 0)), (1, .int x1), (2, .int x2), (3, .int x3), (4, .int x4)] dX7_lay_7 rfl rfl rfl ?_
  refine gi_iload (n := 11) hX 0 dX7_lay_9 rfl rfl ?_
  refine gi_if_eq (tgt := 17) (n := 14) hX dX7_lay_11 rfl rfl h (fun h => ?_) (fun h => ?_)
  · refine gi_aload_n (n := 18) hX 1 dX7_lay_17 rfl rfl rfl ?_
    refine gi_getR (n := 21) hX 6 kc_X7 ly_X7 rfl rfl fl_X7_54 dX7_lay_18 rfl ?_
    refine gi_iload_n (n := 22) hX 2 dX7_lay_21 rfl rfl rfl ?_
    refine gi_aald (n := 23) hX ly_99 (Or.inr (Or.inl rfl)) dX7_lay_22 rfl h (fun g4 k5 h => ?_)
    refine gi_iload_n (n := 24) hX 4 dX7_lay_23 rfl rfl rfl ?_
    refine gi_iload (n := 26) hX 5 dX7_lay_24 rfl rfl ?_
    obtain ⟨v6, e7, h⟩ := bv_some h
    refine gi_virtV (st := []) (n := 29) hX hR kc_X2 (ly_S k5) mv_X2_put ml_X7_251 (m_X2_put Γ.2.1 Ω g4 k5 x3 x4 v1 e7) rfl ⟨rfl, rfl⟩ rfl dX7_lay_26 rfl rfl ?_
    refine gi_iconst (x := (1 : Int32)) (n := 30) hX rfl dX7_lay_29 rfl ?_
    exact gi_iret hX rfl dX7_lay_30 h
  · refine gi_iload (n := 16) hX 0 dX7_lay_14 rfl rfl ?_
    exact gi_iret hX rfl dX7_lay_16 h
theorem m_X7_lay (l : Launch) (Ω : gO) (x1 : Int32) (x2 : Int32) (x3 : Int32) (x4 : Int32) (v : gV) {r0 : Int32} {v0 : gV} (h : f_X7_lay x1 x2 x3 x4 v = some (r0, v0)) : gx_M l Ω LX yX7_lay cX7_lay 6 (some .int) 2 [.ref (Ω.1 0), .int x1, .int x2, .int x3, .int x4] v (some (.int r0)) v0 := gx_start (lv := [(0, .ref (Ω.1 0)), (1, .int x1), (2, .int x2), (3, .int x3), (4, .int x4)]) (by decide +kernel) (Nat.le_of_ble_eq_true rfl) rfl (fun Γ _ hR hX => t_X7_lay hX hR x1 x2 x3 x4 v h)
set_option maxRecDepth 20000 in
theorem t_X7_lose {Γ : gC} {Ω : gO} {r0 : Int32} {v0 : gV} (hX : gx_X Γ Ω cX7_lose RX7 3 (some .int)) (hR : Γ.2.2.2.1 = gx_R 1) (x1 : Int32) (v : gV) (h : f_X7_lose x1 v = some (r0, v0)) : gx_G Γ Ω LX (gx_Q Γ Ω LX (some (.int r0)) v0) 3 v 0 [(0, .ref (Ω.1 0)), (1, .int x1)] [] := by
  rw [f_X7_lose] at h
  refine gi_iload_n (n := 1) hX 1 dX7_lose_0 rfl rfl rfl ?_
  refine gi_iconst (x := (4 : Int32)) (n := 2) hX rfl dX7_lose_1 rfl ?_
  obtain ⟨r3, v1, e2, h⟩ := bi_some h
  refine gi_statI (st := []) (n := 5) hX hR ms_X7_isOutside ml_X7_70 (m_X7_isOutside Γ.2.1 Ω x1 (4 : Int32) v e2) rfl ⟨rfl, rfl⟩ rfl dX7_lose_2 rfl rfl ?_
  refine gi_if_eq (tgt := 11) (n := 8) hX dX7_lose_5 rfl rfl h (fun h => ?_) (fun h => ?_)
  · refine gi_aload_n (n := 12) hX 0 dX7_lose_11 rfl rfl rfl ?_
    refine gi_getR (n := 15) hX 6 kc_X7 ly_X7 rfl rfl fl_X7_54 dX7_lose_12 rfl ?_
    refine gi_iload_n (n := 16) hX 1 dX7_lose_15 rfl rfl rfl ?_
    refine gi_aald (n := 17) hX ly_99 (Or.inr (Or.inl rfl)) dX7_lose_16 rfl h (fun g4 k5 h => ?_)
    obtain ⟨r8, v6, e7, h⟩ := bi_some h
    refine gi_virtI (st := []) (n := 20) hX hR kc_X2 (ly_S k5) mv_X2_isLost ml_X7_192 (m_X2_isLost Γ.2.1 Ω g4 k5 v1 e7) rfl ⟨rfl, rfl⟩ rfl dX7_lose_17 rfl rfl ?_
    refine gi_if_eq (tgt := 29) (n := 23) hX dX7_lose_20 rfl rfl h (fun h => ?_) (fun h => ?_)
    · refine gi_aload_n (n := 30) hX 0 dX7_lose_29 rfl rfl rfl ?_
      refine gi_getR (n := 33) hX 6 kc_X7 ly_X7 rfl rfl fl_X7_54 dX7_lose_30 rfl ?_
      refine gi_iload_n (n := 34) hX 1 dX7_lose_33 rfl rfl rfl ?_
      refine gi_aald (n := 35) hX ly_99 (Or.inr (Or.inl rfl)) dX7_lose_34 rfl h (fun g9 k10 h => ?_)
      refine gi_getI (n := 38) hX 1 kc_X2 (ly_S k10) rfl rfl fl_X7_201 dX7_lose_35 rfl ?_
      refine gi_topI h (fun u11 h => ?_)
      refine gi_istore_n (n := 39) hX [(2, .int u11), (0, .ref (Ω.1 0)), (1, .int x1)] dX7_lose_38 rfl rfl rfl rfl ?_
      refine gi_aload_n (n := 40) hX 1 dX7_lose_39 rfl rfl rfl ?_
      refine gi_getR (n := 43) hX 6 kc_X7 ly_X7 rfl rfl fl_X7_54 dX7_lose_40 rfl ?_
      refine gi_iload_n (n := 44) hX 2 dX7_lose_43 rfl rfl rfl ?_
      refine gi_aald (n := 45) hX ly_99 (Or.inr (Or.inl rfl)) dX7_lose_44 rfl h (fun g12 k13 h => ?_)
      obtain ⟨v14, e15, h⟩ := bv_some h
      refine gi_virtV (st := []) (n := 48) hX hR kc_X2 (ly_S k13) mv_X2_giveUp ml_X7_244 (m_X2_giveUp Γ.2.1 Ω g12 k13 v6 e15) rfl ⟨rfl, rfl⟩ rfl dX7_lose_45 rfl rfl ?_
      refine gi_iload_n (n := 49) hX 0 dX7_lose_48 rfl rfl rfl ?_
      exact gi_iret hX rfl dX7_lose_49 h
    · refine gi_aload_n (n := 24) hX 0 dX7_lose_23 rfl rfl rfl ?_
      refine gi_iconst (x := (1 : Int32)) (n := 25) hX rfl dX7_lose_24 rfl ?_
      obtain ⟨r18, v16, e17, h⟩ := bi_some h
      refine gi_virtI (st := []) (n := 28) hX hR kc_X7 ly_X7 mv_X7_finding ml_X7_195 (m_X7_finding Γ.2.1 Ω (1 : Int32) v6 e17) rfl ⟨rfl, rfl⟩ rfl dX7_lose_25 rfl rfl ?_
      exact gi_iret hX rfl dX7_lose_28 h
  · refine gi_bipush (x := (-2 : Int32)) (n := 10) hX rfl dX7_lose_8 rfl ?_
    exact gi_iret hX rfl dX7_lose_10 h
theorem m_X7_lose (l : Launch) (Ω : gO) (x1 : Int32) (v : gV) {r0 : Int32} {v0 : gV} (h : f_X7_lose x1 v = some (r0, v0)) : gx_M l Ω LX yX7_lose cX7_lose 3 (some .int) 1 [.ref (Ω.1 0), .int x1] v (some (.int r0)) v0 := gx_start (lv := [(0, .ref (Ω.1 0)), (1, .int x1)]) (by decide +kernel) (Nat.le_of_ble_eq_true rfl) rfl (fun Γ _ hR hX => t_X7_lose hX hR x1 v h)
set_option maxRecDepth 20000 in
theorem t_X7_read_B44 {Γ : gC} {Ω : gO} {r0 : Int32} {v0 : gV} {o : (gV × Int32 × Int32) ⊕ ((gV × Int32) ⊕ (Int32 × gV))} (hX : gx_X Γ Ω cX7_read RX7 5 (some .int)) (hR : Γ.2.2.2.1 = gx_R 2) (x1 : Int32) (q2 : Nat) (hq2 : LX[q2]? = some (gk_i 60)) (x3 : Int32) (x4 : Int32) (v : gV) (h : f_X7_read_B44 x1 q2 x3 x4 v = some o) (hc : ∀ c0 c1 c2, o = .inl (c0, c1, c2) → gx_G Γ Ω LX (gx_Q Γ Ω LX (some (.int r0)) v0) 5 c0 44 [(0, .ref (Ω.1 0)), (1, .int x1), (2, .ref (Ω.1 q2)), (3, .int c1), (4, .int c2)] []) (hz : ∀ z0 z1, o = .inr (.inl (z0, z1)) → gx_G Γ Ω LX (gx_Q Γ Ω LX (some (.int r0)) v0) 5 z0 127 [(3, .int z1)] []) (hr : ∀ q0 q1, o = .inr (.inr (q0, q1)) → some (q0, q1) = some (r0, v0)) : gx_G Γ Ω LX (gx_Q Γ Ω LX (some (.int r0)) v0) 5 v 44 [(0, .ref (Ω.1 0)), (1, .int x1), (2, .ref (Ω.1 q2)), (3, .int x3), (4, .int x4)] [] := by
  rw [f_X7_read_B44] at h
  refine gi_iload (n := 46) hX 4 dX7_read_44 rfl rfl ?_
  refine gi_iconst (x := (3 : Int32)) (n := 47) hX rfl dX7_read_46 rfl ?_
  refine gi_iadd (n := 48) hX dX7_read_47 rfl ?_
  refine gi_aload_n (n := 49) hX 0 dX7_read_48 rfl rfl rfl ?_
  refine gi_getR (n := 52) hX 6 kc_X7 ly_X7 rfl rfl fl_X7_54 dX7_read_49 rfl ?_
  refine gi_iload_n (n := 53) hX 1 dX7_read_52 rfl rfl rfl ?_
  refine gi_aald (n := 54) hX ly_99 (Or.inr (Or.inl rfl)) dX7_read_53 rfl h (fun g1 k2 h => ?_)
  refine gi_getI (n := 57) hX 1 kc_X2 (ly_S k2) rfl rfl fl_X7_201 dX7_read_54 rfl ?_
  refine gi_icmp_gt (tgt := 127) (n := 60) hX dX7_read_57 rfl rfl h (fun h => ?_) (fun h => ?_)
  · refine gi_sub [3] rfl ?_
    exact hz _ _ (Option.some.inj h).symm
  · refine gi_aload_n (n := 61) hX 0 dX7_read_60 rfl rfl rfl ?_
    refine gi_getR (n := 64) hX 5 kc_X7 ly_X7 rfl rfl fl_X7_47 dX7_read_61 rfl ?_
    obtain ⟨r5, v3, e4, h⟩ := bi_some h
    refine gi_virtI (st := []) (n := 67) hX hR kc_X3 ly_X3 mv_X3_isFull ml_X7_187 (m_X3_isFull Γ.2.1 Ω v e4) rfl ⟨rfl, rfl⟩ rfl dX7_read_64 rfl rfl ?_
    refine gi_if_ne (tgt := 127) (n := 70) hX dX7_read_67 rfl rfl h (fun h => ?_) (fun h => ?_)
    · refine gi_sub [3] rfl ?_
      exact hz _ _ (Option.some.inj h).symm
    · refine gi_aload_n (n := 71) hX 2 dX7_read_70 rfl rfl rfl ?_
      refine gi_iload (n := 73) hX 4 dX7_read_71 rfl rfl ?_
      refine gi_iald (n := 74) hX hq2 dX7_read_73 rfl h (fun h => ?_)
      refine gi_aload_n (n := 75) hX 2 dX7_read_74 rfl rfl rfl ?_
      refine gi_iload (n := 77) hX 4 dX7_read_75 rfl rfl ?_
      refine gi_iconst (x := (1 : Int32)) (n := 78) hX rfl dX7_read_77 rfl ?_
      refine gi_iadd (n := 79) hX dX7_read_78 rfl ?_
      refine gi_iald (n := 80) hX hq2 dX7_read_79 rfl h (fun h => ?_)
      refine gi_aload_n (n := 81) hX 2 dX7_read_80 rfl rfl rfl ?_
      refine gi_iload (n := 83) hX 4 dX7_read_81 rfl rfl ?_
      refine gi_iconst (x := (2 : Int32)) (n := 84) hX rfl dX7_read_83 rfl ?_
      refine gi_iadd (n := 85) hX dX7_read_84 rfl ?_
      refine gi_iald (n := 86) hX hq2 dX7_read_85 rfl h (fun h => ?_)
      obtain ⟨r8, v6, e7, h⟩ := bi_some h
      refine gi_statI (st := []) (n := 89) hX hR ms_X3_mayBe ml_X7_184 (m_X3_mayBe Γ.2.1 Ω (v3.1 q2 (x4).toNatClampNeg) (v3.1 q2 ((x4 + (1 : Int32))).toNatClampNeg) (v3.1 q2 ((x4 + (2 : Int32))).toNatClampNeg) v3 e7) rfl ⟨rfl, rfl⟩ rfl dX7_read_86 rfl rfl ?_
      refine gi_if_ne (tgt := 95) (n := 92) hX dX7_read_89 rfl rfl h (fun h => ?_) (fun h => ?_)
      · refine gi_aload_n (n := 96) hX 0 dX7_read_95 rfl rfl rfl ?_
        refine gi_getR (n := 99) hX 5 kc_X7 ly_X7 rfl rfl fl_X7_47 dX7_read_96 rfl ?_
        refine gi_aload_n (n := 100) hX 2 dX7_read_99 rfl rfl rfl ?_
        refine gi_iload (n := 102) hX 4 dX7_read_100 rfl rfl ?_
        refine gi_iald (n := 103) hX hq2 dX7_read_102 rfl h (fun h => ?_)
        refine gi_aload_n (n := 104) hX 2 dX7_read_103 rfl rfl rfl ?_
        refine gi_iload (n := 106) hX 4 dX7_read_104 rfl rfl ?_
        refine gi_iconst (x := (1 : Int32)) (n := 107) hX rfl dX7_read_106 rfl ?_
        refine gi_iadd (n := 108) hX dX7_read_107 rfl ?_
        refine gi_iald (n := 109) hX hq2 dX7_read_108 rfl h (fun h => ?_)
        refine gi_aload_n (n := 110) hX 2 dX7_read_109 rfl rfl rfl ?_
        refine gi_iload (n := 112) hX 4 dX7_read_110 rfl rfl ?_
        refine gi_iconst (x := (2 : Int32)) (n := 113) hX rfl dX7_read_112 rfl ?_
        refine gi_iadd (n := 114) hX dX7_read_113 rfl ?_
        refine gi_iald (n := 115) hX hq2 dX7_read_114 rfl h (fun h => ?_)
        obtain ⟨v9, e10, h⟩ := bv_some h
        refine gi_virtV (st := []) (n := 118) hX hR kc_X3 ly_X3 mv_X3_append ml_X7_188 (m_X3_append Γ.2.1 Ω (v6.1 q2 (x4).toNatClampNeg) (v6.1 q2 ((x4 + (1 : Int32))).toNatClampNeg) (v6.1 q2 ((x4 + (2 : Int32))).toNatClampNeg) v6 e10) rfl ⟨rfl, rfl⟩ rfl dX7_read_115 rfl rfl ?_
        refine gi_iinc (z := (1 : Int32)) (n := 121) hX 3 [(3, .int (x3 + (1 : Int32))), (0, .ref (Ω.1 0)), (1, .int x1), (2, .ref (Ω.1 q2)), (4, .int x4)] dX7_read_118 rfl rfl rfl rfl rfl rfl ?_
        refine gi_iinc (z := (3 : Int32)) (n := 124) hX 4 [(4, .int (x4 + (3 : Int32))), (3, .int (x3 + (1 : Int32))), (0, .ref (Ω.1 0)), (1, .int x1), (2, .ref (Ω.1 q2))] dX7_read_121 rfl rfl rfl rfl rfl rfl ?_
        refine gi_goto (n := 44) hX dX7_read_124 rfl ?_
        refine gi_sub [2, 3, 4, 1, 0] rfl ?_
        exact hc _ _ _ (Option.some.inj h).symm
      · refine gi_goto (n := 127) hX dX7_read_92 rfl ?_
        refine gi_sub [3] rfl ?_
        exact hz _ _ (Option.some.inj h).symm
set_option maxRecDepth 20000 in
theorem t_X7_read {Γ : gC} {Ω : gO} {r0 : Int32} {v0 : gV} (hX : gx_X Γ Ω cX7_read RX7 5 (some .int)) (hR : Γ.2.2.2.1 = gx_R 2) (x1 : Int32) (v : gV) (h : f_X7_read x1 v = some (r0, v0)) : gx_G Γ Ω LX (gx_Q Γ Ω LX (some (.int r0)) v0) 5 v 0 [(0, .ref (Ω.1 0)), (1, .int x1)] [] := by
  rw [f_X7_read] at h
  refine gi_iload_n (n := 1) hX 1 dX7_read_0 rfl rfl rfl ?_
  refine gi_iconst (x := (4 : Int32)) (n := 2) hX rfl dX7_read_1 rfl ?_
  obtain ⟨r3, v1, e2, h⟩ := bi_some h
  refine gi_statI (st := []) (n := 5) hX hR ms_X7_isOutside ml_X7_70 (m_X7_isOutside Γ.2.1 Ω x1 (4 : Int32) v e2) rfl ⟨rfl, rfl⟩ rfl dX7_read_2 rfl rfl ?_
  refine gi_if_eq (tgt := 11) (n := 8) hX dX7_read_5 rfl rfl h (fun h => ?_) (fun h => ?_)
  · refine gi_aload_n (n := 12) hX 0 dX7_read_11 rfl rfl rfl ?_
    refine gi_getR (n := 15) hX 6 kc_X7 ly_X7 rfl rfl fl_X7_54 dX7_read_12 rfl ?_
    refine gi_iload_n (n := 16) hX 1 dX7_read_15 rfl rfl rfl ?_
    refine gi_aald (n := 17) hX ly_99 (Or.inr (Or.inl rfl)) dX7_read_16 rfl h (fun g4 k5 h => ?_)
    obtain ⟨r8, v6, e7, h⟩ := bi_some h
    refine gi_virtI (st := []) (n := 20) hX hR kc_X2 (ly_S k5) mv_X2_isLost ml_X7_192 (m_X2_isLost Γ.2.1 Ω g4 k5 v1 e7) rfl ⟨rfl, rfl⟩ rfl dX7_read_17 rfl rfl ?_
    refine gi_if_eq (tgt := 29) (n := 23) hX dX7_read_20 rfl rfl h (fun h => ?_) (fun h => ?_)
    · refine gi_aload_n (n := 30) hX 0 dX7_read_29 rfl rfl rfl ?_
      refine gi_getR (n := 33) hX 6 kc_X7 ly_X7 rfl rfl fl_X7_54 dX7_read_30 rfl ?_
      refine gi_iload_n (n := 34) hX 1 dX7_read_33 rfl rfl rfl ?_
      refine gi_aald (n := 35) hX ly_99 (Or.inr (Or.inl rfl)) dX7_read_34 rfl h (fun g9 k10 h => ?_)
      refine gi_getR (n := 38) hX 2 kc_X2 (ly_S k10) rfl rfl fl_X7_198 dX7_read_35 rfl ?_
      refine gi_astore_n (n := 39) hX [(2, .ref (Ω.1 (g9 + 1))), (0, .ref (Ω.1 0)), (1, .int x1)] dX7_read_38 rfl rfl rfl rfl ?_
      refine gi_iconst (x := (0 : Int32)) (n := 40) hX rfl dX7_read_39 rfl ?_
      refine gi_istore_n (n := 41) hX [(3, .int (0 : Int32)), (2, .ref (Ω.1 (g9 + 1))), (0, .ref (Ω.1 0)), (1, .int x1)] dX7_read_40 rfl rfl rfl rfl ?_
      refine gi_iconst (x := (0 : Int32)) (n := 42) hX rfl dX7_read_41 rfl ?_
      refine gi_istore (n := 44) hX [(4, .int (0 : Int32)), (3, .int (0 : Int32)), (2, .ref (Ω.1 (g9 + 1))), (0, .ref (Ω.1 0)), (1, .int x1)] dX7_read_42 rfl rfl rfl ?_
      refine gi_sub [3, 4, 2, 1, 0] rfl ?_
      have key := lp_ind (f := (fun a : gV × Int32 × Int32 => f_X7_read_B44 x1 (g9 + 1) a.2.1 a.2.2 a.1)) (P := (fun a : gV × Int32 × Int32 => gx_G Γ Ω LX (gx_Q Γ Ω LX (some (.int r0)) v0) 5 a.1 44 [(0, .ref (Ω.1 0)), (1, .int x1), (2, .ref (Ω.1 (g9 + 1))), (3, .int a.2.1), (4, .int a.2.2)] [])) (Z := (fun w : (gV × Int32) ⊕ (Int32 × gV) => Sum.elim (fun z : gV × Int32 => gx_G Γ Ω LX (gx_Q Γ Ω LX (some (.int r0)) v0) 5 z.1 127 [(3, .int z.2)] []) (fun q => some q = some (r0, v0)) w)) (fun a o h hc hz => t_X7_read_B44 hX hR x1 (g9 + 1) (ly_Sk k10) a.2.1 a.2.2 a.1 h (fun c0 c1 c2 e => hc (c0, c1, c2) e) (fun z0 z1 e => hz (.inl (z0, z1)) e) (fun q0 q1 e => hz (.inr (q0, q1)) e)) fu
      rcases bs2_some h with ⟨v11, y12, e0, h⟩ | ⟨q, e0, h⟩
      · refine key (v6, (0 : Int32), (0 : Int32)) _ e0 ?_
        show gx_G Γ Ω LX (gx_Q Γ Ω LX (some (.int r0)) v0) 5 v11 127 [(3, .int y12)] []
        refine gi_iload_n (n := 128) hX 0 dX7_read_127 rfl rfl rfl ?_
        exact gi_iret hX rfl dX7_read_128 h
      · refine key (v6, (0 : Int32), (0 : Int32)) _ e0 ?_
        show some q = some (r0, v0)
        exact h
    · refine gi_aload_n (n := 24) hX 0 dX7_read_23 rfl rfl rfl ?_
      refine gi_iconst (x := (1 : Int32)) (n := 25) hX rfl dX7_read_24 rfl ?_
      obtain ⟨r15, v13, e14, h⟩ := bi_some h
      refine gi_virtI (st := []) (n := 28) hX hR kc_X7 ly_X7 mv_X7_finding ml_X7_195 (m_X7_finding Γ.2.1 Ω (1 : Int32) v6 e14) rfl ⟨rfl, rfl⟩ rfl dX7_read_25 rfl rfl ?_
      exact gi_iret hX rfl dX7_read_28 h
  · refine gi_bipush (x := (-2 : Int32)) (n := 10) hX rfl dX7_read_8 rfl ?_
    exact gi_iret hX rfl dX7_read_10 h
theorem m_X7_read (l : Launch) (Ω : gO) (x1 : Int32) (v : gV) {r0 : Int32} {v0 : gV} (h : f_X7_read x1 v = some (r0, v0)) : gx_M l Ω LX yX7_read cX7_read 5 (some .int) 2 [.ref (Ω.1 0), .int x1] v (some (.int r0)) v0 := gx_start (lv := [(0, .ref (Ω.1 0)), (1, .int x1)]) (by decide +kernel) (Nat.le_of_ble_eq_true rfl) rfl (fun Γ _ hR hX => t_X7_read hX hR x1 v h)
set_option maxRecDepth 20000 in
theorem t_X7_seen {Γ : gC} {Ω : gO} {r0 : Int32} {v0 : gV} (hX : gx_X Γ Ω cX7_seen RX7 4 (some .int)) (hR : Γ.2.2.2.1 = gx_R 2) (x1 : Int32) (x2 : Int32) (x3 : Int32) (v : gV) (h : f_X7_seen x1 x2 x3 v = some (r0, v0)) : gx_G Γ Ω LX (gx_Q Γ Ω LX (some (.int r0)) v0) 4 v 0 [(0, .ref (Ω.1 0)), (1, .int x1), (2, .int x2), (3, .int x3)] [] := by
  rw [f_X7_seen] at h
  refine gi_iload_n (n := 1) hX 1 dX7_seen_0 rfl rfl rfl ?_
  refine gi_iload_n (n := 2) hX 2 dX7_seen_1 rfl rfl rfl ?_
  refine gi_iload_n (n := 3) hX 3 dX7_seen_2 rfl rfl rfl ?_
  obtain ⟨r3, v1, e2, h⟩ := bi_some h
  refine gi_statI (st := []) (n := 6) hX hR ms_X3_mayBe ml_X7_184 (m_X3_mayBe Γ.2.1 Ω x1 x2 x3 v e2) rfl ⟨rfl, rfl⟩ rfl dX7_seen_3 rfl rfl ?_
  refine gi_if_ne (tgt := 12) (n := 9) hX dX7_seen_6 rfl rfl h (fun h => ?_) (fun h => ?_)
  · refine gi_aload_n (n := 13) hX 0 dX7_seen_12 rfl rfl rfl ?_
    refine gi_getR (n := 16) hX 5 kc_X7 ly_X7 rfl rfl fl_X7_47 dX7_seen_13 rfl ?_
    obtain ⟨r6, v4, e5, h⟩ := bi_some h
    refine gi_virtI (st := []) (n := 19) hX hR kc_X3 ly_X3 mv_X3_isFull ml_X7_187 (m_X3_isFull Γ.2.1 Ω v1 e5) rfl ⟨rfl, rfl⟩ rfl dX7_seen_16 rfl rfl ?_
    refine gi_if_eq (tgt := 25) (n := 22) hX dX7_seen_19 rfl rfl h (fun h => ?_) (fun h => ?_)
    · refine gi_aload_n (n := 26) hX 0 dX7_seen_25 rfl rfl rfl ?_
      refine gi_getR (n := 29) hX 5 kc_X7 ly_X7 rfl rfl fl_X7_47 dX7_seen_26 rfl ?_
      refine gi_iload_n (n := 30) hX 1 dX7_seen_29 rfl rfl rfl ?_
      refine gi_iload_n (n := 31) hX 2 dX7_seen_30 rfl rfl rfl ?_
      refine gi_iload_n (n := 32) hX 3 dX7_seen_31 rfl rfl rfl ?_
      obtain ⟨v7, e8, h⟩ := bv_some h
      refine gi_virtV (st := []) (n := 35) hX hR kc_X3 ly_X3 mv_X3_append ml_X7_188 (m_X3_append Γ.2.1 Ω x1 x2 x3 v4 e8) rfl ⟨rfl, rfl⟩ rfl dX7_seen_32 rfl rfl ?_
      refine gi_aload_n (n := 36) hX 0 dX7_seen_35 rfl rfl rfl ?_
      refine gi_getR (n := 39) hX 5 kc_X7 ly_X7 rfl rfl fl_X7_47 dX7_seen_36 rfl ?_
      refine gi_getI (n := 42) hX 3 kc_X3 ly_X3 rfl rfl fl_X7_191 dX7_seen_39 rfl ?_
      exact gi_iret hX rfl dX7_seen_42 h
    · refine gi_bipush (x := (-4 : Int32)) (n := 24) hX rfl dX7_seen_22 rfl ?_
      exact gi_iret hX rfl dX7_seen_24 h
  · refine gi_bipush (x := (-2 : Int32)) (n := 11) hX rfl dX7_seen_9 rfl ?_
    exact gi_iret hX rfl dX7_seen_11 h
theorem m_X7_seen (l : Launch) (Ω : gO) (x1 : Int32) (x2 : Int32) (x3 : Int32) (v : gV) {r0 : Int32} {v0 : gV} (h : f_X7_seen x1 x2 x3 v = some (r0, v0)) : gx_M l Ω LX yX7_seen cX7_seen 4 (some .int) 2 [.ref (Ω.1 0), .int x1, .int x2, .int x3] v (some (.int r0)) v0 := gx_start (lv := [(0, .ref (Ω.1 0)), (1, .int x1), (2, .int x2), (3, .int x3)]) (by decide +kernel) (Nat.le_of_ble_eq_true rfl) rfl (fun Γ _ hR hX => t_X7_seen hX hR x1 x2 x3 v h)
set_option maxRecDepth 20000 in
theorem t_X7_tellAnew {Γ : gC} {Ω : gO} {v0 : gV} (hX : gx_X Γ Ω cX7_tellAnew RX7 1 (none)) (hR : Γ.2.2.2.1 = gx_R 4)  (v : gV) (h : f_X7_tellAnew  v = some v0) : gx_G Γ Ω LX (gx_Q Γ Ω LX none v0) 1 v 0 [(0, .ref (Ω.1 0))] [] := by
  rw [f_X7_tellAnew] at h
  refine gi_aload_n (n := 1) hX 0 dX7_tellAnew_0 rfl rfl rfl ?_
  refine gi_getR (n := 4) hX 1 kc_X7 ly_X7 rfl rfl fl_X7_21 dX7_tellAnew_1 rfl ?_
  refine gi_aload_n (n := 5) hX 0 dX7_tellAnew_4 rfl rfl rfl ?_
  refine gi_getR (n := 8) hX 0 kc_X7 ly_X7 rfl rfl fl_X7_14 dX7_tellAnew_5 rfl ?_
  refine gi_iconst (x := (0 : Int32)) (n := 9) hX rfl dX7_tellAnew_8 rfl ?_
  refine gi_aald (n := 10) hX ly_1 (Or.inl rfl) dX7_tellAnew_9 rfl h (fun g1 k2 h => ?_)
  obtain ⟨v3, e4, h⟩ := bv_some h
  refine gi_virtV (st := []) (n := 13) hX hR kc_X6 ly_X6 mv_X6_readRiders ml_X7_343 (m_X6_readRiders Γ.2.1 Ω g1 k2 v e4) rfl ⟨rfl, rfl⟩ rfl dX7_tellAnew_10 rfl rfl ?_
  refine gi_aload_n (n := 14) hX 0 dX7_tellAnew_13 rfl rfl rfl ?_
  refine gi_getR (n := 17) hX 1 kc_X7 ly_X7 rfl rfl fl_X7_21 dX7_tellAnew_14 rfl ?_
  refine gi_aload_n (n := 18) hX 0 dX7_tellAnew_17 rfl rfl rfl ?_
  refine gi_getR (n := 21) hX 0 kc_X7 ly_X7 rfl rfl fl_X7_14 dX7_tellAnew_18 rfl ?_
  refine gi_iconst (x := (1 : Int32)) (n := 22) hX rfl dX7_tellAnew_21 rfl ?_
  refine gi_aald (n := 23) hX ly_1 (Or.inl rfl) dX7_tellAnew_22 rfl h (fun g5 k6 h => ?_)
  obtain ⟨v7, e8, h⟩ := bv_some h
  refine gi_virtV (st := []) (n := 26) hX hR kc_X6 ly_X6 mv_X6_readBag ml_X7_347 (m_X6_readBag Γ.2.1 Ω g5 k6 v3 e8) rfl ⟨rfl, rfl⟩ rfl dX7_tellAnew_23 rfl rfl ?_
  refine gi_aload_n (n := 27) hX 0 dX7_tellAnew_26 rfl rfl rfl ?_
  refine gi_getR (n := 30) hX 4 kc_X7 ly_X7 rfl rfl fl_X7_40 dX7_tellAnew_27 rfl ?_
  refine gi_aload_n (n := 31) hX 0 dX7_tellAnew_30 rfl rfl rfl ?_
  refine gi_getR (n := 34) hX 1 kc_X7 ly_X7 rfl rfl fl_X7_21 dX7_tellAnew_31 rfl ?_
  obtain ⟨v9, e10, h⟩ := bv_some h
  refine gi_virtV (st := []) (n := 37) hX hR kc_X4 ly_X4 mv_X4_startAnew ml_X7_350 (m_X4_startAnew Γ.2.1 Ω v7 e10) rfl ⟨rfl, rfl⟩ rfl dX7_tellAnew_34 rfl rfl ?_
  refine gi_aload_n (n := 38) hX 0 dX7_tellAnew_37 rfl rfl rfl ?_
  refine gi_getR (n := 41) hX 2 kc_X7 ly_X7 rfl rfl fl_X7_30 dX7_tellAnew_38 rfl ?_
  obtain ⟨v11, e12, h⟩ := bv_some h
  refine gi_virtV (st := []) (n := 44) hX hR kc_X1 (ly_R (rfl : kR 16 = true)) mv_X1_begin ml_X7_171 (m_X1_begin Γ.2.1 Ω 16 (rfl : kR 16 = true) v9 e12) rfl ⟨rfl, rfl⟩ rfl dX7_tellAnew_41 rfl rfl ?_
  refine gi_aload_n (n := 45) hX 0 dX7_tellAnew_44 rfl rfl rfl ?_
  refine gi_getR (n := 48) hX 2 kc_X7 ly_X7 rfl rfl fl_X7_30 dX7_tellAnew_45 rfl ?_
  obtain ⟨v13, e14, h⟩ := bv_some h
  refine gi_virtV (st := []) (n := 51) hX hR kc_X1 (ly_R (rfl : kR 16 = true)) mv_X1_go ml_X7_181 (m_X1_go Γ.2.1 Ω 16 (rfl : kR 16 = true) v11 e14) rfl ⟨rfl, rfl⟩ rfl dX7_tellAnew_48 rfl rfl ?_
  exact gi_vret hX rfl dX7_tellAnew_51 h
theorem m_X7_tellAnew (l : Launch) (Ω : gO) (v : gV) {v0 : gV} (h : f_X7_tellAnew v = some v0) : gx_M l Ω LX yX7_tellAnew cX7_tellAnew 1 (none) 4 [.ref (Ω.1 0)] v none v0 := gx_start (lv := [(0, .ref (Ω.1 0))]) (by decide +kernel) (Nat.le_of_ble_eq_true rfl) rfl (fun Γ _ hR hX => t_X7_tellAnew hX hR v h)
set_option maxRecDepth 20000 in
theorem t_X7_tellEven {Γ : gC} {Ω : gO} {r0 : Int32} {v0 : gV} (hX : gx_X Γ Ω cX7_tellEven RX7 3 (some .int)) (hR : Γ.2.2.2.1 = gx_R 5) (x1 : Int32) (v : gV) (h : f_X7_tellEven x1 v = some (r0, v0)) : gx_G Γ Ω LX (gx_Q Γ Ω LX (some (.int r0)) v0) 3 v 0 [(0, .ref (Ω.1 0)), (1, .int x1)] [] := by
  rw [f_X7_tellEven] at h
  refine gi_aload_n (n := 1) hX 0 dX7_tellEven_0 rfl rfl rfl ?_
  refine gi_getR (n := 4) hX 1 kc_X7 ly_X7 rfl rfl fl_X7_21 dX7_tellEven_1 rfl ?_
  refine gi_getI (n := 7) hX 9 kc_X6 ly_X6 rfl rfl fl_X7_352 dX7_tellEven_4 rfl ?_
  refine gi_topI h (fun u1 h => ?_)
  refine gi_istore_n (n := 8) hX [(2, .int u1), (0, .ref (Ω.1 0)), (1, .int x1)] dX7_tellEven_7 rfl rfl rfl rfl ?_
  refine gi_aload_n (n := 9) hX 1 dX7_tellEven_8 rfl rfl rfl ?_
  refine gi_getR (n := 12) hX 1 kc_X7 ly_X7 rfl rfl fl_X7_21 dX7_tellEven_9 rfl ?_
  refine gi_iload_n (n := 13) hX 2 dX7_tellEven_12 rfl rfl rfl ?_
  refine gi_putI (n := 16) hX 9 kc_X6 ly_X6 rfl rfl fl_X7_352 rfl rfl dX7_tellEven_13 rfl h (fun v2 h => ?_)
  refine gi_aload_n (n := 17) hX 1 dX7_tellEven_16 rfl rfl rfl ?_
  obtain ⟨v3, e4, h⟩ := bv_some h
  refine gi_virtV (st := []) (n := 20) hX hR kc_X7 ly_X7 mv_X7_tellAnew ml_X7_67 (m_X7_tellAnew Γ.2.1 Ω v2 e4) rfl ⟨rfl, rfl⟩ rfl dX7_tellEven_17 rfl rfl ?_
  refine gi_iload_n (n := 21) hX 0 dX7_tellEven_20 rfl rfl rfl ?_
  exact gi_iret hX rfl dX7_tellEven_21 h
theorem m_X7_tellEven (l : Launch) (Ω : gO) (x1 : Int32) (v : gV) {r0 : Int32} {v0 : gV} (h : f_X7_tellEven x1 v = some (r0, v0)) : gx_M l Ω LX yX7_tellEven cX7_tellEven 3 (some .int) 5 [.ref (Ω.1 0), .int x1] v (some (.int r0)) v0 := gx_start (lv := [(0, .ref (Ω.1 0)), (1, .int x1)]) (by decide +kernel) (Nat.le_of_ble_eq_true rfl) rfl (fun Γ _ hR hX => t_X7_tellEven hX hR x1 v h)
set_option maxRecDepth 20000 in
theorem t_X7_tellChanges {Γ : gC} {Ω : gO} {r0 : Int32} {v0 : gV} (hX : gx_X Γ Ω cX7_tellChanges RX7 3 (some .int)) (hR : Γ.2.2.2.1 = gx_R 5) (x1 : Int32) (v : gV) (h : f_X7_tellChanges x1 v = some (r0, v0)) : gx_G Γ Ω LX (gx_Q Γ Ω LX (some (.int r0)) v0) 3 v 0 [(0, .ref (Ω.1 0)), (1, .int x1)] [] := by
  rw [f_X7_tellChanges] at h
  refine gi_aload_n (n := 1) hX 0 dX7_tellChanges_0 rfl rfl rfl ?_
  refine gi_getR (n := 4) hX 1 kc_X7 ly_X7 rfl rfl fl_X7_21 dX7_tellChanges_1 rfl ?_
  refine gi_getI (n := 7) hX 10 kc_X6 ly_X6 rfl rfl fl_X7_227 dX7_tellChanges_4 rfl ?_
  refine gi_topI h (fun u1 h => ?_)
  refine gi_istore_n (n := 8) hX [(2, .int u1), (0, .ref (Ω.1 0)), (1, .int x1)] dX7_tellChanges_7 rfl rfl rfl rfl ?_
  refine gi_aload_n (n := 9) hX 1 dX7_tellChanges_8 rfl rfl rfl ?_
  refine gi_getR (n := 12) hX 1 kc_X7 ly_X7 rfl rfl fl_X7_21 dX7_tellChanges_9 rfl ?_
  refine gi_iload_n (n := 13) hX 2 dX7_tellChanges_12 rfl rfl rfl ?_
  refine gi_putI (n := 16) hX 10 kc_X6 ly_X6 rfl rfl fl_X7_227 rfl rfl dX7_tellChanges_13 rfl h (fun v2 h => ?_)
  refine gi_aload_n (n := 17) hX 1 dX7_tellChanges_16 rfl rfl rfl ?_
  obtain ⟨v3, e4, h⟩ := bv_some h
  refine gi_virtV (st := []) (n := 20) hX hR kc_X7 ly_X7 mv_X7_tellAnew ml_X7_67 (m_X7_tellAnew Γ.2.1 Ω v2 e4) rfl ⟨rfl, rfl⟩ rfl dX7_tellChanges_17 rfl rfl ?_
  refine gi_iload_n (n := 21) hX 0 dX7_tellChanges_20 rfl rfl rfl ?_
  exact gi_iret hX rfl dX7_tellChanges_21 h
theorem m_X7_tellChanges (l : Launch) (Ω : gO) (x1 : Int32) (v : gV) {r0 : Int32} {v0 : gV} (h : f_X7_tellChanges x1 v = some (r0, v0)) : gx_M l Ω LX yX7_tellChanges cX7_tellChanges 3 (some .int) 5 [.ref (Ω.1 0), .int x1] v (some (.int r0)) v0 := gx_start (lv := [(0, .ref (Ω.1 0)), (1, .int x1)]) (by decide +kernel) (Nat.le_of_ble_eq_true rfl) rfl (fun Γ _ hR hX => t_X7_tellChanges hX hR x1 v h)
set_option maxRecDepth 20000 in
theorem t_X7_tellForgets {Γ : gC} {Ω : gO} {r0 : Int32} {v0 : gV} (hX : gx_X Γ Ω cX7_tellForgets RX7 3 (some .int)) (hR : Γ.2.2.2.1 = gx_R 5) (x1 : Int32) (v : gV) (h : f_X7_tellForgets x1 v = some (r0, v0)) : gx_G Γ Ω LX (gx_Q Γ Ω LX (some (.int r0)) v0) 3 v 0 [(0, .ref (Ω.1 0)), (1, .int x1)] [] := by
  rw [f_X7_tellForgets] at h
  refine gi_aload_n (n := 1) hX 0 dX7_tellForgets_0 rfl rfl rfl ?_
  refine gi_getR (n := 4) hX 1 kc_X7 ly_X7 rfl rfl fl_X7_21 dX7_tellForgets_1 rfl ?_
  refine gi_getI (n := 7) hX 11 kc_X6 ly_X6 rfl rfl fl_X7_355 dX7_tellForgets_4 rfl ?_
  refine gi_topI h (fun u1 h => ?_)
  refine gi_istore_n (n := 8) hX [(2, .int u1), (0, .ref (Ω.1 0)), (1, .int x1)] dX7_tellForgets_7 rfl rfl rfl rfl ?_
  refine gi_aload_n (n := 9) hX 1 dX7_tellForgets_8 rfl rfl rfl ?_
  refine gi_getR (n := 12) hX 1 kc_X7 ly_X7 rfl rfl fl_X7_21 dX7_tellForgets_9 rfl ?_
  refine gi_iload_n (n := 13) hX 2 dX7_tellForgets_12 rfl rfl rfl ?_
  refine gi_putI (n := 16) hX 11 kc_X6 ly_X6 rfl rfl fl_X7_355 rfl rfl dX7_tellForgets_13 rfl h (fun v2 h => ?_)
  refine gi_aload_n (n := 17) hX 1 dX7_tellForgets_16 rfl rfl rfl ?_
  obtain ⟨v3, e4, h⟩ := bv_some h
  refine gi_virtV (st := []) (n := 20) hX hR kc_X7 ly_X7 mv_X7_tellAnew ml_X7_67 (m_X7_tellAnew Γ.2.1 Ω v2 e4) rfl ⟨rfl, rfl⟩ rfl dX7_tellForgets_17 rfl rfl ?_
  refine gi_iload_n (n := 21) hX 0 dX7_tellForgets_20 rfl rfl rfl ?_
  exact gi_iret hX rfl dX7_tellForgets_21 h
theorem m_X7_tellForgets (l : Launch) (Ω : gO) (x1 : Int32) (v : gV) {r0 : Int32} {v0 : gV} (h : f_X7_tellForgets x1 v = some (r0, v0)) : gx_M l Ω LX yX7_tellForgets cX7_tellForgets 3 (some .int) 5 [.ref (Ω.1 0), .int x1] v (some (.int r0)) v0 := gx_start (lv := [(0, .ref (Ω.1 0)), (1, .int x1)]) (by decide +kernel) (Nat.le_of_ble_eq_true rfl) rfl (fun Γ _ hR hX => t_X7_tellForgets hX hR x1 v h)
set_option maxRecDepth 20000 in
theorem t_X7_set {Γ : gC} {Ω : gO} {r0 : Int32} {v0 : gV} (hX : gx_X Γ Ω cX7_set RX7 3 (some .int)) (hR : Γ.2.2.2.1 = gx_R 6) (x1 : Int32) (x2 : Int32) (v : gV) (h : f_X7_set x1 x2 v = some (r0, v0)) : gx_G Γ Ω LX (gx_Q Γ Ω LX (some (.int r0)) v0) 3 v 0 [(0, .ref (Ω.1 0)), (1, .int x1), (2, .int x2)] [] := by
  rw [f_X7_set] at h
  refine gi_iload_n (n := 1) hX 1 dX7_set_0 rfl rfl rfl ?_
  rcases if_split h with ⟨c0, h⟩ | ⟨c0, h⟩
  · refine gi_tin (k0 := (0 : Int32)) (off := 27) (tgt := 28) hX dX7_set_1 c0 rfl ?_
    refine gi_iload_n (n := 29) hX 2 dX7_set_28 rfl rfl rfl ?_
    refine gi_bipush (x := (10 : Int32)) (n := 31) hX rfl dX7_set_29 rfl ?_
    obtain ⟨r3, v1, e2, h⟩ := bi_some h
    refine gi_statI (st := []) (n := 34) hX hR ms_X7_isOutside ml_X7_70 (m_X7_isOutside Γ.2.1 Ω x2 (10 : Int32) v e2) rfl ⟨rfl, rfl⟩ rfl dX7_set_31 rfl rfl ?_
    refine gi_if_eq (tgt := 42) (n := 37) hX dX7_set_34 rfl rfl h (fun h => ?_) (fun h => ?_)
    · refine gi_aload_n (n := 43) hX 0 dX7_set_42 rfl rfl rfl ?_
      refine gi_iload_n (n := 44) hX 2 dX7_set_43 rfl rfl rfl ?_
      obtain ⟨r6, v4, e5, h⟩ := bi_some h
      refine gi_virtI (st := []) (n := 47) hX hR kc_X7 ly_X7 mv_X7_tellEven ml_X7_110 (m_X7_tellEven Γ.2.1 Ω x2 v1 e5) rfl ⟨rfl, rfl⟩ rfl dX7_set_44 rfl rfl ?_
      exact gi_iret hX rfl dX7_set_47 h
    · refine gi_bipush (x := (-2 : Int32)) (n := 39) hX rfl dX7_set_37 rfl ?_
      refine gi_goto (n := 47) hX dX7_set_39 rfl ?_
      exact gi_iret hX rfl dX7_set_47 h
  rcases if_split h with ⟨c1, h⟩ | ⟨c1, h⟩
  · refine gi_tin (k0 := (1 : Int32)) (off := 47) (tgt := 48) hX dX7_set_1 c1 rfl ?_
    refine gi_iload_n (n := 49) hX 2 dX7_set_48 rfl rfl rfl ?_
    refine gi_sipush (x := (1024 : Int32)) (n := 52) hX rfl dX7_set_49 rfl ?_
    obtain ⟨r9, v7, e8, h⟩ := bi_some h
    refine gi_statI (st := []) (n := 55) hX hR ms_X7_isOutside ml_X7_70 (m_X7_isOutside Γ.2.1 Ω x2 (1024 : Int32) v e8) rfl ⟨rfl, rfl⟩ rfl dX7_set_52 rfl rfl ?_
    refine gi_if_eq (tgt := 63) (n := 58) hX dX7_set_55 rfl rfl h (fun h => ?_) (fun h => ?_)
    · refine gi_aload_n (n := 64) hX 0 dX7_set_63 rfl rfl rfl ?_
      refine gi_iload_n (n := 65) hX 2 dX7_set_64 rfl rfl rfl ?_
      obtain ⟨r12, v10, e11, h⟩ := bi_some h
      refine gi_virtI (st := []) (n := 68) hX hR kc_X7 ly_X7 mv_X7_tellChanges ml_X7_114 (m_X7_tellChanges Γ.2.1 Ω x2 v7 e11) rfl ⟨rfl, rfl⟩ rfl dX7_set_65 rfl rfl ?_
      exact gi_iret hX rfl dX7_set_68 h
    · refine gi_bipush (x := (-2 : Int32)) (n := 60) hX rfl dX7_set_58 rfl ?_
      refine gi_goto (n := 68) hX dX7_set_60 rfl ?_
      exact gi_iret hX rfl dX7_set_68 h
  rcases if_split h with ⟨c2, h⟩ | ⟨c2, h⟩
  · refine gi_tin (k0 := (2 : Int32)) (off := 68) (tgt := 69) hX dX7_set_1 c2 rfl ?_
    refine gi_iload_n (n := 70) hX 2 dX7_set_69 rfl rfl rfl ?_
    refine gi_sipush (x := (256 : Int32)) (n := 73) hX rfl dX7_set_70 rfl ?_
    obtain ⟨r15, v13, e14, h⟩ := bi_some h
    refine gi_statI (st := []) (n := 76) hX hR ms_X7_isOutside ml_X7_70 (m_X7_isOutside Γ.2.1 Ω x2 (256 : Int32) v e14) rfl ⟨rfl, rfl⟩ rfl dX7_set_73 rfl rfl ?_
    refine gi_if_eq (tgt := 84) (n := 79) hX dX7_set_76 rfl rfl h (fun h => ?_) (fun h => ?_)
    · refine gi_aload_n (n := 85) hX 0 dX7_set_84 rfl rfl rfl ?_
      refine gi_iload_n (n := 86) hX 2 dX7_set_85 rfl rfl rfl ?_
      obtain ⟨r18, v16, e17, h⟩ := bi_some h
      refine gi_virtI (st := []) (n := 89) hX hR kc_X7 ly_X7 mv_X7_tellForgets ml_X7_117 (m_X7_tellForgets Γ.2.1 Ω x2 v13 e17) rfl ⟨rfl, rfl⟩ rfl dX7_set_86 rfl rfl ?_
      exact gi_iret hX rfl dX7_set_89 h
    · refine gi_bipush (x := (-2 : Int32)) (n := 81) hX rfl dX7_set_79 rfl ?_
      refine gi_goto (n := 89) hX dX7_set_81 rfl ?_
      exact gi_iret hX rfl dX7_set_89 h
  refine gi_tout (tgt := 90) hX dX7_set_1 (by have e0 := lv_neT (a := 0) c0 rfl; have e1 := lv_neT (a := 1) c1 rfl; have e2 := lv_neT (a := 2) c2 rfl; omega) rfl ?_
  refine gi_bipush (x := (-2 : Int32)) (n := 92) hX rfl dX7_set_90 rfl ?_
  exact gi_iret hX rfl dX7_set_92 h
theorem m_X7_set (l : Launch) (Ω : gO) (x1 : Int32) (x2 : Int32) (v : gV) {r0 : Int32} {v0 : gV} (h : f_X7_set x1 x2 v = some (r0, v0)) : gx_M l Ω LX yX7_set cX7_set 3 (some .int) 6 [.ref (Ω.1 0), .int x1, .int x2] v (some (.int r0)) v0 := gx_start (lv := [(0, .ref (Ω.1 0)), (1, .int x1), (2, .int x2)]) (by decide +kernel) (Nat.le_of_ble_eq_true rfl) rfl (fun Γ _ hR hX => t_X7_set hX hR x1 x2 v h)
set_option maxRecDepth 20000 in
theorem t_X7_sheet {Γ : gC} {Ω : gO} {r0 : Int32} {v0 : gV} (hX : gx_X Γ Ω cX7_sheet RX7 4 (some .int)) (hR : Γ.2.2.2.1 = gx_R 2) (x1 : Int32) (x2 : Int32) (x3 : Int32) (v : gV) (h : f_X7_sheet x1 x2 x3 v = some (r0, v0)) : gx_G Γ Ω LX (gx_Q Γ Ω LX (some (.int r0)) v0) 4 v 0 [(0, .ref (Ω.1 0)), (1, .int x1), (2, .int x2), (3, .int x3)] [] := by
  rw [f_X7_sheet] at h
  refine gi_iload_n (n := 1) hX 1 dX7_sheet_0 rfl rfl rfl ?_
  refine gi_iconst (x := (4 : Int32)) (n := 2) hX rfl dX7_sheet_1 rfl ?_
  obtain ⟨r3, v1, e2, h⟩ := bi_some h
  refine gi_statI (st := []) (n := 5) hX hR ms_X7_isOutside ml_X7_70 (m_X7_isOutside Γ.2.1 Ω x1 (4 : Int32) v e2) rfl ⟨rfl, rfl⟩ rfl dX7_sheet_2 rfl rfl ?_
  refine gi_if_ne (tgt := 22) (n := 8) hX dX7_sheet_5 rfl rfl h (fun h => ?_) (fun h => ?_)
  · refine gi_bipush (x := (-2 : Int32)) (n := 24) hX rfl dX7_sheet_22 rfl ?_
    exact gi_iret hX rfl dX7_sheet_24 h
  · refine gi_iload_n (n := 9) hX 2 dX7_sheet_8 rfl rfl rfl ?_
    refine gi_iconst (x := (3 : Int32)) (n := 10) hX rfl dX7_sheet_9 rfl ?_
    obtain ⟨r6, v4, e5, h⟩ := bi_some h
    refine gi_statI (st := []) (n := 13) hX hR ms_X7_isOutside ml_X7_70 (m_X7_isOutside Γ.2.1 Ω x2 (3 : Int32) v1 e5) rfl ⟨rfl, rfl⟩ rfl dX7_sheet_10 rfl rfl ?_
    refine gi_if_ne (tgt := 22) (n := 16) hX dX7_sheet_13 rfl rfl h (fun h => ?_) (fun h => ?_)
    · refine gi_bipush (x := (-2 : Int32)) (n := 24) hX rfl dX7_sheet_22 rfl ?_
      exact gi_iret hX rfl dX7_sheet_24 h
    · refine gi_iload_n (n := 17) hX 3 dX7_sheet_16 rfl rfl rfl ?_
      refine gi_bipush (x := (60 : Int32)) (n := 19) hX rfl dX7_sheet_17 rfl ?_
      refine gi_icmp_le (tgt := 25) (n := 22) hX dX7_sheet_19 rfl rfl h (fun h => ?_) (fun h => ?_)
      · refine gi_iload_n (n := 26) hX 3 dX7_sheet_25 rfl rfl rfl ?_
        refine gi_if_ge (tgt := 35) (n := 29) hX dX7_sheet_26 rfl rfl h (fun h => ?_) (fun h => ?_)
        · refine gi_aload_n (n := 36) hX 0 dX7_sheet_35 rfl rfl rfl ?_
          refine gi_getR (n := 39) hX 6 kc_X7 ly_X7 rfl rfl fl_X7_54 dX7_sheet_36 rfl ?_
          refine gi_iload_n (n := 40) hX 1 dX7_sheet_39 rfl rfl rfl ?_
          refine gi_aald (n := 41) hX ly_99 (Or.inr (Or.inl rfl)) dX7_sheet_40 rfl h (fun g7 k8 h => ?_)
          refine gi_iload_n (n := 42) hX 2 dX7_sheet_41 rfl rfl rfl ?_
          refine gi_iload_n (n := 43) hX 3 dX7_sheet_42 rfl rfl rfl ?_
          obtain ⟨v9, e10, h⟩ := bv_some h
          refine gi_virtV (st := []) (n := 46) hX hR kc_X2 (ly_S k8) mv_X2_startAnew ml_X7_240 (m_X2_startAnew Γ.2.1 Ω g7 k8 x2 x3 v4 e10) rfl ⟨rfl, rfl⟩ rfl dX7_sheet_43 rfl rfl ?_
          refine gi_iload_n (n := 47) hX 3 dX7_sheet_46 rfl rfl rfl ?_
          exact gi_iret hX rfl dX7_sheet_47 h
        · refine gi_aload_n (n := 30) hX 0 dX7_sheet_29 rfl rfl rfl ?_
          refine gi_iconst (x := (5 : Int32)) (n := 31) hX rfl dX7_sheet_30 rfl ?_
          obtain ⟨r13, v11, e12, h⟩ := bi_some h
          refine gi_virtI (st := []) (n := 34) hX hR kc_X7 ly_X7 mv_X7_finding ml_X7_195 (m_X7_finding Γ.2.1 Ω (5 : Int32) v4 e12) rfl ⟨rfl, rfl⟩ rfl dX7_sheet_31 rfl rfl ?_
          exact gi_iret hX rfl dX7_sheet_34 h
      · refine gi_bipush (x := (-2 : Int32)) (n := 24) hX rfl dX7_sheet_22 rfl ?_
        exact gi_iret hX rfl dX7_sheet_24 h
theorem m_X7_sheet (l : Launch) (Ω : gO) (x1 : Int32) (x2 : Int32) (x3 : Int32) (v : gV) {r0 : Int32} {v0 : gV} (h : f_X7_sheet x1 x2 x3 v = some (r0, v0)) : gx_M l Ω LX yX7_sheet cX7_sheet 4 (some .int) 2 [.ref (Ω.1 0), .int x1, .int x2, .int x3] v (some (.int r0)) v0 := gx_start (lv := [(0, .ref (Ω.1 0)), (1, .int x1), (2, .int x2), (3, .int x3)]) (by decide +kernel) (Nat.le_of_ble_eq_true rfl) rfl (fun Γ _ hR hX => t_X7_sheet hX hR x1 x2 x3 v h)
set_option maxRecDepth 20000 in
theorem t_X7_type {Γ : gC} {Ω : gO} {r0 : Int32} {v0 : gV} (hX : gx_X Γ Ω cX7_type RX7 3 (some .int)) (hR : Γ.2.2.2.1 = gx_R 5) (x1 : Int32) (x2 : Int32) (v : gV) (h : f_X7_type x1 x2 v = some (r0, v0)) : gx_G Γ Ω LX (gx_Q Γ Ω LX (some (.int r0)) v0) 3 v 0 [(0, .ref (Ω.1 0)), (1, .int x1), (2, .int x2)] [] := by
  rw [f_X7_type] at h
  refine gi_iload_n (n := 1) hX 1 dX7_type_0 rfl rfl rfl ?_
  refine gi_aload_n (n := 2) hX 0 dX7_type_1 rfl rfl rfl ?_
  refine gi_getR (n := 5) hX 0 kc_X7 ly_X7 rfl rfl fl_X7_14 dX7_type_2 rfl ?_
  refine gi_rlen (N := 2) (n := 6) hX ly_1 rfl rfl dX7_type_5 rfl ?_
  obtain ⟨r3, v1, e2, h⟩ := bi_some h
  refine gi_statI (st := []) (n := 9) hX hR ms_X7_isOutside ml_X7_70 (m_X7_isOutside Γ.2.1 Ω x1 (nI 2) v e2) rfl ⟨rfl, rfl⟩ rfl dX7_type_6 rfl rfl ?_
  refine gi_if_ne (tgt := 22) (n := 12) hX dX7_type_9 rfl rfl h (fun h => ?_) (fun h => ?_)
  · refine gi_bipush (x := (-2 : Int32)) (n := 24) hX rfl dX7_type_22 rfl ?_
    exact gi_iret hX rfl dX7_type_24 h
  · refine gi_iload_n (n := 13) hX 2 dX7_type_12 rfl rfl rfl ?_
    refine gi_sipush (x := (256 : Int32)) (n := 16) hX rfl dX7_type_13 rfl ?_
    obtain ⟨r6, v4, e5, h⟩ := bi_some h
    refine gi_statI (st := []) (n := 19) hX hR ms_X7_isOutside ml_X7_70 (m_X7_isOutside Γ.2.1 Ω x2 (256 : Int32) v1 e5) rfl ⟨rfl, rfl⟩ rfl dX7_type_16 rfl rfl ?_
    refine gi_if_eq (tgt := 25) (n := 22) hX dX7_type_19 rfl rfl h (fun h => ?_) (fun h => ?_)
    · refine gi_aload_n (n := 26) hX 0 dX7_type_25 rfl rfl rfl ?_
      refine gi_getR (n := 29) hX 0 kc_X7 ly_X7 rfl rfl fl_X7_14 dX7_type_26 rfl ?_
      refine gi_iload_n (n := 30) hX 1 dX7_type_29 rfl rfl rfl ?_
      refine gi_aald (n := 31) hX ly_1 (Or.inl rfl) dX7_type_30 rfl h (fun g7 k8 h => ?_)
      obtain ⟨r11, v9, e10, h⟩ := bi_some h
      refine gi_virtI (st := []) (n := 34) hX hR kc_X5 (ly_T k8) mv_X5_isFull ml_X7_74 (m_X5_isFull Γ.2.1 Ω g7 k8 v4 e10) rfl ⟨rfl, rfl⟩ rfl dX7_type_31 rfl rfl ?_
      refine gi_if_eq (tgt := 40) (n := 37) hX dX7_type_34 rfl rfl h (fun h => ?_) (fun h => ?_)
      · refine gi_aload_n (n := 41) hX 0 dX7_type_40 rfl rfl rfl ?_
        refine gi_getR (n := 44) hX 0 kc_X7 ly_X7 rfl rfl fl_X7_14 dX7_type_41 rfl ?_
        refine gi_iload_n (n := 45) hX 1 dX7_type_44 rfl rfl rfl ?_
        refine gi_aald (n := 46) hX ly_1 (Or.inl rfl) dX7_type_45 rfl h (fun g12 k13 h => ?_)
        refine gi_iload_n (n := 47) hX 2 dX7_type_46 rfl rfl rfl ?_
        obtain ⟨v14, e15, h⟩ := bv_some h
        refine gi_virtV (st := []) (n := 50) hX hR kc_X5 (ly_T k13) mv_X5_append ml_X7_78 (m_X5_append Γ.2.1 Ω g12 k13 x2 v9 e15) rfl ⟨rfl, rfl⟩ rfl dX7_type_47 rfl rfl ?_
        refine gi_aload_n (n := 51) hX 0 dX7_type_50 rfl rfl rfl ?_
        obtain ⟨v16, e17, h⟩ := bv_some h
        refine gi_virtV (st := []) (n := 54) hX hR kc_X7 ly_X7 mv_X7_tellAnew ml_X7_67 (m_X7_tellAnew Γ.2.1 Ω v14 e17) rfl ⟨rfl, rfl⟩ rfl dX7_type_51 rfl rfl ?_
        refine gi_aload_n (n := 55) hX 0 dX7_type_54 rfl rfl rfl ?_
        refine gi_getR (n := 58) hX 0 kc_X7 ly_X7 rfl rfl fl_X7_14 dX7_type_55 rfl ?_
        refine gi_iload_n (n := 59) hX 1 dX7_type_58 rfl rfl rfl ?_
        refine gi_aald (n := 60) hX ly_1 (Or.inl rfl) dX7_type_59 rfl h (fun g18 k19 h => ?_)
        refine gi_getI (n := 63) hX 1 kc_X5 (ly_T k19) rfl rfl fl_X7_81 dX7_type_60 rfl ?_
        exact gi_iret hX rfl dX7_type_63 h
      · refine gi_bipush (x := (-4 : Int32)) (n := 39) hX rfl dX7_type_37 rfl ?_
        exact gi_iret hX rfl dX7_type_39 h
    · refine gi_bipush (x := (-2 : Int32)) (n := 24) hX rfl dX7_type_22 rfl ?_
      exact gi_iret hX rfl dX7_type_24 h
theorem m_X7_type (l : Launch) (Ω : gO) (x1 : Int32) (x2 : Int32) (v : gV) {r0 : Int32} {v0 : gV} (h : f_X7_type x1 x2 v = some (r0, v0)) : gx_M l Ω LX yX7_type cX7_type 3 (some .int) 5 [.ref (Ω.1 0), .int x1, .int x2] v (some (.int r0)) v0 := gx_start (lv := [(0, .ref (Ω.1 0)), (1, .int x1), (2, .int x2)]) (by decide +kernel) (Nat.le_of_ble_eq_true rfl) rfl (fun Γ _ hR hX => t_X7_type hX hR x1 x2 v h)
set_option maxRecDepth 20000 in
theorem t_X7_undo {Γ : gC} {Ω : gO} {r0 : Int32} {v0 : gV} (hX : gx_X Γ Ω cX7_undo RX7 2 (some .int)) (hR : Γ.2.2.2.1 = gx_R 5) (x1 : Int32) (v : gV) (h : f_X7_undo x1 v = some (r0, v0)) : gx_G Γ Ω LX (gx_Q Γ Ω LX (some (.int r0)) v0) 2 v 0 [(0, .ref (Ω.1 0)), (1, .int x1)] [] := by
  rw [f_X7_undo] at h
  refine gi_iload_n (n := 1) hX 1 dX7_undo_0 rfl rfl rfl ?_
  refine gi_aload_n (n := 2) hX 0 dX7_undo_1 rfl rfl rfl ?_
  refine gi_getR (n := 5) hX 0 kc_X7 ly_X7 rfl rfl fl_X7_14 dX7_undo_2 rfl ?_
  refine gi_rlen (N := 2) (n := 6) hX ly_1 rfl rfl dX7_undo_5 rfl ?_
  obtain ⟨r3, v1, e2, h⟩ := bi_some h
  refine gi_statI (st := []) (n := 9) hX hR ms_X7_isOutside ml_X7_70 (m_X7_isOutside Γ.2.1 Ω x1 (nI 2) v e2) rfl ⟨rfl, rfl⟩ rfl dX7_undo_6 rfl rfl ?_
  refine gi_if_eq (tgt := 15) (n := 12) hX dX7_undo_9 rfl rfl h (fun h => ?_) (fun h => ?_)
  · refine gi_aload_n (n := 16) hX 0 dX7_undo_15 rfl rfl rfl ?_
    refine gi_getR (n := 19) hX 0 kc_X7 ly_X7 rfl rfl fl_X7_14 dX7_undo_16 rfl ?_
    refine gi_iload_n (n := 20) hX 1 dX7_undo_19 rfl rfl rfl ?_
    refine gi_aald (n := 21) hX ly_1 (Or.inl rfl) dX7_undo_20 rfl h (fun g4 k5 h => ?_)
    refine gi_getI (n := 24) hX 1 kc_X5 (ly_T k5) rfl rfl fl_X7_81 dX7_undo_21 rfl ?_
    refine gi_if_ne (tgt := 30) (n := 27) hX dX7_undo_24 rfl rfl h (fun h => ?_) (fun h => ?_)
    · refine gi_aload_n (n := 31) hX 0 dX7_undo_30 rfl rfl rfl ?_
      refine gi_getR (n := 34) hX 0 kc_X7 ly_X7 rfl rfl fl_X7_14 dX7_undo_31 rfl ?_
      refine gi_iload_n (n := 35) hX 1 dX7_undo_34 rfl rfl rfl ?_
      refine gi_aald (n := 36) hX ly_1 (Or.inl rfl) dX7_undo_35 rfl h (fun g6 k7 h => ?_)
      refine gi_dup (n := 37) hX rfl dX7_undo_36 rfl ?_
      refine gi_getI (n := 40) hX 1 kc_X5 (ly_T k7) rfl rfl fl_X7_81 dX7_undo_37 rfl ?_
      refine gi_iconst (x := (1 : Int32)) (n := 41) hX rfl dX7_undo_40 rfl ?_
      refine gi_isub (n := 42) hX dX7_undo_41 rfl ?_
      refine gi_putI (n := 45) hX 1 kc_X5 (ly_T k7) rfl rfl fl_X7_81 rfl rfl dX7_undo_42 rfl h (fun v8 h => ?_)
      refine gi_aload_n (n := 46) hX 0 dX7_undo_45 rfl rfl rfl ?_
      obtain ⟨v9, e10, h⟩ := bv_some h
      refine gi_virtV (st := []) (n := 49) hX hR kc_X7 ly_X7 mv_X7_tellAnew ml_X7_67 (m_X7_tellAnew Γ.2.1 Ω v8 e10) rfl ⟨rfl, rfl⟩ rfl dX7_undo_46 rfl rfl ?_
      refine gi_aload_n (n := 50) hX 0 dX7_undo_49 rfl rfl rfl ?_
      refine gi_getR (n := 53) hX 0 kc_X7 ly_X7 rfl rfl fl_X7_14 dX7_undo_50 rfl ?_
      refine gi_iload_n (n := 54) hX 1 dX7_undo_53 rfl rfl rfl ?_
      refine gi_aald (n := 55) hX ly_1 (Or.inl rfl) dX7_undo_54 rfl h (fun g11 k12 h => ?_)
      refine gi_getI (n := 58) hX 1 kc_X5 (ly_T k12) rfl rfl fl_X7_81 dX7_undo_55 rfl ?_
      exact gi_iret hX rfl dX7_undo_58 h
    · refine gi_bipush (x := (-3 : Int32)) (n := 29) hX rfl dX7_undo_27 rfl ?_
      exact gi_iret hX rfl dX7_undo_29 h
  · refine gi_bipush (x := (-2 : Int32)) (n := 14) hX rfl dX7_undo_12 rfl ?_
    exact gi_iret hX rfl dX7_undo_14 h
theorem m_X7_undo (l : Launch) (Ω : gO) (x1 : Int32) (v : gV) {r0 : Int32} {v0 : gV} (h : f_X7_undo x1 v = some (r0, v0)) : gx_M l Ω LX yX7_undo cX7_undo 2 (some .int) 5 [.ref (Ω.1 0), .int x1] v (some (.int r0)) v0 := gx_start (lv := [(0, .ref (Ω.1 0)), (1, .int x1)]) (by decide +kernel) (Nat.le_of_ble_eq_true rfl) rfl (fun Γ _ hR hX => t_X7_undo hX hR x1 v h)
set_option maxRecDepth 20000 in
theorem t_X7_wipe {Γ : gC} {Ω : gO} {r0 : Int32} {v0 : gV} (hX : gx_X Γ Ω cX7_wipe RX7 3 (some .int)) (hR : Γ.2.2.2.1 = gx_R 5) (x1 : Int32) (v : gV) (h : f_X7_wipe x1 v = some (r0, v0)) : gx_G Γ Ω LX (gx_Q Γ Ω LX (some (.int r0)) v0) 3 v 0 [(0, .ref (Ω.1 0)), (1, .int x1)] [] := by
  rw [f_X7_wipe] at h
  refine gi_iload_n (n := 1) hX 1 dX7_wipe_0 rfl rfl rfl ?_
  refine gi_aload_n (n := 2) hX 0 dX7_wipe_1 rfl rfl rfl ?_
  refine gi_getR (n := 5) hX 0 kc_X7 ly_X7 rfl rfl fl_X7_14 dX7_wipe_2 rfl ?_
  refine gi_rlen (N := 2) (n := 6) hX ly_1 rfl rfl dX7_wipe_5 rfl ?_
  obtain ⟨r3, v1, e2, h⟩ := bi_some h
  refine gi_statI (st := []) (n := 9) hX hR ms_X7_isOutside ml_X7_70 (m_X7_isOutside Γ.2.1 Ω x1 (nI 2) v e2) rfl ⟨rfl, rfl⟩ rfl dX7_wipe_6 rfl rfl ?_
  refine gi_if_eq (tgt := 15) (n := 12) hX dX7_wipe_9 rfl rfl h (fun h => ?_) (fun h => ?_)
  · refine gi_aload_n (n := 16) hX 0 dX7_wipe_15 rfl rfl rfl ?_
    refine gi_getR (n := 19) hX 0 kc_X7 ly_X7 rfl rfl fl_X7_14 dX7_wipe_16 rfl ?_
    refine gi_iload_n (n := 20) hX 1 dX7_wipe_19 rfl rfl rfl ?_
    refine gi_aald (n := 21) hX ly_1 (Or.inl rfl) dX7_wipe_20 rfl h (fun g4 k5 h => ?_)
    refine gi_getI (n := 24) hX 1 kc_X5 (ly_T k5) rfl rfl fl_X7_81 dX7_wipe_21 rfl ?_
    refine gi_topI h (fun u6 h => ?_)
    refine gi_istore_n (n := 25) hX [(2, .int u6), (0, .ref (Ω.1 0)), (1, .int x1)] dX7_wipe_24 rfl rfl rfl rfl ?_
    refine gi_aload_n (n := 26) hX 1 dX7_wipe_25 rfl rfl rfl ?_
    refine gi_getR (n := 29) hX 0 kc_X7 ly_X7 rfl rfl fl_X7_14 dX7_wipe_26 rfl ?_
    refine gi_iload_n (n := 30) hX 2 dX7_wipe_29 rfl rfl rfl ?_
    refine gi_aald (n := 31) hX ly_1 (Or.inl rfl) dX7_wipe_30 rfl h (fun g7 k8 h => ?_)
    refine gi_iconst (x := (0 : Int32)) (n := 32) hX rfl dX7_wipe_31 rfl ?_
    refine gi_putI (n := 35) hX 1 kc_X5 (ly_T k8) rfl rfl fl_X7_81 rfl rfl dX7_wipe_32 rfl h (fun v9 h => ?_)
    refine gi_aload_n (n := 36) hX 1 dX7_wipe_35 rfl rfl rfl ?_
    obtain ⟨v10, e11, h⟩ := bv_some h
    refine gi_virtV (st := []) (n := 39) hX hR kc_X7 ly_X7 mv_X7_tellAnew ml_X7_67 (m_X7_tellAnew Γ.2.1 Ω v9 e11) rfl ⟨rfl, rfl⟩ rfl dX7_wipe_36 rfl rfl ?_
    refine gi_iload_n (n := 40) hX 0 dX7_wipe_39 rfl rfl rfl ?_
    exact gi_iret hX rfl dX7_wipe_40 h
  · refine gi_bipush (x := (-2 : Int32)) (n := 14) hX rfl dX7_wipe_12 rfl ?_
    exact gi_iret hX rfl dX7_wipe_14 h
theorem m_X7_wipe (l : Launch) (Ω : gO) (x1 : Int32) (v : gV) {r0 : Int32} {v0 : gV} (h : f_X7_wipe x1 v = some (r0, v0)) : gx_M l Ω LX yX7_wipe cX7_wipe 3 (some .int) 5 [.ref (Ω.1 0), .int x1] v (some (.int r0)) v0 := gx_start (lv := [(0, .ref (Ω.1 0)), (1, .int x1)]) (by decide +kernel) (Nat.le_of_ble_eq_true rfl) rfl (fun Γ _ hR hX => t_X7_wipe hX hR x1 v h)
set_option maxRecDepth 20000 in
theorem t_X7_worth {Γ : gC} {Ω : gO} {r0 : Int32} {v0 : gV} (hX : gx_X Γ Ω cX7_worth RX7 4 (some .int)) (hR : Γ.2.2.2.1 = gx_R 5) (x1 : Int32) (x2 : Int32) (v : gV) (h : f_X7_worth x1 x2 v = some (r0, v0)) : gx_G Γ Ω LX (gx_Q Γ Ω LX (some (.int r0)) v0) 4 v 0 [(0, .ref (Ω.1 0)), (1, .int x1), (2, .int x2)] [] := by
  rw [f_X7_worth] at h
  refine gi_iload_n (n := 1) hX 1 dX7_worth_0 rfl rfl rfl ?_
  refine gi_bipush (x := (8 : Int32)) (n := 3) hX rfl dX7_worth_1 rfl ?_
  obtain ⟨r3, v1, e2, h⟩ := bi_some h
  refine gi_statI (st := []) (n := 6) hX hR ms_X7_isOutside ml_X7_70 (m_X7_isOutside Γ.2.1 Ω x1 (8 : Int32) v e2) rfl ⟨rfl, rfl⟩ rfl dX7_worth_3 rfl rfl ?_
  refine gi_if_ne (tgt := 18) (n := 9) hX dX7_worth_6 rfl rfl h (fun h => ?_) (fun h => ?_)
  · refine gi_bipush (x := (-2 : Int32)) (n := 20) hX rfl dX7_worth_18 rfl ?_
    exact gi_iret hX rfl dX7_worth_20 h
  · refine gi_iload_n (n := 10) hX 2 dX7_worth_9 rfl rfl rfl ?_
    refine gi_bipush (x := (10 : Int32)) (n := 12) hX rfl dX7_worth_10 rfl ?_
    obtain ⟨r6, v4, e5, h⟩ := bi_some h
    refine gi_statI (st := []) (n := 15) hX hR ms_X7_isOutside ml_X7_70 (m_X7_isOutside Γ.2.1 Ω x2 (10 : Int32) v1 e5) rfl ⟨rfl, rfl⟩ rfl dX7_worth_12 rfl rfl ?_
    refine gi_if_eq (tgt := 21) (n := 18) hX dX7_worth_15 rfl rfl h (fun h => ?_) (fun h => ?_)
    · refine gi_aload_n (n := 22) hX 0 dX7_worth_21 rfl rfl rfl ?_
      refine gi_getR (n := 25) hX 1 kc_X7 ly_X7 rfl rfl fl_X7_21 dX7_worth_22 rfl ?_
      refine gi_getR (n := 28) hX 8 kc_X6 ly_X6 rfl rfl fl_X7_107 dX7_worth_25 rfl ?_
      refine gi_iload_n (n := 29) hX 1 dX7_worth_28 rfl rfl rfl ?_
      refine gi_iald (n := 30) hX ly_15 dX7_worth_29 rfl h (fun h => ?_)
      refine gi_topI h (fun u7 h => ?_)
      refine gi_istore_n (n := 31) hX [(3, .int u7), (0, .ref (Ω.1 0)), (1, .int x1), (2, .int x2)] dX7_worth_30 rfl rfl rfl rfl ?_
      refine gi_aload_n (n := 32) hX 1 dX7_worth_31 rfl rfl rfl ?_
      refine gi_getR (n := 35) hX 1 kc_X7 ly_X7 rfl rfl fl_X7_21 dX7_worth_32 rfl ?_
      refine gi_getR (n := 38) hX 8 kc_X6 ly_X6 rfl rfl fl_X7_107 dX7_worth_35 rfl ?_
      refine gi_iload_n (n := 39) hX 2 dX7_worth_38 rfl rfl rfl ?_
      refine gi_iload_n (n := 40) hX 3 dX7_worth_39 rfl rfl rfl ?_
      refine gi_iast (n := 41) hX ly_15 dX7_worth_40 rfl h (fun v8 h => ?_)
      refine gi_aload_n (n := 42) hX 1 dX7_worth_41 rfl rfl rfl ?_
      obtain ⟨v9, e10, h⟩ := bv_some h
      refine gi_virtV (st := []) (n := 45) hX hR kc_X7 ly_X7 mv_X7_tellAnew ml_X7_67 (m_X7_tellAnew Γ.2.1 Ω v8 e10) rfl ⟨rfl, rfl⟩ rfl dX7_worth_42 rfl rfl ?_
      refine gi_iload_n (n := 46) hX 0 dX7_worth_45 rfl rfl rfl ?_
      exact gi_iret hX rfl dX7_worth_46 h
    · refine gi_bipush (x := (-2 : Int32)) (n := 20) hX rfl dX7_worth_18 rfl ?_
      exact gi_iret hX rfl dX7_worth_20 h
theorem m_X7_worth (l : Launch) (Ω : gO) (x1 : Int32) (x2 : Int32) (v : gV) {r0 : Int32} {v0 : gV} (h : f_X7_worth x1 x2 v = some (r0, v0)) : gx_M l Ω LX yX7_worth cX7_worth 4 (some .int) 5 [.ref (Ω.1 0), .int x1, .int x2] v (some (.int r0)) v0 := gx_start (lv := [(0, .ref (Ω.1 0)), (1, .int x1), (2, .int x2)]) (by decide +kernel) (Nat.le_of_ble_eq_true rfl) rfl (fun Γ _ hR hX => t_X7_worth hX hR x1 x2 v h)
set_option maxRecDepth 20000 in
theorem t_X7_write_B68 {Γ : gC} {Ω : gO} {r0 : Int32} {v0 : gV} {o : (gV × Int32) ⊕ (gV)} (hX : gx_X Γ Ω cX7_write RX7 6 (some .int)) (hR : Γ.2.2.2.1 = gx_R 2) (x2 : Int32) (q3 : Nat) (hq3 : kB q3 = true) (x4 : Int32) (x5 : Int32) (v : gV) (h : f_X7_write_B68 x2 q3 x4 x5 v = some o) (hc : ∀ c0 c1, o = .inl (c0, c1) → gx_G Γ Ω LX (gx_Q Γ Ω LX (some (.int r0)) v0) 6 c0 68 [(0, .ref (Ω.1 0)), (2, .int x2), (3, .ref (Ω.1 q3)), (4, .int x4), (5, .int c1)] []) (hz : ∀ z0, o = .inr z0 → gx_G Γ Ω LX (gx_Q Γ Ω LX (some (.int r0)) v0) 6 z0 99 [(4, .int x4)] []) : gx_G Γ Ω LX (gx_Q Γ Ω LX (some (.int r0)) v0) 6 v 68 [(0, .ref (Ω.1 0)), (2, .int x2), (3, .ref (Ω.1 q3)), (4, .int x4), (5, .int x5)] [] := by
  rw [f_X7_write_B68] at h
  refine gi_iload (n := 70) hX 4 dX7_write_68 rfl rfl ?_
  refine gi_iload (n := 72) hX 3 dX7_write_70 rfl rfl ?_
  refine gi_icmp_ge (tgt := 99) (n := 75) hX dX7_write_72 rfl rfl h (fun h => ?_) (fun h => ?_)
  · refine gi_sub [3] rfl ?_
    exact hz _ (Option.some.inj h).symm
  · refine gi_aload_n (n := 76) hX 0 dX7_write_75 rfl rfl rfl ?_
    refine gi_getR (n := 79) hX 6 kc_X7 ly_X7 rfl rfl fl_X7_54 dX7_write_76 rfl ?_
    refine gi_iload_n (n := 80) hX 1 dX7_write_79 rfl rfl rfl ?_
    refine gi_aald (n := 81) hX ly_99 (Or.inr (Or.inl rfl)) dX7_write_80 rfl h (fun g1 k2 h => ?_)
    refine gi_iload (n := 83) hX 4 dX7_write_81 rfl rfl ?_
    refine gi_aload_n (n := 84) hX 2 dX7_write_83 rfl rfl rfl ?_
    refine gi_getR (n := 87) hX 0 kc_X0 (ly_B hq3) rfl rfl fl_X7_134 dX7_write_84 rfl ?_
    refine gi_iload (n := 89) hX 4 dX7_write_87 rfl rfl ?_
    refine gi_iald (n := 90) hX (ly_Bk hq3) dX7_write_89 rfl h (fun h => ?_)
    obtain ⟨v3, e4, h⟩ := bv_some h
    refine gi_virtV (st := []) (n := 93) hX hR kc_X2 (ly_S k2) mv_X2_put ml_X7_251 (m_X2_put Γ.2.1 Ω g1 k2 x5 (v.1 (q3 + 1) (x5).toNatClampNeg) v e4) rfl ⟨rfl, rfl⟩ rfl dX7_write_90 rfl rfl ?_
    refine gi_iinc (z := (1 : Int32)) (n := 96) hX 4 [(5, .int (x5 + (1 : Int32))), (0, .ref (Ω.1 0)), (2, .int x2), (3, .ref (Ω.1 q3)), (4, .int x4)] dX7_write_93 rfl rfl rfl rfl rfl rfl ?_
    refine gi_goto (n := 68) hX dX7_write_96 rfl ?_
    refine gi_sub [1, 2, 3, 4, 0] rfl ?_
    exact hc _ _ (Option.some.inj h).symm
set_option maxRecDepth 20000 in
theorem t_X7_write {Γ : gC} {Ω : gO} {r0 : Int32} {v0 : gV} (hX : gx_X Γ Ω cX7_write RX7 6 (some .int)) (hR : Γ.2.2.2.1 = gx_R 2) (x1 : Int32) (x2 : Int32) (v : gV) (h : f_X7_write x1 x2 v = some (r0, v0)) : gx_G Γ Ω LX (gx_Q Γ Ω LX (some (.int r0)) v0) 6 v 0 [(0, .ref (Ω.1 0)), (1, .int x1), (2, .int x2)] [] := by
  rw [f_X7_write] at h
  refine gi_iload_n (n := 1) hX 1 dX7_write_0 rfl rfl rfl ?_
  refine gi_bipush (x := (10 : Int32)) (n := 3) hX rfl dX7_write_1 rfl ?_
  obtain ⟨r3, v1, e2, h⟩ := bi_some h
  refine gi_statI (st := []) (n := 6) hX hR ms_X7_isOutside ml_X7_70 (m_X7_isOutside Γ.2.1 Ω x1 (10 : Int32) v e2) rfl ⟨rfl, rfl⟩ rfl dX7_write_3 rfl rfl ?_
  refine gi_if_ne (tgt := 17) (n := 9) hX dX7_write_6 rfl rfl h (fun h => ?_) (fun h => ?_)
  · refine gi_bipush (x := (-2 : Int32)) (n := 19) hX rfl dX7_write_17 rfl ?_
    exact gi_iret hX rfl dX7_write_19 h
  · refine gi_iload_n (n := 10) hX 2 dX7_write_9 rfl rfl rfl ?_
    refine gi_iconst (x := (4 : Int32)) (n := 11) hX rfl dX7_write_10 rfl ?_
    obtain ⟨r6, v4, e5, h⟩ := bi_some h
    refine gi_statI (st := []) (n := 14) hX hR ms_X7_isOutside ml_X7_70 (m_X7_isOutside Γ.2.1 Ω x2 (4 : Int32) v1 e5) rfl ⟨rfl, rfl⟩ rfl dX7_write_11 rfl rfl ?_
    refine gi_if_eq (tgt := 20) (n := 17) hX dX7_write_14 rfl rfl h (fun h => ?_) (fun h => ?_)
    · refine gi_aload_n (n := 21) hX 0 dX7_write_20 rfl rfl rfl ?_
      refine gi_getR (n := 24) hX 6 kc_X7 ly_X7 rfl rfl fl_X7_54 dX7_write_21 rfl ?_
      refine gi_iload_n (n := 25) hX 2 dX7_write_24 rfl rfl rfl ?_
      refine gi_aald (n := 26) hX ly_99 (Or.inr (Or.inl rfl)) dX7_write_25 rfl h (fun g7 k8 h => ?_)
      obtain ⟨r11, v9, e10, h⟩ := bi_some h
      refine gi_virtI (st := []) (n := 29) hX hR kc_X2 (ly_S k8) mv_X2_isLost ml_X7_192 (m_X2_isLost Γ.2.1 Ω g7 k8 v4 e10) rfl ⟨rfl, rfl⟩ rfl dX7_write_26 rfl rfl ?_
      refine gi_if_eq (tgt := 38) (n := 32) hX dX7_write_29 rfl rfl h (fun h => ?_) (fun h => ?_)
      · refine gi_aload_n (n := 39) hX 0 dX7_write_38 rfl rfl rfl ?_
        refine gi_getR (n := 42) hX 2 kc_X7 ly_X7 rfl rfl fl_X7_30 dX7_write_39 rfl ?_
        refine gi_iload_n (n := 43) hX 1 dX7_write_42 rfl rfl rfl ?_
        obtain ⟨g14, v12, e13, k15, h⟩ := br_some h
        refine gi_virtR (st := []) (n := 46) hX hR kc_X1 (ly_R (rfl : kR 16 = true)) mv_X1_bagOn ml_X7_127 (m_X1_bagOn Γ.2.1 Ω 16 (rfl : kR 16 = true) x1 v9 e13) rfl ⟨rfl, rfl⟩ rfl dX7_write_43 rfl rfl ?_
        refine gi_astore_n (n := 47) hX [(3, .ref (Ω.1 g14)), (0, .ref (Ω.1 0)), (1, .int x1), (2, .int x2)] dX7_write_46 rfl rfl rfl rfl ?_
        refine gi_aload_n (n := 48) hX 1 dX7_write_47 rfl rfl rfl ?_
        refine gi_getR (n := 51) hX 6 kc_X7 ly_X7 rfl rfl fl_X7_54 dX7_write_48 rfl ?_
        refine gi_iload_n (n := 52) hX 3 dX7_write_51 rfl rfl rfl ?_
        refine gi_aald (n := 53) hX ly_99 (Or.inr (Or.inl rfl)) dX7_write_52 rfl h (fun g16 k17 h => ?_)
        refine gi_getI (n := 56) hX 1 kc_X2 (ly_S k17) rfl rfl fl_X7_201 dX7_write_53 rfl ?_
        refine gi_aload_n (n := 57) hX 0 dX7_write_56 rfl rfl rfl ?_
        refine gi_getI (n := 60) hX 1 kc_X0 (ly_B k15) rfl rfl fl_X7_131 dX7_write_57 rfl ?_
        obtain ⟨r20, v18, e19, h⟩ := bi_some h
        refine gi_statI (st := []) (n := 63) hX hR ms_J9_min_7cf53 ml_X7_267 (m_J9_min_7cf53 Γ.2.1 Ω LX (v12.1 g16 1) (v12.1 g14 1) v12 e19) rfl ⟨rfl, rfl⟩ rfl dX7_write_60 rfl rfl ?_
        refine gi_istore (n := 65) hX [(4, .int r20), (3, .ref (Ω.1 g14)), (0, .ref (Ω.1 0)), (1, .int x1), (2, .int x2)] dX7_write_63 rfl rfl rfl ?_
        refine gi_iconst (x := (0 : Int32)) (n := 66) hX rfl dX7_write_65 rfl ?_
        refine gi_istore (n := 68) hX [(5, .int (0 : Int32)), (4, .int r20), (3, .ref (Ω.1 g14)), (0, .ref (Ω.1 0)), (1, .int x1), (2, .int x2)] dX7_write_66 rfl rfl rfl ?_
        refine gi_sub [3, 5, 2, 1, 0] rfl ?_
        have key := lp_ind (f := (fun a : gV × Int32 => f_X7_write_B68 x2 g14 r20 a.2 a.1)) (P := (fun a : gV × Int32 => gx_G Γ Ω LX (gx_Q Γ Ω LX (some (.int r0)) v0) 6 a.1 68 [(0, .ref (Ω.1 0)), (2, .int x2), (3, .ref (Ω.1 g14)), (4, .int r20), (5, .int a.2)] [])) (Z := (fun z : gV => gx_G Γ Ω LX (gx_Q Γ Ω LX (some (.int r0)) v0) 6 z 99 [(4, .int r20)] [])) (fun a o h hc hz => t_X7_write_B68 hX hR x2 g14 k15 r20 a.2 a.1 h (fun c0 c1 e => hc (c0, c1) e) (fun z0 e => hz z0 e)) fu
        obtain ⟨v21, e0, h⟩ := bx1_some h
        refine key (v18, (0 : Int32)) _ e0 ?_
        show gx_G Γ Ω LX (gx_Q Γ Ω LX (some (.int r0)) v0) 6 v21 99 [(4, .int r20)] []
        refine gi_iload (n := 101) hX 0 dX7_write_99 rfl rfl ?_
        exact gi_iret hX rfl dX7_write_101 h
      · refine gi_aload_n (n := 33) hX 0 dX7_write_32 rfl rfl rfl ?_
        refine gi_iconst (x := (1 : Int32)) (n := 34) hX rfl dX7_write_33 rfl ?_
        obtain ⟨r24, v22, e23, h⟩ := bi_some h
        refine gi_virtI (st := []) (n := 37) hX hR kc_X7 ly_X7 mv_X7_finding ml_X7_195 (m_X7_finding Γ.2.1 Ω (1 : Int32) v9 e23) rfl ⟨rfl, rfl⟩ rfl dX7_write_34 rfl rfl ?_
        exact gi_iret hX rfl dX7_write_37 h
    · refine gi_bipush (x := (-2 : Int32)) (n := 19) hX rfl dX7_write_17 rfl ?_
      exact gi_iret hX rfl dX7_write_19 h
theorem m_X7_write (l : Launch) (Ω : gO) (x1 : Int32) (x2 : Int32) (v : gV) {r0 : Int32} {v0 : gV} (h : f_X7_write x1 x2 v = some (r0, v0)) : gx_M l Ω LX yX7_write cX7_write 6 (some .int) 2 [.ref (Ω.1 0), .int x1, .int x2] v (some (.int r0)) v0 := gx_start (lv := [(0, .ref (Ω.1 0)), (1, .int x1), (2, .int x2)]) (by decide +kernel) (Nat.le_of_ble_eq_true rfl) rfl (fun Γ _ hR hX => t_X7_write hX hR x1 x2 v h)
