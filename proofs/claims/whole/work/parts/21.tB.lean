set_option maxRecDepth 20000 in
theorem t_X1_bagOn {Γ : gC} {Ω : gO} {r0 : Nat} {v0 : gV} (hX : gx_X Γ Ω cX1_bagOn RX1 2 (some (.object "AfternoonChange$Bag"))) (hR : Γ.2.2.2.1 = gx_R 1) (b : Nat) (hb : kR b = true) (x1 : Int32) (v : gV) (h : f_X1_bagOn b x1 v = some (r0, v0)) : gx_G Γ Ω LX (gx_Q Γ Ω LX (some (.ref (Ω.1 r0))) v0) 2 v 0 [(0, .ref (Ω.1 b)), (1, .int x1)] [] := by
  rw [f_X1_bagOn] at h
  refine gi_aload_n (n := 1) hX 0 dX1_bagOn_0 rfl rfl rfl ?_
  refine gi_getR (n := 4) hX 9 kc_X1 (ly_R hb) rfl rfl fl_X1_33 dX1_bagOn_1 rfl ?_
  refine gi_iload_n (n := 5) hX 1 dX1_bagOn_4 rfl rfl rfl ?_
  refine gi_aload_n (n := 6) hX 0 dX1_bagOn_5 rfl rfl rfl ?_
  refine gi_getI (n := 9) hX 10 kc_X1 (ly_R hb) rfl rfl fl_X1_132 dX1_bagOn_6 rfl ?_
  obtain ⟨r3, v1, e2, h⟩ := bi_some h
  refine gi_statI (st := [.ref (Ω.1 (b + 17))]) (n := 12) hX hR ms_J9_min_7cf53 ml_X1_135 (m_J9_min_7cf53 Γ.2.1 Ω LX x1 (v.1 b 10) v e2) rfl ⟨rfl, rfl⟩ rfl dX1_bagOn_9 rfl rfl ?_
  refine gi_aald (n := 13) hX (ly_R17 hb) (Or.inr (Or.inr (Or.inl rfl))) dX1_bagOn_12 rfl h (fun g4 k5 h => ?_)
  exact gi_aret hX rfl dX1_bagOn_13 h
theorem m_X1_bagOn (l : Launch) (Ω : gO) (b : Nat) (hb : kR b = true) (x1 : Int32) (v : gV) {r0 : Nat} {v0 : gV} (h : f_X1_bagOn b x1 v = some (r0, v0)) : gx_M l Ω LX yX1_bagOn cX1_bagOn 2 (some (.object "AfternoonChange$Bag")) 1 [.ref (Ω.1 b), .int x1] v (some (.ref (Ω.1 r0))) v0 := gx_start (lv := [(0, .ref (Ω.1 b)), (1, .int x1)]) (by decide +kernel) (Nat.le_of_ble_eq_true rfl) rfl (fun Γ _ hR hX => t_X1_bagOn hX hR b hb x1 v h)
set_option maxRecDepth 20000 in
theorem t_X1_begin {Γ : gC} {Ω : gO} {v0 : gV} (hX : gx_X Γ Ω cX1_begin RX1 1 (none)) (hR : Γ.2.2.2.1 = gx_R 2) (b : Nat) (hb : kR b = true) (v : gV) (h : f_X1_begin b v = some v0) : gx_G Γ Ω LX (gx_Q Γ Ω LX none v0) 1 v 0 [(0, .ref (Ω.1 b))] [] := by
  rw [f_X1_begin] at h
  refine gi_aload_n (n := 1) hX 0 dX1_begin_0 rfl rfl rfl ?_
  refine gi_aload_n (n := 2) hX 0 dX1_begin_1 rfl rfl rfl ?_
  refine gi_getR (n := 5) hX 0 kc_X1 (ly_R hb) rfl rfl fl_X1_37 dX1_begin_2 rfl ?_
  refine gi_getI (n := 8) hX 9 kc_X6 ly_X6 rfl rfl fl_X1_41 dX1_begin_5 rfl ?_
  refine gi_putI (n := 11) hX 1 kc_X1 (ly_R hb) rfl rfl fl_X1_47 rfl rfl dX1_begin_8 rfl h (fun v1 h => ?_)
  refine gi_aload_n (n := 12) hX 0 dX1_begin_11 rfl rfl rfl ?_
  refine gi_aload_n (n := 13) hX 0 dX1_begin_12 rfl rfl rfl ?_
  refine gi_getR (n := 16) hX 0 kc_X1 (ly_R hb) rfl rfl fl_X1_37 dX1_begin_13 rfl ?_
  refine gi_getI (n := 19) hX 10 kc_X6 ly_X6 rfl rfl fl_X1_48 dX1_begin_16 rfl ?_
  refine gi_putI (n := 22) hX 2 kc_X1 (ly_R hb) rfl rfl fl_X1_51 rfl rfl dX1_begin_19 rfl h (fun v2 h => ?_)
  refine gi_aload_n (n := 23) hX 0 dX1_begin_22 rfl rfl rfl ?_
  refine gi_getR (n := 26) hX 0 kc_X1 (ly_R hb) rfl rfl fl_X1_37 dX1_begin_23 rfl ?_
  refine gi_getR (n := 29) hX 1 kc_X6 ly_X6 rfl rfl fl_X1_52 dX1_begin_26 rfl ?_
  refine gi_iconst (x := (0 : Int32)) (n := 30) hX rfl dX1_begin_29 rfl ?_
  refine gi_aload_n (n := 31) hX 0 dX1_begin_30 rfl rfl rfl ?_
  refine gi_getR (n := 34) hX 3 kc_X1 (ly_R hb) rfl rfl fl_X1_9 dX1_begin_31 rfl ?_
  refine gi_iconst (x := (0 : Int32)) (n := 35) hX rfl dX1_begin_34 rfl ?_
  refine gi_bipush (x := (8 : Int32)) (n := 37) hX rfl dX1_begin_35 rfl ?_
  refine gi_copy (d := 1) (st := []) (n := 40) hX ly_7 (ly_R1 hb) ml_X1_55 w_nat w_sta w_sys hR rfl dX1_begin_37 rfl h (fun v3 h => ?_)
  refine gi_aload_n (n := 41) hX 0 dX1_begin_40 rfl rfl rfl ?_
  refine gi_getR (n := 44) hX 4 kc_X1 (ly_R hb) rfl rfl fl_X1_18 dX1_begin_41 rfl ?_
  refine gi_aload_n (n := 45) hX 0 dX1_begin_44 rfl rfl rfl ?_
  refine gi_getR (n := 48) hX 0 kc_X1 (ly_R hb) rfl rfl fl_X1_37 dX1_begin_45 rfl ?_
  refine gi_getR (n := 51) hX 7 kc_X6 ly_X6 rfl rfl fl_X1_61 dX1_begin_48 rfl ?_
  obtain ⟨v4, e5, h⟩ := bv_some h
  refine gi_virtV (st := []) (n := 54) hX hR kc_X0 (ly_B (kb_R hb)) mv_X0_become ml_X1_62 (m_X0_become Γ.2.1 Ω (b + 2) (kb_R hb) 13 (rfl : kB 13 = true) v3 e5) rfl ⟨rfl, rfl⟩ rfl dX1_begin_51 rfl rfl ?_
  exact gi_vret hX rfl dX1_begin_54 h
theorem m_X1_begin (l : Launch) (Ω : gO) (b : Nat) (hb : kR b = true) (v : gV) {v0 : gV} (h : f_X1_begin b v = some v0) : gx_M l Ω LX yX1_begin cX1_begin 1 (none) 2 [.ref (Ω.1 b)] v none v0 := gx_start (lv := [(0, .ref (Ω.1 b))]) (by decide +kernel) (Nat.le_of_ble_eq_true rfl) rfl (fun Γ _ hR hX => t_X1_begin hX hR b hb v h)
set_option maxRecDepth 20000 in
theorem t_X1_takeWhole {Γ : gC} {Ω : gO} {r0 : Int32} {v0 : gV} (hX : gx_X Γ Ω cX1_takeWhole RX1 3 (some .boolean)) (hR : Γ.2.2.2.1 = gx_R 1) (b : Nat) (hb : kR b = true) (x1 : Int32) (v : gV) (h : f_X1_takeWhole b x1 v = some (r0, v0)) : gx_G Γ Ω LX (gx_Q Γ Ω LX (some (.int r0)) v0) 3 v 0 [(0, .ref (Ω.1 b)), (1, .int x1)] [] := by
  rw [f_X1_takeWhole] at h
  refine gi_aload_n (n := 1) hX 0 dX1_takeWhole_0 rfl rfl rfl ?_
  refine gi_getR (n := 4) hX 4 kc_X1 (ly_R hb) rfl rfl fl_X1_18 dX1_takeWhole_1 rfl ?_
  refine gi_aload_n (n := 5) hX 0 dX1_takeWhole_4 rfl rfl rfl ?_
  refine gi_getR (n := 8) hX 0 kc_X1 (ly_R hb) rfl rfl fl_X1_37 dX1_takeWhole_5 rfl ?_
  refine gi_getR (n := 11) hX 4 kc_X6 ly_X6 rfl rfl fl_X1_122 dX1_takeWhole_8 rfl ?_
  refine gi_iload_n (n := 12) hX 1 dX1_takeWhole_11 rfl rfl rfl ?_
  refine gi_iald (n := 13) hX ly_10 dX1_takeWhole_12 rfl h (fun h => ?_)
  obtain ⟨r3, v1, e2, h⟩ := bi_some h
  refine gi_virtI (st := []) (n := 16) hX hR kc_X0 (ly_B (kb_R hb)) mv_X0_placeOf ml_X1_125 (m_X0_placeOf Γ.2.1 Ω (b + 2) (kb_R hb) (v.1 10 (x1).toNatClampNeg) v e2) rfl ⟨rfl, rfl⟩ rfl dX1_takeWhole_13 rfl rfl ?_
  refine gi_istore_n (n := 17) hX [(2, .int r3), (0, .ref (Ω.1 b)), (1, .int x1)] dX1_takeWhole_16 rfl rfl rfl rfl ?_
  refine gi_iload_n (n := 18) hX 0 dX1_takeWhole_17 rfl rfl rfl ?_
  refine gi_iconst (x := (-1 : Int32)) (n := 19) hX rfl dX1_takeWhole_18 rfl ?_
  refine gi_icmp_ne (tgt := 24) (n := 22) hX dX1_takeWhole_19 rfl rfl h (fun h => ?_) (fun h => ?_)
  · refine gi_aload_n (n := 25) hX 1 dX1_takeWhole_24 rfl rfl rfl ?_
    refine gi_getR (n := 28) hX 4 kc_X1 (ly_R hb) rfl rfl fl_X1_18 dX1_takeWhole_25 rfl ?_
    refine gi_iload_n (n := 29) hX 0 dX1_takeWhole_28 rfl rfl rfl ?_
    obtain ⟨v4, e5, h⟩ := bv_some h
    refine gi_virtV (st := []) (n := 32) hX hR kc_X0 (ly_B (kb_R hb)) mv_X0_takeOut ml_X1_129 (m_X0_takeOut Γ.2.1 Ω (b + 2) (kb_R hb) r3 v1 e5) rfl ⟨rfl, rfl⟩ rfl dX1_takeWhole_29 rfl rfl ?_
    refine gi_aload_n (n := 33) hX 1 dX1_takeWhole_32 rfl rfl rfl ?_
    refine gi_getR (n := 36) hX 4 kc_X1 (ly_R hb) rfl rfl fl_X1_18 dX1_takeWhole_33 rfl ?_
    refine gi_aload_n (n := 37) hX 1 dX1_takeWhole_36 rfl rfl rfl ?_
    refine gi_getR (n := 40) hX 3 kc_X1 (ly_R hb) rfl rfl fl_X1_9 dX1_takeWhole_37 rfl ?_
    refine gi_iload_n (n := 41) hX 2 dX1_takeWhole_40 rfl rfl rfl ?_
    refine gi_iald (n := 42) hX (ly_R1 hb) dX1_takeWhole_41 rfl h (fun h => ?_)
    obtain ⟨v6, e7, h⟩ := bv_some h
    refine gi_virtV (st := []) (n := 45) hX hR kc_X0 (ly_B (kb_R hb)) mv_X0_putAtBottom ml_X1_105 (m_X0_putAtBottom Γ.2.1 Ω (b + 2) (kb_R hb) (v4.1 (b + 1) (x1).toNatClampNeg) v4 e7) rfl ⟨rfl, rfl⟩ rfl dX1_takeWhole_42 rfl rfl ?_
    refine gi_aload_n (n := 46) hX 1 dX1_takeWhole_45 rfl rfl rfl ?_
    refine gi_getR (n := 49) hX 3 kc_X1 (ly_R hb) rfl rfl fl_X1_9 dX1_takeWhole_46 rfl ?_
    refine gi_iload_n (n := 50) hX 2 dX1_takeWhole_49 rfl rfl rfl ?_
    refine gi_aload_n (n := 51) hX 1 dX1_takeWhole_50 rfl rfl rfl ?_
    refine gi_getR (n := 54) hX 0 kc_X1 (ly_R hb) rfl rfl fl_X1_37 dX1_takeWhole_51 rfl ?_
    refine gi_getR (n := 57) hX 4 kc_X6 ly_X6 rfl rfl fl_X1_122 dX1_takeWhole_54 rfl ?_
    refine gi_iload_n (n := 58) hX 2 dX1_takeWhole_57 rfl rfl rfl ?_
    refine gi_iald (n := 59) hX ly_10 dX1_takeWhole_58 rfl h (fun h => ?_)
    refine gi_iast (n := 60) hX (ly_R1 hb) dX1_takeWhole_59 rfl h (fun v8 h => ?_)
    refine gi_iconst (x := (1 : Int32)) (n := 61) hX rfl dX1_takeWhole_60 rfl ?_
    exact gi_zret hX rfl dX1_takeWhole_61 h
  · refine gi_iconst (x := (0 : Int32)) (n := 23) hX rfl dX1_takeWhole_22 rfl ?_
    exact gi_zret hX rfl dX1_takeWhole_23 h
theorem m_X1_takeWhole (l : Launch) (Ω : gO) (b : Nat) (hb : kR b = true) (x1 : Int32) (v : gV) {r0 : Int32} {v0 : gV} (h : f_X1_takeWhole b x1 v = some (r0, v0)) : gx_M l Ω LX yX1_takeWhole cX1_takeWhole 3 (some .boolean) 1 [.ref (Ω.1 b), .int x1] v (some (.int r0)) v0 := gx_start (lv := [(0, .ref (Ω.1 b)), (1, .int x1)]) (by decide +kernel) (Nat.le_of_ble_eq_true rfl) rfl (fun Γ _ hR hX => t_X1_takeWhole hX hR b hb x1 v h)
set_option maxRecDepth 20000 in
theorem t_X1_takeTorn_J188 {Γ : gC} {Ω : gO} {r0 : Int32} {v0 : gV} {o : (gV × Int32) ⊕ ((gV) ⊕ (Int32 × gV))} (hX : gx_X Γ Ω cX1_takeTorn RX1 5 (some .boolean)) (hR : Γ.2.2.2.1 = gx_R 1) (b : Nat) (hb : kR b = true) (x1 : Int32) (x2 : Int32) (x3 : Int32) (x4 : Int32) (v : gV) (h : f_X1_takeTorn_J188 b x1 x2 x3 x4 v = some o) (hc : ∀ c0 c1, o = .inl (c0, c1) → gx_G Γ Ω LX (gx_Q Γ Ω LX (some (.int r0)) v0) 5 c0 30 [(0, .ref (Ω.1 b)), (1, .int x1), (2, .int x2), (3, .int x3), (4, .int c1)] []) (hz : ∀ z0, o = .inr (.inl z0) → gx_G Γ Ω LX (gx_Q Γ Ω LX (some (.int r0)) v0) 5 z0 194 [] []) (hr : ∀ q0 q1, o = .inr (.inr (q0, q1)) → some (q0, q1) = some (r0, v0)) : gx_G Γ Ω LX (gx_Q Γ Ω LX (some (.int r0)) v0) 5 v 188 [(0, .ref (Ω.1 b)), (1, .int x1), (2, .int x2), (3, .int x3), (4, .int x4)] [] := by
  rw [f_X1_takeTorn_J188] at h
  refine gi_iinc (z := (1 : Int32)) (n := 191) hX 4 [(4, .int (x4 + (1 : Int32))), (0, .ref (Ω.1 b)), (1, .int x1), (2, .int x2), (3, .int x3)] dX1_takeTorn_188 rfl rfl rfl rfl rfl rfl ?_
  refine gi_goto (n := 30) hX dX1_takeTorn_191 rfl ?_
  refine gi_sub [1, 2, 3, 4, 0] rfl ?_
  exact hc _ _ (Option.some.inj h).symm
set_option maxRecDepth 20000 in
theorem t_X1_takeTorn_B30 {Γ : gC} {Ω : gO} {r0 : Int32} {v0 : gV} {o : (gV × Int32) ⊕ ((gV) ⊕ (Int32 × gV))} (hX : gx_X Γ Ω cX1_takeTorn RX1 5 (some .boolean)) (hR : Γ.2.2.2.1 = gx_R 1) (b : Nat) (hb : kR b = true) (x1 : Int32) (x2 : Int32) (x3 : Int32) (x4 : Int32) (v : gV) (h : f_X1_takeTorn_B30 b x1 x2 x3 x4 v = some o) (hc : ∀ c0 c1, o = .inl (c0, c1) → gx_G Γ Ω LX (gx_Q Γ Ω LX (some (.int r0)) v0) 5 c0 30 [(0, .ref (Ω.1 b)), (1, .int x1), (2, .int x2), (3, .int x3), (4, .int c1)] []) (hz : ∀ z0, o = .inr (.inl z0) → gx_G Γ Ω LX (gx_Q Γ Ω LX (some (.int r0)) v0) 5 z0 194 [] []) (hr : ∀ q0 q1, o = .inr (.inr (q0, q1)) → some (q0, q1) = some (r0, v0)) : gx_G Γ Ω LX (gx_Q Γ Ω LX (some (.int r0)) v0) 5 v 30 [(0, .ref (Ω.1 b)), (1, .int x1), (2, .int x2), (3, .int x3), (4, .int x4)] [] := by
  rw [f_X1_takeTorn_B30] at h
  refine gi_iload (n := 32) hX 4 dX1_takeTorn_30 rfl rfl ?_
  refine gi_aload_n (n := 33) hX 0 dX1_takeTorn_32 rfl rfl rfl ?_
  refine gi_getR (n := 36) hX 0 kc_X1 (ly_R hb) rfl rfl fl_X1_37 dX1_takeTorn_33 rfl ?_
  refine gi_getI (n := 39) hX 0 kc_X6 ly_X6 rfl rfl fl_X1_102 dX1_takeTorn_36 rfl ?_
  refine gi_icmp_ge (tgt := 194) (n := 42) hX dX1_takeTorn_39 rfl rfl h (fun h => ?_) (fun h => ?_)
  · refine gi_sub [] rfl ?_
    exact hz _ (Option.some.inj h).symm
  · refine gi_iload (n := 44) hX 4 dX1_takeTorn_42 rfl rfl ?_
    refine gi_iload_n (n := 45) hX 1 dX1_takeTorn_44 rfl rfl rfl ?_
    refine gi_icmp_eq (tgt := 188) (n := 48) hX dX1_takeTorn_45 rfl rfl h (fun h => ?_) (fun h => ?_)
    · exact t_X1_takeTorn_J188 hX hR b hb x1 x2 x3 x4 v h hc hz hr
    · refine gi_iload_n (n := 49) hX 2 dX1_takeTorn_48 rfl rfl rfl ?_
      refine gi_iload (n := 51) hX 4 dX1_takeTorn_49 rfl rfl ?_
      refine gi_ishr (n := 52) hX dX1_takeTorn_51 rfl ?_
      refine gi_iconst (x := (1 : Int32)) (n := 53) hX rfl dX1_takeTorn_52 rfl ?_
      refine gi_iand (n := 54) hX dX1_takeTorn_53 rfl ?_
      refine gi_iconst (x := (1 : Int32)) (n := 55) hX rfl dX1_takeTorn_54 rfl ?_
      refine gi_icmp_ne (tgt := 188) (n := 58) hX dX1_takeTorn_55 rfl rfl h (fun h => ?_) (fun h => ?_)
      · exact t_X1_takeTorn_J188 hX hR b hb x1 x2 x3 x4 v h hc hz hr
      · refine gi_aload_n (n := 59) hX 0 dX1_takeTorn_58 rfl rfl rfl ?_
        refine gi_getR (n := 62) hX 0 kc_X1 (ly_R hb) rfl rfl fl_X1_37 dX1_takeTorn_59 rfl ?_
        refine gi_getR (n := 65) hX 4 kc_X6 ly_X6 rfl rfl fl_X1_122 dX1_takeTorn_62 rfl ?_
        refine gi_iload (n := 67) hX 4 dX1_takeTorn_65 rfl rfl ?_
        refine gi_iald (n := 68) hX ly_10 dX1_takeTorn_67 rfl h (fun h => ?_)
        refine gi_aload_n (n := 69) hX 0 dX1_takeTorn_68 rfl rfl rfl ?_
        refine gi_getR (n := 72) hX 0 kc_X1 (ly_R hb) rfl rfl fl_X1_37 dX1_takeTorn_69 rfl ?_
        refine gi_getR (n := 75) hX 4 kc_X6 ly_X6 rfl rfl fl_X1_122 dX1_takeTorn_72 rfl ?_
        refine gi_iload_n (n := 76) hX 1 dX1_takeTorn_75 rfl rfl rfl ?_
        refine gi_iald (n := 77) hX ly_10 dX1_takeTorn_76 rfl h (fun h => ?_)
        refine gi_icmp_ne (tgt := 188) (n := 80) hX dX1_takeTorn_77 rfl rfl h (fun h => ?_) (fun h => ?_)
        · exact t_X1_takeTorn_J188 hX hR b hb x1 x2 x3 x4 v h hc hz hr
        · refine gi_aload_n (n := 81) hX 0 dX1_takeTorn_80 rfl rfl rfl ?_
          refine gi_getR (n := 84) hX 0 kc_X1 (ly_R hb) rfl rfl fl_X1_37 dX1_takeTorn_81 rfl ?_
          refine gi_iload (n := 86) hX 4 dX1_takeTorn_84 rfl rfl ?_
          refine gi_aload_n (n := 87) hX 0 dX1_takeTorn_86 rfl rfl rfl ?_
          refine gi_getR (n := 90) hX 3 kc_X1 (ly_R hb) rfl rfl fl_X1_9 dX1_takeTorn_87 rfl ?_
          refine gi_iload (n := 92) hX 4 dX1_takeTorn_90 rfl rfl ?_
          refine gi_iald (n := 93) hX (ly_R1 hb) dX1_takeTorn_92 rfl h (fun h => ?_)
          refine gi_aload_n (n := 94) hX 0 dX1_takeTorn_93 rfl rfl rfl ?_
          refine gi_getI (n := 97) hX 1 kc_X1 (ly_R hb) rfl rfl fl_X1_47 dX1_takeTorn_94 rfl ?_
          obtain ⟨r3, v1, e2, h⟩ := bi_some h
          refine gi_virtI (st := []) (n := 100) hX hR kc_X6 ly_X6 mv_X6_mayChange ml_X1_111 (m_X6_mayChange Γ.2.1 Ω x4 (v.1 (b + 1) (x4).toNatClampNeg) (v.1 b 1) v e2) rfl ⟨rfl, rfl⟩ rfl dX1_takeTorn_97 rfl rfl ?_
          refine gi_if_eq (tgt := 188) (n := 103) hX dX1_takeTorn_100 rfl rfl h (fun h => ?_) (fun h => ?_)
          · exact t_X1_takeTorn_J188 hX hR b hb x1 x2 x3 x4 v1 h hc hz hr
          · refine gi_aload_n (n := 104) hX 0 dX1_takeTorn_103 rfl rfl rfl ?_
            refine gi_getR (n := 107) hX 4 kc_X1 (ly_R hb) rfl rfl fl_X1_18 dX1_takeTorn_104 rfl ?_
            refine gi_iload_n (n := 108) hX 3 dX1_takeTorn_107 rfl rfl rfl ?_
            obtain ⟨v4, e5, h⟩ := bv_some h
            refine gi_virtV (st := []) (n := 111) hX hR kc_X0 (ly_B (kb_R hb)) mv_X0_takeOut ml_X1_129 (m_X0_takeOut Γ.2.1 Ω (b + 2) (kb_R hb) x3 v1 e5) rfl ⟨rfl, rfl⟩ rfl dX1_takeTorn_108 rfl rfl ?_
            refine gi_aload_n (n := 112) hX 0 dX1_takeTorn_111 rfl rfl rfl ?_
            refine gi_getR (n := 115) hX 4 kc_X1 (ly_R hb) rfl rfl fl_X1_18 dX1_takeTorn_112 rfl ?_
            refine gi_aload_n (n := 116) hX 0 dX1_takeTorn_115 rfl rfl rfl ?_
            refine gi_getR (n := 119) hX 3 kc_X1 (ly_R hb) rfl rfl fl_X1_9 dX1_takeTorn_116 rfl ?_
            refine gi_iload_n (n := 120) hX 1 dX1_takeTorn_119 rfl rfl rfl ?_
            refine gi_iald (n := 121) hX (ly_R1 hb) dX1_takeTorn_120 rfl h (fun h => ?_)
            obtain ⟨v6, e7, h⟩ := bv_some h
            refine gi_virtV (st := []) (n := 124) hX hR kc_X0 (ly_B (kb_R hb)) mv_X0_putAtBottom ml_X1_105 (m_X0_putAtBottom Γ.2.1 Ω (b + 2) (kb_R hb) (v4.1 (b + 1) (x1).toNatClampNeg) v4 e7) rfl ⟨rfl, rfl⟩ rfl dX1_takeTorn_121 rfl rfl ?_
            refine gi_aload_n (n := 125) hX 0 dX1_takeTorn_124 rfl rfl rfl ?_
            refine gi_getR (n := 128) hX 4 kc_X1 (ly_R hb) rfl rfl fl_X1_18 dX1_takeTorn_125 rfl ?_
            refine gi_aload_n (n := 129) hX 0 dX1_takeTorn_128 rfl rfl rfl ?_
            refine gi_getR (n := 132) hX 3 kc_X1 (ly_R hb) rfl rfl fl_X1_9 dX1_takeTorn_129 rfl ?_
            refine gi_iload (n := 134) hX 4 dX1_takeTorn_132 rfl rfl ?_
            refine gi_iald (n := 135) hX (ly_R1 hb) dX1_takeTorn_134 rfl h (fun h => ?_)
            obtain ⟨v8, e9, h⟩ := bv_some h
            refine gi_virtV (st := []) (n := 138) hX hR kc_X0 (ly_B (kb_R hb)) mv_X0_putAtBottom ml_X1_105 (m_X0_putAtBottom Γ.2.1 Ω (b + 2) (kb_R hb) (v6.1 (b + 1) (x4).toNatClampNeg) v6 e9) rfl ⟨rfl, rfl⟩ rfl dX1_takeTorn_135 rfl rfl ?_
            refine gi_aload_n (n := 139) hX 0 dX1_takeTorn_138 rfl rfl rfl ?_
            refine gi_getR (n := 142) hX 3 kc_X1 (ly_R hb) rfl rfl fl_X1_9 dX1_takeTorn_139 rfl ?_
            refine gi_iload_n (n := 143) hX 1 dX1_takeTorn_142 rfl rfl rfl ?_
            refine gi_aload_n (n := 144) hX 0 dX1_takeTorn_143 rfl rfl rfl ?_
            refine gi_getR (n := 147) hX 0 kc_X1 (ly_R hb) rfl rfl fl_X1_37 dX1_takeTorn_144 rfl ?_
            refine gi_getR (n := 150) hX 4 kc_X6 ly_X6 rfl rfl fl_X1_122 dX1_takeTorn_147 rfl ?_
            refine gi_iload_n (n := 151) hX 1 dX1_takeTorn_150 rfl rfl rfl ?_
            refine gi_iald (n := 152) hX ly_10 dX1_takeTorn_151 rfl h (fun h => ?_)
            refine gi_iast (n := 153) hX (ly_R1 hb) dX1_takeTorn_152 rfl h (fun v10 h => ?_)
            refine gi_aload_n (n := 154) hX 0 dX1_takeTorn_153 rfl rfl rfl ?_
            refine gi_getR (n := 157) hX 3 kc_X1 (ly_R hb) rfl rfl fl_X1_9 dX1_takeTorn_154 rfl ?_
            refine gi_iload (n := 159) hX 4 dX1_takeTorn_157 rfl rfl ?_
            refine gi_aload_n (n := 160) hX 0 dX1_takeTorn_159 rfl rfl rfl ?_
            refine gi_getR (n := 163) hX 0 kc_X1 (ly_R hb) rfl rfl fl_X1_37 dX1_takeTorn_160 rfl ?_
            refine gi_getR (n := 166) hX 4 kc_X6 ly_X6 rfl rfl fl_X1_122 dX1_takeTorn_163 rfl ?_
            refine gi_iload_n (n := 167) hX 1 dX1_takeTorn_166 rfl rfl rfl ?_
            refine gi_iald (n := 168) hX ly_10 dX1_takeTorn_167 rfl h (fun h => ?_)
            refine gi_iast (n := 169) hX (ly_R1 hb) dX1_takeTorn_168 rfl h (fun v11 h => ?_)
            refine gi_aload_n (n := 170) hX 0 dX1_takeTorn_169 rfl rfl rfl ?_
            refine gi_dup (n := 171) hX rfl dX1_takeTorn_170 rfl ?_
            refine gi_getI (n := 174) hX 5 kc_X1 (ly_R hb) rfl rfl fl_X1_66 dX1_takeTorn_171 rfl ?_
            refine gi_iconst (x := (1 : Int32)) (n := 175) hX rfl dX1_takeTorn_174 rfl ?_
            refine gi_iload_n (n := 176) hX 1 dX1_takeTorn_175 rfl rfl rfl ?_
            refine gi_ishl (n := 177) hX dX1_takeTorn_176 rfl ?_
            refine gi_iconst (x := (1 : Int32)) (n := 178) hX rfl dX1_takeTorn_177 rfl ?_
            refine gi_iload (n := 180) hX 4 dX1_takeTorn_178 rfl rfl ?_
            refine gi_ishl (n := 181) hX dX1_takeTorn_180 rfl ?_
            refine gi_ior (n := 182) hX dX1_takeTorn_181 rfl ?_
            refine gi_ior (n := 183) hX dX1_takeTorn_182 rfl ?_
            refine gi_putI (n := 186) hX 5 kc_X1 (ly_R hb) rfl rfl fl_X1_66 rfl rfl dX1_takeTorn_183 rfl h (fun v12 h => ?_)
            refine gi_iconst (x := (1 : Int32)) (n := 187) hX rfl dX1_takeTorn_186 rfl ?_
            obtain ⟨h8, h⟩ := if_some h
            exact gi_zret hX rfl dX1_takeTorn_187 (by rw [if_pos h8]; exact hr _ _ (Option.some.inj h).symm)
set_option maxRecDepth 20000 in
theorem t_X1_takeTorn {Γ : gC} {Ω : gO} {r0 : Int32} {v0 : gV} (hX : gx_X Γ Ω cX1_takeTorn RX1 5 (some .boolean)) (hR : Γ.2.2.2.1 = gx_R 1) (b : Nat) (hb : kR b = true) (x1 : Int32) (x2 : Int32) (v : gV) (h : f_X1_takeTorn b x1 x2 v = some (r0, v0)) : gx_G Γ Ω LX (gx_Q Γ Ω LX (some (.int r0)) v0) 5 v 0 [(0, .ref (Ω.1 b)), (1, .int x1), (2, .int x2)] [] := by
  rw [f_X1_takeTorn] at h
  refine gi_aload_n (n := 1) hX 0 dX1_takeTorn_0 rfl rfl rfl ?_
  refine gi_getR (n := 4) hX 4 kc_X1 (ly_R hb) rfl rfl fl_X1_18 dX1_takeTorn_1 rfl ?_
  refine gi_aload_n (n := 5) hX 0 dX1_takeTorn_4 rfl rfl rfl ?_
  refine gi_getR (n := 8) hX 0 kc_X1 (ly_R hb) rfl rfl fl_X1_37 dX1_takeTorn_5 rfl ?_
  refine gi_getR (n := 11) hX 4 kc_X6 ly_X6 rfl rfl fl_X1_122 dX1_takeTorn_8 rfl ?_
  refine gi_iload_n (n := 12) hX 1 dX1_takeTorn_11 rfl rfl rfl ?_
  refine gi_iald (n := 13) hX ly_10 dX1_takeTorn_12 rfl h (fun h => ?_)
  refine gi_bipush (x := (8 : Int32)) (n := 15) hX rfl dX1_takeTorn_13 rfl ?_
  refine gi_iadd (n := 16) hX dX1_takeTorn_15 rfl ?_
  obtain ⟨r3, v1, e2, h⟩ := bi_some h
  refine gi_virtI (st := []) (n := 19) hX hR kc_X0 (ly_B (kb_R hb)) mv_X0_placeOf ml_X1_125 (m_X0_placeOf Γ.2.1 Ω (b + 2) (kb_R hb) ((v.1 10 (x1).toNatClampNeg) + (8 : Int32)) v e2) rfl ⟨rfl, rfl⟩ rfl dX1_takeTorn_16 rfl rfl ?_
  refine gi_istore_n (n := 20) hX [(3, .int r3), (0, .ref (Ω.1 b)), (1, .int x1), (2, .int x2)] dX1_takeTorn_19 rfl rfl rfl rfl ?_
  refine gi_iload_n (n := 21) hX 0 dX1_takeTorn_20 rfl rfl rfl ?_
  refine gi_iconst (x := (-1 : Int32)) (n := 22) hX rfl dX1_takeTorn_21 rfl ?_
  refine gi_icmp_ne (tgt := 27) (n := 25) hX dX1_takeTorn_22 rfl rfl h (fun h => ?_) (fun h => ?_)
  · refine gi_iconst (x := (0 : Int32)) (n := 28) hX rfl dX1_takeTorn_27 rfl ?_
    refine gi_istore (n := 30) hX [(4, .int (0 : Int32)), (3, .int r3), (0, .ref (Ω.1 b)), (1, .int x1), (2, .int x2)] dX1_takeTorn_28 rfl rfl rfl ?_
    refine gi_sub [2, 3, 4, 1, 0] rfl ?_
    have key := lp_ind (f := (fun a : gV × Int32 => f_X1_takeTorn_B30 b x1 x2 r3 a.2 a.1)) (P := (fun a : gV × Int32 => gx_G Γ Ω LX (gx_Q Γ Ω LX (some (.int r0)) v0) 5 a.1 30 [(0, .ref (Ω.1 b)), (1, .int x1), (2, .int x2), (3, .int r3), (4, .int a.2)] [])) (Z := (fun w : (gV) ⊕ (Int32 × gV) => Sum.elim (fun z : gV => gx_G Γ Ω LX (gx_Q Γ Ω LX (some (.int r0)) v0) 5 z 194 [] []) (fun q => some q = some (r0, v0)) w)) (fun a o h hc hz => t_X1_takeTorn_B30 hX hR b hb x1 x2 r3 a.2 a.1 h (fun c0 c1 e => hc (c0, c1) e) (fun z0 e => hz (.inl z0) e) (fun q0 q1 e => hz (.inr (q0, q1)) e)) fu
    rcases bs1_some h with ⟨v4, e0, h⟩ | ⟨q, e0, h⟩
    · refine key (v1, (0 : Int32)) _ e0 ?_
      show gx_G Γ Ω LX (gx_Q Γ Ω LX (some (.int r0)) v0) 5 v4 194 [] []
      refine gi_iconst (x := (0 : Int32)) (n := 195) hX rfl dX1_takeTorn_194 rfl ?_
      exact gi_zret hX rfl dX1_takeTorn_195 h
    · refine key (v1, (0 : Int32)) _ e0 ?_
      show some q = some (r0, v0)
      exact h
  · refine gi_iconst (x := (0 : Int32)) (n := 26) hX rfl dX1_takeTorn_25 rfl ?_
    exact gi_zret hX rfl dX1_takeTorn_26 h
theorem m_X1_takeTorn (l : Launch) (Ω : gO) (b : Nat) (hb : kR b = true) (x1 : Int32) (x2 : Int32) (v : gV) {r0 : Int32} {v0 : gV} (h : f_X1_takeTorn b x1 x2 v = some (r0, v0)) : gx_M l Ω LX yX1_takeTorn cX1_takeTorn 5 (some .boolean) 1 [.ref (Ω.1 b), .int x1, .int x2] v (some (.int r0)) v0 := gx_start (lv := [(0, .ref (Ω.1 b)), (1, .int x1), (2, .int x2)]) (by decide +kernel) (Nat.le_of_ble_eq_true rfl) rfl (fun Γ _ hR hX => t_X1_takeTorn hX hR b hb x1 x2 v h)
set_option maxRecDepth 20000 in
theorem t_X1_changeAt_J111 {Γ : gC} {Ω : gO} {v0 : gV} {o : (gV × Int32) ⊕ (gV)} (hX : gx_X Γ Ω cX1_changeAt RX1 5 (none)) (hR : Γ.2.2.2.1 = gx_R 2) (b : Nat) (hb : kR b = true) (x1 : Int32) (x2 : Int32) (x3 : Int32) (x4 : Int32) (v : gV) (h : f_X1_changeAt_J111 b x1 x2 x3 x4 v = some o) (hc : ∀ c0 c1, o = .inl (c0, c1) → gx_G Γ Ω LX (gx_Q Γ Ω LX none v0) 5 c0 13 [(0, .ref (Ω.1 b)), (1, .int x1), (2, .int x2), (3, .int x3), (4, .int c1)] []) (hz : ∀ z0, o = .inr z0 → gx_G Γ Ω LX (gx_Q Γ Ω LX none v0) 5 z0 117 [] []) : gx_G Γ Ω LX (gx_Q Γ Ω LX none v0) 5 v 111 [(0, .ref (Ω.1 b)), (1, .int x1), (2, .int x2), (3, .int x3), (4, .int x4)] [] := by
  rw [f_X1_changeAt_J111] at h
  refine gi_iinc (z := (1 : Int32)) (n := 114) hX 4 [(4, .int (x4 + (1 : Int32))), (0, .ref (Ω.1 b)), (1, .int x1), (2, .int x2), (3, .int x3)] dX1_changeAt_111 rfl rfl rfl rfl rfl rfl ?_
  refine gi_goto (n := 13) hX dX1_changeAt_114 rfl ?_
  refine gi_sub [1, 2, 3, 4, 0] rfl ?_
  exact hc _ _ (Option.some.inj h).symm
set_option maxRecDepth 20000 in
theorem t_X1_changeAt_J77 {Γ : gC} {Ω : gO} {v0 : gV} {o : (gV × Int32) ⊕ (gV)} (hX : gx_X Γ Ω cX1_changeAt RX1 5 (none)) (hR : Γ.2.2.2.1 = gx_R 2) (b : Nat) (hb : kR b = true) (x1 : Int32) (x2 : Int32) (x3 : Int32) (x4 : Int32) (v : gV) (h : f_X1_changeAt_J77 b x1 x2 x3 x4 v = some o) (hc : ∀ c0 c1, o = .inl (c0, c1) → gx_G Γ Ω LX (gx_Q Γ Ω LX none v0) 5 c0 13 [(0, .ref (Ω.1 b)), (1, .int x1), (2, .int x2), (3, .int x3), (4, .int c1)] []) (hz : ∀ z0, o = .inr z0 → gx_G Γ Ω LX (gx_Q Γ Ω LX none v0) 5 z0 117 [] []) : gx_G Γ Ω LX (gx_Q Γ Ω LX none v0) 5 v 77 [(0, .ref (Ω.1 b)), (1, .int x1), (2, .int x2), (3, .int x3), (4, .int x4)] [] := by
  rw [f_X1_changeAt_J77] at h
  refine gi_aload_n (n := 78) hX 0 dX1_changeAt_77 rfl rfl rfl ?_
  refine gi_dup (n := 79) hX rfl dX1_changeAt_78 rfl ?_
  refine gi_getI (n := 82) hX 11 kc_X1 (ly_R hb) rfl rfl fl_X1_69 dX1_changeAt_79 rfl ?_
  refine gi_iconst (x := (1 : Int32)) (n := 83) hX rfl dX1_changeAt_82 rfl ?_
  refine gi_iadd (n := 84) hX dX1_changeAt_83 rfl ?_
  refine gi_putI (n := 87) hX 11 kc_X1 (ly_R hb) rfl rfl fl_X1_69 rfl rfl dX1_changeAt_84 rfl h (fun v1 h => ?_)
  refine gi_aload_n (n := 88) hX 0 dX1_changeAt_87 rfl rfl rfl ?_
  refine gi_getI (n := 91) hX 12 kc_X1 (ly_R hb) rfl rfl fl_X1_72 dX1_changeAt_88 rfl ?_
  refine gi_iconst (x := (-1 : Int32)) (n := 92) hX rfl dX1_changeAt_91 rfl ?_
  refine gi_icmp_ne (tgt := 111) (n := 95) hX dX1_changeAt_92 rfl rfl h (fun h => ?_) (fun h => ?_)
  · exact t_X1_changeAt_J111 hX hR b hb x1 x2 x3 x4 v1 h hc hz
  · refine gi_aload_n (n := 96) hX 0 dX1_changeAt_95 rfl rfl rfl ?_
    refine gi_iload_n (n := 97) hX 1 dX1_changeAt_96 rfl rfl rfl ?_
    refine gi_putI (n := 100) hX 12 kc_X1 (ly_R hb) rfl rfl fl_X1_72 rfl rfl dX1_changeAt_97 rfl h (fun v2 h => ?_)
    refine gi_aload_n (n := 101) hX 0 dX1_changeAt_100 rfl rfl rfl ?_
    refine gi_iload_n (n := 102) hX 2 dX1_changeAt_101 rfl rfl rfl ?_
    refine gi_putI (n := 105) hX 13 kc_X1 (ly_R hb) rfl rfl fl_X1_75 rfl rfl dX1_changeAt_102 rfl h (fun v3 h => ?_)
    refine gi_aload_n (n := 106) hX 0 dX1_changeAt_105 rfl rfl rfl ?_
    refine gi_iload (n := 108) hX 4 dX1_changeAt_106 rfl rfl ?_
    refine gi_putI (n := 111) hX 14 kc_X1 (ly_R hb) rfl rfl fl_X1_78 rfl rfl dX1_changeAt_108 rfl h (fun v4 h => ?_)
    exact t_X1_changeAt_J111 hX hR b hb x1 x2 x3 x4 v4 h hc hz
set_option maxRecDepth 20000 in
theorem t_X1_changeAt_B13 {Γ : gC} {Ω : gO} {v0 : gV} {o : (gV × Int32) ⊕ (gV)} (hX : gx_X Γ Ω cX1_changeAt RX1 5 (none)) (hR : Γ.2.2.2.1 = gx_R 2) (b : Nat) (hb : kR b = true) (x1 : Int32) (x2 : Int32) (x3 : Int32) (x4 : Int32) (v : gV) (h : f_X1_changeAt_B13 b x1 x2 x3 x4 v = some o) (hc : ∀ c0 c1, o = .inl (c0, c1) → gx_G Γ Ω LX (gx_Q Γ Ω LX none v0) 5 c0 13 [(0, .ref (Ω.1 b)), (1, .int x1), (2, .int x2), (3, .int x3), (4, .int c1)] []) (hz : ∀ z0, o = .inr z0 → gx_G Γ Ω LX (gx_Q Γ Ω LX none v0) 5 z0 117 [] []) : gx_G Γ Ω LX (gx_Q Γ Ω LX none v0) 5 v 13 [(0, .ref (Ω.1 b)), (1, .int x1), (2, .int x2), (3, .int x3), (4, .int x4)] [] := by
  rw [f_X1_changeAt_B13] at h
  refine gi_iload (n := 15) hX 4 dX1_changeAt_13 rfl rfl ?_
  refine gi_aload_n (n := 16) hX 0 dX1_changeAt_15 rfl rfl rfl ?_
  refine gi_getR (n := 19) hX 0 kc_X1 (ly_R hb) rfl rfl fl_X1_37 dX1_changeAt_16 rfl ?_
  refine gi_getI (n := 22) hX 0 kc_X6 ly_X6 rfl rfl fl_X1_102 dX1_changeAt_19 rfl ?_
  refine gi_icmp_ge (tgt := 117) (n := 25) hX dX1_changeAt_22 rfl rfl h (fun h => ?_) (fun h => ?_)
  · refine gi_sub [] rfl ?_
    exact hz _ (Option.some.inj h).symm
  · refine gi_iload_n (n := 26) hX 3 dX1_changeAt_25 rfl rfl rfl ?_
    refine gi_iload (n := 28) hX 4 dX1_changeAt_26 rfl rfl ?_
    refine gi_ishr (n := 29) hX dX1_changeAt_28 rfl ?_
    refine gi_iconst (x := (1 : Int32)) (n := 30) hX rfl dX1_changeAt_29 rfl ?_
    refine gi_iand (n := 31) hX dX1_changeAt_30 rfl ?_
    refine gi_iconst (x := (1 : Int32)) (n := 32) hX rfl dX1_changeAt_31 rfl ?_
    refine gi_icmp_ne (tgt := 111) (n := 35) hX dX1_changeAt_32 rfl rfl h (fun h => ?_) (fun h => ?_)
    · exact t_X1_changeAt_J111 hX hR b hb x1 x2 x3 x4 v h hc hz
    · refine gi_aload_n (n := 36) hX 0 dX1_changeAt_35 rfl rfl rfl ?_
      refine gi_getR (n := 39) hX 0 kc_X1 (ly_R hb) rfl rfl fl_X1_37 dX1_changeAt_36 rfl ?_
      refine gi_iload (n := 41) hX 4 dX1_changeAt_39 rfl rfl ?_
      refine gi_aload_n (n := 42) hX 0 dX1_changeAt_41 rfl rfl rfl ?_
      refine gi_getR (n := 45) hX 3 kc_X1 (ly_R hb) rfl rfl fl_X1_9 dX1_changeAt_42 rfl ?_
      refine gi_iload (n := 47) hX 4 dX1_changeAt_45 rfl rfl ?_
      refine gi_iald (n := 48) hX (ly_R1 hb) dX1_changeAt_47 rfl h (fun h => ?_)
      refine gi_aload_n (n := 49) hX 0 dX1_changeAt_48 rfl rfl rfl ?_
      refine gi_getI (n := 52) hX 1 kc_X1 (ly_R hb) rfl rfl fl_X1_47 dX1_changeAt_49 rfl ?_
      obtain ⟨r3, v1, e2, h⟩ := bi_some h
      refine gi_virtI (st := []) (n := 55) hX hR kc_X6 ly_X6 mv_X6_mayChange ml_X1_111 (m_X6_mayChange Γ.2.1 Ω x4 (v.1 (b + 1) (x4).toNatClampNeg) (v.1 b 1) v e2) rfl ⟨rfl, rfl⟩ rfl dX1_changeAt_52 rfl rfl ?_
      refine gi_if_eq (tgt := 111) (n := 58) hX dX1_changeAt_55 rfl rfl h (fun h => ?_) (fun h => ?_)
      · exact t_X1_changeAt_J111 hX hR b hb x1 x2 x3 x4 v1 h hc hz
      · refine gi_aload_n (n := 59) hX 0 dX1_changeAt_58 rfl rfl rfl ?_
        refine gi_iload (n := 61) hX 4 dX1_changeAt_59 rfl rfl ?_
        obtain ⟨r6, v4, e5, h⟩ := bi_some h
        refine gi_virtI (st := []) (n := 64) hX hR kc_X1 (ly_R hb) mv_X1_takeWhole ml_X1_115 (m_X1_takeWhole Γ.2.1 Ω b hb x4 v1 e5) rfl ⟨rfl, rfl⟩ rfl dX1_changeAt_61 rfl rfl ?_
        refine gi_if_ne (tgt := 77) (n := 67) hX dX1_changeAt_64 rfl rfl h (fun h => ?_) (fun h => ?_)
        · exact t_X1_changeAt_J77 hX hR b hb x1 x2 x3 x4 v4 h hc hz
        · refine gi_aload_n (n := 68) hX 0 dX1_changeAt_67 rfl rfl rfl ?_
          refine gi_iload (n := 70) hX 4 dX1_changeAt_68 rfl rfl ?_
          refine gi_iload_n (n := 71) hX 3 dX1_changeAt_70 rfl rfl rfl ?_
          obtain ⟨r9, v7, e8, h⟩ := bi_some h
          refine gi_virtI (st := []) (n := 74) hX hR kc_X1 (ly_R hb) mv_X1_takeTorn ml_X1_118 (m_X1_takeTorn Γ.2.1 Ω b hb x4 x3 v4 e8) rfl ⟨rfl, rfl⟩ rfl dX1_changeAt_71 rfl rfl ?_
          refine gi_if_eq (tgt := 111) (n := 77) hX dX1_changeAt_74 rfl rfl h (fun h => ?_) (fun h => ?_)
          · exact t_X1_changeAt_J111 hX hR b hb x1 x2 x3 x4 v7 h hc hz
          · exact t_X1_changeAt_J77 hX hR b hb x1 x2 x3 x4 v7 h hc hz
set_option maxRecDepth 20000 in
theorem t_X1_changeAt {Γ : gC} {Ω : gO} {v0 : gV} (hX : gx_X Γ Ω cX1_changeAt RX1 5 (none)) (hR : Γ.2.2.2.1 = gx_R 2) (b : Nat) (hb : kR b = true) (x1 : Int32) (x2 : Int32) (v : gV) (h : f_X1_changeAt b x1 x2 v = some v0) : gx_G Γ Ω LX (gx_Q Γ Ω LX none v0) 5 v 0 [(0, .ref (Ω.1 b)), (1, .int x1), (2, .int x2)] [] := by
  rw [f_X1_changeAt] at h
  refine gi_aload_n (n := 1) hX 0 dX1_changeAt_0 rfl rfl rfl ?_
  refine gi_getR (n := 4) hX 0 kc_X1 (ly_R hb) rfl rfl fl_X1_37 dX1_changeAt_1 rfl ?_
  refine gi_getR (n := 7) hX 5 kc_X6 ly_X6 rfl rfl fl_X1_108 dX1_changeAt_4 rfl ?_
  refine gi_iload_n (n := 8) hX 2 dX1_changeAt_7 rfl rfl rfl ?_
  refine gi_iald (n := 9) hX ly_11 dX1_changeAt_8 rfl h (fun h => ?_)
  refine gi_topI h (fun u1 h => ?_)
  refine gi_istore_n (n := 10) hX [(3, .int u1), (0, .ref (Ω.1 b)), (1, .int x1), (2, .int x2)] dX1_changeAt_9 rfl rfl rfl rfl ?_
  refine gi_iconst (x := (0 : Int32)) (n := 11) hX rfl dX1_changeAt_10 rfl ?_
  refine gi_istore (n := 13) hX [(4, .int (0 : Int32)), (3, .int u1), (0, .ref (Ω.1 b)), (1, .int x1), (2, .int x2)] dX1_changeAt_11 rfl rfl rfl ?_
  refine gi_sub [2, 3, 4, 1, 0] rfl ?_
  have key := lp_ind (f := (fun a : gV × Int32 => f_X1_changeAt_B13 b x1 x2 u1 a.2 a.1)) (P := (fun a : gV × Int32 => gx_G Γ Ω LX (gx_Q Γ Ω LX none v0) 5 a.1 13 [(0, .ref (Ω.1 b)), (1, .int x1), (2, .int x2), (3, .int u1), (4, .int a.2)] [])) (Z := (fun z : gV => gx_G Γ Ω LX (gx_Q Γ Ω LX none v0) 5 z 117 [] [])) (fun a o h hc hz => t_X1_changeAt_B13 hX hR b hb x1 x2 u1 a.2 a.1 h (fun c0 c1 e => hc (c0, c1) e) (fun z0 e => hz z0 e)) fu
  obtain ⟨v2, e0, h⟩ := bx1_some h
  refine key (v, (0 : Int32)) _ e0 ?_
  show gx_G Γ Ω LX (gx_Q Γ Ω LX none v0) 5 v2 117 [] []
  exact gi_vret hX rfl dX1_changeAt_117 h
theorem m_X1_changeAt (l : Launch) (Ω : gO) (b : Nat) (hb : kR b = true) (x1 : Int32) (x2 : Int32) (v : gV) {v0 : gV} (h : f_X1_changeAt b x1 x2 v = some v0) : gx_M l Ω LX yX1_changeAt cX1_changeAt 5 (none) 2 [.ref (Ω.1 b), .int x1, .int x2] v none v0 := gx_start (lv := [(0, .ref (Ω.1 b)), (1, .int x1), (2, .int x2)]) (by decide +kernel) (Nat.le_of_ble_eq_true rfl) rfl (fun Γ _ hR hX => t_X1_changeAt hX hR b hb x1 x2 v h)
set_option maxRecDepth 20000 in
theorem t_X1_leaveAt_J99 {Γ : gC} {Ω : gO} {r0 : Int32} {v0 : gV} {o : (gV × Int32 × Int32) ⊕ (gV × Int32)} (hX : gx_X Γ Ω cX1_leaveAt RX1 5 (some .boolean)) (hR : Γ.2.2.2.1 = gx_R 1) (b : Nat) (hb : kR b = true) (x2 : Int32) (x3 : Int32) (x4 : Int32) (v : gV) (h : f_X1_leaveAt_J99 b x2 x3 x4 v = some o) (hc : ∀ c0 c1 c2, o = .inl (c0, c1, c2) → gx_G Γ Ω LX (gx_Q Γ Ω LX (some (.int r0)) v0) 5 c0 23 [(0, .ref (Ω.1 b)), (2, .int c1), (3, .int x3), (4, .int c2)] []) (hz : ∀ z0 z1, o = .inr (z0, z1) → gx_G Γ Ω LX (gx_Q Γ Ω LX (some (.int r0)) v0) 5 z0 105 [(2, .int z1)] []) : gx_G Γ Ω LX (gx_Q Γ Ω LX (some (.int r0)) v0) 5 v 99 [(0, .ref (Ω.1 b)), (2, .int x2), (3, .int x3), (4, .int x4)] [] := by
  rw [f_X1_leaveAt_J99] at h
  refine gi_iinc (z := (1 : Int32)) (n := 102) hX 3 [(4, .int (x4 + (1 : Int32))), (0, .ref (Ω.1 b)), (2, .int x2), (3, .int x3)] dX1_leaveAt_99 rfl rfl rfl rfl rfl rfl ?_
  refine gi_goto (n := 23) hX dX1_leaveAt_102 rfl ?_
  refine gi_sub [1, 2, 3, 0] rfl ?_
  exact hc _ _ _ (Option.some.inj h).symm
set_option maxRecDepth 20000 in
theorem t_X1_leaveAt_B23 {Γ : gC} {Ω : gO} {r0 : Int32} {v0 : gV} {o : (gV × Int32 × Int32) ⊕ (gV × Int32)} (hX : gx_X Γ Ω cX1_leaveAt RX1 5 (some .boolean)) (hR : Γ.2.2.2.1 = gx_R 1) (b : Nat) (hb : kR b = true) (x2 : Int32) (x3 : Int32) (x4 : Int32) (v : gV) (h : f_X1_leaveAt_B23 b x2 x3 x4 v = some o) (hc : ∀ c0 c1 c2, o = .inl (c0, c1, c2) → gx_G Γ Ω LX (gx_Q Γ Ω LX (some (.int r0)) v0) 5 c0 23 [(0, .ref (Ω.1 b)), (2, .int c1), (3, .int x3), (4, .int c2)] []) (hz : ∀ z0 z1, o = .inr (z0, z1) → gx_G Γ Ω LX (gx_Q Γ Ω LX (some (.int r0)) v0) 5 z0 105 [(2, .int z1)] []) : gx_G Γ Ω LX (gx_Q Γ Ω LX (some (.int r0)) v0) 5 v 23 [(0, .ref (Ω.1 b)), (2, .int x2), (3, .int x3), (4, .int x4)] [] := by
  rw [f_X1_leaveAt_B23] at h
  refine gi_iload (n := 25) hX 3 dX1_leaveAt_23 rfl rfl ?_
  refine gi_aload_n (n := 26) hX 0 dX1_leaveAt_25 rfl rfl rfl ?_
  refine gi_getR (n := 29) hX 0 kc_X1 (ly_R hb) rfl rfl fl_X1_37 dX1_leaveAt_26 rfl ?_
  refine gi_getI (n := 32) hX 0 kc_X6 ly_X6 rfl rfl fl_X1_102 dX1_leaveAt_29 rfl ?_
  refine gi_icmp_ge (tgt := 105) (n := 35) hX dX1_leaveAt_32 rfl rfl h (fun h => ?_) (fun h => ?_)
  · refine gi_sub [1] rfl ?_
    exact hz _ _ (Option.some.inj h).symm
  · refine gi_iload_n (n := 36) hX 2 dX1_leaveAt_35 rfl rfl rfl ?_
    refine gi_if_eq (tgt := 105) (n := 39) hX dX1_leaveAt_36 rfl rfl h (fun h => ?_) (fun h => ?_)
    · refine gi_sub [1] rfl ?_
      exact hz _ _ (Option.some.inj h).symm
    · refine gi_iload_n (n := 40) hX 2 dX1_leaveAt_39 rfl rfl rfl ?_
      refine gi_iload (n := 42) hX 3 dX1_leaveAt_40 rfl rfl ?_
      refine gi_ishr (n := 43) hX dX1_leaveAt_42 rfl ?_
      refine gi_iconst (x := (1 : Int32)) (n := 44) hX rfl dX1_leaveAt_43 rfl ?_
      refine gi_iand (n := 45) hX dX1_leaveAt_44 rfl ?_
      refine gi_iconst (x := (1 : Int32)) (n := 46) hX rfl dX1_leaveAt_45 rfl ?_
      refine gi_icmp_ne (tgt := 99) (n := 49) hX dX1_leaveAt_46 rfl rfl h (fun h => ?_) (fun h => ?_)
      · exact t_X1_leaveAt_J99 hX hR b hb x2 x3 x4 v h hc hz
      · refine gi_aload_n (n := 50) hX 0 dX1_leaveAt_49 rfl rfl rfl ?_
        refine gi_getR (n := 53) hX 3 kc_X1 (ly_R hb) rfl rfl fl_X1_9 dX1_leaveAt_50 rfl ?_
        refine gi_iload (n := 55) hX 3 dX1_leaveAt_53 rfl rfl ?_
        refine gi_iald (n := 56) hX (ly_R1 hb) dX1_leaveAt_55 rfl h (fun h => ?_)
        refine gi_iconst (x := (-1 : Int32)) (n := 57) hX rfl dX1_leaveAt_56 rfl ?_
        refine gi_icmp_eq (tgt := 99) (n := 60) hX dX1_leaveAt_57 rfl rfl h (fun h => ?_) (fun h => ?_)
        · exact t_X1_leaveAt_J99 hX hR b hb x2 x3 x4 v h hc hz
        · refine gi_aload_n (n := 61) hX 0 dX1_leaveAt_60 rfl rfl rfl ?_
          refine gi_getR (n := 64) hX 4 kc_X1 (ly_R hb) rfl rfl fl_X1_18 dX1_leaveAt_61 rfl ?_
          refine gi_aload_n (n := 65) hX 0 dX1_leaveAt_64 rfl rfl rfl ?_
          refine gi_getR (n := 68) hX 3 kc_X1 (ly_R hb) rfl rfl fl_X1_9 dX1_leaveAt_65 rfl ?_
          refine gi_iload (n := 70) hX 3 dX1_leaveAt_68 rfl rfl ?_
          refine gi_iald (n := 71) hX (ly_R1 hb) dX1_leaveAt_70 rfl h (fun h => ?_)
          obtain ⟨v1, e2, h⟩ := bv_some h
          refine gi_virtV (st := []) (n := 74) hX hR kc_X0 (ly_B (kb_R hb)) mv_X0_putAtBottom ml_X1_105 (m_X0_putAtBottom Γ.2.1 Ω (b + 2) (kb_R hb) (v.1 (b + 1) (x4).toNatClampNeg) v e2) rfl ⟨rfl, rfl⟩ rfl dX1_leaveAt_71 rfl rfl ?_
          refine gi_aload_n (n := 75) hX 0 dX1_leaveAt_74 rfl rfl rfl ?_
          refine gi_getR (n := 78) hX 3 kc_X1 (ly_R hb) rfl rfl fl_X1_9 dX1_leaveAt_75 rfl ?_
          refine gi_iload (n := 80) hX 3 dX1_leaveAt_78 rfl rfl ?_
          refine gi_iconst (x := (-1 : Int32)) (n := 81) hX rfl dX1_leaveAt_80 rfl ?_
          refine gi_iast (n := 82) hX (ly_R1 hb) dX1_leaveAt_81 rfl h (fun v3 h => ?_)
          refine gi_aload_n (n := 83) hX 0 dX1_leaveAt_82 rfl rfl rfl ?_
          refine gi_dup (n := 84) hX rfl dX1_leaveAt_83 rfl ?_
          refine gi_getI (n := 87) hX 5 kc_X1 (ly_R hb) rfl rfl fl_X1_66 dX1_leaveAt_84 rfl ?_
          refine gi_iconst (x := (1 : Int32)) (n := 88) hX rfl dX1_leaveAt_87 rfl ?_
          refine gi_iload (n := 90) hX 3 dX1_leaveAt_88 rfl rfl ?_
          refine gi_ishl (n := 91) hX dX1_leaveAt_90 rfl ?_
          refine gi_iconst (x := (-1 : Int32)) (n := 92) hX rfl dX1_leaveAt_91 rfl ?_
          refine gi_ixor (n := 93) hX dX1_leaveAt_92 rfl ?_
          refine gi_iand (n := 94) hX dX1_leaveAt_93 rfl ?_
          refine gi_putI (n := 97) hX 5 kc_X1 (ly_R hb) rfl rfl fl_X1_66 rfl rfl dX1_leaveAt_94 rfl h (fun v4 h => ?_)
          refine gi_iconst (x := (1 : Int32)) (n := 98) hX rfl dX1_leaveAt_97 rfl ?_
          refine gi_istore_n (n := 99) hX [(2, .int (1 : Int32)), (0, .ref (Ω.1 b)), (3, .int x3), (4, .int x4)] dX1_leaveAt_98 rfl rfl rfl rfl ?_
          refine gi_sub [1, 0, 2, 3] rfl ?_
          exact t_X1_leaveAt_J99 hX hR b hb (1 : Int32) x3 x4 v4 h hc hz
set_option maxRecDepth 20000 in
theorem t_X1_leaveAt {Γ : gC} {Ω : gO} {r0 : Int32} {v0 : gV} (hX : gx_X Γ Ω cX1_leaveAt RX1 5 (some .boolean)) (hR : Γ.2.2.2.1 = gx_R 1) (b : Nat) (hb : kR b = true) (x1 : Int32) (v : gV) (h : f_X1_leaveAt b x1 v = some (r0, v0)) : gx_G Γ Ω LX (gx_Q Γ Ω LX (some (.int r0)) v0) 5 v 0 [(0, .ref (Ω.1 b)), (1, .int x1)] [] := by
  rw [f_X1_leaveAt] at h
  refine gi_iconst (x := (0 : Int32)) (n := 1) hX rfl dX1_leaveAt_0 rfl ?_
  refine gi_istore_n (n := 2) hX [(2, .int (0 : Int32)), (0, .ref (Ω.1 b)), (1, .int x1)] dX1_leaveAt_1 rfl rfl rfl rfl ?_
  refine gi_aload_n (n := 3) hX 1 dX1_leaveAt_2 rfl rfl rfl ?_
  refine gi_getR (n := 6) hX 0 kc_X1 (ly_R hb) rfl rfl fl_X1_37 dX1_leaveAt_3 rfl ?_
  refine gi_getR (n := 9) hX 6 kc_X6 ly_X6 rfl rfl fl_X1_96 dX1_leaveAt_6 rfl ?_
  refine gi_iload_n (n := 10) hX 2 dX1_leaveAt_9 rfl rfl rfl ?_
  refine gi_iald (n := 11) hX ly_12 dX1_leaveAt_10 rfl h (fun h => ?_)
  refine gi_aload_n (n := 12) hX 1 dX1_leaveAt_11 rfl rfl rfl ?_
  refine gi_getR (n := 15) hX 0 kc_X1 (ly_R hb) rfl rfl fl_X1_37 dX1_leaveAt_12 rfl ?_
  refine gi_getI (n := 18) hX 11 kc_X6 ly_X6 rfl rfl fl_X1_99 dX1_leaveAt_15 rfl ?_
  refine gi_iand (n := 19) hX dX1_leaveAt_18 rfl ?_
  refine gi_topI h (fun u1 h => ?_)
  refine gi_istore_n (n := 20) hX [(3, .int u1), (2, .int (0 : Int32)), (0, .ref (Ω.1 b)), (1, .int x1)] dX1_leaveAt_19 rfl rfl rfl rfl ?_
  refine gi_iconst (x := (0 : Int32)) (n := 21) hX rfl dX1_leaveAt_20 rfl ?_
  refine gi_istore (n := 23) hX [(4, .int (0 : Int32)), (3, .int u1), (2, .int (0 : Int32)), (0, .ref (Ω.1 b)), (1, .int x1)] dX1_leaveAt_21 rfl rfl rfl ?_
  refine gi_sub [3, 2, 1, 0] rfl ?_
  have key := lp_ind (f := (fun a : gV × Int32 × Int32 => f_X1_leaveAt_B23 b a.2.1 u1 a.2.2 a.1)) (P := (fun a : gV × Int32 × Int32 => gx_G Γ Ω LX (gx_Q Γ Ω LX (some (.int r0)) v0) 5 a.1 23 [(0, .ref (Ω.1 b)), (2, .int a.2.1), (3, .int u1), (4, .int a.2.2)] [])) (Z := (fun z : gV × Int32 => gx_G Γ Ω LX (gx_Q Γ Ω LX (some (.int r0)) v0) 5 z.1 105 [(2, .int z.2)] [])) (fun a o h hc hz => t_X1_leaveAt_B23 hX hR b hb a.2.1 u1 a.2.2 a.1 h (fun c0 c1 c2 e => hc (c0, c1, c2) e) (fun z0 z1 e => hz (z0, z1) e)) fu
  obtain ⟨v2, y3, e0, h⟩ := bx2_some h
  refine key (v, (0 : Int32), (0 : Int32)) _ e0 ?_
  show gx_G Γ Ω LX (gx_Q Γ Ω LX (some (.int r0)) v0) 5 v2 105 [(2, .int y3)] []
  refine gi_iload_n (n := 106) hX 0 dX1_leaveAt_105 rfl rfl rfl ?_
  exact gi_zret hX rfl dX1_leaveAt_106 h
theorem m_X1_leaveAt (l : Launch) (Ω : gO) (b : Nat) (hb : kR b = true) (x1 : Int32) (v : gV) {r0 : Int32} {v0 : gV} (h : f_X1_leaveAt b x1 v = some (r0, v0)) : gx_M l Ω LX yX1_leaveAt cX1_leaveAt 5 (some .boolean) 1 [.ref (Ω.1 b), .int x1] v (some (.int r0)) v0 := gx_start (lv := [(0, .ref (Ω.1 b)), (1, .int x1)]) (by decide +kernel) (Nat.le_of_ble_eq_true rfl) rfl (fun Γ _ hR hX => t_X1_leaveAt hX hR b hb x1 v h)
set_option maxRecDepth 20000 in
theorem t_X1_keep_J95 {Γ : gC} {Ω : gO} {v0 : gV} {o : (gV × Int32) ⊕ (gV)} (hX : gx_X Γ Ω cX1_keep RX1 3 (none)) (hR : Γ.2.2.2.1 = gx_R 2) (b : Nat) (hb : kR b = true) (x1 : Int32) (x2 : Int32) (v : gV) (h : f_X1_keep_J95 b x1 x2 v = some o) (hc : ∀ c0 c1, o = .inl (c0, c1) → gx_G Γ Ω LX (gx_Q Γ Ω LX none v0) 3 c0 54 [(0, .ref (Ω.1 b)), (1, .int x1), (2, .int c1)] []) (hz : ∀ z0, o = .inr z0 → gx_G Γ Ω LX (gx_Q Γ Ω LX none v0) 3 z0 101 [] []) : gx_G Γ Ω LX (gx_Q Γ Ω LX none v0) 3 v 95 [(0, .ref (Ω.1 b)), (1, .int x1), (2, .int x2)] [] := by
  rw [f_X1_keep_J95] at h
  refine gi_iinc (z := (1 : Int32)) (n := 98) hX 2 [(2, .int (x2 + (1 : Int32))), (0, .ref (Ω.1 b)), (1, .int x1)] dX1_keep_95 rfl rfl rfl rfl rfl rfl ?_
  refine gi_goto (n := 54) hX dX1_keep_98 rfl ?_
  refine gi_sub [1, 2, 0] rfl ?_
  exact hc _ _ (Option.some.inj h).symm
set_option maxRecDepth 20000 in
theorem t_X1_keep_B54 {Γ : gC} {Ω : gO} {v0 : gV} {o : (gV × Int32) ⊕ (gV)} (hX : gx_X Γ Ω cX1_keep RX1 3 (none)) (hR : Γ.2.2.2.1 = gx_R 2) (b : Nat) (hb : kR b = true) (x1 : Int32) (x2 : Int32) (v : gV) (h : f_X1_keep_B54 b x1 x2 v = some o) (hc : ∀ c0 c1, o = .inl (c0, c1) → gx_G Γ Ω LX (gx_Q Γ Ω LX none v0) 3 c0 54 [(0, .ref (Ω.1 b)), (1, .int x1), (2, .int c1)] []) (hz : ∀ z0, o = .inr z0 → gx_G Γ Ω LX (gx_Q Γ Ω LX none v0) 3 z0 101 [] []) : gx_G Γ Ω LX (gx_Q Γ Ω LX none v0) 3 v 54 [(0, .ref (Ω.1 b)), (1, .int x1), (2, .int x2)] [] := by
  rw [f_X1_keep_B54] at h
  refine gi_iload_n (n := 55) hX 2 dX1_keep_54 rfl rfl rfl ?_
  refine gi_aload_n (n := 56) hX 0 dX1_keep_55 rfl rfl rfl ?_
  refine gi_getR (n := 59) hX 0 kc_X1 (ly_R hb) rfl rfl fl_X1_37 dX1_keep_56 rfl ?_
  refine gi_getI (n := 62) hX 0 kc_X6 ly_X6 rfl rfl fl_X1_102 dX1_keep_59 rfl ?_
  refine gi_icmp_ge (tgt := 101) (n := 65) hX dX1_keep_62 rfl rfl h (fun h => ?_) (fun h => ?_)
  · refine gi_sub [] rfl ?_
    exact hz _ (Option.some.inj h).symm
  · refine gi_aload_n (n := 66) hX 0 dX1_keep_65 rfl rfl rfl ?_
    refine gi_getR (n := 69) hX 3 kc_X1 (ly_R hb) rfl rfl fl_X1_9 dX1_keep_66 rfl ?_
    refine gi_iload_n (n := 70) hX 2 dX1_keep_69 rfl rfl rfl ?_
    refine gi_iald (n := 71) hX (ly_R1 hb) dX1_keep_70 rfl h (fun h => ?_)
    refine gi_aload_n (n := 72) hX 0 dX1_keep_71 rfl rfl rfl ?_
    refine gi_getR (n := 75) hX 0 kc_X1 (ly_R hb) rfl rfl fl_X1_37 dX1_keep_72 rfl ?_
    refine gi_getR (n := 78) hX 4 kc_X6 ly_X6 rfl rfl fl_X1_122 dX1_keep_75 rfl ?_
    refine gi_iload_n (n := 79) hX 2 dX1_keep_78 rfl rfl rfl ?_
    refine gi_iald (n := 80) hX ly_10 dX1_keep_79 rfl h (fun h => ?_)
    refine gi_icmp_ne (tgt := 95) (n := 83) hX dX1_keep_80 rfl rfl h (fun h => ?_) (fun h => ?_)
    · exact t_X1_keep_J95 hX hR b hb x1 x2 v h hc hz
    · refine gi_aload_n (n := 84) hX 0 dX1_keep_83 rfl rfl rfl ?_
      refine gi_getR (n := 87) hX 8 kc_X1 (ly_R hb) rfl rfl fl_X1_30 dX1_keep_84 rfl ?_
      refine gi_iload_n (n := 88) hX 1 dX1_keep_87 rfl rfl rfl ?_
      refine gi_dup2 (n := 89) hX rfl rfl dX1_keep_88 rfl ?_
      refine gi_iald (n := 90) hX (ly_R16 hb) dX1_keep_89 rfl h (fun h => ?_)
      refine gi_iconst (x := (1 : Int32)) (n := 91) hX rfl dX1_keep_90 rfl ?_
      refine gi_iload_n (n := 92) hX 2 dX1_keep_91 rfl rfl rfl ?_
      refine gi_ishl (n := 93) hX dX1_keep_92 rfl ?_
      refine gi_ior (n := 94) hX dX1_keep_93 rfl ?_
      refine gi_iast (n := 95) hX (ly_R16 hb) dX1_keep_94 rfl h (fun v1 h => ?_)
      exact t_X1_keep_J95 hX hR b hb x1 x2 v1 h hc hz
set_option maxRecDepth 20000 in
theorem t_X1_keep {Γ : gC} {Ω : gO} {v0 : gV} (hX : gx_X Γ Ω cX1_keep RX1 3 (none)) (hR : Γ.2.2.2.1 = gx_R 2) (b : Nat) (hb : kR b = true) (x1 : Int32) (v : gV) (h : f_X1_keep b x1 v = some v0) : gx_G Γ Ω LX (gx_Q Γ Ω LX none v0) 3 v 0 [(0, .ref (Ω.1 b)), (1, .int x1)] [] := by
  rw [f_X1_keep] at h
  refine gi_aload_n (n := 1) hX 0 dX1_keep_0 rfl rfl rfl ?_
  refine gi_iload_n (n := 2) hX 1 dX1_keep_1 rfl rfl rfl ?_
  refine gi_putI (n := 5) hX 10 kc_X1 (ly_R hb) rfl rfl fl_X1_132 rfl rfl dX1_keep_2 rfl h (fun v1 h => ?_)
  refine gi_aload_n (n := 6) hX 0 dX1_keep_5 rfl rfl rfl ?_
  refine gi_getR (n := 9) hX 3 kc_X1 (ly_R hb) rfl rfl fl_X1_9 dX1_keep_6 rfl ?_
  refine gi_iconst (x := (0 : Int32)) (n := 10) hX rfl dX1_keep_9 rfl ?_
  refine gi_aload_n (n := 11) hX 0 dX1_keep_10 rfl rfl rfl ?_
  refine gi_getR (n := 14) hX 6 kc_X1 (ly_R hb) rfl rfl fl_X1_24 dX1_keep_11 rfl ?_
  refine gi_iload_n (n := 15) hX 1 dX1_keep_14 rfl rfl rfl ?_
  refine gi_aald (n := 16) hX (ly_R4 hb) (Or.inr (Or.inr (Or.inr rfl))) dX1_keep_15 rfl h (fun g2 k3 h => ?_)
  refine gi_iconst (x := (0 : Int32)) (n := 17) hX rfl dX1_keep_16 rfl ?_
  refine gi_bipush (x := (8 : Int32)) (n := 19) hX rfl dX1_keep_17 rfl ?_
  refine gi_copy (d := 1) (st := []) (n := 22) hX (ly_R1 hb) (of_decide_eq_true k3) ml_X1_55 w_nat w_sta w_sys hR rfl dX1_keep_19 rfl h (fun v4 h => ?_)
  refine gi_aload_n (n := 23) hX 0 dX1_keep_22 rfl rfl rfl ?_
  refine gi_getR (n := 26) hX 7 kc_X1 (ly_R hb) rfl rfl fl_X1_27 dX1_keep_23 rfl ?_
  refine gi_iload_n (n := 27) hX 1 dX1_keep_26 rfl rfl rfl ?_
  refine gi_aload_n (n := 28) hX 0 dX1_keep_27 rfl rfl rfl ?_
  refine gi_getI (n := 31) hX 5 kc_X1 (ly_R hb) rfl rfl fl_X1_66 dX1_keep_28 rfl ?_
  refine gi_iast (n := 32) hX (ly_R15 hb) dX1_keep_31 rfl h (fun v5 h => ?_)
  refine gi_aload_n (n := 33) hX 0 dX1_keep_32 rfl rfl rfl ?_
  refine gi_getR (n := 36) hX 9 kc_X1 (ly_R hb) rfl rfl fl_X1_33 dX1_keep_33 rfl ?_
  refine gi_iload_n (n := 37) hX 1 dX1_keep_36 rfl rfl rfl ?_
  refine gi_aald (n := 38) hX (ly_R17 hb) (Or.inr (Or.inr (Or.inl rfl))) dX1_keep_37 rfl h (fun g6 k7 h => ?_)
  refine gi_aload_n (n := 39) hX 0 dX1_keep_38 rfl rfl rfl ?_
  refine gi_getR (n := 42) hX 4 kc_X1 (ly_R hb) rfl rfl fl_X1_18 dX1_keep_39 rfl ?_
  obtain ⟨v8, e9, h⟩ := bv_some h
  refine gi_virtV (st := []) (n := 45) hX hR kc_X0 (ly_B k7) mv_X0_become ml_X1_62 (m_X0_become Γ.2.1 Ω g6 k7 (b + 2) (kb_R hb) v5 e9) rfl ⟨rfl, rfl⟩ rfl dX1_keep_42 rfl rfl ?_
  refine gi_aload_n (n := 46) hX 0 dX1_keep_45 rfl rfl rfl ?_
  refine gi_getR (n := 49) hX 8 kc_X1 (ly_R hb) rfl rfl fl_X1_30 dX1_keep_46 rfl ?_
  refine gi_iload_n (n := 50) hX 1 dX1_keep_49 rfl rfl rfl ?_
  refine gi_iconst (x := (0 : Int32)) (n := 51) hX rfl dX1_keep_50 rfl ?_
  refine gi_iast (n := 52) hX (ly_R16 hb) dX1_keep_51 rfl h (fun v10 h => ?_)
  refine gi_iconst (x := (0 : Int32)) (n := 53) hX rfl dX1_keep_52 rfl ?_
  refine gi_istore_n (n := 54) hX [(2, .int (0 : Int32)), (0, .ref (Ω.1 b)), (1, .int x1)] dX1_keep_53 rfl rfl rfl rfl ?_
  refine gi_sub [1, 2, 0] rfl ?_
  have key := lp_ind (f := (fun a : gV × Int32 => f_X1_keep_B54 b x1 a.2 a.1)) (P := (fun a : gV × Int32 => gx_G Γ Ω LX (gx_Q Γ Ω LX none v0) 3 a.1 54 [(0, .ref (Ω.1 b)), (1, .int x1), (2, .int a.2)] [])) (Z := (fun z : gV => gx_G Γ Ω LX (gx_Q Γ Ω LX none v0) 3 z 101 [] [])) (fun a o h hc hz => t_X1_keep_B54 hX hR b hb x1 a.2 a.1 h (fun c0 c1 e => hc (c0, c1) e) (fun z0 e => hz z0 e)) fu
  obtain ⟨v11, e0, h⟩ := bx1_some h
  refine key (v10, (0 : Int32)) _ e0 ?_
  show gx_G Γ Ω LX (gx_Q Γ Ω LX none v0) 3 v11 101 [] []
  exact gi_vret hX rfl dX1_keep_101 h
theorem m_X1_keep (l : Launch) (Ω : gO) (b : Nat) (hb : kR b = true) (x1 : Int32) (v : gV) {v0 : gV} (h : f_X1_keep b x1 v = some v0) : gx_M l Ω LX yX1_keep cX1_keep 3 (none) 2 [.ref (Ω.1 b), .int x1] v none v0 := gx_start (lv := [(0, .ref (Ω.1 b)), (1, .int x1)]) (by decide +kernel) (Nat.le_of_ble_eq_true rfl) rfl (fun Γ _ hR hX => t_X1_keep hX hR b hb x1 v h)
set_option maxRecDepth 20000 in
theorem t_X1_go_J94 {Γ : gC} {Ω : gO} {v0 : gV} {o : (gV × Int32 × Int32) ⊕ (gV × Int32)} (hX : gx_X Γ Ω cX1_go RX1 6 (none)) (hR : Γ.2.2.2.1 = gx_R 3) (b : Nat) (hb : kR b = true) (x2 : Int32) (x3 : Int32) (x4 : Int32) (x5 : Int32) (v : gV) (h : f_X1_go_J94 b x2 x3 x4 x5 v = some o) (hc : ∀ c0 c1 c2, o = .inl (c0, c1, c2) → gx_G Γ Ω LX (gx_Q Γ Ω LX none v0) 6 c0 55 [(0, .ref (Ω.1 b)), (2, .int x2), (3, .int x3), (4, .int c1), (5, .int c2)] []) (hz : ∀ z0 z1, o = .inr (z0, z1) → gx_G Γ Ω LX (gx_Q Γ Ω LX none v0) 6 z0 100 [(0, .ref (Ω.1 b)), (2, .int x2), (3, .int x3), (4, .int z1)] []) : gx_G Γ Ω LX (gx_Q Γ Ω LX none v0) 6 v 94 [(0, .ref (Ω.1 b)), (2, .int x2), (3, .int x3), (4, .int x4), (5, .int x5)] [] := by
  rw [f_X1_go_J94] at h
  refine gi_iinc (z := (1 : Int32)) (n := 97) hX 4 [(5, .int (x5 + (1 : Int32))), (0, .ref (Ω.1 b)), (2, .int x2), (3, .int x3), (4, .int x4)] dX1_go_94 rfl rfl rfl rfl rfl rfl ?_
  refine gi_goto (n := 55) hX dX1_go_97 rfl ?_
  refine gi_sub [1, 2, 3, 4, 0] rfl ?_
  exact hc _ _ _ (Option.some.inj h).symm
set_option maxRecDepth 20000 in
theorem t_X1_go_J74 {Γ : gC} {Ω : gO} {v0 : gV} {o : (gV × Int32 × Int32) ⊕ (gV × Int32)} (hX : gx_X Γ Ω cX1_go RX1 6 (none)) (hR : Γ.2.2.2.1 = gx_R 3) (b : Nat) (hb : kR b = true) (x2 : Int32) (x3 : Int32) (x4 : Int32) (x5 : Int32) (v : gV) (h : f_X1_go_J74 b x2 x3 x4 x5 v = some o) (hc : ∀ c0 c1 c2, o = .inl (c0, c1, c2) → gx_G Γ Ω LX (gx_Q Γ Ω LX none v0) 6 c0 55 [(0, .ref (Ω.1 b)), (2, .int x2), (3, .int x3), (4, .int c1), (5, .int c2)] []) (hz : ∀ z0 z1, o = .inr (z0, z1) → gx_G Γ Ω LX (gx_Q Γ Ω LX none v0) 6 z0 100 [(0, .ref (Ω.1 b)), (2, .int x2), (3, .int x3), (4, .int z1)] []) : gx_G Γ Ω LX (gx_Q Γ Ω LX none v0) 6 v 74 [(0, .ref (Ω.1 b)), (2, .int x2), (3, .int x3), (4, .int x4), (5, .int x5)] [] := by
  rw [f_X1_go_J74] at h
  refine gi_aload_n (n := 75) hX 0 dX1_go_74 rfl rfl rfl ?_
  refine gi_getI (n := 78) hX 2 kc_X1 (ly_R hb) rfl rfl fl_X1_51 dX1_go_75 rfl ?_
  refine gi_iload (n := 80) hX 4 dX1_go_78 rfl rfl ?_
  refine gi_ishr (n := 81) hX dX1_go_80 rfl ?_
  refine gi_iconst (x := (1 : Int32)) (n := 82) hX rfl dX1_go_81 rfl ?_
  refine gi_iand (n := 83) hX dX1_go_82 rfl ?_
  refine gi_iconst (x := (1 : Int32)) (n := 84) hX rfl dX1_go_83 rfl ?_
  refine gi_icmp_ne (tgt := 94) (n := 87) hX dX1_go_84 rfl rfl h (fun h => ?_) (fun h => ?_)
  · exact t_X1_go_J94 hX hR b hb x2 x3 x4 x5 v h hc hz
  · refine gi_aload_n (n := 88) hX 0 dX1_go_87 rfl rfl rfl ?_
    refine gi_iload_n (n := 89) hX 1 dX1_go_88 rfl rfl rfl ?_
    refine gi_iload (n := 91) hX 4 dX1_go_89 rfl rfl ?_
    obtain ⟨v1, e2, h⟩ := bv_some h
    refine gi_virtV (st := []) (n := 94) hX hR kc_X1 (ly_R hb) mv_X1_changeAt ml_X1_88 (m_X1_changeAt Γ.2.1 Ω b hb x2 x5 v e2) rfl ⟨rfl, rfl⟩ rfl dX1_go_91 rfl rfl ?_
    exact t_X1_go_J94 hX hR b hb x2 x3 x4 x5 v1 h hc hz
set_option maxRecDepth 20000 in
theorem t_X1_go_B55 {Γ : gC} {Ω : gO} {v0 : gV} {o : (gV × Int32 × Int32) ⊕ (gV × Int32)} (hX : gx_X Γ Ω cX1_go RX1 6 (none)) (hR : Γ.2.2.2.1 = gx_R 3) (b : Nat) (hb : kR b = true) (x2 : Int32) (x3 : Int32) (x4 : Int32) (x5 : Int32) (v : gV) (h : f_X1_go_B55 b x2 x3 x4 x5 v = some o) (hc : ∀ c0 c1 c2, o = .inl (c0, c1, c2) → gx_G Γ Ω LX (gx_Q Γ Ω LX none v0) 6 c0 55 [(0, .ref (Ω.1 b)), (2, .int x2), (3, .int x3), (4, .int c1), (5, .int c2)] []) (hz : ∀ z0 z1, o = .inr (z0, z1) → gx_G Γ Ω LX (gx_Q Γ Ω LX none v0) 6 z0 100 [(0, .ref (Ω.1 b)), (2, .int x2), (3, .int x3), (4, .int z1)] []) : gx_G Γ Ω LX (gx_Q Γ Ω LX none v0) 6 v 55 [(0, .ref (Ω.1 b)), (2, .int x2), (3, .int x3), (4, .int x4), (5, .int x5)] [] := by
  rw [f_X1_go_B55] at h
  refine gi_iload (n := 57) hX 4 dX1_go_55 rfl rfl ?_
  refine gi_bipush (x := (10 : Int32)) (n := 59) hX rfl dX1_go_57 rfl ?_
  refine gi_icmp_ge (tgt := 100) (n := 62) hX dX1_go_59 rfl rfl h (fun h => ?_) (fun h => ?_)
  · refine gi_sub [0, 1, 2, 3] rfl ?_
    exact hz _ _ (Option.some.inj h).symm
  · refine gi_aload_n (n := 63) hX 0 dX1_go_62 rfl rfl rfl ?_
    refine gi_iload (n := 65) hX 4 dX1_go_63 rfl rfl ?_
    obtain ⟨r3, v1, e2, h⟩ := bi_some h
    refine gi_virtI (st := []) (n := 68) hX hR kc_X1 (ly_R hb) mv_X1_leaveAt ml_X1_84 (m_X1_leaveAt Γ.2.1 Ω b hb x5 v e2) rfl ⟨rfl, rfl⟩ rfl dX1_go_65 rfl rfl ?_
    refine gi_if_eq (tgt := 74) (n := 71) hX dX1_go_68 rfl rfl h (fun h => ?_) (fun h => ?_)
    · exact t_X1_go_J74 hX hR b hb x2 x3 x4 x5 v1 h hc hz
    · refine gi_iconst (x := (1 : Int32)) (n := 72) hX rfl dX1_go_71 rfl ?_
      refine gi_istore (n := 74) hX [(4, .int (1 : Int32)), (0, .ref (Ω.1 b)), (2, .int x2), (3, .int x3), (5, .int x5)] dX1_go_72 rfl rfl rfl ?_
      refine gi_sub [1, 2, 3, 0, 4] rfl ?_
      exact t_X1_go_J74 hX hR b hb x2 x3 (1 : Int32) x5 v1 h hc hz
set_option maxRecDepth 20000 in
theorem t_X1_go_J144 {Γ : gC} {Ω : gO} {v0 : gV} {o : (gV × Int32 × Int32) ⊕ (gV)} (hX : gx_X Γ Ω cX1_go RX1 6 (none)) (hR : Γ.2.2.2.1 = gx_R 3) (b : Nat) (hb : kR b = true) (x2 : Int32) (s0 : Int32) (v : gV) (h : f_X1_go_J144 b x2 s0 v = some o) (hc : ∀ c0 c1 c2, o = .inl (c0, c1, c2) → gx_G Γ Ω LX (gx_Q Γ Ω LX none v0) 6 c0 34 [(0, .ref (Ω.1 b)), (1, .int c1), (2, .int c2)] []) (hz : ∀ z0, o = .inr z0 → gx_G Γ Ω LX (gx_Q Γ Ω LX none v0) 6 z0 151 [] []) : gx_G Γ Ω LX (gx_Q Γ Ω LX none v0) 6 v 144 [(0, .ref (Ω.1 b)), (2, .int x2)] [.int s0] := by
  rw [f_X1_go_J144] at h
  refine gi_istore_n (n := 145) hX [(1, .int s0), (0, .ref (Ω.1 b)), (2, .int x2)] dX1_go_144 rfl rfl rfl rfl ?_
  refine gi_iinc (z := (1 : Int32)) (n := 148) hX 2 [(2, .int (x2 + (1 : Int32))), (1, .int s0), (0, .ref (Ω.1 b))] dX1_go_145 rfl rfl rfl rfl rfl rfl ?_
  refine gi_goto (n := 34) hX dX1_go_148 rfl ?_
  refine gi_sub [2, 1, 0] rfl ?_
  exact hc _ _ _ (Option.some.inj h).symm
set_option maxRecDepth 20000 in
theorem t_X1_go_J143 {Γ : gC} {Ω : gO} {v0 : gV} {o : (gV × Int32 × Int32) ⊕ (gV)} (hX : gx_X Γ Ω cX1_go RX1 6 (none)) (hR : Γ.2.2.2.1 = gx_R 3) (b : Nat) (hb : kR b = true) (x2 : Int32) (v : gV) (h : f_X1_go_J143 b x2 v = some o) (hc : ∀ c0 c1 c2, o = .inl (c0, c1, c2) → gx_G Γ Ω LX (gx_Q Γ Ω LX none v0) 6 c0 34 [(0, .ref (Ω.1 b)), (1, .int c1), (2, .int c2)] []) (hz : ∀ z0, o = .inr z0 → gx_G Γ Ω LX (gx_Q Γ Ω LX none v0) 6 z0 151 [] []) : gx_G Γ Ω LX (gx_Q Γ Ω LX none v0) 6 v 143 [(0, .ref (Ω.1 b)), (2, .int x2)] [] := by
  rw [f_X1_go_J143] at h
  refine gi_iconst (x := (0 : Int32)) (n := 144) hX rfl dX1_go_143 rfl ?_
  exact t_X1_go_J144 hX hR b hb x2 (0 : Int32) v h hc hz
set_option maxRecDepth 20000 in
theorem t_X1_go_J126 {Γ : gC} {Ω : gO} {v0 : gV} {o : (gV × Int32 × Int32) ⊕ (gV)} (hX : gx_X Γ Ω cX1_go RX1 6 (none)) (hR : Γ.2.2.2.1 = gx_R 3) (b : Nat) (hb : kR b = true) (x2 : Int32) (x3 : Int32) (x4 : Int32) (v : gV) (h : f_X1_go_J126 b x2 x3 x4 v = some o) (hc : ∀ c0 c1 c2, o = .inl (c0, c1, c2) → gx_G Γ Ω LX (gx_Q Γ Ω LX none v0) 6 c0 34 [(0, .ref (Ω.1 b)), (1, .int c1), (2, .int c2)] []) (hz : ∀ z0, o = .inr z0 → gx_G Γ Ω LX (gx_Q Γ Ω LX none v0) 6 z0 151 [] []) : gx_G Γ Ω LX (gx_Q Γ Ω LX none v0) 6 v 126 [(0, .ref (Ω.1 b)), (2, .int x2), (3, .int x3), (4, .int x4)] [] := by
  rw [f_X1_go_J126] at h
  refine gi_aload_n (n := 127) hX 0 dX1_go_126 rfl rfl rfl ?_
  refine gi_getI (n := 130) hX 11 kc_X1 (ly_R hb) rfl rfl fl_X1_69 dX1_go_127 rfl ?_
  refine gi_iload_n (n := 131) hX 2 dX1_go_130 rfl rfl rfl ?_
  refine gi_icmp_ne (tgt := 143) (n := 134) hX dX1_go_131 rfl rfl h (fun h => ?_) (fun h => ?_)
  · refine gi_sub [0, 1] rfl ?_
    exact t_X1_go_J143 hX hR b hb x2 v h hc hz
  · refine gi_iload (n := 136) hX 3 dX1_go_134 rfl rfl ?_
    refine gi_if_ne (tgt := 143) (n := 139) hX dX1_go_136 rfl rfl h (fun h => ?_) (fun h => ?_)
    · refine gi_sub [0, 1] rfl ?_
      exact t_X1_go_J143 hX hR b hb x2 v h hc hz
    · refine gi_iconst (x := (1 : Int32)) (n := 140) hX rfl dX1_go_139 rfl ?_
      refine gi_goto (n := 144) hX dX1_go_140 rfl ?_
      refine gi_sub [0, 1] rfl ?_
      exact t_X1_go_J144 hX hR b hb x2 (1 : Int32) v h hc hz
set_option maxRecDepth 20000 in
theorem t_X1_go_B34 {Γ : gC} {Ω : gO} {v0 : gV} {o : (gV × Int32 × Int32) ⊕ (gV)} (hX : gx_X Γ Ω cX1_go RX1 6 (none)) (hR : Γ.2.2.2.1 = gx_R 3) (b : Nat) (hb : kR b = true) (x1 : Int32) (x2 : Int32) (v : gV) (h : f_X1_go_B34 b x1 x2 v = some o) (hc : ∀ c0 c1 c2, o = .inl (c0, c1, c2) → gx_G Γ Ω LX (gx_Q Γ Ω LX none v0) 6 c0 34 [(0, .ref (Ω.1 b)), (1, .int c1), (2, .int c2)] []) (hz : ∀ z0, o = .inr z0 → gx_G Γ Ω LX (gx_Q Γ Ω LX none v0) 6 z0 151 [] []) : gx_G Γ Ω LX (gx_Q Γ Ω LX none v0) 6 v 34 [(0, .ref (Ω.1 b)), (1, .int x1), (2, .int x2)] [] := by
  rw [f_X1_go_B34] at h
  refine gi_iload_n (n := 35) hX 2 dX1_go_34 rfl rfl rfl ?_
  refine gi_bipush (x := (10 : Int32)) (n := 37) hX rfl dX1_go_35 rfl ?_
  refine gi_icmp_ge (tgt := 151) (n := 40) hX dX1_go_37 rfl rfl h (fun h => ?_) (fun h => ?_)
  · refine gi_sub [] rfl ?_
    exact hz _ (Option.some.inj h).symm
  · refine gi_iload_n (n := 41) hX 1 dX1_go_40 rfl rfl rfl ?_
    refine gi_if_ne (tgt := 151) (n := 44) hX dX1_go_41 rfl rfl h (fun h => ?_) (fun h => ?_)
    · refine gi_sub [] rfl ?_
      exact hz _ (Option.some.inj h).symm
    · refine gi_aload_n (n := 45) hX 0 dX1_go_44 rfl rfl rfl ?_
      refine gi_getI (n := 48) hX 11 kc_X1 (ly_R hb) rfl rfl fl_X1_69 dX1_go_45 rfl ?_
      refine gi_topI h (fun u1 h => ?_)
      refine gi_istore_n (n := 49) hX [(3, .int u1), (0, .ref (Ω.1 b)), (1, .int x1), (2, .int x2)] dX1_go_48 rfl rfl rfl rfl ?_
      refine gi_iconst (x := (0 : Int32)) (n := 50) hX rfl dX1_go_49 rfl ?_
      refine gi_istore (n := 52) hX [(4, .int (0 : Int32)), (3, .int u1), (0, .ref (Ω.1 b)), (1, .int x1), (2, .int x2)] dX1_go_50 rfl rfl rfl ?_
      refine gi_iconst (x := (0 : Int32)) (n := 53) hX rfl dX1_go_52 rfl ?_
      refine gi_istore (n := 55) hX [(5, .int (0 : Int32)), (4, .int (0 : Int32)), (3, .int u1), (0, .ref (Ω.1 b)), (1, .int x1), (2, .int x2)] dX1_go_53 rfl rfl rfl ?_
      refine gi_sub [3, 5, 2, 1, 0] rfl ?_
      have key := lp_ind (f := (fun a : gV × Int32 × Int32 => f_X1_go_B55 b x2 u1 a.2.1 a.2.2 a.1)) (P := (fun a : gV × Int32 × Int32 => gx_G Γ Ω LX (gx_Q Γ Ω LX none v0) 6 a.1 55 [(0, .ref (Ω.1 b)), (2, .int x2), (3, .int u1), (4, .int a.2.1), (5, .int a.2.2)] [])) (Z := (fun z : gV × Int32 => gx_G Γ Ω LX (gx_Q Γ Ω LX none v0) 6 z.1 100 [(0, .ref (Ω.1 b)), (2, .int x2), (3, .int u1), (4, .int z.2)] [])) (fun a o h hc hz => t_X1_go_B55 hX hR b hb x2 u1 a.2.1 a.2.2 a.1 h (fun c0 c1 c2 e => hc (c0, c1, c2) e) (fun z0 z1 e => hz (z0, z1) e)) fu
      obtain ⟨v2, y3, e0, h⟩ := bx2_some h
      refine key (v, (0 : Int32), (0 : Int32)) _ e0 ?_
      show gx_G Γ Ω LX (gx_Q Γ Ω LX none v0) 6 v2 100 [(0, .ref (Ω.1 b)), (2, .int x2), (3, .int u1), (4, .int y3)] []
      refine gi_aload_n (n := 101) hX 0 dX1_go_100 rfl rfl rfl ?_
      refine gi_iload_n (n := 102) hX 1 dX1_go_101 rfl rfl rfl ?_
      obtain ⟨v4, e5, h⟩ := bv_some h
      refine gi_virtV (st := []) (n := 105) hX hR kc_X1 (ly_R hb) mv_X1_keep ml_X1_92 (m_X1_keep Γ.2.1 Ω b hb x2 v2 e5) rfl ⟨rfl, rfl⟩ rfl dX1_go_102 rfl rfl ?_
      refine gi_aload_n (n := 106) hX 0 dX1_go_105 rfl rfl rfl ?_
      refine gi_getI (n := 109) hX 11 kc_X1 (ly_R hb) rfl rfl fl_X1_69 dX1_go_106 rfl ?_
      refine gi_iload_n (n := 110) hX 2 dX1_go_109 rfl rfl rfl ?_
      refine gi_icmp_ne (tgt := 126) (n := 113) hX dX1_go_110 rfl rfl h (fun h => ?_) (fun h => ?_)
      · exact t_X1_go_J126 hX hR b hb x2 u1 y3 v4 h hc hz
      · refine gi_aload_n (n := 114) hX 0 dX1_go_113 rfl rfl rfl ?_
        refine gi_getI (n := 117) hX 15 kc_X1 (ly_R hb) rfl rfl fl_X1_81 dX1_go_114 rfl ?_
        refine gi_iconst (x := (-1 : Int32)) (n := 118) hX rfl dX1_go_117 rfl ?_
        refine gi_icmp_ne (tgt := 126) (n := 121) hX dX1_go_118 rfl rfl h (fun h => ?_) (fun h => ?_)
        · exact t_X1_go_J126 hX hR b hb x2 u1 y3 v4 h hc hz
        · refine gi_aload_n (n := 122) hX 0 dX1_go_121 rfl rfl rfl ?_
          refine gi_iload_n (n := 123) hX 1 dX1_go_122 rfl rfl rfl ?_
          refine gi_putI (n := 126) hX 15 kc_X1 (ly_R hb) rfl rfl fl_X1_81 rfl rfl dX1_go_123 rfl h (fun v6 h => ?_)
          exact t_X1_go_J126 hX hR b hb x2 u1 y3 v6 h hc hz
set_option maxRecDepth 20000 in
theorem t_X1_go {Γ : gC} {Ω : gO} {v0 : gV} (hX : gx_X Γ Ω cX1_go RX1 6 (none)) (hR : Γ.2.2.2.1 = gx_R 3) (b : Nat) (hb : kR b = true) (v : gV) (h : f_X1_go b v = some v0) : gx_G Γ Ω LX (gx_Q Γ Ω LX none v0) 6 v 0 [(0, .ref (Ω.1 b))] [] := by
  rw [f_X1_go] at h
  refine gi_aload_n (n := 1) hX 0 dX1_go_0 rfl rfl rfl ?_
  refine gi_iconst (x := (0 : Int32)) (n := 2) hX rfl dX1_go_1 rfl ?_
  refine gi_putI (n := 5) hX 5 kc_X1 (ly_R hb) rfl rfl fl_X1_66 rfl rfl dX1_go_2 rfl h (fun v1 h => ?_)
  refine gi_aload_n (n := 6) hX 0 dX1_go_5 rfl rfl rfl ?_
  refine gi_iconst (x := (0 : Int32)) (n := 7) hX rfl dX1_go_6 rfl ?_
  refine gi_putI (n := 10) hX 11 kc_X1 (ly_R hb) rfl rfl fl_X1_69 rfl rfl dX1_go_7 rfl h (fun v2 h => ?_)
  refine gi_aload_n (n := 11) hX 0 dX1_go_10 rfl rfl rfl ?_
  refine gi_iconst (x := (-1 : Int32)) (n := 12) hX rfl dX1_go_11 rfl ?_
  refine gi_putI (n := 15) hX 12 kc_X1 (ly_R hb) rfl rfl fl_X1_72 rfl rfl dX1_go_12 rfl h (fun v3 h => ?_)
  refine gi_aload_n (n := 16) hX 0 dX1_go_15 rfl rfl rfl ?_
  refine gi_iconst (x := (-1 : Int32)) (n := 17) hX rfl dX1_go_16 rfl ?_
  refine gi_putI (n := 20) hX 13 kc_X1 (ly_R hb) rfl rfl fl_X1_75 rfl rfl dX1_go_17 rfl h (fun v4 h => ?_)
  refine gi_aload_n (n := 21) hX 0 dX1_go_20 rfl rfl rfl ?_
  refine gi_iconst (x := (-1 : Int32)) (n := 22) hX rfl dX1_go_21 rfl ?_
  refine gi_putI (n := 25) hX 14 kc_X1 (ly_R hb) rfl rfl fl_X1_78 rfl rfl dX1_go_22 rfl h (fun v5 h => ?_)
  refine gi_aload_n (n := 26) hX 0 dX1_go_25 rfl rfl rfl ?_
  refine gi_iconst (x := (-1 : Int32)) (n := 27) hX rfl dX1_go_26 rfl ?_
  refine gi_putI (n := 30) hX 15 kc_X1 (ly_R hb) rfl rfl fl_X1_81 rfl rfl dX1_go_27 rfl h (fun v6 h => ?_)
  refine gi_iconst (x := (0 : Int32)) (n := 31) hX rfl dX1_go_30 rfl ?_
  refine gi_istore_n (n := 32) hX [(1, .int (0 : Int32)), (0, .ref (Ω.1 b))] dX1_go_31 rfl rfl rfl rfl ?_
  refine gi_iconst (x := (0 : Int32)) (n := 33) hX rfl dX1_go_32 rfl ?_
  refine gi_istore_n (n := 34) hX [(2, .int (0 : Int32)), (1, .int (0 : Int32)), (0, .ref (Ω.1 b))] dX1_go_33 rfl rfl rfl rfl ?_
  refine gi_sub [2, 1, 0] rfl ?_
  have key := lp_ind (f := (fun a : gV × Int32 × Int32 => f_X1_go_B34 b a.2.1 a.2.2 a.1)) (P := (fun a : gV × Int32 × Int32 => gx_G Γ Ω LX (gx_Q Γ Ω LX none v0) 6 a.1 34 [(0, .ref (Ω.1 b)), (1, .int a.2.1), (2, .int a.2.2)] [])) (Z := (fun z : gV => gx_G Γ Ω LX (gx_Q Γ Ω LX none v0) 6 z 151 [] [])) (fun a o h hc hz => t_X1_go_B34 hX hR b hb a.2.1 a.2.2 a.1 h (fun c0 c1 c2 e => hc (c0, c1, c2) e) (fun z0 e => hz z0 e)) fu
  obtain ⟨v7, e0, h⟩ := bx1_some h
  refine key (v6, (0 : Int32), (0 : Int32)) _ e0 ?_
  show gx_G Γ Ω LX (gx_Q Γ Ω LX none v0) 6 v7 151 [] []
  exact gi_vret hX rfl dX1_go_151 h
theorem m_X1_go (l : Launch) (Ω : gO) (b : Nat) (hb : kR b = true) (v : gV) {v0 : gV} (h : f_X1_go b v = some v0) : gx_M l Ω LX yX1_go cX1_go 6 (none) 3 [.ref (Ω.1 b)] v none v0 := gx_start (lv := [(0, .ref (Ω.1 b))]) (by decide +kernel) (Nat.le_of_ble_eq_true rfl) rfl (fun Γ _ hR hX => t_X1_go hX hR b hb v h)
set_option maxRecDepth 20000 in
theorem t_X1_hasOn {Γ : gC} {Ω : gO} {r0 : Int32} {v0 : gV} (hX : gx_X Γ Ω cX1_hasOn RX1 3 (some .int)) (hR : Γ.2.2.2.1 = gx_R 1) (b : Nat) (hb : kR b = true) (x1 : Int32) (x2 : Int32) (v : gV) (h : f_X1_hasOn b x1 x2 v = some (r0, v0)) : gx_G Γ Ω LX (gx_Q Γ Ω LX (some (.int r0)) v0) 3 v 0 [(0, .ref (Ω.1 b)), (1, .int x1), (2, .int x2)] [] := by
  rw [f_X1_hasOn] at h
  refine gi_aload_n (n := 1) hX 0 dX1_hasOn_0 rfl rfl rfl ?_
  refine gi_getR (n := 4) hX 6 kc_X1 (ly_R hb) rfl rfl fl_X1_24 dX1_hasOn_1 rfl ?_
  refine gi_iload_n (n := 5) hX 1 dX1_hasOn_4 rfl rfl rfl ?_
  refine gi_aload_n (n := 6) hX 0 dX1_hasOn_5 rfl rfl rfl ?_
  refine gi_getI (n := 9) hX 10 kc_X1 (ly_R hb) rfl rfl fl_X1_132 dX1_hasOn_6 rfl ?_
  obtain ⟨r3, v1, e2, h⟩ := bi_some h
  refine gi_statI (st := [.ref (Ω.1 (b + 4))]) (n := 12) hX hR ms_J9_min_7cf53 ml_X1_135 (m_J9_min_7cf53 Γ.2.1 Ω LX x1 (v.1 b 10) v e2) rfl ⟨rfl, rfl⟩ rfl dX1_hasOn_9 rfl rfl ?_
  refine gi_aald (n := 13) hX (ly_R4 hb) (Or.inr (Or.inr (Or.inr rfl))) dX1_hasOn_12 rfl h (fun g4 k5 h => ?_)
  refine gi_iload_n (n := 14) hX 2 dX1_hasOn_13 rfl rfl rfl ?_
  refine gi_iald (n := 15) hX (of_decide_eq_true k5) dX1_hasOn_14 rfl h (fun h => ?_)
  exact gi_iret hX rfl dX1_hasOn_15 h
theorem m_X1_hasOn (l : Launch) (Ω : gO) (b : Nat) (hb : kR b = true) (x1 : Int32) (x2 : Int32) (v : gV) {r0 : Int32} {v0 : gV} (h : f_X1_hasOn b x1 x2 v = some (r0, v0)) : gx_M l Ω LX yX1_hasOn cX1_hasOn 3 (some .int) 1 [.ref (Ω.1 b), .int x1, .int x2] v (some (.int r0)) v0 := gx_start (lv := [(0, .ref (Ω.1 b)), (1, .int x1), (2, .int x2)]) (by decide +kernel) (Nat.le_of_ble_eq_true rfl) rfl (fun Γ _ hR hX => t_X1_hasOn hX hR b hb x1 x2 v h)
set_option maxRecDepth 20000 in
theorem t_X1_servedAtLast {Γ : gC} {Ω : gO} {r0 : Int32} {v0 : gV} (hX : gx_X Γ Ω cX1_servedAtLast RX1 1 (some .int)) (hR : Γ.2.2.2.1 = gx_R 1) (b : Nat) (hb : kR b = true) (v : gV) (h : f_X1_servedAtLast b v = some (r0, v0)) : gx_G Γ Ω LX (gx_Q Γ Ω LX (some (.int r0)) v0) 1 v 0 [(0, .ref (Ω.1 b))] [] := by
  rw [f_X1_servedAtLast] at h
  refine gi_aload_n (n := 1) hX 0 dX1_servedAtLast_0 rfl rfl rfl ?_
  refine gi_getR (n := 4) hX 8 kc_X1 (ly_R hb) rfl rfl fl_X1_30 dX1_servedAtLast_1 rfl ?_
  refine gi_aload_n (n := 5) hX 0 dX1_servedAtLast_4 rfl rfl rfl ?_
  refine gi_getI (n := 8) hX 10 kc_X1 (ly_R hb) rfl rfl fl_X1_132 dX1_servedAtLast_5 rfl ?_
  refine gi_iald (n := 9) hX (ly_R16 hb) dX1_servedAtLast_8 rfl h (fun h => ?_)
  obtain ⟨r3, v1, e2, h⟩ := bi_some h
  refine gi_statI (st := []) (n := 12) hX hR ms_J6_bitCount_0f7a4 ml_X1_141 (m_J6_bitCount_0f7a4 Γ.2.1 Ω LX (v.1 (b + 16) ((v.1 b 10)).toNatClampNeg) v e2) rfl ⟨rfl, rfl⟩ rfl dX1_servedAtLast_9 rfl rfl ?_
  exact gi_iret hX rfl dX1_servedAtLast_12 h
theorem m_X1_servedAtLast (l : Launch) (Ω : gO) (b : Nat) (hb : kR b = true) (v : gV) {r0 : Int32} {v0 : gV} (h : f_X1_servedAtLast b v = some (r0, v0)) : gx_M l Ω LX yX1_servedAtLast cX1_servedAtLast 1 (some .int) 1 [.ref (Ω.1 b)] v (some (.int r0)) v0 := gx_start (lv := [(0, .ref (Ω.1 b))]) (by decide +kernel) (Nat.le_of_ble_eq_true rfl) rfl (fun Γ _ hR hX => t_X1_servedAtLast hX hR b hb v h)
set_option maxRecDepth 20000 in
theorem t_X1_servedOn {Γ : gC} {Ω : gO} {r0 : Int32} {v0 : gV} (hX : gx_X Γ Ω cX1_servedOn RX1 2 (some .int)) (hR : Γ.2.2.2.1 = gx_R 1) (b : Nat) (hb : kR b = true) (x1 : Int32) (v : gV) (h : f_X1_servedOn b x1 v = some (r0, v0)) : gx_G Γ Ω LX (gx_Q Γ Ω LX (some (.int r0)) v0) 2 v 0 [(0, .ref (Ω.1 b)), (1, .int x1)] [] := by
  rw [f_X1_servedOn] at h
  refine gi_aload_n (n := 1) hX 0 dX1_servedOn_0 rfl rfl rfl ?_
  refine gi_getR (n := 4) hX 8 kc_X1 (ly_R hb) rfl rfl fl_X1_30 dX1_servedOn_1 rfl ?_
  refine gi_iload_n (n := 5) hX 1 dX1_servedOn_4 rfl rfl rfl ?_
  refine gi_aload_n (n := 6) hX 0 dX1_servedOn_5 rfl rfl rfl ?_
  refine gi_getI (n := 9) hX 10 kc_X1 (ly_R hb) rfl rfl fl_X1_132 dX1_servedOn_6 rfl ?_
  obtain ⟨r3, v1, e2, h⟩ := bi_some h
  refine gi_statI (st := [.ref (Ω.1 (b + 16))]) (n := 12) hX hR ms_J9_min_7cf53 ml_X1_135 (m_J9_min_7cf53 Γ.2.1 Ω LX x1 (v.1 b 10) v e2) rfl ⟨rfl, rfl⟩ rfl dX1_servedOn_9 rfl rfl ?_
  refine gi_iald (n := 13) hX (ly_R16 hb) dX1_servedOn_12 rfl h (fun h => ?_)
  exact gi_iret hX rfl dX1_servedOn_13 h
theorem m_X1_servedOn (l : Launch) (Ω : gO) (b : Nat) (hb : kR b = true) (x1 : Int32) (v : gV) {r0 : Int32} {v0 : gV} (h : f_X1_servedOn b x1 v = some (r0, v0)) : gx_M l Ω LX yX1_servedOn cX1_servedOn 2 (some .int) 1 [.ref (Ω.1 b), .int x1] v (some (.int r0)) v0 := gx_start (lv := [(0, .ref (Ω.1 b)), (1, .int x1)]) (by decide +kernel) (Nat.le_of_ble_eq_true rfl) rfl (fun Γ _ hR hX => t_X1_servedOn hX hR b hb x1 v h)
set_option maxRecDepth 20000 in
theorem t_X1_tornOn {Γ : gC} {Ω : gO} {r0 : Int32} {v0 : gV} (hX : gx_X Γ Ω cX1_tornOn RX1 2 (some .int)) (hR : Γ.2.2.2.1 = gx_R 1) (b : Nat) (hb : kR b = true) (x1 : Int32) (v : gV) (h : f_X1_tornOn b x1 v = some (r0, v0)) : gx_G Γ Ω LX (gx_Q Γ Ω LX (some (.int r0)) v0) 2 v 0 [(0, .ref (Ω.1 b)), (1, .int x1)] [] := by
  rw [f_X1_tornOn] at h
  refine gi_aload_n (n := 1) hX 0 dX1_tornOn_0 rfl rfl rfl ?_
  refine gi_getR (n := 4) hX 7 kc_X1 (ly_R hb) rfl rfl fl_X1_27 dX1_tornOn_1 rfl ?_
  refine gi_iload_n (n := 5) hX 1 dX1_tornOn_4 rfl rfl rfl ?_
  refine gi_aload_n (n := 6) hX 0 dX1_tornOn_5 rfl rfl rfl ?_
  refine gi_getI (n := 9) hX 10 kc_X1 (ly_R hb) rfl rfl fl_X1_132 dX1_tornOn_6 rfl ?_
  obtain ⟨r3, v1, e2, h⟩ := bi_some h
  refine gi_statI (st := [.ref (Ω.1 (b + 15))]) (n := 12) hX hR ms_J9_min_7cf53 ml_X1_135 (m_J9_min_7cf53 Γ.2.1 Ω LX x1 (v.1 b 10) v e2) rfl ⟨rfl, rfl⟩ rfl dX1_tornOn_9 rfl rfl ?_
  refine gi_iald (n := 13) hX (ly_R15 hb) dX1_tornOn_12 rfl h (fun h => ?_)
  exact gi_iret hX rfl dX1_tornOn_13 h
theorem m_X1_tornOn (l : Launch) (Ω : gO) (b : Nat) (hb : kR b = true) (x1 : Int32) (v : gV) {r0 : Int32} {v0 : gV} (h : f_X1_tornOn b x1 v = some (r0, v0)) : gx_M l Ω LX yX1_tornOn cX1_tornOn 2 (some .int) 1 [.ref (Ω.1 b), .int x1] v (some (.int r0)) v0 := gx_start (lv := [(0, .ref (Ω.1 b)), (1, .int x1)]) (by decide +kernel) (Nat.le_of_ble_eq_true rfl) rfl (fun Γ _ hR hX => t_X1_tornOn hX hR b hb x1 v h)
set_option maxRecDepth 20000 in
theorem t_X4_servedBy_J94 {Γ : gC} {Ω : gO} {r0 : Int32} {v0 : gV} (hX : gx_X Γ Ω cX4_servedBy RX4 6 (some .int)) (hR : Γ.2.2.2.1 = gx_R 4) (x2 : Int32) (x4 : Int32) (v : gV) (h : f_X4_servedBy_J94 x2 x4 v = some (r0, v0)) : gx_G Γ Ω LX (gx_Q Γ Ω LX (some (.int r0)) v0) 6 v 94 [(0, .ref (Ω.1 92)), (2, .int x2), (4, .int x4)] [] := by
  rw [f_X4_servedBy_J94] at h
  refine gi_aload_n (n := 95) hX 0 dX4_servedBy_94 rfl rfl rfl ?_
  refine gi_getR (n := 98) hX 0 kc_X4 ly_X4 rfl rfl fl_X4_9 dX4_servedBy_95 rfl ?_
  refine gi_iload (n := 100) hX 2 dX4_servedBy_98 rfl rfl ?_
  refine gi_lald (n := 101) hX ly_93 dX4_servedBy_100 rfl h (fun h => ?_)
  refine gi_bipush (x := (8 : Int32)) (n := 103) hX rfl dX4_servedBy_101 rfl ?_
  refine gi_iload_n (n := 104) hX 1 dX4_servedBy_103 rfl rfl rfl ?_
  refine gi_bipush (x := (7 : Int32)) (n := 106) hX rfl dX4_servedBy_104 rfl ?_
  obtain ⟨r3, v1, e2, h⟩ := bi_some h
  refine gi_statI (st := [.int (8 : Int32), .long (v.2 93 (x4).toNatClampNeg)]) (n := 109) hX hR ms_J9_min_7cf53 ml_X4_59 (m_J9_min_7cf53 Γ.2.1 Ω LX x2 (7 : Int32) v e2) rfl ⟨rfl, rfl⟩ rfl dX4_servedBy_106 rfl rfl ?_
  refine gi_imul (n := 110) hX dX4_servedBy_109 rfl ?_
  refine gi_lushr (n := 111) hX dX4_servedBy_110 rfl ?_
  refine gi_l2i (n := 112) hX dX4_servedBy_111 rfl ?_
  refine gi_sipush (x := (255 : Int32)) (n := 115) hX rfl dX4_servedBy_112 rfl ?_
  refine gi_iand (n := 116) hX dX4_servedBy_115 rfl ?_
  exact gi_iret hX rfl dX4_servedBy_116 h
set_option maxRecDepth 20000 in
theorem t_X4_servedBy_B47 {Γ : gC} {Ω : gO} {r0 : Int32} {v0 : gV} {o : (gV × Int32) ⊕ (gV)} (hX : gx_X Γ Ω cX4_servedBy RX4 6 (some .int)) (hR : Γ.2.2.2.1 = gx_R 4) (x2 : Int32) (q3 : Nat) (hq3 : kR q3 = true) (x4 : Int32) (x5 : Int32) (v : gV) (h : f_X4_servedBy_B47 x2 q3 x4 x5 v = some o) (hc : ∀ c0 c1, o = .inl (c0, c1) → gx_G Γ Ω LX (gx_Q Γ Ω LX (some (.int r0)) v0) 6 c0 47 [(0, .ref (Ω.1 92)), (2, .int x2), (3, .ref (Ω.1 q3)), (4, .int x4), (5, .int c1)] []) (hz : ∀ z0, o = .inr z0 → gx_G Γ Ω LX (gx_Q Γ Ω LX (some (.int r0)) v0) 6 z0 83 [(0, .ref (Ω.1 92)), (2, .int x2), (4, .int x4)] []) : gx_G Γ Ω LX (gx_Q Γ Ω LX (some (.int r0)) v0) 6 v 47 [(0, .ref (Ω.1 92)), (2, .int x2), (3, .ref (Ω.1 q3)), (4, .int x4), (5, .int x5)] [] := by
  rw [f_X4_servedBy_B47] at h
  refine gi_iload (n := 49) hX 4 dX4_servedBy_47 rfl rfl ?_
  refine gi_bipush (x := (7 : Int32)) (n := 51) hX rfl dX4_servedBy_49 rfl ?_
  refine gi_icmp_gt (tgt := 83) (n := 54) hX dX4_servedBy_51 rfl rfl h (fun h => ?_) (fun h => ?_)
  · refine gi_sub [0, 1, 3] rfl ?_
    exact hz _ (Option.some.inj h).symm
  · refine gi_aload_n (n := 55) hX 0 dX4_servedBy_54 rfl rfl rfl ?_
    refine gi_getR (n := 58) hX 0 kc_X4 ly_X4 rfl rfl fl_X4_9 dX4_servedBy_55 rfl ?_
    refine gi_iload (n := 60) hX 3 dX4_servedBy_58 rfl rfl ?_
    refine gi_dup2 (n := 61) hX rfl rfl dX4_servedBy_60 rfl ?_
    refine gi_lald (n := 62) hX ly_93 dX4_servedBy_61 rfl h (fun h => ?_)
    refine gi_aload_n (n := 63) hX 2 dX4_servedBy_62 rfl rfl rfl ?_
    refine gi_iload (n := 65) hX 4 dX4_servedBy_63 rfl rfl ?_
    obtain ⟨r3, v1, e2, h⟩ := bi_some h
    refine gi_virtI (st := [.long (v.2 93 (x4).toNatClampNeg), .int x4, .ref (Ω.1 93)]) (n := 68) hX hR kc_X1 (ly_R hq3) mv_X1_servedOn ml_X4_55 (m_X1_servedOn Γ.2.1 Ω q3 hq3 x5 v e2) rfl ⟨rfl, rfl⟩ rfl dX4_servedBy_65 rfl rfl ?_
    refine gi_i2l (n := 69) hX dX4_servedBy_68 rfl ?_
    refine gi_bipush (x := (8 : Int32)) (n := 71) hX rfl dX4_servedBy_69 rfl ?_
    refine gi_iload (n := 73) hX 4 dX4_servedBy_71 rfl rfl ?_
    refine gi_imul (n := 74) hX dX4_servedBy_73 rfl ?_
    refine gi_lshl (n := 75) hX dX4_servedBy_74 rfl ?_
    refine gi_lor (n := 76) hX dX4_servedBy_75 rfl ?_
    refine gi_last (n := 77) hX ly_93 dX4_servedBy_76 rfl h (fun v4 h => ?_)
    refine gi_iinc (z := (1 : Int32)) (n := 80) hX 4 [(5, .int (x5 + (1 : Int32))), (0, .ref (Ω.1 92)), (2, .int x2), (3, .ref (Ω.1 q3)), (4, .int x4)] dX4_servedBy_77 rfl rfl rfl rfl rfl rfl ?_
    refine gi_goto (n := 47) hX dX4_servedBy_80 rfl ?_
    refine gi_sub [1, 2, 3, 4, 0] rfl ?_
    exact hc _ _ (Option.some.inj h).symm
set_option maxRecDepth 20000 in
theorem t_X4_servedBy {Γ : gC} {Ω : gO} {r0 : Int32} {v0 : gV} (hX : gx_X Γ Ω cX4_servedBy RX4 6 (some .int)) (hR : Γ.2.2.2.1 = gx_R 4) (x1 : Int32) (x2 : Int32) (q3 : Nat) (hq3 : kR q3 = true) (v : gV) (h : f_X4_servedBy x1 x2 q3 v = some (r0, v0)) : gx_G Γ Ω LX (gx_Q Γ Ω LX (some (.int r0)) v0) 6 v 0 [(0, .ref (Ω.1 92)), (1, .int x1), (2, .int x2), (3, .ref (Ω.1 q3))] [] := by
  rw [f_X4_servedBy] at h
  refine gi_iload_n (n := 1) hX 1 dX4_servedBy_0 rfl rfl rfl ?_
  refine gi_aload_n (n := 2) hX 0 dX4_servedBy_1 rfl rfl rfl ?_
  refine gi_getI (n := 5) hX 3 kc_X4 ly_X4 rfl rfl fl_X4_23 dX4_servedBy_2 rfl ?_
  refine gi_iand (n := 6) hX dX4_servedBy_5 rfl ?_
  refine gi_topI h (fun u1 h => ?_)
  refine gi_istore (n := 8) hX [(4, .int u1), (0, .ref (Ω.1 92)), (1, .int x1), (2, .int x2), (3, .ref (Ω.1 q3))] dX4_servedBy_6 rfl rfl rfl ?_
  refine gi_aload_n (n := 9) hX 1 dX4_servedBy_8 rfl rfl rfl ?_
  refine gi_getR (n := 12) hX 1 kc_X4 ly_X4 rfl rfl fl_X4_15 dX4_servedBy_9 rfl ?_
  refine gi_iload (n := 14) hX 0 dX4_servedBy_12 rfl rfl ?_
  refine gi_iald (n := 15) hX ly_94 dX4_servedBy_14 rfl h (fun h => ?_)
  refine gi_aload_n (n := 16) hX 1 dX4_servedBy_15 rfl rfl rfl ?_
  refine gi_getI (n := 19) hX 2 kc_X4 ly_X4 rfl rfl fl_X4_19 dX4_servedBy_16 rfl ?_
  refine gi_icmp_eq (tgt := 94) (n := 22) hX dX4_servedBy_19 rfl rfl h (fun h => ?_) (fun h => ?_)
  · refine gi_sub [1, 3, 0] rfl ?_
    exact t_X4_servedBy_J94 hX hR x2 u1 v h
  · refine gi_aload_n (n := 23) hX 4 dX4_servedBy_22 rfl rfl rfl ?_
    obtain ⟨v2, e3, h⟩ := bv_some h
    refine gi_virtV (st := []) (n := 26) hX hR kc_X1 (ly_R hq3) mv_X1_begin ml_X4_44 (m_X1_begin Γ.2.1 Ω q3 hq3 v e3) rfl ⟨rfl, rfl⟩ rfl dX4_servedBy_23 rfl rfl ?_
    refine gi_aload_n (n := 27) hX 4 dX4_servedBy_26 rfl rfl rfl ?_
    refine gi_iload (n := 29) hX 0 dX4_servedBy_27 rfl rfl ?_
    refine gi_putI (n := 32) hX 2 kc_X1 (ly_R hq3) rfl rfl fl_X4_49 rfl rfl dX4_servedBy_29 rfl h (fun v4 h => ?_)
    refine gi_aload_n (n := 33) hX 4 dX4_servedBy_32 rfl rfl rfl ?_
    obtain ⟨v5, e6, h⟩ := bv_some h
    refine gi_virtV (st := []) (n := 36) hX hR kc_X1 (ly_R hq3) mv_X1_go ml_X4_52 (m_X1_go Γ.2.1 Ω q3 hq3 v4 e6) rfl ⟨rfl, rfl⟩ rfl dX4_servedBy_33 rfl rfl ?_
    refine gi_aload_n (n := 37) hX 1 dX4_servedBy_36 rfl rfl rfl ?_
    refine gi_getR (n := 40) hX 0 kc_X4 ly_X4 rfl rfl fl_X4_9 dX4_servedBy_37 rfl ?_
    refine gi_iload (n := 42) hX 0 dX4_servedBy_40 rfl rfl ?_
    refine gi_lconst (x := (0 : Int64)) (n := 43) hX rfl dX4_servedBy_42 rfl ?_
    refine gi_last (n := 44) hX ly_93 dX4_servedBy_43 rfl h (fun v7 h => ?_)
    refine gi_iconst (x := (0 : Int32)) (n := 45) hX rfl dX4_servedBy_44 rfl ?_
    refine gi_istore (n := 47) hX [(5, .int (0 : Int32)), (4, .int u1), (0, .ref (Ω.1 92)), (1, .int x1), (2, .int x2), (3, .ref (Ω.1 q3))] dX4_servedBy_45 rfl rfl rfl ?_
    refine gi_sub [2, 4, 5, 1, 0] rfl ?_
    have key := lp_ind (f := (fun a : gV × Int32 => f_X4_servedBy_B47 x2 q3 u1 a.2 a.1)) (P := (fun a : gV × Int32 => gx_G Γ Ω LX (gx_Q Γ Ω LX (some (.int r0)) v0) 6 a.1 47 [(0, .ref (Ω.1 92)), (2, .int x2), (3, .ref (Ω.1 q3)), (4, .int u1), (5, .int a.2)] [])) (Z := (fun z : gV => gx_G Γ Ω LX (gx_Q Γ Ω LX (some (.int r0)) v0) 6 z 83 [(0, .ref (Ω.1 92)), (2, .int x2), (4, .int u1)] [])) (fun a o h hc hz => t_X4_servedBy_B47 hX hR x2 q3 hq3 u1 a.2 a.1 h (fun c0 c1 e => hc (c0, c1) e) (fun z0 e => hz z0 e)) fu
    obtain ⟨v8, e0, h⟩ := bx1_some h
    refine key (v7, (0 : Int32)) _ e0 ?_
    show gx_G Γ Ω LX (gx_Q Γ Ω LX (some (.int r0)) v0) 6 v8 83 [(0, .ref (Ω.1 92)), (2, .int x2), (4, .int u1)] []
    refine gi_aload_n (n := 84) hX 0 dX4_servedBy_83 rfl rfl rfl ?_
    refine gi_getR (n := 87) hX 1 kc_X4 ly_X4 rfl rfl fl_X4_15 dX4_servedBy_84 rfl ?_
    refine gi_iload (n := 89) hX 2 dX4_servedBy_87 rfl rfl ?_
    refine gi_aload_n (n := 90) hX 0 dX4_servedBy_89 rfl rfl rfl ?_
    refine gi_getI (n := 93) hX 2 kc_X4 ly_X4 rfl rfl fl_X4_19 dX4_servedBy_90 rfl ?_
    refine gi_iast (n := 94) hX ly_94 dX4_servedBy_93 rfl h (fun v9 h => ?_)
    exact t_X4_servedBy_J94 hX hR x2 u1 v9 h
theorem m_X4_servedBy (l : Launch) (Ω : gO) (x1 : Int32) (x2 : Int32) (q3 : Nat) (hq3 : kR q3 = true) (v : gV) {r0 : Int32} {v0 : gV} (h : f_X4_servedBy x1 x2 q3 v = some (r0, v0)) : gx_M l Ω LX yX4_servedBy cX4_servedBy 6 (some .int) 4 [.ref (Ω.1 92), .int x1, .int x2, .ref (Ω.1 q3)] v (some (.int r0)) v0 := gx_start (lv := [(0, .ref (Ω.1 92)), (1, .int x1), (2, .int x2), (3, .ref (Ω.1 q3))]) (by decide +kernel) (Nat.le_of_ble_eq_true rfl) rfl (fun Γ _ hR hX => t_X4_servedBy hX hR x1 x2 q3 hq3 v h)
set_option maxRecDepth 20000 in
theorem t_X4_startAnew_J78 {Γ : gC} {Ω : gO} {v0 : gV} {o : (gV × Int32) ⊕ (gV)} (hX : gx_X Γ Ω cX4_startAnew RX4 4 (none)) (hR : Γ.2.2.2.1 = gx_R 1) (x2 : Int32) (v : gV) (h : f_X4_startAnew_J78 x2 v = some o) (hc : ∀ c0 c1, o = .inl (c0, c1) → gx_G Γ Ω LX (gx_Q Γ Ω LX none v0) 4 c0 17 [(0, .ref (Ω.1 92)), (1, .ref (Ω.1 6)), (2, .int c1)] []) (hz : ∀ z0, o = .inr z0 → gx_G Γ Ω LX (gx_Q Γ Ω LX none v0) 4 z0 84 [] []) : gx_G Γ Ω LX (gx_Q Γ Ω LX none v0) 4 v 78 [(0, .ref (Ω.1 92)), (1, .ref (Ω.1 6)), (2, .int x2)] [] := by
  rw [f_X4_startAnew_J78] at h
  refine gi_iinc (z := (1 : Int32)) (n := 81) hX 2 [(2, .int (x2 + (1 : Int32))), (0, .ref (Ω.1 92)), (1, .ref (Ω.1 6))] dX4_startAnew_78 rfl rfl rfl rfl rfl rfl ?_
  refine gi_goto (n := 17) hX dX4_startAnew_81 rfl ?_
  refine gi_sub [1, 2, 0] rfl ?_
  exact hc _ _ (Option.some.inj h).symm
set_option maxRecDepth 20000 in
theorem t_X4_startAnew_B45 {Γ : gC} {Ω : gO} {v0 : gV} {o : (gV × Int32) ⊕ (gV)} (hX : gx_X Γ Ω cX4_startAnew RX4 4 (none)) (hR : Γ.2.2.2.1 = gx_R 1) (x2 : Int32) (x3 : Int32) (v : gV) (h : f_X4_startAnew_B45 x2 x3 v = some o) (hc : ∀ c0 c1, o = .inl (c0, c1) → gx_G Γ Ω LX (gx_Q Γ Ω LX none v0) 4 c0 45 [(0, .ref (Ω.1 92)), (1, .ref (Ω.1 6)), (2, .int x2), (3, .int c1)] []) (hz : ∀ z0, o = .inr z0 → gx_G Γ Ω LX (gx_Q Γ Ω LX none v0) 4 z0 78 [(0, .ref (Ω.1 92)), (1, .ref (Ω.1 6)), (2, .int x2)] []) : gx_G Γ Ω LX (gx_Q Γ Ω LX none v0) 4 v 45 [(0, .ref (Ω.1 92)), (1, .ref (Ω.1 6)), (2, .int x2), (3, .int x3)] [] := by
  rw [f_X4_startAnew_B45] at h
  refine gi_iload_n (n := 46) hX 3 dX4_startAnew_45 rfl rfl rfl ?_
  refine gi_bipush (x := (10 : Int32)) (n := 48) hX rfl dX4_startAnew_46 rfl ?_
  refine gi_icmp_ge (tgt := 78) (n := 51) hX dX4_startAnew_48 rfl rfl h (fun h => ?_) (fun h => ?_)
  · refine gi_sub [0, 1, 2] rfl ?_
    exact hz _ (Option.some.inj h).symm
  · refine gi_aload_n (n := 52) hX 0 dX4_startAnew_51 rfl rfl rfl ?_
    refine gi_dup (n := 53) hX rfl dX4_startAnew_52 rfl ?_
    refine gi_getI (n := 56) hX 3 kc_X4 ly_X4 rfl rfl fl_X4_23 dX4_startAnew_53 rfl ?_
    refine gi_aload_n (n := 57) hX 1 dX4_startAnew_56 rfl rfl rfl ?_
    refine gi_getR (n := 60) hX 5 kc_X6 ly_X6 rfl rfl fl_X4_41 dX4_startAnew_57 rfl ?_
    refine gi_iload_n (n := 61) hX 3 dX4_startAnew_60 rfl rfl rfl ?_
    refine gi_iald (n := 62) hX ly_11 dX4_startAnew_61 rfl h (fun h => ?_)
    refine gi_iload_n (n := 63) hX 2 dX4_startAnew_62 rfl rfl rfl ?_
    refine gi_ishr (n := 64) hX dX4_startAnew_63 rfl ?_
    refine gi_iconst (x := (1 : Int32)) (n := 65) hX rfl dX4_startAnew_64 rfl ?_
    refine gi_iand (n := 66) hX dX4_startAnew_65 rfl ?_
    refine gi_iload_n (n := 67) hX 3 dX4_startAnew_66 rfl rfl rfl ?_
    refine gi_ishl (n := 68) hX dX4_startAnew_67 rfl ?_
    refine gi_ior (n := 69) hX dX4_startAnew_68 rfl ?_
    refine gi_putI (n := 72) hX 3 kc_X4 ly_X4 rfl rfl fl_X4_23 rfl rfl dX4_startAnew_69 rfl h (fun v1 h => ?_)
    refine gi_iinc (z := (1 : Int32)) (n := 75) hX 3 [(3, .int (x3 + (1 : Int32))), (0, .ref (Ω.1 92)), (1, .ref (Ω.1 6)), (2, .int x2)] dX4_startAnew_72 rfl rfl rfl rfl rfl rfl ?_
    refine gi_goto (n := 45) hX dX4_startAnew_75 rfl ?_
    refine gi_sub [1, 2, 3, 0] rfl ?_
    exact hc _ _ (Option.some.inj h).symm
set_option maxRecDepth 20000 in
theorem t_X4_startAnew_B17 {Γ : gC} {Ω : gO} {v0 : gV} {o : (gV × Int32) ⊕ (gV)} (hX : gx_X Γ Ω cX4_startAnew RX4 4 (none)) (hR : Γ.2.2.2.1 = gx_R 1) (x2 : Int32) (v : gV) (h : f_X4_startAnew_B17 x2 v = some o) (hc : ∀ c0 c1, o = .inl (c0, c1) → gx_G Γ Ω LX (gx_Q Γ Ω LX none v0) 4 c0 17 [(0, .ref (Ω.1 92)), (1, .ref (Ω.1 6)), (2, .int c1)] []) (hz : ∀ z0, o = .inr z0 → gx_G Γ Ω LX (gx_Q Γ Ω LX none v0) 4 z0 84 [] []) : gx_G Γ Ω LX (gx_Q Γ Ω LX none v0) 4 v 17 [(0, .ref (Ω.1 92)), (1, .ref (Ω.1 6)), (2, .int x2)] [] := by
  rw [f_X4_startAnew_B17] at h
  refine gi_iload_n (n := 18) hX 2 dX4_startAnew_17 rfl rfl rfl ?_
  refine gi_aload_n (n := 19) hX 1 dX4_startAnew_18 rfl rfl rfl ?_
  refine gi_getI (n := 22) hX 0 kc_X6 ly_X6 rfl rfl fl_X4_26 dX4_startAnew_19 rfl ?_
  refine gi_icmp_ge (tgt := 84) (n := 25) hX dX4_startAnew_22 rfl rfl h (fun h => ?_) (fun h => ?_)
  · refine gi_sub [] rfl ?_
    exact hz _ (Option.some.inj h).symm
  · refine gi_aload_n (n := 26) hX 1 dX4_startAnew_25 rfl rfl rfl ?_
    refine gi_iload_n (n := 27) hX 2 dX4_startAnew_26 rfl rfl rfl ?_
    refine gi_aload_n (n := 28) hX 1 dX4_startAnew_27 rfl rfl rfl ?_
    refine gi_getR (n := 31) hX 1 kc_X6 ly_X6 rfl rfl fl_X4_31 dX4_startAnew_28 rfl ?_
    refine gi_iload_n (n := 32) hX 2 dX4_startAnew_31 rfl rfl rfl ?_
    refine gi_iald (n := 33) hX ly_7 dX4_startAnew_32 rfl h (fun h => ?_)
    refine gi_aload_n (n := 34) hX 1 dX4_startAnew_33 rfl rfl rfl ?_
    refine gi_getI (n := 37) hX 9 kc_X6 ly_X6 rfl rfl fl_X4_34 dX4_startAnew_34 rfl ?_
    obtain ⟨r3, v1, e2, h⟩ := bi_some h
    refine gi_virtI (st := []) (n := 40) hX hR kc_X6 ly_X6 mv_X6_mayChange ml_X4_37 (m_X6_mayChange Γ.2.1 Ω x2 (v.1 7 (x2).toNatClampNeg) (v.1 6 9) v e2) rfl ⟨rfl, rfl⟩ rfl dX4_startAnew_37 rfl rfl ?_
    refine gi_if_eq (tgt := 78) (n := 43) hX dX4_startAnew_40 rfl rfl h (fun h => ?_) (fun h => ?_)
    · exact t_X4_startAnew_J78 hX hR x2 v1 h hc hz
    · refine gi_iconst (x := (0 : Int32)) (n := 44) hX rfl dX4_startAnew_43 rfl ?_
      refine gi_istore_n (n := 45) hX [(3, .int (0 : Int32)), (0, .ref (Ω.1 92)), (1, .ref (Ω.1 6)), (2, .int x2)] dX4_startAnew_44 rfl rfl rfl rfl ?_
      refine gi_sub [1, 2, 3, 0] rfl ?_
      have key := lp_ind (f := (fun a : gV × Int32 => f_X4_startAnew_B45 x2 a.2 a.1)) (P := (fun a : gV × Int32 => gx_G Γ Ω LX (gx_Q Γ Ω LX none v0) 4 a.1 45 [(0, .ref (Ω.1 92)), (1, .ref (Ω.1 6)), (2, .int x2), (3, .int a.2)] [])) (Z := (fun z : gV => gx_G Γ Ω LX (gx_Q Γ Ω LX none v0) 4 z 78 [(0, .ref (Ω.1 92)), (1, .ref (Ω.1 6)), (2, .int x2)] [])) (fun a o h hc hz => t_X4_startAnew_B45 hX hR x2 a.2 a.1 h (fun c0 c1 e => hc (c0, c1) e) (fun z0 e => hz z0 e)) fu
      obtain ⟨v4, e0, h⟩ := bx1_some h
      refine key (v1, (0 : Int32)) _ e0 ?_
      show gx_G Γ Ω LX (gx_Q Γ Ω LX none v0) 4 v4 78 [(0, .ref (Ω.1 92)), (1, .ref (Ω.1 6)), (2, .int x2)] []
      exact t_X4_startAnew_J78 hX hR x2 v4 h hc hz
set_option maxRecDepth 20000 in
theorem t_X4_startAnew {Γ : gC} {Ω : gO} {v0 : gV} (hX : gx_X Γ Ω cX4_startAnew RX4 4 (none)) (hR : Γ.2.2.2.1 = gx_R 1)  (v : gV) (h : f_X4_startAnew  v = some v0) : gx_G Γ Ω LX (gx_Q Γ Ω LX none v0) 4 v 0 [(0, .ref (Ω.1 92)), (1, .ref (Ω.1 6))] [] := by
  rw [f_X4_startAnew] at h
  refine gi_aload_n (n := 1) hX 0 dX4_startAnew_0 rfl rfl rfl ?_
  refine gi_dup (n := 2) hX rfl dX4_startAnew_1 rfl ?_
  refine gi_getI (n := 5) hX 2 kc_X4 ly_X4 rfl rfl fl_X4_19 dX4_startAnew_2 rfl ?_
  refine gi_iconst (x := (1 : Int32)) (n := 6) hX rfl dX4_startAnew_5 rfl ?_
  refine gi_iadd (n := 7) hX dX4_startAnew_6 rfl ?_
  refine gi_putI (n := 10) hX 2 kc_X4 ly_X4 rfl rfl fl_X4_19 rfl rfl dX4_startAnew_7 rfl h (fun v1 h => ?_)
  refine gi_aload_n (n := 11) hX 0 dX4_startAnew_10 rfl rfl rfl ?_
  refine gi_iconst (x := (0 : Int32)) (n := 12) hX rfl dX4_startAnew_11 rfl ?_
  refine gi_putI (n := 15) hX 3 kc_X4 ly_X4 rfl rfl fl_X4_23 rfl rfl dX4_startAnew_12 rfl h (fun v2 h => ?_)
  refine gi_iconst (x := (0 : Int32)) (n := 16) hX rfl dX4_startAnew_15 rfl ?_
  refine gi_istore_n (n := 17) hX [(2, .int (0 : Int32)), (0, .ref (Ω.1 92)), (1, .ref (Ω.1 6))] dX4_startAnew_16 rfl rfl rfl rfl ?_
  refine gi_sub [1, 2, 0] rfl ?_
  have key := lp_ind (f := (fun a : gV × Int32 => f_X4_startAnew_B17 a.2 a.1)) (P := (fun a : gV × Int32 => gx_G Γ Ω LX (gx_Q Γ Ω LX none v0) 4 a.1 17 [(0, .ref (Ω.1 92)), (1, .ref (Ω.1 6)), (2, .int a.2)] [])) (Z := (fun z : gV => gx_G Γ Ω LX (gx_Q Γ Ω LX none v0) 4 z 84 [] [])) (fun a o h hc hz => t_X4_startAnew_B17 hX hR a.2 a.1 h (fun c0 c1 e => hc (c0, c1) e) (fun z0 e => hz z0 e)) fu
  obtain ⟨v3, e0, h⟩ := bx1_some h
  refine key (v2, (0 : Int32)) _ e0 ?_
  show gx_G Γ Ω LX (gx_Q Γ Ω LX none v0) 4 v3 84 [] []
  exact gi_vret hX rfl dX4_startAnew_84 h
theorem m_X4_startAnew (l : Launch) (Ω : gO) (v : gV) {v0 : gV} (h : f_X4_startAnew v = some v0) : gx_M l Ω LX yX4_startAnew cX4_startAnew 4 (none) 1 [.ref (Ω.1 92), .ref (Ω.1 6)] v none v0 := gx_start (lv := [(0, .ref (Ω.1 92)), (1, .ref (Ω.1 6))]) (by decide +kernel) (Nat.le_of_ble_eq_true rfl) rfl (fun Γ _ hR hX => t_X4_startAnew hX hR v h)
set_option maxRecDepth 20000 in
theorem t_X3_comeOutIn_J31 {Γ : gC} {Ω : gO} {r0 : Int32} {v0 : gV} {o : (gV × Int32) ⊕ ((gV) ⊕ (Int32 × gV))} (hX : gx_X Γ Ω cX3_comeOutIn RX3 5 (some .boolean)) (hR : Γ.2.2.2.1 = gx_R 2) (q1 : Nat) (hq1 : kR q1 = true) (x2 : Int32) (x3 : Int32) (s0 : Int32) (v : gV) (h : f_X3_comeOutIn_J31 q1 x2 x3 s0 v = some o) (hc : ∀ c0 c1, o = .inl (c0, c1) → gx_G Γ Ω LX (gx_Q Γ Ω LX (some (.int r0)) v0) 5 c0 2 [(0, .ref (Ω.1 95)), (1, .ref (Ω.1 q1)), (2, .int x2), (3, .int c1)] []) (hz : ∀ z0, o = .inr (.inl z0) → gx_G Γ Ω LX (gx_Q Γ Ω LX (some (.int r0)) v0) 5 z0 72 [] []) (hr : ∀ q0 q1, o = .inr (.inr (q0, q1)) → some (q0, q1) = some (r0, v0)) : gx_G Γ Ω LX (gx_Q Γ Ω LX (some (.int r0)) v0) 5 v 31 [(0, .ref (Ω.1 95)), (1, .ref (Ω.1 q1)), (2, .int x2), (3, .int x3)] [.int s0] := by
  rw [f_X3_comeOutIn_J31] at h
  refine gi_istore (n := 33) hX [(4, .int s0), (0, .ref (Ω.1 95)), (1, .ref (Ω.1 q1)), (2, .int x2), (3, .int x3)] dX3_comeOutIn_31 rfl rfl rfl ?_
  refine gi_aload_n (n := 34) hX 1 dX3_comeOutIn_33 rfl rfl rfl ?_
  refine gi_getR (n := 37) hX 1 kc_X3 ly_X3 rfl rfl fl_X3_15 dX3_comeOutIn_34 rfl ?_
  refine gi_iload_n (n := 38) hX 4 dX3_comeOutIn_37 rfl rfl rfl ?_
  refine gi_iald (n := 39) hX ly_97 dX3_comeOutIn_38 rfl h (fun h => ?_)
  refine gi_iload_n (n := 40) hX 3 dX3_comeOutIn_39 rfl rfl rfl ?_
  refine gi_icmp_ge (tgt := 64) (n := 43) hX dX3_comeOutIn_40 rfl rfl h (fun h => ?_) (fun h => ?_)
  · refine gi_iconst (x := (0 : Int32)) (n := 65) hX rfl dX3_comeOutIn_64 rfl ?_
    obtain ⟨h8, h⟩ := if_some h
    exact gi_zret hX rfl dX3_comeOutIn_65 (by rw [if_pos h8]; exact hr _ _ (Option.some.inj h).symm)
  · refine gi_aload_n (n := 44) hX 2 dX3_comeOutIn_43 rfl rfl rfl ?_
    refine gi_aload_n (n := 45) hX 1 dX3_comeOutIn_44 rfl rfl rfl ?_
    refine gi_getR (n := 48) hX 0 kc_X3 ly_X3 rfl rfl fl_X3_9 dX3_comeOutIn_45 rfl ?_
    refine gi_iload_n (n := 49) hX 4 dX3_comeOutIn_48 rfl rfl rfl ?_
    refine gi_iald (n := 50) hX ly_96 dX3_comeOutIn_49 rfl h (fun h => ?_)
    refine gi_aload_n (n := 51) hX 1 dX3_comeOutIn_50 rfl rfl rfl ?_
    refine gi_getR (n := 54) hX 1 kc_X3 ly_X3 rfl rfl fl_X3_15 dX3_comeOutIn_51 rfl ?_
    refine gi_iload_n (n := 55) hX 4 dX3_comeOutIn_54 rfl rfl rfl ?_
    refine gi_iald (n := 56) hX ly_97 dX3_comeOutIn_55 rfl h (fun h => ?_)
    obtain ⟨r3, v1, e2, h⟩ := bi_some h
    refine gi_virtI (st := []) (n := 59) hX hR kc_X1 (ly_R hq1) mv_X1_hasOn ml_X3_33 (m_X1_hasOn Γ.2.1 Ω q1 hq1 (v.1 96 (x3).toNatClampNeg) (v.1 97 (x3).toNatClampNeg) v e2) rfl ⟨rfl, rfl⟩ rfl dX3_comeOutIn_56 rfl rfl ?_
    refine gi_iload (n := 61) hX 0 dX3_comeOutIn_59 rfl rfl ?_
    refine gi_icmp_eq (tgt := 66) (n := 64) hX dX3_comeOutIn_61 rfl rfl h (fun h => ?_) (fun h => ?_)
    · refine gi_iinc (z := (1 : Int32)) (n := 69) hX 4 [(3, .int (x3 + (1 : Int32))), (4, .int s0), (0, .ref (Ω.1 95)), (1, .ref (Ω.1 q1)), (2, .int x2)] dX3_comeOutIn_66 rfl rfl rfl rfl rfl rfl ?_
      refine gi_goto (n := 2) hX dX3_comeOutIn_69 rfl ?_
      refine gi_sub [2, 3, 4, 0] rfl ?_
      exact hc _ _ (Option.some.inj h).symm
    · refine gi_iconst (x := (0 : Int32)) (n := 65) hX rfl dX3_comeOutIn_64 rfl ?_
      obtain ⟨h8, h⟩ := if_some h
      exact gi_zret hX rfl dX3_comeOutIn_65 (by rw [if_pos h8]; exact hr _ _ (Option.some.inj h).symm)
set_option maxRecDepth 20000 in
theorem t_X3_comeOutIn_B2 {Γ : gC} {Ω : gO} {r0 : Int32} {v0 : gV} {o : (gV × Int32) ⊕ ((gV) ⊕ (Int32 × gV))} (hX : gx_X Γ Ω cX3_comeOutIn RX3 5 (some .boolean)) (hR : Γ.2.2.2.1 = gx_R 2) (q1 : Nat) (hq1 : kR q1 = true) (x2 : Int32) (x3 : Int32) (v : gV) (h : f_X3_comeOutIn_B2 q1 x2 x3 v = some o) (hc : ∀ c0 c1, o = .inl (c0, c1) → gx_G Γ Ω LX (gx_Q Γ Ω LX (some (.int r0)) v0) 5 c0 2 [(0, .ref (Ω.1 95)), (1, .ref (Ω.1 q1)), (2, .int x2), (3, .int c1)] []) (hz : ∀ z0, o = .inr (.inl z0) → gx_G Γ Ω LX (gx_Q Γ Ω LX (some (.int r0)) v0) 5 z0 72 [] []) (hr : ∀ q0 q1, o = .inr (.inr (q0, q1)) → some (q0, q1) = some (r0, v0)) : gx_G Γ Ω LX (gx_Q Γ Ω LX (some (.int r0)) v0) 5 v 2 [(0, .ref (Ω.1 95)), (1, .ref (Ω.1 q1)), (2, .int x2), (3, .int x3)] [] := by
  rw [f_X3_comeOutIn_B2] at h
  refine gi_iload_n (n := 3) hX 3 dX3_comeOutIn_2 rfl rfl rfl ?_
  refine gi_aload_n (n := 4) hX 0 dX3_comeOutIn_3 rfl rfl rfl ?_
  refine gi_getI (n := 7) hX 3 kc_X3 ly_X3 rfl rfl fl_X3_25 dX3_comeOutIn_4 rfl ?_
  refine gi_icmp_ge (tgt := 72) (n := 10) hX dX3_comeOutIn_7 rfl rfl h (fun h => ?_) (fun h => ?_)
  · refine gi_sub [] rfl ?_
    exact hz _ (Option.some.inj h).symm
  · refine gi_aload_n (n := 11) hX 0 dX3_comeOutIn_10 rfl rfl rfl ?_
    refine gi_getR (n := 14) hX 2 kc_X3 ly_X3 rfl rfl fl_X3_18 dX3_comeOutIn_11 rfl ?_
    refine gi_iload_n (n := 15) hX 3 dX3_comeOutIn_14 rfl rfl rfl ?_
    refine gi_iald (n := 16) hX ly_98 dX3_comeOutIn_15 rfl h (fun h => ?_)
    refine gi_bipush (x := (8 : Int32)) (n := 18) hX rfl dX3_comeOutIn_16 rfl ?_
    refine gi_icmp_ne (tgt := 25) (n := 21) hX dX3_comeOutIn_18 rfl rfl h (fun h => ?_) (fun h => ?_)
    · refine gi_aload_n (n := 26) hX 0 dX3_comeOutIn_25 rfl rfl rfl ?_
      refine gi_getR (n := 29) hX 2 kc_X3 ly_X3 rfl rfl fl_X3_18 dX3_comeOutIn_26 rfl ?_
      refine gi_iload_n (n := 30) hX 3 dX3_comeOutIn_29 rfl rfl rfl ?_
      refine gi_iald (n := 31) hX ly_98 dX3_comeOutIn_30 rfl h (fun h => ?_)
      exact t_X3_comeOutIn_J31 hX hR q1 hq1 x2 x3 (v.1 98 (x3).toNatClampNeg) v h hc hz hr
    · refine gi_iconst (x := (-1 : Int32)) (n := 22) hX rfl dX3_comeOutIn_21 rfl ?_
      refine gi_goto (n := 31) hX dX3_comeOutIn_22 rfl ?_
      exact t_X3_comeOutIn_J31 hX hR q1 hq1 x2 x3 (-1 : Int32) v h hc hz hr
set_option maxRecDepth 20000 in
theorem t_X3_comeOutIn {Γ : gC} {Ω : gO} {r0 : Int32} {v0 : gV} (hX : gx_X Γ Ω cX3_comeOutIn RX3 5 (some .boolean)) (hR : Γ.2.2.2.1 = gx_R 2) (q1 : Nat) (hq1 : kR q1 = true) (x2 : Int32) (v : gV) (h : f_X3_comeOutIn q1 x2 v = some (r0, v0)) : gx_G Γ Ω LX (gx_Q Γ Ω LX (some (.int r0)) v0) 5 v 0 [(0, .ref (Ω.1 95)), (1, .ref (Ω.1 q1)), (2, .int x2)] [] := by
  rw [f_X3_comeOutIn] at h
  refine gi_iconst (x := (0 : Int32)) (n := 1) hX rfl dX3_comeOutIn_0 rfl ?_
  refine gi_istore_n (n := 2) hX [(3, .int (0 : Int32)), (0, .ref (Ω.1 95)), (1, .ref (Ω.1 q1)), (2, .int x2)] dX3_comeOutIn_1 rfl rfl rfl rfl ?_
  refine gi_sub [1, 2, 3, 0] rfl ?_
  have key := lp_ind (f := (fun a : gV × Int32 => f_X3_comeOutIn_B2 q1 x2 a.2 a.1)) (P := (fun a : gV × Int32 => gx_G Γ Ω LX (gx_Q Γ Ω LX (some (.int r0)) v0) 5 a.1 2 [(0, .ref (Ω.1 95)), (1, .ref (Ω.1 q1)), (2, .int x2), (3, .int a.2)] [])) (Z := (fun w : (gV) ⊕ (Int32 × gV) => Sum.elim (fun z : gV => gx_G Γ Ω LX (gx_Q Γ Ω LX (some (.int r0)) v0) 5 z 72 [] []) (fun q => some q = some (r0, v0)) w)) (fun a o h hc hz => t_X3_comeOutIn_B2 hX hR q1 hq1 x2 a.2 a.1 h (fun c0 c1 e => hc (c0, c1) e) (fun z0 e => hz (.inl z0) e) (fun q0 q1 e => hz (.inr (q0, q1)) e)) fu
  rcases bs1_some h with ⟨v1, e0, h⟩ | ⟨q, e0, h⟩
  · refine key (v, (0 : Int32)) _ e0 ?_
    show gx_G Γ Ω LX (gx_Q Γ Ω LX (some (.int r0)) v0) 5 v1 72 [] []
    refine gi_iconst (x := (1 : Int32)) (n := 73) hX rfl dX3_comeOutIn_72 rfl ?_
    exact gi_zret hX rfl dX3_comeOutIn_73 h
  · refine key (v, (0 : Int32)) _ e0 ?_
    show some q = some (r0, v0)
    exact h
theorem m_X3_comeOutIn (l : Launch) (Ω : gO) (q1 : Nat) (hq1 : kR q1 = true) (x2 : Int32) (v : gV) {r0 : Int32} {v0 : gV} (h : f_X3_comeOutIn q1 x2 v = some (r0, v0)) : gx_M l Ω LX yX3_comeOutIn cX3_comeOutIn 5 (some .boolean) 2 [.ref (Ω.1 95), .ref (Ω.1 q1), .int x2] v (some (.int r0)) v0 := gx_start (lv := [(0, .ref (Ω.1 95)), (1, .ref (Ω.1 q1)), (2, .int x2)]) (by decide +kernel) (Nat.le_of_ble_eq_true rfl) rfl (fun Γ _ hR hX => t_X3_comeOutIn hX hR q1 hq1 x2 v h)
