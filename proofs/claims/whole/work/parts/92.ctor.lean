/-! CONSTRUCTORS: words, the small ones -/
theorem w_c0 : Cond.classLink RX7 9 RX5 ∈ gU := t_1 (i := 22) rfl rfl
theorem w_c1 : Cond.classLink RX7 18 RX6 ∈ gU := t_1 (i := 43) rfl rfl
theorem w_c2 : Cond.classLink RX6 30 RX0 ∈ gU := t_1 (i := 49) rfl rfl
theorem w_c3 : Cond.classLink RX7 25 RX1 ∈ gU := t_1 (i := 124) rfl rfl
theorem w_c4 : Cond.classLink RX1 15 RX0 ∈ gU := t_1 (i := 130) rfl rfl
theorem w_c5 : Cond.classLink RX7 37 RX4 ∈ gU := t_1 (i := 193) rfl rfl
theorem w_c6 : Cond.classLink RX7 44 RX3 ∈ gU := t_1 (i := 213) rfl rfl
theorem w_c7 : Cond.classLink RX7 51 RX2 ∈ gU := t_1 (i := 233) rfl rfl
theorem w_c8 : Cond.classLink RX1 22 "[[I" ∈ gU := t_1 (i := 132) rfl rfl
theorem w_c9 : Cond.classLink RX7 58 "[[I" ∈ gU := t_2 (i := 13) rfl rfl
theorem w_cX : Cond.classLink RL 7 RX7 ∈ gU := t_1 (i := 14) rfl rfl
theorem w_cM : Cond.classLink RL 10 RX8 ∈ gU := t_3 (i := 204) rfl rfl
theorem w_n0 : Cond.instantiable RX0 2 ∈ gU := t_1 (i := 50) rfl rfl
theorem w_n1 : Cond.instantiable RX1 16 ∈ gU := t_1 (i := 125) rfl rfl
theorem w_n2 : Cond.instantiable RX2 3 ∈ gU := t_1 (i := 235) rfl rfl
theorem w_n3 : Cond.instantiable RX3 4 ∈ gU := t_1 (i := 214) rfl rfl
theorem w_n4 : Cond.instantiable RX4 4 ∈ gU := t_1 (i := 194) rfl rfl
theorem w_n5 : Cond.instantiable RX5 2 ∈ gU := t_1 (i := 24) rfl rfl
theorem w_n6 : Cond.instantiable RX6 12 ∈ gU := t_1 (i := 44) rfl rfl
theorem w_n7 : Cond.instantiable RX7 10 ∈ gU := t_1 (i := 15) rfl rfl
theorem w_n8 : Cond.instantiable RX8 30 ∈ gU := t_3 (i := 205) rfl rfl
theorem df_X0 : ∀ j, j < 2 → defaultValue (tyX0 j) = vp_V [.null, .int 0] j := fun j hj => match j, hj with
  | 0, _ => rfl
  | 1, _ => rfl
  | k + 2, h => absurd h (by omega)
theorem df_X1 : ∀ j, j < 16 → defaultValue (tyX1 j) = vp_V [.null, .int 0, .int 0, .null, .null, .int 0, .null, .null, .null, .null, .int 0, .int 0, .int 0, .int 0, .int 0, .int 0] j := fun j hj => match j, hj with
  | 0, _ => rfl
  | 1, _ => rfl
  | 2, _ => rfl
  | 3, _ => rfl
  | 4, _ => rfl
  | 5, _ => rfl
  | 6, _ => rfl
  | 7, _ => rfl
  | 8, _ => rfl
  | 9, _ => rfl
  | 10, _ => rfl
  | 11, _ => rfl
  | 12, _ => rfl
  | 13, _ => rfl
  | 14, _ => rfl
  | 15, _ => rfl
  | k + 16, h => absurd h (by omega)
theorem df_X2 : ∀ j, j < 3 → defaultValue (tyX2 j) = vp_V [.int 0, .int 0, .null] j := fun j hj => match j, hj with
  | 0, _ => rfl
  | 1, _ => rfl
  | 2, _ => rfl
  | k + 3, h => absurd h (by omega)
theorem df_X3 : ∀ j, j < 4 → defaultValue (tyX3 j) = vp_V [.null, .null, .null, .int 0] j := fun j hj => match j, hj with
  | 0, _ => rfl
  | 1, _ => rfl
  | 2, _ => rfl
  | 3, _ => rfl
  | k + 4, h => absurd h (by omega)
theorem df_X4 : ∀ j, j < 4 → defaultValue (tyX4 j) = vp_V [.null, .null, .int 0, .int 0] j := fun j hj => match j, hj with
  | 0, _ => rfl
  | 1, _ => rfl
  | 2, _ => rfl
  | 3, _ => rfl
  | k + 4, h => absurd h (by omega)
theorem df_X5 : ∀ j, j < 2 → defaultValue (tyX5 j) = vp_V [.null, .int 0] j := fun j hj => match j, hj with
  | 0, _ => rfl
  | 1, _ => rfl
  | k + 2, h => absurd h (by omega)
theorem df_X6 : ∀ j, j < 12 → defaultValue (tyX6 j) = vp_V [.int 0, .null, .null, .null, .null, .null, .null, .null, .null, .int 0, .int 0, .int 0] j := fun j hj => match j, hj with
  | 0, _ => rfl
  | 1, _ => rfl
  | 2, _ => rfl
  | 3, _ => rfl
  | 4, _ => rfl
  | 5, _ => rfl
  | 6, _ => rfl
  | 7, _ => rfl
  | 8, _ => rfl
  | 9, _ => rfl
  | 10, _ => rfl
  | 11, _ => rfl
  | k + 12, h => absurd h (by omega)
theorem df_X7 : ∀ j, j < 10 → defaultValue (tyX7 j) = vp_V [.null, .null, .null, .null, .null, .null, .null, .null, .null, .int 0] j := fun j hj => match j, hj with
  | 0, _ => rfl
  | 1, _ => rfl
  | 2, _ => rfl
  | 3, _ => rfl
  | 4, _ => rfl
  | 5, _ => rfl
  | 6, _ => rfl
  | 7, _ => rfl
  | 8, _ => rfl
  | 9, _ => rfl
  | k + 10, h => absurd h (by omega)
theorem df_X8 : ∀ j, j < 30 → defaultValue (tyX8 j) = vp_V [.null, .null, .null, .null, .int 0, .null, .null, .int 0, .null, .int 0, .null, .null, .null, .int 0, .null, .null, .int 0, .int 0, .null, .null, .null, .null, .null, .null, .int 0, .int 0, .int 0, .null, .null, .int 0] j := fun j hj => match j, hj with
  | 0, _ => rfl
  | 1, _ => rfl
  | 2, _ => rfl
  | 3, _ => rfl
  | 4, _ => rfl
  | 5, _ => rfl
  | 6, _ => rfl
  | 7, _ => rfl
  | 8, _ => rfl
  | 9, _ => rfl
  | 10, _ => rfl
  | 11, _ => rfl
  | 12, _ => rfl
  | 13, _ => rfl
  | 14, _ => rfl
  | 15, _ => rfl
  | 16, _ => rfl
  | 17, _ => rfl
  | 18, _ => rfl
  | 19, _ => rfl
  | 20, _ => rfl
  | 21, _ => rfl
  | 22, _ => rfl
  | 23, _ => rfl
  | 24, _ => rfl
  | 25, _ => rfl
  | 26, _ => rfl
  | 27, _ => rfl
  | 28, _ => rfl
  | 29, _ => rfl
  | k + 30, h => absurd h (by omega)
theorem ci_X0 : cx_mi yX0_init cX0_init 1 0 := ⟨mi_X0_init, rfl, by decide +kernel⟩
theorem ci_X1 : cx_mi yX1_init cX1_init 3 1 := ⟨mi_X1_init, rfl, by decide +kernel⟩
theorem ci_X2 : cx_mi yX2_init cX2_init 1 0 := ⟨mi_X2_init, rfl, by decide +kernel⟩
theorem ci_X3 : cx_mi yX3_init cX3_init 1 0 := ⟨mi_X3_init, rfl, by decide +kernel⟩
theorem ci_X4 : cx_mi yX4_init cX4_init 1 0 := ⟨mi_X4_init, rfl, by decide +kernel⟩
theorem ci_X5 : cx_mi yX5_init cX5_init 2 1 := ⟨mi_X5_init, rfl, by decide +kernel⟩
theorem ci_X6 : cx_mi yX6_init cX6_init 1 0 := ⟨mi_X6_init, rfl, by decide +kernel⟩
theorem ci_X7 : cx_mi yX7_init cX7_init 1 0 := ⟨mi_X7_init, rfl, by decide +kernel⟩
theorem ci_X8 : cx_mi yX8_init cX8_init 2 0 := ⟨mi_X8_init, rfl, by decide +kernel⟩
def wor0 : Nat → Int32 := upd (upd (upd (upd (upd (upd (upd (upd (fun _ => 0) 0 1) 1 2) 2 3) 3 4) 4 5) 5 6) 6 7) 7 8
def P_X0 (ty : Nat → ClassId) (h0 : Nat) (w : va_W) : Prop := ∃ q1, w = [(h0, .inr (0, [.ref q1, .int 0])), (q1, eI ty 29)]
def P_X2 (ty : Nat → ClassId) (h0 : Nat) (w : va_W) : Prop := ∃ q1, w = [(h0, .inr (2, [.int (-1), .int 0, .ref q1])), (q1, eI ty 60)]
def P_X3 (ty : Nat → ClassId) (h0 : Nat) (w : va_W) : Prop := ∃ q1 q2 q3, w = [(h0, .inr (3, [.ref q1, .ref q2, .ref q3, .int 0])), (q1, eI ty 8), (q2, eI ty 8), (q3, eI ty 8)]
def P_X4 (ty : Nat → ClassId) (h0 : Nat) (w : va_W) : Prop := ∃ q1 q2, w = [(h0, .inr (4, [.ref q1, .ref q2, .int 0, .int 0])), (q1, eL ty 1024), (q2, eI ty 1024)]
def P_X5 (ty : Nat → ClassId) (h0 N : Nat) (w : va_W) : Prop := ∃ q1, w = [(h0, .inr (5, [.ref q1, .int 0])), (q1, eI ty N)]
def P_X6 (ty : Nat → ClassId) (h0 : Nat) (w : va_W) : Prop := ∃ q1 q2 q3 q4 q5 q6 q7 q8 q9, w = [(h0, .inr (6, [.int 0, .ref q1, .ref q2, .ref q3, .ref q4, .ref q5, .ref q6, .ref q7, .ref q9, .int 2, .int 32, .int 0])), (q1, eI ty 8), (q2, eI ty 8), (q3, eI ty 8), (q4, eI ty 8), (q5, eI ty 10), (q6, eI ty 10), (q7, .inr (0, [.ref q8, .int 0])), (q8, eI ty 29), (q9, eF ty 8 (wor0))]
theorem k_X0 {Γ : gC} {Ξ : cO} (hX : cx_X Γ Ξ cX0_init RX0 1) (hR : Γ.2.2.2.1 = cx_R 1 1 29) (hr : Γ.2.2.2.2.2.2.2.2.1.sig.returnType = none) (hlk : Γ.2.2.2.2.2.2.2.2.1.locks = false) (hin : Γ.2.2.2.2.2.2.2.2.1.name = "<init>") (h0 : Nat) : cx_G Γ Ξ (cx_Q Γ Ξ 1 29 (P_X0 Ξ.1 h0)) 1 0 0 [(h0, .inr (0, [.null, .int 0]))] [] 0 [(0, .ref h0)] [] := by
  refine cb_aload_n (n := 1) hX 0 dX0_init_0 rfl rfl rfl ?_
  refine cb_obj (d := 0) (n := 4) hX hR ml_X0_3 dX0_init_1 rfl ?_
  refine cb_aload_n (n := 5) hX 0 dX0_init_4 rfl rfl rfl ?_
  refine cb_bipush (x := (29 : Int32)) (n := 7) hX rfl dX0_init_5 rfl ?_
  refine cb_newi (N := 29) (c1 := 1) (s1 := 29) (n := 9) hX hR (by decide) (by decide) rfl rfl rfl rfl rfl dX0_init_7 rfl (fun q1 => ?_)
  refine cb_putF (i := 0) (F' := [(h0, .inr (0, [.ref q1, .int 0])), (q1, eI Ξ.1 29)]) (n := 12) hX hin 0 kc_X0 rfl rfl fl_X0_9 rfl rfl (tyX0_ok 0 (by omega)) rfl rfl rfl rfl dX0_init_9 rfl ?_
  exact cb_ret hX hr hlk rfl rfl dX0_init_12 ⟨q1, rfl⟩
theorem c_X0 (l : Launch) (D : va_G) (ty : Nat → ClassId) (h0 : Nat) (sz : Nat) : cx_M l D ty yX0_init cX0_init 1 1 1 29 [.ref h0] [(h0, .inr (0, [.null, .int 0]))] sz (P_X0 ty h0) := cx_start (lv := [(0, .ref h0)]) (by decide +kernel) (Nat.le_of_ble_eq_true rfl) rfl (fun Γ _ hR hX hr hlk hin => k_X0 hX hR hr hlk hin h0)
theorem k_X2 {Γ : gC} {Ξ : cO} (hX : cx_X Γ Ξ cX2_init RX2 1) (hR : Γ.2.2.2.1 = cx_R 1 1 60) (hr : Γ.2.2.2.2.2.2.2.2.1.sig.returnType = none) (hlk : Γ.2.2.2.2.2.2.2.2.1.locks = false) (hin : Γ.2.2.2.2.2.2.2.2.1.name = "<init>") (h0 : Nat) : cx_G Γ Ξ (cx_Q Γ Ξ 1 60 (P_X2 Ξ.1 h0)) 1 0 0 [(h0, .inr (2, [.int 0, .int 0, .null]))] [] 0 [(0, .ref h0)] [] := by
  refine cb_aload_n (n := 1) hX 0 dX2_init_0 rfl rfl rfl ?_
  refine cb_obj (d := 0) (n := 4) hX hR ml_X2_3 dX2_init_1 rfl ?_
  refine cb_aload_n (n := 5) hX 0 dX2_init_4 rfl rfl rfl ?_
  refine cb_iconst (x := (-1 : Int32)) (n := 6) hX rfl dX2_init_5 rfl ?_
  refine cb_put (i := 0) (F' := [(h0, .inr (2, [.int (-1), .int 0, .null]))]) (n := 9) hX 0 kc_X2 rfl rfl fl_X2_9 rfl (tyX2_ok 0 (by omega)) rfl rfl rfl rfl dX2_init_6 rfl ?_
  refine cb_aload_n (n := 10) hX 0 dX2_init_9 rfl rfl rfl ?_
  refine cb_bipush (x := (60 : Int32)) (n := 12) hX rfl dX2_init_10 rfl ?_
  refine cb_newi (N := 60) (c1 := 1) (s1 := 60) (n := 14) hX hR (by decide) (by decide) rfl rfl rfl rfl rfl dX2_init_12 rfl (fun q1 => ?_)
  refine cb_putF (i := 0) (F' := [(h0, .inr (2, [.int (-1), .int 0, .ref q1])), (q1, eI Ξ.1 60)]) (n := 17) hX hin 2 kc_X2 rfl rfl fl_X2_15 rfl rfl (tyX2_ok 2 (by omega)) rfl rfl rfl rfl dX2_init_14 rfl ?_
  exact cb_ret hX hr hlk rfl rfl dX2_init_17 ⟨q1, rfl⟩
theorem c_X2 (l : Launch) (D : va_G) (ty : Nat → ClassId) (h0 : Nat) (sz : Nat) : cx_M l D ty yX2_init cX2_init 1 1 1 60 [.ref h0] [(h0, .inr (2, [.int 0, .int 0, .null]))] sz (P_X2 ty h0) := cx_start (lv := [(0, .ref h0)]) (by decide +kernel) (Nat.le_of_ble_eq_true rfl) rfl (fun Γ _ hR hX hr hlk hin => k_X2 hX hR hr hlk hin h0)
theorem k_X3 {Γ : gC} {Ξ : cO} (hX : cx_X Γ Ξ cX3_init RX3 1) (hR : Γ.2.2.2.1 = cx_R 1 3 24) (hr : Γ.2.2.2.2.2.2.2.2.1.sig.returnType = none) (hlk : Γ.2.2.2.2.2.2.2.2.1.locks = false) (hin : Γ.2.2.2.2.2.2.2.2.1.name = "<init>") (h0 : Nat) : cx_G Γ Ξ (cx_Q Γ Ξ 3 24 (P_X3 Ξ.1 h0)) 1 0 0 [(h0, .inr (3, [.null, .null, .null, .int 0]))] [] 0 [(0, .ref h0)] [] := by
  refine cb_aload_n (n := 1) hX 0 dX3_init_0 rfl rfl rfl ?_
  refine cb_obj (d := 0) (n := 4) hX hR ml_X3_3 dX3_init_1 rfl ?_
  refine cb_aload_n (n := 5) hX 0 dX3_init_4 rfl rfl rfl ?_
  refine cb_bipush (x := (8 : Int32)) (n := 7) hX rfl dX3_init_5 rfl ?_
  refine cb_newi (N := 8) (c1 := 1) (s1 := 8) (n := 9) hX hR (by decide) (by decide) rfl rfl rfl rfl rfl dX3_init_7 rfl (fun q1 => ?_)
  refine cb_putF (i := 0) (F' := [(h0, .inr (3, [.ref q1, .null, .null, .int 0])), (q1, eI Ξ.1 8)]) (n := 12) hX hin 0 kc_X3 rfl rfl fl_X3_9 rfl rfl (tyX3_ok 0 (by omega)) rfl rfl rfl rfl dX3_init_9 rfl ?_
  refine cb_aload_n (n := 13) hX 0 dX3_init_12 rfl rfl rfl ?_
  refine cb_bipush (x := (8 : Int32)) (n := 15) hX rfl dX3_init_13 rfl ?_
  refine cb_newi (N := 8) (c1 := 2) (s1 := 16) (n := 17) hX hR (by decide) (by decide) rfl rfl rfl rfl rfl dX3_init_15 rfl (fun q2 => ?_)
  refine cb_putF (i := 0) (F' := [(h0, .inr (3, [.ref q1, .ref q2, .null, .int 0])), (q1, eI Ξ.1 8), (q2, eI Ξ.1 8)]) (n := 20) hX hin 1 kc_X3 rfl rfl fl_X3_15 rfl rfl (tyX3_ok 1 (by omega)) rfl rfl rfl rfl dX3_init_17 rfl ?_
  refine cb_aload_n (n := 21) hX 0 dX3_init_20 rfl rfl rfl ?_
  refine cb_bipush (x := (8 : Int32)) (n := 23) hX rfl dX3_init_21 rfl ?_
  refine cb_newi (N := 8) (c1 := 3) (s1 := 24) (n := 25) hX hR (by decide) (by decide) rfl rfl rfl rfl rfl dX3_init_23 rfl (fun q3 => ?_)
  refine cb_putF (i := 0) (F' := [(h0, .inr (3, [.ref q1, .ref q2, .ref q3, .int 0])), (q1, eI Ξ.1 8), (q2, eI Ξ.1 8), (q3, eI Ξ.1 8)]) (n := 28) hX hin 2 kc_X3 rfl rfl fl_X3_18 rfl rfl (tyX3_ok 2 (by omega)) rfl rfl rfl rfl dX3_init_25 rfl ?_
  exact cb_ret hX hr hlk rfl rfl dX3_init_28 ⟨q1, q2, q3, rfl⟩
theorem c_X3 (l : Launch) (D : va_G) (ty : Nat → ClassId) (h0 : Nat) (sz : Nat) : cx_M l D ty yX3_init cX3_init 1 1 3 24 [.ref h0] [(h0, .inr (3, [.null, .null, .null, .int 0]))] sz (P_X3 ty h0) := cx_start (lv := [(0, .ref h0)]) (by decide +kernel) (Nat.le_of_ble_eq_true rfl) rfl (fun Γ _ hR hX hr hlk hin => k_X3 hX hR hr hlk hin h0)
theorem k_X4 {Γ : gC} {Ξ : cO} (hX : cx_X Γ Ξ cX4_init RX4 1) (hR : Γ.2.2.2.1 = cx_R 1 2 2048) (hr : Γ.2.2.2.2.2.2.2.2.1.sig.returnType = none) (hlk : Γ.2.2.2.2.2.2.2.2.1.locks = false) (hin : Γ.2.2.2.2.2.2.2.2.1.name = "<init>") (h0 : Nat) : cx_G Γ Ξ (cx_Q Γ Ξ 2 2048 (P_X4 Ξ.1 h0)) 1 0 0 [(h0, .inr (4, [.null, .null, .int 0, .int 0]))] [] 0 [(0, .ref h0)] [] := by
  refine cb_aload_n (n := 1) hX 0 dX4_init_0 rfl rfl rfl ?_
  refine cb_obj (d := 0) (n := 4) hX hR ml_X4_3 dX4_init_1 rfl ?_
  refine cb_aload_n (n := 5) hX 0 dX4_init_4 rfl rfl rfl ?_
  refine cb_sipush (x := (1024 : Int32)) (n := 8) hX rfl dX4_init_5 rfl ?_
  refine cb_newl (N := 1024) (c1 := 1) (s1 := 1024) (n := 10) hX hR (by decide) (by decide) rfl rfl rfl rfl rfl dX4_init_8 rfl (fun q1 => ?_)
  refine cb_putF (i := 0) (F' := [(h0, .inr (4, [.ref q1, .null, .int 0, .int 0])), (q1, eL Ξ.1 1024)]) (n := 13) hX hin 0 kc_X4 rfl rfl fl_X4_9 rfl rfl (tyX4_ok 0 (by omega)) rfl rfl rfl rfl dX4_init_10 rfl ?_
  refine cb_aload_n (n := 14) hX 0 dX4_init_13 rfl rfl rfl ?_
  refine cb_sipush (x := (1024 : Int32)) (n := 17) hX rfl dX4_init_14 rfl ?_
  refine cb_newi (N := 1024) (c1 := 2) (s1 := 2048) (n := 19) hX hR (by decide) (by decide) rfl rfl rfl rfl rfl dX4_init_17 rfl (fun q2 => ?_)
  refine cb_putF (i := 0) (F' := [(h0, .inr (4, [.ref q1, .ref q2, .int 0, .int 0])), (q1, eL Ξ.1 1024), (q2, eI Ξ.1 1024)]) (n := 22) hX hin 1 kc_X4 rfl rfl fl_X4_15 rfl rfl (tyX4_ok 1 (by omega)) rfl rfl rfl rfl dX4_init_19 rfl ?_
  exact cb_ret hX hr hlk rfl rfl dX4_init_22 ⟨q1, q2, rfl⟩
theorem c_X4 (l : Launch) (D : va_G) (ty : Nat → ClassId) (h0 : Nat) (sz : Nat) : cx_M l D ty yX4_init cX4_init 1 1 2 2048 [.ref h0] [(h0, .inr (4, [.null, .null, .int 0, .int 0]))] sz (P_X4 ty h0) := cx_start (lv := [(0, .ref h0)]) (by decide +kernel) (Nat.le_of_ble_eq_true rfl) rfl (fun Γ _ hR hX hr hlk hin => k_X4 hX hR hr hlk hin h0)
theorem k_X6 {Γ : gC} {Ξ : cO} (hX : cx_X Γ Ξ cX6_init RX6 1) (hR : Γ.2.2.2.1 = cx_R 2 9 91) (hr : Γ.2.2.2.2.2.2.2.2.1.sig.returnType = none) (hlk : Γ.2.2.2.2.2.2.2.2.1.locks = false) (hin : Γ.2.2.2.2.2.2.2.2.1.name = "<init>") (h0 : Nat) : cx_G Γ Ξ (cx_Q Γ Ξ 9 91 (P_X6 Ξ.1 h0)) 1 0 0 [(h0, .inr (6, [.int 0, .null, .null, .null, .null, .null, .null, .null, .null, .int 0, .int 0, .int 0]))] [] 0 [(0, .ref h0)] [] := by
  refine cb_aload_n (n := 1) hX 0 dX6_init_0 rfl rfl rfl ?_
  refine cb_obj (d := 1) (n := 4) hX hR ml_X6_3 dX6_init_1 rfl ?_
  refine cb_aload_n (n := 5) hX 0 dX6_init_4 rfl rfl rfl ?_
  refine cb_bipush (x := (8 : Int32)) (n := 7) hX rfl dX6_init_5 rfl ?_
  refine cb_newi (N := 8) (c1 := 1) (s1 := 8) (n := 9) hX hR (by decide) (by decide) rfl rfl rfl rfl rfl dX6_init_7 rfl (fun q1 => ?_)
  refine cb_putF (i := 0) (F' := [(h0, .inr (6, [.int 0, .ref q1, .null, .null, .null, .null, .null, .null, .null, .int 0, .int 0, .int 0])), (q1, eI Ξ.1 8)]) (n := 12) hX hin 1 kc_X6 rfl rfl fl_X6_9 rfl rfl (tyX6_ok 1 (by omega)) rfl rfl rfl rfl dX6_init_9 rfl ?_
  refine cb_aload_n (n := 13) hX 0 dX6_init_12 rfl rfl rfl ?_
  refine cb_bipush (x := (8 : Int32)) (n := 15) hX rfl dX6_init_13 rfl ?_
  refine cb_newi (N := 8) (c1 := 2) (s1 := 16) (n := 17) hX hR (by decide) (by decide) rfl rfl rfl rfl rfl dX6_init_15 rfl (fun q2 => ?_)
  refine cb_putF (i := 0) (F' := [(h0, .inr (6, [.int 0, .ref q1, .ref q2, .null, .null, .null, .null, .null, .null, .int 0, .int 0, .int 0])), (q1, eI Ξ.1 8), (q2, eI Ξ.1 8)]) (n := 20) hX hin 2 kc_X6 rfl rfl fl_X6_15 rfl rfl (tyX6_ok 2 (by omega)) rfl rfl rfl rfl dX6_init_17 rfl ?_
  refine cb_aload_n (n := 21) hX 0 dX6_init_20 rfl rfl rfl ?_
  refine cb_bipush (x := (8 : Int32)) (n := 23) hX rfl dX6_init_21 rfl ?_
  refine cb_newi (N := 8) (c1 := 3) (s1 := 24) (n := 25) hX hR (by decide) (by decide) rfl rfl rfl rfl rfl dX6_init_23 rfl (fun q3 => ?_)
  refine cb_putF (i := 0) (F' := [(h0, .inr (6, [.int 0, .ref q1, .ref q2, .ref q3, .null, .null, .null, .null, .null, .int 0, .int 0, .int 0])), (q1, eI Ξ.1 8), (q2, eI Ξ.1 8), (q3, eI Ξ.1 8)]) (n := 28) hX hin 3 kc_X6 rfl rfl fl_X6_18 rfl rfl (tyX6_ok 3 (by omega)) rfl rfl rfl rfl dX6_init_25 rfl ?_
  refine cb_aload_n (n := 29) hX 0 dX6_init_28 rfl rfl rfl ?_
  refine cb_bipush (x := (8 : Int32)) (n := 31) hX rfl dX6_init_29 rfl ?_
  refine cb_newi (N := 8) (c1 := 4) (s1 := 32) (n := 33) hX hR (by decide) (by decide) rfl rfl rfl rfl rfl dX6_init_31 rfl (fun q4 => ?_)
  refine cb_putF (i := 0) (F' := [(h0, .inr (6, [.int 0, .ref q1, .ref q2, .ref q3, .ref q4, .null, .null, .null, .null, .int 0, .int 0, .int 0])), (q1, eI Ξ.1 8), (q2, eI Ξ.1 8), (q3, eI Ξ.1 8), (q4, eI Ξ.1 8)]) (n := 36) hX hin 4 kc_X6 rfl rfl fl_X6_21 rfl rfl (tyX6_ok 4 (by omega)) rfl rfl rfl rfl dX6_init_33 rfl ?_
  refine cb_aload_n (n := 37) hX 0 dX6_init_36 rfl rfl rfl ?_
  refine cb_bipush (x := (10 : Int32)) (n := 39) hX rfl dX6_init_37 rfl ?_
  refine cb_newi (N := 10) (c1 := 5) (s1 := 42) (n := 41) hX hR (by decide) (by decide) rfl rfl rfl rfl rfl dX6_init_39 rfl (fun q5 => ?_)
  refine cb_putF (i := 0) (F' := [(h0, .inr (6, [.int 0, .ref q1, .ref q2, .ref q3, .ref q4, .ref q5, .null, .null, .null, .int 0, .int 0, .int 0])), (q1, eI Ξ.1 8), (q2, eI Ξ.1 8), (q3, eI Ξ.1 8), (q4, eI Ξ.1 8), (q5, eI Ξ.1 10)]) (n := 44) hX hin 5 kc_X6 rfl rfl fl_X6_24 rfl rfl (tyX6_ok 5 (by omega)) rfl rfl rfl rfl dX6_init_41 rfl ?_
  refine cb_aload_n (n := 45) hX 0 dX6_init_44 rfl rfl rfl ?_
  refine cb_bipush (x := (10 : Int32)) (n := 47) hX rfl dX6_init_45 rfl ?_
  refine cb_newi (N := 10) (c1 := 6) (s1 := 52) (n := 49) hX hR (by decide) (by decide) rfl rfl rfl rfl rfl dX6_init_47 rfl (fun q6 => ?_)
  refine cb_putF (i := 0) (F' := [(h0, .inr (6, [.int 0, .ref q1, .ref q2, .ref q3, .ref q4, .ref q5, .ref q6, .null, .null, .int 0, .int 0, .int 0])), (q1, eI Ξ.1 8), (q2, eI Ξ.1 8), (q3, eI Ξ.1 8), (q4, eI Ξ.1 8), (q5, eI Ξ.1 10), (q6, eI Ξ.1 10)]) (n := 52) hX hin 6 kc_X6 rfl rfl fl_X6_27 rfl rfl (tyX6_ok 6 (by omega)) rfl rfl rfl rfl dX6_init_49 rfl ?_
  refine cb_aload_n (n := 53) hX 0 dX6_init_52 rfl rfl rfl ?_
  refine cb_new (fs := [.null, .int 0]) (c1 := 7) (s1 := 54) (n := 56) hX hR kc_X0 w_c2 w_n0 mi_X0_init.2.1 df_X0 rfl rfl rfl rfl dX6_init_53 rfl (fun q7 => ?_)
  refine cb_dup (n := 57) hX rfl dX6_init_56 rfl ?_
  refine cb_callN (F' := [(h0, .inr (6, [.int 0, .ref q1, .ref q2, .ref q3, .ref q4, .ref q5, .ref q6, .null, .null, .int 0, .int 0, .int 0])), (q1, eI Ξ.1 8), (q2, eI Ξ.1 8), (q3, eI Ξ.1 8), (q4, eI Ξ.1 8), (q5, eI Ξ.1 10), (q6, eI Ξ.1 10)]) (As := []) (st := [.ref q7, .ref h0]) (c1 := 8) (s1 := 83) (n := 60) hX hR (fun sz => c_X0 Γ.2.1 Ξ.2.1 Ξ.1 q7 sz) ci_X0 (nw_2 hX.2.2.2.2.2.1) rfl ⟨rfl, rfl⟩ rfl rfl rfl rfl rfl dX6_init_57 rfl rfl rfl (fun w hw => ?_)
  obtain ⟨q8, rfl⟩ := hw
  refine cb_putF (i := 0) (F' := [(h0, .inr (6, [.int 0, .ref q1, .ref q2, .ref q3, .ref q4, .ref q5, .ref q6, .ref q7, .null, .int 0, .int 0, .int 0])), (q1, eI Ξ.1 8), (q2, eI Ξ.1 8), (q3, eI Ξ.1 8), (q4, eI Ξ.1 8), (q5, eI Ξ.1 10), (q6, eI Ξ.1 10), (q7, .inr (0, [.ref q8, .int 0])), (q8, eI Ξ.1 29)]) (n := 63) hX hin 7 kc_X6 rfl rfl fl_X6_33 rfl rfl (tyX6_ok 7 (by omega)) rfl rfl rfl rfl dX6_init_60 rfl ?_
  refine cb_aload_n (n := 64) hX 0 dX6_init_63 rfl rfl rfl ?_
  refine cb_bipush (x := (8 : Int32)) (n := 66) hX rfl dX6_init_64 rfl ?_
  refine cb_newi (N := 8) (c1 := 9) (s1 := 91) (n := 68) hX hR (by decide) (by decide) rfl rfl rfl rfl rfl dX6_init_66 rfl (fun q9 => ?_)
  refine cb_dup (n := 69) hX rfl dX6_init_68 rfl ?_
  refine cb_iconst (x := (0 : Int32)) (n := 70) hX rfl dX6_init_69 rfl ?_
  refine cb_iconst (x := (1 : Int32)) (n := 71) hX rfl dX6_init_70 rfl ?_
  refine cb_iast (i := 9) (F' := [(h0, .inr (6, [.int 0, .ref q1, .ref q2, .ref q3, .ref q4, .ref q5, .ref q6, .ref q7, .null, .int 0, .int 0, .int 0])), (q1, eI Ξ.1 8), (q2, eI Ξ.1 8), (q3, eI Ξ.1 8), (q4, eI Ξ.1 8), (q5, eI Ξ.1 10), (q6, eI Ξ.1 10), (q7, .inr (0, [.ref q8, .int 0])), (q8, eI Ξ.1 29), (q9, eF Ξ.1 8 (upd (fun _ => 0) 0 1))]) (n := 72) hX rfl (by decide) rfl dX6_init_71 rfl ?_
  refine cb_dup (n := 73) hX rfl dX6_init_72 rfl ?_
  refine cb_iconst (x := (1 : Int32)) (n := 74) hX rfl dX6_init_73 rfl ?_
  refine cb_iconst (x := (2 : Int32)) (n := 75) hX rfl dX6_init_74 rfl ?_
  refine cb_iast (i := 9) (F' := [(h0, .inr (6, [.int 0, .ref q1, .ref q2, .ref q3, .ref q4, .ref q5, .ref q6, .ref q7, .null, .int 0, .int 0, .int 0])), (q1, eI Ξ.1 8), (q2, eI Ξ.1 8), (q3, eI Ξ.1 8), (q4, eI Ξ.1 8), (q5, eI Ξ.1 10), (q6, eI Ξ.1 10), (q7, .inr (0, [.ref q8, .int 0])), (q8, eI Ξ.1 29), (q9, eF Ξ.1 8 (upd (upd (fun _ => 0) 0 1) 1 2))]) (n := 76) hX rfl (by decide) rfl dX6_init_75 rfl ?_
  refine cb_dup (n := 77) hX rfl dX6_init_76 rfl ?_
  refine cb_iconst (x := (2 : Int32)) (n := 78) hX rfl dX6_init_77 rfl ?_
  refine cb_iconst (x := (3 : Int32)) (n := 79) hX rfl dX6_init_78 rfl ?_
  refine cb_iast (i := 9) (F' := [(h0, .inr (6, [.int 0, .ref q1, .ref q2, .ref q3, .ref q4, .ref q5, .ref q6, .ref q7, .null, .int 0, .int 0, .int 0])), (q1, eI Ξ.1 8), (q2, eI Ξ.1 8), (q3, eI Ξ.1 8), (q4, eI Ξ.1 8), (q5, eI Ξ.1 10), (q6, eI Ξ.1 10), (q7, .inr (0, [.ref q8, .int 0])), (q8, eI Ξ.1 29), (q9, eF Ξ.1 8 (upd (upd (upd (fun _ => 0) 0 1) 1 2) 2 3))]) (n := 80) hX rfl (by decide) rfl dX6_init_79 rfl ?_
  refine cb_dup (n := 81) hX rfl dX6_init_80 rfl ?_
  refine cb_iconst (x := (3 : Int32)) (n := 82) hX rfl dX6_init_81 rfl ?_
  refine cb_iconst (x := (4 : Int32)) (n := 83) hX rfl dX6_init_82 rfl ?_
  refine cb_iast (i := 9) (F' := [(h0, .inr (6, [.int 0, .ref q1, .ref q2, .ref q3, .ref q4, .ref q5, .ref q6, .ref q7, .null, .int 0, .int 0, .int 0])), (q1, eI Ξ.1 8), (q2, eI Ξ.1 8), (q3, eI Ξ.1 8), (q4, eI Ξ.1 8), (q5, eI Ξ.1 10), (q6, eI Ξ.1 10), (q7, .inr (0, [.ref q8, .int 0])), (q8, eI Ξ.1 29), (q9, eF Ξ.1 8 (upd (upd (upd (upd (fun _ => 0) 0 1) 1 2) 2 3) 3 4))]) (n := 84) hX rfl (by decide) rfl dX6_init_83 rfl ?_
  refine cb_dup (n := 85) hX rfl dX6_init_84 rfl ?_
  refine cb_iconst (x := (4 : Int32)) (n := 86) hX rfl dX6_init_85 rfl ?_
  refine cb_iconst (x := (5 : Int32)) (n := 87) hX rfl dX6_init_86 rfl ?_
  refine cb_iast (i := 9) (F' := [(h0, .inr (6, [.int 0, .ref q1, .ref q2, .ref q3, .ref q4, .ref q5, .ref q6, .ref q7, .null, .int 0, .int 0, .int 0])), (q1, eI Ξ.1 8), (q2, eI Ξ.1 8), (q3, eI Ξ.1 8), (q4, eI Ξ.1 8), (q5, eI Ξ.1 10), (q6, eI Ξ.1 10), (q7, .inr (0, [.ref q8, .int 0])), (q8, eI Ξ.1 29), (q9, eF Ξ.1 8 (upd (upd (upd (upd (upd (fun _ => 0) 0 1) 1 2) 2 3) 3 4) 4 5))]) (n := 88) hX rfl (by decide) rfl dX6_init_87 rfl ?_
  refine cb_dup (n := 89) hX rfl dX6_init_88 rfl ?_
  refine cb_iconst (x := (5 : Int32)) (n := 90) hX rfl dX6_init_89 rfl ?_
  refine cb_bipush (x := (6 : Int32)) (n := 92) hX rfl dX6_init_90 rfl ?_
  refine cb_iast (i := 9) (F' := [(h0, .inr (6, [.int 0, .ref q1, .ref q2, .ref q3, .ref q4, .ref q5, .ref q6, .ref q7, .null, .int 0, .int 0, .int 0])), (q1, eI Ξ.1 8), (q2, eI Ξ.1 8), (q3, eI Ξ.1 8), (q4, eI Ξ.1 8), (q5, eI Ξ.1 10), (q6, eI Ξ.1 10), (q7, .inr (0, [.ref q8, .int 0])), (q8, eI Ξ.1 29), (q9, eF Ξ.1 8 (upd (upd (upd (upd (upd (upd (fun _ => 0) 0 1) 1 2) 2 3) 3 4) 4 5) 5 6))]) (n := 93) hX rfl (by decide) rfl dX6_init_92 rfl ?_
  refine cb_dup (n := 94) hX rfl dX6_init_93 rfl ?_
  refine cb_bipush (x := (6 : Int32)) (n := 96) hX rfl dX6_init_94 rfl ?_
  refine cb_bipush (x := (7 : Int32)) (n := 98) hX rfl dX6_init_96 rfl ?_
  refine cb_iast (i := 9) (F' := [(h0, .inr (6, [.int 0, .ref q1, .ref q2, .ref q3, .ref q4, .ref q5, .ref q6, .ref q7, .null, .int 0, .int 0, .int 0])), (q1, eI Ξ.1 8), (q2, eI Ξ.1 8), (q3, eI Ξ.1 8), (q4, eI Ξ.1 8), (q5, eI Ξ.1 10), (q6, eI Ξ.1 10), (q7, .inr (0, [.ref q8, .int 0])), (q8, eI Ξ.1 29), (q9, eF Ξ.1 8 (upd (upd (upd (upd (upd (upd (upd (fun _ => 0) 0 1) 1 2) 2 3) 3 4) 4 5) 5 6) 6 7))]) (n := 99) hX rfl (by decide) rfl dX6_init_98 rfl ?_
  refine cb_dup (n := 100) hX rfl dX6_init_99 rfl ?_
  refine cb_bipush (x := (7 : Int32)) (n := 102) hX rfl dX6_init_100 rfl ?_
  refine cb_bipush (x := (8 : Int32)) (n := 104) hX rfl dX6_init_102 rfl ?_
  refine cb_iast (i := 9) (F' := [(h0, .inr (6, [.int 0, .ref q1, .ref q2, .ref q3, .ref q4, .ref q5, .ref q6, .ref q7, .null, .int 0, .int 0, .int 0])), (q1, eI Ξ.1 8), (q2, eI Ξ.1 8), (q3, eI Ξ.1 8), (q4, eI Ξ.1 8), (q5, eI Ξ.1 10), (q6, eI Ξ.1 10), (q7, .inr (0, [.ref q8, .int 0])), (q8, eI Ξ.1 29), (q9, eF Ξ.1 8 (upd (upd (upd (upd (upd (upd (upd (upd (fun _ => 0) 0 1) 1 2) 2 3) 3 4) 4 5) 5 6) 6 7) 7 8))]) (n := 105) hX rfl (by decide) rfl dX6_init_104 rfl ?_
  refine cb_putF (i := 0) (F' := [(h0, .inr (6, [.int 0, .ref q1, .ref q2, .ref q3, .ref q4, .ref q5, .ref q6, .ref q7, .ref q9, .int 0, .int 0, .int 0])), (q1, eI Ξ.1 8), (q2, eI Ξ.1 8), (q3, eI Ξ.1 8), (q4, eI Ξ.1 8), (q5, eI Ξ.1 10), (q6, eI Ξ.1 10), (q7, .inr (0, [.ref q8, .int 0])), (q8, eI Ξ.1 29), (q9, eF Ξ.1 8 (upd (upd (upd (upd (upd (upd (upd (upd (fun _ => 0) 0 1) 1 2) 2 3) 3 4) 4 5) 5 6) 6 7) 7 8))]) (n := 108) hX hin 8 kc_X6 rfl rfl fl_X6_37 rfl rfl (tyX6_ok 8 (by omega)) rfl rfl rfl rfl dX6_init_105 rfl ?_
  refine cb_aload_n (n := 109) hX 0 dX6_init_108 rfl rfl rfl ?_
  refine cb_iconst (x := (2 : Int32)) (n := 110) hX rfl dX6_init_109 rfl ?_
  refine cb_put (i := 0) (F' := [(h0, .inr (6, [.int 0, .ref q1, .ref q2, .ref q3, .ref q4, .ref q5, .ref q6, .ref q7, .ref q9, .int 2, .int 0, .int 0])), (q1, eI Ξ.1 8), (q2, eI Ξ.1 8), (q3, eI Ξ.1 8), (q4, eI Ξ.1 8), (q5, eI Ξ.1 10), (q6, eI Ξ.1 10), (q7, .inr (0, [.ref q8, .int 0])), (q8, eI Ξ.1 29), (q9, eF Ξ.1 8 (upd (upd (upd (upd (upd (upd (upd (upd (fun _ => 0) 0 1) 1 2) 2 3) 3 4) 4 5) 5 6) 6 7) 7 8))]) (n := 113) hX 9 kc_X6 rfl rfl fl_X6_40 rfl (tyX6_ok 9 (by omega)) rfl rfl rfl rfl dX6_init_110 rfl ?_
  refine cb_aload_n (n := 114) hX 0 dX6_init_113 rfl rfl rfl ?_
  refine cb_bipush (x := (32 : Int32)) (n := 116) hX rfl dX6_init_114 rfl ?_
  refine cb_put (i := 0) (F' := [(h0, .inr (6, [.int 0, .ref q1, .ref q2, .ref q3, .ref q4, .ref q5, .ref q6, .ref q7, .ref q9, .int 2, .int 32, .int 0])), (q1, eI Ξ.1 8), (q2, eI Ξ.1 8), (q3, eI Ξ.1 8), (q4, eI Ξ.1 8), (q5, eI Ξ.1 10), (q6, eI Ξ.1 10), (q7, .inr (0, [.ref q8, .int 0])), (q8, eI Ξ.1 29), (q9, eF Ξ.1 8 (upd (upd (upd (upd (upd (upd (upd (upd (fun _ => 0) 0 1) 1 2) 2 3) 3 4) 4 5) 5 6) 6 7) 7 8))]) (n := 119) hX 10 kc_X6 rfl rfl fl_X6_44 rfl (tyX6_ok 10 (by omega)) rfl rfl rfl rfl dX6_init_116 rfl ?_
  exact cb_ret hX hr hlk rfl rfl dX6_init_119 ⟨q1, q2, q3, q4, q5, q6, q7, q8, q9, rfl⟩
theorem c_X6 (l : Launch) (D : va_G) (ty : Nat → ClassId) (h0 : Nat) (sz : Nat) : cx_M l D ty yX6_init cX6_init 1 2 9 91 [.ref h0] [(h0, .inr (6, [.int 0, .null, .null, .null, .null, .null, .null, .null, .null, .int 0, .int 0, .int 0]))] sz (P_X6 ty h0) := cx_start (lv := [(0, .ref h0)]) (by decide +kernel) (Nat.le_of_ble_eq_true rfl) rfl (fun Γ _ hR hX hr hlk hin => k_X6 hX hR hr hlk hin h0)
theorem k_X5 {Γ : gC} {Ξ : cO} {x : Int32} {N : Nat} (hX : cx_X Γ Ξ cX5_init RX5 2) (hR : Γ.2.2.2.1 = cx_R 1 1 N) (hr : Γ.2.2.2.2.2.2.2.2.1.sig.returnType = none) (hlk : Γ.2.2.2.2.2.2.2.2.1.locks = false) (hin : Γ.2.2.2.2.2.2.2.2.1.name = "<init>") (h0 : Nat) (hx : ¬ x < 0) (hm : (if x < 0 then 0 else x) = x) (hN : x.toNatClampNeg = N) (hb : Nat.ble (N * 4) 536870912 = true) : cx_G Γ Ξ (cx_Q Γ Ξ 1 N (P_X5 Ξ.1 h0 N)) 2 0 0 [(h0, .inr (5, [.null, .int 0]))] [] 0 [(0, .ref h0), (1, .int x)] [] := by
  refine cb_aload_n (n := 1) hX 0 dX5_init_0 rfl rfl rfl ?_
  refine cb_obj (d := 0) (n := 4) hX hR ml_X5_3 dX5_init_1 rfl ?_
  refine cb_aload_n (n := 5) hX 0 dX5_init_4 rfl rfl rfl ?_
  refine cb_iload_n (n := 6) hX 1 dX5_init_5 rfl rfl rfl ?_
  refine cb_iconst (x := (0 : Int32)) (n := 7) hX rfl dX5_init_6 rfl ?_
  refine cb_max (d := 0) (z := x) (n := 10) hX hR hm rfl (Nat.ble_eq_true_of_le (Nat.zero_le _)) rfl ml_X5_9 dX5_init_7 rfl ?_
  refine cb_newi (N := N) (c1 := 1) (s1 := N) (n := 12) hX hR hx hN hb rfl (Nat.zero_add N) rfl (Nat.ble_eq_true_of_le (Nat.le_refl _)) dX5_init_10 rfl (fun q1 => ?_)
  refine cb_putF (i := 0) (F' := [(h0, .inr (5, [.ref q1, .int 0])), (q1, eI Ξ.1 N)]) (n := 15) hX hin 0 kc_X5 rfl rfl fl_X5_15 rfl rfl (tyX5_ok 0 (by omega)) rfl rfl rfl rfl dX5_init_12 rfl ?_
  exact cb_ret hX hr hlk rfl (Nat.ble_eq_true_of_le (Nat.le_refl _)) dX5_init_15 ⟨q1, rfl⟩
theorem c_X5 (l : Launch) (D : va_G) (ty : Nat → ClassId) (h0 : Nat) {x : Int32} {N : Nat} (hx : ¬ x < 0) (hm : (if x < 0 then 0 else x) = x) (hN : x.toNatClampNeg = N) (hb : Nat.ble (N * 4) 536870912 = true) (sz : Nat) : cx_M l D ty yX5_init cX5_init 2 1 1 N [.ref h0, .int x] [(h0, .inr (5, [.null, .int 0]))] sz (P_X5 ty h0 N) := cx_start (lv := [(0, .ref h0), (1, .int x)]) (by decide +kernel) (Nat.le_of_ble_eq_true rfl) rfl (fun Γ _ hR hX hr hlk hin => k_X5 hX hR hr hlk hin h0 hx hm hN hb)
