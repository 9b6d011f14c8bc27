/-! CONSTRUCTORS: worlds by layouts, the ride -/
def gx_e' (σ : Nat → Nat) (ty : Nat → ClassId) (k : gk) (q : Nat) (v : gV) : va_E := match k with
  | .inl (ci, tm) => .inr (ci, gx_f σ (v.1 q) 0 tm)
  | .inr (.inl n) => .inl (ty 0, n, .inl (v.1 q))
  | .inr (.inr (.inl n)) => .inl (ty 1, n, .inr (.inl (v.2 q)))
  | .inr (.inr (.inr (t, ls))) => eQ ty t ls.length (ls.map σ)
theorem gx_eE (σ : Nat → Nat) (ty : Nat → ClassId) (k : gk) (q : Nat) (v : gV) : gx_e σ ty k q v = gx_e' σ ty k q v := by
  rcases k with ⟨ci, tm⟩ | n | n | ⟨t, ls⟩
  · rfl
  · rfl
  · rfl
  · show (.inl (ty t, ls.length, .inr (.inr (.inr (.inr (fun i => (ls[i]?).map σ))))) : va_E) = .inl (ty t, ls.length, .inr (.inr (.inr (.inr (fun i => (ls.map σ)[i]?)))))
    have e : (fun i : Nat => (ls[i]?).map σ) = fun i : Nat => (ls.map σ)[i]? := by
      funext i
      rw [List.getElem?_map]
    rw [e]
def gx_l (σ : Nat → Nat) (ty : Nat → ClassId) (v : gV) : Nat → List gk → va_W
  | _, [] => []
  | b, k :: t => (σ b, gx_e' σ ty k b v) :: gx_l σ ty v (b + 1) t
theorem gx_wl0 {σ : Nat → Nat} {ty : Nat → ClassId} {v : gV} : ∀ (lay : List gk) (b : Nat), lay.mapIdx (fun q k => (σ (b + q), gx_e σ ty k (b + q) v)) = gx_l σ ty v b lay
  | [], b => rfl
  | k :: t, b => by
    rw [List.mapIdx_cons, gx_l, ← gx_wl0 t (b + 1), Nat.add_zero, gx_eE]
    congr 1
    congr 1
    funext q k
    rw [show b + (q + 1) = b + 1 + q by omega]
theorem gx_wl {lay : List gk} {σ : Nat → Nat} {ty : Nat → ClassId} {v : gV} : gx_w lay σ ty v = gx_l σ ty v 0 lay := by
  rw [← gx_wl0]
  unfold gx_w
  congr 1
  funext q k
  rw [Nat.zero_add]
theorem gx_la {σ : Nat → Nat} {ty : Nat → ClassId} {v : gV} : ∀ (L1 L2 : List gk) (b : Nat), gx_l σ ty v b (L1 ++ L2) = gx_l σ ty v b L1 ++ gx_l σ ty v (b + L1.length) L2
  | [], L2, b => rfl
  | k :: t, L2, b => by
    show (σ b, gx_e' σ ty k b v) :: gx_l σ ty v (b + 1) (t ++ L2) = (σ b, gx_e' σ ty k b v) :: (gx_l σ ty v (b + 1) t ++ gx_l σ ty v (b + (t.length + 1)) L2)
    rw [gx_la t L2 (b + 1), show b + 1 + t.length = b + (t.length + 1) by omega]
def vZ : gV := (fun _ _ => 0, fun _ _ => 0)
abbrev tmRl : List (Option Nat) := [some 38, none, none, some 1, some 2, none, some 4, some 15, some 16, some 17, none, none, none, none, none, none]
def LRl : List gk := [gk_o 1 tmRl, gk_i 8, gk_o 0 (tmB 2), gk_i 29, gk_r 5 (rR 0)] ++ [gk_i 8, gk_i 8, gk_i 8, gk_i 8, gk_i 8, gk_i 8, gk_i 8, gk_i 8, gk_i 8, gk_i 8] ++ [gk_i 10, gk_i 10, gk_r 4 (rB 0)] ++ (rB 0).flatMap (fun b => [gk_o 0 (tmB b), gk_i 29])
def rdσ (told h0 : Nat) (σ : Nat → Nat) : Nat → Nat := fun k => if k = 38 then told else if k = 0 then h0 else σ k
def P_X1 (ty : Nat → ClassId) (h0 told : Nat) (w : va_W) : Prop := ∃ σ, w = gx_l (rdσ told h0 σ) ty vZ 0 LRl
set_option maxHeartbeats 4000000 in
set_option maxRecDepth 100000 in
theorem k_X1 {Γ : gC} {Ξ : cO} (hX : cx_X Γ Ξ cX1_init RX1 3) (hR : Γ.2.2.2.1 = cx_R 2 37 469) (hr : Γ.2.2.2.2.2.2.2.2.1.sig.returnType = none) (hlk : Γ.2.2.2.2.2.2.2.2.1.locks = false) (hin : Γ.2.2.2.2.2.2.2.2.1.name = "<init>") (h0 : Nat) (told : Nat) : cx_G Γ Ξ (cx_Q Γ Ξ 37 469 (P_X1 Ξ.1 h0 told)) 3 0 0 [(h0, .inr (1, [.null, .int 0, .int 0, .null, .null, .int 0, .null, .null, .null, .null, .int 0, .int 0, .int 0, .int 0, .int 0, .int 0]))] [] 0 [(0, .ref h0), (1, .ref told)] [] := by
  refine cb_aload_n (n := 1) hX 0 dX1_init_0 rfl rfl rfl ?_
  refine cb_obj (d := 1) (n := 4) hX hR ml_X1_3 dX1_init_1 rfl ?_
  refine cb_aload_n (n := 5) hX 0 dX1_init_4 rfl rfl rfl ?_
  refine cb_bipush (x := (8 : Int32)) (n := 7) hX rfl dX1_init_5 rfl ?_
  refine cb_newi (N := 8) (c1 := 1) (s1 := 8) (n := 9) hX hR (by decide) (by decide) rfl rfl rfl rfl rfl dX1_init_7 rfl (fun q1 => ?_)
  refine cb_putF (i := 0) (F' := [(h0, .inr (1, [.null, .int 0, .int 0, .ref q1, .null, .int 0, .null, .null, .null, .null, .int 0, .int 0, .int 0, .int 0, .int 0, .int 0])), (q1, eI Ξ.1 8)]) (n := 12) hX hin 3 kc_X1 rfl rfl fl_X1_9 rfl rfl (tyX1_ok 3 (by omega)) rfl rfl rfl rfl dX1_init_9 rfl ?_
  refine cb_aload_n (n := 13) hX 0 dX1_init_12 rfl rfl rfl ?_
  refine cb_new (fs := [.null, .int 0]) (c1 := 2) (s1 := 10) (n := 16) hX hR kc_X0 w_c4 w_n0 mi_X0_init.2.1 df_X0 rfl rfl rfl rfl dX1_init_13 rfl (fun q2 => ?_)
  refine cb_dup (n := 17) hX rfl dX1_init_16 rfl ?_
  refine cb_callN (F' := [(h0, .inr (1, [.null, .int 0, .int 0, .ref q1, .null, .int 0, .null, .null, .null, .null, .int 0, .int 0, .int 0, .int 0, .int 0, .int 0])), (q1, eI Ξ.1 8)]) (As := []) (st := [.ref q2, .ref h0]) (c1 := 3) (s1 := 39) (n := 20) hX hR (fun sz => c_X0 Γ.2.1 Ξ.2.1 Ξ.1 q2 sz) ci_X0 (nw_3 hX.2.2.2.2.2.1) rfl ⟨rfl, rfl⟩ rfl rfl rfl rfl rfl dX1_init_17 rfl rfl rfl (fun w hw => ?_)
  obtain ⟨q3, rfl⟩ := hw
  refine cb_putF (i := 0) (F' := [(h0, .inr (1, [.null, .int 0, .int 0, .ref q1, .ref q2, .int 0, .null, .null, .null, .null, .int 0, .int 0, .int 0, .int 0, .int 0, .int 0])), (q1, eI Ξ.1 8), (q2, .inr (0, [.ref q3, .int 0])), (q3, eI Ξ.1 29)]) (n := 23) hX hin 4 kc_X1 rfl rfl fl_X1_18 rfl rfl (tyX1_ok 4 (by omega)) rfl rfl rfl rfl dX1_init_20 rfl ?_
  refine cb_aload_n (n := 24) hX 0 dX1_init_23 rfl rfl rfl ?_
  refine cb_bipush (x := (10 : Int32)) (n := 26) hX rfl dX1_init_24 rfl ?_
  refine cb_bipush (x := (8 : Int32)) (n := 28) hX rfl dX1_init_26 rfl ?_
  refine cb_mnaL (N := 10) (K := 8) (c1 := 14) (s1 := 129) (n := 32) hX hR w_c8 (by decide) (by decide) (by decide) (by decide) rfl rfl rfl rfl rfl rfl dX1_init_28 rfl (fun q4 r4 => ?_)
  refine cb_putF (i := 0) (F' := [(h0, .inr (1, [.null, .int 0, .int 0, .ref q1, .ref q2, .int 0, .ref q4, .null, .null, .null, .int 0, .int 0, .int 0, .int 0, .int 0, .int 0])), (q1, eI Ξ.1 8), (q2, .inr (0, [.ref q3, .int 0])), (q3, eI Ξ.1 29), (q4, eQ Ξ.1 5 10 [r4 0, r4 1, r4 2, r4 3, r4 4, r4 5, r4 6, r4 7, r4 8, r4 9]), (r4 0, eI Ξ.1 8), (r4 1, eI Ξ.1 8), (r4 2, eI Ξ.1 8), (r4 3, eI Ξ.1 8), (r4 4, eI Ξ.1 8), (r4 5, eI Ξ.1 8), (r4 6, eI Ξ.1 8), (r4 7, eI Ξ.1 8), (r4 8, eI Ξ.1 8), (r4 9, eI Ξ.1 8)]) (n := 35) hX hin 6 kc_X1 rfl rfl fl_X1_24 rfl rfl (tyX1_ok 6 (by omega)) rfl rfl rfl rfl dX1_init_32 rfl ?_
  refine cb_aload_n (n := 36) hX 0 dX1_init_35 rfl rfl rfl ?_
  refine cb_bipush (x := (10 : Int32)) (n := 38) hX rfl dX1_init_36 rfl ?_
  refine cb_newi (N := 10) (c1 := 15) (s1 := 139) (n := 40) hX hR (by decide) (by decide) rfl rfl rfl rfl rfl dX1_init_38 rfl (fun q5 => ?_)
  refine cb_putF (i := 0) (F' := [(h0, .inr (1, [.null, .int 0, .int 0, .ref q1, .ref q2, .int 0, .ref q4, .ref q5, .null, .null, .int 0, .int 0, .int 0, .int 0, .int 0, .int 0])), (q1, eI Ξ.1 8), (q2, .inr (0, [.ref q3, .int 0])), (q3, eI Ξ.1 29), (q4, eQ Ξ.1 5 10 [r4 0, r4 1, r4 2, r4 3, r4 4, r4 5, r4 6, r4 7, r4 8, r4 9]), (r4 0, eI Ξ.1 8), (r4 1, eI Ξ.1 8), (r4 2, eI Ξ.1 8), (r4 3, eI Ξ.1 8), (r4 4, eI Ξ.1 8), (r4 5, eI Ξ.1 8), (r4 6, eI Ξ.1 8), (r4 7, eI Ξ.1 8), (r4 8, eI Ξ.1 8), (r4 9, eI Ξ.1 8), (q5, eI Ξ.1 10)]) (n := 43) hX hin 7 kc_X1 rfl rfl fl_X1_27 rfl rfl (tyX1_ok 7 (by omega)) rfl rfl rfl rfl dX1_init_40 rfl ?_
  refine cb_aload_n (n := 44) hX 0 dX1_init_43 rfl rfl rfl ?_
  refine cb_bipush (x := (10 : Int32)) (n := 46) hX rfl dX1_init_44 rfl ?_
  refine cb_newi (N := 10) (c1 := 16) (s1 := 149) (n := 48) hX hR (by decide) (by decide) rfl rfl rfl rfl rfl dX1_init_46 rfl (fun q6 => ?_)
  refine cb_putF (i := 0) (F' := [(h0, .inr (1, [.null, .int 0, .int 0, .ref q1, .ref q2, .int 0, .ref q4, .ref q5, .ref q6, .null, .int 0, .int 0, .int 0, .int 0, .int 0, .int 0])), (q1, eI Ξ.1 8), (q2, .inr (0, [.ref q3, .int 0])), (q3, eI Ξ.1 29), (q4, eQ Ξ.1 5 10 [r4 0, r4 1, r4 2, r4 3, r4 4, r4 5, r4 6, r4 7, r4 8, r4 9]), (r4 0, eI Ξ.1 8), (r4 1, eI Ξ.1 8), (r4 2, eI Ξ.1 8), (r4 3, eI Ξ.1 8), (r4 4, eI Ξ.1 8), (r4 5, eI Ξ.1 8), (r4 6, eI Ξ.1 8), (r4 7, eI Ξ.1 8), (r4 8, eI Ξ.1 8), (r4 9, eI Ξ.1 8), (q5, eI Ξ.1 10), (q6, eI Ξ.1 10)]) (n := 51) hX hin 8 kc_X1 rfl rfl fl_X1_30 rfl rfl (tyX1_ok 8 (by omega)) rfl rfl rfl rfl dX1_init_48 rfl ?_
  refine cb_aload_n (n := 52) hX 0 dX1_init_51 rfl rfl rfl ?_
  refine cb_bipush (x := (10 : Int32)) (n := 54) hX rfl dX1_init_52 rfl ?_
  refine cb_newQ (N := 10) (c1 := 17) (s1 := 159) (n := 57) hX hR 4 w_c4 hX.2.2.2.2.2.1.2.2.2.1 rfl (by decide) (by decide) rfl rfl rfl rfl rfl dX1_init_54 rfl (fun q7 => ?_)
  refine cb_putF (i := 0) (F' := [(h0, .inr (1, [.null, .int 0, .int 0, .ref q1, .ref q2, .int 0, .ref q4, .ref q5, .ref q6, .ref q7, .int 0, .int 0, .int 0, .int 0, .int 0, .int 0])), (q1, eI Ξ.1 8), (q2, .inr (0, [.ref q3, .int 0])), (q3, eI Ξ.1 29), (q4, eQ Ξ.1 5 10 [r4 0, r4 1, r4 2, r4 3, r4 4, r4 5, r4 6, r4 7, r4 8, r4 9]), (r4 0, eI Ξ.1 8), (r4 1, eI Ξ.1 8), (r4 2, eI Ξ.1 8), (r4 3, eI Ξ.1 8), (r4 4, eI Ξ.1 8), (r4 5, eI Ξ.1 8), (r4 6, eI Ξ.1 8), (r4 7, eI Ξ.1 8), (r4 8, eI Ξ.1 8), (r4 9, eI Ξ.1 8), (q5, eI Ξ.1 10), (q6, eI Ξ.1 10), (q7, eQ Ξ.1 4 10 [])]) (n := 60) hX hin 9 kc_X1 rfl rfl fl_X1_33 rfl rfl (tyX1_ok 9 (by omega)) rfl rfl rfl rfl dX1_init_57 rfl ?_
  refine cb_aload_n (n := 61) hX 0 dX1_init_60 rfl rfl rfl ?_
  refine cb_aload_n (n := 62) hX 1 dX1_init_61 rfl rfl rfl ?_
  refine cb_putF (i := 0) (F' := [(h0, .inr (1, [.ref told, .int 0, .int 0, .ref q1, .ref q2, .int 0, .ref q4, .ref q5, .ref q6, .ref q7, .int 0, .int 0, .int 0, .int 0, .int 0, .int 0])), (q1, eI Ξ.1 8), (q2, .inr (0, [.ref q3, .int 0])), (q3, eI Ξ.1 29), (q4, eQ Ξ.1 5 10 [r4 0, r4 1, r4 2, r4 3, r4 4, r4 5, r4 6, r4 7, r4 8, r4 9]), (r4 0, eI Ξ.1 8), (r4 1, eI Ξ.1 8), (r4 2, eI Ξ.1 8), (r4 3, eI Ξ.1 8), (r4 4, eI Ξ.1 8), (r4 5, eI Ξ.1 8), (r4 6, eI Ξ.1 8), (r4 7, eI Ξ.1 8), (r4 8, eI Ξ.1 8), (r4 9, eI Ξ.1 8), (q5, eI Ξ.1 10), (q6, eI Ξ.1 10), (q7, eQ Ξ.1 4 10 [])]) (n := 65) hX hin 0 kc_X1 rfl rfl fl_X1_37 rfl rfl (tyX1_ok 0 (by omega)) rfl rfl rfl rfl dX1_init_62 rfl ?_
  refine cb_iconst (x := (0 : Int32)) (n := 66) hX rfl dX1_init_65 rfl ?_
  refine cb_istore_n (n := 67) hX [(2, .int 0), (0, .ref h0), (1, .ref told)] dX1_init_66 rfl rfl rfl rfl ?_
  refine cb_iload_n (n := 68) hX 0 dX1_init_67 rfl rfl rfl ?_
  refine cb_bipush (x := (10 : Int32)) (n := 70) hX rfl dX1_init_68 rfl ?_
  refine cb_ge (tgt := 92) (n := 73) hX dX1_init_70 (by decide) rfl (fun h => absurd h (by decide)) (fun _ => ?_)
  refine cb_aload_n (n := 74) hX 1 dX1_init_73 rfl rfl rfl ?_
  refine cb_get (i := 0) (n := 77) hX 9 kc_X1 rfl rfl fl_X1_33 rfl dX1_init_74 rfl ?_
  refine cb_iload_n (n := 78) hX 0 dX1_init_77 rfl rfl rfl ?_
  refine cb_new (fs := [.null, .int 0]) (c1 := 18) (s1 := 161) (n := 81) hX hR kc_X0 w_c4 w_n0 mi_X0_init.2.1 df_X0 rfl rfl rfl rfl dX1_init_78 rfl (fun q8 => ?_)
  refine cb_dup (n := 82) hX rfl dX1_init_81 rfl ?_
  refine cb_callN (F' := [(h0, .inr (1, [.ref told, .int 0, .int 0, .ref q1, .ref q2, .int 0, .ref q4, .ref q5, .ref q6, .ref q7, .int 0, .int 0, .int 0, .int 0, .int 0, .int 0])), (q1, eI Ξ.1 8), (q2, .inr (0, [.ref q3, .int 0])), (q3, eI Ξ.1 29), (q4, eQ Ξ.1 5 10 [r4 0, r4 1, r4 2, r4 3, r4 4, r4 5, r4 6, r4 7, r4 8, r4 9]), (r4 0, eI Ξ.1 8), (r4 1, eI Ξ.1 8), (r4 2, eI Ξ.1 8), (r4 3, eI Ξ.1 8), (r4 4, eI Ξ.1 8), (r4 5, eI Ξ.1 8), (r4 6, eI Ξ.1 8), (r4 7, eI Ξ.1 8), (r4 8, eI Ξ.1 8), (r4 9, eI Ξ.1 8), (q5, eI Ξ.1 10), (q6, eI Ξ.1 10), (q7, eQ Ξ.1 4 10 [])]) (As := []) (st := [.ref q8, .int 0, .ref q7]) (c1 := 19) (s1 := 190) (n := 85) hX hR (fun sz => c_X0 Γ.2.1 Ξ.2.1 Ξ.1 q8 sz) ci_X0 (nw_3 hX.2.2.2.2.2.1) rfl ⟨rfl, rfl⟩ rfl rfl rfl rfl rfl dX1_init_82 rfl rfl rfl (fun w hw => ?_)
  obtain ⟨q9, rfl⟩ := hw
  refine cb_aastL (i := 17) (i2 := 18) (l' := [q8]) (F' := [(h0, .inr (1, [.ref told, .int 0, .int 0, .ref q1, .ref q2, .int 0, .ref q4, .ref q5, .ref q6, .ref q7, .int 0, .int 0, .int 0, .int 0, .int 0, .int 0])), (q1, eI Ξ.1 8), (q2, .inr (0, [.ref q3, .int 0])), (q3, eI Ξ.1 29), (q4, eQ Ξ.1 5 10 [r4 0, r4 1, r4 2, r4 3, r4 4, r4 5, r4 6, r4 7, r4 8, r4 9]), (r4 0, eI Ξ.1 8), (r4 1, eI Ξ.1 8), (r4 2, eI Ξ.1 8), (r4 3, eI Ξ.1 8), (r4 4, eI Ξ.1 8), (r4 5, eI Ξ.1 8), (r4 6, eI Ξ.1 8), (r4 7, eI Ξ.1 8), (r4 8, eI Ξ.1 8), (r4 9, eI Ξ.1 8), (q5, eI Ξ.1 10), (q6, eI Ξ.1 10), (q7, eQ Ξ.1 4 10 [q8]), (q8, .inr (0, [.ref q9, .int 0])), (q9, eI Ξ.1 29)]) (n := 86) hX 4 rfl rfl rfl kc_X0 (by decide) rfl rfl rfl dX1_init_85 rfl ?_
  refine cb_iinc (y := (1 : Int32)) (z := (1 : Int32)) (n := 89) hX 0 [(2, .int 1), (0, .ref h0), (1, .ref told)] dX1_init_86 rfl rfl rfl (by decide) rfl rfl ?_
  refine cb_goto (n := 67) hX dX1_init_89 (by decide) ?_
  refine cb_iload_n (n := 68) hX 0 dX1_init_67 rfl rfl rfl ?_
  refine cb_bipush (x := (10 : Int32)) (n := 70) hX rfl dX1_init_68 rfl ?_
  refine cb_ge (tgt := 92) (n := 73) hX dX1_init_70 (by decide) rfl (fun h => absurd h (by decide)) (fun _ => ?_)
  refine cb_aload_n (n := 74) hX 1 dX1_init_73 rfl rfl rfl ?_
  refine cb_get (i := 0) (n := 77) hX 9 kc_X1 rfl rfl fl_X1_33 rfl dX1_init_74 rfl ?_
  refine cb_iload_n (n := 78) hX 0 dX1_init_77 rfl rfl rfl ?_
  refine cb_new (fs := [.null, .int 0]) (c1 := 20) (s1 := 192) (n := 81) hX hR kc_X0 w_c4 w_n0 mi_X0_init.2.1 df_X0 rfl rfl rfl rfl dX1_init_78 rfl (fun q10 => ?_)
  refine cb_dup (n := 82) hX rfl dX1_init_81 rfl ?_
  refine cb_callN (F' := [(h0, .inr (1, [.ref told, .int 0, .int 0, .ref q1, .ref q2, .int 0, .ref q4, .ref q5, .ref q6, .ref q7, .int 0, .int 0, .int 0, .int 0, .int 0, .int 0])), (q1, eI Ξ.1 8), (q2, .inr (0, [.ref q3, .int 0])), (q3, eI Ξ.1 29), (q4, eQ Ξ.1 5 10 [r4 0, r4 1, r4 2, r4 3, r4 4, r4 5, r4 6, r4 7, r4 8, r4 9]), (r4 0, eI Ξ.1 8), (r4 1, eI Ξ.1 8), (r4 2, eI Ξ.1 8), (r4 3, eI Ξ.1 8), (r4 4, eI Ξ.1 8), (r4 5, eI Ξ.1 8), (r4 6, eI Ξ.1 8), (r4 7, eI Ξ.1 8), (r4 8, eI Ξ.1 8), (r4 9, eI Ξ.1 8), (q5, eI Ξ.1 10), (q6, eI Ξ.1 10), (q7, eQ Ξ.1 4 10 [q8]), (q8, .inr (0, [.ref q9, .int 0])), (q9, eI Ξ.1 29)]) (As := []) (st := [.ref q10, .int 1, .ref q7]) (c1 := 21) (s1 := 221) (n := 85) hX hR (fun sz => c_X0 Γ.2.1 Ξ.2.1 Ξ.1 q10 sz) ci_X0 (nw_3 hX.2.2.2.2.2.1) rfl ⟨rfl, rfl⟩ rfl rfl rfl rfl rfl dX1_init_82 rfl rfl rfl (fun w hw => ?_)
  obtain ⟨q11, rfl⟩ := hw
  refine cb_aastL (i := 17) (i2 := 20) (l' := [q8, q10]) (F' := [(h0, .inr (1, [.ref told, .int 0, .int 0, .ref q1, .ref q2, .int 0, .ref q4, .ref q5, .ref q6, .ref q7, .int 0, .int 0, .int 0, .int 0, .int 0, .int 0])), (q1, eI Ξ.1 8), (q2, .inr (0, [.ref q3, .int 0])), (q3, eI Ξ.1 29), (q4, eQ Ξ.1 5 10 [r4 0, r4 1, r4 2, r4 3, r4 4, r4 5, r4 6, r4 7, r4 8, r4 9]), (r4 0, eI Ξ.1 8), (r4 1, eI Ξ.1 8), (r4 2, eI Ξ.1 8), (r4 3, eI Ξ.1 8), (r4 4, eI Ξ.1 8), (r4 5, eI Ξ.1 8), (r4 6, eI Ξ.1 8), (r4 7, eI Ξ.1 8), (r4 8, eI Ξ.1 8), (r4 9, eI Ξ.1 8), (q5, eI Ξ.1 10), (q6, eI Ξ.1 10), (q7, eQ Ξ.1 4 10 [q8, q10]), (q8, .inr (0, [.ref q9, .int 0])), (q9, eI Ξ.1 29), (q10, .inr (0, [.ref q11, .int 0])), (q11, eI Ξ.1 29)]) (n := 86) hX 4 rfl rfl rfl kc_X0 (by decide) rfl rfl rfl dX1_init_85 rfl ?_
  refine cb_iinc (y := (2 : Int32)) (z := (1 : Int32)) (n := 89) hX 0 [(2, .int 2), (0, .ref h0), (1, .ref told)] dX1_init_86 rfl rfl rfl (by decide) rfl rfl ?_
  refine cb_goto (n := 67) hX dX1_init_89 (by decide) ?_
  refine cb_iload_n (n := 68) hX 0 dX1_init_67 rfl rfl rfl ?_
  refine cb_bipush (x := (10 : Int32)) (n := 70) hX rfl dX1_init_68 rfl ?_
  refine cb_ge (tgt := 92) (n := 73) hX dX1_init_70 (by decide) rfl (fun h => absurd h (by decide)) (fun _ => ?_)
  refine cb_aload_n (n := 74) hX 1 dX1_init_73 rfl rfl rfl ?_
  refine cb_get (i := 0) (n := 77) hX 9 kc_X1 rfl rfl fl_X1_33 rfl dX1_init_74 rfl ?_
  refine cb_iload_n (n := 78) hX 0 dX1_init_77 rfl rfl rfl ?_
  refine cb_new (fs := [.null, .int 0]) (c1 := 22) (s1 := 223) (n := 81) hX hR kc_X0 w_c4 w_n0 mi_X0_init.2.1 df_X0 rfl rfl rfl rfl dX1_init_78 rfl (fun q12 => ?_)
  refine cb_dup (n := 82) hX rfl dX1_init_81 rfl ?_
  refine cb_callN (F' := [(h0, .inr (1, [.ref told, .int 0, .int 0, .ref q1, .ref q2, .int 0, .ref q4, .ref q5, .ref q6, .ref q7, .int 0, .int 0, .int 0, .int 0, .int 0, .int 0])), (q1, eI Ξ.1 8), (q2, .inr (0, [.ref q3, .int 0])), (q3, eI Ξ.1 29), (q4, eQ Ξ.1 5 10 [r4 0, r4 1, r4 2, r4 3, r4 4, r4 5, r4 6, r4 7, r4 8, r4 9]), (r4 0, eI Ξ.1 8), (r4 1, eI Ξ.1 8), (r4 2, eI Ξ.1 8), (r4 3, eI Ξ.1 8), (r4 4, eI Ξ.1 8), (r4 5, eI Ξ.1 8), (r4 6, eI Ξ.1 8), (r4 7, eI Ξ.1 8), (r4 8, eI Ξ.1 8), (r4 9, eI Ξ.1 8), (q5, eI Ξ.1 10), (q6, eI Ξ.1 10), (q7, eQ Ξ.1 4 10 [q8, q10]), (q8, .inr (0, [.ref q9, .int 0])), (q9, eI Ξ.1 29), (q10, .inr (0, [.ref q11, .int 0])), (q11, eI Ξ.1 29)]) (As := []) (st := [.ref q12, .int 2, .ref q7]) (c1 := 23) (s1 := 252) (n := 85) hX hR (fun sz => c_X0 Γ.2.1 Ξ.2.1 Ξ.1 q12 sz) ci_X0 (nw_3 hX.2.2.2.2.2.1) rfl ⟨rfl, rfl⟩ rfl rfl rfl rfl rfl dX1_init_82 rfl rfl rfl (fun w hw => ?_)
  obtain ⟨q13, rfl⟩ := hw
  refine cb_aastL (i := 17) (i2 := 22) (l' := [q8, q10, q12]) (F' := [(h0, .inr (1, [.ref told, .int 0, .int 0, .ref q1, .ref q2, .int 0, .ref q4, .ref q5, .ref q6, .ref q7, .int 0, .int 0, .int 0, .int 0, .int 0, .int 0])), (q1, eI Ξ.1 8), (q2, .inr (0, [.ref q3, .int 0])), (q3, eI Ξ.1 29), (q4, eQ Ξ.1 5 10 [r4 0, r4 1, r4 2, r4 3, r4 4, r4 5, r4 6, r4 7, r4 8, r4 9]), (r4 0, eI Ξ.1 8), (r4 1, eI Ξ.1 8), (r4 2, eI Ξ.1 8), (r4 3, eI Ξ.1 8), (r4 4, eI Ξ.1 8), (r4 5, eI Ξ.1 8), (r4 6, eI Ξ.1 8), (r4 7, eI Ξ.1 8), (r4 8, eI Ξ.1 8), (r4 9, eI Ξ.1 8), (q5, eI Ξ.1 10), (q6, eI Ξ.1 10), (q7, eQ Ξ.1 4 10 [q8, q10, q12]), (q8, .inr (0, [.ref q9, .int 0])), (q9, eI Ξ.1 29), (q10, .inr (0, [.ref q11, .int 0])), (q11, eI Ξ.1 29), (q12, .inr (0, [.ref q13, .int 0])), (q13, eI Ξ.1 29)]) (n := 86) hX 4 rfl rfl rfl kc_X0 (by decide) rfl rfl rfl dX1_init_85 rfl ?_
  refine cb_iinc (y := (3 : Int32)) (z := (1 : Int32)) (n := 89) hX 0 [(2, .int 3), (0, .ref h0), (1, .ref told)] dX1_init_86 rfl rfl rfl (by decide) rfl rfl ?_
  refine cb_goto (n := 67) hX dX1_init_89 (by decide) ?_
  refine cb_iload_n (n := 68) hX 0 dX1_init_67 rfl rfl rfl ?_
  refine cb_bipush (x := (10 : Int32)) (n := 70) hX rfl dX1_init_68 rfl ?_
  refine cb_ge (tgt := 92) (n := 73) hX dX1_init_70 (by decide) rfl (fun h => absurd h (by decide)) (fun _ => ?_)
  refine cb_aload_n (n := 74) hX 1 dX1_init_73 rfl rfl rfl ?_
  refine cb_get (i := 0) (n := 77) hX 9 kc_X1 rfl rfl fl_X1_33 rfl dX1_init_74 rfl ?_
  refine cb_iload_n (n := 78) hX 0 dX1_init_77 rfl rfl rfl ?_
  refine cb_new (fs := [.null, .int 0]) (c1 := 24) (s1 := 254) (n := 81) hX hR kc_X0 w_c4 w_n0 mi_X0_init.2.1 df_X0 rfl rfl rfl rfl dX1_init_78 rfl (fun q14 => ?_)
  refine cb_dup (n := 82) hX rfl dX1_init_81 rfl ?_
  refine cb_callN (F' := [(h0, .inr (1, [.ref told, .int 0, .int 0, .ref q1, .ref q2, .int 0, .ref q4, .ref q5, .ref q6, .ref q7, .int 0, .int 0, .int 0, .int 0, .int 0, .int 0])), (q1, eI Ξ.1 8), (q2, .inr (0, [.ref q3, .int 0])), (q3, eI Ξ.1 29), (q4, eQ Ξ.1 5 10 [r4 0, r4 1, r4 2, r4 3, r4 4, r4 5, r4 6, r4 7, r4 8, r4 9]), (r4 0, eI Ξ.1 8), (r4 1, eI Ξ.1 8), (r4 2, eI Ξ.1 8), (r4 3, eI Ξ.1 8), (r4 4, eI Ξ.1 8), (r4 5, eI Ξ.1 8), (r4 6, eI Ξ.1 8), (r4 7, eI Ξ.1 8), (r4 8, eI Ξ.1 8), (r4 9, eI Ξ.1 8), (q5, eI Ξ.1 10), (q6, eI Ξ.1 10), (q7, eQ Ξ.1 4 10 [q8, q10, q12]), (q8, .inr (0, [.ref q9, .int 0])), (q9, eI Ξ.1 29), (q10, .inr (0, [.ref q11, .int 0])), (q11, eI Ξ.1 29), (q12, .inr (0, [.ref q13, .int 0])), (q13, eI Ξ.1 29)]) (As := []) (st := [.ref q14, .int 3, .ref q7]) (c1 := 25) (s1 := 283) (n := 85) hX hR (fun sz => c_X0 Γ.2.1 Ξ.2.1 Ξ.1 q14 sz) ci_X0 (nw_3 hX.2.2.2.2.2.1) rfl ⟨rfl, rfl⟩ rfl rfl rfl rfl rfl dX1_init_82 rfl rfl rfl (fun w hw => ?_)
  obtain ⟨q15, rfl⟩ := hw
  refine cb_aastL (i := 17) (i2 := 24) (l' := [q8, q10, q12, q14]) (F' := [(h0, .inr (1, [.ref told, .int 0, .int 0, .ref q1, .ref q2, .int 0, .ref q4, .ref q5, .ref q6, .ref q7, .int 0, .int 0, .int 0, .int 0, .int 0, .int 0])), (q1, eI Ξ.1 8), (q2, .inr (0, [.ref q3, .int 0])), (q3, eI Ξ.1 29), (q4, eQ Ξ.1 5 10 [r4 0, r4 1, r4 2, r4 3, r4 4, r4 5, r4 6, r4 7, r4 8, r4 9]), (r4 0, eI Ξ.1 8), (r4 1, eI Ξ.1 8), (r4 2, eI Ξ.1 8), (r4 3, eI Ξ.1 8), (r4 4, eI Ξ.1 8), (r4 5, eI Ξ.1 8), (r4 6, eI Ξ.1 8), (r4 7, eI Ξ.1 8), (r4 8, eI Ξ.1 8), (r4 9, eI Ξ.1 8), (q5, eI Ξ.1 10), (q6, eI Ξ.1 10), (q7, eQ Ξ.1 4 10 [q8, q10, q12, q14]), (q8, .inr (0, [.ref q9, .int 0])), (q9, eI Ξ.1 29), (q10, .inr (0, [.ref q11, .int 0])), (q11, eI Ξ.1 29), (q12, .inr (0, [.ref q13, .int 0])), (q13, eI Ξ.1 29), (q14, .inr (0, [.ref q15, .int 0])), (q15, eI Ξ.1 29)]) (n := 86) hX 4 rfl rfl rfl kc_X0 (by decide) rfl rfl rfl dX1_init_85 rfl ?_
  refine cb_iinc (y := (4 : Int32)) (z := (1 : Int32)) (n := 89) hX 0 [(2, .int 4), (0, .ref h0), (1, .ref told)] dX1_init_86 rfl rfl rfl (by decide) rfl rfl ?_
  refine cb_goto (n := 67) hX dX1_init_89 (by decide) ?_
  refine cb_iload_n (n := 68) hX 0 dX1_init_67 rfl rfl rfl ?_
  refine cb_bipush (x := (10 : Int32)) (n := 70) hX rfl dX1_init_68 rfl ?_
  refine cb_ge (tgt := 92) (n := 73) hX dX1_init_70 (by decide) rfl (fun h => absurd h (by decide)) (fun _ => ?_)
  refine cb_aload_n (n := 74) hX 1 dX1_init_73 rfl rfl rfl ?_
  refine cb_get (i := 0) (n := 77) hX 9 kc_X1 rfl rfl fl_X1_33 rfl dX1_init_74 rfl ?_
  refine cb_iload_n (n := 78) hX 0 dX1_init_77 rfl rfl rfl ?_
  refine cb_new (fs := [.null, .int 0]) (c1 := 26) (s1 := 285) (n := 81) hX hR kc_X0 w_c4 w_n0 mi_X0_init.2.1 df_X0 rfl rfl rfl rfl dX1_init_78 rfl (fun q16 => ?_)
  refine cb_dup (n := 82) hX rfl dX1_init_81 rfl ?_
  refine cb_callN (F' := [(h0, .inr (1, [.ref told, .int 0, .int 0, .ref q1, .ref q2, .int 0, .ref q4, .ref q5, .ref q6, .ref q7, .int 0, .int 0, .int 0, .int 0, .int 0, .int 0])), (q1, eI Ξ.1 8), (q2, .inr (0, [.ref q3, .int 0])), (q3, eI Ξ.1 29), (q4, eQ Ξ.1 5 10 [r4 0, r4 1, r4 2, r4 3, r4 4, r4 5, r4 6, r4 7, r4 8, r4 9]), (r4 0, eI Ξ.1 8), (r4 1, eI Ξ.1 8), (r4 2, eI Ξ.1 8), (r4 3, eI Ξ.1 8), (r4 4, eI Ξ.1 8), (r4 5, eI Ξ.1 8), (r4 6, eI Ξ.1 8), (r4 7, eI Ξ.1 8), (r4 8, eI Ξ.1 8), (r4 9, eI Ξ.1 8), (q5, eI Ξ.1 10), (q6, eI Ξ.1 10), (q7, eQ Ξ.1 4 10 [q8, q10, q12, q14]), (q8, .inr (0, [.ref q9, .int 0])), (q9, eI Ξ.1 29), (q10, .inr (0, [.ref q11, .int 0])), (q11, eI Ξ.1 29), (q12, .inr (0, [.ref q13, .int 0])), (q13, eI Ξ.1 29), (q14, .inr (0, [.ref q15, .int 0])), (q15, eI Ξ.1 29)]) (As := []) (st := [.ref q16, .int 4, .ref q7]) (c1 := 27) (s1 := 314) (n := 85) hX hR (fun sz => c_X0 Γ.2.1 Ξ.2.1 Ξ.1 q16 sz) ci_X0 (nw_3 hX.2.2.2.2.2.1) rfl ⟨rfl, rfl⟩ rfl rfl rfl rfl rfl dX1_init_82 rfl rfl rfl (fun w hw => ?_)
  obtain ⟨q17, rfl⟩ := hw
  refine cb_aastL (i := 17) (i2 := 26) (l' := [q8, q10, q12, q14, q16]) (F' := [(h0, .inr (1, [.ref told, .int 0, .int 0, .ref q1, .ref q2, .int 0, .ref q4, .ref q5, .ref q6, .ref q7, .int 0, .int 0, .int 0, .int 0, .int 0, .int 0])), (q1, eI Ξ.1 8), (q2, .inr (0, [.ref q3, .int 0])), (q3, eI Ξ.1 29), (q4, eQ Ξ.1 5 10 [r4 0, r4 1, r4 2, r4 3, r4 4, r4 5, r4 6, r4 7, r4 8, r4 9]), (r4 0, eI Ξ.1 8), (r4 1, eI Ξ.1 8), (r4 2, eI Ξ.1 8), (r4 3, eI Ξ.1 8), (r4 4, eI Ξ.1 8), (r4 5, eI Ξ.1 8), (r4 6, eI Ξ.1 8), (r4 7, eI Ξ.1 8), (r4 8, eI Ξ.1 8), (r4 9, eI Ξ.1 8), (q5, eI Ξ.1 10), (q6, eI Ξ.1 10), (q7, eQ Ξ.1 4 10 [q8, q10, q12, q14, q16]), (q8, .inr (0, [.ref q9, .int 0])), (q9, eI Ξ.1 29), (q10, .inr (0, [.ref q11, .int 0])), (q11, eI Ξ.1 29), (q12, .inr (0, [.ref q13, .int 0])), (q13, eI Ξ.1 29), (q14, .inr (0, [.ref q15, .int 0])), (q15, eI Ξ.1 29), (q16, .inr (0, [.ref q17, .int 0])), (q17, eI Ξ.1 29)]) (n := 86) hX 4 rfl rfl rfl kc_X0 (by decide) rfl rfl rfl dX1_init_85 rfl ?_
  refine cb_iinc (y := (5 : Int32)) (z := (1 : Int32)) (n := 89) hX 0 [(2, .int 5), (0, .ref h0), (1, .ref told)] dX1_init_86 rfl rfl rfl (by decide) rfl rfl ?_
  refine cb_goto (n := 67) hX dX1_init_89 (by decide) ?_
  refine cb_iload_n (n := 68) hX 0 dX1_init_67 rfl rfl rfl ?_
  refine cb_bipush (x := (10 : Int32)) (n := 70) hX rfl dX1_init_68 rfl ?_
  refine cb_ge (tgt := 92) (n := 73) hX dX1_init_70 (by decide) rfl (fun h => absurd h (by decide)) (fun _ => ?_)
  refine cb_aload_n (n := 74) hX 1 dX1_init_73 rfl rfl rfl ?_
  refine cb_get (i := 0) (n := 77) hX 9 kc_X1 rfl rfl fl_X1_33 rfl dX1_init_74 rfl ?_
  refine cb_iload_n (n := 78) hX 0 dX1_init_77 rfl rfl rfl ?_
  refine cb_new (fs := [.null, .int 0]) (c1 := 28) (s1 := 316) (n := 81) hX hR kc_X0 w_c4 w_n0 mi_X0_init.2.1 df_X0 rfl rfl rfl rfl dX1_init_78 rfl (fun q18 => ?_)
  refine cb_dup (n := 82) hX rfl dX1_init_81 rfl ?_
  refine cb_callN (F' := [(h0, .inr (1, [.ref told, .int 0, .int 0, .ref q1, .ref q2, .int 0, .ref q4, .ref q5, .ref q6, .ref q7, .int 0, .int 0, .int 0, .int 0, .int 0, .int 0])), (q1, eI Ξ.1 8), (q2, .inr (0, [.ref q3, .int 0])), (q3, eI Ξ.1 29), (q4, eQ Ξ.1 5 10 [r4 0, r4 1, r4 2, r4 3, r4 4, r4 5, r4 6, r4 7, r4 8, r4 9]), (r4 0, eI Ξ.1 8), (r4 1, eI Ξ.1 8), (r4 2, eI Ξ.1 8), (r4 3, eI Ξ.1 8), (r4 4, eI Ξ.1 8), (r4 5, eI Ξ.1 8), (r4 6, eI Ξ.1 8), (r4 7, eI Ξ.1 8), (r4 8, eI Ξ.1 8), (r4 9, eI Ξ.1 8), (q5, eI Ξ.1 10), (q6, eI Ξ.1 10), (q7, eQ Ξ.1 4 10 [q8, q10, q12, q14, q16]), (q8, .inr (0, [.ref q9, .int 0])), (q9, eI Ξ.1 29), (q10, .inr (0, [.ref q11, .int 0])), (q11, eI Ξ.1 29), (q12, .inr (0, [.ref q13, .int 0])), (q13, eI Ξ.1 29), (q14, .inr (0, [.ref q15, .int 0])), (q15, eI Ξ.1 29), (q16, .inr (0, [.ref q17, .int 0])), (q17, eI Ξ.1 29)]) (As := []) (st := [.ref q18, .int 5, .ref q7]) (c1 := 29) (s1 := 345) (n := 85) hX hR (fun sz => c_X0 Γ.2.1 Ξ.2.1 Ξ.1 q18 sz) ci_X0 (nw_3 hX.2.2.2.2.2.1) rfl ⟨rfl, rfl⟩ rfl rfl rfl rfl rfl dX1_init_82 rfl rfl rfl (fun w hw => ?_)
  obtain ⟨q19, rfl⟩ := hw
  refine cb_aastL (i := 17) (i2 := 28) (l' := [q8, q10, q12, q14, q16, q18]) (F' := [(h0, .inr (1, [.ref told, .int 0, .int 0, .ref q1, .ref q2, .int 0, .ref q4, .ref q5, .ref q6, .ref q7, .int 0, .int 0, .int 0, .int 0, .int 0, .int 0])), (q1, eI Ξ.1 8), (q2, .inr (0, [.ref q3, .int 0])), (q3, eI Ξ.1 29), (q4, eQ Ξ.1 5 10 [r4 0, r4 1, r4 2, r4 3, r4 4, r4 5, r4 6, r4 7, r4 8, r4 9]), (r4 0, eI Ξ.1 8), (r4 1, eI Ξ.1 8), (r4 2, eI Ξ.1 8), (r4 3, eI Ξ.1 8), (r4 4, eI Ξ.1 8), (r4 5, eI Ξ.1 8), (r4 6, eI Ξ.1 8), (r4 7, eI Ξ.1 8), (r4 8, eI Ξ.1 8), (r4 9, eI Ξ.1 8), (q5, eI Ξ.1 10), (q6, eI Ξ.1 10), (q7, eQ Ξ.1 4 10 [q8, q10, q12, q14, q16, q18]), (q8, .inr (0, [.ref q9, .int 0])), (q9, eI Ξ.1 29), (q10, .inr (0, [.ref q11, .int 0])), (q11, eI Ξ.1 29), (q12, .inr (0, [.ref q13, .int 0])), (q13, eI Ξ.1 29), (q14, .inr (0, [.ref q15, .int 0])), (q15, eI Ξ.1 29), (q16, .inr (0, [.ref q17, .int 0])), (q17, eI Ξ.1 29), (q18, .inr (0, [.ref q19, .int 0])), (q19, eI Ξ.1 29)]) (n := 86) hX 4 rfl rfl rfl kc_X0 (by decide) rfl rfl rfl dX1_init_85 rfl ?_
  refine cb_iinc (y := (6 : Int32)) (z := (1 : Int32)) (n := 89) hX 0 [(2, .int 6), (0, .ref h0), (1, .ref told)] dX1_init_86 rfl rfl rfl (by decide) rfl rfl ?_
  refine cb_goto (n := 67) hX dX1_init_89 (by decide) ?_
  refine cb_iload_n (n := 68) hX 0 dX1_init_67 rfl rfl rfl ?_
  refine cb_bipush (x := (10 : Int32)) (n := 70) hX rfl dX1_init_68 rfl ?_
  refine cb_ge (tgt := 92) (n := 73) hX dX1_init_70 (by decide) rfl (fun h => absurd h (by decide)) (fun _ => ?_)
  refine cb_aload_n (n := 74) hX 1 dX1_init_73 rfl rfl rfl ?_
  refine cb_get (i := 0) (n := 77) hX 9 kc_X1 rfl rfl fl_X1_33 rfl dX1_init_74 rfl ?_
  refine cb_iload_n (n := 78) hX 0 dX1_init_77 rfl rfl rfl ?_
  refine cb_new (fs := [.null, .int 0]) (c1 := 30) (s1 := 347) (n := 81) hX hR kc_X0 w_c4 w_n0 mi_X0_init.2.1 df_X0 rfl rfl rfl rfl dX1_init_78 rfl (fun q20 => ?_)
  refine cb_dup (n := 82) hX rfl dX1_init_81 rfl ?_
  refine cb_callN (F' := [(h0, .inr (1, [.ref told, .int 0, .int 0, .ref q1, .ref q2, .int 0, .ref q4, .ref q5, .ref q6, .ref q7, .int 0, .int 0, .int 0, .int 0, .int 0, .int 0])), (q1, eI Ξ.1 8), (q2, .inr (0, [.ref q3, .int 0])), (q3, eI Ξ.1 29), (q4, eQ Ξ.1 5 10 [r4 0, r4 1, r4 2, r4 3, r4 4, r4 5, r4 6, r4 7, r4 8, r4 9]), (r4 0, eI Ξ.1 8), (r4 1, eI Ξ.1 8), (r4 2, eI Ξ.1 8), (r4 3, eI Ξ.1 8), (r4 4, eI Ξ.1 8), (r4 5, eI Ξ.1 8), (r4 6, eI Ξ.1 8), (r4 7, eI Ξ.1 8), (r4 8, eI Ξ.1 8), (r4 9, eI Ξ.1 8), (q5, eI Ξ.1 10), (q6, eI Ξ.1 10), (q7, eQ Ξ.1 4 10 [q8, q10, q12, q14, q16, q18]), (q8, .inr (0, [.ref q9, .int 0])), (q9, eI Ξ.1 29), (q10, .inr (0, [.ref q11, .int 0])), (q11, eI Ξ.1 29), (q12, .inr (0, [.ref q13, .int 0])), (q13, eI Ξ.1 29), (q14, .inr (0, [.ref q15, .int 0])), (q15, eI Ξ.1 29), (q16, .inr (0, [.ref q17, .int 0])), (q17, eI Ξ.1 29), (q18, .inr (0, [.ref q19, .int 0])), (q19, eI Ξ.1 29)]) (As := []) (st := [.ref q20, .int 6, .ref q7]) (c1 := 31) (s1 := 376) (n := 85) hX hR (fun sz => c_X0 Γ.2.1 Ξ.2.1 Ξ.1 q20 sz) ci_X0 (nw_3 hX.2.2.2.2.2.1) rfl ⟨rfl, rfl⟩ rfl rfl rfl rfl rfl dX1_init_82 rfl rfl rfl (fun w hw => ?_)
  obtain ⟨q21, rfl⟩ := hw
  refine cb_aastL (i := 17) (i2 := 30) (l' := [q8, q10, q12, q14, q16, q18, q20]) (F' := [(h0, .inr (1, [.ref told, .int 0, .int 0, .ref q1, .ref q2, .int 0, .ref q4, .ref q5, .ref q6, .ref q7, .int 0, .int 0, .int 0, .int 0, .int 0, .int 0])), (q1, eI Ξ.1 8), (q2, .inr (0, [.ref q3, .int 0])), (q3, eI Ξ.1 29), (q4, eQ Ξ.1 5 10 [r4 0, r4 1, r4 2, r4 3, r4 4, r4 5, r4 6, r4 7, r4 8, r4 9]), (r4 0, eI Ξ.1 8), (r4 1, eI Ξ.1 8), (r4 2, eI Ξ.1 8), (r4 3, eI Ξ.1 8), (r4 4, eI Ξ.1 8), (r4 5, eI Ξ.1 8), (r4 6, eI Ξ.1 8), (r4 7, eI Ξ.1 8), (r4 8, eI Ξ.1 8), (r4 9, eI Ξ.1 8), (q5, eI Ξ.1 10), (q6, eI Ξ.1 10), (q7, eQ Ξ.1 4 10 [q8, q10, q12, q14, q16, q18, q20]), (q8, .inr (0, [.ref q9, .int 0])), (q9, eI Ξ.1 29), (q10, .inr (0, [.ref q11, .int 0])), (q11, eI Ξ.1 29), (q12, .inr (0, [.ref q13, .int 0])), (q13, eI Ξ.1 29), (q14, .inr (0, [.ref q15, .int 0])), (q15, eI Ξ.1 29), (q16, .inr (0, [.ref q17, .int 0])), (q17, eI Ξ.1 29), (q18, .inr (0, [.ref q19, .int 0])), (q19, eI Ξ.1 29), (q20, .inr (0, [.ref q21, .int 0])), (q21, eI Ξ.1 29)]) (n := 86) hX 4 rfl rfl rfl kc_X0 (by decide) rfl rfl rfl dX1_init_85 rfl ?_
  refine cb_iinc (y := (7 : Int32)) (z := (1 : Int32)) (n := 89) hX 0 [(2, .int 7), (0, .ref h0), (1, .ref told)] dX1_init_86 rfl rfl rfl (by decide) rfl rfl ?_
  refine cb_goto (n := 67) hX dX1_init_89 (by decide) ?_
  refine cb_iload_n (n := 68) hX 0 dX1_init_67 rfl rfl rfl ?_
  refine cb_bipush (x := (10 : Int32)) (n := 70) hX rfl dX1_init_68 rfl ?_
  refine cb_ge (tgt := 92) (n := 73) hX dX1_init_70 (by decide) rfl (fun h => absurd h (by decide)) (fun _ => ?_)
  refine cb_aload_n (n := 74) hX 1 dX1_init_73 rfl rfl rfl ?_
  refine cb_get (i := 0) (n := 77) hX 9 kc_X1 rfl rfl fl_X1_33 rfl dX1_init_74 rfl ?_
  refine cb_iload_n (n := 78) hX 0 dX1_init_77 rfl rfl rfl ?_
  refine cb_new (fs := [.null, .int 0]) (c1 := 32) (s1 := 378) (n := 81) hX hR kc_X0 w_c4 w_n0 mi_X0_init.2.1 df_X0 rfl rfl rfl rfl dX1_init_78 rfl (fun q22 => ?_)
  refine cb_dup (n := 82) hX rfl dX1_init_81 rfl ?_
  refine cb_callN (F' := [(h0, .inr (1, [.ref told, .int 0, .int 0, .ref q1, .ref q2, .int 0, .ref q4, .ref q5, .ref q6, .ref q7, .int 0, .int 0, .int 0, .int 0, .int 0, .int 0])), (q1, eI Ξ.1 8), (q2, .inr (0, [.ref q3, .int 0])), (q3, eI Ξ.1 29), (q4, eQ Ξ.1 5 10 [r4 0, r4 1, r4 2, r4 3, r4 4, r4 5, r4 6, r4 7, r4 8, r4 9]), (r4 0, eI Ξ.1 8), (r4 1, eI Ξ.1 8), (r4 2, eI Ξ.1 8), (r4 3, eI Ξ.1 8), (r4 4, eI Ξ.1 8), (r4 5, eI Ξ.1 8), (r4 6, eI Ξ.1 8), (r4 7, eI Ξ.1 8), (r4 8, eI Ξ.1 8), (r4 9, eI Ξ.1 8), (q5, eI Ξ.1 10), (q6, eI Ξ.1 10), (q7, eQ Ξ.1 4 10 [q8, q10, q12, q14, q16, q18, q20]), (q8, .inr (0, [.ref q9, .int 0])), (q9, eI Ξ.1 29), (q10, .inr (0, [.ref q11, .int 0])), (q11, eI Ξ.1 29), (q12, .inr (0, [.ref q13, .int 0])), (q13, eI Ξ.1 29), (q14, .inr (0, [.ref q15, .int 0])), (q15, eI Ξ.1 29), (q16, .inr (0, [.ref q17, .int 0])), (q17, eI Ξ.1 29), (q18, .inr (0, [.ref q19, .int 0])), (q19, eI Ξ.1 29), (q20, .inr (0, [.ref q21, .int 0])), (q21, eI Ξ.1 29)]) (As := []) (st := [.ref q22, .int 7, .ref q7]) (c1 := 33) (s1 := 407) (n := 85) hX hR (fun sz => c_X0 Γ.2.1 Ξ.2.1 Ξ.1 q22 sz) ci_X0 (nw_3 hX.2.2.2.2.2.1) rfl ⟨rfl, rfl⟩ rfl rfl rfl rfl rfl dX1_init_82 rfl rfl rfl (fun w hw => ?_)
  obtain ⟨q23, rfl⟩ := hw
  refine cb_aastL (i := 17) (i2 := 32) (l' := [q8, q10, q12, q14, q16, q18, q20, q22]) (F' := [(h0, .inr (1, [.ref told, .int 0, .int 0, .ref q1, .ref q2, .int 0, .ref q4, .ref q5, .ref q6, .ref q7, .int 0, .int 0, .int 0, .int 0, .int 0, .int 0])), (q1, eI Ξ.1 8), (q2, .inr (0, [.ref q3, .int 0])), (q3, eI Ξ.1 29), (q4, eQ Ξ.1 5 10 [r4 0, r4 1, r4 2, r4 3, r4 4, r4 5, r4 6, r4 7, r4 8, r4 9]), (r4 0, eI Ξ.1 8), (r4 1, eI Ξ.1 8), (r4 2, eI Ξ.1 8), (r4 3, eI Ξ.1 8), (r4 4, eI Ξ.1 8), (r4 5, eI Ξ.1 8), (r4 6, eI Ξ.1 8), (r4 7, eI Ξ.1 8), (r4 8, eI Ξ.1 8), (r4 9, eI Ξ.1 8), (q5, eI Ξ.1 10), (q6, eI Ξ.1 10), (q7, eQ Ξ.1 4 10 [q8, q10, q12, q14, q16, q18, q20, q22]), (q8, .inr (0, [.ref q9, .int 0])), (q9, eI Ξ.1 29), (q10, .inr (0, [.ref q11, .int 0])), (q11, eI Ξ.1 29), (q12, .inr (0, [.ref q13, .int 0])), (q13, eI Ξ.1 29), (q14, .inr (0, [.ref q15, .int 0])), (q15, eI Ξ.1 29), (q16, .inr (0, [.ref q17, .int 0])), (q17, eI Ξ.1 29), (q18, .inr (0, [.ref q19, .int 0])), (q19, eI Ξ.1 29), (q20, .inr (0, [.ref q21, .int 0])), (q21, eI Ξ.1 29), (q22, .inr (0, [.ref q23, .int 0])), (q23, eI Ξ.1 29)]) (n := 86) hX 4 rfl rfl rfl kc_X0 (by decide) rfl rfl rfl dX1_init_85 rfl ?_
  refine cb_iinc (y := (8 : Int32)) (z := (1 : Int32)) (n := 89) hX 0 [(2, .int 8), (0, .ref h0), (1, .ref told)] dX1_init_86 rfl rfl rfl (by decide) rfl rfl ?_
  refine cb_goto (n := 67) hX dX1_init_89 (by decide) ?_
  refine cb_iload_n (n := 68) hX 0 dX1_init_67 rfl rfl rfl ?_
  refine cb_bipush (x := (10 : Int32)) (n := 70) hX rfl dX1_init_68 rfl ?_
  refine cb_ge (tgt := 92) (n := 73) hX dX1_init_70 (by decide) rfl (fun h => absurd h (by decide)) (fun _ => ?_)
  refine cb_aload_n (n := 74) hX 1 dX1_init_73 rfl rfl rfl ?_
  refine cb_get (i := 0) (n := 77) hX 9 kc_X1 rfl rfl fl_X1_33 rfl dX1_init_74 rfl ?_
  refine cb_iload_n (n := 78) hX 0 dX1_init_77 rfl rfl rfl ?_
  refine cb_new (fs := [.null, .int 0]) (c1 := 34) (s1 := 409) (n := 81) hX hR kc_X0 w_c4 w_n0 mi_X0_init.2.1 df_X0 rfl rfl rfl rfl dX1_init_78 rfl (fun q24 => ?_)
  refine cb_dup (n := 82) hX rfl dX1_init_81 rfl ?_
  refine cb_callN (F' := [(h0, .inr (1, [.ref told, .int 0, .int 0, .ref q1, .ref q2, .int 0, .ref q4, .ref q5, .ref q6, .ref q7, .int 0, .int 0, .int 0, .int 0, .int 0, .int 0])), (q1, eI Ξ.1 8), (q2, .inr (0, [.ref q3, .int 0])), (q3, eI Ξ.1 29), (q4, eQ Ξ.1 5 10 [r4 0, r4 1, r4 2, r4 3, r4 4, r4 5, r4 6, r4 7, r4 8, r4 9]), (r4 0, eI Ξ.1 8), (r4 1, eI Ξ.1 8), (r4 2, eI Ξ.1 8), (r4 3, eI Ξ.1 8), (r4 4, eI Ξ.1 8), (r4 5, eI Ξ.1 8), (r4 6, eI Ξ.1 8), (r4 7, eI Ξ.1 8), (r4 8, eI Ξ.1 8), (r4 9, eI Ξ.1 8), (q5, eI Ξ.1 10), (q6, eI Ξ.1 10), (q7, eQ Ξ.1 4 10 [q8, q10, q12, q14, q16, q18, q20, q22]), (q8, .inr (0, [.ref q9, .int 0])), (q9, eI Ξ.1 29), (q10, .inr (0, [.ref q11, .int 0])), (q11, eI Ξ.1 29), (q12, .inr (0, [.ref q13, .int 0])), (q13, eI Ξ.1 29), (q14, .inr (0, [.ref q15, .int 0])), (q15, eI Ξ.1 29), (q16, .inr (0, [.ref q17, .int 0])), (q17, eI Ξ.1 29), (q18, .inr (0, [.ref q19, .int 0])), (q19, eI Ξ.1 29), (q20, .inr (0, [.ref q21, .int 0])), (q21, eI Ξ.1 29), (q22, .inr (0, [.ref q23, .int 0])), (q23, eI Ξ.1 29)]) (As := []) (st := [.ref q24, .int 8, .ref q7]) (c1 := 35) (s1 := 438) (n := 85) hX hR (fun sz => c_X0 Γ.2.1 Ξ.2.1 Ξ.1 q24 sz) ci_X0 (nw_3 hX.2.2.2.2.2.1) rfl ⟨rfl, rfl⟩ rfl rfl rfl rfl rfl dX1_init_82 rfl rfl rfl (fun w hw => ?_)
  obtain ⟨q25, rfl⟩ := hw
  refine cb_aastL (i := 17) (i2 := 34) (l' := [q8, q10, q12, q14, q16, q18, q20, q22, q24]) (F' := [(h0, .inr (1, [.ref told, .int 0, .int 0, .ref q1, .ref q2, .int 0, .ref q4, .ref q5, .ref q6, .ref q7, .int 0, .int 0, .int 0, .int 0, .int 0, .int 0])), (q1, eI Ξ.1 8), (q2, .inr (0, [.ref q3, .int 0])), (q3, eI Ξ.1 29), (q4, eQ Ξ.1 5 10 [r4 0, r4 1, r4 2, r4 3, r4 4, r4 5, r4 6, r4 7, r4 8, r4 9]), (r4 0, eI Ξ.1 8), (r4 1, eI Ξ.1 8), (r4 2, eI Ξ.1 8), (r4 3, eI Ξ.1 8), (r4 4, eI Ξ.1 8), (r4 5, eI Ξ.1 8), (r4 6, eI Ξ.1 8), (r4 7, eI Ξ.1 8), (r4 8, eI Ξ.1 8), (r4 9, eI Ξ.1 8), (q5, eI Ξ.1 10), (q6, eI Ξ.1 10), (q7, eQ Ξ.1 4 10 [q8, q10, q12, q14, q16, q18, q20, q22, q24]), (q8, .inr (0, [.ref q9, .int 0])), (q9, eI Ξ.1 29), (q10, .inr (0, [.ref q11, .int 0])), (q11, eI Ξ.1 29), (q12, .inr (0, [.ref q13, .int 0])), (q13, eI Ξ.1 29), (q14, .inr (0, [.ref q15, .int 0])), (q15, eI Ξ.1 29), (q16, .inr (0, [.ref q17, .int 0])), (q17, eI Ξ.1 29), (q18, .inr (0, [.ref q19, .int 0])), (q19, eI Ξ.1 29), (q20, .inr (0, [.ref q21, .int 0])), (q21, eI Ξ.1 29), (q22, .inr (0, [.ref q23, .int 0])), (q23, eI Ξ.1 29), (q24, .inr (0, [.ref q25, .int 0])), (q25, eI Ξ.1 29)]) (n := 86) hX 4 rfl rfl rfl kc_X0 (by decide) rfl rfl rfl dX1_init_85 rfl ?_
  refine cb_iinc (y := (9 : Int32)) (z := (1 : Int32)) (n := 89) hX 0 [(2, .int 9), (0, .ref h0), (1, .ref told)] dX1_init_86 rfl rfl rfl (by decide) rfl rfl ?_
  refine cb_goto (n := 67) hX dX1_init_89 (by decide) ?_
  refine cb_iload_n (n := 68) hX 0 dX1_init_67 rfl rfl rfl ?_
  refine cb_bipush (x := (10 : Int32)) (n := 70) hX rfl dX1_init_68 rfl ?_
  refine cb_ge (tgt := 92) (n := 73) hX dX1_init_70 (by decide) rfl (fun h => absurd h (by decide)) (fun _ => ?_)
  refine cb_aload_n (n := 74) hX 1 dX1_init_73 rfl rfl rfl ?_
  refine cb_get (i := 0) (n := 77) hX 9 kc_X1 rfl rfl fl_X1_33 rfl dX1_init_74 rfl ?_
  refine cb_iload_n (n := 78) hX 0 dX1_init_77 rfl rfl rfl ?_
  refine cb_new (fs := [.null, .int 0]) (c1 := 36) (s1 := 440) (n := 81) hX hR kc_X0 w_c4 w_n0 mi_X0_init.2.1 df_X0 rfl rfl rfl rfl dX1_init_78 rfl (fun q26 => ?_)
  refine cb_dup (n := 82) hX rfl dX1_init_81 rfl ?_
  refine cb_callN (F' := [(h0, .inr (1, [.ref told, .int 0, .int 0, .ref q1, .ref q2, .int 0, .ref q4, .ref q5, .ref q6, .ref q7, .int 0, .int 0, .int 0, .int 0, .int 0, .int 0])), (q1, eI Ξ.1 8), (q2, .inr (0, [.ref q3, .int 0])), (q3, eI Ξ.1 29), (q4, eQ Ξ.1 5 10 [r4 0, r4 1, r4 2, r4 3, r4 4, r4 5, r4 6, r4 7, r4 8, r4 9]), (r4 0, eI Ξ.1 8), (r4 1, eI Ξ.1 8), (r4 2, eI Ξ.1 8), (r4 3, eI Ξ.1 8), (r4 4, eI Ξ.1 8), (r4 5, eI Ξ.1 8), (r4 6, eI Ξ.1 8), (r4 7, eI Ξ.1 8), (r4 8, eI Ξ.1 8), (r4 9, eI Ξ.1 8), (q5, eI Ξ.1 10), (q6, eI Ξ.1 10), (q7, eQ Ξ.1 4 10 [q8, q10, q12, q14, q16, q18, q20, q22, q24]), (q8, .inr (0, [.ref q9, .int 0])), (q9, eI Ξ.1 29), (q10, .inr (0, [.ref q11, .int 0])), (q11, eI Ξ.1 29), (q12, .inr (0, [.ref q13, .int 0])), (q13, eI Ξ.1 29), (q14, .inr (0, [.ref q15, .int 0])), (q15, eI Ξ.1 29), (q16, .inr (0, [.ref q17, .int 0])), (q17, eI Ξ.1 29), (q18, .inr (0, [.ref q19, .int 0])), (q19, eI Ξ.1 29), (q20, .inr (0, [.ref q21, .int 0])), (q21, eI Ξ.1 29), (q22, .inr (0, [.ref q23, .int 0])), (q23, eI Ξ.1 29), (q24, .inr (0, [.ref q25, .int 0])), (q25, eI Ξ.1 29)]) (As := []) (st := [.ref q26, .int 9, .ref q7]) (c1 := 37) (s1 := 469) (n := 85) hX hR (fun sz => c_X0 Γ.2.1 Ξ.2.1 Ξ.1 q26 sz) ci_X0 (nw_3 hX.2.2.2.2.2.1) rfl ⟨rfl, rfl⟩ rfl rfl rfl rfl rfl dX1_init_82 rfl rfl rfl (fun w hw => ?_)
  obtain ⟨q27, rfl⟩ := hw
  refine cb_aastL (i := 17) (i2 := 36) (l' := [q8, q10, q12, q14, q16, q18, q20, q22, q24, q26]) (F' := [(h0, .inr (1, [.ref told, .int 0, .int 0, .ref q1, .ref q2, .int 0, .ref q4, .ref q5, .ref q6, .ref q7, .int 0, .int 0, .int 0, .int 0, .int 0, .int 0])), (q1, eI Ξ.1 8), (q2, .inr (0, [.ref q3, .int 0])), (q3, eI Ξ.1 29), (q4, eQ Ξ.1 5 10 [r4 0, r4 1, r4 2, r4 3, r4 4, r4 5, r4 6, r4 7, r4 8, r4 9]), (r4 0, eI Ξ.1 8), (r4 1, eI Ξ.1 8), (r4 2, eI Ξ.1 8), (r4 3, eI Ξ.1 8), (r4 4, eI Ξ.1 8), (r4 5, eI Ξ.1 8), (r4 6, eI Ξ.1 8), (r4 7, eI Ξ.1 8), (r4 8, eI Ξ.1 8), (r4 9, eI Ξ.1 8), (q5, eI Ξ.1 10), (q6, eI Ξ.1 10), (q7, eQ Ξ.1 4 10 [q8, q10, q12, q14, q16, q18, q20, q22, q24, q26]), (q8, .inr (0, [.ref q9, .int 0])), (q9, eI Ξ.1 29), (q10, .inr (0, [.ref q11, .int 0])), (q11, eI Ξ.1 29), (q12, .inr (0, [.ref q13, .int 0])), (q13, eI Ξ.1 29), (q14, .inr (0, [.ref q15, .int 0])), (q15, eI Ξ.1 29), (q16, .inr (0, [.ref q17, .int 0])), (q17, eI Ξ.1 29), (q18, .inr (0, [.ref q19, .int 0])), (q19, eI Ξ.1 29), (q20, .inr (0, [.ref q21, .int 0])), (q21, eI Ξ.1 29), (q22, .inr (0, [.ref q23, .int 0])), (q23, eI Ξ.1 29), (q24, .inr (0, [.ref q25, .int 0])), (q25, eI Ξ.1 29), (q26, .inr (0, [.ref q27, .int 0])), (q27, eI Ξ.1 29)]) (n := 86) hX 4 rfl rfl rfl kc_X0 (by decide) rfl rfl rfl dX1_init_85 rfl ?_
  refine cb_iinc (y := (10 : Int32)) (z := (1 : Int32)) (n := 89) hX 0 [(2, .int 10), (0, .ref h0), (1, .ref told)] dX1_init_86 rfl rfl rfl (by decide) rfl rfl ?_
  refine cb_goto (n := 67) hX dX1_init_89 (by decide) ?_
  refine cb_iload_n (n := 68) hX 0 dX1_init_67 rfl rfl rfl ?_
  refine cb_bipush (x := (10 : Int32)) (n := 70) hX rfl dX1_init_68 rfl ?_
  refine cb_ge (tgt := 92) (n := 73) hX dX1_init_70 (by decide) rfl (fun _ => ?_) (fun h => absurd (by decide) h)
  exact cb_ret hX hr hlk rfl rfl dX1_init_92 ⟨fun k => [h0, q1, q2, q3, q4, r4 0, r4 1, r4 2, r4 3, r4 4, r4 5, r4 6, r4 7, r4 8, r4 9, q5, q6, q7, q8, q9, q10, q11, q12, q13, q14, q15, q16, q17, q18, q19, q20, q21, q22, q23, q24, q25, q26, q27].getD k 0, rfl⟩
theorem c_X1 (l : Launch) (D : va_G) (ty : Nat → ClassId) (h0 : Nat) (told : Nat) (sz : Nat) : cx_M l D ty yX1_init cX1_init 3 2 37 469 [.ref h0, .ref told] [(h0, .inr (1, [.null, .int 0, .int 0, .null, .null, .int 0, .null, .null, .null, .null, .int 0, .int 0, .int 0, .int 0, .int 0, .int 0]))] sz (P_X1 ty h0 told) := cx_start (lv := [(0, .ref h0), (1, .ref told)]) (by decide +kernel) (Nat.le_of_ble_eq_true rfl) rfl (fun Γ _ hR hX hr hlk hin => k_X1 hX hR hr hlk hin h0 told)
