/-! CONSTRUCTORS: the reference -/
def v0m : gV := (fun q => if q = 0 then (fun j => if j = 13 then -1 else 0) else if q = 1 then (upd (upd (upd (upd (fun _ => 0) 0 (-1)) 1 (-1)) 2 (-1)) 3 (-1)) else if q = 9 then (upd (upd (upd (upd (upd (upd (upd (upd (fun _ => 0) 0 1) 1 2) 2 3) 3 4) 4 5) 5 6) 6 7) 7 8) else if q = 10 then (upd (upd (fun _ => 0) 0 2) 1 32) else fun _ => 0, fun _ _ => 0)
def mdσ (h0 : Nat) (σ : Nat → Nat) : Nat → Nat := fun k => if k = 0 then h0 else σ k
def P_X8 (ty : Nat → ClassId) (h0 : Nat) (w : va_W) : Prop := ∃ σ, w = gx_l (mdσ h0 σ) ty v0m 0 LM
set_option maxHeartbeats 4000000 in
set_option maxRecDepth 100000 in
theorem k_X8 {Γ : gC} {Ξ : cO} (hX : cx_X Γ Ξ cX8_init RX8 2) (hR : Γ.2.2.2.1 = cx_R 1 20 1053) (hr : Γ.2.2.2.2.2.2.2.2.1.sig.returnType = none) (hlk : Γ.2.2.2.2.2.2.2.2.1.locks = false) (hin : Γ.2.2.2.2.2.2.2.2.1.name = "<init>") (h0 : Nat) : cx_G Γ Ξ (cx_Q Γ Ξ 20 1053 (P_X8 Ξ.1 h0)) 2 0 0 [(h0, .inr (8, [.null, .null, .null, .null, .int 0, .null, .null, .int 0, .null, .int 0, .null, .null, .null, .int 0, .null, .null, .int 0, .int 0, .null, .null, .null, .null, .null, .null, .int 0, .int 0, .int 0, .null, .null, .int 0]))] [] 0 [(0, .ref h0)] [] := by
  refine cb_aload_n (n := 1) hX 0 dX8_init_0 rfl rfl rfl ?_
  refine cb_obj (d := 0) (n := 4) hX hR ml_X8_1 dX8_init_1 rfl ?_
  refine cb_aload_n (n := 5) hX 0 dX8_init_4 rfl rfl rfl ?_
  refine cb_iconst (x := (4 : Int32)) (n := 6) hX rfl dX8_init_5 rfl ?_
  refine cb_newi (N := 4) (c1 := 1) (s1 := 4) (n := 8) hX hR (by decide) (by decide) rfl rfl rfl rfl rfl dX8_init_6 rfl (fun q1 => ?_)
  refine cb_putF (i := 0) (F' := [(h0, .inr (8, [.ref q1, .null, .null, .null, .int 0, .null, .null, .int 0, .null, .int 0, .null, .null, .null, .int 0, .null, .null, .int 0, .int 0, .null, .null, .null, .null, .null, .null, .int 0, .int 0, .int 0, .null, .null, .int 0])), (q1, eI Ξ.1 4)]) (n := 11) hX hin 0 kc_X8 rfl rfl fl_X8_7 rfl rfl (tyX8_ok 0 (by omega)) rfl rfl rfl rfl dX8_init_8 rfl ?_
  refine cb_aload_n (n := 12) hX 0 dX8_init_11 rfl rfl rfl ?_
  refine cb_iconst (x := (4 : Int32)) (n := 13) hX rfl dX8_init_12 rfl ?_
  refine cb_newi (N := 4) (c1 := 2) (s1 := 8) (n := 15) hX hR (by decide) (by decide) rfl rfl rfl rfl rfl dX8_init_13 rfl (fun q2 => ?_)
  refine cb_putF (i := 0) (F' := [(h0, .inr (8, [.ref q1, .ref q2, .null, .null, .int 0, .null, .null, .int 0, .null, .int 0, .null, .null, .null, .int 0, .null, .null, .int 0, .int 0, .null, .null, .null, .null, .null, .null, .int 0, .int 0, .int 0, .null, .null, .int 0])), (q1, eI Ξ.1 4), (q2, eI Ξ.1 4)]) (n := 18) hX hin 1 kc_X8 rfl rfl fl_X8_13 rfl rfl (tyX8_ok 1 (by omega)) rfl rfl rfl rfl dX8_init_15 rfl ?_
  refine cb_aload_n (n := 19) hX 0 dX8_init_18 rfl rfl rfl ?_
  refine cb_sipush (x := (240 : Int32)) (n := 22) hX rfl dX8_init_19 rfl ?_
  refine cb_newi (N := 240) (c1 := 3) (s1 := 248) (n := 24) hX hR (by decide) (by decide) rfl rfl rfl rfl rfl dX8_init_22 rfl (fun q3 => ?_)
  refine cb_putF (i := 0) (F' := [(h0, .inr (8, [.ref q1, .ref q2, .ref q3, .null, .int 0, .null, .null, .int 0, .null, .int 0, .null, .null, .null, .int 0, .null, .null, .int 0, .int 0, .null, .null, .null, .null, .null, .null, .int 0, .int 0, .int 0, .null, .null, .int 0])), (q1, eI Ξ.1 4), (q2, eI Ξ.1 4), (q3, eI Ξ.1 240)]) (n := 27) hX hin 2 kc_X8 rfl rfl fl_X8_16 rfl rfl (tyX8_ok 2 (by omega)) rfl rfl rfl rfl dX8_init_24 rfl ?_
  refine cb_aload_n (n := 28) hX 0 dX8_init_27 rfl rfl rfl ?_
  refine cb_bipush (x := (60 : Int32)) (n := 30) hX rfl dX8_init_28 rfl ?_
  refine cb_newi (N := 60) (c1 := 4) (s1 := 308) (n := 32) hX hR (by decide) (by decide) rfl rfl rfl rfl rfl dX8_init_30 rfl (fun q4 => ?_)
  refine cb_putF (i := 0) (F' := [(h0, .inr (8, [.ref q1, .ref q2, .ref q3, .ref q4, .int 0, .null, .null, .int 0, .null, .int 0, .null, .null, .null, .int 0, .null, .null, .int 0, .int 0, .null, .null, .null, .null, .null, .null, .int 0, .int 0, .int 0, .null, .null, .int 0])), (q1, eI Ξ.1 4), (q2, eI Ξ.1 4), (q3, eI Ξ.1 240), (q4, eI Ξ.1 60)]) (n := 35) hX hin 3 kc_X8 rfl rfl fl_X8_19 rfl rfl (tyX8_ok 3 (by omega)) rfl rfl rfl rfl dX8_init_32 rfl ?_
  refine cb_aload_n (n := 36) hX 0 dX8_init_35 rfl rfl rfl ?_
  refine cb_bipush (x := (80 : Int32)) (n := 38) hX rfl dX8_init_36 rfl ?_
  refine cb_newi (N := 80) (c1 := 5) (s1 := 388) (n := 40) hX hR (by decide) (by decide) rfl rfl rfl rfl rfl dX8_init_38 rfl (fun q5 => ?_)
  refine cb_putF (i := 0) (F' := [(h0, .inr (8, [.ref q1, .ref q2, .ref q3, .ref q4, .int 0, .ref q5, .null, .int 0, .null, .int 0, .null, .null, .null, .int 0, .null, .null, .int 0, .int 0, .null, .null, .null, .null, .null, .null, .int 0, .int 0, .int 0, .null, .null, .int 0])), (q1, eI Ξ.1 4), (q2, eI Ξ.1 4), (q3, eI Ξ.1 240), (q4, eI Ξ.1 60), (q5, eI Ξ.1 80)]) (n := 43) hX hin 5 kc_X8 rfl rfl fl_X8_22 rfl rfl (tyX8_ok 5 (by omega)) rfl rfl rfl rfl dX8_init_40 rfl ?_
  refine cb_aload_n (n := 44) hX 0 dX8_init_43 rfl rfl rfl ?_
  refine cb_iconst (x := (2 : Int32)) (n := 45) hX rfl dX8_init_44 rfl ?_
  refine cb_newi (N := 2) (c1 := 6) (s1 := 390) (n := 47) hX hR (by decide) (by decide) rfl rfl rfl rfl rfl dX8_init_45 rfl (fun q6 => ?_)
  refine cb_putF (i := 0) (F' := [(h0, .inr (8, [.ref q1, .ref q2, .ref q3, .ref q4, .int 0, .ref q5, .ref q6, .int 0, .null, .int 0, .null, .null, .null, .int 0, .null, .null, .int 0, .int 0, .null, .null, .null, .null, .null, .null, .int 0, .int 0, .int 0, .null, .null, .int 0])), (q1, eI Ξ.1 4), (q2, eI Ξ.1 4), (q3, eI Ξ.1 240), (q4, eI Ξ.1 60), (q5, eI Ξ.1 80), (q6, eI Ξ.1 2)]) (n := 50) hX hin 6 kc_X8 rfl rfl fl_X8_25 rfl rfl (tyX8_ok 6 (by omega)) rfl rfl rfl rfl dX8_init_47 rfl ?_
  refine cb_aload_n (n := 51) hX 0 dX8_init_50 rfl rfl rfl ?_
  refine cb_bipush (x := (32 : Int32)) (n := 53) hX rfl dX8_init_51 rfl ?_
  refine cb_newi (N := 32) (c1 := 7) (s1 := 422) (n := 55) hX hR (by decide) (by decide) rfl rfl rfl rfl rfl dX8_init_53 rfl (fun q7 => ?_)
  refine cb_putF (i := 0) (F' := [(h0, .inr (8, [.ref q1, .ref q2, .ref q3, .ref q4, .int 0, .ref q5, .ref q6, .int 0, .ref q7, .int 0, .null, .null, .null, .int 0, .null, .null, .int 0, .int 0, .null, .null, .null, .null, .null, .null, .int 0, .int 0, .int 0, .null, .null, .int 0])), (q1, eI Ξ.1 4), (q2, eI Ξ.1 4), (q3, eI Ξ.1 240), (q4, eI Ξ.1 60), (q5, eI Ξ.1 80), (q6, eI Ξ.1 2), (q7, eI Ξ.1 32)]) (n := 58) hX hin 8 kc_X8 rfl rfl fl_X8_28 rfl rfl (tyX8_ok 8 (by omega)) rfl rfl rfl rfl dX8_init_55 rfl ?_
  refine cb_aload_n (n := 59) hX 0 dX8_init_58 rfl rfl rfl ?_
  refine cb_bipush (x := (16 : Int32)) (n := 61) hX rfl dX8_init_59 rfl ?_
  refine cb_newi (N := 16) (c1 := 8) (s1 := 438) (n := 63) hX hR (by decide) (by decide) rfl rfl rfl rfl rfl dX8_init_61 rfl (fun q8 => ?_)
  refine cb_putF (i := 0) (F' := [(h0, .inr (8, [.ref q1, .ref q2, .ref q3, .ref q4, .int 0, .ref q5, .ref q6, .int 0, .ref q7, .int 0, .ref q8, .null, .null, .int 0, .null, .null, .int 0, .int 0, .null, .null, .null, .null, .null, .null, .int 0, .int 0, .int 0, .null, .null, .int 0])), (q1, eI Ξ.1 4), (q2, eI Ξ.1 4), (q3, eI Ξ.1 240), (q4, eI Ξ.1 60), (q5, eI Ξ.1 80), (q6, eI Ξ.1 2), (q7, eI Ξ.1 32), (q8, eI Ξ.1 16)]) (n := 66) hX hin 10 kc_X8 rfl rfl fl_X8_31 rfl rfl (tyX8_ok 10 (by omega)) rfl rfl rfl rfl dX8_init_63 rfl ?_
  refine cb_aload_n (n := 67) hX 0 dX8_init_66 rfl rfl rfl ?_
  refine cb_bipush (x := (8 : Int32)) (n := 69) hX rfl dX8_init_67 rfl ?_
  refine cb_newi (N := 8) (c1 := 9) (s1 := 446) (n := 71) hX hR (by decide) (by decide) rfl rfl rfl rfl rfl dX8_init_69 rfl (fun q9 => ?_)
  refine cb_putF (i := 0) (F' := [(h0, .inr (8, [.ref q1, .ref q2, .ref q3, .ref q4, .int 0, .ref q5, .ref q6, .int 0, .ref q7, .int 0, .ref q8, .ref q9, .null, .int 0, .null, .null, .int 0, .int 0, .null, .null, .null, .null, .null, .null, .int 0, .int 0, .int 0, .null, .null, .int 0])), (q1, eI Ξ.1 4), (q2, eI Ξ.1 4), (q3, eI Ξ.1 240), (q4, eI Ξ.1 60), (q5, eI Ξ.1 80), (q6, eI Ξ.1 2), (q7, eI Ξ.1 32), (q8, eI Ξ.1 16), (q9, eI Ξ.1 8)]) (n := 74) hX hin 11 kc_X8 rfl rfl fl_X8_34 rfl rfl (tyX8_ok 11 (by omega)) rfl rfl rfl rfl dX8_init_71 rfl ?_
  refine cb_aload_n (n := 75) hX 0 dX8_init_74 rfl rfl rfl ?_
  refine cb_iconst (x := (3 : Int32)) (n := 76) hX rfl dX8_init_75 rfl ?_
  refine cb_newi (N := 3) (c1 := 10) (s1 := 449) (n := 78) hX hR (by decide) (by decide) rfl rfl rfl rfl rfl dX8_init_76 rfl (fun q10 => ?_)
  refine cb_putF (i := 0) (F' := [(h0, .inr (8, [.ref q1, .ref q2, .ref q3, .ref q4, .int 0, .ref q5, .ref q6, .int 0, .ref q7, .int 0, .ref q8, .ref q9, .ref q10, .int 0, .null, .null, .int 0, .int 0, .null, .null, .null, .null, .null, .null, .int 0, .int 0, .int 0, .null, .null, .int 0])), (q1, eI Ξ.1 4), (q2, eI Ξ.1 4), (q3, eI Ξ.1 240), (q4, eI Ξ.1 60), (q5, eI Ξ.1 80), (q6, eI Ξ.1 2), (q7, eI Ξ.1 32), (q8, eI Ξ.1 16), (q9, eI Ξ.1 8), (q10, eI Ξ.1 3)]) (n := 81) hX hin 12 kc_X8 rfl rfl fl_X8_37 rfl rfl (tyX8_ok 12 (by omega)) rfl rfl rfl rfl dX8_init_78 rfl ?_
  refine cb_aload_n (n := 82) hX 0 dX8_init_81 rfl rfl rfl ?_
  refine cb_bipush (x := (8 : Int32)) (n := 84) hX rfl dX8_init_82 rfl ?_
  refine cb_newi (N := 8) (c1 := 11) (s1 := 457) (n := 86) hX hR (by decide) (by decide) rfl rfl rfl rfl rfl dX8_init_84 rfl (fun q11 => ?_)
  refine cb_putF (i := 0) (F' := [(h0, .inr (8, [.ref q1, .ref q2, .ref q3, .ref q4, .int 0, .ref q5, .ref q6, .int 0, .ref q7, .int 0, .ref q8, .ref q9, .ref q10, .int 0, .ref q11, .null, .int 0, .int 0, .null, .null, .null, .null, .null, .null, .int 0, .int 0, .int 0, .null, .null, .int 0])), (q1, eI Ξ.1 4), (q2, eI Ξ.1 4), (q3, eI Ξ.1 240), (q4, eI Ξ.1 60), (q5, eI Ξ.1 80), (q6, eI Ξ.1 2), (q7, eI Ξ.1 32), (q8, eI Ξ.1 16), (q9, eI Ξ.1 8), (q10, eI Ξ.1 3), (q11, eI Ξ.1 8)]) (n := 89) hX hin 14 kc_X8 rfl rfl fl_X8_40 rfl rfl (tyX8_ok 14 (by omega)) rfl rfl rfl rfl dX8_init_86 rfl ?_
  refine cb_aload_n (n := 90) hX 0 dX8_init_89 rfl rfl rfl ?_
  refine cb_bipush (x := (8 : Int32)) (n := 92) hX rfl dX8_init_90 rfl ?_
  refine cb_newi (N := 8) (c1 := 12) (s1 := 465) (n := 94) hX hR (by decide) (by decide) rfl rfl rfl rfl rfl dX8_init_92 rfl (fun q12 => ?_)
  refine cb_putF (i := 0) (F' := [(h0, .inr (8, [.ref q1, .ref q2, .ref q3, .ref q4, .int 0, .ref q5, .ref q6, .int 0, .ref q7, .int 0, .ref q8, .ref q9, .ref q10, .int 0, .ref q11, .ref q12, .int 0, .int 0, .null, .null, .null, .null, .null, .null, .int 0, .int 0, .int 0, .null, .null, .int 0])), (q1, eI Ξ.1 4), (q2, eI Ξ.1 4), (q3, eI Ξ.1 240), (q4, eI Ξ.1 60), (q5, eI Ξ.1 80), (q6, eI Ξ.1 2), (q7, eI Ξ.1 32), (q8, eI Ξ.1 16), (q9, eI Ξ.1 8), (q10, eI Ξ.1 3), (q11, eI Ξ.1 8), (q12, eI Ξ.1 8)]) (n := 97) hX hin 15 kc_X8 rfl rfl fl_X8_43 rfl rfl (tyX8_ok 15 (by omega)) rfl rfl rfl rfl dX8_init_94 rfl ?_
  refine cb_aload_n (n := 98) hX 0 dX8_init_97 rfl rfl rfl ?_
  refine cb_bipush (x := (29 : Int32)) (n := 100) hX rfl dX8_init_98 rfl ?_
  refine cb_newi (N := 29) (c1 := 13) (s1 := 494) (n := 102) hX hR (by decide) (by decide) rfl rfl rfl rfl rfl dX8_init_100 rfl (fun q13 => ?_)
  refine cb_putF (i := 0) (F' := [(h0, .inr (8, [.ref q1, .ref q2, .ref q3, .ref q4, .int 0, .ref q5, .ref q6, .int 0, .ref q7, .int 0, .ref q8, .ref q9, .ref q10, .int 0, .ref q11, .ref q12, .int 0, .int 0, .ref q13, .null, .null, .null, .null, .null, .int 0, .int 0, .int 0, .null, .null, .int 0])), (q1, eI Ξ.1 4), (q2, eI Ξ.1 4), (q3, eI Ξ.1 240), (q4, eI Ξ.1 60), (q5, eI Ξ.1 80), (q6, eI Ξ.1 2), (q7, eI Ξ.1 32), (q8, eI Ξ.1 16), (q9, eI Ξ.1 8), (q10, eI Ξ.1 3), (q11, eI Ξ.1 8), (q12, eI Ξ.1 8), (q13, eI Ξ.1 29)]) (n := 105) hX hin 18 kc_X8 rfl rfl fl_X8_46 rfl rfl (tyX8_ok 18 (by omega)) rfl rfl rfl rfl dX8_init_102 rfl ?_
  refine cb_aload_n (n := 106) hX 0 dX8_init_105 rfl rfl rfl ?_
  refine cb_bipush (x := (80 : Int32)) (n := 108) hX rfl dX8_init_106 rfl ?_
  refine cb_newi (N := 80) (c1 := 14) (s1 := 574) (n := 110) hX hR (by decide) (by decide) rfl rfl rfl rfl rfl dX8_init_108 rfl (fun q14 => ?_)
  refine cb_putF (i := 0) (F' := [(h0, .inr (8, [.ref q1, .ref q2, .ref q3, .ref q4, .int 0, .ref q5, .ref q6, .int 0, .ref q7, .int 0, .ref q8, .ref q9, .ref q10, .int 0, .ref q11, .ref q12, .int 0, .int 0, .ref q13, .ref q14, .null, .null, .null, .null, .int 0, .int 0, .int 0, .null, .null, .int 0])), (q1, eI Ξ.1 4), (q2, eI Ξ.1 4), (q3, eI Ξ.1 240), (q4, eI Ξ.1 60), (q5, eI Ξ.1 80), (q6, eI Ξ.1 2), (q7, eI Ξ.1 32), (q8, eI Ξ.1 16), (q9, eI Ξ.1 8), (q10, eI Ξ.1 3), (q11, eI Ξ.1 8), (q12, eI Ξ.1 8), (q13, eI Ξ.1 29), (q14, eI Ξ.1 80)]) (n := 113) hX hin 19 kc_X8 rfl rfl fl_X8_49 rfl rfl (tyX8_ok 19 (by omega)) rfl rfl rfl rfl dX8_init_110 rfl ?_
  refine cb_aload_n (n := 114) hX 0 dX8_init_113 rfl rfl rfl ?_
  refine cb_bipush (x := (80 : Int32)) (n := 116) hX rfl dX8_init_114 rfl ?_
  refine cb_newi (N := 80) (c1 := 15) (s1 := 654) (n := 118) hX hR (by decide) (by decide) rfl rfl rfl rfl rfl dX8_init_116 rfl (fun q15 => ?_)
  refine cb_putF (i := 0) (F' := [(h0, .inr (8, [.ref q1, .ref q2, .ref q3, .ref q4, .int 0, .ref q5, .ref q6, .int 0, .ref q7, .int 0, .ref q8, .ref q9, .ref q10, .int 0, .ref q11, .ref q12, .int 0, .int 0, .ref q13, .ref q14, .ref q15, .null, .null, .null, .int 0, .int 0, .int 0, .null, .null, .int 0])), (q1, eI Ξ.1 4), (q2, eI Ξ.1 4), (q3, eI Ξ.1 240), (q4, eI Ξ.1 60), (q5, eI Ξ.1 80), (q6, eI Ξ.1 2), (q7, eI Ξ.1 32), (q8, eI Ξ.1 16), (q9, eI Ξ.1 8), (q10, eI Ξ.1 3), (q11, eI Ξ.1 8), (q12, eI Ξ.1 8), (q13, eI Ξ.1 29), (q14, eI Ξ.1 80), (q15, eI Ξ.1 80)]) (n := 121) hX hin 20 kc_X8 rfl rfl fl_X8_52 rfl rfl (tyX8_ok 20 (by omega)) rfl rfl rfl rfl dX8_init_118 rfl ?_
  refine cb_aload_n (n := 122) hX 0 dX8_init_121 rfl rfl rfl ?_
  refine cb_bipush (x := (10 : Int32)) (n := 124) hX rfl dX8_init_122 rfl ?_
  refine cb_newi (N := 10) (c1 := 16) (s1 := 664) (n := 126) hX hR (by decide) (by decide) rfl rfl rfl rfl rfl dX8_init_124 rfl (fun q16 => ?_)
  refine cb_putF (i := 0) (F' := [(h0, .inr (8, [.ref q1, .ref q2, .ref q3, .ref q4, .int 0, .ref q5, .ref q6, .int 0, .ref q7, .int 0, .ref q8, .ref q9, .ref q10, .int 0, .ref q11, .ref q12, .int 0, .int 0, .ref q13, .ref q14, .ref q15, .ref q16, .null, .null, .int 0, .int 0, .int 0, .null, .null, .int 0])), (q1, eI Ξ.1 4), (q2, eI Ξ.1 4), (q3, eI Ξ.1 240), (q4, eI Ξ.1 60), (q5, eI Ξ.1 80), (q6, eI Ξ.1 2), (q7, eI Ξ.1 32), (q8, eI Ξ.1 16), (q9, eI Ξ.1 8), (q10, eI Ξ.1 3), (q11, eI Ξ.1 8), (q12, eI Ξ.1 8), (q13, eI Ξ.1 29), (q14, eI Ξ.1 80), (q15, eI Ξ.1 80), (q16, eI Ξ.1 10)]) (n := 129) hX hin 21 kc_X8 rfl rfl fl_X8_55 rfl rfl (tyX8_ok 21 (by omega)) rfl rfl rfl rfl dX8_init_126 rfl ?_
  refine cb_aload_n (n := 130) hX 0 dX8_init_129 rfl rfl rfl ?_
  refine cb_sipush (x := (290 : Int32)) (n := 133) hX rfl dX8_init_130 rfl ?_
  refine cb_newi (N := 290) (c1 := 17) (s1 := 954) (n := 135) hX hR (by decide) (by decide) rfl rfl rfl rfl rfl dX8_init_133 rfl (fun q17 => ?_)
  refine cb_putF (i := 0) (F' := [(h0, .inr (8, [.ref q1, .ref q2, .ref q3, .ref q4, .int 0, .ref q5, .ref q6, .int 0, .ref q7, .int 0, .ref q8, .ref q9, .ref q10, .int 0, .ref q11, .ref q12, .int 0, .int 0, .ref q13, .ref q14, .ref q15, .ref q16, .ref q17, .null, .int 0, .int 0, .int 0, .null, .null, .int 0])), (q1, eI Ξ.1 4), (q2, eI Ξ.1 4), (q3, eI Ξ.1 240), (q4, eI Ξ.1 60), (q5, eI Ξ.1 80), (q6, eI Ξ.1 2), (q7, eI Ξ.1 32), (q8, eI Ξ.1 16), (q9, eI Ξ.1 8), (q10, eI Ξ.1 3), (q11, eI Ξ.1 8), (q12, eI Ξ.1 8), (q13, eI Ξ.1 29), (q14, eI Ξ.1 80), (q15, eI Ξ.1 80), (q16, eI Ξ.1 10), (q17, eI Ξ.1 290)]) (n := 138) hX hin 22 kc_X8 rfl rfl fl_X8_58 rfl rfl (tyX8_ok 22 (by omega)) rfl rfl rfl rfl dX8_init_135 rfl ?_
  refine cb_aload_n (n := 139) hX 0 dX8_init_138 rfl rfl rfl ?_
  refine cb_iconst (x := (3 : Int32)) (n := 140) hX rfl dX8_init_139 rfl ?_
  refine cb_newi (N := 3) (c1 := 18) (s1 := 957) (n := 142) hX hR (by decide) (by decide) rfl rfl rfl rfl rfl dX8_init_140 rfl (fun q18 => ?_)
  refine cb_putF (i := 0) (F' := [(h0, .inr (8, [.ref q1, .ref q2, .ref q3, .ref q4, .int 0, .ref q5, .ref q6, .int 0, .ref q7, .int 0, .ref q8, .ref q9, .ref q10, .int 0, .ref q11, .ref q12, .int 0, .int 0, .ref q13, .ref q14, .ref q15, .ref q16, .ref q17, .ref q18, .int 0, .int 0, .int 0, .null, .null, .int 0])), (q1, eI Ξ.1 4), (q2, eI Ξ.1 4), (q3, eI Ξ.1 240), (q4, eI Ξ.1 60), (q5, eI Ξ.1 80), (q6, eI Ξ.1 2), (q7, eI Ξ.1 32), (q8, eI Ξ.1 16), (q9, eI Ξ.1 8), (q10, eI Ξ.1 3), (q11, eI Ξ.1 8), (q12, eI Ξ.1 8), (q13, eI Ξ.1 29), (q14, eI Ξ.1 80), (q15, eI Ξ.1 80), (q16, eI Ξ.1 10), (q17, eI Ξ.1 290), (q18, eI Ξ.1 3)]) (n := 145) hX hin 23 kc_X8 rfl rfl fl_X8_61 rfl rfl (tyX8_ok 23 (by omega)) rfl rfl rfl rfl dX8_init_142 rfl ?_
  refine cb_aload_n (n := 146) hX 0 dX8_init_145 rfl rfl rfl ?_
  refine cb_bipush (x := (24 : Int32)) (n := 148) hX rfl dX8_init_146 rfl ?_
  refine cb_newi (N := 24) (c1 := 19) (s1 := 981) (n := 150) hX hR (by decide) (by decide) rfl rfl rfl rfl rfl dX8_init_148 rfl (fun q19 => ?_)
  refine cb_putF (i := 0) (F' := [(h0, .inr (8, [.ref q1, .ref q2, .ref q3, .ref q4, .int 0, .ref q5, .ref q6, .int 0, .ref q7, .int 0, .ref q8, .ref q9, .ref q10, .int 0, .ref q11, .ref q12, .int 0, .int 0, .ref q13, .ref q14, .ref q15, .ref q16, .ref q17, .ref q18, .int 0, .int 0, .int 0, .ref q19, .null, .int 0])), (q1, eI Ξ.1 4), (q2, eI Ξ.1 4), (q3, eI Ξ.1 240), (q4, eI Ξ.1 60), (q5, eI Ξ.1 80), (q6, eI Ξ.1 2), (q7, eI Ξ.1 32), (q8, eI Ξ.1 16), (q9, eI Ξ.1 8), (q10, eI Ξ.1 3), (q11, eI Ξ.1 8), (q12, eI Ξ.1 8), (q13, eI Ξ.1 29), (q14, eI Ξ.1 80), (q15, eI Ξ.1 80), (q16, eI Ξ.1 10), (q17, eI Ξ.1 290), (q18, eI Ξ.1 3), (q19, eI Ξ.1 24)]) (n := 153) hX hin 27 kc_X8 rfl rfl fl_X8_64 rfl rfl (tyX8_ok 27 (by omega)) rfl rfl rfl rfl dX8_init_150 rfl ?_
  refine cb_aload_n (n := 154) hX 0 dX8_init_153 rfl rfl rfl ?_
  refine cb_bipush (x := (72 : Int32)) (n := 156) hX rfl dX8_init_154 rfl ?_
  refine cb_newi (N := 72) (c1 := 20) (s1 := 1053) (n := 158) hX hR (by decide) (by decide) rfl rfl rfl rfl rfl dX8_init_156 rfl (fun q20 => ?_)
  refine cb_putF (i := 0) (F' := [(h0, .inr (8, [.ref q1, .ref q2, .ref q3, .ref q4, .int 0, .ref q5, .ref q6, .int 0, .ref q7, .int 0, .ref q8, .ref q9, .ref q10, .int 0, .ref q11, .ref q12, .int 0, .int 0, .ref q13, .ref q14, .ref q15, .ref q16, .ref q17, .ref q18, .int 0, .int 0, .int 0, .ref q19, .ref q20, .int 0])), (q1, eI Ξ.1 4), (q2, eI Ξ.1 4), (q3, eI Ξ.1 240), (q4, eI Ξ.1 60), (q5, eI Ξ.1 80), (q6, eI Ξ.1 2), (q7, eI Ξ.1 32), (q8, eI Ξ.1 16), (q9, eI Ξ.1 8), (q10, eI Ξ.1 3), (q11, eI Ξ.1 8), (q12, eI Ξ.1 8), (q13, eI Ξ.1 29), (q14, eI Ξ.1 80), (q15, eI Ξ.1 80), (q16, eI Ξ.1 10), (q17, eI Ξ.1 290), (q18, eI Ξ.1 3), (q19, eI Ξ.1 24), (q20, eI Ξ.1 72)]) (n := 161) hX hin 28 kc_X8 rfl rfl fl_X8_67 rfl rfl (tyX8_ok 28 (by omega)) rfl rfl rfl rfl dX8_init_158 rfl ?_
  refine cb_iconst (x := (0 : Int32)) (n := 162) hX rfl dX8_init_161 rfl ?_
  refine cb_istore_n (n := 163) hX [(1, .int 0), (0, .ref h0)] dX8_init_162 rfl rfl rfl rfl ?_
  refine cb_iload_n (n := 164) hX 0 dX8_init_163 rfl rfl rfl ?_
  refine cb_iconst (x := (4 : Int32)) (n := 165) hX rfl dX8_init_164 rfl ?_
  refine cb_ge (tgt := 181) (n := 168) hX dX8_init_165 (by decide) rfl (fun h => absurd h (by decide)) (fun _ => ?_)
  refine cb_aload_n (n := 169) hX 1 dX8_init_168 rfl rfl rfl ?_
  refine cb_get (i := 0) (n := 172) hX 0 kc_X8 rfl rfl fl_X8_7 rfl dX8_init_169 rfl ?_
  refine cb_iload_n (n := 173) hX 0 dX8_init_172 rfl rfl rfl ?_
  refine cb_iconst (x := (-1 : Int32)) (n := 174) hX rfl dX8_init_173 rfl ?_
  refine cb_iast (i := 1) (F' := [(h0, .inr (8, [.ref q1, .ref q2, .ref q3, .ref q4, .int 0, .ref q5, .ref q6, .int 0, .ref q7, .int 0, .ref q8, .ref q9, .ref q10, .int 0, .ref q11, .ref q12, .int 0, .int 0, .ref q13, .ref q14, .ref q15, .ref q16, .ref q17, .ref q18, .int 0, .int 0, .int 0, .ref q19, .ref q20, .int 0])), (q1, eF Ξ.1 4 (upd (fun _ => 0) 0 (-1))), (q2, eI Ξ.1 4), (q3, eI Ξ.1 240), (q4, eI Ξ.1 60), (q5, eI Ξ.1 80), (q6, eI Ξ.1 2), (q7, eI Ξ.1 32), (q8, eI Ξ.1 16), (q9, eI Ξ.1 8), (q10, eI Ξ.1 3), (q11, eI Ξ.1 8), (q12, eI Ξ.1 8), (q13, eI Ξ.1 29), (q14, eI Ξ.1 80), (q15, eI Ξ.1 80), (q16, eI Ξ.1 10), (q17, eI Ξ.1 290), (q18, eI Ξ.1 3), (q19, eI Ξ.1 24), (q20, eI Ξ.1 72)]) (n := 175) hX rfl (by decide) rfl dX8_init_174 rfl ?_
  refine cb_iinc (y := (1 : Int32)) (z := (1 : Int32)) (n := 178) hX 0 [(1, .int 1), (0, .ref h0)] dX8_init_175 rfl rfl rfl (by decide) rfl rfl ?_
  refine cb_goto (n := 163) hX dX8_init_178 (by decide) ?_
  refine cb_iload_n (n := 164) hX 0 dX8_init_163 rfl rfl rfl ?_
  refine cb_iconst (x := (4 : Int32)) (n := 165) hX rfl dX8_init_164 rfl ?_
  refine cb_ge (tgt := 181) (n := 168) hX dX8_init_165 (by decide) rfl (fun h => absurd h (by decide)) (fun _ => ?_)
  refine cb_aload_n (n := 169) hX 1 dX8_init_168 rfl rfl rfl ?_
  refine cb_get (i := 0) (n := 172) hX 0 kc_X8 rfl rfl fl_X8_7 rfl dX8_init_169 rfl ?_
  refine cb_iload_n (n := 173) hX 0 dX8_init_172 rfl rfl rfl ?_
  refine cb_iconst (x := (-1 : Int32)) (n := 174) hX rfl dX8_init_173 rfl ?_
  refine cb_iast (i := 1) (F' := [(h0, .inr (8, [.ref q1, .ref q2, .ref q3, .ref q4, .int 0, .ref q5, .ref q6, .int 0, .ref q7, .int 0, .ref q8, .ref q9, .ref q10, .int 0, .ref q11, .ref q12, .int 0, .int 0, .ref q13, .ref q14, .ref q15, .ref q16, .ref q17, .ref q18, .int 0, .int 0, .int 0, .ref q19, .ref q20, .int 0])), (q1, eF Ξ.1 4 (upd (upd (fun _ => 0) 0 (-1)) 1 (-1))), (q2, eI Ξ.1 4), (q3, eI Ξ.1 240), (q4, eI Ξ.1 60), (q5, eI Ξ.1 80), (q6, eI Ξ.1 2), (q7, eI Ξ.1 32), (q8, eI Ξ.1 16), (q9, eI Ξ.1 8), (q10, eI Ξ.1 3), (q11, eI Ξ.1 8), (q12, eI Ξ.1 8), (q13, eI Ξ.1 29), (q14, eI Ξ.1 80), (q15, eI Ξ.1 80), (q16, eI Ξ.1 10), (q17, eI Ξ.1 290), (q18, eI Ξ.1 3), (q19, eI Ξ.1 24), (q20, eI Ξ.1 72)]) (n := 175) hX rfl (by decide) rfl dX8_init_174 rfl ?_
  refine cb_iinc (y := (2 : Int32)) (z := (1 : Int32)) (n := 178) hX 0 [(1, .int 2), (0, .ref h0)] dX8_init_175 rfl rfl rfl (by decide) rfl rfl ?_
  refine cb_goto (n := 163) hX dX8_init_178 (by decide) ?_
  refine cb_iload_n (n := 164) hX 0 dX8_init_163 rfl rfl rfl ?_
  refine cb_iconst (x := (4 : Int32)) (n := 165) hX rfl dX8_init_164 rfl ?_
  refine cb_ge (tgt := 181) (n := 168) hX dX8_init_165 (by decide) rfl (fun h => absurd h (by decide)) (fun _ => ?_)
  refine cb_aload_n (n := 169) hX 1 dX8_init_168 rfl rfl rfl ?_
  refine cb_get (i := 0) (n := 172) hX 0 kc_X8 rfl rfl fl_X8_7 rfl dX8_init_169 rfl ?_
  refine cb_iload_n (n := 173) hX 0 dX8_init_172 rfl rfl rfl ?_
  refine cb_iconst (x := (-1 : Int32)) (n := 174) hX rfl dX8_init_173 rfl ?_
  refine cb_iast (i := 1) (F' := [(h0, .inr (8, [.ref q1, .ref q2, .ref q3, .ref q4, .int 0, .ref q5, .ref q6, .int 0, .ref q7, .int 0, .ref q8, .ref q9, .ref q10, .int 0, .ref q11, .ref q12, .int 0, .int 0, .ref q13, .ref q14, .ref q15, .ref q16, .ref q17, .ref q18, .int 0, .int 0, .int 0, .ref q19, .ref q20, .int 0])), (q1, eF Ξ.1 4 (upd (upd (upd (fun _ => 0) 0 (-1)) 1 (-1)) 2 (-1))), (q2, eI Ξ.1 4), (q3, eI Ξ.1 240), (q4, eI Ξ.1 60), (q5, eI Ξ.1 80), (q6, eI Ξ.1 2), (q7, eI Ξ.1 32), (q8, eI Ξ.1 16), (q9, eI Ξ.1 8), (q10, eI Ξ.1 3), (q11, eI Ξ.1 8), (q12, eI Ξ.1 8), (q13, eI Ξ.1 29), (q14, eI Ξ.1 80), (q15, eI Ξ.1 80), (q16, eI Ξ.1 10), (q17, eI Ξ.1 290), (q18, eI Ξ.1 3), (q19, eI Ξ.1 24), (q20, eI Ξ.1 72)]) (n := 175) hX rfl (by decide) rfl dX8_init_174 rfl ?_
  refine cb_iinc (y := (3 : Int32)) (z := (1 : Int32)) (n := 178) hX 0 [(1, .int 3), (0, .ref h0)] dX8_init_175 rfl rfl rfl (by decide) rfl rfl ?_
  refine cb_goto (n := 163) hX dX8_init_178 (by decide) ?_
  refine cb_iload_n (n := 164) hX 0 dX8_init_163 rfl rfl rfl ?_
  refine cb_iconst (x := (4 : Int32)) (n := 165) hX rfl dX8_init_164 rfl ?_
  refine cb_ge (tgt := 181) (n := 168) hX dX8_init_165 (by decide) rfl (fun h => absurd h (by decide)) (fun _ => ?_)
  refine cb_aload_n (n := 169) hX 1 dX8_init_168 rfl rfl rfl ?_
  refine cb_get (i := 0) (n := 172) hX 0 kc_X8 rfl rfl fl_X8_7 rfl dX8_init_169 rfl ?_
  refine cb_iload_n (n := 173) hX 0 dX8_init_172 rfl rfl rfl ?_
  refine cb_iconst (x := (-1 : Int32)) (n := 174) hX rfl dX8_init_173 rfl ?_
  refine cb_iast (i := 1) (F' := [(h0, .inr (8, [.ref q1, .ref q2, .ref q3, .ref q4, .int 0, .ref q5, .ref q6, .int 0, .ref q7, .int 0, .ref q8, .ref q9, .ref q10, .int 0, .ref q11, .ref q12, .int 0, .int 0, .ref q13, .ref q14, .ref q15, .ref q16, .ref q17, .ref q18, .int 0, .int 0, .int 0, .ref q19, .ref q20, .int 0])), (q1, eF Ξ.1 4 (upd (upd (upd (upd (fun _ => 0) 0 (-1)) 1 (-1)) 2 (-1)) 3 (-1))), (q2, eI Ξ.1 4), (q3, eI Ξ.1 240), (q4, eI Ξ.1 60), (q5, eI Ξ.1 80), (q6, eI Ξ.1 2), (q7, eI Ξ.1 32), (q8, eI Ξ.1 16), (q9, eI Ξ.1 8), (q10, eI Ξ.1 3), (q11, eI Ξ.1 8), (q12, eI Ξ.1 8), (q13, eI Ξ.1 29), (q14, eI Ξ.1 80), (q15, eI Ξ.1 80), (q16, eI Ξ.1 10), (q17, eI Ξ.1 290), (q18, eI Ξ.1 3), (q19, eI Ξ.1 24), (q20, eI Ξ.1 72)]) (n := 175) hX rfl (by decide) rfl dX8_init_174 rfl ?_
  refine cb_iinc (y := (4 : Int32)) (z := (1 : Int32)) (n := 178) hX 0 [(1, .int 4), (0, .ref h0)] dX8_init_175 rfl rfl rfl (by decide) rfl rfl ?_
  refine cb_goto (n := 163) hX dX8_init_178 (by decide) ?_
  refine cb_iload_n (n := 164) hX 0 dX8_init_163 rfl rfl rfl ?_
  refine cb_iconst (x := (4 : Int32)) (n := 165) hX rfl dX8_init_164 rfl ?_
  refine cb_ge (tgt := 181) (n := 168) hX dX8_init_165 (by decide) rfl (fun _ => ?_) (fun h => absurd (by decide) h)
  refine cb_iconst (x := (0 : Int32)) (n := 182) hX rfl dX8_init_181 rfl ?_
  refine cb_istore_n (n := 183) hX [(1, .int 0), (0, .ref h0)] dX8_init_182 rfl rfl rfl rfl ?_
  refine cb_iload_n (n := 184) hX 0 dX8_init_183 rfl rfl rfl ?_
  refine cb_bipush (x := (8 : Int32)) (n := 186) hX rfl dX8_init_184 rfl ?_
  refine cb_ge (tgt := 204) (n := 189) hX dX8_init_186 (by decide) rfl (fun h => absurd h (by decide)) (fun _ => ?_)
  refine cb_aload_n (n := 190) hX 1 dX8_init_189 rfl rfl rfl ?_
  refine cb_get (i := 0) (n := 193) hX 11 kc_X8 rfl rfl fl_X8_34 rfl dX8_init_190 rfl ?_
  refine cb_iload_n (n := 194) hX 0 dX8_init_193 rfl rfl rfl ?_
  refine cb_iload_n (n := 195) hX 0 dX8_init_194 rfl rfl rfl ?_
  refine cb_iconst (x := (1 : Int32)) (n := 196) hX rfl dX8_init_195 rfl ?_
  refine cb_iadd (z := (1 : Int32)) (n := 197) hX (by decide) dX8_init_196 rfl ?_
  refine cb_iast (i := 9) (F' := [(h0, .inr (8, [.ref q1, .ref q2, .ref q3, .ref q4, .int 0, .ref q5, .ref q6, .int 0, .ref q7, .int 0, .ref q8, .ref q9, .ref q10, .int 0, .ref q11, .ref q12, .int 0, .int 0, .ref q13, .ref q14, .ref q15, .ref q16, .ref q17, .ref q18, .int 0, .int 0, .int 0, .ref q19, .ref q20, .int 0])), (q1, eF Ξ.1 4 (upd (upd (upd (upd (fun _ => 0) 0 (-1)) 1 (-1)) 2 (-1)) 3 (-1))), (q2, eI Ξ.1 4), (q3, eI Ξ.1 240), (q4, eI Ξ.1 60), (q5, eI Ξ.1 80), (q6, eI Ξ.1 2), (q7, eI Ξ.1 32), (q8, eI Ξ.1 16), (q9, eF Ξ.1 8 (upd (fun _ => 0) 0 1)), (q10, eI Ξ.1 3), (q11, eI Ξ.1 8), (q12, eI Ξ.1 8), (q13, eI Ξ.1 29), (q14, eI Ξ.1 80), (q15, eI Ξ.1 80), (q16, eI Ξ.1 10), (q17, eI Ξ.1 290), (q18, eI Ξ.1 3), (q19, eI Ξ.1 24), (q20, eI Ξ.1 72)]) (n := 198) hX rfl (by decide) rfl dX8_init_197 rfl ?_
  refine cb_iinc (y := (1 : Int32)) (z := (1 : Int32)) (n := 201) hX 0 [(1, .int 1), (0, .ref h0)] dX8_init_198 rfl rfl rfl (by decide) rfl rfl ?_
  refine cb_goto (n := 183) hX dX8_init_201 (by decide) ?_
  refine cb_iload_n (n := 184) hX 0 dX8_init_183 rfl rfl rfl ?_
  refine cb_bipush (x := (8 : Int32)) (n := 186) hX rfl dX8_init_184 rfl ?_
  refine cb_ge (tgt := 204) (n := 189) hX dX8_init_186 (by decide) rfl (fun h => absurd h (by decide)) (fun _ => ?_)
  refine cb_aload_n (n := 190) hX 1 dX8_init_189 rfl rfl rfl ?_
  refine cb_get (i := 0) (n := 193) hX 11 kc_X8 rfl rfl fl_X8_34 rfl dX8_init_190 rfl ?_
  refine cb_iload_n (n := 194) hX 0 dX8_init_193 rfl rfl rfl ?_
  refine cb_iload_n (n := 195) hX 0 dX8_init_194 rfl rfl rfl ?_
  refine cb_iconst (x := (1 : Int32)) (n := 196) hX rfl dX8_init_195 rfl ?_
  refine cb_iadd (z := (2 : Int32)) (n := 197) hX (by decide) dX8_init_196 rfl ?_
  refine cb_iast (i := 9) (F' := [(h0, .inr (8, [.ref q1, .ref q2, .ref q3, .ref q4, .int 0, .ref q5, .ref q6, .int 0, .ref q7, .int 0, .ref q8, .ref q9, .ref q10, .int 0, .ref q11, .ref q12, .int 0, .int 0, .ref q13, .ref q14, .ref q15, .ref q16, .ref q17, .ref q18, .int 0, .int 0, .int 0, .ref q19, .ref q20, .int 0])), (q1, eF Ξ.1 4 (upd (upd (upd (upd (fun _ => 0) 0 (-1)) 1 (-1)) 2 (-1)) 3 (-1))), (q2, eI Ξ.1 4), (q3, eI Ξ.1 240), (q4, eI Ξ.1 60), (q5, eI Ξ.1 80), (q6, eI Ξ.1 2), (q7, eI Ξ.1 32), (q8, eI Ξ.1 16), (q9, eF Ξ.1 8 (upd (upd (fun _ => 0) 0 1) 1 2)), (q10, eI Ξ.1 3), (q11, eI Ξ.1 8), (q12, eI Ξ.1 8), (q13, eI Ξ.1 29), (q14, eI Ξ.1 80), (q15, eI Ξ.1 80), (q16, eI Ξ.1 10), (q17, eI Ξ.1 290), (q18, eI Ξ.1 3), (q19, eI Ξ.1 24), (q20, eI Ξ.1 72)]) (n := 198) hX rfl (by decide) rfl dX8_init_197 rfl ?_
  refine cb_iinc (y := (2 : Int32)) (z := (1 : Int32)) (n := 201) hX 0 [(1, .int 2), (0, .ref h0)] dX8_init_198 rfl rfl rfl (by decide) rfl rfl ?_
  refine cb_goto (n := 183) hX dX8_init_201 (by decide) ?_
  refine cb_iload_n (n := 184) hX 0 dX8_init_183 rfl rfl rfl ?_
  refine cb_bipush (x := (8 : Int32)) (n := 186) hX rfl dX8_init_184 rfl ?_
  refine cb_ge (tgt := 204) (n := 189) hX dX8_init_186 (by decide) rfl (fun h => absurd h (by decide)) (fun _ => ?_)
  refine cb_aload_n (n := 190) hX 1 dX8_init_189 rfl rfl rfl ?_
  refine cb_get (i := 0) (n := 193) hX 11 kc_X8 rfl rfl fl_X8_34 rfl dX8_init_190 rfl ?_
  refine cb_iload_n (n := 194) hX 0 dX8_init_193 rfl rfl rfl ?_
  refine cb_iload_n (n := 195) hX 0 dX8_init_194 rfl rfl rfl ?_
  refine cb_iconst (x := (1 : Int32)) (n := 196) hX rfl dX8_init_195 rfl ?_
  refine cb_iadd (z := (3 : Int32)) (n := 197) hX (by decide) dX8_init_196 rfl ?_
  refine cb_iast (i := 9) (F' := [(h0, .inr (8, [.ref q1, .ref q2, .ref q3, .ref q4, .int 0, .ref q5, .ref q6, .int 0, .ref q7, .int 0, .ref q8, .ref q9, .ref q10, .int 0, .ref q11, .ref q12, .int 0, .int 0, .ref q13, .ref q14, .ref q15, .ref q16, .ref q17, .ref q18, .int 0, .int 0, .int 0, .ref q19, .ref q20, .int 0])), (q1, eF Ξ.1 4 (upd (upd (upd (upd (fun _ => 0) 0 (-1)) 1 (-1)) 2 (-1)) 3 (-1))), (q2, eI Ξ.1 4), (q3, eI Ξ.1 240), (q4, eI Ξ.1 60), (q5, eI Ξ.1 80), (q6, eI Ξ.1 2), (q7, eI Ξ.1 32), (q8, eI Ξ.1 16), (q9, eF Ξ.1 8 (upd (upd (upd (fun _ => 0) 0 1) 1 2) 2 3)), (q10, eI Ξ.1 3), (q11, eI Ξ.1 8), (q12, eI Ξ.1 8), (q13, eI Ξ.1 29), (q14, eI Ξ.1 80), (q15, eI Ξ.1 80), (q16, eI Ξ.1 10), (q17, eI Ξ.1 290), (q18, eI Ξ.1 3), (q19, eI Ξ.1 24), (q20, eI Ξ.1 72)]) (n := 198) hX rfl (by decide) rfl dX8_init_197 rfl ?_
  refine cb_iinc (y := (3 : Int32)) (z := (1 : Int32)) (n := 201) hX 0 [(1, .int 3), (0, .ref h0)] dX8_init_198 rfl rfl rfl (by decide) rfl rfl ?_
  refine cb_goto (n := 183) hX dX8_init_201 (by decide) ?_
  refine cb_iload_n (n := 184) hX 0 dX8_init_183 rfl rfl rfl ?_
  refine cb_bipush (x := (8 : Int32)) (n := 186) hX rfl dX8_init_184 rfl ?_
  refine cb_ge (tgt := 204) (n := 189) hX dX8_init_186 (by decide) rfl (fun h => absurd h (by decide)) (fun _ => ?_)
  refine cb_aload_n (n := 190) hX 1 dX8_init_189 rfl rfl rfl ?_
  refine cb_get (i := 0) (n := 193) hX 11 kc_X8 rfl rfl fl_X8_34 rfl dX8_init_190 rfl ?_
  refine cb_iload_n (n := 194) hX 0 dX8_init_193 rfl rfl rfl ?_
  refine cb_iload_n (n := 195) hX 0 dX8_init_194 rfl rfl rfl ?_
  refine cb_iconst (x := (1 : Int32)) (n := 196) hX rfl dX8_init_195 rfl ?_
  refine cb_iadd (z := (4 : Int32)) (n := 197) hX (by decide) dX8_init_196 rfl ?_
  refine cb_iast (i := 9) (F' := [(h0, .inr (8, [.ref q1, .ref q2, .ref q3, .ref q4, .int 0, .ref q5, .ref q6, .int 0, .ref q7, .int 0, .ref q8, .ref q9, .ref q10, .int 0, .ref q11, .ref q12, .int 0, .int 0, .ref q13, .ref q14, .ref q15, .ref q16, .ref q17, .ref q18, .int 0, .int 0, .int 0, .ref q19, .ref q20, .int 0])), (q1, eF Ξ.1 4 (upd (upd (upd (upd (fun _ => 0) 0 (-1)) 1 (-1)) 2 (-1)) 3 (-1))), (q2, eI Ξ.1 4), (q3, eI Ξ.1 240), (q4, eI Ξ.1 60), (q5, eI Ξ.1 80), (q6, eI Ξ.1 2), (q7, eI Ξ.1 32), (q8, eI Ξ.1 16), (q9, eF Ξ.1 8 (upd (upd (upd (upd (fun _ => 0) 0 1) 1 2) 2 3) 3 4)), (q10, eI Ξ.1 3), (q11, eI Ξ.1 8), (q12, eI Ξ.1 8), (q13, eI Ξ.1 29), (q14, eI Ξ.1 80), (q15, eI Ξ.1 80), (q16, eI Ξ.1 10), (q17, eI Ξ.1 290), (q18, eI Ξ.1 3), (q19, eI Ξ.1 24), (q20, eI Ξ.1 72)]) (n := 198) hX rfl (by decide) rfl dX8_init_197 rfl ?_
  refine cb_iinc (y := (4 : Int32)) (z := (1 : Int32)) (n := 201) hX 0 [(1, .int 4), (0, .ref h0)] dX8_init_198 rfl rfl rfl (by decide) rfl rfl ?_
  refine cb_goto (n := 183) hX dX8_init_201 (by decide) ?_
  refine cb_iload_n (n := 184) hX 0 dX8_init_183 rfl rfl rfl ?_
  refine cb_bipush (x := (8 : Int32)) (n := 186) hX rfl dX8_init_184 rfl ?_
  refine cb_ge (tgt := 204) (n := 189) hX dX8_init_186 (by decide) rfl (fun h => absurd h (by decide)) (fun _ => ?_)
  refine cb_aload_n (n := 190) hX 1 dX8_init_189 rfl rfl rfl ?_
  refine cb_get (i := 0) (n := 193) hX 11 kc_X8 rfl rfl fl_X8_34 rfl dX8_init_190 rfl ?_
  refine cb_iload_n (n := 194) hX 0 dX8_init_193 rfl rfl rfl ?_
  refine cb_iload_n (n := 195) hX 0 dX8_init_194 rfl rfl rfl ?_
  refine cb_iconst (x := (1 : Int32)) (n := 196) hX rfl dX8_init_195 rfl ?_
  refine cb_iadd (z := (5 : Int32)) (n := 197) hX (by decide) dX8_init_196 rfl ?_
  refine cb_iast (i := 9) (F' := [(h0, .inr (8, [.ref q1, .ref q2, .ref q3, .ref q4, .int 0, .ref q5, .ref q6, .int 0, .ref q7, .int 0, .ref q8, .ref q9, .ref q10, .int 0, .ref q11, .ref q12, .int 0, .int 0, .ref q13, .ref q14, .ref q15, .ref q16, .ref q17, .ref q18, .int 0, .int 0, .int 0, .ref q19, .ref q20, .int 0])), (q1, eF Ξ.1 4 (upd (upd (upd (upd (fun _ => 0) 0 (-1)) 1 (-1)) 2 (-1)) 3 (-1))), (q2, eI Ξ.1 4), (q3, eI Ξ.1 240), (q4, eI Ξ.1 60), (q5, eI Ξ.1 80), (q6, eI Ξ.1 2), (q7, eI Ξ.1 32), (q8, eI Ξ.1 16), (q9, eF Ξ.1 8 (upd (upd (upd (upd (upd (fun _ => 0) 0 1) 1 2) 2 3) 3 4) 4 5)), (q10, eI Ξ.1 3), (q11, eI Ξ.1 8), (q12, eI Ξ.1 8), (q13, eI Ξ.1 29), (q14, eI Ξ.1 80), (q15, eI Ξ.1 80), (q16, eI Ξ.1 10), (q17, eI Ξ.1 290), (q18, eI Ξ.1 3), (q19, eI Ξ.1 24), (q20, eI Ξ.1 72)]) (n := 198) hX rfl (by decide) rfl dX8_init_197 rfl ?_
  refine cb_iinc (y := (5 : Int32)) (z := (1 : Int32)) (n := 201) hX 0 [(1, .int 5), (0, .ref h0)] dX8_init_198 rfl rfl rfl (by decide) rfl rfl ?_
  refine cb_goto (n := 183) hX dX8_init_201 (by decide) ?_
  refine cb_iload_n (n := 184) hX 0 dX8_init_183 rfl rfl rfl ?_
  refine cb_bipush (x := (8 : Int32)) (n := 186) hX rfl dX8_init_184 rfl ?_
  refine cb_ge (tgt := 204) (n := 189) hX dX8_init_186 (by decide) rfl (fun h => absurd h (by decide)) (fun _ => ?_)
  refine cb_aload_n (n := 190) hX 1 dX8_init_189 rfl rfl rfl ?_
  refine cb_get (i := 0) (n := 193) hX 11 kc_X8 rfl rfl fl_X8_34 rfl dX8_init_190 rfl ?_
  refine cb_iload_n (n := 194) hX 0 dX8_init_193 rfl rfl rfl ?_
  refine cb_iload_n (n := 195) hX 0 dX8_init_194 rfl rfl rfl ?_
  refine cb_iconst (x := (1 : Int32)) (n := 196) hX rfl dX8_init_195 rfl ?_
  refine cb_iadd (z := (6 : Int32)) (n := 197) hX (by decide) dX8_init_196 rfl ?_
  refine cb_iast (i := 9) (F' := [(h0, .inr (8, [.ref q1, .ref q2, .ref q3, .ref q4, .int 0, .ref q5, .ref q6, .int 0, .ref q7, .int 0, .ref q8, .ref q9, .ref q10, .int 0, .ref q11, .ref q12, .int 0, .int 0, .ref q13, .ref q14, .ref q15, .ref q16, .ref q17, .ref q18, .int 0, .int 0, .int 0, .ref q19, .ref q20, .int 0])), (q1, eF Ξ.1 4 (upd (upd (upd (upd (fun _ => 0) 0 (-1)) 1 (-1)) 2 (-1)) 3 (-1))), (q2, eI Ξ.1 4), (q3, eI Ξ.1 240), (q4, eI Ξ.1 60), (q5, eI Ξ.1 80), (q6, eI Ξ.1 2), (q7, eI Ξ.1 32), (q8, eI Ξ.1 16), (q9, eF Ξ.1 8 (upd (upd (upd (upd (upd (upd (fun _ => 0) 0 1) 1 2) 2 3) 3 4) 4 5) 5 6)), (q10, eI Ξ.1 3), (q11, eI Ξ.1 8), (q12, eI Ξ.1 8), (q13, eI Ξ.1 29), (q14, eI Ξ.1 80), (q15, eI Ξ.1 80), (q16, eI Ξ.1 10), (q17, eI Ξ.1 290), (q18, eI Ξ.1 3), (q19, eI Ξ.1 24), (q20, eI Ξ.1 72)]) (n := 198) hX rfl (by decide) rfl dX8_init_197 rfl ?_
  refine cb_iinc (y := (6 : Int32)) (z := (1 : Int32)) (n := 201) hX 0 [(1, .int 6), (0, .ref h0)] dX8_init_198 rfl rfl rfl (by decide) rfl rfl ?_
  refine cb_goto (n := 183) hX dX8_init_201 (by decide) ?_
  refine cb_iload_n (n := 184) hX 0 dX8_init_183 rfl rfl rfl ?_
  refine cb_bipush (x := (8 : Int32)) (n := 186) hX rfl dX8_init_184 rfl ?_
  refine cb_ge (tgt := 204) (n := 189) hX dX8_init_186 (by decide) rfl (fun h => absurd h (by decide)) (fun _ => ?_)
  refine cb_aload_n (n := 190) hX 1 dX8_init_189 rfl rfl rfl ?_
  refine cb_get (i := 0) (n := 193) hX 11 kc_X8 rfl rfl fl_X8_34 rfl dX8_init_190 rfl ?_
  refine cb_iload_n (n := 194) hX 0 dX8_init_193 rfl rfl rfl ?_
  refine cb_iload_n (n := 195) hX 0 dX8_init_194 rfl rfl rfl ?_
  refine cb_iconst (x := (1 : Int32)) (n := 196) hX rfl dX8_init_195 rfl ?_
  refine cb_iadd (z := (7 : Int32)) (n := 197) hX (by decide) dX8_init_196 rfl ?_
  refine cb_iast (i := 9) (F' := [(h0, .inr (8, [.ref q1, .ref q2, .ref q3, .ref q4, .int 0, .ref q5, .ref q6, .int 0, .ref q7, .int 0, .ref q8, .ref q9, .ref q10, .int 0, .ref q11, .ref q12, .int 0, .int 0, .ref q13, .ref q14, .ref q15, .ref q16, .ref q17, .ref q18, .int 0, .int 0, .int 0, .ref q19, .ref q20, .int 0])), (q1, eF Ξ.1 4 (upd (upd (upd (upd (fun _ => 0) 0 (-1)) 1 (-1)) 2 (-1)) 3 (-1))), (q2, eI Ξ.1 4), (q3, eI Ξ.1 240), (q4, eI Ξ.1 60), (q5, eI Ξ.1 80), (q6, eI Ξ.1 2), (q7, eI Ξ.1 32), (q8, eI Ξ.1 16), (q9, eF Ξ.1 8 (upd (upd (upd (upd (upd (upd (upd (fun _ => 0) 0 1) 1 2) 2 3) 3 4) 4 5) 5 6) 6 7)), (q10, eI Ξ.1 3), (q11, eI Ξ.1 8), (q12, eI Ξ.1 8), (q13, eI Ξ.1 29), (q14, eI Ξ.1 80), (q15, eI Ξ.1 80), (q16, eI Ξ.1 10), (q17, eI Ξ.1 290), (q18, eI Ξ.1 3), (q19, eI Ξ.1 24), (q20, eI Ξ.1 72)]) (n := 198) hX rfl (by decide) rfl dX8_init_197 rfl ?_
  refine cb_iinc (y := (7 : Int32)) (z := (1 : Int32)) (n := 201) hX 0 [(1, .int 7), (0, .ref h0)] dX8_init_198 rfl rfl rfl (by decide) rfl rfl ?_
  refine cb_goto (n := 183) hX dX8_init_201 (by decide) ?_
  refine cb_iload_n (n := 184) hX 0 dX8_init_183 rfl rfl rfl ?_
  refine cb_bipush (x := (8 : Int32)) (n := 186) hX rfl dX8_init_184 rfl ?_
  refine cb_ge (tgt := 204) (n := 189) hX dX8_init_186 (by decide) rfl (fun h => absurd h (by decide)) (fun _ => ?_)
  refine cb_aload_n (n := 190) hX 1 dX8_init_189 rfl rfl rfl ?_
  refine cb_get (i := 0) (n := 193) hX 11 kc_X8 rfl rfl fl_X8_34 rfl dX8_init_190 rfl ?_
  refine cb_iload_n (n := 194) hX 0 dX8_init_193 rfl rfl rfl ?_
  refine cb_iload_n (n := 195) hX 0 dX8_init_194 rfl rfl rfl ?_
  refine cb_iconst (x := (1 : Int32)) (n := 196) hX rfl dX8_init_195 rfl ?_
  refine cb_iadd (z := (8 : Int32)) (n := 197) hX (by decide) dX8_init_196 rfl ?_
  refine cb_iast (i := 9) (F' := [(h0, .inr (8, [.ref q1, .ref q2, .ref q3, .ref q4, .int 0, .ref q5, .ref q6, .int 0, .ref q7, .int 0, .ref q8, .ref q9, .ref q10, .int 0, .ref q11, .ref q12, .int 0, .int 0, .ref q13, .ref q14, .ref q15, .ref q16, .ref q17, .ref q18, .int 0, .int 0, .int 0, .ref q19, .ref q20, .int 0])), (q1, eF Ξ.1 4 (upd (upd (upd (upd (fun _ => 0) 0 (-1)) 1 (-1)) 2 (-1)) 3 (-1))), (q2, eI Ξ.1 4), (q3, eI Ξ.1 240), (q4, eI Ξ.1 60), (q5, eI Ξ.1 80), (q6, eI Ξ.1 2), (q7, eI Ξ.1 32), (q8, eI Ξ.1 16), (q9, eF Ξ.1 8 (upd (upd (upd (upd (upd (upd (upd (upd (fun _ => 0) 0 1) 1 2) 2 3) 3 4) 4 5) 5 6) 6 7) 7 8)), (q10, eI Ξ.1 3), (q11, eI Ξ.1 8), (q12, eI Ξ.1 8), (q13, eI Ξ.1 29), (q14, eI Ξ.1 80), (q15, eI Ξ.1 80), (q16, eI Ξ.1 10), (q17, eI Ξ.1 290), (q18, eI Ξ.1 3), (q19, eI Ξ.1 24), (q20, eI Ξ.1 72)]) (n := 198) hX rfl (by decide) rfl dX8_init_197 rfl ?_
  refine cb_iinc (y := (8 : Int32)) (z := (1 : Int32)) (n := 201) hX 0 [(1, .int 8), (0, .ref h0)] dX8_init_198 rfl rfl rfl (by decide) rfl rfl ?_
  refine cb_goto (n := 183) hX dX8_init_201 (by decide) ?_
  refine cb_iload_n (n := 184) hX 0 dX8_init_183 rfl rfl rfl ?_
  refine cb_bipush (x := (8 : Int32)) (n := 186) hX rfl dX8_init_184 rfl ?_
  refine cb_ge (tgt := 204) (n := 189) hX dX8_init_186 (by decide) rfl (fun _ => ?_) (fun h => absurd (by decide) h)
  refine cb_aload_n (n := 205) hX 1 dX8_init_204 rfl rfl rfl ?_
  refine cb_get (i := 0) (n := 208) hX 12 kc_X8 rfl rfl fl_X8_37 rfl dX8_init_205 rfl ?_
  refine cb_iconst (x := (0 : Int32)) (n := 209) hX rfl dX8_init_208 rfl ?_
  refine cb_iconst (x := (2 : Int32)) (n := 210) hX rfl dX8_init_209 rfl ?_
  refine cb_iast (i := 10) (F' := [(h0, .inr (8, [.ref q1, .ref q2, .ref q3, .ref q4, .int 0, .ref q5, .ref q6, .int 0, .ref q7, .int 0, .ref q8, .ref q9, .ref q10, .int 0, .ref q11, .ref q12, .int 0, .int 0, .ref q13, .ref q14, .ref q15, .ref q16, .ref q17, .ref q18, .int 0, .int 0, .int 0, .ref q19, .ref q20, .int 0])), (q1, eF Ξ.1 4 (upd (upd (upd (upd (fun _ => 0) 0 (-1)) 1 (-1)) 2 (-1)) 3 (-1))), (q2, eI Ξ.1 4), (q3, eI Ξ.1 240), (q4, eI Ξ.1 60), (q5, eI Ξ.1 80), (q6, eI Ξ.1 2), (q7, eI Ξ.1 32), (q8, eI Ξ.1 16), (q9, eF Ξ.1 8 (upd (upd (upd (upd (upd (upd (upd (upd (fun _ => 0) 0 1) 1 2) 2 3) 3 4) 4 5) 5 6) 6 7) 7 8)), (q10, eF Ξ.1 3 (upd (fun _ => 0) 0 2)), (q11, eI Ξ.1 8), (q12, eI Ξ.1 8), (q13, eI Ξ.1 29), (q14, eI Ξ.1 80), (q15, eI Ξ.1 80), (q16, eI Ξ.1 10), (q17, eI Ξ.1 290), (q18, eI Ξ.1 3), (q19, eI Ξ.1 24), (q20, eI Ξ.1 72)]) (n := 211) hX rfl (by decide) rfl dX8_init_210 rfl ?_
  refine cb_aload_n (n := 212) hX 1 dX8_init_211 rfl rfl rfl ?_
  refine cb_get (i := 0) (n := 215) hX 12 kc_X8 rfl rfl fl_X8_37 rfl dX8_init_212 rfl ?_
  refine cb_iconst (x := (1 : Int32)) (n := 216) hX rfl dX8_init_215 rfl ?_
  refine cb_bipush (x := (32 : Int32)) (n := 218) hX rfl dX8_init_216 rfl ?_
  refine cb_iast (i := 10) (F' := [(h0, .inr (8, [.ref q1, .ref q2, .ref q3, .ref q4, .int 0, .ref q5, .ref q6, .int 0, .ref q7, .int 0, .ref q8, .ref q9, .ref q10, .int 0, .ref q11, .ref q12, .int 0, .int 0, .ref q13, .ref q14, .ref q15, .ref q16, .ref q17, .ref q18, .int 0, .int 0, .int 0, .ref q19, .ref q20, .int 0])), (q1, eF Ξ.1 4 (upd (upd (upd (upd (fun _ => 0) 0 (-1)) 1 (-1)) 2 (-1)) 3 (-1))), (q2, eI Ξ.1 4), (q3, eI Ξ.1 240), (q4, eI Ξ.1 60), (q5, eI Ξ.1 80), (q6, eI Ξ.1 2), (q7, eI Ξ.1 32), (q8, eI Ξ.1 16), (q9, eF Ξ.1 8 (upd (upd (upd (upd (upd (upd (upd (upd (fun _ => 0) 0 1) 1 2) 2 3) 3 4) 4 5) 5 6) 6 7) 7 8)), (q10, eF Ξ.1 3 (upd (upd (fun _ => 0) 0 2) 1 32)), (q11, eI Ξ.1 8), (q12, eI Ξ.1 8), (q13, eI Ξ.1 29), (q14, eI Ξ.1 80), (q15, eI Ξ.1 80), (q16, eI Ξ.1 10), (q17, eI Ξ.1 290), (q18, eI Ξ.1 3), (q19, eI Ξ.1 24), (q20, eI Ξ.1 72)]) (n := 219) hX rfl (by decide) rfl dX8_init_218 rfl ?_
  refine cb_aload_n (n := 220) hX 1 dX8_init_219 rfl rfl rfl ?_
  refine cb_iconst (x := (-1 : Int32)) (n := 221) hX rfl dX8_init_220 rfl ?_
  refine cb_put (i := 0) (F' := [(h0, .inr (8, [.ref q1, .ref q2, .ref q3, .ref q4, .int 0, .ref q5, .ref q6, .int 0, .ref q7, .int 0, .ref q8, .ref q9, .ref q10, .int (-1), .ref q11, .ref q12, .int 0, .int 0, .ref q13, .ref q14, .ref q15, .ref q16, .ref q17, .ref q18, .int 0, .int 0, .int 0, .ref q19, .ref q20, .int 0])), (q1, eF Ξ.1 4 (upd (upd (upd (upd (fun _ => 0) 0 (-1)) 1 (-1)) 2 (-1)) 3 (-1))), (q2, eI Ξ.1 4), (q3, eI Ξ.1 240), (q4, eI Ξ.1 60), (q5, eI Ξ.1 80), (q6, eI Ξ.1 2), (q7, eI Ξ.1 32), (q8, eI Ξ.1 16), (q9, eF Ξ.1 8 (upd (upd (upd (upd (upd (upd (upd (upd (fun _ => 0) 0 1) 1 2) 2 3) 3 4) 4 5) 5 6) 6 7) 7 8)), (q10, eF Ξ.1 3 (upd (upd (fun _ => 0) 0 2) 1 32)), (q11, eI Ξ.1 8), (q12, eI Ξ.1 8), (q13, eI Ξ.1 29), (q14, eI Ξ.1 80), (q15, eI Ξ.1 80), (q16, eI Ξ.1 10), (q17, eI Ξ.1 290), (q18, eI Ξ.1 3), (q19, eI Ξ.1 24), (q20, eI Ξ.1 72)]) (n := 224) hX 13 kc_X8 rfl rfl fl_X8_70 rfl (tyX8_ok 13 (by omega)) rfl rfl rfl rfl dX8_init_221 rfl ?_
  exact cb_ret hX hr hlk rfl rfl dX8_init_224 ⟨fun k => [h0, q1, q2, q3, q4, q5, q6, q7, q8, q9, q10, q11, q12, q13, q14, q15, q16, q17, q18, q19, q20].getD k 0, rfl⟩
theorem c_X8 (l : Launch) (D : va_G) (ty : Nat → ClassId) (h0 : Nat) (sz : Nat) : cx_M l D ty yX8_init cX8_init 2 1 20 1053 [.ref h0] [(h0, .inr (8, [.null, .null, .null, .null, .int 0, .null, .null, .int 0, .null, .int 0, .null, .null, .null, .int 0, .null, .null, .int 0, .int 0, .null, .null, .null, .null, .null, .null, .int 0, .int 0, .int 0, .null, .null, .int 0]))] sz (P_X8 ty h0) := cx_start (lv := [(0, .ref h0)]) (by decide +kernel) (Nat.le_of_ble_eq_true rfl) rfl (fun Γ _ hR hX hr hlk hin => k_X8 hX hR hr hlk hin h0)
