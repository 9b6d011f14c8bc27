/-! THE LAW: its loop -/
theorem lw_sw {Γ : gC} {Ξ : cO} {Q : State → Prop} {σX σM : Nat → Nat} {b L i c : Nat} {xs : Nat → Int32} {vX vM : gV} {a : Ab} (hX : cx_X Γ Ξ cL_law RL 4) (hR : Γ.2.2.2.1 = cx_R 13 600000 7302250) (hs : scr Γ Ξ b L xs) (hL : L ≤ 384) (hi : i + 6 ≤ L) (hc : c < 900000) (hI : InvX vX a c) (hM : InvM vM a) (hK : lw_K Γ Ξ Q σX σM b i c) : cx_G Γ Ξ Q 4 139 4654 (gx_w LX σX Ξ.1 vX) (gx_w LM σM Ξ.1 vM) 33 [(3, .int (nI i)), (2, .ref (σM 0)), (1, .ref (σX 0)), (0, .ref b)] [.int (xs i &&& 63)] := by
  obtain ⟨n, hn, e⟩ := and63 (xs i)
  rw [e]
  by_cases h : n < 34
  · match n, h with
    | 0, _ => exact cb_tabIn (off := 151) (tgt := 184) hX dL_law_33 (by decide) (by decide) rfl (by decide) (lwc_0 hX hR hs hL hi hc hI hM hK)
    | 1, _ => exact cb_tabIn (off := 184) (tgt := 217) hX dL_law_33 (by decide) (by decide) rfl (by decide) (lwc_1 hX hR hs hL hi hc hI hM hK)
    | 2, _ => exact cb_tabIn (off := 207) (tgt := 240) hX dL_law_33 (by decide) (by decide) rfl (by decide) (lwc_2 hX hR hs hL hi hc hI hM hK)
    | 3, _ => exact cb_tabIn (off := 230) (tgt := 263) hX dL_law_33 (by decide) (by decide) rfl (by decide) (lwc_3 hX hR hs hL hi hc hI hM hK)
    | 4, _ => exact cb_tabIn (off := 253) (tgt := 286) hX dL_law_33 (by decide) (by decide) rfl (by decide) (lwc_4 hX hR hs hL hi hc hI hM hK)
    | 5, _ => exact cb_tabIn (off := 286) (tgt := 319) hX dL_law_33 (by decide) (by decide) rfl (by decide) (lwc_5 hX hR hs hL hi hc hI hM hK)
    | 6, _ => exact cb_tabIn (off := 319) (tgt := 352) hX dL_law_33 (by decide) (by decide) rfl (by decide) (lwc_6 hX hR hs hL hi hc hI hM hK)
    | 7, _ => exact cb_tabIn (off := 352) (tgt := 385) hX dL_law_33 (by decide) (by decide) rfl (by decide) (lwc_7 hX hR hs hL hi hc hI hM hK)
    | 8, _ => exact cb_tabIn (off := 385) (tgt := 418) hX dL_law_33 (by decide) (by decide) rfl (by decide) (lwc_8 hX hR hs hL hi hc hI hM hK)
    | 9, _ => exact cb_tabIn (off := 418) (tgt := 451) hX dL_law_33 (by decide) (by decide) rfl (by decide) (lwc_9 hX hR hs hL hi hc hI hM hK)
    | 10, _ => exact cb_tabIn (off := 451) (tgt := 484) hX dL_law_33 (by decide) (by decide) rfl (by decide) (lwc_10 hX hR hs hL hi hc hI hM hK)
    | 11, _ => exact cb_tabIn (off := 474) (tgt := 507) hX dL_law_33 (by decide) (by decide) rfl (by decide) (lwc_11 hX hR hs hL hi hc hI hM hK)
    | 12, _ => exact cb_tabIn (off := 497) (tgt := 530) hX dL_law_33 (by decide) (by decide) rfl (by decide) (lwc_12 hX hR hs hL hi hc hI hM hK)
    | 13, _ => exact cb_tabIn (off := 510) (tgt := 543) hX dL_law_33 (by decide) (by decide) rfl (by decide) (lwc_13 hX hR hs hL hi hc hI hM hK)
    | 14, _ => exact cb_tabIn (off := 533) (tgt := 566) hX dL_law_33 (by decide) (by decide) rfl (by decide) (lwc_14 hX hR hs hL hi hc hI hM hK)
    | 15, _ => exact cb_tabIn (off := 556) (tgt := 589) hX dL_law_33 (by decide) (by decide) rfl (by decide) (lwc_15 hX hR hs hL hi hc hI hM hK)
    | 16, _ => exact cb_tabIn (off := 589) (tgt := 622) hX dL_law_33 (by decide) (by decide) rfl (by decide) (lwc_16 hX hR hs hL hi hc hI hM hK)
    | 17, _ => exact cb_tabIn (off := 612) (tgt := 645) hX dL_law_33 (by decide) (by decide) rfl (by decide) (lwc_17 hX hR hs hL hi hc hI hM hK)
    | 18, _ => exact cb_tabIn (off := 635) (tgt := 668) hX dL_law_33 (by decide) (by decide) rfl (by decide) (lwc_18 hX hR hs hL hi hc hI hM hK)
    | 19, _ => exact cb_tabIn (off := 678) (tgt := 711) hX dL_law_33 (by decide) (by decide) rfl (by decide) (lwc_19 hX hR hs hL hi hc hI hM hK)
    | 20, _ => exact cb_tabIn (off := 691) (tgt := 724) hX dL_law_33 (by decide) (by decide) rfl (by decide) (lwc_20 hX hR hs hL hi hc hI hM hK)
    | 21, _ => exact cb_tabIn (off := 714) (tgt := 747) hX dL_law_33 (by decide) (by decide) rfl (by decide) (lwc_21 hX hR hs hL hi hc hI hM hK)
    | 22, _ => exact cb_tabIn (off := 737) (tgt := 770) hX dL_law_33 (by decide) (by decide) rfl (by decide) (lwc_22 hX hR hs hL hi hc hI hM hK)
    | 23, _ => exact cb_tabIn (off := 750) (tgt := 783) hX dL_law_33 (by decide) (by decide) rfl (by decide) (lwc_23 hX hR hs hL hi hc hI hM hK)
    | 24, _ => exact cb_tabIn (off := 773) (tgt := 806) hX dL_law_33 (by decide) (by decide) rfl (by decide) (lwc_24 hX hR hs hL hi hc hI hM hK)
    | 25, _ => exact cb_tabIn (off := 827) (tgt := 860) hX dL_law_33 (by decide) (by decide) rfl (by decide) (lwc_25 hX hR hs hL hi hc hI hM hK)
    | 26, _ => exact cb_tabIn (off := 870) (tgt := 903) hX dL_law_33 (by decide) (by decide) rfl (by decide) (lwc_26 hX hR hs hL hi hc hI hM hK)
    | 27, _ => exact cb_tabIn (off := 913) (tgt := 946) hX dL_law_33 (by decide) (by decide) rfl (by decide) (lwc_27 hX hR hs hL hi hc hI hM hK)
    | 28, _ => exact cb_tabIn (off := 936) (tgt := 969) hX dL_law_33 (by decide) (by decide) rfl (by decide) (lwc_28 hX hR hs hL hi hc hI hM hK)
    | 29, _ => exact cb_tabIn (off := 989) (tgt := 1022) hX dL_law_33 (by decide) (by decide) rfl (by decide) (lwc_29 hX hR hs hL hi hc hI hM hK)
    | 30, _ => exact cb_tabIn (off := 1032) (tgt := 1065) hX dL_law_33 (by decide) (by decide) rfl (by decide) (lwc_30 hX hR hs hL hi hc hI hM hK)
    | 31, _ => exact cb_tabIn (off := 1095) (tgt := 1128) hX dL_law_33 (by decide) (by decide) rfl (by decide) (lwc_31 hX hR hs hL hi hc hI hM hK)
    | 32, _ => exact cb_tabIn (off := 1128) (tgt := 1161) hX dL_law_33 (by decide) (by decide) rfl (by decide) (lwc_32 hX hR hs hL hi hc hI hM hK)
    | 33, _ => exact cb_tabIn (off := 1151) (tgt := 1184) hX dL_law_33 (by decide) (by decide) rfl (by decide) (lwc_33 hX hR hs hL hi hc hI hM hK)
    | m + 34, h => exact absurd h (by omega)
  · exact cb_tabOut (tgt := 1198) hX dL_law_33 (Or.inr (by rw [n_ti (by omega)]; omega)) (by decide) (hK vX vM a c (by omega) hI hM)
theorem lw_loop {Γ : gC} {Ξ : cO} {Q : State → Prop} {σX σM : Nat → Nat} {b L : Nat} {xs : Nat → Int32} (hX : cx_X Γ Ξ cL_law RL 4) (hR : Γ.2.2.2.1 = cx_R 13 600000 7302250) (hs : scr Γ Ξ b L xs) (hL : L ≤ 384) (hend : ∀ (vX vM : gV) (i : Nat), cx_G Γ Ξ Q 4 139 4654 (gx_w LX σX Ξ.1 vX) (gx_w LM σM Ξ.1 vM) 1204 [(3, .int (nI i)), (2, .ref (σM 0)), (1, .ref (σX 0)), (0, .ref b)] []) : ∀ (k j : Nat) (vX vM : gV) (a : Ab) (c : Nat), L < 6 * j + 6 * k → j ≤ 65 → c ≤ 1 + 300 * j → InvX vX a c → InvM vM a → cx_G Γ Ξ Q 4 139 4654 (gx_w LX σX Ξ.1 vX) (gx_w LM σM Ξ.1 vM) 18 [(3, .int (nI (6 * j))), (2, .ref (σM 0)), (1, .ref (σX 0)), (0, .ref b)] []
  | k, j, vX, vM, a, c, hk, hj, hc, hI, hM => by
    have e6 : (nI L - 6).toInt = (L : Int) - 6 := by
      have : ∀ L, L ≤ 384 → (nI L - 6).toInt = (L : Int) - 6 := by decide +kernel
      exact this L hL
    refine cb_iload_n (n := 19) hX 0 dL_law_18 rfl rfl rfl ?_
    refine cb_aload_n (n := 20) hX 3 dL_law_19 rfl rfl rfl ?_
    refine cb_slen (n := 21) hX hs dL_law_20 rfl ?_
    refine cb_bipush (x := (6 : Int32)) (n := 23) hX rfl dL_law_21 rfl ?_
    refine cb_isub (n := 24) hX dL_law_23 rfl ?_
    refine cb_gt (tgt := 1204) (n := 27) hX dL_law_24 (by decide) rfl (fun _ => hend vX vM (6 * j)) (fun h => ?_)
    rw [i_lt, e6, n_ti (by omega)] at h
    have hi : 6 * j + 6 ≤ L := by omega
    refine cb_aload_n (n := 28) hX 3 dL_law_27 rfl rfl rfl ?_
    refine cb_iload_n (n := 29) hX 0 dL_law_28 rfl rfl rfl ?_
    refine cb_sld (x := xs (6 * j)) (n := 30) hX hs (gin_N (by omega) (by omega)) (by rw [n_cl (by omega)]) dL_law_29 rfl ?_
    refine cb_bipush (x := (63 : Int32)) (n := 32) hX rfl dL_law_30 rfl ?_
    refine cb_iand (n := 33) hX dL_law_32 rfl ?_
    refine lw_sw hX hR hs hL hi (by omega) hI hM ?_
    intro vX' vM' a' c' hc' hI' hM'
    have g1 : 6 * j ≤ 384 := by omega
    have g2 : c' ≤ 1 + 300 * (j + 1) := Nat.le_trans hc' (by rw [Nat.mul_succ, ← Nat.add_assoc]; exact Nat.add_le_add_right hc 300)
    have g3 : j + 1 ≤ 65 := by omega
    match k, hk with
    | 0, hk => exact absurd hk (by omega)
    | k + 1, hk =>
      refine cb_iinc (y := nI (6 * (j + 1))) (z := nI 6) (n := 1201) hX 0 [(3, .int (nI (6 * (j + 1)))), (2, .ref (σM 0)), (1, .ref (σX 0)), (0, .ref b)] dL_law_1198 rfl rfl rfl (by rw [n_add]; congr 1) rfl rfl ?_
      refine cb_goto (n := 18) hX dL_law_1201 (by decide) ?_
      exact lw_loop hX hR hs hL hend k (j + 1) vX' vM' a' c' (by clear hI hM hI' hM' hend hs hX hR; omega) g3 g2 hI' hM'
