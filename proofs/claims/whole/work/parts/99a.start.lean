/-! THE LAW: from its entry -/
theorem tt_1 {i : Nat} {w : Cond} (h : tables_1_1[i]? = some w) : w ∈ lw_tbl := List.mem_append_right _ (List.mem_append_left _ (List.mem_of_getElem? h))
theorem tt_3 {i : Nat} {w : Cond} (h : tables_1_3[i]? = some w) : w ∈ lw_tbl := List.mem_append_right _ (List.mem_append_right _ (List.mem_append_right _ (List.mem_append_left _ (List.mem_of_getElem? h))))
theorem ty_o {s : State} {args : Array Value} {C : String} (h : (Cond.arrayOver (.object C)).before args s = true) : ∃ c, ArrOfT s c (.object C) ∧ va_RA s c (.object C) := by
  obtain ⟨comp, c, k, h1, -, hk, hkind, hnm⟩ := Cond.arrayOver_spec h
  exact ⟨c, fun n z => ⟨fun k h => (by cases h), k, hk, comp, hkind⟩, k, comp, hk, hkind, h1, hnm⟩
theorem ty_a {s : State} {args : Array Value} (h : (Cond.arrayOver (.array .int)).before args s = true) : ∃ c, ArrOfT s c (.array .int) ∧ va_RA s c (.array .int) := by
  simp only [Cond.before, Cond.holds, Cond.value, beq_iff_eq] at h
  obtain ⟨_, -, h1⟩ := Option.bind_eq_some_iff.mp h
  obtain ⟨c, -, h2⟩ := Option.bind_eq_some_iff.mp h1
  obtain ⟨k, hk, h3⟩ := Option.map_eq_some_iff.mp h2
  cases hkind : k.kind with
  | array comp ty =>
    rw [hkind] at h3
    simp only [Bool.and_eq_true, decide_eq_true_eq] at h3
    obtain ⟨hty, hnm⟩ := h3
    exact ⟨c, fun n z => ⟨fun k h => (by cases h), k, hk, comp, by rw [hkind, hty]⟩, hnm⟩
  | _ => rw [hkind] at h3; cases h3
theorem ty_i {s : State} {args : Array Value} (h : (Cond.arrayClass .int).before args s = true) : ∃ c, ArrOfT s c .int ∧ va_RA s c .int := by
  obtain ⟨c, k, comp, h1, hk, hkind⟩ := Cond.arrayClass_spec h
  exact ⟨c, fun n z => ⟨fun k h => (by cases h), k, hk, comp, hkind⟩, h1⟩
theorem ty_l {s : State} {args : Array Value} (h : (Cond.arrayClass .long).before args s = true) : ∃ c, ArrOfT s c .long ∧ va_RA s c .long := by
  obtain ⟨c, k, comp, h1, hk, hkind⟩ := Cond.arrayClass_spec h
  exact ⟨c, fun n z => ⟨fun k h => (by cases h), k, hk, comp, hkind⟩, h1⟩
theorem known {s : State} {args : Array Value} (hts : ∀ w ∈ lw_tbl, w.before args s = true) : ∃ (D : va_G) (ty : Nat → ClassId), cx_K D ty s := by
  have hU : ∀ w ∈ gU, w.before args s = true := fun w hw => hts w (List.mem_filter.mp hw).1
  obtain ⟨c0, i0, k0⟩ := u_known hU kc_X0.2.1 (hU _ w_n0)
  obtain ⟨c1, i1, k1⟩ := u_known hU kc_X1.2.1 (hU _ w_n1)
  obtain ⟨c2, i2, k2⟩ := u_known hU kc_X2.2.1 (hU _ w_n2)
  obtain ⟨c3, i3, k3⟩ := u_known hU kc_X3.2.1 (hU _ w_n3)
  obtain ⟨c4, i4, k4⟩ := u_known hU kc_X4.2.1 (hU _ w_n4)
  obtain ⟨c5, i5, k5⟩ := u_known hU kc_X5.2.1 (hU _ w_n5)
  obtain ⟨c6, i6, k6⟩ := u_known hU kc_X6.2.1 (hU _ w_n6)
  obtain ⟨c7, i7, k7⟩ := u_known hU kc_X7.2.1 (hU _ w_n7)
  obtain ⟨c8, i8, k8⟩ := u_known hU kc_X8.2.1 (hU _ w_n8)
  obtain ⟨t0, a0', b0⟩ := ty_i (hU _ w_ai)
  obtain ⟨t1, a1, b1⟩ := ty_l (hU _ w_al)
  have o5 : (Cond.arrayOver (.object RX5)).before args s = true := hts _ (tt_1 (i := 23) rfl)
  have o2 : (Cond.arrayOver (.object RX2)).before args s = true := hts _ (tt_1 (i := 234) rfl)
  have o0 : (Cond.arrayOver (.object RX0)).before args s = true := hts _ (tt_1 (i := 134) rfl)
  have oa : (Cond.arrayOver (.array .int)).before args s = true := hts _ (tt_1 (i := 133) rfl)
  obtain ⟨t2, a2, b2'⟩ := ty_o o5
  obtain ⟨t3, a3, b3⟩ := ty_o o2
  obtain ⟨t4, a4, b4⟩ := ty_o o0
  obtain ⟨t5, a5, b5⟩ := ty_a oa
  refine ⟨(fun k => [c0, c1, c2, c3, c4, c5, c6, c7, c8].getD k c0, fun k => [i0, i1, i2, i3, i4, i5, i6, i7, i8].getD k i0), fun k => [t0, t1, t2, t3, t4, t5].getD k t0, ⟨⟨fun k q hq => ?_, fun k q hq => ?_⟩, va_Nw.of rfl (hts _ (tt_3 (i := 52) rfl))⟩, va_AO.of o5, va_AO.of o2, va_AO.of o0, va_AOA.of oa, va_Nw.of rfl (hts _ (tt_1 (i := 45) rfl)), va_Nw.of rfl (hts _ (tt_1 (i := 51) rfl)), va_Nw.of rfl (hts _ (tt_1 (i := 131) rfl)), va_Nw.of rfl (hts _ (tt_1 (i := 195) rfl)), va_Nw.of rfl (hts _ (tt_1 (i := 215) rfl)), va_Nw.of rfl (hts _ (tt_1 (i := 236) rfl))⟩
  · match k, hq with
    | 0, hq => cases hq; exact k0
    | 1, hq => cases hq; exact k1
    | 2, hq => cases hq; exact k2
    | 3, hq => cases hq; exact k3
    | 4, hq => cases hq; exact k4
    | 5, hq => cases hq; exact k5
    | 6, hq => cases hq; exact k6
    | 7, hq => cases hq; exact k7
    | 8, hq => cases hq; exact k8
    | k + 9, hq => cases hq
  · match k, hq with
    | 0, hq => cases hq; exact ⟨a0', b0⟩
    | 1, hq => cases hq; exact ⟨a1, b1⟩
    | 2, hq => cases hq; exact ⟨a2, b2'⟩
    | 3, hq => cases hq; exact ⟨a3, b3⟩
    | 4, hq => cases hq; exact ⟨a4, b4⟩
    | 5, hq => cases hq; exact ⟨a5, b5⟩
    | k + 6, hq => cases hq
theorem ls_3 {Γ : gC} {Ξ : cO} {Q : State → Prop} (l : Launch) {b L : Nat} {xs : Nat → Int32} (hX : cx_X Γ Ξ cL_law RL 4) (hR : Γ.2.2.2.1 = cx_R 13 600000 7302250) (hl : Γ.2.1 = l) (hs : scr Γ Ξ b L xs) (hL : L ≤ 384) (hend : ∀ (σX σM : Nat → Nat) (vX vM : gV) (i : Nat), cx_G Γ Ξ Q 4 139 4654 (gx_w LX σX Ξ.1 vX) (gx_w LM σM Ξ.1 vM) 1204 [(3, .int (nI i)), (2, .ref (σM 0)), (1, .ref (σX 0)), (0, .ref b)] []) {σX σM : Nat → Nat} {vX : gV} {y : Nat} (hI : InvX vX a0 1) : cx_G Γ Ξ Q 4 139 4654 (gx_w LX σX Ξ.1 vX) (gx_w LM (mdσ y σM) Ξ.1 v0m) 15 [(1, .ref (σX 0)), (0, .ref b)] [.ref y] := by
  refine cb_astore_n (n := 16) hX [(2, .ref (mdσ y σM 0)), (1, .ref (σX 0)), (0, .ref b)] dL_law_15 rfl rfl rfl rfl ?_
  refine cb_iconst (x := (0 : Int32)) (n := 17) hX rfl dL_law_16 rfl ?_
  refine cb_istore_n (n := 18) hX [(3, .int (nI (6 * 0))), (2, .ref (mdσ y σM 0)), (1, .ref (σX 0)), (0, .ref b)] dL_law_17 rfl rfl rfl rfl ?_
  exact lw_loop hX hR hs hL (hend σX (mdσ y σM)) 65 0 vX v0m a0 1 (by omega) (by omega) (by omega) hI InvM0
theorem ls_2 {Γ : gC} {Ξ : cO} {Q : State → Prop} (l : Launch) {b L : Nat} {xs : Nat → Int32} (hX : cx_X Γ Ξ cL_law RL 4) (hR : Γ.2.2.2.1 = cx_R 13 600000 7302250) (hl : Γ.2.1 = l) (hs : scr Γ Ξ b L xs) (hL : L ≤ 384) (hend : ∀ (σX σM : Nat → Nat) (vX vM : gV) (i : Nat), cx_G Γ Ξ Q 4 139 4654 (gx_w LX σX Ξ.1 vX) (gx_w LM σM Ξ.1 vM) 1204 [(3, .int (nI i)), (2, .ref (σM 0)), (1, .ref (σX 0)), (0, .ref b)] []) {σX : Nat → Nat} {vX : gV} (hI : InvX vX a0 1) : cx_G Γ Ξ Q 4 118 3571 (gx_w LX σX Ξ.1 vX) [] 7 [(0, .ref b)] [.ref (σX 0)] := by
  refine cb_astore_n (n := 8) hX [(1, .ref (σX 0)), (0, .ref b)] dL_law_7 rfl rfl rfl rfl ?_
  refine cb_new (fs := [.null, .null, .null, .null, .int 0, .null, .null, .int 0, .null, .int 0, .null, .null, .null, .int 0, .null, .null, .int 0, .int 0, .null, .null, .null, .null, .null, .null, .int 0, .int 0, .int 0, .null, .null, .int 0]) (c1 := 119) (s1 := 3601) (n := 11) hX hR kc_X8 w_cM w_n8 mi_X8_init.2.1 df_X8 rfl rfl rfl rfl dL_law_8 rfl (fun y => ?_)
  refine cb_dup (n := 12) hX rfl dL_law_11 rfl ?_
  refine cb_callI (F' := gx_w LX σX Ξ.1 vX) (As := []) (st := [.ref y]) (c1 := 139) (s1 := 4654) (n := 15) hX hR (fun sz => c_X8 Γ.2.1 Ξ.2.1 Ξ.1 y sz) ci_X8 ml_L_12 rfl ⟨rfl, rfl⟩ rfl rfl rfl rfl rfl dL_law_12 rfl rfl rfl (fun w hw => ?_)
  refine hw.elim fun σM ew => ?_
  rw [ew]
  refine cb_world (F' := gx_w LX σX Ξ.1 vX) (B' := gx_w LM (mdσ y σM) Ξ.1 v0m) (fun H A hP hD => ?_) (ls_3 l hX hR hl hs hL hend hI)
  rw [List.append_nil] at hP hD
  rw [gx_wl (lay := LM)]
  exact ⟨hP, hD⟩
theorem ls_1 {Γ : gC} {Ξ : cO} {Q : State → Prop} (l : Launch) {b L : Nat} {xs : Nat → Int32} (hX : cx_X Γ Ξ cL_law RL 4) (hR : Γ.2.2.2.1 = cx_R 13 600000 7302250) (hl : Γ.2.1 = l) (hs : scr Γ Ξ b L xs) (hL : L ≤ 384) (hend : ∀ (σX σM : Nat → Nat) (vX vM : gV) (i : Nat), cx_G Γ Ξ Q 4 139 4654 (gx_w LX σX Ξ.1 vX) (gx_w LM σM Ξ.1 vM) 1204 [(3, .int (nI i)), (2, .ref (σM 0)), (1, .ref (σX 0)), (0, .ref b)] []) : cx_G Γ Ξ Q 4 0 0 [] [] 0 [(0, .ref b)] [] := by
  refine cb_new (fs := [.null, .null, .null, .null, .null, .null, .null, .null, .null, .int 0]) (c1 := 1) (s1 := 10) (n := 3) hX hR kc_X7 w_cX w_n7 mi_X7_init.2.1 df_X7 rfl rfl rfl rfl dL_law_0 rfl (fun x => ?_)
  refine cb_dup (n := 4) hX rfl dL_law_3 rfl ?_
  refine cb_callI (F' := []) (As := []) (st := [.ref x]) (c1 := 118) (s1 := 3571) (n := 7) hX hR (fun sz => c_X7 Γ.2.1 Ξ.2.1 Ξ.1 x sz) ci_X7 ml_L_9 rfl ⟨rfl, rfl⟩ rfl rfl rfl rfl rfl dL_law_4 rfl rfl rfl (fun w hw => ?_)
  refine hw.elim fun σX h => h.elim fun vX h => ?_
  have ew := h.1
  have ex := h.2.1
  have hI := h.2.2
  rw [List.nil_append, ew, ← ex]
  exact ls_2 l hX hR hl hs hL hend hI
/-- THE LAW, from its entry -/
theorem whole_start {p : Program} {e : Env} {s : State} {m : MethodId} {below : List Frame} {meth : Method} {c : Code} (l : Launch) {b L : Nat} {xs : Nat → Int32} (hL : L ≤ 384) (C0 : lw_At p s m meth c b L xs) : W p l e room_1 s m #[Value.ref b] below meth c s.heap [] 0 0 (lw_Z below #[Value.ref b] s) (entryFrame m ([Value.ref b] : List Value).toArray 4) := by
  obtain ⟨hx, hb, hr, hml, hown, hts, hX0, hbl, hlocks, hgv⟩ := id C0
  obtain ⟨D, ty, hK⟩ := known hts
  have hX : cx_X (p, l, e, room_1, s, m, #[Value.ref b], below, meth, c) (ty, D, fun q => s.heap.size ≤ q) cL_law RL 4 := ⟨hx, hb, hml, hown, fun w hw => hts w (List.mem_filter.mp hw).1, hK, fun q h => h⟩
  have hs : scr (p, l, e, room_1, s, m, #[Value.ref b], below, meth, c) (ty, D, fun q => s.heap.size ≤ q) b L xs := ⟨hX0, hbl, Nat.not_le.mpr hbl⟩
  have G := ls_1 (Q := lw_Z below #[Value.ref b] s) l hX rfl rfl hs hL (fun σX σM vX vM i => by
    refine cb_iconst (x := (1 : Int32)) (n := 1205) hX rfl dL_law_1204 rfl ?_
    intro H locs ls hP hD hS hl
    exact va_forget (fun q hq => hS.2.2 q hq) (W.widen (k := 600000) (n := 7302250) (Nat.le_of_ble_eq_true rfl) (Nat.le_of_ble_eq_true rfl) (lw_ret hx hb hr hlocks dL_law_1205)))
  have hl := lv_entry ([.ref b]) (n := 4) (Nat.le_of_ble_eq_true rfl)
  rw [lg_entry_eq]
  generalize (lg_sl ([.ref b]) ++ List.replicate (4 - (lg_sl ([.ref b])).length) Slot.unset).toArray = ls at hl ⊢
  have hl : lv_has ls 4 [(0, .ref b)] := hl
  exact G s.heap [] ls (fun k q h => by simp at h) ⟨fun i j p q h => by simp at h, fun k q h => by simp at h⟩ va_S.rf hl
