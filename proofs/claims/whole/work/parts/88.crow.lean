/-! THE C LAYER: worlds that grow. F: the cells at hand; B: those that are done. -/
theorem va_AOA.moved {ty : FieldType} {u U : State} (hvm : u.vm.Alike U.vm) (h : va_AOA ty u) : va_AOA ty U := (Cond.arrayOver_setVmC (args := #[]) (s := u) (vm' := U.vm) hvm (.array ty)).trans h
def cx_K (D : va_G) (ty : Nat → ClassId) (U : State) : Prop := gx_K D ty U ∧ va_AO RX5 U ∧ va_AO RX2 U ∧ va_AO RX0 U ∧ va_AOA .int U ∧ va_Nw (.methodLinkNest RX7 20 yX6_init RX7) U ∧ va_Nw (.methodLinkNest RX6 32 yX0_init RX7) U ∧ va_Nw (.methodLinkNest RX1 17 yX0_init RX7) U ∧ va_Nw (.methodLinkNest RX7 39 yX4_init RX7) U ∧ va_Nw (.methodLinkNest RX7 46 yX3_init RX7) U ∧ va_Nw (.methodLinkNest RX7 53 yX2_init RX7) U
theorem cx_K.warm {D : va_G} {ty : Nat → ClassId} {s U : State} (h : cx_K D ty s) (hW : s.WarmedH U.vm) : cx_K D ty U := by
  obtain ⟨h1, h2, h3, h4, h5, h6, h7, h8, h9, h10, h11⟩ := h
  exact ⟨h1.warm hW, h2.moved hW.alike, h3.moved hW.alike, h4.moved hW.alike, h5.moved hW.alike, va_Nw.warmM hW h6, va_Nw.warmM hW h7, va_Nw.warmM hW h8, va_Nw.warmM hW h9, va_Nw.warmM hW h10, va_Nw.warmM hW h11⟩
theorem cx_K.calling {D : va_G} {ty : Nat → ClassId} {U : State} (h : cx_K D ty U) (g : JFrame) (mk : MethodId) (a : Array Value) : cx_K D ty (U.calling g mk a) := by
  obtain ⟨h1, h2, h3, h4, h5, h6, h7, h8, h9, h10, h11⟩ := h
  exact ⟨h1.calling g mk a, va_AO.moved (u := U) (U := U.calling g mk a) (Vm.Alike.refl U.vm) h2, va_AO.moved (u := U) (U := U.calling g mk a) (Vm.Alike.refl U.vm) h3, va_AO.moved (u := U) (U := U.calling g mk a) (Vm.Alike.refl U.vm) h4, va_AOA.moved (u := U) (U := U.calling g mk a) (Vm.Alike.refl U.vm) h5, va_Nw.same rfl (u := U) (U := U.calling g mk a) rfl h6, va_Nw.same rfl (u := U) (U := U.calling g mk a) rfl h7, va_Nw.same rfl (u := U) (U := U.calling g mk a) rfl h8, va_Nw.same rfl (u := U) (U := U.calling g mk a) rfl h9, va_Nw.same rfl (u := U) (U := U.calling g mk a) rfl h10, va_Nw.same rfl (u := U) (U := U.calling g mk a) rfl h11⟩
/-- an array class is one -/
theorem cx_ty {D : va_G} {ty : Nat → ClassId} {s : State} {cA : ClassId} {T : FieldType} (t : Nat) (h : va_K D vwCl (gx_tys ty ++ [(cA, T)]) s) (ht : (gx_tys ty)[t]? = some (ty t, T)) : cA = ty t := by
  have h6 : (gx_tys ty ++ [(cA, T)])[6]? = some (cA, T) := rfl
  have hl : t < (gx_tys ty).length := (List.getElem?_eq_some_iff.mp ht).1
  have h7 : (gx_tys ty ++ [(cA, T)])[t]? = some (ty t, T) := by rw [List.getElem?_append_left hl]; exact ht
  have a1 : va_RA s cA T := (h.2 6 _ h6).2
  have a2 : va_RA s (ty t) T := (h.2 t _ h7).2
  cases T with
  | object C =>
    obtain ⟨_, _, -, -, -, f1⟩ := a1
    obtain ⟨_, _, -, -, -, f2⟩ := a2
    exact Option.some.inj (f1.symm.trans f2)
  | _ => exact Option.some.inj ((show s.vm.findClass _ = some cA from a1).symm.trans a2)
abbrev cO : Type := (Nat → ClassId) × va_G × (Nat → Prop)
abbrev cx_R (d mc ms : Nat) : Room := { frames := d, cells := mc, slots := ms, locals := 40 * d }
def cx_X (Γ : gC) (Ξ : cO) (cc : ByteArray) (own : String) (nL : Nat) : Prop :=
  Γ.1.tables.exec = Jvm.exec ∧ Γ.2.2.2.2.2.2.2.2.2.code = cc ∧ Γ.2.2.2.2.2.2.2.2.2.maxLocals = nL ∧ Γ.2.2.2.2.1.vm.findClass own = some Γ.2.2.2.2.2.1.cls ∧ (∀ w ∈ gU, w.before Γ.2.2.2.2.2.2.1 Γ.2.2.2.2.1 = true) ∧ cx_K Ξ.2.1 Ξ.1 Γ.2.2.2.2.1 ∧ ∀ q, Γ.2.2.2.2.1.heap.size ≤ q → Ξ.2.2 q
abbrev cx_W (Γ : gC) (H : Heap) (locs : List Loc) (cn sn : Nat) (Q : State → Prop) (g : JFrame) : Prop := W Γ.1 Γ.2.1 Γ.2.2.1 Γ.2.2.2.1 Γ.2.2.2.2.1 Γ.2.2.2.2.2.1 Γ.2.2.2.2.2.2.1 Γ.2.2.2.2.2.2.2.1 Γ.2.2.2.2.2.2.2.2.1 Γ.2.2.2.2.2.2.2.2.2 H locs cn sn Q g
def cx_G (Γ : gC) (Ξ : cO) (Q : State → Prop) (nL cn sn : Nat) (F B : va_W) (pc : Nat) (lv : List (Nat × Value)) (st : List Value) : Prop :=
  ∀ (H : Heap) (locs : List Loc) (ls : Array Slot), va_P Ξ.2.1 vwCl (F ++ B) H → va_D Ξ.2.2 (F ++ B) → va_S Ξ.2.2 Γ.2.2.2.2.1.heap H locs → lv_has ls nL lv → cx_W Γ H locs cn sn Q (F0 Γ.2.2.2.2.2.1 pc ls st)
def cx_Pc (D : va_G) (ty : Nat → ClassId) (av : List Value) (w0 : va_W) (sz : Nat) : Array Value → State → Prop := va_Pc av (fun U => U.heap.size = sz ∧ va_P D vwCl w0 U.heap ∧ va_D (fun _ => True) w0 ∧ cx_K D ty U)
def cx_Qc (D : va_G) (post : va_W → Prop) (A : Nat → Prop) : Array Value → State → Outcome → State → Prop := va_Qv post (fun (w : va_W) (t : State) => va_P D vwCl w t.heap ∧ va_D A w) A
/-- a constructor's contract: from the cells w0 to cells w with post -/
def cx_M (l : Launch) (D : va_G) (ty : Nat → ClassId) (y : MethodName) (cc : ByteArray) (maxL d mc ms : Nat) (av : List Value) (w0 : va_W) (sz : Nat) (post : va_W → Prop) : Prop :=
  Met l y (.code y cc maxL none :: gU) (cx_R d mc ms) (cx_Pc D ty av w0 sz) (cx_Qc D post (va_A w0 sz)) mc ms (va_A w0 sz)
abbrev cx_Q (Γ : gC) (Ξ : cO) (mc ms : Nat) (post : va_W → Prop) : State → Prop := MQ Γ.2.2.2.2.2.2.2.1 (cx_Qc Ξ.2.1 post Ξ.2.2) Γ.2.2.2.2.2.2.1 Γ.2.2.2.2.1 mc ms Ξ.2.2
theorem cx_start {l : Launch} {D : va_G} {ty : Nat → ClassId} {y : MethodName} {cc : ByteArray} {maxL d mc ms : Nat} {av : List Value} {w0 : va_W} {sz : Nat} {post : va_W → Prop} {lv : List (Nat × Value)} (hy : plainFor y = true) (hlen : (lg_sl av).length ≤ maxL) (hlv : lv_args 0 av = lv)
    (body : ∀ Γ : gC, Γ.2.1 = l → Γ.2.2.2.1 = cx_R d mc ms → cx_X Γ (ty, D, va_A w0 sz) cc y.cls maxL → Γ.2.2.2.2.2.2.2.2.1.sig.returnType = none → Γ.2.2.2.2.2.2.2.2.1.locks = false → Γ.2.2.2.2.2.2.2.2.1.name = y.name → cx_G Γ (ty, D, va_A w0 sz) (cx_Q Γ (ty, D, va_A w0 sz) mc ms post) maxL 0 0 w0 [] 0 lv []) : cx_M l D ty y cc maxL d mc ms av w0 sz post := by
  refine va_MetF (cc := cc) (maxL := maxL) (ret := none) hy rfl ?_
  intro p e s m args below meth c s₁ B hml hv
  obtain ⟨rfl, hsz, hP, hD, hK⟩ := hv
  have hts := atoms_spec (ws := .code y cc maxL none :: gU) B.pre
  have hown : s.vm.findClass y.cls = some m.cls := findClass_of_methodNamed B.named
  have hl := lv_entry av (n := maxL) hlen
  rw [lg_entry_eq]
  rw [hlv] at hl
  refine body (p, l, e, cx_R d mc ms, s, m, av.toArray, below, meth, c) rfl rfl ⟨B.exec, B.bytes, hml, hown, fun w h => hts w (List.mem_cons_of_mem _ h), hK, fun q hq => Or.inr (by rw [← hsz]; exact hq)⟩ B.returns B.notSynchronized (name_of_methodNamed B.named B.method).1 s.heap [] _ (by rw [List.append_nil]; exact hP) (by rw [List.append_nil]; exact hD.self) va_S.rf hl
theorem w_oi : Cond.instanceMethod objectInit ∈ gU := t_1 (i := 20) rfl rfl
theorem w_oc : Cond.code objectInit ⟨#[0xb1]⟩ 1 none ∈ gU := t_1 (i := 21) rfl rfl
section CX
variable {Γ : gC} {Ξ : cO} {Q : State → Prop} {nL cn sn : Nat} {F B : va_W} {pc n : Nat} {lv : List (Nat × Value)} {st : List Value} {cc : ByteArray} {own : String}
theorem cb_iadd (hX : cx_X Γ Ξ cc own nL) {x y z : Int32} (hz : x + y = z) (hd : decode cc pc = .ok (.iadd, 1)) (hn : pc + 1 = n) (k : cx_G Γ Ξ Q nL cn sn F B n lv (.int z :: st)) : cx_G Γ Ξ Q nL cn sn F B pc lv (.int y :: .int x :: st) := by
  subst hn; subst hz
  exact fun H locs ls hP hD hS hl => lv_iadd hX.1 hX.2.1 hd (k H locs ls hP hD hS hl)
theorem cb_dup (hX : cx_X Γ Ξ cc own nL) {va : Value} (h1 : va.category = 1) (hd : decode cc pc = .ok (.dup, 1)) (hn : pc + 1 = n) (k : cx_G Γ Ξ Q nL cn sn F B n lv (va :: va :: st)) : cx_G Γ Ξ Q nL cn sn F B pc lv (va :: st) := by
  subst hn
  exact fun H locs ls hP hD hS hl => lv_dup hX.1 hX.2.1 hd h1 (k H locs ls hP hD hS hl)
theorem cb_iconst (hX : cx_X Γ Ξ cc own nL) {i : Int} {x : Int32} (hv : Int32.ofInt i = x) (hd : decode cc pc = .ok (.iconst i, 1)) (hn : pc + 1 = n) (k : cx_G Γ Ξ Q nL cn sn F B n lv (.int x :: st)) : cx_G Γ Ξ Q nL cn sn F B pc lv st := by
  subst hn
  exact fun H locs ls hP hD hS hl => lv_iconst hX.1 hX.2.1 hd hv (k H locs ls hP hD hS hl)
theorem cb_bipush (hX : cx_X Γ Ξ cc own nL) {i : Int} {x : Int32} (hv : (Int8.ofInt i).toInt32 = x) (hd : decode cc pc = .ok (.bipush i, 2)) (hn : pc + 2 = n) (k : cx_G Γ Ξ Q nL cn sn F B n lv (.int x :: st)) : cx_G Γ Ξ Q nL cn sn F B pc lv st := by
  subst hn
  exact fun H locs ls hP hD hS hl => lv_bipush hX.1 hX.2.1 hd hv (k H locs ls hP hD hS hl)
theorem cb_sipush (hX : cx_X Γ Ξ cc own nL) {i : Int} {x : Int32} (hv : (Int16.ofInt i).toInt32 = x) (hd : decode cc pc = .ok (.sipush i, 3)) (hn : pc + 3 = n) (k : cx_G Γ Ξ Q nL cn sn F B n lv (.int x :: st)) : cx_G Γ Ξ Q nL cn sn F B pc lv st := by
  subst hn
  exact fun H locs ls hP hD hS hl => lv_sipush hX.1 hX.2.1 hd hv (k H locs ls hP hD hS hl)
theorem cb_iload_n (hX : cx_X Γ Ξ cc own nL) (j : Nat) {k4 : Fin 4} {i : Nat} {x : Int32} (hd : decode cc pc = .ok (.iload_n k4, 1)) (hn : pc + 1 = n) (hi : (k4 : Nat) = i) (hj : lv[j]? = some (i, .int x)) (k : cx_G Γ Ξ Q nL cn sn F B n lv (.int x :: st)) : cx_G Γ Ξ Q nL cn sn F B pc lv st := by
  subst hn
  exact fun H locs ls hP hD hS hl => lv_iload_n hX.1 hX.2.1 hd hi (lv_at hl j hj) (k H locs ls hP hD hS hl)
theorem cb_aload_n (hX : cx_X Γ Ξ cc own nL) (j : Nat) {k4 : Fin 4} {i : Nat} {x : Nat} (hd : decode cc pc = .ok (.aload_n k4, 1)) (hn : pc + 1 = n) (hi : (k4 : Nat) = i) (hj : lv[j]? = some (i, .ref x)) (k : cx_G Γ Ξ Q nL cn sn F B n lv (.ref x :: st)) : cx_G Γ Ξ Q nL cn sn F B pc lv st := by
  subst hn
  exact fun H locs ls hP hD hS hl => lv_aload_n hX.1 hX.2.1 hd hi (lv_at hl j hj) (k H locs ls hP hD hS hl)
theorem cb_istore_n (hX : cx_X Γ Ξ cc own nL) {k4 : Fin 4} {i : Nat} {x : Int32} (lv' : List (Nat × Value)) (hd : decode cc pc = .ok (.istore_n k4, 1)) (hn : pc + 1 = n) (hi : (k4 : Nat) = i) (hm : Nat.blt (i) nL = true) (hl' : (i, Value.int x) :: lv.filter (fun q => !(q.1 == i) && !(q.1 + 1 == i && q.2.category == 2)) = lv') (k : cx_G Γ Ξ Q nL cn sn F B n lv' st) : cx_G Γ Ξ Q nL cn sn F B pc lv (.int x :: st) := by
  subst hn
  exact fun H locs ls hP hD hS hl => lv_istore_n hX.1 hX.2.1 hd hi hl (Nat.le_of_ble_eq_true hm) hl' (fun ls' hl2 => k H locs ls' hP hD hS hl2)
theorem cb_astore_n (hX : cx_X Γ Ξ cc own nL) {k4 : Fin 4} {i : Nat} {x : Nat} (lv' : List (Nat × Value)) (hd : decode cc pc = .ok (.astore_n k4, 1)) (hn : pc + 1 = n) (hi : (k4 : Nat) = i) (hm : Nat.blt (i) nL = true) (hl' : (i, Value.ref x) :: lv.filter (fun q => !(q.1 == i) && !(q.1 + 1 == i && q.2.category == 2)) = lv') (k : cx_G Γ Ξ Q nL cn sn F B n lv' st) : cx_G Γ Ξ Q nL cn sn F B pc lv (.ref x :: st) := by
  subst hn
  exact fun H locs ls hP hD hS hl => lv_astore_n hX.1 hX.2.1 hd hi hl (Nat.le_of_ble_eq_true hm) hl' (fun ls' hl2 => k H locs ls' hP hD hS hl2)
theorem cb_iinc (hX : cx_X Γ Ξ cc own nL) (j : Nat) {i : Nat} {d : Int} {x y z : Int32} (lv' : List (Nat × Value)) (hd : decode cc pc = .ok (.iinc i d, 3)) (hn : pc + 3 = n) (hj : lv[j]? = some (i, .int x)) (hz : Int32.ofInt d = z) (hy : x + z = y) (hm : Nat.blt i nL = true) (hl' : (i, Value.int y) :: lv.filter (fun q => !(q.1 == i) && !(q.1 + 1 == i && q.2.category == 2)) = lv') (k : cx_G Γ Ξ Q nL cn sn F B n lv' st) : cx_G Γ Ξ Q nL cn sn F B pc lv st := by
  subst hn
  exact fun H locs ls hP hD hS hl => lv_iinc (v := y) hX.1 hX.2.1 hd hl hj (by rw [← hy, ← hz]) (Nat.le_of_ble_eq_true hm) hl' (fun ls' hl2 => k H locs ls' hP hD hS hl2)
theorem cb_goto (hX : cx_X Γ Ξ cc own nL) {off : Int} (hd : decode cc pc = .ok (.goto off, 3)) (hn : (pc : Int) + off = (n : Int)) (k : cx_G Γ Ξ Q nL cn sn F B n lv st) : cx_G Γ Ξ Q nL cn sn F B pc lv st := fun H locs ls hP hD hS hl => lv_goto hX.1 hX.2.1 hd hn (k H locs ls hP hD hS hl)
theorem cb_ge (hX : cx_X Γ Ξ cc own nL) {x y : Int32} {off : Int} {tgt : Nat} (hd : decode cc pc = .ok (.if_icmp .ge off, 3)) (ht : (pc : Int) + off = (tgt : Int)) (hn : pc + 3 = n) (kt : y ≤ x → cx_G Γ Ξ Q nL cn sn F B tgt lv st) (kf : ¬ y ≤ x → cx_G Γ Ξ Q nL cn sn F B n lv st) : cx_G Γ Ξ Q nL cn sn F B pc lv (.int y :: .int x :: st) := by
  subst hn
  exact fun H locs ls hP hD hS hl => lv_icmp_ge (tgt := tgt) hX.1 hX.2.1 hd ht (fun h => kt h H locs ls hP hD hS hl) (fun h => kf h H locs ls hP hD hS hl)
theorem cb_obj (hX : cx_X Γ Ξ cc own nL) {d mc ms idx a : Nat} (hR : Γ.2.2.2.1 = cx_R (d + 1) mc ms) (hw : Cond.methodLink own idx objectInit ∈ gU) (hd : decode cc pc = .ok (.invokespecial idx, 3)) (hn : pc + 3 = n) (k : cx_G Γ Ξ Q nL cn sn F B n lv []) : cx_G Γ Ξ Q nL cn sn F B pc lv [.ref a] := by
  subst hn
  intro H locs ls hP hD hS hl
  refine W.objInit hX.1 hX.2.1 hX.2.2.2.1 (hX.2.2.2.2.1 _ hw) (hX.2.2.2.2.1 _ w_oi) (hX.2.2.2.2.1 _ w_oc) rfl (by rw [hX.2.2.1]; exact hl.1) rfl hd (by rw [hR]; exact Nat.succ_le_succ (Nat.zero_le _)) (by rw [hR]; show 2 * 0 + 0 + 12 ≤ 40 * (d + 1); omega) (k H locs ls hP hD hS hl)
end CX
