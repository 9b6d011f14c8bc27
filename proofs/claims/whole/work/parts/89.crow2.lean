/-! THE C LAYER: the heap's rows -/
theorem ap_l {F B : va_W} {i : Nat} {x : Nat × va_E} (h : F[i]? = some x) : (F ++ B)[i]? = some x := by
  rw [List.getElem?_append_left (List.getElem?_eq_some_iff.mp h).1]; exact h
theorem ap_set {F B : va_W} {i : Nat} {x y : Nat × va_E} (h : F[i]? = some x) : (F ++ B).set i y = F.set i y ++ B := List.set_append_left i y (List.getElem?_eq_some_iff.mp h).1
theorem va_P.mem {D : va_G} {ws ws' : va_W} {H : Heap} (h : va_P D vwCl ws H) (hm : ∀ q ∈ ws', q ∈ ws) : va_P D vwCl ws' H := fun k q hk => by
  obtain ⟨i, hi⟩ := List.mem_iff_getElem?.mp (hm q (List.mem_of_getElem? hk))
  exact h i q hi
/-- behind a constructor's call: what was made stands in its place -/
theorem cx_join {D : va_G} {A0 : Nat → Prop} {F wc B w1 : va_W} {H H1 : Heap} (hP : va_P D vwCl ((F ++ wc) ++ B) H) (hD : va_D A0 ((F ++ wc) ++ B)) (hk : ∀ q : Nat, q < H.size → ¬ va_A wc H.size q → H1[q]? = H[q]?) (hF : ∀ q, va_A wc H.size q → A0 q) (hP1 : va_P D vwCl w1 H1) (hD1 : va_D (va_A wc H.size) w1) : va_P D vwCl ((F ++ w1) ++ B) H1 ∧ va_D A0 ((F ++ w1) ++ B) := by
  have hP' := hP.swap
  have hD' := hD.swap
  generalize hR : F ++ B = R at hP' hD'
  have apart : ∀ (k : Nat) (q : Nat × va_E), R[k]? = some q → q.1 < H.size ∧ ¬ va_A wc H.size q.1 := by
    intro k q hq
    have h2 : (R ++ wc)[k]? = some q := ap_l hq
    have hl := (hP' k q h2).lt
    refine ⟨hl, fun h => ?_⟩
    rcases h with ⟨k2, e, h⟩ | h
    · have h4 : (R ++ wc)[R.length + k2]? = some (q.1, e) := by
        rw [List.getElem?_append_right (by omega), show R.length + k2 - R.length = k2 by omega]; exact h
      have hij := hD'.1 k (R.length + k2) q (q.1, e) h2 h4 rfl
      have := (List.getElem?_eq_some_iff.mp hq).1
      omega
    · omega
  have r1 : va_P D vwCl (R ++ w1) H1 := va_P.app (fun k q hq => ((hP' k q (ap_l hq)).kept (hk q.1 (apart k q hq).1 (apart k q hq).2))) hP1
  have r2 : va_D A0 (R ++ w1) := by
    refine va_D.app ⟨fun i j x y hx hy hxy => hD'.1 i j x y (ap_l hx) (ap_l hy) hxy, fun k q hq => hD'.2 k q (ap_l hq)⟩ (hD1.weaken (fun k q _ h => hF q.1 h)) (fun i j x y hx hy hxy => ?_)
    exact (apart i x hx).2 (by rw [hxy]; exact hD1.2 j y hy)
  rw [← hR] at r1 r2
  exact ⟨r1.swap, r2.swap⟩
section CX2
variable {Γ : gC} {Ξ : cO} {Q : State → Prop} {nL cn sn c1 s1 d mc ms : Nat} {F F' B : va_W} {pc n : Nat} {lv : List (Nat × Value)} {st : List Value} {cc : ByteArray} {own : String}
theorem cb_file {F1 F2 : va_W} (h : F = F1 ++ F2) (k : cx_G Γ Ξ Q nL cn sn F1 (F2 ++ B) pc lv st) : cx_G Γ Ξ Q nL cn sn F B pc lv st := by
  subst h
  intro H locs ls hP hD hS hl
  rw [List.append_assoc] at hP hD
  exact k H locs ls hP hD hS hl
theorem cb_eqF (h : F = F') (k : cx_G Γ Ξ Q nL cn sn F' B pc lv st) : cx_G Γ Ξ Q nL cn sn F B pc lv st := by
  subst h
  exact k
theorem cb_new (hX : cx_X Γ Ξ cc own nL) (hR : Γ.2.2.2.1 = cx_R d mc ms) {C : String} {T : u_T} {N ci idx : Nat} {t0 : Nat → FieldType} {fs : List Value} (hc : gx_c ci C T N t0) (hcl : Cond.classLink own idx C ∈ gU) (hin : Cond.instantiable C N ∈ gU) (hini : Cond.initialized C ∈ gU) (hfs : ∀ j, j < N → defaultValue (t0 j) = vp_V fs j) (h1 : cn + 1 = c1) (h2 : sn + N = s1) (hcm : Nat.ble c1 mc = true) (hsm : Nat.ble s1 ms = true) (hd : decode cc pc = .ok (.new idx, 3)) (hn : pc + 3 = n) (k : ∀ q, cx_G Γ Ξ Q nL c1 s1 (F ++ [(q, .inr (ci, fs))]) B n lv (.ref q :: st)) : cx_G Γ Ξ Q nL cn sn F B pc lv st := by
  subst hn; subst h1; subst h2
  intro H locs ls hP hD hS hl
  exact va_new (ci := ci) (fs := fs) hX.1 hX.2.1 hX.2.2.2.2.1 hc.2.1 t0 hc.2.2.1 hX.2.2.2.1 (hX.2.2.2.2.1 _ hcl) (hX.2.2.2.2.1 _ hin) (hX.2.2.2.2.1 _ hini) hX.2.2.2.2.2.1.1.1 hP hD hS hX.2.2.2.2.2.2 hc.1 hfs (by rw [hR]; exact Nat.le_of_ble_eq_true hcm) (by rw [hR]; exact Nat.le_of_ble_eq_true hsm) hd (fun q H1 hP1 hD1 hS1 => k q H1 locs ls hP1.swap hD1.swap hS1 hl)
theorem w_ai : Cond.arrayClass .int ∈ gU := t_1 (i := 42) rfl rfl
theorem w_al : Cond.arrayClass .long ∈ gU := t_1 (i := 212) rfl rfl
theorem cb_newi (hX : cx_X Γ Ξ cc own nL) (hR : Γ.2.2.2.1 = cx_R d mc ms) {x : Int32} {N : Nat} (hx : ¬ x < 0) (hN : x.toNatClampNeg = N) (hb : Nat.ble (N * 4) 536870912 = true) (h1 : cn + 1 = c1) (h2 : sn + N = s1) (hcm : Nat.ble c1 mc = true) (hsm : Nat.ble s1 ms = true) (hd : decode cc pc = .ok (.newarray .int, 2)) (hn : pc + 2 = n) (k : ∀ q, cx_G Γ Ξ Q nL c1 s1 (F ++ [(q, .inl (Ξ.1 0, N, .inl (fun _ => 0)))]) B n lv (.ref q :: st)) : cx_G Γ Ξ Q nL cn sn F B pc lv (.int x :: st) := by
  subst hn; subst h1; subst h2
  intro H locs ls hP hD hS hl
  refine va_newa (atype := .int) (ty := .int) (a0 := (N, .inl (fun _ => 0))) hX.1 hX.2.1 (hX.2.2.2.2.1 _ w_ai) rfl hX.2.2.2.2.2.1.1.1 hP hD hS hX.2.2.2.2.2.2 (fun cA => rfl) hx hN (Nat.le_of_ble_eq_true hb) (by rw [hR]; exact Nat.le_of_ble_eq_true hcm) (by rw [hR]; exact Nat.le_of_ble_eq_true hsm) hd (fun q cA H1 hK1 hP1 hD1 hS1 => ?_)
  have e := cx_ty 0 hK1 rfl
  subst e
  exact k q H1 locs ls hP1.swap hD1.swap hS1 hl
theorem cb_newl (hX : cx_X Γ Ξ cc own nL) (hR : Γ.2.2.2.1 = cx_R d mc ms) {x : Int32} {N : Nat} (hx : ¬ x < 0) (hN : x.toNatClampNeg = N) (hb : Nat.ble (N * 8) 536870912 = true) (h1 : cn + 1 = c1) (h2 : sn + N = s1) (hcm : Nat.ble c1 mc = true) (hsm : Nat.ble s1 ms = true) (hd : decode cc pc = .ok (.newarray .long, 2)) (hn : pc + 2 = n) (k : ∀ q, cx_G Γ Ξ Q nL c1 s1 (F ++ [(q, .inl (Ξ.1 1, N, .inr (.inl (fun _ => 0))))]) B n lv (.ref q :: st)) : cx_G Γ Ξ Q nL cn sn F B pc lv (.int x :: st) := by
  subst hn; subst h1; subst h2
  intro H locs ls hP hD hS hl
  refine va_newa (atype := .long) (ty := .long) (a0 := (N, .inr (.inl (fun _ => 0)))) hX.1 hX.2.1 (hX.2.2.2.2.1 _ w_al) rfl hX.2.2.2.2.2.1.1.1 hP hD hS hX.2.2.2.2.2.2 (fun cA => rfl) hx hN (Nat.le_of_ble_eq_true hb) (by rw [hR]; exact Nat.le_of_ble_eq_true hcm) (by rw [hR]; exact Nat.le_of_ble_eq_true hsm) hd (fun q cA H1 hK1 hP1 hD1 hS1 => ?_)
  have e := cx_ty 1 hK1 rfl
  subst e
  exact k q H1 locs ls hP1.swap hD1.swap hS1 hl
theorem cb_newq (hX : cx_X Γ Ξ cc own nL) (hR : Γ.2.2.2.1 = cx_R d mc ms) {x : Int32} {N idx : Nat} {C : String} (t : Nat) (hcl : Cond.classLink own idx C ∈ gU) (hov : va_AO C Γ.2.2.2.2.1) (ht : (gx_tys Ξ.1)[t]? = some (Ξ.1 t, .object C)) (hx : ¬ x < 0) (hN : x.toNatClampNeg = N) (hb : Nat.ble (N * 4) 536870912 = true) (h1 : cn + 1 = c1) (h2 : sn + N = s1) (hcm : Nat.ble c1 mc = true) (hsm : Nat.ble s1 ms = true) (hd : decode cc pc = .ok (.anewarray idx, 3)) (hn : pc + 3 = n) (k : ∀ q, cx_G Γ Ξ Q nL c1 s1 (F ++ [(q, .inl (Ξ.1 t, N, .inr (.inr (.inr (.inr (fun _ => none))))))]) B n lv (.ref q :: st)) : cx_G Γ Ξ Q nL cn sn F B pc lv (.int x :: st) := by
  subst hn; subst h1; subst h2
  intro H locs ls hP hD hS hl
  refine va_newq hX.1 hX.2.1 hX.2.2.2.1 (hX.2.2.2.2.1 _ hcl) hov hX.2.2.2.2.2.1.1.1 hP hD hS hX.2.2.2.2.2.2 hx hN (Nat.le_of_ble_eq_true hb) (by rw [hR]; exact Nat.le_of_ble_eq_true hcm) (by rw [hR]; exact Nat.le_of_ble_eq_true hsm) hd (fun q cA H1 hK1 hP1 hD1 hS1 => ?_)
  have e := cx_ty t hK1 ht
  subst e
  exact k q H1 locs ls hP1.swap hD1.swap hS1 hl
theorem cb_putF (hX : cx_X Γ Ξ cc own nL) (hin2 : Γ.2.2.2.2.2.2.2.2.1.name = "<init>") {C : String} {T : u_T} {N ci idx i a : Nat} {t0 : Nat → FieldType} {fs : List Value} {ty : FieldType} {v : Value} (j : Nat) (hc : gx_c ci C T N t0) (hq : F[i]? = some (a, .inr (ci, fs))) (hk : Nat.blt j N = true) (hw : Cond.fieldLink own idx (T j).1 (T j).2.1 (T j).2.2.1 ∈ gU) (hf : (T j).2.2.2 = true) (hdc : (T j).1 = own) (ht : parseFieldDescriptor (T j).2.2.1 = some ty) (hn0 : narrow ty v = v) (hft : fits ty v = true) (hlen : Nat.blt j fs.length = true) (hF' : F.set i (a, .inr (ci, fs.set j v)) = F') (hd : decode cc pc = .ok (.putfield idx, 3)) (hn : pc + 3 = n) (k : cx_G Γ Ξ Q nL cn sn F' B n lv st) : cx_G Γ Ξ Q nL cn sn F B pc lv (v :: .ref a :: st) := by
  subst hn; subst hF'
  intro H locs ls hP hD hS hl
  refine va_putF (ty := ty) hX.1 hX.2.1 hX.2.2.2.2.1 hc.2.1 t0 hc.2.2.1 hc.2.2.2 hX.2.2.2.1 hX.2.2.2.2.2.1.1.1 hP hD hS i (ap_l hq) hc.1 j (Nat.le_of_ble_eq_true hk) (hX.2.2.2.2.1 _ hw) (fun _ h => h) hf hin2 hdc ht hn0 hft (Nat.le_of_ble_eq_true hlen) hd (fun H1 locs1 hP1 hD1 hS1 => ?_)
  rw [ap_set hq] at hP1 hD1
  exact k H1 locs1 ls hP1 hD1 hS1 hl
theorem cb_put (hX : cx_X Γ Ξ cc own nL) {C : String} {T : u_T} {N ci idx i a : Nat} {t0 : Nat → FieldType} {fs : List Value} {ty : FieldType} {v : Value} (j : Nat) (hc : gx_c ci C T N t0) (hq : F[i]? = some (a, .inr (ci, fs))) (hk : Nat.blt j N = true) (hw : Cond.fieldLink own idx (T j).1 (T j).2.1 (T j).2.2.1 ∈ gU) (hf : (T j).2.2.2 = false) (ht : parseFieldDescriptor (T j).2.2.1 = some ty) (hn0 : narrow ty v = v) (hft : fits ty v = true) (hlen : Nat.blt j fs.length = true) (hF' : F.set i (a, .inr (ci, fs.set j v)) = F') (hd : decode cc pc = .ok (.putfield idx, 3)) (hn : pc + 3 = n) (k : cx_G Γ Ξ Q nL cn sn F' B n lv st) : cx_G Γ Ξ Q nL cn sn F B pc lv (v :: .ref a :: st) := by
  subst hn; subst hF'
  intro H locs ls hP hD hS hl
  refine va_put (ty := ty) hX.1 hX.2.1 hX.2.2.2.2.1 hc.2.1 t0 hc.2.2.1 hc.2.2.2 hX.2.2.2.1 hX.2.2.2.2.2.1.1.1 hP hD hS i (ap_l hq) hc.1 j (Nat.le_of_ble_eq_true hk) (hX.2.2.2.2.1 _ hw) (fun _ h => h) hf ht hn0 hft (Nat.le_of_ble_eq_true hlen) hd (fun H1 locs1 hP1 hD1 hS1 => ?_)
  rw [ap_set hq] at hP1 hD1
  exact k H1 locs1 ls hP1 hD1 hS1 hl
theorem cb_get (hX : cx_X Γ Ξ cc own nL) {C : String} {T : u_T} {N ci idx i a : Nat} {t0 : Nat → FieldType} {fs : List Value} {v : Value} (j : Nat) (hc : gx_c ci C T N t0) (hq : F[i]? = some (a, .inr (ci, fs))) (hk : Nat.blt j N = true) (hw : Cond.fieldLink own idx (T j).1 (T j).2.1 (T j).2.2.1 ∈ gU) (hv : fs[j]? = some v) (hd : decode cc pc = .ok (.getfield idx, 3)) (hn : pc + 3 = n) (k : cx_G Γ Ξ Q nL cn sn F B n lv (v :: st)) : cx_G Γ Ξ Q nL cn sn F B pc lv (.ref a :: st) := by
  subst hn
  exact fun H locs ls hP hD hS hl => va_get hX.1 hX.2.1 hX.2.2.2.2.1 hc.2.1 hX.2.2.2.1 hX.2.2.2.2.2.1.1.1 hP i (ap_l hq) hc.1 j (Nat.le_of_ble_eq_true hk) (hX.2.2.2.2.1 _ hw) (fun _ h => h) hv hd (k H locs ls hP hD hS hl)
theorem cb_iast (hX : cx_X Γ Ξ cc own nL) {i a N : Nat} {f : Nat → Int32} {x y : Int32} (hq : F[i]? = some (a, .inl (Ξ.1 0, N, .inl f))) (hg : gin x N = true) (hF' : F.set i (a, .inl (Ξ.1 0, N, .inl (upd f x.toNatClampNeg y))) = F') (hd : decode cc pc = .ok (.iastore, 1)) (hn : pc + 1 = n) (k : cx_G Γ Ξ Q nL cn sn F' B n lv st) : cx_G Γ Ξ Q nL cn sn F B pc lv (.int y :: .int x :: .ref a :: st) := by
  subst hn; subst hF'
  intro H locs ls hP hD hS hl
  refine va_iast hX.1 hX.2.1 hX.2.2.2.2.2.1.1.1 hP hD hS i 0 (ap_l hq) rfl (gin_in hg) hd (fun H1 locs1 hP1 hD1 hS1 => ?_)
  rw [ap_set hq] at hP1 hD1
  exact k H1 locs1 ls hP1 hD1 hS1 hl
theorem cb_aast (hX : cx_X Γ Ξ cc own nL) {i i2 a v N ci M : Nat} {C : String} {T : u_T} {t0 : Nat → FieldType} {vs : List Value} {f : Nat → Option Nat} {x : Int32} (t : Nat) (hq : F[i]? = some (a, .inl (Ξ.1 t, M, .inr (.inr (.inr (.inr f)))))) (ht : (gx_tys Ξ.1)[t]? = some (Ξ.1 t, .object C)) (hq2 : F[i2]? = some (v, .inr (ci, vs))) (hc : gx_c ci C T N t0) (hg : gin x M = true) (hF' : F.set i (a, .inl (Ξ.1 t, M, .inr (.inr (.inr (.inr (va_up f x.toNatClampNeg (some v))))))) = F') (hd : decode cc pc = .ok (.aastore, 1)) (hn : pc + 1 = n) (k : cx_G Γ Ξ Q nL cn sn F' B n lv st) : cx_G Γ Ξ Q nL cn sn F B pc lv (.ref v :: .int x :: .ref a :: st) := by
  subst hn; subst hF'
  intro H locs ls hP hD hS hl
  refine va_astq (r := (C, T, N)) hX.1 hX.2.1 hX.2.2.2.2.2.1.1.1 hP hD hS i t i2 ci (ap_l hq) ht (ap_l hq2) hc.1 (gin_in hg) hd (fun H1 locs1 hP1 hD1 hS1 => ?_)
  rw [ap_set hq] at hP1 hD1
  exact k H1 locs1 ls hP1 hD1 hS1 hl
theorem cx_blind {D : va_G} {ty : Nat → ClassId} {av : List Value} {w0 : va_W} {sz : Nat} : FrameBlind (cx_Pc D ty av w0 sz) := fun a U g mk h => ⟨h.1, h.2.1, h.2.2.1, h.2.2.2.1, h.2.2.2.2.calling g mk a⟩
theorem cx_one {a : Nat} {e : va_E} : va_D (fun _ => True) [(a, e)] := ⟨fun i j p q hi hj _ => by
    have h1 := (List.getElem?_eq_some_iff.mp hi).1
    have h2 := (List.getElem?_eq_some_iff.mp hj).1
    simp at h1 h2
    omega, fun _ _ _ => trivial⟩
/-- what the tables say of a constructor -/
def cx_mi (y : MethodName) (cy : ByteArray) (maxL k0 : Nat) : Prop := (Cond.instanceMethod y ∈ gU ∧ Cond.initialized y.cls ∈ gU ∧ Cond.code y cy maxL none ∈ gU) ∧ y.name = "<init>" ∧ (y.cls ≠ "java/lang/invoke/MethodHandle" ∧ y.cls ≠ "java/lang/invoke/VarHandle" ∧ (parseMethodDescriptor y.desc).map (fun d => d.parameters.length) = some k0)
theorem cb_callA {y : MethodName} {d' maxL mc' ms' b ci : Nat} {fs As st0 : List Value} {post : va_W → Prop} (hX : cx_X Γ Ξ cc own nL)
    (hr : ∀ (H : Heap) (locs : List Loc) (ls : Array Slot), va_P Ξ.2.1 vwCl [(b, .inr (ci, fs))] H → lv_has ls nL lv → va_Run Γ.1 Γ.2.1 Γ.2.2.1 Γ.2.2.2.1 Γ.2.2.2.2.1 Γ.2.2.2.2.2.1 Γ.2.2.2.2.2.2.1 Γ.2.2.2.2.2.2.2.1 Γ.2.2.2.2.2.2.2.2.1 Γ.2.2.2.2.2.2.2.2.2 H locs cn sn mc' ms' (F0 Γ.2.2.2.2.2.1 pc ls st0) st (cx_Qc Ξ.2.1 post (va_A [(b, .inr (ci, fs))] H.size) (Value.ref b :: As).toArray) (va_A [(b, .inr (ci, fs))] H.size))
    (k : ∀ w1, post w1 → cx_G Γ Ξ Q nL (cn + mc') (sn + ms') (F ++ w1) B (pc + 3) lv st) : cx_G Γ Ξ Q nL cn sn (F ++ [(b, .inr (ci, fs))]) B pc lv st0 := by
  intro H locs ls hP hD hS hl
  have hPc : va_P Ξ.2.1 vwCl [(b, .inr (ci, fs))] H := hP.mem (fun q hq => List.mem_append_left _ (List.mem_append_right _ hq))
  have hFc : ∀ q, va_A [(b, .inr (ci, fs))] H.size q → Ξ.2.2 q := by
    intro q h
    rcases h with ⟨k9, e, h⟩ | h
    · obtain ⟨i, hi⟩ := List.mem_iff_getElem?.mp (List.mem_append_left B (List.mem_append_right F (List.mem_of_getElem? h)))
      exact hD.2 i _ hi
    · exact hX.2.2.2.2.2.2 q (Nat.le_trans hS.1 h)
  refine va_callv (hr H locs ls hPc hl) hS (fun q _ h => hFc q h) hFc (fun u t H1 locs1 ht hvm hw hB hz1 hk1 hS1 => ?_)
  obtain ⟨hP1, hD1⟩ := hB
  rw [ht] at hP1
  obtain ⟨hP2, hD2⟩ := cx_join hP hD hk1 hFc hP1 hD1
  exact k u hw H1 locs1 ls hP2 hD2 hS1 hl
theorem cb_callN (hX : cx_X Γ Ξ cc own nL) (hR : Γ.2.2.2.1 = cx_R d mc ms) {y : MethodName} {cy : ByteArray} {d' maxL mc' ms' k0 b ci idx : Nat} {host : String} {fs As st0 : List Value} {post : va_W → Prop} (hM : ∀ sz, cx_M Γ.2.1 Ξ.2.1 Ξ.1 y cy maxL d' mc' ms' (.ref b :: As) [(b, .inr (ci, fs))] sz post) (hm : cx_mi y cy maxL k0) (hw : va_Nw (.methodLinkNest own idx y host) Γ.2.2.2.2.1) (hk : As.length = k0) (hdd : Nat.ble (d' + 1) d = true ∧ Nat.ble maxL 21 = true) (hst : Nat.ble (st.map fun v => v.category).sum 8 = true) (h1 : cn + mc' = c1) (h2 : sn + ms' = s1) (hcm : Nat.ble c1 mc = true) (hsm : Nat.ble s1 ms = true) (hd : decode cc pc = .ok (.invokespecial idx, 3)) (hn : pc + 3 = n) (hst0 : st0 = As.reverse ++ .ref b :: st) (hF : F = F' ++ [(b, .inr (ci, fs))]) (k : ∀ w1, post w1 → cx_G Γ Ξ Q nL c1 s1 (F' ++ w1) B n lv st) : cx_G Γ Ξ Q nL cn sn F B pc lv st0 := by
  subst hn; subst h1; subst h2; subst hst0; subst hF
  have e1 : d' + 1 ≤ d := Nat.le_of_ble_eq_true hdd.1
  have e2 : maxL ≤ 21 := Nat.le_of_ble_eq_true hdd.2
  exact cb_callA (d' := d') (maxL := maxL) (y := y) (As := As) hX (fun H locs ls hP hl => va_runIN (nL := nL) ⟨hX.1, hX.2.1, hX.2.2.1, hX.2.2.2.1, hX.2.2.2.2.1⟩ (hM H.size) ⟨va_cnB k0 hX.2.2.2.2.1 (gx_goodC hm.1.2.2) rfl rfl rfl hw (hX.2.2.2.2.1 _ hm.1.2.1) hm.2.2 ⟨by rw [hR]; exact e1, by rw [hR]; show 8 + (maxL + 11) + 40 * d' ≤ 40 * d; omega⟩, hm.2.1, hX.2.2.2.2.1 _ hm.1.1⟩ ⟨cx_blind, fun U hU hW => ⟨rfl, by rw [hU], by rw [hU]; exact hP, cx_one, hX.2.2.2.2.2.1.warm hW⟩⟩ rfl hk hl.1 rfl (lv_room (Nat.le_of_ble_eq_true hst)) hd ⟨by rw [hR]; exact Nat.le_of_ble_eq_true hcm, by rw [hR]; exact Nat.le_of_ble_eq_true hsm⟩) k
theorem cb_callI (hX : cx_X Γ Ξ cc own nL) (hR : Γ.2.2.2.1 = cx_R d mc ms) {y : MethodName} {cy : ByteArray} {d' maxL mc' ms' k0 b ci idx : Nat} {fs As st0 : List Value} {post : va_W → Prop} (hM : ∀ sz, cx_M Γ.2.1 Ξ.2.1 Ξ.1 y cy maxL d' mc' ms' (.ref b :: As) [(b, .inr (ci, fs))] sz post) (hm : cx_mi y cy maxL k0) (hw : Cond.methodLink own idx y ∈ gU) (hk : As.length = k0) (hdd : Nat.ble (d' + 1) d = true ∧ Nat.ble maxL 21 = true) (hst : Nat.ble (st.map fun v => v.category).sum 8 = true) (h1 : cn + mc' = c1) (h2 : sn + ms' = s1) (hcm : Nat.ble c1 mc = true) (hsm : Nat.ble s1 ms = true) (hd : decode cc pc = .ok (.invokespecial idx, 3)) (hn : pc + 3 = n) (hst0 : st0 = As.reverse ++ .ref b :: st) (hF : F = F' ++ [(b, .inr (ci, fs))]) (k : ∀ w1, post w1 → cx_G Γ Ξ Q nL c1 s1 (F' ++ w1) B n lv st) : cx_G Γ Ξ Q nL cn sn F B pc lv st0 := by
  subst hn; subst h1; subst h2; subst hst0; subst hF
  have e1 : d' + 1 ≤ d := Nat.le_of_ble_eq_true hdd.1
  have e2 : maxL ≤ 21 := Nat.le_of_ble_eq_true hdd.2
  exact cb_callA (d' := d') (maxL := maxL) (y := y) (As := As) hX (fun H locs ls hP hl => va_runI (nL := nL) ⟨hX.1, hX.2.1, hX.2.2.1, hX.2.2.2.1, hX.2.2.2.2.1⟩ (hM H.size) ⟨callB_of k0 hX.2.2.2.2.1 (gx_goodC hm.1.2.2) rfl rfl rfl (hX.2.2.2.2.1 _ hm.1.2.1) (hX.2.2.2.2.1 _ hw) hm.2.2 ⟨by rw [hR]; exact e1, by rw [hR]; show 8 + (maxL + 11) + 40 * d' ≤ 40 * d; omega⟩, hm.2.1, hX.2.2.2.2.1 _ hm.1.1⟩ ⟨cx_blind, fun U hU hW => ⟨rfl, by rw [hU], by rw [hU]; exact hP, cx_one, hX.2.2.2.2.2.1.warm hW⟩⟩ rfl hk hl.1 rfl (lv_room (Nat.le_of_ble_eq_true hst)) hd ⟨by rw [hR]; exact Nat.le_of_ble_eq_true hcm, by rw [hR]; exact Nat.le_of_ble_eq_true hsm⟩) k
theorem cb_ret (hX : cx_X Γ Ξ cc own nL) {post : va_W → Prop} (hr : Γ.2.2.2.2.2.2.2.2.1.sig.returnType = none) (hlk : Γ.2.2.2.2.2.2.2.2.1.locks = false) (hcm : Nat.ble cn mc = true) (hsm : Nat.ble sn ms = true) (hd : decode cc pc = .ok (.return_, 1)) (hp : post (F ++ B)) : cx_G Γ Ξ (cx_Q Γ Ξ mc ms post) nL cn sn F B pc lv [] := by
  intro H locs ls hP hD hS hl
  exact W.widen (k := mc) (n := ms) (Nat.le_of_ble_eq_true hcm) (Nat.le_of_ble_eq_true hsm) (W.vret hX.1 hX.2.1 hr (fun t ht hW => ⟨⟨F ++ B, rfl, hp, by rw [ht]; exact hP, hD⟩, hS.F ht⟩) hS.2.2 hd hlk)
end CX2
