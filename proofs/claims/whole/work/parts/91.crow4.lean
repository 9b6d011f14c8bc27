/-! THE C LAYER: arrays of references by the lists of their items -/
abbrev eI (ty : Nat → ClassId) (n : Nat) : va_E := .inl (ty 0, n, .inl (fun _ => 0))
abbrev eF (ty : Nat → ClassId) (n : Nat) (f : Nat → Int32) : va_E := .inl (ty 0, n, .inl f)
abbrev eL (ty : Nat → ClassId) (n : Nat) : va_E := .inl (ty 1, n, .inr (.inl (fun _ => 0)))
abbrev eQ (ty : Nat → ClassId) (t n : Nat) (l : List Nat) : va_E := .inl (ty t, n, .inr (.inr (.inr (.inr (fun i => l[i]?)))))
abbrev eO (ci : Nat) (fs : List Value) : va_E := .inr (ci, fs)
theorem eq_nil : (fun _ => none : Nat → Option Nat) = fun i => ([] : List Nat)[i]? := by
  funext i
  rw [List.getElem?_nil]
theorem eq_up {l : List Nat} {v n : Nat} (h : n = l.length) : va_up (fun i => l[i]?) n (some v) = fun i => (l ++ [v])[i]? := by
  subst h
  funext i
  unfold va_up
  by_cases e : i = l.length
  · rw [if_pos e, e, List.getElem?_append_right (Nat.le_refl _), Nat.sub_self]
    rfl
  · rw [if_neg e]
    show l[i]? = (l ++ [v])[i]?
    rcases Nat.lt_or_ge i l.length with z | z
    · rw [List.getElem?_append_left z]
    · rw [List.getElem?_eq_none z, List.getElem?_eq_none (by rw [List.length_append]; simp; omega)]
theorem eq_rng {r : Nat → Nat} {N : Nat} : (fun i => if i < N then some (r i) else none) = fun i => ((List.range N).map r)[i]? := by
  funext i
  rw [List.getElem?_map]
  by_cases h : i < N
  · rw [if_pos h, List.getElem?_range h]; rfl
  · rw [if_neg h, List.getElem?_eq_none (by rw [List.length_range]; omega)]; rfl
section CX4
variable {Γ : gC} {Ξ : cO} {Q : State → Prop} {nL cn sn c1 s1 d mc ms : Nat} {F F' B : va_W} {pc n : Nat} {lv : List (Nat × Value)} {st : List Value} {cc : ByteArray} {own : String}
theorem cb_newQ (hX : cx_X Γ Ξ cc own nL) (hR : Γ.2.2.2.1 = cx_R d mc ms) {x : Int32} {N idx : Nat} {C : String} (t : Nat) (hcl : Cond.classLink own idx C ∈ gU) (hov : va_AO C Γ.2.2.2.2.1) (ht : (gx_tys Ξ.1)[t]? = some (Ξ.1 t, .object C)) (hx : ¬ x < 0) (hN : x.toNatClampNeg = N) (hb : Nat.ble (N * 4) 536870912 = true) (h1 : cn + 1 = c1) (h2 : sn + N = s1) (hcm : Nat.ble c1 mc = true) (hsm : Nat.ble s1 ms = true) (hd : decode cc pc = .ok (.anewarray idx, 3)) (hn : pc + 3 = n) (k : ∀ q, cx_G Γ Ξ Q nL c1 s1 (F ++ [(q, eQ Ξ.1 t N [])]) B n lv (.ref q :: st)) : cx_G Γ Ξ Q nL cn sn F B pc lv (.int x :: st) := by
  refine cb_newq hX hR t hcl hov ht hx hN hb h1 h2 hcm hsm hd hn (fun q => ?_)
  rw [eq_nil]
  exact k q
theorem cb_aastL (hX : cx_X Γ Ξ cc own nL) {i i2 a v N ci M : Nat} {C : String} {T : u_T} {t0 : Nat → FieldType} {vs : List Value} {l l' : List Nat} {x : Int32} (t : Nat) (hq : F[i]? = some (a, eQ Ξ.1 t M l)) (ht : (gx_tys Ξ.1)[t]? = some (Ξ.1 t, .object C)) (hq2 : F[i2]? = some (v, .inr (ci, vs))) (hc : gx_c ci C T N t0) (hg : gin x M = true) (hx : x.toNatClampNeg = l.length) (hl' : l ++ [v] = l') (hF' : F.set i (a, eQ Ξ.1 t M l') = F') (hd : decode cc pc = .ok (.aastore, 1)) (hn : pc + 1 = n) (k : cx_G Γ Ξ Q nL cn sn F' B n lv st) : cx_G Γ Ξ Q nL cn sn F B pc lv (.ref v :: .int x :: .ref a :: st) := by
  refine cb_aast hX t hq ht hq2 hc hg (F' := F') ?_ hd hn k
  rw [eq_up hx, hl']
  exact hF'
theorem cb_mnaL (hX : cx_X Γ Ξ cc own nL) (hR : Γ.2.2.2.1 = cx_R d mc ms) {x y : Int32} {N K idx : Nat} (hcl : Cond.classLink own idx "[[I" ∈ gU) (hx : ¬ x < 0) (hy : ¬ y < 0) (hN : x.toNatClampNeg = N) (hK : y.toNatClampNeg = K) (hb1 : Nat.ble (N * 4) 536870912 = true) (hb2 : Nat.ble (K * 4) 536870912 = true) (h1 : cn + 1 + N = c1) (h2 : sn + N + N * K = s1) (hcm : Nat.ble c1 mc = true) (hsm : Nat.ble s1 ms = true) (hd : decode cc pc = .ok (.multianewarray idx 2, 4)) (hn : pc + 4 = n) (k : ∀ (q : Nat) (r : Nat → Nat), cx_G Γ Ξ Q nL c1 s1 (F ++ ([(q, eQ Ξ.1 5 N ((List.range N).map r))] ++ (List.range N).map (fun i => (r i, eI Ξ.1 K)))) B n lv (.ref q :: st)) : cx_G Γ Ξ Q nL cn sn F B pc lv (.int y :: .int x :: st) := by
  refine cb_mna hX hR hcl hx hy hN hK hb1 hb2 h1 h2 hcm hsm hd hn (fun q r => ?_)
  rw [eq_rng]
  exact k q r
theorem cb_max (hX : cx_X Γ Ξ cc own nL) (hR : Γ.2.2.2.1 = cx_R (d + 1) mc ms) {x y z : Int32} {idx : Nat} (hz : (if x < y then y else x) = z) (hcn : Nat.ble cn mc = true) (hsn : Nat.ble sn ms = true) (hst : Nat.ble ((st.map fun v => v.category).sum) 8 = true) (hw : Cond.methodLink own idx yJ9_max_7cf53 ∈ gU) (hd : decode cc pc = .ok (.invokestatic idx, 3)) (hn : pc + 3 = n) (k : cx_G Γ Ξ Q nL cn sn F B n lv (.int z :: st)) : cx_G Γ Ξ Q nL cn sn F B pc lv (.int y :: .int x :: st) := by
  subst hn; subst hz
  intro H locs ls hP hD hS hl
  have h8 := Nat.le_of_ble_eq_true hst
  exact va_mmax hX.1 hX.2.1 (hX.2.2.1.trans hl.1.symm) hX.2.2.2.1 (hX.2.2.2.2.1 _ hw) (hX.2.2.2.2.1 _ ms_J9_max_7cf53.1) (hX.2.2.2.2.1 _ ms_J9_max_7cf53.2.1) (hX.2.2.2.2.1 _ ms_J9_max_7cf53.2.2.1) (by rw [hR]; exact Nat.succ_le_succ (Nat.zero_le _)) (by rw [hR]; show _ + 13 ≤ 40 * (d + 1); omega) (by rw [hR]; exact Nat.le_of_ble_eq_true hcn) (by rw [hR]; exact Nat.le_of_ble_eq_true hsn) hd (k H locs ls hP hD hS hl)
end CX4
theorem nw_1 {D : va_G} {ty : Nat → ClassId} {U : State} (h : cx_K D ty U) : va_Nw (.methodLinkNest RX7 20 yX6_init RX7) U := h.2.2.2.2.2.1
theorem nw_2 {D : va_G} {ty : Nat → ClassId} {U : State} (h : cx_K D ty U) : va_Nw (.methodLinkNest RX6 32 yX0_init RX7) U := h.2.2.2.2.2.2.1
theorem nw_3 {D : va_G} {ty : Nat → ClassId} {U : State} (h : cx_K D ty U) : va_Nw (.methodLinkNest RX1 17 yX0_init RX7) U := h.2.2.2.2.2.2.2.1
theorem nw_4 {D : va_G} {ty : Nat → ClassId} {U : State} (h : cx_K D ty U) : va_Nw (.methodLinkNest RX7 39 yX4_init RX7) U := h.2.2.2.2.2.2.2.2.1
theorem nw_5 {D : va_G} {ty : Nat → ClassId} {U : State} (h : cx_K D ty U) : va_Nw (.methodLinkNest RX7 46 yX3_init RX7) U := h.2.2.2.2.2.2.2.2.2.1
theorem nw_6 {D : va_G} {ty : Nat → ClassId} {U : State} (h : cx_K D ty U) : va_Nw (.methodLinkNest RX7 53 yX2_init RX7) U := h.2.2.2.2.2.2.2.2.2.2
