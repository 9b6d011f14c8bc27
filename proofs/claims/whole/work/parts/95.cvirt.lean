/-! A CALL of the class or of the reference beside another world -/
theorem va_D.addr {A : Nat → Prop} {ws ws' : va_W} (h : va_D A ws) (e : ws'.map Prod.fst = ws.map Prod.fst) : va_D A ws' := by
  have key : ∀ (k : Nat) (q : Nat × va_E), ws'[k]? = some q → ∃ q' : Nat × va_E, ws[k]? = some q' ∧ q'.1 = q.1 := by
    intro k q hq
    have h1 : (ws'.map Prod.fst)[k]? = some q.1 := by rw [List.getElem?_map, hq]; rfl
    rw [e, List.getElem?_map] at h1
    cases hk : ws[k]? with
    | none => rw [hk] at h1; cases h1
    | some q' => rw [hk] at h1; exact ⟨q', rfl, Option.some.inj h1⟩
  refine ⟨fun i j x y hx hy hxy => ?_, fun k q hq => ?_⟩
  · obtain ⟨x', h1, h2⟩ := key i x hx
    obtain ⟨y', h3, h4⟩ := key j y hy
    exact h.1 i j x' y' h1 h3 (by rw [h2, h4]; exact hxy)
  · obtain ⟨q', h1, h2⟩ := key k q hq
    rw [← h2]
    exact h.2 k q' h1
theorem gx_fst {lay : List gk} {σ : Nat → Nat} {ty : Nat → ClassId} {v v' : gV} : (gx_w lay σ ty v').map Prod.fst = (gx_w lay σ ty v).map Prod.fst := by
  unfold gx_w
  apply List.ext_getElem?
  intro i
  rw [List.getElem?_map, List.getElem?_map, List.getElem?_mapIdx, List.getElem?_mapIdx]
  cases lay[i]? with
  | none => rfl
  | some k => rfl
/-- the cells of a world -/
def gA (lay : List gk) (σ : Nat → Nat) : Nat → Prop := fun a => ∃ k, k < lay.length ∧ a = σ k
theorem gx_at {lay : List gk} {σ : Nat → Nat} {ty : Nat → ClassId} {v : gV} {k : Nat} {q : Nat × va_E} (h : (gx_w lay σ ty v)[k]? = some q) : k < lay.length ∧ q.1 = σ k := by
  unfold gx_w at h
  rw [List.getElem?_mapIdx] at h
  cases hk : lay[k]? with
  | none => rw [hk] at h; cases h
  | some g =>
    rw [hk] at h
    have e : (σ k, gx_e σ ty g k v) = q := by simpa using h
    exact ⟨(List.getElem?_eq_some_iff.mp hk).1, by rw [← e]⟩
section CV
variable {Γ : gC} {Ξ : cO} {Q : State → Prop} {nL cn sn c1 s1 d mc ms : Nat} {F F' B B' : va_W} {pc n : Nat} {lv : List (Nat × Value)} {st : List Value} {cc : ByteArray} {own : String}
theorem cb_comm (k : cx_G Γ Ξ Q nL cn sn B F pc lv st) : cx_G Γ Ξ Q nL cn sn F B pc lv st := fun H locs ls hP hD hS hl => k H locs ls (va_P.swap (a := []) hP) (va_D.swap (a := []) hD) hS hl
theorem cb_world (h : ∀ H A, va_P Ξ.2.1 vwCl (F ++ B) H → va_D A (F ++ B) → va_P Ξ.2.1 vwCl (F' ++ B') H ∧ va_D A (F' ++ B')) (k : cx_G Γ Ξ Q nL cn sn F' B' pc lv st) : cx_G Γ Ξ Q nL cn sn F B pc lv st := fun H locs ls hP hD hS hl => k H locs ls (h H _ hP hD).1 (h H _ hP hD).2 hS hl
theorem cb_virt (hX : cx_X Γ Ξ cc own nL) (hR : Γ.2.2.2.1 = cx_R d mc ms) {σ : Nat → Nat} {lay : List gk} {v v1 : gV} {rv : Option Value} {C : String} {T : u_T} {N ci q idx d' maxL k0 : Nat} {t0 : Nat → FieldType} {tm : List (Option Nat)} {y : MethodName} {cy : ByteArray} {rt : Option FieldType} {As st0 : List Value} (hc : gx_c ci C T N t0) (hq : lay[q]? = some (gk_o ci tm)) (hm : gx_mv C y cy maxL rt k0) (hw : Cond.methodLink own idx y ∈ gU) (hM : gx_M Γ.2.1 (σ, Ξ.1, Ξ.2.1, gA lay σ) lay y cy maxL rt d' (.ref (σ q) :: As) v rv v1) (hk : As.length = k0) (hdd : Nat.ble (d' + 1) d = true ∧ Nat.ble maxL 21 = true) (hst : Nat.ble (st.map fun v => v.category).sum 8 = true) (hcm : Nat.ble cn mc = true) (hsm : Nat.ble sn ms = true) (hd : decode cc pc = .ok (.invokevirtual idx, 3)) (hn : pc + 3 = n) (hst0 : st0 = As.reverse ++ .ref (σ q) :: st) (k : cx_G Γ Ξ Q nL cn sn (gx_w lay σ Ξ.1 v1) B n lv (rv.toList ++ st)) : cx_G Γ Ξ Q nL cn sn (gx_w lay σ Ξ.1 v) B pc lv st0 := by
  subst hn; subst hst0
  intro H locs ls hP hD hS hl
  have e1 : d' + 1 ≤ d := Nat.le_of_ble_eq_true hdd.1
  have e2 : maxL ≤ 21 := Nat.le_of_ble_eq_true hdd.2
  have hPx : va_P Ξ.2.1 vwCl (gx_w lay σ Ξ.1 v) H := hP.mem (fun q hq => List.mem_append_left _ hq)
  have hDx : va_D (gA lay σ) (gx_w lay σ Ξ.1 v) := ⟨fun i j p q hi hj => hD.1 i j p q (ap_l hi) (ap_l hj), fun k q hk => ⟨k, gx_at hk⟩⟩
  have hFx : ∀ a, gA lay σ a → Ξ.2.2 a := by
    rintro a ⟨k9, h9, rfl⟩
    have hg : lay[k9]? = some lay[k9] := List.getElem?_eq_getElem h9
    exact hD.2 k9 _ (ap_l (gx_wA hg))
  have run : va_Run Γ.1 Γ.2.1 Γ.2.2.1 Γ.2.2.2.1 Γ.2.2.2.2.1 Γ.2.2.2.2.2.1 Γ.2.2.2.2.2.2.1 Γ.2.2.2.2.2.2.2.1 Γ.2.2.2.2.2.2.2.2.1 Γ.2.2.2.2.2.2.2.2.2 H locs cn sn 0 0 (F0 Γ.2.2.2.2.2.1 pc ls (As.reverse ++ .ref (σ q) :: st)) st (gx_Qc (σ, Ξ.1, Ξ.2.1, gA lay σ) lay rv v1 (Value.ref (σ q) :: As).toArray) (gA lay σ) := va_runV (nL := nL) ⟨hX.1, hX.2.1, hX.2.2.1, hX.2.2.2.1, hX.2.2.2.2.1⟩ hM (cwV k0 hX.2.2.2.2.1 (gx_mv_words hm hw) rfl rfl rfl hm.2.2.2.2 ⟨by rw [hR]; exact e1, by rw [hR]; show 8 + (maxL + 11) + 40 * d' ≤ 40 * d; omega⟩) ⟨gx_blind, va_recv hX.2.2.2.2.2.1.1.1 hPx hc.1 (gx_wA hq), fun U hU hW => ⟨rfl, by rw [hU]; exact hPx, hDx, hX.2.2.2.2.2.1.1.warm hW⟩⟩ rfl hk hl.1 rfl (lv_room (Nat.le_of_ble_eq_true hst)) hd ⟨by rw [hR]; exact Nat.le_of_ble_eq_true hcm, by rw [hR]; exact Nat.le_of_ble_eq_true hsm⟩
  intro T9 hT X
  obtain ⟨w, st₀, t, T', L, h0, X', hL, g1, g2, ⟨hv, hP1, hz, hk9⟩, stp⟩ := run T9 hT X
  cases hv
  rw [h0] at hz hk9
  have hP1 : va_P Ξ.2.1 vwCl (gx_w lay σ Ξ.1 v1) t.heap := hP1
  have hPB : va_P Ξ.2.1 vwCl B T'.heap := by
    intro i x hx
    have h2 : (gx_w lay σ Ξ.1 v ++ B)[(gx_w lay σ Ξ.1 v).length + i]? = some x := by
      rw [List.getElem?_append_right (by omega), show (gx_w lay σ Ξ.1 v).length + i - (gx_w lay σ Ξ.1 v).length = i by omega]; exact hx
    refine (hP _ x h2).kept ?_
    rw [g1]
    refine hk9 x.1 (hP _ x h2).lt ?_
    rintro ⟨k9, h9, e9⟩
    have hg : lay[k9]? = some lay[k9] := List.getElem?_eq_getElem h9
    have h3 := gx_wA (σ := σ) (ty := Ξ.1) (v := v) hg
    have hij := hD.1 _ k9 x _ h2 (ap_l h3) e9
    have := (List.getElem?_eq_some_iff.mp h3).1
    omega
  obtain ⟨t2, a1, b1⟩ := k T'.heap (locs ++ L) ls (va_P.app (by rw [g1]; exact hP1) hPB) (hD.addr (by rw [List.map_append, List.map_append, gx_fst]))
    ⟨Nat.le_trans hS.1 (by rw [g1]; exact hz), fun q h1 h2 => by rw [g1, hk9 q (Nat.lt_of_lt_of_le h1 hS.1) (fun z => h2 (hFx q z))]; exact hS.2.1 q h1 h2, fun q hq => by
      rcases List.mem_append.mp hq with h | h
      · exact hS.2.2 q h
      · exact hFx _ (hL q h)⟩ hl T' rfl X'
  exact ⟨t2, stp t2 a1, b1⟩
end CV
