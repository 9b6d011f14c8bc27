/-! THE C LAYER: rows of rows -/
theorem w_aa (own : String) (idx : Nat) (h : Cond.classLink own idx "[[I" ∈ gU) : Cond.classLink own idx ("[" ++ (FieldType.array .int).toString) ∈ gU := h
theorem vr_pl {r : Nat → Nat} {f : Nat → va_E} {e : va_E} (N : Nat) : va_pl ([] ++ (List.range N).map r) (vr_up f ((List.range N).map r) e) = (List.range N).map (fun i => (r i, e)) := by
  unfold va_pl
  rw [List.nil_append, List.map_map]
  apply List.map_congr_left
  intro i hi
  show (r i, vr_up f ((List.range N).map r) e (r i)) = (r i, e)
  rw [vr_up_in (List.mem_map.mpr ⟨i, hi, rfl⟩)]
section CX3
variable {Γ : gC} {Ξ : cO} {Q : State → Prop} {nL cn sn c1 s1 d mc ms : Nat} {F F' B : va_W} {pc n : Nat} {lv : List (Nat × Value)} {st : List Value} {cc : ByteArray} {own : String}
theorem cb_mna (hX : cx_X Γ Ξ cc own nL) (hR : Γ.2.2.2.1 = cx_R d mc ms) {x y : Int32} {N K idx : Nat} (hcl : Cond.classLink own idx "[[I" ∈ gU) (hx : ¬ x < 0) (hy : ¬ y < 0) (hN : x.toNatClampNeg = N) (hK : y.toNatClampNeg = K) (hb1 : Nat.ble (N * 4) 536870912 = true) (hb2 : Nat.ble (K * 4) 536870912 = true) (h1 : cn + 1 + N = c1) (h2 : sn + N + N * K = s1) (hcm : Nat.ble c1 mc = true) (hsm : Nat.ble s1 ms = true) (hd : decode cc pc = .ok (.multianewarray idx 2, 4)) (hn : pc + 4 = n) (k : ∀ (q : Nat) (r : Nat → Nat), cx_G Γ Ξ Q nL c1 s1 (F ++ ([(q, .inl (Ξ.1 5, N, .inr (.inr (.inr (.inr (fun i => if i < N then some (r i) else none))))))] ++ (List.range N).map (fun i => (r i, .inl (Ξ.1 0, K, .inl (fun _ => 0)))))) B n lv (.ref q :: st)) : cx_G Γ Ξ Q nL cn sn F B pc lv (.int y :: .int x :: st) := by
  subst hn; subst h1; subst h2
  have hcm' := Nat.le_of_ble_eq_true hcm
  have hsm' := Nat.le_of_ble_eq_true hsm
  have hb2' := Nat.le_of_ble_eq_true hb2
  intro H locs ls hP hD hS hl
  refine va_mna (X := F ++ B) (L := []) (f := fun _ => .inr (0, [])) (ty := .int) (cy := Ξ.1 0) (z := (K, .inl (fun _ => 0))) hX.1 hX.2.1 hX.2.2.2.1 (hX.2.2.2.2.1 _ (w_aa own idx hcl)) hX.2.2.2.2.2.1.2.2.2.2.1 (hX.2.2.2.2.1 _ w_ai) (hX.2.2.2.2.2.1.1.1.2 0 _ rfl).2 hX.2.2.2.2.2.1.1.1 (by rw [show va_pl [] (fun _ => (.inr (0, []) : va_E)) = [] from rfl, List.append_nil]; exact hP) (by rw [show va_pl [] (fun _ => (.inr (0, []) : va_E)) = [] from rfl, List.append_nil]; exact hD) hS hX.2.2.2.2.2.2 hx hy hN hK (Nat.le_of_ble_eq_true hb1) hb2' (by omega) rfl rfl (by rw [hR]; show cn + (1 + N) ≤ mc; omega) (by rw [hR]; show sn + (N + N * K) ≤ ms; omega) (fun c => ?_) hd (fun q r cA H1 hr1 hr2 hK1 hP1 hD1 hS1 => ?_)
  · exact arrV_new _ _ _
  · have e := cx_ty 5 hK1 rfl
    subst e
    rw [vr_pl, List.append_assoc] at hP1 hD1
    exact k q r H1 locs ls hP1.swap hD1.swap hS1 hl
end CX3
