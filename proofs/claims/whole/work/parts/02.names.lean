/-! names, fields, codes (as printed), and the rows of arrays of arrays; then which words stand in the tables -/
def va_AOA (ty : FieldType) (U : State) : Prop := (Cond.arrayOver (.array ty)).before #[] U = true
theorem va_AOA.use {ty : FieldType} {A : Array Value} {U : State} (h : va_AOA ty U) : (Cond.arrayOver (.array ty)).before A U = true := h
theorem va_AOA.of {ty : FieldType} {A : Array Value} {U : State} (h : (Cond.arrayOver (.array ty)).before A U = true) : va_AOA ty U := h
/-! ===== BEGIN new T[n][m]: the outer array a place, the inner ones among the pooled ===== -/
/-- f, but v at every address of l -/
def vr_up {α : Type} (f : Nat → α) (l : List Nat) (v : α) : Nat → α := fun a => if a ∈ l then v else f a
theorem vr_up_in {α : Type} {f : Nat → α} {l : List Nat} {v : α} {a : Nat} (h : a ∈ l) : vr_up f l v a = v := if_pos h
theorem vr_up_ne {α : Type} {f : Nat → α} {l : List Nat} {v : α} {a : Nat} (h : a ∉ l) : vr_up f l v a = f a := if_neg h
theorem vr_rows {L l : List Nat} {f : Nat → va_E} {e : va_E} (h : ∀ a, a ∈ l → a ∉ L) : va_pl L f ++ l.map (fun a => (a, e)) = va_pl (L ++ l) (vr_up f l e) := by
  unfold va_pl
  rw [List.map_append]
  congr 1
  · apply List.map_congr_left
    intro a ha
    rw [vr_up_ne (fun q => h a q ha)]
  · apply List.map_congr_left
    intro a ha
    rw [vr_up_in ha]
theorem vr_lay {X rows : va_W} {x : Nat × va_E} {pl : va_W} {D : va_G} {cl : List vw_C} {H : Heap} (hP : va_P D cl (((X ++ pl) ++ [x]) ++ rows) H) : va_P D cl ((X ++ [x]) ++ (pl ++ rows)) H := by
  rw [List.append_assoc (X ++ pl)] at hP
  have h := va_P.swap hP
  rw [← List.append_assoc X] at h
  have h2 := va_P.swap h
  rw [List.append_assoc (X ++ [x])] at h2
  exact h2
theorem vr_layD {X rows : va_W} {x : Nat × va_E} {pl : va_W} {A : Nat → Prop} (hD : va_D A (((X ++ pl) ++ [x]) ++ rows)) : va_D A ((X ++ [x]) ++ (pl ++ rows)) := by
  rw [List.append_assoc (X ++ pl)] at hD
  have h := va_D.swap hD
  rw [← List.append_assoc X] at h
  have h2 := va_D.swap h
  rw [List.append_assoc (X ++ [x])] at h2
  exact h2
theorem vr_outer (c : ClassId) (N h0 : Nat) : ∀ i : Nat, Jvm.Free.Multi.outerC c N h0 i = arrV c N (fun j => va_rf (if j < i then some (h0 + 1 + j) else none))
  | 0 => by
    show ({ cls := c, slots := Array.replicate N .null, vm := .none } : Cell) = _
    rw [arrV_new]
    refine congrArg (arrV c N) (funext fun j => ?_)
    simp [va_rf]
  | i + 1 => by
    show (Jvm.Free.Multi.outerC c N h0 i).setSlot i (.ref (h0 + 1 + i)) = _
    rw [vr_outer c N h0 i, arrV_store]
    refine congrArg (arrV c N) (funext fun j => ?_)
    by_cases e : j = i
    · subst e
      simp [updV, va_rf]
    · by_cases h : j < i
      · simp [updV, e, h, Nat.lt_succ_of_lt h]
      · simp [updV, e, h, show ¬ j < i + 1 by omega]
section VGM
variable {p : Program} {l : Launch} {e : Env} {R : Room} {s : State} {m : MethodId} {args : Array Value} {below : List Frame} {meth : Method} {c : Code} {H : Heap} {locs : List Loc} {cells slots : Nat} {Q : State → Prop}
variable {cc : ByteArray} {pc : Nat} {ls : Array Slot} {rest : List Value} {D : va_G} {cl : List vw_C} {A : Nat → Prop} {a : Nat} {tys : List (ClassId × FieldType)} {ws : va_W} {H0 : Heap}
theorem va_mna {X : va_W} {L : List Nat} {f : Nat → va_E} {cc : ByteArray} (hexec : p.tables.exec = Jvm.exec) (hb : c.code = cc) {own : String} {index : Nat} {ty : FieldType} {cy : ClassId} (hown : s.vm.findClass own = some m.cls) (hclink : (Cond.classLink own index ("[" ++ (FieldType.array ty).toString)).before args s = true) (hover : va_AOA ty s) (harr : (Cond.arrayClass ty).before args s = true) (hcy : s.vm.findClass (FieldType.array ty).toString = some cy)
    (hK : va_K D cl tys s) (hP : va_P D cl (X ++ va_pl L f) H) (hD : va_D A (X ++ va_pl L f)) (hS : va_S A H0 H locs) (hA : ∀ q, H0.size ≤ q → A q) {n k : Int32} {N' K' : Nat} {z : vp_A} (hn : ¬ n < 0) (hk : ¬ k < 0) (hN : n.toNatClampNeg = N') (hM : k.toNatClampNeg = K')
    (hb1 : N' * 4 ≤ 536870912) (hb2 : K' * componentBytes ty ≤ 536870912) (hb3 : K' ≤ 536870912) (hdf : fits ty (defaultValue ty) = true) (hdd : (defaultValue ty).isDefault = true) (hcells : cells + (1 + N') ≤ R.cells) (hslots : slots + (N' + N' * K') ≤ R.slots) (hz : ∀ c : ClassId, Jvm.Free.Multi.innerC c K' (defaultValue ty) = vp_cell c z) (hdg : decode cc pc = .ok (.multianewarray index 2, 4))
    (kk : ∀ (q : Nat) (r : Nat → Nat) (cA : ClassId) (H1 : Heap), (∀ i j : Nat, i < N' → j < N' → r i = r j → i = j) → (∀ i : Nat, i < N' → r i ∉ L) → va_K D cl (tys ++ [(cA, .array ty)]) s →
      va_P D cl ((X ++ [(q, .inl (cA, N', .inr (.inr (.inr (.inr (fun i => if i < N' then some (r i) else none))))))]) ++ va_pl (L ++ (List.range N').map r) (vr_up f ((List.range N').map r) (.inl (cy, z)))) H1 → va_D A ((X ++ [(q, .inl (cA, N', .inr (.inr (.inr (.inr (fun i => if i < N' then some (r i) else none))))))]) ++ va_pl (L ++ (List.range N').map r) (vr_up f ((List.range N').map r) (.inl (cy, z)))) → va_S A H0 H1 locs →
      W p l e R s m args below meth c H1 locs (cells + 1 + N') (slots + N' + N' * K') Q (F0 m (pc + 4) ls (.ref q :: rest))) : W p l e R s m args below meth c H locs cells slots Q (F0 m pc ls (.int k :: .int n :: rest)) := by
  subst hN
  subst hM
  intro T hT Xs
  obtain ⟨vm₁, cA, comp, -, fA, fC, hO, -, X', step⟩ := Xs.multianewarray2F hexec hown hclink (va_AOA.use hover) harr (g := F0 m pc ls (.int k :: .int n :: rest)) rfl (by rw [hb]; exact hdg) rfl hn hk hb1 hb2 hb3 hdf hdd hcells hslots
  have ec : some cy = some comp := hcy.symm.trans fC
  cases ec
  generalize hF : Jvm.Free.Multi.fill (T.setVm vm₁) cA cy n.toNatClampNeg k.toNatClampNeg (defaultValue ty) n.toNatClampNeg = F at X' step
  have hTh : (T.setVm vm₁).heap = H := hT
  obtain ⟨f1, f2, -, -⟩ := Jvm.Free.Multi.fill_facts (T.setVm vm₁) cA cy n.toNatClampNeg k.toNatClampNeg (defaultValue ty) n.toNatClampNeg
  rw [hF, hTh] at f1 f2
  have hold : ∀ x : Nat, x < H.size → F.heap[x]? = H[x]? := fun x hx => by
    have := Jvm.Free.Multi.fill_old (T.setVm vm₁) cA cy n.toNatClampNeg k.toNatClampNeg (defaultValue ty) (a := x) (by rw [hTh]; exact hx) n.toNatClampNeg
    rw [hF, hTh] at this
    exact this
  have hrow : ∀ j : Nat, j < n.toNatClampNeg → F.heap[H.size + 1 + j]? = some (vp_cell cy z) := fun j hj => by
    have := Jvm.Free.Multi.fill_inner (T.setVm vm₁) cA cy n.toNatClampNeg k.toNatClampNeg (defaultValue ty) n.toNatClampNeg j hj
    rw [hF, hTh, hz] at this
    exact this
  have hout : Jvm.Free.Multi.outerC cA n.toNatClampNeg H.size n.toNatClampNeg = vp_cell cA (n.toNatClampNeg, .inr (.inr (.inr (.inr (fun i => if i < n.toNatClampNeg then some (H.size + 1 + i) else none))))) := by
    rw [vp_cell_q]
    exact vr_outer cA n.toNatClampNeg H.size n.toNatClampNeg
  rw [hout] at f2
  have hlt : ∀ a, a ∈ L → a < H.size := fun a ha => by
    obtain ⟨k9, hk9⟩ := va_pl_get (X := X) (f := f) ha
    exact (hP k9 _ hk9).lt
  have hnl : ∀ i : Nat, i < n.toNatClampNeg → H.size + 1 + i ∉ L := fun i _ h => by
    have := hlt _ h
    omega
  have hnm : ∀ a, a ∈ (List.range n.toNatClampNeg).map (fun i => H.size + 1 + i) → a ∉ L := fun a ha h => by
    obtain ⟨i, -, rfl⟩ := List.mem_map.mp ha
    have := hlt _ h
    omega
  have hP0 : va_P D cl (X ++ va_pl L f) F.heap := hP.kept (fun k9 x hx => hold x.1 ((hP k9 x hx).lt))
  have hP1 : va_P D cl ((X ++ va_pl L f) ++ [(H.size, .inl (cA, n.toNatClampNeg, .inr (.inr (.inr (.inr (fun i => if i < n.toNatClampNeg then some (H.size + 1 + i) else none))))))]) F.heap := hP0.app (fun k9 x hx => by
    have h0 : k9 < 1 := (List.getElem?_eq_some_iff.mp hx).1
    rw [show k9 = 0 by omega] at hx
    cases hx
    exact f2)
  have hP2 : va_P D cl (((X ++ va_pl L f) ++ [(H.size, .inl (cA, n.toNatClampNeg, .inr (.inr (.inr (.inr (fun i => if i < n.toNatClampNeg then some (H.size + 1 + i) else none))))))]) ++ ((List.range n.toNatClampNeg).map (fun i => H.size + 1 + i)).map (fun a => (a, .inl (cy, z)))) F.heap := hP1.app (fun k9 x hx => by
    obtain ⟨a, ha, rfl⟩ := List.mem_map.mp (List.mem_of_getElem? hx)
    obtain ⟨i, hi, rfl⟩ := List.mem_map.mp ha
    exact hrow i (List.mem_range.mp hi))
  have hD2 : va_D A (((X ++ va_pl L f) ++ [(H.size, .inl (cA, n.toNatClampNeg, .inr (.inr (.inr (.inr (fun i => if i < n.toNatClampNeg then some (H.size + 1 + i) else none))))))]) ++ ((List.range n.toNatClampNeg).map (fun i => H.size + 1 + i)).map (fun a => (a, .inl (cy, z)))) := by
    have hD1 := hD.push (e := .inl (cA, n.toNatClampNeg, .inr (.inr (.inr (.inr (fun i => if i < n.toNatClampNeg then some (H.size + 1 + i) else none)))))) hP rfl (hA _ hS.1)
    generalize hW1 : (X ++ va_pl L f) ++ [(H.size, .inl (cA, n.toNatClampNeg, .inr (.inr (.inr (.inr (fun i => if i < n.toNatClampNeg then some (H.size + 1 + i) else none))))))] = W1 at hD1 hP1 ⊢
    have hle : ∀ (k9 : Nat) (x : Nat × va_E), W1[k9]? = some x → x.1 ≤ H.size := fun k9 x hx => by
      rw [← hW1] at hx
      by_cases hl : k9 < (X ++ va_pl L f).length
      · rw [List.getElem?_append_left hl] at hx
        exact Nat.le_of_lt ((hP k9 x hx).lt)
      · rw [List.getElem?_append_right (by omega)] at hx
        have h0 : k9 - (X ++ va_pl L f).length < 1 := (List.getElem?_eq_some_iff.mp hx).1
        rw [show k9 - (X ++ va_pl L f).length = 0 by omega] at hx
        cases hx
        exact Nat.le_refl _
    have hr : ∀ (k9 : Nat) (x : Nat × va_E), (((List.range n.toNatClampNeg).map (fun i => H.size + 1 + i)).map (fun a => ((a, .inl (cy, z)) : Nat × va_E)))[k9]? = some x → x.1 = H.size + 1 + k9 := fun k9 x hx => by
      rw [List.getElem?_map, List.getElem?_map] at hx
      by_cases h9 : k9 < n.toNatClampNeg
      · rw [List.getElem?_range h9] at hx
        cases hx
        rfl
      · have hn0 : (List.range n.toNatClampNeg)[k9]? = none := List.getElem?_eq_none (by rw [List.length_range]; omega)
        rw [hn0] at hx
        cases hx
    refine ⟨fun i j x y hi hj hxy => ?_, fun k9 x hx => ?_⟩
    · by_cases h1 : i < W1.length <;> by_cases h2 : j < W1.length
      · rw [List.getElem?_append_left h1] at hi
        rw [List.getElem?_append_left h2] at hj
        exact hD1.1 i j x y hi hj hxy
      · rw [List.getElem?_append_left h1] at hi
        rw [List.getElem?_append_right (by omega)] at hj
        have := hle _ _ hi
        have := hr _ _ hj
        omega
      · rw [List.getElem?_append_right (by omega)] at hi
        rw [List.getElem?_append_left h2] at hj
        have := hle _ _ hj
        have := hr _ _ hi
        omega
      · rw [List.getElem?_append_right (by omega)] at hi hj
        have := hr _ _ hi
        have := hr _ _ hj
        omega
    · by_cases h1 : k9 < W1.length
      · rw [List.getElem?_append_left h1] at hx
        exact hD1.2 k9 x hx
      · rw [List.getElem?_append_right (by omega)] at hx
        have := hr _ _ hx
        exact hA _ (by have := hS.1; omega)
  have hAr : ArrOfT s cA (.array ty) := fun N9 z9 => by
    obtain ⟨-, k9, hk9, cm9, hkk9⟩ := (hO 0 0 0).1
    exact ⟨(fun q hq => by cases hq), k9, hk9, cm9, hkk9⟩
  have hK2 : va_K D cl (tys ++ [(cA, .array ty)]) s := ⟨hK.1, fun k9 x hx => by
    by_cases hl : k9 < tys.length
    · rw [List.getElem?_append_left hl] at hx
      exact hK.2 k9 x hx
    · rw [List.getElem?_append_right (by omega)] at hx
      have h0 : k9 - tys.length < 1 := (List.getElem?_eq_some_iff.mp hx).1
      rw [show k9 - tys.length = 0 by omega] at hx
      cases hx
      exact ⟨hAr, fA⟩⟩
  obtain ⟨t, a1, b1⟩ := kk H.size (fun i => H.size + 1 + i) cA F.heap (fun i j _ _ h => by have h9 : H.size + 1 + i = H.size + 1 + j := h; omega) hnl hK2 (by rw [← vr_rows hnm]; exact vr_lay hP2) (by rw [← vr_rows hnm]; exact vr_layD hD2) ⟨by rw [f1]; have := hS.1; omega, fun x h1 h2 => (hold x (Nat.lt_of_lt_of_le h1 hS.1)).trans (hS.2.1 x h1 h2), hS.2.2⟩ F rfl X'
  refine ⟨t, step t ?_, b1⟩
  have e : T.heap.size = H.size := by rw [hT]
  rw [e]
  exact a1
end VGM
/-! ===== END ===== -/

/-! ===== BEGIN printed: names, fields, word lists, decode rows ===== -/
def RX0 : String := "AfternoonChange$Bag"
def TX0 : u_T := fun k => match k with
  | 0 => ("AfternoonChange$Bag", "kinds", "[I", true)
  | _ => ("AfternoonChange$Bag", "size", "I", false)
def tyX0 : Nat → FieldType := fun k => match k with
  | 0 => .array .int
  | _ => .int
theorem nmX0 : ∀ a, a < 2 → ∀ b, b < 2 → a ≠ b → (TX0 a).2.1 ≠ (TX0 b).2.1 := by decide +kernel
theorem tyX0_ok : ∀ k, k < 2 → parseFieldDescriptor (TX0 k).2.2.1 = some (tyX0 k) := by decide +kernel
abbrev cX0_init : ByteArray := prog_2_method_1_code
def yX0_init : MethodName := ⟨RX0, "<init>", "()V"⟩
abbrev cX0_become : ByteArray := prog_2_method_2_code
def yX0_become : MethodName := ⟨RX0, "become", "(LAfternoonChange$Bag;)V"⟩
abbrev cX0_putAtBottom : ByteArray := prog_2_method_3_code
def yX0_putAtBottom : MethodName := ⟨RX0, "putAtBottom", "(I)V"⟩
abbrev cX0_putOnTop : ByteArray := prog_2_method_4_code
def yX0_putOnTop : MethodName := ⟨RX0, "putOnTop", "(I)V"⟩
abbrev cX0_placeOf : ByteArray := prog_2_method_5_code
def yX0_placeOf : MethodName := ⟨RX0, "placeOf", "(I)I"⟩
abbrev cX0_takeOut : ByteArray := prog_2_method_6_code
def yX0_takeOut : MethodName := ⟨RX0, "takeOut", "(I)V"⟩
def RX1 : String := "AfternoonChange$Ride"
def TX1 : u_T := fun k => match k with
  | 0 => ("AfternoonChange$Ride", "told", "LAfternoonChange$Told;", true)
  | 1 => ("AfternoonChange$Ride", "even", "I", false)
  | 2 => ("AfternoonChange$Ride", "changes", "I", false)
  | 3 => ("AfternoonChange$Ride", "has", "[I", true)
  | 4 => ("AfternoonChange$Ride", "bag", "LAfternoonChange$Bag;", true)
  | 5 => ("AfternoonChange$Ride", "torn", "I", false)
  | 6 => ("AfternoonChange$Ride", "hasBehind", "[[I", true)
  | 7 => ("AfternoonChange$Ride", "tornBehind", "[I", true)
  | 8 => ("AfternoonChange$Ride", "servedBehind", "[I", true)
  | 9 => ("AfternoonChange$Ride", "bagBehind", "[LAfternoonChange$Bag;", true)
  | 10 => ("AfternoonChange$Ride", "lastDay", "I", false)
  | 11 => ("AfternoonChange$Ride", "made", "I", false)
  | 12 => ("AfternoonChange$Ride", "firstDay", "I", false)
  | 13 => ("AfternoonChange$Ride", "firstStop", "I", false)
  | 14 => ("AfternoonChange$Ride", "firstRider", "I", false)
  | _ => ("AfternoonChange$Ride", "stillDay", "I", false)
def tyX1 : Nat → FieldType := fun k => match k with
  | 0 => .object "AfternoonChange$Told"
  | 1 => .int
  | 2 => .int
  | 3 => .array .int
  | 4 => .object "AfternoonChange$Bag"
  | 5 => .int
  | 6 => .array (.array .int)
  | 7 => .array .int
  | 8 => .array .int
  | 9 => .array (.object "AfternoonChange$Bag")
  | 10 => .int
  | 11 => .int
  | 12 => .int
  | 13 => .int
  | 14 => .int
  | _ => .int
theorem nmX1 : ∀ a, a < 16 → ∀ b, b < 16 → a ≠ b → (TX1 a).2.1 ≠ (TX1 b).2.1 := by decide +kernel
theorem tyX1_ok : ∀ k, k < 16 → parseFieldDescriptor (TX1 k).2.2.1 = some (tyX1 k) := by decide +kernel
abbrev cX1_init : ByteArray := prog_3_method_1_code
def yX1_init : MethodName := ⟨RX1, "<init>", "(LAfternoonChange$Told;)V"⟩
abbrev cX1_begin : ByteArray := prog_3_method_2_code
def yX1_begin : MethodName := ⟨RX1, "begin", "()V"⟩
abbrev cX1_go : ByteArray := prog_3_method_3_code
def yX1_go : MethodName := ⟨RX1, "go", "()V"⟩
abbrev cX1_leaveAt : ByteArray := prog_3_method_4_code
def yX1_leaveAt : MethodName := ⟨RX1, "leaveAt", "(I)Z"⟩
abbrev cX1_changeAt : ByteArray := prog_3_method_5_code
def yX1_changeAt : MethodName := ⟨RX1, "changeAt", "(II)V"⟩
abbrev cX1_takeWhole : ByteArray := prog_3_method_6_code
def yX1_takeWhole : MethodName := ⟨RX1, "takeWhole", "(I)Z"⟩
abbrev cX1_takeTorn : ByteArray := prog_3_method_7_code
def yX1_takeTorn : MethodName := ⟨RX1, "takeTorn", "(II)Z"⟩
abbrev cX1_keep : ByteArray := prog_3_method_8_code
def yX1_keep : MethodName := ⟨RX1, "keep", "(I)V"⟩
abbrev cX1_hasOn : ByteArray := prog_3_method_9_code
def yX1_hasOn : MethodName := ⟨RX1, "hasOn", "(II)I"⟩
abbrev cX1_tornOn : ByteArray := prog_3_method_10_code
def yX1_tornOn : MethodName := ⟨RX1, "tornOn", "(I)I"⟩
abbrev cX1_servedOn : ByteArray := prog_3_method_11_code
def yX1_servedOn : MethodName := ⟨RX1, "servedOn", "(I)I"⟩
abbrev cX1_bagOn : ByteArray := prog_3_method_12_code
def yX1_bagOn : MethodName := ⟨RX1, "bagOn", "(I)LAfternoonChange$Bag;"⟩
abbrev cX1_servedAtLast : ByteArray := prog_3_method_13_code
def yX1_servedAtLast : MethodName := ⟨RX1, "servedAtLast", "()I"⟩
def RX2 : String := "AfternoonChange$Sheet"
def TX2 : u_T := fun k => match k with
  | 0 => ("AfternoonChange$Sheet", "form", "I", false)
  | 1 => ("AfternoonChange$Sheet", "size", "I", false)
  | _ => ("AfternoonChange$Sheet", "items", "[I", true)
def tyX2 : Nat → FieldType := fun k => match k with
  | 0 => .int
  | 1 => .int
  | _ => .array .int
theorem nmX2 : ∀ a, a < 3 → ∀ b, b < 3 → a ≠ b → (TX2 a).2.1 ≠ (TX2 b).2.1 := by decide +kernel
theorem tyX2_ok : ∀ k, k < 3 → parseFieldDescriptor (TX2 k).2.2.1 = some (tyX2 k) := by decide +kernel
abbrev cX2_init : ByteArray := prog_4_method_1_code
def yX2_init : MethodName := ⟨RX2, "<init>", "()V"⟩
abbrev cX2_isLost : ByteArray := prog_4_method_2_code
def yX2_isLost : MethodName := ⟨RX2, "isLost", "()Z"⟩
abbrev cX2_startAnew : ByteArray := prog_4_method_3_code
def yX2_startAnew : MethodName := ⟨RX2, "startAnew", "(II)V"⟩
abbrev cX2_giveUp : ByteArray := prog_4_method_4_code
def yX2_giveUp : MethodName := ⟨RX2, "giveUp", "()V"⟩
abbrev cX2_hasItems : ByteArray := prog_4_method_5_code
def yX2_hasItems : MethodName := ⟨RX2, "hasItems", "(II)Z"⟩
abbrev cX2_put : ByteArray := prog_4_method_6_code
def yX2_put : MethodName := ⟨RX2, "put", "(II)V"⟩
def RX3 : String := "AfternoonChange$Sightings"
def TX3 : u_T := fun k => match k with
  | 0 => ("AfternoonChange$Sightings", "days", "[I", true)
  | 1 => ("AfternoonChange$Sightings", "riders", "[I", true)
  | 2 => ("AfternoonChange$Sightings", "afternoons", "[I", true)
  | _ => ("AfternoonChange$Sightings", "size", "I", false)
def tyX3 : Nat → FieldType := fun k => match k with
  | 0 => .array .int
  | 1 => .array .int
  | 2 => .array .int
  | _ => .int
theorem nmX3 : ∀ a, a < 4 → ∀ b, b < 4 → a ≠ b → (TX3 a).2.1 ≠ (TX3 b).2.1 := by decide +kernel
theorem tyX3_ok : ∀ k, k < 4 → parseFieldDescriptor (TX3 k).2.2.1 = some (tyX3 k) := by decide +kernel
abbrev cX3_init : ByteArray := prog_5_method_1_code
def yX3_init : MethodName := ⟨RX3, "<init>", "()V"⟩
abbrev cX3_mayBe : ByteArray := prog_5_method_2_code
def yX3_mayBe : MethodName := ⟨RX3, "mayBe", "(III)Z"⟩
abbrev cX3_isFull : ByteArray := prog_5_method_3_code
def yX3_isFull : MethodName := ⟨RX3, "isFull", "()Z"⟩
abbrev cX3_append : ByteArray := prog_5_method_4_code
def yX3_append : MethodName := ⟨RX3, "append", "(III)V"⟩
abbrev cX3_comeOutIn : ByteArray := prog_5_method_5_code
def yX3_comeOutIn : MethodName := ⟨RX3, "comeOutIn", "(LAfternoonChange$Ride;I)Z"⟩
def RX4 : String := "AfternoonChange$StopSets"
def TX4 : u_T := fun k => match k with
  | 0 => ("AfternoonChange$StopSets", "served", "[J", true)
  | 1 => ("AfternoonChange$StopSets", "stamps", "[I", true)
  | 2 => ("AfternoonChange$StopSets", "stamp", "I", false)
  | _ => ("AfternoonChange$StopSets", "useful", "I", false)
def tyX4 : Nat → FieldType := fun k => match k with
  | 0 => .array .long
  | 1 => .array .int
  | 2 => .int
  | _ => .int
theorem nmX4 : ∀ a, a < 4 → ∀ b, b < 4 → a ≠ b → (TX4 a).2.1 ≠ (TX4 b).2.1 := by decide +kernel
theorem tyX4_ok : ∀ k, k < 4 → parseFieldDescriptor (TX4 k).2.2.1 = some (tyX4 k) := by decide +kernel
abbrev cX4_init : ByteArray := prog_6_method_1_code
def yX4_init : MethodName := ⟨RX4, "<init>", "()V"⟩
abbrev cX4_startAnew : ByteArray := prog_6_method_2_code
def yX4_startAnew : MethodName := ⟨RX4, "startAnew", "(LAfternoonChange$Told;)V"⟩
abbrev cX4_servedBy : ByteArray := prog_6_method_3_code
def yX4_servedBy : MethodName := ⟨RX4, "servedBy", "(IILAfternoonChange$Ride;)I"⟩
def RX5 : String := "AfternoonChange$Text"
def TX5 : u_T := fun k => match k with
  | 0 => ("AfternoonChange$Text", "bytes", "[I", true)
  | _ => ("AfternoonChange$Text", "size", "I", false)
def tyX5 : Nat → FieldType := fun k => match k with
  | 0 => .array .int
  | _ => .int
theorem nmX5 : ∀ a, a < 2 → ∀ b, b < 2 → a ≠ b → (TX5 a).2.1 ≠ (TX5 b).2.1 := by decide +kernel
theorem tyX5_ok : ∀ k, k < 2 → parseFieldDescriptor (TX5 k).2.2.1 = some (tyX5 k) := by decide +kernel
abbrev cX5_init : ByteArray := prog_7_method_1_code
def yX5_init : MethodName := ⟨RX5, "<init>", "(I)V"⟩
abbrev cX5_isFull : ByteArray := prog_7_method_2_code
def yX5_isFull : MethodName := ⟨RX5, "isFull", "()Z"⟩
abbrev cX5_append : ByteArray := prog_7_method_3_code
def yX5_append : MethodName := ⟨RX5, "append", "(I)V"⟩
abbrev cX5_faultAsRiders : ByteArray := prog_7_method_4_code
def yX5_faultAsRiders : MethodName := ⟨RX5, "faultAsRiders", "()I"⟩
abbrev cX5_faultAsBag : ByteArray := prog_7_method_5_code
def yX5_faultAsBag : MethodName := ⟨RX5, "faultAsBag", "()I"⟩
abbrev cX5_fitsRider : ByteArray := prog_7_method_6_code
def yX5_fitsRider : MethodName := ⟨RX5, "fitsRider", "(II)Z"⟩
abbrev cX5_kindOf : ByteArray := prog_7_method_7_code
def yX5_kindOf : MethodName := ⟨RX5, "kindOf", "(I)I"⟩
def RX6 : String := "AfternoonChange$Told"
def TX6 : u_T := fun k => match k with
  | 0 => ("AfternoonChange$Told", "riders", "I", false)
  | 1 => ("AfternoonChange$Told", "starts", "[I", true)
  | 2 => ("AfternoonChange$Told", "boards", "[I", true)
  | 3 => ("AfternoonChange$Told", "leaves", "[I", true)
  | 4 => ("AfternoonChange$Told", "wants", "[I", true)
  | 5 => ("AfternoonChange$Told", "aboard", "[I", true)
  | 6 => ("AfternoonChange$Told", "leaving", "[I", true)
  | 7 => ("AfternoonChange$Told", "bag", "LAfternoonChange$Bag;", true)
  | 8 => ("AfternoonChange$Told", "worths", "[I", true)
  | 9 => ("AfternoonChange$Told", "even", "I", false)
  | 10 => ("AfternoonChange$Told", "changes", "I", false)
  | _ => ("AfternoonChange$Told", "forgets", "I", false)
def tyX6 : Nat → FieldType := fun k => match k with
  | 0 => .int
  | 1 => .array .int
  | 2 => .array .int
  | 3 => .array .int
  | 4 => .array .int
  | 5 => .array .int
  | 6 => .array .int
  | 7 => .object "AfternoonChange$Bag"
  | 8 => .array .int
  | 9 => .int
  | 10 => .int
  | _ => .int
theorem nmX6 : ∀ a, a < 12 → ∀ b, b < 12 → a ≠ b → (TX6 a).2.1 ≠ (TX6 b).2.1 := by decide +kernel
theorem tyX6_ok : ∀ k, k < 12 → parseFieldDescriptor (TX6 k).2.2.1 = some (tyX6 k) := by decide +kernel
abbrev cX6_init : ByteArray := prog_8_method_1_code
def yX6_init : MethodName := ⟨RX6, "<init>", "()V"⟩
abbrev cX6_readRiders : ByteArray := prog_8_method_2_code
def yX6_readRiders : MethodName := ⟨RX6, "readRiders", "(LAfternoonChange$Text;)V"⟩
abbrev cX6_placeOnBoard : ByteArray := prog_8_method_3_code
def yX6_placeOnBoard : MethodName := ⟨RX6, "placeOnBoard", "(I)V"⟩
abbrev cX6_readBag : ByteArray := prog_8_method_4_code
def yX6_readBag : MethodName := ⟨RX6, "readBag", "(LAfternoonChange$Text;)V"⟩
abbrev cX6_mayChange : ByteArray := prog_8_method_5_code
def yX6_mayChange : MethodName := ⟨RX6, "mayChange", "(III)Z"⟩
abbrev cX6_isRing : ByteArray := prog_8_method_6_code
def yX6_isRing : MethodName := ⟨RX6, "isRing", "(III)Z"⟩
def RX7 : String := "AfternoonChange"
def TX7 : u_T := fun k => match k with
  | 0 => ("AfternoonChange", "texts", "[LAfternoonChange$Text;", true)
  | 1 => ("AfternoonChange", "told", "LAfternoonChange$Told;", true)
  | 2 => ("AfternoonChange", "ride", "LAfternoonChange$Ride;", true)
  | 3 => ("AfternoonChange", "trial", "LAfternoonChange$Ride;", true)
  | 4 => ("AfternoonChange", "stopSets", "LAfternoonChange$StopSets;", true)
  | 5 => ("AfternoonChange", "sightings", "LAfternoonChange$Sightings;", true)
  | 6 => ("AfternoonChange", "sheets", "[LAfternoonChange$Sheet;", true)
  | 7 => ("AfternoonChange", "alike", "[[I", true)
  | 8 => ("AfternoonChange", "setsBySize", "[I", true)
  | _ => ("AfternoonChange", "latestFinding", "I", false)
def tyX7 : Nat → FieldType := fun k => match k with
  | 0 => .array (.object "AfternoonChange$Text")
  | 1 => .object "AfternoonChange$Told"
  | 2 => .object "AfternoonChange$Ride"
  | 3 => .object "AfternoonChange$Ride"
  | 4 => .object "AfternoonChange$StopSets"
  | 5 => .object "AfternoonChange$Sightings"
  | 6 => .array (.object "AfternoonChange$Sheet")
  | 7 => .array (.array .int)
  | 8 => .array .int
  | _ => .int
theorem nmX7 : ∀ a, a < 10 → ∀ b, b < 10 → a ≠ b → (TX7 a).2.1 ≠ (TX7 b).2.1 := by decide +kernel
theorem tyX7_ok : ∀ k, k < 10 → parseFieldDescriptor (TX7 k).2.2.1 = some (tyX7 k) := by decide +kernel
abbrev cX7_init : ByteArray := prog_1_method_1_code
def yX7_init : MethodName := ⟨RX7, "<init>", "()V"⟩
abbrev cX7_type : ByteArray := prog_1_method_2_code
def yX7_type : MethodName := ⟨RX7, "type", "(II)I"⟩
abbrev cX7_wipe : ByteArray := prog_1_method_3_code
def yX7_wipe : MethodName := ⟨RX7, "wipe", "(I)I"⟩
abbrev cX7_undo : ByteArray := prog_1_method_4_code
def yX7_undo : MethodName := ⟨RX7, "undo", "(I)I"⟩
abbrev cX7_fault : ByteArray := prog_1_method_5_code
def yX7_fault : MethodName := ⟨RX7, "fault", "(I)I"⟩
abbrev cX7_rider : ByteArray := prog_1_method_6_code
def yX7_rider : MethodName := ⟨RX7, "rider", "(II)I"⟩
abbrev cX7_worth : ByteArray := prog_1_method_7_code
def yX7_worth : MethodName := ⟨RX7, "worth", "(II)I"⟩
abbrev cX7_set : ByteArray := prog_1_method_8_code
def yX7_set : MethodName := ⟨RX7, "set", "(II)I"⟩
abbrev cX7_has : ByteArray := prog_1_method_9_code
def yX7_has : MethodName := ⟨RX7, "has", "(II)I"⟩
abbrev cX7_torn : ByteArray := prog_1_method_10_code
def yX7_torn : MethodName := ⟨RX7, "torn", "(II)I"⟩
abbrev cX7_bag : ByteArray := prog_1_method_11_code
def yX7_bag : MethodName := ⟨RX7, "bag", "(II)I"⟩
abbrev cX7_gets : ByteArray := prog_1_method_12_code
def yX7_gets : MethodName := ⟨RX7, "gets", "(I)I"⟩
abbrev cX7_first : ByteArray := prog_1_method_13_code
def yX7_first : MethodName := ⟨RX7, "first", "(I)I"⟩
abbrev cX7_still : ByteArray := prog_1_method_14_code
def yX7_still : MethodName := ⟨RX7, "still", "()I"⟩
abbrev cX7_served : ByteArray := prog_1_method_15_code
def yX7_served : MethodName := ⟨RX7, "served", "(I)I"⟩
abbrev cX7_rings : ByteArray := prog_1_method_16_code
def yX7_rings : MethodName := ⟨RX7, "rings", "(I)I"⟩
abbrev cX7_open : ByteArray := prog_1_method_17_code
def yX7_open : MethodName := ⟨RX7, "open", "(II)I"⟩
abbrev cX7_least : ByteArray := prog_1_method_18_code
def yX7_least : MethodName := ⟨RX7, "least", "(I)I"⟩
abbrev cX7_top : ByteArray := prog_1_method_19_code
def yX7_top : MethodName := ⟨RX7, "top", "(I)I"⟩
abbrev cX7_seen : ByteArray := prog_1_method_20_code
def yX7_seen : MethodName := ⟨RX7, "seen", "(III)I"⟩
abbrev cX7_forget : ByteArray := prog_1_method_21_code
def yX7_forget : MethodName := ⟨RX7, "forget", "()I"⟩
abbrev cX7_read : ByteArray := prog_1_method_22_code
def yX7_read : MethodName := ⟨RX7, "read", "(I)I"⟩
abbrev cX7_had : ByteArray := prog_1_method_23_code
def yX7_had : MethodName := ⟨RX7, "had", "(I)I"⟩
abbrev cX7_was : ByteArray := prog_1_method_24_code
def yX7_was : MethodName := ⟨RX7, "was", "()I"⟩
abbrev cX7_ask : ByteArray := prog_1_method_25_code
def yX7_ask : MethodName := ⟨RX7, "ask", "(I)I"⟩
abbrev cX7_maybe : ByteArray := prog_1_method_26_code
def yX7_maybe : MethodName := ⟨RX7, "maybe", "(IIII)J"⟩
abbrev cX7_depot : ByteArray := prog_1_method_27_code
def yX7_depot : MethodName := ⟨RX7, "depot", "(III)I"⟩
abbrev cX7_sheet : ByteArray := prog_1_method_28_code
def yX7_sheet : MethodName := ⟨RX7, "sheet", "(III)I"⟩
abbrev cX7_lose : ByteArray := prog_1_method_29_code
def yX7_lose : MethodName := ⟨RX7, "lose", "(I)I"⟩
abbrev cX7_lay : ByteArray := prog_1_method_30_code
def yX7_lay : MethodName := ⟨RX7, "lay", "(IIII)I"⟩
abbrev cX7_get : ByteArray := prog_1_method_31_code
def yX7_get : MethodName := ⟨RX7, "get", "(III)I"⟩
abbrev cX7_copy : ByteArray := prog_1_method_32_code
def yX7_copy : MethodName := ⟨RX7, "copy", "(IIIII)I"⟩
abbrev cX7_write : ByteArray := prog_1_method_33_code
def yX7_write : MethodName := ⟨RX7, "write", "(II)I"⟩
abbrev cX7_count : ByteArray := prog_1_method_34_code
def yX7_count : MethodName := ⟨RX7, "count", "(I)I"⟩
abbrev cX7_digest : ByteArray := prog_1_method_35_code
def yX7_digest : MethodName := ⟨RX7, "digest", "()J"⟩
abbrev cX7_isOutside : ByteArray := prog_1_method_36_code
def yX7_isOutside : MethodName := ⟨RX7, "isOutside", "(II)Z"⟩
abbrev cX7_mix : ByteArray := prog_1_method_37_code
def yX7_mix : MethodName := ⟨RX7, "mix", "(JJ)J"⟩
abbrev cX7_tellAnew : ByteArray := prog_1_method_38_code
def yX7_tellAnew : MethodName := ⟨RX7, "tellAnew", "()V"⟩
abbrev cX7_tellEven : ByteArray := prog_1_method_39_code
def yX7_tellEven : MethodName := ⟨RX7, "tellEven", "(I)I"⟩
abbrev cX7_tellChanges : ByteArray := prog_1_method_40_code
def yX7_tellChanges : MethodName := ⟨RX7, "tellChanges", "(I)I"⟩
abbrev cX7_tellForgets : ByteArray := prog_1_method_41_code
def yX7_tellForgets : MethodName := ⟨RX7, "tellForgets", "(I)I"⟩
abbrev cX7_rideWithEven : ByteArray := prog_1_method_42_code
def yX7_rideWithEven : MethodName := ⟨RX7, "rideWithEven", "(I)V"⟩
abbrev cX7_clearAlike : ByteArray := prog_1_method_43_code
def yX7_clearAlike : MethodName := ⟨RX7, "clearAlike", "()V"⟩
abbrev cX7_countAlike : ByteArray := prog_1_method_44_code
def yX7_countAlike : MethodName := ⟨RX7, "countAlike", "(I)V"⟩
abbrev cX7_greatestOf : ByteArray := prog_1_method_45_code
def yX7_greatestOf : MethodName := ⟨RX7, "greatestOf", "([I)I"⟩
abbrev cX7_chanceAbove : ByteArray := prog_1_method_46_code
def yX7_chanceAbove : MethodName := ⟨RX7, "chanceAbove", "(II)J"⟩
abbrev cX7_finding : ByteArray := prog_1_method_47_code
def yX7_finding : MethodName := ⟨RX7, "finding", "(I)I"⟩
abbrev cX7_refusalOfItem : ByteArray := prog_1_method_48_code
def yX7_refusalOfItem : MethodName := ⟨RX7, "refusalOfItem", "(III)I"⟩
def RX8 : String := "AfternoonChangeModel"
def TX8 : u_T := fun k => match k with
  | 0 => ("AfternoonChangeModel", "forms", "[I", true)
  | 1 => ("AfternoonChangeModel", "sizes", "[I", true)
  | 2 => ("AfternoonChangeModel", "items", "[I", true)
  | 3 => ("AfternoonChangeModel", "moved", "[I", true)
  | 4 => ("AfternoonChangeModel", "latest", "I", false)
  | 5 => ("AfternoonChangeModel", "bytes", "[I", true)
  | 6 => ("AfternoonChangeModel", "typed", "[I", true)
  | 7 => ("AfternoonChangeModel", "riders", "I", false)
  | 8 => ("AfternoonChangeModel", "rider", "[I", true)
  | 9 => ("AfternoonChangeModel", "bagged", "I", false)
  | 10 => ("AfternoonChangeModel", "bagAt", "[I", true)
  | 11 => ("AfternoonChangeModel", "worths", "[I", true)
  | 12 => ("AfternoonChangeModel", "settings", "[I", true)
  | 13 => ("AfternoonChangeModel", "top", "I", false)
  | 14 => ("AfternoonChangeModel", "has", "[I", true)
  | 15 => ("AfternoonChangeModel", "isTorn", "[I", true)
  | 16 => ("AfternoonChangeModel", "board", "I", false)
  | 17 => ("AfternoonChangeModel", "many", "I", false)
  | 18 => ("AfternoonChangeModel", "bag", "[I", true)
  | 19 => ("AfternoonChangeModel", "hasBy", "[I", true)
  | 20 => ("AfternoonChangeModel", "tornBy", "[I", true)
  | 21 => ("AfternoonChangeModel", "manyBy", "[I", true)
  | 22 => ("AfternoonChangeModel", "bagBy", "[I", true)
  | 23 => ("AfternoonChangeModel", "first", "[I", true)
  | 24 => ("AfternoonChangeModel", "changes", "I", false)
  | 25 => ("AfternoonChangeModel", "still", "I", false)
  | 26 => ("AfternoonChangeModel", "sights", "I", false)
  | 27 => ("AfternoonChangeModel", "sight", "[I", true)
  | 28 => ("AfternoonChangeModel", "alike", "[I", true)
  | _ => ("AfternoonChangeModel", "drawn", "I", false)
def tyX8 : Nat → FieldType := fun k => match k with
  | 0 => .array .int
  | 1 => .array .int
  | 2 => .array .int
  | 3 => .array .int
  | 4 => .int
  | 5 => .array .int
  | 6 => .array .int
  | 7 => .int
  | 8 => .array .int
  | 9 => .int
  | 10 => .array .int
  | 11 => .array .int
  | 12 => .array .int
  | 13 => .int
  | 14 => .array .int
  | 15 => .array .int
  | 16 => .int
  | 17 => .int
  | 18 => .array .int
  | 19 => .array .int
  | 20 => .array .int
  | 21 => .array .int
  | 22 => .array .int
  | 23 => .array .int
  | 24 => .int
  | 25 => .int
  | 26 => .int
  | 27 => .array .int
  | 28 => .array .int
  | _ => .int
theorem nmX8 : ∀ a, a < 30 → ∀ b, b < 30 → a ≠ b → (TX8 a).2.1 ≠ (TX8 b).2.1 := by decide +kernel
theorem tyX8_ok : ∀ k, k < 30 → parseFieldDescriptor (TX8 k).2.2.1 = some (tyX8 k) := by decide +kernel
abbrev cX8_init : ByteArray := prog_10_method_1_code
def yX8_init : MethodName := ⟨RX8, "<init>", "()V"⟩
abbrev cX8_in : ByteArray := prog_10_method_3_code
def yX8_in : MethodName := ⟨RX8, "in", "(JJJ)Z"⟩
abbrev cX8_no : ByteArray := prog_10_method_4_code
def yX8_no : MethodName := ⟨RX8, "no", "(I)J"⟩
abbrev cX8_isTwo : ByteArray := prog_10_method_5_code
def yX8_isTwo : MethodName := ⟨RX8, "isTwo", "(I)Z"⟩
abbrev cX8_isIn : ByteArray := prog_10_method_6_code
def yX8_isIn : MethodName := ⟨RX8, "isIn", "(II)Z"⟩
abbrev cX8_ones : ByteArray := prog_10_method_7_code
def yX8_ones : MethodName := ⟨RX8, "ones", "(I)I"⟩
abbrev cX8_lesser : ByteArray := prog_10_method_8_code
def yX8_lesser : MethodName := ⟨RX8, "lesser", "(II)I"⟩
abbrev cX8_greater : ByteArray := prog_10_method_9_code
def yX8_greater : MethodName := ⟨RX8, "greater", "(II)I"⟩
abbrev cX8_part : ByteArray := prog_10_method_10_code
def yX8_part : MethodName := ⟨RX8, "part", "(JJI)J"⟩
abbrev cX8_finds : ByteArray := prog_10_method_11_code
def yX8_finds : MethodName := ⟨RX8, "finds", "(I)I"⟩
abbrev cX8_isSheet : ByteArray := prog_10_method_12_code
def yX8_isSheet : MethodName := ⟨RX8, "isSheet", "(I)Z"⟩
abbrev cX8_sheet : ByteArray := prog_10_method_13_code
def yX8_sheet : MethodName := ⟨RX8, "sheet", "(III)I"⟩
abbrev cX8_lose : ByteArray := prog_10_method_14_code
def yX8_lose : MethodName := ⟨RX8, "lose", "(I)I"⟩
abbrev cX8_lacks : ByteArray := prog_10_method_15_code
def yX8_lacks : MethodName := ⟨RX8, "lacks", "(III)I"⟩
abbrev cX8_cut : ByteArray := prog_10_method_16_code
def yX8_cut : MethodName := ⟨RX8, "cut", "(II)I"⟩
abbrev cX8_lay : ByteArray := prog_10_method_17_code
def yX8_lay : MethodName := ⟨RX8, "lay", "(IIII)I"⟩
abbrev cX8_get : ByteArray := prog_10_method_18_code
def yX8_get : MethodName := ⟨RX8, "get", "(III)I"⟩
abbrev cX8_copy : ByteArray := prog_10_method_19_code
def yX8_copy : MethodName := ⟨RX8, "copy", "(IIIII)I"⟩
abbrev cX8_type : ByteArray := prog_10_method_20_code
def yX8_type : MethodName := ⟨RX8, "type", "(II)I"⟩
abbrev cX8_wipe : ByteArray := prog_10_method_21_code
def yX8_wipe : MethodName := ⟨RX8, "wipe", "(I)I"⟩
abbrev cX8_undo : ByteArray := prog_10_method_22_code
def yX8_undo : MethodName := ⟨RX8, "undo", "(I)I"⟩
abbrev cX8_letterOf : ByteArray := prog_10_method_23_code
def yX8_letterOf : MethodName := ⟨RX8, "letterOf", "(I)I"⟩
abbrev cX8_riderOf : ByteArray := prog_10_method_24_code
def yX8_riderOf : MethodName := ⟨RX8, "riderOf", "(II)I"⟩
abbrev cX8_readsRiders : ByteArray := prog_10_method_25_code
def yX8_readsRiders : MethodName := ⟨RX8, "readsRiders", "()I"⟩
abbrev cX8_readsBag : ByteArray := prog_10_method_26_code
def yX8_readsBag : MethodName := ⟨RX8, "readsBag", "()I"⟩
abbrev cX8_fault : ByteArray := prog_10_method_27_code
def yX8_fault : MethodName := ⟨RX8, "fault", "(I)I"⟩
abbrev cX8_isRider : ByteArray := prog_10_method_28_code
def yX8_isRider : MethodName := ⟨RX8, "isRider", "(I)Z"⟩
abbrev cX8_isDay : ByteArray := prog_10_method_29_code
def yX8_isDay : MethodName := ⟨RX8, "isDay", "(I)Z"⟩
abbrev cX8_rider : ByteArray := prog_10_method_30_code
def yX8_rider : MethodName := ⟨RX8, "rider", "(II)I"⟩
abbrev cX8_worth : ByteArray := prog_10_method_31_code
def yX8_worth : MethodName := ⟨RX8, "worth", "(II)I"⟩
abbrev cX8_set : ByteArray := prog_10_method_32_code
def yX8_set : MethodName := ⟨RX8, "set", "(II)I"⟩
abbrev cX8_puts : ByteArray := prog_10_method_33_code
def yX8_puts : MethodName := ⟨RX8, "puts", "(I)V"⟩
abbrev cX8_find : ByteArray := prog_10_method_34_code
def yX8_find : MethodName := ⟨RX8, "find", "(I)I"⟩
abbrev cX8_takes : ByteArray := prog_10_method_35_code
def yX8_takes : MethodName := ⟨RX8, "takes", "(I)V"⟩
abbrev cX8_may : ByteArray := prog_10_method_36_code
def yX8_may : MethodName := ⟨RX8, "may", "(I)Z"⟩
abbrev cX8_other : ByteArray := prog_10_method_37_code
def yX8_other : MethodName := ⟨RX8, "other", "(I)I"⟩
abbrev cX8_gives : ByteArray := prog_10_method_38_code
def yX8_gives : MethodName := ⟨RX8, "gives", "(II)V"⟩
abbrev cX8_changesOne : ByteArray := prog_10_method_39_code
def yX8_changesOne : MethodName := ⟨RX8, "changesOne", "(I)Z"⟩
abbrev cX8_stops : ByteArray := prog_10_method_40_code
def yX8_stops : MethodName := ⟨RX8, "stops", "(II)V"⟩
abbrev cX8_keeps : ByteArray := prog_10_method_41_code
def yX8_keeps : MethodName := ⟨RX8, "keeps", "(I)V"⟩
abbrev cX8_begins : ByteArray := prog_10_method_42_code
def yX8_begins : MethodName := ⟨RX8, "begins", "()V"⟩
abbrev cX8_lives : ByteArray := prog_10_method_43_code
def yX8_lives : MethodName := ⟨RX8, "lives", "()V"⟩
abbrev cX8_reads : ByteArray := prog_10_method_44_code
def yX8_reads : MethodName := ⟨RX8, "reads", "()V"⟩
abbrev cX8_has : ByteArray := prog_10_method_45_code
def yX8_has : MethodName := ⟨RX8, "has", "(II)I"⟩
abbrev cX8_torn : ByteArray := prog_10_method_46_code
def yX8_torn : MethodName := ⟨RX8, "torn", "(II)I"⟩
abbrev cX8_bagOf : ByteArray := prog_10_method_47_code
def yX8_bagOf : MethodName := ⟨RX8, "bagOf", "(II)I"⟩
abbrev cX8_bag : ByteArray := prog_10_method_48_code
def yX8_bag : MethodName := ⟨RX8, "bag", "(II)I"⟩
abbrev cX8_isServed : ByteArray := prog_10_method_49_code
def yX8_isServed : MethodName := ⟨RX8, "isServed", "(II)Z"⟩
abbrev cX8_getsOf : ByteArray := prog_10_method_50_code
def yX8_getsOf : MethodName := ⟨RX8, "getsOf", "(I)I"⟩
abbrev cX8_gets : ByteArray := prog_10_method_51_code
def yX8_gets : MethodName := ⟨RX8, "gets", "(I)I"⟩
abbrev cX8_first : ByteArray := prog_10_method_52_code
def yX8_first : MethodName := ⟨RX8, "first", "(I)I"⟩
abbrev cX8_still : ByteArray := prog_10_method_53_code
def yX8_still : MethodName := ⟨RX8, "still", "()I"⟩
abbrev cX8_servedBy : ByteArray := prog_10_method_54_code
def yX8_servedBy : MethodName := ⟨RX8, "servedBy", "(I)I"⟩
abbrev cX8_served : ByteArray := prog_10_method_55_code
def yX8_served : MethodName := ⟨RX8, "served", "(I)I"⟩
abbrev cX8_wantsOf : ByteArray := prog_10_method_56_code
def yX8_wantsOf : MethodName := ⟨RX8, "wantsOf", "(II)Z"⟩
abbrev cX8_isRing : ByteArray := prog_10_method_57_code
def yX8_isRing : MethodName := ⟨RX8, "isRing", "(III)Z"⟩
abbrev cX8_ringsNow : ByteArray := prog_10_method_58_code
def yX8_ringsNow : MethodName := ⟨RX8, "ringsNow", "(I)I"⟩
abbrev cX8_rings : ByteArray := prog_10_method_59_code
def yX8_rings : MethodName := ⟨RX8, "rings", "(I)I"⟩
abbrev cX8_openOf : ByteArray := prog_10_method_60_code
def yX8_openOf : MethodName := ⟨RX8, "openOf", "(II)I"⟩
abbrev cX8_open : ByteArray := prog_10_method_61_code
def yX8_open : MethodName := ⟨RX8, "open", "(II)I"⟩
abbrev cX8_leastOf : ByteArray := prog_10_method_62_code
def yX8_leastOf : MethodName := ⟨RX8, "leastOf", "(I)I"⟩
abbrev cX8_least : ByteArray := prog_10_method_63_code
def yX8_least : MethodName := ⟨RX8, "least", "(I)I"⟩
abbrev cX8_topOf : ByteArray := prog_10_method_64_code
def yX8_topOf : MethodName := ⟨RX8, "topOf", "(I)I"⟩
abbrev cX8_top : ByteArray := prog_10_method_65_code
def yX8_top : MethodName := ⟨RX8, "top", "(I)I"⟩
abbrev cX8_seen : ByteArray := prog_10_method_66_code
def yX8_seen : MethodName := ⟨RX8, "seen", "(III)I"⟩
abbrev cX8_forget : ByteArray := prog_10_method_67_code
def yX8_forget : MethodName := ⟨RX8, "forget", "()I"⟩
abbrev cX8_read : ByteArray := prog_10_method_68_code
def yX8_read : MethodName := ⟨RX8, "read", "(I)I"⟩
abbrev cX8_isSeen : ByteArray := prog_10_method_69_code
def yX8_isSeen : MethodName := ⟨RX8, "isSeen", "()Z"⟩
abbrev cX8_hadOf : ByteArray := prog_10_method_70_code
def yX8_hadOf : MethodName := ⟨RX8, "hadOf", "(I)I"⟩
abbrev cX8_had : ByteArray := prog_10_method_71_code
def yX8_had : MethodName := ⟨RX8, "had", "(I)I"⟩
abbrev cX8_wasNow : ByteArray := prog_10_method_72_code
def yX8_wasNow : MethodName := ⟨RX8, "wasNow", "()I"⟩
abbrev cX8_was : ByteArray := prog_10_method_73_code
def yX8_was : MethodName := ⟨RX8, "was", "()I"⟩
abbrev cX8_askOf : ByteArray := prog_10_method_74_code
def yX8_askOf : MethodName := ⟨RX8, "askOf", "(I)I"⟩
abbrev cX8_ask : ByteArray := prog_10_method_75_code
def yX8_ask : MethodName := ⟨RX8, "ask", "(I)I"⟩
abbrev cX8_maybeOf : ByteArray := prog_10_method_76_code
def yX8_maybeOf : MethodName := ⟨RX8, "maybeOf", "(IIII)J"⟩
abbrev cX8_maybe : ByteArray := prog_10_method_77_code
def yX8_maybe : MethodName := ⟨RX8, "maybe", "(IIII)J"⟩
abbrev cX8_lot : ByteArray := prog_10_method_78_code
def yX8_lot : MethodName := ⟨RX8, "lot", "(I)I"⟩
abbrev cX8_depotOf : ByteArray := prog_10_method_79_code
def yX8_depotOf : MethodName := ⟨RX8, "depotOf", "(III)I"⟩
abbrev cX8_depot : ByteArray := prog_10_method_80_code
def yX8_depot : MethodName := ⟨RX8, "depot", "(III)I"⟩
abbrev cX8_write : ByteArray := prog_10_method_81_code
def yX8_write : MethodName := ⟨RX8, "write", "(II)I"⟩
abbrev cX8_count : ByteArray := prog_10_method_82_code
def yX8_count : MethodName := ⟨RX8, "count", "(I)I"⟩
abbrev cX8_tellsRider : ByteArray := prog_10_method_83_code
def yX8_tellsRider : MethodName := ⟨RX8, "tellsRider", "(JI)J"⟩
abbrev cX8_tellsDay : ByteArray := prog_10_method_84_code
def yX8_tellsDay : MethodName := ⟨RX8, "tellsDay", "(JI)J"⟩
abbrev cX8_digest : ByteArray := prog_10_method_85_code
def yX8_digest : MethodName := ⟨RX8, "digest", "()J"⟩
def RJ6 : String := "java/lang/Integer"
def TJ6 : u_T := fun k => match k with
  | _ => ("", "", "", false)
def tyJ6 : Nat → FieldType := fun k => match k with
  | _ => .int
theorem nmJ6 : ∀ a, a < 0 → ∀ b, b < 0 → a ≠ b → (TJ6 a).2.1 ≠ (TJ6 b).2.1 := by decide +kernel
theorem tyJ6_ok : ∀ k, k < 0 → parseFieldDescriptor (TJ6 k).2.2.1 = some (tyJ6 k) := by decide +kernel
abbrev cJ6_bitCount_0f7a4 : ByteArray := prog_11_method_49_code
def yJ6_bitCount_0f7a4 : MethodName := ⟨RJ6, "bitCount", "(I)I"⟩
def RJ9 : String := "java/lang/Math"
def TJ9 : u_T := fun k => match k with
  | _ => ("", "", "", false)
def tyJ9 : Nat → FieldType := fun k => match k with
  | _ => .int
theorem nmJ9 : ∀ a, a < 0 → ∀ b, b < 0 → a ≠ b → (TJ9 a).2.1 ≠ (TJ9 b).2.1 := by decide +kernel
theorem tyJ9_ok : ∀ k, k < 0 → parseFieldDescriptor (TJ9 k).2.2.1 = some (tyJ9 k) := by decide +kernel
abbrev cJ9_max_7cf53 : ByteArray := prog_12_method_65_code
def yJ9_max_7cf53 : MethodName := ⟨RJ9, "max", "(II)I"⟩
abbrev cJ9_min_7cf53 : ByteArray := prog_12_method_69_code
def yJ9_min_7cf53 : MethodName := ⟨RJ9, "min", "(II)I"⟩
def RJ10 : String := "java/lang/System"
def TJ10 : u_T := fun k => match k with
  | _ => ("", "", "", false)
def tyJ10 : Nat → FieldType := fun k => match k with
  | _ => .int
theorem nmJ10 : ∀ a, a < 0 → ∀ b, b < 0 → a ≠ b → (TJ10 a).2.1 ≠ (TJ10 b).2.1 := by decide +kernel
theorem tyJ10_ok : ∀ k, k < 0 → parseFieldDescriptor (TJ10 k).2.2.1 = some (tyJ10 k) := by decide +kernel
def RJ7 : String := "java/util/Arrays"
def TJ7 : u_T := fun k => match k with
  | _ => ("", "", "", false)
def tyJ7 : Nat → FieldType := fun k => match k with
  | _ => .int
theorem nmJ7 : ∀ a, a < 0 → ∀ b, b < 0 → a ≠ b → (TJ7 a).2.1 ≠ (TJ7 b).2.1 := by decide +kernel
theorem tyJ7_ok : ∀ k, k < 0 → parseFieldDescriptor (TJ7 k).2.2.1 = some (tyJ7 k) := by decide +kernel
abbrev cJ7_fill_53178 : ByteArray := prog_14_method_103_code
def yJ7_fill_53178 : MethodName := ⟨RJ7, "fill", "([II)V"⟩
def RL : String := "AfternoonChangeLaw"
abbrev cL_law : ByteArray := code
def yL_law : MethodName := ⟨RL, "law", "([I)Z"⟩
abbrev vwCl : List vw_C := [(RX0, TX0, 2), (RX1, TX1, 16), (RX2, TX2, 3), (RX3, TX3, 4), (RX4, TX4, 4), (RX5, TX5, 2), (RX6, TX6, 12), (RX7, TX7, 10), (RX8, TX8, 30)]
/-- the tables' good words -/
def gU : List Cond := lw_tbl.filter goodWord
theorem t_1 {i : Nat} {w : Cond} (h : tables_1_1[i]? = some w) (hg : goodWord w = true) : w ∈ gU := List.mem_filter.mpr ⟨List.mem_append_right _ (List.mem_append_left _ (List.mem_of_getElem? h)), hg⟩
theorem t_2 {i : Nat} {w : Cond} (h : tables_1_2[i]? = some w) (hg : goodWord w = true) : w ∈ gU := List.mem_filter.mpr ⟨List.mem_append_right _ (List.mem_append_right _ (List.mem_append_left _ (List.mem_of_getElem? h))), hg⟩
theorem t_3 {i : Nat} {w : Cond} (h : tables_1_3[i]? = some w) (hg : goodWord w = true) : w ∈ gU := List.mem_filter.mpr ⟨List.mem_append_right _ (List.mem_append_right _ (List.mem_append_right _ (List.mem_append_left _ (List.mem_of_getElem? h)))), hg⟩
theorem t_4 {i : Nat} {w : Cond} (h : tables_1_4[i]? = some w) (hg : goodWord w = true) : w ∈ gU := List.mem_filter.mpr ⟨List.mem_append_right _ (List.mem_append_right _ (List.mem_append_right _ (List.mem_append_right _ (List.mem_append_left _ (List.mem_of_getElem? h))))), hg⟩
theorem t_5 {i : Nat} {w : Cond} (h : tables_1_5[i]? = some w) (hg : goodWord w = true) : w ∈ gU := List.mem_filter.mpr ⟨List.mem_append_right _ (List.mem_append_right _ (List.mem_append_right _ (List.mem_append_right _ (List.mem_append_right _ (List.mem_of_getElem? h))))), hg⟩
theorem t_s {i n : Nat} {y : MethodName} (h : lw_privs[i]? = some (y, n)) (hg : goodWord (Cond.selects y.cls y y) = true) : Cond.selects y.cls y y ∈ gU := List.mem_filter.mpr ⟨List.mem_append_left _ (List.mem_map.mpr ⟨(y, n), List.mem_of_getElem? h, rfl⟩), hg⟩
