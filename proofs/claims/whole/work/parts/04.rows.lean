/-! THE G LAYER: the system's cells stand at labels (a layout, fixed once the constructors are through); their numbers are a table v; a goal gx_G is: from pc, locals lv, stack st and table v the machine comes to Q. -/
abbrev gV : Type := (Nat → Nat → Int32) × (Nat → Nat → Int64)
abbrev gk : Type := (Nat × List (Option Nat)) ⊕ (Nat ⊕ (Nat ⊕ (Nat × List Nat)))
abbrev gk_o (ci : Nat) (tm : List (Option Nat)) : gk := .inl (ci, tm)
abbrev gk_i (n : Nat) : gk := .inr (.inl n)
abbrev gk_l (n : Nat) : gk := .inr (.inr (.inl n))
abbrev gk_r (t : Nat) (ls : List Nat) : gk := .inr (.inr (.inr (t, ls)))
def gx_f (σ : Nat → Nat) (g : Nat → Int32) : Nat → List (Option Nat) → List Value
  | _, [] => []
  | j, none :: t => .int (g j) :: gx_f σ g (j + 1) t
  | j, some r :: t => .ref (σ r) :: gx_f σ g (j + 1) t
def gx_e (σ : Nat → Nat) (ty : Nat → ClassId) (k : gk) (q : Nat) (v : gV) : va_E := match k with
  | .inl (ci, tm) => .inr (ci, gx_f σ (v.1 q) 0 tm)
  | .inr (.inl n) => .inl (ty 0, n, .inl (v.1 q))
  | .inr (.inr (.inl n)) => .inl (ty 1, n, .inr (.inl (v.2 q)))
  | .inr (.inr (.inr (t, ls))) => .inl (ty t, ls.length, .inr (.inr (.inr (.inr (fun i => (ls[i]?).map σ)))))
def gx_w (lay : List gk) (σ : Nat → Nat) (ty : Nat → ClassId) (v : gV) : va_W := lay.mapIdx (fun q k => (σ q, gx_e σ ty k q v))
def sA (v : gV) (q : Nat) (f : Nat → Int32) : gV := (fun a => if a = q then f else v.1 a, v.2)
def sI (v : gV) (q j : Nat) (x : Int32) : gV := sA v q (upd (v.1 q) j x)
def sL (v : gV) (q j : Nat) (x : Int64) : gV := (v.1, fun a => if a = q then vp_updL (v.2 q) j x else v.2 a)
theorem gx_fI {σ : Nat → Nat} {g : Nat → Int32} : ∀ (tm : List (Option Nat)) (i j : Nat), tm[j]? = some none → (gx_f σ g i tm)[j]? = some (.int (g (i + j)))
  | [], _, _, h => by simp at h
  | none :: t, i, 0, _ => by simp [gx_f]
  | some r :: t, i, 0, h => by simp at h
  | none :: t, i, j + 1, h => by
    rw [show i + (j + 1) = i + 1 + j by omega, gx_f, List.getElem?_cons_succ]
    exact gx_fI t (i + 1) j (by simpa using h)
  | some r :: t, i, j + 1, h => by
    rw [show i + (j + 1) = i + 1 + j by omega, gx_f, List.getElem?_cons_succ]
    exact gx_fI t (i + 1) j (by simpa using h)
theorem gx_fR {σ : Nat → Nat} {g : Nat → Int32} {r : Nat} : ∀ (tm : List (Option Nat)) (i j : Nat), tm[j]? = some (some r) → (gx_f σ g i tm)[j]? = some (.ref (σ r))
  | [], _, _, h => by simp at h
  | none :: t, i, 0, h => by simp at h
  | some r' :: t, i, 0, h => by
    have e : r' = r := by simpa using h
    simp [gx_f, e]
  | none :: t, i, j + 1, h => by
    rw [gx_f, List.getElem?_cons_succ]
    exact gx_fR t (i + 1) j (by simpa using h)
  | some r' :: t, i, j + 1, h => by
    rw [gx_f, List.getElem?_cons_succ]
    exact gx_fR t (i + 1) j (by simpa using h)
theorem gx_fE {σ : Nat → Nat} {g g' : Nat → Int32} : ∀ (tm : List (Option Nat)) (i : Nat), (∀ k, i ≤ k → g' k = g k) → gx_f σ g' i tm = gx_f σ g i tm
  | [], _, _ => rfl
  | none :: t, i, h => by rw [gx_f, gx_f, h i (Nat.le_refl i), gx_fE t (i + 1) (fun k hk => h k (by omega))]
  | some r :: t, i, h => by rw [gx_f, gx_f, gx_fE t (i + 1) (fun k hk => h k (by omega))]
theorem gx_fS {σ : Nat → Nat} {g : Nat → Int32} {x : Int32} : ∀ (tm : List (Option Nat)) (i j : Nat), tm[j]? = some none → (gx_f σ g i tm).set j (.int x) = gx_f σ (upd g (i + j) x) i tm
  | [], _, _, h => by simp at h
  | some r :: t, i, 0, h => by simp at h
  | none :: t, i, 0, _ => by
    rw [gx_f, gx_f, List.set_cons_zero, gx_fE t (i + 1) (g' := upd g (i + 0) x) (g := g) (fun k hk => by unfold upd; rw [if_neg (by omega)])]
    unfold upd
    rw [if_pos (Nat.add_zero i).symm]
  | none :: t, i, j + 1, h => by
    rw [gx_f, gx_f, List.set_cons_succ, gx_fS t (i + 1) j (by simpa using h), show i + 1 + j = i + (j + 1) by omega]
    unfold upd
    rw [if_neg (by omega)]
  | some r :: t, i, j + 1, h => by
    rw [gx_f, gx_f, List.set_cons_succ, gx_fS t (i + 1) j (by simpa using h), show i + 1 + j = i + (j + 1) by omega]
theorem gx_fL {σ : Nat → Nat} {g : Nat → Int32} : ∀ (tm : List (Option Nat)) (i : Nat), (gx_f σ g i tm).length = tm.length
  | [], _ => rfl
  | none :: t, i => by rw [gx_f, List.length_cons, List.length_cons, gx_fL t]
  | some r :: t, i => by rw [gx_f, List.length_cons, List.length_cons, gx_fL t]
theorem gx_wA {lay : List gk} {σ : Nat → Nat} {ty : Nat → ClassId} {v : gV} {q : Nat} {k : gk} (h : lay[q]? = some k) : (gx_w lay σ ty v)[q]? = some (σ q, gx_e σ ty k q v) := by
  unfold gx_w
  rw [List.getElem?_mapIdx, h]
  rfl
theorem gx_wS {lay : List gk} {σ : Nat → Nat} {ty : Nat → ClassId} {v v' : gV} {q : Nat} {k : gk} (h : lay[q]? = some k) (h1 : ∀ a, a ≠ q → v'.1 a = v.1 a) (h2 : ∀ a, a ≠ q → v'.2 a = v.2 a) : (gx_w lay σ ty v).set q (σ q, gx_e σ ty k q v') = gx_w lay σ ty v' := by
  apply List.ext_getElem?
  intro i
  by_cases hi : i = q
  · subst hi
    have hl : i < (gx_w lay σ ty v).length := by
      unfold gx_w
      rw [List.length_mapIdx]
      exact (List.getElem?_eq_some_iff.mp h).1
    rw [List.getElem?_set_self hl, gx_wA h]
  · rw [List.getElem?_set_ne (fun e => hi e.symm)]
    unfold gx_w
    rw [List.getElem?_mapIdx, List.getElem?_mapIdx]
    cases lay[i]? with
    | none => rfl
    | some k' =>
      have e : gx_e σ ty k' i v = gx_e σ ty k' i v' := by
        unfold gx_e
        rw [h1 i hi, h2 i hi]
      show some (σ i, gx_e σ ty k' i v) = some (σ i, gx_e σ ty k' i v')
      rw [e]
theorem gx_D {lay : List gk} {σ : Nat → Nat} {ty : Nat → ClassId} {A : Nat → Prop} {v v' : gV} (h : va_D A (gx_w lay σ ty v)) : va_D A (gx_w lay σ ty v') := by
  have key : ∀ (k : Nat) (q : Nat × va_E), (gx_w lay σ ty v')[k]? = some q → ∃ q' : Nat × va_E, (gx_w lay σ ty v)[k]? = some q' ∧ q'.1 = q.1 := by
    intro k q hq
    unfold gx_w at hq ⊢
    rw [List.getElem?_mapIdx] at hq ⊢
    cases hk : lay[k]? with
    | none => rw [hk] at hq; simp at hq
    | some g =>
      rw [hk] at hq
      have e : (σ k, gx_e σ ty g k v') = q := by simpa using hq
      exact ⟨(σ k, gx_e σ ty g k v), rfl, by rw [← e]⟩
  refine ⟨fun i j x y hx hy hxy => ?_, fun k q hq => ?_⟩
  · obtain ⟨x', h1, h2⟩ := key i x hx
    obtain ⟨y', h3, h4⟩ := key j y hy
    exact h.1 i j x' y' h1 h3 (by rw [h2, h4]; exact hxy)
  · obtain ⟨q', h1, h2⟩ := key k q hq
    rw [← h2]
    exact h.2 k q' h1
abbrev gC : Type := Program × Launch × Env × Room × State × MethodId × Array Value × List Frame × Method × Code
abbrev gO : Type := (Nat → Nat) × (Nat → ClassId) × va_G × (Nat → Prop)
abbrev gx_tys (ty : Nat → ClassId) : List (ClassId × FieldType) := [(ty 0, .int), (ty 1, .long), (ty 2, .object RX5), (ty 3, .object RX2), (ty 4, .object RX0), (ty 5, .array .int)]
def gx_K (D : va_G) (ty : Nat → ClassId) (U : State) : Prop := va_K D vwCl (gx_tys ty) U ∧ va_Nw (.methodLinkNest RX3 21 yX7_isOutside RX7) U
theorem gx_K.warm {D : va_G} {ty : Nat → ClassId} {s U : State} (h : gx_K D ty s) (hW : s.WarmedH U.vm) : gx_K D ty U := ⟨va_K.moved hW.alike h.1, va_Nw.warmM hW h.2⟩
theorem gx_K.calling {D : va_G} {ty : Nat → ClassId} {U : State} (h : gx_K D ty U) (g : JFrame) (mk : MethodId) (a : Array Value) : gx_K D ty (U.calling g mk a) := ⟨va_K.moved (u := U) (U := U.calling g mk a) (Vm.Alike.refl U.vm) h.1, va_Nw.same rfl (u := U) (U := U.calling g mk a) rfl h.2⟩
def gx_X (Γ : gC) (Ω : gO) (cc : ByteArray) (own : String) (nL : Nat) (ret : Option FieldType) : Prop :=
  Γ.1.tables.exec = Jvm.exec ∧ Γ.2.2.2.2.2.2.2.2.2.code = cc ∧ Γ.2.2.2.2.2.2.2.2.2.maxLocals = nL ∧ Γ.2.2.2.2.1.vm.findClass own = some Γ.2.2.2.2.2.1.cls ∧ (∀ w ∈ gU, w.before Γ.2.2.2.2.2.2.1 Γ.2.2.2.2.1 = true) ∧ gx_K Ω.2.2.1 Ω.2.1 Γ.2.2.2.2.1 ∧ Γ.2.2.2.2.2.2.2.2.1.sig.returnType = ret ∧ Γ.2.2.2.2.2.2.2.2.1.locks = false
abbrev gx_W (Γ : gC) (H : Heap) (locs : List Loc) (Q : State → Prop) (g : JFrame) : Prop := W Γ.1 Γ.2.1 Γ.2.2.1 Γ.2.2.2.1 Γ.2.2.2.2.1 Γ.2.2.2.2.2.1 Γ.2.2.2.2.2.2.1 Γ.2.2.2.2.2.2.2.1 Γ.2.2.2.2.2.2.2.2.1 Γ.2.2.2.2.2.2.2.2.2 H locs 0 0 Q g
def gx_G (Γ : gC) (Ω : gO) (lay : List gk) (Q : State → Prop) (nL : Nat) (v : gV) (pc : Nat) (lv : List (Nat × Value)) (st : List Value) : Prop :=
  ∀ (H : Heap) (locs : List Loc) (ls : Array Slot), va_P Ω.2.2.1 vwCl (gx_w lay Ω.1 Ω.2.1 v) H → va_D Ω.2.2.2 (gx_w lay Ω.1 Ω.2.1 v) → va_S Ω.2.2.2 Γ.2.2.2.2.1.heap H locs → lv_has ls nL lv → gx_W Γ H locs Q (F0 Γ.2.2.2.2.2.1 pc ls st)
def gx_Qc (Ω : gO) (lay : List gk) (rv : Option Value) (v' : gV) : Array Value → State → Outcome → State → Prop := fun _ st oc t => oc = .returned rv ∧ va_P Ω.2.2.1 vwCl (gx_w lay Ω.1 Ω.2.1 v') t.heap ∧ va_F Ω.2.2.2 st t
abbrev gx_Q (Γ : gC) (Ω : gO) (lay : List gk) (rv : Option Value) (v' : gV) : State → Prop := MQ Γ.2.2.2.2.2.2.2.1 (gx_Qc Ω lay rv v') Γ.2.2.2.2.2.2.1 Γ.2.2.2.2.1 0 0 Ω.2.2.2
abbrev gx_R (d : Nat) : Room := { frames := d, cells := 0, slots := 0, locals := 40 * d }
def gx_Pc (Ω : gO) (lay : List gk) (av : List Value) (v : gV) : Array Value → State → Prop := va_Pc av (fun U => va_P Ω.2.2.1 vwCl (gx_w lay Ω.1 Ω.2.1 v) U.heap ∧ va_D Ω.2.2.2 (gx_w lay Ω.1 Ω.2.1 v) ∧ gx_K Ω.2.2.1 Ω.2.1 U)
/-- a method's contract over a layout: started with av on v it answers rv and leaves v' -/
def gx_M (l : Launch) (Ω : gO) (lay : List gk) (y : MethodName) (cc : ByteArray) (maxL : Nat) (ret : Option FieldType) (d : Nat) (av : List Value) (v : gV) (rv : Option Value) (v' : gV) : Prop :=
  Met l y (.code y cc maxL ret :: gU) (gx_R d) (gx_Pc Ω lay av v) (gx_Qc Ω lay rv v') 0 0 Ω.2.2.2
theorem gx_start {l : Launch} {Ω : gO} {lay : List gk} {y : MethodName} {cc : ByteArray} {maxL : Nat} {ret : Option FieldType} {d : Nat} {av : List Value} {v : gV} {rv : Option Value} {v' : gV} {lv : List (Nat × Value)} (hy : plainFor y = true) (hlen : (lg_sl av).length ≤ maxL) (hlv : lv_args 0 av = lv)
    (body : ∀ Γ : gC, Γ.2.1 = l → Γ.2.2.2.1 = gx_R d → gx_X Γ Ω cc y.cls maxL ret → gx_G Γ Ω lay (gx_Q Γ Ω lay rv v') maxL v 0 lv []) : gx_M l Ω lay y cc maxL ret d av v rv v' := by
  refine va_MetF (cc := cc) (maxL := maxL) (ret := ret) hy rfl ?_
  intro p e s m args below meth c s₁ B hml hv
  obtain ⟨rfl, hP, hD, hK⟩ := hv
  have hts := atoms_spec (ws := .code y cc maxL ret :: gU) B.pre
  have hown : s.vm.findClass y.cls = some m.cls := findClass_of_methodNamed B.named
  have hl := lv_entry av (n := maxL) hlen
  rw [lg_entry_eq]
  rw [hlv] at hl
  exact body (p, l, e, gx_R d, s, m, av.toArray, below, meth, c) rfl rfl ⟨B.exec, B.bytes, hml, hown, fun w h => hts w (List.mem_cons_of_mem _ h), hK, B.returns, B.notSynchronized⟩ s.heap [] _ hP hD va_S.rf hl
def gin (i : Int32) (n : Nat) : Bool := decide (0 ≤ i.toInt ∧ i.toInt < (n : Int))
theorem gin_in {i : Int32} {n : Nat} (h : gin i n = true) : vp_in i n := vp_in_iff.mpr (of_decide_eq_true h)
def jrem (x y : Int32) : Int32 := x - x / y * y
def jremL (x y : Int64) : Int64 := x - x / y * y
def jushr (x y : Int32) : Int32 := (x.toUInt32 >>> (y.toUInt32 &&& Int32.toUInt32 31)).toInt32
def jushrL (x : Int64) (y : Int32) : Int64 := (x.toUInt64 >>> (y.toInt64.toUInt64 &&& Int64.toUInt64 63)).toInt64
def gcp (sp dp n : Int32) (n0 n1 : Nat) : Bool := decide (0 ≤ sp.toInt ∧ 0 ≤ dp.toInt ∧ 0 ≤ n.toInt ∧ sp.toInt + n.toInt ≤ (n0 : Int) ∧ dp.toInt + n.toInt ≤ (n1 : Int))
/-- loops: f's steps from a, at most n of them, until one ends with a b -/
def lp {α β : Type} (f : α → Option (α ⊕ β)) : Nat → α → Option β
  | 0, _ => none
  | n + 1, a => match f a with
    | none => none
    | some (.inl a') => lp f n a'
    | some (.inr b) => some b
theorem lp_ind {α β : Type} {f : α → Option (α ⊕ β)} {P : α → Prop} {Z : β → Prop} (hs : ∀ a o, f a = some o → (∀ a', o = .inl a' → P a') → (∀ b, o = .inr b → Z b) → P a) : ∀ (n : Nat) (a : α) (b : β), lp f n a = some b → Z b → P a
  | 0, a, b, h, _ => by simp [lp] at h
  | n + 1, a, b, h, hz => by
    rw [lp] at h
    cases hf : f a with
    | none => rw [hf] at h; cases h
    | some o =>
      rw [hf] at h
      cases o with
      | inl a' => exact hs a _ hf (fun a2 e => by cases e; exact lp_ind hs n a' b h hz) (fun b2 e => by cases e)
      | inr b' => cases h; exact hs a _ hf (fun a2 e => by cases e) (fun b2 e => by cases e; exact hz)
def fu : Nat := 4611686018427387904
def bi {ρ : Type} (o : Option (Int32 × gV)) (k : Int32 → gV → Option ρ) : Option ρ := match o with
  | none => none
  | some (r, v) => k r v
def bj {ρ : Type} (o : Option (Int64 × gV)) (k : Int64 → gV → Option ρ) : Option ρ := match o with
  | none => none
  | some (r, v) => k r v
def br {ρ : Type} (o : Option (Nat × gV)) (ok : Nat → Bool) (k : Nat → gV → Option ρ) : Option ρ := match o with
  | none => none
  | some (r, v) => if ok r = true then k r v else none
def bv {ρ : Type} (o : Option gV) (k : gV → Option ρ) : Option ρ := match o with
  | none => none
  | some v => k v
def bx {α ρ : Type} (o : Option α) (k : α → Option ρ) : Option ρ := match o with
  | none => none
  | some v => k v
def ga {ρ : Type} (i : Int32) (ls : List Nat) (ok : Nat → Bool) (k : Nat → Option ρ) : Option ρ := if gin i ls.length = true then (if ok (ls.getD i.toNatClampNeg 0) = true then k (ls.getD i.toNatClampNeg 0) else none) else none
/-- a value is named -/
def bd {α ρ : Type} (a : α) (k : α → Option ρ) : Option ρ := k a
theorem bx_some {α ρ : Type} {o : Option α} {k : α → Option ρ} {r : ρ} (h : bx o k = some r) : ∃ a, o = some a ∧ k a = some r := by
  cases o with
  | none => cases h
  | some a => exact ⟨a, rfl, h⟩
theorem if_some {ρ : Type} {b : Bool} {E : Option ρ} {r : ρ} (h : (if b = true then E else none) = some r) : b = true ∧ E = some r := by
  by_cases hb : b = true
  · rw [if_pos hb] at h
    exact ⟨hb, h⟩
  · rw [if_neg hb] at h
    cases h
section GX
variable {Γ : gC} {Ω : gO} {lay : List gk} {Q : State → Prop} {nL : Nat} {v : gV} {pc n : Nat} {lv : List (Nat × Value)} {st : List Value} {cc : ByteArray} {own : String} {ret : Option FieldType}
theorem gi_iadd (hX : gx_X Γ Ω cc own nL ret) {x y : Int32} (hd : decode cc pc = .ok (.iadd, 1)) (hn : pc + 1 = n) (k : gx_G Γ Ω lay Q nL v n lv (.int (x + y) :: st)) : gx_G Γ Ω lay Q nL v pc lv (.int y :: .int x :: st) := by
  subst hn
  exact fun H locs ls hP hD hS hl => lv_iadd hX.1 hX.2.1 hd  (k H locs ls hP hD hS hl)
theorem gi_isub (hX : gx_X Γ Ω cc own nL ret) {x y : Int32} (hd : decode cc pc = .ok (.isub, 1)) (hn : pc + 1 = n) (k : gx_G Γ Ω lay Q nL v n lv (.int (x - y) :: st)) : gx_G Γ Ω lay Q nL v pc lv (.int y :: .int x :: st) := by
  subst hn
  exact fun H locs ls hP hD hS hl => lv_isub hX.1 hX.2.1 hd  (k H locs ls hP hD hS hl)
theorem gi_imul (hX : gx_X Γ Ω cc own nL ret) {x y : Int32} (hd : decode cc pc = .ok (.imul, 1)) (hn : pc + 1 = n) (k : gx_G Γ Ω lay Q nL v n lv (.int (x * y) :: st)) : gx_G Γ Ω lay Q nL v pc lv (.int y :: .int x :: st) := by
  subst hn
  exact fun H locs ls hP hD hS hl => lv_imul hX.1 hX.2.1 hd  (k H locs ls hP hD hS hl)
theorem gi_iand (hX : gx_X Γ Ω cc own nL ret) {x y : Int32} (hd : decode cc pc = .ok (.iand, 1)) (hn : pc + 1 = n) (k : gx_G Γ Ω lay Q nL v n lv (.int (x &&& y) :: st)) : gx_G Γ Ω lay Q nL v pc lv (.int y :: .int x :: st) := by
  subst hn
  exact fun H locs ls hP hD hS hl => lv_iand hX.1 hX.2.1 hd  (k H locs ls hP hD hS hl)
theorem gi_ior (hX : gx_X Γ Ω cc own nL ret) {x y : Int32} (hd : decode cc pc = .ok (.ior, 1)) (hn : pc + 1 = n) (k : gx_G Γ Ω lay Q nL v n lv (.int (x ||| y) :: st)) : gx_G Γ Ω lay Q nL v pc lv (.int y :: .int x :: st) := by
  subst hn
  exact fun H locs ls hP hD hS hl => lv_ior hX.1 hX.2.1 hd  (k H locs ls hP hD hS hl)
theorem gi_ixor (hX : gx_X Γ Ω cc own nL ret) {x y : Int32} (hd : decode cc pc = .ok (.ixor, 1)) (hn : pc + 1 = n) (k : gx_G Γ Ω lay Q nL v n lv (.int (x ^^^ y) :: st)) : gx_G Γ Ω lay Q nL v pc lv (.int y :: .int x :: st) := by
  subst hn
  exact fun H locs ls hP hD hS hl => lv_ixor hX.1 hX.2.1 hd  (k H locs ls hP hD hS hl)
theorem gi_ishl (hX : gx_X Γ Ω cc own nL ret) {x y : Int32} (hd : decode cc pc = .ok (.ishl, 1)) (hn : pc + 1 = n) (k : gx_G Γ Ω lay Q nL v n lv (.int (x <<< (y &&& 31)) :: st)) : gx_G Γ Ω lay Q nL v pc lv (.int y :: .int x :: st) := by
  subst hn
  exact fun H locs ls hP hD hS hl => lv_ishl hX.1 hX.2.1 hd  (k H locs ls hP hD hS hl)
theorem gi_ishr (hX : gx_X Γ Ω cc own nL ret) {x y : Int32} (hd : decode cc pc = .ok (.ishr, 1)) (hn : pc + 1 = n) (k : gx_G Γ Ω lay Q nL v n lv (.int (x >>> (y &&& 31)) :: st)) : gx_G Γ Ω lay Q nL v pc lv (.int y :: .int x :: st) := by
  subst hn
  exact fun H locs ls hP hD hS hl => lv_ishr hX.1 hX.2.1 hd  (k H locs ls hP hD hS hl)
theorem gi_iushr (hX : gx_X Γ Ω cc own nL ret) {x y : Int32} (hd : decode cc pc = .ok (.iushr, 1)) (hn : pc + 1 = n) (k : gx_G Γ Ω lay Q nL v n lv (.int (jushr x y) :: st)) : gx_G Γ Ω lay Q nL v pc lv (.int y :: .int x :: st) := by
  subst hn
  exact fun H locs ls hP hD hS hl => lv_iushr hX.1 hX.2.1 hd rfl (k H locs ls hP hD hS hl)
theorem gi_ineg (hX : gx_X Γ Ω cc own nL ret) {x : Int32} (hd : decode cc pc = .ok (.ineg, 1)) (hn : pc + 1 = n) (k : gx_G Γ Ω lay Q nL v n lv (.int (-x) :: st)) : gx_G Γ Ω lay Q nL v pc lv (.int x :: st) := by
  subst hn
  exact fun H locs ls hP hD hS hl => lv_ineg hX.1 hX.2.1 hd  (k H locs ls hP hD hS hl)
theorem gi_idiv (hX : gx_X Γ Ω cc own nL ret) {x y : Int32} (h0 : ¬ y = 0) (hd : decode cc pc = .ok (.idiv, 1)) (hn : pc + 1 = n) (k : gx_G Γ Ω lay Q nL v n lv (.int (x / y) :: st)) : gx_G Γ Ω lay Q nL v pc lv (.int y :: .int x :: st) := by
  subst hn
  exact fun H locs ls hP hD hS hl => lv_idiv hX.1 hX.2.1 hd h0 (k H locs ls hP hD hS hl)
theorem gi_irem (hX : gx_X Γ Ω cc own nL ret) {x y : Int32} (h0 : ¬ y = 0) (hd : decode cc pc = .ok (.irem, 1)) (hn : pc + 1 = n) (k : gx_G Γ Ω lay Q nL v n lv (.int (jrem x y) :: st)) : gx_G Γ Ω lay Q nL v pc lv (.int y :: .int x :: st) := by
  subst hn
  exact fun H locs ls hP hD hS hl => lv_irem hX.1 hX.2.1 hd h0 (k H locs ls hP hD hS hl)
theorem gi_ladd (hX : gx_X Γ Ω cc own nL ret) {x y : Int64} (hd : decode cc pc = .ok (.ladd, 1)) (hn : pc + 1 = n) (k : gx_G Γ Ω lay Q nL v n lv (.long (x + y) :: st)) : gx_G Γ Ω lay Q nL v pc lv (.long y :: .long x :: st) := by
  subst hn
  exact fun H locs ls hP hD hS hl => lv_ladd hX.1 hX.2.1 hd  (k H locs ls hP hD hS hl)
theorem gi_lsub (hX : gx_X Γ Ω cc own nL ret) {x y : Int64} (hd : decode cc pc = .ok (.lsub, 1)) (hn : pc + 1 = n) (k : gx_G Γ Ω lay Q nL v n lv (.long (x - y) :: st)) : gx_G Γ Ω lay Q nL v pc lv (.long y :: .long x :: st) := by
  subst hn
  exact fun H locs ls hP hD hS hl => lv_lsub hX.1 hX.2.1 hd  (k H locs ls hP hD hS hl)
theorem gi_lmul (hX : gx_X Γ Ω cc own nL ret) {x y : Int64} (hd : decode cc pc = .ok (.lmul, 1)) (hn : pc + 1 = n) (k : gx_G Γ Ω lay Q nL v n lv (.long (x * y) :: st)) : gx_G Γ Ω lay Q nL v pc lv (.long y :: .long x :: st) := by
  subst hn
  exact fun H locs ls hP hD hS hl => lv_lmul hX.1 hX.2.1 hd  (k H locs ls hP hD hS hl)
theorem gi_land (hX : gx_X Γ Ω cc own nL ret) {x y : Int64} (hd : decode cc pc = .ok (.land, 1)) (hn : pc + 1 = n) (k : gx_G Γ Ω lay Q nL v n lv (.long (x &&& y) :: st)) : gx_G Γ Ω lay Q nL v pc lv (.long y :: .long x :: st) := by
  subst hn
  exact fun H locs ls hP hD hS hl => lv_land hX.1 hX.2.1 hd  (k H locs ls hP hD hS hl)
theorem gi_lor (hX : gx_X Γ Ω cc own nL ret) {x y : Int64} (hd : decode cc pc = .ok (.lor, 1)) (hn : pc + 1 = n) (k : gx_G Γ Ω lay Q nL v n lv (.long (x ||| y) :: st)) : gx_G Γ Ω lay Q nL v pc lv (.long y :: .long x :: st) := by
  subst hn
  exact fun H locs ls hP hD hS hl => lv_lor hX.1 hX.2.1 hd  (k H locs ls hP hD hS hl)
theorem gi_ldiv (hX : gx_X Γ Ω cc own nL ret) {x y : Int64} (h0 : ¬ y = 0) (hd : decode cc pc = .ok (.ldiv, 1)) (hn : pc + 1 = n) (k : gx_G Γ Ω lay Q nL v n lv (.long (x / y) :: st)) : gx_G Γ Ω lay Q nL v pc lv (.long y :: .long x :: st) := by
  subst hn
  exact fun H locs ls hP hD hS hl => lv_ldiv hX.1 hX.2.1 hd h0 (k H locs ls hP hD hS hl)
theorem gi_lrem (hX : gx_X Γ Ω cc own nL ret) {x y : Int64} (h0 : ¬ y = 0) (hd : decode cc pc = .ok (.lrem, 1)) (hn : pc + 1 = n) (k : gx_G Γ Ω lay Q nL v n lv (.long (jremL x y) :: st)) : gx_G Γ Ω lay Q nL v pc lv (.long y :: .long x :: st) := by
  subst hn
  exact fun H locs ls hP hD hS hl => lv_lrem hX.1 hX.2.1 hd h0 (k H locs ls hP hD hS hl)
theorem gi_lshl (hX : gx_X Γ Ω cc own nL ret) {x : Int64} {y : Int32} (hd : decode cc pc = .ok (.lshl, 1)) (hn : pc + 1 = n) (k : gx_G Γ Ω lay Q nL v n lv (.long (x <<< (y.toInt64 &&& 63)) :: st)) : gx_G Γ Ω lay Q nL v pc lv (.int y :: .long x :: st) := by
  subst hn
  exact fun H locs ls hP hD hS hl => lv_lshl hX.1 hX.2.1 hd rfl (k H locs ls hP hD hS hl)
theorem gi_lushr (hX : gx_X Γ Ω cc own nL ret) {x : Int64} {y : Int32} (hd : decode cc pc = .ok (.lushr, 1)) (hn : pc + 1 = n) (k : gx_G Γ Ω lay Q nL v n lv (.long (jushrL x y) :: st)) : gx_G Γ Ω lay Q nL v pc lv (.int y :: .long x :: st) := by
  subst hn
  exact fun H locs ls hP hD hS hl => lv_lushr hX.1 hX.2.1 hd rfl (k H locs ls hP hD hS hl)
theorem gi_i2l (hX : gx_X Γ Ω cc own nL ret) {x : Int32} (hd : decode cc pc = .ok (.i2l, 1)) (hn : pc + 1 = n) (k : gx_G Γ Ω lay Q nL v n lv (.long x.toInt64 :: st)) : gx_G Γ Ω lay Q nL v pc lv (.int x :: st) := by
  subst hn
  exact fun H locs ls hP hD hS hl => lv_i2l hX.1 hX.2.1 hd rfl (k H locs ls hP hD hS hl)
theorem gi_l2i (hX : gx_X Γ Ω cc own nL ret) {x : Int64} (hd : decode cc pc = .ok (.l2i, 1)) (hn : pc + 1 = n) (k : gx_G Γ Ω lay Q nL v n lv (.int x.toInt32 :: st)) : gx_G Γ Ω lay Q nL v pc lv (.long x :: st) := by
  subst hn
  exact fun H locs ls hP hD hS hl => lv_l2i hX.1 hX.2.1 hd rfl (k H locs ls hP hD hS hl)
theorem gi_i2b (hX : gx_X Γ Ω cc own nL ret) {x : Int32} (hd : decode cc pc = .ok (.i2b, 1)) (hn : pc + 1 = n) (k : gx_G Γ Ω lay Q nL v n lv (.int x.toInt8.toInt32 :: st)) : gx_G Γ Ω lay Q nL v pc lv (.int x :: st) := by
  subst hn
  exact fun H locs ls hP hD hS hl => lv_i2b hX.1 hX.2.1 hd rfl (k H locs ls hP hD hS hl)
theorem gi_i2s (hX : gx_X Γ Ω cc own nL ret) {x : Int32} (hd : decode cc pc = .ok (.i2s, 1)) (hn : pc + 1 = n) (k : gx_G Γ Ω lay Q nL v n lv (.int x.toInt16.toInt32 :: st)) : gx_G Γ Ω lay Q nL v pc lv (.int x :: st) := by
  subst hn
  exact fun H locs ls hP hD hS hl => lv_i2s hX.1 hX.2.1 hd rfl (k H locs ls hP hD hS hl)
theorem gi_lcmp (hX : gx_X Γ Ω cc own nL ret) {x y : Int64} (hd : decode cc pc = .ok (.lcmp, 1)) (hn : pc + 1 = n) (k : gx_G Γ Ω lay Q nL v n lv (.int (lg_cmp x y) :: st)) : gx_G Γ Ω lay Q nL v pc lv (.long y :: .long x :: st) := by
  subst hn
  exact fun H locs ls hP hD hS hl => W.lcmp hX.1 hX.2.1 hd  (k H locs ls hP hD hS hl)
theorem gi_dup (hX : gx_X Γ Ω cc own nL ret) {va : Value} (h1 : va.category = 1) (hd : decode cc pc = .ok (.dup, 1)) (hn : pc + 1 = n) (k : gx_G Γ Ω lay Q nL v n lv (va :: va :: st)) : gx_G Γ Ω lay Q nL v pc lv (va :: st) := by
  subst hn
  exact fun H locs ls hP hD hS hl => lv_dup hX.1 hX.2.1 hd h1 (k H locs ls hP hD hS hl)
theorem gi_pop (hX : gx_X Γ Ω cc own nL ret) {va : Value} (h1 : va.category = 1) (hd : decode cc pc = .ok (.pop, 1)) (hn : pc + 1 = n) (k : gx_G Γ Ω lay Q nL v n lv (st)) : gx_G Γ Ω lay Q nL v pc lv (va :: st) := by
  subst hn
  exact fun H locs ls hP hD hS hl => lv_pop hX.1 hX.2.1 hd h1 (k H locs ls hP hD hS hl)
theorem gi_dup2 (hX : gx_X Γ Ω cc own nL ret) {va vb : Value} (h1 : va.category = 1) (h2 : vb.category = 1) (hd : decode cc pc = .ok (.dup2, 1)) (hn : pc + 1 = n) (k : gx_G Γ Ω lay Q nL v n lv (va :: vb :: va :: vb :: st)) : gx_G Γ Ω lay Q nL v pc lv (va :: vb :: st) := by
  subst hn
  exact fun H locs ls hP hD hS hl => lv_dup2_11 hX.1 hX.2.1 hd h1 h2 (k H locs ls hP hD hS hl)
theorem gi_iconst (hX : gx_X Γ Ω cc own nL ret) {i : Int} {x : Int32} (hv : Int32.ofInt i = x) (hd : decode cc pc = .ok (.iconst i, 1)) (hn : pc + 1 = n) (k : gx_G Γ Ω lay Q nL v n lv (.int x :: st)) : gx_G Γ Ω lay Q nL v pc lv (st) := by
  subst hn
  exact fun H locs ls hP hD hS hl => lv_iconst hX.1 hX.2.1 hd hv (k H locs ls hP hD hS hl)
theorem gi_bipush (hX : gx_X Γ Ω cc own nL ret) {i : Int} {x : Int32} (hv : (Int8.ofInt i).toInt32 = x) (hd : decode cc pc = .ok (.bipush i, 2)) (hn : pc + 2 = n) (k : gx_G Γ Ω lay Q nL v n lv (.int x :: st)) : gx_G Γ Ω lay Q nL v pc lv (st) := by
  subst hn
  exact fun H locs ls hP hD hS hl => lv_bipush hX.1 hX.2.1 hd hv (k H locs ls hP hD hS hl)
theorem gi_sipush (hX : gx_X Γ Ω cc own nL ret) {i : Int} {x : Int32} (hv : (Int16.ofInt i).toInt32 = x) (hd : decode cc pc = .ok (.sipush i, 3)) (hn : pc + 3 = n) (k : gx_G Γ Ω lay Q nL v n lv (.int x :: st)) : gx_G Γ Ω lay Q nL v pc lv (st) := by
  subst hn
  exact fun H locs ls hP hD hS hl => lv_sipush hX.1 hX.2.1 hd hv (k H locs ls hP hD hS hl)
theorem gi_lconst (hX : gx_X Γ Ω cc own nL ret) {i : Fin 2} {x : Int64} (hv : Int64.ofNat (i : Nat) = x) (hd : decode cc pc = .ok (.lconst i, 1)) (hn : pc + 1 = n) (k : gx_G Γ Ω lay Q nL v n lv (.long x :: st)) : gx_G Γ Ω lay Q nL v pc lv (st) := by
  subst hn
  exact fun H locs ls hP hD hS hl => lv_lconst hX.1 hX.2.1 hd hv (k H locs ls hP hD hS hl)
theorem gi_ldc (hX : gx_X Γ Ω cc own nL ret) {idx : Nat} {x : Int32} (hw : Cond.constant own idx x ∈ gU) (hd : decode cc pc = .ok (.ldc idx, 2)) (hn : pc + 2 = n) (k : gx_G Γ Ω lay Q nL v n lv (.int x :: st)) : gx_G Γ Ω lay Q nL v pc lv st := by
  subst hn
  exact fun H locs ls hP hD hS hl => lv_ldc hX.1 hX.2.1 hX.2.2.2.1 (hX.2.2.2.2.1 _ hw) hd (k H locs ls hP hD hS hl)
theorem gi_ldcw (hX : gx_X Γ Ω cc own nL ret) {idx : Nat} {x : Int32} (hw : Cond.constant own idx x ∈ gU) (hd : decode cc pc = .ok (.ldc_w idx, 3)) (hn : pc + 3 = n) (k : gx_G Γ Ω lay Q nL v n lv (.int x :: st)) : gx_G Γ Ω lay Q nL v pc lv st := by
  subst hn
  exact fun H locs ls hP hD hS hl => lv_ldcw hX.1 hX.2.1 hX.2.2.2.1 (hX.2.2.2.2.1 _ hw) hd (k H locs ls hP hD hS hl)
theorem gi_ldc2 (hX : gx_X Γ Ω cc own nL ret) {idx : Nat} {x : Int64} (hw : Cond.constantLong own idx x ∈ gU) (hd : decode cc pc = .ok (.ldc2_w idx, 3)) (hn : pc + 3 = n) (k : gx_G Γ Ω lay Q nL v n lv (.long x :: st)) : gx_G Γ Ω lay Q nL v pc lv st := by
  subst hn
  exact fun H locs ls hP hD hS hl => lv_ldc2 hX.1 hX.2.1 hX.2.2.2.1 (hX.2.2.2.2.1 _ hw) hd (k H locs ls hP hD hS hl)
theorem gi_iload_n (hX : gx_X Γ Ω cc own nL ret) (j : Nat) {k4 : Fin 4} {i : Nat} {x : Int32} (hd : decode cc pc = .ok (.iload_n k4, 1)) (hn : pc + 1 = n) (hi : (k4 : Nat) = i) (hj : lv[j]? = some (i, .int x)) (k : gx_G Γ Ω lay Q nL v n lv (.int x :: st)) : gx_G Γ Ω lay Q nL v pc lv st := by
  subst hn
  exact fun H locs ls hP hD hS hl => lv_iload_n hX.1 hX.2.1 hd hi (lv_at hl j hj) (k H locs ls hP hD hS hl)
theorem gi_iload (hX : gx_X Γ Ω cc own nL ret) (j : Nat) {i : Nat} {x : Int32} (hd : decode cc pc = .ok (.iload i, 2)) (hn : pc + 2 = n) (hj : lv[j]? = some (i, .int x)) (k : gx_G Γ Ω lay Q nL v n lv (.int x :: st)) : gx_G Γ Ω lay Q nL v pc lv st := by
  subst hn
  exact fun H locs ls hP hD hS hl => lv_iload hX.1 hX.2.1 hd (lv_at hl j hj) (k H locs ls hP hD hS hl)
theorem gi_istore_n (hX : gx_X Γ Ω cc own nL ret) {k4 : Fin 4} {i : Nat} {x : Int32} (lv' : List (Nat × Value)) (hd : decode cc pc = .ok (.istore_n k4, 1)) (hn : pc + 1 = n) (hi : (k4 : Nat) = i) (hm : Nat.blt (i) nL = true) (hl' : (i, Value.int x) :: lv.filter (fun q => !(q.1 == i) && !(q.1 + 1 == i && q.2.category == 2)) = lv') (k : gx_G Γ Ω lay Q nL v n lv' st) : gx_G Γ Ω lay Q nL v pc lv (.int x :: st) := by
  subst hn
  exact fun H locs ls hP hD hS hl => lv_istore_n hX.1 hX.2.1 hd hi hl (Nat.le_of_ble_eq_true hm) hl' (fun ls' hl2 => k H locs ls' hP hD hS hl2)
theorem gi_istore (hX : gx_X Γ Ω cc own nL ret) {i : Nat} {x : Int32} (lv' : List (Nat × Value)) (hd : decode cc pc = .ok (.istore i, 2)) (hn : pc + 2 = n) (hm : Nat.blt (i) nL = true) (hl' : (i, Value.int x) :: lv.filter (fun q => !(q.1 == i) && !(q.1 + 1 == i && q.2.category == 2)) = lv') (k : gx_G Γ Ω lay Q nL v n lv' st) : gx_G Γ Ω lay Q nL v pc lv (.int x :: st) := by
  subst hn
  exact fun H locs ls hP hD hS hl => lv_istore hX.1 hX.2.1 hd hl (Nat.le_of_ble_eq_true hm) hl' (fun ls' hl2 => k H locs ls' hP hD hS hl2)
theorem gi_lload_n (hX : gx_X Γ Ω cc own nL ret) (j : Nat) {k4 : Fin 4} {i : Nat} {x : Int64} (hd : decode cc pc = .ok (.lload_n k4, 1)) (hn : pc + 1 = n) (hi : (k4 : Nat) = i) (hj : lv[j]? = some (i, .long x)) (k : gx_G Γ Ω lay Q nL v n lv (.long x :: st)) : gx_G Γ Ω lay Q nL v pc lv st := by
  subst hn
  exact fun H locs ls hP hD hS hl => lv_lload_n hX.1 hX.2.1 hd hi (lv_at hl j hj) (k H locs ls hP hD hS hl)
theorem gi_lload (hX : gx_X Γ Ω cc own nL ret) (j : Nat) {i : Nat} {x : Int64} (hd : decode cc pc = .ok (.lload i, 2)) (hn : pc + 2 = n) (hj : lv[j]? = some (i, .long x)) (k : gx_G Γ Ω lay Q nL v n lv (.long x :: st)) : gx_G Γ Ω lay Q nL v pc lv st := by
  subst hn
  exact fun H locs ls hP hD hS hl => lv_lload hX.1 hX.2.1 hd (lv_at hl j hj) (k H locs ls hP hD hS hl)
theorem gi_lstore_n (hX : gx_X Γ Ω cc own nL ret) {k4 : Fin 4} {i : Nat} {x : Int64} (lv' : List (Nat × Value)) (hd : decode cc pc = .ok (.lstore_n k4, 1)) (hn : pc + 1 = n) (hi : (k4 : Nat) = i) (hm : Nat.blt (i + 1) nL = true) (hl' : (i, Value.long x) :: lv.filter (fun q => !(q.1 == i) && (!(q.1 == i + 1) && !(q.1 + 1 == i && q.2.category == 2))) = lv') (k : gx_G Γ Ω lay Q nL v n lv' st) : gx_G Γ Ω lay Q nL v pc lv (.long x :: st) := by
  subst hn
  exact fun H locs ls hP hD hS hl => lv_lstore_n hX.1 hX.2.1 hd hi hl (Nat.le_of_ble_eq_true hm) hl' (fun ls' hl2 => k H locs ls' hP hD hS hl2)
theorem gi_lstore (hX : gx_X Γ Ω cc own nL ret) {i : Nat} {x : Int64} (lv' : List (Nat × Value)) (hd : decode cc pc = .ok (.lstore i, 2)) (hn : pc + 2 = n) (hm : Nat.blt (i + 1) nL = true) (hl' : (i, Value.long x) :: lv.filter (fun q => !(q.1 == i) && (!(q.1 == i + 1) && !(q.1 + 1 == i && q.2.category == 2))) = lv') (k : gx_G Γ Ω lay Q nL v n lv' st) : gx_G Γ Ω lay Q nL v pc lv (.long x :: st) := by
  subst hn
  exact fun H locs ls hP hD hS hl => lv_lstore hX.1 hX.2.1 hd hl (Nat.le_of_ble_eq_true hm) hl' (fun ls' hl2 => k H locs ls' hP hD hS hl2)
theorem gi_aload_n (hX : gx_X Γ Ω cc own nL ret) (j : Nat) {k4 : Fin 4} {i : Nat} {x : Nat} (hd : decode cc pc = .ok (.aload_n k4, 1)) (hn : pc + 1 = n) (hi : (k4 : Nat) = i) (hj : lv[j]? = some (i, .ref x)) (k : gx_G Γ Ω lay Q nL v n lv (.ref x :: st)) : gx_G Γ Ω lay Q nL v pc lv st := by
  subst hn
  exact fun H locs ls hP hD hS hl => lv_aload_n hX.1 hX.2.1 hd hi (lv_at hl j hj) (k H locs ls hP hD hS hl)
theorem gi_aload (hX : gx_X Γ Ω cc own nL ret) (j : Nat) {i : Nat} {x : Nat} (hd : decode cc pc = .ok (.aload i, 2)) (hn : pc + 2 = n) (hj : lv[j]? = some (i, .ref x)) (k : gx_G Γ Ω lay Q nL v n lv (.ref x :: st)) : gx_G Γ Ω lay Q nL v pc lv st := by
  subst hn
  exact fun H locs ls hP hD hS hl => lv_aload hX.1 hX.2.1 hd (lv_at hl j hj) (k H locs ls hP hD hS hl)
theorem gi_astore_n (hX : gx_X Γ Ω cc own nL ret) {k4 : Fin 4} {i : Nat} {x : Nat} (lv' : List (Nat × Value)) (hd : decode cc pc = .ok (.astore_n k4, 1)) (hn : pc + 1 = n) (hi : (k4 : Nat) = i) (hm : Nat.blt (i) nL = true) (hl' : (i, Value.ref x) :: lv.filter (fun q => !(q.1 == i) && !(q.1 + 1 == i && q.2.category == 2)) = lv') (k : gx_G Γ Ω lay Q nL v n lv' st) : gx_G Γ Ω lay Q nL v pc lv (.ref x :: st) := by
  subst hn
  exact fun H locs ls hP hD hS hl => lv_astore_n hX.1 hX.2.1 hd hi hl (Nat.le_of_ble_eq_true hm) hl' (fun ls' hl2 => k H locs ls' hP hD hS hl2)
theorem gi_astore (hX : gx_X Γ Ω cc own nL ret) {i : Nat} {x : Nat} (lv' : List (Nat × Value)) (hd : decode cc pc = .ok (.astore i, 2)) (hn : pc + 2 = n) (hm : Nat.blt (i) nL = true) (hl' : (i, Value.ref x) :: lv.filter (fun q => !(q.1 == i) && !(q.1 + 1 == i && q.2.category == 2)) = lv') (k : gx_G Γ Ω lay Q nL v n lv' st) : gx_G Γ Ω lay Q nL v pc lv (.ref x :: st) := by
  subst hn
  exact fun H locs ls hP hD hS hl => lv_astore hX.1 hX.2.1 hd hl (Nat.le_of_ble_eq_true hm) hl' (fun ls' hl2 => k H locs ls' hP hD hS hl2)
theorem gi_iinc (hX : gx_X Γ Ω cc own nL ret) (j : Nat) {i : Nat} {d : Int} {x y z : Int32} (lv' : List (Nat × Value)) (hd : decode cc pc = .ok (.iinc i d, 3)) (hn : pc + 3 = n) (hj : lv[j]? = some (i, .int x)) (hz : Int32.ofInt d = z) (hy : x + z = y) (hm : Nat.blt i nL = true) (hl' : (i, Value.int y) :: lv.filter (fun q => !(q.1 == i) && !(q.1 + 1 == i && q.2.category == 2)) = lv') (k : gx_G Γ Ω lay Q nL v n lv' st) : gx_G Γ Ω lay Q nL v pc lv st := by
  subst hn
  exact fun H locs ls hP hD hS hl => lv_iinc hX.1 hX.2.1 hd hl hj (by rw [hz]; exact hy) (Nat.le_of_ble_eq_true hm) hl' (fun ls' hl2 => k H locs ls' hP hD hS hl2)
theorem gi_goto (hX : gx_X Γ Ω cc own nL ret) {off : Int} (hd : decode cc pc = .ok (.goto off, 3)) (hn : (pc : Int) + off = (n : Int)) (k : gx_G Γ Ω lay Q nL v n lv st) : gx_G Γ Ω lay Q nL v pc lv st := fun H locs ls hP hD hS hl => lv_goto hX.1 hX.2.1 hd hn (k H locs ls hP hD hS hl)
theorem gi_icmp_eq (hX : gx_X Γ Ω cc own nL ret) {x y : Int32} {off : Int} {tgt : Nat} {ρ : Type} {E1 E2 : Option ρ} {res : ρ} {hdec : Decidable (x = y)} (hd : decode cc pc = .ok (.if_icmp .eq off, 3)) (ht : (pc : Int) + off = (tgt : Int)) (hn : pc + 3 = n) (h : @ite (Option ρ) (x = y) hdec E1 E2 = some res) (kt : E1 = some res → gx_G Γ Ω lay Q nL v tgt lv st) (kf : E2 = some res → gx_G Γ Ω lay Q nL v n lv st) : gx_G Γ Ω lay Q nL v pc lv (.int y :: .int x :: st) := by
  subst hn
  intro H locs ls hP hD hS hl
  refine lv_icmp_eq hX.1 hX.2.1 hd ht (fun hc => ?_) (fun hc => ?_)
  · refine kt ?_ H locs ls hP hD hS hl
    rw [if_pos hc] at h
    exact h
  · refine kf ?_ H locs ls hP hD hS hl
    rw [if_neg hc] at h
    exact h
theorem gi_if_eq (hX : gx_X Γ Ω cc own nL ret) {x : Int32} {off : Int} {tgt : Nat} {ρ : Type} {E1 E2 : Option ρ} {res : ρ} {hdec : Decidable (x = 0)} (hd : decode cc pc = .ok (.ifCond .eq off, 3)) (ht : (pc : Int) + off = (tgt : Int)) (hn : pc + 3 = n) (h : @ite (Option ρ) (x = 0) hdec E1 E2 = some res) (kt : E1 = some res → gx_G Γ Ω lay Q nL v tgt lv st) (kf : E2 = some res → gx_G Γ Ω lay Q nL v n lv st) : gx_G Γ Ω lay Q nL v pc lv (.int x :: st) := by
  subst hn
  intro H locs ls hP hD hS hl
  refine lv_if_eq hX.1 hX.2.1 hd ht (fun hc => ?_) (fun hc => ?_)
  · refine kt ?_ H locs ls hP hD hS hl
    rw [if_pos hc] at h
    exact h
  · refine kf ?_ H locs ls hP hD hS hl
    rw [if_neg hc] at h
    exact h
theorem gi_icmp_ne (hX : gx_X Γ Ω cc own nL ret) {x y : Int32} {off : Int} {tgt : Nat} {ρ : Type} {E1 E2 : Option ρ} {res : ρ} {hdec : Decidable (x = y)} (hd : decode cc pc = .ok (.if_icmp .ne off, 3)) (ht : (pc : Int) + off = (tgt : Int)) (hn : pc + 3 = n) (h : @ite (Option ρ) (x = y) hdec E2 E1 = some res) (kt : E1 = some res → gx_G Γ Ω lay Q nL v tgt lv st) (kf : E2 = some res → gx_G Γ Ω lay Q nL v n lv st) : gx_G Γ Ω lay Q nL v pc lv (.int y :: .int x :: st) := by
  subst hn
  intro H locs ls hP hD hS hl
  refine lv_icmp_ne hX.1 hX.2.1 hd ht (fun hc => ?_) (fun hc => ?_)
  · refine kt ?_ H locs ls hP hD hS hl
    rw [if_neg hc] at h
    exact h
  · refine kf ?_ H locs ls hP hD hS hl
    rw [if_pos hc] at h
    exact h
theorem gi_if_ne (hX : gx_X Γ Ω cc own nL ret) {x : Int32} {off : Int} {tgt : Nat} {ρ : Type} {E1 E2 : Option ρ} {res : ρ} {hdec : Decidable (x = 0)} (hd : decode cc pc = .ok (.ifCond .ne off, 3)) (ht : (pc : Int) + off = (tgt : Int)) (hn : pc + 3 = n) (h : @ite (Option ρ) (x = 0) hdec E2 E1 = some res) (kt : E1 = some res → gx_G Γ Ω lay Q nL v tgt lv st) (kf : E2 = some res → gx_G Γ Ω lay Q nL v n lv st) : gx_G Γ Ω lay Q nL v pc lv (.int x :: st) := by
  subst hn
  intro H locs ls hP hD hS hl
  refine lv_if_ne hX.1 hX.2.1 hd ht (fun hc => ?_) (fun hc => ?_)
  · refine kt ?_ H locs ls hP hD hS hl
    rw [if_neg hc] at h
    exact h
  · refine kf ?_ H locs ls hP hD hS hl
    rw [if_pos hc] at h
    exact h
theorem gi_icmp_lt (hX : gx_X Γ Ω cc own nL ret) {x y : Int32} {off : Int} {tgt : Nat} {ρ : Type} {E1 E2 : Option ρ} {res : ρ} {hdec : Decidable (x < y)} (hd : decode cc pc = .ok (.if_icmp .lt off, 3)) (ht : (pc : Int) + off = (tgt : Int)) (hn : pc + 3 = n) (h : @ite (Option ρ) (x < y) hdec E1 E2 = some res) (kt : E1 = some res → gx_G Γ Ω lay Q nL v tgt lv st) (kf : E2 = some res → gx_G Γ Ω lay Q nL v n lv st) : gx_G Γ Ω lay Q nL v pc lv (.int y :: .int x :: st) := by
  subst hn
  intro H locs ls hP hD hS hl
  refine lv_icmp_lt hX.1 hX.2.1 hd ht (fun hc => ?_) (fun hc => ?_)
  · refine kt ?_ H locs ls hP hD hS hl
    rw [if_pos hc] at h
    exact h
  · refine kf ?_ H locs ls hP hD hS hl
    rw [if_neg hc] at h
    exact h
theorem gi_if_lt (hX : gx_X Γ Ω cc own nL ret) {x : Int32} {off : Int} {tgt : Nat} {ρ : Type} {E1 E2 : Option ρ} {res : ρ} {hdec : Decidable (x < 0)} (hd : decode cc pc = .ok (.ifCond .lt off, 3)) (ht : (pc : Int) + off = (tgt : Int)) (hn : pc + 3 = n) (h : @ite (Option ρ) (x < 0) hdec E1 E2 = some res) (kt : E1 = some res → gx_G Γ Ω lay Q nL v tgt lv st) (kf : E2 = some res → gx_G Γ Ω lay Q nL v n lv st) : gx_G Γ Ω lay Q nL v pc lv (.int x :: st) := by
  subst hn
  intro H locs ls hP hD hS hl
  refine lv_if_lt hX.1 hX.2.1 hd ht (fun hc => ?_) (fun hc => ?_)
  · refine kt ?_ H locs ls hP hD hS hl
    rw [if_pos hc] at h
    exact h
  · refine kf ?_ H locs ls hP hD hS hl
    rw [if_neg hc] at h
    exact h
theorem gi_icmp_ge (hX : gx_X Γ Ω cc own nL ret) {x y : Int32} {off : Int} {tgt : Nat} {ρ : Type} {E1 E2 : Option ρ} {res : ρ} {hdec : Decidable (y ≤ x)} (hd : decode cc pc = .ok (.if_icmp .ge off, 3)) (ht : (pc : Int) + off = (tgt : Int)) (hn : pc + 3 = n) (h : @ite (Option ρ) (y ≤ x) hdec E1 E2 = some res) (kt : E1 = some res → gx_G Γ Ω lay Q nL v tgt lv st) (kf : E2 = some res → gx_G Γ Ω lay Q nL v n lv st) : gx_G Γ Ω lay Q nL v pc lv (.int y :: .int x :: st) := by
  subst hn
  intro H locs ls hP hD hS hl
  refine lv_icmp_ge hX.1 hX.2.1 hd ht (fun hc => ?_) (fun hc => ?_)
  · refine kt ?_ H locs ls hP hD hS hl
    rw [if_pos hc] at h
    exact h
  · refine kf ?_ H locs ls hP hD hS hl
    rw [if_neg hc] at h
    exact h
theorem gi_if_ge (hX : gx_X Γ Ω cc own nL ret) {x : Int32} {off : Int} {tgt : Nat} {ρ : Type} {E1 E2 : Option ρ} {res : ρ} {hdec : Decidable (0 ≤ x)} (hd : decode cc pc = .ok (.ifCond .ge off, 3)) (ht : (pc : Int) + off = (tgt : Int)) (hn : pc + 3 = n) (h : @ite (Option ρ) (0 ≤ x) hdec E1 E2 = some res) (kt : E1 = some res → gx_G Γ Ω lay Q nL v tgt lv st) (kf : E2 = some res → gx_G Γ Ω lay Q nL v n lv st) : gx_G Γ Ω lay Q nL v pc lv (.int x :: st) := by
  subst hn
  intro H locs ls hP hD hS hl
  refine lv_if_ge hX.1 hX.2.1 hd ht (fun hc => ?_) (fun hc => ?_)
  · refine kt ?_ H locs ls hP hD hS hl
    rw [if_pos hc] at h
    exact h
  · refine kf ?_ H locs ls hP hD hS hl
    rw [if_neg hc] at h
    exact h
theorem gi_icmp_gt (hX : gx_X Γ Ω cc own nL ret) {x y : Int32} {off : Int} {tgt : Nat} {ρ : Type} {E1 E2 : Option ρ} {res : ρ} {hdec : Decidable (y < x)} (hd : decode cc pc = .ok (.if_icmp .gt off, 3)) (ht : (pc : Int) + off = (tgt : Int)) (hn : pc + 3 = n) (h : @ite (Option ρ) (y < x) hdec E1 E2 = some res) (kt : E1 = some res → gx_G Γ Ω lay Q nL v tgt lv st) (kf : E2 = some res → gx_G Γ Ω lay Q nL v n lv st) : gx_G Γ Ω lay Q nL v pc lv (.int y :: .int x :: st) := by
  subst hn
  intro H locs ls hP hD hS hl
  refine lv_icmp_gt hX.1 hX.2.1 hd ht (fun hc => ?_) (fun hc => ?_)
  · refine kt ?_ H locs ls hP hD hS hl
    rw [if_pos hc] at h
    exact h
  · refine kf ?_ H locs ls hP hD hS hl
    rw [if_neg hc] at h
    exact h
theorem gi_if_gt (hX : gx_X Γ Ω cc own nL ret) {x : Int32} {off : Int} {tgt : Nat} {ρ : Type} {E1 E2 : Option ρ} {res : ρ} {hdec : Decidable (0 < x)} (hd : decode cc pc = .ok (.ifCond .gt off, 3)) (ht : (pc : Int) + off = (tgt : Int)) (hn : pc + 3 = n) (h : @ite (Option ρ) (0 < x) hdec E1 E2 = some res) (kt : E1 = some res → gx_G Γ Ω lay Q nL v tgt lv st) (kf : E2 = some res → gx_G Γ Ω lay Q nL v n lv st) : gx_G Γ Ω lay Q nL v pc lv (.int x :: st) := by
  subst hn
  intro H locs ls hP hD hS hl
  refine lv_if_gt hX.1 hX.2.1 hd ht (fun hc => ?_) (fun hc => ?_)
  · refine kt ?_ H locs ls hP hD hS hl
    rw [if_pos hc] at h
    exact h
  · refine kf ?_ H locs ls hP hD hS hl
    rw [if_neg hc] at h
    exact h
theorem gi_icmp_le (hX : gx_X Γ Ω cc own nL ret) {x y : Int32} {off : Int} {tgt : Nat} {ρ : Type} {E1 E2 : Option ρ} {res : ρ} {hdec : Decidable (x ≤ y)} (hd : decode cc pc = .ok (.if_icmp .le off, 3)) (ht : (pc : Int) + off = (tgt : Int)) (hn : pc + 3 = n) (h : @ite (Option ρ) (x ≤ y) hdec E1 E2 = some res) (kt : E1 = some res → gx_G Γ Ω lay Q nL v tgt lv st) (kf : E2 = some res → gx_G Γ Ω lay Q nL v n lv st) : gx_G Γ Ω lay Q nL v pc lv (.int y :: .int x :: st) := by
  subst hn
  intro H locs ls hP hD hS hl
  refine lv_icmp_le hX.1 hX.2.1 hd ht (fun hc => ?_) (fun hc => ?_)
  · refine kt ?_ H locs ls hP hD hS hl
    rw [if_pos hc] at h
    exact h
  · refine kf ?_ H locs ls hP hD hS hl
    rw [if_neg hc] at h
    exact h
theorem gi_if_le (hX : gx_X Γ Ω cc own nL ret) {x : Int32} {off : Int} {tgt : Nat} {ρ : Type} {E1 E2 : Option ρ} {res : ρ} {hdec : Decidable (x ≤ 0)} (hd : decode cc pc = .ok (.ifCond .le off, 3)) (ht : (pc : Int) + off = (tgt : Int)) (hn : pc + 3 = n) (h : @ite (Option ρ) (x ≤ 0) hdec E1 E2 = some res) (kt : E1 = some res → gx_G Γ Ω lay Q nL v tgt lv st) (kf : E2 = some res → gx_G Γ Ω lay Q nL v n lv st) : gx_G Γ Ω lay Q nL v pc lv (.int x :: st) := by
  subst hn
  intro H locs ls hP hD hS hl
  refine lv_if_le hX.1 hX.2.1 hd ht (fun hc => ?_) (fun hc => ?_)
  · refine kt ?_ H locs ls hP hD hS hl
    rw [if_pos hc] at h
    exact h
  · refine kf ?_ H locs ls hP hD hS hl
    rw [if_neg hc] at h
    exact h
theorem gi_sub (ks : List Nat) {lv' : List (Nat × Value)} (hl' : lv_pick lv ks = lv') (k : gx_G Γ Ω lay Q nL v pc lv' st) : gx_G Γ Ω lay Q nL v pc lv st := fun H locs ls hP hD hS hl => k H locs ls hP hD hS (lv_sub hl ks hl')
theorem gi_tin (hX : gx_X Γ Ω cc own nL ret) {dflt lo hi off : Int} {offs : Array Int} {len tgt : Nat} {x k0 : Int32} (hd : decode cc pc = .ok (.tableswitch dflt lo hi offs, len)) (hx : x = k0) (hk : decide (¬ k0.toInt < lo ∧ ¬ hi < k0.toInt ∧ offs[(k0.toInt - lo).toNat]? = some off ∧ (pc : Int) + off = (tgt : Int)) = true) (k : gx_G Γ Ω lay Q nL v tgt lv st) : gx_G Γ Ω lay Q nL v pc lv (.int x :: st) := by
  subst hx
  obtain ⟨h1, h2, h3, h4⟩ := of_decide_eq_true hk
  exact fun H locs ls hP hD hS hl => lv_tableIn hX.1 hX.2.1 hd h1 h2 h3 h4 (k H locs ls hP hD hS hl)
theorem gi_tout (hX : gx_X Γ Ω cc own nL ret) {dflt lo hi : Int} {offs : Array Int} {len tgt : Nat} {x : Int32} (hd : decode cc pc = .ok (.tableswitch dflt lo hi offs, len)) (hx : x.toInt < lo ∨ hi < x.toInt) (ht : (pc : Int) + dflt = (tgt : Int)) (k : gx_G Γ Ω lay Q nL v tgt lv st) : gx_G Γ Ω lay Q nL v pc lv (.int x :: st) := fun H locs ls hP hD hS hl => lv_tableOut hX.1 hX.2.1 hd hx ht (k H locs ls hP hD hS hl)
/-- what the tables say of class ci -/
def gx_c (ci : Nat) (C : String) (T : u_T) (N : Nat) (t0 : Nat → FieldType) : Prop := vwCl[ci]? = some (C, T, N) ∧ (∀ w ∈ u_ws C T N, w ∈ gU) ∧ (∀ k, k < N → parseFieldDescriptor (T k).2.2.1 = some (t0 k)) ∧ ∀ a, a < N → ∀ b, b < N → a ≠ b → (T a).2.1 ≠ (T b).2.1
theorem gi_getI (hX : gx_X Γ Ω cc own nL ret) {C : String} {T : u_T} {N ci q idx : Nat} {t0 : Nat → FieldType} {tm : List (Option Nat)} (j : Nat) (hc : gx_c ci C T N t0) (hq : lay[q]? = some (gk_o ci tm)) (hj : tm[j]? = some none) (hk : Nat.blt j N = true) (hw : Cond.fieldLink own idx (T j).1 (T j).2.1 (T j).2.2.1 ∈ gU) (hd : decode cc pc = .ok (.getfield idx, 3)) (hn : pc + 3 = n) (k : gx_G Γ Ω lay Q nL v n lv (.int (v.1 q j) :: st)) : gx_G Γ Ω lay Q nL v pc lv (.ref (Ω.1 q) :: st) := by
  subst hn
  exact fun H locs ls hP hD hS hl => va_get hX.1 hX.2.1 hX.2.2.2.2.1 hc.2.1 hX.2.2.2.1 hX.2.2.2.2.2.1.1 hP q (gx_wA hq) hc.1 j (Nat.le_of_ble_eq_true hk) (hX.2.2.2.2.1 _ hw) (fun _ h => h) (by rw [gx_fI tm 0 j hj, Nat.zero_add]) hd (k H locs ls hP hD hS hl)
theorem gi_getR (hX : gx_X Γ Ω cc own nL ret) {C : String} {T : u_T} {N ci q r idx : Nat} {t0 : Nat → FieldType} {tm : List (Option Nat)} (j : Nat) (hc : gx_c ci C T N t0) (hq : lay[q]? = some (gk_o ci tm)) (hj : tm[j]? = some (some r)) (hk : Nat.blt j N = true) (hw : Cond.fieldLink own idx (T j).1 (T j).2.1 (T j).2.2.1 ∈ gU) (hd : decode cc pc = .ok (.getfield idx, 3)) (hn : pc + 3 = n) (k : gx_G Γ Ω lay Q nL v n lv (.ref (Ω.1 r) :: st)) : gx_G Γ Ω lay Q nL v pc lv (.ref (Ω.1 q) :: st) := by
  subst hn
  exact fun H locs ls hP hD hS hl => va_get hX.1 hX.2.1 hX.2.2.2.2.1 hc.2.1 hX.2.2.2.1 hX.2.2.2.2.2.1.1 hP q (gx_wA hq) hc.1 j (Nat.le_of_ble_eq_true hk) (hX.2.2.2.2.1 _ hw) (fun _ h => h) (gx_fR tm 0 j hj) hd (k H locs ls hP hD hS hl)
theorem gi_putI (hX : gx_X Γ Ω cc own nL ret) {C : String} {T : u_T} {N ci q idx : Nat} {t0 : Nat → FieldType} {tm : List (Option Nat)} {x : Int32} {ρ : Type} {E : gV → Option ρ} {res : ρ} (j : Nat) (hc : gx_c ci C T N t0) (hq : lay[q]? = some (gk_o ci tm)) (hj : tm[j]? = some none) (hk : Nat.blt j N = true) (hw : Cond.fieldLink own idx (T j).1 (T j).2.1 (T j).2.2.1 ∈ gU) (hf : (T j).2.2.2 = false) (ht : parseFieldDescriptor (T j).2.2.1 = some .int) (hd : decode cc pc = .ok (.putfield idx, 3)) (hn : pc + 3 = n) (h : bd (sI v q j x) E = some res) (k : ∀ v1 : gV, E v1 = some res → gx_G Γ Ω lay Q nL v1 n lv st) : gx_G Γ Ω lay Q nL v pc lv (.int x :: .ref (Ω.1 q) :: st) := by
  subst hn
  intro H locs ls hP hD hS hl
  refine va_put (ty := .int) hX.1 hX.2.1 hX.2.2.2.2.1 hc.2.1 t0 hc.2.2.1 hc.2.2.2 hX.2.2.2.1 hX.2.2.2.2.2.1.1 hP hD hS q (gx_wA hq) hc.1 j (Nat.le_of_ble_eq_true hk) (hX.2.2.2.2.1 _ hw) (fun _ h => h) hf ht rfl rfl (by rw [gx_fL]; exact (List.getElem?_eq_some_iff.mp hj).1) hd (fun H1 locs1 hP1 hD1 hS1 => ?_)
  have e : (gx_w lay Ω.1 Ω.2.1 v).set q (Ω.1 q, .inr (ci, (gx_f Ω.1 (v.1 q) 0 tm).set j (.int x))) = gx_w lay Ω.1 Ω.2.1 (sI v q j x) := by
    rw [gx_fS tm 0 j hj, Nat.zero_add, ← gx_wS (v := v) (v' := sI v q j x) hq (fun a ha => if_neg ha) (fun _ _ => rfl)]
    show _ = (gx_w lay Ω.1 Ω.2.1 v).set q (Ω.1 q, .inr (ci, gx_f Ω.1 ((sI v q j x).1 q) 0 tm))
    rw [show (sI v q j x).1 q = upd (v.1 q) j x from if_pos rfl]
  rw [e] at hP1 hD1
  exact k _ h H1 locs1 ls hP1 hD1 hS1 hl
theorem gi_iald (hX : gx_X Γ Ω cc own nL ret) {q N : Nat} {i : Int32} {ρ : Type} {E : Option ρ} {res : ρ} (hq : lay[q]? = some (gk_i N)) (hd : decode cc pc = .ok (.iaload, 1)) (hn : pc + 1 = n) (h : (if gin i N = true then E else none) = some res) (k : E = some res → gx_G Γ Ω lay Q nL v n lv (.int (v.1 q i.toNatClampNeg) :: st)) : gx_G Γ Ω lay Q nL v pc lv (.int i :: .ref (Ω.1 q) :: st) := by
  subst hn
  obtain ⟨h1, h2⟩ := if_some h
  exact fun H locs ls hP hD hS hl => va_iald hX.1 hX.2.1 hX.2.2.2.2.2.1.1 hP q 0 (gx_wA hq) rfl (gin_in h1) hd (k h2 H locs ls hP hD hS hl)
theorem gi_lald (hX : gx_X Γ Ω cc own nL ret) {q N : Nat} {i : Int32} {ρ : Type} {E : Option ρ} {res : ρ} (hq : lay[q]? = some (gk_l N)) (hd : decode cc pc = .ok (.laload, 1)) (hn : pc + 1 = n) (h : (if gin i N = true then E else none) = some res) (k : E = some res → gx_G Γ Ω lay Q nL v n lv (.long (v.2 q i.toNatClampNeg) :: st)) : gx_G Γ Ω lay Q nL v pc lv (.int i :: .ref (Ω.1 q) :: st) := by
  subst hn
  obtain ⟨h1, h2⟩ := if_some h
  exact fun H locs ls hP hD hS hl => va_lald hX.1 hX.2.1 hX.2.2.2.2.2.1.1 hP q 1 (gx_wA hq) rfl (gin_in h1) hd (k h2 H locs ls hP hD hS hl)
theorem gi_iast (hX : gx_X Γ Ω cc own nL ret) {q N : Nat} {i x : Int32} {ρ : Type} {E : gV → Option ρ} {res : ρ} (hq : lay[q]? = some (gk_i N)) (hd : decode cc pc = .ok (.iastore, 1)) (hn : pc + 1 = n) (h : (if gin i N = true then bd (sI v q i.toNatClampNeg x) E else none) = some res) (k : ∀ v1 : gV, E v1 = some res → gx_G Γ Ω lay Q nL v1 n lv st) : gx_G Γ Ω lay Q nL v pc lv (.int x :: .int i :: .ref (Ω.1 q) :: st) := by
  subst hn
  obtain ⟨h1, h2⟩ := if_some h
  intro H locs ls hP hD hS hl
  refine va_iast hX.1 hX.2.1 hX.2.2.2.2.2.1.1 hP hD hS q 0 (gx_wA hq) rfl (gin_in h1) hd (fun H1 locs1 hP1 hD1 hS1 => ?_)
  have e : (gx_w lay Ω.1 Ω.2.1 v).set q (Ω.1 q, .inl (Ω.2.1 0, N, .inl (upd (v.1 q) i.toNatClampNeg x))) = gx_w lay Ω.1 Ω.2.1 (sI v q i.toNatClampNeg x) := by
    rw [← gx_wS (v := v) (v' := sI v q i.toNatClampNeg x) hq (fun a ha => if_neg ha) (fun _ _ => rfl)]
    show _ = (gx_w lay Ω.1 Ω.2.1 v).set q (Ω.1 q, .inl (Ω.2.1 0, N, .inl ((sI v q i.toNatClampNeg x).1 q)))
    rw [show (sI v q i.toNatClampNeg x).1 q = upd (v.1 q) i.toNatClampNeg x from if_pos rfl]
  rw [e] at hP1 hD1
  exact k _ h2 H1 locs1 ls hP1 hD1 hS1 hl
theorem gi_last (hX : gx_X Γ Ω cc own nL ret) {q N : Nat} {i : Int32} {x : Int64} {ρ : Type} {E : gV → Option ρ} {res : ρ} (hq : lay[q]? = some (gk_l N)) (hd : decode cc pc = .ok (.lastore, 1)) (hn : pc + 1 = n) (h : (if gin i N = true then bd (sL v q i.toNatClampNeg x) E else none) = some res) (k : ∀ v1 : gV, E v1 = some res → gx_G Γ Ω lay Q nL v1 n lv st) : gx_G Γ Ω lay Q nL v pc lv (.long x :: .int i :: .ref (Ω.1 q) :: st) := by
  subst hn
  obtain ⟨h1, h2⟩ := if_some h
  intro H locs ls hP hD hS hl
  refine va_last hX.1 hX.2.1 hX.2.2.2.2.2.1.1 hP hD hS q 1 (gx_wA hq) rfl (gin_in h1) hd (fun H1 locs1 hP1 hD1 hS1 => ?_)
  have e : (gx_w lay Ω.1 Ω.2.1 v).set q (Ω.1 q, .inl (Ω.2.1 1, N, .inr (.inl (vp_updL (v.2 q) i.toNatClampNeg x)))) = gx_w lay Ω.1 Ω.2.1 (sL v q i.toNatClampNeg x) := by
    rw [← gx_wS (v := v) (v' := sL v q i.toNatClampNeg x) hq (fun _ _ => rfl) (fun a ha => if_neg ha)]
    show _ = (gx_w lay Ω.1 Ω.2.1 v).set q (Ω.1 q, .inl (Ω.2.1 1, N, .inr (.inl ((sL v q i.toNatClampNeg x).2 q))))
    rw [show (sL v q i.toNatClampNeg x).2 q = vp_updL (v.2 q) i.toNatClampNeg x from if_pos rfl]
  rw [e] at hP1 hD1
  exact k _ h2 H1 locs1 ls hP1 hD1 hS1 hl
theorem gi_ilen (hX : gx_X Γ Ω cc own nL ret) {q N : Nat} (hq : lay[q]? = some (gk_i N)) (hd : decode cc pc = .ok (.arraylength, 1)) (hn : pc + 1 = n) (k : gx_G Γ Ω lay Q nL v n lv (.int (nI N) :: st)) : gx_G Γ Ω lay Q nL v pc lv (.ref (Ω.1 q) :: st) := by
  subst hn
  exact fun H locs ls hP hD hS hl => va_alen hX.1 hX.2.1 hX.2.2.2.2.2.1.1 hP q 0 (gx_wA hq) rfl rfl hd (k H locs ls hP hD hS hl)
theorem gi_rlen (hX : gx_X Γ Ω cc own nL ret) {q t N : Nat} {Ls : List Nat} (hq : lay[q]? = some (gk_r t Ls)) (ht : Nat.blt t 6 = true) (hN : Ls.length = N) (hd : decode cc pc = .ok (.arraylength, 1)) (hn : pc + 1 = n) (k : gx_G Γ Ω lay Q nL v n lv (.int (nI N) :: st)) : gx_G Γ Ω lay Q nL v pc lv (.ref (Ω.1 q) :: st) := by
  subst hn
  subst hN
  have h6 : t < 6 := Nat.le_of_ble_eq_true ht
  have hty : ∃ y0, (gx_tys Ω.2.1)[t]? = some (Ω.2.1 t, y0) := by
    rcases (show t = 0 ∨ t = 1 ∨ t = 2 ∨ t = 3 ∨ t = 4 ∨ t = 5 by omega) with rfl | rfl | rfl | rfl | rfl | rfl <;> exact ⟨_, rfl⟩
  obtain ⟨y0, hy0⟩ := hty
  exact fun H locs ls hP hD hS hl => va_alen hX.1 hX.2.1 hX.2.2.2.2.2.1.1 hP q t (gx_wA hq) hy0 rfl hd (k H locs ls hP hD hS hl)
theorem gi_aald (hX : gx_X Γ Ω cc own nL ret) {q t : Nat} {Ls : List Nat} {i : Int32} {ρ : Type} {ok : Nat → Bool} {E : Nat → Option ρ} {res : ρ} (hq : lay[q]? = some (gk_r t Ls)) (ht : t = 2 ∨ t = 3 ∨ t = 4 ∨ t = 5) (hd : decode cc pc = .ok (.aaload, 1)) (hn : pc + 1 = n) (h : ga i Ls ok E = some res) (k : ∀ r : Nat, ok r = true → E r = some res → gx_G Γ Ω lay Q nL v n lv (.ref (Ω.1 r) :: st)) : gx_G Γ Ω lay Q nL v pc lv (.int i :: .ref (Ω.1 q) :: st) := by
  subst hn
  obtain ⟨h1, h2⟩ := if_some h
  obtain ⟨h3, h4⟩ := if_some h2
  have hin := gin_in h1
  have hlt : i.toNatClampNeg < Ls.length := Nat.not_le.mp fun q => hin (Or.inr q)
  have hty : ∃ y0, (gx_tys Ω.2.1)[t]? = some (Ω.2.1 t, y0) ∧ refKind y0 = true := by
    rcases ht with rfl | rfl | rfl | rfl <;> exact ⟨_, rfl, rfl⟩
  obtain ⟨y0, hy0, hy1⟩ := hty
  have hf : va_rf ((Ls[i.toNatClampNeg]?).map Ω.1) = .ref (Ω.1 (Ls.getD i.toNatClampNeg 0)) := by
    rw [List.getD_eq_getElem?_getD, List.getElem?_eq_getElem hlt]
    rfl
  intro H locs ls hP hD hS hl
  refine W.aald (v := .ref (Ω.1 (Ls.getD i.toNatClampNeg 0))) (ty := y0) hX.1 hX.2.1 (hP q _ (gx_wA hq)) ((hX.2.2.2.2.2.1.1.2 t _ hy0).1 Ls.length (fun j => va_rf ((Ls[j]?).map Ω.1))) hy1 (fun q => by cases q) (by show ¬ (i < 0 ∨ (arrV _ _ _).slots.size ≤ _); rw [arrV_size]; exact hin) (by show (arrV _ _ _).slots[_]? = _; rw [arrV_read _ _ hlt, hf]) rfl rfl hd (k _ h3 h4 H locs ls hP hD hS hl)
theorem gi_copy (hX : gx_X Γ Ω cc own nL ret) {d q0 q1 n0 n1 idx : Nat} {sp dp m0 : Int32} {ρ : Type} {E : gV → Option ρ} {res : ρ} (hq0 : lay[q0]? = some (gk_i n0)) (hq1 : lay[q1]? = some (gk_i n1)) (hw : Cond.methodLink own idx arraycopyName ∈ gU) (hw1 : Cond.native arraycopyName ∈ gU) (hw2 : Cond.static arraycopyName ∈ gU) (hw3 : Cond.initialized "java/lang/System" ∈ gU) (hR : Γ.2.2.2.1 = gx_R (d + 1)) (hst0 : Nat.ble (st.map fun v => v.category).sum 8 = true) (hd : decode cc pc = .ok (.invokestatic idx, 3)) (hn : pc + 3 = n) (h : (if gcp sp dp m0 n0 n1 = true then bd (sA v q1 (va_cpy (v.1 q0) (v.1 q1) sp.toNatClampNeg dp.toNatClampNeg m0.toNatClampNeg)) E else none) = some res) (k : ∀ v1 : gV, E v1 = some res → gx_G Γ Ω lay Q nL v1 n lv st) : gx_G Γ Ω lay Q nL v pc lv (.int m0 :: .int dp :: .ref (Ω.1 q1) :: .int sp :: .ref (Ω.1 q0) :: st) := by
  subst hn
  obtain ⟨h1, h2⟩ := if_some h
  obtain ⟨g1, g2, g3, g4, g5⟩ := of_decide_eq_true h1
  have nn : ∀ z : Int32, 0 ≤ z.toInt → ¬ z < 0 ∧ (z.toNatClampNeg : Int) = z.toInt := fun z hz => ⟨fun q => by rw [Int32.lt_iff_toInt_lt] at q; exact absurd q (Int.not_lt.mpr hz), by rw [Int32.toNatClampNeg]; omega⟩
  intro H locs ls hP hD hS hl
  have hst : (st.map fun v => v.category).sum ≤ 8 := Nat.le_of_ble_eq_true hst0
  have hfr : 1 ≤ Γ.2.2.2.1.frames := by
    rw [hR]
    exact Nat.succ_le_succ (Nat.zero_le _)
  have hlo : (st.map fun v => v.category).sum + (nativeFrameWords "java/lang/System" "arraycopy" 5 + 11) ≤ Γ.2.2.2.1.locals := by
    rw [hR]
    have e9 : nativeFrameWords "java/lang/System" "arraycopy" 5 ≤ 13 := by decide +kernel
    show _ + (_ + 11) ≤ 40 * (d + 1)
    omega
  refine va_copyi hX.1 hX.2.1 (hX.2.2.1.trans hl.1.symm) hX.2.2.2.1 (hX.2.2.2.2.1 _ hw) (hX.2.2.2.2.1 _ hw1) (hX.2.2.2.2.1 _ hw2) (hX.2.2.2.2.1 _ hw3) hX.2.2.2.2.2.1.1 hP hD hS q0 q1 0 0 (gx_wA hq0) (gx_wA hq1) rfl rfl rfl (nn sp g1).1 (nn dp g2).1 (nn m0 g3).1 (by have := (nn sp g1).2; have := (nn m0 g3).2; omega) (by have := (nn dp g2).2; have := (nn m0 g3).2; omega) (fun _ _ => rfl) hfr hlo hd (fun H1 locs1 hP1 hD1 hS1 => ?_)
  have e : (gx_w lay Ω.1 Ω.2.1 v).set q1 (Ω.1 q1, .inl (Ω.2.1 0, n1, .inl (va_cpy (v.1 q0) (v.1 q1) sp.toNatClampNeg dp.toNatClampNeg m0.toNatClampNeg))) = gx_w lay Ω.1 Ω.2.1 (sA v q1 (va_cpy (v.1 q0) (v.1 q1) sp.toNatClampNeg dp.toNatClampNeg m0.toNatClampNeg)) := by
    generalize va_cpy (v.1 q0) (v.1 q1) sp.toNatClampNeg dp.toNatClampNeg m0.toNatClampNeg = f
    rw [← gx_wS (v := v) (v' := sA v q1 f) hq1 (fun a ha => if_neg ha) (fun _ _ => rfl)]
    show _ = (gx_w lay Ω.1 Ω.2.1 v).set q1 (Ω.1 q1, .inl (Ω.2.1 0, n1, .inl ((sA v q1 f).1 q1)))
    rw [show (sA v q1 f).1 q1 = f from if_pos rfl]
  rw [e] at hP1 hD1
  exact k _ h2 H1 locs1 ls hP1 hD1 hS1 hl
theorem gi_iret (hX : gx_X Γ Ω cc own nL ret) {x r : Int32} {v' : gV} (hr : ret = some .int) (hd : decode cc pc = .ok (.ireturn, 1)) (h : some (x, v) = some (r, v')) : gx_G Γ Ω lay (gx_Q Γ Ω lay (some (.int r)) v') nL v pc lv [.int x] := by
  subst hr
  cases h
  intro H locs ls hP hD hS hl
  exact W.iret hX.1 hX.2.1 hX.2.2.2.2.2.2.1 (fun t ht hW => ⟨rfl, by rw [ht]; exact hP, hS.F ht⟩) hS.2.2 hd hX.2.2.2.2.2.2.2
theorem gi_lret (hX : gx_X Γ Ω cc own nL ret) {x r : Int64} {v' : gV} (hr : ret = some .long) (hd : decode cc pc = .ok (.lreturn, 1)) (h : some (x, v) = some (r, v')) : gx_G Γ Ω lay (gx_Q Γ Ω lay (some (.long r)) v') nL v pc lv [.long x] := by
  subst hr
  cases h
  intro H locs ls hP hD hS hl
  exact W.lret hX.1 hX.2.1 hX.2.2.2.2.2.2.1 (fun t ht hW => ⟨rfl, by rw [ht]; exact hP, hS.F ht⟩) hS.2.2 hd hX.2.2.2.2.2.2.2
def gbo (x : Int32) : Bool := decide (x = 0 ∨ x = 1)
theorem gi_zret (hX : gx_X Γ Ω cc own nL ret) {x r : Int32} {v' : gV} (hr : ret = some .boolean) (hd : decode cc pc = .ok (.ireturn, 1)) (h : (if gbo x = true then some (x, v) else none) = some (r, v')) : gx_G Γ Ω lay (gx_Q Γ Ω lay (some (.int r)) v') nL v pc lv [.int x] := by
  subst hr
  obtain ⟨h1, h2⟩ := if_some h
  cases h2
  have hn : narrow .boolean (.int x) = .int x := by
    rcases of_decide_eq_true h1 with rfl | rfl <;> rfl
  intro H locs ls hP hD hS hl
  exact W.zret hX.1 hX.2.1 hX.2.2.2.2.2.2.1 hn (fun t ht hW => ⟨rfl, by rw [ht]; exact hP, hS.F ht⟩) hS.2.2 hd hX.2.2.2.2.2.2.2
theorem gi_vret (hX : gx_X Γ Ω cc own nL ret) {v' : gV} (hr : ret = none) (hd : decode cc pc = .ok (.return_, 1)) (h : some v = some v') : gx_G Γ Ω lay (gx_Q Γ Ω lay none v') nL v pc lv [] := by
  subst hr
  cases h
  intro H locs ls hP hD hS hl
  exact W.vret hX.1 hX.2.1 hX.2.2.2.2.2.2.1 (fun t ht hW => ⟨rfl, by rw [ht]; exact hP, hS.F ht⟩) hS.2.2 hd hX.2.2.2.2.2.2.2
theorem gi_aret (hX : gx_X Γ Ω cc own nL ret) {r q : Nat} {v' : gV} {C : String} (hr : ret = some (.object C)) (hd : decode cc pc = .ok (.areturn, 1)) (h : some (q, v) = some (r, v')) : gx_G Γ Ω lay (gx_Q Γ Ω lay (some (.ref (Ω.1 r))) v') nL v pc lv [.ref (Ω.1 q)] := by
  subst hr
  cases h
  intro H locs ls hP hD hS hl
  exact W.aret hX.1 hX.2.1 hX.2.2.2.2.2.2.1 (Or.inl ⟨C, rfl⟩) (Or.inr ⟨_, rfl⟩) (fun t ht hW => ⟨rfl, by rw [ht]; exact hP, hS.F ht⟩) hS.2.2 hd hX.2.2.2.2.2.2.2
end GX
theorem gx_good : GoodIn gU gU := fun _ h => ⟨h, good_of_word (List.mem_filter.mp h).2⟩
theorem gx_goodC {y : MethodName} {cc : ByteArray} {maxL : Nat} {ret : Option FieldType} (h : Cond.code y cc maxL ret ∈ gU) : GoodIn gU (.code y cc maxL ret :: gU) := by
  intro w hw
  rcases List.mem_cons.mp hw with rfl | hw
  · exact gx_good _ h
  · exact gx_good _ hw
/-- what the tables say of a method: an instance's, a static one -/
def gx_mv (C : String) (y : MethodName) (cc : ByteArray) (maxL : Nat) (ret : Option FieldType) (k : Nat) : Prop := Cond.instanceMethod y ∈ gU ∧ Cond.selects C y y ∈ gU ∧ Cond.initialized C ∈ gU ∧ Cond.code y cc maxL ret ∈ gU ∧ (y.cls = C ∧ y.cls ≠ "java/lang/invoke/MethodHandle" ∧ y.cls ≠ "java/lang/invoke/VarHandle" ∧ (parseMethodDescriptor y.desc).map (fun d => d.parameters.length) = some k)
def gx_ms (y : MethodName) (cc : ByteArray) (maxL : Nat) (ret : Option FieldType) (k : Nat) : Prop := Cond.static y ∈ gU ∧ Cond.initialized y.cls ∈ gU ∧ Cond.code y cc maxL ret ∈ gU ∧ (y.cls ≠ "java/lang/invoke/MethodHandle" ∧ y.cls ≠ "java/lang/invoke/VarHandle" ∧ (parseMethodDescriptor y.desc).map (fun d => d.parameters.length) = some k)
theorem gx_mv_words {own C : String} {idx : Nat} {y : MethodName} {cc : ByteArray} {maxL k : Nat} {ret : Option FieldType} (h : gx_mv C y cc maxL ret k) (hl : Cond.methodLink own idx y ∈ gU) : GoodIn gU (wsV own idx C y (.code y cc maxL ret :: gU)) := by
  intro w hw
  rcases List.mem_append.mp hw with hw | hw
  · have hm : w ∈ gU := by
      simp only [List.mem_cons, List.not_mem_nil, or_false] at hw
      rcases hw with rfl | rfl | rfl | rfl
      · exact hl
      · exact h.1
      · exact h.2.1
      · exact h.2.2.1
    exact gx_good _ hm
  · exact gx_goodC h.2.2.2.1 _ hw
theorem gx_blind {Ω : gO} {lay : List gk} {av : List Value} {v : gV} : FrameBlind (gx_Pc Ω lay av v) := fun a U g mk h => ⟨h.1, h.2.1, h.2.2.1, h.2.2.2.calling g mk a⟩
section GXC
variable {Γ : gC} {Ω : gO} {lay : List gk} {Q : State → Prop} {nL : Nat} {v : gV} {pc n : Nat} {lv : List (Nat × Value)} {st : List Value} {cc : ByteArray} {own : String} {ret : Option FieldType}
/-- what a call's run is, whatever its kind -/
def gx_Run (Γ : gC) (Ω : gO) (lay : List gk) (v : gV) (pc : Nat) (ls : Array Slot) (st0 rest : List Value) (a : Array Value) (H : Heap) (locs : List Loc) (rv : Option Value) (v1 : gV) : Prop := va_Run Γ.1 Γ.2.1 Γ.2.2.1 Γ.2.2.2.1 Γ.2.2.2.2.1 Γ.2.2.2.2.2.1 Γ.2.2.2.2.2.2.1 Γ.2.2.2.2.2.2.2.1 Γ.2.2.2.2.2.2.2.2.1 Γ.2.2.2.2.2.2.2.2.2 H locs 0 0 0 0 (F0 Γ.2.2.2.2.2.1 pc ls st0) rest (gx_Qc Ω lay rv v1 a) Ω.2.2.2
theorem gx_after {rv : Option Value} {v1 : gV} {a : Array Value} {st0 rest : List Value} {H : Heap} {locs : List Loc} {ls : Array Slot} (hr : gx_Run Γ Ω lay v pc ls st0 rest a H locs rv v1) (hD : va_D Ω.2.2.2 (gx_w lay Ω.1 Ω.2.1 v)) (hS : va_S Ω.2.2.2 Γ.2.2.2.2.1.heap H locs) (hl : lv_has ls nL lv) (k : gx_G Γ Ω lay Q nL v1 (pc + 3) lv (rv.toList ++ rest)) : gx_W Γ H locs Q (F0 Γ.2.2.2.2.2.1 pc ls st0) := by
  intro T hT X
  obtain ⟨w, st₀, t, T', L, h0, X', hL, e1, e2, ⟨hv, hP1, hz, hk⟩, stp⟩ := hr T hT X
  cases hv
  rw [h0] at hz hk
  obtain ⟨t2, a1, b1⟩ := k T'.heap (locs ++ L) ls (by rw [e1]; exact hP1) (gx_D hD)
    ⟨Nat.le_trans hS.1 (by rw [e1]; exact hz), fun q h1 h2 => by rw [e1, hk q (Nat.lt_of_lt_of_le h1 hS.1) h2]; exact hS.2.1 q h1 h2, fun q hq => by
      rcases List.mem_append.mp hq with h | h
      · exact hS.2.2 q h
      · exact hL q h⟩ hl T' rfl X'
  exact ⟨t2, stp t2 a1, b1⟩
theorem gi_virt (hX : gx_X Γ Ω cc own nL ret) {C : String} {T : u_T} {N ci q idx d d' maxL k0 : Nat} {t0 : Nat → FieldType} {tm : List (Option Nat)} {y : MethodName} {cy : ByteArray} {rt : Option FieldType} {As : List Value} {rv : Option Value} {v1 : gV} (hR : Γ.2.2.2.1 = gx_R d) (hc : gx_c ci C T N t0) (hq : lay[q]? = some (gk_o ci tm)) (hm : gx_mv C y cy maxL rt k0) (hw : Cond.methodLink own idx y ∈ gU) (hM : gx_M Γ.2.1 Ω lay y cy maxL rt d' (.ref (Ω.1 q) :: As) v rv v1) (hk : As.length = k0) (hdd : Nat.ble (d' + 1) d = true ∧ Nat.ble maxL 21 = true) (hst : Nat.ble (st.map fun v => v.category).sum 8 = true) (hd : decode cc pc = .ok (.invokevirtual idx, 3)) (hn : pc + 3 = n) {st0 : List Value} (hst0 : st0 = As.reverse ++ .ref (Ω.1 q) :: st) (k : gx_G Γ Ω lay Q nL v1 n lv (rv.toList ++ st)) : gx_G Γ Ω lay Q nL v pc lv st0 := by
  subst hn
  subst hst0
  intro H locs ls hP hD hS hl
  have h1 : d' + 1 ≤ d := Nat.le_of_ble_eq_true hdd.1
  have h2 : maxL ≤ 21 := Nat.le_of_ble_eq_true hdd.2
  refine gx_after (rest := st) (a := (Value.ref (Ω.1 q) :: As).toArray) (va_runV (nL := nL) ⟨hX.1, hX.2.1, hX.2.2.1, hX.2.2.2.1, hX.2.2.2.2.1⟩ hM (cwV k0 hX.2.2.2.2.1 (gx_mv_words hm hw) rfl rfl rfl hm.2.2.2.2 ⟨by rw [hR]; exact h1, by rw [hR]; show 8 + (maxL + 11) + 40 * d' ≤ 40 * d; omega⟩) ⟨gx_blind, va_recv hX.2.2.2.2.2.1.1 hP hc.1 (gx_wA hq), fun U hU hW => ⟨rfl, by rw [hU]; exact hP, hD, hX.2.2.2.2.2.1.warm hW⟩⟩ rfl hk hl.1 rfl (lv_room (Nat.le_of_ble_eq_true hst)) hd ⟨by rw [hR]; exact Nat.le_refl 0, by rw [hR]; exact Nat.le_refl 0⟩) hD hS hl k
theorem gi_stat (hX : gx_X Γ Ω cc own nL ret) {idx d d' maxL k0 : Nat} {y : MethodName} {cy : ByteArray} {rt : Option FieldType} {As : List Value} {rv : Option Value} {v1 : gV} (hR : Γ.2.2.2.1 = gx_R d) (hm : gx_ms y cy maxL rt k0) (hw : Cond.methodLink own idx y ∈ gU) (hM : gx_M Γ.2.1 Ω lay y cy maxL rt d' As v rv v1) (hk : As.length = k0) (hdd : Nat.ble (d' + 1) d = true ∧ Nat.ble maxL 21 = true) (hst : Nat.ble (st.map fun v => v.category).sum 8 = true) (hd : decode cc pc = .ok (.invokestatic idx, 3)) (hn : pc + 3 = n) {st0 : List Value} (hst0 : st0 = As.reverse ++ st) (k : gx_G Γ Ω lay Q nL v1 n lv (rv.toList ++ st)) : gx_G Γ Ω lay Q nL v pc lv st0 := by
  subst hn
  subst hst0
  intro H locs ls hP hD hS hl
  have h1 : d' + 1 ≤ d := Nat.le_of_ble_eq_true hdd.1
  have h2 : maxL ≤ 21 := Nat.le_of_ble_eq_true hdd.2
  refine gx_after (rest := st) (a := As.toArray) (va_runS (nL := nL) ⟨hX.1, hX.2.1, hX.2.2.1, hX.2.2.2.1, hX.2.2.2.2.1⟩ hM ⟨callB_of k0 hX.2.2.2.2.1 (gx_goodC hm.2.2.1) rfl rfl rfl (hX.2.2.2.2.1 _ hm.2.1) (hX.2.2.2.2.1 _ hw) hm.2.2.2 ⟨by rw [hR]; exact h1, by rw [hR]; show 8 + (maxL + 11) + 40 * d' ≤ 40 * d; omega⟩, hX.2.2.2.2.1 _ hm.1⟩ ⟨gx_blind, fun U hU hW => ⟨rfl, by rw [hU]; exact hP, hD, hX.2.2.2.2.2.1.warm hW⟩⟩ rfl hk hl.1 rfl (lv_room (Nat.le_of_ble_eq_true hst)) hd ⟨by rw [hR]; exact Nat.le_refl 0, by rw [hR]; exact Nat.le_refl 0⟩) hD hS hl k
theorem gi_statN (hX : gx_X Γ Ω cc own nL ret) {idx d d' maxL k0 : Nat} {host : String} {y : MethodName} {cy : ByteArray} {rt : Option FieldType} {As : List Value} {rv : Option Value} {v1 : gV} (hR : Γ.2.2.2.1 = gx_R d) (hm : gx_ms y cy maxL rt k0) (hw : va_Nw (.methodLinkNest own idx y host) Γ.2.2.2.2.1) (hM : gx_M Γ.2.1 Ω lay y cy maxL rt d' As v rv v1) (hk : As.length = k0) (hdd : Nat.ble (d' + 1) d = true ∧ Nat.ble maxL 21 = true) (hst : Nat.ble (st.map fun v => v.category).sum 8 = true) (hd : decode cc pc = .ok (.invokestatic idx, 3)) (hn : pc + 3 = n) {st0 : List Value} (hst0 : st0 = As.reverse ++ st) (k : gx_G Γ Ω lay Q nL v1 n lv (rv.toList ++ st)) : gx_G Γ Ω lay Q nL v pc lv st0 := by
  subst hn
  subst hst0
  intro H locs ls hP hD hS hl
  have h1 : d' + 1 ≤ d := Nat.le_of_ble_eq_true hdd.1
  have h2 : maxL ≤ 21 := Nat.le_of_ble_eq_true hdd.2
  refine gx_after (rest := st) (a := As.toArray) (va_runSN (nL := nL) ⟨hX.1, hX.2.1, hX.2.2.1, hX.2.2.2.1, hX.2.2.2.2.1⟩ hM ⟨va_cnB k0 hX.2.2.2.2.1 (gx_goodC hm.2.2.1) rfl rfl rfl hw (hX.2.2.2.2.1 _ hm.2.1) hm.2.2.2 ⟨by rw [hR]; exact h1, by rw [hR]; show 8 + (maxL + 11) + 40 * d' ≤ 40 * d; omega⟩, hX.2.2.2.2.1 _ hm.1, trivial⟩ ⟨gx_blind, fun U hU hW => ⟨rfl, by rw [hU]; exact hP, hD, hX.2.2.2.2.2.1.warm hW⟩⟩ rfl hk hl.1 rfl (lv_room (Nat.le_of_ble_eq_true hst)) hd ⟨by rw [hR]; exact Nat.le_refl 0, by rw [hR]; exact Nat.le_refl 0⟩) hD hS hl k
theorem bi_some {ρ : Type} {o : Option (Int32 × gV)} {k : Int32 → gV → Option ρ} {r : ρ} (h : bi o k = some r) : ∃ x v, o = some (x, v) ∧ k x v = some r := by
  cases o with
  | none => cases h
  | some a => exact ⟨a.1, a.2, rfl, h⟩
theorem bj_some {ρ : Type} {o : Option (Int64 × gV)} {k : Int64 → gV → Option ρ} {r : ρ} (h : bj o k = some r) : ∃ x v, o = some (x, v) ∧ k x v = some r := by
  cases o with
  | none => cases h
  | some a => exact ⟨a.1, a.2, rfl, h⟩
theorem br_some {ρ : Type} {o : Option (Nat × gV)} {ok : Nat → Bool} {k : Nat → gV → Option ρ} {r : ρ} (h : br o ok k = some r) : ∃ x v, o = some (x, v) ∧ ok x = true ∧ k x v = some r := by
  cases o with
  | none => cases h
  | some a => exact ⟨a.1, a.2, rfl, (if_some h).1, (if_some h).2⟩
theorem bv_some {ρ : Type} {o : Option gV} {k : gV → Option ρ} {r : ρ} (h : bv o k = some r) : ∃ v, o = some v ∧ k v = some r := by
  cases o with
  | none => cases h
  | some a => exact ⟨a, rfl, h⟩
end GXC
