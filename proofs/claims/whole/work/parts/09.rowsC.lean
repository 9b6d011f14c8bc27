def bx1 {A0 ρ : Type} (o : Option (A0)) (k : A0 → Option ρ) : Option ρ := match o with
  | none => none
  | some a0 => k a0
theorem bx1_some {A0 ρ : Type} {o : Option (A0)} {k : A0 → Option ρ} {r : ρ} (h : bx1 o k = some r) : ∃ a0, o = some a0 ∧ k a0 = some r := by
  cases o with
  | none => cases h
  | some z => exact ⟨z, rfl, h⟩
def bs1 {A0 B ρ : Type} (o : Option ((A0) ⊕ B)) (k : A0 → Option ρ) (f : B → Option ρ) : Option ρ := match o with
  | none => none
  | some (.inl a0) => k a0
  | some (.inr b) => f b
theorem bs1_some {A0 B ρ : Type} {o : Option ((A0) ⊕ B)} {k : A0 → Option ρ} {f : B → Option ρ} {r : ρ} (h : bs1 o k f = some r) : (∃ a0, o = some (.inl a0) ∧ k a0 = some r) ∨ ∃ b, o = some (.inr b) ∧ f b = some r := by
  cases o with
  | none => cases h
  | some z =>
    cases z with
    | inl z => exact Or.inl ⟨z, rfl, h⟩
    | inr b => exact Or.inr ⟨b, rfl, h⟩
def bx2 {A0 A1 ρ : Type} (o : Option (A0 × A1)) (k : A0 → A1 → Option ρ) : Option ρ := match o with
  | none => none
  | some (a0, a1) => k a0 a1
theorem bx2_some {A0 A1 ρ : Type} {o : Option (A0 × A1)} {k : A0 → A1 → Option ρ} {r : ρ} (h : bx2 o k = some r) : ∃ a0 a1, o = some (a0, a1) ∧ k a0 a1 = some r := by
  cases o with
  | none => cases h
  | some z => exact ⟨z.1, z.2, rfl, h⟩
def bs2 {A0 A1 B ρ : Type} (o : Option ((A0 × A1) ⊕ B)) (k : A0 → A1 → Option ρ) (f : B → Option ρ) : Option ρ := match o with
  | none => none
  | some (.inl (a0, a1)) => k a0 a1
  | some (.inr b) => f b
theorem bs2_some {A0 A1 B ρ : Type} {o : Option ((A0 × A1) ⊕ B)} {k : A0 → A1 → Option ρ} {f : B → Option ρ} {r : ρ} (h : bs2 o k f = some r) : (∃ a0 a1, o = some (.inl (a0, a1)) ∧ k a0 a1 = some r) ∨ ∃ b, o = some (.inr b) ∧ f b = some r := by
  cases o with
  | none => cases h
  | some z =>
    cases z with
    | inl z => exact Or.inl ⟨z.1, z.2, rfl, h⟩
    | inr b => exact Or.inr ⟨b, rfl, h⟩
def bx3 {A0 A1 A2 ρ : Type} (o : Option (A0 × A1 × A2)) (k : A0 → A1 → A2 → Option ρ) : Option ρ := match o with
  | none => none
  | some (a0, a1, a2) => k a0 a1 a2
theorem bx3_some {A0 A1 A2 ρ : Type} {o : Option (A0 × A1 × A2)} {k : A0 → A1 → A2 → Option ρ} {r : ρ} (h : bx3 o k = some r) : ∃ a0 a1 a2, o = some (a0, a1, a2) ∧ k a0 a1 a2 = some r := by
  cases o with
  | none => cases h
  | some z => exact ⟨z.1, z.2.1, z.2.2, rfl, h⟩
def bs3 {A0 A1 A2 B ρ : Type} (o : Option ((A0 × A1 × A2) ⊕ B)) (k : A0 → A1 → A2 → Option ρ) (f : B → Option ρ) : Option ρ := match o with
  | none => none
  | some (.inl (a0, a1, a2)) => k a0 a1 a2
  | some (.inr b) => f b
theorem bs3_some {A0 A1 A2 B ρ : Type} {o : Option ((A0 × A1 × A2) ⊕ B)} {k : A0 → A1 → A2 → Option ρ} {f : B → Option ρ} {r : ρ} (h : bs3 o k f = some r) : (∃ a0 a1 a2, o = some (.inl (a0, a1, a2)) ∧ k a0 a1 a2 = some r) ∨ ∃ b, o = some (.inr b) ∧ f b = some r := by
  cases o with
  | none => cases h
  | some z =>
    cases z with
    | inl z => exact Or.inl ⟨z.1, z.2.1, z.2.2, rfl, h⟩
    | inr b => exact Or.inr ⟨b, rfl, h⟩
def bx4 {A0 A1 A2 A3 ρ : Type} (o : Option (A0 × A1 × A2 × A3)) (k : A0 → A1 → A2 → A3 → Option ρ) : Option ρ := match o with
  | none => none
  | some (a0, a1, a2, a3) => k a0 a1 a2 a3
theorem bx4_some {A0 A1 A2 A3 ρ : Type} {o : Option (A0 × A1 × A2 × A3)} {k : A0 → A1 → A2 → A3 → Option ρ} {r : ρ} (h : bx4 o k = some r) : ∃ a0 a1 a2 a3, o = some (a0, a1, a2, a3) ∧ k a0 a1 a2 a3 = some r := by
  cases o with
  | none => cases h
  | some z => exact ⟨z.1, z.2.1, z.2.2.1, z.2.2.2, rfl, h⟩
def bs4 {A0 A1 A2 A3 B ρ : Type} (o : Option ((A0 × A1 × A2 × A3) ⊕ B)) (k : A0 → A1 → A2 → A3 → Option ρ) (f : B → Option ρ) : Option ρ := match o with
  | none => none
  | some (.inl (a0, a1, a2, a3)) => k a0 a1 a2 a3
  | some (.inr b) => f b
theorem bs4_some {A0 A1 A2 A3 B ρ : Type} {o : Option ((A0 × A1 × A2 × A3) ⊕ B)} {k : A0 → A1 → A2 → A3 → Option ρ} {f : B → Option ρ} {r : ρ} (h : bs4 o k f = some r) : (∃ a0 a1 a2 a3, o = some (.inl (a0, a1, a2, a3)) ∧ k a0 a1 a2 a3 = some r) ∨ ∃ b, o = some (.inr b) ∧ f b = some r := by
  cases o with
  | none => cases h
  | some z =>
    cases z with
    | inl z => exact Or.inl ⟨z.1, z.2.1, z.2.2.1, z.2.2.2, rfl, h⟩
    | inr b => exact Or.inr ⟨b, rfl, h⟩
def bx5 {A0 A1 A2 A3 A4 ρ : Type} (o : Option (A0 × A1 × A2 × A3 × A4)) (k : A0 → A1 → A2 → A3 → A4 → Option ρ) : Option ρ := match o with
  | none => none
  | some (a0, a1, a2, a3, a4) => k a0 a1 a2 a3 a4
theorem bx5_some {A0 A1 A2 A3 A4 ρ : Type} {o : Option (A0 × A1 × A2 × A3 × A4)} {k : A0 → A1 → A2 → A3 → A4 → Option ρ} {r : ρ} (h : bx5 o k = some r) : ∃ a0 a1 a2 a3 a4, o = some (a0, a1, a2, a3, a4) ∧ k a0 a1 a2 a3 a4 = some r := by
  cases o with
  | none => cases h
  | some z => exact ⟨z.1, z.2.1, z.2.2.1, z.2.2.2.1, z.2.2.2.2, rfl, h⟩
def bs5 {A0 A1 A2 A3 A4 B ρ : Type} (o : Option ((A0 × A1 × A2 × A3 × A4) ⊕ B)) (k : A0 → A1 → A2 → A3 → A4 → Option ρ) (f : B → Option ρ) : Option ρ := match o with
  | none => none
  | some (.inl (a0, a1, a2, a3, a4)) => k a0 a1 a2 a3 a4
  | some (.inr b) => f b
theorem bs5_some {A0 A1 A2 A3 A4 B ρ : Type} {o : Option ((A0 × A1 × A2 × A3 × A4) ⊕ B)} {k : A0 → A1 → A2 → A3 → A4 → Option ρ} {f : B → Option ρ} {r : ρ} (h : bs5 o k f = some r) : (∃ a0 a1 a2 a3 a4, o = some (.inl (a0, a1, a2, a3, a4)) ∧ k a0 a1 a2 a3 a4 = some r) ∨ ∃ b, o = some (.inr b) ∧ f b = some r := by
  cases o with
  | none => cases h
  | some z =>
    cases z with
    | inl z => exact Or.inl ⟨z.1, z.2.1, z.2.2.1, z.2.2.2.1, z.2.2.2.2, rfl, h⟩
    | inr b => exact Or.inr ⟨b, rfl, h⟩
def bx6 {A0 A1 A2 A3 A4 A5 ρ : Type} (o : Option (A0 × A1 × A2 × A3 × A4 × A5)) (k : A0 → A1 → A2 → A3 → A4 → A5 → Option ρ) : Option ρ := match o with
  | none => none
  | some (a0, a1, a2, a3, a4, a5) => k a0 a1 a2 a3 a4 a5
theorem bx6_some {A0 A1 A2 A3 A4 A5 ρ : Type} {o : Option (A0 × A1 × A2 × A3 × A4 × A5)} {k : A0 → A1 → A2 → A3 → A4 → A5 → Option ρ} {r : ρ} (h : bx6 o k = some r) : ∃ a0 a1 a2 a3 a4 a5, o = some (a0, a1, a2, a3, a4, a5) ∧ k a0 a1 a2 a3 a4 a5 = some r := by
  cases o with
  | none => cases h
  | some z => exact ⟨z.1, z.2.1, z.2.2.1, z.2.2.2.1, z.2.2.2.2.1, z.2.2.2.2.2, rfl, h⟩
def bs6 {A0 A1 A2 A3 A4 A5 B ρ : Type} (o : Option ((A0 × A1 × A2 × A3 × A4 × A5) ⊕ B)) (k : A0 → A1 → A2 → A3 → A4 → A5 → Option ρ) (f : B → Option ρ) : Option ρ := match o with
  | none => none
  | some (.inl (a0, a1, a2, a3, a4, a5)) => k a0 a1 a2 a3 a4 a5
  | some (.inr b) => f b
theorem bs6_some {A0 A1 A2 A3 A4 A5 B ρ : Type} {o : Option ((A0 × A1 × A2 × A3 × A4 × A5) ⊕ B)} {k : A0 → A1 → A2 → A3 → A4 → A5 → Option ρ} {f : B → Option ρ} {r : ρ} (h : bs6 o k f = some r) : (∃ a0 a1 a2 a3 a4 a5, o = some (.inl (a0, a1, a2, a3, a4, a5)) ∧ k a0 a1 a2 a3 a4 a5 = some r) ∨ ∃ b, o = some (.inr b) ∧ f b = some r := by
  cases o with
  | none => cases h
  | some z =>
    cases z with
    | inl z => exact Or.inl ⟨z.1, z.2.1, z.2.2.1, z.2.2.2.1, z.2.2.2.2.1, z.2.2.2.2.2, rfl, h⟩
    | inr b => exact Or.inr ⟨b, rfl, h⟩
def bx7 {A0 A1 A2 A3 A4 A5 A6 ρ : Type} (o : Option (A0 × A1 × A2 × A3 × A4 × A5 × A6)) (k : A0 → A1 → A2 → A3 → A4 → A5 → A6 → Option ρ) : Option ρ := match o with
  | none => none
  | some (a0, a1, a2, a3, a4, a5, a6) => k a0 a1 a2 a3 a4 a5 a6
theorem bx7_some {A0 A1 A2 A3 A4 A5 A6 ρ : Type} {o : Option (A0 × A1 × A2 × A3 × A4 × A5 × A6)} {k : A0 → A1 → A2 → A3 → A4 → A5 → A6 → Option ρ} {r : ρ} (h : bx7 o k = some r) : ∃ a0 a1 a2 a3 a4 a5 a6, o = some (a0, a1, a2, a3, a4, a5, a6) ∧ k a0 a1 a2 a3 a4 a5 a6 = some r := by
  cases o with
  | none => cases h
  | some z => exact ⟨z.1, z.2.1, z.2.2.1, z.2.2.2.1, z.2.2.2.2.1, z.2.2.2.2.2.1, z.2.2.2.2.2.2, rfl, h⟩
def bs7 {A0 A1 A2 A3 A4 A5 A6 B ρ : Type} (o : Option ((A0 × A1 × A2 × A3 × A4 × A5 × A6) ⊕ B)) (k : A0 → A1 → A2 → A3 → A4 → A5 → A6 → Option ρ) (f : B → Option ρ) : Option ρ := match o with
  | none => none
  | some (.inl (a0, a1, a2, a3, a4, a5, a6)) => k a0 a1 a2 a3 a4 a5 a6
  | some (.inr b) => f b
theorem bs7_some {A0 A1 A2 A3 A4 A5 A6 B ρ : Type} {o : Option ((A0 × A1 × A2 × A3 × A4 × A5 × A6) ⊕ B)} {k : A0 → A1 → A2 → A3 → A4 → A5 → A6 → Option ρ} {f : B → Option ρ} {r : ρ} (h : bs7 o k f = some r) : (∃ a0 a1 a2 a3 a4 a5 a6, o = some (.inl (a0, a1, a2, a3, a4, a5, a6)) ∧ k a0 a1 a2 a3 a4 a5 a6 = some r) ∨ ∃ b, o = some (.inr b) ∧ f b = some r := by
  cases o with
  | none => cases h
  | some z =>
    cases z with
    | inl z => exact Or.inl ⟨z.1, z.2.1, z.2.2.1, z.2.2.2.1, z.2.2.2.2.1, z.2.2.2.2.2.1, z.2.2.2.2.2.2, rfl, h⟩
    | inr b => exact Or.inr ⟨b, rfl, h⟩
def bx8 {A0 A1 A2 A3 A4 A5 A6 A7 ρ : Type} (o : Option (A0 × A1 × A2 × A3 × A4 × A5 × A6 × A7)) (k : A0 → A1 → A2 → A3 → A4 → A5 → A6 → A7 → Option ρ) : Option ρ := match o with
  | none => none
  | some (a0, a1, a2, a3, a4, a5, a6, a7) => k a0 a1 a2 a3 a4 a5 a6 a7
theorem bx8_some {A0 A1 A2 A3 A4 A5 A6 A7 ρ : Type} {o : Option (A0 × A1 × A2 × A3 × A4 × A5 × A6 × A7)} {k : A0 → A1 → A2 → A3 → A4 → A5 → A6 → A7 → Option ρ} {r : ρ} (h : bx8 o k = some r) : ∃ a0 a1 a2 a3 a4 a5 a6 a7, o = some (a0, a1, a2, a3, a4, a5, a6, a7) ∧ k a0 a1 a2 a3 a4 a5 a6 a7 = some r := by
  cases o with
  | none => cases h
  | some z => exact ⟨z.1, z.2.1, z.2.2.1, z.2.2.2.1, z.2.2.2.2.1, z.2.2.2.2.2.1, z.2.2.2.2.2.2.1, z.2.2.2.2.2.2.2, rfl, h⟩
def bs8 {A0 A1 A2 A3 A4 A5 A6 A7 B ρ : Type} (o : Option ((A0 × A1 × A2 × A3 × A4 × A5 × A6 × A7) ⊕ B)) (k : A0 → A1 → A2 → A3 → A4 → A5 → A6 → A7 → Option ρ) (f : B → Option ρ) : Option ρ := match o with
  | none => none
  | some (.inl (a0, a1, a2, a3, a4, a5, a6, a7)) => k a0 a1 a2 a3 a4 a5 a6 a7
  | some (.inr b) => f b
theorem bs8_some {A0 A1 A2 A3 A4 A5 A6 A7 B ρ : Type} {o : Option ((A0 × A1 × A2 × A3 × A4 × A5 × A6 × A7) ⊕ B)} {k : A0 → A1 → A2 → A3 → A4 → A5 → A6 → A7 → Option ρ} {f : B → Option ρ} {r : ρ} (h : bs8 o k f = some r) : (∃ a0 a1 a2 a3 a4 a5 a6 a7, o = some (.inl (a0, a1, a2, a3, a4, a5, a6, a7)) ∧ k a0 a1 a2 a3 a4 a5 a6 a7 = some r) ∨ ∃ b, o = some (.inr b) ∧ f b = some r := by
  cases o with
  | none => cases h
  | some z =>
    cases z with
    | inl z => exact Or.inl ⟨z.1, z.2.1, z.2.2.1, z.2.2.2.1, z.2.2.2.2.1, z.2.2.2.2.2.1, z.2.2.2.2.2.2.1, z.2.2.2.2.2.2.2, rfl, h⟩
    | inr b => exact Or.inr ⟨b, rfl, h⟩
def bx9 {A0 A1 A2 A3 A4 A5 A6 A7 A8 ρ : Type} (o : Option (A0 × A1 × A2 × A3 × A4 × A5 × A6 × A7 × A8)) (k : A0 → A1 → A2 → A3 → A4 → A5 → A6 → A7 → A8 → Option ρ) : Option ρ := match o with
  | none => none
  | some (a0, a1, a2, a3, a4, a5, a6, a7, a8) => k a0 a1 a2 a3 a4 a5 a6 a7 a8
theorem bx9_some {A0 A1 A2 A3 A4 A5 A6 A7 A8 ρ : Type} {o : Option (A0 × A1 × A2 × A3 × A4 × A5 × A6 × A7 × A8)} {k : A0 → A1 → A2 → A3 → A4 → A5 → A6 → A7 → A8 → Option ρ} {r : ρ} (h : bx9 o k = some r) : ∃ a0 a1 a2 a3 a4 a5 a6 a7 a8, o = some (a0, a1, a2, a3, a4, a5, a6, a7, a8) ∧ k a0 a1 a2 a3 a4 a5 a6 a7 a8 = some r := by
  cases o with
  | none => cases h
  | some z => exact ⟨z.1, z.2.1, z.2.2.1, z.2.2.2.1, z.2.2.2.2.1, z.2.2.2.2.2.1, z.2.2.2.2.2.2.1, z.2.2.2.2.2.2.2.1, z.2.2.2.2.2.2.2.2, rfl, h⟩
def bs9 {A0 A1 A2 A3 A4 A5 A6 A7 A8 B ρ : Type} (o : Option ((A0 × A1 × A2 × A3 × A4 × A5 × A6 × A7 × A8) ⊕ B)) (k : A0 → A1 → A2 → A3 → A4 → A5 → A6 → A7 → A8 → Option ρ) (f : B → Option ρ) : Option ρ := match o with
  | none => none
  | some (.inl (a0, a1, a2, a3, a4, a5, a6, a7, a8)) => k a0 a1 a2 a3 a4 a5 a6 a7 a8
  | some (.inr b) => f b
theorem bs9_some {A0 A1 A2 A3 A4 A5 A6 A7 A8 B ρ : Type} {o : Option ((A0 × A1 × A2 × A3 × A4 × A5 × A6 × A7 × A8) ⊕ B)} {k : A0 → A1 → A2 → A3 → A4 → A5 → A6 → A7 → A8 → Option ρ} {f : B → Option ρ} {r : ρ} (h : bs9 o k f = some r) : (∃ a0 a1 a2 a3 a4 a5 a6 a7 a8, o = some (.inl (a0, a1, a2, a3, a4, a5, a6, a7, a8)) ∧ k a0 a1 a2 a3 a4 a5 a6 a7 a8 = some r) ∨ ∃ b, o = some (.inr b) ∧ f b = some r := by
  cases o with
  | none => cases h
  | some z =>
    cases z with
    | inl z => exact Or.inl ⟨z.1, z.2.1, z.2.2.1, z.2.2.2.1, z.2.2.2.2.1, z.2.2.2.2.2.1, z.2.2.2.2.2.2.1, z.2.2.2.2.2.2.2.1, z.2.2.2.2.2.2.2.2, rfl, h⟩
    | inr b => exact Or.inr ⟨b, rfl, h⟩
theorem if_split {ρ : Type} {c : Prop} {hdec : Decidable c} {E1 E2 : Option ρ} {r : ρ} (h : @ite (Option ρ) c hdec E1 E2 = some r) : (c ∧ E1 = some r) ∨ (¬ c ∧ E2 = some r) := by
  by_cases hc : c
  · rw [if_pos hc] at h
    exact Or.inl ⟨hc, h⟩
  · rw [if_neg hc] at h
    exact Or.inr ⟨hc, h⟩
theorem ifn_some {ρ : Type} {c : Prop} {hdec : Decidable c} {E : Option ρ} {r : ρ} (h : @ite (Option ρ) c hdec none E = some r) : ¬ c ∧ E = some r := by
  rcases if_split h with ⟨_, h⟩ | h
  · cases h
  · exact h
section GXD
variable {Γ : gC} {Ω : gO} {lay : List gk} {Q : State → Prop} {nL : Nat} {v : gV} {pc n : Nat} {lv : List (Nat × Value)} {st : List Value} {cc : ByteArray} {own : String} {ret : Option FieldType}
theorem gi_topI {x : Int32} {ρ : Type} {E : Int32 → Option ρ} {res : ρ} (h : bd x E = some res) (k : ∀ y : Int32, E y = some res → gx_G Γ Ω lay Q nL v pc lv (.int y :: st)) : gx_G Γ Ω lay Q nL v pc lv (.int x :: st) := k x h
theorem gi_topJ {x : Int64} {ρ : Type} {E : Int64 → Option ρ} {res : ρ} (h : bd x E = some res) (k : ∀ y : Int64, E y = some res → gx_G Γ Ω lay Q nL v pc lv (.long y :: st)) : gx_G Γ Ω lay Q nL v pc lv (.long x :: st) := k x h
theorem gi_virtI {C : String} {T : u_T} {N ci q idx d d' maxL k0 : Nat} {t0 : Nat → FieldType} {tm : List (Option Nat)} {y : MethodName} {cy : ByteArray} {rt : Option FieldType} {As : List Value} {r : Int32} {v1 : gV} {st0 : List Value} (hX : gx_X Γ Ω cc own nL ret) (hR : Γ.2.2.2.1 = gx_R d) (hc : gx_c ci C T N t0) (hq : lay[q]? = some (gk_o ci tm)) (hm : gx_mv C y cy maxL rt k0) (hw : Cond.methodLink own idx y ∈ gU) (hM : gx_M Γ.2.1 Ω lay y cy maxL rt d' (.ref (Ω.1 q) :: As) v (some (.int r)) v1) (hk : As.length = k0) (hdd : Nat.ble (d' + 1) d = true ∧ Nat.ble maxL 21 = true) (hst : Nat.ble (st.map fun v => v.category).sum 8 = true) (hd : decode cc pc = .ok (.invokevirtual idx, 3)) (hn : pc + 3 = n) (hst0 : st0 = As.reverse ++ .ref (Ω.1 q) :: st) (k : gx_G Γ Ω lay Q nL v1 n lv (.int r :: st)) : gx_G Γ Ω lay Q nL v pc lv st0 := gi_virt hX hR hc hq hm hw hM hk hdd hst hd hn hst0 k
theorem gi_statI {idx d d' maxL k0 : Nat} {y : MethodName} {cy : ByteArray} {rt : Option FieldType} {As : List Value} {r : Int32} {v1 : gV} {st0 : List Value} (hX : gx_X Γ Ω cc own nL ret) (hR : Γ.2.2.2.1 = gx_R d) (hm : gx_ms y cy maxL rt k0) (hw : Cond.methodLink own idx y ∈ gU) (hM : gx_M Γ.2.1 Ω lay y cy maxL rt d' As v (some (.int r)) v1) (hk : As.length = k0) (hdd : Nat.ble (d' + 1) d = true ∧ Nat.ble maxL 21 = true) (hst : Nat.ble (st.map fun v => v.category).sum 8 = true) (hd : decode cc pc = .ok (.invokestatic idx, 3)) (hn : pc + 3 = n) (hst0 : st0 = As.reverse ++ st) (k : gx_G Γ Ω lay Q nL v1 n lv (.int r :: st)) : gx_G Γ Ω lay Q nL v pc lv st0 := gi_stat hX hR hm hw hM hk hdd hst hd hn hst0 k
theorem gi_statNI {idx d d' maxL k0 : Nat} {host : String} {y : MethodName} {cy : ByteArray} {rt : Option FieldType} {As : List Value} {r : Int32} {v1 : gV} {st0 : List Value} (hX : gx_X Γ Ω cc own nL ret) (hR : Γ.2.2.2.1 = gx_R d) (hm : gx_ms y cy maxL rt k0) (hw : va_Nw (.methodLinkNest own idx y host) Γ.2.2.2.2.1) (hM : gx_M Γ.2.1 Ω lay y cy maxL rt d' As v (some (.int r)) v1) (hk : As.length = k0) (hdd : Nat.ble (d' + 1) d = true ∧ Nat.ble maxL 21 = true) (hst : Nat.ble (st.map fun v => v.category).sum 8 = true) (hd : decode cc pc = .ok (.invokestatic idx, 3)) (hn : pc + 3 = n) (hst0 : st0 = As.reverse ++ st) (k : gx_G Γ Ω lay Q nL v1 n lv (.int r :: st)) : gx_G Γ Ω lay Q nL v pc lv st0 := gi_statN hX hR hm hw hM hk hdd hst hd hn hst0 k
theorem gi_virtJ {C : String} {T : u_T} {N ci q idx d d' maxL k0 : Nat} {t0 : Nat → FieldType} {tm : List (Option Nat)} {y : MethodName} {cy : ByteArray} {rt : Option FieldType} {As : List Value} {r : Int64} {v1 : gV} {st0 : List Value} (hX : gx_X Γ Ω cc own nL ret) (hR : Γ.2.2.2.1 = gx_R d) (hc : gx_c ci C T N t0) (hq : lay[q]? = some (gk_o ci tm)) (hm : gx_mv C y cy maxL rt k0) (hw : Cond.methodLink own idx y ∈ gU) (hM : gx_M Γ.2.1 Ω lay y cy maxL rt d' (.ref (Ω.1 q) :: As) v (some (.long r)) v1) (hk : As.length = k0) (hdd : Nat.ble (d' + 1) d = true ∧ Nat.ble maxL 21 = true) (hst : Nat.ble (st.map fun v => v.category).sum 8 = true) (hd : decode cc pc = .ok (.invokevirtual idx, 3)) (hn : pc + 3 = n) (hst0 : st0 = As.reverse ++ .ref (Ω.1 q) :: st) (k : gx_G Γ Ω lay Q nL v1 n lv (.long r :: st)) : gx_G Γ Ω lay Q nL v pc lv st0 := gi_virt hX hR hc hq hm hw hM hk hdd hst hd hn hst0 k
theorem gi_statJ {idx d d' maxL k0 : Nat} {y : MethodName} {cy : ByteArray} {rt : Option FieldType} {As : List Value} {r : Int64} {v1 : gV} {st0 : List Value} (hX : gx_X Γ Ω cc own nL ret) (hR : Γ.2.2.2.1 = gx_R d) (hm : gx_ms y cy maxL rt k0) (hw : Cond.methodLink own idx y ∈ gU) (hM : gx_M Γ.2.1 Ω lay y cy maxL rt d' As v (some (.long r)) v1) (hk : As.length = k0) (hdd : Nat.ble (d' + 1) d = true ∧ Nat.ble maxL 21 = true) (hst : Nat.ble (st.map fun v => v.category).sum 8 = true) (hd : decode cc pc = .ok (.invokestatic idx, 3)) (hn : pc + 3 = n) (hst0 : st0 = As.reverse ++ st) (k : gx_G Γ Ω lay Q nL v1 n lv (.long r :: st)) : gx_G Γ Ω lay Q nL v pc lv st0 := gi_stat hX hR hm hw hM hk hdd hst hd hn hst0 k
theorem gi_statNJ {idx d d' maxL k0 : Nat} {host : String} {y : MethodName} {cy : ByteArray} {rt : Option FieldType} {As : List Value} {r : Int64} {v1 : gV} {st0 : List Value} (hX : gx_X Γ Ω cc own nL ret) (hR : Γ.2.2.2.1 = gx_R d) (hm : gx_ms y cy maxL rt k0) (hw : va_Nw (.methodLinkNest own idx y host) Γ.2.2.2.2.1) (hM : gx_M Γ.2.1 Ω lay y cy maxL rt d' As v (some (.long r)) v1) (hk : As.length = k0) (hdd : Nat.ble (d' + 1) d = true ∧ Nat.ble maxL 21 = true) (hst : Nat.ble (st.map fun v => v.category).sum 8 = true) (hd : decode cc pc = .ok (.invokestatic idx, 3)) (hn : pc + 3 = n) (hst0 : st0 = As.reverse ++ st) (k : gx_G Γ Ω lay Q nL v1 n lv (.long r :: st)) : gx_G Γ Ω lay Q nL v pc lv st0 := gi_statN hX hR hm hw hM hk hdd hst hd hn hst0 k
theorem gi_virtR {C : String} {T : u_T} {N ci q idx d d' maxL k0 : Nat} {t0 : Nat → FieldType} {tm : List (Option Nat)} {y : MethodName} {cy : ByteArray} {rt : Option FieldType} {As : List Value} {r : Nat} {v1 : gV} {st0 : List Value} (hX : gx_X Γ Ω cc own nL ret) (hR : Γ.2.2.2.1 = gx_R d) (hc : gx_c ci C T N t0) (hq : lay[q]? = some (gk_o ci tm)) (hm : gx_mv C y cy maxL rt k0) (hw : Cond.methodLink own idx y ∈ gU) (hM : gx_M Γ.2.1 Ω lay y cy maxL rt d' (.ref (Ω.1 q) :: As) v (some (.ref (Ω.1 r))) v1) (hk : As.length = k0) (hdd : Nat.ble (d' + 1) d = true ∧ Nat.ble maxL 21 = true) (hst : Nat.ble (st.map fun v => v.category).sum 8 = true) (hd : decode cc pc = .ok (.invokevirtual idx, 3)) (hn : pc + 3 = n) (hst0 : st0 = As.reverse ++ .ref (Ω.1 q) :: st) (k : gx_G Γ Ω lay Q nL v1 n lv (.ref (Ω.1 r) :: st)) : gx_G Γ Ω lay Q nL v pc lv st0 := gi_virt hX hR hc hq hm hw hM hk hdd hst hd hn hst0 k
theorem gi_statR {idx d d' maxL k0 : Nat} {y : MethodName} {cy : ByteArray} {rt : Option FieldType} {As : List Value} {r : Nat} {v1 : gV} {st0 : List Value} (hX : gx_X Γ Ω cc own nL ret) (hR : Γ.2.2.2.1 = gx_R d) (hm : gx_ms y cy maxL rt k0) (hw : Cond.methodLink own idx y ∈ gU) (hM : gx_M Γ.2.1 Ω lay y cy maxL rt d' As v (some (.ref (Ω.1 r))) v1) (hk : As.length = k0) (hdd : Nat.ble (d' + 1) d = true ∧ Nat.ble maxL 21 = true) (hst : Nat.ble (st.map fun v => v.category).sum 8 = true) (hd : decode cc pc = .ok (.invokestatic idx, 3)) (hn : pc + 3 = n) (hst0 : st0 = As.reverse ++ st) (k : gx_G Γ Ω lay Q nL v1 n lv (.ref (Ω.1 r) :: st)) : gx_G Γ Ω lay Q nL v pc lv st0 := gi_stat hX hR hm hw hM hk hdd hst hd hn hst0 k
theorem gi_statNR {idx d d' maxL k0 : Nat} {host : String} {y : MethodName} {cy : ByteArray} {rt : Option FieldType} {As : List Value} {r : Nat} {v1 : gV} {st0 : List Value} (hX : gx_X Γ Ω cc own nL ret) (hR : Γ.2.2.2.1 = gx_R d) (hm : gx_ms y cy maxL rt k0) (hw : va_Nw (.methodLinkNest own idx y host) Γ.2.2.2.2.1) (hM : gx_M Γ.2.1 Ω lay y cy maxL rt d' As v (some (.ref (Ω.1 r))) v1) (hk : As.length = k0) (hdd : Nat.ble (d' + 1) d = true ∧ Nat.ble maxL 21 = true) (hst : Nat.ble (st.map fun v => v.category).sum 8 = true) (hd : decode cc pc = .ok (.invokestatic idx, 3)) (hn : pc + 3 = n) (hst0 : st0 = As.reverse ++ st) (k : gx_G Γ Ω lay Q nL v1 n lv (.ref (Ω.1 r) :: st)) : gx_G Γ Ω lay Q nL v pc lv st0 := gi_statN hX hR hm hw hM hk hdd hst hd hn hst0 k
theorem gi_virtV {C : String} {T : u_T} {N ci q idx d d' maxL k0 : Nat} {t0 : Nat → FieldType} {tm : List (Option Nat)} {y : MethodName} {cy : ByteArray} {rt : Option FieldType} {As : List Value} {v1 : gV} {st0 : List Value} (hX : gx_X Γ Ω cc own nL ret) (hR : Γ.2.2.2.1 = gx_R d) (hc : gx_c ci C T N t0) (hq : lay[q]? = some (gk_o ci tm)) (hm : gx_mv C y cy maxL rt k0) (hw : Cond.methodLink own idx y ∈ gU) (hM : gx_M Γ.2.1 Ω lay y cy maxL rt d' (.ref (Ω.1 q) :: As) v none v1) (hk : As.length = k0) (hdd : Nat.ble (d' + 1) d = true ∧ Nat.ble maxL 21 = true) (hst : Nat.ble (st.map fun v => v.category).sum 8 = true) (hd : decode cc pc = .ok (.invokevirtual idx, 3)) (hn : pc + 3 = n) (hst0 : st0 = As.reverse ++ .ref (Ω.1 q) :: st) (k : gx_G Γ Ω lay Q nL v1 n lv (st)) : gx_G Γ Ω lay Q nL v pc lv st0 := gi_virt hX hR hc hq hm hw hM hk hdd hst hd hn hst0 k
theorem gi_statV {idx d d' maxL k0 : Nat} {y : MethodName} {cy : ByteArray} {rt : Option FieldType} {As : List Value} {v1 : gV} {st0 : List Value} (hX : gx_X Γ Ω cc own nL ret) (hR : Γ.2.2.2.1 = gx_R d) (hm : gx_ms y cy maxL rt k0) (hw : Cond.methodLink own idx y ∈ gU) (hM : gx_M Γ.2.1 Ω lay y cy maxL rt d' As v none v1) (hk : As.length = k0) (hdd : Nat.ble (d' + 1) d = true ∧ Nat.ble maxL 21 = true) (hst : Nat.ble (st.map fun v => v.category).sum 8 = true) (hd : decode cc pc = .ok (.invokestatic idx, 3)) (hn : pc + 3 = n) (hst0 : st0 = As.reverse ++ st) (k : gx_G Γ Ω lay Q nL v1 n lv (st)) : gx_G Γ Ω lay Q nL v pc lv st0 := gi_stat hX hR hm hw hM hk hdd hst hd hn hst0 k
theorem gi_statNV {idx d d' maxL k0 : Nat} {host : String} {y : MethodName} {cy : ByteArray} {rt : Option FieldType} {As : List Value} {v1 : gV} {st0 : List Value} (hX : gx_X Γ Ω cc own nL ret) (hR : Γ.2.2.2.1 = gx_R d) (hm : gx_ms y cy maxL rt k0) (hw : va_Nw (.methodLinkNest own idx y host) Γ.2.2.2.2.1) (hM : gx_M Γ.2.1 Ω lay y cy maxL rt d' As v none v1) (hk : As.length = k0) (hdd : Nat.ble (d' + 1) d = true ∧ Nat.ble maxL 21 = true) (hst : Nat.ble (st.map fun v => v.category).sum 8 = true) (hd : decode cc pc = .ok (.invokestatic idx, 3)) (hn : pc + 3 = n) (hst0 : st0 = As.reverse ++ st) (k : gx_G Γ Ω lay Q nL v1 n lv (st)) : gx_G Γ Ω lay Q nL v pc lv st0 := gi_statN hX hR hm hw hM hk hdd hst hd hn hst0 k
end GXD
/-! THE LAYOUTS. LX: the class's cells; LM: the reference's. -/
abbrev rR (r : Nat) : List Nat := [r + 5, r + 6, r + 7, r + 8, r + 9, r + 10, r + 11, r + 12, r + 13, r + 14]
abbrev rB (r : Nat) : List Nat := [r + 18, r + 20, r + 22, r + 24, r + 26, r + 28, r + 30, r + 32, r + 34, r + 36]
abbrev tmB (b : Nat) : List (Option Nat) := [some (b + 1), none]
abbrev tmR (r : Nat) : List (Option Nat) := [some 6, none, none, some (r + 1), some (r + 2), none, some (r + 4), some (r + 15), some (r + 16), some (r + 17), none, none, none, none, none, none]
abbrev tmS (q : Nat) : List (Option Nat) := [none, none, some (q + 1)]
abbrev tmT (t : Nat) : List (Option Nat) := [some (t + 1), none]
def gx_ride (r : Nat) : List gk := [gk_o 1 (tmR r), gk_i 8, gk_o 0 (tmB (r + 2)), gk_i 29, gk_r 5 (rR r)] ++ [gk_i 8, gk_i 8, gk_i 8, gk_i 8, gk_i 8, gk_i 8, gk_i 8, gk_i 8, gk_i 8, gk_i 8] ++ [gk_i 10, gk_i 10, gk_r 4 (rB r)] ++ (rB r).flatMap (fun b => [gk_o 0 (tmB b), gk_i 29])
def LX : List gk := [gk_o 7 [some 1, some 6, some 16, some 54, some 92, some 95, some 99, some 108, some 117, none], gk_r 2 [2, 4], gk_o 5 (tmT 2), gk_i 39, gk_o 5 (tmT 4), gk_i 16,
  gk_o 6 [none, some 7, some 8, some 9, some 10, some 11, some 12, some 13, some 15, none, none, none], gk_i 8, gk_i 8, gk_i 8, gk_i 8, gk_i 10, gk_i 10, gk_o 0 (tmB 13), gk_i 29, gk_i 8] ++ gx_ride 16 ++ gx_ride 54 ++
  [gk_o 4 [some 93, some 94, none, none], gk_l 1024, gk_i 1024, gk_o 3 [some 96, some 97, some 98, none], gk_i 8, gk_i 8, gk_i 8, gk_r 3 [100, 102, 104, 106], gk_o 2 (tmS 100), gk_i 60, gk_o 2 (tmS 102), gk_i 60, gk_o 2 (tmS 104), gk_i 60, gk_o 2 (tmS 106), gk_i 60, gk_r 5 [109, 110, 111, 112, 113, 114, 115, 116], gk_i 9, gk_i 9, gk_i 9, gk_i 9, gk_i 9, gk_i 9, gk_i 9, gk_i 9, gk_i 11]
def txN (t : Nat) : Nat := if t = 2 then 39 else 16
def kB (b : Nat) : Bool := [13, 18, 56, 34, 36, 38, 40, 42, 44, 46, 48, 50, 52, 72, 74, 76, 78, 80, 82, 84, 86, 88, 90].contains b
def kR (r : Nat) : Bool := [16, 54].contains r
def kS (q : Nat) : Bool := [100, 102, 104, 106].contains q
def kT (t : Nat) : Bool := [2, 4].contains t
def kI (n q : Nat) : Bool := decide (LX[q]? = some (gk_i n))
theorem kall {l : List Nat} {P : Nat → Bool} (h : l.all P = true) {q : Nat} (hq : l.contains q = true) : P q = true := List.all_eq_true.mp h q (List.contains_iff_mem.mp hq)
theorem ly_B {b : Nat} (h : kB b = true) : LX[b]? = some (gk_o 0 (tmB b)) := of_decide_eq_true (kall (P := fun b => decide (LX[b]? = some (gk_o 0 (tmB b)))) rfl h)
theorem ly_Bk {b : Nat} (h : kB b = true) : LX[b + 1]? = some (gk_i 29) := of_decide_eq_true (kall (P := fun b => decide (LX[b + 1]? = some (gk_i 29))) rfl h)
theorem ly_R {r : Nat} (h : kR r = true) : LX[r]? = some (gk_o 1 (tmR r)) := of_decide_eq_true (kall (P := fun r => decide (LX[r]? = some (gk_o 1 (tmR r)))) rfl h)
theorem ly_R1 {r : Nat} (h : kR r = true) : LX[r + 1]? = some (gk_i 8) := of_decide_eq_true (kall (P := fun r => decide (LX[r + 1]? = some (gk_i 8))) rfl h)
theorem kb_R {r : Nat} (h : kR r = true) : kB (r + 2) = true := kall (P := fun r => kB (r + 2)) rfl h
theorem ly_R4 {r : Nat} (h : kR r = true) : LX[r + 4]? = some (gk_r 5 (rR r)) := of_decide_eq_true (kall (P := fun r => decide (LX[r + 4]? = some (gk_r 5 (rR r)))) rfl h)
theorem ly_R15 {r : Nat} (h : kR r = true) : LX[r + 15]? = some (gk_i 10) := of_decide_eq_true (kall (P := fun r => decide (LX[r + 15]? = some (gk_i 10))) rfl h)
theorem ly_R16 {r : Nat} (h : kR r = true) : LX[r + 16]? = some (gk_i 10) := of_decide_eq_true (kall (P := fun r => decide (LX[r + 16]? = some (gk_i 10))) rfl h)
theorem ly_R17 {r : Nat} (h : kR r = true) : LX[r + 17]? = some (gk_r 4 (rB r)) := of_decide_eq_true (kall (P := fun r => decide (LX[r + 17]? = some (gk_r 4 (rB r)))) rfl h)
theorem ly_S {q : Nat} (h : kS q = true) : LX[q]? = some (gk_o 2 (tmS q)) := of_decide_eq_true (kall (P := fun q => decide (LX[q]? = some (gk_o 2 (tmS q)))) rfl h)
theorem ly_Sk {q : Nat} (h : kS q = true) : LX[q + 1]? = some (gk_i 60) := of_decide_eq_true (kall (P := fun q => decide (LX[q + 1]? = some (gk_i 60))) rfl h)
theorem ly_T {t : Nat} (h : kT t = true) : LX[t]? = some (gk_o 5 (tmT t)) := of_decide_eq_true (kall (P := fun t => decide (LX[t]? = some (gk_o 5 (tmT t)))) rfl h)
theorem ly_Tk {t : Nat} (h : kT t = true) : LX[t + 1]? = some (gk_i (txN t)) := of_decide_eq_true (kall (P := fun t => decide (LX[t + 1]? = some (gk_i (txN t)))) rfl h)
theorem ly_X7 : LX[0]? = some (gk_o 7 [some 1, some 6, some 16, some 54, some 92, some 95, some 99, some 108, some 117, none]) := rfl
theorem ly_X6 : LX[6]? = some (gk_o 6 [none, some 7, some 8, some 9, some 10, some 11, some 12, some 13, some 15, none, none, none]) := rfl
theorem ly_X4 : LX[92]? = some (gk_o 4 [some 93, some 94, none, none]) := rfl
theorem ly_X3 : LX[95]? = some (gk_o 3 [some 96, some 97, some 98, none]) := rfl
theorem ly_1 : LX[1]? = some (gk_r 2 [2, 4]) := rfl
theorem ly_99 : LX[99]? = some (gk_r 3 [100, 102, 104, 106]) := rfl
theorem ly_108 : LX[108]? = some (gk_r 5 [109, 110, 111, 112, 113, 114, 115, 116]) := rfl
theorem ly_93 : LX[93]? = some (gk_l 1024) := rfl
theorem ly_7 : LX[7]? = some (gk_i 8) := rfl
theorem ly_8 : LX[8]? = some (gk_i 8) := rfl
theorem ly_9 : LX[9]? = some (gk_i 8) := rfl
theorem ly_10 : LX[10]? = some (gk_i 8) := rfl
theorem ly_11 : LX[11]? = some (gk_i 10) := rfl
theorem ly_12 : LX[12]? = some (gk_i 10) := rfl
theorem ly_15 : LX[15]? = some (gk_i 8) := rfl
theorem ly_94 : LX[94]? = some (gk_i 1024) := rfl
theorem ly_96 : LX[96]? = some (gk_i 8) := rfl
theorem ly_97 : LX[97]? = some (gk_i 8) := rfl
theorem ly_98 : LX[98]? = some (gk_i 8) := rfl
theorem ly_117 : LX[117]? = some (gk_i 11) := rfl
abbrev tmM : List (Option Nat) := [some 1, some 2, some 3, some 4, none, some 5, some 6, none, some 7, none, some 8, some 9, some 10, none, some 11, some 12, none, none, some 13, some 14, some 15, some 16, some 17, some 18, none, none, none, some 19, some 20, none]
def LM : List gk := [gk_o 8 tmM, gk_i 4, gk_i 4, gk_i 240, gk_i 60, gk_i 80, gk_i 2, gk_i 32, gk_i 16, gk_i 8, gk_i 3, gk_i 8, gk_i 8, gk_i 29, gk_i 80, gk_i 80, gk_i 10, gk_i 290, gk_i 3, gk_i 24, gk_i 72]
theorem ly_X8 : LM[0]? = some (gk_o 8 tmM) := rfl
theorem lm_1 : LM[1]? = some (gk_i 4) := rfl
theorem lm_2 : LM[2]? = some (gk_i 4) := rfl
theorem lm_3 : LM[3]? = some (gk_i 240) := rfl
theorem lm_4 : LM[4]? = some (gk_i 60) := rfl
theorem lm_5 : LM[5]? = some (gk_i 80) := rfl
theorem lm_6 : LM[6]? = some (gk_i 2) := rfl
theorem lm_7 : LM[7]? = some (gk_i 32) := rfl
theorem lm_8 : LM[8]? = some (gk_i 16) := rfl
theorem lm_9 : LM[9]? = some (gk_i 8) := rfl
theorem lm_10 : LM[10]? = some (gk_i 3) := rfl
theorem lm_11 : LM[11]? = some (gk_i 8) := rfl
theorem lm_12 : LM[12]? = some (gk_i 8) := rfl
theorem lm_13 : LM[13]? = some (gk_i 29) := rfl
theorem lm_14 : LM[14]? = some (gk_i 80) := rfl
theorem lm_15 : LM[15]? = some (gk_i 80) := rfl
theorem lm_16 : LM[16]? = some (gk_i 10) := rfl
theorem lm_17 : LM[17]? = some (gk_i 290) := rfl
theorem lm_18 : LM[18]? = some (gk_i 3) := rfl
theorem lm_19 : LM[19]? = some (gk_i 24) := rfl
theorem lm_20 : LM[20]? = some (gk_i 72) := rfl
