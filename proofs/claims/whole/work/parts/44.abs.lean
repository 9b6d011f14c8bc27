/-! THE ABSTRACT STATE: texts, worths, even, changes, forgets, seen, sheets (form, size, items), the latest finding -/
abbrev Ab : Type := List Int32 × List Int32 × (Nat → Int32) × Int32 × Int32 × Int32 × List (Nat × Nat × Nat) × (Nat → Int32) × (Nat → Nat) × (Nat → Nat → Int32) × Int32
abbrev aT0 (a : Ab) : List Int32 := a.1
abbrev aT1 (a : Ab) : List Int32 := a.2.1
abbrev aO (a : Ab) : Nat → Int32 := a.2.2.1
abbrev aE (a : Ab) : Int32 := a.2.2.2.1
abbrev aC (a : Ab) : Int32 := a.2.2.2.2.1
abbrev aF (a : Ab) : Int32 := a.2.2.2.2.2.1
abbrev aS (a : Ab) : List (Nat × Nat × Nat) := a.2.2.2.2.2.2.1
abbrev aSF (a : Ab) : Nat → Int32 := a.2.2.2.2.2.2.2.1
abbrev aSN (a : Ab) : Nat → Nat := a.2.2.2.2.2.2.2.2.1
abbrev aSI (a : Ab) : Nat → Nat → Int32 := a.2.2.2.2.2.2.2.2.2.1
abbrev aLa (a : Ab) : Int32 := a.2.2.2.2.2.2.2.2.2.2
def aP (a : Ab) : Pm := (nRi (aT0 a), rBo (aT0 a), rLv (aT0 a), rWt (aT0 a), aO a, aE a, aC a, aF a)
def aX (a : Ab) : Sc := ini (rSt (aT0 a)) (bag0 (aT1 a))
def okAb (a : Ab) : Prop := (aT0 a).length ≤ 39 ∧ (aT1 a).length ≤ 16 ∧ (∀ k, k < 8 → 0 ≤ (aO a k).toInt ∧ (aO a k).toInt ≤ 9) ∧ (∃ e, e ≤ 9 ∧ aE a = nI e) ∧ (∃ c, c < 1024 ∧ aC a = nI c) ∧ (∃ f, f < 256 ∧ aF a = nI f) ∧ (aS a).length ≤ 8 ∧ (∀ z ∈ aS a, z.1 < 10 ∧ z.2.1 < 8 ∧ z.2.2 < 9) ∧ ∀ s, s < 4 → (aSF a s = -1 ∨ aSF a s = 0 ∨ aSF a s = 1 ∨ aSF a s = 2) ∧ aSN a s ≤ 60
def SNi (v : gV) (l : List (Nat × Nat × Nat)) : Prop := v.1 95 3 = nI l.length ∧ ∀ i, i < l.length → v.1 96 i = nI (l.getD i (0, 0, 0)).1 ∧ v.1 97 i = nI (l.getD i (0, 0, 0)).2.1 ∧ v.1 98 i = nI (l.getD i (0, 0, 0)).2.2
def SHi (v : gV) (a : Ab) : Prop := ∀ s, s < 4 → v.1 (100 + 2 * s) 0 = aSF a s ∧ (aSF a s ≠ -1 → v.1 (100 + 2 * s) 1 = nI (aSN a s) ∧ ∀ j, j < aSN a s → v.1 (100 + 2 * s + 1) j = aSI a s j)
def InvX (v : gV) (a : Ab) (c : Nat) : Prop := okAb a ∧ txR v 2 (aT0 a) ∧ txR v 4 (aT1 a) ∧ QI v (aP a) (rSt (aT0 a)) (bag0 (aT1 a)) c ∧ (∀ r, r < nRi (aT0 a) → v.1 8 r = nI (rBo (aT0 a) r) ∧ v.1 9 r = nI (rLv (aT0 a) r)) ∧ RD v 16 (aP a) (aX a) ∧ SNi v (aS a) ∧ SHi v a ∧ v.1 0 9 = aLa a
def PT (v : gV) (a : Ab) (c : Nat) : Prop := okAb a ∧ txR v 2 (aT0 a) ∧ txR v 4 (aT1 a) ∧ (∀ k, k < 8 → v.1 15 k = aO a k) ∧ v.1 6 9 = aE a ∧ v.1 6 10 = aC a ∧ v.1 6 11 = aF a ∧ SS0 v c ∧ c < 999990 ∧ SNi v (aS a) ∧ SHi v a ∧ v.1 0 9 = aLa a
theorem aP_ok {a : Ab} (h : okAb a) : okP (aP a) := by
  obtain ⟨h0, h1, h2, ⟨e, he, ee⟩, -⟩ := h
  refine ⟨nRi_le h0, fun r hr => ?_, h2, ?_, ?_⟩
  · obtain ⟨-, -, -, b2, -, b4, b5⟩ := rid_ok h0 hr
    exact ⟨b2, b4, b5⟩
  · show 0 ≤ (aE a).toInt
    rw [ee, n_ti (by omega)]; omega
  · show (aE a).toInt ≤ 9
    rw [ee, n_ti (by omega)]; omega
theorem bag0_len {l : List Int32} : (bag0 l).length ≤ l.length := by
  unfold bag0
  split <;> simp
theorem aX_ok {a : Ab} (h : okAb a) : okA (aP a) (aX a) := ini_ok (aP_ok h) (fun r hr => Or.inr (rid_ok h.1 hr).2.1) (by have := bag0_len (l := aT1 a); have := h.2.1; omega)
theorem SNi.kept {v v' : gV} {l : List (Nat × Nat × Nat)} (h : SNi v l) (hq : ∀ q, 95 ≤ q → v'.1 q = v.1 q) : SNi v' l := by
  unfold SNi
  rw [hq 95 (by omega), hq 96 (by omega), hq 97 (by omega), hq 98 (by omega)]
  exact h
theorem SHi.kept {v v' : gV} {a : Ab} (h : SHi v a) (hq : ∀ q, 95 ≤ q → v'.1 q = v.1 q) : SHi v' a := by
  intro s hs
  rw [hq _ (by omega), hq _ (by omega)]
  exact h s hs
theorem InvX.pt {v : gV} {a : Ab} {c : Nat} (h : InvX v a c) (hc : c < 999990) : PT v a c := by
  obtain ⟨h1, h2, h3, h4, -, -, h7, h8, h9⟩ := h
  exact ⟨h1, h2, h3, h4.1.2.2.2.1, h4.2.1, h4.2.2.1, h4.1.2.2.2.2.1, h4.2.2.2.2.2.2.1.to0, hc, h7, h8, h9⟩
theorem tellAnew_ok {v : gV} {a : Ab} {c : Nat} (h : PT v a c) : wp (f_X7_tellAnew v) (fun v' => InvX v' a (c + 1)) := by
  obtain ⟨hO, h2, h4, h15, h69, h610, h611, hS, hc, hN, hH, hL⟩ := h
  have hP := aP_ok hO
  unfold f_X7_tellAnew
  refine wp_ga (i := 0) (by simp) (by simp) rfl (wp_bv (readRiders_ok (q := 2) h2 (by omega)) ?_)
  rintro v1 ⟨⟨t1, t2, t3⟩, f1⟩
  refine wp_ga (i := 1) (by simp) (by simp) rfl (wp_bv (readBag_ok (q := 4) (l := aT1 a) (h4.kept (f1.1 _ (by omega)) (f1.1 _ (by omega))) hO.2.1 (by omega)) ?_)
  rintro v2 ⟨b1, f2⟩
  have o2 : ∀ q, (q < 6 ∨ 14 < q) → v2.1 q = v.1 q := fun q hq => by rw [f2.1 q (by omega) (by omega)]; exact f1.1 q (by omega)
  have m2 : ∀ q, 6 ≤ q → q ≤ 12 → v2.1 q = v1.1 q := fun q _ _ => f2.1 q (by omega) (by omega)
  have o22 : v2.2 = v.2 := f2.2.trans f1.2.2
  have hT2 : TD v2 (aP a) := by
    refine ⟨hP, ?_, fun r hr => ?_, fun k hk => ?_, ?_, fun s hs r hr => ?_, fun s hs r hr => ?_⟩
    · rw [m2 6 (by omega) (by omega)]; exact t1
    · rw [m2 10 (by omega) (by omega)]; exact (t2 r hr).2.2.2
    · rw [o2 15 (by omega)]; exact h15 k hk
    · rw [m2 6 (by omega) (by omega), f1.2.1 11 (by omega)]; exact h611
    · rw [m2 11 (by omega) (by omega)]; exact (t3 s hs r hr).1
    · rw [m2 12 (by omega) (by omega)]; exact (t3 s hs r hr).2
  have e69 : v2.1 6 9 = aE a := by rw [m2 6 (by omega) (by omega), f1.2.1 9 (by omega)]; exact h69
  have e610 : v2.1 6 10 = aC a := by rw [m2 6 (by omega) (by omega), f1.2.1 10 (by omega)]; exact h610
  have e7 : ∀ r, r < pN (aP a) → v2.1 7 r = rSt (aT0 a) r := fun r hr => by rw [m2 7 (by omega) (by omega)]; exact (t2 r hr).1
  have hA := aX_ok hO
  have hS2 : SS0 v2 c := by
    obtain ⟨k, z1, z2, z3⟩ := hS
    exact ⟨k, z1, by rw [o2 92 (by omega)]; exact z2, fun i hi => by rw [o2 94 (by omega)]; exact z3 i hi⟩
  refine wp_bv (startAnew_ok (x := aX a) hT2 e7 hA.1.1.1 e69 hS2 (by omega)) ?_
  rintro v3 ⟨s1, s2, s3⟩
  have hQ3 : QI v3 (aP a) (rSt (aT0 a)) (bag0 (aT1 a)) (c + 1) := by
    refine ⟨hT2.kept (fun q hq => s2 q (by omega)), ?_, ?_, fun r hr => ?_, ?_, hA, s1, by omega⟩
    · rw [s2 6 (by omega)]; exact e69
    · rw [s2 6 (by omega)]; exact e610
    · rw [s2 7 (by omega)]; exact e7 r hr
    · exact b1.kept (by rw [s2 _ (by omega)]) (fun k _ => by rw [s2 _ (by omega)])
  refine wp_bv (begin_ok (b := 16) rfl hQ3.2.2.2.2.1) ?_
  rintro v4 ⟨g1, g2, g3, g4, g5, g6⟩
  have hT4 := hQ3.1.kept (v' := v4) (fun q hq => g5 q (by omega))
  refine wp_bv (go_ok (b := 16) (P := aP a) (h := rSt (aT0 a)) (l := bag0 (aT1 a)) rfl hT4 (by rw [g1]; exact hQ3.2.1) (by rw [g2]; exact hQ3.2.2.1) (fun i hi => by rw [g3 i (by have := hP.1; omega)]; exact hQ3.2.2.2.1 i hi) g4 hA) ?_
  rintro v5 ⟨hD, hF⟩
  have o5 : ∀ q, (q < 16 ∨ 54 ≤ q) → v5.1 q = v3.1 q := fun q hq => by rw [hF.1 q (by omega)]; exact g5 q (by omega)
  have o52 : v5.2 = v3.2 := hF.2.2.trans g6
  have oo : ∀ q, (q < 6 ∨ 95 ≤ q) → v5.1 q = v.1 q := fun q hq => by rw [o5 q (by omega), s2 q (by omega)]; exact o2 q (by omega)
  have hQ5 : QI v5 (aP a) (rSt (aT0 a)) (bag0 (aT1 a)) (c + 1) := by
    obtain ⟨q1, q2, q3, q4, q5, q6, q7, q8⟩ := hQ3
    refine ⟨q1.kept (fun q hq => o5 q (by omega)), by rw [o5 6 (by omega)]; exact q2, by rw [o5 6 (by omega)]; exact q3, fun r hr => by rw [o5 7 (by omega)]; exact q4 r hr, q5.kept (by rw [o5 _ (by omega)]) (fun k _ => by rw [o5 _ (by omega)]), q6, q7.kept (o5 _ (by omega)) (o5 _ (by omega)) o52, q8⟩
  refine wp_some ⟨hO, h2.kept (oo _ (by omega)) (oo _ (by omega)), h4.kept (oo _ (by omega)) (oo _ (by omega)), hQ5, fun r hr => ⟨?_, ?_⟩, hD, hN.kept (fun q hq => oo q (by omega)), hH.kept (fun q hq => oo q (by omega)), ?_⟩
  · rw [o5 8 (by omega), s2 8 (by omega), m2 8 (by omega) (by omega)]; exact (t2 r hr).2.1
  · rw [o5 9 (by omega), s2 9 (by omega), m2 9 (by omega) (by omega)]; exact (t2 r hr).2.2.1
  · rw [oo 0 (by omega)]; exact hL
/-- queries that touch the trial ride and the sets alone -/
theorem InvX.q {v v' : gV} {a : Ab} {c : Nat} (h : InvX v a c) (hF : FQ v v') (hQ : QI v' (aP a) (rSt (aT0 a)) (bag0 (aT1 a)) c) : InvX v' a c := by
  obtain ⟨h1, h2, h3, h4, h5, h6, h7, h8, h9⟩ := h
  refine ⟨h1, h2.kept (hF.1 _ (by omega)) (hF.1 _ (by omega)), h3.kept (hF.1 _ (by omega)) (hF.1 _ (by omega)), hQ, fun r hr => ?_, ?_, h7.kept (fun q hq => hF.1 q (by omega)), h8.kept (fun q hq => hF.1 q (by omega)), by rw [hF.1 0 (by omega)]; exact h9⟩
  · rw [hF.1 8 (by omega), hF.1 9 (by omega)]; exact h5 r hr
  · obtain ⟨L, z1, z2, z3, z4, z5, z6⟩ := h6
    refine ⟨L, z1, by rw [hF.1 _ (by omega)]; exact z2, fun d hd => (z3 d hd).kept (hF.1 _ (by omega)) (by rw [hF.1 _ (by omega)]) (by rw [hF.1 _ (by omega)]) (hF.1 _ (by omega)) (hF.1 _ (by omega)), z4, z5.kept (hF.1 _ (by omega)) (hF.1 _ (by omega)) (hF.1 _ (by omega)) (fun j _ => by rw [hF.1 _ (by omega)]), by rw [hF.1 _ (by omega)]; exact z6⟩
theorem InvX.g {v v' : gV} {a : Ab} {c : Nat} (h : InvX v a c) (hF : ∀ q, (q < 54 ∨ 92 ≤ q) → v'.1 q = v.1 q) (h2 : v'.2 = v.2) : InvX v' a c := h.q ⟨fun q hq => hF q (by omega), hF 92 (by omega)⟩ (h.2.2.2.1.G hF h2)
