/-! THE REFERENCE: its invariant -/
def SN8 (u : gV) (l : List (Nat × Nat × Nat)) : Prop := u.1 0 26 = nI l.length ∧ ∀ i, i < l.length → u.1 19 (3 * i) = nI (l.getD i (0, 0, 0)).1 ∧ u.1 19 (3 * i + 1) = nI (l.getD i (0, 0, 0)).2.1 ∧ u.1 19 (3 * i + 2) = nI (l.getD i (0, 0, 0)).2.2
def SH8 (u : gV) (a : Ab) : Prop := ∀ s, s < 4 → u.1 1 s = aSF a s ∧ (aSF a s ≠ -1 → u.1 2 s = nI (aSN a s) ∧ ∀ j, j < aSN a s → u.1 3 (60 * s + j) = aSI a s j)
def InvM (u : gV) (a : Ab) : Prop := okAb a ∧ T0 u (aT0 a) ∧ T1 u (aT1 a) ∧ (∀ k, k < 8 → u.1 9 k = aO a k) ∧ u.1 10 0 = aE a ∧ u.1 10 1 = aC a ∧ u.1 10 2 = aF a ∧ u.1 0 13 = -1 ∧ SN8 u (aS a) ∧ SH8 u a ∧ u.1 0 4 = aLa a
/-- the labels that the invariant speaks of are kept -/
def KM (u u' : gV) : Prop := (∀ q, (0 < q ∧ q < 7 ∧ q ≠ 4) ∨ q = 9 ∨ q = 10 ∨ q = 19 → u'.1 q = u.1 q) ∧ u'.1 0 13 = u.1 0 13 ∧ u'.1 0 26 = u.1 0 26 ∧ u'.1 0 4 = u.1 0 4
theorem KM.rf {u : gV} : KM u u := ⟨fun _ _ => rfl, rfl, rfl, rfl⟩
theorem KM.tr {u u' u'' : gV} (h : KM u u') (h' : KM u' u'') : KM u u'' := ⟨fun q hq => (h'.1 q hq).trans (h.1 q hq), h'.2.1.trans h.2.1, h'.2.2.1.trans h.2.2.1, h'.2.2.2.trans h.2.2.2⟩
theorem FL.K {u u' : gV} (h : FL u u') : KM u u' := ⟨fun q hq => h.1 q (by omega) (by omega), h.2.1 13 (by omega) (by omega) (by omega) (by omega), h.2.1 26 (by omega) (by omega) (by omega) (by omega), h.2.1 4 (by omega) (by omega) (by omega) (by omega)⟩
theorem FR0.K {u u' : gV} (h : FR0 u u') : KM u u' := ⟨fun q hq => h.1 q (by omega) (by omega), h.2.1 13 (by omega), h.2.1 26 (by omega), h.2.1 4 (by omega)⟩
theorem FR1.K {u u' : gV} (h : FR1 u u') : KM u u' := ⟨fun q hq => h.1 q (by omega) (by omega), h.2.1 13 (by omega), h.2.1 26 (by omega), h.2.1 4 (by omega)⟩
theorem InvM.kept {u u' : gV} {a : Ab} (h : InvM u a) (hF : KM u u') : InvM u' a := by
  unfold InvM T0 T1 SN8 SH8
  rw [hF.1 1 (by omega), hF.1 2 (by omega), hF.1 3 (by omega), hF.1 5 (by omega), hF.1 6 (by omega), hF.1 9 (by omega), hF.1 10 (by omega), hF.1 19 (by omega), hF.2.1, hF.2.2.1, hF.2.2.2]
  exact h
/-- the texts are read -/
def RDY (u : gV) (a : Ab) : Prop := InvM u a ∧ RR u (aT0 a) ∧ RB u (aT1 a)
theorem RDY.L {u u' : gV} {a : Ab} (h : RDY u a) (hF : FL u u') : RDY u' a := by
  refine ⟨h.1.kept hF.K, ?_, ?_⟩
  · unfold RR
    rw [hF.1 7 (by omega) (by omega), hF.2.1 7 (by omega) (by omega) (by omega) (by omega)]
    exact h.2.1
  · unfold RB
    rw [hF.1 8 (by omega) (by omega), hF.2.1 9 (by omega) (by omega) (by omega) (by omega)]
    exact h.2.2
theorem RDY.tm {u : gV} {a : Ab} (h : RDY u a) : TM u (aP a) := ⟨aP_ok h.1.1, h.2.1.1, fun r hr => (h.2.1.2 r hr).2, h.1.2.2.2.1, h.1.2.2.2.2.1, h.1.2.2.2.2.2.1, h.1.2.2.2.2.2.2.1⟩
theorem RDY.st {u : gV} {a : Ab} (h : RDY u a) : ST u (aP a) (rSt (aT0 a)) (bag0 (aT1 a)) (-1) := ⟨fun r hr => (h.2.1.2 r hr).1, h.2.2.1, by have := bag0_len (l := aT1 a); have := h.1.1.2.1; omega, h.2.2.2, h.1.2.2.2.2.2.2.2.1⟩
theorem lives_M {u : gV} {a : Ab} (h : RDY u a) : wp (f_X8_lives u) (fun u' => RDY u' a ∧ LV u' (aP a) (aX a) ∧ FL u u') := by
  refine wp_mono (lives_ok h.tm h.st (aX_ok h.1.1)) (fun u' hu => ⟨h.L hu.2, hu.1, hu.2⟩)
theorem reads_M {u : gV} {a : Ab} (h : InvM u a) : wp (f_X8_reads u) (fun u' => RDY u' a ∧ LV u' (aP a) (aX a)) := by
  unfold f_X8_reads
  refine wp_bi (readsRiders_M h.2.1) ?_
  rintro r3 u1 ⟨-, a1, a2⟩
  have h1 := h.kept a2.K
  refine wp_bi (readsBag_M h1.2.2.1) ?_
  rintro r4 u2 ⟨-, b1, b2'⟩
  have h2 : RDY u2 a := ⟨h1.kept b2'.K, by
    have a1 : RR u1 (aT0 a) := a1
    have b2' : FR1 u1 u2 := b2'
    unfold RR
    rw [b2'.1 7 (by omega) (by omega), b2'.2.1 7 (by omega)]
    exact a1, b1⟩
  refine wp_bv (lives_M h2) ?_
  rintro u3 ⟨c1, c2, -⟩
  exact wp_some ⟨c1, c2⟩
/-- a call of the reference does as the spec says -/
def OKM (o : Option (Int32 × gV)) (s : Int32 × Ab) : Prop := wp o (fun z => z.1 = s.1 ∧ InvM z.2 s.2)
theorem has_M {u : gV} {a : Ab} {d r : Int32} (h : InvM u a) : OKM (f_X8_has d r u) (sp_has d r a) := by
  have hn := nRi_le h.1.1
  unfold OKM f_X8_has
  refine wp_bv (reads_M h) ?_
  rintro u1 ⟨h1, h2⟩
  refine wp_bi (wp_of isDay_M) ?_
  rintro r3 u3 ⟨rfl, rfl⟩
  refine wp_if (fun c1 => ?_) (fun c1 => ?_)
  · rw [b2_0] at c1
    have hs : sp_has d r a = (-2, a) := by unfold sp_has; rw [if_neg (fun q => by rw [c1] at q; exact Bool.false_ne_true q.1)]
    rw [hs]
    exact wp_some ⟨rfl, h1.1⟩
  · rw [b2_0] at c1
    have c1 := ne_f c1
    refine wp_bi (wp_of (isRider_M h1.2.1.1 hn)) ?_
    rintro r4 u4 ⟨rfl, rfl⟩
    refine wp_if (fun c2 => ?_) (fun c2 => ?_)
    · rw [b2_0] at c2
      have hs : sp_has d r a = (-2, a) := by unfold sp_has; rw [if_neg (fun q => by rw [c2] at q; exact Bool.false_ne_true q.2)]
      rw [hs]
      exact wp_some ⟨rfl, h1.1⟩
    · rw [b2_0] at c2
      have c2 := ne_f c2
      have hs : sp_has d r a = ((beh a (d.toNatClampNeg)).1.1 (r.toNatClampNeg), a) := by unfold sp_has; rw [if_pos ⟨c1, c2⟩]
      rw [hs]
      obtain ⟨k, hk, -, rfl, ck⟩ := gin_cl c1
      obtain ⟨m, hm, -, rfl, cm⟩ := gin_cl c2
      rw [ck, cm, l_8, n_mul, n_add, n_cl (a := 8 * k + m) (by omega)]
      exact wp_t (gin_N (by omega) (by omega)) (wp_some ⟨(h2.1 k hk).1 m hm, h1.1⟩)
