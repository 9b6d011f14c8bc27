/-! THE CALLS, first part: their specs, and the class -/
theorem gin_cl {x : Int32} {n : Nat} (h : gin x n = true) : ∃ k, k < n ∧ k < 2147483648 ∧ x = nI k ∧ x.toNatClampNeg = k := by
  have := of_decide_eq_true h
  obtain ⟨k, h1, h2, h3⟩ := i_of (x := x) this.1
  exact ⟨k, by omega, h1, h2, by rw [h2]; exact n_cl h1⟩
theorem isOutside_ok {v : gV} {x : Int32} {n : Nat} (hn : n < 2147483648) : f_X7_isOutside x (nI n) v = some (b2 (!gin x n), v) := by
  apply wp_is
  unfold f_X7_isOutside
  have e0 : (0 : Int32).toInt = 0 := by decide
  refine wp_if (fun c => ?_) (fun c => wp_if (fun c2 => ?_) (fun c2 => ?_))
  · rw [i_lt, e0] at c
    exact b1 (Or.inr rfl) (by unfold gin; rw [decide_eq_false (by omega)]; rfl)
  · rw [i_lt, e0] at c
    rw [i_lt, n_ti hn] at c2
    exact b1 (Or.inl rfl) (by unfold gin; rw [decide_eq_true (by omega)]; rfl)
  · rw [i_lt, n_ti hn] at c2
    exact b1 (Or.inr rfl) (by unfold gin; rw [decide_eq_false (by omega)]; rfl)
theorem wp_out {ρ : Type} {x : Int32} (n : Nat) {v : gV} {k1 k2 : gV → Option ρ} {Q : ρ → Prop} (hn : n < 2147483648) (h1 : gin x n = true → wp (k1 v) Q) (h2 : ¬ gin x n = true → wp (k2 v) Q) : wp (bi (f_X7_isOutside x (nI n) v) (fun r v1 => if r = 0 then k1 v1 else k2 v1)) Q := by
  refine wp_bi (wp_of (isOutside_ok hn)) ?_
  rintro r v1 ⟨rfl, rfl⟩
  refine wp_if (fun c => ?_) (fun c => ?_)
  · rw [b2_0] at c
    exact h1 (by simpa using c)
  · rw [b2_0] at c
    exact h2 (by simpa using c)
theorem InvX.mono {v : gV} {a : Ab} {c c' : Nat} (h : InvX v a c) (hc : c ≤ c') (hb : c' < 1000000) : InvX v a c' := by
  obtain ⟨h1, h2, h3, ⟨q1, q2, q3, q4, q5, q6, ⟨k, u, z1, z2⟩, q8⟩, h5⟩ := h
  exact ⟨h1, h2, h3, ⟨q1, q2, q3, q4, q5, q6, ⟨k, u, by omega, z2⟩, hb⟩, h5⟩
/-- a call of the class does as the spec says -/
def OKX (o : Option (Int32 × gV)) (s : Int32 × Ab) (c : Nat) : Prop := wp o (fun z => z.1 = s.1 ∧ InvX z.2 s.2 (c + 1))
theorem OKX.same {v : gV} {a : Ab} {c : Nat} {r : Int32} (h : InvX v a c) (hc : c < 999990) : (fun z : Int32 × gV => z.1 = r ∧ InvX z.2 a (c + 1)) (r, v) := ⟨rfl, h.mono (by omega) (by omega)⟩
def sp_type (t b : Int32) (a : Ab) : Int32 × Ab :=
  if gin t 2 = true ∧ gin b 256 = true then
    if t = 0 then (if (aT0 a).length = 39 then (-4, a) else (nI ((aT0 a).length + 1), (aT0 a ++ [b], a.2)))
    else (if (aT1 a).length = 16 then (-4, a) else (nI ((aT1 a).length + 1), (a.1, aT1 a ++ [b], a.2.2)))
  else (-2, a)
theorem gd_len {l : List Int32} {b : Int32} : (l ++ [b]).length = l.length + 1 := by simp
theorem txR_put {v : gV} {t : Nat} {l : List Int32} {b : Int32} (h : txR v t l) (hl : l.length < txN t) (v' : gV) (e1 : v'.1 t 1 = nI (l.length + 1)) (e2 : v'.1 (t + 1) = upd (v.1 (t + 1)) l.length b) : txR v' t (l ++ [b]) := by
  refine ⟨by rw [gd_len]; exact e1, by rw [gd_len]; omega, fun i hi => ?_⟩
  rw [gd_len] at hi
  rw [e2]
  by_cases e : i = l.length
  · subst e; rw [up_s, gd_r]
  · rw [up_n e, gd_l (by omega)]; exact h.2.2 i (by omega)
theorem tx_full {v : gV} {t : Nat} {l : List Int32} (h : txR v t l) : f_X5_isFull t v = some (b2 (decide (l.length = txN t)), v) := by
  apply wp_is
  unfold f_X5_isFull
  have := txN_le t
  have hl := h.2.1
  rw [h.1]
  refine wp_if (fun c => ?_) (fun c => ?_)
  · rw [n_lt (by omega) (by omega)] at c
    exact b1 (Or.inl rfl) (by rw [decide_eq_false (by omega)]; rfl)
  · rw [n_lt (by omega) (by omega)] at c
    exact b1 (Or.inr rfl) (by rw [decide_eq_true (by omega)]; rfl)
theorem append_ok {v : gV} {t : Nat} {l : List Int32} {b : Int32} (h : txR v t l) (hl : l.length < txN t) : wp (f_X5_append t b v) (fun v' => txR v' t (l ++ [b]) ∧ (∀ q, q ≠ t → q ≠ t + 1 → v'.1 q = v.1 q) ∧ v'.2 = v.2) := by
  have := txN_le t
  unfold f_X5_append
  refine wp_bi (wp_of (tx_full h)) ?_
  rintro r3 v1 ⟨rfl, rfl⟩
  refine wp_t (by rw [b2_0, decide_eq_false (by omega)]) ?_
  rw [h.1]
  refine wp_t (gin_N hl (by omega)) (wp_bd (wp_bd (wp_some ⟨?_, fun q h1 h2 => ?_, rfl⟩)))
  · refine txR_put h hl _ ?_ ?_
    · rw [sI_s, sI_n (by omega), h.1]; exact nI_1 _
    · rw [sI_n (by omega), sI_q, n_cl (by omega)]
  · rw [sI_n h1, sI_n h2]
theorem kT_at {k : Nat} (h : k < 2) : ([2, 4] : List Nat).getD k 0 = 2 + 2 * k ∧ kT (2 + 2 * k) = true := by
  rcases (show k = 0 ∨ k = 1 by omega) with rfl | rfl <;> exact ⟨rfl, rfl⟩
theorem wp_gaT {ρ : Type} {x : Int32} {k : Nat} {f : Nat → Option ρ} {Q : ρ → Prop} (hx : x = nI k) (hk : k < 2) (h : wp (f (2 + 2 * k)) Q) : wp (ga x [2, 4] kT f) Q := by
  subst hx
  obtain ⟨e1, e2⟩ := kT_at hk
  refine wp_ga (by simpa using hk) (by simp) (by rw [e1]; exact e2) ?_
  rw [e1]; exact h
theorem PT.other {v v' : gV} {a : Ab} {c : Nat} (h : PT v a c) (hq : ∀ q, q < 2 ∨ 6 ≤ q → v'.1 q = v.1 q) {l0 l1 : List Int32} (h0 : l0.length ≤ 39) (h1 : l1.length ≤ 16) (t0 : txR v' 2 l0) (t1 : txR v' 4 l1) : PT v' (l0, l1, a.2.2) c := by
  obtain ⟨⟨o1, o2, o3⟩, h2, h4, h15, h69, h610, h611, ⟨k, z1, z2, z3⟩, hc, hN, hH, hL⟩ := h
  refine ⟨⟨h0, h1, o3⟩, t0, t1, fun k hk => by rw [hq 15 (by omega)]; exact h15 k hk, by rw [hq 6 (by omega)]; exact h69, by rw [hq 6 (by omega)]; exact h610, by rw [hq 6 (by omega)]; exact h611, ⟨k, z1, by rw [hq 92 (by omega)]; exact z2, fun i hi => by rw [hq 94 (by omega)]; exact z3 i hi⟩, hc, hN.kept (fun q _ => hq q (by omega)), SHi.kept (a := a) hH (fun q _ => hq q (by omega)), by rw [hq 0 (by omega)]; exact hL⟩
theorem type_X {v : gV} {a : Ab} {c : Nat} {t b : Int32} (h : InvX v a c) (hc : c < 999980) : OKX (f_X7_type t b v) (sp_type t b a) c := by
  have hP := h.pt (by omega)
  obtain ⟨hO, h2, h4, -⟩ := id h
  unfold OKX f_X7_type
  refine wp_out 2 (by omega) (fun g1 => wp_out 256 (by omega) (fun g2 => ?_) (fun g2 => ?_)) (fun g1 => ?_)
  · obtain ⟨k, hk, -, ek, -⟩ := gin_cl g1
    refine wp_gaT ek hk ?_
    rcases (show k = 0 ∨ k = 1 by omega) with rfl | rfl
    · have e0 : t = 0 := ek
      have hs : sp_type t b a = if (aT0 a).length = 39 then (-4, a) else (nI ((aT0 a).length + 1), (aT0 a ++ [b], a.2)) := by
        unfold sp_type
        rw [if_pos ⟨g1, g2⟩, if_pos e0]
      rw [hs]
      refine wp_bi (wp_of (tx_full h2)) ?_
      rintro r3 v1 ⟨rfl, rfl⟩
      refine wp_if (fun c1 => ?_) (fun c1 => ?_)
      · rw [b2_0] at c1
        have hl : (aT0 a).length ≠ 39 := of_decide_eq_false c1
        have hl2 := hO.1
        rw [if_neg hl]
        refine wp_gaT ek (by omega) (wp_bv (append_ok h2 (by show _ < 39; omega)) ?_)
        rintro v2 ⟨g3, g4, -⟩
        refine wp_bv (tellAnew_ok (hP.other (v' := v2) (fun q hq => g4 q (by omega) (by omega)) (l0 := aT0 a ++ [b]) (l1 := aT1 a) (by rw [gd_len]; omega) hO.2.1 g3 (h4.kept (g4 _ (by omega) (by omega)) (g4 _ (by omega) (by omega))))) ?_
        rintro v3 h3
        refine wp_gaT ek (by omega) (wp_some ⟨?_, h3⟩)
        have this : v3.1 2 1 = nI (aT0 a ++ [b]).length := h3.2.1.1
        rw [gd_len] at this
        exact this
      · rw [b2_0] at c1
        have hl : (aT0 a).length = 39 := by
          rcases Nat.decEq (aT0 a).length 39 with z | z
          · exact absurd (decide_eq_false z) c1
          · exact z
        rw [if_pos hl]
        exact wp_some (OKX.same h (by omega))
    · have e0 : ¬ t = 0 := by rw [ek]; decide
      have hs : sp_type t b a = if (aT1 a).length = 16 then (-4, a) else (nI ((aT1 a).length + 1), (a.1, aT1 a ++ [b], a.2.2)) := by
        unfold sp_type
        rw [if_pos ⟨g1, g2⟩, if_neg e0]
      rw [hs]
      refine wp_bi (wp_of (tx_full h4)) ?_
      rintro r3 v1 ⟨rfl, rfl⟩
      refine wp_if (fun c1 => ?_) (fun c1 => ?_)
      · rw [b2_0] at c1
        have hl : (aT1 a).length ≠ 16 := of_decide_eq_false c1
        have hl2 := hO.2.1
        rw [if_neg hl]
        refine wp_gaT ek (by omega) (wp_bv (append_ok h4 (by show _ < 16; omega)) ?_)
        rintro v2 ⟨g3, g4, -⟩
        refine wp_bv (tellAnew_ok (hP.other (v' := v2) (fun q hq => g4 q (by omega) (by omega)) (l0 := aT0 a) (l1 := aT1 a ++ [b]) hO.1 (by rw [gd_len]; omega) (h2.kept (g4 _ (by omega) (by omega)) (g4 _ (by omega) (by omega))) g3)) ?_
        rintro v3 h3
        refine wp_gaT ek (by omega) (wp_some ⟨?_, h3⟩)
        have this : v3.1 4 1 = nI (aT1 a ++ [b]).length := h3.2.2.1.1
        rw [gd_len] at this
        exact this
      · rw [b2_0] at c1
        have hl : (aT1 a).length = 16 := by
          rcases Nat.decEq (aT1 a).length 16 with z | z
          · exact absurd (decide_eq_false z) c1
          · exact z
        rw [if_pos hl]
        exact wp_some (OKX.same h (by omega))
  · unfold sp_type
    rw [if_neg (fun q => g2 q.2)]
    exact wp_some (OKX.same h (by omega))
  · unfold sp_type
    rw [if_neg (fun q => g1 q.1)]
    exact wp_some (OKX.same h (by omega))
