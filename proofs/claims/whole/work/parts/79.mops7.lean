/-! THE REFERENCE: type, seen, sheets -/
theorem pr1 {α β γ : Type} {x : α} {v : β} {s : α × γ} (h : x = s.1) : ((x, v) : α × β).1 = s.1 := h
theorem type_M {u : gV} {a : Ab} {t b : Int32} (h : InvM u a) : OKM (f_X8_type t b u) (sp_type t b a) := by
  obtain ⟨-, t0, t1, -⟩ := id h
  have l0 := t0.2.1
  have l1 := t1.2.1
  unfold OKM f_X8_type
  refine wp_gt isTwo_M (fun c1 => ?_) (fun c1 => wp_gt (in_g 256 (by decide)) (fun c2 => ?_) (fun c2 => ?_))
  · have hs : sp_type t b a = (-2, a) := by unfold sp_type; rw [if_neg (fun q => by rw [c1] at q; exact Bool.false_ne_true q.1)]
    rw [hs]; exact wp_some ⟨rfl, h⟩
  · have hs : sp_type t b a = (-2, a) := by unfold sp_type; rw [if_neg (fun q => by rw [c2] at q; exact Bool.false_ne_true q.2)]
    rw [hs]; exact wp_some ⟨rfl, h⟩
  · obtain ⟨k, hk, -, ek, ck⟩ := gin_cl c1
    unfold f_X8_type_J39
    rcases (show k = 0 ∨ k = 1 by omega) with rfl | rfl
    · have e0 : t = 0 := ek
      have hs : sp_type t b a = if (aT0 a).length = 39 then (-4, a) else (nI ((aT0 a).length + 1), (aT0 a ++ [b], a.2)) := by
        unfold sp_type
        rw [if_pos ⟨c1, c2⟩, if_pos e0]
      rw [hs, ck, t0.1]
      refine wp_t c1 (wp_t e0 (wp_if (fun c3 => ?_) (fun c3 => ?_)))
      · rw [l_39, n_eq (by omega) (by omega)] at c3
        rw [if_pos c3]; exact wp_some ⟨rfl, h⟩
      · rw [l_39, n_eq (by omega) (by omega)] at c3
        have e4 : (40 : Int32) * t + nI (aT0 a).length = nI (aT0 a).length := by rw [ek, l_40, n_mul, n_add]; congr 1; omega
        rw [if_neg c3, e4, n_cl (by omega)]
        refine wp_t c1 (wp_t (gin_N (by omega) (by omega)) (wp_bd (wp_t c1 (wp_t c1 (wp_bd (wp_t c1 (wp_some ?_)))))))
        have e6 : (sI u 5 (aT0 a).length b).1 6 0 + 1 = nI ((aT0 a).length + 1) := by rw [sI_n (by omega), t0.1]; exact nI_1 _
        rw [e6]
        refine ⟨pr1 sI_s, txM (l0 := aT0 a ++ [b]) (l1 := aT1 a) h (fun q h5 h6 => by rw [sI_n h6, sI_n h5]) ⟨by rw [gd_len]; exact sI_s, by rw [gd_len]; omega, fun i hi => ?_⟩ ⟨?_, l1, fun i hi => ?_⟩⟩
        · rw [gd_len] at hi
          rw [sI_n (by omega)]
          by_cases e : i = (aT0 a).length
          · subst e; rw [sI_s, gd_r]
          · rw [sI_o e, gd_l (by omega)]; exact t0.2.2 i (by omega)
        · rw [sI_o (by omega), sI_n (by omega)]; exact t1.1
        · rw [sI_n (by omega), sI_o (by omega)]; exact t1.2.2 i hi
    · have e0 : ¬ t = 0 := by rw [ek]; decide
      have hs : sp_type t b a = if (aT1 a).length = 16 then (-4, a) else (nI ((aT1 a).length + 1), (a.1, aT1 a ++ [b], a.2.2)) := by
        unfold sp_type
        rw [if_pos ⟨c1, c2⟩, if_neg e0]
      rw [hs, ck, t1.1]
      refine wp_t c1 (wp_f e0 (wp_if (fun c3 => ?_) (fun c3 => ?_)))
      · rw [l_16, n_eq (by omega) (by omega)] at c3
        rw [if_pos c3]; exact wp_some ⟨rfl, h⟩
      · rw [l_16, n_eq (by omega) (by omega)] at c3
        have e4 : (40 : Int32) * t + nI (aT1 a).length = nI (40 + (aT1 a).length) := by rw [ek, l_40, n_mul, n_add]
        rw [if_neg c3, e4, n_cl (by omega)]
        refine wp_t c1 (wp_t (gin_N (by omega) (by omega)) (wp_bd (wp_t c1 (wp_t c1 (wp_bd (wp_t c1 (wp_some ?_)))))))
        have e6 : (sI u 5 (40 + (aT1 a).length) b).1 6 1 + 1 = nI ((aT1 a).length + 1) := by rw [sI_n (by omega), t1.1]; exact nI_1 _
        rw [e6]
        refine ⟨pr1 sI_s, txM (l0 := aT0 a) (l1 := aT1 a ++ [b]) h (fun q h5 h6 => by rw [sI_n h6, sI_n h5]) ⟨?_, l0, fun i hi => ?_⟩ ⟨by rw [gd_len]; exact sI_s, by rw [gd_len]; omega, fun i hi => ?_⟩⟩
        · rw [sI_o (by omega), sI_n (by omega)]; exact t0.1
        · rw [sI_n (by omega), sI_o (by omega)]; exact t0.2.2 i hi
        · rw [gd_len] at hi
          rw [sI_n (by omega)]
          by_cases e : i = (aT1 a).length
          · subst e; rw [sI_s, gd_r]
          · rw [sI_o (by omega), gd_l (by omega)]; exact t1.2.2 i (by omega)
/-- the tail of the state changes: seen, sheets, the finding -/
theorem newM {u u' : gV} {a : Ab} (tl : List (Nat × Nat × Nat) × (Nat → Int32) × (Nat → Nat) × (Nat → Nat → Int32) × Int32) (h : InvM u a) (hq : ∀ q, q = 5 ∨ q = 6 ∨ q = 9 ∨ q = 10 → u'.1 q = u.1 q) (tp : u'.1 0 13 = u.1 0 13) (hO : okAb (tl9 a tl)) (hN : SN8 u' tl.1) (hH : SH8 u' (tl9 a tl)) (hL : u'.1 0 4 = tl.2.2.2.2) : InvM u' (tl9 a tl) := by
  obtain ⟨-, t0, t1, w, s0, s1, s2, t9, -, -, -⟩ := h
  refine ⟨hO, ?_, ?_, fun j hj => ?_, ?_, ?_, ?_, tp.trans t9, hN, hH, hL⟩
  · unfold T0
    rw [hq 5 (by omega), hq 6 (by omega)]; exact t0
  · unfold T1
    rw [hq 5 (by omega), hq 6 (by omega)]; exact t1
  · rw [hq 9 (by omega)]; exact w j hj
  · rw [hq 10 (by omega)]; exact s0
  · rw [hq 10 (by omega)]; exact s1
  · rw [hq 10 (by omega)]; exact s2
theorem SN8.kept {u u' : gV} {l : List (Nat × Nat × Nat)} (h : SN8 u l) (h0 : u'.1 0 26 = u.1 0 26) (h1 : u'.1 19 = u.1 19) : SN8 u' l := by
  unfold SN8
  rw [h0, h1]; exact h
theorem SH8.kept {u u' : gV} {a a' : Ab} (h : SH8 u a) (h1 : u'.1 1 = u.1 1) (h2 : u'.1 2 = u.1 2) (h3 : u'.1 3 = u.1 3) (e1 : aSF a' = aSF a) (e2 : aSN a' = aSN a) (e3 : aSI a' = aSI a) : SH8 u' a' := by
  unfold SH8
  rw [h1, h2, h3, e1, e2, e3]; exact h
theorem finds_M {u : gV} {a : Ab} {k : Int32} (h : InvM u a) : OKM (bi (f_X8_finds k u) (fun r v1 => some (r, v1))) (fnd k a) := by
  obtain ⟨o1, o2, o3, o4, o5, o6, o7, o8, o9⟩ := id h.1
  unfold OKM f_X8_finds
  refine wp_bi (Q0 := fun z => z.1 = (fnd k a).1 ∧ InvM z.2 (fnd k a).2) (wp_bd (wp_some ⟨rfl, ?_⟩)) (fun r v1 hz => wp_some hz)
  exact newM (aS a, aSF a, aSN a, aSI a, k) h (fun q hq => sI_n (by omega)) (sI_o (by omega)) ⟨o1, o2, o3, o4, o5, o6, o7, o8, o9⟩ (h.2.2.2.2.2.2.2.2.1.kept (sI_o (by omega)) (sI_n (by omega))) (h.2.2.2.2.2.2.2.2.2.1.kept (sI_n (by omega)) (sI_n (by omega)) (sI_n (by omega)) rfl rfl rfl) sI_s
/-- one sheet changes -/
theorem shM {u u' : gV} {a : Ab} {s n : Nat} {f : Int32} {g : Nat → Int32} (h : InvM u a) (hq : ∀ q, q ≠ 1 → q ≠ 2 → q ≠ 3 → q ≠ 4 → u'.1 q = u.1 q) (h1 : ∀ k, k ≠ s → u'.1 1 k = u.1 1 k) (h2 : ∀ k, k ≠ s → u'.1 2 k = u.1 2 k) (h3 : ∀ j, (j < 60 * s ∨ 60 * s + 60 ≤ j) → u'.1 3 j = u.1 3 j) (hs : s < 4) (hf : f = -1 ∨ f = 0 ∨ f = 1 ∨ f = 2) (hn : n ≤ 60) (e1 : u'.1 1 s = f) (e2 : f ≠ -1 → u'.1 2 s = nI n ∧ ∀ j, j < n → u'.1 3 (60 * s + j) = g j) : InvM u' (shF s f n g a) := by
  obtain ⟨o1, o2, o3, o4, o5, o6, o7, o8, o9⟩ := id h.1
  refine newM (aS a, (fun k => if k = s then f else aSF a k), (fun k => if k = s then n else aSN a k), (fun k => if k = s then g else aSI a k), aLa a) h (fun q hz => hq q (by omega) (by omega) (by omega) (by omega)) (by rw [hq 0 (by omega) (by omega) (by omega) (by omega)]) ⟨o1, o2, o3, o4, o5, o6, o7, o8, fun k hk => ?_⟩ (h.2.2.2.2.2.2.2.2.1.kept (by rw [hq 0 (by omega) (by omega) (by omega) (by omega)]) (hq 19 (by omega) (by omega) (by omega) (by omega))) (fun k hk => ?_) (by rw [hq 0 (by omega) (by omega) (by omega) (by omega)]; exact h.2.2.2.2.2.2.2.2.2.2)
  · show ((if k = s then f else aSF a k) = -1 ∨ (if k = s then f else aSF a k) = 0 ∨ (if k = s then f else aSF a k) = 1 ∨ (if k = s then f else aSF a k) = 2) ∧ (if k = s then n else aSN a k) ≤ 60
    by_cases e : k = s
    · rw [if_pos e, if_pos e]; exact ⟨hf, hn⟩
    · rw [if_neg e, if_neg e]; exact o9 k hk
  · show u'.1 1 k = (if k = s then f else aSF a k) ∧ ((if k = s then f else aSF a k) ≠ -1 → u'.1 2 k = nI (if k = s then n else aSN a k) ∧ ∀ j, j < (if k = s then n else aSN a k) → u'.1 3 (60 * k + j) = (if k = s then g else aSI a k) j)
    by_cases e : k = s
    · rw [if_pos e, if_pos e, if_pos e, e]
      exact ⟨e1, e2⟩
    · rw [if_neg e, if_neg e, if_neg e, h1 k e, h2 k e]
      obtain ⟨z1, z2⟩ := h.2.2.2.2.2.2.2.2.2.1 k hk
      refine ⟨z1, fun q => ⟨(z2 q).1, fun j hj => ?_⟩⟩
      have := (o9 k hk).2
      rw [h3 _ (by omega)]
      exact (z2 q).2 j hj
/-- a form that isn't lost -/
theorem frm_p {f : Int32} (hf : f = -1 ∨ f = 0 ∨ f = 1 ∨ f = 2) : (0 ≤ f) ↔ f ≠ -1 := by
  rcases hf with rfl | rfl | rfl | rfl <;> decide
theorem frm_n {f : Int32} (hf : f = -1 ∨ f = 0 ∨ f = 1 ∨ f = 2) : (f < 0) ↔ f = -1 := by
  rcases hf with rfl | rfl | rfl | rfl <;> decide
theorem seesM {u u' : gV} {a : Ab} {l : List (Nat × Nat × Nat)} (h : InvM u a) (hq : ∀ q, q ≠ 0 → q ≠ 19 → u'.1 q = u.1 q) (h0 : ∀ j, j ≠ 26 → u'.1 0 j = u.1 0 j) (hl : l.length ≤ 8) (hz : ∀ z ∈ l, z.1 < 10 ∧ z.2.1 < 8 ∧ z.2.2 < 9) (hS : SN8 u' l) : InvM u' (sees l a) := by
  obtain ⟨o1, o2, o3, o4, o5, o6, o7, o8, o9⟩ := id h.1
  exact newM (l, a.2.2.2.2.2.2.2) h (fun q hz => hq q (by omega) (by omega)) (h0 13 (by omega)) ⟨o1, o2, o3, o4, o5, o6, hl, hz, o9⟩ hS (h.2.2.2.2.2.2.2.2.2.1.kept (hq 1 (by omega) (by omega)) (hq 2 (by omega) (by omega)) (hq 3 (by omega) (by omega)) rfl rfl rfl) (by rw [h0 4 (by omega)]; exact h.2.2.2.2.2.2.2.2.2.2)
theorem seen_M {u : gV} {a : Ab} {d r y : Int32} (h : InvM u a) : wp (f_X8_seen d r y u) (fun z => z.1 = (sp_seen d r y a).1 ∧ InvM z.2 (sp_seen d r y a).2 ∧ (∀ q, q ≠ 0 → q ≠ 19 → z.2.1 q = u.1 q)) := by
  have hO := h.1
  have hN := h.2.2.2.2.2.2.2.2.1
  have hl := hO.2.2.2.2.2.2.1
  unfold f_X8_seen
  refine wp_gt isDay_M (fun c1 => ?_) (fun c1 => wp_gt (in_g 8 (by decide)) (fun c2 => ?_) (fun c2 => wp_gt (in_g 9 (by decide)) (fun c3 => ?_) (fun c3 => ?_)))
  · have hs : sp_seen d r y a = (-2, a) := by unfold sp_seen okT; rw [c1]; rfl
    rw [hs]; exact wp_some ⟨rfl, h, fun _ _ _ => rfl⟩
  · have hs : sp_seen d r y a = (-2, a) := by unfold sp_seen okT; rw [c1, c2]; rfl
    rw [hs]; exact wp_some ⟨rfl, h, fun _ _ _ => rfl⟩
  · have hs : sp_seen d r y a = (-2, a) := by unfold sp_seen okT; rw [c1, c2, c3]; rfl
    rw [hs]; exact wp_some ⟨rfl, h, fun _ _ _ => rfl⟩
  · have hs : sp_seen d r y a = (if (aS a).length = 8 then (-4, a) else (nI ((aS a).length + 1), sees (aS a ++ [(d.toNatClampNeg, r.toNatClampNeg, y.toNatClampNeg)]) a)) := by unfold sp_seen okT; rw [c1, c2, c3]; rfl
    rw [hs, hN.1]
    refine wp_if (fun c4 => ?_) (fun c4 => ?_)
    · rw [l_8, n_eq (by omega) (by omega)] at c4
      rw [if_pos c4]; exact wp_some ⟨rfl, h, fun _ _ _ => rfl⟩
    · rw [l_8, n_eq (by omega) (by omega)] at c4
      rw [if_neg c4]
      obtain ⟨d', q1, -, rfl, e1⟩ := gin_cl c1
      obtain ⟨r', q2, -, rfl, e2⟩ := gin_cl c2
      obtain ⟨y', q3, -, rfl, e3⟩ := gin_cl c3
      rw [e1, e2, e3, l_3, n_mul, n_cl (a := 3 * (aS a).length) (by omega)]
      generalize hL : aS a = l at *
      refine wp_t (gin_N (by omega) (by omega)) (wp_bd ?_)
      have f1 : (sI u 19 (3 * l.length) (nI d')).1 0 26 = nI l.length := by rw [sI_n (by omega)]; exact hN.1
      rw [f1, n_mul, l_1, n_add, n_cl (a := 3 * l.length + 1) (by omega)]
      refine wp_t (gin_N (by omega) (by omega)) (wp_bd ?_)
      have f2 : (sI (sI u 19 (3 * l.length) (nI d')) 19 (3 * l.length + 1) (nI r')).1 0 26 = nI l.length := by rw [sI_n (by omega)]; exact f1
      rw [f2, n_mul, l_2, n_add, n_cl (a := 3 * l.length + 2) (by omega)]
      refine wp_t (gin_N (by omega) (by omega)) (wp_bd ?_)
      have f3 : (sI (sI (sI u 19 (3 * l.length) (nI d')) 19 (3 * l.length + 1) (nI r')) 19 (3 * l.length + 2) (nI y')).1 0 26 = nI l.length := by rw [sI_n (by omega)]; exact f2
      rw [f3, n_add]
      obtain ⟨k1, k2⟩ := sees_ok hO (d := d') (r := r') (y := y') (by rw [hL]; omega) q1 q2 q3
      rw [hL] at k1 k2
      refine wp_bd (wp_some ⟨pr1 sI_s, seesM h (fun q h0 h19 => by rw [sI_n h0, sI_n h19, sI_n h19, sI_n h19]) (fun j hj => by rw [sI_o hj, sI_n (by omega), sI_n (by omega), sI_n (by omega)]) k1 k2 ⟨?_, fun i hi => ?_⟩, fun q h0 h19 => ?_⟩)
      · rw [sI_s, List.length_append]; rfl
      · rw [List.length_append] at hi
        have hi : i < l.length + 1 := hi
        rw [gd3 hi, sI_n (by omega)]
        by_cases e : i = l.length
        · subst e
          rw [if_pos rfl]
          refine ⟨?_, ?_, ?_⟩
          · rw [sI_o (by omega), sI_o (by omega), sI_s]
          · rw [sI_o (by omega), sI_s]
          · rw [sI_s]
        · rw [if_neg e]
          obtain ⟨z1, z2, z3⟩ := hN.2 i (by omega)
          refine ⟨?_, ?_, ?_⟩
          · rw [sI_o (by omega), sI_o (by omega), sI_o (by omega)]; exact z1
          · rw [sI_o (by omega), sI_o (by omega), sI_o (by omega)]; exact z2
          · rw [sI_o (by omega), sI_o (by omega), sI_o (by omega)]; exact z3
      · show (sI _ 0 26 _).1 q = _
        rw [sI_n h0, sI_n h19, sI_n h19, sI_n h19]
theorem seenM {u : gV} {a : Ab} {d r y : Int32} (h : InvM u a) : OKM (f_X8_seen d r y u) (sp_seen d r y a) := wp_mono (seen_M h) (fun z hz => ⟨hz.1, hz.2.1⟩)
