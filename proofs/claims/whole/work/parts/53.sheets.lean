/-! THE CALLS: sheets -/
def shF (s : Nat) (f : Int32) (n : Nat) (g : Nat → Int32) (a : Ab) : Ab := tl9 a (aS a, (fun k => if k = s then f else aSF a k), (fun k => if k = s then n else aSN a k), (fun k => if k = s then g else aSI a k), aLa a)
def fnd (k : Int32) (a : Ab) : Int32 × Ab := (-10 - k, tl9 a (aS a, aSF a, aSN a, aSI a, k))
def cut (f x : Int32) : Int32 := if f = 0 then x.toInt8.toInt32 else if f = 1 then x.toInt16.toInt32 else x
def hasI (N : Nat) (i n : Int32) : Bool := decide (0 ≤ i.toInt ∧ 0 ≤ n.toInt ∧ i.toInt + n.toInt ≤ (N : Int))
def sp_sheet (s f n : Int32) (a : Ab) : Int32 × Ab := if gin s 4 = true ∧ gin f 3 = true ∧ n ≤ 60 then (if 0 ≤ n then (n, shF (s.toNatClampNeg) f (n.toNatClampNeg) (fun _ => 0) a) else fnd 5 a) else (-2, a)
def sp_lose (s : Int32) (a : Ab) : Int32 × Ab := if gin s 4 = true then (if aSF a (s.toNatClampNeg) = -1 then fnd 1 a else (nI (aSN a (s.toNatClampNeg)), shF (s.toNatClampNeg) (-1) 0 (aSI a (s.toNatClampNeg)) a)) else (-2, a)
def refv (s f i : Int32) (a : Ab) : Int32 × Ab := if gin s 4 = true ∧ gin f 3 = true then (if aSF a (s.toNatClampNeg) = -1 then fnd 1 a else if aSF a (s.toNatClampNeg) = f then (if gin i (aSN a (s.toNatClampNeg)) = true then (0, a) else fnd 2 a) else fnd 3 a) else (-2, a)
def sp_get (s f i : Int32) (a : Ab) : Int32 × Ab := if (refv s f i a).1 = 0 then (aSI a (s.toNatClampNeg) (i.toNatClampNeg), a) else (-2147483648, (refv s f i a).2)
def sp_lay (s f i x : Int32) (a : Ab) : Int32 × Ab := if (refv s f i a).1 = 0 then (1, shF (s.toNatClampNeg) (aSF a (s.toNatClampNeg)) (aSN a (s.toNatClampNeg)) (upd (aSI a (s.toNatClampNeg)) (i.toNatClampNeg) (cut f x)) a) else refv s f i a
def sp_copy (s i t j n : Int32) (a : Ab) : Int32 × Ab := if gin s 4 = true ∧ gin t 4 = true then (if aSF a (s.toNatClampNeg) = -1 ∨ aSF a (t.toNatClampNeg) = -1 then fnd 1 a else if aSF a (s.toNatClampNeg) = aSF a (t.toNatClampNeg) then (if hasI (aSN a (s.toNatClampNeg)) i n = true ∧ hasI (aSN a (t.toNatClampNeg)) j n = true then (1, shF (t.toNatClampNeg) (aSF a (t.toNatClampNeg)) (aSN a (t.toNatClampNeg)) (va_cpy (aSI a (s.toNatClampNeg)) (aSI a (t.toNatClampNeg)) (i.toNatClampNeg) (j.toNatClampNeg) (n.toNatClampNeg)) a) else fnd 2 a) else fnd 4 a) else (-2, a)
def wrt (f : Int32) (l : List Int32) (m : Nat) (g : Nat → Int32) : Nat → Int32 := fun k => if k < m then cut f (l.getD k 0) else g k
def sp_write (d s : Int32) (a : Ab) : Int32 × Ab := if gin d 10 = true ∧ gin s 4 = true then (if aSF a (s.toNatClampNeg) = -1 then fnd 1 a else (nI (min (aSN a (s.toNatClampNeg)) (beh a (d.toNatClampNeg)).1.2.1.length), shF (s.toNatClampNeg) (aSF a (s.toNatClampNeg)) (aSN a (s.toNatClampNeg)) (wrt (aSF a (s.toNatClampNeg)) (beh a (d.toNatClampNeg)).1.2.1 (min (aSN a (s.toNatClampNeg)) (beh a (d.toNatClampNeg)).1.2.1.length) (aSI a (s.toNatClampNeg))) a)) else (-2, a)
def rd (g : Nat → Int32) (n : Nat) : Nat → Nat → List (Nat × Nat × Nat) → Nat × List (Nat × Nat × Nat)
  | 0, k, l => (k, l)
  | m + 1, k, l => if (3 * k + 3 ≤ n ∧ l.length < 8) ∧ okT (g (3 * k)) (g (3 * k + 1)) (g (3 * k + 2)) = true then rd g n m (k + 1) (l ++ [((g (3 * k)).toNatClampNeg, (g (3 * k + 1)).toNatClampNeg, (g (3 * k + 2)).toNatClampNeg)]) else (k, l)
def sp_read (s : Int32) (a : Ab) : Int32 × Ab := if gin s 4 = true then (if aSF a (s.toNatClampNeg) = -1 then fnd 1 a else (nI (rd (aSI a (s.toNatClampNeg)) (aSN a (s.toNatClampNeg)) 20 0 (aS a)).1, sees (rd (aSI a (s.toNatClampNeg)) (aSN a (s.toNatClampNeg)) 20 0 (aS a)).2 a)) else (-2, a)
theorem kS_at {k : Nat} (h : k < 4) : ([100, 102, 104, 106] : List Nat).getD k 0 = 100 + 2 * k ∧ kS (100 + 2 * k) = true := by
  rcases (show k = 0 ∨ k = 1 ∨ k = 2 ∨ k = 3 by omega) with rfl | rfl | rfl | rfl <;> exact ⟨rfl, rfl⟩
theorem wp_gaS {ρ : Type} {k : Nat} {f : Nat → Option ρ} {Q : ρ → Prop} (hk : k < 4) (h : wp (f (100 + 2 * k)) Q) : wp (ga (nI k) [100, 102, 104, 106] kS f) Q := by
  obtain ⟨e1, e2⟩ := kS_at hk
  refine wp_ga (by simpa using hk) (by simp) (by rw [e1]; exact e2) ?_
  rw [e1]; exact h
theorem InvX.sh {v v' : gV} {a : Ab} {c s n : Nat} {f : Int32} {g : Nat → Int32} (h : InvX v a c) (hq : ∀ q, q ≠ 100 + 2 * s → q ≠ 100 + 2 * s + 1 → v'.1 q = v.1 q) (h2 : v'.2 = v.2) (hs : s < 4) (hf : f = -1 ∨ f = 0 ∨ f = 1 ∨ f = 2) (hn : n ≤ 60) (h0 : v'.1 (100 + 2 * s) 0 = f) (h1 : f ≠ -1 → v'.1 (100 + 2 * s) 1 = nI n ∧ ∀ j, j < n → v'.1 (100 + 2 * s + 1) j = g j) : InvX v' (shF s f n g a) c := by
  obtain ⟨o1, o2, o3, o4, o5, o6, o7, o8, o9⟩ := id h.1
  refine InvX.new (aS a, (fun k => if k = s then f else aSF a k), (fun k => if k = s then n else aSN a k), (fun k => if k = s then g else aSI a k), aLa a) h (fun q _ h9 => hq q (by omega) (by omega)) h2 ⟨o1, o2, o3, o4, o5, o6, o7, o8, fun k hk => ?_⟩ ?_ (fun k hk => ?_) (by rw [hq 0 (by omega) (by omega)]; exact h.2.2.2.2.2.2.2.2)
  · show ((if k = s then f else aSF a k) = -1 ∨ (if k = s then f else aSF a k) = 0 ∨ (if k = s then f else aSF a k) = 1 ∨ (if k = s then f else aSF a k) = 2) ∧ (if k = s then n else aSN a k) ≤ 60
    by_cases e : k = s
    · rw [if_pos e, if_pos e]; exact ⟨hf, hn⟩
    · rw [if_neg e, if_neg e]; exact o9 k hk
  · have b7 := h.2.2.2.2.2.2.1
    unfold SNi at b7 ⊢
    rw [hq 95 (by omega) (by omega), hq 96 (by omega) (by omega), hq 97 (by omega) (by omega), hq 98 (by omega) (by omega)]
    exact b7
  · show v'.1 (100 + 2 * k) 0 = (if k = s then f else aSF a k) ∧ ((if k = s then f else aSF a k) ≠ -1 → v'.1 (100 + 2 * k) 1 = nI (if k = s then n else aSN a k) ∧ ∀ j, j < (if k = s then n else aSN a k) → v'.1 (100 + 2 * k + 1) j = (if k = s then g else aSI a k) j)
    by_cases e : k = s
    · rw [if_pos e, if_pos e, if_pos e, e]
      exact ⟨h0, h1⟩
    · rw [if_neg e, if_neg e, if_neg e, hq _ (by omega) (by omega), hq _ (by omega) (by omega)]
      exact h.2.2.2.2.2.2.2.1 k hk
theorem finding_ok {v : gV} {a : Ab} {c : Nat} {k : Int32} (h : InvX v a c) (hc : c < 999980) : OKX (f_X7_finding k v) (fnd k a) c := by
  unfold OKX f_X7_finding
  refine wp_bd (wp_some ⟨rfl, ?_⟩)
  obtain ⟨o1, o2, o3, o4, o5, o6, o7, o8, o9⟩ := id h.1
  refine InvX.mono (c := c) (InvX.new (aS a, aSF a, aSN a, aSI a, k) h (fun q h0 h9 => sI_n (by omega)) rfl ⟨o1, o2, o3, o4, o5, o6, o7, o8, o9⟩ ?_ (fun s hs => ?_) sI_s) (Nat.le_succ c) (by omega)
  · have b7 := h.2.2.2.2.2.2.1
    unfold SNi at b7 ⊢
    rw [sI_n (by omega), sI_n (by omega), sI_n (by omega), sI_n (by omega)]
    exact b7
  · rw [sI_n (by omega), sI_n (by omega)]
    exact h.2.2.2.2.2.2.2.1 s hs
theorem find_then {v : gV} {a : Ab} {c : Nat} {k : Int32} (h : InvX v a c) (hc : c < 999980) : OKX (bi (f_X7_finding k v) (fun r v1 => some (r, v1))) (fnd k a) c := by
  refine wp_bi (finding_ok h hc) ?_
  rintro r v1 hq
  exact wp_some hq
theorem isLost_ok {v : gV} {a : Ab} {c s : Nat} (h : InvX v a c) (hs : s < 4) : f_X2_isLost (100 + 2 * s) v = some (b2 (decide (aSF a s = -1)), v) := by
  apply wp_is
  unfold f_X2_isLost
  rw [(h.2.2.2.2.2.2.2.1 s hs).1]
  refine wp_if (fun c1 => ?_) (fun c1 => ?_)
  · exact b1 (Or.inr rfl) (by rw [decide_eq_true c1]; rfl)
  · exact b1 (Or.inl rfl) (by rw [decide_eq_false c1]; rfl)
theorem hasItems_ok {v : gV} {b N : Nat} {i n : Int32} (h : v.1 b 1 = nI N) (hN : N ≤ 60) : f_X2_hasItems b i n v = some (b2 (hasI N i n), v) := by
  apply wp_is
  have e0 : (0 : Int32).toInt = 0 := by decide
  have ni := i_rng i
  have nn := i_rng n
  have hno : ∀ (q : ¬ (0 ≤ i.toInt ∧ 0 ≤ n.toInt ∧ i.toInt + n.toInt ≤ (N : Int))), ((0 : Int32), v) = (b2 (hasI N i n), v) := fun q => by
    unfold hasI b2
    rw [decide_eq_false q]
    rfl
  unfold f_X2_hasItems
  rw [h]
  refine wp_if (fun c1 => ?_) (fun c1 => wp_if (fun c2 => ?_) (fun c2 => wp_if (fun c3 => ?_) (fun c3 => ?_)))
  · rw [i_lt, e0] at c1
    exact b1 (Or.inl rfl) (hno (by omega))
  · rw [i_lt, e0] at c2
    exact b1 (Or.inl rfl) (hno (by omega))
  · rw [i_lt, e0] at c2
    rw [i_lt, n_ti (by omega)] at c3
    exact b1 (Or.inl rfl) (hno (by omega))
  · rw [i_lt, e0] at c1 c2
    rw [i_lt, n_ti (by omega)] at c3
    obtain ⟨k, hk, rfl, -⟩ := i_of (x := i) (by omega)
    obtain ⟨m, hm, rfl, -⟩ := i_of (x := n) (by omega)
    rw [n_ti hk] at c3
    rw [n_sub (by omega)]
    refine wp_if (fun c4 => ?_) (fun c4 => ?_)
    · rw [n_lt (by omega) (by omega)] at c4
      exact b1 (Or.inl rfl) (hno (by rw [n_ti hk, n_ti hm]; omega))
    · rw [n_lt (by omega) (by omega)] at c4
      refine b1 (Or.inr rfl) ?_
      unfold hasI b2
      rw [decide_eq_true (by rw [n_ti hk, n_ti hm]; omega)]
      rfl
theorem put_ok {v : gV} {b N i : Nat} {x f : Int32} (h0 : v.1 b 0 = f) (h : v.1 b 1 = nI N) (hN : N ≤ 60) (hi : i < N) : f_X2_put b (nI i) x v = some (sI v (b + 1) i (cut f x)) := by
  apply wp_is
  unfold f_X2_put f_X2_put_J43 cut
  rw [h, h0]
  have gi := gin_N (i := i) (n := 60) (by omega) (by omega)
  refine wp_f (by rw [l_0, n_lt (by omega) (by omega)]; omega) (wp_f (by rw [n_le (by omega) (by omega)]; omega) (wp_if (fun c1 => ?_) (fun c1 => wp_if (fun c2 => ?_) (fun c2 => ?_))))
  · refine wp_t gi (wp_bd (wp_some ?_))
    rw [if_pos c1, n_cl (by omega)]
  · refine wp_t gi (wp_bd (wp_some ?_))
    rw [if_neg c1, if_pos c2, n_cl (by omega)]
  · refine wp_t gi (wp_bd (wp_some ?_))
    rw [if_neg c1, if_neg c2, n_cl (by omega)]
theorem gin3 {f : Int32} (h : gin f 3 = true) : f = 0 ∨ f = 1 ∨ f = 2 := by
  obtain ⟨k, hk, -, rfl, -⟩ := gin_cl h
  rcases (show k = 0 ∨ k = 1 ∨ k = 2 by omega) with rfl | rfl | rfl
  · exact Or.inl rfl
  · exact Or.inr (Or.inl rfl)
  · exact Or.inr (Or.inr rfl)
theorem sheet_X {v : gV} {a : Ab} {c : Nat} {s f n : Int32} (h : InvX v a c) (hc : c < 999980) : OKX (f_X7_sheet s f n v) (sp_sheet s f n a) c := by
  unfold OKX f_X7_sheet
  refine wp_out 4 (by omega) (fun g1 => wp_out 3 (by omega) (fun g2 => wp_if (fun c1 => wp_if (fun c2 => ?_) (fun c2 => ?_)) (fun c1 => ?_)) (fun g2 => ?_)) (fun g1 => ?_)
  · have hs : sp_sheet s f n a = (n, shF (s.toNatClampNeg) f (n.toNatClampNeg) (fun _ => 0) a) := by unfold sp_sheet; rw [if_pos ⟨g1, g2, c1⟩, if_pos c2]
    rw [hs]
    obtain ⟨k, hk, -, rfl, ck⟩ := gin_cl g1
    rw [ck]
    rw [i_le] at c1 c2
    obtain ⟨m, hm, rfl, em⟩ := i_of (x := n) (by have e0 : (0 : Int32).toInt = 0 := by decide
                                                 omega)
    have e60 : (60 : Int32).toInt = 60 := by decide
    rw [n_cl hm]
    refine wp_gaS hk ?_
    refine wp_bv (Q0 := fun v' => InvX v' (shF k f m (fun _ => 0) a) c) ?_ (fun v' hv => wp_some ⟨rfl, hv.mono (Nat.le_succ c) (by omega)⟩)
    unfold f_X2_startAnew
    refine wp_bd (wp_bd (wp_bv (fill_ok (by omega)) ?_))
    rintro v3 ⟨z1, z2, z3⟩
    refine wp_some (h.sh (fun q q1 q2 => ?_) z3 hk (Or.inr (gin3 g2)) (by omega) ?_ (fun _ => ⟨?_, fun j hj => z1 j (by omega)⟩))
    · rw [z2 q q2, sI_n q1, sI_n q1]
    · rw [z2 _ (by omega), sI_o (by omega), sI_s]
    · rw [z2 _ (by omega), sI_s]
  · have hs : sp_sheet s f n a = fnd 5 a := by unfold sp_sheet; rw [if_pos ⟨g1, g2, c1⟩, if_neg c2]
    rw [hs]
    exact find_then h hc
  · have hs : sp_sheet s f n a = (-2, a) := by unfold sp_sheet; rw [if_neg (fun q => c1 q.2.2)]
    rw [hs]
    exact wp_some (OKX.same h (by omega))
  · have hs : sp_sheet s f n a = (-2, a) := by unfold sp_sheet; rw [if_neg (fun q => g2 q.2.1)]
    rw [hs]
    exact wp_some (OKX.same h (by omega))
  · have hs : sp_sheet s f n a = (-2, a) := by unfold sp_sheet; rw [if_neg (fun q => g1 q.1)]
    rw [hs]
    exact wp_some (OKX.same h (by omega))
theorem ne_d {p : Prop} [Decidable p] (h : ¬ decide p = false) : p := by
  by_cases q : p
  · exact q
  · exact absurd (decide_eq_false q) h
theorem lose_X {v : gV} {a : Ab} {c : Nat} {s : Int32} (h : InvX v a c) (hc : c < 999980) : OKX (f_X7_lose s v) (sp_lose s a) c := by
  unfold OKX f_X7_lose
  refine wp_out 4 (by omega) (fun g1 => ?_) (fun g1 => ?_)
  · obtain ⟨k, hk, -, rfl, ck⟩ := gin_cl g1
    refine wp_gaS hk (wp_bi (wp_of (isLost_ok h hk)) ?_)
    rintro r v1 ⟨rfl, rfl⟩
    refine wp_if (fun c1 => ?_) (fun c1 => ?_)
    · rw [b2_0] at c1
      have c1 := of_decide_eq_false c1
      have hs : sp_lose (nI k) a = (nI (aSN a k), shF k (-1) 0 (aSI a k) a) := by unfold sp_lose; rw [if_pos g1, ck, if_neg c1]
      rw [hs]
      have e1 := ((h.2.2.2.2.2.2.2.1 k hk).2 c1).1
      refine wp_gaS hk (wp_bd (wp_gaS hk ?_))
      unfold f_X2_giveUp
      refine wp_bv (wp_bd (wp_bd (wp_some (Q := fun v' => InvX v' (shF k (-1) 0 (aSI a k) a) c) (h.sh (fun q q1 q2 => ?_) rfl hk (Or.inl rfl) (by omega) ?_ (fun q => absurd rfl q))))) (fun v' hv => wp_some ⟨e1, hv.mono (Nat.le_succ c) (by omega)⟩)
      · rw [sI_n q1, sI_n q1]
      · rw [sI_o (by omega), sI_s]
    · rw [b2_0] at c1
      have c1 := ne_d c1
      have hs : sp_lose (nI k) a = fnd 1 a := by unfold sp_lose; rw [if_pos g1, ck, if_pos c1]
      rw [hs]
      exact find_then h hc
  · have hs : sp_lose s a = (-2, a) := by unfold sp_lose; rw [if_neg g1]
    rw [hs]
    exact wp_some (OKX.same h (by omega))
theorem gin_has {N : Nat} {i : Int32} (hN : N ≤ 60) : hasI N i 1 = gin i N := by
  unfold hasI gin
  have e1 : (1 : Int32).toInt = 1 := by decide
  rw [e1]
  by_cases q : 0 ≤ i.toInt ∧ i.toInt < (N : Int)
  · rw [decide_eq_true q, decide_eq_true (by omega)]
  · rw [decide_eq_false q, decide_eq_false (by omega)]
theorem refusal_ok {v : gV} {a : Ab} {c : Nat} {s f i : Int32} (h : InvX v a c) (hc : c < 999980) : wp (f_X7_refusalOfItem s f i v) (fun z => z.1 = (refv s f i a).1 ∧ InvX z.2 (refv s f i a).2 (c + 1) ∧ (z.1 = 0 → z.2 = v ∧ gin s 4 = true ∧ gin i (aSN a (s.toNatClampNeg)) = true ∧ aSF a (s.toNatClampNeg) ≠ -1 ∧ aSF a (s.toNatClampNeg) = f)) := by
  have ff : ∀ (k : Int32) (hk : k = 1 ∨ k = 2 ∨ k = 3), wp (bi (f_X7_finding k v) (fun r v1 => some (r, v1))) (fun z => z.1 = (fnd k a).1 ∧ InvX z.2 (fnd k a).2 (c + 1) ∧ (z.1 = 0 → z.2 = v ∧ gin s 4 = true ∧ gin i (aSN a (s.toNatClampNeg)) = true ∧ aSF a (s.toNatClampNeg) ≠ -1 ∧ aSF a (s.toNatClampNeg) = f)) := fun k hk => by
    refine wp_mono (find_then h hc) (fun z hz => ⟨hz.1, hz.2, fun q => ?_⟩)
    have := hz.1
    rw [q] at this
    have this : (0 : Int32) = -10 - k := this
    rcases hk with rfl | rfl | rfl
    · exact absurd this (by decide)
    · exact absurd this (by decide)
    · exact absurd this (by decide)
  unfold f_X7_refusalOfItem
  refine wp_out 4 (by omega) (fun g1 => wp_out 3 (by omega) (fun g2 => ?_) (fun g2 => ?_)) (fun g1 => ?_)
  · obtain ⟨k, hk, -, rfl, ck⟩ := gin_cl g1
    refine wp_gaS hk (wp_bi (wp_of (isLost_ok h hk)) ?_)
    rintro r v1 ⟨rfl, rfl⟩
    refine wp_if (fun c1 => ?_) (fun c1 => ?_)
    · rw [b2_0] at c1
      have c1 := of_decide_eq_false c1
      obtain ⟨e0, e1⟩ := h.2.2.2.2.2.2.2.1 k hk
      have e1 := (e1 c1).1
      have hN := (h.1.2.2.2.2.2.2.2.2 k hk).2
      refine wp_gaS hk ?_
      rw [e0]
      refine wp_if (fun c2 => ?_) (fun c2 => ?_)
      · refine wp_gaS hk (wp_bi (wp_of (hasItems_ok e1 hN)) ?_)
        rintro r v2 ⟨rfl, rfl⟩
        rw [gin_has hN]
        refine wp_if (fun c3 => ?_) (fun c3 => ?_)
        · rw [b2_0] at c3
          have hs : refv (nI k) f i a = fnd 2 a := by unfold refv; rw [if_pos ⟨g1, g2⟩, ck, if_neg c1, if_pos c2, if_neg (by rw [c3]; exact Bool.false_ne_true)]
          rw [hs]
          exact ff 2 (by simp)
        · rw [b2_0] at c3
          have c3 : gin i (aSN a k) = true := by simpa using c3
          have hs : refv (nI k) f i a = (0, a) := by unfold refv; rw [if_pos ⟨g1, g2⟩, ck, if_neg c1, if_pos c2, if_pos c3]
          rw [hs]
          exact wp_some ⟨rfl, h.mono (Nat.le_succ c) (by omega), fun _ => ⟨rfl, g1, by rw [ck]; exact c3, by rw [ck]; exact c1, by rw [ck]; exact c2⟩⟩
      · have hs : refv (nI k) f i a = fnd 3 a := by unfold refv; rw [if_pos ⟨g1, g2⟩, ck, if_neg c1, if_neg c2]
        rw [hs]
        exact ff 3 (by simp)
    · rw [b2_0] at c1
      have c1 := ne_d c1
      have hs : refv (nI k) f i a = fnd 1 a := by unfold refv; rw [if_pos ⟨g1, g2⟩, ck, if_pos c1]
      rw [hs]
      exact ff 1 (by simp)
  · have hs : refv s f i a = (-2, a) := by unfold refv; rw [if_neg (fun q => g2 q.2)]
    rw [hs]
    exact wp_some ⟨rfl, h.mono (Nat.le_succ c) (by omega), fun q => absurd (show (-2 : Int32) = 0 from q) (by decide)⟩
  · have hs : refv s f i a = (-2, a) := by unfold refv; rw [if_neg (fun q => g1 q.1)]
    rw [hs]
    exact wp_some ⟨rfl, h.mono (Nat.le_succ c) (by omega), fun q => absurd (show (-2 : Int32) = 0 from q) (by decide)⟩
theorem get_X {v : gV} {a : Ab} {c : Nat} {s f i : Int32} (h : InvX v a c) (hc : c < 999980) : OKX (f_X7_get s f i v) (sp_get s f i a) c := by
  unfold OKX f_X7_get
  refine wp_bi (refusal_ok h hc) ?_
  rintro r v1 ⟨z1, z2, z3⟩
  have z1 : r = (refv s f i a).1 := z1
  have z2 : InvX v1 (refv s f i a).2 (c + 1) := z2
  refine wp_if (fun c1 => ?_) (fun c1 => ?_)
  · have hs : sp_get s f i a = (aSI a (s.toNatClampNeg) (i.toNatClampNeg), a) := by unfold sp_get; rw [if_pos (z1.symm.trans c1)]
    obtain ⟨e1, g1, g2, g3, g4⟩ := z3 c1
    have e1 : v1 = v := e1
    subst e1
    rw [hs]
    obtain ⟨k, hk, -, rfl, ck⟩ := gin_cl g1
    rw [ck] at g2 g3 ⊢
    obtain ⟨m, hm, -, rfl, cm⟩ := gin_cl g2
    rw [cm]
    have hN := (h.1.2.2.2.2.2.2.2.2 k hk).2
    refine wp_gaS hk (wp_t (gin_N (by omega) (by omega)) (wp_some ⟨?_, h.mono (Nat.le_succ c) (by omega)⟩))
    show v1.1 (100 + 2 * k + 1) _ = aSI a k m
    rw [← ((h.2.2.2.2.2.2.2.1 k hk).2 g3).2 m hm]
  · have hs : sp_get s f i a = (-2147483648, (refv s f i a).2) := by unfold sp_get; rw [if_neg (fun q => c1 (z1.trans q))]
    rw [hs]
    exact wp_some ⟨rfl, z2⟩
theorem lay_X {v : gV} {a : Ab} {c : Nat} {s f i x : Int32} (h : InvX v a c) (hc : c < 999980) : OKX (f_X7_lay s f i x v) (sp_lay s f i x a) c := by
  unfold OKX f_X7_lay
  refine wp_bi (refusal_ok h hc) ?_
  rintro r v1 ⟨z1, z2, z3⟩
  have z1 : r = (refv s f i a).1 := z1
  have z2 : InvX v1 (refv s f i a).2 (c + 1) := z2
  refine wp_if (fun c1 => ?_) (fun c1 => ?_)
  · have hs : sp_lay s f i x a = (1, shF (s.toNatClampNeg) (aSF a (s.toNatClampNeg)) (aSN a (s.toNatClampNeg)) (upd (aSI a (s.toNatClampNeg)) (i.toNatClampNeg) (cut f x)) a) := by unfold sp_lay; rw [if_pos (z1.symm.trans c1)]
    obtain ⟨e1, g1, g2, g3, g4⟩ := z3 c1
    have e1 : v1 = v := e1
    subst e1
    rw [hs]
    obtain ⟨k, hk, -, rfl, ck⟩ := gin_cl g1
    rw [ck] at g2 g3 g4 ⊢
    obtain ⟨m, hm, -, rfl, cm⟩ := gin_cl g2
    rw [cm]
    obtain ⟨hF, hN⟩ := h.1.2.2.2.2.2.2.2.2 k hk
    obtain ⟨e0, e1⟩ := h.2.2.2.2.2.2.2.1 k hk
    obtain ⟨e1, e2⟩ := e1 g3
    subst g4
    refine wp_gaS hk (wp_bv (wp_of (put_ok e0 e1 hN hm)) ?_)
    rintro v2 rfl
    refine wp_some ⟨rfl, (h.sh (fun q q1 q2 => sI_n q2) rfl hk hF hN (by rw [sI_n (by omega)]; exact e0) (fun _ => ⟨by rw [sI_n (by omega)]; exact e1, fun j hj => ?_⟩)).mono (Nat.le_succ c) (by omega)⟩
    by_cases e : j = m
    · subst e; rw [sI_s, up_s]
    · rw [sI_o e, up_n e]; exact e2 j hj
  · have hs : sp_lay s f i x a = refv s f i a := by unfold sp_lay; rw [if_neg (fun q => c1 (z1.trans q))]
    rw [hs]
    exact wp_some ⟨z1, z2⟩
