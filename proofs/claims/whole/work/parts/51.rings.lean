/-! THE CALLS: rings, open -/
def rg1 (l : List Int32) (i j k : Nat) : Bool := decide (rWt l i = rSt l j ∧ rWt l j = rSt l k ∧ rWt l k = rSt l i ∧ rWt l i ≠ rSt l i ∧ rWt l j ≠ rSt l j ∧ rWt l k ≠ rSt l k)
def rg (l : List Int32) (i j k : Nat) : Bool := rg1 l i j k || rg1 l i k j
/-- the codes 64 a + 8 b + c of the rings -/
def rc (l : List Int32) (c : Nat) : Bool := decide (c / 64 < c / 8 % 8 ∧ c / 8 % 8 < c % 8 ∧ c % 8 < nRi l) && rg l (c / 64) (c / 8 % 8) (c % 8)
def rcN (l : List Int32) (c : Nat) : Nat := smN (fun k => if rc l k = true then 1 else 0) c
def rcL (l : List Int32) (c : Nat) : Int32 := if lst (rc l) c 0 < c then nI (lst (rc l) c 0) else -1
def ringv (a : Ab) (w : Int32) : Int32 := if w = 0 then nI (rcN (aT0 a) 512) else rcL (aT0 a) 512
def sp_rings (w : Int32) (a : Ab) : Int32 × Ab := if gin w 2 = true then (ringv a w, a) else (-2, a)
theorem rc_skip {l : List Int32} {c : Nat} : ∀ {c' : Nat}, c ≤ c' → (∀ k, c ≤ k → k < c' → rc l k = false) → rcN l c' = rcN l c ∧ rcL l c' = rcL l c := by
  intro c' h
  induction c' with
  | zero => intro _; rw [show c = 0 by omega]; exact ⟨rfl, rfl⟩
  | succ n ih =>
    intro hf
    rcases Nat.lt_or_ge c (n + 1) with q | q
    · obtain ⟨h1, h2⟩ := ih (by omega) (fun k hk1 hk2 => hf k hk1 (by omega))
      have hn := hf n (by omega) (by omega)
      refine ⟨?_, ?_⟩
      · rw [← h1]
        unfold rcN
        rw [smN, if_neg (by rw [hn]; exact Bool.false_ne_true), Nat.add_zero]
      · rw [← h2]
        unfold rcL
        have hle := (lst_le (p := rc l) n 0).2
        rw [lst_snoc, Nat.zero_add]
        by_cases z : lst (rc l) n 0 < n
        · rw [if_pos z, if_pos (by omega), if_pos z]
        · rw [if_neg z, if_neg (show ¬ rc l n = true by rw [hn]; exact Bool.false_ne_true), if_neg (show ¬ n + 1 < n + 1 by omega), if_neg z]
    · rw [show c = n + 1 by omega]; exact ⟨rfl, rfl⟩
theorem rc_step {l : List Int32} {c : Nat} (hc : c < 1000) (h : rc l c = true) : rcN l (c + 1) = rcN l c + 1 ∧ rcL l (c + 1) = if rcL l c = -1 then nI c else rcL l c := by
  refine ⟨?_, ?_⟩
  · unfold rcN
    rw [smN, if_pos h]
  · unfold rcL
    have hle := (lst_le (p := rc l) c 0).2
    rw [lst_snoc, Nat.zero_add]
    by_cases z : lst (rc l) c 0 < c
    · rw [if_pos z, if_pos (by omega), if_pos z, if_neg (n_m1 (by omega))]
    · rw [if_neg z, if_pos h, if_pos (by omega), if_neg z, if_pos rfl]
theorem ring1_ok {v : gV} {a : Ab} {c i j k : Nat} (h : InvX v a c) (hi : i < nRi (aT0 a)) (hj : j < nRi (aT0 a)) (hk : k < nRi (aT0 a)) : f_X6_isRing (nI i) (nI j) (nI k) v = some (b2 (rg1 (aT0 a) i j k), v) := by
  apply wp_is
  have hn := nRi_le h.1.1
  have e7 : ∀ r, r < nRi (aT0 a) → v.1 7 r = rSt (aT0 a) r := h.2.2.2.1.2.2.2.1
  have e10 : ∀ r, r < nRi (aT0 a) → v.1 10 r = rWt (aT0 a) r := h.2.2.2.1.1.2.2.1
  have gi := gin_N (i := i) (n := 8) (by omega) (by omega)
  have gj := gin_N (i := j) (n := 8) (by omega) (by omega)
  have gk := gin_N (i := k) (n := 8) (by omega) (by omega)
  have no : ∀ {q : ¬ (rWt (aT0 a) i = rSt (aT0 a) j ∧ rWt (aT0 a) j = rSt (aT0 a) k ∧ rWt (aT0 a) k = rSt (aT0 a) i ∧ rWt (aT0 a) i ≠ rSt (aT0 a) i ∧ rWt (aT0 a) j ≠ rSt (aT0 a) j ∧ rWt (aT0 a) k ≠ rSt (aT0 a) k)}, ((0 : Int32), v) = (b2 (rg1 (aT0 a) i j k), v) := by
    intro q
    unfold rg1 b2
    rw [decide_eq_false q]
    rfl
  unfold f_X6_isRing
  rw [n_cl (a := i) (by omega), n_cl (a := j) (by omega), n_cl (a := k) (by omega), e7 i hi, e7 j hj, e7 k hk, e10 i hi, e10 j hj, e10 k hk]
  refine wp_t gi (wp_t gj (wp_if (fun c1 => wp_t gj (wp_t gk (wp_if (fun c2 => wp_t gk (wp_t gi (wp_if (fun c3 => wp_t gi (wp_t gi (wp_if (fun c4 => ?_) (fun c4 => wp_t gj (wp_t gj (wp_if (fun c5 => ?_) (fun c5 => wp_t gk (wp_t gk (wp_if (fun c6 => ?_) (fun c6 => ?_)))))))))) (fun c3 => ?_)))) (fun c2 => ?_)))) (fun c1 => ?_)))
  · exact b1 (Or.inl rfl) (no (q := fun z => z.2.2.2.1 c4))
  · exact b1 (Or.inl rfl) (no (q := fun z => z.2.2.2.2.1 c5))
  · exact b1 (Or.inl rfl) (no (q := fun z => z.2.2.2.2.2 c6))
  · refine b1 (Or.inr rfl) ?_
    unfold rg1 b2
    rw [decide_eq_true ⟨c1, c2, c3, c4, c5, c6⟩]
    rfl
  · exact b1 (Or.inl rfl) (no (q := fun z => c3 z.2.2.1))
  · exact b1 (Or.inl rfl) (no (q := fun z => c2 z.2.1))
  · exact b1 (Or.inl rfl) (no (q := fun z => c1 z.1))
theorem rc_at {l : List Int32} {i j k : Nat} (hj : j < 8) (hk : k < 8) : rc l (64 * i + 8 * j + k) = (decide (i < j ∧ j < k ∧ k < nRi l) && rg l i j k) := by
  unfold rc
  rw [show (64 * i + 8 * j + k) / 64 = i by omega, show (64 * i + 8 * j + k) / 8 % 8 = j by omega, show (64 * i + 8 * j + k) % 8 = k by omega]
theorem rings_X {v : gV} {a : Ab} {c : Nat} {w : Int32} (h : InvX v a c) (hc : c < 999980) : OKX (f_X7_rings w v) (sp_rings w a) c := by
  have hn := nRi_le h.1.1
  have h60 : v.1 6 0 = nI (nRi (aT0 a)) := h.2.2.2.1.1.2.1
  generalize hN : nRi (aT0 a) = n at hn h60
  have hbig : ∀ x, rcN (aT0 a) x ≤ x := fun x => by
    have := sm_max (f := fun k => if rc (aT0 a) k = true then 1 else 0) (c := 1) (n := x) (fun k _ => by split <;> omega)
    unfold rcN
    omega
  have hfalse : ∀ x, (∀ (q : x / 64 < x / 8 % 8 ∧ x / 8 % 8 < x % 8 ∧ x % 8 < n), False) → rc (aT0 a) x = false := fun x q => by
    unfold rc
    rw [hN, decide_eq_false q]
    rfl
  unfold OKX f_X7_rings
  refine wp_out 2 (by omega) (fun g1 => ?_) (fun g1 => ?_)
  · have hs : sp_rings w a = (ringv a w, a) := by unfold sp_rings; rw [if_pos g1]
    rw [hs]
    refine wp_bx3 (wp_ct (Z := fun z => z.1 = v ∧ z.2 = (nI (rcN (aT0 a) 512), rcL (aT0 a) 512)) (fun i z => z.2.2.2 = nI i ∧ z.1 = v ∧ z.2.1 = nI (rcN (aT0 a) (64 * i)) ∧ z.2.2.1 = rcL (aT0 a) (64 * i)) n 0 _ (by omega) (Nat.zero_le _) ⟨rfl, rfl, rfl, rfl⟩ ?_ ?_) ?_
    · rintro i ⟨v1, x, y, z⟩ hi ⟨e, e1, e2, e3⟩
      have e : z = nI i := e
      have e1 : v1 = v := e1
      have e2 : x = nI (rcN (aT0 a) (64 * i)) := e2
      have e3 : y = rcL (aT0 a) (64 * i) := e3
      subst e e1 e2 e3
      show wp (f_X7_rings_B18 w _ _ (nI i) v1) _
      unfold f_X7_rings_B18
      rw [h60, l_1, n_add]
      refine wp_f (by rw [n_le (by omega) (by omega)]; omega) (wp_bd ?_)
      have sk : rcN (aT0 a) (64 * i + 8 * (i + 1)) = rcN (aT0 a) (64 * i) ∧ rcL (aT0 a) (64 * i + 8 * (i + 1)) = rcL (aT0 a) (64 * i) := rc_skip (by omega) (fun k hk1 hk2 => hfalse k (fun q => by omega))
      refine wp_bx3 (wp_ct (Z := fun z => z.1 = v1 ∧ z.2 = (nI (rcN (aT0 a) (64 * (i + 1))), rcL (aT0 a) (64 * (i + 1)))) (fun j z => i < j ∧ z.2.2.2 = nI j ∧ z.1 = v1 ∧ z.2.1 = nI (rcN (aT0 a) (64 * i + 8 * j)) ∧ z.2.2.1 = rcL (aT0 a) (64 * i + 8 * j)) n (i + 1) _ (by omega) (by omega) ⟨by omega, rfl, rfl, by rw [sk.1], by rw [sk.2]⟩ ?_ ?_) ?_
      · rintro j ⟨v2, x, y, z⟩ hj ⟨hij, e, e1, e2, e3⟩
        have e : z = nI j := e
        have e1 : v2 = v1 := e1
        have e2 : x = nI (rcN (aT0 a) (64 * i + 8 * j)) := e2
        have e3 : y = rcL (aT0 a) (64 * i + 8 * j) := e3
        subst e e1 e2 e3
        show wp (f_X7_rings_B36 w _ _ (nI i) (nI j) v2) _
        unfold f_X7_rings_B36
        rw [h60, l_1, n_add]
        refine wp_f (by rw [n_le (by omega) (by omega)]; omega) (wp_bd ?_)
        have sk : rcN (aT0 a) (64 * i + 8 * j + (j + 1)) = rcN (aT0 a) (64 * i + 8 * j) ∧ rcL (aT0 a) (64 * i + 8 * j + (j + 1)) = rcL (aT0 a) (64 * i + 8 * j) := rc_skip (by omega) (fun k hk1 hk2 => hfalse k (fun q => by omega))
        refine wp_bx3 (wp_ct (Z := fun z => z.1 = v2 ∧ z.2 = (nI (rcN (aT0 a) (64 * i + 8 * (j + 1))), rcL (aT0 a) (64 * i + 8 * (j + 1)))) (fun k z => j < k ∧ z.2.2.2 = nI k ∧ z.1 = v2 ∧ z.2.1 = nI (rcN (aT0 a) (64 * i + 8 * j + k)) ∧ z.2.2.1 = rcL (aT0 a) (64 * i + 8 * j + k)) n (j + 1) _ (by omega) (by omega) ⟨by omega, rfl, rfl, by rw [sk.1], by rw [sk.2]⟩ ?_ ?_) ?_
        · rintro k ⟨v3, x, y, z⟩ hk ⟨hjk, e, e1, e2, e3⟩
          have e : z = nI k := e
          have e1 : v3 = v2 := e1
          have e2 : x = nI (rcN (aT0 a) (64 * i + 8 * j + k)) := e2
          have e3 : y = rcL (aT0 a) (64 * i + 8 * j + k) := e3
          subst e e1 e2 e3
          show wp (f_X7_rings_B54 w _ _ (nI i) (nI j) (nI k) v3) _
          unfold f_X7_rings_B54
          rw [h60]
          have hrc : rc (aT0 a) (64 * i + 8 * j + k) = rg (aT0 a) i j k := by rw [rc_at (by omega) (by omega), hN, decide_eq_true ⟨hij, hjk, hk⟩]; rfl
          have hb0 := hbig (64 * i + 8 * j + k)
          have yes : rg (aT0 a) i j k = true → wp (f_X7_rings_J98 w (nI (rcN (aT0 a) (64 * i + 8 * j + k))) (rcL (aT0 a) (64 * i + 8 * j + k)) (nI i) (nI j) (nI k) v3) (SE (fun z : gV × Int32 × Int32 × Int32 => j < k + 1 ∧ z.2.2.2 = nI (k + 1) ∧ z.1 = v3 ∧ z.2.1 = nI (rcN (aT0 a) (64 * i + 8 * j + (k + 1))) ∧ z.2.2.1 = rcL (aT0 a) (64 * i + 8 * j + (k + 1))) (fun z : gV × Int32 × Int32 => z.1 = v3 ∧ z.2 = (nI (rcN (aT0 a) (64 * i + 8 * (j + 1))), rcL (aT0 a) (64 * i + 8 * (j + 1))))) := fun hr => by
            obtain ⟨q1, q2⟩ := rc_step (l := aT0 a) (c := 64 * i + 8 * j + k) (by omega) (by rw [hrc]; exact hr)
            rw [show 64 * i + 8 * j + (k + 1) = 64 * i + 8 * j + k + 1 by omega, q1, q2]
            unfold f_X7_rings_J98
            rw [l_64, l_8, n_mul, n_mul, n_add, n_add]
            refine wp_if (fun c1 => ?_) (fun c1 => ?_)
            · rw [if_pos c1]
              exact wp_eq rfl ⟨by omega, nI_1 k, rfl, nI_1 _, rfl⟩
            · rw [if_neg c1]
              exact wp_eq rfl ⟨by omega, nI_1 k, rfl, nI_1 _, rfl⟩
          refine wp_f (by rw [n_le (by omega) (by omega)]; omega) (wp_bi (wp_of (ring1_ok h (by omega) (by omega) (by omega))) ?_)
          rintro r3 v4 ⟨rfl, rfl⟩
          refine wp_if (fun c1 => ?_) (fun c1 => ?_)
          · rw [b2_0] at c1
            refine wp_bi (wp_of (ring1_ok h (by omega) (by omega) (by omega))) ?_
            rintro r4 v5 ⟨rfl, rfl⟩
            refine wp_if (fun c2 => ?_) (fun c2 => ?_)
            · rw [b2_0] at c2
              have hno : rc (aT0 a) (64 * i + 8 * j + k) = false := by rw [hrc]; unfold rg; rw [c1, c2]; rfl
              have sk2 := rc_skip (l := aT0 a) (c := 64 * i + 8 * j + k) (c' := 64 * i + 8 * j + k + 1) (by omega) (fun k' h1 h2 => by rw [show k' = 64 * i + 8 * j + k by omega]; exact hno)
              exact wp_eq rfl ⟨by omega, nI_1 k, rfl, by rw [show 64 * i + 8 * j + (k + 1) = 64 * i + 8 * j + k + 1 by omega, sk2.1], by rw [show 64 * i + 8 * j + (k + 1) = 64 * i + 8 * j + k + 1 by omega, sk2.2]⟩
            · rw [b2_0] at c2
              exact yes (by unfold rg; rw [ne_f c2]; simp)
          · rw [b2_0] at c1
            exact yes (by unfold rg; rw [ne_f c1]; simp)
        · rintro ⟨v3, x, y, z⟩ ⟨hjk, e, e1, e2, e3⟩
          have e : z = nI n := e
          have e1 : v3 = v2 := e1
          subst e e1
          show wp (f_X7_rings_B54 w x y (nI i) (nI j) (nI n) v3) _
          unfold f_X7_rings_B54
          rw [h60]
          have sk : rcN (aT0 a) (64 * i + 8 * (j + 1)) = rcN (aT0 a) (64 * i + 8 * j + n) ∧ rcL (aT0 a) (64 * i + 8 * (j + 1)) = rcL (aT0 a) (64 * i + 8 * j + n) := rc_skip (by omega) (fun k hk1 hk2 => hfalse k (fun q => by omega))
          refine wp_t (by rw [n_le (by omega) (by omega)]; exact Nat.le_refl _) (wp_some ⟨rfl, ?_⟩)
          rw [sk.1, sk.2]
          exact Prod.ext e2 e3
        · rintro v3 x y ⟨e1, e2⟩
          have e1 : v3 = v2 := e1
          have e2 : (x, y) = _ := e2
          subst e1
          cases e2
          exact wp_some ⟨by omega, rfl, rfl, rfl, rfl⟩
      · rintro ⟨v2, x, y, z⟩ ⟨hij, e, e1, e2, e3⟩
        have e : z = nI n := e
        have e1 : v2 = v1 := e1
        subst e e1
        show wp (f_X7_rings_B36 w x y (nI i) (nI n) v2) _
        unfold f_X7_rings_B36
        rw [h60]
        have sk : rcN (aT0 a) (64 * (i + 1)) = rcN (aT0 a) (64 * i + 8 * n) ∧ rcL (aT0 a) (64 * (i + 1)) = rcL (aT0 a) (64 * i + 8 * n) := rc_skip (by omega) (fun k hk1 hk2 => hfalse k (fun q => by
          obtain ⟨q1, q2, q3⟩ := q
          have d1 : k = 8 * (k / 8) + k % 8 := by omega
          have d2 : k / 8 = 8 * (k / 64) + k / 8 % 8 := by omega
          have d3 : k / 64 = i := by omega
          have d4 : k / 8 % 8 ≥ n := by omega
          omega))
        refine wp_t (by rw [n_le (by omega) (by omega)]; exact Nat.le_refl _) (wp_some ⟨rfl, ?_⟩)
        rw [sk.1, sk.2]
        exact Prod.ext e2 e3
      · rintro v3 x y ⟨e1, e2⟩
        have e1 : v3 = v1 := e1
        have e2 : (x, y) = _ := e2
        subst e1
        cases e2
        exact wp_some ⟨rfl, rfl, rfl, rfl⟩
    · rintro ⟨v2, x, y, z⟩ ⟨e, e1, e2, e3⟩
      have e : z = nI n := e
      have e1 : v2 = v := e1
      subst e e1
      show wp (f_X7_rings_B18 w x y (nI n) v2) _
      unfold f_X7_rings_B18
      rw [h60]
      have sk : rcN (aT0 a) 512 = rcN (aT0 a) (64 * n) ∧ rcL (aT0 a) 512 = rcL (aT0 a) (64 * n) := rc_skip (by omega) (fun k hk1 hk2 => hfalse k (fun q => by
        obtain ⟨q1, q2, q3⟩ := q
        have d4 : k / 64 ≥ n := by omega
        omega))
      refine wp_t (by rw [n_le (by omega) (by omega)]; exact Nat.le_refl _) (wp_some ⟨rfl, ?_⟩)
      rw [sk.1, sk.2]
      exact Prod.ext e2 e3
    · rintro v3 x y ⟨e1, e2⟩
      have e1 : v3 = v := e1
      have e2 : (x, y) = (nI (rcN (aT0 a) 512), rcL (aT0 a) 512) := e2
      subst e1
      obtain ⟨rfl, rfl⟩ := Prod.mk.inj e2
      unfold ringv
      refine wp_if (fun c1 => ?_) (fun c1 => ?_)
      · rw [if_pos c1]; exact wp_some (OKX.same h (by omega))
      · rw [if_neg c1]; exact wp_some (OKX.same h (by omega))
  · have hs : sp_rings w a = (-2, a) := by unfold sp_rings; rw [if_neg g1]
    rw [hs]
    exact wp_some (OKX.same h (by omega))
