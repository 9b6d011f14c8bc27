/-! THE CALLS: open -/
def svb (a : Ab) (r d st : Nat) : Bool := decide ((his (setC (aP a) (nI st)) (aX a) (d + 1)).1.1 r = rWt (aT0 a) r)
def op (p : Nat → Bool) : Nat → Int32 × Nat
  | 0 => (-1, 4)
  | k + 1 => if pcN k < (op p k).2 ∧ p k = true then (nI k, pcN k) else op p k
def opw (o : Int32 × Nat) (w : Int32) : Int32 := if o.1 = -1 then -1 else if w = 0 then nI o.2 else o.1
def openv (a : Ab) (r : Nat) (w : Int32) : Int32 := opw (op (svb a r 9) 1024) w
def sp_open (r w : Int32) (a : Ab) : Int32 × Ab := if gin r (nRi (aT0 a)) = true ∧ gin w 2 = true then (openv a (r.toNatClampNeg) w, a) else (-2, a)
theorem op_inv {p : Nat → Bool} : ∀ n, (op p n = (-1, 4) ∧ ∀ k, k < n → p k = true → 4 ≤ pcN k) ∨ (∃ j, j < n ∧ p j = true ∧ op p n = (nI j, pcN j) ∧ pcN j < 4 ∧ (∀ k, k < n → p k = true → pcN j ≤ pcN k) ∧ ∀ k, k < j → p k = true → pcN j < pcN k)
  | 0 => Or.inl ⟨rfl, fun k hk => absurd hk (Nat.not_lt_zero k)⟩
  | n + 1 => by
    rw [op]
    rcases op_inv (p := p) n with ⟨h1, h2⟩ | ⟨j, hj, h1, h2, h3, h4, h5⟩
    · rw [h1]
      by_cases c : pcN n < 4 ∧ p n = true
      · rw [if_pos c]
        refine Or.inr ⟨n, by omega, c.2, rfl, c.1, fun k hk hp => ?_, fun k hk hp => ?_⟩
        · rcases Nat.lt_or_ge k n with q | q
          · have := h2 k q hp
            omega
          · rw [show k = n by omega]
            exact Nat.le_refl _
        · have := h2 k hk hp
          omega
      · rw [if_neg c]
        refine Or.inl ⟨rfl, fun k hk hp => ?_⟩
        rcases Nat.lt_or_ge k n with q | q
        · exact h2 k q hp
        · rw [show k = n by omega] at hp ⊢
          exact Nat.le_of_not_lt (fun z => c ⟨z, hp⟩)
    · rw [h2]
      by_cases c : pcN n < pcN j ∧ p n = true
      · rw [if_pos c]
        refine Or.inr ⟨n, by omega, c.2, rfl, by omega, fun k hk hp => ?_, fun k hk hp => ?_⟩
        · rcases Nat.lt_or_ge k n with q | q
          · have := h4 k q hp
            omega
          · rw [show k = n by omega]
            exact Nat.le_refl _
        · have := h4 k hk hp
          omega
      · rw [if_neg c]
        refine Or.inr ⟨j, by omega, h1, rfl, h3, fun k hk hp => ?_, h5⟩
        rcases Nat.lt_or_ge k n with q | q
        · exact h4 k q hp
        · rw [show k = n by omega] at hp ⊢
          exact Nat.le_of_not_lt (fun z => c ⟨z, hp⟩)
theorem op_none {p : Nat → Bool} {n : Nat} (h : ∀ k, k < n → p k = true → 4 ≤ pcN k) : op p n = (-1, 4) := by
  rcases op_inv (p := p) n with ⟨h1, -⟩ | ⟨j, hj, h1, -, h3, -⟩
  · exact h1
  · have := h j hj h1
    omega
theorem op_some {p : Nat → Bool} {n st : Nat} (hn : st < n) (hp : p st = true) (h4 : pcN st < 4) (h : ∀ k, k < n → p k = true → pcN st ≤ pcN k) (h' : ∀ k, k < st → p k = true → pcN k ≠ pcN st) : op p n = (nI st, pcN st) := by
  rcases op_inv (p := p) n with ⟨-, h2⟩ | ⟨j, hj, h1, h2, h3, h5, h6⟩
  · have := h2 st hn hp
    omega
  · rcases Nat.lt_trichotomy j st with q | q | q
    · have z1 := h' j q h1
      have z2 := h j hj h1
      have z3 := h5 st hn hp
      omega
    · rw [h2, q]
    · have z1 := h6 st q hp
      have z2 := h j hj h1
      omega
theorem sv_bit {a : Ab} (hO : okAb a) {r d st : Nat} (hr : r < nRi (aT0 a)) : bt (nI (srvN (aP a) (his (setC (aP a) (nI st)) (aX a) (d + 1)).1.1)) r = svb a r d st := by
  have hn := nRi_le hO.1
  have hr' : r < pN (aP a) := hr
  rw [bt_nI (by omega)]
  unfold srvN
  rw [boN_bit, decide_eq_true hr', Bool.true_and]
  rfl
theorem open_X {v : gV} {a : Ab} {c : Nat} {r w : Int32} (h : InvX v a c) (hc : c < 999980) : OKX (f_X7_open r w v) (sp_open r w a) c := by
  have hn := nRi_le h.1.1
  have h60 : v.1 6 0 = nI (nRi (aT0 a)) := h.2.2.2.1.1.2.1
  unfold OKX f_X7_open
  rw [h60]
  refine wp_out _ (by omega) (fun g1 => wp_out 2 (by omega) (fun g2 => ?_) (fun g2 => ?_)) (fun g1 => ?_)
  · obtain ⟨k, hk, -, ek, ck⟩ := gin_cl g1
    have hs : sp_open r w a = (openv a k w, a) := by unfold sp_open; rw [if_pos ⟨g1, g2⟩, ck]
    rw [hs]
    subst ek
    have big : ∀ st, pcN st < 11 := fun st => Nat.lt_succ_of_le (pcN_le st)
    refine wp_bs1 (Q0 := SE (fun v' => InvX v' a c ∧ openv a k w = -1) (fun q => q.1 = openv a k w ∧ InvX q.2 a c)) (wp_cnt (fun m v' => InvX v' a c ∧ ∀ st, st < 1024 → svb a k 9 st = true → m ≤ pcN st) 4 0 v (by omega) (Nat.zero_le _) ⟨h, fun _ _ _ => Nat.zero_le _⟩ ?_ ?_) ?_ ?_
    · rintro m v1 hm ⟨i1, i2⟩
      show wp (f_X7_open_B27 (nI k) w (nI m) v1) _
      unfold f_X7_open_B27
      refine wp_f (by rw [l_3, n_lt (by omega) (by omega)]; omega) (wp_bs1 (Q0 := SE (fun v' => InvX v' a c ∧ ∀ st, st < 1024 → svb a k 9 st = true → m + 1 ≤ pcN st) (fun q => q.1 = openv a k w ∧ InvX q.2 a c)) (wp_cnt (fun i v' => InvX v' a c ∧ ∀ st, st < i → svb a k 9 st = true → pcN st ≠ m) 1024 0 v1 (by omega) (Nat.zero_le _) ⟨i1, fun st hs => absurd hs (Nat.not_lt_zero st)⟩ ?_ ?_) ?_ ?_)
      · rintro i v2 hi ⟨j1, j2⟩
        show wp (f_X7_open_B35 (nI k) w (nI m) (nI i) v2) _
        unfold f_X7_open_B35
        refine wp_f (by rw [l_1024, n_le (by omega) (by omega)]; omega) (wp_bi (wp_of (bitCount_ok hi)) ?_)
        rintro r3 v3 ⟨rfl, rfl⟩
        have bi := big i
        refine wp_if (fun c1 => ?_) (fun c1 => ?_)
        · rw [n_eq (by omega) (by omega)] at c1
          refine wp_bi (servedBy_ok (day := 9) j1.2.2.2.1 hi (by omega)) ?_
          rintro r4 v4 ⟨e1, e2, e3⟩
          have e1 : r4 = nI (srvN (aP a) (his (setC (aP a) (nI i)) (aX a) (9 + 1)).1.1) := e1
          have hI := j1.q e3 e2
          subst e1
          have hI : InvX v4 a c := hI
          refine wp_if (fun c2 => ?_) (fun c2 => ?_)
          · rw [bt_i (by omega) (sv_bit h.1 hk)] at c2
            have ho : op (svb a k 9) 1024 = (nI i, pcN i) := op_some hi c2 (by omega) (fun st hs hp => by rw [c1]; exact i2 st hs hp) (fun st hs hp => by rw [c1]; exact j2 st hs hp)
            have hv : openv a k w = if w = 0 then nI (pcN i) else nI i := by
              unfold openv opw
              rw [ho, if_neg (n_m1 (by omega))]
            rw [hv]
            refine wp_if (fun c3 => ?_) (fun c3 => ?_)
            · rw [if_pos c3, c1]
              exact wp_some ⟨rfl, hI⟩
            · rw [if_neg c3]
              exact wp_some ⟨rfl, hI⟩
          · rw [bt_i (by omega) (sv_bit h.1 hk)] at c2
            refine wp_some ⟨nI_1 i, hI, fun st hs hp => ?_⟩
            rcases Nat.lt_or_ge st i with q | q
            · exact j2 st q hp
            · rw [show st = i by omega] at hp
              exact absurd hp c2
        · rw [n_eq (by omega) (by omega)] at c1
          refine wp_some ⟨nI_1 i, j1, fun st hs hp => ?_⟩
          rcases Nat.lt_or_ge st i with q | q
          · exact j2 st q hp
          · rw [show st = i by omega]
            exact c1
      · rintro v2 ⟨j1, j2⟩
        show wp (f_X7_open_B35 (nI k) w (nI m) (nI 1024) v2) _
        unfold f_X7_open_B35
        refine wp_t (by rw [l_1024, n_le (by omega) (by omega)]; omega) (wp_some ⟨j1, fun st hs hp => ?_⟩)
        have z1 := i2 st hs hp
        have z2 := j2 st hs hp
        omega
      · rintro v2 ⟨j1, j2⟩
        exact wp_some ⟨nI_1 m, j1, j2⟩
      · rintro q hq
        exact wp_some hq
    · rintro v1 ⟨i1, i2⟩
      show wp (f_X7_open_B27 (nI k) w (nI 4) v1) _
      unfold f_X7_open_B27
      refine wp_t (by rw [l_3, n_lt (by omega) (by omega)]; omega) (wp_some ⟨i1, ?_⟩)
      unfold openv opw
      rw [op_none i2, if_pos rfl]
    · rintro v1 ⟨i1, i2⟩
      rw [i2]
      exact wp_some (OKX.same i1 (by omega))
    · rintro ⟨q1, q2⟩ ⟨i1, i2⟩
      have i2 : InvX q2 a c := i2
      have i1 : q1 = openv a k w := i1
      generalize openv a k w = z at i1 ⊢
      refine wp_some ⟨i1, ?_⟩
      exact InvX.mono i2 (Nat.le_succ c) (by omega)
  · have hs : sp_open r w a = (-2, a) := by unfold sp_open; rw [if_neg (fun q => g2 q.2)]
    rw [hs]
    exact wp_some (OKX.same h (by omega))
  · have hs : sp_open r w a = (-2, a) := by unfold sp_open; rw [if_neg (fun q => g1 q.1)]
    rw [hs]
    exact wp_some (OKX.same h (by omega))
