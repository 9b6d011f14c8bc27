theorem ne_t {b : Bool} (h : ¬ b = true) : b = false := by simpa using h
theorem InvX.m {v v' : gV} {a : Ab} {c : Nat} (h : InvX v a c) (hF : ∀ q, q ≠ 117 → v'.1 q = v.1 q) (h2 : v'.2 = v.2) : InvX v' a c := h.fa (fun q hq => hF q (by omega)) h2
theorem maybe_X {v : gV} {a : Ab} {c : Nat} {x1 x2 x3 x4 : Int32} (h : InvX v a c) (hc : c < 999980) : OKL (f_X7_maybe x1 x2 x3 x4 v) (sp_maybe x1 x2 x3 x4 a) c := by
  have hn := nRi_le h.1.1
  have h60 : v.1 6 0 = nI (nRi (aT0 a)) := h.2.2.2.1.1.2.1
  have bad : ∀ (q : ¬ (gin x1 17 = true ∧ gin x2 10 = true ∧ gin x3 (nRi (aT0 a)) = true ∧ gin x4 2 = true)), wp (f_X7_maybe_J41 v) (fun z => z.1 = (sp_maybe x1 x2 x3 x4 a).1 ∧ InvX z.2 (sp_maybe x1 x2 x3 x4 a).2 (c + 1)) := fun q => by
    have hs : sp_maybe x1 x2 x3 x4 a = (-9223372036854775806, a) := by unfold sp_maybe; rw [if_neg q]
    rw [hs]
    exact wp_some ⟨rfl, h.mono (Nat.le_succ c) (by omega)⟩
  unfold OKL f_X7_maybe
  refine wp_out 17 (by omega) (fun g1 => wp_out 10 (by omega) (fun g2 => ?_) (fun g2 => bad (fun q => g2 q.2.1))) (fun g1 => bad (fun q => g1 q.1))
  rw [h60]
  refine wp_out _ (by omega) (fun g3 => wp_out 2 (by omega) (fun g4 => ?_) (fun g4 => bad (fun q => g4 q.2.2.2))) (fun g3 => bad (fun q => g3 q.2.2.1))
  obtain ⟨C, hC, -, eC, cC⟩ := gin_cl g1
  obtain ⟨d, hd, -, ed, cd⟩ := gin_cl g2
  obtain ⟨r, hr, -, er, cr⟩ := gin_cl g3
  have hs : sp_maybe x1 x2 x3 x4 a = (maybv a C d r x4, a) := by unfold sp_maybe; rw [if_pos ⟨g1, g2, g3, g4⟩, cC, cd, cr]
  rw [hs]
  subst eC ed er
  obtain ⟨T, hT, eT⟩ := h.1.2.2.2.2.1
  have eT' : pC (aP a) = nI T := eT
  refine wp_bv (fill_ok (by omega)) ?_
  rintro v1 ⟨f1, f2, f3⟩
  have h1 : InvX v1 a c := h.m f2 f3
  have big : ∀ st, pcN st < 11 := fun st => Nat.lt_succ_of_le (pcN_le st)
  refine wp_bx1 (wp_cnt (Z := fun v' => InvX v' a c ∧ ∀ p, p < 11 → v'.1 117 p = nI (mct a d r p 1024)) (fun i v' => InvX v' a c ∧ ∀ p, p < 11 → v'.1 117 p = nI (mct a d r p i)) 1024 0 v1 (by omega) (Nat.zero_le _) ⟨h1, fun p hp => f1 p hp⟩ ?_ ?_) ?_
  · rintro i v2 hi ⟨i1, i2⟩
    have e610 : v2.1 6 10 = aC a := i1.2.2.2.1.2.2.1
    show wp (f_X7_maybe_B56 (nI C) (nI d) (nI r) x4 (nI i) v2) _
    unfold f_X7_maybe_B56 f_X7_maybe_J115
    rw [e610]
    have no : ∀ v', InvX v' a c → (∀ p, p < 11 → v'.1 117 p = v2.1 117 p) → mok a d r i = false → InvX v' a c ∧ ∀ p, p < 11 → v'.1 117 p = nI (mct a d r p (i + 1)) := fun v' j1 j2 j3 => ⟨j1, fun p hp => by
      rw [j2 p hp, i2 p hp]
      unfold mct
      rw [smN, if_neg (fun q => by rw [j3] at q; exact Bool.false_ne_true q.1), Nat.add_zero]⟩
    refine wp_f (by rw [l_1024, n_le (by omega) (by omega)]; omega) (wp_if (fun c1 => ?_) (fun c1 => ?_))
    · refine wp_bi (servedBy_ok i1.2.2.2.1 hi hd) ?_
      rintro r3 v3 ⟨e1, e2, e3⟩
      have e1 : r3 = nI (srvN (aP a) (his (setC (aP a) (nI i)) (aX a) (d + 1)).1.1) := e1
      have e3 : FQ v2 v3 := e3
      have hI : InvX v3 a c := i1.q e3 e2
      have h117 : v3.1 117 = v2.1 117 := e3.1 117 (by omega)
      subst e1
      refine wp_if (fun c2 => ?_) (fun c2 => ?_)
      · rw [bt_i (by omega) (sv_bit h.1 hr)] at c2
        refine wp_bi (wp_of (bitCount_ok hi)) ?_
        rintro r4 v4 ⟨rfl, rfl⟩
        have hb := big i
        have hm : mok a d r i = true := by unfold mok; rw [decide_eq_true c1, c2]; rfl
        refine wp_t (gin_N hb (by omega)) (wp_t (gin_N hb (by omega)) (wp_bd (wp_some ⟨nI_1 i, hI.m (fun q hq => sI_n hq) rfl, fun p hp => ?_⟩)))
        show (sI v3 117 _ _).1 117 p = _
        rw [n_cl (by omega)]
        unfold mct
        rw [smN]
        by_cases e : p = pcN i
        · subst e
          rw [sI_s, if_pos ⟨hm, rfl⟩, h117, i2 _ hb]
          exact nI_1 _
        · rw [sI_o e, if_neg (fun q => e q.2.symm), Nat.add_zero, h117]
          exact i2 p hp
      · rw [bt_i (by omega) (sv_bit h.1 hr)] at c2
        exact wp_some ⟨nI_1 i, no v3 hI (fun p hp => by rw [h117]) (by unfold mok; rw [ne_t c2, Bool.and_false])⟩
    · exact wp_some ⟨nI_1 i, no v2 i1 (fun p hp => rfl) (by unfold mok; rw [decide_eq_false c1]; rfl)⟩
  · rintro v2 ⟨i1, i2⟩
    show wp (f_X7_maybe_B56 (nI C) (nI d) (nI r) x4 (nI 1024) v2) _
    unfold f_X7_maybe_B56
    exact wp_t (by rw [l_1024, n_le (by omega) (by omega)]; omega) (wp_some ⟨i1, i2⟩)
  · rintro v2 ⟨i1, i2⟩
    have e610 : v2.1 6 10 = nI T := i1.2.2.2.1.2.2.1.trans eT
    rw [e610]
    refine wp_bi (wp_of (bitCount_ok hT)) ?_
    rintro r3 v3 ⟨rfl, rfl⟩
    have eal : allN a = pcN T := by unfold allN; rw [eT, n_cl (by omega)]
    have hT10 := pcN_le T
    refine wp_bj (wp_of (chance_ok (by omega) hT10 (N := fun p => mct a d r p 1024) (fun j hj => ⟨i2 j hj, by have := mct_le (a := a) (d := d) (r := r) (p := j) (n := 1024); omega⟩))) ?_
    rintro r4 v4 ⟨rfl, rfl⟩
    have hsum := mct_sum h.1 (c := C) (d := d) (r := r) 1024
    rw [eal] at hsum
    rw [hsum]
    have hX := abv_lt h.1 (c := C) (d := d) (r := r) (by omega)
    have h40 : 2 ^ (4 * pcN T) ≤ 2 ^ 40 := Nat.pow_le_pow_right (by omega) (by omega)
    have hone : (1 : Int64) <<< ((nI 4 * nI (pcN T)).toInt64 &&& 63) = lN (2 ^ (4 * pcN T)) := by
      rw [n_mul]
      have := wb_shl 1 (k := 4 * pcN T) (by omega)
      rw [Nat.one_mul] at this
      exact this
    have hv : maybv a C d r x4 = if x4 = 0 then lN (hlv (4 * pcN T) (abv a C d r 1024) (2 ^ (4 * pcN T))).1 else lN (hlv (4 * pcN T) (abv a C d r 1024) (2 ^ (4 * pcN T))).2 := by
      unfold maybv
      rw [eal]
    rw [hv, l_4, hone]
    generalize abv a C d r 1024 = X at hX
    refine wp_bd (wp_bx3 (halve_ok hT10 (by omega) (by omega)) ?_)
    rintro v5 p q ⟨k1, k2, k3⟩
    have k1 : v5 = v2 := k1
    have k2 : p = _ := k2
    have k3 : q = _ := k3
    subst k1 k2 k3
    unfold f_X7_maybe_J195
    refine wp_if (fun c1 => ?_) (fun c1 => ?_)
    · rw [if_pos c1]
      exact wp_some ⟨rfl, i1.mono (Nat.le_succ c) (by omega)⟩
    · rw [if_neg c1]
      exact wp_some ⟨rfl, i1.mono (Nat.le_succ c) (by omega)⟩
