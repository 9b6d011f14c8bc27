/-! THE REFERENCE: ask -/
theorem bt_bo {p : Nat → Bool} {i : Nat} (hi : i < 32) : ∀ {n : Nat}, n ≤ 31 → bt (bo p n) i = (decide (i < n) && p i)
  | 0, _ => by
    rw [show bo p 0 = 0 from rfl, b_0, decide_eq_false (Nat.not_lt_zero i), Bool.false_and]
  | n + 1, hn => by
    have ih := bt_bo (p := p) hi (n := n) (by omega)
    cases hp : p n with
    | true =>
      rw [bo_t hp, bt_set (by omega) hi, ih]
      by_cases e : i = n
      · subst e; rw [decide_eq_true rfl, Bool.or_true, decide_eq_true (Nat.lt_succ_self i), hp]; rfl
      · rw [decide_eq_false e, Bool.or_false]
        by_cases z : i < n
        · rw [decide_eq_true z, decide_eq_true (by omega)]
        · rw [decide_eq_false z, decide_eq_false (by omega)]
    | false =>
      rw [bo_f hp, ih]
      by_cases e : i = n
      · subst e; rw [hp, Bool.and_false, Bool.and_false]
      · by_cases z : i < n
        · rw [decide_eq_true z, decide_eq_true (by omega)]
        · rw [decide_eq_false z, decide_eq_false (by omega)]
theorem RDY.k20 {u u' : gV} {a : Ab} (h : RDY u a) (hq : ∀ q, q ≠ 20 → u'.1 q = u.1 q) : RDY u' a := by
  refine ⟨h.1.kept ⟨fun q hz => hq q (by omega), by rw [hq 0 (by omega)], by rw [hq 0 (by omega)], by rw [hq 0 (by omega)]⟩, h.2.1.kept (hq 7 (by omega)) (by rw [hq 0 (by omega)]), h.2.2.kept (hq 8 (by omega)) (by rw [hq 0 (by omega)])⟩
/-- what a place of the reference's row stands for -/
def yM (k : Nat) : Int32 := if k = 0 then -1 else nI (k - 1)
def grM (a : Ab) (d r : Nat) : Nat := mx (fun k => cntv a d r (yM k)) 9
theorem gr_CM (a : Ab) (d r : Nat) : grM a d r = grC a d r := by
  unfold grM grC
  refine Nat.le_antisymm (mx_le (fun k hk => ?_)) (mx_le (fun k hk => ?_))
  · by_cases e : k = 0
    · have := mx_ge (f := fun j => cntv a d r (yC j)) (n := 9) (k := 8) (by omega)
      rw [show yM k = yC 8 by unfold yM yC; rw [if_pos e, if_pos rfl]]
      exact this
    · have := mx_ge (f := fun j => cntv a d r (yC j)) (n := 9) (k := k - 1) (by omega)
      rw [show yM k = yC (k - 1) by unfold yM yC; rw [if_neg e, if_neg (by omega)]]
      exact this
  · by_cases e : k = 8
    · have := mx_ge (f := fun j => cntv a d r (yM j)) (n := 9) (k := 0) (by omega)
      rw [show yC k = yM 0 by unfold yM yC; rw [if_pos e, if_pos rfl]]
      exact this
    · have := mx_ge (f := fun j => cntv a d r (yM j)) (n := 9) (k := k + 1) (by omega)
      rw [show yC k = yM (k + 1) by unfold yM yC; rw [if_neg e, if_neg (by omega)]; rfl]
      exact this
theorem cntf_le (a : Ab) (d r : Nat) (y : Int32) (e : Nat) : cntf a d r y e ≤ 1 := by
  unfold cntf
  split <;> omega
theorem smN_le {f : Nat → Nat} (hf : ∀ e, f e ≤ 1) : ∀ n, smN f n ≤ n
  | 0 => Nat.le_refl _
  | n + 1 => by
    have := smN_le hf n
    have := hf n
    rw [smN]; omega
/-- the cells of alike hold the numbers c -/
def AL (v : gV) (n : Nat) (c : Nat → Nat → Nat) : Prop := ∀ r, r < n → ∀ k, k < 9 → v.1 20 (9 * r + k) = nI (c r k)
theorem askCount_M {v : gV} {a : Ab} {d i : Nat} {x2 x3 : Int32} (h : RDY v (evA a (nI i))) (hL : LV v (aP (evA a (nI i))) (aX (evA a (nI i)))) (hd : d < 10) (hi : i < 10) (hw : wasp a i = true) (hc : AL v (nRi (aT0 a)) (fun r k => smN (cntf a d r (yM k)) i)) : wp (lp (fun z : gV × Int32 => f_X8_askOf_B70 (nI d) x2 x3 (nI i) z.2 z.1) fu (v, (0 : Int32))) (fun v' => (∀ q, q ≠ 20 → v'.1 q = v.1 q) ∧ AL v' (nRi (aT0 a)) (fun r k => smN (cntf a d r (yM k)) (i + 1))) := by
  have hn : nRi (aT0 a) ≤ 8 := nRi_le h.1.1.1
  have h07 : v.1 0 7 = nI (nRi (aT0 a)) := h.2.1.1
  have hA := aX_ok h.1.1
  have hP := aP_ok h.1.1
  have hh : ∀ r, r < nRi (aT0 a) → v.1 14 (8 * d + r) = (his (setE (aP a) (nI i)) (aX a) (d + 1)).1.1 r := fun r hr => (hL.1 d hd).1 r hr
  have hhv : ∀ r, r < nRi (aT0 a) → hv ((his (setE (aP a) (nI i)) (aX a) (d + 1)).1.1 r) := fun r hr => (his_ok hP hA (d + 1) (by omega)).1.1.1 r hr
  have hcf : ∀ r y, cntf a d r y i = if (his (setE (aP a) (nI i)) (aX a) (d + 1)).1.1 r = y then 1 else 0 := fun r y => by
    unfold cntf
    rw [hw, Bool.true_and]
    by_cases z : (his (setE (aP a) (nI i)) (aX a) (d + 1)).1.1 r = y
    · rw [if_pos z, decide_eq_true z, if_pos rfl]
    · rw [if_neg z, decide_eq_false z, if_neg Bool.false_ne_true]
  have hss : ∀ r k, smN (cntf a d r (yM k)) (i + 1) = smN (cntf a d r (yM k)) i + cntf a d r (yM k) i := fun r k => rfl
  have hsl : ∀ r k, smN (cntf a d r (yM k)) i ≤ 10 := fun r k => Nat.le_trans (smN_le (cntf_le a d r (yM k)) i) (by omega)
  generalize (his (setE (aP a) (nI i)) (aX a) (d + 1)).1.1 = H at *
  refine wp_cnt (fun j v' => (∀ q, q ≠ 20 → v'.1 q = v.1 q) ∧ AL v' (nRi (aT0 a)) (fun r k => smN (cntf a d r (yM k)) i + if r < j then cntf a d r (yM k) i else 0)) (nRi (aT0 a)) 0 v (by omega) (Nat.zero_le _) ⟨fun _ _ => rfl, fun r hr k hk => ?_⟩ ?_ ?_
  · show _ = nI (_ + if r < 0 then _ else 0)
    rw [if_neg (Nat.not_lt_zero r)]; exact hc r hr k hk
  · rintro j v1 hj ⟨i1, y2⟩
    have i2 : ∀ r, r < nRi (aT0 a) → ∀ k, k < 9 → v1.1 20 (9 * r + k) = nI (smN (cntf a d r (yM k)) i + if r < j then cntf a d r (yM k) i else 0) := y2
    clear y2
    show wp (f_X8_askOf_B70 (nI d) x2 x3 (nI i) (nI j) v1) _
    unfold f_X8_askOf_B70
    rw [i1 0 (by omega), h07, i1 14 (by omega), l_8, n_mul, n_add, n_cl (a := 8 * d + j) (by omega), hh j hj, l_9, n_mul]
    have key : ∀ k, k < 9 → H j = yM k → wp (if gin (nI (9 * j + k)) 72 = true then if gin (nI (9 * j + k)) 72 = true then bd (sI v1 20 (nI (9 * j + k)).toNatClampNeg (v1.1 20 (nI (9 * j + k)).toNatClampNeg + 1)) (fun v1 => some (.inl (v1, nI j + 1))) else none else none) (SE (fun a' : gV × Int32 => a'.2 = nI (j + 1) ∧ (∀ q, q ≠ 20 → a'.1.1 q = v.1 q) ∧ AL a'.1 (nRi (aT0 a)) (fun r k => smN (cntf a d r (yM k)) i + if r < j + 1 then cntf a d r (yM k) i else 0)) (fun v' : gV => (∀ q, q ≠ 20 → v'.1 q = v.1 q) ∧ AL v' (nRi (aT0 a)) (fun r k => smN (cntf a d r (yM k)) (i + 1)))) := fun k hk hy => by
      rw [n_cl (a := 9 * j + k) (by omega), i2 j hj k hk]
      have g := gin_N (i := 9 * j + k) (n := 72) (by omega) (by omega)
      refine wp_t g (wp_t g (wp_bd (wp_some ⟨nI_1 j, fun q hq => ?_, fun r hr k' hk' => ?_⟩)))
      · show (sI v1 20 _ _).1 q = _
        rw [sI_n hq]; exact i1 q hq
      · show (sI v1 20 _ _).1 20 (9 * r + k') = nI (_ + if r < j + 1 then _ else 0)
        by_cases e : r = j
        · subst e
          rw [if_pos (Nat.lt_succ_self r)]
          by_cases e2 : k' = k
          · subst e2
            rw [sI_s, hcf, if_pos hy, if_neg (Nat.lt_irrefl r)]
            exact nI_1 _
          · rw [sI_o (by omega), i2 r hr k' hk', hcf, if_neg (Nat.lt_irrefl r), if_neg]
            intro q
            rw [hy] at q
            unfold yM at q
            by_cases z1 : k = 0
            · rw [if_pos z1, if_neg (by omega)] at q
              exact n_m1' (by omega) q
            · rw [if_neg z1] at q
              by_cases z2 : k' = 0
              · rw [if_pos z2] at q; exact n_m1 (by omega) q
              · rw [if_neg z2, n_eq (by omega) (by omega)] at q; omega
        · rw [sI_o (by omega), i2 r hr k' hk']
          by_cases z : r < j
          · rw [if_pos z, if_pos (by omega)]
          · rw [if_neg z, if_neg (by omega)]
    have fin : ∀ k, k < 9 → H j = yM k → nI (9 * j) + H j + 1 = nI (9 * j + k) := fun k hk hy => by
      rw [hy]
      unfold yM
      by_cases z : k = 0
      · rw [if_pos z, z, Int32.add_assoc, show (-1 : Int32) + 1 = 0 by decide, Int32.add_zero]; rfl
      · rw [if_neg z, n_add, l_1, n_add]
        congr 1; omega
    obtain ⟨k, hk, hy⟩ : ∃ k, k < 9 ∧ H j = yM k := by
      rcases hhv j hj with q | ⟨k, hk, q⟩
      · exact ⟨0, by omega, q⟩
      · exact ⟨k + 1, by omega, by rw [q]; unfold yM; rw [if_neg (by omega)]; rfl⟩
    rw [fin k hk hy]
    exact wp_f (by rw [n_le (by omega) (by omega)]; omega) (wp_t (gin_N (by omega) (by omega)) (key k hk hy))
  · rintro v1 ⟨i1, i2⟩
    show wp (f_X8_askOf_B70 (nI d) x2 x3 (nI i) (nI (nRi (aT0 a))) v1) _
    unfold f_X8_askOf_B70
    rw [i1 0 (by omega), h07]
    refine wp_t (by rw [n_le (by omega) (by omega)]; exact Nat.le_refl _) (wp_some ⟨i1, fun r hr k hk => ?_⟩)
    have : v1.1 20 (9 * r + k) = nI (smN (cntf a d r (yM k)) i + if r < nRi (aT0 a) then cntf a d r (yM k) i else 0) := i2 r hr k hk
    rw [if_pos hr] at this
    show _ = nI (smN (cntf a d r (yM k)) (i + 1))
    rw [hss]; exact this
theorem askOf_M {u : gV} {a : Ab} {d : Nat} (h : RDY u a) (hd : d < 10) : wp (f_X8_askOf (nI d) u) (fun z => z.1 = askv a d ∧ RDY z.2 a) := by
  have hE := h.1.1.2.2.2.1
  have hn : nRi (aT0 a) ≤ 8 := nRi_le h.1.1.1
  unfold f_X8_askOf
  refine wp_bi (wasNow_M h) ?_
  rintro r3 v1 ⟨e1, h1⟩
  have e1 : r3 = wasv a := e1
  have h1 : RDY v1 a := h1
  rw [h1.e0]
  have hb : ∀ i, i < 10 → bt r3 i = wasp a i := fun i hi => by
    rw [e1]; unfold wasv; rw [bt_bo (by omega) (by omega), decide_eq_true hi, Bool.true_and]
  clear e1
  refine wp_t (by decide) (wp_bd (wp_bx1 (wp_cnt (Z := fun v => RDY v a ∧ ∀ k, k < 72 → v.1 20 k = 0) (fun i v => RDY v a ∧ ∀ k, k < i → v.1 20 k = 0) 72 0 v1 (by omega) (Nat.zero_le _) ⟨h1, fun k hk => absurd hk (Nat.not_lt_zero k)⟩ ?_ ?_) ?_))
  · rintro i v2 hi ⟨i1, i2⟩
    show wp (f_X8_askOf_B15 (nI d) r3 (aE a) (nI i) v2) _
    unfold f_X8_askOf_B15
    rw [l_72, n_cl (a := i) (by omega)]
    refine wp_f (by rw [n_le (by omega) (by omega)]; omega) (wp_t (gin_N (by omega) (by omega)) (wp_bd (wp_some ⟨nI_1 i, i1.k20 (fun q hq => sI_n hq), fun k hk => ?_⟩)))
    show (sI v2 20 i 0).1 20 k = 0
    by_cases e : k = i
    · subst e; rw [sI_s]
    · rw [sI_o e]; exact i2 k (by omega)
  · rintro v2 ⟨i1, i2⟩
    show wp (f_X8_askOf_B15 (nI d) r3 (aE a) (nI 72) v2) _
    unfold f_X8_askOf_B15
    exact wp_t (by rw [l_72, n_le (by omega) (by omega)]; exact Nat.le_refl _) (wp_some ⟨i1, i2⟩)
  · rintro v2 ⟨i1, i2⟩
    refine wp_bx1 (wp_cnt (Z := fun v => (∃ e, RDY v (evA a e)) ∧ AL v (nRi (aT0 a)) (fun r k => cntv a d r (yM k))) (fun i v => (∃ e, RDY v (evA a e)) ∧ AL v (nRi (aT0 a)) (fun r k => smN (cntf a d r (yM k)) i)) 10 0 v2 (by omega) (Nat.zero_le _) ⟨⟨aE a, i1⟩, fun r hr k hk => ?_⟩ ?_ ?_) ?_
    · exact i2 _ (by omega)
    · rintro i v3 hi ⟨⟨e9, j1⟩, j2⟩
      show wp (f_X8_askOf_B39 (nI d) r3 (aE a) (nI i) v3) _
      unfold f_X8_askOf_B39 f_X8_askOf_J114
      refine wp_f (by rw [l_10, n_le (by omega) (by omega)]; omega) (wp_gt (isIn_ok (by omega)) (fun c1 => ?_) (fun c1 => ?_))
      · rw [hb i hi] at c1
        refine wp_some ⟨nI_1 i, ⟨e9, j1⟩, fun r hr k hk => ?_⟩
        have e0 : cntf a d r (yM k) i = 0 := by unfold cntf; rw [c1, Bool.false_and, if_neg Bool.false_ne_true]
        show v3.1 20 (9 * r + k) = nI (smN (cntf a d r (yM k)) i + cntf a d r (yM k) i)
        rw [e0]; exact j2 r hr k hk
      · rw [hb i hi] at c1
        have h2 : RDY (sI v3 10 (0 : Int32).toNatClampNeg (nI i)) (evA a (nI i)) := evM j1 ⟨i, by omega, rfl⟩
        refine wp_t (by decide) (wp_bd (wp_bv (lives_M h2) ?_))
        rintro v5 ⟨h3, hL, hF⟩
        have a5 : AL v5 (nRi (aT0 a)) (fun r k => smN (cntf a d r (yM k)) i) := fun r hr k hk => by
          rw [hF.1 20 (by omega) (by omega), sI_n (by omega)]; exact j2 r hr k hk
        refine wp_bx1 (askCount_M h3 hL hd hi c1 a5) ?_
        rintro v7 ⟨k1, k2⟩
        exact wp_some ⟨nI_1 i, ⟨nI i, h3.k20 k1⟩, k2⟩
    · rintro v3 ⟨j1, j2⟩
      show wp (f_X8_askOf_B39 (nI d) r3 (aE a) (nI 10) v3) _
      unfold f_X8_askOf_B39
      exact wp_t (by rw [l_10, n_le (by omega) (by omega)]; exact Nat.le_refl _) (wp_some ⟨j1, j2⟩)
    · rintro v3 ⟨⟨e9, j1⟩, j2⟩
      have h4 : RDY (sI v3 10 (0 : Int32).toNatClampNeg (aE a)) a := evM j1 hE
      have j4 : ∀ r, r < nRi (aT0 a) → ∀ k, k < 9 → (sI v3 10 (0 : Int32).toNatClampNeg (aE a)).1 20 (9 * r + k) = nI (cntv a d r (yM k)) := fun r hr k hk => by
        rw [sI_n (by omega)]; exact j2 r hr k hk
      generalize sI v3 10 (0 : Int32).toNatClampNeg (aE a) = v4 at *
      have cle : ∀ r k, cntv a d r (yM k) ≤ 10 := fun r k => smN_le (cntf_le a d r (yM k)) 10
      have mle : ∀ r n, n ≤ 9 → mx (fun k => cntv a d r (yM k)) n ≤ 10 := fun r n _ => mx_le (fun k _ => cle r k)
      have hg : askv a d = (bl (grM a d) (nRi (aT0 a))).1 := by
        unfold askv
        rw [show grM a d = grC a d from funext (gr_CM a d)]
      rw [hg]
      have h07 : v4.1 0 7 = nI (nRi (aT0 a)) := h4.2.1.1
      refine wp_t (by decide) (wp_bd (wp_bx2 (wp_ct (Z := fun z => z.1 = v4 ∧ z.2 = (bl (grM a d) (nRi (aT0 a))).1) (fun i z => z.1 = v4 ∧ (z.2.1, z.2.2.1) = bl (grM a d) i ∧ z.2.2.2 = nI i) (nRi (aT0 a)) 0 _ (by omega) (Nat.zero_le _) ⟨rfl, rfl, rfl⟩ ?_ ?_) ?_))
      · rintro i ⟨v5, x, y, z⟩ hi ⟨f1, f2, f3⟩
        have f1 : v5 = v4 := f1
        have f2 : (x, y) = bl (grM a d) i := f2
        have f3 : z = nI i := f3
        subst f1 f3
        have bs0 : bl (grM a d) (i + 1) = if (bl (grM a d) i).1 = -1 ∨ nI (grM a d i) < (bl (grM a d) i).2 then (nI i, nI (grM a d i)) else bl (grM a d) i := rfl
        rw [← f2] at bs0
        have bs : bl (grM a d) (i + 1) = if x = -1 ∨ nI (grM a d i) < y then (nI i, nI (grM a d i)) else (x, y) := bs0
        clear bs0
        show wp (f_X8_askOf_B136 x y (nI i) v5) _
        unfold f_X8_askOf_B136
        rw [h07]
        refine wp_f (by rw [n_le (by omega) (by omega)]; omega) (wp_bx2 (wp_ct (Z := fun z => z.1 = v5 ∧ z.2 = nI (grM a d i)) (fun k z => z.1 = v5 ∧ z.2.1 = nI (mx (fun k => cntv a d i (yM k)) k) ∧ z.2.2 = nI k) 9 0 _ (by omega) (Nat.zero_le _) ⟨rfl, rfl, rfl⟩ ?_ ?_) ?_)
        · rintro k ⟨v6, p, q⟩ hk ⟨g1, g2, g3⟩
          have g1 : v6 = v5 := g1
          have g2 : p = nI (mx (fun k => cntv a d i (yM k)) k) := g2
          have g3 : q = nI k := g3
          subst g1 g2 g3
          show wp (f_X8_askOf_B151 x y (nI i) _ (nI k) v6) _
          unfold f_X8_askOf_B151
          rw [l_9, n_mul, n_add, n_cl (a := 9 * i + k) (by omega), j4 i hi k hk]
          refine wp_f (by rw [n_le (by omega) (by omega)]; omega) (wp_t (gin_N (by omega) (by omega)) (wp_bi (wp_of greater_M) ?_))
          rintro r5 v7 ⟨rfl, rfl⟩
          refine wp_some ⟨rfl, ?_, nI_1 k⟩
          have c1 := cle i k
          have c2 := mle i k (by omega)
          show (if nI (cntv a d i (yM k)) ≤ nI (mx (fun k => cntv a d i (yM k)) k) then nI (mx (fun k => cntv a d i (yM k)) k) else nI (cntv a d i (yM k))) = nI (max (mx (fun k => cntv a d i (yM k)) k) (cntv a d i (yM k)))
          generalize cntv a d i (yM k) = A at *
          generalize mx (fun k => cntv a d i (yM k)) k = B at *
          by_cases z : A ≤ B
          · rw [if_pos (by rw [n_le (by omega) (by omega)]; exact z), show max B A = B by omega]
          · rw [if_neg (by rw [n_le (by omega) (by omega)]; exact z), show max B A = A by omega]
        · rintro ⟨v6, p, q⟩ ⟨g1, g2, g3⟩
          have g3 : q = nI 9 := g3
          subst g3
          show wp (f_X8_askOf_B151 x y (nI i) p (nI 9) v6) _
          unfold f_X8_askOf_B151
          exact wp_t (by rw [l_9, n_le (by omega) (by omega)]; exact Nat.le_refl _) (wp_some ⟨g1, g2⟩)
        · rintro v6 p ⟨g1, g2⟩
          have g1 : v6 = v5 := g1
          have g2 : p = nI (grM a d i) := g2
          subst g1 g2
          unfold f_X8_askOf_J197 f_X8_askOf_J202 f_X8_askOf_J216 f_X8_askOf_J230
          refine wp_if (fun c1 => ?_) (fun c1 => wp_if (fun c2 => ?_) (fun c2 => ?_))
          · rw [if_pos (Or.inl c1)] at bs
            exact wp_f (by decide) (wp_f (by decide) (wp_some ⟨rfl, bs.symm, nI_1 i⟩))
          · rw [if_neg (fun q => by
              rcases q with q | q
              · exact c1 q
              · rw [i_lt] at q; rw [i_le] at c2; omega)] at bs
            exact wp_t rfl (wp_t rfl (wp_some ⟨rfl, bs.symm, nI_1 i⟩))
          · rw [if_pos (Or.inr (by rw [i_lt]; rw [i_le] at c2; omega))] at bs
            exact wp_f (by decide) (wp_f (by decide) (wp_some ⟨rfl, bs.symm, nI_1 i⟩))
      · rintro ⟨v5, x, y, z⟩ ⟨f1, f2, f3⟩
        have f1 : v5 = v4 := f1
        have f2 : (x, y) = bl (grM a d) (nRi (aT0 a)) := f2
        have f3 : z = nI (nRi (aT0 a)) := f3
        subst f1 f3
        show wp (f_X8_askOf_B136 x y (nI (nRi (aT0 a))) v5) _
        unfold f_X8_askOf_B136
        rw [h07]
        exact wp_t (by rw [n_le (by omega) (by omega)]; exact Nat.le_refl _) (wp_some ⟨rfl, by rw [← f2]⟩)
      · rintro v5 x ⟨f1, f2⟩
        have f1 : v5 = v4 := f1
        subst f1
        exact wp_some ⟨f2, h4⟩
theorem ask_M {u : gV} {a : Ab} {d : Int32} (h : InvM u a) : OKM (f_X8_ask d u) (sp_ask d a) := by
  unfold OKM f_X8_ask
  refine wp_bv (reads_M h) ?_
  rintro u1 ⟨h1, h2⟩
  refine wp_gt isDay_M (fun c1 => ?_) (fun c1 => ?_)
  · have hs : sp_ask d a = (-2, a) := by unfold sp_ask; rw [if_neg (by rw [c1]; exact Bool.false_ne_true)]
    rw [hs]; exact wp_some ⟨rfl, h1.1⟩
  · have hs : sp_ask d a = (askv a (d.toNatClampNeg), a) := by unfold sp_ask; rw [if_pos c1]
    rw [hs]
    obtain ⟨k, hk, -, rfl, ck⟩ := gin_cl c1
    rw [ck]
    refine wp_bi (askOf_M h1 hk) ?_
    rintro r3 u3 ⟨e1, e2⟩
    exact wp_some ⟨e1, e2.1⟩
