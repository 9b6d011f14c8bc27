/-! THE REFERENCE: maybe -/
theorem hlv_gcd : ∀ (n x : Nat), hlv n x (2 ^ n) = (x / Nat.gcd x (2 ^ n), 2 ^ n / Nat.gcd x (2 ^ n))
  | 0, x => by rw [hlv, Nat.pow_zero, Nat.gcd_one_right, Nat.div_one, Nat.div_one]
  | n + 1, x => by
    rw [hlv]
    by_cases h : x % 2 = 0
    · rw [if_pos h]
      obtain ⟨y, rfl⟩ : ∃ y, x = 2 * y := ⟨x / 2, by omega⟩
      have e2 : 2 ^ (n + 1) = 2 * 2 ^ n := by rw [Nat.pow_succ, Nat.mul_comm]
      rw [e2, Nat.mul_div_cancel_left _ (by omega), Nat.mul_div_cancel_left _ (by omega), hlv_gcd n y, Nat.gcd_mul_left, Nat.mul_div_mul_left _ _ (by omega), Nat.mul_div_mul_left _ _ (by omega)]
    · rw [if_neg h]
      have c1 : Nat.Coprime x 2 := by
        unfold Nat.Coprime
        rw [Nat.gcd_comm, Nat.gcd_rec, show x % 2 = 1 by omega]
        rfl
      have c2 : Nat.gcd x (2 ^ (n + 1)) = 1 := Nat.Coprime.pow_right (n + 1) c1
      rw [c2, Nat.div_one, Nat.div_one]
/-- Euclid: dividing by the greatest common part -/
theorem part_M {u : gV} {X Y : Nat} {w : Int32} (hX : X < 2 ^ 62) (hY : Y < 2 ^ 62) (hY0 : 0 < Y) : f_X8_part (lN X) (lN Y) w u = some (if w = 0 then lN (X / Nat.gcd X Y) else lN (Y / Nat.gcd X Y), u) := by
  apply wp_is
  unfold f_X8_part
  refine wp_bx2 (wp_lp (Z := fun z => z.1 = u ∧ z.2 = lN (Nat.gcd X Y)) (fun k z => ∃ p q, p < 2 ^ 62 ∧ q < 2 ^ 62 ∧ z.1 = u ∧ z.2.1 = lN p ∧ z.2.2 = lN q ∧ Nat.gcd p q = Nat.gcd X Y ∧ q ≤ k) ?_ fu Y _ ⟨X, Y, hX, hY, rfl, rfl, rfl, rfl, Nat.le_refl _⟩ (by unfold fu; omega)) ?_
  · rintro k ⟨v, a, b⟩ ⟨p, q, hp, hq, e1, e2, e3, e4, hk⟩
    have e1 : v = u := e1
    have e2 : a = lN p := e2
    have e3 : b = lN q := e3
    subst e1 e2 e3
    show wp (f_X8_part_B6 (lN X) (lN Y) w (lN p) (lN q) v) _
    unfold f_X8_part_B6
    refine wp_if (fun c1 => ?_) (fun c1 => ?_)
    · rw [lcmp0 (by omega)] at c1
      subst c1
      refine wp_some ⟨rfl, ?_⟩
      rw [← e4, Nat.gcd_zero_right]
    · rw [lcmp0 (by omega)] at c1
      have hrem : jremL (lN p) (lN q) = lN (p % q) := pk_lRem (by omega) (by omega) (by omega)
      rw [hrem]
      have hlt := Nat.mod_lt p (show q > 0 by omega)
      obtain ⟨k', rfl⟩ : ∃ k', k = k' + 1 := ⟨k - 1, by omega⟩
      refine wp_f (fun z => c1 ((pk_lEQ (b := 0) (by omega) (by omega)).mp z)) (wp_bd (wp_some ⟨k', rfl, q, p % q, hq, by omega, rfl, rfl, rfl, ?_, by omega⟩))
      rw [← e4, Nat.gcd_comm q, ← Nat.gcd_rec, Nat.gcd_comm]
  · rintro v y ⟨e1, e2⟩
    have e1 : v = u := e1
    have e2 : y = lN (Nat.gcd X Y) := e2
    subst e1 e2
    have g0 : 0 < Nat.gcd X Y := Nat.gcd_pos_of_pos_right X hY0
    have gl : Nat.gcd X Y ≤ Y := Nat.gcd_le_right X hY0
    have n0 : ¬ lN (Nat.gcd X Y) = 0 := fun z => by
      have := (pk_lEQ (b := 0) (by omega) (by omega)).mp z
      omega
    unfold f_X8_part_J41
    refine wp_if (fun c1 => wp_f n0 (wp_some ?_)) (fun c1 => wp_f n0 (wp_some ?_))
    · rw [if_pos c1, pk_lDiv (by omega) g0 (by omega)]
    · rw [if_neg c1, pk_lDiv (by omega) g0 (by omega)]
def pdN (f : Nat → Nat) : Nat → Nat
  | 0 => 1
  | n + 1 => pdN f n * f n
def wF (c T st s : Nat) : Nat := if T.testBit s = true then (if st.testBit s = true then c else 16 - c) else 1
def bN (T s : Nat) : Nat := if T.testBit s = true then 1 else 0
theorem pd_eq {c T st : Nat} (hs : ∀ k, k < 10 → st.testBit k = true → T.testBit k = true) : ∀ n, n ≤ 10 → smN (bN st) n ≤ smN (bN T) n ∧ pdN (wF c T st) n = c ^ smN (bN st) n * (16 - c) ^ (smN (bN T) n - smN (bN st) n)
  | 0, _ => ⟨Nat.le_refl _, by rw [smN, smN, pdN, Nat.pow_zero, Nat.sub_self, Nat.pow_zero]⟩
  | n + 1, hn => by
    obtain ⟨h1, h2⟩ := pd_eq (c := c) hs n (by omega)
    have hs := hs n (by omega)
    rw [smN, smN, pdN, h2]
    unfold bN wF
    unfold bN at h1
    generalize smN (fun s => if st.testBit s = true then 1 else 0) n = p at *
    generalize smN (fun s => if T.testBit s = true then 1 else 0) n = q at *
    cases hT : T.testBit n with
    | true =>
      cases hS : st.testBit n with
      | true =>
        rw [if_pos rfl, if_pos rfl, if_pos rfl]
        refine ⟨by omega, ?_⟩
        rw [show q + 1 - (p + 1) = q - p by omega, Nat.pow_succ, Nat.mul_assoc, Nat.mul_assoc, Nat.mul_comm c]
      | false =>
        rw [if_neg Bool.false_ne_true, if_pos rfl, if_pos rfl, if_neg Bool.false_ne_true]
        refine ⟨by omega, ?_⟩
        rw [Nat.add_zero, show q + 1 - p = (q - p) + 1 by omega, Nat.pow_succ, Nat.mul_assoc]
    | false =>
      cases hS : st.testBit n with
      | true => rw [hS, hT] at hs; exact absurd (hs rfl) Bool.false_ne_true
      | false =>
        rw [if_neg Bool.false_ne_true, if_neg Bool.false_ne_true]
        exact ⟨h1, by rw [Nat.add_zero, Nat.add_zero, Nat.mul_one]⟩
theorem sub_bit {C st : Nat} (h : nI st &&& (nI C ^^^ -1) = 0) : ∀ k, k < 10 → st.testBit k = true → C.testBit k = true := fun k hk h1 => by
  have e : bt (nI st &&& (nI C ^^^ -1)) k = false := by rw [h]; exact b_0 k
  rw [b_and, b_xor, b_m1 k (by omega), bt_nI (by omega), bt_nI (by omega), h1] at e
  simpa using e
theorem weight_M {v : gV} {c T st b : Nat} {x2 x3 x4 : Int32} {x6 : Int64} (hc : c ≤ 16) : wp (lp (fun a : gV × Int64 × Int32 => f_X8_maybeOf_B63 (nI c) x2 x3 x4 (nI T) x6 (nI st) a.2.1 a.2.2 a.1) fu (v, lN b, (0 : Int32))) (fun z => z.1 = v ∧ z.2 = lN (b * pdN (wF c T st) 10)) := by
  refine wp_ct (fun i z => z.1 = v ∧ z.2.1 = lN (b * pdN (wF c T st) i) ∧ z.2.2 = nI i) 10 0 _ (by omega) (Nat.zero_le _) ⟨rfl, by rw [pdN, Nat.mul_one], rfl⟩ ?_ ?_
  · rintro i ⟨v1, x, y⟩ hi ⟨e1, e2, e3⟩
    have e1 : v1 = v := e1
    have e2 : x = lN (b * pdN (wF c T st) i) := e2
    have e3 : y = nI i := e3
    subst e1 e2 e3
    have key : ∀ k, k = wF c T st i → ∀ y, y = lN k → wp (f_X8_maybeOf_J106 (nI c) x2 x3 x4 (nI T) x6 (nI st) (nI i) y (lN (b * pdN (wF c T st) i)) v1) (SE (fun z : gV × Int64 × Int32 => z.1 = v1 ∧ z.2.1 = lN (b * pdN (wF c T st) (i + 1)) ∧ z.2.2 = nI (i + 1)) (fun z : gV × Int64 => z.1 = v1 ∧ z.2 = lN (b * pdN (wF c T st) 10))) := fun k hk y hy => by
      unfold f_X8_maybeOf_J106
      refine wp_bd (wp_some ⟨rfl, ?_, nI_1 i⟩)
      show lN _ * y = _
      rw [hy, lN_mul, hk, pdN, Nat.mul_assoc]
    show wp (f_X8_maybeOf_B63 (nI c) x2 x3 x4 (nI T) x6 (nI st) _ (nI i) v1) _
    unfold f_X8_maybeOf_B63
    refine wp_f (by rw [l_10, n_le (by omega) (by omega)]; omega) (wp_gt (isIn_ok (by omega)) (fun c1 => ?_) (fun c1 => wp_gt (isIn_ok (by omega)) (fun c2 => ?_) (fun c2 => ?_)))
    · rw [bt_nI (by omega)] at c1
      exact key 1 (by unfold wF; rw [c1, if_neg Bool.false_ne_true]) _ rfl
    · rw [bt_nI (by omega)] at c1 c2
      exact key (16 - c) (by unfold wF; rw [c1, c2, if_pos rfl, if_neg Bool.false_ne_true]) _ (by rw [l_16, n_sub hc, nI_l (by omega)])
    · rw [bt_nI (by omega)] at c1 c2
      exact key c (by unfold wF; rw [c1, c2, if_pos rfl, if_pos rfl]) _ (nI_l (by omega))
  · rintro ⟨v1, x, y⟩ ⟨e1, e2, e3⟩
    have e1 : v1 = v := e1
    have e2 : x = lN (b * pdN (wF c T st) 10) := e2
    have e3 : y = nI 10 := e3
    subst e1 e2 e3
    generalize lN (b * pdN (wF c T st) 10) = L at *
    show wp (f_X8_maybeOf_B63 (nI c) x2 x3 x4 (nI T) x6 (nI st) L (nI 10) v1) _
    unfold f_X8_maybeOf_B63
    exact wp_t (by rw [l_10, n_le (by omega) (by omega)]; exact Nat.le_refl _) (wp_some ⟨rfl, rfl⟩)
theorem maybeOf_M {u : gV} {a : Ab} {c d r : Nat} {w : Int32} (h : RDY u a) (hc : c ≤ 16) (hd : d < 10) (hr : r < nRi (aT0 a)) : wp (f_X8_maybeOf (nI c) (nI d) (nI r) w u) (fun z => z.1 = maybv a c d r w ∧ RDY z.2 a) := by
  have hO := h.1.1
  obtain ⟨T, hT, eT⟩ := id hO.2.2.2.2.1
  have eal : allN a = pcN T := by unfold allN; rw [eT, n_cl (by omega)]
  have hT10 := pcN_le T
  unfold f_X8_maybeOf
  rw [h.c0]
  refine wp_t (by decide) (wp_bd (wp_bx2 (wp_ct (Z := fun z => (∃ c, RDY z.1 (cgA a c)) ∧ z.2 = lN (abv a c d r 1024)) (fun i z => z.2.2 = nI i ∧ (∃ c, RDY z.1 (cgA a c)) ∧ z.2.1 = lN (abv a c d r i)) 1024 0 _ (by omega) (Nat.zero_le _) ⟨rfl, ⟨aC a, h⟩, rfl⟩ ?_ ?_) ?_))
  · rintro i ⟨v1, x, z⟩ hi ⟨e, ⟨c9, hI⟩, hx⟩
    have e : z = nI i := e
    have hI : RDY v1 (cgA a c9) := hI
    have hx : x = lN (abv a c d r i) := hx
    subst e hx
    have bs : abv a c d r (i + 1) = abv a c d r i + (if mok a d r i = true then mW c (allN a) (pcN i) else 0) := rfl
    show wp (f_X8_maybeOf_B14 (nI c) (nI d) (nI r) w (aC a) _ (nI i) v1) _
    unfold f_X8_maybeOf_B14 f_X8_maybeOf_J58 f_X8_maybeOf_J122
    refine wp_f (by rw [l_1024, n_le (by omega) (by omega)]; omega) (wp_if (fun c1 => ?_) (fun c1 => ?_))
    · have h2 : RDY (sI v1 10 (1 : Int32).toNatClampNeg (nI i)) (cgA a (nI i)) := cgM hI ⟨i, hi, rfl⟩
      refine wp_t (by decide) (wp_bd (wp_bv (lives_M h2) ?_))
      rintro v5 ⟨h3, hL, -⟩
      have hsv : f_X8_isServed (nI d) (nI r) v5 = some (b2 (svb a r d i), v5) := isServed_M h3.tm hL hd hr
      have hmk : mok a d r i = svb a r d i := by unfold mok; rw [decide_eq_true c1, Bool.true_and]
      rw [hmk] at bs
      rw [eT] at c1
      obtain ⟨-, hp⟩ := pd_eq (c := c) (sub_bit c1) 10 (Nat.le_refl _)
      have hp : pdN (wF c T i) 10 = mW c (allN a) (pcN i) := by rw [hp, eal]; rfl
      rw [eT]
      refine wp_gt hsv (fun c2 => ?_) (fun c2 => ?_)
      · rw [c2, if_neg Bool.false_ne_true] at bs
        refine wp_bx2 (weight_M (b := 0) hc) ?_
        rintro v6 y ⟨g1, g2⟩
        have g1 : v6 = v5 := g1
        have g2 : y = lN (0 * pdN (wF c T i) 10) := g2
        subst g1 g2
        refine wp_bd (wp_some ⟨nI_1 i, ⟨nI i, h3⟩, ?_⟩)
        show lN _ + lN _ = _
        rw [bs, lN_add, Nat.zero_mul]
      · rw [c2, if_pos rfl] at bs
        refine wp_bx2 (weight_M (b := 1) hc) ?_
        rintro v6 y ⟨g1, g2⟩
        have g1 : v6 = v5 := g1
        have g2 : y = lN (1 * pdN (wF c T i) 10) := g2
        subst g1 g2
        refine wp_bd (wp_some ⟨nI_1 i, ⟨nI i, h3⟩, ?_⟩)
        show lN _ + lN _ = _
        rw [bs, lN_add, Nat.one_mul, hp]
    · have hmk : mok a d r i = false := by unfold mok; rw [decide_eq_false c1, Bool.false_and]
      rw [hmk, if_neg Bool.false_ne_true, Nat.add_zero] at bs
      exact wp_some ⟨nI_1 i, ⟨c9, hI⟩, by rw [bs]; rfl⟩
  · rintro ⟨v1, x, z⟩ ⟨e, hI, hx⟩
    have e : z = nI 1024 := e
    have hx : x = lN (abv a c d r 1024) := hx
    subst e hx
    generalize lN (abv a c d r 1024) = L
    show wp (f_X8_maybeOf_B14 (nI c) (nI d) (nI r) w (aC a) L (nI 1024) v1) _
    unfold f_X8_maybeOf_B14
    exact wp_t (by rw [l_1024, n_le (by omega) (by omega)]; exact Nat.le_refl _) (wp_some ⟨hI, rfl⟩)
  · rintro v1 x ⟨⟨c9, hI⟩, hx⟩
    have hI : RDY v1 (cgA a c9) := hI
    have hx : x = lN (abv a c d r 1024) := hx
    have h4 : RDY (sI v1 10 (1 : Int32).toNatClampNeg (aC a)) a := cgM hI hO.2.2.2.2.1
    have hX := abv_lt hO (c := c) (d := d) (r := r) hc
    have hv : maybv a c d r w = if w = 0 then lN (hlv (4 * pcN T) (abv a c d r 1024) (2 ^ (4 * pcN T))).1 else lN (hlv (4 * pcN T) (abv a c d r 1024) (2 ^ (4 * pcN T))).2 := by
      unfold maybv
      rw [eal]
    rw [hv, hlv_gcd]
    generalize abv a c d r 1024 = X at *
    subst hx
    refine wp_t (by decide) (wp_bd ?_)
    rw [eT] at h4 ⊢
    refine wp_bi (wp_of (ones_M hT)) ?_
    rintro r7 v5 ⟨rfl, rfl⟩
    have h40 : 2 ^ (4 * pcN T) ≤ 2 ^ 40 := Nat.pow_le_pow_right (by omega) (by omega)
    have hone : (1 : Int64) <<< (((4 : Int32) * nI (pcN T)).toInt64 &&& 63) = lN (2 ^ (4 * pcN T)) := by
      rw [l_4, n_mul]
      have := wb_shl 1 (k := 4 * pcN T) (by omega)
      rw [Nat.one_mul] at this
      exact this
    rw [hone]
    refine wp_bj (wp_of (part_M hX (by omega) (Nat.two_pow_pos _))) ?_
    rintro r10 v8 ⟨rfl, rfl⟩
    exact wp_some ⟨rfl, h4⟩
def OKLM (o : Option (Int64 × gV)) (s : Int64 × Ab) : Prop := wp o (fun z => z.1 = s.1 ∧ InvM z.2 s.2)
theorem maybe_M {u : gV} {a : Ab} {c d r w : Int32} (h : InvM u a) : OKLM (f_X8_maybe c d r w u) (sp_maybe c d r w a) := by
  unfold OKLM f_X8_maybe
  refine wp_bv (reads_M h) ?_
  rintro u1 ⟨h1, h2⟩
  have bad : ∀ (q : ¬ (gin c 17 = true ∧ gin d 10 = true ∧ gin r (nRi (aT0 a)) = true ∧ gin w 2 = true)), wp (f_X8_maybe_J51 u1) (fun z => z.1 = (sp_maybe c d r w a).1 ∧ InvM z.2 (sp_maybe c d r w a).2) := fun q => by
    have hs : sp_maybe c d r w a = (-9223372036854775806, a) := by unfold sp_maybe; rw [if_neg q]
    rw [hs]
    unfold f_X8_maybe_J51 f_X8_no
    exact wp_some ⟨show (-9223372036854775808 : Int64) - (-2 : Int32).toInt64 = -9223372036854775806 by decide, h1.1⟩
  refine wp_gt (in_g 17 (by decide)) (fun c1 => bad (fun q => by rw [c1] at q; exact Bool.false_ne_true q.1)) (fun c1 => wp_gt isDay_M (fun c2 => bad (fun q => by rw [c2] at q; exact Bool.false_ne_true q.2.1)) (fun c2 => wp_gt (isRider_M h1.2.1.1 (nRi_le h.1.1)) (fun c3 => bad (fun q => by rw [c3] at q; exact Bool.false_ne_true q.2.2.1)) (fun c3 => wp_gt isTwo_M (fun c4 => bad (fun q => by rw [c4] at q; exact Bool.false_ne_true q.2.2.2)) (fun c4 => ?_))))
  have hs : sp_maybe c d r w a = (maybv a (c.toNatClampNeg) (d.toNatClampNeg) (r.toNatClampNeg) w, a) := by unfold sp_maybe; rw [if_pos ⟨c1, c2, c3, c4⟩]
  rw [hs]
  obtain ⟨C, hC, -, rfl, cC⟩ := gin_cl c1
  obtain ⟨d', hd, -, rfl, cd⟩ := gin_cl c2
  obtain ⟨r', hr, -, rfl, cr⟩ := gin_cl c3
  rw [cC, cd, cr]
  refine wp_bj (maybeOf_M h1 (by omega) hd hr) ?_
  rintro r3 u3 ⟨e1, e2⟩
  exact wp_some ⟨e1, e2.1⟩
