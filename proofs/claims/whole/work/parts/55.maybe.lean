/-! THE CALLS: maybe -/
def mok (a : Ab) (d r st : Nat) : Bool := decide (nI st &&& (aC a ^^^ -1) = 0) && svb a r d st
def allN (a : Ab) : Nat := pcN ((aC a).toNatClampNeg)
def mW (c al p : Nat) : Nat := c ^ p * (16 - c) ^ (al - p)
def abv (a : Ab) (c d r : Nat) (n : Nat) : Nat := smN (fun st => if mok a d r st = true then mW c (allN a) (pcN st) else 0) n
def hlv : Nat → Nat → Nat → Nat × Nat
  | 0, x, y => (x, y)
  | k + 1, x, y => if x % 2 = 0 then hlv k (x / 2) (y / 2) else (x, y)
def maybv (a : Ab) (c d r : Nat) (w : Int32) : Int64 := if w = 0 then lN (hlv (4 * allN a) (abv a c d r 1024) (2 ^ (4 * allN a))).1 else lN (hlv (4 * allN a) (abv a c d r 1024) (2 ^ (4 * allN a))).2
def sp_maybe (c d r w : Int32) (a : Ab) : Int64 × Ab := if gin c 17 = true ∧ gin d 10 = true ∧ gin r (nRi (aT0 a)) = true ∧ gin w 2 = true then (maybv a (c.toNatClampNeg) (d.toNatClampNeg) (r.toNatClampNeg) w, a) else (-9223372036854775806, a)
def OKL (o : Option (Int64 × gV)) (s : Int64 × Ab) (c : Nat) : Prop := wp o (fun z => z.1 = s.1 ∧ InvX z.2 s.2 (c + 1))
/-- how many of the sets below n serve, with p stops -/
def mct (a : Ab) (d r p n : Nat) : Nat := smN (fun st => if mok a d r st = true ∧ pcN st = p then 1 else 0) n
theorem mct_le {a : Ab} {d r p n : Nat} : mct a d r p n ≤ n := by
  have := sm_max (f := fun st => if mok a d r st = true ∧ pcN st = p then 1 else 0) (c := 1) (n := n) (fun k _ => by split <;> omega)
  unfold mct
  omega
theorem sub_pc {C st : Nat} (h : nI st &&& (nI C ^^^ -1) = 0) : pcN st ≤ pcN C := by
  unfold pcN
  refine sm_le (fun k hk => ?_)
  have e : bt (nI st &&& (nI C ^^^ -1)) k = false := by rw [h]; exact b_0 k
  rw [b_and, b_xor, b_m1 k (by omega), bt_nI (by omega), bt_nI (by omega)] at e
  cases h1 : st.testBit k with
  | false => rw [if_neg Bool.false_ne_true]; exact Nat.zero_le _
  | true =>
    rw [h1] at e
    have : C.testBit k = true := by simpa using e
    rw [this]
    exact Nat.le_refl _
theorem mok_pc {a : Ab} (hO : okAb a) {d r st : Nat} (h : mok a d r st = true) : pcN st ≤ allN a := by
  obtain ⟨C, hC, eC⟩ := hO.2.2.2.2.1
  unfold mok at h
  rw [Bool.and_eq_true] at h
  have h1 := of_decide_eq_true h.1
  rw [eC] at h1
  unfold allN
  rw [eC, n_cl (by omega)]
  exact sub_pc h1
theorem sm_add {f g : Nat → Nat} : ∀ n, smN (fun k => f k + g k) n = smN f n + smN g n
  | 0 => rfl
  | n + 1 => by rw [smN, smN, smN, sm_add n]; omega
theorem sm_one {p W : Nat → Nat} {q : Nat} : ∀ n, q < n → smN (fun k => (p k + if k = q then 1 else 0) * W k) n = smN (fun k => p k * W k) n + W q := by
  intro n hq
  have h1 : ∀ m, smN (fun k => (p k + if k = q then 1 else 0) * W k) m = smN (fun k => p k * W k) m + (if q < m then W q else 0) := by
    intro m
    induction m with
    | zero => rfl
    | succ m ih =>
      rw [smN, smN, ih]
      by_cases e : m = q
      · subst e
        rw [if_neg (Nat.lt_irrefl m), if_pos (Nat.lt_succ_self m), if_pos rfl, Nat.add_mul]
        omega
      · rw [if_neg e, Nat.add_zero]
        by_cases z : q < m
        · rw [if_pos z, if_pos (show q < m + 1 by omega)]; omega
        · rw [if_neg z, if_neg (show ¬ q < m + 1 by omega)]; omega
  rw [h1 n, if_pos hq]
theorem mct_sum {a : Ab} (hO : okAb a) {c d r : Nat} : ∀ n, smN (fun p => mct a d r p n * mW c (allN a) p) (allN a + 1) = abv a c d r n
  | 0 => by
    have : ∀ m, smN (fun p => mct a d r p 0 * mW c (allN a) p) m = 0 := by
      intro m
      induction m with
      | zero => rfl
      | succ m ih => rw [smN, ih]; unfold mct; rw [smN, Nat.zero_mul]
    rw [this]; rfl
  | n + 1 => by
    have ih := mct_sum hO (c := c) (d := d) (r := r) n
    have ea : abv a c d r (n + 1) = abv a c d r n + (if mok a d r n = true then mW c (allN a) (pcN n) else 0) := rfl
    rw [ea]
    by_cases h : mok a d r n = true
    · rw [if_pos h, ← ih, ← sm_one (p := fun p => mct a d r p n) (W := mW c (allN a)) (allN a + 1) (Nat.lt_succ_of_le (mok_pc hO h))]
      refine sm_cong (fun k _ => ?_)
      have : mct a d r k (n + 1) = mct a d r k n + (if k = pcN n then 1 else 0) := by
        unfold mct
        rw [smN]
        by_cases z : k = pcN n
        · rw [if_pos z, if_pos ⟨h, z.symm⟩]
        · rw [if_neg z, if_neg (fun q => z q.2.symm)]
      show mct a d r k (n + 1) * _ = _
      rw [this]
    · rw [if_neg h, Nat.add_zero, ← ih]
      refine sm_cong (fun k _ => ?_)
      have : mct a d r k (n + 1) = mct a d r k n := by
        unfold mct
        rw [smN, if_neg (fun q => h q.1), Nat.add_zero]
      show mct a d r k (n + 1) * _ = _
      rw [this]
theorem mW_le {c al p : Nat} (hc : c ≤ 16) (hp : p ≤ al) : mW c al p ≤ 16 ^ al := by
  unfold mW
  have h1 : c ^ p ≤ 16 ^ p := Nat.pow_le_pow_left hc p
  have h2 : (16 - c) ^ (al - p) ≤ 16 ^ (al - p) := Nat.pow_le_pow_left (by omega) _
  have h3 := Nat.mul_le_mul h1 h2
  rw [← Nat.pow_add, show p + (al - p) = al by omega] at h3
  exact h3
theorem allN_le {a : Ab} : allN a ≤ 10 := pcN_le _
theorem abv_lt {a : Ab} (hO : okAb a) {c d r : Nat} (hc : c ≤ 16) : abv a c d r 1024 < 2 ^ 62 := by
  have h16 : 16 ^ allN a ≤ 16 ^ 10 := Nat.pow_le_pow_right (by omega) allN_le
  have := sm_max (f := fun st => if mok a d r st = true then mW c (allN a) (pcN st) else 0) (c := 16 ^ 10) (n := 1024) (fun k _ => by
    by_cases h : mok a d r k = true
    · rw [if_pos h]; exact Nat.le_trans (mW_le hc (mok_pc hO h)) h16
    · rw [if_neg h]; exact Nat.zero_le _)
  unfold abv
  have e : 1024 * 16 ^ 10 < 2 ^ 62 := by decide
  omega
theorem lcmp0 {x : Nat} (h : x < 2 ^ 63) : (lg_cmp (lN x) 0 = 0) = (x = 0) := by
  have h1 : lN x > 0 ↔ 0 < x := pk_lLT (a := 0) (by omega) h
  have h2 : lN x = 0 ↔ x = 0 := pk_lEQ (b := 0) h (by omega)
  unfold lg_cmp
  by_cases z : x = 0
  · rw [if_neg (fun q => by have := h1.mp q; omega), if_pos (h2.mpr z)]
    exact propext ⟨fun _ => z, fun _ => rfl⟩
  · rw [if_pos (h1.mpr (by omega))]
    exact propext ⟨fun q => absurd q (by decide), fun q => absurd q z⟩
/-- the chance: the weights by how many stops -/
theorem chance_ok {v : gV} {c al : Nat} {N : Nat → Nat} (hc : c ≤ 16) (hal : al ≤ 10) (hN : ∀ j, j < 11 → v.1 117 j = nI (N j) ∧ N j < 2147483648) : f_X7_chanceAbove (nI c) (nI al) v = some (lN (smN (fun p => N p * mW c al p) (al + 1)), v) := by
  apply wp_is
  unfold f_X7_chanceAbove
  refine wp_bx2 (wp_ct (Z := fun z => z.1 = v ∧ z.2 = lN (smN (fun p => N p * mW c al p) (al + 1))) (fun p z => z.1 = v ∧ z.2.1 = lN (smN (fun p => N p * mW c al p) p) ∧ z.2.2 = nI p) (al + 1) 0 _ (by omega) (Nat.zero_le _) ⟨rfl, rfl, rfl⟩ ?_ ?_) ?_
  · rintro p ⟨v1, x, y⟩ hp ⟨e1, e2, e3⟩
    have e1 : v1 = v := e1
    have e2 : x = lN (smN (fun p => N p * mW c al p) p) := e2
    have e3 : y = nI p := e3
    subst e1 e2 e3
    show wp (f_X7_chanceAbove_B5 (nI c) (nI al) _ (nI p) v1) _
    unfold f_X7_chanceAbove_B5
    refine wp_f (by rw [n_lt (by omega) (by omega)]; omega) (wp_f (by rw [n_le (by omega) (by omega)]; omega) (wp_t (gin_N (by omega) (by omega)) (wp_bd ?_)))
    obtain ⟨g1, g2⟩ := hN p (by omega)
    rw [n_cl (by omega), g1, nI_l g2]
    refine wp_bx2 (wp_ct (Z := fun z => z.1 = v1 ∧ z.2 = lN (N p * mW c al p)) (fun i z => z.1 = v1 ∧ z.2.1 = lN (N p * (c ^ min i p * (16 - c) ^ (i - p))) ∧ z.2.2 = nI i) al 0 _ (by omega) (Nat.zero_le _) ⟨rfl, ?_, rfl⟩ ?_ ?_) ?_
    · simp
    · rintro i ⟨v2, x, y⟩ hi ⟨k1, k2, k3⟩
      have k1 : v2 = v1 := k1
      have k2 : x = lN (N p * (c ^ min i p * (16 - c) ^ (i - p))) := k2
      have k3 : y = nI i := k3
      subst k1 k2 k3
      show wp (f_X7_chanceAbove_B34 (nI c) (nI al) _ (nI p) _ (nI i) v2) _
      unfold f_X7_chanceAbove_B34 f_X7_chanceAbove_J59
      refine wp_f (by rw [n_le (by omega) (by omega)]; omega) (wp_if (fun c1 => ?_) (fun c1 => ?_))
      · rw [n_le (by omega) (by omega)] at c1
        refine wp_bd (wp_some ⟨rfl, ?_, nI_1 i⟩)
        show lN _ * _ = _
        rw [l_16, n_sub hc, nI_l (by omega), lN_mul]
        congr 1
        rw [show min (i + 1) p = min i p by omega, show i + 1 - p = (i - p) + 1 by omega, Nat.pow_succ]
        simp only [Nat.mul_assoc]
      · rw [n_le (by omega) (by omega)] at c1
        refine wp_bd (wp_some ⟨rfl, ?_, nI_1 i⟩)
        show lN _ * _ = _
        rw [nI_l (by omega), lN_mul]
        congr 1
        rw [show min (i + 1) p = min i p + 1 by omega, show i + 1 - p = 0 by omega, show i - p = 0 by omega, Nat.pow_succ, Nat.pow_zero, Nat.mul_one, Nat.mul_one]
        simp only [Nat.mul_assoc]
    · rintro ⟨v2, x, y⟩ ⟨k1, k2, k3⟩
      have k1 : v2 = v1 := k1
      have k2 : x = lN (N p * (c ^ min al p * (16 - c) ^ (al - p))) := k2
      have k3 : y = nI al := k3
      subst k1 k2 k3
      show wp (f_X7_chanceAbove_B34 (nI c) (nI al) _ (nI p) _ (nI al) v2) _
      unfold f_X7_chanceAbove_B34
      refine wp_t (by rw [n_le (by omega) (by omega)]; omega) (wp_some ⟨rfl, ?_⟩)
      rw [show min al p = p by omega]
      rfl
    · rintro v2 x ⟨k1, k2⟩
      have k1 : v2 = v1 := k1
      have k2 : x = lN (N p * mW c al p) := k2
      subst k1 k2
      refine wp_bd (wp_some ⟨rfl, ?_, nI_1 p⟩)
      show lN _ + lN _ = _
      rw [lN_add]
      rfl
  · rintro ⟨v1, x, y⟩ ⟨e1, e2, e3⟩
    have e1 : v1 = v := e1
    have e2 : x = _ := e2
    have e3 : y = nI (al + 1) := e3
    subst e1 e2 e3
    show wp (f_X7_chanceAbove_B5 (nI c) (nI al) _ (nI (al + 1)) v1) _
    unfold f_X7_chanceAbove_B5
    exact wp_t (by rw [n_lt (by omega) (by omega)]; omega) (wp_some ⟨rfl, rfl⟩)
  · rintro v1 x ⟨e1, e2⟩
    have e1 : v1 = v := e1
    have e2 : x = _ := e2
    subst e1 e2
    exact wp_some rfl
theorem halve_ok {v : gV} {al X Y : Nat} {w : Int32} (hal : al ≤ 10) (hX : X < 2 ^ 63) (hY : Y < 2 ^ 63) : wp (lp (fun a : gV × Int64 × Int64 × Int32 => f_X7_maybe_B153 w (nI al) a.2.1 a.2.2.1 a.2.2.2 a.1) fu (v, lN X, lN Y, (0 : Int32))) (fun z => z.1 = v ∧ z.2.1 = lN (hlv (4 * al) X Y).1 ∧ z.2.2 = lN (hlv (4 * al) X Y).2) := by
  generalize hR : hlv (4 * al) X Y = R
  refine wp_ct (fun i z => i ≤ 4 * al ∧ z.1 = v ∧ z.2.2.2 = nI i ∧ ∃ x y, x < 2 ^ 63 ∧ y < 2 ^ 63 ∧ z.2.1 = lN x ∧ z.2.2.1 = lN y ∧ hlv (4 * al - i) x y = R) (4 * al) 0 _ (by omega) (Nat.zero_le _) ⟨Nat.zero_le _, rfl, rfl, X, Y, hX, hY, rfl, rfl, hR⟩ ?_ ?_
  · rintro i ⟨v1, p, q, t⟩ hi ⟨-, e1, e2, x, y, hx, hy, e3, e4, hr⟩
    have e1 : v1 = v := e1
    have e2 : t = nI i := e2
    have e3 : p = lN x := e3
    have e4 : q = lN y := e4
    subst e1 e2 e3 e4
    show wp (f_X7_maybe_B153 w (nI al) (lN x) (lN y) (nI i) v1) _
    unfold f_X7_maybe_B153
    rw [l_4, n_mul]
    have hrem : jremL (lN x) 2 = lN (x % 2) := pk_lRem (b := 2) hx (by omega) (by omega)
    have hd1 : lN x / 2 = lN (x / 2) := pk_lDiv (b := 2) hx (by omega) (by omega)
    have hd2 : lN y / 2 = lN (y / 2) := pk_lDiv (b := 2) hy (by omega) (by omega)
    rw [hrem, hd1, hd2]
    rw [show 4 * al - i = (4 * al - (i + 1)) + 1 by omega, hlv] at hr
    refine wp_f (by rw [n_le (by omega) (by omega)]; omega) (wp_if (fun c1 => ?_) (fun c1 => ?_))
    · rw [lcmp0 (by omega)] at c1
      rw [if_pos c1] at hr
      exact wp_bd (wp_bd (wp_some ⟨by omega, rfl, nI_1 i, x / 2, y / 2, by omega, by omega, rfl, rfl, hr⟩))
    · rw [lcmp0 (by omega)] at c1
      rw [if_neg c1] at hr
      rw [← hr]
      exact wp_some ⟨rfl, rfl, rfl⟩
  · rintro ⟨v1, p, q, t⟩ ⟨-, e1, e2, x, y, hx, hy, e3, e4, hr⟩
    have e1 : v1 = v := e1
    have e2 : t = nI (4 * al) := e2
    have e3 : p = lN x := e3
    have e4 : q = lN y := e4
    subst e1 e2 e3 e4
    rw [Nat.sub_self, hlv] at hr
    rw [← hr]
    show wp (f_X7_maybe_B153 w (nI al) (lN x) (lN y) (nI (4 * al)) v1) _
    unfold f_X7_maybe_B153
    rw [l_4, n_mul]
    exact wp_t (by rw [n_le (by omega) (by omega)]; omega) (wp_some ⟨rfl, rfl, rfl⟩)
