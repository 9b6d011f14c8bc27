/-! ===== lN n to 2^64: shifts, and, or, masks, one bit ===== -/
theorem wb_tb (n : Nat) : (lN n).toBitVec = BitVec.ofNat 64 n := rfl
theorem wb_inj {a b : Int64} (h : a.toBitVec = b.toBitVec) : a = b := Int64.toBitVec_inj.mp h
theorem wb_tn {n : Nat} (h : n < 2 ^ 64) : (lN n).toBitVec.toNat = n := by rw [wb_tb, BitVec.toNat_ofNat, Nat.mod_eq_of_lt h]
theorem wb_of (x : Int64) : ∃ n, n < 2 ^ 64 ∧ x = lN n := ⟨x.toBitVec.toNat, x.toBitVec.isLt, wb_inj (by rw [wb_tb]; simp)⟩
theorem wb_of32 (x : Int32) : ∃ n, n < 2 ^ 32 ∧ x = nI n := ⟨x.toBitVec.toNat, x.toBitVec.isLt, Int32.toBitVec_inj.mp (by show _ = BitVec.ofNat 32 _; simp)⟩
theorem wb_c : ∀ k, k < 64 → ((nI k).toInt64 &&& 63) = lN k := by decide +kernel
theorem wb_cu : ∀ k, k < 64 → ((nI k).toInt64.toUInt64 &&& Int64.toUInt64 63) = UInt64.ofNat k := by decide +kernel
theorem wb_sm : ∀ k, k < 64 → (BitVec.ofNat 64 k).smod 64 = BitVec.ofNat 64 k := by decide +kernel
theorem wb_pw {a b : Nat} (h : a ≤ b) : 2 ^ b = 2 ^ a * 2 ^ (b - a) := by rw [← Nat.pow_add]; congr 1; omega
theorem wb_lt2 {a b : Nat} (h : a < b) : 2 ^ a < 2 ^ b := Nat.pow_lt_pow_right (by decide) h
theorem wb_mod (n : Nat) : lN n = lN (n % 2 ^ 64) := wb_inj (by rw [wb_tb, wb_tb]; apply BitVec.eq_of_toNat_eq; rw [BitVec.toNat_ofNat, BitVec.toNat_ofNat, Nat.mod_mod])
theorem wb_shr {n k : Nat} (hn : n < 2 ^ 64) (hk : k < 64) : ((lN n).toUInt64 >>> ((nI k).toInt64.toUInt64 &&& Int64.toUInt64 63)).toInt64 = lN (n / 2 ^ k) := by
  rw [wb_cu k hk]
  apply wb_inj
  apply BitVec.eq_of_toNat_eq
  show ((lN n).toUInt64 >>> UInt64.ofNat k).toNat = (BitVec.ofNat 64 _).toNat
  have h1 : (UInt64.ofNat k).toNat = k := by
    show (BitVec.ofNat 64 k).toNat = k
    rw [BitVec.toNat_ofNat, Nat.mod_eq_of_lt (by omega)]
  have h2 : (lN n).toUInt64.toNat = n := wb_tn hn
  rw [UInt64.toNat_shiftRight, h1, h2, Nat.mod_eq_of_lt hk, Nat.shiftRight_eq_div_pow, BitVec.toNat_ofNat, Nat.mod_eq_of_lt (Nat.lt_of_le_of_lt (Nat.div_le_self _ _) hn)]
theorem wb_shl (n : Nat) {k : Nat} (hk : k < 64) : lN n <<< ((nI k).toInt64 &&& 63) = lN (n * 2 ^ k) := by
  rw [wb_c k hk]
  apply wb_inj
  rw [Int64.toBitVec_shiftLeft, wb_tb, wb_tb, wb_tb, wb_sm k hk]
  apply BitVec.eq_of_toNat_eq
  rw [BitVec.shiftLeft_eq', BitVec.toNat_shiftLeft, BitVec.toNat_ofNat, BitVec.toNat_ofNat, BitVec.toNat_ofNat, Nat.mod_eq_of_lt (show k < 2 ^ 64 by omega), Nat.shiftLeft_eq, Nat.mul_mod, Nat.mod_mod, ← Nat.mul_mod]
theorem wb_and {a b : Nat} (ha : a < 2 ^ 64) (hb : b < 2 ^ 64) : lN a &&& lN b = lN (a &&& b) := by
  apply wb_inj
  rw [Int64.toBitVec_and, wb_tb, wb_tb, wb_tb]
  apply BitVec.eq_of_toNat_eq
  rw [BitVec.toNat_and, BitVec.toNat_ofNat, BitVec.toNat_ofNat, BitVec.toNat_ofNat, Nat.mod_eq_of_lt ha, Nat.mod_eq_of_lt hb, Nat.mod_eq_of_lt (Nat.and_lt_two_pow _ hb)]
theorem wb_or {a b : Nat} (ha : a < 2 ^ 64) (hb : b < 2 ^ 64) : lN a ||| lN b = lN (a ||| b) := by
  apply wb_inj
  rw [Int64.toBitVec_or, wb_tb, wb_tb, wb_tb]
  apply BitVec.eq_of_toNat_eq
  rw [BitVec.toNat_or, BitVec.toNat_ofNat, BitVec.toNat_ofNat, BitVec.toNat_ofNat, Nat.mod_eq_of_lt ha, Nat.mod_eq_of_lt hb, Nat.mod_eq_of_lt (Nat.or_lt_two_pow ha hb)]
theorem wb_mask {n k : Nat} (hn : n < 2 ^ 64) (hk : k < 64) : lN n &&& lN (2 ^ k - 1) = lN (n % 2 ^ k) := by
  rw [wb_and hn (by have := wb_lt2 hk; omega), Nat.and_two_pow_sub_one_eq_mod]
theorem wb_a1 {n : Nat} (hn : n < 2 ^ 64) : lN n &&& 1 = lN (n % 2) := wb_mask (k := 1) hn (by decide)
theorem wb_bit {n k : Nat} (hn : n < 2 ^ 64) (hk : k < 64) : ((lN n).toUInt64 >>> ((nI k).toInt64.toUInt64 &&& Int64.toUInt64 63)).toInt64 &&& 1 = lN (n / 2 ^ k % 2) := by
  rw [wb_shr hn hk, wb_a1 (Nat.lt_of_le_of_lt (Nat.div_le_self _ _) hn)]
theorem wb_xor {q k : Nat} (hk : k < 63) (h : 2 ^ k ≤ q) (h2 : q < 2 ^ (k + 1)) : lN q ^^^ lN (2 ^ k) = lN (q - 2 ^ k) := by
  obtain ⟨r, rfl⟩ : ∃ r, q = 2 ^ k + r := ⟨q - 2 ^ k, by omega⟩
  have hr : r < 2 ^ k := by rw [Nat.pow_succ] at h2; omega
  have hx : (2 ^ k + r) ^^^ 2 ^ k = r := by
    apply Nat.eq_of_testBit_eq
    intro i
    rw [Nat.testBit_xor, Nat.testBit_two_pow]
    rcases Nat.lt_trichotomy i k with h | h | h
    · rw [Nat.testBit_two_pow_add_gt h]
      simp [show ¬ k = i by omega]
    · subst h
      rw [Nat.testBit_two_pow_add_eq]
      simp
    · have a1 : 2 ^ (k + 1) ≤ 2 ^ i := Nat.pow_le_pow_right (by decide) h
      rw [Nat.testBit_lt_two_pow (show 2 ^ k + r < 2 ^ i by omega), Nat.testBit_lt_two_pow (show r < 2 ^ i by omega)]
      simp [show ¬ k = i by omega]
  have b1 := wb_lt2 (show k + 1 < 64 by omega)
  have b2 := wb_lt2 (show k < 64 by omega)
  apply wb_inj
  rw [Int64.toBitVec_xor, wb_tb, wb_tb, wb_tb]
  apply BitVec.eq_of_toNat_eq
  rw [BitVec.toNat_xor, BitVec.toNat_ofNat, BitVec.toNat_ofNat, BitVec.toNat_ofNat, Nat.mod_eq_of_lt (by omega : 2 ^ k + r < 2 ^ 64), Nat.mod_eq_of_lt b2, hx, Nat.add_sub_cancel_left, Nat.mod_eq_of_lt (by omega)]
/-! ===== lN: masks, 'or' of parts that don't overlap is a sum ===== -/
theorem u_tn {n : Nat} (h : n < 2 ^ 64) : (UInt64.ofNat n).toNat = n := Nat.mod_eq_of_lt h
theorem g_and {a b c : Nat} (ha : a < 2 ^ 64) (hb : b < 2 ^ 64) (hc : a &&& b = c) : lN a &&& lN b = lN c := by
  subst hc
  have h : UInt64.ofNat a &&& UInt64.ofNat b = UInt64.ofNat (a &&& b) := UInt64.toNat_inj.mp (by rw [UInt64.toNat_and, u_tn ha, u_tn hb, u_tn (Nat.and_lt_two_pow a hb)])
  have h2 := congrArg UInt64.toInt64 h
  exact h2
theorem g_and1 {a : Nat} (ha : a < 2 ^ 64) : lN a &&& 1 = lN (a % 2) := g_and (b := 1) ha (by decide) (Nat.and_two_pow_sub_one_eq_mod a 1)
theorem g_mask {a s p : Nat} (hp : 2 ^ s = p) (hs : s < 64) (ha : a < 2 ^ 64) : lN a &&& lN (p - 1) = lN (a % p) := by
  subst hp
  have := Nat.pow_lt_pow_right (show 1 < 2 by decide) hs
  exact g_and ha (by omega) (Nat.and_two_pow_sub_one_eq_mod a s)
theorem g_or {k p a b : Nat} (hp : 2 ^ k = p) (ha : a < p) (h : b * p + a < 2 ^ 64) : lN (b * p) ||| lN a = lN (b * p + a) := by
  subst hp
  have h1 : b * 2 ^ k ||| a = b * 2 ^ k + a := by rw [← Nat.shiftLeft_eq, Nat.shiftLeft_add_eq_or_of_lt ha]
  have h3 : UInt64.ofNat (b * 2 ^ k) ||| UInt64.ofNat a = UInt64.ofNat (b * 2 ^ k + a) := UInt64.toNat_inj.mp (by rw [UInt64.toNat_or, u_tn (by omega), u_tn (by omega), u_tn h, h1])
  have h2 := congrArg UInt64.toInt64 h3
  exact h2
theorem g_or' {k p a b : Nat} (hp : 2 ^ k = p) (ha : a < p) (h : a + b * p < 2 ^ 64) : lN a ||| lN (b * p) = lN (a + b * p) := by
  rw [Int64.or_comm, g_or hp ha (by omega), Nat.add_comm]
theorem g_ushr {a k p : Nat} {y : UInt64} (hy : y = UInt64.ofNat k) (hk : k < 64) (hp : 2 ^ k = p) (ha : a < 2 ^ 64) : ((lN a).toUInt64 >>> y).toInt64 = lN (a / p) := by
  subst hy hp
  have h : UInt64.ofNat a >>> UInt64.ofNat k = UInt64.ofNat (a / 2 ^ k) := UInt64.toNat_inj.mp (by rw [UInt64.toNat_shiftRight, u_tn ha, u_tn (by omega), u_tn (Nat.lt_of_le_of_lt (Nat.div_le_self _ _) ha), Nat.mod_eq_of_lt hk, Nat.shiftRight_eq_div_pow])
  have h2 := congrArg UInt64.toInt64 h
  exact h2
theorem g_shl {a k p : Nat} {y : Int64} (hy : y.toBitVec.smod 64 = BitVec.ofNat 64 k) (hk : k < 64) (hp : 2 ^ k = p) (ha : a < 2 ^ 64) : lN a <<< y = lN (a * p) := by
  subst hp
  apply Int64.toBitVec_inj.mp
  rw [Int64.toBitVec_shiftLeft, hy]
  apply BitVec.eq_of_toNat_eq
  have hb : (lN a).toBitVec.toNat = a := Nat.mod_eq_of_lt ha
  have hk' : (BitVec.ofNat 64 k).toNat = k := Nat.mod_eq_of_lt (by omega)
  have h : ((lN a).toBitVec <<< BitVec.ofNat 64 k).toNat = (a * 2 ^ k) % 2 ^ 64 := by simp only [BitVec.shiftLeft_eq', BitVec.toNat_shiftLeft, hb, hk', Nat.shiftLeft_eq]
  exact h
theorem fa_and (a b : Nat) : nI a &&& nI b = nI (a &&& b) := by
  apply Int32.toBitVec_inj.1
  show BitVec.ofNat 32 a &&& BitVec.ofNat 32 b = BitVec.ofNat 32 (a &&& b)
  apply BitVec.eq_of_getLsbD_eq
  intro i hi
  simp [hi]
theorem fa_or (a b : Nat) : nI a ||| nI b = nI (a ||| b) := by
  apply Int32.toBitVec_inj.1
  show BitVec.ofNat 32 a ||| BitVec.ofNat 32 b = BitVec.ofNat 32 (a ||| b)
  apply BitVec.eq_of_getLsbD_eq
  intro i hi
  simp [hi]
/-! THE CLASS: what a ride tells; counting bits -/
def boN (p : Nat → Bool) : Nat → Nat
  | 0 => 0
  | n + 1 => if p n = true then boN p n + 2 ^ n else boN p n
theorem boN_lt (p : Nat → Bool) : ∀ n, boN p n < 2 ^ n
  | 0 => by simp [boN]
  | n + 1 => by
    have := boN_lt p n
    rw [boN, Nat.pow_succ]
    split <;> omega
theorem one_shl : ∀ n, n < 31 → (1 : Int32) <<< (nI n &&& 31) = nI (2 ^ n) := by decide +kernel
theorem or_pow {a n : Nat} (h : a < 2 ^ n) : a ||| 2 ^ n = a + 2 ^ n := by
  have := Nat.two_pow_add_eq_or_of_lt h 1
  rw [Nat.mul_one] at this
  rw [Nat.or_comm, ← this, Nat.add_comm]
theorem bo_N (p : Nat → Bool) : ∀ n, n < 31 → bo p n = nI (boN p n)
  | 0, _ => rfl
  | n + 1, h => by
    rw [bo, boN, bo_N p n (by omega)]
    split
    · rw [one_shl n (by omega), fa_or, or_pow (boN_lt p n)]
    · rfl
theorem boN_bit (p : Nat → Bool) : ∀ (n i : Nat), (boN p n).testBit i = (decide (i < n) && p i)
  | 0, i => by simp [boN]
  | n + 1, i => by
    rw [boN]
    have ih := boN_bit p n i
    by_cases h : p n = true
    · rw [if_pos h, ← or_pow (boN_lt p n), Nat.testBit_or, ih, Nat.testBit_two_pow]
      by_cases e : n = i
      · subst e; simp [h]
      · simp [e, show (i < n + 1) = (i < n) by apply propext; omega]
    · rw [if_neg h, ih]
      by_cases e : n = i
      · subst e; simp [h]
      · simp [show (i < n + 1) = (i < n) by apply propext; omega]
def srvN (P : Pm) (h : Nat → Int32) : Nat := boN (fun r => decide (h r = pW P r)) (pN P)
theorem srv_N {P : Pm} (hP : okP P) {h : Nat → Int32} : srv P h = nI (srvN P h) := bo_N _ _ (by have := hP.1; omega)
theorem srvN_lt {P : Pm} (hP : okP P) {h : Nat → Int32} : srvN P h < 256 := by
  have h1 := boN_lt (fun r => decide (h r = pW P r)) (pN P)
  have h2 : 2 ^ pN P ≤ 2 ^ 8 := Nat.pow_le_pow_right (by omega) hP.1
  unfold srvN
  omega
/-- how many bits are set -/
def pcN (c : Nat) : Nat := smN (fun i => if c.testBit i = true then 1 else 0) 10
def bcE (x0 : Int32) : Int32 :=
  let u1 := x0 - ((jushr x0 1) &&& 1431655765)
  let u2 := (u1 &&& 858993459) + ((jushr u1 2) &&& 858993459)
  let u3 := (u2 + (jushr u2 4)) &&& 252645135
  let u4 := u3 + (jushr u3 8)
  let u5 := u4 + (jushr u4 16)
  u5 &&& 63
theorem bcE_ok : ∀ c, c < 1024 → bcE (nI c) = nI (pcN c) := by decide +kernel
theorem bitCount_ok {v : gV} {c : Nat} (hc : c < 1024) : f_J6_bitCount_0f7a4 (nI c) v = some (nI (pcN c), v) := by
  have h : f_J6_bitCount_0f7a4 (nI c) v = some (bcE (nI c), v) := rfl
  rw [h, bcE_ok c hc]
theorem pcN_le (c : Nat) : pcN c ≤ 10 := by
  have h := sm_max (f := fun i => if c.testBit i = true then 1 else 0) (c := 1) (n := 10) (fun k _ => by split <;> omega)
  unfold pcN
  omega
theorem min_ok {v : gV} {a b : Nat} (ha : a < 2147483648) (hb : b < 2147483648) : f_J9_min_7cf53 (nI a) (nI b) v = some (nI (min a b), v) := by
  apply wp_is
  unfold f_J9_min_7cf53
  refine wp_if (fun c => ?_) (fun c => ?_)
  · rw [n_lt (by omega) (by omega)] at c
    exact wp_some (by rw [show min a b = b by omega])
  · rw [n_lt (by omega) (by omega)] at c
    exact wp_some (by rw [show min a b = a by omega])
theorem RD.day {v : gV} {b : Nat} {P : Pm} {x0 : Sc} (h : RD v b P x0) {d : Nat} (hd : d < 10) : ∃ L, L < 10 ∧ v.1 b 10 = nI L ∧ min d L < 10 ∧ HB v b P (min d L) (his P x0 (d + 1)) := by
  obtain ⟨L, h1, h2, h3, h4, -⟩ := h
  refine ⟨L, h1, h2, by omega, ?_⟩
  have h5 := h3 (min d L) (by omega)
  rcases Nat.lt_or_ge d L with q | q
  · rw [show min d L = d by omega] at h5 ⊢
    exact h5
  · rw [show min d L = L by omega] at h5 ⊢
    rw [h4 d q]
    exact h5
theorem hasOn_ok {v : gV} {b : Nat} {P : Pm} {x0 : Sc} {d r : Nat} (hk : kR b = true) (hP : okP P) (h : RD v b P x0) (hd : d < 10) (hr : r < pN P) : f_X1_hasOn b (nI d) (nI r) v = some ((his P x0 (d + 1)).1.1 r, v) := by
  apply wp_is
  have hn := hP.1
  obtain ⟨L, h1, h2, h3, h4⟩ := h.day hd
  unfold f_X1_hasOn
  rw [h2]
  refine wp_bi (wp_of (min_ok (by omega) (by omega))) ?_
  rintro r3 v1 ⟨rfl, rfl⟩
  refine wp_ga (by simpa using h3) (by simp) (by rw [rR_at h3]; exact kI_R hk h3) (wp_t (gin_N (by omega) (by omega)) (wp_some ?_))
  rw [rR_at h3, n_cl (by omega), h4.1 r hr]
theorem servedOn_ok {v : gV} {b : Nat} {P : Pm} {x0 : Sc} {d : Nat} (hP : okP P) (h : RD v b P x0) (hd : d < 10) : f_X1_servedOn b (nI d) v = some (nI (srvN P (his P x0 (d + 1)).1.1), v) := by
  apply wp_is
  obtain ⟨L, h1, h2, h3, h4⟩ := h.day hd
  unfold f_X1_servedOn
  rw [h2]
  refine wp_bi (wp_of (min_ok (by omega) (by omega))) ?_
  rintro r3 v1 ⟨rfl, rfl⟩
  refine wp_t (gin_N h3 (by omega)) (wp_some ?_)
  rw [n_cl (by omega), h4.2.2.2, srv_N hP]
theorem tornOn_ok {v : gV} {b : Nat} {P : Pm} {x0 : Sc} {d : Nat} (h : RD v b P x0) (hd : d < 10) : wp (f_X1_tornOn b (nI d) v) (fun o => o.2 = v ∧ ∀ r, r < pN P → bt o.1 r = (his P x0 (d + 1)).1.2.2 r) := by
  obtain ⟨L, h1, h2, h3, h4⟩ := h.day hd
  unfold f_X1_tornOn
  rw [h2]
  refine wp_bi (wp_of (min_ok (by omega) (by omega))) ?_
  rintro r3 v1 ⟨rfl, rfl⟩
  refine wp_t (gin_N h3 (by omega)) (wp_some ⟨rfl, ?_⟩)
  rw [n_cl (by omega)]
  exact h4.2.1
theorem bagOn_ok {v : gV} {b : Nat} {P : Pm} {x0 : Sc} {d : Nat} (hk : kR b = true) (h : RD v b P x0) (hd : d < 10) : wp (f_X1_bagOn b (nI d) v) (fun o => o.2 = v ∧ kB o.1 = true ∧ bgR v o.1 (his P x0 (d + 1)).1.2.1) := by
  obtain ⟨L, h1, h2, h3, h4⟩ := h.day hd
  unfold f_X1_bagOn
  rw [h2]
  refine wp_bi (wp_of (min_ok (by omega) (by omega))) ?_
  rintro r3 v1 ⟨rfl, rfl⟩
  refine wp_ga (by simpa using h3) (by simp) (by rw [rB_at h3]; exact kB_R hk h3) (wp_some ⟨rfl, ?_, ?_⟩)
  · show kB _ = true
    rw [rB_at h3]; exact kB_R hk h3
  · show bgR v _ _
    rw [rB_at h3]; exact h4.2.2.1
theorem servedAtLast_ok {v : gV} {b : Nat} {P : Pm} {x0 : Sc} (hP : okP P) (h : RD v b P x0) : f_X1_servedAtLast b v = some (nI (pcN (srvN P (his P x0 10).1.1)), v) := by
  apply wp_is
  obtain ⟨L, h1, h2, h3, h4, -⟩ := h
  unfold f_X1_servedAtLast
  rw [h2, n_cl (by omega), (h3 L (Nat.le_refl _)).2.2.2, srv_N hP, ← h4 9 (by omega)]
  refine wp_t (gin_N h1 (by omega)) (wp_bi (wp_of (bitCount_ok (by have := srvN_lt hP (h := (his P x0 (9 + 1)).1.1); omega))) ?_)
  rintro r3 v1 ⟨rfl, rfl⟩
  exact wp_some rfl
theorem begin_ok {v : gV} {b : Nat} {l : List Int32} (hk : kR b = true) (hl : bgR v 13 l) : wp (f_X1_begin b v) (fun v' => v'.1 b 1 = v.1 6 9 ∧ v'.1 b 2 = v.1 6 10 ∧ (∀ i, i < 8 → v'.1 (b + 1) i = v.1 7 i) ∧ bgR v' (b + 2) l ∧ (∀ q, (q < b ∨ b + 38 ≤ q) → v'.1 q = v.1 q) ∧ v'.2 = v.2) := by
  have hb : 16 ≤ b := by rcases kR_or hk with rfl | rfl <;> omega
  unfold f_X1_begin
  refine wp_bd (wp_bd (wp_t (gcp_ok (sp := 0) (dp := 0) (m := 8) (by omega) (by omega) (by omega) (by omega)) (wp_bd ?_)))
  rw [c_0, c_8, sI_n (q := b) (a := 6) (by omega)]
  generalize hw : sA (sI (sI v b 1 (v.1 6 9)) b 2 (v.1 6 10)) (b + 1) (va_cpy ((sI (sI v b 1 (v.1 6 9)) b 2 (v.1 6 10)).1 7) ((sI (sI v b 1 (v.1 6 9)) b 2 (v.1 6 10)).1 (b + 1)) 0 0 8) = w
  have a1 : ∀ q, q ≠ b → q ≠ b + 1 → w.1 q = v.1 q := fun q h1 h2 => by rw [← hw, sA_n h2, sI_n h1, sI_n h1]
  have a2 : w.1 b 1 = v.1 6 9 := by rw [← hw, sA_n (by omega), sI_o (by omega), sI_s]
  have a3 : w.1 b 2 = v.1 6 10 := by rw [← hw, sA_n (by omega), sI_s]
  have a4 : ∀ i, i < 8 → w.1 (b + 1) i = v.1 7 i := fun i hi => by rw [← hw, sA_s, cpy_in (Nat.zero_le _) (by omega), Nat.zero_add, Nat.sub_zero, sI_n (by omega), sI_n (by omega)]
  have a5 : w.2 = v.2 := by rw [← hw]; rfl
  refine wp_bv (become_ok (b := b + 2) (q := 13) (l := l) (hl.kept (by rw [a1 _ (by omega) (by omega)]) (fun k _ => by rw [a1 _ (by omega) (by omega)])) (by omega) (by omega)) ?_
  rintro v4 ⟨g1, g2⟩
  refine wp_some ⟨?_, ?_, fun i hi => ?_, g1, fun q hq => ?_, ?_⟩
  · rw [g2.1 _ (by omega) (by omega)]; exact a2
  · rw [g2.1 _ (by omega) (by omega)]; exact a3
  · rw [g2.1 _ (by omega) (by omega)]; exact a4 i hi
  · rw [g2.1 _ (by omega) (by omega)]; exact a1 q (by omega) (by omega)
  · rw [g2.2]; exact a5
