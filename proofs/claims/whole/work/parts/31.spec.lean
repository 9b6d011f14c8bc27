/-! ===== Int32 by its bits: bt x i ===== -/
def bt (x : Int32) (i : Nat) : Bool := x.toBitVec.getLsbD i
theorem b_ext {x y : Int32} (h : ∀ i, i < 32 → bt x i = bt y i) : x = y := Int32.toBitVec_inj.mp (BitVec.eq_of_getLsbD_eq (fun i hi => h i hi))
theorem b_or (x y : Int32) (i : Nat) : bt (x ||| y) i = (bt x i || bt y i) := by unfold bt; rw [Int32.toBitVec_or, BitVec.getLsbD_or]
theorem b_and (x y : Int32) (i : Nat) : bt (x &&& y) i = (bt x i && bt y i) := by unfold bt; rw [Int32.toBitVec_and, BitVec.getLsbD_and]
theorem b_xor (x y : Int32) (i : Nat) : bt (x ^^^ y) i = (bt x i ^^ bt y i) := by unfold bt; rw [Int32.toBitVec_xor, BitVec.getLsbD_xor]
theorem b_big {x : Int32} {i : Nat} (h : 32 ≤ i) : bt x i = false := BitVec.getLsbD_of_ge _ _ h
theorem b_255 (i : Nat) : bt 255 i = decide (i < 8) := by
  rcases Nat.lt_or_ge i 32 with h | h
  · exact (by decide +kernel : ∀ i, i < 32 → bt 255 i = decide (i < 8)) i h
  · rw [b_big h, decide_eq_false (by omega)]
theorem b_65535 (i : Nat) : bt 65535 i = decide (i < 16) := by
  rcases Nat.lt_or_ge i 32 with h | h
  · exact (by decide +kernel : ∀ i, i < 32 → bt 65535 i = decide (i < 16)) i h
  · rw [b_big h, decide_eq_false (by omega)]
theorem b_m1 : ∀ i, i < 32 → bt (-1) i = true := by decide +kernel
theorem b_0 (i : Nat) : bt 0 i = false := BitVec.getLsbD_zero
theorem s_l : ∀ n, n < 32 → ((nI n &&& 31).toBitVec.smod 32).toNat = n := by decide +kernel
theorem s_u : ∀ n, n < 32 → (((nI n).toUInt32 &&& Int32.toUInt32 31).toBitVec % 32).toNat = n := by decide +kernel
theorem b_shl (n : Nat) (hn : n < 32) (x : Int32) {i : Nat} (hi : i < 32) : bt (x <<< (nI n &&& 31)) i = (decide (n ≤ i) && bt x (i - n)) := by
  unfold bt
  rw [Int32.toBitVec_shiftLeft]
  show (x.toBitVec <<< ((nI n &&& 31).toBitVec.smod 32).toNat).getLsbD i = _
  rw [s_l n hn, BitVec.getLsbD_shiftLeft]
  rcases Nat.lt_or_ge i n with h | h
  · simp [h, Nat.not_le.mpr h]
  · simp [hi, h, Nat.not_lt.mpr h]
theorem b_ushr (n : Nat) (hn : n < 32) (x : Int32) (i : Nat) : bt ((x.toUInt32 >>> ((nI n).toUInt32 &&& Int32.toUInt32 31)).toInt32) i = bt x (n + i) := by
  show (x.toUInt32 >>> ((nI n).toUInt32 &&& Int32.toUInt32 31)).toBitVec.getLsbD i = x.toUInt32.toBitVec.getLsbD (n + i)
  rw [UInt32.toBitVec_shiftRight]
  show (x.toUInt32.toBitVec >>> (((nI n).toUInt32 &&& Int32.toUInt32 31).toBitVec % 32).toNat).getLsbD i = _
  rw [s_u n hn, BitVec.getLsbD_ushiftRight]
theorem b_sshr (n : Nat) (hn : n < 32) (x : Int32) {i : Nat} (hi : i < 32) : bt (x >>> (nI n &&& 31)) i = if n + i < 32 then bt x (n + i) else bt x 31 := by
  unfold bt
  rw [Int32.toBitVec_shiftRight]
  show (x.toBitVec.sshiftRight ((nI n &&& 31).toBitVec.smod 32).toNat).getLsbD i = _
  rw [s_l n hn, BitVec.getLsbD_sshiftRight, BitVec.msb_eq_getLsbD_last]
  simp [hi]
theorem bt_1 {x : Int32} {i : Nat} (hi : i < 32) : (((x >>> (nI i &&& 31)) &&& 1) = 1) = (bt x i = true) := by
  have h1 : ∀ j, j < 32 → bt 1 j = decide (j = 0) := by decide +kernel
  have e : bt ((x >>> (nI i &&& 31)) &&& 1) 0 = bt x i := by
    rw [b_and, b_sshr i hi x (by omega), h1 0 (by omega), if_pos (by omega)]
    simp
  apply propext
  constructor
  · intro h
    rw [h] at e
    rw [← e]
    decide +kernel
  · intro h
    apply b_ext
    intro j hj
    rw [b_and, h1 j hj]
    by_cases hj0 : j = 0
    · subst hj0
      rw [b_and, h1 0 (by omega)] at e
      simp at e
      simp [e, h]
    · simp [hj0]
theorem bt_set {x : Int32} {r i : Nat} (hr : r < 32) (hi : i < 32) : bt (x ||| ((1 : Int32) <<< (nI r &&& 31))) i = (bt x i || decide (i = r)) := by
  have h1 : ∀ j, j < 32 → bt 1 j = decide (j = 0) := by decide +kernel
  rw [b_or, b_shl r hr 1 hi]
  congr 1
  by_cases h : r ≤ i
  · rw [h1 (i - r) (by omega)]
    by_cases h2 : i = r
    · subst h2; simp
    · simp [h, h2, show ¬ i - r = 0 by omega]
  · simp [h, show ¬ i = r by omega]
theorem bt_clr {x : Int32} {r i : Nat} (hr : r < 32) (hi : i < 32) : bt (x &&& (((1 : Int32) <<< (nI r &&& 31)) ^^^ (-1))) i = (bt x i && decide (i ≠ r)) := by
  have h1 : ∀ j, j < 32 → bt 1 j = decide (j = 0) := by decide +kernel
  rw [b_and, b_xor, b_shl r hr 1 hi, b_m1 i hi]
  congr 1
  by_cases h : r ≤ i
  · rw [h1 (i - r) (by omega)]
    by_cases h2 : i = r
    · subst h2; simp
    · simp [h, h2, show ¬ i - r = 0 by omega]
  · simp [h, show ¬ i = r by omega]
/-! THE SPEC: ten days of the tram -/
def ix (x : Int32) : List Int32 → Nat
  | [] => 0
  | y :: t => if y = x then 0 else ix x t + 1
def lst (p : Nat → Bool) : Nat → Nat → Nat
  | 0, i => i
  | m + 1, i => if p i = true then i else lst p m (i + 1)
def itN {S : Type} (f : Nat → S → S) : Nat → S → S
  | 0, s => s
  | n + 1, s => f n (itN f n s)
def smN (f : Nat → Nat) : Nat → Nat
  | 0 => 0
  | n + 1 => smN f n + f n
/-- riders, boards, leaves, wants, worths, even, changes, forgets -/
abbrev Pm : Type := Nat × (Nat → Nat) × (Nat → Nat) × (Nat → Int32) × (Nat → Int32) × Int32 × Int32 × Int32
abbrev pN (P : Pm) : Nat := P.1
abbrev pB (P : Pm) : Nat → Nat := P.2.1
abbrev pL (P : Pm) : Nat → Nat := P.2.2.1
abbrev pW (P : Pm) : Nat → Int32 := P.2.2.2.1
abbrev pO (P : Pm) : Nat → Int32 := P.2.2.2.2.1
abbrev pE (P : Pm) : Int32 := P.2.2.2.2.2.1
abbrev pC (P : Pm) : Int32 := P.2.2.2.2.2.2.1
abbrev pF (P : Pm) : Int32 := P.2.2.2.2.2.2.2
abbrev St : Type := (Nat → Int32) × List Int32 × (Nat → Bool)
abbrev Sc : Type := St × Nat × Int32 × Int32 × Int32
def ub (f : Nat → Bool) (k : Nat) (x : Bool) : Nat → Bool := fun j => if j = k then x else f j
def myb (O : Nat → Int32) (e w h : Int32) : Bool := decide (h ≠ -1 ∧ h ≠ 0 ∧ h ≠ w ∧ O h.toNatClampNeg - O w.toNatClampNeg ≤ e ∧ -(O h.toNatClampNeg - O w.toNatClampNeg) ≤ e)
def onb (P : Pm) (s r : Nat) : Bool := decide (pB P r ≤ s ∧ s < pL P r)
def leb (P : Pm) (s r : Nat) : Bool := decide (pB P r < pL P r ∧ pL P r = s)
/-- rider q is on board and may -/
def mon (P : Pm) (s : Nat) (h : Nat → Int32) (q : Nat) : Bool := onb P s q && myb (pO P) (pE P) (pW P q) (h q)
def othp (P : Pm) (s r : Nat) (h : Nat → Int32) (q : Nat) : Bool := decide (q ≠ r) && mon P s h q && decide (pW P q = pW P r)
def oth (P : Pm) (s r : Nat) (h : Nat → Int32) : Nat := lst (othp P s r h) (pN P) 0
def chg (P : Pm) (s r : Nat) (σ : St) : Option St :=
  if mon P s σ.1 r = true then
    if ix (pW P r) σ.2.1 < σ.2.1.length then some (upd σ.1 r (pW P r), σ.2.1.eraseIdx (ix (pW P r) σ.2.1) ++ [σ.1 r], σ.2.2)
    else if ix (pW P r + 8) σ.2.1 < σ.2.1.length then
      if oth P s r σ.1 < pN P then some (upd (upd σ.1 r (pW P r)) (oth P s r σ.1) (pW P r), σ.2.1.eraseIdx (ix (pW P r + 8) σ.2.1) ++ [σ.1 r] ++ [σ.1 (oth P s r σ.1)], ub (ub σ.2.2 r true) (oth P s r σ.1) true)
      else none
    else none
  else none
def chS (P : Pm) (d s r : Nat) (x : Sc) : Sc := match chg P s r x.1 with
  | none => x
  | some σ => (σ, x.2.1 + 1, if x.2.1 = 0 then (nI d, nI s, nI r) else x.2.2)
def lvS (P : Pm) (s r : Nat) (σ : St) : St := if (leb P s r && bt (pF P) r && decide (σ.1 r ≠ -1)) = true then (upd σ.1 r (-1), σ.2.1 ++ [σ.1 r], ub σ.2.2 r false) else σ
def lvA (P : Pm) (s : Nat) (x : Sc) : Sc := (itN (lvS P s) (pN P) x.1, x.2)
def chA (P : Pm) (d s : Nat) (x : Sc) : Sc := if bt (pC P) s = true then itN (chS P d s) (pN P) x else x
def stp (P : Pm) (d s : Nat) (x : Sc) : Sc := chA P d s (lvA P s x)
def dy (P : Pm) (d : Nat) (x : Sc) : Sc := itN (stp P d) 10 x
def his (P : Pm) (x : Sc) : Nat → Sc
  | 0 => x
  | d + 1 => dy P d (his P x d)
def ini (h : Nat → Int32) (l : List Int32) : Sc := ((h, l, fun _ => false), 0, -1, -1, -1)
/-! what stays: rows of has, the room of the bag -/
def hv (h : Int32) : Prop := h = -1 ∨ ∃ k, k < 8 ∧ h = nI k
def okP (P : Pm) : Prop := pN P ≤ 8 ∧ (∀ r, r < pN P → pB P r ≤ 9 ∧ pL P r ≤ 9 ∧ ∃ k, k < 8 ∧ pW P r = nI k) ∧ (∀ k, k < 8 → 0 ≤ (pO P k).toInt ∧ (pO P k).toInt ≤ 9) ∧ 0 ≤ (pE P).toInt ∧ (pE P).toInt ≤ 9
def pt (P : Pm) (h : Nat → Int32) (r : Nat) : Nat := if h r = -1 then 0 else if h r = pW P r then 2 else 3
def okS (P : Pm) (σ : St) : Prop := (∀ r, r < pN P → hv (σ.1 r)) ∧ 2 * σ.2.1.length + smN (pt P σ.1) (pN P) ≤ 58
def okC (P : Pm) (x : Sc) : Prop := okS P x.1 ∧ (x.2.1 = 0 → x.2.2.1 = -1) ∧ (0 < x.2.1 → x.2.2.1 ≠ -1) ∧ x.2.1 ≤ 24
theorem sm_cong {f g : Nat → Nat} : ∀ {n : Nat}, (∀ k, k < n → f k = g k) → smN f n = smN g n
  | 0, _ => rfl
  | n + 1, h => by rw [smN, smN, sm_cong (fun k hk => h k (by omega)), h n (by omega)]
theorem sm_upd {f g : Nat → Nat} {i : Nat} (ho : ∀ k, k ≠ i → g k = f k) : ∀ {n : Nat}, i < n → smN g n + f i = smN f n + g i
  | 0, h => absurd h (Nat.not_lt_zero i)
  | n + 1, h => by
    rw [smN, smN]
    rcases Nat.lt_or_ge i n with q | q
    · have := sm_upd ho q
      rw [ho n (by omega)]
      omega
    · have e : i = n := by omega
      subst e
      rw [sm_cong (f := g) (g := f) (fun k hk => ho k (by omega))]
      omega
theorem sm_part {f : Nat → Nat} {i : Nat} : ∀ {n : Nat}, i < n → f i ≤ smN f n
  | 0, h => absurd h (Nat.not_lt_zero i)
  | n + 1, h => by
    rw [smN]
    rcases Nat.lt_or_ge i n with q | q
    · have := sm_part (f := f) q
      omega
    · have e : i = n := by omega
      subst e
      omega
theorem sm_part2 {f : Nat → Nat} {i j n : Nat} (hi : i < n) (hj : j < n) (hij : i ≠ j) : f i + f j ≤ smN f n := by
  have h1 := sm_upd (f := f) (g := fun k => if k = i then 0 else f k) (i := i) (fun k hk => if_neg hk) hi
  have h2 := sm_part (f := fun k => if k = i then 0 else f k) hj
  simp only [if_true] at h1
  rw [if_neg (fun e => hij e.symm)] at h2
  omega
theorem lst_le {p : Nat → Bool} : ∀ (m i : Nat), i ≤ lst p m i ∧ lst p m i ≤ i + m
  | 0, i => ⟨Nat.le_refl _, Nat.le_refl _⟩
  | m + 1, i => by
    rw [lst]
    split
    · omega
    · have := lst_le (p := p) m (i + 1)
      omega
theorem lst_yes {p : Nat → Bool} : ∀ (m i : Nat), lst p m i < i + m → p (lst p m i) = true
  | 0, i, h => by rw [lst] at h; omega
  | m + 1, i, h => by
    rw [lst] at h ⊢
    split
    · assumption
    · rename_i hp
      rw [if_neg hp] at h
      exact lst_yes m (i + 1) (by omega)
theorem ix_le (x : Int32) : ∀ l : List Int32, ix x l ≤ l.length
  | [] => Nat.le_refl _
  | y :: t => by
    rw [ix]
    split
    · simp
    · have := ix_le x t
      simp
      omega
theorem er_len {l : List Int32} {i : Nat} (h : i < l.length) : (l.eraseIdx i).length = l.length - 1 := by rw [List.length_eraseIdx, if_pos h]
theorem pt_up {P : Pm} {h : Nat → Int32} {r : Nat} {w : Int32} {k : Nat} (hk : k ≠ r) : pt P (upd h r w) k = pt P h k := by
  unfold pt
  rw [up_n hk]
theorem my_ne {O : Nat → Int32} {e w h : Int32} (hm : myb O e w h = true) : h ≠ -1 ∧ h ≠ 0 ∧ h ≠ w := by
  have := of_decide_eq_true hm
  exact ⟨this.1, this.2.1, this.2.2.1⟩
theorem mon_pt {P : Pm} {s : Nat} {h : Nat → Int32} {q : Nat} (hm : mon P s h q = true) : pt P h q = 3 := by
  unfold mon at hm
  rw [Bool.and_eq_true] at hm
  obtain ⟨h1, -, h3⟩ := my_ne hm.2
  unfold pt
  rw [if_neg h1, if_neg h3]
theorem oth_ok {P : Pm} {s r : Nat} {h : Nat → Int32} (ho : oth P s r h < pN P) : oth P s r h ≠ r ∧ mon P s h (oth P s r h) = true ∧ pW P (oth P s r h) = pW P r := by
  have := lst_yes (p := othp P s r h) (pN P) 0 (by rw [Nat.zero_add]; exact ho)
  rw [show lst (othp P s r h) (pN P) 0 = oth P s r h from rfl] at this
  unfold othp at this
  rw [Bool.and_eq_true, Bool.and_eq_true] at this
  exact ⟨of_decide_eq_true this.1.1, this.1.2, of_decide_eq_true this.2⟩
theorem chg_ok {P : Pm} {s r : Nat} {σ σ' : St} (hP : okP P) (hr : r < pN P) (hS : okS P σ) (h : chg P s r σ = some σ') : okS P σ' := by
  unfold chg at h
  have hw : ∀ q, q < pN P → hv (pW P q) := fun q hq => Or.inr (hP.2.1 q hq).2.2
  split at h
  · rename_i hm
    have hpt := mon_pt hm
    split at h
    · rename_i hi
      cases h
      refine ⟨fun q hq => ?_, ?_⟩
      · by_cases e : q = r
        · subst e; show hv (upd σ.1 q (pW P q) q); rw [up_s]; exact hw q hq
        · show hv (upd σ.1 r (pW P r) q); rw [up_n e]; exact hS.1 q hq
      · show 2 * (σ.2.1.eraseIdx (ix (pW P r) σ.2.1) ++ [σ.1 r]).length + smN (pt P (upd σ.1 r (pW P r))) (pN P) ≤ 58
        have h1 := sm_upd (f := pt P σ.1) (g := pt P (upd σ.1 r (pW P r))) (i := r) (fun k hk => pt_up hk) hr
        have h2 : pt P (upd σ.1 r (pW P r)) r ≤ 2 := by
          unfold pt
          rw [up_s]
          split
          · omega
          · simp
        rw [List.length_append, er_len hi]
        have h3 := hS.2
        simp only [List.length_cons, List.length_nil]
        omega
    · split at h
      · rename_i hi
        split at h
        · rename_i ho
          cases h
          obtain ⟨o1, o2, o3⟩ := oth_ok ho
          have hpo := mon_pt o2
          generalize hq9 : oth P s r σ.1 = q9 at *
          refine ⟨fun q hq => ?_, ?_⟩
          · show hv (upd (upd σ.1 r (pW P r)) q9 (pW P r) q)
            by_cases e : q = q9
            · subst e; rw [up_s]; exact hw r hr
            · rw [up_n e]
              by_cases e2 : q = r
              · subst e2; rw [up_s]; exact hw q hq
              · rw [up_n e2]; exact hS.1 q hq
          · show 2 * (σ.2.1.eraseIdx (ix (pW P r + 8) σ.2.1) ++ [σ.1 r] ++ [σ.1 q9]).length + smN (pt P (upd (upd σ.1 r (pW P r)) q9 (pW P r))) (pN P) ≤ 58
            have h1 := sm_upd (f := pt P σ.1) (g := pt P (upd σ.1 r (pW P r))) (i := r) (fun k hk => pt_up hk) hr
            have h2 : pt P (upd σ.1 r (pW P r)) r ≤ 2 := by
              unfold pt
              rw [up_s]
              split
              · omega
              · simp
            have h3 := sm_upd (f := pt P (upd σ.1 r (pW P r))) (g := pt P (upd (upd σ.1 r (pW P r)) q9 (pW P r))) (i := q9) (fun k hk => pt_up hk) ho
            have h4 : pt P (upd (upd σ.1 r (pW P r)) q9 (pW P r)) q9 ≤ 2 := by
              unfold pt
              rw [up_s]
              split
              · omega
              · simp [o3]
            have h5 : pt P (upd σ.1 r (pW P r)) q9 = 3 := by rw [pt_up o1]; exact hpo
            rw [List.length_append, List.length_append, er_len hi]
            have h6 := hS.2
            simp only [List.length_cons, List.length_nil]
            omega
        · cases h
      · cases h
  · cases h
theorem chg_room {P : Pm} {s r : Nat} {σ : St} (hS : okS P σ) (hr : r < pN P) (hm : mon P s σ.1 r = true) : σ.2.1.length ≤ 27 := by
  have h1 := mon_pt hm
  have h2 := sm_part (f := pt P σ.1) hr
  have h3 := hS.2
  omega
theorem chg_room2 {P : Pm} {s r : Nat} {σ : St} (hS : okS P σ) (hr : r < pN P) (hm : mon P s σ.1 r = true) (ho : oth P s r σ.1 < pN P) : σ.2.1.length ≤ 26 := by
  obtain ⟨o1, o2, -⟩ := oth_ok ho
  have h2 := sm_part2 (f := pt P σ.1) hr ho (fun e => o1 e.symm)
  rw [mon_pt hm, mon_pt o2] at h2
  have h3 := hS.2
  omega
theorem lvS_ok {P : Pm} {s r : Nat} {σ : St} (hr : r < pN P) (hS : okS P σ) : okS P (lvS P s r σ) := by
  unfold lvS
  split
  · rename_i h
    rw [Bool.and_eq_true] at h
    have hne : σ.1 r ≠ -1 := of_decide_eq_true h.2
    refine ⟨fun q hq => ?_, ?_⟩
    · show hv (upd σ.1 r (-1) q)
      by_cases e : q = r
      · subst e; rw [up_s]; exact Or.inl rfl
      · rw [up_n e]; exact hS.1 q hq
    · show 2 * (σ.2.1 ++ [σ.1 r]).length + smN (pt P (upd σ.1 r (-1))) (pN P) ≤ 58
      have h1 := sm_upd (f := pt P σ.1) (g := pt P (upd σ.1 r (-1))) (i := r) (fun k hk => pt_up hk) hr
      have h2 : pt P (upd σ.1 r (-1)) r = 0 := by
        unfold pt
        rw [up_s, if_pos rfl]
      have h3 : 2 ≤ pt P σ.1 r := by
        unfold pt
        rw [if_neg hne]
        split <;> omega
      have h4 := hS.2
      rw [List.length_append]
      simp only [List.length_cons, List.length_nil]
      omega
  · exact hS
theorem lv_room9 {P : Pm} {r : Nat} {σ : St} (hS : okS P σ) (hr : r < pN P) (hne : σ.1 r ≠ -1) : σ.2.1.length ≤ 28 := by
  have h3 : 2 ≤ pt P σ.1 r := by
    unfold pt
    rw [if_neg hne]
    split <;> omega
  have h2 := sm_part (f := pt P σ.1) hr
  have h4 := hS.2
  omega
