/-! PURE LIBRARY: what a shallow function comes to (wp), loops, numbers, tables -/
def wp {α : Type} (o : Option α) (Q : α → Prop) : Prop := ∃ a, o = some a ∧ Q a
theorem wp_some {α : Type} {a : α} {Q : α → Prop} (h : Q a) : wp (some a) Q := ⟨a, rfl, h⟩
theorem wp_eq {α : Type} {o : Option α} {a : α} {Q : α → Prop} (e : o = some a) (h : Q a) : wp o Q := ⟨a, e, h⟩
theorem wp_mono {α : Type} {o : Option α} {Q Q' : α → Prop} (h : wp o Q) (hq : ∀ a, Q a → Q' a) : wp o Q' := by
  obtain ⟨a, e, h⟩ := h
  exact ⟨a, e, hq a h⟩
theorem wp_bd {α ρ : Type} {a : α} {k : α → Option ρ} {Q : ρ → Prop} (h : wp (k a) Q) : wp (bd a k) Q := h
theorem wp_if {ρ : Type} {c : Prop} {hd : Decidable c} {E1 E2 : Option ρ} {Q : ρ → Prop} (h1 : c → wp E1 Q) (h2 : ¬ c → wp E2 Q) : wp (@ite (Option ρ) c hd E1 E2) Q := by
  by_cases hc : c
  · rw [if_pos hc]; exact h1 hc
  · rw [if_neg hc]; exact h2 hc
theorem wp_t {ρ : Type} {c : Prop} {hd : Decidable c} {E1 E2 : Option ρ} {Q : ρ → Prop} (hc : c) (h1 : wp E1 Q) : wp (@ite (Option ρ) c hd E1 E2) Q := by
  rw [if_pos hc]; exact h1
theorem wp_f {ρ : Type} {c : Prop} {hd : Decidable c} {E1 E2 : Option ρ} {Q : ρ → Prop} (hc : ¬ c) (h1 : wp E2 Q) : wp (@ite (Option ρ) c hd E1 E2) Q := by
  rw [if_neg hc]; exact h1
theorem wp_bi {ρ : Type} {o : Option (Int32 × gV)} {k : Int32 → gV → Option ρ} {Q : ρ → Prop} {Q0 : Int32 × gV → Prop} (h : wp o Q0) (hk : ∀ r v, Q0 (r, v) → wp (k r v) Q) : wp (bi o k) Q := by
  obtain ⟨⟨r, v⟩, rfl, h⟩ := h
  exact hk r v h
theorem wp_bj {ρ : Type} {o : Option (Int64 × gV)} {k : Int64 → gV → Option ρ} {Q : ρ → Prop} {Q0 : Int64 × gV → Prop} (h : wp o Q0) (hk : ∀ r v, Q0 (r, v) → wp (k r v) Q) : wp (bj o k) Q := by
  obtain ⟨⟨r, v⟩, rfl, h⟩ := h
  exact hk r v h
theorem wp_br {ρ : Type} {o : Option (Nat × gV)} {ok : Nat → Bool} {k : Nat → gV → Option ρ} {Q : ρ → Prop} {Q0 : Nat × gV → Prop} (h : wp o Q0) (hk : ∀ r v, Q0 (r, v) → ok r = true ∧ wp (k r v) Q) : wp (br o ok k) Q := by
  obtain ⟨⟨r, v⟩, rfl, h⟩ := h
  obtain ⟨h1, h2⟩ := hk r v h
  show wp (if ok r = true then k r v else none) Q
  rw [if_pos h1]
  exact h2
theorem wp_bv {ρ : Type} {o : Option gV} {k : gV → Option ρ} {Q : ρ → Prop} {Q0 : gV → Prop} (h : wp o Q0) (hk : ∀ v, Q0 v → wp (k v) Q) : wp (bv o k) Q := by
  obtain ⟨v, rfl, h⟩ := h
  exact hk v h
theorem wp_bx1 {A ρ : Type} {o : Option A} {k : A → Option ρ} {Q : ρ → Prop} {Q0 : A → Prop} (h : wp o Q0) (hk : ∀ a, Q0 a → wp (k a) Q) : wp (bx1 o k) Q := by
  obtain ⟨v, rfl, h⟩ := h
  exact hk v h
theorem wp_bx2 {A B ρ : Type} {o : Option (A × B)} {k : A → B → Option ρ} {Q : ρ → Prop} {Q0 : A × B → Prop} (h : wp o Q0) (hk : ∀ a b, Q0 (a, b) → wp (k a b) Q) : wp (bx2 o k) Q := by
  obtain ⟨⟨a, b⟩, rfl, h⟩ := h
  exact hk a b h
theorem wp_bx3 {A B C ρ : Type} {o : Option (A × B × C)} {k : A → B → C → Option ρ} {Q : ρ → Prop} {Q0 : A × B × C → Prop} (h : wp o Q0) (hk : ∀ a b c, Q0 (a, b, c) → wp (k a b c) Q) : wp (bx3 o k) Q := by
  obtain ⟨⟨a, b, c⟩, rfl, h⟩ := h
  exact hk a b c h
theorem wp_bx4 {A B C D ρ : Type} {o : Option (A × B × C × D)} {k : A → B → C → D → Option ρ} {Q : ρ → Prop} {Q0 : A × B × C × D → Prop} (h : wp o Q0) (hk : ∀ a b c d, Q0 (a, b, c, d) → wp (k a b c d) Q) : wp (bx4 o k) Q := by
  obtain ⟨⟨a, b, c, d⟩, rfl, h⟩ := h
  exact hk a b c d h
theorem wp_bs1 {A B ρ : Type} {o : Option (A ⊕ B)} {k : A → Option ρ} {f : B → Option ρ} {Q : ρ → Prop} {Q0 : A ⊕ B → Prop} (h : wp o Q0) (hk : ∀ a, Q0 (.inl a) → wp (k a) Q) (hf : ∀ b, Q0 (.inr b) → wp (f b) Q) : wp (bs1 o k f) Q := by
  obtain ⟨v, rfl, h⟩ := h
  cases v with
  | inl a => exact hk a h
  | inr b => exact hf b h
theorem wp_bs2 {A A2 B ρ : Type} {o : Option ((A × A2) ⊕ B)} {k : A → A2 → Option ρ} {f : B → Option ρ} {Q : ρ → Prop} {Q0 : (A × A2) ⊕ B → Prop} (h : wp o Q0) (hk : ∀ a b, Q0 (.inl (a, b)) → wp (k a b) Q) (hf : ∀ b, Q0 (.inr b) → wp (f b) Q) : wp (bs2 o k f) Q := by
  obtain ⟨v, rfl, h⟩ := h
  cases v with
  | inl a => exact hk a.1 a.2 h
  | inr b => exact hf b h
abbrev SE {α β : Type} (f : α → Prop) (g : β → Prop) : α ⊕ β → Prop := fun o => match o with
  | .inl a => f a
  | .inr b => g b
/-- the loop: k steps are left; each step ends the loop with Z, or goes on with one less -/
theorem wp_lp {α β : Type} {f : α → Option (α ⊕ β)} {Z : β → Prop} (I : Nat → α → Prop) (hs : ∀ k a, I k a → wp (f a) (SE (fun a' => ∃ k', k = k' + 1 ∧ I k' a') Z)) : ∀ (n k : Nat) (a : α), I k a → k < n → wp (lp f n a) Z
  | 0, k, a, _, h => absurd h (Nat.not_lt_zero k)
  | n + 1, k, a, h, hn => by
    obtain ⟨o, e, ho⟩ := hs k a h
    rw [lp, e]
    cases o with
    | inl a' =>
      obtain ⟨k', rfl, hI⟩ := ho
      exact wp_lp I hs n k' a' hI (by omega)
    | inr b => exact ⟨b, rfl, ho⟩
theorem fu_big {k : Nat} (h : k < 4294967296) : k < fu := by unfold fu; omega
/-- a loop that counts from i to n and then ends: J is its invariant -/
theorem wp_cnt {β : Type} {f : gV × Int32 → Option ((gV × Int32) ⊕ β)} {Z : β → Prop} (J : Nat → gV → Prop) (n i : Nat) (v : gV) (hn : n < 2147483648) (hi : i ≤ n) (h0 : J i v) (hs : ∀ i v, i < n → J i v → wp (f (v, nI i)) (SE (fun a' => a'.2 = nI (i + 1) ∧ J (i + 1) a'.1) Z)) (he : ∀ v, J n v → wp (f (v, nI n)) (SE (fun _ => False) Z)) : wp (lp f fu (v, nI i)) Z := by
  refine wp_lp (fun k a => ∃ i, i ≤ n ∧ k = n - i ∧ a.2 = nI i ∧ J i a.1) ?_ fu (n - i) (v, nI i) ⟨i, hi, rfl, rfl, h0⟩ (fu_big (by omega))
  rintro k ⟨v, x⟩ ⟨i, hi, rfl, rfl, hJ⟩
  rcases Nat.lt_or_ge i n with h | h
  · refine wp_mono (hs i v h hJ) (fun o ho => ?_)
    cases o with
    | inl a' => exact ⟨n - (i + 1), by omega, i + 1, by omega, rfl, ho.1, ho.2⟩
    | inr b => exact ho
  · have e : i = n := by omega
    subst e
    refine wp_mono (he v hJ) (fun o ho => ?_)
    cases o with
    | inl a' => exact absurd ho id
    | inr b => exact ho
/-! tables -/
theorem sA_s {v : gV} {q : Nat} {f : Nat → Int32} : (sA v q f).1 q = f := if_pos rfl
theorem sA_n {v : gV} {q a : Nat} {f : Nat → Int32} (h : a ≠ q) : (sA v q f).1 a = v.1 a := if_neg h
theorem sA_2 {v : gV} {q : Nat} {f : Nat → Int32} : (sA v q f).2 = v.2 := rfl
theorem sI_s {v : gV} {q j : Nat} {x : Int32} : (sI v q j x).1 q j = x := by
  unfold sI
  rw [sA_s]
  exact if_pos rfl
theorem sI_o {v : gV} {q j b : Nat} {x : Int32} (h : b ≠ j) : (sI v q j x).1 q b = v.1 q b := by
  unfold sI
  rw [sA_s]
  exact if_neg h
theorem sI_q {v : gV} {q j : Nat} {x : Int32} : (sI v q j x).1 q = upd (v.1 q) j x := sA_s
theorem sI_n {v : gV} {q j a : Nat} {x : Int32} (h : a ≠ q) : (sI v q j x).1 a = v.1 a := sA_n h
theorem sI_2 {v : gV} {q j : Nat} {x : Int32} : (sI v q j x).2 = v.2 := rfl
theorem sL_1 {v : gV} {q j : Nat} {x : Int64} : (sL v q j x).1 = v.1 := rfl
theorem sL_s {v : gV} {q j : Nat} {x : Int64} : (sL v q j x).2 q j = x := by
  show (if q = q then vp_updL (v.2 q) j x else v.2 q) j = x
  rw [if_pos rfl]
  exact if_pos rfl
theorem sL_o {v : gV} {q j b : Nat} {x : Int64} (h : b ≠ j) : (sL v q j x).2 q b = v.2 q b := by
  show (if q = q then vp_updL (v.2 q) j x else v.2 q) b = v.2 q b
  rw [if_pos rfl]
  exact if_neg h
theorem up_s {f : Nat → Int32} {k : Nat} {x : Int32} : upd f k x k = x := if_pos rfl
theorem up_n {f : Nat → Int32} {k j : Nat} {x : Int32} (h : j ≠ k) : upd f k x j = f j := if_neg h
/-! numbers -/
theorem gin_N {i n : Nat} (h : i < n) (hn : n < 2147483648) : gin (nI i) n = true := by
  unfold gin
  rw [nI_toInt (by omega)]
  simp
  omega
theorem gin_i {x : Int32} {n : Nat} (h0 : 0 ≤ x.toInt) (h1 : x.toInt < n) : gin x n = true := decide_eq_true ⟨h0, h1⟩
theorem n_le {a b : Nat} (ha : a < 2147483648) (hb : b < 2147483648) : (nI a ≤ nI b) = (a ≤ b) := propext (nI_leI ha hb)
theorem n_lt {a b : Nat} (ha : a < 2147483648) (hb : b < 2147483648) : (nI a < nI b) = (a < b) := propext (nI_ltI ha hb)
theorem n_eq {a b : Nat} (ha : a < 2147483648) (hb : b < 2147483648) : (nI a = nI b) = (a = b) := propext (nI_eq ha hb)
theorem n_cl {a : Nat} (ha : a < 2147483648) : (nI a).toNatClampNeg = a := nI_clamp ha
theorem n_add (a b : Nat) : nI a + nI b = nI (a + b) := nI_add a b
theorem n_mul (a b : Nat) : nI a * nI b = nI (a * b) := pk_mul a b
theorem n_sub {a b : Nat} (h : b ≤ a) : nI a - nI b = nI (a - b) := pk_sub h
theorem n_lit (n : Nat) : (OfNat.ofNat n : Int32) = nI n := rfl
theorem n_ti {n : Nat} (h : n < 2147483648) : (nI n).toInt = (n : Int) := nI_toInt h
theorem n_m1 {n : Nat} (h : n < 2147483648) : ¬ nI n = (-1 : Int32) := by
  intro e
  have := congrArg Int32.toInt e
  rw [n_ti h] at this
  have e1 : (-1 : Int32).toInt = -1 := by decide
  omega
theorem n_m1' {n : Nat} (h : n < 2147483648) : ¬ (-1 : Int32) = nI n := fun e => n_m1 h e.symm
theorem i_eq {x y : Int32} : x = y ↔ x.toInt = y.toInt := Int32.toInt_inj.symm
theorem i_lt {x y : Int32} : x < y ↔ x.toInt < y.toInt := Int32.lt_iff_toInt_lt
theorem i_le {x y : Int32} : x ≤ y ↔ x.toInt ≤ y.toInt := Int32.le_iff_toInt_le
theorem i_of {x : Int32} (h : 0 ≤ x.toInt) : ∃ n : Nat, n < 2147483648 ∧ x = nI n ∧ x.toInt = n := by
  obtain ⟨j, h1, h2⟩ := nI_of (x := x) (by rw [i_lt]; exact Int.not_lt.mpr h)
  exact ⟨j, h1, h2, by rw [h2, n_ti h1]⟩
theorem i_rng (x : Int32) : -2147483648 ≤ x.toInt ∧ x.toInt < 2147483648 := ⟨Int32.le_toInt x, Int32.toInt_lt x⟩
theorem b1 {x : Int32} {v : gV} {Q : Int32 × gV → Prop} (hx : x = 0 ∨ x = 1) (h : Q (x, v)) : wp (if gbo x = true then some (x, v) else none) Q := by
  exact wp_t (decide_eq_true hx) (wp_some h)
theorem l_0 : (0 : Int32) = nI 0 := rfl
theorem l_1 : (1 : Int32) = nI 1 := rfl
theorem l_2 : (2 : Int32) = nI 2 := rfl
theorem l_3 : (3 : Int32) = nI 3 := rfl
theorem l_4 : (4 : Int32) = nI 4 := rfl
theorem l_5 : (5 : Int32) = nI 5 := rfl
theorem l_6 : (6 : Int32) = nI 6 := rfl
theorem l_7 : (7 : Int32) = nI 7 := rfl
theorem l_8 : (8 : Int32) = nI 8 := rfl
theorem l_9 : (9 : Int32) = nI 9 := rfl
theorem l_10 : (10 : Int32) = nI 10 := rfl
theorem l_11 : (11 : Int32) = nI 11 := rfl
theorem l_12 : (12 : Int32) = nI 12 := rfl
theorem l_13 : (13 : Int32) = nI 13 := rfl
theorem l_14 : (14 : Int32) = nI 14 := rfl
theorem l_15 : (15 : Int32) = nI 15 := rfl
theorem l_16 : (16 : Int32) = nI 16 := rfl
theorem l_17 : (17 : Int32) = nI 17 := rfl
theorem l_18 : (18 : Int32) = nI 18 := rfl
theorem l_19 : (19 : Int32) = nI 19 := rfl
theorem l_20 : (20 : Int32) = nI 20 := rfl
theorem l_21 : (21 : Int32) = nI 21 := rfl
theorem l_22 : (22 : Int32) = nI 22 := rfl
theorem l_23 : (23 : Int32) = nI 23 := rfl
theorem l_24 : (24 : Int32) = nI 24 := rfl
theorem l_25 : (25 : Int32) = nI 25 := rfl
theorem l_26 : (26 : Int32) = nI 26 := rfl
theorem l_27 : (27 : Int32) = nI 27 := rfl
theorem l_28 : (28 : Int32) = nI 28 := rfl
theorem l_29 : (29 : Int32) = nI 29 := rfl
theorem l_30 : (30 : Int32) = nI 30 := rfl
theorem l_31 : (31 : Int32) = nI 31 := rfl
theorem l_32 : (32 : Int32) = nI 32 := rfl
theorem l_33 : (33 : Int32) = nI 33 := rfl
theorem l_34 : (34 : Int32) = nI 34 := rfl
theorem l_35 : (35 : Int32) = nI 35 := rfl
theorem l_36 : (36 : Int32) = nI 36 := rfl
theorem l_37 : (37 : Int32) = nI 37 := rfl
theorem l_38 : (38 : Int32) = nI 38 := rfl
theorem l_39 : (39 : Int32) = nI 39 := rfl
theorem l_40 : (40 : Int32) = nI 40 := rfl
theorem l_41 : (41 : Int32) = nI 41 := rfl
theorem l_42 : (42 : Int32) = nI 42 := rfl
theorem l_43 : (43 : Int32) = nI 43 := rfl
theorem l_44 : (44 : Int32) = nI 44 := rfl
theorem l_45 : (45 : Int32) = nI 45 := rfl
theorem l_46 : (46 : Int32) = nI 46 := rfl
theorem l_47 : (47 : Int32) = nI 47 := rfl
theorem l_48 : (48 : Int32) = nI 48 := rfl
theorem l_49 : (49 : Int32) = nI 49 := rfl
theorem l_50 : (50 : Int32) = nI 50 := rfl
theorem l_51 : (51 : Int32) = nI 51 := rfl
theorem l_52 : (52 : Int32) = nI 52 := rfl
theorem l_53 : (53 : Int32) = nI 53 := rfl
theorem l_54 : (54 : Int32) = nI 54 := rfl
theorem l_55 : (55 : Int32) = nI 55 := rfl
theorem l_56 : (56 : Int32) = nI 56 := rfl
theorem l_57 : (57 : Int32) = nI 57 := rfl
theorem l_58 : (58 : Int32) = nI 58 := rfl
theorem l_59 : (59 : Int32) = nI 59 := rfl
theorem l_60 : (60 : Int32) = nI 60 := rfl
theorem l_63 : (63 : Int32) = nI 63 := rfl
theorem l_64 : (64 : Int32) = nI 64 := rfl
theorem l_65 : (65 : Int32) = nI 65 := rfl
theorem l_72 : (72 : Int32) = nI 72 := rfl
theorem l_74 : (74 : Int32) = nI 74 := rfl
theorem l_80 : (80 : Int32) = nI 80 := rfl
theorem l_97 : (97 : Int32) = nI 97 := rfl
theorem l_104 : (104 : Int32) = nI 104 := rfl
theorem l_128 : (128 : Int32) = nI 128 := rfl
theorem l_240 : (240 : Int32) = nI 240 := rfl
theorem l_255 : (255 : Int32) = nI 255 := rfl
theorem l_256 : (256 : Int32) = nI 256 := rfl
theorem l_290 : (290 : Int32) = nI 290 := rfl
theorem l_512 : (512 : Int32) = nI 512 := rfl
theorem l_1023 : (1023 : Int32) = nI 1023 := rfl
theorem l_1024 : (1024 : Int32) = nI 1024 := rfl
theorem gd_l {l m : List Int32} {i : Nat} (h : i < l.length) : (l ++ m).getD i 0 = l.getD i 0 := by
  rw [List.getD_eq_getElem?_getD, List.getD_eq_getElem?_getD, List.getElem?_append_left h]
theorem gd_r {l : List Int32} {x : Int32} : (l ++ [x]).getD l.length 0 = x := by
  rw [List.getD_eq_getElem?_getD, List.getElem?_append_right (Nat.le_refl _)]
  simp
theorem c_0 : (0 : Int32).toNatClampNeg = 0 := by decide
theorem c_1 : (1 : Int32).toNatClampNeg = 1 := by decide
theorem c_2 : (2 : Int32).toNatClampNeg = 2 := by decide
theorem c_3 : (3 : Int32).toNatClampNeg = 3 := by decide
theorem c_4 : (4 : Int32).toNatClampNeg = 4 := by decide
theorem c_5 : (5 : Int32).toNatClampNeg = 5 := by decide
theorem c_8 : (8 : Int32).toNatClampNeg = 8 := by decide
