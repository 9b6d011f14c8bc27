/-! THE TEXTS: spec, and the class's reading of them -/
def fitb (k : Nat) (b : Int32) : Bool := if k = 0 ∨ k = 3 then decide (97 ≤ b.toInt ∧ b.toInt ≤ 104) else if k = 1 ∨ k = 2 then decide (48 ≤ b.toInt ∧ b.toInt ≤ 57) else decide (b = 59)
def bad0 (l : List Int32) (i : Nat) : Bool := !fitb (i % 5) (l.getD i 0)
def flt0 (l : List Int32) : Int32 := if lst (bad0 l) l.length 0 < l.length then nI (lst (bad0 l) l.length 0) else if l.length = 0 ∨ l.length % 5 = 4 then -1 else nI l.length
def nRi (l : List Int32) : Nat := if flt0 l = -1 then (l.length + 1) / 5 else 0
def rSt (l : List Int32) (r : Nat) : Int32 := l.getD (5 * r) 0 - 97
def rBo (l : List Int32) (r : Nat) : Nat := (l.getD (5 * r + 1) 0 - 48).toNatClampNeg
def rLv (l : List Int32) (r : Nat) : Nat := (l.getD (5 * r + 2) 0 - 48).toNatClampNeg
def rWt (l : List Int32) (r : Nat) : Int32 := l.getD (5 * r + 3) 0 - 97
def kdb (b : Int32) : Int32 := if 97 ≤ b.toInt ∧ b.toInt ≤ 104 then b - 97 else if 65 ≤ b.toInt ∧ b.toInt ≤ 72 then b - 65 + 8 else -1
def bad1 (l : List Int32) (i : Nat) : Bool := decide (kdb (l.getD i 0) = -1)
def flt1 (l : List Int32) : Int32 := if lst (bad1 l) l.length 0 < l.length then nI (lst (bad1 l) l.length 0) else -1
def bag0 (l : List Int32) : List Int32 := if flt1 l = -1 then l.map kdb else []
theorem lst_no {p : Nat → Bool} : ∀ (m i k : Nat), i ≤ k → k < lst p m i → p k = false
  | 0, i, k, h, h2 => by rw [lst] at h2; omega
  | m + 1, i, k, h, h2 => by
    rw [lst] at h2
    by_cases hp : p i = true
    · rw [if_pos hp] at h2; omega
    · rw [if_neg hp] at h2
      by_cases e : i = k
      · subst e
        cases hq : p i with
        | true => exact absurd hq hp
        | false => rfl
      · exact lst_no m (i + 1) k (by omega) h2
theorem flt0_all {l : List Int32} (hl : l.length < 2147483648) (h : flt0 l = -1) : (∀ i, i < l.length → fitb (i % 5) (l.getD i 0) = true) ∧ (l.length = 0 ∨ l.length % 5 = 4) := by
  unfold flt0 at h
  split at h
  · exact absurd h (n_m1 (by omega))
  · rename_i h1
    split at h
    · rename_i h2
      refine ⟨fun i hi => ?_, h2⟩
      have := lst_no (p := bad0 l) l.length 0 i (Nat.zero_le _) (by omega)
      unfold bad0 at this
      simpa using this
    · exact absurd h (n_m1 hl)
theorem nRi_le {l : List Int32} (hl : l.length ≤ 39) : nRi l ≤ 8 := by
  unfold nRi
  split <;> omega
theorem i_sub {x : Int32} {a b : Int} {k : Nat} {c : Int32} (h1 : a ≤ x.toInt) (h2 : x.toInt ≤ b) (hc : c.toInt = a) (ha : 0 ≤ a) (hb : b ≤ 255) (hk : b - a ≤ k) : ∃ j : Nat, j ≤ k ∧ x - c = nI j := by
  have e : (x - c).toInt = x.toInt - a := by
    rw [Int32.toInt_sub, hc]
    exact Int.bmod_eq_of_le (by omega) (by omega)
  obtain ⟨n, h3, h4, h5⟩ := i_of (x := x - c) (by rw [e]; omega)
  exact ⟨n, by omega, h4⟩
theorem rid_ok {l : List Int32} (hl : l.length ≤ 39) {r : Nat} (hr : r < nRi l) : 5 * r + 3 < l.length ∧ (∃ k, k < 8 ∧ rSt l r = nI k) ∧ l.getD (5 * r + 1) 0 - 48 = nI (rBo l r) ∧ rBo l r ≤ 9 ∧ l.getD (5 * r + 2) 0 - 48 = nI (rLv l r) ∧ rLv l r ≤ 9 ∧ ∃ k, k < 8 ∧ rWt l r = nI k := by
  unfold nRi at hr
  split at hr
  · rename_i h
    obtain ⟨h1, h2⟩ := flt0_all (by omega) h
    have h3 : 5 * r + 3 < l.length := by omega
    have f0 := h1 (5 * r) (by omega)
    have f1 := h1 (5 * r + 1) (by omega)
    have f2 := h1 (5 * r + 2) (by omega)
    have f3 := h1 (5 * r + 3) (by omega)
    rw [show 5 * r % 5 = 0 by omega] at f0
    rw [show (5 * r + 1) % 5 = 1 by omega] at f1
    rw [show (5 * r + 2) % 5 = 2 by omega] at f2
    rw [show (5 * r + 3) % 5 = 3 by omega] at f3
    have g0 : 97 ≤ (l.getD (5 * r) 0).toInt ∧ (l.getD (5 * r) 0).toInt ≤ 104 := of_decide_eq_true f0
    have g1 : 48 ≤ (l.getD (5 * r + 1) 0).toInt ∧ (l.getD (5 * r + 1) 0).toInt ≤ 57 := of_decide_eq_true f1
    have g2 : 48 ≤ (l.getD (5 * r + 2) 0).toInt ∧ (l.getD (5 * r + 2) 0).toInt ≤ 57 := of_decide_eq_true f2
    have g3 : 97 ≤ (l.getD (5 * r + 3) 0).toInt ∧ (l.getD (5 * r + 3) 0).toInt ≤ 104 := of_decide_eq_true f3
    obtain ⟨j0, a0, e0⟩ := i_sub (c := 97) (k := 7) g0.1 g0.2 (by decide) (by omega) (by omega) (by omega)
    obtain ⟨j1, a1, e1⟩ := i_sub (c := 48) (k := 9) g1.1 g1.2 (by decide) (by omega) (by omega) (by omega)
    obtain ⟨j2, a2, e2⟩ := i_sub (c := 48) (k := 9) g2.1 g2.2 (by decide) (by omega) (by omega) (by omega)
    obtain ⟨j3, a3, e3⟩ := i_sub (c := 97) (k := 7) g3.1 g3.2 (by decide) (by omega) (by omega) (by omega)
    have e1' : rBo l r = j1 := by unfold rBo; rw [e1, n_cl (by omega)]
    have e2' : rLv l r = j2 := by unfold rLv; rw [e2, n_cl (by omega)]
    exact ⟨h3, ⟨j0, by omega, e0⟩, by rw [e1', e1], by omega, by rw [e2', e2], by omega, ⟨j3, by omega, e3⟩⟩
  · omega
def txR (v : gV) (t : Nat) (l : List Int32) : Prop := v.1 t 1 = nI l.length ∧ l.length ≤ txN t ∧ ∀ i, i < l.length → v.1 (t + 1) i = l.getD i 0
theorem txR.kept {v v' : gV} {t : Nat} {l : List Int32} (h : txR v t l) (h1 : v'.1 t = v.1 t) (h2 : v'.1 (t + 1) = v.1 (t + 1)) : txR v' t l := by
  unfold txR
  rw [h1, h2]
  exact h
theorem n_rem {a d : Nat} (ha : a < 2147483648) (h0 : 0 < d) (hd : d < 2147483648) : jrem (nI a) (nI d) = nI (a % d) := pk_rem ha h0 hd
theorem n_div {a d : Nat} (ha : a < 2147483648) (h0 : 0 < d) (hd : d < 2147483648) : nI a / nI d = nI (a / d) := pk_div ha h0 hd
theorem txN_le (t : Nat) : txN t ≤ 39 := by unfold txN; split <;> omega
theorem rng2 {x : Int32} {v : gV} {a b : Int32} {A B : Int} (ha : a.toInt = A) (hb : b.toInt = B) : wp (if x < a then (if gbo (0 : Int32) = true then some ((0 : Int32), v) else none) else (if b < x then (if gbo (0 : Int32) = true then some ((0 : Int32), v) else none) else (if gbo (1 : Int32) = true then some ((1 : Int32), v) else none))) (fun o => o = (b2 (decide (A ≤ x.toInt ∧ x.toInt ≤ B)), v)) := by
  refine wp_if (fun c => ?_) (fun c => wp_if (fun c2 => ?_) (fun c2 => ?_))
  · rw [i_lt, ha] at c
    exact b1 (Or.inl rfl) (by rw [decide_eq_false (by omega)]; rfl)
  · rw [i_lt, hb] at c2
    exact b1 (Or.inl rfl) (by rw [decide_eq_false (by omega)]; rfl)
  · rw [i_lt, ha] at c
    rw [i_lt, hb] at c2
    exact b1 (Or.inr rfl) (by rw [decide_eq_true (by omega)]; rfl)
theorem fitsRider_ok {v : gV} {k : Nat} {x : Int32} (hk : k < 5) : f_X5_fitsRider (nI k) x v = some (b2 (fitb k x), v) := by
  apply wp_is
  unfold f_X5_fitsRider fitb
  rcases (show k = 0 ∨ k = 1 ∨ k = 2 ∨ k = 3 ∨ k = 4 by omega) with rfl | rfl | rfl | rfl | rfl
  · exact wp_t rfl (rng2 (by decide) (by decide))
  · exact wp_f (by decide) (wp_t rfl (rng2 (by decide) (by decide)))
  · exact wp_f (by decide) (wp_f (by decide) (wp_t rfl (rng2 (by decide) (by decide))))
  · exact wp_f (by decide) (wp_f (by decide) (wp_f (by decide) (wp_t rfl (rng2 (by decide) (by decide)))))
  · refine wp_f (by decide) (wp_f (by decide) (wp_f (by decide) (wp_f (by decide) (wp_if (fun c => b1 (Or.inr rfl) ?_) (fun c => b1 (Or.inl rfl) ?_)))))
    · simp [c, b2]
    · simp [c, b2]
theorem faultAsRiders_ok {v : gV} {t : Nat} {l : List Int32} (h : txR v t l) : f_X5_faultAsRiders t v = some (flt0 l, v) := by
  apply wp_is
  have hl : l.length ≤ 39 := Nat.le_trans h.2.1 (txN_le t)
  unfold f_X5_faultAsRiders
  refine wp_bs1 (wp_cnt (Z := fun o : gV ⊕ (Int32 × gV) => match o with | .inl v' => v' = v ∧ lst (bad0 l) l.length 0 = l.length | .inr r => r.2 = v ∧ lst (bad0 l) l.length 0 < l.length ∧ r.1 = nI (lst (bad0 l) l.length 0)) (fun i v' => v' = v ∧ lst (bad0 l) l.length 0 = lst (bad0 l) (l.length - i) i) l.length 0 v (by omega) (Nat.zero_le _) ⟨rfl, rfl⟩ ?_ ?_) ?_ ?_
  · rintro i v' hi ⟨rfl, hx⟩
    obtain ⟨hy1, hy2⟩ := lst_at hi hx
    show wp (f_X5_faultAsRiders_B2 t (nI i) v') _
    unfold f_X5_faultAsRiders_B2
    rw [h.1]
    refine wp_f (by rw [n_le (by omega) (by omega)]; omega) (wp_f (by rw [l_40, n_le (by omega) (by omega)]; omega) (wp_t (gin_N (by have := h.2.1; omega) (by have := txN_le t; omega)) ?_))
    rw [l_5, n_rem (by omega) (by omega) (by omega), n_cl (by omega), h.2.2 i hi]
    refine wp_bi (wp_of (fitsRider_ok (by omega))) ?_
    rintro r3 v2 ⟨rfl, rfl⟩
    refine wp_if (fun c => ?_) (fun c => ?_)
    · rw [b2_0] at c
      have := hy1 (by unfold bad0; rw [c]; rfl)
      exact wp_some ⟨rfl, by omega, by rw [this]⟩
    · rw [b2_0] at c
      refine wp_eq rfl ⟨nI_1 i, rfl, hy2 ?_⟩
      unfold bad0
      cases hq : fitb (i % 5) (l.getD i 0) with
      | true => rfl
      | false => exact absurd hq c
  · rintro v' ⟨rfl, hx⟩
    show wp (f_X5_faultAsRiders_B2 t (nI l.length) v') _
    unfold f_X5_faultAsRiders_B2
    rw [h.1]
    exact wp_t (by rw [n_le (by omega) (by omega)]; exact Nat.le_refl _) (wp_some ⟨rfl, lst_end hx⟩)
  · rintro v' ⟨rfl, hx⟩
    rw [h.1]
    have hf : flt0 l = if l.length = 0 ∨ l.length % 5 = 4 then -1 else nI l.length := by
      unfold flt0
      rw [if_neg (by omega)]
    rw [hf]
    refine wp_if (fun c => ?_) (fun c => ?_)
    · rw [l_0, n_eq (by omega) (by omega)] at c
      exact wp_some (by rw [if_pos (Or.inl c)])
    · rw [l_0, n_eq (by omega) (by omega)] at c
      rw [l_5, n_rem (by omega) (by omega) (by omega), l_4]
      refine wp_if (fun c2 => ?_) (fun c2 => ?_)
      · rw [n_eq (by omega) (by omega)] at c2
        exact wp_some (by rw [if_pos (Or.inr c2)])
      · rw [n_eq (by omega) (by omega)] at c2
        exact wp_some (by rw [if_neg (by omega)])
  · rintro ⟨r, v'⟩ ⟨rfl, e1, e2⟩
    have e2 : r = _ := e2
    exact wp_some (by unfold flt0; rw [if_pos e1, e2])
theorem kindOf_ok {v : gV} {x : Int32} : f_X5_kindOf x v = some (kdb x, v) := by
  apply wp_is
  unfold f_X5_kindOf
  have e1 : (97 : Int32).toInt = 97 := by decide
  have e2 : (104 : Int32).toInt = 104 := by decide
  have e3 : (65 : Int32).toInt = 65 := by decide
  have e4 : (72 : Int32).toInt = 72 := by decide
  have key : ¬ (97 ≤ x.toInt ∧ x.toInt ≤ 104) → wp (f_X5_kindOf_J17 x v) (fun o => o = (kdb x, v)) := fun hn => by
    unfold f_X5_kindOf_J17
    refine wp_if (fun c3 => ?_) (fun c3 => wp_if (fun c4 => ?_) (fun c4 => ?_))
    · rw [i_lt, e3] at c3
      exact wp_some (by unfold kdb; rw [if_neg hn, if_neg (by omega)])
    · rw [i_lt, e4] at c4
      exact wp_some (by unfold kdb; rw [if_neg hn, if_neg (by omega)])
    · rw [i_lt, e3] at c3
      rw [i_lt, e4] at c4
      exact wp_some (by unfold kdb; rw [if_neg hn, if_pos (by omega)])
  refine wp_if (fun c => ?_) (fun c => wp_if (fun c2 => ?_) (fun c2 => ?_))
  · rw [i_lt, e1] at c
    exact key (by omega)
  · rw [i_lt, e2] at c2
    exact key (by omega)
  · rw [i_lt, e1] at c
    rw [i_lt, e2] at c2
    exact wp_some (by unfold kdb; rw [if_pos (by omega)])
theorem faultAsBag_ok {v : gV} {t : Nat} {l : List Int32} (h : txR v t l) : f_X5_faultAsBag t v = some (flt1 l, v) := by
  apply wp_is
  have hl : l.length ≤ 39 := Nat.le_trans h.2.1 (txN_le t)
  have hlt := h.2.1
  unfold f_X5_faultAsBag
  refine wp_bs1 (wp_cnt (Z := fun o : gV ⊕ (Int32 × gV) => match o with | .inl v' => v' = v ∧ lst (bad1 l) l.length 0 = l.length | .inr r => r.2 = v ∧ lst (bad1 l) l.length 0 < l.length ∧ r.1 = nI (lst (bad1 l) l.length 0)) (fun i v' => v' = v ∧ lst (bad1 l) l.length 0 = lst (bad1 l) (l.length - i) i) l.length 0 v (by omega) (Nat.zero_le _) ⟨rfl, rfl⟩ ?_ ?_) ?_ ?_
  · rintro i v' hi ⟨rfl, hx⟩
    obtain ⟨hy1, hy2⟩ := lst_at hi hx
    show wp (f_X5_faultAsBag_B2 t (nI i) v') _
    unfold f_X5_faultAsBag_B2
    rw [h.1]
    refine wp_f (by rw [n_le (by omega) (by omega)]; omega) (wp_t (gin_N (by omega) (by have := txN_le t; omega)) ?_)
    rw [n_cl (by omega), h.2.2 i hi]
    refine wp_bi (wp_of kindOf_ok) ?_
    rintro r3 v2 ⟨rfl, rfl⟩
    refine wp_if (fun c => ?_) (fun c => ?_)
    · have := hy1 (decide_eq_true c)
      exact wp_some ⟨rfl, by omega, by rw [this]⟩
    · exact wp_eq rfl ⟨nI_1 i, rfl, hy2 (decide_eq_false c)⟩
  · rintro v' ⟨rfl, hx⟩
    show wp (f_X5_faultAsBag_B2 t (nI l.length) v') _
    unfold f_X5_faultAsBag_B2
    rw [h.1]
    exact wp_t (by rw [n_le (by omega) (by omega)]; exact Nat.le_refl _) (wp_some ⟨rfl, lst_end hx⟩)
  · rintro v' ⟨rfl, hx⟩
    exact wp_some (by unfold flt1; rw [if_neg (by omega)])
  · rintro ⟨r, v'⟩ ⟨rfl, e1, e2⟩
    have e2 : r = _ := e2
    exact wp_some (by unfold flt1; rw [if_pos e1, e2])
