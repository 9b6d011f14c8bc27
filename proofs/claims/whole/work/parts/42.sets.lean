/-! THE CLASS: sets of open stops -/
def setC (P : Pm) (c : Int32) : Pm := (P.1, P.2.1, P.2.2.1, P.2.2.2.1, P.2.2.2.2.1, P.2.2.2.2.2.1, c, P.2.2.2.2.2.2.2)
theorem setC_chg {P : Pm} {c : Int32} {s r : Nat} {σ : St} : chg (setC P c) s r σ = chg P s r σ := rfl
theorem setC_lvS {P : Pm} {c : Int32} {s r : Nat} {σ : St} : lvS (setC P c) s r σ = lvS P s r σ := rfl
theorem setC_ok {P : Pm} {c : Int32} (h : okP P) : okP (setC P c) := h
theorem setC_TD {v : gV} {P : Pm} {c : Int32} (h : TD v P) : TD v (setC P c) := h
theorem setC_okA {P : Pm} {c : Int32} {x : Sc} (h : okA P x) : okA (setC P c) x := h
theorem setC_srv {P : Pm} {c : Int32} {h : Nat → Int32} : srvN (setC P c) h = srvN P h := rfl
/-- who may not at first never may -/
def frs (P : Pm) (h0 : Nat → Int32) (σ : St) : Prop := ∀ r, r < pN P → σ.1 r = h0 r ∨ σ.1 r = -1 ∨ σ.1 r = pW P r
theorem chg_frs {P : Pm} {h0 : Nat → Int32} {s r : Nat} {σ σ' : St} (h : frs P h0 σ) (hc : chg P s r σ = some σ') : frs P h0 σ' := by
  intro q hq
  rcases (chg_has hc).2.1 q hq with e | ⟨-, e⟩
  · rw [e]; exact h q hq
  · exact Or.inr (Or.inr e)
theorem lvS_frs {P : Pm} {h0 : Nat → Int32} {s r : Nat} {σ : St} (h : frs P h0 σ) : frs P h0 (lvS P s r σ) := by
  intro q hq
  rcases lvS_has (P := P) (s := s) (r := r) (σ := σ) with e | ⟨-, e⟩
  · rw [e]; exact h q hq
  · rw [e]
    by_cases e2 : q = r
    · subst e2; rw [up_s]; exact Or.inr (Or.inl rfl)
    · rw [up_n e2]; exact h q hq
theorem frs_my {P : Pm} {h0 : Nat → Int32} {σ : St} {r : Nat} (h : frs P h0 σ) (hr : r < pN P) (hm : myb (pO P) (pE P) (pW P r) (σ.1 r) = true) : myb (pO P) (pE P) (pW P r) (h0 r) = true := by
  obtain ⟨h1, h2, h3⟩ := my_ne hm
  rcases h r hr with e | e | e
  · rw [← e]; exact hm
  · exact absurd e h1
  · exact absurd e h3
theorem itN_cong {S : Type} {f g : Nat → S → S} {I : S → Prop} : ∀ (n : Nat) (x : S), I x → (∀ i, i < n → ∀ x, I x → f i x = g i x ∧ I (f i x)) → itN f n x = itN g n x ∧ I (itN f n x)
  | 0, x, h, _ => ⟨rfl, h⟩
  | n + 1, x, h, hs => by
    obtain ⟨e, h1⟩ := itN_cong n x h (fun i hi => hs i (by omega))
    obtain ⟨e2, h2⟩ := hs n (by omega) _ h1
    rw [itN, itN, ← e]
    exact ⟨e2, h2⟩
theorem chA_frs {P : Pm} {h0 : Nat → Int32} {d s : Nat} {x : Sc} (h : frs P h0 x.1) : frs P h0 (chA P d s x).1 := by
  unfold chA
  split
  · refine it_ind (I := fun y : Sc => frs P h0 y.1) (pN P) x (fun i _ y hy => ?_) h
    cases hc : chg P s i y.1 with
    | none => rw [chS_none hc]; exact hy
    | some σ => rw [chS_some hc]; exact chg_frs hy hc
  · exact h
theorem his_useful {P : Pm} {c c' : Int32} {x : Sc} (hu : ∀ s, s < 10 → bt c s ≠ bt c' s → ∀ r, r < pN P → ¬ (myb (pO P) (pE P) (pW P r) (x.1.1 r) = true ∧ onb P s r = true)) : ∀ d, his (setC P c) x d = his (setC P c') x d ∧ frs P x.1.1 (his (setC P c) x d).1
  | 0 => ⟨rfl, fun r _ => Or.inl rfl⟩
  | d + 1 => by
    obtain ⟨e, hf⟩ := his_useful hu d
    show dy (setC P c) d (his (setC P c) x d) = dy (setC P c') d (his (setC P c') x d) ∧ _
    rw [← e]
    have := itN_cong (f := stp (setC P c) d) (g := stp (setC P c') d) (I := fun y : Sc => frs P x.1.1 y.1) 10 (his (setC P c) x d) hf (fun s hs y hy => ?_)
    · exact ⟨this.1, this.2⟩
    · have hl : frs P x.1.1 (lvA P s y).1 := it_ind (I := fun σ : St => frs P x.1.1 σ) (pN P) y.1 (fun i _ σ hσ => lvS_frs hσ) hy
      have e1 : lvA (setC P c) s y = lvA P s y := rfl
      have e2 : lvA (setC P c') s y = lvA P s y := rfl
      refine ⟨?_, ?_⟩
      · unfold stp
        rw [e1, e2]
        unfold chA
        have hq : bt c s = bt c' s ∨ itN (chS P d s) (pN P) (lvA P s y) = lvA P s y := by
          by_cases hb : bt c s = bt c' s
          · exact Or.inl hb
          · right
            refine it_id (pN P) (fun r hr => chS_none ?_)
            unfold chg mon
            rw [if_neg]
            intro hm
            rw [Bool.and_eq_true] at hm
            exact hu s hs hb r hr ⟨frs_my hl hr hm.2, hm.1⟩
        show (if bt c s = true then itN (chS P d s) (pN P) (lvA P s y) else lvA P s y) = (if bt c' s = true then itN (chS P d s) (pN P) (lvA P s y) else lvA P s y)
        rcases hq with hq | hq
        · rw [hq]
        · rw [hq]
          split <;> split <;> rfl
      · unfold stp
        rw [e1]
        exact chA_frs (P := setC P c) hl
theorem bt_sm {x a : Int32} {r s k : Nat} (hr : r < 32) (hs : s < 32) (hk : k < 32) : bt (x ||| (((a >>> (nI r &&& 31)) &&& 1) <<< (nI s &&& 31))) k = (bt x k || (bt a r && decide (k = s))) := by
  by_cases h : bt a r = true
  · have e : (a >>> (nI r &&& 31)) &&& 1 = 1 := by rw [bt_1 hr]; exact h
    rw [e, bt_set hs hk, h]
    simp
  · have e : (a >>> (nI r &&& 31)) &&& 1 = 0 := by
      have hn : ¬ (a >>> (nI r &&& 31)) &&& 1 = 1 := by rw [bt_1 hr]; exact h
      have h1 : ∀ j, j < 32 → bt 1 j = decide (j = 0) := by decide +kernel
      apply b_ext
      intro j hj
      rw [b_and, h1 j hj, b_0]
      by_cases hj0 : j = 0
      · subst hj0
        rw [b_sshr r hr a (by omega), if_pos (by omega), Nat.add_zero]
        cases hq : bt a r with
        | true => exact absurd hq h
        | false => simp
      · simp [hj0]
    have e0 : ∀ s, s < 32 → (0 : Int32) <<< (nI s &&& 31) = 0 := by decide +kernel
    rw [e, e0 s hs, b_or, b_0]
    cases hq : bt a r with
    | true => exact absurd hq h
    | false => simp
theorem bt_nI {n i : Nat} (hi : i < 32) : bt (nI n) i = n.testBit i := by
  show (BitVec.ofNat 32 n).getLsbD i = n.testBit i
  rw [BitVec.getLsbD_ofNat]
  simp [hi]
theorem bt_small {x : Int32} (h : ∀ k, 10 ≤ k → k < 32 → bt x k = false) : ∃ n, n < 1024 ∧ x = nI n := by
  refine ⟨boN (fun i => bt x i) 10, boN_lt _ 10, ?_⟩
  apply b_ext
  intro i hi
  rw [bt_nI hi, boN_bit]
  by_cases e : i < 10
  · simp [e]
  · simp [e, h i (by omega) hi]
def may0 (P : Pm) (x : Sc) (r : Nat) : Bool := myb (pO P) (pE P) (pW P r) (x.1.1 r)
def pk (P : Pm) (x : Sc) (i : Nat) : Nat → Nat
  | 0 => 0
  | d + 1 => pk P x i d + srvN P (his (setC P (nI i)) x (d + 1)).1.1 * 2 ^ (8 * d)
def SSi (v : gV) (P : Pm) (x : Sc) (c : Nat) : Prop := ∃ k u, k ≤ c ∧ v.1 92 2 = nI k ∧ v.1 92 3 = nI u ∧ u < 1024 ∧ (∀ s, s < 10 → (u.testBit s = true ↔ ∃ r, r < pN P ∧ may0 P x r = true ∧ onb P s r = true)) ∧ ∀ i, i < 1024 → ∃ m, v.1 94 i = nI m ∧ m ≤ k ∧ (m = k → v.2 93 i = lN (pk P x i 8))
/-- before anything is told anew: only the stamps count -/
def SS0 (v : gV) (c : Nat) : Prop := ∃ k, k ≤ c ∧ v.1 92 2 = nI k ∧ ∀ i, i < 1024 → ∃ m, v.1 94 i = nI m ∧ m ≤ k
theorem SSi.to0 {v : gV} {P : Pm} {x : Sc} {c : Nat} (h : SSi v P x c) : SS0 v c := by
  obtain ⟨k, u, h1, h2, -, -, -, h3⟩ := h
  exact ⟨k, h1, h2, fun i hi => by obtain ⟨m, e1, e2, -⟩ := h3 i hi; exact ⟨m, e1, e2⟩⟩
theorem startAnew_ok {v : gV} {P : Pm} {x : Sc} {c : Nat} (hT : TD v P) (h7 : ∀ r, r < pN P → v.1 7 r = x.1.1 r) (hv : ∀ r, r < pN P → hv (x.1.1 r)) (hE : v.1 6 9 = pE P) (h0 : SS0 v c) (hc : c < 1000000) : wp (f_X4_startAnew v) (fun v' => SSi v' P x (c + 1) ∧ (∀ q, q ≠ 92 → v'.1 q = v.1 q) ∧ v'.2 = v.2) := by
  obtain ⟨hP, h60, h10, h15, h611, h11, h12⟩ := id hT
  have hn := hP.1
  obtain ⟨k, hk, h922, h94⟩ := h0
  unfold f_X4_startAnew
  refine wp_bd (wp_bd ?_)
  have hb0 : (sI (sI v 92 2 (v.1 92 2 + 1)) 92 3 0).1 92 3 = 0 := sI_s
  have ho : ∀ q, q ≠ 92 → (sI (sI v 92 2 (v.1 92 2 + 1)) 92 3 0).1 q = v.1 q := fun q hq => by rw [sI_n hq, sI_n hq]
  have h2 : (sI (sI v 92 2 (v.1 92 2 + 1)) 92 3 0).1 92 2 = nI (k + 1) := by rw [sI_o (by omega), sI_s, h922]; exact nI_1 k
  have h22 : (sI (sI v 92 2 (v.1 92 2 + 1)) 92 3 0).2 = v.2 := rfl
  generalize sI (sI v 92 2 (v.1 92 2 + 1)) 92 3 0 = w at hb0 ho h2 h22
  refine wp_bx1 (wp_cnt (Z := fun v' => v'.1 92 2 = nI (k + 1) ∧ (∀ q, q ≠ 92 → v'.1 q = v.1 q) ∧ v'.2 = v.2 ∧ ∀ s, s < 32 → (bt (v'.1 92 3) s = true ↔ s < 10 ∧ ∃ r, r < pN P ∧ may0 P x r = true ∧ onb P s r = true)) (fun i v' => v'.1 92 2 = nI (k + 1) ∧ (∀ q, q ≠ 92 → v'.1 q = v.1 q) ∧ v'.2 = v.2 ∧ ∀ s, s < 32 → (bt (v'.1 92 3) s = true ↔ s < 10 ∧ ∃ r, r < i ∧ may0 P x r = true ∧ onb P s r = true)) (pN P) 0 w (by omega) (Nat.zero_le _) ⟨h2, ho, h22, fun s hs => ?_⟩ ?_ ?_) ?_
  · rw [hb0, b_0]
    constructor
    · intro q; cases q
    · rintro ⟨-, r, hr, -⟩; omega
  · rintro i v1 hi ⟨g1, g2, g3, g4⟩
    have hT1 : TD v1 P := hT.kept (fun q hq => g2 q (by omega))
    show wp (f_X4_startAnew_B17 (nI i) v1) _
    unfold f_X4_startAnew_B17
    rw [g2 6 (by omega), h60]
    refine wp_f (by rw [n_le (by omega) (by omega)]; omega) (wp_t (gin_N (by omega) (by omega)) ?_)
    rw [n_cl (by omega), g2 7 (by omega), h7 i hi, hE]
    refine wp_bi (wp_of (mayChange_ok hT1 hi (hv i hi))) ?_
    rintro r3 v2 ⟨rfl, rfl⟩
    have hm : myb (pO P) (pE P) (pW P i) (x.1.1 i) = may0 P x i := rfl
    rw [hm]
    refine wp_if (fun cc => ?_) (fun cc => ?_)
    · rw [b2_0] at cc
      refine wp_eq rfl ⟨nI_1 i, g1, g2, g3, fun s hs => ?_⟩
      rw [g4 s hs]
      constructor
      · rintro ⟨a, r, b, q⟩; exact ⟨a, r, by omega, q⟩
      · rintro ⟨a, r, b, q1, q2⟩
        refine ⟨a, r, ?_, q1, q2⟩
        rcases Nat.lt_or_ge r i with z | z
        · exact z
        · rw [show r = i by omega, cc] at q1; cases q1
    · have cc : may0 P x i = true := by
        rw [b2_0] at cc
        cases hq : may0 P x i with
        | true => rfl
        | false => exact absurd hq cc
      refine wp_bx1 (wp_cnt (Z := fun v' => v'.1 92 2 = nI (k + 1) ∧ (∀ q, q ≠ 92 → v'.1 q = v.1 q) ∧ v'.2 = v.2 ∧ ∀ s, s < 32 → (bt (v'.1 92 3) s = (bt (v1.1 92 3) s || (decide (s < 10) && onb P s i)))) (fun j v' => v'.1 92 2 = nI (k + 1) ∧ (∀ q, q ≠ 92 → v'.1 q = v.1 q) ∧ v'.2 = v.2 ∧ ∀ s, s < 32 → (bt (v'.1 92 3) s = (bt (v1.1 92 3) s || (decide (s < j) && onb P s i)))) 10 0 v1 (by omega) (Nat.zero_le _) ⟨g1, g2, g3, fun s hs => by simp⟩ ?_ ?_) ?_
      · rintro j v3 hj ⟨e1, e2, e3, e4⟩
        show wp (f_X4_startAnew_B45 (nI i) (nI j) v3) _
        unfold f_X4_startAnew_B45
        refine wp_f (by rw [l_10, n_le (by omega) (by omega)]; omega) (wp_t (gin_N hj (by omega)) (wp_bd (wp_some ⟨nI_1 j, ?_, fun q hq => ?_, e3, fun s hs => ?_⟩)))
        · show (sI v3 92 3 _).1 92 2 = _
          rw [sI_o (by omega)]; exact e1
        · show (sI v3 92 3 _).1 q = _
          rw [sI_n hq]; exact e2 q hq
        · show bt ((sI v3 92 3 _).1 92 3) s = _
          rw [sI_s, n_cl (by omega), bt_sm (by omega) (by omega) hs, e4 s hs, e2 11 (by omega), h11 j hj i hi]
          by_cases e : s = j
          · subst e; simp
          · simp [e, show (s < j + 1) = (s < j) by apply propext; omega]
      · rintro v3 h
        show wp (f_X4_startAnew_B45 (nI i) (nI 10) v3) _
        unfold f_X4_startAnew_B45
        exact wp_t (by rw [l_10, n_le (by omega) (by omega)]; exact Nat.le_refl _) (wp_some h)
      · rintro v3 ⟨e1, e2, e3, e4⟩
        refine wp_eq rfl ⟨nI_1 i, e1, e2, e3, fun s hs => ?_⟩
        show bt (v3.1 92 3) s = true ↔ _
        rw [e4 s hs, Bool.or_eq_true, g4 s hs, Bool.and_eq_true]
        constructor
        · rintro (⟨a, r, b, q⟩ | ⟨a, b⟩)
          · exact ⟨a, r, by omega, q⟩
          · exact ⟨of_decide_eq_true a, i, by omega, cc, b⟩
        · rintro ⟨a, r, b, q1, q2⟩
          rcases Nat.lt_or_ge r i with z | z
          · exact Or.inl ⟨a, r, z, q1, q2⟩
          · rw [show r = i by omega] at q2
            exact Or.inr ⟨decide_eq_true a, q2⟩
  · rintro v1 ⟨g1, g2, g3, g4⟩
    show wp (f_X4_startAnew_B17 (nI (pN P)) v1) _
    unfold f_X4_startAnew_B17
    rw [g2 6 (by omega), h60]
    exact wp_t (by rw [n_le (by omega) (by omega)]; exact Nat.le_refl _) (wp_some ⟨g1, g2, g3, g4⟩)
  · rintro v1 ⟨g1, g2, g3, g4⟩
    obtain ⟨u, hu, eu⟩ := bt_small (x := v1.1 92 3) (fun j hj1 hj2 => by
      cases hq : bt (v1.1 92 3) j with
      | true => have := (g4 j hj2).mp hq; omega
      | false => rfl)
    refine wp_some ⟨⟨k + 1, u, by omega, g1, eu, hu, fun s hs => ?_, fun i hi => ?_⟩, g2, g3⟩
    · rw [← bt_nI (by omega), ← eu, g4 s (by omega)]
      exact ⟨fun q => q.2, fun q => ⟨hs, q⟩⟩
    · obtain ⟨m, e1, e2⟩ := h94 i hi
      exact ⟨m, by rw [g2 94 (by omega)]; exact e1, by omega, fun q => by omega⟩
