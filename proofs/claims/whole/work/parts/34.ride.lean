/-! THE CLASS: ten days of a ride -/
theorem wp_ct {α β : Type} {f : α → Option (α ⊕ β)} {Z : β → Prop} (J : Nat → α → Prop) (n i : Nat) (a : α) (hn : n < 2147483648) (hi : i ≤ n) (h0 : J i a) (hs : ∀ i a, i < n → J i a → wp (f a) (SE (J (i + 1)) Z)) (he : ∀ a, J n a → wp (f a) (SE (fun _ => False) Z)) : wp (lp f fu a) Z := by
  refine wp_lp (fun k a => ∃ i, i ≤ n ∧ k = n - i ∧ J i a) ?_ fu (n - i) a ⟨i, hi, rfl, h0⟩ (fu_big (by omega))
  rintro k a ⟨i, hi, rfl, hJ⟩
  rcases Nat.lt_or_ge i n with h | h
  · refine wp_mono (hs i a h hJ) (fun o ho => ?_)
    cases o with
    | inl a' => exact ⟨n - (i + 1), by omega, i + 1, by omega, rfl, ho⟩
    | inr b => exact ho
  · have e : i = n := by omega
    subst e
    refine wp_mono (he a hJ) (fun o ho => ?_)
    cases o with
    | inl a' => exact absurd ho id
    | inr b => exact ho
def TD (v : gV) (P : Pm) : Prop := okP P ∧ v.1 6 0 = nI (pN P) ∧ (∀ r, r < pN P → v.1 10 r = pW P r) ∧ (∀ k, k < 8 → v.1 15 k = pO P k) ∧ v.1 6 11 = pF P ∧ (∀ s, s < 10 → ∀ r, r < pN P → bt (v.1 11 s) r = onb P s r) ∧ (∀ s, s < 10 → ∀ r, r < pN P → bt (v.1 12 s) r = leb P s r)
theorem TD.kept {v v' : gV} {P : Pm} (h : TD v P) (hq : ∀ q, q < 16 → v'.1 q = v.1 q) : TD v' P := by
  unfold TD
  rw [hq 6 (by omega), hq 10 (by omega), hq 15 (by omega), hq 11 (by omega), hq 12 (by omega)]
  exact h
def b2 (b : Bool) : Int32 := if b = true then 1 else 0
theorem b2_01 (b : Bool) : b2 b = 0 ∨ b2 b = 1 := by cases b <;> simp [b2]
theorem b2_0 {b : Bool} : (b2 b = 0) = (b = false) := by cases b <;> simp [b2]
theorem gin_hv {h : Int32} (hh : hv h) (h1 : h ≠ -1) : gin h 8 = true ∧ ∃ k, k < 8 ∧ h = nI k := by
  rcases hh with e | ⟨k, hk, rfl⟩
  · exact absurd e h1
  · exact ⟨gin_N hk (by omega), k, hk, rfl⟩
theorem mayChange_ok {v : gV} {P : Pm} {r : Nat} {h e : Int32} (hT : TD v P) (hr : r < pN P) (hh : hv h) : f_X6_mayChange (nI r) h e v = some (b2 (myb (pO P) e (pW P r) h), v) := by
  apply wp_is
  obtain ⟨hP, -, h10, h15, -⟩ := hT
  have hn := hP.1
  obtain ⟨w, hw, ew⟩ := (hP.2.1 r hr).2.2
  unfold f_X6_mayChange
  have no : ∀ {hc : ¬ (h ≠ -1 ∧ h ≠ 0 ∧ h ≠ pW P r ∧ pO P h.toNatClampNeg - pO P (pW P r).toNatClampNeg ≤ e ∧ -(pO P h.toNatClampNeg - pO P (pW P r).toNatClampNeg) ≤ e)}, ((0 : Int32), v) = (b2 (myb (pO P) e (pW P r) h), v) := by
    intro hc
    unfold myb b2
    rw [decide_eq_false hc]
    rfl
  have yes : ∀ {hc : (h ≠ -1 ∧ h ≠ 0 ∧ h ≠ pW P r ∧ pO P h.toNatClampNeg - pO P (pW P r).toNatClampNeg ≤ e ∧ -(pO P h.toNatClampNeg - pO P (pW P r).toNatClampNeg) ≤ e)}, ((1 : Int32), v) = (b2 (myb (pO P) e (pW P r) h), v) := by
    intro hc
    unfold myb b2
    rw [decide_eq_true hc]
    rfl
  refine wp_if (fun c => b1 (Or.inl rfl) (no (hc := fun q => q.1 c))) (fun c1 => wp_if (fun c => b1 (Or.inl rfl) (no (hc := fun q => q.2.1 c))) (fun c2 => wp_t (gin_N (by omega) (by omega)) ?_))
  rw [n_cl (by omega), h10 r hr]
  refine wp_if (fun c => b1 (Or.inl rfl) (no (hc := fun q => q.2.2.1 c))) (fun c3 => ?_)
  obtain ⟨g1, k, hk, ek⟩ := gin_hv hh c1
  have g2 : gin (pW P r) 8 = true := by rw [ew]; exact gin_N hw (by omega)
  refine wp_t g1 (wp_t (gin_N (by omega) (by omega)) (wp_t g2 (wp_bd ?_)))
  have e1 : v.1 15 h.toNatClampNeg = pO P h.toNatClampNeg := h15 _ (by rw [ek, n_cl (by omega)]; exact hk)
  have e2 : v.1 15 (pW P r).toNatClampNeg = pO P (pW P r).toNatClampNeg := h15 _ (by rw [ew, n_cl (by omega)]; exact hw)
  rw [e1, e2]
  refine wp_if (fun c => b1 (Or.inl rfl) (no (hc := fun q => absurd q.2.2.2.1 (by rw [i_le]; rw [i_lt] at c; omega)))) (fun c4 => wp_if (fun c => b1 (Or.inl rfl) (no (hc := fun q => absurd q.2.2.2.2 (by rw [i_le]; rw [i_lt] at c; omega)))) (fun c5 => b1 (Or.inr rfl) (yes (hc := ⟨c1, c2, c3, by rw [i_le]; rw [i_lt] at c4; omega, by rw [i_le]; rw [i_lt] at c5; omega⟩))))
def RT (v : gV) (b : Nat) (P : Pm) (σ : St) : Prop := (∀ i, i < pN P → v.1 (b + 1) i = σ.1 i) ∧ bgR v (b + 2) σ.2.1 ∧ (∀ i, i < pN P → bt (v.1 b 5) i = σ.2.2 i)
/-- only the ride's own torn, has and bag have changed -/
def FS (b : Nat) (v v' : gV) : Prop := (∀ q, q ≠ b → q ≠ b + 1 → q ≠ b + 2 → q ≠ b + 3 → v'.1 q = v.1 q) ∧ (∀ j, j ≠ 5 → v'.1 b j = v.1 b j) ∧ v'.2 = v.2
theorem FS.rf {b : Nat} {v : gV} : FS b v v := ⟨fun _ _ _ _ _ => rfl, fun _ _ => rfl, rfl⟩
theorem FS.tr {b : Nat} {v v' v'' : gV} (h : FS b v v') (h' : FS b v' v'') : FS b v v'' := ⟨fun q h1 h2 h3 h4 => (h'.1 q h1 h2 h3 h4).trans (h.1 q h1 h2 h3 h4), fun j hj => (h'.2.1 j hj).trans (h.2.1 j hj), h'.2.2.trans h.2.2⟩
theorem FS.bag {b : Nat} {v v' : gV} (h : FB (b + 2) v v') : FS b v v' := ⟨fun q _ _ h3 h4 => h.1 q h3 (by omega), fun j _ => by rw [h.1 b (by omega) (by omega)], h.2⟩
theorem FS.has {b j : Nat} {v : gV} {x : Int32} : FS b v (sI v (b + 1) j x) := ⟨fun q _ h2 _ _ => sI_n h2, fun k _ => by rw [sI_n (by omega)], rfl⟩
theorem FS.torn {b : Nat} {v : gV} {x : Int32} : FS b v (sI v b 5 x) := ⟨fun q h1 _ _ _ => sI_n h1, fun k hk => sI_o hk, rfl⟩
theorem FS.td {b : Nat} {v v' : gV} {P : Pm} (hb : 16 ≤ b) (h : FS b v v') (hT : TD v P) : TD v' P := hT.kept (fun q hq => h.1 q (by omega) (by omega) (by omega) (by omega))
theorem takeWhole_ok {v : gV} {b : Nat} {P : Pm} {σ : St} {r : Nat} (hb : 16 ≤ b) (hT : TD v P) (hR : RT v b P σ) (hr : r < pN P) : wp (f_X1_takeWhole b (nI r) v) (fun o => if ix (pW P r) σ.2.1 < σ.2.1.length then o.1 = 1 ∧ RT o.2 b P (upd σ.1 r (pW P r), σ.2.1.eraseIdx (ix (pW P r) σ.2.1) ++ [σ.1 r], σ.2.2) ∧ FS b v o.2 else o = (0, v)) := by
  obtain ⟨hP, -, h10, -⟩ := id hT
  have hn := hP.1
  have hl := hR.2.1.2.1
  unfold f_X1_takeWhole
  refine wp_t (gin_N (by omega) (by omega)) ?_
  rw [n_cl (by omega), h10 r hr]
  refine wp_bi (wp_of (placeOf_ok (pW P r) hR.2.1)) ?_
  rintro p v1 ⟨rfl, rfl⟩
  by_cases hi : ix (pW P r) σ.2.1 < σ.2.1.length
  · rw [if_pos hi]
    simp only [if_pos hi]
    refine wp_f (n_m1 (by omega)) (wp_bv (takeOut_ok hR.2.1 hi) ?_)
    rintro v2 ⟨g1, g2⟩
    refine wp_t (gin_N (by omega) (by omega)) ?_
    have e1 : v2.1 (b + 1) r = σ.1 r := by rw [g2.1 _ (by omega) (by omega)]; exact hR.1 r hr
    rw [e1]
    refine wp_bv (putAtBottom_ok (σ.1 r) g1 (by rw [er_len hi]; omega)) ?_
    rintro v3 ⟨g3, g4⟩
    have e2 : v3.1 10 r = pW P r := by rw [g4.1 _ (by omega) (by omega), g2.1 _ (by omega) (by omega)]; exact h10 r hr
    rw [e2]
    refine wp_t (gin_N (by omega) (by omega)) (wp_t (gin_N (by omega) (by omega)) (wp_bd (b1 (Or.inr rfl) ⟨rfl, ⟨fun i hi2 => ?_, ?_, fun i hi2 => ?_⟩, (FS.bag (g2.tr g4)).tr FS.has⟩)))
    · by_cases e : i = r
      · subst e
        show (sI v3 (b + 1) i (pW P i)).1 (b + 1) i = upd σ.1 i (pW P i) i
        rw [sI_s, up_s]
      · show (sI v3 (b + 1) r (pW P r)).1 (b + 1) i = upd σ.1 r (pW P r) i
        rw [sI_o e, up_n e, g4.1 _ (by omega) (by omega), g2.1 _ (by omega) (by omega)]
        exact hR.1 i hi2
    · exact g3.kept (by rw [sI_n (by omega)]) (fun k _ => by rw [sI_n (by omega)])
    · show bt ((sI v3 (b + 1) r (pW P r)).1 b 5) i = σ.2.2 i
      rw [sI_n (by omega), g4.1 _ (by omega) (by omega), g2.1 _ (by omega) (by omega)]
      exact hR.2.2 i hi2
  · rw [if_neg hi]
    simp only [if_neg hi]
    exact wp_t trivial (b1 (Or.inl rfl) rfl)
