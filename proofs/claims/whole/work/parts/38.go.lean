/-! THE CLASS: the ride itself -/
theorem lst_snoc {p : Nat → Bool} : ∀ (m i : Nat), lst p (m + 1) i = if lst p m i < i + m then lst p m i else if p (i + m) = true then i + m else i + m + 1
  | 0, i => by
    simp [lst]
  | m + 1, i => by
    rw [lst]
    by_cases h : p i = true
    · rw [if_pos h]
      have : lst p (m + 1) i = i := by rw [lst, if_pos h]
      rw [this, if_pos (by omega)]
    · rw [if_neg h, lst_snoc m (i + 1)]
      have : lst p (m + 1) i = lst p m (i + 1) := by rw [lst, if_neg h]
      rw [this, show i + 1 + m = i + (m + 1) by omega]
theorem lst_ext {p : Nat → Bool} {m : Nat} (h : lst p m 0 < m) : ∀ n, m ≤ n → lst p n 0 = lst p m 0 := by
  intro n hn
  induction n with
  | zero => rw [show m = 0 by omega]
  | succ n ih =>
    rcases Nat.lt_or_ge m (n + 1) with q | q
    · have := ih (by omega)
      rw [lst_snoc, this, if_pos (by omega)]
    · rw [show m = n + 1 by omega]
def prd (P : Pm) (x : Sc) (d : Nat) : Bool := decide ((his P x (d + 1)).2.1 = (his P x d).2.1)
def stN (P : Pm) (x : Sc) (d : Nat) : Int32 := if lst (prd P x) d 0 < d then nI (lst (prd P x) d 0) else -1
def RD (v : gV) (b : Nat) (P : Pm) (x0 : Sc) : Prop := ∃ L, L < 10 ∧ v.1 b 10 = nI L ∧ (∀ d, d ≤ L → HB v b P d (his P x0 (d + 1))) ∧ (∀ d, L ≤ d → his P x0 (d + 1) = his P x0 (L + 1)) ∧ RS v b P (his P x0 10) ∧ v.1 b 15 = stN P x0 10
def FG (b : Nat) (v v' : gV) : Prop := (∀ q, (q < b ∨ b + 38 ≤ q) → v'.1 q = v.1 q) ∧ (∀ j, j < 5 → v'.1 b j = v.1 b j) ∧ v'.2 = v.2
theorem FG.rf {b : Nat} {v : gV} : FG b v v := ⟨fun _ _ => rfl, fun _ _ => rfl, rfl⟩
theorem FG.tr {b : Nat} {v v' v'' : gV} (h : FG b v v') (h' : FG b v' v'') : FG b v v'' := ⟨fun q h1 => (h'.1 q h1).trans (h.1 q h1), fun j hj => (h'.2.1 j hj).trans (h.2.1 j hj), h'.2.2.trans h.2.2⟩
theorem FC.G {b : Nat} {v v' : gV} (h : FC b v v') : FG b v v' := ⟨fun q h1 => h.1 q (by omega) (by omega) (by omega) (by omega), fun j hj => h.2.1 j (by omega) (by omega) (by omega) (by omega) (by omega), h.2.2⟩
theorem FK.G {b d : Nat} {v v' : gV} (hd : d < 10) (h : FK b d v v') : FG b v v' := ⟨fun q h1 => h.1 q (by omega) (by omega) (by omega) (by omega) (by omega) (by omega), fun j hj => h.2.1 j (by omega), h.2.2.2⟩
theorem FG.td {b : Nat} {v v' : gV} {P : Pm} (hb : 16 ≤ b) (h : FG b v v') (hT : TD v P) : TD v' P := hT.kept (fun q hq => h.1 q (by omega))
theorem FG.fld {b j : Nat} {v : gV} {x : Int32} (hj : 5 ≤ j) : FG b v (sI v b j x) := ⟨fun q h1 => sI_n (by omega), fun k hk => sI_o (by omega), rfl⟩
theorem chI_made {P : Pm} {d s : Nat} {y : Sc} : ∀ n, y.2.1 ≤ (itN (chS P d s) n y).2.1 ∧ ((itN (chS P d s) n y).2.1 = y.2.1 → itN (chS P d s) n y = y)
  | 0 => ⟨Nat.le_refl _, fun _ => rfl⟩
  | n + 1 => by
    obtain ⟨h1, h2⟩ := chI_made (P := P) (d := d) (s := s) (y := y) n
    rw [itN]
    cases hc : chg P s n (itN (chS P d s) n y).1 with
    | none => rw [chS_none hc]; exact ⟨h1, h2⟩
    | some σ =>
      rw [chS_some hc]
      refine ⟨by show _ ≤ (itN (chS P d s) n y).2.1 + 1; omega, fun e => ?_⟩
      have e : (itN (chS P d s) n y).2.1 + 1 = y.2.1 := e
      omega
theorem chA_made {P : Pm} {d s : Nat} {y : Sc} : y.2.1 ≤ (chA P d s y).2.1 ∧ ((chA P d s y).2.1 = y.2.1 → chA P d s y = y) := by
  unfold chA
  split
  · exact chI_made _
  · exact ⟨Nat.le_refl _, fun _ => rfl⟩
theorem RS.kept {v v' : gV} {b : Nat} {P : Pm} {x : Sc} (h : RS v b P x) (h1 : v'.1 (b + 1) = v.1 (b + 1)) (h2 : v'.1 (b + 2) = v.1 (b + 2)) (h3 : v'.1 (b + 3) = v.1 (b + 3)) (hf : ∀ j, j = 5 ∨ j = 11 ∨ j = 12 ∨ j = 13 ∨ j = 14 → v'.1 b j = v.1 b j) : RS v' b P x := by
  unfold RS RT bgR
  rw [h1, h2, show b + 2 + 1 = b + 3 by omega, h3, hf 5 (by omega), hf 11 (by omega), hf 12 (by omega), hf 13 (by omega), hf 14 (by omega)]
  exact h
theorem HB.kept {v v' : gV} {b e : Nat} {P : Pm} {x : Sc} (h : HB v b P e x) (h1 : v'.1 (b + 5 + e) = v.1 (b + 5 + e)) (h2 : v'.1 (b + 15) e = v.1 (b + 15) e) (h3 : v'.1 (b + 16) e = v.1 (b + 16) e) (h4 : v'.1 (b + 18 + 2 * e) = v.1 (b + 18 + 2 * e)) (h5 : v'.1 (b + 18 + 2 * e + 1) = v.1 (b + 18 + 2 * e + 1)) : HB v' b P e x := by
  unfold HB bgR
  rw [h1, h2, h3, h4, h5]
  exact h
theorem day_ok {v : gV} {b d : Nat} {P : Pm} {x : Sc} (u : Int32) (hb : 16 ≤ b) (hd : d < 10) (hT : TD v P) (hE : v.1 b 1 = pE P) (hC : v.1 b 2 = pC P) (hR : RS v b P x) (hA : okA P x) : wp (lp (fun a : gV × Int32 × Int32 => f_X1_go_B55 b (nI d) u a.2.1 a.2.2 a.1) fu (v, (0 : Int32), (0 : Int32))) (fun z => (z.2 = 0 ∨ z.2 = 1) ∧ RS z.1 b P (dy P d x) ∧ FC b v z.1 ∧ (z.2 = 0 → (dy P d x).2.1 = x.2.1 → dy P d x = x)) := by
  have hP := hT.1
  refine wp_ct (fun s a => a.2.2 = nI s ∧ (a.2.1 = 0 ∨ a.2.1 = 1) ∧ RS a.1 b P (itN (stp P d) s x) ∧ FC b v a.1 ∧ x.2.1 ≤ (itN (stp P d) s x).2.1 ∧ (a.2.1 = 0 → (itN (stp P d) s x).2.1 = x.2.1 → itN (stp P d) s x = x)) 10 0 _ (by omega) (Nat.zero_le _) ⟨rfl, Or.inl rfl, hR, FC.rf, Nat.le_refl _, fun _ _ => rfl⟩ ?_ ?_
  · rintro s ⟨v1, y, z⟩ hs ⟨e, hy, hR1, hF1, hle, h0⟩
    have e : z = nI s := e
    subst e
    have hy : y = 0 ∨ y = 1 := hy
    have hF1 : FC b v v1 := hF1
    have hR1 : RS v1 b P (itN (stp P d) s x) := hR1
    have h0 : y = 0 → (itN (stp P d) s x).2.1 = x.2.1 → itN (stp P d) s x = x := h0
    have hA1 := stpI_ok hP hd hA s
    show wp (f_X1_go_B55 b (nI d) u y (nI s) v1) _
    unfold f_X1_go_B55
    have hgoal : itN (stp P d) (s + 1) x = stp P d s (itN (stp P d) s x) := rfl
    rw [hgoal]
    generalize itN (stp P d) s x = w at hR1 hA1 hle h0
    refine wp_f (by rw [l_10, n_le (by omega) (by omega)]; omega) (wp_bi (leaveAt_ok hb hs (hF1.td hb hT) hR1 hA1) ?_)
    rintro r3 v2 ⟨hr, hR2, hF2, h3⟩
    have hr : r3 = 0 ∨ r3 = 1 := hr
    have hF2 : FC b v1 v2 := hF2
    have hR2 : RS v2 b P (lvA P s w) := hR2
    have h3 : r3 = 0 → lvA P s w = w := h3
    have hF3 := hF1.tr hF2
    have eC : v2.1 b 2 = pC P := (hF3.2.1 2 (by omega) (by omega) (by omega) (by omega) (by omega)).trans hC
    have eE : v2.1 b 1 = pE P := (hF3.2.1 1 (by omega) (by omega) (by omega) (by omega) (by omega)).trans hE
    have hA2 : okA P (lvA P s w) := lvI_ok hA1 _ (Nat.le_refl _)
    have hm := chA_made (P := P) (d := d) (s := s) (y := lvA P s w)
    have hlm : (lvA P s w).2.1 = w.2.1 := rfl
    have all : ∀ u4 : Int32, (u4 = 0 ∨ u4 = 1) ∧ (u4 = 0 → y = 0 ∧ r3 = 0) → wp (f_X1_go_J74 b (nI d) u u4 (nI s) v2) (SE (fun a : gV × Int32 × Int32 => a.2.2 = nI (s + 1) ∧ (a.2.1 = 0 ∨ a.2.1 = 1) ∧ RS a.1 b P (stp P d s w) ∧ FC b v a.1 ∧ x.2.1 ≤ (stp P d s w).2.1 ∧ (a.2.1 = 0 → (stp P d s w).2.1 = x.2.1 → stp P d s w = x)) (fun z : gV × Int32 => (z.2 = 0 ∨ z.2 = 1) ∧ RS z.1 b P (dy P d x) ∧ FC b v z.1 ∧ (z.2 = 0 → (dy P d x).2.1 = x.2.1 → dy P d x = x))) := by
      intro u4 hu
      unfold f_X1_go_J74
      rw [eC]
      have fin : ∀ v3, RS v3 b P (stp P d s w) → FC b v2 v3 → wp (f_X1_go_J94 b (nI d) u u4 (nI s) v3) (SE (fun a : gV × Int32 × Int32 => a.2.2 = nI (s + 1) ∧ (a.2.1 = 0 ∨ a.2.1 = 1) ∧ RS a.1 b P (stp P d s w) ∧ FC b v a.1 ∧ x.2.1 ≤ (stp P d s w).2.1 ∧ (a.2.1 = 0 → (stp P d s w).2.1 = x.2.1 → stp P d s w = x)) (fun z : gV × Int32 => (z.2 = 0 ∨ z.2 = 1) ∧ RS z.1 b P (dy P d x) ∧ FC b v z.1 ∧ (z.2 = 0 → (dy P d x).2.1 = x.2.1 → dy P d x = x))) := fun v3 q1 q2 => by
        refine wp_eq rfl ⟨nI_1 s, hu.1, q1, hF3.tr q2, ?_, fun e1 e2 => ?_⟩
        · show x.2.1 ≤ (chA P d s (lvA P s w)).2.1
          omega
        · have e2 : (chA P d s (lvA P s w)).2.1 = x.2.1 := e2
          obtain ⟨f1, f2⟩ := hu.2 e1
          have f3 := h3 f2
          have f4 := h0 f1 (by omega)
          show chA P d s (lvA P s w) = x
          rw [hm.2 (by omega), f3, f4]
      refine wp_if (fun c => ?_) (fun c => ?_)
      · refine wp_bv (changeAt_ok hb hd hs (hF3.td hb hT) eE hR2 hA2) ?_
        rintro v3 ⟨q1, q2⟩
        refine fin v3 ?_ q2
        rw [bt_i (by omega) rfl] at c
        unfold stp chA
        rw [if_pos c]
        exact q1
      · refine fin v2 ?_ FC.rf
        rw [bt_i (by omega) rfl] at c
        unfold stp chA
        rw [if_neg c]
        exact hR2
    refine wp_if (fun c => all y ⟨hy, fun q => ⟨q, c⟩⟩) (fun c => all 1 ⟨Or.inr rfl, fun q => absurd q (by decide)⟩)
  · rintro ⟨v1, y, z⟩ ⟨e, hy, hR1, hF1, hle, h0⟩
    have e : z = nI 10 := e
    subst e
    show wp (f_X1_go_B55 b (nI d) u y (nI 10) v1) _
    unfold f_X1_go_B55
    exact wp_t (by rw [l_10, n_le (by omega) (by omega)]; exact Nat.le_refl _) (wp_some ⟨hy, hR1, hF1, h0⟩)
theorem stN_s {P : Pm} {x : Sc} {d : Nat} (hd : d < 10) : stN P x (d + 1) = if stN P x d = -1 ∧ prd P x d = true then nI d else stN P x d := by
  unfold stN
  rw [lst_snoc, Nat.zero_add]
  have hle := (lst_le (p := prd P x) d 0).2
  by_cases h : lst (prd P x) d 0 < d
  · rw [if_pos h, if_pos (by omega), if_pos h, if_neg (fun q => absurd q.1 (n_m1 (by omega)))]
  · rw [if_neg h, if_neg h]
    by_cases h2 : prd P x d = true
    · rw [if_pos h2, if_pos (by omega), if_pos ⟨rfl, h2⟩]
    · rw [if_neg h2, if_neg (by omega), if_neg (fun q => h2 q.2)]
theorem go_ok {v : gV} {b : Nat} {P : Pm} {h : Nat → Int32} {l : List Int32} (hk : kR b = true) (hT : TD v P) (hE : v.1 b 1 = pE P) (hC : v.1 b 2 = pC P) (hh : ∀ i, i < pN P → v.1 (b + 1) i = h i) (hl : bgR v (b + 2) l) (hA : okA P (ini h l)) : wp (f_X1_go b v) (fun v' => RD v' b P (ini h l) ∧ FG b v v') := by
  have hP := hT.1
  have hb : 16 ≤ b := by rcases kR_or hk with rfl | rfl <;> omega
  unfold f_X1_go
  refine wp_bd (wp_bd (wp_bd (wp_bd (wp_bd (wp_bd ?_)))))
  generalize hx : ini h l = x at hA
  have hF0 : FG b v (sI (sI (sI (sI (sI (sI v b 5 0) b 11 0) b 12 (-1)) b 13 (-1)) b 14 (-1)) b 15 (-1)) := (((((FG.fld (by omega)).tr (FG.fld (by omega))).tr (FG.fld (by omega))).tr (FG.fld (by omega))).tr (FG.fld (by omega))).tr (FG.fld (by omega))
  have hR0 : RS (sI (sI (sI (sI (sI (sI v b 5 0) b 11 0) b 12 (-1)) b 13 (-1)) b 14 (-1)) b 15 (-1)) b P x := by
    rw [← hx]
    refine ⟨⟨fun i hi => ?_, ?_, fun i hi => ?_⟩, ?_, ?_, ?_, ?_⟩
    · rw [sI_n (by omega), sI_n (by omega), sI_n (by omega), sI_n (by omega), sI_n (by omega), sI_n (by omega)]; exact hh i hi
    · exact hl.kept (by rw [sI_n (by omega), sI_n (by omega), sI_n (by omega), sI_n (by omega), sI_n (by omega), sI_n (by omega)]) (fun k _ => by rw [sI_n (by omega), sI_n (by omega), sI_n (by omega), sI_n (by omega), sI_n (by omega), sI_n (by omega)])
    · rw [sI_o (by omega), sI_o (by omega), sI_o (by omega), sI_o (by omega), sI_o (by omega), sI_s, b_0]; rfl
    · rw [sI_o (by omega), sI_o (by omega), sI_o (by omega), sI_o (by omega), sI_s]; rfl
    · rw [sI_o (by omega), sI_o (by omega), sI_o (by omega), sI_s]; rfl
    · rw [sI_o (by omega), sI_o (by omega), sI_s]; rfl
    · rw [sI_o (by omega), sI_s]; rfl
  have h15 : (sI (sI (sI (sI (sI (sI v b 5 0) b 11 0) b 12 (-1)) b 13 (-1)) b 14 (-1)) b 15 (-1)).1 b 15 = stN P x 0 := by rw [sI_s]; rfl
  generalize sI (sI (sI (sI (sI (sI v b 5 0) b 11 0) b 12 (-1)) b 13 (-1)) b 14 (-1)) b 15 (-1) = w0 at hF0 hR0 h15
  refine wp_bx1 (wp_ct (Z := fun v' => RD v' b P x ∧ FG b v v') (fun d a => a.2.2 = nI d ∧ (a.2.1 = 0 ∨ a.2.1 = 1) ∧ RS a.1 b P (his P x d) ∧ FG b v a.1 ∧ (a.2.1 = 1 → 0 < d ∧ his P x d = his P x (d - 1)) ∧ (0 < d → a.1.1 b 10 = nI (d - 1)) ∧ (∀ e, e < d → HB a.1 b P e (his P x (e + 1))) ∧ a.1.1 b 15 = stN P x d) 10 0 _ (by omega) (Nat.zero_le _) ⟨rfl, Or.inl rfl, hR0, hF0, fun q => absurd q (by show ¬ (0 : Int32) = 1; decide), fun q => absurd q (Nat.lt_irrefl 0), fun e he => absurd he (Nat.not_lt_zero e), h15⟩ ?_ ?_) (fun v' h => wp_some h)
  · rintro d ⟨v1, y, z⟩ hd ⟨e, hy, hR1, hF1, h1, h2, h3, h4⟩
    have e : z = nI d := e
    subst e
    have hy : y = 0 ∨ y = 1 := hy
    have hF1 : FG b v v1 := hF1
    have hR1 : RS v1 b P (his P x d) := hR1
    have h1 : y = 1 → 0 < d ∧ his P x d = his P x (d - 1) := h1
    have h2 : 0 < d → v1.1 b 10 = nI (d - 1) := h2
    have h3 : ∀ e, e < d → HB v1 b P e (his P x (e + 1)) := h3
    have h4 : v1.1 b 15 = stN P x d := h4
    show wp (f_X1_go_B34 b y (nI d) v1) _
    unfold f_X1_go_B34
    refine wp_f (by rw [l_10, n_le (by omega) (by omega)]; omega) (wp_if (fun c => wp_bd ?_) (fun c => ?_))
    · have hAd := his_ok hP hA d (by omega)
      have eE : v1.1 b 1 = pE P := (hF1.2.1 1 (by omega)).trans hE
      have eC : v1.1 b 2 = pC P := (hF1.2.1 2 (by omega)).trans hC
      have hT1 := hF1.td hb hT
      refine wp_bx2 (day_ok (v1.1 b 11) hb hd hT1 eE eC hR1 hAd) ?_
      rintro v2 y3 ⟨hy3, hR2, hF2, h5⟩
      have hy3 : y3 = 0 ∨ y3 = 1 := hy3
      have hF2 : FC b v1 v2 := hF2
      have hR2 : RS v2 b P (his P x (d + 1)) := hR2
      have h5 : y3 = 0 → (his P x (d + 1)).2.1 = (his P x d).2.1 → his P x (d + 1) = his P x d := h5
      refine wp_bv (keep_ok hk hd (hF2.td hb hT1) hR2) ?_
      rintro v3 ⟨g1, g2, g3⟩
      have hAe := his_ok hP hA (d + 1) (by omega)
      have hmd : (his P x (d + 1)).2.1 ≤ 24 ∧ (his P x d).2.1 ≤ 24 := ⟨hAe.1.2.2.2, hAd.1.2.2.2⟩
      have e11 : v3.1 b 11 = nI (his P x (d + 1)).2.1 := (g3.2.1 11 (by omega)).trans hR2.2.1
      have e11' : v1.1 b 11 = nI (his P x d).2.1 := hR1.2.1
      have e15 : v3.1 b 15 = stN P x d := (g3.2.1 15 (by omega)).trans ((hF2.2.1 15 (by omega) (by omega) (by omega) (by omega) (by omega)).trans h4)
      have hR3 : RS v3 b P (his P x (d + 1)) := hR2.kept (g3.1 _ (by omega) (by omega) (by omega) (by omega) (by omega) (by omega)) (g3.1 _ (by omega) (by omega) (by omega) (by omega) (by omega) (by omega)) (g3.1 _ (by omega) (by omega) (by omega) (by omega) (by omega) (by omega)) (fun j hj => g3.2.1 j (by omega))
      have hF3 : FG b v v3 := (hF1.tr hF2.G).tr (g3.G hd)
      have hB3 : ∀ e, e < d + 1 → HB v3 b P e (his P x (e + 1)) := fun e he => by
        rcases Nat.lt_or_ge e d with q | q
        · refine (h3 e q).kept ?_ ?_ ?_ ?_ ?_
          · rw [g3.1 _ (by omega) (by omega) (by omega) (by omega) (by omega) (by omega), hF2.1 _ (by omega) (by omega) (by omega) (by omega)]
          · rw [(g3.2.2.1 e (by omega)).1, hF2.1 _ (by omega) (by omega) (by omega) (by omega)]
          · rw [(g3.2.2.1 e (by omega)).2, hF2.1 _ (by omega) (by omega) (by omega) (by omega)]
          · rw [g3.1 _ (by omega) (by omega) (by omega) (by omega) (by omega) (by omega), hF2.1 _ (by omega) (by omega) (by omega) (by omega)]
          · rw [g3.1 _ (by omega) (by omega) (by omega) (by omega) (by omega) (by omega), hF2.1 _ (by omega) (by omega) (by omega) (by omega)]
        · rw [show e = d by omega]
          exact g1
      have fin : ∀ v4, RS v4 b P (his P x (d + 1)) → FG b v v4 → v4.1 b 10 = nI d → (∀ e, e < d + 1 → HB v4 b P e (his P x (e + 1))) → v4.1 b 15 = stN P x (d + 1) → wp (f_X1_go_J126 b (nI d) (v1.1 b 11) y3 v4) (SE (fun a : gV × Int32 × Int32 => a.2.2 = nI (d + 1) ∧ (a.2.1 = 0 ∨ a.2.1 = 1) ∧ RS a.1 b P (his P x (d + 1)) ∧ FG b v a.1 ∧ (a.2.1 = 1 → 0 < d + 1 ∧ his P x (d + 1) = his P x (d + 1 - 1)) ∧ (0 < d + 1 → a.1.1 b 10 = nI (d + 1 - 1)) ∧ (∀ e, e < d + 1 → HB a.1 b P e (his P x (e + 1))) ∧ a.1.1 b 15 = stN P x (d + 1)) (fun v' : gV => RD v' b P x ∧ FG b v v')) := fun v4 q1 q2 q3 q4 q5 => by
        unfold f_X1_go_J126
        rw [q1.2.1, e11']
        refine wp_if (fun c1 => wp_if (fun c2 => ?_) (fun c2 => ?_)) (fun c1 => ?_)
        · exact wp_eq rfl ⟨nI_1 d, Or.inr rfl, q1, q2, fun _ => ⟨by omega, h5 c2 ((nI_eq (by omega) (by omega)).mp c1)⟩, fun _ => q3, q4, q5⟩
        · exact wp_eq rfl ⟨nI_1 d, Or.inl rfl, q1, q2, fun q => absurd q (by show ¬ (0 : Int32) = 1; decide), fun _ => q3, q4, q5⟩
        · exact wp_eq rfl ⟨nI_1 d, Or.inl rfl, q1, q2, fun q => absurd q (by show ¬ (0 : Int32) = 1; decide), fun _ => q3, q4, q5⟩
      rw [e11, e15]
      have ne := nI_eq (a := (his P x (d + 1)).2.1) (b := (his P x d).2.1) (by omega) (by omega)
      refine wp_if (fun c1 => wp_if (fun c2 => wp_bd ?_) (fun c2 => ?_)) (fun c1 => ?_)
      · refine fin _ (hR3.kept (sI_n (by omega)) (sI_n (by omega)) (sI_n (by omega)) (fun j hj => sI_o (by omega))) (hF3.tr (FG.fld (by omega))) (by rw [sI_o (by omega)]; exact g2) (fun e he => (hB3 e he).kept (by rw [sI_n (by omega)]) (by rw [sI_n (by omega)]) (by rw [sI_n (by omega)]) (by rw [sI_n (by omega)]) (by rw [sI_n (by omega)])) ?_
        rw [sI_s, stN_s hd, if_pos ⟨c2, decide_eq_true (ne.mp (c1.trans e11'))⟩]
      · refine fin v3 hR3 hF3 g2 hB3 ?_
        rw [e15, stN_s hd, if_neg (fun q => c2 q.1)]
      · refine fin v3 hR3 hF3 g2 hB3 ?_
        rw [e15, stN_s hd, if_neg (fun q => c1 ((ne.mpr (of_decide_eq_true q.2)).trans e11'.symm))]
    · have hy1 : y = 1 := by
        rcases hy with q | q
        · exact absurd q c
        · exact q
      obtain ⟨f1, f2⟩ := h1 hy1
      obtain ⟨d', rfl⟩ : ∃ d', d = d' + 1 := ⟨d - 1, by omega⟩
      have f2 : his P x (d' + 1) = his P x d' := f2
      have hst := his_stay f2
      refine wp_some ⟨⟨d', by omega, h2 f1, fun e he => h3 e (by omega), fun e he => ?_, ?_, ?_⟩, hF1⟩
      · rw [hst (e + 1) (by omega), hst (d' + 1) (by omega)]
      · rw [hst 10 (by omega), ← f2]
        exact hR1
      · rw [h4]
        have hp : prd P x d' = true := by unfold prd; rw [f2]; simp
        have hlt : lst (prd P x) (d' + 1) 0 < d' + 1 := by
          rw [lst_snoc, Nat.zero_add]
          split
          · omega
          · omega
        have := lst_ext hlt 10 (by omega)
        unfold stN
        rw [this, if_pos hlt, if_pos (by omega)]
  · rintro ⟨v1, y, z⟩ ⟨e, hy, hR1, hF1, h1, h2, h3, h4⟩
    have e : z = nI 10 := e
    subst e
    show wp (f_X1_go_B34 b y (nI 10) v1) _
    unfold f_X1_go_B34
    refine wp_t (by rw [l_10, n_le (by omega) (by omega)]; exact Nat.le_refl _) (wp_some ⟨⟨9, by omega, h2 (by omega), fun e he => h3 e (by omega), fun e he => ?_, hR1, h4⟩, hF1⟩)
    rw [his_8 hP (e + 1) (by omega), his_8 hP (9 + 1) (by omega)]
