/-! THE CLASS: leaving at a stop, keeping a day -/
theorem leaveAt_ok {v : gV} {b s : Nat} {P : Pm} {x : Sc} (hb : 16 ≤ b) (hs : s < 10) (hT : TD v P) (hR : RS v b P x) (hA : okA P x) : wp (f_X1_leaveAt b (nI s) v) (fun o => (o.1 = 0 ∨ o.1 = 1) ∧ RS o.2 b P (lvA P s x) ∧ FC b v o.2 ∧ (o.1 = 0 → lvA P s x = x)) := by
  obtain ⟨hP, h60, h10, h15, h611, h11, h12⟩ := id hT
  have hn := hP.1
  unfold f_X1_leaveAt
  refine wp_t (gin_N (by omega) (by omega)) (wp_bd ?_)
  rw [n_cl (by omega), h611]
  have hbit : ∀ r, r < pN P → bt (v.1 12 s &&& pF P) r = (leb P s r && bt (pF P) r) := fun r hr => by rw [b_and, h12 s hs r hr]
  generalize v.1 12 s &&& pF P = u at hbit
  refine wp_bx2 (wp_ct (Z := fun z => (z.2 = 0 ∨ z.2 = 1) ∧ RS z.1 b P (lvA P s x) ∧ FC b v z.1 ∧ (z.2 = 0 → lvA P s x = x)) (fun i a => a.2.2 = nI i ∧ (a.2.1 = 0 ∨ a.2.1 = 1) ∧ RS a.1 b P (itN (lvS P s) i x.1, x.2) ∧ FC b v a.1 ∧ (a.2.1 = 0 → itN (lvS P s) i x.1 = x.1)) (pN P) 0 _ (by omega) (Nat.zero_le _) ⟨rfl, Or.inl rfl, hR, FC.rf, fun _ => rfl⟩ ?_ ?_) ?_
  · rintro i ⟨v1, y, z⟩ hi ⟨e, hy, hR1, hF1, h0⟩
    have e : z = nI i := e
    subst e
    have hy : y = 0 ∨ y = 1 := hy
    have h0 : y = 0 → itN (lvS P s) i x.1 = x.1 := h0
    have hF1 : FC b v v1 := hF1
    have hR1 : RS v1 b P (itN (lvS P s) i x.1, x.2) := hR1
    have hA1 := lvI_ok (s := s) hA i (by omega)
    show wp (f_X1_leaveAt_B23 b y u (nI i) v1) _
    unfold f_X1_leaveAt_B23
    rw [(hF1.td hb hT).2.1]
    refine wp_f (by rw [n_le (by omega) (by omega)]; omega) (wp_if (fun c => ?_) (fun c => ?_))
    · have hz : ∀ r, r < pN P → ∀ σ, lvS P s r σ = σ := fun r hr σ => by
        have := hbit r hr
        rw [c, b_0] at this
        unfold lvS
        rw [← this]
        rfl
      have e1 : itN (lvS P s) i x.1 = x.1 := it_id i (fun r hr => hz r (by omega) x.1)
      have e2 : lvA P s x = x := by
        unfold lvA
        rw [it_id (pN P) (fun r hr => hz r hr x.1)]
      rw [e1] at hR1
      exact wp_some ⟨hy, by rw [e2]; exact hR1, hF1, fun _ => e2⟩
    · rw [itN]
      generalize hy9 : itN (lvS P s) i x.1 = τ at hR1 hA1 h0
      have skip : (leb P s i && bt (pF P) i && decide (τ.1 i ≠ -1)) = false → wp (f_X1_leaveAt_J99 b y u (nI i) v1) (SE (fun a : gV × Int32 × Int32 => a.2.2 = nI (i + 1) ∧ (a.2.1 = 0 ∨ a.2.1 = 1) ∧ RS a.1 b P (lvS P s i τ, x.2) ∧ FC b v a.1 ∧ (a.2.1 = 0 → lvS P s i τ = x.1)) (fun z : gV × Int32 => (z.2 = 0 ∨ z.2 = 1) ∧ RS z.1 b P (lvA P s x) ∧ FC b v z.1 ∧ (z.2 = 0 → lvA P s x = x))) := fun hc => by
        have e3 : lvS P s i τ = τ := by unfold lvS; rw [hc]; rfl
        rw [e3]
        exact wp_eq rfl ⟨nI_1 i, hy, hR1, hF1, h0⟩
      refine wp_if (fun c2 => ?_) (fun c2 => ?_)
      · rw [bt_i (by omega) (hbit i hi)] at c2
        refine wp_t (gin_N (by omega) (by omega)) ?_
        rw [n_cl (by omega), hR1.1.1 i hi]
        refine wp_if (fun c3 => skip (by simp [show τ.1 i = -1 from c3])) (fun c3 => wp_t (gin_N (by omega) (by omega)) ?_)
        have c3 : ¬ τ.1 i = -1 := c3
        have hl := lv_room9 hA1.1.1 hi c3
        have hl : τ.2.1.length ≤ 28 := hl
        refine wp_bv (putAtBottom_ok (τ.1 i) hR1.1.2.1 (by show τ.2.1.length < 29; omega)) ?_
        rintro v2 ⟨g1, g2⟩
        refine wp_t (gin_N (by omega) (by omega)) (wp_bd (wp_bd ?_))
        have e3 : lvS P s i τ = (upd τ.1 i (-1), τ.2.1 ++ [τ.1 i], ub τ.2.2 i false) := by
          unfold lvS
          rw [c2]
          rw [if_pos (by simp [c3])]
        rw [e3]
        refine wp_eq rfl ⟨nI_1 i, Or.inr rfl, ⟨⟨fun k hk => ?_, ?_, fun k hk => ?_⟩, ?_⟩, ?_, fun q => absurd q (by show ¬ (1 : Int32) = 0; decide)⟩
        · rw [sI_n (by omega)]
          show _ = upd τ.1 i (-1) k
          by_cases e4 : k = i
          · subst e4; rw [sI_s, up_s]
          · rw [sI_o e4, up_n e4, g2.1 _ (by omega) (by omega)]
            exact hR1.1.1 k hk
        · exact g1.kept (by rw [sI_n (by omega), sI_n (by omega)]) (fun k _ => by rw [sI_n (by omega), sI_n (by omega)])
        · rw [sI_s, sI_n (by omega), g2.1 _ (by omega) (by omega), bt_clr (by omega) (by omega), hR1.1.2.2 k hk]
          show _ = ub τ.2.2 i false k
          unfold ub
          by_cases e4 : k = i
          · simp [e4]
          · simp [e4]
        · rw [sI_o (by omega), sI_o (by omega), sI_o (by omega), sI_o (by omega), sI_n (by omega), g2.1 _ (by omega) (by omega)]
          exact hR1.2
        · exact hF1.tr (((FS.bag g2).tr (FS.has.tr FS.torn)).C)
      · rw [bt_i (by omega) (hbit i hi)] at c2
        refine skip ?_
        cases hq : (leb P s i && bt (pF P) i) with
        | true => exact absurd hq c2
        | false => rfl
  · rintro ⟨v1, y, z⟩ ⟨e, hy, hR1, hF1, h0⟩
    have e : z = nI (pN P) := e
    subst e
    show wp (f_X1_leaveAt_B23 b y u (nI (pN P)) v1) _
    unfold f_X1_leaveAt_B23
    rw [(FC.td hb hF1 hT).2.1]
    exact wp_t (by rw [n_le (by omega) (by omega)]; exact Nat.le_refl _) (wp_some ⟨hy, hR1, hF1, fun q => by unfold lvA; rw [h0 q]⟩)
  · rintro v1 y ⟨hy, h1⟩
    exact b1 hy ⟨hy, h1⟩
theorem wp_ga {ρ : Type} {i : Nat} {ls : List Nat} {ok : Nat → Bool} {k : Nat → Option ρ} {Q : ρ → Prop} (hi : i < ls.length) (hl : ls.length < 2147483648) (hok : ok (ls.getD i 0) = true) (h : wp (k (ls.getD i 0)) Q) : wp (ga (nI i) ls ok k) Q := by
  unfold ga
  refine wp_t (gin_N hi hl) ?_
  rw [n_cl (by omega)]
  exact wp_t hok h
theorem rR_at {b d : Nat} (h : d < 10) : (rR b).getD d 0 = b + 5 + d := by
  rcases (show d = 0 ∨ d = 1 ∨ d = 2 ∨ d = 3 ∨ d = 4 ∨ d = 5 ∨ d = 6 ∨ d = 7 ∨ d = 8 ∨ d = 9 by omega) with rfl | rfl | rfl | rfl | rfl | rfl | rfl | rfl | rfl | rfl <;> rfl
theorem rB_at {b d : Nat} (h : d < 10) : (rB b).getD d 0 = b + 18 + 2 * d := by
  rcases (show d = 0 ∨ d = 1 ∨ d = 2 ∨ d = 3 ∨ d = 4 ∨ d = 5 ∨ d = 6 ∨ d = 7 ∨ d = 8 ∨ d = 9 by omega) with rfl | rfl | rfl | rfl | rfl | rfl | rfl | rfl | rfl | rfl <;> rfl
theorem kR_or {b : Nat} (h : kR b = true) : b = 16 ∨ b = 54 := by
  unfold kR at h
  simpa using h
theorem kI_R {b d : Nat} (h : kR b = true) (hd : d < 10) : kI 8 (b + 5 + d) = true := by
  rcases kR_or h with rfl | rfl <;> rcases (show d = 0 ∨ d = 1 ∨ d = 2 ∨ d = 3 ∨ d = 4 ∨ d = 5 ∨ d = 6 ∨ d = 7 ∨ d = 8 ∨ d = 9 by omega) with rfl | rfl | rfl | rfl | rfl | rfl | rfl | rfl | rfl | rfl <;> rfl
theorem kB_R {b d : Nat} (h : kR b = true) (hd : d < 10) : kB (b + 18 + 2 * d) = true := by
  rcases kR_or h with rfl | rfl <;> rcases (show d = 0 ∨ d = 1 ∨ d = 2 ∨ d = 3 ∨ d = 4 ∨ d = 5 ∨ d = 6 ∨ d = 7 ∨ d = 8 ∨ d = 9 by omega) with rfl | rfl | rfl | rfl | rfl | rfl | rfl | rfl | rfl | rfl <;> rfl
/-- bits of those for which p holds -/
def bo (p : Nat → Bool) : Nat → Int32
  | 0 => 0
  | n + 1 => if p n = true then bo p n ||| ((1 : Int32) <<< (nI n &&& 31)) else bo p n
def srv (P : Pm) (h : Nat → Int32) : Int32 := bo (fun r => decide (h r = pW P r)) (pN P)
def HB (v : gV) (b : Nat) (P : Pm) (d : Nat) (x : Sc) : Prop := (∀ r, r < pN P → v.1 (b + 5 + d) r = x.1.1 r) ∧ (∀ r, r < pN P → bt (v.1 (b + 15) d) r = x.1.2.2 r) ∧ bgR v (b + 18 + 2 * d) x.1.2.1 ∧ v.1 (b + 16) d = srv P x.1.1
def FK (b d : Nat) (v v' : gV) : Prop := (∀ q, q ≠ b → q ≠ b + 5 + d → q ≠ b + 15 → q ≠ b + 16 → q ≠ b + 18 + 2 * d → q ≠ b + 19 + 2 * d → v'.1 q = v.1 q) ∧ (∀ j, j ≠ 10 → v'.1 b j = v.1 b j) ∧ (∀ e, e ≠ d → v'.1 (b + 15) e = v.1 (b + 15) e ∧ v'.1 (b + 16) e = v.1 (b + 16) e) ∧ v'.2 = v.2
theorem keep_ok {v : gV} {b d : Nat} {P : Pm} {x : Sc} (hk : kR b = true) (hd : d < 10) (hT : TD v P) (hR : RS v b P x) : wp (f_X1_keep b (nI d) v) (fun v' => HB v' b P d x ∧ v'.1 b 10 = nI d ∧ FK b d v v') := by
  obtain ⟨hP, h60, h10, -⟩ := id hT
  have hn := hP.1
  have hb : 16 ≤ b := by rcases kR_or hk with rfl | rfl <;> omega
  unfold f_X1_keep
  refine wp_bd (wp_ga (by simpa using hd) (by simp) (by rw [rR_at hd]; exact kI_R hk hd) ?_)
  rw [rR_at hd]
  refine wp_t (gcp_ok (sp := 0) (dp := 0) (m := 8) (by omega) (by omega) (by omega) (by omega)) (wp_bd (wp_t (gin_N hd (by omega)) (wp_bd (wp_ga (by simpa using hd) (by simp) (by rw [rB_at hd]; exact kB_R hk hd) ?_))))
  rw [rB_at hd, c_0, c_8, n_cl (by omega)]
  generalize hv2 : sI (sA (sI v b 10 (nI d)) (b + 5 + d) (va_cpy ((sI v b 10 (nI d)).1 (b + 1)) ((sI v b 10 (nI d)).1 (b + 5 + d)) 0 0 8)) (b + 15) d ((sA (sI v b 10 (nI d)) (b + 5 + d) (va_cpy ((sI v b 10 (nI d)).1 (b + 1)) ((sI v b 10 (nI d)).1 (b + 5 + d)) 0 0 8)).1 b 5) = v2
  have a1 : ∀ q, q ≠ b → q ≠ b + 5 + d → q ≠ b + 15 → v2.1 q = v.1 q := fun q h1 h2 h3 => by rw [← hv2, sI_n h3, sA_n h2, sI_n h1]
  have a2 : ∀ j, j ≠ 10 → v2.1 b j = v.1 b j := fun j hj => by rw [← hv2, sI_n (by omega), sA_n (by omega), sI_o hj]
  have a3 : v2.1 b 10 = nI d := by rw [← hv2, sI_n (by omega), sA_n (by omega), sI_s]
  have a4 : ∀ r, r < pN P → v2.1 (b + 5 + d) r = x.1.1 r := fun r hr => by
    rw [← hv2, sI_n (by omega), sA_s, cpy_in (Nat.zero_le _) (by omega), sI_n (by omega), Nat.zero_add, Nat.sub_zero]
    exact hR.1.1 r hr
  have a5 : v2.1 (b + 15) d = v.1 b 5 := by rw [← hv2, sI_s, sA_n (by omega), sI_o (by omega)]
  have a6 : ∀ e, e ≠ d → v2.1 (b + 15) e = v.1 (b + 15) e := fun e he => by rw [← hv2, sI_o he, sA_n (by omega), sI_n (by omega)]
  have a7 : v2.2 = v.2 := by rw [← hv2]; rfl
  have hB : bgR v2 (b + 2) x.1.2.1 := hR.1.2.1.kept (by rw [a1 _ (by omega) (by omega) (by omega)]) (fun k _ => by rw [a1 _ (by omega) (by omega) (by omega)])
  refine wp_bv (become_ok (b := b + 18 + 2 * d) hB (by omega) (by omega)) ?_
  rintro v3 ⟨g1, g2⟩
  refine wp_t (gin_N hd (by omega)) (wp_bd ?_)
  have hw : ∀ r, r < pN P → v3.1 10 r = pW P r := fun r hr => by rw [g2.1 _ (by omega) (by omega), a1 _ (by omega) (by omega) (by omega)]; exact h10 r hr
  have hh : ∀ r, r < pN P → v3.1 (b + 1) r = x.1.1 r := fun r hr => by rw [g2.1 _ (by omega) (by omega), a1 _ (by omega) (by omega) (by omega)]; exact hR.1.1 r hr
  have h6 : v3.1 6 0 = nI (pN P) := by rw [g2.1 _ (by omega) (by omega), a1 _ (by omega) (by omega) (by omega)]; exact h60
  refine wp_bx1 (wp_cnt (Z := fun v' => v'.1 (b + 16) d = srv P x.1.1 ∧ (∀ q, q ≠ b + 16 → v'.1 q = v3.1 q) ∧ (∀ e, e ≠ d → v'.1 (b + 16) e = v3.1 (b + 16) e) ∧ v'.2 = v3.2) (fun i v' => v'.1 (b + 16) d = bo (fun r => decide (x.1.1 r = pW P r)) i ∧ (∀ q, q ≠ b + 16 → v'.1 q = v3.1 q) ∧ (∀ e, e ≠ d → v'.1 (b + 16) e = v3.1 (b + 16) e) ∧ v'.2 = v3.2) (pN P) 0 _ (by omega) (Nat.zero_le _) ⟨by rw [sI_s]; rfl, fun q hq => sI_n hq, fun e he => by rw [sI_o he], rfl⟩ ?_ ?_) ?_
  · rintro i v' hi ⟨h1, h2, h3, h4⟩
    show wp (f_X1_keep_B54 b (nI d) (nI i) v') _
    unfold f_X1_keep_B54
    rw [h2 6 (by omega), h6, h2 10 (by omega), h2 (b + 1) (by omega)]
    refine wp_f (by rw [n_le (by omega) (by omega)]; omega) (wp_t (gin_N (by omega) (by omega)) (wp_t (gin_N (by omega) (by omega)) ?_))
    rw [n_cl (by omega), hh i hi, hw i hi]
    refine wp_if (fun c => wp_t (gin_N hd (by omega)) (wp_t (gin_N hd (by omega)) (wp_bd ?_))) (fun c => ?_)
    · refine wp_eq rfl ⟨nI_1 i, ?_, fun q hq => ?_, fun e he => ?_, h4⟩
      · rw [n_cl (by omega), sI_s, h1, bo, if_pos (decide_eq_true c)]
      · rw [sI_n hq]; exact h2 q hq
      · rw [n_cl (by omega), sI_o he]; exact h3 e he
    · refine wp_eq rfl ⟨nI_1 i, ?_, h2, h3, h4⟩
      show v'.1 (b + 16) d = _
      rw [h1, bo, if_neg (by rw [decide_eq_false c]; exact Bool.false_ne_true)]
  · rintro v' ⟨h1, h2, h3, h4⟩
    show wp (f_X1_keep_B54 b (nI d) (nI (pN P)) v') _
    unfold f_X1_keep_B54
    rw [h2 6 (by omega), h6]
    exact wp_t (by rw [n_le (by omega) (by omega)]; exact Nat.le_refl _) (wp_some ⟨h1, h2, h3, h4⟩)
  · rintro v' ⟨h1, h2, h3, h4⟩
    refine wp_some ⟨⟨fun r hr => ?_, fun r hr => ?_, ?_, h1⟩, ?_, fun q b1 b2 b3 b4 b5 b6 => ?_, fun j hj => ?_, fun e he => ⟨?_, ?_⟩, ?_⟩
    · rw [h2 _ (by omega), g2.1 _ (by omega) (by omega)]; exact a4 r hr
    · rw [h2 _ (by omega), g2.1 _ (by omega) (by omega), a5]; exact hR.1.2.2 r hr
    · exact g1.kept (by rw [h2 _ (by omega)]) (fun k _ => by rw [h2 _ (by omega)])
    · rw [h2 _ (by omega), g2.1 _ (by omega) (by omega)]; exact a3
    · rw [h2 q b4, g2.1 q b5 (by omega)]; exact a1 q b1 b2 b3
    · rw [h2 _ (by omega), g2.1 _ (by omega) (by omega)]; exact a2 j hj
    · rw [h2 _ (by omega), g2.1 _ (by omega) (by omega)]; exact a6 e he
    · rw [h3 e he, g2.1 _ (by omega) (by omega), a1 _ (by omega) (by omega) (by omega)]
    · rw [h4, g2.2]; exact a7
