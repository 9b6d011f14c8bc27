/-! THE CALLS: ask -/
def cntf (a : Ab) (d r : Nat) (y : Int32) (e : Nat) : Nat := if (wasp a e && decide ((his (setE (aP a) (nI e)) (aX a) (d + 1)).1.1 r = y)) = true then 1 else 0
def cntv (a : Ab) (d r : Nat) (y : Int32) : Nat := smN (cntf a d r y) 10
def mx (f : Nat → Nat) : Nat → Nat
  | 0 => 0
  | n + 1 => max (mx f n) (f n)
theorem mx_ge {f : Nat → Nat} : ∀ {n k : Nat}, k < n → f k ≤ mx f n
  | 0, k, h => absurd h (Nat.not_lt_zero k)
  | n + 1, k, h => by
    rw [mx]
    rcases Nat.lt_or_ge k n with q | q
    · have := mx_ge (f := f) q
      omega
    · rw [show k = n by omega]
      omega
theorem mx_le {f : Nat → Nat} {b : Nat} : ∀ {n : Nat}, (∀ k, k < n → f k ≤ b) → mx f n ≤ b
  | 0, _ => Nat.zero_le _
  | n + 1, h => by
    have h1 := mx_le (f := f) (b := b) (n := n) (fun k hk => h k (by omega))
    have h2 := h n (by omega)
    rw [mx]
    omega
/-- what a place of the class's row stands for -/
def yC (j : Nat) : Int32 := if j = 8 then -1 else nI j
def grC (a : Ab) (d r : Nat) : Nat := mx (fun j => cntv a d r (yC j)) 9
def bl (g : Nat → Nat) : Nat → Int32 × Int32
  | 0 => (-1, 0)
  | n + 1 => if (bl g n).1 = -1 ∨ nI (g n) < (bl g n).2 then (nI n, nI (g n)) else bl g n
def askv (a : Ab) (d : Nat) : Int32 := (bl (grC a d) (nRi (aT0 a))).1
def sp_ask (d : Int32) (a : Ab) : Int32 × Ab := if gin d 10 = true then (askv a (d.toNatClampNeg), a) else (-2, a)
theorem InvX.fa {v v' : gV} {a : Ab} {c : Nat} (h : InvX v a c) (hF : ∀ q, (q < 54 ∨ (92 ≤ q ∧ q < 108)) → v'.1 q = v.1 q) (h2 : v'.2 = v.2) : InvX v' a c := by
  obtain ⟨h1, b2, b3, b4, b5, b6, b7, b8, b9⟩ := h
  refine ⟨h1, b2.kept (hF _ (by omega)) (hF _ (by omega)), b3.kept (hF _ (by omega)) (hF _ (by omega)), b4.kept (fun q hq => hF q (by omega)) (b4.2.2.2.2.2.2.1.kept (hF _ (by omega)) (hF _ (by omega)) h2), fun r hr => ?_, ?_, ?_, fun s hs => ?_, by rw [hF 0 (by omega)]; exact b9⟩
  · rw [hF 8 (by omega), hF 9 (by omega)]; exact b5 r hr
  · obtain ⟨L, z1, z2, z3, z4, z5, z6⟩ := b6
    exact ⟨L, z1, by rw [hF _ (by omega)]; exact z2, fun d hd => (z3 d hd).kept (hF _ (by omega)) (by rw [hF _ (by omega)]) (by rw [hF _ (by omega)]) (hF _ (by omega)) (hF _ (by omega)), z4, z5.kept (hF _ (by omega)) (hF _ (by omega)) (hF _ (by omega)) (fun j _ => by rw [hF _ (by omega)]), by rw [hF _ (by omega)]; exact z6⟩
  · unfold SNi
    rw [hF 95 (by omega), hF 96 (by omega), hF 97 (by omega), hF 98 (by omega)]
    exact b7
  · rw [hF _ (by omega), hF _ (by omega)]
    exact b8 s hs
theorem rA_at {r : Nat} (h : r < 8) : ([109, 110, 111, 112, 113, 114, 115, 116] : List Nat).getD r 0 = 109 + r ∧ kI 9 (109 + r) = true := by
  rcases (show r = 0 ∨ r = 1 ∨ r = 2 ∨ r = 3 ∨ r = 4 ∨ r = 5 ∨ r = 6 ∨ r = 7 by omega) with rfl | rfl | rfl | rfl | rfl | rfl | rfl | rfl <;> exact ⟨rfl, rfl⟩
theorem wp_gaA {ρ : Type} {r : Nat} {f : Nat → Option ρ} {Q : ρ → Prop} (hr : r < 8) (h : wp (f (109 + r)) Q) : wp (ga (nI r) [109, 110, 111, 112, 113, 114, 115, 116] (kI 9) f) Q := by
  obtain ⟨e1, e2⟩ := rA_at hr
  refine wp_ga (by simpa using hr) (by simp) (by rw [e1]; exact e2) ?_
  rw [e1]; exact h
theorem clearAlike_ok {v : gV} : wp (f_X7_clearAlike v) (fun v' => (∀ r, r < 8 → ∀ j, j < 9 → v'.1 (109 + r) j = 0) ∧ (∀ q, q < 109 → v'.1 q = v.1 q) ∧ v'.2 = v.2) := by
  unfold f_X7_clearAlike
  refine wp_bx1 (wp_cnt (Z := fun v' => (∀ r, r < 8 → ∀ j, j < 9 → v'.1 (109 + r) j = 0) ∧ (∀ q, q < 109 → v'.1 q = v.1 q) ∧ v'.2 = v.2) (fun i v' => (∀ r, r < i → ∀ j, j < 9 → v'.1 (109 + r) j = 0) ∧ (∀ q, q < 109 → v'.1 q = v.1 q) ∧ v'.2 = v.2) 8 0 v (by omega) (Nat.zero_le _) ⟨fun r hr => absurd hr (Nat.not_lt_zero r), fun _ _ => rfl, rfl⟩ ?_ ?_) (fun v' h => wp_some h)
  · rintro i v' hi ⟨g1, g2, g3⟩
    show wp (f_X7_clearAlike_B2 (nI i) v') _
    unfold f_X7_clearAlike_B2
    refine wp_f (by rw [l_8, n_le (by omega) (by omega)]; omega) (wp_gaA hi (wp_bv (fill_ok (by omega)) ?_))
    rintro v3 ⟨f1, f2, f3⟩
    refine wp_some ⟨nI_1 i, fun r hr j hj => ?_, fun q hq => ?_, f3.trans g3⟩
    · show v3.1 (109 + r) j = 0
      rcases Nat.lt_or_ge r i with z | z
      · rw [f2 _ (by omega)]; exact g1 r z j hj
      · rw [show r = i by omega]; exact f1 j hj
    · show v3.1 q = v.1 q
      rw [f2 _ (by omega)]; exact g2 q hq
  · rintro v' h
    show wp (f_X7_clearAlike_B2 (nI 8) v') _
    unfold f_X7_clearAlike_B2
    exact wp_t (by rw [l_8, n_le (by omega) (by omega)]; exact Nat.le_refl _) (wp_some h)
theorem countAlike_ok {v : gV} {P : Pm} {x : Sc} {d n : Nat} (hP : okP P) (hn : pN P = n) (h60 : v.1 6 0 = nI n) (hA : okA P x) (hd : d < 10) (hD : RD v 54 P x) (hb : ∀ r, r < n → ∀ j, j < 9 → ∃ m, m < 1000 ∧ v.1 (109 + r) j = nI m) : wp (f_X7_countAlike (nI d) v) (fun v' => (∀ r, r < n → ∀ j, j < 9 → v'.1 (109 + r) j = v.1 (109 + r) j + (if (his P x (d + 1)).1.1 r = yC j then 1 else 0)) ∧ (∀ q, q < 109 → v'.1 q = v.1 q) ∧ v'.2 = v.2) := by
  have hn8 := hP.1
  unfold f_X7_countAlike
  refine wp_bx1 (wp_cnt (Z := fun v' => (∀ r, r < n → ∀ j, j < 9 → v'.1 (109 + r) j = v.1 (109 + r) j + (if (his P x (d + 1)).1.1 r = yC j then 1 else 0)) ∧ (∀ q, q < 109 → v'.1 q = v.1 q) ∧ v'.2 = v.2) (fun i v' => (∀ r, r < n → ∀ j, j < 9 → v'.1 (109 + r) j = if r < i then v.1 (109 + r) j + (if (his P x (d + 1)).1.1 r = yC j then 1 else 0) else v.1 (109 + r) j) ∧ (∀ q, q < 109 → v'.1 q = v.1 q) ∧ v'.2 = v.2) n 0 v (by omega) (Nat.zero_le _) ⟨fun r hr j hj => by rw [if_neg (by omega)], fun _ _ => rfl, rfl⟩ ?_ ?_) (fun v' h => wp_some h)
  · rintro i v' hi ⟨g1, g2, g3⟩
    have hD' : RD v' 54 P x := by
      obtain ⟨L, z1, z2, z3, z4, z5, z6⟩ := hD
      exact ⟨L, z1, by rw [g2 _ (by omega)]; exact z2, fun e he => (z3 e he).kept (g2 _ (by omega)) (by rw [g2 _ (by omega)]) (by rw [g2 _ (by omega)]) (g2 _ (by omega)) (g2 _ (by omega)), z4, z5.kept (g2 _ (by omega)) (g2 _ (by omega)) (g2 _ (by omega)) (fun j _ => by rw [g2 _ (by omega)]), by rw [g2 _ (by omega)]; exact z6⟩
    show wp (f_X7_countAlike_B2 (nI d) (nI i) v') _
    unfold f_X7_countAlike_B2
    rw [g2 6 (by omega), h60]
    refine wp_f (by rw [n_le (by omega) (by omega)]; omega) (wp_bi (wp_of (hasOn_ok rfl hP hD' hd (by omega))) ?_)
    rintro r3 v1 ⟨rfl, rfl⟩
    refine wp_gaA (by omega) ?_
    have key : ∀ k, k < 9 → (∀ j, j < 9 → ((his P x (d + 1)).1.1 i = yC j ↔ j = k)) → wp (f_X7_countAlike_J40 (nI d) (nI i) (nI k) (109 + i) v') (SE (fun a' : gV × Int32 => a'.2 = nI (i + 1) ∧ (∀ r, r < n → ∀ j, j < 9 → a'.1.1 (109 + r) j = if r < i + 1 then v.1 (109 + r) j + (if (his P x (d + 1)).1.1 r = yC j then 1 else 0) else v.1 (109 + r) j) ∧ (∀ q, q < 109 → a'.1.1 q = v.1 q) ∧ a'.1.2 = v.2) (fun v' : gV => (∀ r, r < n → ∀ j, j < 9 → v'.1 (109 + r) j = v.1 (109 + r) j + (if (his P x (d + 1)).1.1 r = yC j then 1 else 0)) ∧ (∀ q, q < 109 → v'.1 q = v.1 q) ∧ v'.2 = v.2)) := fun k hk hy => by
      unfold f_X7_countAlike_J40
      refine wp_t (gin_N hk (by omega)) (wp_t (gin_N hk (by omega)) (wp_bd (wp_some ⟨nI_1 i, fun r hr j hj => ?_, fun q hq => ?_, g3⟩)))
      · rw [n_cl (by omega)]
        show (sI v' (109 + i) k _).1 (109 + r) j = _
        by_cases e : r = i
        · subst e
          rw [if_pos (show r < r + 1 by omega)]
          have g0 := g1 r hr j hj
          rw [if_neg (Nat.lt_irrefl r)] at g0
          by_cases e2 : j = k
          · subst e2
            rw [sI_s, g0, if_pos ((hy j hj).mpr rfl)]
          · rw [sI_o e2, g0, if_neg (fun q => e2 ((hy j hj).mp q)), Int32.add_zero]
        · rw [sI_n (by omega), g1 r hr j hj]
          by_cases e2 : r < i
          · rw [if_pos e2, if_pos (show r < i + 1 by omega)]
          · rw [if_neg e2, if_neg (show ¬ r < i + 1 by omega)]
      · show (sI v' (109 + i) _ _).1 q = _
        rw [sI_n (by omega)]; exact g2 q hq
    have hvv := (his_ok hP hA (d + 1) (by omega)).1.1.1 i (by omega)
    refine wp_if (fun c1 => ?_) (fun c1 => ?_)
    · refine key 8 (by omega) (fun j hj => ?_)
      rw [c1]
      unfold yC
      constructor
      · intro q
        by_cases e : j = 8
        · exact e
        · rw [if_neg e] at q; exact absurd q (n_m1' (by omega))
      · intro q; rw [if_pos q]
    · rcases hvv with q | ⟨k, hk, ek⟩
      · exact absurd q c1
      · rw [ek]
        refine key k (by omega) (fun j hj => ?_)
        rw [ek]
        unfold yC
        by_cases e : j = 8
        · rw [if_pos e]
          constructor
          · intro q; exact absurd q (n_m1 (by omega))
          · intro q; omega
        · rw [if_neg e, n_eq (by omega) (by omega)]
          exact ⟨fun q => q.symm, fun q => q.symm⟩
  · rintro v' ⟨g1, g2, g3⟩
    show wp (f_X7_countAlike_B2 (nI d) (nI n) v') _
    unfold f_X7_countAlike_B2
    rw [g2 6 (by omega), h60]
    refine wp_t (by rw [n_le (by omega) (by omega)]; exact Nat.le_refl _) (wp_some ⟨fun r hr j hj => ?_, g2, g3⟩)
    rw [g1 r hr j hj, if_pos hr]
theorem greatest_ok {v : gV} {q : Nat} {f : Nat → Nat} (h : ∀ j, j < 9 → v.1 q j = nI (f j) ∧ f j < 1000) : f_X7_greatestOf 9 q v = some (nI (mx f 9), v) := by
  apply wp_is
  unfold f_X7_greatestOf
  have hm : ∀ i, i ≤ 9 → mx f i < 1000 := fun i hi => Nat.lt_of_le_of_lt (mx_le (b := 999) (fun k hk => by have := (h k (by omega)).2; omega)) (by omega)
  refine wp_bd (wp_bx2 (wp_ct (Z := fun z => z.1 = v ∧ z.2 = nI (mx f 9)) (fun i z => z.2.2 = nI i ∧ z.1 = v ∧ z.2.1 = nI (mx f i)) 9 0 _ (by omega) (Nat.zero_le _) ⟨rfl, rfl, rfl⟩ ?_ ?_) ?_)
  · rintro i ⟨v1, x, z⟩ hi ⟨e, e1, e2⟩
    have e : z = nI i := e
    have e1 : v1 = v := e1
    have e2 : x = nI (mx f i) := e2
    subst e
    subst e1
    subst e2
    have hmi := hm i (by omega)
    obtain ⟨h1, h2⟩ := h i hi
    show wp (f_X7_greatestOf_B10 9 (nI (mx f i)) q (nI 9) (nI i) v1) _
    unfold f_X7_greatestOf_B10
    refine wp_f (by rw [n_le (by omega) (by omega)]; omega) (wp_t (gin_N hi (by omega)) (wp_bd ?_))
    rw [n_cl (by omega), h1]
    unfold f_J9_max_7cf53
    refine wp_bi (Q0 := fun o => o = (nI (mx f (i + 1)), v1)) (wp_if (fun c => wp_some ?_) (fun c => wp_some ?_)) ?_
    · rw [n_lt (by omega) (by omega)] at c
      rw [mx, show max (mx f i) (f i) = f i by omega]
    · rw [n_lt (by omega) (by omega)] at c
      rw [mx, show max (mx f i) (f i) = mx f i by omega]
    · rintro r v2 ⟨rfl, rfl⟩
      exact wp_some ⟨nI_1 i, rfl, rfl⟩
  · rintro ⟨v1, x, z⟩ ⟨e, e1, e2⟩
    have e : z = nI 9 := e
    subst e
    show wp (f_X7_greatestOf_B10 9 x q (nI 9) (nI 9) v1) _
    unfold f_X7_greatestOf_B10
    exact wp_t (by rw [n_le (by omega) (by omega)]; exact Nat.le_refl _) (wp_some ⟨e1, e2⟩)
  · rintro v1 x ⟨e1, e2⟩
    have e1 : v1 = v := e1
    have e2 : x = nI (mx f 9) := e2
    subst e1
    subst e2
    exact wp_some rfl
theorem ask_X {v : gV} {a : Ab} {c : Nat} {d : Int32} (h : InvX v a c) (hc : c < 999980) : OKX (f_X7_ask d v) (sp_ask d a) c := by
  have hO := h.1
  have hP := aP_ok hO
  have hn := nRi_le hO.1
  unfold OKX f_X7_ask
  refine wp_out 10 (by omega) (fun g1 => ?_) (fun g1 => ?_)
  · have hs : sp_ask d a = (askv a (d.toNatClampNeg), a) := by unfold sp_ask; rw [if_pos g1]
    rw [hs]
    obtain ⟨k, hk, -, rfl, ek⟩ := gin_cl g1
    rw [ek]
    refine wp_bv clearAlike_ok ?_
    rintro v1 ⟨c1, c2, c3⟩
    have hI1 : InvX v1 a c := h.fa (fun q hq => c2 q (by omega)) c3
    have cb : ∀ r y i, i ≤ 10 → smN (cntf a k r y) i ≤ 10 := fun r y i hi => by
      have := sm_max (f := cntf a k r y) (c := 1) (n := i) (fun e _ => by unfold cntf; split <;> omega)
      omega
    refine wp_bx1 (wp_cnt (Z := fun v' => InvX v' a c ∧ ∀ r, r < nRi (aT0 a) → ∀ j, j < 9 → v'.1 (109 + r) j = nI (cntv a k r (yC j))) (fun i v' => InvX v' a c ∧ ∀ r, r < nRi (aT0 a) → ∀ j, j < 9 → v'.1 (109 + r) j = nI (smN (cntf a k r (yC j)) i)) 10 0 v1 (by omega) (Nat.zero_le _) ⟨hI1, fun r hr j hj => c1 r (by omega) j hj⟩ ?_ ?_) ?_
    · rintro i v2 hi ⟨hI, hb⟩
      show wp (f_X7_ask_B18 (nI k) (nI i) v2) _
      unfold f_X7_ask_B18
      refine wp_f (by rw [l_9, n_lt (by omega) (by omega)]; omega) (wp_bv (rideEven_ok hI (by omega)) ?_)
      rintro v3 ⟨hD, hF⟩
      have hI3 := hI.z hF
      have hPe := setE_ok hP (e := i) (by omega)
      have hb3 : ∀ r, r < nRi (aT0 a) → ∀ j, j < 9 → v3.1 (109 + r) j = nI (smN (cntf a k r (yC j)) i) := fun r hr j hj => by rw [hF.1 _ (by omega)]; exact hb r hr j hj
      refine wp_bi (wp_of (comeX hI3 hPe rfl hD)) ?_
      rintro r5 v5 ⟨rfl, rfl⟩
      have hm : cmo (setE (aP a) (nI i)) (aX a) (aS a) = wasp a i := rfl
      rw [hm]
      refine wp_if (fun c4 => ?_) (fun c4 => ?_)
      · rw [b2_0] at c4
        refine wp_eq rfl ⟨nI_1 i, hI3, fun r hr j hj => ?_⟩
        have e0 : cntf a k r (yC j) i = 0 := by unfold cntf; rw [if_neg (by rw [c4]; simp)]
        rw [smN, e0, Nat.add_zero]
        exact hb3 r hr j hj
      · have c4 := ne_f (by rw [b2_0] at c4; exact c4)
        refine wp_bv (countAlike_ok (n := nRi (aT0 a)) hPe rfl hI3.2.2.2.1.1.2.1 (aX_ok hO) hk hD (fun r hr j hj => ⟨_, by have := cb r (yC j) i (by omega); omega, hb3 r hr j hj⟩)) ?_
        rintro v6 ⟨q1, q2, q3⟩
        refine wp_eq rfl ⟨nI_1 i, hI3.fa (fun q hq => q2 q (by omega)) q3, fun r hr j hj => ?_⟩
        show v6.1 (109 + r) j = _
        rw [q1 r hr j hj, hb3 r hr j hj, smN]
        by_cases e : (his (setE (aP a) (nI i)) (aX a) (k + 1)).1.1 r = yC j
        · have e0 : cntf a k r (yC j) i = 1 := by unfold cntf; rw [if_pos (by rw [c4, decide_eq_true e]; rfl)]
          rw [e0, if_pos e]; exact nI_1 _
        · have e0 : cntf a k r (yC j) i = 0 := by unfold cntf; rw [if_neg (by rw [c4, decide_eq_false e]; exact Bool.false_ne_true)]
          rw [e0, if_neg e, Int32.add_zero, Nat.add_zero]
    · rintro v2 ⟨hI, hb⟩
      show wp (f_X7_ask_B18 (nI k) (nI 10) v2) _
      unfold f_X7_ask_B18
      exact wp_t (by rw [l_9, n_lt (by omega) (by omega)]; omega) (wp_some ⟨hI, hb⟩)
    · rintro v2 ⟨hI, hb⟩
      refine wp_bx2 (wp_ct (Z := fun z => z.1 = v2 ∧ z.2 = (bl (grC a k) (nRi (aT0 a))).1) (fun i z => z.2.2.2 = nI i ∧ z.1 = v2 ∧ (z.2.1, z.2.2.1) = bl (grC a k) i) (nRi (aT0 a)) 0 _ (by omega) (Nat.zero_le _) ⟨rfl, rfl, rfl⟩ ?_ ?_) ?_
      · rintro i ⟨v3, x, y, z⟩ hi ⟨e, e1, e2⟩
        have e : z = nI i := e
        have e1 : v3 = v2 := e1
        have e2 : (x, y) = bl (grC a k) i := e2
        subst e
        subst e1
        have hx : (bl (grC a k) i).1 = x := by rw [← e2]
        have hy : (bl (grC a k) i).2 = y := by rw [← e2]
        show wp (f_X7_ask_B68 x y (nI i) v3) _
        unfold f_X7_ask_B68
        rw [show v3.1 6 0 = nI (nRi (aT0 a)) from hI.2.2.2.1.1.2.1]
        have hgr : f_X7_greatestOf 9 (109 + i) v3 = some (nI (grC a k i), v3) := greatest_ok (f := fun j => cntv a k i (yC j)) (fun j hj => ⟨hb i hi j hj, by have := cb i (yC j) 10 (by omega); unfold cntv; omega⟩)
        have hbl : bl (grC a k) (i + 1) = if (bl (grC a k) i).1 = -1 ∨ nI (grC a k i) < (bl (grC a k) i).2 then (nI i, nI (grC a k i)) else bl (grC a k) i := rfl
        rw [hx, hy] at hbl
        rw [hbl]
        generalize grC a k i = G at hgr
        refine wp_f (by rw [n_le (by omega) (by omega)]; omega) (wp_gaA (by omega) (wp_bi (wp_of hgr) ?_))
        rintro r5 v5 ⟨rfl, rfl⟩
        refine wp_if (fun c4 => ?_) (fun c4 => wp_if (fun c5 => ?_) (fun c5 => ?_))
        · rw [if_pos (show x = -1 ∨ nI G < y from Or.inl c4)]
          exact wp_eq rfl ⟨nI_1 i, rfl, rfl⟩
        · rw [if_neg (show ¬ (x = -1 ∨ nI G < y) by rintro (q | q); exact c4 q; rw [i_le] at c5; rw [i_lt] at q; omega)]
          exact wp_eq rfl ⟨nI_1 i, rfl, e2⟩
        · rw [if_pos (show x = -1 ∨ nI G < y from Or.inr (by rw [i_le] at c5; rw [i_lt]; omega))]
          exact wp_eq rfl ⟨nI_1 i, rfl, rfl⟩
      · rintro ⟨v3, x, y, z⟩ ⟨e, e1, e2⟩
        have e : z = nI (nRi (aT0 a)) := e
        have e1 : v3 = v2 := e1
        have e2 : (x, y) = bl (grC a k) (nRi (aT0 a)) := e2
        subst e
        subst e1
        show wp (f_X7_ask_B68 x y (nI (nRi (aT0 a))) v3) _
        unfold f_X7_ask_B68
        rw [show v3.1 6 0 = nI (nRi (aT0 a)) from hI.2.2.2.1.1.2.1]
        exact wp_t (by rw [n_le (by omega) (by omega)]; exact Nat.le_refl _) (wp_some ⟨rfl, by rw [← e2]⟩)
      · rintro v3 x ⟨e1, e2⟩
        have e1 : v3 = v2 := e1
        have e2 : x = askv a k := e2
        subst e1
        subst e2
        exact wp_some (OKX.same hI (by omega))
  · have hs : sp_ask d a = (-2, a) := by unfold sp_ask; rw [if_neg g1]
    rw [hs]
    exact wp_some (OKX.same h (by omega))
