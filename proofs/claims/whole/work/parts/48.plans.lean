/-! THE CALLS: plans and what was seen -/
def setE (P : Pm) (e : Int32) : Pm := (P.1, P.2.1, P.2.2.1, P.2.2.2.1, P.2.2.2.2.1, e, P.2.2.2.2.2.2)
theorem setE_ok {P : Pm} {e : Nat} (h : okP P) (he : e ≤ 9) : okP (setE P (nI e)) := ⟨h.1, h.2.1, h.2.2.1, by show 0 ≤ (nI e).toInt; rw [n_ti (by omega)]; omega, by show (nI e).toInt ≤ 9; rw [n_ti (by omega)]; omega⟩
theorem setE_TD {v : gV} {P : Pm} {e : Nat} (h : TD v P) (he : e ≤ 9) : TD v (setE P (nI e)) := ⟨setE_ok h.1 he, h.2⟩
def FZ (v v' : gV) : Prop := (∀ q, (q < 54 ∨ 92 ≤ q) → v'.1 q = v.1 q) ∧ v'.2 = v.2
theorem FZ.rf {v : gV} : FZ v v := ⟨fun _ _ => rfl, rfl⟩
theorem FZ.tr {v v' v'' : gV} (h : FZ v v') (h' : FZ v' v'') : FZ v v'' := ⟨fun q hq => (h'.1 q hq).trans (h.1 q hq), h'.2.trans h.2⟩
theorem InvX.z {v v' : gV} {a : Ab} {c : Nat} (h : InvX v a c) (hF : FZ v v') : InvX v' a c := h.g hF.1 hF.2
/-- the trial ride from a start of one's own -/
theorem trial_ok {v : gV} {P : Pm} {h : Nat → Int32} {l : List Int32} (hT : TD v P) (h1 : v.1 54 1 = pE P) (h2 : v.1 54 2 = pC P) (h3 : ∀ i, i < pN P → v.1 55 i = h i) (h4 : bgR v 56 l) (hA : okA P (ini h l)) : wp (f_X1_go 54 v) (fun v' => RD v' 54 P (ini h l) ∧ FZ v v') := by
  refine wp_mono (go_ok (b := 54) rfl hT h1 h2 h3 h4 hA) ?_
  rintro v' ⟨a1, a2⟩
  exact ⟨a1, fun q hq => a2.1 q (by omega), a2.2.2⟩
theorem trial_begin {v : gV} {a : Ab} {c : Nat} (h : InvX v a c) : wp (f_X1_begin 54 v) (fun v' => v'.1 54 1 = aE a ∧ v'.1 54 2 = aC a ∧ (∀ i, i < nRi (aT0 a) → v'.1 55 i = rSt (aT0 a) i) ∧ bgR v' 56 (bag0 (aT1 a)) ∧ FZ v v') := by
  have hQ := h.2.2.2.1
  have hn := nRi_le h.1.1
  refine wp_mono (begin_ok (b := 54) rfl hQ.2.2.2.2.1) ?_
  rintro v' ⟨b1, b2, b3, b4, b5, b6⟩
  exact ⟨b1.trans hQ.2.1, b2.trans hQ.2.2.1, fun i hi => (b3 i (by omega)).trans (hQ.2.2.2.1 i hi), b4, fun q hq => b5 q (by omega), b6⟩
theorem rideEven_ok {v : gV} {a : Ab} {c e : Nat} (h : InvX v a c) (he : e ≤ 9) : wp (f_X7_rideWithEven (nI e) v) (fun v' => RD v' 54 (setE (aP a) (nI e)) (aX a) ∧ FZ v v') := by
  unfold f_X7_rideWithEven
  refine wp_bv (trial_begin h) ?_
  rintro v1 ⟨b1, b2, b3, b4, b5⟩
  have hT := (h.z b5).2.2.2.1.1
  refine wp_bd (wp_bv (trial_ok (P := setE (aP a) (nI e)) (h := rSt (aT0 a)) (l := bag0 (aT1 a)) (setE_TD (hT.kept (fun q hq => sI_n (by omega))) he) sI_s (by rw [sI_o (by omega)]; exact b2) (fun i hi => by rw [sI_n (by omega)]; exact b3 i hi) (b4.kept (by rw [sI_n (by omega)]) (fun k _ => by rw [sI_n (by omega)])) (aX_ok h.1)) ?_)
  rintro v4 ⟨g1, g2⟩
  exact wp_some ⟨g1, b5.tr (FZ.tr ⟨fun q hq => sI_n (by omega), rfl⟩ g2)⟩
/-- the best of 0 .. k: which, how much; of like ones the first -/
def bst (f : Nat → Nat) : Nat → Nat × Nat
  | 0 => (0, f 0)
  | k + 1 => if (bst f k).2 < f (k + 1) then (k + 1, f (k + 1)) else bst f k
theorem bst_le (f : Nat → Nat) (hf : ∀ k, f k ≤ 10) : ∀ k, (bst f k).1 ≤ k ∧ (bst f k).2 ≤ 10
  | 0 => ⟨Nat.le_refl _, hf 0⟩
  | k + 1 => by
    have := bst_le f hf k
    rw [bst]
    split
    · exact ⟨Nat.le_refl _, hf _⟩
    · exact ⟨by omega, this.2⟩
/-- what the class holds with i of them looked at -/
def bsI (f : Nat → Nat) (i : Nat) : Int32 × Int32 := if i = 0 then (0, -1) else (nI (bst f (i - 1)).1, nI (bst f (i - 1)).2)
theorem bsI_p {f : Nat → Nat} (i : Nat) : bsI f (i + 1) = (nI (bst f i).1, nI (bst f i).2) := if_neg (by omega)
theorem bsI_s {f : Nat → Nat} (hf : ∀ k, f k ≤ 10) (i : Nat) (hi : i < 1000) : bsI f (i + 1) = if nI (f i) ≤ (bsI f i).2 then bsI f i else (nI i, nI (f i)) := by
  have hfi := hf i
  rw [bsI_p]
  cases i with
  | zero =>
    have e0 : bsI f 0 = (0, -1) := rfl
    rw [e0]
    have : ¬ nI (f 0) ≤ (-1 : Int32) := by
      rw [i_le, n_ti (by omega)]
      have e1 : (-1 : Int32).toInt = -1 := by decide
      omega
    rw [if_neg this]
    rfl
  | succ i =>
    have h1 := bst_le f hf i
    rw [bsI_p, bst]
    by_cases q : (bst f i).2 < f (i + 1)
    · rw [if_pos q, if_neg (by rw [n_le (by omega) (by omega)]; omega)]
    · rw [if_neg q, if_pos (by rw [n_le (by omega) (by omega)]; omega)]
def evn (a : Ab) (e : Nat) : Nat := pcN (srvN (aP a) (his (setE (aP a) (nI e)) (aX a) 10).1.1)
def tpn (a : Ab) (k : Nat) : Nat := pcN (srvN (aP a) (his (aP a) (ini (rSt (aT0 a)) (nI k :: bag0 (aT1 a))) 10).1.1)
def leastv (a : Ab) (w : Int32) : Int32 := if w = 0 then nI (bst (evn a) 9).1 else nI (bst (evn a) 9).2
def topv (a : Ab) (w : Int32) : Int32 := if w = 0 then nI (bst (tpn a) 7).1 else nI (bst (tpn a) 7).2
def sp_least (w : Int32) (a : Ab) : Int32 × Ab := if gin w 2 = true then (leastv a w, a) else (-2, a)
def sp_top (w : Int32) (a : Ab) : Int32 × Ab := if gin w 2 = true then (topv a w, a) else (-2, a)
theorem least_X {v : gV} {a : Ab} {c : Nat} {w : Int32} (h : InvX v a c) (hc : c < 999980) : OKX (f_X7_least w v) (sp_least w a) c := by
  have hf : ∀ k, evn a k ≤ 10 := fun k => pcN_le _
  have hP := aP_ok h.1
  unfold OKX f_X7_least
  refine wp_out 2 (by omega) (fun g1 => ?_) (fun g1 => ?_)
  · have hs : sp_least w a = (leastv a w, a) := by unfold sp_least; rw [if_pos g1]
    rw [hs]
    refine wp_bx3 (wp_ct (Z := fun z => InvX z.1 a c ∧ z.2 = bsI (evn a) 10) (fun i z => z.2.2.2 = nI i ∧ InvX z.1 a c ∧ (z.2.1, z.2.2.1) = bsI (evn a) i) 10 0 _ (by omega) (Nat.zero_le _) ⟨rfl, h, rfl⟩ ?_ ?_) ?_
    · rintro i ⟨v1, x, y, z⟩ hi ⟨e, hI, hb⟩
      have e : z = nI i := e
      subst e
      have hI : InvX v1 a c := hI
      have hb : (x, y) = bsI (evn a) i := hb
      show wp (f_X7_least_B18 w x y (nI i) v1) _
      unfold f_X7_least_B18
      refine wp_f (by rw [l_9, n_lt (by omega) (by omega)]; omega) (wp_bv (rideEven_ok hI (by omega)) ?_)
      rintro v2 ⟨hD, hF⟩
      refine wp_bi (wp_of (servedAtLast_ok (setE_ok hP (by omega)) hD)) ?_
      rintro r5 v3 ⟨rfl, rfl⟩
      have hbs := bsI_s hf i (by omega)
      have hy : (bsI (evn a) i).2 = y := by rw [← hb]
      rw [hy] at hbs
      refine wp_if (fun c1 => ?_) (fun c1 => ?_)
      · have c1 : nI (evn a i) ≤ y := c1
        rw [if_pos c1] at hbs
        exact wp_eq rfl ⟨nI_1 i, hI.z hF, by rw [hbs]; exact hb⟩
      · have c1 : ¬ nI (evn a i) ≤ y := c1
        rw [if_neg c1] at hbs
        exact wp_eq rfl ⟨nI_1 i, hI.z hF, by rw [hbs]; rfl⟩
    · rintro ⟨v1, x, y, z⟩ ⟨e, hI, hb⟩
      have e : z = nI 10 := e
      subst e
      show wp (f_X7_least_B18 w x y (nI 10) v1) _
      unfold f_X7_least_B18
      exact wp_t (by rw [l_9, n_lt (by omega) (by omega)]; omega) (wp_some ⟨hI, hb⟩)
    · rintro v1 x y ⟨hI, hb⟩
      have hI : InvX v1 a c := hI
      have hb : (x, y) = (nI (bst (evn a) 9).1, nI (bst (evn a) 9).2) := hb
      cases hb
      unfold leastv
      refine wp_if (fun c1 => ?_) (fun c1 => ?_)
      · rw [if_pos c1]; exact wp_some (OKX.same hI (by omega))
      · rw [if_neg c1]; exact wp_some (OKX.same hI (by omega))
  · have hs : sp_least w a = (-2, a) := by unfold sp_least; rw [if_neg g1]
    rw [hs]
    exact wp_some (OKX.same h (by omega))
theorem ini_okL {a : Ab} (h : okAb a) {H : Nat → Int32} {l : List Int32} (hH : ∀ r, r < nRi (aT0 a) → hv (H r)) (hl : l.length ≤ 17) : okA (aP a) (ini H l) := ini_ok (aP_ok h) hH hl
theorem st_hv {a : Ab} (h : okAb a) : ∀ r, r < nRi (aT0 a) → hv (rSt (aT0 a) r) := fun r hr => Or.inr (rid_ok h.1 hr).2.1
theorem top_X {v : gV} {a : Ab} {c : Nat} {w : Int32} (h : InvX v a c) (hc : c < 999980) : OKX (f_X7_top w v) (sp_top w a) c := by
  have hf : ∀ k, tpn a k ≤ 10 := fun k => pcN_le _
  have hO := h.1
  have hP := aP_ok hO
  have hbl := bag0_len (l := aT1 a)
  have hbl2 := hO.2.1
  unfold OKX f_X7_top
  refine wp_out 2 (by omega) (fun g1 => ?_) (fun g1 => ?_)
  · have hs : sp_top w a = (topv a w, a) := by unfold sp_top; rw [if_pos g1]
    rw [hs]
    refine wp_bx3 (wp_ct (Z := fun z => InvX z.1 a c ∧ z.2 = bsI (tpn a) 8) (fun i z => z.2.2.2 = nI i ∧ InvX z.1 a c ∧ (z.2.1, z.2.2.1) = bsI (tpn a) i) 8 0 _ (by omega) (Nat.zero_le _) ⟨rfl, h, rfl⟩ ?_ ?_) ?_
    · rintro i ⟨v1, x, y, z⟩ hi ⟨e, hI, hb⟩
      have e : z = nI i := e
      subst e
      have hI : InvX v1 a c := hI
      have hb : (x, y) = bsI (tpn a) i := hb
      show wp (f_X7_top_B18 w x y (nI i) v1) _
      unfold f_X7_top_B18
      refine wp_f (by rw [l_8, n_le (by omega) (by omega)]; omega) (wp_bv (trial_begin hI) ?_)
      rintro v2 ⟨b1, b2, b3, b4, b5⟩
      refine wp_bv (putOnTop_ok (b := 54 + 2) (nI i) b4 (by omega)) ?_
      rintro v3 ⟨p1, p2⟩
      have hT := (hI.z b5).2.2.2.1.1
      refine wp_bv (trial_ok (P := aP a) (h := rSt (aT0 a)) (l := nI i :: bag0 (aT1 a)) (hT.kept (fun q hq => p2.1 q (by omega) (by omega))) (by rw [p2.1 _ (by omega) (by omega)]; exact b1) (by rw [p2.1 _ (by omega) (by omega)]; exact b2) (fun j hj => by rw [p2.1 _ (by omega) (by omega)]; exact b3 j hj) p1 (ini_okL hO (st_hv hO) (by simp; omega))) ?_
      rintro v4 ⟨hD, hF⟩
      have hF4 : FZ v1 v4 := b5.tr (FZ.tr ⟨fun q hq => p2.1 q (by omega) (by omega), p2.2⟩ hF)
      refine wp_bi (wp_of (servedAtLast_ok hP hD)) ?_
      rintro r5 v5 ⟨rfl, rfl⟩
      have hbs := bsI_s hf i (by omega)
      have hy : (bsI (tpn a) i).2 = y := by rw [← hb]
      rw [hy] at hbs
      refine wp_if (fun c1 => ?_) (fun c1 => ?_)
      · have c1 : nI (tpn a i) ≤ y := c1
        rw [if_pos c1] at hbs
        exact wp_eq rfl ⟨nI_1 i, hI.z hF4, by rw [hbs]; exact hb⟩
      · have c1 : ¬ nI (tpn a i) ≤ y := c1
        rw [if_neg c1] at hbs
        exact wp_eq rfl ⟨nI_1 i, hI.z hF4, by rw [hbs]; rfl⟩
    · rintro ⟨v1, x, y, z⟩ ⟨e, hI, hb⟩
      have e : z = nI 8 := e
      subst e
      show wp (f_X7_top_B18 w x y (nI 8) v1) _
      unfold f_X7_top_B18
      exact wp_t (by rw [l_8, n_le (by omega) (by omega)]; exact Nat.le_refl _) (wp_some ⟨hI, hb⟩)
    · rintro v1 x y ⟨hI, hb⟩
      have hI : InvX v1 a c := hI
      have hb : (x, y) = (nI (bst (tpn a) 7).1, nI (bst (tpn a) 7).2) := hb
      cases hb
      unfold topv
      refine wp_if (fun c1 => ?_) (fun c1 => ?_)
      · rw [if_pos c1]; exact wp_some (OKX.same hI (by omega))
      · rw [if_neg c1]; exact wp_some (OKX.same hI (by omega))
  · have hs : sp_top w a = (-2, a) := by unfold sp_top; rw [if_neg g1]
    rw [hs]
    exact wp_some (OKX.same h (by omega))
/-! what was seen comes out so -/
def cm1 (P : Pm) (x : Sc) (z : Nat × Nat × Nat) : Bool := decide (z.2.1 < pN P) && decide ((his P x (z.1 + 1)).1.1 z.2.1 = if z.2.2 = 8 then -1 else nI z.2.2)
def cmo (P : Pm) (x : Sc) (l : List (Nat × Nat × Nat)) : Bool := l.all (cm1 P x)
theorem all_get {l : List (Nat × Nat × Nat)} {p : Nat × Nat × Nat → Bool} : l.all p = true ↔ ∀ i, i < l.length → p (l.getD i (0, 0, 0)) = true := by
  rw [List.all_eq_true]
  constructor
  · intro h i hi
    rw [List.getD_eq_getElem?_getD, List.getElem?_eq_getElem hi]
    exact h _ (List.getElem_mem hi)
  · intro h z hz
    obtain ⟨i, hi, rfl⟩ := List.getElem_of_mem hz
    have := h i hi
    rw [List.getD_eq_getElem?_getD, List.getElem?_eq_getElem hi] at this
    exact this
theorem mem_get {l : List (Nat × Nat × Nat)} {i : Nat} (hi : i < l.length) : l.getD i (0, 0, 0) ∈ l := by
  rw [List.getD_eq_getElem?_getD, List.getElem?_eq_getElem hi]
  exact List.getElem_mem hi
theorem comeOut_ok {v : gV} {P : Pm} {x : Sc} {l : List (Nat × Nat × Nat)} (hP : okP P) (hD : RD v 54 P x) (hN : SNi v l) (hl : l.length ≤ 8) (hz : ∀ z ∈ l, z.1 < 10 ∧ z.2.1 < 8 ∧ z.2.2 < 9) : f_X3_comeOutIn 54 (nI (pN P)) v = some (b2 (cmo P x l), v) := by
  apply wp_is
  have hn := hP.1
  unfold f_X3_comeOutIn
  refine wp_bs1 (wp_cnt (Z := fun o : gV ⊕ (Int32 × gV) => match o with | .inl v' => v' = v ∧ cmo P x l = true | .inr r => r.2 = v ∧ cmo P x l = false ∧ r.1 = 0) (fun i v' => v' = v ∧ ∀ j, j < i → cm1 P x (l.getD j (0, 0, 0)) = true) l.length 0 v (by omega) (Nat.zero_le _) ⟨rfl, fun j hj => absurd hj (Nat.not_lt_zero j)⟩ ?_ ?_) ?_ ?_
  · rintro i v' hi ⟨rfl, hx⟩
    show wp (f_X3_comeOutIn_B2 54 (nI (pN P)) (nI i) v') _
    unfold f_X3_comeOutIn_B2
    obtain ⟨n1, n2, n3⟩ := hN.2 i hi
    obtain ⟨z1, z2, z3⟩ := hz _ (mem_get hi)
    have bad : cm1 P x (l.getD i (0, 0, 0)) = false → cmo P x l = false := fun hb => by
      cases hq : cmo P x l with
      | false => rfl
      | true => rw [(all_get.mp hq) i hi] at hb; cases hb
    have good : cm1 P x (l.getD i (0, 0, 0)) = true → cm1 P x (l.getD i (0, 0, 0)) = true := id
    generalize hzz : l.getD i (0, 0, 0) = z at n1 n2 n3 z1 z2 z3 bad good
    have good : cm1 P x z = true → cm1 P x (l.getD i (0, 0, 0)) = true := fun q => by rw [hzz]; exact q
    obtain ⟨d, r, y⟩ := z
    have n1 : v'.1 96 i = nI d := n1
    have n2 : v'.1 97 i = nI r := n2
    have n3 : v'.1 98 i = nI y := n3
    have z1 : d < 10 := z1
    have z2 : r < 8 := z2
    have z3 : y < 9 := z3
    rw [hN.1]
    refine wp_f (by rw [n_le (by omega) (by omega)]; omega) (wp_t (gin_N (by omega) (by omega)) ?_)
    rw [n_cl (by omega), n3]
    have key : ∀ s0 : Int32, s0 = (if y = 8 then -1 else nI y) → wp (f_X3_comeOutIn_J31 54 (nI (pN P)) (nI i) s0 v') (SE (fun a' : gV × Int32 => a'.2 = nI (i + 1) ∧ a'.1 = v' ∧ ∀ j, j < i + 1 → cm1 P x (l.getD j (0, 0, 0)) = true) (fun o : gV ⊕ (Int32 × gV) => match o with | .inl v'' => v'' = v' ∧ cmo P x l = true | .inr r => r.2 = v' ∧ cmo P x l = false ∧ r.1 = 0)) := fun s0 hs0 => by
      unfold f_X3_comeOutIn_J31
      refine wp_t (gin_N (by omega) (by omega)) ?_
      rw [n_cl (by omega), n2, n1]
      refine wp_if (fun c1 => ?_) (fun c1 => ?_)
      · rw [n_le (by omega) (by omega)] at c1
        refine wp_t (by decide) (wp_some ⟨rfl, bad ?_, rfl⟩)
        unfold cm1
        rw [decide_eq_false (by show ¬ r < pN P; omega)]
        rfl
      · rw [n_le (by omega) (by omega)] at c1
        refine wp_t (gin_N (by omega) (by omega)) (wp_t (gin_N (by omega) (by omega)) (wp_bi (wp_of (hasOn_ok rfl hP hD z1 (by omega))) ?_))
        rintro r3 v1 ⟨rfl, rfl⟩
        refine wp_if (fun c2 => ?_) (fun c2 => ?_)
        · refine wp_some ⟨nI_1 i, rfl, fun j hj => ?_⟩
          rcases Nat.lt_or_ge j i with q | q
          · exact hx j q
          · rw [show j = i by omega]
            refine good ?_
            unfold cm1
            rw [Bool.and_eq_true]
            exact ⟨decide_eq_true (by show r < pN P; omega), decide_eq_true (by show _ = if y = 8 then -1 else nI y; rw [← hs0]; exact c2)⟩
        · refine wp_t (by decide) (wp_some ⟨rfl, bad ?_, rfl⟩)
          unfold cm1
          rw [Bool.and_eq_false_iff]
          exact Or.inr (decide_eq_false (by show ¬ _ = if y = 8 then -1 else nI y; rw [← hs0]; exact c2))
    refine wp_if (fun c1 => ?_) (fun c1 => ?_)
    · rw [l_8, n_eq (by omega) (by omega)] at c1
      exact key _ (by rw [if_pos c1])
    · rw [l_8, n_eq (by omega) (by omega)] at c1
      exact wp_t (gin_N (by omega) (by omega)) (key _ (by rw [if_neg c1]))
  · rintro v' ⟨rfl, hx⟩
    show wp (f_X3_comeOutIn_B2 54 (nI (pN P)) (nI l.length) v') _
    unfold f_X3_comeOutIn_B2
    rw [hN.1]
    exact wp_t (by rw [n_le (by omega) (by omega)]; exact Nat.le_refl _) (wp_some ⟨rfl, all_get.mpr hx⟩)
  · rintro v' ⟨rfl, e⟩
    exact b1 (Or.inr rfl) (by rw [e]; rfl)
  · rintro ⟨r, v'⟩ ⟨e1, e2, e3⟩
    have e1 : v' = v := e1
    have e3 : r = 0 := e3
    subst e1
    subst e3
    exact wp_some (by rw [e2]; rfl)
