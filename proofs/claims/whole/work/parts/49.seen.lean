/-! THE CALLS: had, was, ask, depot -/
def hadp (a : Ab) (r k : Nat) : Bool := cmo (aP a) (ini (upd (rSt (aT0 a)) r (nI k)) (bag0 (aT1 a))) (aS a)
def hadv (a : Ab) (r : Nat) : Int32 := bo (hadp a r) 8
def wasp (a : Ab) (e : Nat) : Bool := cmo (setE (aP a) (nI e)) (aX a) (aS a)
def wasv (a : Ab) : Int32 := bo (wasp a) 10
def sp_had (r : Int32) (a : Ab) : Int32 × Ab := if gin r (nRi (aT0 a)) = true then (hadv a (r.toNatClampNeg), a) else (-2, a)
def sp_was (a : Ab) : Int32 × Ab := (wasv a, a)
theorem comeX {v : gV} {a : Ab} {c : Nat} {P : Pm} {x : Sc} (h : InvX v a c) (hP : okP P) (hn : pN P = nRi (aT0 a)) (hD : RD v 54 P x) : f_X3_comeOutIn 54 (v.1 6 0) v = some (b2 (cmo P x (aS a)), v) := by
  rw [show v.1 6 0 = nI (nRi (aT0 a)) from h.2.2.2.1.1.2.1, ← hn]
  exact comeOut_ok hP hD h.2.2.2.2.2.2.1 h.1.2.2.2.2.2.2.1 h.1.2.2.2.2.2.2.2.1
theorem bo_t {p : Nat → Bool} {i : Nat} (h : p i = true) : bo p (i + 1) = bo p i ||| ((1 : Int32) <<< (nI i &&& 31)) := by rw [bo, if_pos h]
theorem bo_f {p : Nat → Bool} {i : Nat} (h : p i = false) : bo p (i + 1) = bo p i := by rw [bo, if_neg (by rw [h]; exact Bool.false_ne_true)]
theorem ne_f {b : Bool} (h : ¬ b = false) : b = true := by cases b with | true => rfl | false => exact absurd rfl h
theorem had_X {v : gV} {a : Ab} {c : Nat} {r : Int32} (h : InvX v a c) (hc : c < 999980) : OKX (f_X7_had r v) (sp_had r a) c := by
  have hO := h.1
  have hP := aP_ok hO
  have hn := nRi_le hO.1
  unfold OKX f_X7_had
  rw [show v.1 6 0 = nI (nRi (aT0 a)) from h.2.2.2.1.1.2.1]
  refine wp_out (nRi (aT0 a)) (by omega) (fun g1 => ?_) (fun g1 => ?_)
  · have hs : sp_had r a = (hadv a (r.toNatClampNeg), a) := by unfold sp_had; rw [if_pos g1]
    rw [hs]
    obtain ⟨j, hj, -, rfl, ej⟩ := gin_cl g1
    rw [ej]
    refine wp_bx2 (wp_ct (Z := fun z => InvX z.1 a c ∧ z.2 = bo (hadp a j) 8) (fun i z => z.2.2 = nI i ∧ InvX z.1 a c ∧ z.2.1 = bo (hadp a j) i) 8 0 _ (by omega) (Nat.zero_le _) ⟨rfl, h, rfl⟩ ?_ ?_) ?_
    · rintro i ⟨v1, x, z⟩ hi ⟨e, hI, hb⟩
      have e : z = nI i := e
      subst e
      have hI : InvX v1 a c := hI
      have hb : x = bo (hadp a j) i := hb
      subst hb
      show wp (f_X7_had_B21 (nI j) _ (nI i) v1) _
      unfold f_X7_had_B21
      refine wp_f (by rw [l_8, n_le (by omega) (by omega)]; omega) (wp_bv (trial_begin hI) ?_)
      rintro v2 ⟨b1, b2, b3, b4, b5⟩
      refine wp_t (gin_N (by omega) (by omega)) (wp_bd ?_)
      rw [n_cl (by omega)]
      have hT := (hI.z b5).2.2.2.1.1
      refine wp_bv (trial_ok (v := sI v2 55 j (nI i)) (P := aP a) (h := upd (rSt (aT0 a)) j (nI i)) (l := bag0 (aT1 a)) (hT.kept (fun q hq => sI_n (by omega))) (by rw [sI_n (by omega)]; exact b1) (by rw [sI_n (by omega)]; exact b2) (fun k hk => ?_) (b4.kept (by rw [sI_n (by omega)]) (fun k _ => by rw [sI_n (by omega)])) (ini_okL hO (fun k hk => ?_) (by have := bag0_len (l := aT1 a); have := hO.2.1; omega))) ?_
      · by_cases e : k = j
        · subst e; rw [sI_s, up_s]
        · rw [sI_o e, up_n e]; exact b3 k hk
      · by_cases e : k = j
        · subst e; rw [up_s]; exact Or.inr ⟨i, hi, rfl⟩
        · rw [up_n e]; exact st_hv hO k hk
      · rintro v4 ⟨hD, hF⟩
        have hF4 : FZ v1 v4 := b5.tr (FZ.tr ⟨fun q hq => sI_n (by omega), rfl⟩ hF)
        have hI4 := hI.z hF4
        refine wp_bi (wp_of (comeX hI4 hP rfl hD)) ?_
        rintro r5 v5 ⟨rfl, rfl⟩
        have hm : cmo (aP a) (ini (upd (rSt (aT0 a)) j (nI i)) (bag0 (aT1 a))) (aS a) = hadp a j i := rfl
        rw [hm]
        refine wp_if (fun c1 => ?_) (fun c1 => wp_bd ?_)
        · rw [b2_0] at c1
          exact wp_eq rfl ⟨nI_1 i, hI4, (bo_f c1).symm⟩
        · rw [b2_0] at c1
          exact wp_eq rfl ⟨nI_1 i, hI4, (bo_t (ne_f c1)).symm⟩
    · rintro ⟨v1, x, z⟩ ⟨e, hI, hb⟩
      have e : z = nI 8 := e
      subst e
      show wp (f_X7_had_B21 (nI j) x (nI 8) v1) _
      unfold f_X7_had_B21
      exact wp_t (by rw [l_8, n_le (by omega) (by omega)]; exact Nat.le_refl _) (wp_some ⟨hI, hb⟩)
    · rintro v1 x ⟨hI, hb⟩
      have hb : x = bo (hadp a j) 8 := hb
      subst hb
      exact wp_some (OKX.same hI (by omega))
  · have hs : sp_had r a = (-2, a) := by unfold sp_had; rw [if_neg g1]
    rw [hs]
    exact wp_some (OKX.same h (by omega))
theorem was_X {v : gV} {a : Ab} {c : Nat} (h : InvX v a c) (hc : c < 999980) : OKX (f_X7_was v) (sp_was a) c := by
  have hP := aP_ok h.1
  unfold OKX f_X7_was sp_was
  refine wp_bx2 (wp_ct (Z := fun z => InvX z.1 a c ∧ z.2 = bo (wasp a) 10) (fun i z => z.2.2 = nI i ∧ InvX z.1 a c ∧ z.2.1 = bo (wasp a) i) 10 0 _ (by omega) (Nat.zero_le _) ⟨rfl, h, rfl⟩ ?_ ?_) ?_
  · rintro i ⟨v1, x, z⟩ hi ⟨e, hI, hb⟩
    have e : z = nI i := e
    subst e
    have hI : InvX v1 a c := hI
    have hb : x = bo (wasp a) i := hb
    subst hb
    show wp (f_X7_was_B4 _ (nI i) v1) _
    unfold f_X7_was_B4
    refine wp_f (by rw [l_9, n_lt (by omega) (by omega)]; omega) (wp_bv (rideEven_ok hI (by omega)) ?_)
    rintro v2 ⟨hD, hF⟩
    have hI4 := hI.z hF
    refine wp_bi (wp_of (comeX hI4 (setE_ok hP (by omega)) rfl hD)) ?_
    rintro r5 v5 ⟨rfl, rfl⟩
    have hm : cmo (setE (aP a) (nI i)) (aX a) (aS a) = wasp a i := rfl
    rw [hm]
    refine wp_if (fun c1 => ?_) (fun c1 => wp_bd ?_)
    · rw [b2_0] at c1
      exact wp_eq rfl ⟨nI_1 i, hI4, (bo_f c1).symm⟩
    · rw [b2_0] at c1
      exact wp_eq rfl ⟨nI_1 i, hI4, (bo_t (ne_f c1)).symm⟩
  · rintro ⟨v1, x, z⟩ ⟨e, hI, hb⟩
    have e : z = nI 10 := e
    subst e
    show wp (f_X7_was_B4 x (nI 10) v1) _
    unfold f_X7_was_B4
    exact wp_t (by rw [l_9, n_lt (by omega) (by omega)]; omega) (wp_some ⟨hI, hb⟩)
  · rintro v1 x ⟨hI, hb⟩
    have hb : x = bo (wasp a) 10 := hb
    subst hb
    exact wp_some (OKX.same hI (by omega))
/-! depots -/
def lo (s : Int32) : Nat → List Int32 × Int32
  | 0 => ([], s)
  | k + 1 => ((lo s k).1 ++ [jrem (jushr (1103515245 * (lo s k).2 + 12345) 16) 8], 1103515245 * (lo s k).2 + 12345)
theorem lo_len (s : Int32) : ∀ k, (lo s k).1.length = k
  | 0 => rfl
  | k + 1 => by rw [lo, gd_len, lo_len s k]
def depS (a : Ab) (s : Int32) (n : Nat) : Sc := his (aP a) (ini (rSt (aT0 a)) (lo s n).1) 10
def depv (a : Ab) (s : Int32) (n : Nat) (w : Int32) : Int32 := if w = 0 then nI (pcN (srvN (aP a) (depS a s n).1.1)) else nI (depS a s n).1.2.1.length
def sp_depot (s n w : Int32) (a : Ab) : Int32 × Ab := if gin n 17 = true ∧ gin w 2 = true then (depv a s (n.toNatClampNeg) w, a) else (-2, a)
theorem depot_X {v : gV} {a : Ab} {c : Nat} {s n w : Int32} (h : InvX v a c) (hc : c < 999980) : OKX (f_X7_depot s n w v) (sp_depot s n w a) c := by
  have hO := h.1
  have hP := aP_ok hO
  unfold OKX f_X7_depot
  refine wp_out 17 (by omega) (fun g1 => wp_out 2 (by omega) (fun g2 => ?_) (fun g2 => ?_)) (fun g1 => ?_)
  · have hs : sp_depot s n w a = (depv a s (n.toNatClampNeg) w, a) := by unfold sp_depot; rw [if_pos ⟨g1, g2⟩]
    rw [hs]
    obtain ⟨k, hk, -, rfl, ek⟩ := gin_cl g1
    rw [ek]
    refine wp_bv (trial_begin h) ?_
    rintro v1 ⟨b1, b2, b3, b4, b5⟩
    refine wp_bd ?_
    have hv2 : bgR (sI v1 56 1 0) 56 (lo s 0).1 := ⟨sI_s, by simp [lo], fun i hi => by simp [lo] at hi⟩
    have hF2 : FB 56 v1 (sI v1 56 1 0) := ⟨fun q h1 _ => sI_n h1, rfl⟩
    show wp (bx1 (lp (fun z : gV × Int32 × Int32 => f_X7_depot_B44 (nI k) w z.2.1 z.2.2 z.1) fu (sI v1 56 1 0, s, 0)) _) _
    generalize sI v1 56 1 0 = v2 at hv2 hF2
    refine wp_bx1 (wp_ct (Z := fun z => bgR z 56 (lo s k).1 ∧ FB 56 v1 z) (fun i z => z.2.2 = nI i ∧ bgR z.1 56 (lo s i).1 ∧ FB 56 v1 z.1 ∧ z.2.1 = (lo s i).2) k 0 _ (by omega) (Nat.zero_le _) ⟨rfl, hv2, hF2, rfl⟩ ?_ ?_) ?_
    · rintro i ⟨v3, x, z⟩ hi ⟨e, z1, z2, z3⟩
      have e : z = nI i := e
      subst e
      have z1 : bgR v3 56 (lo s i).1 := z1
      have z2 : FB 56 v1 v3 := z2
      have z3 : x = (lo s i).2 := z3
      subst z3
      show wp (f_X7_depot_B44 (nI k) w (lo s i).2 (nI i) v3) _
      unfold f_X7_depot_B44
      refine wp_f (by rw [n_le (by omega) (by omega)]; omega) (wp_bd (wp_bv (putAtBottom_ok _ z1 (by rw [lo_len]; omega)) ?_))
      rintro v4 ⟨p1, p2⟩
      exact wp_some ⟨nI_1 i, p1, z2.tr p2, rfl⟩
    · rintro ⟨v3, x, z⟩ ⟨e, z1, z2, z3⟩
      have e : z = nI k := e
      subst e
      show wp (f_X7_depot_B44 (nI k) w x (nI k) v3) _
      unfold f_X7_depot_B44
      exact wp_t (by rw [n_le (by omega) (by omega)]; exact Nat.le_refl _) (wp_some ⟨z1, z2⟩)
    · rintro v3 ⟨z1, z2⟩
      have hT := (h.z b5).2.2.2.1.1
      refine wp_bv (trial_ok (P := aP a) (h := rSt (aT0 a)) (l := (lo s k).1) (hT.kept (fun q hq => z2.1 q (by omega) (by omega))) (by rw [z2.1 _ (by omega) (by omega)]; exact b1) (by rw [z2.1 _ (by omega) (by omega)]; exact b2) (fun j hj => by rw [z2.1 _ (by omega) (by omega)]; exact b3 j hj) z1 (ini_okL hO (st_hv hO) (by rw [lo_len]; omega))) ?_
      rintro v4 ⟨hD, hF⟩
      have hF4 : FZ v v4 := b5.tr (FZ.tr ⟨fun q hq => z2.1 q (by omega) (by omega), z2.2⟩ hF)
      have hI4 := h.z hF4
      unfold depv
      refine wp_if (fun c1 => ?_) (fun c1 => ?_)
      · rw [if_pos c1]
        refine wp_bi (wp_of (servedAtLast_ok hP hD)) ?_
        rintro r5 v5 ⟨rfl, rfl⟩
        exact wp_some (OKX.same hI4 (by omega))
      · rw [if_neg c1]
        obtain ⟨L, -, -, -, -, y5, -⟩ := hD
        have : v4.1 (54 + 2) 1 = nI (depS a s k).1.2.1.length := y5.1.2.1.1
        rw [this]
        exact wp_some (OKX.same hI4 (by omega))
  · have hs : sp_depot s n w a = (-2, a) := by unfold sp_depot; rw [if_neg (fun q => g2 q.2)]
    rw [hs]
    exact wp_some (OKX.same h (by omega))
  · have hs : sp_depot s n w a = (-2, a) := by unfold sp_depot; rw [if_neg (fun q => g1 q.1)]
    rw [hs]
    exact wp_some (OKX.same h (by omega))
