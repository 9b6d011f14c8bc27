/-! THE REFERENCE: what was seen -/
def alP (p : Nat × Nat × Nat → Bool) (l : List (Nat × Nat × Nat)) : Nat → Bool
  | 0 => true
  | k + 1 => alP p l k && p (l.getD k (0, 0, 0))
theorem alP_t {p : Nat × Nat × Nat → Bool} {l : List (Nat × Nat × Nat)} : ∀ {k : Nat}, alP p l k = true ↔ ∀ j, j < k → p (l.getD j (0, 0, 0)) = true
  | 0 => ⟨fun _ j hj => absurd hj (Nat.not_lt_zero j), fun _ => rfl⟩
  | k + 1 => by
    rw [alP, Bool.and_eq_true, alP_t]
    constructor
    · rintro ⟨h1, h2⟩ j hj
      by_cases e : j = k
      · subst e; exact h2
      · exact h1 j (by omega)
    · intro h1
      exact ⟨fun j hj => h1 j (by omega), h1 k (by omega)⟩
theorem alP_all {p : Nat × Nat × Nat → Bool} {l : List (Nat × Nat × Nat)} : alP p l l.length = l.all p := by
  rw [Bool.eq_iff_iff, alP_t, all_get]
theorem gin_d {r n : Nat} (hr : r < 2147483648) : gin (nI r) n = decide (r < n) := by
  unfold gin
  rw [n_ti hr]
  by_cases q : r < n
  · rw [decide_eq_true q, decide_eq_true (by omega)]
  · rw [decide_eq_false q, decide_eq_false (by omega)]
theorem isSeen_M {u : gV} {P : Pm} {h : Nat → Int32} {l : List Int32} {t : Int32} {L : List (Nat × Nat × Nat)} (hT : TM u P) (hI : ST u P h l t) (hA : okA P (ini h (tpl t ++ l))) (hN : SN8 u L) (hl : L.length ≤ 8) (hz : ∀ z ∈ L, z.1 < 10 ∧ z.2.1 < 8 ∧ z.2.2 < 9) : wp (f_X8_isSeen u) (fun z => z.1 = b2 (cmo P (ini h (tpl t ++ l)) L) ∧ FL u z.2) := by
  unfold f_X8_isSeen
  refine wp_bv (lives_ok hT hI hA) ?_
  rintro v ⟨hL, hF⟩
  have hT1 := hT.kept hF
  have hn := hT.1.1
  have hN1 : SN8 v L := hN.kept (hF.2.1 26 (by omega) (by omega) (by omega) (by omega)) (hF.1 19 (by omega) (by omega))
  unfold cmo
  generalize ini h (tpl t ++ l) = x at *
  rw [← alP_all]
  refine wp_bx2 (wp_ct (Z := fun z => z.1 = v ∧ z.2 = b2 (alP (cm1 P x) L L.length)) (fun i z => z.1 = v ∧ z.2.1 = b2 (alP (cm1 P x) L i) ∧ z.2.2 = nI i) L.length 0 _ (by omega) (Nat.zero_le _) ⟨rfl, rfl, rfl⟩ ?_ ?_) ?_
  · rintro i ⟨v1, y, z⟩ hi ⟨e1, e2, e3⟩
    have e1 : v1 = v := e1
    have e2 : y = b2 (alP (cm1 P x) L i) := e2
    have e3 : z = nI i := e3
    subst e1 e2 e3
    obtain ⟨n1, n2, n3⟩ := hN1.2 i hi
    obtain ⟨z1, z2, z3⟩ := hz _ (mem_get hi)
    have es : alP (cm1 P x) L (i + 1) = (alP (cm1 P x) L i && cm1 P x (L.getD i (0, 0, 0))) := rfl
    generalize L.getD i (0, 0, 0) = w at *
    obtain ⟨d, r, k⟩ := w
    have n1 : v1.1 19 (3 * i) = nI d := n1
    have n2 : v1.1 19 (3 * i + 1) = nI r := n2
    have n3 : v1.1 19 (3 * i + 2) = nI k := n3
    have z1 : d < 10 := z1
    have z2 : r < 8 := z2
    have z3 : k < 9 := z3
    show wp (f_X8_isSeen_B8 (b2 (alP (cm1 P x) L i)) (nI i) v1) _
    unfold f_X8_isSeen_B8
    rw [hN1.1, l_3, l_1, l_2, n_mul, n_add, n_add, n_cl (a := 3 * i + 1) (by omega), n_cl (a := 3 * i + 2) (by omega), n2, n3]
    have key : ∀ s0 : Int32, s0 = (if k = 8 then -1 else nI k) → wp (f_X8_isSeen_J56 (b2 (alP (cm1 P x) L i)) (nI i) (nI r) s0 v1) (SE (fun z : gV × Int32 × Int32 => z.1 = v1 ∧ z.2.1 = b2 (alP (cm1 P x) L (i + 1)) ∧ z.2.2 = nI (i + 1)) (fun z : gV × Int32 => z.1 = v1 ∧ z.2 = b2 (alP (cm1 P x) L L.length))) := fun s0 hs0 => by
      unfold f_X8_isSeen_J56 f_X8_isSeen_J97 f_X8_isSeen_J98
      rw [es, l_3, l_8, n_mul, n_cl (a := 3 * i) (by omega)]
      refine wp_if (fun c1 => ?_) (fun c1 => ?_)
      · rw [b2_0] at c1
        rw [c1]
        exact wp_some ⟨rfl, rfl, nI_1 i⟩
      · rw [b2_0] at c1
        rw [ne_f c1, Bool.true_and]
        refine wp_gt (isRider_M hT1.2.1 hn) (fun c2 => ?_) (fun c2 => ?_)
        · rw [gin_d (by omega)] at c2
          refine wp_some ⟨rfl, ?_, nI_1 i⟩
          unfold cm1
          rw [show decide ((d, r, k).2.1 < pN P) = false from c2]
          rfl
        · rw [gin_d (by omega)] at c2
          have hr : r < pN P := of_decide_eq_true c2
          rw [n1, n_mul, n_add, n_cl (a := 8 * d + r) (by omega), (hL.1 d z1).1 r hr]
          refine wp_t (gin_N (by omega) (by omega)) (wp_t (gin_N (by omega) (by omega)) ?_)
          refine wp_if (fun c3 => wp_some ⟨rfl, ?_, nI_1 i⟩) (fun c3 => wp_some ⟨rfl, ?_, nI_1 i⟩)
          · unfold cm1
            rw [show decide ((d, r, k).2.1 < pN P) = true from c2, Bool.true_and, decide_eq_true (show (his P x ((d, r, k).1 + 1)).1.1 (d, r, k).2.1 = if (d, r, k).2.2 = 8 then -1 else nI (d, r, k).2.2 from c3.trans hs0)]
            rfl
          · unfold cm1
            rw [show decide ((d, r, k).2.1 < pN P) = true from c2, Bool.true_and, decide_eq_false (show ¬ (his P x ((d, r, k).1 + 1)).1.1 (d, r, k).2.1 = if (d, r, k).2.2 = 8 then -1 else nI (d, r, k).2.2 from fun q => c3 (q.trans hs0.symm))]
            rfl
    refine wp_f (by rw [n_le (by omega) (by omega)]; omega) (wp_t (gin_N (by omega) (by omega)) (wp_bd (wp_t (gin_N (by omega) (by omega)) (wp_if (fun c1 => ?_) (fun c1 => wp_t (gin_N (by omega) (by omega)) ?_)))))
    · rw [l_8, n_eq (by omega) (by omega)] at c1
      exact key _ (by rw [if_pos c1]; rfl)
    · rw [l_8, n_eq (by omega) (by omega)] at c1
      exact key _ (by rw [if_neg c1])
  · rintro ⟨v1, y, z⟩ ⟨e1, e2, e3⟩
    have e1 : v1 = v := e1
    have e2 : y = b2 (alP (cm1 P x) L L.length) := e2
    have e3 : z = nI L.length := e3
    subst e1 e2 e3
    show wp (f_X8_isSeen_B8 _ (nI L.length) v1) _
    unfold f_X8_isSeen_B8
    rw [hN1.1]
    exact wp_t (by rw [n_le (by omega) (by omega)]; exact Nat.le_refl _) (wp_some ⟨rfl, rfl⟩)
  · rintro v1 y ⟨e1, e2⟩
    have e1 : v1 = v := e1
    have e2 : y = b2 (alP (cm1 P x) L L.length) := e2
    subst e1 e2
    exact wp_t gb (wp_some ⟨rfl, hF⟩)
theorem or_0 {x : Int32} : x ||| 0 = x := b_ext (fun j _ => by rw [b_or, b_0, Bool.or_false])
theorem wasNow_M {u : gV} {a : Ab} (h : RDY u a) : wp (f_X8_wasNow u) (fun z => z.1 = wasv a ∧ RDY z.2 a) := by
  have hE := h.1.1.2.2.2.1
  unfold f_X8_wasNow wasv
  rw [h.e0]
  refine wp_t (by decide) (wp_bd (wp_bx2 (wp_ct (Z := fun z => (∃ e, RDY z.1 (evA a e)) ∧ z.2 = bo (wasp a) 10) (fun i z => z.2.2 = nI i ∧ (∃ e, RDY z.1 (evA a e)) ∧ z.2.1 = bo (wasp a) i) 10 0 _ (by omega) (Nat.zero_le _) ⟨rfl, ⟨aE a, h⟩, rfl⟩ ?_ ?_) ?_))
  · rintro i ⟨v1, x, z⟩ hi ⟨e, ⟨e9, hI⟩, hb⟩
    have e : z = nI i := e
    subst e
    have hI : RDY v1 (evA a e9) := hI
    have hb : x = bo (wasp a) i := hb
    subst hb
    show wp (f_X8_wasNow_B11 (aE a) _ (nI i) v1) _
    unfold f_X8_wasNow_B11 f_X8_wasNow_J39
    have h2 : RDY (sI v1 10 (0 : Int32).toNatClampNeg (nI i)) (evA a (nI i)) := evM hI ⟨i, by omega, rfl⟩
    have hA : okA (aP (evA a (nI i))) (ini (rSt (aT0 a)) (tpl (-1) ++ bag0 (aT1 a))) := aX_ok h2.1.1
    have hN : SN8 (sI v1 10 (0 : Int32).toNatClampNeg (nI i)) (aS a) := h2.1.2.2.2.2.2.2.2.2.1
    refine wp_f (by rw [l_10, n_le (by omega) (by omega)]; omega) (wp_t (by decide) (wp_bd (wp_bi (isSeen_M h2.tm h2.st hA hN h.1.1.2.2.2.2.2.2.1 h.1.1.2.2.2.2.2.2.2.1) ?_)))
    rintro r4 v2 ⟨e1, hF⟩
    have e1 : r4 = b2 (wasp a i) := e1
    have h3 := h2.L hF
    subst e1
    refine wp_if (fun c1 => wp_bd ?_) (fun c1 => wp_bd ?_)
    · rw [b2_0] at c1
      exact wp_eq rfl ⟨nI_1 i, ⟨nI i, h3⟩, by rw [bo_f c1]; exact or_0⟩
    · rw [b2_0] at c1
      exact wp_eq rfl ⟨nI_1 i, ⟨nI i, h3⟩, (bo_t (ne_f c1)).symm⟩
  · rintro ⟨v1, x, z⟩ ⟨e, hI, hb⟩
    have e : z = nI 10 := e
    subst e
    show wp (f_X8_wasNow_B11 (aE a) x (nI 10) v1) _
    unfold f_X8_wasNow_B11
    exact wp_t (by rw [l_10, n_le (by omega) (by omega)]; exact Nat.le_refl _) (wp_some ⟨hI, hb⟩)
  · rintro v1 x ⟨⟨e9, hI⟩, hb⟩
    have hI : RDY v1 (evA a e9) := hI
    have hb : x = bo (wasp a) 10 := hb
    have h4 : RDY (sI v1 10 (0 : Int32).toNatClampNeg (aE a)) a := evM hI hE
    exact wp_t (by decide) (wp_bd (wp_some ⟨hb, h4⟩))
theorem was_M {u : gV} {a : Ab} (h : InvM u a) : OKM (f_X8_was u) (sp_was a) := by
  unfold OKM f_X8_was sp_was
  refine wp_bv (reads_M h) ?_
  rintro u1 ⟨h1, h2⟩
  refine wp_bi (wasNow_M h1) ?_
  rintro r3 u3 ⟨e1, e2⟩
  exact wp_some ⟨e1, e2.1⟩
theorem sI_id {u : gV} {q j : Nat} {x : Int32} (h : u.1 q j = x) : sI u q j x = u := by
  refine Prod.ext (funext fun p => ?_) rfl
  by_cases e : p = q
  · subst e
    rw [sI_q]
    funext i
    by_cases e2 : i = j
    · subst e2; rw [up_s]; exact h.symm
    · rw [up_n e2]
  · rw [sI_n e]
theorem sI_sI {u : gV} {q j : Nat} {x y : Int32} : sI (sI u q j x) q j y = sI u q j y := by
  refine Prod.ext (funext fun p => ?_) rfl
  by_cases e : p = q
  · subst e
    rw [sI_q, sI_q, sI_q]
    funext i
    by_cases e2 : i = j
    · subst e2; rw [up_s, up_s]
    · rw [up_n e2, up_n e2, up_n e2]
  · rw [sI_n e, sI_n e, sI_n e]
theorem hadOf_M {u : gV} {a : Ab} {r : Nat} (h : RDY u a) (hr : r < nRi (aT0 a)) : wp (f_X8_hadOf (nI r) u) (fun z => z.1 = hadv a r ∧ RDY z.2 a) := by
  have hO := h.1.1
  have hn := nRi_le hO.1
  have hbl := bag0_len (l := aT1 a)
  have hbl2 := hO.2.1
  have e7 : u.1 7 (4 * r) = rSt (aT0 a) r := (h.2.1.2 r hr).1
  unfold f_X8_hadOf hadv
  rw [l_4, n_mul, n_cl (a := 4 * r) (by omega), e7]
  have h0 : RDY (sI u 7 (4 * r) (rSt (aT0 a) r)) a := by rw [sI_id e7]; exact h
  refine wp_t (gin_N (by omega) (by omega)) (wp_bd (wp_bx2 (wp_ct (Z := fun z => RDY (sI z.1 7 (4 * r) (rSt (aT0 a) r)) a ∧ z.2 = bo (hadp a r) 8) (fun i z => z.2.2 = nI i ∧ RDY (sI z.1 7 (4 * r) (rSt (aT0 a) r)) a ∧ z.2.1 = bo (hadp a r) i) 8 0 _ (by omega) (Nat.zero_le _) ⟨rfl, h0, rfl⟩ ?_ ?_) ?_))
  · rintro i ⟨v1, x, z⟩ hi ⟨e, hI, hb⟩
    have e : z = nI i := e
    subst e
    have hI : RDY (sI v1 7 (4 * r) (rSt (aT0 a) r)) a := hI
    have hb : x = bo (hadp a r) i := hb
    subst hb
    show wp (f_X8_hadOf_B14 (nI r) _ _ (nI i) v1) _
    unfold f_X8_hadOf_B14 f_X8_hadOf_J47
    rw [l_4, n_mul, n_cl (a := 4 * r) (by omega)]
    have hT : TM (sI v1 7 (4 * r) (nI i)) (aP a) := by
      obtain ⟨t1, t2, t3, t4, t5, t6, t7⟩ := hI.tm
      rw [sI_n (by omega)] at t2 t4 t5 t6 t7
      refine ⟨t1, ?_, fun k hk => ?_, fun k hk => ?_, ?_, ?_, ?_⟩
      · rw [sI_n (by omega)]; exact t2
      · have := t3 k hk
        rw [sI_o (by omega), sI_o (by omega), sI_o (by omega)] at this
        rw [sI_o (by omega), sI_o (by omega), sI_o (by omega)]; exact this
      · rw [sI_n (by omega)]; exact t4 k hk
      · rw [sI_n (by omega)]; exact t5
      · rw [sI_n (by omega)]; exact t6
      · rw [sI_n (by omega)]; exact t7
    have hS : ST (sI v1 7 (4 * r) (nI i)) (aP a) (upd (rSt (aT0 a)) r (nI i)) (bag0 (aT1 a)) (-1) := by
      obtain ⟨t1, t2, t3, t4, t5⟩ := hI.st
      rw [sI_n (by omega)] at t2 t4 t5
      refine ⟨fun k hk => ?_, ?_, t3, ?_, ?_⟩
      · by_cases e : k = r
        · subst e; rw [sI_s, up_s]
        · have := t1 k hk
          rw [sI_o (by omega)] at this
          rw [sI_o (by omega), up_n e]; exact this
      · rw [sI_n (by omega)]; exact t2
      · rw [sI_n (by omega)]; exact t4
      · rw [sI_n (by omega)]; exact t5
    have hA : okA (aP a) (ini (upd (rSt (aT0 a)) r (nI i)) (tpl (-1) ++ bag0 (aT1 a))) := ini_okL hO (fun k hk => by
      by_cases e : k = r
      · subst e; rw [up_s]; exact Or.inr ⟨i, hi, rfl⟩
      · rw [up_n e]; exact st_hv hO k hk) (by show (bag0 (aT1 a)).length ≤ 17; omega)
    have hN : SN8 (sI v1 7 (4 * r) (nI i)) (aS a) := by
      have := hI.1.2.2.2.2.2.2.2.2.1
      unfold SN8 at this ⊢
      rw [sI_n (by omega), sI_n (by omega)] at this ⊢
      exact this
    refine wp_f (by rw [l_8, n_le (by omega) (by omega)]; omega) (wp_t (gin_N (by omega) (by omega)) (wp_bd (wp_bi (isSeen_M hT hS hA hN hO.2.2.2.2.2.2.1 hO.2.2.2.2.2.2.2.1) ?_)))
    rintro r4 v2 ⟨e1, hF⟩
    have e1 : r4 = b2 (hadp a r i) := e1
    have h3 : RDY (sI v2 7 (4 * r) (rSt (aT0 a) r)) a := by
      have f1 : FL (sI (sI v1 7 (4 * r) (nI i)) 7 (4 * r) (rSt (aT0 a) r)) (sI v2 7 (4 * r) (rSt (aT0 a) r)) := FL.sI hF (by omega) (fun q => by omega)
      rw [sI_sI] at f1
      exact hI.L f1
    subst e1
    refine wp_if (fun c1 => wp_bd ?_) (fun c1 => wp_bd ?_)
    · rw [b2_0] at c1
      exact wp_eq rfl ⟨nI_1 i, h3, by rw [bo_f c1]; exact or_0⟩
    · rw [b2_0] at c1
      exact wp_eq rfl ⟨nI_1 i, h3, (bo_t (ne_f c1)).symm⟩
  · rintro ⟨v1, x, z⟩ ⟨e, hI, hb⟩
    have e : z = nI 8 := e
    subst e
    show wp (f_X8_hadOf_B14 (nI r) _ x (nI 8) v1) _
    unfold f_X8_hadOf_B14
    exact wp_t (by rw [l_8, n_le (by omega) (by omega)]; exact Nat.le_refl _) (wp_some ⟨hI, hb⟩)
  · rintro v1 x ⟨hI, hb⟩
    exact wp_t (gin_N (by omega) (by omega)) (wp_bd (wp_some ⟨hb, hI⟩))
theorem had_M {u : gV} {a : Ab} {r : Int32} (h : InvM u a) : OKM (f_X8_had r u) (sp_had r a) := by
  unfold OKM f_X8_had
  refine wp_bv (reads_M h) ?_
  rintro u1 ⟨h1, h2⟩
  refine wp_gt (isRider_M h1.2.1.1 (nRi_le h.1.1)) (fun c1 => ?_) (fun c1 => ?_)
  · have hs : sp_had r a = (-2, a) := by unfold sp_had; rw [if_neg (by rw [c1]; exact Bool.false_ne_true)]
    rw [hs]; exact wp_some ⟨rfl, h1.1⟩
  · have hs : sp_had r a = (hadv a (r.toNatClampNeg), a) := by unfold sp_had; rw [if_pos c1]
    rw [hs]
    obtain ⟨k, hk, -, rfl, ck⟩ := gin_cl c1
    rw [ck]
    refine wp_bi (hadOf_M h1 hk) ?_
    rintro r3 u3 ⟨e1, e2⟩
    exact wp_some ⟨e1, e2.1⟩
theorem depotOf_M {u : gV} {a : Ab} {s w : Int32} {n : Nat} (h : RDY u a) (hn : n ≤ 16) : wp (f_X8_depotOf s (nI n) w u) (fun z => z.1 = depv a s n w ∧ RDY z.2 a) := by
  have hO := h.1.1
  unfold f_X8_depotOf
  refine wp_bd (wp_bx1 (wp_cnt (Z := fun v => (∀ q, q ≠ 0 → q ≠ 8 → v.1 q = u.1 q) ∧ (∀ j, j ≠ 29 → v.1 0 j = u.1 0 j) ∧ (∀ j, j < n → v.1 8 j = (lo s n).1.getD j 0)) (fun i v => (∀ q, q ≠ 0 → q ≠ 8 → v.1 q = u.1 q) ∧ (∀ j, j ≠ 29 → v.1 0 j = u.1 0 j) ∧ v.1 0 29 = (lo s i).2 ∧ ∀ j, j < i → v.1 8 j = (lo s i).1.getD j 0) n 0 _ (by omega) (Nat.zero_le _) ⟨fun q h0 _ => sI_n h0, fun j hj => sI_o hj, sI_s, fun j hj => absurd hj (Nat.not_lt_zero j)⟩ ?_ ?_) ?_)
  · rintro i v1 hi ⟨i1, i2, i3, i4⟩
    show wp (f_X8_depotOf_B8 (nI n) w (nI i) v1) _
    unfold f_X8_depotOf_B8 f_X8_lot
    rw [i3]
    refine wp_f (by rw [n_le (by omega) (by omega)]; omega) (wp_bi (Q0 := fun z => z.1 = jrem (jushr (1103515245 * (lo s i).2 + 12345) 16) 8 ∧ z.2 = sI v1 0 29 (1103515245 * (lo s i).2 + 12345)) (wp_bd (wp_f (by decide) (wp_some ⟨?_, rfl⟩))) ?_)
    · show jrem (jushr ((sI v1 0 29 (1103515245 * (lo s i).2 + 12345)).1 0 29) 16) 8 = _
      rw [sI_s]
    · rintro r3 v2 ⟨e1, e2⟩
      have e1 : r3 = jrem (jushr (1103515245 * (lo s i).2 + 12345) 16) 8 := e1
      have e2 : v2 = sI v1 0 29 (1103515245 * (lo s i).2 + 12345) := e2
      have el : (lo s (i + 1)) = ((lo s i).1 ++ [r3], 1103515245 * (lo s i).2 + 12345) := by rw [lo, e1]
      have ll := lo_len s i
      rw [n_cl (a := i) (by omega)]
      refine wp_t (gin_N (by omega) (by omega)) (wp_bd (wp_some ⟨nI_1 i, fun q h0 h8 => ?_, fun j hj => ?_, ?_, fun j hj => ?_⟩))
      · show (sI v2 8 i r3).1 q = _
        rw [sI_n h8, e2, sI_n h0]; exact i1 q h0 h8
      · show (sI v2 8 i r3).1 0 j = _
        rw [sI_n (by omega), e2, sI_o hj]; exact i2 j hj
      · show (sI v2 8 i r3).1 0 29 = _
        rw [sI_n (by omega), e2, sI_s, el]
      · show (sI v2 8 i r3).1 8 j = _
        rw [el]
        by_cases e : j = i
        · subst e
          rw [sI_s]
          have := gd_r (l := (lo s j).1) (x := r3)
          rw [ll] at this
          exact this.symm
        · rw [sI_o e, e2, sI_n (by omega), gd_l (by omega)]
          exact i4 j (by omega)
  · rintro v1 ⟨i1, i2, i3, i4⟩
    show wp (f_X8_depotOf_B8 (nI n) w (nI n) v1) _
    unfold f_X8_depotOf_B8
    exact wp_t (by rw [n_le (by omega) (by omega)]; exact Nat.le_refl _) (wp_some ⟨i1, i2, i4⟩)
  · rintro v1 ⟨i1, i2, i4⟩
    refine wp_bd ?_
    have k1 : ∀ q, q ≠ 0 → q ≠ 8 → (sI v1 0 9 (nI n)).1 q = u.1 q := fun q h0 h8 => by rw [sI_n h0]; exact i1 q h0 h8
    have k2 : ∀ j, j ≠ 29 → j ≠ 9 → (sI v1 0 9 (nI n)).1 0 j = u.1 0 j := fun j h29 h9 => by rw [sI_o h9]; exact i2 j h29
    have hM : InvM (sI v1 0 9 (nI n)) a := h.1.kept ⟨fun q hq => k1 q (by omega) (by omega), k2 13 (by omega) (by omega), k2 26 (by omega) (by omega), k2 4 (by omega) (by omega)⟩
    have hR : RR (sI v1 0 9 (nI n)) (aT0 a) := h.2.1.kept (k1 7 (by omega) (by omega)) (k2 7 (by omega) (by omega))
    have hT : TM (sI v1 0 9 (nI n)) (aP a) := ⟨aP_ok hO, hR.1, fun r hr => (hR.2 r hr).2, hM.2.2.2.1, hM.2.2.2.2.1, hM.2.2.2.2.2.1, hM.2.2.2.2.2.2.1⟩
    have ll := lo_len s n
    have hS : ST (sI v1 0 9 (nI n)) (aP a) (rSt (aT0 a)) (lo s n).1 (-1) := ⟨fun r hr => (hR.2 r hr).1, by rw [sI_s, ll], by omega, fun j hj => by rw [sI_n (by omega)]; exact i4 j (by omega), hM.2.2.2.2.2.2.2.1⟩
    have hA : okA (aP a) (ini (rSt (aT0 a)) (tpl (-1) ++ (lo s n).1)) := ini_okL hO (st_hv hO) (by show (lo s n).1.length ≤ 17; omega)
    refine wp_bv (lives_ok hT hS hA) ?_
    rintro v4 ⟨hL, hF⟩
    have hL : LV v4 (aP a) (ini (rSt (aT0 a)) (lo s n).1) := hL
    have hM4 := hM.kept hF.K
    refine wp_bi (readsBag_M hM4.2.2.1) ?_
    rintro r8 v6 ⟨-, hB, hG⟩
    have hB : RB v6 (aT1 a) := hB
    have hG : FR1 v4 v6 := hG
    have hT6 : TM v6 (aP a) := by
      have := hT.kept hF
      unfold TM at this ⊢
      rw [hG.1 7 (by omega) (by omega), hG.1 9 (by omega) (by omega), hG.1 10 (by omega) (by omega), hG.2.1 7 (by omega)]
      exact this
    have hR6 : RDY v6 a := ⟨hM4.kept hG.K, (hR.kept (hF.1 7 (by omega) (by omega)) (hF.2.1 7 (by omega) (by omega) (by omega) (by omega))).kept (hG.1 7 (by omega) (by omega)) (hG.2.1 7 (by omega)), hB⟩
    have hL6 : LV v6 (aP a) (ini (rSt (aT0 a)) (lo s n).1) := by
      unfold LV MC MS MB HM at hL ⊢
      rw [hG.1 14 (by omega) (by omega), hG.1 15 (by omega) (by omega), hG.1 16 (by omega) (by omega), hG.1 17 (by omega) (by omega), hG.1 18 (by omega) (by omega), hG.1 11 (by omega) (by omega), hG.1 12 (by omega) (by omega), hG.1 13 (by omega) (by omega), hG.2.1 24 (by omega), hG.2.1 25 (by omega), hG.2.1 17 (by omega)]
      exact hL
    refine wp_if (fun c1 => ?_) (fun c1 => ?_)
    · have hs : depv a s n w = nI (pcN (srvN (aP a) (depS a s n).1.1)) := by unfold depv; rw [if_pos c1]
      rw [hs]
      refine wp_bi (wp_of (servedBy_M (d := 9) hT6 hL6 (by omega))) ?_
      rintro r6 v7 ⟨rfl, rfl⟩
      refine wp_bi (wp_of (ones_M (Nat.lt_trans (srvN_lt (aP_ok hO)) (by omega)))) ?_
      rintro r9 v8 ⟨rfl, rfl⟩
      have en : (his (aP a) (ini (rSt (aT0 a)) (lo s n).1) (9 + 1)) = depS a s n := rfl
      rw [en]
      exact wp_some ⟨rfl, hR6⟩
    · have hs : depv a s n w = nI (depS a s n).1.2.1.length := by unfold depv; rw [if_neg c1]
      rw [hs]
      have e16 : v6.1 16 (9 : Int32).toNatClampNeg = nI (depS a s n).1.2.1.length := (hL6.1 9 (by omega)).2.2.1
      rw [e16]
      exact wp_t (by decide) (wp_some ⟨rfl, hR6⟩)
theorem depot_M {u : gV} {a : Ab} {s n w : Int32} (h : InvM u a) : OKM (f_X8_depot s n w u) (sp_depot s n w a) := by
  unfold OKM f_X8_depot
  refine wp_bv (reads_M h) ?_
  rintro u1 ⟨h1, h2⟩
  refine wp_gt (in_g 17 (by decide)) (fun c1 => ?_) (fun c1 => wp_gt isTwo_M (fun c2 => ?_) (fun c2 => ?_))
  · have hs : sp_depot s n w a = (-2, a) := by unfold sp_depot; rw [if_neg (fun q => by rw [c1] at q; exact Bool.false_ne_true q.1)]
    rw [hs]; exact wp_some ⟨rfl, h1.1⟩
  · have hs : sp_depot s n w a = (-2, a) := by unfold sp_depot; rw [if_neg (fun q => by rw [c2] at q; exact Bool.false_ne_true q.2)]
    rw [hs]; exact wp_some ⟨rfl, h1.1⟩
  · have hs : sp_depot s n w a = (depv a s (n.toNatClampNeg) w, a) := by unfold sp_depot; rw [if_pos ⟨c1, c2⟩]
    rw [hs]
    obtain ⟨k, hk, -, rfl, ck⟩ := gin_cl c1
    rw [ck]
    refine wp_bi (depotOf_M h1 (by omega)) ?_
    rintro r3 u3 ⟨e1, e2⟩
    exact wp_some ⟨e1, e2.1⟩
