theorem board_M {v : gV} {P : Pm} {x : Sc} {s : Nat} {x1 : Int32} (hT : TM v P) (hS : MS v P x.1) (hC : MC v x) (hB : bd8 v P (ob1 P s)) (hs : s < 10) : wp (lp (fun a : gV × Int32 => f_X8_stops_B104 x1 (nI s) a.2 a.1) fu (v, (0 : Int32))) (fun v' => MS v' P x.1 ∧ MC v' x ∧ bd8 v' P (onb P s) ∧ FS8 v v') := by
  obtain ⟨hP, h07, -⟩ := id hT
  have hn := hP.1
  refine wp_cnt (fun i v' => MS v' P x.1 ∧ MC v' x ∧ (∀ r, r < pN P → bt (v'.1 0 16) r = if r < i then onb P s r else ob1 P s r) ∧ FS8 v v') (pN P) 0 v (by omega) (Nat.zero_le _) ⟨hS, hC, fun r hr => by rw [if_neg (Nat.not_lt_zero r)]; exact hB r hr, FS8.rf⟩ ?_ ?_
  · rintro i v1 hi ⟨i1, i2, i4, i5⟩
    have hT1 := hT.kept i5.L
    obtain ⟨-, g07, g7, -⟩ := id hT1
    obtain ⟨hb9, hl9, -⟩ := hP.2.1 i hi
    have fin : ∀ (y : Int32), (∀ r, r < pN P → bt (v1.1 0 16 ||| y) r = if r < i + 1 then onb P s r else ob1 P s r) → wp (f_X8_stops_J152 x1 (nI s) (nI i) y (v1.1 0 16) v1) (SE (fun a' => a'.2 = nI (i + 1) ∧ MS a'.1 P x.1 ∧ MC a'.1 x ∧ (∀ r, r < pN P → bt (a'.1.1 0 16) r = if r < i + 1 then onb P s r else ob1 P s r) ∧ FS8 v a'.1) (fun v' => MS v' P x.1 ∧ MC v' x ∧ bd8 v' P (onb P s) ∧ FS8 v v')) := fun y hy => by
      unfold f_X8_stops_J152
      refine wp_bd (wp_some ⟨nI_1 i, ?_, ?_, fun r hr => ?_, i5.tr (fs_i (Or.inl rfl))⟩)
      · show MS (sI v1 0 16 _) P x.1
        unfold MS MB; rw [sI_n (by omega), sI_n (by omega), sI_o (by omega), sI_n (by omega)]; exact i1
      · show MC (sI v1 0 16 _) x
        unfold MC; rw [sI_o (by omega), sI_n (by omega)]; exact i2
      · show bt ((sI v1 0 16 _).1 0 16) r = _
        rw [sI_s]; exact hy r hr
    have same : onb P s i = ob1 P s i → ∀ r, r < pN P → bt (v1.1 0 16 ||| 0) r = if r < i + 1 then onb P s r else ob1 P s r := fun q r hr => by
      rw [b_or, b_0, Bool.or_false, i4 r hr]
      by_cases z : r < i
      · rw [if_pos z, if_pos (by omega)]
      · rw [if_neg z]
        by_cases z2 : r = i
        · subst z2; rw [if_pos (Nat.lt_succ_self r), q]
        · rw [if_neg (by omega)]
    show wp (f_X8_stops_B104 x1 (nI s) (nI i) v1) _
    unfold f_X8_stops_B104 f_X8_stops_J151
    rw [g07, l_4, l_1, l_2, n_mul, n_add, n_add, n_cl (a := 4 * i + 1) (by omega), n_cl (a := 4 * i + 2) (by omega), (g7 i hi).1, (g7 i hi).2.1]
    refine wp_f (by rw [n_le (by omega) (by omega)]; omega) (wp_t (gin_N (by omega) (by omega)) (wp_if (fun c1 => ?_) (fun c1 => ?_)))
    · rw [n_eq (by omega) (by omega)] at c1
      refine wp_t (gin_N (by omega) (by omega)) (wp_if (fun c2 => ?_) (fun c2 => ?_))
      · rw [n_le (by omega) (by omega)] at c2
        refine fin 0 (same ?_)
        unfold onb ob1
        rw [decide_eq_false (by omega), decide_eq_false (by omega)]
      · rw [n_le (by omega) (by omega)] at c2
        refine fin _ (fun r hr => ?_)
        rw [show nI 1 <<< (nI i &&& 31) = (1 : Int32) <<< (nI i &&& 31) from rfl, bt_set (by omega) (by omega), i4 r hr]
        by_cases z : r < i
        · rw [if_pos z, if_pos (by omega), decide_eq_false (by omega), Bool.or_false]
        · rw [if_neg z]
          by_cases z2 : r = i
          · subst z2
            rw [if_pos (Nat.lt_succ_self r), decide_eq_true rfl, Bool.or_true]
            exact (decide_eq_true ⟨by omega, by omega⟩).symm
          · rw [if_neg (by omega), decide_eq_false z2, Bool.or_false]
    · rw [n_eq (by omega) (by omega)] at c1
      refine fin 0 (same ?_)
      unfold onb ob1
      by_cases z : pB P i < s ∧ s < pL P i
      · rw [decide_eq_true z, decide_eq_true (by omega)]
      · rw [decide_eq_false z, decide_eq_false (by omega)]
  · rintro v1 ⟨i1, i2, i4, i5⟩
    obtain ⟨-, g07, -⟩ := hT.kept i5.L
    show wp (f_X8_stops_B104 x1 (nI s) (nI (pN P)) v1) _
    unfold f_X8_stops_B104
    rw [g07]
    exact wp_t (by rw [n_le (by omega) (by omega)]; exact Nat.le_refl _) (wp_some ⟨i1, i2, fun r hr => by rw [i4 r hr, if_pos hr], i5⟩)
theorem chS_tw {P : Pm} {d s r : Nat} {x : Sc} (h : chg P s r x.1 = none) (hW : tw P x.1) : tw P (chS P d s r x).1 := by rw [chS_none h]; exact hW
theorem change_M {v : gV} {P : Pm} {x : Sc} {d s : Nat} (hT : TM v P) (hS : MS v P x.1) (hC : MC v x) (hA : okA P x) (hW : tw P x.1) (hB : bd8 v P (onb P s)) (hs : s < 10) (hd : d < 10) : wp (lp (fun a : gV × Int32 => f_X8_stops_B164 (nI d) (nI s) a.2 a.1) fu (v, (0 : Int32))) (fun v' => MS v' P (chA P d s x).1 ∧ MC v' (chA P d s x) ∧ tw P (chA P d s x).1 ∧ bd8 v' P (onb P s) ∧ FS8 v v') := by
  obtain ⟨hP, h07, -⟩ := id hT
  have hn := hP.1
  by_cases hc : bt (pC P) s = true
  · have e0 : chA P d s x = itN (chS P d s) (pN P) x := by unfold chA; rw [if_pos hc]
    rw [e0]
    refine wp_cnt (fun i v' => MS v' P (itN (chS P d s) i x).1 ∧ MC v' (itN (chS P d s) i x) ∧ tw P (itN (chS P d s) i x).1 ∧ bd8 v' P (onb P s) ∧ FS8 v v') (pN P) 0 v (by omega) (Nat.zero_le _) ⟨hS, hC, hW, hB, FS8.rf⟩ ?_ ?_
    · rintro i v1 hi ⟨i1, i2, i3, i4, i5⟩
      have hT1 := hT.kept i5.L
      obtain ⟨-, g07, g7, -, -, g101, -⟩ := id hT1
      have hok : okA P (itN (chS P d s) i x) := chI_ok hP hd hA i (by omega)
      have e1 : itN (chS P d s) (i + 1) x = chS P d s i (itN (chS P d s) i x) := rfl
      rw [e1]
      generalize itN (chS P d s) i x = y at *
      show wp (f_X8_stops_B164 (nI d) (nI s) (nI i) v1) _
      unfold f_X8_stops_B164 f_X8_stops_J239
      rw [g07, show v1.1 10 (1 : Int32).toNatClampNeg = pC P from g101]
      refine wp_f (by rw [n_le (by omega) (by omega)]; omega) (wp_t (by decide) (wp_bi (wp_of (isIn_ok (by omega))) ?_))
      rintro r3 v2 ⟨rfl, rfl⟩
      rw [hc]
      refine wp_f (by decide) (wp_bi (wp_of (may_ok hT1 i1 i4 hok.1.1.1 hi)) ?_)
      rintro r4 v3 ⟨rfl, rfl⟩
      refine wp_if (fun c1 => ?_) (fun c1 => ?_)
      · rw [b2_0] at c1
        have e : chg P s i y.1 = none := by unfold chg; rw [if_neg (by rw [c1]; exact Bool.false_ne_true)]
        rw [chS_none e]
        exact wp_some ⟨nI_1 i, i1, i2, i3, i4, i5⟩
      · rw [b2_0] at c1
        refine wp_bi (changesOne_ok hT1 i1 i4 hok.1.1 i3 hi (ne_f c1)) ?_
        rintro r5 v5 ⟨k1, k2⟩
        have k1 : FC8 v1 v5 := k1
        rcases k2 with ⟨k3, k4, k5⟩ | ⟨k3, σ, k4, k5, k6⟩
        · have k3 : r5 = 0 := k3
          subst k3
          rw [chS_none k4]
          exact wp_t rfl (wp_some ⟨nI_1 i, k5, i2.kept (k1.2.1 24 (by omega)) (k1.1 18 (by omega) (by omega) (by omega) (by omega)), i3, i4.kept (k1.2.1 16 (by omega)), i5.tr k1.S⟩)
        · have k3 : r5 = 1 := k3
          subst k3
          have k5 : MS v5 P σ := k5
          rw [chS_some k4]
          have hm24 : y.2.1 ≤ 24 := hok.1.2.2.2
          have n24 : v5.1 0 24 = nI y.2.1 := by rw [k1.2.1 24 (by omega)]; exact i2.1
          have n18 : v5.1 18 = v1.1 18 := k1.1 18 (by omega) (by omega) (by omega) (by omega)
          unfold f_X8_stops_J229 f_X8_stops_J239
          refine wp_f (by decide) ?_
          rw [n24]
          have f0 : ∀ {w : gV} {j : Nat} {z : Int32}, FS8 w (sI w 18 j z) := fun {w j z} => ⟨fun q h0 _ _ _ h4 => sI_n h4, fun k _ _ _ => by rw [sI_n (by omega)], rfl⟩
          refine wp_if (fun c2 => ?_) (fun c2 => ?_)
          · rw [l_0, n_eq (by omega) (by omega)] at c2
            refine wp_t (by decide) (wp_bd (wp_t (by decide) (wp_bd (wp_t (by decide) (wp_bd (wp_bd (wp_some ⟨nI_1 i, ?_, ?_, k6, ?_, ?_⟩)))))))
            · show MS (sI (sI (sI (sI v5 18 _ _) 18 _ _) 18 _ _) 0 24 _) P σ
              unfold MS MB
              rw [sI_n (by omega), sI_n (by omega), sI_n (by omega), sI_n (by omega), sI_n (by omega), sI_n (by omega), sI_n (by omega), sI_n (by omega), sI_o (by omega), sI_n (by omega), sI_n (by omega), sI_n (by omega), sI_n (by omega), sI_n (by omega), sI_n (by omega), sI_n (by omega)]
              exact k5
            · show MC (sI (sI (sI (sI v5 18 (0 : Int32).toNatClampNeg _) 18 (1 : Int32).toNatClampNeg _) 18 (2 : Int32).toNatClampNeg _) 0 24 _) _
              unfold MC
              rw [if_pos c2, c_0, c_1, c_2]
              refine ⟨?_, ?_, ?_, ?_⟩
              · rw [sI_s, sI_n (by omega), sI_n (by omega), sI_n (by omega), n24]; exact nI_1 _
              · rw [sI_n (by omega), sI_o (by omega), sI_o (by omega), sI_s]
              · rw [sI_n (by omega), sI_o (by omega), sI_s]
              · rw [sI_n (by omega), sI_s]
            · refine i4.kept ?_
              show (sI (sI (sI (sI v5 18 _ _) 18 _ _) 18 _ _) 0 24 _).1 0 16 = _
              rw [sI_o (by omega), sI_n (by omega), sI_n (by omega), sI_n (by omega)]; exact k1.2.1 16 (by omega)
            · exact (i5.tr k1.S).tr (((f0.tr f0).tr f0).tr (fs_i (Or.inr (Or.inr rfl))))
          · rw [l_0, n_eq (by omega) (by omega)] at c2
            refine wp_bd (wp_some ⟨nI_1 i, ?_, ?_, k6, ?_, ?_⟩)
            · show MS (sI v5 0 24 _) P σ
              unfold MS MB
              rw [sI_n (by omega), sI_n (by omega), sI_o (by omega), sI_n (by omega)]
              exact k5
            · show MC (sI v5 0 24 _) _
              unfold MC
              rw [if_neg c2]
              refine ⟨?_, ?_⟩
              · rw [sI_s]; exact nI_1 _
              · rw [sI_n (by omega), n18]; exact i2.2
            · refine i4.kept ?_
              show (sI v5 0 24 _).1 0 16 = _
              rw [sI_o (by omega)]; exact k1.2.1 16 (by omega)
            · exact (i5.tr k1.S).tr (fs_i (Or.inr (Or.inr rfl)))
    · rintro v1 ⟨i1, i2, i3, i4, i5⟩
      obtain ⟨-, g07, -⟩ := hT.kept i5.L
      show wp (f_X8_stops_B164 (nI d) (nI s) (nI (pN P)) v1) _
      unfold f_X8_stops_B164
      rw [g07]
      exact wp_t (by rw [n_le (by omega) (by omega)]; exact Nat.le_refl _) (wp_some ⟨i1, i2, i3, i4, i5⟩)
  · have e0 : chA P d s x = x := by unfold chA; rw [if_neg hc]
    rw [e0]
    refine wp_lp (fun k a => k = 0 ∧ a = (v, (0 : Int32))) ?_ fu 0 _ ⟨rfl, rfl⟩ (fu_big (by omega))
    rintro k a ⟨rfl, rfl⟩
    show wp (f_X8_stops_B164 (nI d) (nI s) 0 v) _
    unfold f_X8_stops_B164
    rw [show v.1 10 (1 : Int32).toNatClampNeg = pC P from hT.2.2.2.2.2.1]
    refine wp_if (fun c1 => wp_some ⟨hS, hC, hW, hB, FS8.rf⟩) (fun c1 => wp_t (by decide) (wp_bi (wp_of (isIn_ok (by omega))) ?_))
    rintro r3 v2 ⟨rfl, rfl⟩
    rw [ne_t hc]
    exact wp_t rfl (wp_some ⟨hS, hC, hW, hB, FS8.rf⟩)
theorem stops_ok {v : gV} {P : Pm} {x : Sc} {d s : Nat} (hT : TM v P) (hS : MS v P x.1) (hC : MC v x) (hA : okA P x) (hW : tw P x.1) (hB : bd8 v P (ob0 P s)) (hs : s < 10) (hd : d < 10) : wp (f_X8_stops (nI d) (nI s) v) (fun v' => MS v' P (stp P d s x).1 ∧ MC v' (stp P d s x) ∧ tw P (stp P d s x).1 ∧ bd8 v' P (ob0 P (s + 1)) ∧ FS8 v v') := by
  unfold f_X8_stops
  refine wp_bx1 (leave_M hT hS hC hA hW hB hs) ?_
  rintro v1 ⟨a1, a2, a3, a4, a5⟩
  have hC1 : MC v1 (lvA P s x) := a2
  have hA1 : okA P (lvA P s x) := lvI_ok hA _ (Nat.le_refl _)
  refine wp_bx1 (board_M (x := lvA P s x) (hT.kept a5.L) a1 hC1 a4 hs) ?_
  rintro v2 ⟨b1, b2', b4, b5⟩
  refine wp_bx1 (change_M (hT.kept (a5.L.tr b5.L)) b1 b2' hA1 a3 b4 hs hd) ?_
  rintro v3 ⟨k1, k2, k3, k4, k5⟩
  refine wp_some ⟨k1, k2, k3, fun r hr => ?_, (a5.tr b5).tr k5⟩
  rw [k4 r hr]
  unfold onb ob0
  by_cases z : pB P r ≤ s ∧ s < pL P r
  · rw [decide_eq_true z, decide_eq_true (by omega)]
  · rw [decide_eq_false z, decide_eq_false (by omega)]
