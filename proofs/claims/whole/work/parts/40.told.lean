/-! THE CLASS: what is told -/
theorem fill_ok {v : gV} {N q : Nat} {x : Int32} (hN : N < 2147483648) : wp (f_J7_fill_53178 N q x v) (fun v' => (∀ i, i < N → v'.1 q i = x) ∧ (∀ a, a ≠ q → v'.1 a = v.1 a) ∧ v'.2 = v.2) := by
  unfold f_J7_fill_53178
  refine wp_bd (wp_bx1 (wp_cnt (Z := fun v' => (∀ i, i < N → v'.1 q i = x) ∧ (∀ a, a ≠ q → v'.1 a = v.1 a) ∧ v'.2 = v.2) (fun i v' => (∀ k, k < i → v'.1 q k = x) ∧ (∀ a, a ≠ q → v'.1 a = v.1 a) ∧ v'.2 = v.2) N 0 v hN (Nat.zero_le _) ⟨fun k hk => absurd hk (Nat.not_lt_zero k), fun _ _ => rfl, rfl⟩ ?_ ?_) (fun v' h => wp_some h))
  · rintro i v' hi ⟨h1, h2, h3⟩
    show wp (f_J7_fill_53178_B5 N q x (nI i) (nI N) v') _
    unfold f_J7_fill_53178_B5
    refine wp_f (by rw [n_le (by omega) (by omega)]; omega) (wp_t (gin_N hi hN) (wp_bd (wp_some ⟨nI_1 i, fun k hk => ?_, fun a ha => ?_, h3⟩)))
    · rw [n_cl (by omega)]
      by_cases e : k = i
      · subst e; exact sI_s
      · show (sI v' q i x).1 q k = x
        rw [sI_o e]; exact h1 k (by omega)
    · show (sI v' q _ x).1 a = v.1 a
      rw [sI_n ha]; exact h2 a ha
  · rintro v' h
    show wp (f_J7_fill_53178_B5 N q x (nI N) (nI N) v') _
    unfold f_J7_fill_53178_B5
    exact wp_t (by rw [n_le (by omega) (by omega)]; exact Nat.le_refl _) (wp_some h)
theorem readBag_ok {v : gV} {q : Nat} {l : List Int32} (h : txR v q l) (hl : l.length ≤ 16) (hq : q = 2 ∨ q = 4) : wp (f_X6_readBag q v) (fun v' => bgR v' 13 (bag0 l) ∧ FB 13 v v') := by
  unfold f_X6_readBag
  have h1 : txR (sI v 13 1 0) q l := h.kept (sI_n (by omega)) (sI_n (by omega))
  have hF1 : FB 13 v (sI v 13 1 0) := ⟨fun a b _ => sI_n b, rfl⟩
  have e0 : (sI v 13 1 0).1 13 1 = 0 := sI_s
  generalize sI v 13 1 0 = v1 at h1 hF1 e0
  refine wp_bd (wp_bi (wp_of (faultAsBag_ok h1)) ?_)
  rintro r4 v2 ⟨rfl, rfl⟩
  have key : ∀ n, n ≤ l.length → wp (f_X6_readBag_J24 q (nI n) v1) (fun v' => bgR v' 13 ((l.take n).map kdb) ∧ FB 13 v v') := fun n hn => by
    unfold f_X6_readBag_J24
    refine wp_bx1 (wp_cnt (Z := fun v' => bgR v' 13 ((l.take n).map kdb) ∧ FB 13 v v') (fun i v' => bgR v' 13 ((l.take i).map kdb) ∧ FB 13 v1 v') n 0 v1 (by omega) (Nat.zero_le _) ⟨⟨by rw [e0]; rfl, by simp, fun i hi => by simp at hi⟩, FB.rf⟩ ?_ ?_) (fun v' h => wp_some h)
    · rintro i v' hi ⟨g1, g2⟩
      show wp (f_X6_readBag_B27 q (nI n) (nI i) v') _
      unfold f_X6_readBag_B27
      refine wp_f (by rw [n_le (by omega) (by omega)]; omega) (wp_t (gin_N (by have := h1.2.1; omega) (by have := txN_le q; omega)) ?_)
      rw [n_cl (by omega), g2.1 _ (by omega) (by omega), h1.2.2 i (by omega)]
      refine wp_bi (wp_of kindOf_ok) ?_
      rintro r3 v3 ⟨rfl, rfl⟩
      refine wp_bv (putAtBottom_ok (kdb (l.getD i 0)) g1 (by simp; omega)) ?_
      rintro v4 ⟨g3, g4⟩
      refine wp_some ⟨nI_1 i, ?_, g2.tr g4⟩
      have e : (l.take (i + 1)).map kdb = (l.take i).map kdb ++ [kdb (l.getD i 0)] := by
        rw [List.take_succ, List.map_append, List.getD_eq_getElem?_getD, List.getElem?_eq_getElem (by omega)]
        rfl
      rw [e]
      exact g3
    · rintro v' ⟨g1, g2⟩
      show wp (f_X6_readBag_B27 q (nI n) (nI n) v') _
      unfold f_X6_readBag_B27
      exact wp_t (by rw [n_le (by omega) (by omega)]; exact Nat.le_refl _) (wp_some ⟨g1, hF1.tr g2⟩)
  refine wp_if (fun c => ?_) (fun c => ?_)
  · rw [h1.1]
    have := key l.length (Nat.le_refl _)
    rw [List.take_length] at this
    unfold bag0
    rw [if_pos c]
    exact this
  · have := key 0 (Nat.zero_le _)
    unfold bag0
    rw [if_neg c]
    exact this
/-- bits of the stops -/
theorem placeOnBoard_ok {v : gV} {r B L : Nat} (hr : r < 8) (hB : B ≤ 9) (hL : L ≤ 9) (h8 : v.1 8 r = nI B) (h9 : v.1 9 r = nI L) : wp (f_X6_placeOnBoard (nI r) v) (fun v' => (∀ s, s < 10 → v'.1 11 s = if B ≤ s ∧ s < L then v.1 11 s ||| ((1 : Int32) <<< (nI r &&& 31)) else v.1 11 s) ∧ (∀ s, s < 10 → v'.1 12 s = if B < L ∧ L = s then v.1 12 s ||| ((1 : Int32) <<< (nI r &&& 31)) else v.1 12 s) ∧ (∀ q, q ≠ 11 → q ≠ 12 → v'.1 q = v.1 q) ∧ v'.2 = v.2) := by
  unfold f_X6_placeOnBoard
  refine wp_t (gin_N hr (by omega)) (wp_bd ?_)
  rw [n_cl (by omega), h8]
  have hloop : wp (lp (fun a : gV × Int32 => f_X6_placeOnBoard_B7 (nI r) a.2 a.1) fu (v, nI B)) (fun v' => (∀ s, s < 10 → v'.1 11 s = if B ≤ s ∧ s < L then v.1 11 s ||| ((1 : Int32) <<< (nI r &&& 31)) else v.1 11 s) ∧ (∀ q, q ≠ 11 → v'.1 q = v.1 q) ∧ v'.2 = v.2) := by
    rcases Nat.lt_or_ge L B with hLB | hLB
    · refine wp_lp (fun k a => a = (v, nI B)) ?_ fu 0 (v, nI B) rfl (fu_big (by omega))
      rintro k a rfl
      show wp (f_X6_placeOnBoard_B7 (nI r) (nI B) v) _
      unfold f_X6_placeOnBoard_B7
      rw [n_cl (by omega), h9]
      refine wp_t (gin_N hr (by omega)) (wp_t (by rw [n_le (by omega) (by omega)]; omega) (wp_some ⟨fun s hs => ?_, fun _ _ => rfl, rfl⟩))
      rw [if_neg (by omega)]
    · refine wp_cnt (fun i v' => B ≤ i ∧ (∀ s, s < 10 → v'.1 11 s = if B ≤ s ∧ s < i then v.1 11 s ||| ((1 : Int32) <<< (nI r &&& 31)) else v.1 11 s) ∧ (∀ q, q ≠ 11 → v'.1 q = v.1 q) ∧ v'.2 = v.2) L B v (by omega) hLB ⟨Nat.le_refl _, fun s hs => by rw [if_neg (by omega)], fun _ _ => rfl, rfl⟩ ?_ ?_
      · rintro i v' hi ⟨g0, g1, g2, g3⟩
        show wp (f_X6_placeOnBoard_B7 (nI r) (nI i) v') _
        unfold f_X6_placeOnBoard_B7
        rw [n_cl (by omega), g2 9 (by omega), h9]
        refine wp_t (gin_N hr (by omega)) (wp_f (by rw [n_le (by omega) (by omega)]; omega) (wp_t (gin_N (by omega) (by omega)) (wp_t (gin_N (by omega) (by omega)) (wp_bd (wp_some ⟨nI_1 i, by omega, fun s hs => ?_, fun q hq => ?_, g3⟩)))))
        · rw [n_cl (by omega)]
          show (sI v' 11 i _).1 11 s = _
          by_cases e : s = i
          · subst e
            rw [sI_s, g1 s hs, if_neg (by omega), if_pos (by omega)]
          · rw [sI_o e, g1 s hs]
            by_cases e2 : B ≤ s ∧ s < i
            · rw [if_pos e2, if_pos (by omega)]
            · rw [if_neg e2, if_neg (by omega)]
        · show (sI v' 11 _ _).1 q = _
          rw [sI_n hq]; exact g2 q hq
      · rintro v' ⟨g0, g1, g2, g3⟩
        show wp (f_X6_placeOnBoard_B7 (nI r) (nI L) v') _
        unfold f_X6_placeOnBoard_B7
        rw [n_cl (by omega), g2 9 (by omega), h9]
        exact wp_t (gin_N hr (by omega)) (wp_t (by rw [n_le (by omega) (by omega)]; exact Nat.le_refl _) (wp_some ⟨g1, g2, g3⟩))
  refine wp_bx1 hloop ?_
  rintro v2 ⟨g1, g2, g3⟩
  rw [g2 9 (by omega), g2 8 (by omega), g2 12 (by omega), h9, h8]
  refine wp_t (gin_N hr (by omega)) (wp_t (gin_N hr (by omega)) (wp_if (fun c => ?_) (fun c => ?_)))
  · rw [n_le (by omega) (by omega)] at c
    exact wp_some ⟨g1, fun s hs => by rw [g2 12 (by omega), if_neg (by omega)], fun q h1 _ => g2 q h1, g3⟩
  · rw [n_le (by omega) (by omega)] at c
    refine wp_t (gin_N hr (by omega)) (wp_t (gin_N (by omega) (by omega)) (wp_t (gin_N (by omega) (by omega)) (wp_bd (wp_some ⟨fun s hs => ?_, fun s hs => ?_, fun q h1 h2 => ?_, g3⟩))))
    · rw [sI_n (by omega)]; exact g1 s hs
    · rw [n_cl (by omega)]
      by_cases e : s = L
      · subst e
        rw [sI_s, if_pos (by omega)]
      · rw [sI_o e, if_neg (by omega), g2 12 (by omega)]
    · rw [sI_n h2]; exact g2 q h1
def TR (v : gV) (l : List Int32) : Prop := v.1 6 0 = nI (nRi l) ∧ (∀ r, r < nRi l → v.1 7 r = rSt l r ∧ v.1 8 r = nI (rBo l r) ∧ v.1 9 r = nI (rLv l r) ∧ v.1 10 r = rWt l r) ∧ (∀ s, s < 10 → ∀ r, r < nRi l → bt (v.1 11 s) r = decide (rBo l r ≤ s ∧ s < rLv l r) ∧ bt (v.1 12 s) r = decide (rBo l r < rLv l r ∧ rLv l r = s))
def FT (v v' : gV) : Prop := (∀ q, (q < 6 ∨ 12 < q) → v'.1 q = v.1 q) ∧ (∀ j, j ≠ 0 → v'.1 6 j = v.1 6 j) ∧ v'.2 = v.2
theorem readRiders_ok {v : gV} {q : Nat} {l : List Int32} (h : txR v q l) (hq : q = 2 ∨ q = 4) : wp (f_X6_readRiders q v) (fun v' => TR v' l ∧ FT v v') := by
  have hl : l.length ≤ 39 := Nat.le_trans h.2.1 (txN_le q)
  unfold f_X6_readRiders
  refine wp_bv (fill_ok (by omega)) ?_
  rintro v1 ⟨f1, f2, f3⟩
  refine wp_bv (fill_ok (by omega)) ?_
  rintro v2 ⟨f4, f5, f6⟩
  have h2 : txR v2 q l := h.kept (by rw [f5 _ (by omega), f2 _ (by omega)]) (by rw [f5 _ (by omega), f2 _ (by omega)])
  have z11 : ∀ s, s < 10 → v2.1 11 s = 0 := fun s hs => by rw [f5 _ (by omega)]; exact f1 s hs
  refine wp_bi (wp_of (faultAsRiders_ok h2)) ?_
  rintro r7 v3 ⟨rfl, rfl⟩
  have hn8 := nRi_le hl
  have key : wp (f_X6_readRiders_J37 q (nI (nRi l)) v2) (fun v' => TR v' l ∧ FT v v') := by
    unfold f_X6_readRiders_J37
    refine wp_bd (wp_bx1 (wp_cnt (Z := fun v' => TR v' l ∧ FT v v') (fun i v' => v'.1 6 0 = nI (nRi l) ∧ (∀ r, r < i → v'.1 7 r = rSt l r ∧ v'.1 8 r = nI (rBo l r) ∧ v'.1 9 r = nI (rLv l r) ∧ v'.1 10 r = rWt l r) ∧ (∀ s, s < 10 → ∀ r, r < 8 → bt (v'.1 11 s) r = (decide (r < i) && decide (rBo l r ≤ s ∧ s < rLv l r)) ∧ bt (v'.1 12 s) r = (decide (r < i) && decide (rBo l r < rLv l r ∧ rLv l r = s))) ∧ FT v v') (nRi l) 0 _ (by omega) (Nat.zero_le _) ⟨sI_s, fun r hr => absurd hr (Nat.not_lt_zero r), fun s hs r hr => ⟨?_, ?_⟩, ⟨fun a ha => ?_, fun j hj => ?_, ?_⟩⟩ ?_ ?_) (fun v' h => wp_some h))
    · rw [sI_n (by omega), z11 s hs, b_0]; rfl
    · rw [sI_n (by omega), f4 s hs, b_0]; rfl
    · rw [sI_n (by omega), f5 _ (by omega), f2 _ (by omega)]
    · rw [sI_o hj, f5 _ (by omega), f2 _ (by omega)]
    · rw [sI_2, f6, f3]
    · rintro i v' hi ⟨g1, g2, g3, g4⟩
      obtain ⟨r1, r2, r3, r4, r5, r6, r7⟩ := rid_ok hl hi
      have tx : txR v' q l := h.kept (g4.1 _ (by omega)) (g4.1 _ (by omega))
      have tl := tx.2.1
      have tN := txN_le q
      show wp (f_X6_readRiders_B42 q (nI i) v') _
      unfold f_X6_readRiders_B42
      rw [g1]
      simp only [l_5, l_1, l_2, l_3, n_mul, n_add]
      refine wp_f (by rw [n_le (by omega) (by omega)]; omega) (wp_t (gin_N (by omega) (by omega)) (wp_t (gin_N (by omega) (by omega)) (wp_bd (wp_t (gin_N (by omega) (by omega)) (wp_t (gin_N (by omega) (by omega)) (wp_bd (wp_t (gin_N (by omega) (by omega)) (wp_t (gin_N (by omega) (by omega)) (wp_bd (wp_t (gin_N (by omega) (by omega)) (wp_t (gin_N (by omega) (by omega)) (wp_bd ?_))))))))))))
      simp (disch := omega) only [n_cl, sI_n]
      rw [tx.2.2 _ (by omega), tx.2.2 _ (by omega), tx.2.2 _ (by omega), tx.2.2 _ (by omega)]
      have hw : ∀ w : gV, w = sI (sI (sI (sI v' 7 i (l.getD (5 * i) 0 - 97)) 8 i (l.getD (5 * i + 1) 0 - 48)) 9 i (l.getD (5 * i + 2) 0 - 48)) 10 i (l.getD (5 * i + 3) 0 - 97) → wp (bv (f_X6_placeOnBoard (nI i) w) (fun v5 => some (Sum.inl (v5, nI (i + 1))))) (SE (fun a' : gV × Int32 => a'.2 = nI (i + 1) ∧ a'.1.1 6 0 = nI (nRi l) ∧ (∀ r, r < i + 1 → a'.1.1 7 r = rSt l r ∧ a'.1.1 8 r = nI (rBo l r) ∧ a'.1.1 9 r = nI (rLv l r) ∧ a'.1.1 10 r = rWt l r) ∧ (∀ s, s < 10 → ∀ r, r < 8 → bt (a'.1.1 11 s) r = (decide (r < i + 1) && decide (rBo l r ≤ s ∧ s < rLv l r)) ∧ bt (a'.1.1 12 s) r = (decide (r < i + 1) && decide (rBo l r < rLv l r ∧ rLv l r = s))) ∧ FT v a'.1) (fun v' : gV => TR v' l ∧ FT v v')) := by
        intro w ew
        have w7 : ∀ k, w.1 7 k = if k = i then rSt l i else v'.1 7 k := fun k => by
          rw [ew, sI_n (by omega), sI_n (by omega), sI_n (by omega)]
          by_cases e : k = i
          · subst e; rw [sI_s, if_pos rfl]; rfl
          · rw [sI_o e, if_neg e]
        have w8 : ∀ k, w.1 8 k = if k = i then nI (rBo l i) else v'.1 8 k := fun k => by
          rw [ew, sI_n (by omega), sI_n (by omega)]
          by_cases e : k = i
          · subst e; rw [sI_s, if_pos rfl, r3]
          · rw [sI_o e, if_neg e, sI_n (by omega)]
        have w9 : ∀ k, w.1 9 k = if k = i then nI (rLv l i) else v'.1 9 k := fun k => by
          rw [ew, sI_n (by omega)]
          by_cases e : k = i
          · subst e; rw [sI_s, if_pos rfl, r5]
          · rw [sI_o e, if_neg e, sI_n (by omega), sI_n (by omega)]
        have w10 : ∀ k, w.1 10 k = if k = i then rWt l i else v'.1 10 k := fun k => by
          rw [ew]
          by_cases e : k = i
          · subst e; rw [sI_s, if_pos rfl]; rfl
          · rw [sI_o e, if_neg e, sI_n (by omega), sI_n (by omega), sI_n (by omega)]
        have wo : ∀ a, a ≠ 7 → a ≠ 8 → a ≠ 9 → a ≠ 10 → w.1 a = v'.1 a := fun a a1 a2 a3 a4 => by rw [ew, sI_n a4, sI_n a3, sI_n a2, sI_n a1]
        have w2 : w.2 = v'.2 := by rw [ew]; rfl
        refine wp_bv (placeOnBoard_ok (B := rBo l i) (L := rLv l i) (by omega) r4 r6 (by rw [w8, if_pos rfl]) (by rw [w9, if_pos rfl])) ?_
        rintro v5 ⟨p1, p2, p3, p4⟩
        refine wp_some ⟨rfl, ?_, fun r hr => ?_, fun s hs r hr => ⟨?_, ?_⟩, ⟨fun a ha => ?_, fun j hj => ?_, ?_⟩⟩
        · show v5.1 6 0 = _
          rw [p3 _ (by omega) (by omega), wo _ (by omega) (by omega) (by omega) (by omega)]; exact g1
        · show v5.1 7 r = _ ∧ v5.1 8 r = _ ∧ v5.1 9 r = _ ∧ v5.1 10 r = _
          rw [p3 7 (by omega) (by omega), p3 8 (by omega) (by omega), p3 9 (by omega) (by omega), p3 10 (by omega) (by omega), w7, w8, w9, w10]
          by_cases e : r = i
          · subst e; simp
          · simp only [if_neg e]; exact g2 r (by omega)
        · show bt (v5.1 11 s) r = _
          rw [p1 s hs, wo _ (by omega) (by omega) (by omega) (by omega)]
          have g := (g3 s hs r hr).1
          by_cases c : rBo l i ≤ s ∧ s < rLv l i
          · rw [if_pos c, bt_set (by omega) (by omega), g]
            by_cases e : r = i
            · subst e; simp [c]
            · simp [e, show (r < i + 1) = (r < i) by apply propext; omega]
          · rw [if_neg c, g]
            by_cases e : r = i
            · subst e
              have : ¬ (rBo l r ≤ s ∧ s < rLv l r) := c
              simp [this]
            · simp [show (r < i + 1) = (r < i) by apply propext; omega]
        · show bt (v5.1 12 s) r = _
          rw [p2 s hs, wo _ (by omega) (by omega) (by omega) (by omega)]
          have g := (g3 s hs r hr).2
          by_cases c : rBo l i < rLv l i ∧ rLv l i = s
          · rw [if_pos c, bt_set (by omega) (by omega), g]
            by_cases e : r = i
            · subst e; rw [decide_eq_true c]; simp
            · simp [e, show (r < i + 1) = (r < i) by apply propext; omega]
          · rw [if_neg c, g]
            by_cases e : r = i
            · subst e
              have : ¬ (rBo l r < rLv l r ∧ rLv l r = s) := c
              simp [this]
            · simp [show (r < i + 1) = (r < i) by apply propext; omega]
        · show v5.1 a = v.1 a
          rw [p3 _ (by omega) (by omega), wo _ (by omega) (by omega) (by omega) (by omega)]; exact g4.1 a ha
        · show v5.1 6 j = v.1 6 j
          rw [p3 _ (by omega) (by omega), wo _ (by omega) (by omega) (by omega) (by omega)]; exact g4.2.1 j hj
        · show v5.2 = v.2
          rw [p4, w2]; exact g4.2.2
      exact hw _ rfl
    · rintro v' ⟨g1, g2, g3, g4⟩
      show wp (f_X6_readRiders_B42 q (nI (nRi l)) v') _
      unfold f_X6_readRiders_B42
      rw [g1]
      refine wp_t (by rw [n_le (by omega) (by omega)]; exact Nat.le_refl _) (wp_some ⟨⟨g1, g2, fun s hs r hr => ?_⟩, g4⟩)
      have := g3 s hs r (by omega)
      simpa [hr] using this
  refine wp_if (fun c => ?_) (fun c => ?_)
  · rw [h2.1, l_1, l_5, n_add, n_div (by omega) (by omega) (by omega)]
    have e : (l.length + 1) / 5 = nRi l := by unfold nRi; rw [if_pos c]
    rw [e]
    exact key
  · have e : nRi l = 0 := by unfold nRi; rw [if_neg c]
    rw [e] at key
    exact key
