/-! THE REFERENCE: write, read -/
theorem lesser_M {u : gV} {x y : Nat} (hx : x < 2147483648) (hy : y < 2147483648) : f_X8_lesser (nI x) (nI y) u = some (nI (min x y), u) := by
  apply wp_is
  unfold f_X8_lesser
  refine wp_if (fun c1 => ?_) (fun c1 => ?_)
  · rw [n_le hy hx] at c1
    rw [show min x y = y by omega]; exact wp_some rfl
  · rw [n_le hy hx] at c1
    rw [show min x y = x by omega]; exact wp_some rfl
theorem write_M {u : gV} {a : Ab} {d s : Int32} (h : InvM u a) : OKM (f_X8_write d s u) (sp_write d s a) := by
  unfold OKM f_X8_write
  refine wp_gt isDay_M (fun g1 => ?_) (fun g1 => wp_gt isSheet_M (fun g2 => ?_) (fun g2 => ?_))
  · have hs : sp_write d s a = (-2, a) := by unfold sp_write; rw [if_neg (fun q => by rw [g1] at q; exact Bool.false_ne_true q.1)]
    rw [hs]; exact wp_some ⟨rfl, h⟩
  · have hs : sp_write d s a = (-2, a) := by unfold sp_write; rw [if_neg (fun q => by rw [g2] at q; exact Bool.false_ne_true q.2)]
    rw [hs]; exact wp_some ⟨rfl, h⟩
  · obtain ⟨k, hk, -, rfl, ck⟩ := gin_cl g1
    obtain ⟨m, hm, -, rfl, cm⟩ := gin_cl g2
    obtain ⟨hF, hN⟩ := h.1.2.2.2.2.2.2.2.2 m hm
    obtain ⟨e0, -⟩ := h.2.2.2.2.2.2.2.2.2.1 m hm
    rw [ck, cm, e0]
    refine wp_t g2 (wp_if (fun c1 => ?_) (fun c1 => ?_))
    · rw [frm_p hF] at c1
      have hs : sp_write (nI k) (nI m) a = (nI (min (aSN a m) (beh a k).1.2.1.length), shF m (aSF a m) (aSN a m) (wrt (aSF a m) (beh a k).1.2.1 (min (aSN a m) (beh a k).1.2.1.length) (aSI a m)) a) := by
        unfold sp_write
        rw [if_pos ⟨g1, g2⟩, ck, cm, if_neg c1]
      rw [hs]
      refine wp_bv (reads_M h) ?_
      rintro u1 ⟨h1, h2⟩
      obtain ⟨-, -, b3, b4, b5⟩ := h2.1 k hk
      have b3 : u1.1 16 k = nI (beh a k).1.2.1.length := b3
      have b4 : (beh a k).1.2.1.length ≤ 29 := b4
      have b5 : ∀ i, i < (beh a k).1.2.1.length → u1.1 17 (29 * k + i) = (beh a k).1.2.1.getD i 0 := b5
      generalize (beh a k).1.2.1 = l at *
      obtain ⟨e0, e1⟩ := h1.1.2.2.2.2.2.2.2.2.2.1 m hm
      obtain ⟨e1, e2⟩ := e1 c1
      rw [e1, b3]
      refine wp_t g2 (wp_t g1 (wp_bi (wp_of (lesser_M (by omega) (by omega))) ?_))
      rintro r3 v3 ⟨rfl, rfl⟩
      generalize hM : min (aSN a m) l.length = M
      refine wp_bx1 (wp_cnt (Z := fun v' => InvM v' (shF m (aSF a m) (aSN a m) (wrt (aSF a m) l M (aSI a m)) a)) (fun x v' => (∀ q, q ≠ 3 → v'.1 q = u1.1 q) ∧ (∀ j, (j < 60 * m ∨ 60 * m + 60 ≤ j) → v'.1 3 j = u1.1 3 j) ∧ ∀ y, y < aSN a m → v'.1 3 (60 * m + y) = wrt (aSF a m) l x (aSI a m) y) M 0 u1 (by omega) (Nat.zero_le _) ⟨fun _ _ => rfl, fun _ _ => rfl, fun y hy => ?_⟩ ?_ ?_) (fun v' hv => wp_some ⟨rfl, hv⟩)
      · unfold wrt
        rw [if_neg (Nat.not_lt_zero y)]
        exact e2 y hy
      · rintro x v4 hx ⟨f1, f2, f3⟩
        show wp (f_X8_write_B55 (nI k) (nI m) (nI M) (nI x) v4) _
        unfold f_X8_write_B55
        rw [l_29, l_60, n_mul, n_mul, n_add, n_add, n_cl (a := m) (by omega), n_cl (a := 29 * k + x) (by omega), n_cl (a := 60 * m + x) (by omega), f1 1 (by omega), f1 17 (by omega), e0, b5 x (by omega)]
        refine wp_f (by rw [n_le (by omega) (by omega)]; omega) (wp_t g2 (wp_t (gin_N (by omega) (by omega)) (wp_bi (wp_of cut_M) ?_)))
        rintro r5 v5 ⟨rfl, rfl⟩
        refine wp_t (gin_N (by omega) (by omega)) (wp_bd (wp_some ⟨nI_1 x, fun q hq => ?_, fun j hj => ?_, fun y hy => ?_⟩))
        · show (sI v4 3 _ _).1 q = _
          rw [sI_n hq]; exact f1 q hq
        · show (sI v4 3 _ _).1 3 j = _
          rw [sI_o (by omega)]; exact f2 j hj
        · show (sI v4 3 _ _).1 3 (60 * m + y) = _
          unfold wrt at f3 ⊢
          by_cases e : y = x
          · subst e
            rw [sI_s, if_pos (by omega)]
          · rw [sI_o (by omega), f3 y hy]
            by_cases z : y < x
            · rw [if_pos z, if_pos (by omega)]
            · rw [if_neg z, if_neg (by omega)]
      · rintro v4 ⟨f1, f2, f3⟩
        show wp (f_X8_write_B55 (nI k) (nI m) (nI M) (nI M) v4) _
        unfold f_X8_write_B55
        refine wp_t (by rw [n_le (by omega) (by omega)]; omega) (wp_some ?_)
        exact shM h1.1 (fun q _ _ q3 _ => f1 q q3) (fun j _ => by rw [f1 1 (by omega)]) (fun j _ => by rw [f1 2 (by omega)]) f2 hm hF hN (by rw [f1 1 (by omega)]; exact e0) (fun _ => ⟨by rw [f1 2 (by omega)]; exact e1, f3⟩)
    · rw [frm_p hF] at c1
      have c1 : aSF a m = -1 := Decidable.byContradiction c1
      have hs : sp_write (nI k) (nI m) a = fnd 1 a := by
        unfold sp_write
        rw [if_pos ⟨g1, g2⟩, ck, cm, if_pos c1]
      rw [hs]; exact finds_M h
theorem read_M {u : gV} {a : Ab} {s : Int32} (h : InvM u a) : OKM (f_X8_read s u) (sp_read s a) := by
  unfold OKM f_X8_read
  refine wp_gt isSheet_M (fun g1 => ?_) (fun g1 => ?_)
  · have hs : sp_read s a = (-2, a) := by unfold sp_read; rw [if_neg (by rw [g1]; exact Bool.false_ne_true)]
    rw [hs]; exact wp_some ⟨rfl, h⟩
  · obtain ⟨k, hk, -, rfl, ck⟩ := gin_cl g1
    obtain ⟨hF, hN⟩ := h.1.2.2.2.2.2.2.2.2 k hk
    obtain ⟨e0, -⟩ := h.2.2.2.2.2.2.2.2.2.1 k hk
    rw [ck, e0]
    refine wp_t g1 (wp_if (fun c1 => ?_) (fun c1 => ?_))
    · rw [frm_p hF] at c1
      have hs : sp_read (nI k) a = (nI (rd (aSI a k) (aSN a k) 20 0 (aS a)).1, sees (rd (aSI a k) (aSN a k) 20 0 (aS a)).2 a) := by unfold sp_read; rw [if_pos g1, ck, if_neg c1]
      rw [hs]
      generalize hR : rd (aSI a k) (aSN a k) 20 0 (aS a) = R
      refine wp_bx2 (wp_lp (Z := fun z => z.2 = nI R.1 ∧ InvM z.1 (sees R.2 a)) (fun m z => ∃ x l, x ≤ 20 ∧ z.2.1 = nI x ∧ InvM z.1 (sees l a) ∧ ((z.2.2 = 0 ∧ R = (x, l)) ∨ (z.2.2 = 1 ∧ 21 - x ≤ m ∧ rd (aSI a k) (aSN a k) (20 - x) x l = R))) ?_ fu 21 _ ⟨0, aS a, by omega, rfl, h, Or.inr ⟨rfl, by omega, hR⟩⟩ (fu_big (by omega))) ?_
      · rintro m ⟨v2, y, z⟩ ⟨x, l, hx, e1, hI, hr⟩
        have e1 : y = nI x := e1
        have hI : InvM v2 (sees l a) := hI
        subst e1
        show wp (f_X8_read_B29 (nI k) (nI x) z v2) _
        unfold f_X8_read_B29
        rcases hr with ⟨e2, e3⟩ | ⟨e2, hm, hr⟩
        · rw [e3]
          exact wp_t e2 (wp_some ⟨rfl, hI⟩)
        · have e2 : z = 1 := e2
          subst e2
          refine wp_f (by decide) (wp_t g1 ?_)
          obtain ⟨d0, d1⟩ := hI.2.2.2.2.2.2.2.2.2.1 k hk
          obtain ⟨d1, d2⟩ := d1 c1
          have d1 : v2.1 2 k = nI (aSN a k) := d1
          have d2 : ∀ j, j < aSN a k → v2.1 3 (60 * k + j) = aSI a k j := d2
          have hl : l.length ≤ 8 := hI.1.2.2.2.2.2.2.1
          rw [ck, d1, l_3, l_60, n_mul, n_mul, n_add, n_add]
          have out : ∀ (q : ¬ ((3 * x + 3 ≤ aSN a k ∧ l.length < 8) ∧ okT (aSI a k (3 * x)) (aSI a k (3 * x + 1)) (aSI a k (3 * x + 2)) = true)), R = (x, l) := fun q => by
            rw [← hr]
            rcases Nat.eq_zero_or_pos (20 - x) with z | z
            · rw [z]; rfl
            · rw [show 20 - x = (20 - x - 1) + 1 by omega, rd, if_neg q]
          refine wp_if (fun c2 => ?_) (fun c2 => ?_)
          · rw [n_lt (by omega) (by omega)] at c2
            rw [out (fun q => by omega)]
            exact wp_some ⟨rfl, hI⟩
          · rw [n_lt (by omega) (by omega)] at c2
            refine wp_bd ?_
            rw [l_1, l_2, n_add, n_add, n_cl (a := 60 * k + 3 * x) (by omega), n_cl (a := 60 * k + 3 * x + 1) (by omega), n_cl (a := 60 * k + 3 * x + 2) (by omega), d2 (3 * x) (by omega), show 60 * k + 3 * x + 1 = 60 * k + (3 * x + 1) by omega, d2 (3 * x + 1) (by omega), show 60 * k + 3 * x + 2 = 60 * k + (3 * x + 2) by omega, d2 (3 * x + 2) (by omega)]
            refine wp_t (gin_N (by omega) (by omega)) (wp_t (gin_N (by omega) (by omega)) (wp_t (gin_N (by omega) (by omega)) (wp_bi (seen_M hI) ?_)))
            rintro r4 v4 ⟨y1, y2, -⟩
            have z1 : r4 = (sp_seen (aSI a k (3 * x)) (aSI a k (3 * x + 1)) (aSI a k (3 * x + 2)) (sees l a)).1 := y1
            have z2 : InvM v4 (sp_seen (aSI a k (3 * x)) (aSI a k (3 * x + 1)) (aSI a k (3 * x + 2)) (sees l a)).2 := y2
            unfold f_X8_read_J94 f_X8_read_J105
            obtain ⟨m', rfl⟩ : ∃ m', m = m' + 1 := ⟨m - 1, by omega⟩
            by_cases c3 : okT (aSI a k (3 * x)) (aSI a k (3 * x + 1)) (aSI a k (3 * x + 2)) = true
            · by_cases c4 : l.length = 8
              · have hsp : sp_seen (aSI a k (3 * x)) (aSI a k (3 * x + 1)) (aSI a k (3 * x + 2)) (sees l a) = (-4, sees l a) := by unfold sp_seen; rw [if_pos c3, if_pos (show (aS (sees l a)).length = 8 from c4)]
                rw [hsp] at z1 z2
                have hn := out (fun q => by omega)
                subst z1
                refine wp_t (by show (-4 : Int32) < 0; decide) (wp_t rfl (wp_bd (wp_some ⟨m', rfl, x, l, hx, ?_, z2, Or.inl ⟨rfl, hn⟩⟩)))
                show nI x + 0 = nI x
                rw [l_0, n_add]; rfl
              · have hsp : sp_seen (aSI a k (3 * x)) (aSI a k (3 * x + 1)) (aSI a k (3 * x + 2)) (sees l a) = (nI (l.length + 1), sees (l ++ [((aSI a k (3 * x)).toNatClampNeg, (aSI a k (3 * x + 1)).toNatClampNeg, (aSI a k (3 * x + 2)).toNatClampNeg)]) (sees l a)) := by unfold sp_seen; rw [if_pos c3, if_neg (show ¬ (aS (sees l a)).length = 8 from c4)]; rfl
                rw [hsp] at z1 z2
                have hr2 : rd (aSI a k) (aSN a k) (20 - (x + 1)) (x + 1) (l ++ [((aSI a k (3 * x)).toNatClampNeg, (aSI a k (3 * x + 1)).toNatClampNeg, (aSI a k (3 * x + 2)).toNatClampNeg)]) = R := by
                  rw [← hr]
                  rw [show 20 - x = (20 - (x + 1)) + 1 by omega, rd, if_pos ⟨⟨by omega, by omega⟩, c3⟩]
                subst z1
                refine wp_f (by show ¬ nI (l.length + 1) < 0; rw [l_0, n_lt (by omega) (by omega)]; omega) (wp_f (by decide) (wp_bd (wp_some ⟨m', rfl, x + 1, _, by omega, ?_, z2, Or.inr ⟨rfl, by omega, hr2⟩⟩)))
                exact nI_1 x
            · have hsp : sp_seen (aSI a k (3 * x)) (aSI a k (3 * x + 1)) (aSI a k (3 * x + 2)) (sees l a) = (-2, sees l a) := by unfold sp_seen; rw [if_neg c3]
              rw [hsp] at z1 z2
              have hn := out (fun q => c3 q.2)
              subst z1
              refine wp_t (by show (-2 : Int32) < 0; decide) (wp_t rfl (wp_bd (wp_some ⟨m', rfl, x, l, hx, ?_, z2, Or.inl ⟨rfl, hn⟩⟩)))
              show nI x + 0 = nI x
              rw [l_0, n_add]; rfl
      · rintro v2 y ⟨e1, e2⟩
        exact wp_some ⟨e1, e2⟩
    · rw [frm_p hF] at c1
      have c1 : aSF a k = -1 := Decidable.byContradiction c1
      have hs : sp_read (nI k) a = fnd 1 a := by unfold sp_read; rw [if_pos g1, ck, if_pos c1]
      rw [hs]; exact finds_M h
