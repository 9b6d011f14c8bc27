/-! THE CALLS: copy, write, read -/
theorem has_of {N : Nat} {i n : Int32} (h : hasI N i n = true) (hN : N ≤ 60) : ∃ i' n' : Nat, i = nI i' ∧ n = nI n' ∧ i' + n' ≤ N := by
  have h := of_decide_eq_true h
  obtain ⟨i', h1, rfl, -⟩ := i_of h.1
  obtain ⟨n', h2, rfl, -⟩ := i_of h.2.1
  rw [n_ti h1, n_ti h2] at h
  exact ⟨i', n', rfl, rfl, by omega⟩
theorem copy_X {v : gV} {a : Ab} {c : Nat} {s i t j n : Int32} (h : InvX v a c) (hc : c < 999980) : OKX (f_X7_copy s i t j n v) (sp_copy s i t j n a) c := by
  unfold OKX f_X7_copy
  refine wp_out 4 (by omega) (fun g1 => wp_out 4 (by omega) (fun g2 => ?_) (fun g2 => ?_)) (fun g1 => ?_)
  · obtain ⟨k, hk, -, rfl, ck⟩ := gin_cl g1
    obtain ⟨m, hm, -, rfl, cm⟩ := gin_cl g2
    obtain ⟨hF, hN⟩ := h.1.2.2.2.2.2.2.2.2 k hk
    obtain ⟨hF', hN'⟩ := h.1.2.2.2.2.2.2.2.2 m hm
    obtain ⟨e0, e1⟩ := h.2.2.2.2.2.2.2.1 k hk
    obtain ⟨e0', e1'⟩ := h.2.2.2.2.2.2.2.1 m hm
    refine wp_gaS hk (wp_bi (wp_of (isLost_ok h hk)) ?_)
    rintro r v1 ⟨rfl, rfl⟩
    refine wp_if (fun c1 => ?_) (fun c1 => ?_)
    · rw [b2_0] at c1
      have c1 := of_decide_eq_false c1
      refine wp_gaS hm (wp_bi (wp_of (isLost_ok h hm)) ?_)
      rintro r v1 ⟨rfl, rfl⟩
      refine wp_if (fun c2 => ?_) (fun c2 => ?_)
      · rw [b2_0] at c2
        have c2 := of_decide_eq_false c2
        obtain ⟨e1, e2⟩ := e1 c1
        obtain ⟨e1', e2'⟩ := e1' c2
        refine wp_gaS hk (wp_gaS hm ?_)
        rw [e0, e0']
        refine wp_if (fun c3 => ?_) (fun c3 => ?_)
        · have hs : sp_copy (nI k) i (nI m) j n a = (if hasI (aSN a k) i n = true ∧ hasI (aSN a m) j n = true then (1, shF m (aSF a m) (aSN a m) (va_cpy (aSI a k) (aSI a m) (i.toNatClampNeg) (j.toNatClampNeg) (n.toNatClampNeg)) a) else fnd 2 a) := by
            unfold sp_copy
            rw [if_pos ⟨g1, g2⟩, ck, cm, if_neg (fun q => q.elim c1 c2), if_pos c3]
          rw [hs]
          refine wp_gaS hk (wp_bi (wp_of (hasItems_ok e1 hN)) ?_)
          rintro r v2 ⟨rfl, rfl⟩
          refine wp_if (fun c4 => ?_) (fun c4 => ?_)
          · rw [b2_0] at c4
            rw [if_neg (fun q => by rw [c4] at q; exact Bool.false_ne_true q.1)]
            exact find_then h hc
          · rw [b2_0] at c4
            have c4 : hasI (aSN a k) i n = true := by simpa using c4
            refine wp_gaS hm (wp_bi (wp_of (hasItems_ok e1' hN')) ?_)
            rintro r v3 ⟨rfl, rfl⟩
            refine wp_if (fun c5 => ?_) (fun c5 => ?_)
            · rw [b2_0] at c5
              rw [if_neg (fun q => by rw [c5] at q; exact Bool.false_ne_true q.2)]
              exact find_then h hc
            · rw [b2_0] at c5
              have c5 : hasI (aSN a m) j n = true := by simpa using c5
              rw [if_pos ⟨c4, c5⟩]
              obtain ⟨i', n', rfl, rfl, q1⟩ := has_of c4 hN
              obtain ⟨j', n2, rfl, q3, q2⟩ := has_of c5 hN'
              have q3 : n' = n2 := by
                have d5 := (of_decide_eq_true c5).2.2
                have d4 := (of_decide_eq_true c4)
                have := congrArg Int32.toInt q3
                rw [n_ti (n := n2) (by omega)] at this
                rcases Nat.lt_or_ge n' 2147483648 with z | z
                · rw [n_ti z] at this; omega
                · omega
              subst q3
              refine wp_gaS hk (wp_gaS hm (wp_t (decide_eq_true ?_) (wp_bd (wp_some ⟨rfl, ?_⟩))))
              · rw [n_ti (n := i') (by omega), n_ti (n := j') (by omega), n_ti (n := n') (by omega)]
                omega
              · rw [n_cl (a := i') (by omega), n_cl (a := j') (by omega), n_cl (a := n') (by omega)]
                refine (h.sh (fun q q1 q2 => sA_n q2) rfl hm hF' hN' (by rw [sA_n (by omega)]; exact e0') (fun _ => ⟨by rw [sA_n (by omega)]; exact e1', fun x hx => ?_⟩)).mono (Nat.le_succ c) (by omega)
                rw [sA_s]
                unfold va_cpy
                by_cases z : j' ≤ x ∧ x < j' + n'
                · rw [if_pos z, if_pos z]; exact e2 _ (by omega)
                · rw [if_neg z, if_neg z]; exact e2' _ hx
        · have hs : sp_copy (nI k) i (nI m) j n a = fnd 4 a := by
            unfold sp_copy
            rw [if_pos ⟨g1, g2⟩, ck, cm, if_neg (fun q => q.elim c1 c2), if_neg c3]
          rw [hs]
          exact find_then h hc
      · rw [b2_0] at c2
        have c2 := ne_d c2
        have hs : sp_copy (nI k) i (nI m) j n a = fnd 1 a := by
          unfold sp_copy
          rw [if_pos ⟨g1, g2⟩, ck, cm, if_pos (Or.inr c2)]
        rw [hs]
        exact find_then h hc
    · rw [b2_0] at c1
      have c1 := ne_d c1
      have hs : sp_copy (nI k) i (nI m) j n a = fnd 1 a := by
        unfold sp_copy
        rw [if_pos ⟨g1, g2⟩, ck, cm, if_pos (Or.inl c1)]
      rw [hs]
      exact find_then h hc
  · have hs : sp_copy s i t j n a = (-2, a) := by unfold sp_copy; rw [if_neg (fun q => g2 q.2)]
    rw [hs]
    exact wp_some (OKX.same h (by omega))
  · have hs : sp_copy s i t j n a = (-2, a) := by unfold sp_copy; rw [if_neg (fun q => g1 q.1)]
    rw [hs]
    exact wp_some (OKX.same h (by omega))
theorem kB_lt {b : Nat} (h : kB b = true) : b < 92 := by
  unfold kB at h
  simp at h
  omega
theorem write_X {v : gV} {a : Ab} {c : Nat} {d s : Int32} (h : InvX v a c) (hc : c < 999980) : OKX (f_X7_write d s v) (sp_write d s a) c := by
  unfold OKX f_X7_write
  refine wp_out 10 (by omega) (fun g1 => wp_out 4 (by omega) (fun g2 => ?_) (fun g2 => ?_)) (fun g1 => ?_)
  · obtain ⟨k, hk, -, rfl, ck⟩ := gin_cl g1
    obtain ⟨m, hm, -, rfl, cm⟩ := gin_cl g2
    obtain ⟨hF, hN⟩ := h.1.2.2.2.2.2.2.2.2 m hm
    obtain ⟨e0, e1⟩ := h.2.2.2.2.2.2.2.1 m hm
    refine wp_gaS hm (wp_bi (wp_of (isLost_ok h hm)) ?_)
    rintro r v1 ⟨rfl, rfl⟩
    refine wp_if (fun c1 => ?_) (fun c1 => ?_)
    · rw [b2_0] at c1
      have c1 := of_decide_eq_false c1
      obtain ⟨e1, e2⟩ := e1 c1
      have hs : sp_write (nI k) (nI m) a = (nI (min (aSN a m) (beh a k).1.2.1.length), shF m (aSF a m) (aSN a m) (wrt (aSF a m) (beh a k).1.2.1 (min (aSN a m) (beh a k).1.2.1.length) (aSI a m)) a) := by
        unfold sp_write
        rw [if_pos ⟨g1, g2⟩, ck, cm, if_neg c1]
      rw [hs]
      refine wp_br (bagOn_ok rfl h.2.2.2.2.2.1 hk) ?_
      rintro g v2 ⟨z1, z2, z3⟩
      have z1 : v2 = v := z1
      have z2 : kB g = true := z2
      have z3 : bgR v g (beh a k).1.2.1 := z3
      subst z1
      refine ⟨z2, wp_gaS hm ?_⟩
      generalize (beh a k).1.2.1 = l at z3
      have zl := z3.2.1
      have hg := kB_lt z2
      rw [e1, z3.1]
      refine wp_bi (wp_of (min_ok (by omega) (by omega))) ?_
      rintro r3 v3 ⟨rfl, rfl⟩
      generalize hM : min (aSN a m) l.length = M
      refine wp_bx1 (wp_cnt (Z := fun v' => InvX v' (shF m (aSF a m) (aSN a m) (wrt (aSF a m) l M (aSI a m)) a) c) (fun x v' => (∀ q, q ≠ 100 + 2 * m + 1 → v'.1 q = v2.1 q) ∧ v'.2 = v2.2 ∧ ∀ y, y < aSN a m → v'.1 (100 + 2 * m + 1) y = wrt (aSF a m) l x (aSI a m) y) M 0 v2 (by omega) (Nat.zero_le _) ⟨fun _ _ => rfl, rfl, fun y hy => ?_⟩ ?_ ?_) (fun v' hv => wp_some ⟨rfl, hv.mono (Nat.le_succ c) (by omega)⟩)
      · unfold wrt
        rw [if_neg (Nat.not_lt_zero y)]
        exact e2 y hy
      · rintro x v4 hx ⟨f1, f2, f3⟩
        show wp (f_X7_write_B68 (nI m) g (nI M) (nI x) v4) _
        unfold f_X7_write_B68
        refine wp_f (by rw [n_le (by omega) (by omega)]; omega) (wp_gaS hm (wp_t (gin_N (by omega) (by omega)) (wp_bv (wp_of (put_ok (f := aSF a m) (N := aSN a m) (by rw [f1 _ (by omega)]; exact e0) (by rw [f1 _ (by omega)]; exact e1) hN (by omega))) ?_)))
        rintro v5 rfl
        refine wp_some ⟨nI_1 x, fun q hq => ?_, f2, fun y hy => ?_⟩
        · show (sI v4 _ _ _).1 q = _
          rw [sI_n hq]; exact f1 q hq
        · show (sI v4 _ _ _).1 (100 + 2 * m + 1) y = _
          unfold wrt at f3 ⊢
          by_cases e : y = x
          · subst e
            rw [sI_s, if_pos (by omega), n_cl (by omega), f1 _ (by omega), z3.2.2 y (by omega)]
          · rw [sI_o e, f3 y hy]
            by_cases z : y < x
            · rw [if_pos z, if_pos (by omega)]
            · rw [if_neg z, if_neg (by omega)]
      · rintro v4 ⟨f1, f2, f3⟩
        show wp (f_X7_write_B68 (nI m) g (nI M) (nI M) v4) _
        unfold f_X7_write_B68
        refine wp_t (by rw [n_le (by omega) (by omega)]; omega) (wp_some ?_)
        exact h.sh (fun q q1 q2 => f1 q q2) f2 hm hF hN (by rw [f1 _ (by omega)]; exact e0) (fun _ => ⟨by rw [f1 _ (by omega)]; exact e1, f3⟩)
    · rw [b2_0] at c1
      have c1 := ne_d c1
      have hs : sp_write (nI k) (nI m) a = fnd 1 a := by
        unfold sp_write
        rw [if_pos ⟨g1, g2⟩, ck, cm, if_pos c1]
      rw [hs]
      exact find_then h hc
  · have hs : sp_write d s a = (-2, a) := by unfold sp_write; rw [if_neg (fun q => g2 q.2)]
    rw [hs]
    exact wp_some (OKX.same h (by omega))
  · have hs : sp_write d s a = (-2, a) := by unfold sp_write; rw [if_neg (fun q => g1 q.1)]
    rw [hs]
    exact wp_some (OKX.same h (by omega))
theorem read_X {v : gV} {a : Ab} {c : Nat} {s : Int32} (h : InvX v a c) (hc : c < 999980) : OKX (f_X7_read s v) (sp_read s a) c := by
  unfold OKX f_X7_read
  refine wp_out 4 (by omega) (fun g1 => ?_) (fun g1 => ?_)
  · obtain ⟨k, hk, -, rfl, ck⟩ := gin_cl g1
    obtain ⟨hF, hN⟩ := h.1.2.2.2.2.2.2.2.2 k hk
    refine wp_gaS hk (wp_bi (wp_of (isLost_ok h hk)) ?_)
    rintro r v1 ⟨rfl, rfl⟩
    refine wp_if (fun c1 => ?_) (fun c1 => ?_)
    · rw [b2_0] at c1
      have c1 := of_decide_eq_false c1
      have hs : sp_read (nI k) a = (nI (rd (aSI a k) (aSN a k) 20 0 (aS a)).1, sees (rd (aSI a k) (aSN a k) 20 0 (aS a)).2 a) := by unfold sp_read; rw [if_pos g1, ck, if_neg c1]
      rw [hs]
      generalize hR : rd (aSI a k) (aSN a k) 20 0 (aS a) = R
      refine wp_gaS hk (wp_bs2 (Q0 := SE (fun z : gV × Int32 => z.2 = nI R.1 ∧ InvX z.1 (sees R.2 a) c) (fun _ : Int32 × gV => False)) (wp_lp (fun m z => ∃ x l, m = 20 - x ∧ x ≤ 20 ∧ z.2.1 = nI x ∧ z.2.2 = nI (3 * x) ∧ InvX z.1 (sees l a) c ∧ rd (aSI a k) (aSN a k) (20 - x) x l = R) ?_ fu 20 _ ⟨0, aS a, rfl, by omega, rfl, rfl, h, hR⟩ (fu_big (by omega))) ?_ ?_)
      · rintro m ⟨v2, y, z⟩ ⟨x, l, rfl, hx, e1, e2, hI, hr⟩
        have e1 : y = nI x := e1
        have e2 : z = nI (3 * x) := e2
        have hI : InvX v2 (sees l a) c := hI
        subst e1 e2
        show wp (f_X7_read_B44 (nI k) (100 + 2 * k + 1) (nI x) (nI (3 * x)) v2) _
        unfold f_X7_read_B44
        obtain ⟨d0, d1⟩ := hI.2.2.2.2.2.2.2.1 k hk
        obtain ⟨d1, d2⟩ := d1 c1
        have d1 : v2.1 (100 + 2 * k) 1 = nI (aSN a k) := d1
        have d2 : ∀ j, j < aSN a k → v2.1 (100 + 2 * k + 1) j = aSI a k j := d2
        have hl : l.length ≤ 8 := hI.1.2.2.2.2.2.2.1
        have hSN : SNi v2 l := hI.2.2.2.2.2.2.1
        refine wp_gaS hk ?_
        rw [d1, l_3, l_1, l_2, n_add, n_add, n_add]
        have out : ∀ (q : ¬ ((3 * x + 3 ≤ aSN a k ∧ l.length < 8) ∧ okT (aSI a k (3 * x)) (aSI a k (3 * x + 1)) (aSI a k (3 * x + 2)) = true)), R = (x, l) := fun q => by
          rw [← hr]
          rcases Nat.eq_zero_or_pos (20 - x) with z | z
          · rw [z]; rfl
          · rw [show 20 - x = (20 - x - 1) + 1 by omega, rd, if_neg q]
        refine wp_if (fun c2 => ?_) (fun c2 => ?_)
        · rw [n_lt (by omega) (by omega)] at c2
          rw [out (fun q => by omega)]
          exact wp_some ⟨rfl, hI⟩
        · rw [n_lt (by omega) (by omega)] at c2
          refine wp_bi (wp_of (sn_full hSN hl)) ?_
          rintro r3 v3 ⟨rfl, rfl⟩
          refine wp_if (fun c3 => ?_) (fun c3 => ?_)
          · rw [b2_0] at c3
            have c3 := of_decide_eq_false c3
            refine wp_t (gin_N (by omega) (by omega)) (wp_t (gin_N (by omega) (by omega)) (wp_t (gin_N (by omega) (by omega)) ?_))
            rw [n_cl (a := 3 * x) (by omega), n_cl (a := 3 * x + 1) (by omega), n_cl (a := 3 * x + 2) (by omega), d2 _ (by omega), d2 _ (by omega), d2 _ (by omega)]
            refine wp_bi (wp_of mayBe_ok) ?_
            rintro r4 v4 ⟨rfl, rfl⟩
            refine wp_if (fun c4 => ?_) (fun c4 => ?_)
            · rw [b2_0] at c4
              rw [out (fun q => by rw [c4] at q; exact Bool.false_ne_true q.2)]
              exact wp_some ⟨rfl, hI⟩
            · rw [b2_0] at c4
              have c4 : okT (aSI a k (3 * x)) (aSI a k (3 * x + 1)) (aSI a k (3 * x + 2)) = true := by simpa using c4
              refine wp_t (gin_N (by omega) (by omega)) (wp_t (gin_N (by omega) (by omega)) (wp_t (gin_N (by omega) (by omega)) ?_))
              rw [d2 _ (by omega), d2 _ (by omega), d2 _ (by omega)]
              have hr2 : rd (aSI a k) (aSN a k) (20 - (x + 1)) (x + 1) (l ++ [((aSI a k (3 * x)).toNatClampNeg, (aSI a k (3 * x + 1)).toNatClampNeg, (aSI a k (3 * x + 2)).toNatClampNeg)]) = R := by
                rw [← hr]
                rw [show 20 - x = (20 - (x + 1)) + 1 by omega, rd, if_pos ⟨⟨by omega, by omega⟩, c4⟩]
              obtain ⟨d', r', y', q1, q2, q3, p1, p2, p3, z1, z2, z3⟩ := okT_of c4
              rw [z1, z2, z3] at hr2
              rw [p1, p2, p3]
              refine wp_bv (sn_append hSN (by omega)) ?_
              rintro v7 ⟨w1, w2, w3⟩
              obtain ⟨k1, k2⟩ := sees_ok hI.1 (d := d') (r := r') (y := y') (show l.length < 8 by omega) q1 q2 q3
              refine wp_some ⟨20 - (x + 1), by omega, x + 1, l ++ [(d', r', y')], rfl, by omega, nI_1 x, ?_, ?_, hr2⟩
              · show nI (3 * x + 3) = _
                rfl
              · exact hI.sees w2 w3 k1 k2 w1
          · rw [b2_0] at c3
            have c3 := ne_d c3
            rw [out (fun q => by omega)]
            exact wp_some ⟨rfl, hI⟩
      · rintro v2 y ⟨e1, e2⟩
        exact wp_some ⟨e1, e2.mono (Nat.le_succ c) (by omega)⟩
      · rintro b hb
        exact absurd hb id
    · rw [b2_0] at c1
      have c1 := ne_d c1
      have hs : sp_read (nI k) a = fnd 1 a := by unfold sp_read; rw [if_pos g1, ck, if_pos c1]
      rw [hs]
      exact find_then h hc
  · have hs : sp_read s a = (-2, a) := by unfold sp_read; rw [if_neg g1]
    rw [hs]
    exact wp_some (OKX.same h (by omega))
