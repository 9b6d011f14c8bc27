theorem stN_step {P : Pm} {x : Sc} {d : Nat} (hd : d < 1000) : stN P x (d + 1) = if stN P x d = -1 then (if (his P x (d + 1)).2.1 = (his P x d).2.1 then nI d else -1) else stN P x d := by
  have hle := (lst_le (p := prd P x) d 0).2
  have hs := lst_snoc (p := prd P x) d 0
  rw [Nat.zero_add] at hs
  have e1 : stN P x (d + 1) = if lst (prd P x) (d + 1) 0 < d + 1 then nI (lst (prd P x) (d + 1) 0) else -1 := rfl
  have e2 : stN P x d = if lst (prd P x) d 0 < d then nI (lst (prd P x) d 0) else -1 := rfl
  rw [e1, e2, hs]
  by_cases z : lst (prd P x) d 0 < d
  · rw [if_pos z, if_pos (show lst (prd P x) d 0 < d + 1 by omega), if_pos z, if_neg (n_m1 (by omega))]
  · rw [if_neg z, if_neg z, if_pos rfl]
    by_cases y : (his P x (d + 1)).2.1 = (his P x d).2.1
    · rw [if_pos (show prd P x d = true from decide_eq_true y), if_pos (Nat.lt_succ_self d), if_pos y]
    · rw [if_neg (show ¬ prd P x d = true from fun q => y (of_decide_eq_true q)), if_neg (Nat.lt_irrefl (d + 1)), if_neg y]
/-- what the reference knows behind its days -/
def LV (v : gV) (P : Pm) (x : Sc) : Prop := (∀ d, d < 10 → HM v P d (his P x (d + 1)).1) ∧ MC v (his P x 10) ∧ v.1 0 25 = stN P x 10 ∧ MS v P (his P x 10).1
theorem FH.L {d : Nat} {v v' : gV} (h : FH d v v') : FL v v' := ⟨fun q h0 hq => h.1 q (by omega), fun j _ _ _ _ => by rw [h.1 0 (by omega)], h.2.2.2.2⟩
theorem lives_ok {v : gV} {P : Pm} {h : Nat → Int32} {l : List Int32} {t : Int32} (hT : TM v P) (hI : ST v P h l t) (hA : okA P (ini h (tpl t ++ l))) : wp (f_X8_lives v) (fun v' => LV v' P (ini h (tpl t ++ l)) ∧ FL v v') := by
  obtain ⟨hP, h07, -⟩ := id hT
  have hn := hP.1
  unfold f_X8_lives
  refine wp_bv (begins_ok hT hI) ?_
  rintro v1 ⟨a1, a2, a3, a4⟩
  have a5 : tw P (ini h (tpl t ++ l)).1 := fun r _ hz => absurd (show false = true from hz) Bool.false_ne_true
  generalize ini h (tpl t ++ l) = x at *
  refine wp_bx1 (wp_cnt (Z := fun v' => LV v' P x ∧ FL v v') (fun d v' => (∀ e, e < d → HM v' P e (his P x (e + 1)).1) ∧ MC v' (his P x d) ∧ v'.1 0 25 = stN P x d ∧ MS v' P (his P x d).1 ∧ tw P (his P x d).1 ∧ FL v v') 10 0 v1 (by omega) (Nat.zero_le _) ⟨fun e he => absurd he (Nat.not_lt_zero e), a2, a3, a1, a5, a4⟩ ?_ ?_) (fun v' hv => wp_some hv)
  · rintro d v2 hd ⟨b1, b2', b3, b4, b5, b6⟩
    have hok := his_ok hP hA d (by omega)
    have e1 : his P x (d + 1) = dy P d (his P x d) := rfl
    have hst := stN_step (P := P) (x := x) (d := d) (by omega)
    generalize hy : his P x d = y at *
    show wp (f_X8_lives_B6 (nI d) v2) _
    unfold f_X8_lives_B6 f_X8_lives_J63 f_X8_lives_J67
    refine wp_f (by rw [l_10, n_le (by omega) (by omega)]; omega) (wp_bd (wp_bd ?_))
    generalize hw : sI v2 0 16 0 = w
    have f2 : FS8 v2 w := by rw [← hw]; exact fs_i (Or.inl rfl)
    have m2 : MS w P y.1 := by rw [← hw]; unfold MS MB; rw [sI_n (by omega), sI_n (by omega), sI_o (by omega), sI_n (by omega)]; exact b4
    have c2 : MC w y := by rw [← hw]; unfold MC; rw [sI_o (by omega), sI_n (by omega)]; exact b2'
    have bw : bd8 w P (ob0 P 0) := fun r hr => by
      rw [← hw, sI_s, b_0]
      exact (decide_eq_false (by omega)).symm
    refine wp_bx1 (wp_cnt (Z := fun v' => MS v' P (dy P d y).1 ∧ MC v' (dy P d y) ∧ tw P (dy P d y).1 ∧ FS8 v2 v') (fun s v' => MS v' P (itN (stp P d) s y).1 ∧ MC v' (itN (stp P d) s y) ∧ tw P (itN (stp P d) s y).1 ∧ bd8 v' P (ob0 P s) ∧ FS8 v2 v') 10 0 w (by omega) (Nat.zero_le _) ⟨m2, c2, b5, bw, f2⟩ ?_ ?_) ?_
    · rintro s v3 hs ⟨k1, k2, k3, k4, k5⟩
      show wp (f_X8_lives_B24 (nI d) _ (nI s) v3) _
      unfold f_X8_lives_B24
      refine wp_f (by rw [l_10, n_le (by omega) (by omega)]; omega) (wp_bv (stops_ok (hT.kept (b6.tr k5.L)) k1 k2 (stpI_ok hP hd hok s) k3 k4 hs hd) ?_)
      rintro v4 ⟨z1, z2, z3, z4, z5⟩
      exact wp_some ⟨nI_1 s, z1, z2, z3, z4, k5.tr z5⟩
    · rintro v3 ⟨k1, k2, k3, k4, k5⟩
      show wp (f_X8_lives_B24 (nI d) _ (nI 10) v3) _
      unfold f_X8_lives_B24
      exact wp_t (by rw [l_10, n_le (by omega) (by omega)]; exact Nat.le_refl _) (wp_some ⟨k1, k2, k3, k5⟩)
    · rintro v3 ⟨k1, k2, k3, k5⟩
      rw [← e1] at k1 k2 k3
      have hok1 := his_ok hP hA (d + 1) (by omega)
      have q25 : v3.1 0 25 = stN P x d := by rw [k5.2.1 25 (by omega) (by omega) (by omega)]; exact b3
      have q24 : v3.1 0 24 = nI (his P x (d + 1)).2.1 := k2.1
      have u24 : v2.1 0 24 = nI y.2.1 := b2'.1
      have n1 := hok1.1.2.2.2
      have n2 := hok.1.2.2.2
      have fin : ∀ z, z = stN P x (d + 1) → wp (bd (sI v3 0 25 z) (fun v1 => bv (f_X8_keeps (nI d) v1) (fun v2 => some (.inl (v2, nI d + 1))))) (SE (fun a' : gV × Int32 => a'.2 = nI (d + 1) ∧ (∀ e, e < d + 1 → HM a'.1 P e (his P x (e + 1)).1) ∧ MC a'.1 (his P x (d + 1)) ∧ a'.1.1 0 25 = stN P x (d + 1) ∧ MS a'.1 P (his P x (d + 1)).1 ∧ tw P (his P x (d + 1)).1 ∧ FL v a'.1) (fun v' : gV => LV v' P x ∧ FL v v')) := fun z hz => by
        refine wp_bd ?_
        generalize hu : sI v3 0 25 z = u
        have fu' : FL v3 u := by rw [← hu]; exact ⟨fun q h0 _ => sI_n h0, fun j _ _ _ h4 => sI_o h4, rfl⟩
        have mu : MS u P (his P x (d + 1)).1 := by rw [← hu]; unfold MS MB; rw [sI_n (by omega), sI_n (by omega), sI_o (by omega), sI_n (by omega)]; exact k1
        have cu : MC u (his P x (d + 1)) := by rw [← hu]; unfold MC; rw [sI_o (by omega), sI_n (by omega)]; exact k2
        have su : u.1 0 25 = stN P x (d + 1) := by rw [← hu, sI_s]; exact hz
        have hu' : ∀ q, (14 ≤ q ∧ q ≤ 17) → u.1 q = v2.1 q := fun q hq => by rw [← hu, sI_n (by omega)]; exact k5.1 q (by omega) (by omega) (by omega) (by omega) (by omega)
        have fall : FL v u := (b6.tr k5.L).tr fu'
        refine wp_bv (keeps_ok (hT.kept fall) mu hd) ?_
        rintro v5 ⟨g1, g2⟩
        refine wp_some ⟨nI_1 d, fun e he => ?_, ?_, ?_, ?_, k3, fall.tr g2.L⟩
        · show HM v5 P e _
          by_cases ed : e = d
          · subst ed; exact g1
          · exact ((b1 e (by omega)).same (hu' 14 (by omega)) (hu' 15 (by omega)) (hu' 16 (by omega)) (hu' 17 (by omega))).kept hn g2 ed
        · show MC v5 _
          exact cu.kept (by rw [g2.1 0 (by omega)]) (g2.1 18 (by omega))
        · show v5.1 0 25 = _
          rw [g2.1 0 (by omega)]; exact su
        · show MS v5 P _
          unfold MS MB
          rw [g2.1 11 (by omega), g2.1 12 (by omega), g2.1 0 (by omega), g2.1 13 (by omega)]
          exact mu
      rw [q25, q24, u24]
      refine wp_if (fun c1 => ?_) (fun c1 => ?_)
      · refine wp_if (fun c3 => ?_) (fun c3 => ?_)
        · rw [n_eq (by omega) (by omega)] at c3
          exact fin _ (by rw [hst, if_pos c1, if_pos c3])
        · rw [n_eq (by omega) (by omega)] at c3
          exact fin _ (by rw [hst, if_pos c1, if_neg c3]; exact c1)
      · exact fin _ (by rw [hst, if_neg c1])
  · rintro v2 ⟨b1, b2', b3, b4, b5, b6⟩
    show wp (f_X8_lives_B6 (nI 10) v2) _
    unfold f_X8_lives_B6
    exact wp_t (by rw [l_10, n_le (by omega) (by omega)]; exact Nat.le_refl _) (wp_some ⟨⟨b1, b2', b3, b4⟩, b6⟩)
