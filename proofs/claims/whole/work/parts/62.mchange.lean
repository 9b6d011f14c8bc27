/-! THE REFERENCE: one change -/
/-- has, isTorn and the bag alone change -/
def FC8 (v v' : gV) : Prop := (∀ q, q ≠ 0 → q ≠ 11 → q ≠ 12 → q ≠ 13 → v'.1 q = v.1 q) ∧ (∀ j, j ≠ 17 → v'.1 0 j = v.1 0 j) ∧ v'.2 = v.2
theorem FC8.rf {v : gV} : FC8 v v := ⟨fun _ _ _ _ _ => rfl, fun _ _ => rfl, rfl⟩
theorem FC8.tr {v v' v'' : gV} (h : FC8 v v') (h' : FC8 v' v'') : FC8 v v'' := ⟨fun q h0 h1 h2 h3 => (h'.1 q h0 h1 h2 h3).trans (h.1 q h0 h1 h2 h3), fun j h1 => (h'.2.1 j h1).trans (h.2.1 j h1), h'.2.2.trans h.2.2⟩
theorem FB8.C {v v' : gV} (h : FB8 v v') : FC8 v v' := ⟨fun q h0 _ _ hq => h.1 q h0 hq, h.2.1, h.2.2⟩
theorem FC8.L {v v' : gV} (h : FC8 v v') : FL v v' := ⟨fun q h0 hq => h.1 q h0 (by omega) (by omega) (by omega), fun j _ h2 _ _ => h.2.1 j h2, h.2.2⟩
theorem bd8.kept {v v' : gV} {P : Pm} {p : Nat → Bool} (h : bd8 v P p) (hF : v'.1 0 16 = v.1 0 16) : bd8 v' P p := by
  unfold bd8
  rw [hF]
  exact h
theorem MC.kept {v v' : gV} {x : Sc} (h : MC v x) (h0 : v'.1 0 24 = v.1 0 24) (h1 : v'.1 18 = v.1 18) : MC v' x := by
  unfold MC
  rw [h0, h1]
  exact h
theorem gives_ok {v : gV} {P : Pm} {σ : St} {r : Nat} {t : Bool} (hT : TM v P) (hS : MS v P σ) (hr : r < pN P) (hl : σ.2.1.length < 29) : wp (f_X8_gives (nI r) (b2 t) v) (fun v' => MS v' P (upd σ.1 r (pW P r), σ.2.1 ++ [σ.1 r], ub σ.2.2 r t) ∧ FC8 v v') := by
  obtain ⟨hP, h07, h7, -⟩ := id hT
  have hn := hP.1
  unfold f_X8_gives
  have g8 := gin_N (i := r) (n := 8) (by omega) (by omega)
  rw [n_cl (a := r) (by omega), hS.1 r hr]
  refine wp_t g8 (wp_bv (puts_ok hS.2.2 hl) ?_)
  rintro v1 ⟨b1, b2'⟩
  rw [l_4, l_3, n_mul, n_add, n_cl (a := 4 * r + 3) (by omega), b2'.1 7 (by omega) (by omega), (h7 r hr).2.2]
  refine wp_t (gin_N (by omega) (by omega)) (wp_t g8 (wp_bd (wp_t g8 (wp_bd (wp_some ⟨⟨fun q hq => ?_, fun q hq => ?_, ?_⟩, fun q h0 h1 h2 h3 => ?_, fun j hj => ?_, b2'.2.2⟩)))))
  · show _ = upd σ.1 r (pW P r) q
    rw [sI_n (by omega)]
    by_cases e : q = r
    · subst e; rw [sI_s, up_s]
    · rw [sI_o e, up_n e, b2'.1 11 (by omega) (by omega)]; exact hS.1 q hq
  · show _ = b2 (if q = r then t else σ.2.2 q)
    by_cases e : q = r
    · subst e; rw [sI_s, if_pos rfl]
    · rw [sI_o e, if_neg e, sI_n (by omega), b2'.1 12 (by omega) (by omega)]; exact hS.2.1 q hq
  · unfold MB
    rw [sI_n (by omega), sI_n (by omega), sI_n (by omega), sI_n (by omega)]
    exact b1
  · rw [sI_n h2, sI_n h1]; exact b2'.1 q h0 h3
  · rw [sI_n (by omega), sI_n (by omega)]; exact b2'.2.1 j hj
theorem MS.er {v v' : gV} {P : Pm} {σ : St} {l : List Int32} (h : MS v P σ) (hB : MB v' l) (hF : FB8 v v') : MS v' P (σ.1, l, σ.2.2) := ⟨fun r hr => by rw [hF.1 11 (by omega) (by omega)]; exact h.1 r hr, fun r hr => by rw [hF.1 12 (by omega) (by omega)]; exact h.2.1 r hr, hB⟩
theorem changesOne_ok {v : gV} {P : Pm} {σ : St} {s r : Nat} (hT : TM v P) (hS : MS v P σ) (hB : bd8 v P (onb P s)) (hok : okS P σ) (htw : tw P σ) (hr : r < pN P) (hm : mon P s σ.1 r = true) : wp (f_X8_changesOne (nI r) v) (fun o => FC8 v o.2 ∧ ((o.1 = 0 ∧ chg P s r σ = none ∧ MS o.2 P σ) ∨ (o.1 = 1 ∧ ∃ σ', chg P s r σ = some σ' ∧ MS o.2 P σ' ∧ tw P σ'))) := by
  obtain ⟨hP, h07, h7, -⟩ := id hT
  have hn := hP.1
  have hmw : σ.1 r ≠ pW P r := by
    unfold mon myb at hm
    rw [Bool.and_eq_true] at hm
    exact (of_decide_eq_true hm.2).2.2.1
  have hnt : σ.2.2 r = false := by
    cases z : σ.2.2 r with
    | false => rfl
    | true => exact absurd (htw r hr z) hmw
  have hlen : σ.2.1.length ≤ 29 := by have := hok.2; omega
  unfold f_X8_changesOne
  rw [l_4, l_3, n_mul, n_add, n_cl (a := 4 * r + 3) (by omega), (h7 r hr).2.2]
  refine wp_t (gin_N (by omega) (by omega)) (wp_bd (wp_bi (wp_of (find_ok hS.2.2)) ?_))
  rintro r3 v1 ⟨rfl, rfl⟩
  by_cases c1 : ix (pW P r) σ.2.1 < σ.2.1.length
  · have hs : chg P s r σ = some (upd σ.1 r (pW P r), σ.2.1.eraseIdx (ix (pW P r) σ.2.1) ++ [σ.1 r], σ.2.2) := by unfold chg; rw [if_pos hm, if_pos c1]
    rw [if_pos c1]
    refine wp_f (n_m1 (by omega)) (wp_bv (takes_ok hS.2.2 c1) ?_)
    rintro v2 ⟨k1, k2⟩
    refine wp_bv (gives_ok (t := false) (hT.kept k2.L) (hS.er k1 k2) hr (by show (List.eraseIdx _ _).length < 29; rw [List.length_eraseIdx, if_pos c1]; omega)) ?_
    rintro v3 ⟨k3, k4⟩
    refine b1 (Or.inr rfl) ⟨k2.C.tr k4, Or.inr ⟨rfl, _, hs, ⟨k3.1, fun q hq => ?_, k3.2.2⟩, fun q hq hz => ?_⟩⟩
    · have := k3.2.1 q hq
      rw [this]
      show b2 (if q = r then false else σ.2.2 q) = b2 (σ.2.2 q)
      by_cases e : q = r
      · subst e; rw [if_pos rfl, hnt]
      · rw [if_neg e]
    · show upd σ.1 r (pW P r) q = _
      by_cases e : q = r
      · subst e; rw [up_s]
      · rw [up_n e]; exact htw q hq hz
  · rw [if_neg c1]
    refine wp_t rfl ?_
    refine wp_bi (wp_of (find_ok hS.2.2)) ?_
    rintro r3 v1 ⟨rfl, rfl⟩
    by_cases c2 : ix (pW P r + 8) σ.2.1 < σ.2.1.length
    · rw [if_pos c2]
      refine wp_f (n_m1 (by omega)) (wp_bi (wp_of (other_ok hT hS hB hok.1 hr)) ?_)
      rintro r4 v4 ⟨rfl, rfl⟩
      unfold f_X8_changesOne_J60
      by_cases c3 : oth P s r σ.1 < pN P
      · rw [if_pos c3]
        have hs : chg P s r σ = some (upd (upd σ.1 r (pW P r)) (oth P s r σ.1) (pW P r), σ.2.1.eraseIdx (ix (pW P r + 8) σ.2.1) ++ [σ.1 r] ++ [σ.1 (oth P s r σ.1)], ub (ub σ.2.2 r true) (oth P s r σ.1) true) := by unfold chg; rw [if_pos hm, if_neg c1, if_pos c2, if_pos c3]
        have hoy : othp P s r σ.1 (oth P s r σ.1) = true := lst_yes (p := othp P s r σ.1) (pN P) 0 (show oth P s r σ.1 < 0 + pN P by omega)
        generalize hq : oth P s r σ.1 = q at *
        unfold othp at hoy
        rw [Bool.and_eq_true, Bool.and_eq_true] at hoy
        have hqr : q ≠ r := of_decide_eq_true hoy.1.1
        have hqw : pW P q = pW P r := of_decide_eq_true hoy.2
        have hqm : σ.1 q ≠ pW P q := by
          have := hoy.1.2
          unfold mon myb at this
          rw [Bool.and_eq_true] at this
          exact (of_decide_eq_true this.2).2.2.1
        have hle := List.length_eraseIdx (l := σ.2.1) (i := ix (pW P r + 8) σ.2.1)
        rw [if_pos c2] at hle
        have hroom : σ.2.1.length ≤ 28 := by
          have h2 := sm_part2 (f := pt P σ.1) hr c3 (fun z => hqr z.symm)
          have p1 : pt P σ.1 r = 3 := by
            unfold pt
            rw [if_neg (fun z => ?_), if_neg hmw]
            unfold mon myb at hm
            rw [Bool.and_eq_true] at hm
            exact (of_decide_eq_true hm.2).1 z
          have := hok.2
          omega
        refine wp_f (n_m1 (by omega)) (wp_bv (takes_ok hS.2.2 c2) ?_)
        rintro v2 ⟨k1, k2⟩
        refine wp_bv (gives_ok (t := true) (hT.kept k2.L) (hS.er k1 k2) hr (by show (List.eraseIdx _ _).length < 29; omega)) ?_
        rintro v3 ⟨k3, k4⟩
        refine wp_bv (gives_ok (t := true) (hT.kept (k2.L.tr k4.L)) k3 c3 (by show (List.eraseIdx _ _ ++ [_]).length < 29; rw [List.length_append]; simp; omega)) ?_
        rintro v5 ⟨k5, k6⟩
        refine b1 (Or.inr rfl) ⟨(k2.C.tr k4).tr k6, Or.inr ⟨rfl, _, hs, ?_, fun t ht hz => ?_⟩⟩
        · have e1 : upd σ.1 r (pW P r) q = σ.1 q := up_n hqr
          have k5' : MS v5 P (upd (upd σ.1 r (pW P r)) q (pW P q), (σ.2.1.eraseIdx (ix (pW P r + 8) σ.2.1) ++ [σ.1 r]) ++ [upd σ.1 r (pW P r) q], ub (ub σ.2.2 r true) q true) := k5
          rw [e1, hqw] at k5'
          exact k5'
        · show upd (upd σ.1 r (pW P r)) q (pW P r) t = _
          have hz : (if t = q then true else if t = r then true else σ.2.2 t) = true := hz
          by_cases e1 : t = q
          · subst e1; rw [up_s]; exact hqw.symm
          · rw [up_n e1]
            by_cases e2 : t = r
            · subst e2; rw [up_s]
            · rw [up_n e2]
              rw [if_neg e1, if_neg e2] at hz
              exact htw t ht hz
      · rw [if_neg c3]
        have hs : chg P s r σ = none := by unfold chg; rw [if_pos hm, if_neg c1, if_pos c2, if_neg c3]
        exact wp_t rfl (b1 (Or.inl rfl) ⟨FC8.rf, Or.inl ⟨rfl, hs, hS⟩⟩)
    · rw [if_neg c2]
      have hs : chg P s r σ = none := by unfold chg; rw [if_pos hm, if_neg c1, if_neg c2]
      unfold f_X8_changesOne_J60
      exact wp_t rfl (wp_t rfl (b1 (Or.inl rfl) ⟨FC8.rf, Or.inl ⟨rfl, hs, hS⟩⟩))
