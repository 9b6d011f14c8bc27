/-! THE REFERENCE: one stop -/
def ob0 (P : Pm) (s r : Nat) : Bool := decide (pB P r < s ∧ s ≤ pL P r)
def ob1 (P : Pm) (s r : Nat) : Bool := decide (pB P r < s ∧ s < pL P r)
theorem lv_tw {P : Pm} {s r : Nat} {σ : St} (h : tw P σ) : tw P (lvS P s r σ) := by
  unfold lvS
  split
  · intro q hq hz
    have hz : (if q = r then false else σ.2.2 q) = true := hz
    by_cases e : q = r
    · rw [if_pos e] at hz; exact absurd hz Bool.false_ne_true
    · rw [if_neg e] at hz
      show upd σ.1 r (-1) q = _
      rw [up_n e]; exact h q hq hz
  · exact h
/-- what a stop may change -/
def FS8 (v v' : gV) : Prop := (∀ q, q ≠ 0 → q ≠ 11 → q ≠ 12 → q ≠ 13 → q ≠ 18 → v'.1 q = v.1 q) ∧ (∀ j, j ≠ 16 → j ≠ 17 → j ≠ 24 → v'.1 0 j = v.1 0 j) ∧ v'.2 = v.2
theorem FS8.rf {v : gV} : FS8 v v := ⟨fun _ _ _ _ _ _ => rfl, fun _ _ _ _ => rfl, rfl⟩
theorem FS8.tr {v v' v'' : gV} (h : FS8 v v') (h' : FS8 v' v'') : FS8 v v'' := ⟨fun q h0 h1 h2 h3 h4 => (h'.1 q h0 h1 h2 h3 h4).trans (h.1 q h0 h1 h2 h3 h4), fun j h1 h2 h3 => (h'.2.1 j h1 h2 h3).trans (h.2.1 j h1 h2 h3), h'.2.2.trans h.2.2⟩
theorem FS8.L {v v' : gV} (h : FS8 v v') : FL v v' := ⟨fun q h0 hq => h.1 q h0 (by omega) (by omega) (by omega) (by omega), fun j h1 h2 h3 _ => h.2.1 j h1 h2 h3, h.2.2⟩
theorem FC8.S {v v' : gV} (h : FC8 v v') : FS8 v v' := ⟨fun q h0 h1 h2 h3 _ => h.1 q h0 h1 h2 h3, fun j _ h2 _ => h.2.1 j h2, h.2.2⟩
theorem fs_i {v : gV} {j : Nat} {x : Int32} (hj : j = 16 ∨ j = 17 ∨ j = 24) : FS8 v (sI v 0 j x) := ⟨fun q h0 _ _ _ _ => sI_n h0, fun k _ _ _ => sI_o (by omega), rfl⟩
theorem leave_M {v : gV} {P : Pm} {x : Sc} {s : Nat} {x1 : Int32} (hT : TM v P) (hS : MS v P x.1) (hC : MC v x) (hA : okA P x) (hW : tw P x.1) (hB : bd8 v P (ob0 P s)) (hs : s < 10) : wp (lp (fun a : gV × Int32 => f_X8_stops_B2 x1 (nI s) a.2 a.1) fu (v, (0 : Int32))) (fun v' => MS v' P (lvA P s x).1 ∧ MC v' x ∧ tw P (lvA P s x).1 ∧ bd8 v' P (ob1 P s) ∧ FS8 v v') := by
  obtain ⟨hP, h07, -⟩ := id hT
  have hn := hP.1
  refine wp_cnt (fun i v' => MS v' P (itN (lvS P s) i x.1) ∧ MC v' x ∧ tw P (itN (lvS P s) i x.1) ∧ (∀ r, r < pN P → bt (v'.1 0 16) r = if r < i then ob1 P s r else ob0 P s r) ∧ FS8 v v') (pN P) 0 v (by omega) (Nat.zero_le _) ⟨hS, hC, hW, fun r hr => by rw [if_neg (Nat.not_lt_zero r)]; exact hB r hr, FS8.rf⟩ ?_ ?_
  · rintro i v1 hi ⟨i1, i2, i3, i4, i5⟩
    have hT1 := hT.kept i5.L
    obtain ⟨-, g07, g7, -, -, -, g102⟩ := id hT1
    have hok : okS P (itN (lvS P s) i x.1) := (lvI_ok hA i (by omega)).1.1
    show wp (f_X8_stops_B2 x1 (nI s) (nI i) v1) _
    unfold f_X8_stops_B2 f_X8_stops_J96
    rw [g07]
    refine wp_f (by rw [n_le (by omega) (by omega)]; omega) (wp_bi (wp_of (isIn_ok (by omega))) ?_)
    rintro r3 v2 ⟨rfl, rfl⟩
    rw [i4 i hi, if_neg (Nat.lt_irrefl i)]
    have e1 : itN (lvS P s) (i + 1) x.1 = lvS P s i (itN (lvS P s) i x.1) := rfl
    rw [e1]
    generalize itN (lvS P s) i x.1 = σ at *
    have keep : ∀ (q : leb P s i = false) (q2 : ob0 P s i = ob1 P s i), MS v1 P (lvS P s i σ) ∧ MC v1 x ∧ tw P (lvS P s i σ) ∧ (∀ r, r < pN P → bt (v1.1 0 16) r = if r < i + 1 then ob1 P s r else ob0 P s r) ∧ FS8 v v1 := fun q q2 => by
      have e : lvS P s i σ = σ := by unfold lvS; rw [q]; rfl
      rw [e]
      refine ⟨i1, i2, i3, fun r hr => ?_, i5⟩
      rw [i4 r hr]
      by_cases z : r < i
      · rw [if_pos z, if_pos (by omega)]
      · rw [if_neg z]
        by_cases z2 : r = i
        · subst z2; rw [if_pos (Nat.lt_succ_self r)]; exact q2
        · rw [if_neg (by omega)]
    refine wp_if (fun c1 => ?_) (fun c1 => ?_)
    · rw [b2_0] at c1
      have c1' := of_decide_eq_false c1
      refine wp_some ⟨nI_1 i, keep (decide_eq_false (fun q => c1' ⟨by omega, by omega⟩)) ?_⟩
      rw [c1]
      exact (decide_eq_false (fun q => c1' ⟨q.1, by omega⟩)).symm
    · rw [b2_0] at c1
      have c1' := of_decide_eq_true (ne_f c1)
      rw [l_4, l_2, n_mul, n_add, n_cl (a := 4 * i + 2) (by omega), (g7 i hi).2.1]
      refine wp_t (gin_N (by omega) (by omega)) (wp_if (fun c2 => ?_) (fun c2 => ?_))
      · have hL := (hP.2.1 i hi).2.1
        rw [n_eq (by omega) (by omega)] at c2
        have hle : leb P s i = true := decide_eq_true ⟨by omega, c2⟩
        have hb1 : ob1 P s i = false := decide_eq_false (by omega)
        have hbit : ∀ r, r < pN P → bt (v1.1 0 16 &&& ((1 : Int32) <<< (nI i &&& 31) ^^^ (-1))) r = if r < i + 1 then ob1 P s r else ob0 P s r := fun r hr => by
          rw [bt_clr (by omega) (by omega), i4 r hr]
          by_cases z : r < i
          · rw [if_pos z, if_pos (by omega), decide_eq_true (by omega), Bool.and_true]
          · rw [if_neg z]
            by_cases z2 : r = i
            · subst z2; rw [if_pos (Nat.lt_succ_self r), decide_eq_false (by omega), Bool.and_false, hb1]
            · rw [if_neg (by omega), decide_eq_true z2, Bool.and_true]
        generalize hv2 : sI v1 0 16 (v1.1 0 16 &&& ((1 : Int32) <<< (nI i &&& 31) ^^^ (-1))) = v2
        have f2 : FS8 v1 v2 := by rw [← hv2]; exact fs_i (Or.inl rfl)
        have m2 : MS v2 P σ := by rw [← hv2]; unfold MS MB; rw [sI_n (by omega), sI_n (by omega), sI_o (by omega), sI_n (by omega)]; exact i1
        have c2' : MC v2 x := by rw [← hv2]; unfold MC; rw [sI_o (by omega), sI_n (by omega)]; exact i2
        have b2' : ∀ r, r < pN P → bt (v2.1 0 16) r = if r < i + 1 then ob1 P s r else ob0 P s r := by rw [← hv2, sI_s]; exact hbit
        have e102 : v2.1 10 2 = pF P := by rw [f2.1 10 (by omega) (by omega) (by omega) (by omega) (by omega)]; exact g102
        refine wp_bd (wp_t (by decide) ?_)
        rw [show v2.1 10 (nI 2).toNatClampNeg = pF P from e102]
        refine wp_bi (wp_of (isIn_ok (by omega))) ?_
        rintro r4 v4 ⟨rfl, rfl⟩
        refine wp_if (fun c3 => ?_) (fun c3 => ?_)
        · rw [b2_0] at c3
          have e : lvS P s i σ = σ := by unfold lvS; rw [c3, Bool.and_false, Bool.false_and]; rfl
          rw [e]
          exact wp_some ⟨nI_1 i, m2, c2', i3, b2', i5.tr f2⟩
        · rw [b2_0] at c3
          have c3 := ne_f c3
          have g8 := gin_N (i := i) (n := 8) (by omega) (by omega)
          rw [n_cl (a := i) (by omega), m2.1 i hi]
          refine wp_t g8 (wp_if (fun c4 => ?_) (fun c4 => ?_))
          · have e : lvS P s i σ = σ := by unfold lvS; rw [decide_eq_false (fun q => q c4), Bool.and_false]; rfl
            rw [e]
            exact wp_some ⟨nI_1 i, m2, c2', i3, b2', i5.tr f2⟩
          · have e : lvS P s i σ = (upd σ.1 i (-1), σ.2.1 ++ [σ.1 i], ub σ.2.2 i false) := by unfold lvS; rw [hle, c3, decide_eq_true c4]; rfl
            have hroom : σ.2.1.length < 29 := by
              have h1 := sm_part (f := pt P σ.1) hi
              have h2 : 2 ≤ pt P σ.1 i := by unfold pt; rw [if_neg c4]; split <;> omega
              have := hok.2
              omega
            refine wp_t g8 (wp_bv (puts_ok m2.2.2 hroom) ?_)
            rintro v5 ⟨k1, k2⟩
            refine wp_t g8 (wp_bd (wp_t g8 (wp_bd (wp_some ⟨nI_1 i, ?_, ?_, lv_tw i3, fun r hr => ?_, (i5.tr f2).tr (k2.C.S.tr ⟨fun q h0 h1 h2 h3 h4 => ?_, fun j h1 h2 h3 => ?_, rfl⟩)⟩))))
            · rw [e]
              show MS (sI (sI v5 11 i (-1)) 12 i 0) P _
              refine ⟨fun q hq => ?_, fun q hq => ?_, ?_⟩
              · show _ = upd σ.1 i (-1) q
                rw [sI_n (by omega)]
                by_cases z : q = i
                · subst z; rw [sI_s, up_s]
                · rw [sI_o z, up_n z, k2.1 11 (by omega) (by omega)]; exact m2.1 q hq
              · show _ = b2 (if q = i then false else σ.2.2 q)
                by_cases z : q = i
                · subst z; rw [sI_s, if_pos rfl]; rfl
                · rw [sI_o z, if_neg z, sI_n (by omega), k2.1 12 (by omega) (by omega)]; exact m2.2.1 q hq
              · unfold MB
                rw [sI_n (by omega), sI_n (by omega), sI_n (by omega), sI_n (by omega)]
                exact k1
            · show MC (sI (sI v5 11 i (-1)) 12 i 0) x
              unfold MC
              rw [sI_n (by omega), sI_n (by omega), sI_n (by omega), sI_n (by omega), k2.2.1 24 (by omega), k2.1 18 (by omega) (by omega)]
              exact c2'
            · show bt ((sI (sI v5 11 i (-1)) 12 i 0).1 0 16) r = _
              rw [sI_n (by omega), sI_n (by omega), k2.2.1 16 (by omega)]
              exact b2' r hr
            · show (sI (sI v5 11 i (-1)) 12 i 0).1 q = _
              rw [sI_n h2, sI_n h1]
            · show (sI (sI v5 11 i (-1)) 12 i 0).1 0 j = _
              rw [sI_n (by omega), sI_n (by omega)]
      · have hL := (hP.2.1 i hi).2.1
        rw [n_eq (by omega) (by omega)] at c2
        refine wp_some ⟨nI_1 i, keep (decide_eq_false (fun q => c2 q.2)) ?_⟩
        rw [ne_f c1]
        exact (decide_eq_true ⟨c1'.1, by omega⟩).symm
  · rintro v1 ⟨i1, i2, i3, i4, i5⟩
    obtain ⟨-, g07, -⟩ := hT.kept i5.L
    show wp (f_X8_stops_B2 x1 (nI s) (nI (pN P)) v1) _
    unfold f_X8_stops_B2
    rw [g07]
    exact wp_t (by rw [n_le (by omega) (by omega)]; exact Nat.le_refl _) (wp_some ⟨i1, i2, i3, fun r hr => by rw [i4 r hr, if_pos hr], i5⟩)
