/-! THE CLASS: who is served by a set of open stops -/
def QI (v : gV) (P : Pm) (h : Nat → Int32) (l : List Int32) (c : Nat) : Prop := TD v P ∧ v.1 6 9 = pE P ∧ v.1 6 10 = pC P ∧ (∀ r, r < pN P → v.1 7 r = h r) ∧ bgR v 13 l ∧ okA P (ini h l) ∧ SSi v P (ini h l) c ∧ c < 1000000
def FQ (v v' : gV) : Prop := (∀ q, (q < 54 ∨ 95 ≤ q) → v'.1 q = v.1 q) ∧ v'.1 92 = v.1 92
theorem FQ.rf {v : gV} : FQ v v := ⟨fun _ _ => rfl, rfl⟩
theorem FQ.tr {v v' v'' : gV} (h : FQ v v') (h' : FQ v' v'') : FQ v v'' := ⟨fun q hq => (h'.1 q hq).trans (h.1 q hq), h'.2.trans h.2⟩
theorem FG.Q {v v' : gV} (h : FG 54 v v') : FQ v v' := ⟨fun q hq => h.1 q (by omega), h.1 92 (by omega)⟩
theorem QI.kept {v v' : gV} {P : Pm} {h : Nat → Int32} {l : List Int32} {c : Nat} (hQ : QI v P h l c) (hF : ∀ q, q < 54 → v'.1 q = v.1 q) (hS : SSi v' P (ini h l) c) : QI v' P h l c := by
  obtain ⟨a1, a2, a3, a4, a5, a6, a7, a8⟩ := hQ
  refine ⟨a1.kept (fun q hq => hF q (by omega)), by rw [hF 6 (by omega)]; exact a2, by rw [hF 6 (by omega)]; exact a3, fun r hr => by rw [hF 7 (by omega)]; exact a4 r hr, ?_, a6, hS, a8⟩
  exact a5.kept (by rw [hF _ (by omega)]) (fun k _ => by rw [hF _ (by omega)])
theorem SSi.kept {v v' : gV} {P : Pm} {x : Sc} {c : Nat} (h : SSi v P x c) (h1 : v'.1 92 = v.1 92) (h2 : v'.1 94 = v.1 94) (h3 : v'.2 = v.2) : SSi v' P x c := by
  unfold SSi
  rw [h1, h2, h3]
  exact h
theorem QI.G {v v' : gV} {P : Pm} {h : Nat → Int32} {l : List Int32} {c : Nat} (hQ : QI v P h l c) (hF : ∀ q, (q < 54 ∨ 92 ≤ q) → v'.1 q = v.1 q) (h2 : v'.2 = v.2) : QI v' P h l c := hQ.kept (fun q hq => hF q (by omega)) (hQ.2.2.2.2.2.2.1.kept (hF _ (by omega)) (hF _ (by omega)) h2)
theorem pkk_lt {P : Pm} (hP : okP P) {x : Sc} {i : Nat} : ∀ d, pk P x i d < 2 ^ (8 * d)
  | 0 => by simp [pk]
  | d + 1 => by
    have h1 := pkk_lt hP (x := x) (i := i) d
    have h2 := srvN_lt hP (h := (his (setC P (nI i)) x (d + 1)).1.1)
    rw [pk, show 8 * (d + 1) = 8 * d + 8 by omega, Nat.pow_add]
    have h3 : srvN P (his (setC P (nI i)) x (d + 1)).1.1 * 2 ^ (8 * d) ≤ 255 * 2 ^ (8 * d) := Nat.mul_le_mul_right _ (by omega)
    omega
theorem pkk_at {P : Pm} (hP : okP P) {x : Sc} {i m : Nat} : ∀ d, m < d → pk P x i d / 2 ^ (8 * m) % 256 = srvN P (his (setC P (nI i)) x (m + 1)).1.1
  | 0, h => absurd h (Nat.not_lt_zero m)
  | d + 1, h => by
    have h1 := pkk_lt hP (x := x) (i := i) d
    have h2 := srvN_lt hP (h := (his (setC P (nI i)) x (d + 1)).1.1)
    rw [pk]
    rcases Nat.lt_or_ge m d with q | q
    · have ih := pkk_at hP (x := x) (i := i) (m := m) d q
      obtain ⟨e, rfl⟩ : ∃ e, d = m + e + 1 := ⟨d - m - 1, by omega⟩
      rw [show 8 * (m + e + 1) = 8 * m + (8 * e + 8) by omega, Nat.pow_add, ← Nat.mul_assoc, Nat.mul_comm _ (2 ^ (8 * m)), Nat.mul_assoc, Nat.add_mul_div_left _ _ (Nat.two_pow_pos _), Nat.pow_add, ← Nat.mul_assoc, Nat.add_mod, show (2 : Nat) ^ 8 = 256 by decide, Nat.mul_mod_left, Nat.add_zero, Nat.mod_mod]
      exact ih
    · have e : m = d := by omega
      subst e
      rw [Nat.add_mul_div_right _ _ (Nat.two_pow_pos _), Nat.div_eq_of_lt h1, Nat.zero_add, Nat.mod_eq_of_lt h2]
theorem servedJ {v : gV} {P : Pm} {x : Sc} {i day : Nat} (hP : okP P) (hi : i < 1024) (hd : day < 10) (h : v.2 93 i = lN (pk P x i 8)) : f_X4_servedBy_J94 (nI day) (nI i) v = some (nI (srvN P (his (setC P (nI i)) x (day + 1)).1.1), v) := by
  apply wp_is
  unfold f_X4_servedBy_J94
  refine wp_t (gin_N hi (by omega)) (wp_bi (wp_of (min_ok (b := 7) (by omega) (by omega))) ?_)
  rintro r3 v1 ⟨rfl, rfl⟩
  rw [n_cl (by omega), h, l_8, n_mul, l_255]
  have hlt : pk P x i 8 < 2 ^ 64 := pkk_lt hP 8
  unfold jushrL
  rw [wb_shr hlt (by omega), lN_i, fa_and, show (255 : Nat) = 2 ^ 8 - 1 by decide, Nat.and_two_pow_sub_one_eq_mod, show (2 : Nat) ^ 8 = 256 by decide, pkk_at hP 8 (by omega)]
  refine wp_some ?_
  rcases Nat.lt_or_ge day 7 with q | q
  · rw [show min day 7 = day by omega]
  · rw [show min day 7 = 7 by omega, his_8 (setC_ok hP) (7 + 1) (by omega), his_8 (setC_ok hP) (day + 1) (by omega)]
theorem servedBy_ok {v : gV} {P : Pm} {h : Nat → Int32} {l : List Int32} {c st day : Nat} (hQ : QI v P h l c) (hst : st < 1024) (hd : day < 10) : wp (f_X4_servedBy (nI st) (nI day) 54 v) (fun o => o.1 = nI (srvN P (his (setC P (nI st)) (ini h l) (day + 1)).1.1) ∧ QI o.2 P h l c ∧ FQ v o.2) := by
  obtain ⟨hT, h69, h610, h7, h13, hA, hS, hc⟩ := id hQ
  have hP := hT.1
  obtain ⟨k, u, hk, h922, h923, hu, hus, h94⟩ := id hS
  have hse : st &&& u < 1024 := Nat.lt_of_le_of_lt Nat.and_le_left hst
  have heq : his (setC P (nI (st &&& u))) (ini h l) (day + 1) = his (setC P (nI st)) (ini h l) (day + 1) := by
    refine (his_useful (fun s hs hb r hr hm => ?_) (day + 1)).1
    rw [bt_nI (by omega), bt_nI (by omega), Nat.testBit_and] at hb
    have := (hus s hs).mpr ⟨r, hr, hm⟩
    rw [this] at hb
    simp at hb
  unfold f_X4_servedBy
  rw [h923, fa_and]
  refine wp_bd (wp_t (gin_N hse (by omega)) ?_)
  rw [n_cl (by omega), h922]
  obtain ⟨m, e1, e2, e3⟩ := h94 _ hse
  rw [e1]
  have fin : ∀ v', v'.2 93 (st &&& u) = lN (pk P (ini h l) (st &&& u) 8) → QI v' P h l c → FQ v v' → wp (f_X4_servedBy_J94 (nI day) (nI (st &&& u)) v') (fun o => o.1 = nI (srvN P (his (setC P (nI st)) (ini h l) (day + 1)).1.1) ∧ QI o.2 P h l c ∧ FQ v o.2) := fun v' q1 q2 q3 => by
    refine wp_mono (wp_of (servedJ hP hse hd q1)) ?_
    rintro o rfl
    rw [heq]
    exact ⟨rfl, q2, q3⟩
  refine wp_if (fun c1 => ?_) (fun c1 => ?_)
  · rw [n_eq (by omega) (by omega)] at c1
    exact fin v (e3 c1) hQ FQ.rf
  · refine wp_bv (begin_ok (b := 54) rfl h13) ?_
    rintro v2 ⟨b1, b2, b3, b4, b5, b6⟩
    refine wp_bd ?_
    have o3 : ∀ q, (q < 54 ∨ 92 ≤ q) → (sI v2 54 2 (nI (st &&& u))).1 q = v.1 q := fun q hq => by rw [sI_n (by omega), b5 q (by omega)]
    have p1 : (sI v2 54 2 (nI (st &&& u))).1 54 1 = pE P := by rw [sI_o (by omega), b1]; exact h69
    have p2 : (sI v2 54 2 (nI (st &&& u))).1 54 2 = nI (st &&& u) := sI_s
    have p3 : ∀ i, i < pN P → (sI v2 54 2 (nI (st &&& u))).1 (54 + 1) i = h i := fun i hi => by rw [sI_n (by omega), b3 i (by have := hP.1; omega)]; exact h7 i hi
    have p4 : bgR (sI v2 54 2 (nI (st &&& u))) (54 + 2) l := b4.kept (by rw [sI_n (by omega)]) (fun k _ => by rw [sI_n (by omega)])
    have p5 : (sI v2 54 2 (nI (st &&& u))).2 = v.2 := b6
    generalize sI v2 54 2 (nI (st &&& u)) = v3 at o3 p1 p2 p3 p4 p5
    refine wp_bv (go_ok (P := setC P (nI (st &&& u))) rfl (setC_TD (hT.kept (fun q hq => o3 q (by omega)))) p1 p2 p3 p4 (setC_okA hA)) ?_
    rintro v4 ⟨hD, hF⟩
    refine wp_t (gin_N hse (by omega)) (wp_bd ?_)
    have s4 : ∀ q, (q < 54 ∨ 92 ≤ q) → v4.1 q = v.1 q := fun q hq => by rw [hF.1 q (by omega)]; exact o3 q hq
    have s42 : v4.2 = v.2 := hF.2.2.trans p5
    have lo : wp (lp (fun a : gV × Int32 => f_X4_servedBy_B47 (nI day) 54 (nI (st &&& u)) a.2 a.1) fu (sL v4 93 (st &&& u) 0, (0 : Int32))) (fun v' => v'.1 = v4.1 ∧ v'.2 93 (st &&& u) = lN (pk P (ini h l) (st &&& u) 8) ∧ ∀ j, j ≠ st &&& u → v'.2 93 j = v.2 93 j) := by
      refine wp_cnt (fun i v' => v'.1 = v4.1 ∧ v'.2 93 (st &&& u) = lN (pk P (ini h l) (st &&& u) i) ∧ ∀ j, j ≠ st &&& u → v'.2 93 j = v.2 93 j) 8 0 _ (by omega) (Nat.zero_le _) ⟨rfl, by rw [sL_s]; rfl, fun j hj => by rw [sL_o hj, s42]⟩ ?_ ?_
      · rintro i v5 hi ⟨g1, g2, g3⟩
        have hD5 : RD v5 54 (setC P (nI (st &&& u))) (ini h l) := by
          unfold RD HB RS RT bgR
          rw [g1]
          exact hD
        show wp (f_X4_servedBy_B47 (nI day) 54 (nI (st &&& u)) (nI i) v5) _
        unfold f_X4_servedBy_B47
        refine wp_f (by rw [l_7, n_lt (by omega) (by omega)]; omega) (wp_t (gin_N hse (by omega)) (wp_bi (wp_of (servedOn_ok (setC_ok hP) hD5 (by omega))) ?_))
        rintro r3 v6 ⟨rfl, rfl⟩
        refine wp_t (gin_N hse (by omega)) (wp_bd (wp_some ⟨nI_1 i, ?_, ?_, fun j hj => ?_⟩))
        · exact g1
        · rw [n_cl (by omega), l_8, n_mul]
          show (sL v5 93 (st &&& u) _).2 93 (st &&& u) = _
          have hsv := srvN_lt hP (h := (his (setC P (nI (st &&& u))) (ini h l) (i + 1)).1.1)
          have hpl := pkk_lt hP (x := ini h l) (i := st &&& u) (i + 1)
          have h64 : 2 ^ (8 * (i + 1)) ≤ 2 ^ 64 := Nat.pow_le_pow_right (by omega) (by omega)
          rw [sL_s, g2, nI_l (by show srvN P _ < 2 ^ 31; omega), wb_shl _ (by omega), pk]
          rw [pk] at hpl
          exact g_or' rfl (pkk_lt hP i) (Nat.lt_of_lt_of_le hpl h64)
        · rw [n_cl (by omega)]
          show (sL v5 93 (st &&& u) _).2 93 j = _
          rw [sL_o hj]; exact g3 j hj
      · rintro v5 ⟨g1, g2, g3⟩
        show wp (f_X4_servedBy_B47 (nI day) 54 (nI (st &&& u)) (nI 8) v5) _
        unfold f_X4_servedBy_B47
        exact wp_t (by rw [l_7, n_lt (by omega) (by omega)]; omega) (wp_some ⟨g1, g2, g3⟩)
    refine wp_bx1 lo ?_
    rintro v5 ⟨g1, g2, g3⟩
    refine wp_t (gin_N hse (by omega)) (wp_bd ?_)
    rw [g1, s4 92 (by omega), h922]
    have hqv : ∀ q, (q < 54 ∨ 92 ≤ q) → q ≠ 94 → (sI v5 94 (st &&& u) (nI k)).1 q = v.1 q := fun q hq h9 => by rw [sI_n h9, g1]; exact s4 q hq
    have hS' : SSi (sI v5 94 (st &&& u) (nI k)) P (ini h l) c := by
      refine ⟨k, u, hk, ?_, ?_, hu, hus, fun i hi => ?_⟩
      · rw [hqv 92 (by omega) (by omega)]; exact h922
      · rw [hqv 92 (by omega) (by omega)]; exact h923
      · by_cases e : i = st &&& u
        · subst e
          exact ⟨k, sI_s, Nat.le_refl _, fun _ => g2⟩
        · obtain ⟨m', z1, z2, z3⟩ := h94 i hi
          refine ⟨m', ?_, z2, fun z => ?_⟩
          · rw [sI_o e, g1, s4 94 (by omega)]; exact z1
          · show v5.2 93 i = _
            rw [g3 i e]; exact z3 z
    refine fin _ g2 (hQ.kept (fun q hq => hqv q (by omega) (by omega)) hS') ⟨fun q hq => hqv q (by omega) (by omega), hqv 92 (by omega) (by omega)⟩
