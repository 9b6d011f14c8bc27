/-! THE CLASS: torn ones, leaving, changing at a stop -/
theorem lst_at {p : Nat → Bool} {n i : Nat} (hi : i < n) (e : lst p n 0 = lst p (n - i) i) : (p i = true → lst p n 0 = i) ∧ (p i = false → lst p n 0 = lst p (n - (i + 1)) (i + 1)) := by
  rw [show n - i = (n - (i + 1)) + 1 by omega, lst] at e
  constructor
  · intro h
    rw [if_pos h] at e
    exact e
  · intro h
    rw [if_neg (by rw [h]; exact Bool.false_ne_true)] at e
    exact e
theorem lst_end {p : Nat → Bool} {n : Nat} (e : lst p n 0 = lst p (n - n) n) : lst p n 0 = n := by
  rw [Nat.sub_self, lst] at e
  exact e
theorem bt_i {x : Int32} {i : Nat} (hi : i < 32) {c : Bool} (h : bt x i = c) : (((x >>> (nI i &&& 31)) &&& 1) = 1) = (c = true) := by rw [bt_1 hi, h]
theorem takeTorn_ok {v : gV} {b : Nat} {P : Pm} {σ : St} {r s : Nat} {ab : Int32} (hb : 16 ≤ b) (hT : TD v P) (hE : v.1 b 1 = pE P) (hab : ∀ q, q < pN P → bt ab q = onb P s q) (hR : RT v b P σ) (hS : okS P σ) (hr : r < pN P) (hm : mon P s σ.1 r = true) : wp (f_X1_takeTorn b (nI r) ab v) (fun o => if ix (pW P r + 8) σ.2.1 < σ.2.1.length ∧ oth P s r σ.1 < pN P then o.1 = 1 ∧ RT o.2 b P (upd (upd σ.1 r (pW P r)) (oth P s r σ.1) (pW P r), σ.2.1.eraseIdx (ix (pW P r + 8) σ.2.1) ++ [σ.1 r] ++ [σ.1 (oth P s r σ.1)], ub (ub σ.2.2 r true) (oth P s r σ.1) true) ∧ FS b v o.2 else o = (0, v)) := by
  obtain ⟨hP, h60, h10, -⟩ := id hT
  have hn := hP.1
  have hl := hR.2.1.2.1
  unfold f_X1_takeTorn
  refine wp_t (gin_N (by omega) (by omega)) ?_
  rw [n_cl (by omega), h10 r hr]
  refine wp_bi (wp_of (placeOf_ok (pW P r + 8) hR.2.1)) ?_
  rintro p v1 ⟨rfl, rfl⟩
  by_cases hi : ix (pW P r + 8) σ.2.1 < σ.2.1.length
  · rw [if_pos hi]
    refine wp_f (n_m1 (by omega)) ?_
    refine wp_bs1 (wp_cnt (Z := fun o : gV ⊕ (Int32 × gV) => match o with | .inl v' => v' = v ∧ ¬ oth P s r σ.1 < pN P | .inr o => oth P s r σ.1 < pN P ∧ o.1 = 1 ∧ RT o.2 b P (upd (upd σ.1 r (pW P r)) (oth P s r σ.1) (pW P r), σ.2.1.eraseIdx (ix (pW P r + 8) σ.2.1) ++ [σ.1 r] ++ [σ.1 (oth P s r σ.1)], ub (ub σ.2.2 r true) (oth P s r σ.1) true) ∧ FS b v o.2) (fun i v' => v' = v ∧ oth P s r σ.1 = lst (othp P s r σ.1) (pN P - i) i) (pN P) 0 v (by omega) (Nat.zero_le _) ⟨rfl, rfl⟩ ?_ ?_) ?_ ?_
    · rintro i v' hq ⟨rfl, hx⟩
      show wp (f_X1_takeTorn_B30 b (nI r) ab _ (nI i) v') _
      unfold f_X1_takeTorn_B30
      obtain ⟨hy1, hy2⟩ := lst_at hq hx
      rw [h60]
      refine wp_f (by rw [n_le (by omega) (by omega)]; omega) (wp_if (fun c => ?_) (fun c => ?_))
      · rw [n_eq (by omega) (by omega)] at c
        exact wp_eq rfl ⟨nI_1 i, rfl, hy2 (by unfold othp; simp [c])⟩
      · rw [n_eq (by omega) (by omega)] at c
        refine wp_if (fun c2 => ?_) (fun c2 => ?_)
        · rw [bt_i (by omega) (hab i hq)] at c2
          refine wp_t (gin_N (by omega) (by omega)) (wp_t (gin_N (by omega) (by omega)) ?_)
          rw [n_cl (by omega), n_cl (by omega), h10 i hq, h10 r hr]
          refine wp_if (fun c3 => wp_t (gin_N (by omega) (by omega)) ?_) (fun c3 => ?_)
          · rw [hR.1 i hq, hE]
            refine wp_bi (wp_of (mayChange_ok hT hq (hS.1 i hq))) ?_
            rintro r3 v2 ⟨rfl, rfl⟩
            refine wp_if (fun c4 => ?_) (fun c4 => ?_)
            · rw [b2_0] at c4
              exact wp_eq rfl ⟨nI_1 i, rfl, hy2 (by unfold othp mon; simp [c4])⟩
            · have hm2 : othp P s r σ.1 i = true := by
                rw [b2_0] at c4
                unfold othp mon
                rw [Bool.and_eq_true, Bool.and_eq_true, Bool.and_eq_true]
                exact ⟨⟨decide_eq_true c, c2, by cases hz : myb (pO P) (pE P) (pW P i) (σ.1 i) with
                  | true => rfl
                  | false => exact absurd hz c4⟩, decide_eq_true c3⟩
              have ho := hy1 hm2
              have ho : oth P s r σ.1 = i := ho
              rw [ho]
              have hl2 := chg_room2 hS hr hm (by rw [ho]; exact hq)
              refine wp_bv (takeOut_ok hR.2.1 hi) ?_
              rintro v3 ⟨g1, g2⟩
              have e1 : v3.1 (b + 1) r = σ.1 r := by rw [g2.1 _ (by omega) (by omega)]; exact hR.1 r hr
              refine wp_t (gin_N (by omega) (by omega)) ?_
              rw [e1]
              refine wp_bv (putAtBottom_ok (σ.1 r) g1 (by rw [er_len hi]; omega)) ?_
              rintro v4 ⟨g3, g4⟩
              have e2 : v4.1 (b + 1) i = σ.1 i := by rw [g4.1 _ (by omega) (by omega), g2.1 _ (by omega) (by omega)]; exact hR.1 i hq
              refine wp_t (gin_N (by omega) (by omega)) ?_
              rw [e2]
              refine wp_bv (putAtBottom_ok (σ.1 i) g3 (by rw [List.length_append, er_len hi]; simp; omega)) ?_
              rintro v5 ⟨g5, g6⟩
              have e3 : v5.1 10 r = pW P r := by rw [g6.1 _ (by omega) (by omega), g4.1 _ (by omega) (by omega), g2.1 _ (by omega) (by omega)]; exact h10 r hr
              refine wp_t (gin_N (by omega) (by omega)) (wp_t (gin_N (by omega) (by omega)) (wp_bd (wp_t (gin_N (by omega) (by omega)) (wp_t (gin_N (by omega) (by omega)) (wp_bd (wp_bd (wp_t (by decide) (wp_some ⟨hq, rfl, ⟨fun k hk => ?_, ?_, fun k hk => ?_⟩, ?_⟩))))))))
              · rw [e3, sI_n (q := b + 1) (a := 10) (by omega), e3]
                rw [sI_n (by omega)]
                by_cases e4 : k = i
                · subst e4
                  show (sI _ (b + 1) k (pW P r)).1 (b + 1) k = upd (upd σ.1 r (pW P r)) k (pW P r) k
                  rw [sI_s, up_s]
                · show (sI _ (b + 1) i (pW P r)).1 (b + 1) k = upd (upd σ.1 r (pW P r)) i (pW P r) k
                  rw [sI_o e4, up_n e4]
                  by_cases e5 : k = r
                  · subst e5
                    rw [sI_s, up_s]
                  · rw [sI_o e5, up_n e5, g6.1 _ (by omega) (by omega), g4.1 _ (by omega) (by omega), g2.1 _ (by omega) (by omega)]
                    exact hR.1 k hk
              · exact g5.kept (by rw [sI_n (by omega), sI_n (by omega), sI_n (by omega)]) (fun k _ => by rw [sI_n (by omega), sI_n (by omega), sI_n (by omega)])
              · rw [sI_s]
                have e6 : (sI (sI v5 (b + 1) r (v5.1 10 r)) (b + 1) i ((sI v5 (b + 1) r (v5.1 10 r)).1 10 r)).1 b 5 = v'.1 b 5 := by
                  rw [sI_n (by omega), sI_n (by omega), g6.1 _ (by omega) (by omega), g4.1 _ (by omega) (by omega), g2.1 _ (by omega) (by omega)]
                rw [e6, b_or, ← b_or, ← Int32.or_assoc, bt_set (by omega) (by omega), bt_set (by omega) (by omega), hR.2.2 k hk]
                unfold ub
                by_cases e4 : k = i
                · simp [e4]
                · by_cases e5 : k = r
                  · simp [e5]
                  · simp [e4, e5]
              · exact (((FS.bag ((g2.tr g4).tr g6)).tr FS.has).tr FS.has).tr FS.torn
          · exact wp_eq rfl ⟨nI_1 i, rfl, hy2 (by unfold othp; simp [c3])⟩
        · rw [bt_i (by omega) (hab i hq)] at c2
          exact wp_eq rfl ⟨nI_1 i, rfl, hy2 (by unfold othp mon; simp [c2])⟩
    · rintro v' ⟨rfl, hx⟩
      show wp (f_X1_takeTorn_B30 b (nI r) ab _ (nI (pN P)) v') _
      unfold f_X1_takeTorn_B30
      rw [h60]
      refine wp_t (by rw [n_le (by omega) (by omega)]; exact Nat.le_refl _) (wp_some ⟨rfl, ?_⟩)
      have e9 : oth P s r σ.1 = pN P := lst_end hx
      omega
    · rintro v' ⟨rfl, hx⟩
      exact b1 (Or.inl rfl) (by rw [if_neg (fun q => hx q.2)])
    · rintro o ⟨hx, h9⟩
      exact wp_some (by rw [if_pos ⟨hi, hx⟩]; exact h9)
  · rw [if_neg hi]
    refine wp_t rfl (b1 (Or.inl rfl) ?_)
    rw [if_neg (fun q => hi q.1)]
