/-! THE CLASS: a stop -/
def RS (v : gV) (b : Nat) (P : Pm) (x : Sc) : Prop := RT v b P x.1 ∧ v.1 b 11 = nI x.2.1 ∧ v.1 b 12 = x.2.2.1 ∧ v.1 b 13 = x.2.2.2.1 ∧ v.1 b 14 = x.2.2.2.2
def FC (b : Nat) (v v' : gV) : Prop := (∀ q, q ≠ b → q ≠ b + 1 → q ≠ b + 2 → q ≠ b + 3 → v'.1 q = v.1 q) ∧ (∀ j, j ≠ 5 → j ≠ 11 → j ≠ 12 → j ≠ 13 → j ≠ 14 → v'.1 b j = v.1 b j) ∧ v'.2 = v.2
theorem FC.rf {b : Nat} {v : gV} : FC b v v := ⟨fun _ _ _ _ _ => rfl, fun _ _ _ _ _ _ => rfl, rfl⟩
theorem FC.tr {b : Nat} {v v' v'' : gV} (h : FC b v v') (h' : FC b v' v'') : FC b v v'' := ⟨fun q h1 h2 h3 h4 => (h'.1 q h1 h2 h3 h4).trans (h.1 q h1 h2 h3 h4), fun j a1 a2 a3 a4 a5 => (h'.2.1 j a1 a2 a3 a4 a5).trans (h.2.1 j a1 a2 a3 a4 a5), h'.2.2.trans h.2.2⟩
theorem FS.C {b : Nat} {v v' : gV} (h : FS b v v') : FC b v v' := ⟨h.1, fun j a1 _ _ _ _ => h.2.1 j a1, h.2.2⟩
theorem FC.fld {b j : Nat} {v : gV} {x : Int32} (hj : j = 5 ∨ j = 11 ∨ j = 12 ∨ j = 13 ∨ j = 14) : FC b v (sI v b j x) := ⟨fun q h1 _ _ _ => sI_n h1, fun k a1 a2 a3 a4 a5 => sI_o (by omega), rfl⟩
theorem FC.td {b : Nat} {v v' : gV} {P : Pm} (hb : 16 ≤ b) (h : FC b v v') (hT : TD v P) : TD v' P := hT.kept (fun q hq => h.1 q (by omega) (by omega) (by omega) (by omega))
theorem RT.fld {v : gV} {b j : Nat} {P : Pm} {σ : St} {x : Int32} (h : RT v b P σ) (hj : j ≠ 5) : RT (sI v b j x) b P σ := ⟨fun i hi => by rw [sI_n (by omega)]; exact h.1 i hi, h.2.1.kept (by rw [sI_n (by omega)]) (fun k _ => by rw [sI_n (by omega)]), fun i hi => by rw [sI_o (fun e => hj e.symm)]; exact h.2.2 i hi⟩
theorem made_ok {v v0 : gV} {b d s i : Nat} {P : Pm} {x : Sc} {σ : St} {x3 : Int32} (hx : okC P x) (hR : RT v b P σ) (h0 : v0.1 b 11 = nI x.2.1 ∧ v0.1 b 12 = x.2.2.1 ∧ v0.1 b 13 = x.2.2.2.1 ∧ v0.1 b 14 = x.2.2.2.2) (hF : FS b v0 v) : wp (f_X1_changeAt_J77 b (nI d) (nI s) x3 (nI i) v) (SE (fun a' => a'.2 = nI (i + 1) ∧ RS a'.1 b P (σ, x.2.1 + 1, if x.2.1 = 0 then (nI d, nI s, nI i) else x.2.2) ∧ FC b v0 a'.1) (fun _ => False)) := by
  unfold f_X1_changeAt_J77
  have e11 : v.1 b 11 = nI x.2.1 := (hF.2.1 11 (by omega)).trans h0.1
  have e12 : v.1 b 12 = x.2.2.1 := (hF.2.1 12 (by omega)).trans h0.2.1
  have e13 : v.1 b 13 = x.2.2.2.1 := (hF.2.1 13 (by omega)).trans h0.2.2.1
  have e14 : v.1 b 14 = x.2.2.2.2 := (hF.2.1 14 (by omega)).trans h0.2.2.2
  rw [e11, l_1, n_add]
  refine wp_bd ?_
  rw [sI_o (by omega), e12]
  refine wp_if (fun c => ?_) (fun c => ?_)
  · have hm : x.2.1 = 0 := by
      rcases Nat.eq_zero_or_pos x.2.1 with h | h
      · exact h
      · exact absurd c (hx.2.2.1 h)
    rw [if_pos hm]
    refine wp_bd (wp_bd (wp_bd (wp_eq rfl ⟨nI_1 i, ⟨(((hR.fld (by omega)).fld (by omega)).fld (by omega)).fld (by omega), ?_, ?_, ?_, ?_⟩, ?_⟩)))
    · rw [sI_o (by omega), sI_o (by omega), sI_o (by omega), sI_s]
    · rw [sI_o (by omega), sI_o (by omega), sI_s]
    · rw [sI_o (by omega), sI_s]
    · rw [sI_s]
    · exact (((hF.C.tr (FC.fld (by omega))).tr (FC.fld (by omega))).tr (FC.fld (by omega))).tr (FC.fld (by omega))
  · have hm : ¬ x.2.1 = 0 := fun e => c (hx.2.1 e)
    rw [if_neg hm]
    refine wp_eq rfl ⟨nI_1 i, ⟨hR.fld (by omega), ?_, ?_, ?_, ?_⟩, ?_⟩
    · rw [sI_s]
    · rw [sI_o (by omega)]; exact e12
    · rw [sI_o (by omega)]; exact e13
    · rw [sI_o (by omega)]; exact e14
    · exact hF.C.tr (FC.fld (by omega))
theorem changeAt_ok {v : gV} {b d s : Nat} {P : Pm} {x : Sc} (hb : 16 ≤ b) (hd : d < 10) (hs : s < 10) (hT : TD v P) (hE : v.1 b 1 = pE P) (hR : RS v b P x) (hA : okA P x) : wp (f_X1_changeAt b (nI d) (nI s) v) (fun v' => RS v' b P (itN (chS P d s) (pN P) x) ∧ FC b v v') := by
  obtain ⟨hP, h60, h10, h15, h611, h11, h12⟩ := id hT
  have hn := hP.1
  unfold f_X1_changeAt
  refine wp_t (gin_N (by omega) (by omega)) (wp_bd ?_)
  rw [n_cl (by omega)]
  refine wp_bx1 (wp_cnt (Z := fun v' => RS v' b P (itN (chS P d s) (pN P) x) ∧ FC b v v') (fun i v' => RS v' b P (itN (chS P d s) i x) ∧ FC b v v') (pN P) 0 v (by omega) (Nat.zero_le _) ⟨hR, FC.rf⟩ ?_ ?_) (fun v' h => wp_some h)
  · rintro i v1 hi ⟨hR1, hF1⟩
    show wp (f_X1_changeAt_B13 b (nI d) (nI s) (v.1 11 s) (nI i) v1) _
    have hA1 := chI_ok hP hd hA i (by omega) (s := s)
    have hT1 := hF1.td hb hT
    have e60 : v1.1 6 0 = nI (pN P) := hT1.2.1
    have eE : v1.1 b 1 = pE P := (hF1.2.1 1 (by omega) (by omega) (by omega) (by omega) (by omega)).trans hE
    generalize hy : itN (chS P d s) i x = y at hR1 hA1
    have hgoal : itN (chS P d s) (i + 1) x = chS P d s i y := by rw [itN, hy]
    rw [hgoal]
    have skip : chg P s i y.1 = none → wp (f_X1_changeAt_J111 b (nI d) (nI s) (v.1 11 s) (nI i) v1) (SE (fun a' => a'.2 = nI (i + 1) ∧ RS a'.1 b P (chS P d s i y) ∧ FC b v a'.1) (fun b_1 => RS b_1 b P (itN (chS P d s) (pN P) x) ∧ FC b v b_1)) := fun hc => wp_eq rfl ⟨nI_1 i, by rw [chS_none hc]; exact hR1, hF1⟩
    have act : ∀ {σ : St} {v2 : gV}, chg P s i y.1 = some σ → RT v2 b P σ → FS b v1 v2 → wp (f_X1_changeAt_J77 b (nI d) (nI s) (v.1 11 s) (nI i) v2) (SE (fun a' => a'.2 = nI (i + 1) ∧ RS a'.1 b P (chS P d s i y) ∧ FC b v a'.1) (fun b_1 => RS b_1 b P (itN (chS P d s) (pN P) x) ∧ FC b v b_1)) := fun hc h1 h2 => by
      refine wp_mono (made_ok (x := y) hA1.1 h1 hR1.2 h2) (fun o ho => ?_)
      cases o with
      | inl a => exact ⟨ho.1, by rw [chS_some hc]; exact ho.2.1, hF1.tr ho.2.2⟩
      | inr a => exact absurd ho id
    unfold f_X1_changeAt_B13
    rw [e60]
    refine wp_f (by rw [n_le (by omega) (by omega)]; omega) (wp_if (fun c => ?_) (fun c => ?_))
    · rw [bt_i (by omega) (h11 s hs i hi)] at c
      refine wp_t (gin_N (by omega) (by omega)) ?_
      rw [n_cl (by omega), hR1.1.1 i hi, eE]
      refine wp_bi (wp_of (mayChange_ok hT1 hi (hA1.1.1.1 i hi))) ?_
      rintro r3 v2 ⟨rfl, rfl⟩
      refine wp_if (fun c2 => ?_) (fun c2 => ?_)
      · rw [b2_0] at c2
        exact skip (by unfold chg mon; rw [if_neg (by simp [c2])])
      · have hm : mon P s y.1.1 i = true := by
          rw [b2_0] at c2
          unfold mon
          rw [c]
          cases hz : myb (pO P) (pE P) (pW P i) (y.1.1 i) with
          | true => rfl
          | false => exact absurd hz c2
        refine wp_bi (takeWhole_ok hb hT1 hR1.1 hi) ?_
        rintro r4 v3 h3
        by_cases hi1 : ix (pW P i) y.1.2.1 < y.1.2.1.length
        · rw [if_pos hi1] at h3
          obtain ⟨h4, h5, h6⟩ := h3
          have h4 : r4 = 1 := h4
          subst h4
          refine wp_f (by decide) (act (σ := _) ?_ h5 h6)
          unfold chg
          rw [if_pos hm, if_pos hi1]
        · rw [if_neg hi1] at h3
          cases h3
          refine wp_t rfl (wp_bi (takeTorn_ok hb hT1 eE (h11 s hs) hR1.1 hA1.1.1 hi hm) ?_)
          rintro r5 v4 h5
          by_cases hi2 : ix (pW P i + 8) y.1.2.1 < y.1.2.1.length ∧ oth P s i y.1.1 < pN P
          · rw [if_pos hi2] at h5
            obtain ⟨h6, h7, h8⟩ := h5
            have h6 : r5 = 1 := h6
            subst h6
            refine wp_f (by decide) (act (σ := _) ?_ h7 h8)
            unfold chg
            rw [if_pos hm, if_neg hi1, if_pos hi2.1, if_pos hi2.2]
          · rw [if_neg hi2] at h5
            cases h5
            refine wp_t rfl (skip ?_)
            unfold chg
            rw [if_pos hm, if_neg hi1]
            by_cases hi3 : ix (pW P i + 8) y.1.2.1 < y.1.2.1.length
            · rw [if_pos hi3, if_neg (fun q => hi2 ⟨hi3, q⟩)]
            · rw [if_neg hi3]
    · rw [bt_i (by omega) (h11 s hs i hi)] at c
      exact skip (by unfold chg mon; rw [if_neg (by simp [c])])
  · rintro v1 ⟨hR1, hF1⟩
    show wp (f_X1_changeAt_B13 b (nI d) (nI s) (v.1 11 s) (nI (pN P)) v1) _
    unfold f_X1_changeAt_B13
    rw [(hF1.td hb hT).2.1]
    exact wp_t (by rw [n_le (by omega) (by omega)]; exact Nat.le_refl _) (wp_some ⟨hR1, hF1⟩)
