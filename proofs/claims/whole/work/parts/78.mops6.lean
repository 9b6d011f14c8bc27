/-! THE REFERENCE: the calls, sixth part -/
/-- texts change: arrays 5 and 6 alone -/
theorem txM {u u' : gV} {a : Ab} {l0 l1 : List Int32} (h : InvM u a) (hq : ∀ q, q ≠ 5 → q ≠ 6 → u'.1 q = u.1 q) (t0 : T0 u' l0) (t1 : T1 u' l1) : InvM u' (l0, l1, a.2.2) := by
  obtain ⟨⟨o1, o2, o3⟩, -, -, w, s0, s1, s2, tp, sn, sh, la⟩ := h
  refine ⟨⟨t0.2.1, t1.2.1, o3⟩, t0, t1, fun j hj => ?_, ?_, ?_, ?_, ?_, ?_, fun s hs => ?_, ?_⟩
  · rw [hq 9 (by omega) (by omega)]; exact w j hj
  · rw [hq 10 (by omega) (by omega)]; exact s0
  · rw [hq 10 (by omega) (by omega)]; exact s1
  · rw [hq 10 (by omega) (by omega)]; exact s2
  · rw [hq 0 (by omega) (by omega)]; exact tp
  · unfold SN8
    rw [hq 0 (by omega) (by omega), hq 19 (by omega) (by omega)]; exact sn
  · rw [hq 1 (by omega) (by omega), hq 2 (by omega) (by omega), hq 3 (by omega) (by omega)]; exact sh s hs
  · rw [hq 0 (by omega) (by omega)]; exact la
theorem wipe_M {u : gV} {a : Ab} {t : Int32} (h : InvM u a) : OKM (f_X8_wipe t u) (sp_wipe t a) := by
  obtain ⟨-, t0, t1, -⟩ := id h
  unfold OKM f_X8_wipe
  refine wp_gt isTwo_M (fun c1 => ?_) (fun c1 => ?_)
  · have hs : sp_wipe t a = (-2, a) := by unfold sp_wipe; rw [if_neg (by rw [c1]; exact Bool.false_ne_true)]
    rw [hs]; exact wp_some ⟨rfl, h⟩
  · obtain ⟨k, hk, -, ek, ck⟩ := gin_cl c1
    rcases (show k = 0 ∨ k = 1 by omega) with rfl | rfl
    · have e0 : t = 0 := ek
      have hs : sp_wipe t a = (nI (aT0 a).length, ([], a.2)) := by unfold sp_wipe; rw [if_pos c1, if_pos e0]
      rw [hs, ck]
      refine wp_t c1 (wp_bd (wp_t c1 (wp_bd (wp_some ⟨t0.1, ?_⟩))))
      exact txM (l0 := []) (l1 := aT1 a) h (fun q _ h6 => sI_n h6) ⟨sI_s, Nat.zero_le _, fun i hi => absurd hi (Nat.not_lt_zero i)⟩ ⟨by rw [sI_o (by omega)]; exact t1.1, t1.2.1, fun i hi => by rw [sI_n (by omega)]; exact t1.2.2 i hi⟩
    · have e0 : ¬ t = 0 := by rw [ek]; decide
      have hs : sp_wipe t a = (nI (aT1 a).length, (a.1, [], a.2.2)) := by unfold sp_wipe; rw [if_pos c1, if_neg e0]
      rw [hs, ck]
      refine wp_t c1 (wp_bd (wp_t c1 (wp_bd (wp_some ⟨t1.1, ?_⟩))))
      exact txM (l0 := aT0 a) (l1 := []) h (fun q _ h6 => sI_n h6) ⟨by rw [sI_o (by omega)]; exact t0.1, t0.2.1, fun i hi => by rw [sI_n (by omega)]; exact t0.2.2 i hi⟩ ⟨sI_s, Nat.zero_le _, fun i hi => absurd hi (Nat.not_lt_zero i)⟩
theorem gd_tk {l : List Int32} {n i : Nat} (h : i < n) : (l.take n).getD i 0 = l.getD i 0 := by
  rw [List.getD_eq_getElem?_getD, List.getD_eq_getElem?_getD, List.getElem?_take_of_lt h]
theorem undo_M {u : gV} {a : Ab} {t : Int32} (h : InvM u a) : OKM (f_X8_undo t u) (sp_undo t a) := by
  obtain ⟨-, t0, t1, -⟩ := id h
  have l0 := t0.2.1
  have l1 := t1.2.1
  unfold OKM f_X8_undo
  refine wp_gt isTwo_M (fun c1 => ?_) (fun c1 => ?_)
  · have hs : sp_undo t a = (-2, a) := by unfold sp_undo; rw [if_neg (by rw [c1]; exact Bool.false_ne_true)]
    rw [hs]; exact wp_some ⟨rfl, h⟩
  · obtain ⟨k, hk, -, ek, ck⟩ := gin_cl c1
    rcases (show k = 0 ∨ k = 1 by omega) with rfl | rfl
    · have e0 : t = 0 := ek
      have hs : sp_undo t a = (if (aT0 a).length = 0 then (-3, a) else (nI ((aT0 a).length - 1), ((aT0 a).take ((aT0 a).length - 1), a.2))) := by unfold sp_undo; rw [if_pos c1, if_pos e0]
      rw [hs, ck, t0.1]
      refine wp_t c1 (wp_if (fun c2 => ?_) (fun c2 => ?_))
      · rw [l_0, n_eq (by omega) (by omega)] at c2
        rw [if_pos c2]; exact wp_some ⟨rfl, h⟩
      · rw [l_0, n_eq (by omega) (by omega)] at c2
        rw [if_neg c2, l_1, n_sub (by omega)]
        have hl : ((aT0 a).take ((aT0 a).length - 1)).length = (aT0 a).length - 1 := by rw [List.length_take]; omega
        refine wp_t c1 (wp_t c1 (wp_bd (wp_t c1 (wp_some ⟨show (sI u 6 0 (nI ((aT0 a).length - 1))).1 6 0 = _ from sI_s, ?_⟩))))
        exact txM (l0 := (aT0 a).take ((aT0 a).length - 1)) (l1 := aT1 a) h (fun q _ h6 => sI_n h6) ⟨by rw [hl]; exact sI_s, by omega, fun i hi => by rw [hl] at hi; rw [sI_n (by omega), gd_tk hi]; exact t0.2.2 i (by omega)⟩ ⟨by rw [sI_o (by omega)]; exact t1.1, t1.2.1, fun i hi => by rw [sI_n (by omega)]; exact t1.2.2 i hi⟩
    · have e0 : ¬ t = 0 := by rw [ek]; decide
      have hs : sp_undo t a = (if (aT1 a).length = 0 then (-3, a) else (nI ((aT1 a).length - 1), (a.1, (aT1 a).take ((aT1 a).length - 1), a.2.2))) := by unfold sp_undo; rw [if_pos c1, if_neg e0]
      rw [hs, ck, t1.1]
      refine wp_t c1 (wp_if (fun c2 => ?_) (fun c2 => ?_))
      · rw [l_0, n_eq (by omega) (by omega)] at c2
        rw [if_pos c2]; exact wp_some ⟨rfl, h⟩
      · rw [l_0, n_eq (by omega) (by omega)] at c2
        rw [if_neg c2, l_1, n_sub (by omega)]
        have hl : ((aT1 a).take ((aT1 a).length - 1)).length = (aT1 a).length - 1 := by rw [List.length_take]; omega
        refine wp_t c1 (wp_t c1 (wp_bd (wp_t c1 (wp_some ⟨show (sI u 6 1 (nI ((aT1 a).length - 1))).1 6 1 = _ from sI_s, ?_⟩))))
        exact txM (l0 := aT0 a) (l1 := (aT1 a).take ((aT1 a).length - 1)) h (fun q _ h6 => sI_n h6) ⟨by rw [sI_o (by omega)]; exact t0.1, t0.2.1, fun i hi => by rw [sI_n (by omega)]; exact t0.2.2 i hi⟩ ⟨by rw [hl]; exact sI_s, by omega, fun i hi => by rw [hl] at hi; rw [sI_n (by omega), gd_tk hi]; exact t1.2.2 i (by omega)⟩
