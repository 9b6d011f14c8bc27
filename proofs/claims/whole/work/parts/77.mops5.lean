/-! THE REFERENCE: the calls, fifth part -/
theorem setM {u : gV} {a a' : Ab} {m : Nat} {x : Int32} (h : InvM u a) (hO : okAb a') (e0 : a'.1 = a.1) (e1 : a'.2.1 = a.2.1) (e2 : a'.2.2.1 = a.2.2.1) (e3 : a'.2.2.2.2.2.2 = a.2.2.2.2.2.2) (k0 : (sI u 10 m x).1 10 0 = aE a') (k1 : (sI u 10 m x).1 10 1 = aC a') (k2 : (sI u 10 m x).1 10 2 = aF a') : InvM (sI u 10 m x) a' := by
  obtain ⟨-, t0, t1, w, -, -, -, tp, sn, sh, la⟩ := h
  refine ⟨hO, ?_, ?_, fun j hj => ?_, k0, k1, k2, ?_, ?_, ?_, ?_⟩
  · unfold T0 aT0
    rw [e0, sI_n (by omega), sI_n (by omega)]; exact t0
  · unfold T1 aT1
    rw [e1, sI_n (by omega), sI_n (by omega)]; exact t1
  · show _ = a'.2.2.1 j
    rw [e2, sI_n (by omega)]; exact w j hj
  · rw [sI_n (by omega)]; exact tp
  · unfold SN8 aS
    rw [e3, sI_n (by omega), sI_n (by omega)]; exact sn
  · unfold SH8 aSF aSN aSI
    rw [e3, sI_n (by omega), sI_n (by omega), sI_n (by omega)]; exact sh
  · show _ = a'.2.2.2.2.2.2.2.2.2.2
    rw [e3, sI_n (by omega)]; exact la
theorem set_M {u : gV} {a : Ab} {w x : Int32} (h : InvM u a) : OKM (f_X8_set w x u) (sp_set w x a) := by
  obtain ⟨⟨o1, o2, o3, o4, o5, o6, o7⟩, -, -, -, s0, s1, s2, -⟩ := id h
  have gN : ∀ n, gin x n = true → ∃ e, e < n ∧ x = nI e := fun n hx => by
    obtain ⟨e, he, -, rfl, -⟩ := gin_cl hx
    exact ⟨e, he, rfl⟩
  unfold OKM f_X8_set f_X8_set_J23
  refine wp_if (fun c => ?_) (fun c => wp_if (fun c' => ?_) (fun c' => ?_))
  · subst c
    refine wp_gt (in_g 3 (by decide)) (fun c1 => absurd c1 (by decide)) (fun _ => wp_gt (in_g 10 (by decide)) (fun c2 => ?_) (fun c2 => ?_))
    · have hs : sp_set 0 x a = (-2, a) := by unfold sp_set; rw [if_pos rfl, if_neg (by rw [c2]; exact Bool.false_ne_true)]
      rw [hs]; exact wp_some ⟨rfl, h⟩
    · have hs : sp_set 0 x a = (aE a, (a.1, a.2.1, a.2.2.1, x, a.2.2.2.2)) := by unfold sp_set; rw [if_pos rfl, if_pos c2]
      rw [hs]
      obtain ⟨e, he, ex⟩ := gN 10 c2
      refine wp_t (by decide) (wp_bd (wp_t (by decide) (wp_bd (wp_some ⟨s0, ?_⟩))))
      exact setM (m := 0) (a' := (a.1, a.2.1, a.2.2.1, x, a.2.2.2.2)) h ⟨o1, o2, o3, ⟨e, by omega, ex⟩, o5, o6, o7⟩ rfl rfl rfl rfl sI_s (by rw [sI_o (by omega)]; exact s1) (by rw [sI_o (by omega)]; exact s2)
  · subst c'
    refine wp_gt (in_g 3 (by decide)) (fun c1 => absurd c1 (by decide)) (fun _ => wp_gt (in_g 1024 (by decide)) (fun c2 => ?_) (fun c2 => ?_))
    · have hs : sp_set 1 x a = (-2, a) := by unfold sp_set; rw [if_neg (by decide), if_pos rfl, if_neg (by rw [c2]; exact Bool.false_ne_true)]
      rw [hs]; exact wp_some ⟨rfl, h⟩
    · have hs : sp_set 1 x a = (aC a, (a.1, a.2.1, a.2.2.1, a.2.2.2.1, x, a.2.2.2.2.2)) := by unfold sp_set; rw [if_neg (by decide), if_pos rfl, if_pos c2]
      rw [hs]
      obtain ⟨e, he, ex⟩ := gN 1024 c2
      refine wp_t (by decide) (wp_bd (wp_t (by decide) (wp_bd (wp_some ⟨s1, ?_⟩))))
      exact setM (m := 1) (a' := (a.1, a.2.1, a.2.2.1, a.2.2.2.1, x, a.2.2.2.2.2)) h ⟨o1, o2, o3, o4, ⟨e, he, ex⟩, o6, o7⟩ rfl rfl rfl rfl (by rw [sI_o (by omega)]; exact s0) sI_s (by rw [sI_o (by omega)]; exact s2)
  · refine wp_gt (in_g 3 (by decide)) (fun c1 => ?_) (fun c1 => ?_)
    · have c2 : ¬ w = 2 := fun q => by rw [q] at c1; exact absurd c1 (by decide)
      have hs : sp_set w x a = (-2, a) := by unfold sp_set; rw [if_neg c, if_neg c', if_neg c2]
      rw [hs]; exact wp_some ⟨rfl, h⟩
    · have e2 : w = 2 := by
        rcases gin3 c1 with z | z | z
        · exact absurd z c
        · exact absurd z c'
        · exact z
      subst e2
      refine wp_gt (in_g 256 (by decide)) (fun c2 => ?_) (fun c2 => ?_)
      · have hs : sp_set 2 x a = (-2, a) := by unfold sp_set; rw [if_neg c, if_neg c', if_pos rfl, if_neg (by rw [c2]; exact Bool.false_ne_true)]
        rw [hs]; exact wp_some ⟨rfl, h⟩
      · have hs : sp_set 2 x a = (aF a, (a.1, a.2.1, a.2.2.1, a.2.2.2.1, a.2.2.2.2.1, x, a.2.2.2.2.2.2)) := by unfold sp_set; rw [if_neg c, if_neg c', if_pos rfl, if_pos c2]
        rw [hs]
        obtain ⟨e, he, ex⟩ := gN 256 c2
        refine wp_t (by decide) (wp_bd (wp_t (by decide) (wp_bd (wp_some ⟨s2, ?_⟩))))
        exact setM (m := 2) (a' := (a.1, a.2.1, a.2.2.1, a.2.2.2.1, a.2.2.2.2.1, x, a.2.2.2.2.2.2)) h ⟨o1, o2, o3, o4, o5, ⟨e, he, ex⟩, o7⟩ rfl rfl rfl rfl (by rw [sI_o (by omega)]; exact s0) (by rw [sI_o (by omega)]; exact s1) sI_s
