/-! THE REFERENCE: the calls, fourth part -/
theorem rings_M {u : gV} {a : Ab} {w : Int32} (h : InvM u a) : OKM (f_X8_rings w u) (sp_rings w a) := by
  unfold OKM f_X8_rings
  refine wp_bv (reads_M h) ?_
  rintro u1 ⟨h1, h2⟩
  refine wp_gt isTwo_M (fun c1 => ?_) (fun c1 => ?_)
  · have hs : sp_rings w a = (-2, a) := by unfold sp_rings; rw [if_neg (by rw [c1]; exact Bool.false_ne_true)]
    rw [hs]
    exact wp_some ⟨rfl, h1.1⟩
  · have hs : sp_rings w a = (ringv a w, a) := by unfold sp_rings; rw [if_pos c1]
    rw [hs]
    refine wp_bi (wp_of (ringsNow_M h1)) ?_
    rintro r3 u3 ⟨rfl, rfl⟩
    generalize ringv a w = z
    exact wp_some ⟨rfl, h1.1⟩
theorem worth_M {u : gV} {a : Ab} {k x : Int32} (h : InvM u a) : OKM (f_X8_worth k x u) (sp_worth k x a) := by
  unfold OKM f_X8_worth
  refine wp_gt (in_g 8 (by decide)) (fun c1 => ?_) (fun c1 => wp_gt (in_g 10 (by decide)) (fun c2 => ?_) (fun c2 => ?_))
  · have hs : sp_worth k x a = (-2, a) := by unfold sp_worth; rw [if_neg (fun q => by rw [c1] at q; exact Bool.false_ne_true q.1)]
    rw [hs]
    exact wp_some ⟨rfl, h⟩
  · have hs : sp_worth k x a = (-2, a) := by unfold sp_worth; rw [if_neg (fun q => by rw [c2] at q; exact Bool.false_ne_true q.2)]
    rw [hs]
    exact wp_some ⟨rfl, h⟩
  · have hs : sp_worth k x a = (aO a (k.toNatClampNeg), (a.1, a.2.1, upd (aO a) (k.toNatClampNeg) x, a.2.2.2)) := by unfold sp_worth; rw [if_pos ⟨c1, c2⟩]
    rw [hs]
    obtain ⟨⟨o1, o2, o3, o4⟩, t0, t1, w, s0, s1, s2, tp, sn, sh, la⟩ := h
    obtain ⟨m, hm, -, rfl, cm⟩ := gin_cl c1
    have hx := of_decide_eq_true c2
    rw [cm]
    refine wp_t c1 (wp_bd (wp_t c1 (wp_bd (wp_some ⟨w m hm, ⟨o1, o2, fun j hj => ?_, o4⟩, ?_, ?_, fun j hj => ?_, ?_, ?_, ?_, ?_, ?_, fun s hs => ?_, ?_⟩))))
    · show 0 ≤ (upd (aO a) m x j).toInt ∧ (upd (aO a) m x j).toInt ≤ 9
      by_cases e : j = m
      · subst e; rw [up_s]; omega
      · rw [up_n e]; exact o3 j hj
    · show T0 (sI u 9 m x) _
      unfold T0
      rw [sI_n (by omega), sI_n (by omega)]; exact t0
    · show T1 (sI u 9 m x) _
      unfold T1
      rw [sI_n (by omega), sI_n (by omega)]; exact t1
    · show (sI u 9 m x).1 9 j = upd (aO a) m x j
      by_cases e : j = m
      · subst e; rw [sI_s, up_s]
      · rw [sI_o e, up_n e]; exact w j hj
    · show (sI u 9 m x).1 10 0 = _
      rw [sI_n (by omega)]; exact s0
    · show (sI u 9 m x).1 10 1 = _
      rw [sI_n (by omega)]; exact s1
    · show (sI u 9 m x).1 10 2 = _
      rw [sI_n (by omega)]; exact s2
    · show (sI u 9 m x).1 0 13 = _
      rw [sI_n (by omega)]; exact tp
    · show SN8 (sI u 9 m x) _
      unfold SN8
      rw [sI_n (by omega), sI_n (by omega)]; exact sn
    · show (sI u 9 m x).1 1 s = _ ∧ (_ → (sI u 9 m x).1 2 s = _ ∧ ∀ j, _ → (sI u 9 m x).1 3 (60 * s + j) = _)
      rw [sI_n (by omega), sI_n (by omega), sI_n (by omega)]; exact sh s hs
    · show (sI u 9 m x).1 0 4 = _
      rw [sI_n (by omega)]; exact la
