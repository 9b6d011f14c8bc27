/-! THE REFERENCE: the calls, fifth part -/
theorem setM {u : gV} {a a' : Ab} {m : Nat} {x : Int32} (h : InvM u a) (hO : okAb a') (e0 : a'.1 = a.1) (e1 : a'.2.1 = a.2.1) (e2 : a'.2.2.1 = a.2.2.1) (e3 : a'.2.2.2.2.2.2 = a.2.2.2.2.2.2) (k0 : (sI u 10 m x).1 10 0 = aE a') (k1 : (sI u 10 m x).1 10 1 = aC a') (k2 : (sI u 10 m x).1 10 2 = aF a') : InvM (sI u 10 m x) a' := by
  obtain ⟨-, t0, t1, w, -, -, -, tp, sn, sh, la⟩ := h
  refine ⟨hO, ?_, ?_, fun j hj => ?_, k0, k1, k2, ?_, ?_, ?_, ?_⟩
  · unfold T0 aT0
    rw [e0, sI_n (by omega), sI_n (by omega)]; exact t0
  · unfold T1 aT1
    rw [e1, sI_n (by omega), sI_n (by omega)]; exact t1
  · show _ = a'.2.2.1 j
    rw [e2, sI_n (by omega)]; exact w j hj
  · rw [sI_n (by omega)]; exact tp
  · unfold SN8 aS
    rw [e3, sI_n (by omega), sI_n (by omega)]; exact sn
  · unfold SH8 aSF aSN aSI
    rw [e3, sI_n (by omega), sI_n (by omega), sI_n (by omega)]; exact sh
  · show _ = a'.2.2.2.2.2.2.2.2.2.2
    rw [e3, sI_n (by omega)]; exact la
