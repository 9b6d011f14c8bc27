/-! THE REFERENCE: open -/
theorem op_4 (p : Nat → Bool) (n : Nat) : (op p n).2 ≤ 4 := by
  rcases op_inv (p := p) n with ⟨h1, -⟩ | ⟨j, hj, h1, h2, h3, -⟩
  · rw [h1]; exact Nat.le_refl _
  · rw [h2]; exact Nat.le_of_lt h3
theorem openOf_M {u : gV} {a : Ab} {r : Nat} {w : Int32} (h : RDY u a) (hr : r < nRi (aT0 a)) (hw : w = 0 ∨ w = 1) : wp (f_X8_openOf (nI r) w u) (fun z => z.1 = openv a r w ∧ RDY z.2 a) := by
  have hC := h.1.1.2.2.2.2.1
  obtain ⟨N, hN⟩ : ∃ N : Nat, N = 1024 := ⟨_, rfl⟩
  have hv : openv a r w = opw (op (svb a r 9) N) w := by unfold openv; rw [hN]
  rw [hv]
  clear hv
  unfold f_X8_openOf
  rw [h.c0]
  refine wp_t (by decide) (wp_bd (wp_bx3 (wp_ct (Z := fun z => (∃ c, RDY z.1 (cgA a c)) ∧ z.2 = ((op (svb a r 9) N).1, nI (op (svb a r 9) N).2)) (fun i z => z.2.2.2 = nI i ∧ (∃ c, RDY z.1 (cgA a c)) ∧ z.2.1 = (op (svb a r 9) i).1 ∧ z.2.2.1 = nI (op (svb a r 9) i).2) N 0 _ (by omega) (Nat.zero_le _) ⟨rfl, ⟨aC a, h⟩, rfl, rfl⟩ ?_ ?_) ?_))
  · rintro i ⟨v1, x, y, z⟩ hi ⟨e, ⟨c9, hI⟩, hx0, hy0⟩
    have e : z = nI i := e
    have hI : RDY v1 (cgA a c9) := hI
    have hx : x = (op (svb a r 9) i).1 := hx0
    have hy : y = nI (op (svb a r 9) i).2 := hy0
    clear hx0 hy0
    subst e
    have h4 := op_4 (svb a r 9) i
    have hp := pcN_le i
    have bs : op (svb a r 9) (i + 1) = if pcN i < (op (svb a r 9) i).2 ∧ svb a r 9 i = true then (nI i, pcN i) else op (svb a r 9) i := rfl
    show wp (f_X8_openOf_B16 (nI r) w (aC a) x y (nI i) v1) _
    unfold f_X8_openOf_B16 f_X8_openOf_J67 f_X8_openOf_J84 f_X8_openOf_J86
    refine wp_f (by rw [l_1024, n_le (by omega) (by omega)]; omega) (wp_bi (wp_of (ones_M (show i < 1024 by omega))) ?_)
    rintro r3 v2 ⟨rfl, rfl⟩
    rw [hx, hy]
    generalize op (svb a r 9) i = O at *
    refine wp_if (fun c1 => ?_) (fun c1 => ?_)
    · rw [n_le (by omega) (by omega)] at c1
      rw [if_neg (fun q => by omega)] at bs
      exact wp_some ⟨nI_1 i, ⟨c9, hI⟩, by rw [bs], by rw [bs]⟩
    · rw [n_le (by omega) (by omega)] at c1
      have h2 : RDY (sI v1 10 (1 : Int32).toNatClampNeg (nI i)) (cgA a (nI i)) := cgM hI ⟨i, by omega, rfl⟩
      refine wp_t (by decide) (wp_bd (wp_bv (lives_M h2) ?_))
      rintro v5 ⟨h3, hL, -⟩
      have hsv : f_X8_isServed (9 : Int32) (nI r) v5 = some (b2 (svb a r 9 i), v5) := isServed_M (d := 9) h3.tm hL (by omega) hr
      refine wp_bi (wp_of hsv) ?_
      rintro r9 v7 ⟨rfl, rfl⟩
      refine wp_if (fun c2 => ?_) (fun c2 => ?_)
      · have c3 := c2
        rw [b2_0] at c3
        rw [if_neg (fun q => by rw [c3] at q; exact Bool.false_ne_true q.2)] at bs
        exact wp_t c2 (wp_some ⟨nI_1 i, ⟨nI i, h3⟩, by rw [bs], by rw [bs]⟩)
      · have c3 := c2
        rw [b2_0] at c3
        rw [if_pos ⟨by omega, ne_f c3⟩] at bs
        refine wp_f c2 (wp_bi (wp_of (ones_M (show i < 1024 by omega))) ?_)
        rintro r10 v8 ⟨rfl, rfl⟩
        exact wp_some ⟨nI_1 i, ⟨nI i, h3⟩, by rw [bs], by rw [bs]⟩
  · rintro ⟨v1, x, y, z⟩ ⟨e, hI, hx0, hy0⟩
    have e : z = nI N := e
    have hx : x = (op (svb a r 9) N).1 := hx0
    have hy : y = nI (op (svb a r 9) N).2 := hy0
    clear hx0 hy0
    subst e
    show wp (f_X8_openOf_B16 (nI r) w (aC a) x y (nI N) v1) _
    unfold f_X8_openOf_B16
    exact wp_t (by rw [l_1024, n_le (by omega) (by omega)]; omega) (wp_some ⟨hI, by rw [hx, hy]⟩)
  · rintro v1 x y ⟨⟨c9, hI⟩, hb⟩
    have hI : RDY v1 (cgA a c9) := hI
    have hb : (x, y) = ((op (svb a r 9) N).1, nI (op (svb a r 9) N).2) := hb
    have h4 : RDY (sI v1 10 (1 : Int32).toNatClampNeg (aC a)) a := cgM hI hC
    generalize op (svb a r 9) N = O at *
    obtain ⟨rfl, rfl⟩ := Prod.mk.inj hb
    unfold opw
    refine wp_t (by decide) (wp_bd (wp_if (fun c1 => ?_) (fun c1 => wp_if (fun c2 => ?_) (fun c2 => ?_))))
    · rw [if_pos c1]; exact wp_some ⟨c1, h4⟩
    · rw [if_neg c1, if_neg (by rw [c2]; decide)]; exact wp_some ⟨rfl, h4⟩
    · rw [if_neg c1, if_pos (hw.resolve_right c2)]; exact wp_some ⟨rfl, h4⟩
theorem two_of {w : Int32} (h : gin w 2 = true) : w = 0 ∨ w = 1 := by
  obtain ⟨k, hk, -, rfl, -⟩ := gin_cl h
  rcases (show k = 0 ∨ k = 1 by omega) with rfl | rfl
  · exact Or.inl rfl
  · exact Or.inr rfl
theorem open_M {u : gV} {a : Ab} {r w : Int32} (h : InvM u a) : OKM (f_X8_open r w u) (sp_open r w a) := by
  unfold OKM f_X8_open
  refine wp_bv (reads_M h) ?_
  rintro u1 ⟨h1, h2⟩
  refine wp_gt (isRider_M h1.2.1.1 (nRi_le h.1.1)) (fun c1 => ?_) (fun c1 => wp_gt isTwo_M (fun c2 => ?_) (fun c2 => ?_))
  · have hs : sp_open r w a = (-2, a) := by unfold sp_open; rw [if_neg (fun q => by rw [c1] at q; exact Bool.false_ne_true q.1)]
    rw [hs]; exact wp_some ⟨rfl, h1.1⟩
  · have hs : sp_open r w a = (-2, a) := by unfold sp_open; rw [if_neg (fun q => by rw [c2] at q; exact Bool.false_ne_true q.2)]
    rw [hs]; exact wp_some ⟨rfl, h1.1⟩
  · have hs : sp_open r w a = (openv a (r.toNatClampNeg) w, a) := by unfold sp_open; rw [if_pos ⟨c1, c2⟩]
    rw [hs]
    obtain ⟨k, hk, -, rfl, ck⟩ := gin_cl c1
    rw [ck]
    have hq := openOf_M h1 hk (two_of c2)
    generalize openv a k w = V at *
    refine wp_bi hq ?_
    rintro r3 u3 ⟨e1, e2⟩
    exact wp_some ⟨e1, e2.1⟩
