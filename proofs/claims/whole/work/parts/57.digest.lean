/-! THE CALLS: digest -/
def dg (h : Int64) (x : Int32) : Int64 := (31 : Int64) * h + x.toInt64
def dgL (h x : Int64) : Int64 := (31 : Int64) * h + x
def fo (f : Nat → Int64 → Int64) : Nat → Int64 → Int64
  | 0, h => h
  | n + 1, h => f n (fo f n h)
def dgR (a : Ab) (x : Int32) (h : Int64) : Int64 := dgL (dgL (dg (dg (dg (dg (dg (dg (dg (fo (fun i h => dg h (sp_rider x (nI i) a).1) 4 h) (sp_has 0 x a).1) (sp_has 9 x a).1) (sp_torn 9 x a).1) (sp_gets x a).1) (sp_open x 0 a).1) (sp_open x 1 a).1) (sp_had x a).1) (sp_maybe 5 3 x 0 a).1) (sp_maybe 5 3 x 1 a).1
def dgD (a : Ab) (d : Int32) (h : Int64) : Int64 := dg (dg (dg (dg h (sp_served d a).1) (sp_bag d (-1) a).1) (sp_bag d 0 a).1) (sp_ask d a).1
def dgE (a : Ab) (h : Int64) : Int64 := dg (dg (dg (dg (dg (dg (dg (dg (dg (dg h (sp_still a).1) (sp_rings 0 a).1) (sp_rings 1 a).1) (sp_least 0 a).1) (sp_least 1 a).1) (sp_top 0 a).1) (sp_top 1 a).1) (sp_was a).1) (sp_depot 7 9 0 a).1) (sp_depot 7 9 1 a).1
def sp_digest (a : Ab) : Int64 := dgE a (fo (fun i h => dg h (sp_first (nI i) a).1) 3 (dgD a 9 (dgD a 4 (dgD a 0 (fo (fun r h => dgR a (nI r) h) (nRi (aT0 a)) (dg (dg (fo (fun i h => dg h (sp_count (nI i) a).1) 8 17) (sp_fault 0 a).1) (sp_fault 1 a).1))))))
theorem q_fault {t : Int32} {a : Ab} : (sp_fault t a).2 = a := by
  unfold sp_fault
  repeat' split
  all_goals rfl
theorem q_rider {r w : Int32} {a : Ab} : (sp_rider r w a).2 = a := by
  unfold sp_rider
  repeat' split
  all_goals rfl
theorem q_has {d r : Int32} {a : Ab} : (sp_has d r a).2 = a := by
  unfold sp_has
  repeat' split
  all_goals rfl
theorem q_torn {d r : Int32} {a : Ab} : (sp_torn d r a).2 = a := by
  unfold sp_torn
  repeat' split
  all_goals rfl
theorem q_bag {d i : Int32} {a : Ab} : (sp_bag d i a).2 = a := by
  unfold sp_bag
  repeat' split
  all_goals rfl
theorem q_gets {r : Int32} {a : Ab} : (sp_gets r a).2 = a := by
  unfold sp_gets
  repeat' split
  all_goals rfl
theorem q_first {w : Int32} {a : Ab} : (sp_first w a).2 = a := by
  unfold sp_first
  repeat' split
  all_goals rfl
theorem q_served {d : Int32} {a : Ab} : (sp_served d a).2 = a := by
  unfold sp_served
  repeat' split
  all_goals rfl
theorem q_count {w : Int32} {a : Ab} : (sp_count w a).2 = a := by
  unfold sp_count
  repeat' split
  all_goals rfl
theorem q_least {w : Int32} {a : Ab} : (sp_least w a).2 = a := by
  unfold sp_least
  repeat' split
  all_goals rfl
theorem q_top {w : Int32} {a : Ab} : (sp_top w a).2 = a := by
  unfold sp_top
  repeat' split
  all_goals rfl
theorem q_had {r : Int32} {a : Ab} : (sp_had r a).2 = a := by
  unfold sp_had
  repeat' split
  all_goals rfl
theorem q_depot {s n w : Int32} {a : Ab} : (sp_depot s n w a).2 = a := by
  unfold sp_depot
  repeat' split
  all_goals rfl
theorem q_ask {d : Int32} {a : Ab} : (sp_ask d a).2 = a := by
  unfold sp_ask
  repeat' split
  all_goals rfl
theorem q_rings {w : Int32} {a : Ab} : (sp_rings w a).2 = a := by
  unfold sp_rings
  repeat' split
  all_goals rfl
theorem q_open {r w : Int32} {a : Ab} : (sp_open r w a).2 = a := by
  unfold sp_open
  repeat' split
  all_goals rfl
theorem q_maybe {c d r w : Int32} {a : Ab} : (sp_maybe c d r w a).2 = a := by
  unfold sp_maybe
  split <;> rfl
theorem wp_dg {ρ : Type} {o : Option (Int32 × gV)} {s : Int32 × Ab} {a : Ab} {c : Nat} {h : Int64} {K : Int64 → gV → Option ρ} {Q : ρ → Prop} (ho : OKX o s c) (hs : s.2 = a) (hk : ∀ v', InvX v' a (c + 1) → wp (K (dg h s.1) v') Q) : wp (bi o (fun r v1 => bj (f_X7_mix h r.toInt64 v1) K)) Q := by
  refine wp_bi ho ?_
  rintro r v1 ⟨e1, e2⟩
  have e1 : r = s.1 := e1
  subst e1
  rw [hs] at e2
  exact hk v1 e2
theorem wp_dgL {ρ : Type} {o : Option (Int64 × gV)} {s : Int64 × Ab} {a : Ab} {c : Nat} {h : Int64} {K : Int64 → gV → Option ρ} {Q : ρ → Prop} (ho : OKL o s c) (hs : s.2 = a) (hk : ∀ v', InvX v' a (c + 1) → wp (K (dgL h s.1) v') Q) : wp (bj o (fun r v1 => bj (f_X7_mix h r v1) K)) Q := by
  refine wp_bj ho ?_
  rintro r v1 ⟨e1, e2⟩
  have e1 : r = s.1 := e1
  subst e1
  rw [hs] at e2
  exact hk v1 e2
theorem wp_fo {f : gV × Int64 × Int32 → Option ((gV × Int64 × Int32) ⊕ (gV × Int64))} {F : Nat → Int64 → Int64} {a : Ab} {c k n : Nat} {v : gV} {h : Int64} (hv : InvX v a c) (hn : n < 2147483648) (hs : ∀ i v h, i < n → InvX v a (c + k * i) → wp (f (v, h, nI i)) (SE (fun z => InvX z.1 a (c + k * (i + 1)) ∧ z.2.1 = F i h ∧ z.2.2 = nI (i + 1)) (fun _ => False))) (he : ∀ v h, InvX v a (c + k * n) → f (v, h, nI n) = some (.inr (v, h))) : wp (lp f fu (v, h, (0 : Int32))) (fun z => InvX z.1 a (c + k * n) ∧ z.2 = fo F n h) := by
  refine wp_ct (fun i z => InvX z.1 a (c + k * i) ∧ z.2.1 = fo F i h ∧ z.2.2 = nI i) n 0 _ hn (Nat.zero_le _) ⟨hv, rfl, rfl⟩ ?_ ?_
  · rintro i ⟨v1, x, y⟩ hi ⟨e1, e2, e3⟩
    have e2 : x = fo F i h := e2
    have e3 : y = nI i := e3
    subst e2 e3
    refine wp_mono (hs i v1 _ hi e1) (fun o ho => ?_)
    cases o with
    | inl z => exact ho
    | inr z => exact absurd ho id
  · rintro ⟨v1, x, y⟩ ⟨e1, e2, e3⟩
    have e2 : x = fo F n h := e2
    have e3 : y = nI n := e3
    subst e2 e3
    exact wp_eq (he v1 _ e1) ⟨e1, rfl⟩
theorem dgB6_ok {v : gV} {a : Ab} {c : Nat} {h : Int64} (hv : InvX v a c) (hc : c < 999960) : wp (lp (fun a : gV × Int64 × Int32 => f_X7_digest_B6 a.2.1 a.2.2 a.1) fu (v, h, (0 : Int32))) (fun z => InvX z.1 a (c + 1 * 8) ∧ z.2 = fo (fun i h => dg h (sp_count (nI i) a).1) 8 h) := by
  refine wp_fo hv (by omega) (fun i v1 h1 hi hv1 => ?_) (fun v1 h1 _ => ?_)
  · show wp (f_X7_digest_B6 h1 (nI i) v1) _
    unfold f_X7_digest_B6
    refine wp_f (by rw [l_8, n_le (by omega) (by omega)]; omega) (wp_dg (count_X hv1 (by omega)) q_count (fun v2 hv2 => wp_some ⟨?_, rfl, nI_1 i⟩))
    rw [Nat.one_mul]; rw [Nat.one_mul] at hv2; exact hv2
  · show f_X7_digest_B6 h1 (nI 8) v1 = _
    unfold f_X7_digest_B6
    rw [if_pos (by rw [l_8]; exact (n_le (by omega) (by omega)).mpr (Nat.le_refl 8))]
theorem dgB65_ok {v : gV} {a : Ab} {c : Nat} {h : Int64} {x : Int32} (hv : InvX v a c) (hc : c < 999960) : wp (lp (fun a : gV × Int64 × Int32 => f_X7_digest_B65 a.2.1 x a.2.2 a.1) fu (v, h, (0 : Int32))) (fun z => InvX z.1 a (c + 1 * 4) ∧ z.2 = fo (fun i h => dg h (sp_rider x (nI i) a).1) 4 h) := by
  refine wp_fo hv (by omega) (fun i v1 h1 hi hv1 => ?_) (fun v1 h1 _ => ?_)
  · show wp (f_X7_digest_B65 h1 x (nI i) v1) _
    unfold f_X7_digest_B65
    refine wp_f (by rw [l_4, n_le (by omega) (by omega)]; omega) (wp_dg (rider_X hv1 (by omega)) q_rider (fun v2 hv2 => wp_some ⟨?_, rfl, nI_1 i⟩))
    rw [Nat.one_mul]; rw [Nat.one_mul] at hv2; exact hv2
  · show f_X7_digest_B65 h1 x (nI 4) v1 = _
    unfold f_X7_digest_B65
    rw [if_pos (by rw [l_4]; exact (n_le (by omega) (by omega)).mpr (Nat.le_refl 4))]
theorem dgB274_ok {v : gV} {a : Ab} {c : Nat} {h : Int64} (hv : InvX v a c) (hc : c < 999960) : wp (lp (fun a : gV × Int64 × Int32 => f_X7_digest_B274 a.2.1 a.2.2 a.1) fu (v, h, (0 : Int32))) (fun z => InvX z.1 a (c + 1 * 3) ∧ z.2 = fo (fun i h => dg h (sp_first (nI i) a).1) 3 h) := by
  refine wp_fo hv (by omega) (fun i v1 h1 hi hv1 => ?_) (fun v1 h1 _ => ?_)
  · show wp (f_X7_digest_B274 h1 (nI i) v1) _
    unfold f_X7_digest_B274
    refine wp_f (by rw [l_3, n_le (by omega) (by omega)]; omega) (wp_dg (first_X hv1 (by omega)) q_first (fun v2 hv2 => wp_some ⟨?_, rfl, nI_1 i⟩))
    rw [Nat.one_mul]; rw [Nat.one_mul] at hv2; exact hv2
  · show f_X7_digest_B274 h1 (nI 3) v1 = _
    unfold f_X7_digest_B274
    rw [if_pos (by rw [l_3]; exact (n_le (by omega) (by omega)).mpr (Nat.le_refl 3))]
theorem dgB51_ok {v : gV} {a : Ab} {c : Nat} {h : Int64} (hv : InvX v a c) (hc : c < 999700) : wp (lp (fun a : gV × Int64 × Int32 => f_X7_digest_B51 a.2.1 a.2.2 a.1) fu (v, h, (0 : Int32))) (fun z => InvX z.1 a (c + 13 * nRi (aT0 a)) ∧ z.2 = fo (fun r h => dgR a (nI r) h) (nRi (aT0 a)) h) := by
  have hn := nRi_le hv.1.1
  refine wp_fo hv (by omega) (fun i v1 h1 hi hv1 => ?_) (fun v1 h1 hv1 => ?_)
  · have h60 : v1.1 6 0 = nI (nRi (aT0 a)) := hv1.2.2.2.1.1.2.1
    show wp (f_X7_digest_B51 h1 (nI i) v1) _
    unfold f_X7_digest_B51
    rw [h60]
    refine wp_f (by rw [n_le (by omega) (by omega)]; omega) (wp_bx2 (dgB65_ok hv1 (by omega)) ?_)
    rintro v2 h2 ⟨hv2, e2⟩
    have e2 : h2 = _ := e2
    subst e2
    have hv2 : InvX v2 a (c + 13 * i + 1 * 4) := hv2
    refine wp_dg (has_X hv2 (by omega)) q_has (fun v3 hv3 => ?_)
    refine wp_dg (has_X hv3 (by omega)) q_has (fun v4 hv4 => ?_)
    refine wp_dg (torn_X hv4 (by omega)) q_torn (fun v5 hv5 => ?_)
    refine wp_dg (gets_X hv5 (by omega)) q_gets (fun v6 hv6 => ?_)
    refine wp_dg (open_X hv6 (by omega)) q_open (fun v7 hv7 => ?_)
    refine wp_dg (open_X hv7 (by omega)) q_open (fun v8 hv8 => ?_)
    refine wp_dg (had_X hv8 (by omega)) q_had (fun v9 hv9 => ?_)
    refine wp_dgL (maybe_X hv9 (by omega)) q_maybe (fun v10 hv10 => ?_)
    refine wp_dgL (maybe_X hv10 (by omega)) q_maybe (fun v11 hv11 => ?_)
    exact wp_some ⟨hv11.mono (by omega) (by omega), rfl, nI_1 i⟩
  · have h60 : v1.1 6 0 = nI (nRi (aT0 a)) := hv1.2.2.2.1.1.2.1
    show f_X7_digest_B51 h1 (nI (nRi (aT0 a))) v1 = _
    unfold f_X7_digest_B51
    rw [h60, if_pos ((n_le (by omega) (by omega)).mpr (Nat.le_refl _))]
def dg3 (a : Ab) (i : Nat) (h : Int64) : Int64 := if i = 0 then dgD a 0 h else if i = 1 then dgD a 4 h else dgD a 9 h
theorem dgJ_ok {v : gV} {a : Ab} {c : Nat} {h : Int64} {x d : Int32} (hv : InvX v a c) (hc : c < 999960) : wp (f_X7_digest_J220 h x d v) (SE (fun z => InvX z.1 a (c + 4) ∧ z.2.1 = dgD a d h ∧ z.2.2 = x + 1) (fun _ => False)) := by
  unfold f_X7_digest_J220
  refine wp_dg (served_X hv (by omega)) q_served (fun v3 hv3 => ?_)
  refine wp_dg (bag_X hv3 (by omega)) q_bag (fun v4 hv4 => ?_)
  refine wp_dg (bag_X hv4 (by omega)) q_bag (fun v5 hv5 => ?_)
  refine wp_dg (ask_X hv5 (by omega)) q_ask (fun v6 hv6 => ?_)
  exact wp_some ⟨hv6, rfl, rfl⟩
theorem dgB196_ok {v : gV} {a : Ab} {c : Nat} {h : Int64} (hv : InvX v a c) (hc : c < 999700) : wp (lp (fun a : gV × Int64 × Int32 => f_X7_digest_B196 a.2.1 a.2.2 a.1) fu (v, h, (0 : Int32))) (fun z => InvX z.1 a (c + 4 * 3) ∧ z.2 = fo (dg3 a) 3 h) := by
  refine wp_fo hv (by omega) (fun i v1 h1 hi hv1 => ?_) (fun v1 h1 _ => ?_)
  · show wp (f_X7_digest_B196 h1 (nI i) v1) _
    unfold f_X7_digest_B196 dg3
    refine wp_f (by rw [l_3, n_le (by omega) (by omega)]; omega) ?_
    rcases (show i = 0 ∨ i = 1 ∨ i = 2 by omega) with rfl | rfl | rfl
    · refine wp_t rfl ?_
      rw [if_pos rfl]
      exact dgJ_ok hv1 (by omega)
    · refine wp_f (by decide) (wp_t rfl ?_)
      rw [if_neg (by decide), if_pos rfl]
      exact dgJ_ok hv1 (by omega)
    · refine wp_f (by decide) (wp_f (by decide) ?_)
      rw [if_neg (by decide), if_neg (by decide)]
      exact dgJ_ok hv1 (by omega)
  · show f_X7_digest_B196 h1 (nI 3) v1 = _
    unfold f_X7_digest_B196
    rw [if_pos (by rw [l_3]; exact (n_le (by omega) (by omega)).mpr (Nat.le_refl 3))]
theorem digest_X {v : gV} {a : Ab} {c : Nat} (hv : InvX v a c) (hc : c < 999000) : wp (f_X7_digest v) (fun z => z.1 = sp_digest a ∧ InvX z.2 a (c + 300)) := by
  have hn := nRi_le hv.1.1
  unfold f_X7_digest
  refine wp_bx2 (dgB6_ok hv (by omega)) ?_
  rintro v1 h1 ⟨hv1, e1⟩
  have e1 : h1 = _ := e1
  subst e1
  have hv1 : InvX v1 a (c + 1 * 8) := hv1
  refine wp_dg (fault_X hv1 (by omega)) q_fault (fun v2 hv2 => ?_)
  refine wp_dg (fault_X hv2 (by omega)) q_fault (fun v3 hv3 => ?_)
  refine wp_bx2 (dgB51_ok hv3 (by omega)) ?_
  rintro v4 h4 ⟨hv4, e4⟩
  have e4 : h4 = _ := e4
  have hv4 : InvX v4 a (c + 1 * 8 + 1 + 1 + 13 * nRi (aT0 a)) := hv4
  refine wp_bx2 (dgB196_ok hv4 (by omega)) ?_
  rintro v5 h5 ⟨hv5, e5⟩
  have e5 : h5 = dgD a 9 (dgD a 4 (dgD a 0 h4)) := e5
  have hv5 : InvX v5 a (c + 1 * 8 + 1 + 1 + 13 * nRi (aT0 a) + 4 * 3) := hv5
  refine wp_bx2 (dgB274_ok hv5 (by omega)) ?_
  rintro v6 h6 ⟨hv6, e6⟩
  have e6 : h6 = _ := e6
  have hv6 : InvX v6 a (c + 1 * 8 + 1 + 1 + 13 * nRi (aT0 a) + 4 * 3 + 1 * 3) := hv6
  have hs : sp_digest a = dgE a h6 := by rw [e6, e5, e4]; rfl
  rw [hs]
  refine wp_dg (still_X hv6 (by omega)) rfl (fun v7 hv7 => ?_)
  refine wp_dg (rings_X hv7 (by omega)) q_rings (fun v8 hv8 => ?_)
  refine wp_dg (rings_X hv8 (by omega)) q_rings (fun v9 hv9 => ?_)
  refine wp_dg (least_X hv9 (by omega)) q_least (fun v10 hv10 => ?_)
  refine wp_dg (least_X hv10 (by omega)) q_least (fun v11 hv11 => ?_)
  refine wp_dg (top_X hv11 (by omega)) q_top (fun v12 hv12 => ?_)
  refine wp_dg (top_X hv12 (by omega)) q_top (fun v13 hv13 => ?_)
  refine wp_dg (was_X hv13 (by omega)) rfl (fun v14 hv14 => ?_)
  refine wp_dg (depot_X hv14 (by omega)) q_depot (fun v15 hv15 => ?_)
  refine wp_dg (depot_X hv15 (by omega)) q_depot (fun v16 hv16 => ?_)
  exact wp_some ⟨rfl, hv16.mono (by omega) (by omega)⟩

