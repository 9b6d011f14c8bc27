/-! THE SPEC's own laws: room, what a day that moves nothing is, no move behind day 7 -/
def ms (P : Pm) (x : Sc) : Nat := smN (pt P x.1.1) (pN P)
theorem it_ind {S : Type} {f : Nat → S → S} {I : S → Prop} : ∀ (n : Nat) (x : S), (∀ i, i < n → ∀ x, I x → I (f i x)) → I x → I (itN f n x)
  | 0, x, _, h => h
  | n + 1, x, hs, h => hs n (by omega) _ (it_ind n x (fun i hi => hs i (by omega)) h)
theorem it_fix {S : Type} {f : Nat → S → S} {μ : S → Nat} : ∀ (n : Nat) (x : S), (∀ i, i < n → ∀ x, μ (f i x) ≤ μ x ∧ (μ (f i x) = μ x → f i x = x)) → μ (itN f n x) ≤ μ x ∧ (μ (itN f n x) = μ x → itN f n x = x ∧ ∀ i, i < n → f i x = x)
  | 0, x, _ => ⟨Nat.le_refl _, fun _ => ⟨rfl, fun i hi => absurd hi (Nat.not_lt_zero i)⟩⟩
  | n + 1, x, hs => by
    obtain ⟨h1, h2⟩ := it_fix n x (fun i hi => hs i (by omega))
    obtain ⟨h3, h4⟩ := hs n (by omega) (itN f n x)
    refine ⟨Nat.le_trans h3 h1, fun he => ?_⟩
    rw [itN] at he ⊢
    have e1 : μ (itN f n x) = μ x := by omega
    obtain ⟨e2, e3⟩ := h2 e1
    rw [e2] at h4 he ⊢
    have e4 := h4 he
    refine ⟨e4, fun i hi => ?_⟩
    rcases Nat.lt_or_ge i n with q | q
    · exact e3 i q
    · have : i = n := by omega
      subst this
      exact e4
theorem it_id {S : Type} {f : Nat → S → S} {x : S} : ∀ (n : Nat), (∀ i, i < n → f i x = x) → itN f n x = x
  | 0, _ => rfl
  | n + 1, h => by rw [itN, it_id n (fun i hi => h i (by omega)), h n (by omega)]
theorem chS_none {P : Pm} {d s r : Nat} {x : Sc} (h : chg P s r x.1 = none) : chS P d s r x = x := by
  unfold chS
  rw [h]
theorem chS_some {P : Pm} {d s r : Nat} {x : Sc} {σ : St} (h : chg P s r x.1 = some σ) : chS P d s r x = (σ, x.2.1 + 1, if x.2.1 = 0 then (nI d, nI s, nI r) else x.2.2) := by
  unfold chS
  rw [h]
/-- a change: what it does to has -/
theorem chg_has {P : Pm} {s r : Nat} {σ σ' : St} (h : chg P s r σ = some σ') : mon P s σ.1 r = true ∧ (∀ q, q < pN P → σ'.1 q = σ.1 q ∨ (pt P σ.1 q = 3 ∧ σ'.1 q = pW P q)) ∧ σ'.1 r = pW P r := by
  unfold chg at h
  split at h
  · rename_i hm
    refine ⟨hm, ?_⟩
    split at h
    · cases h
      refine ⟨fun q hq => ?_, up_s⟩
      show upd σ.1 r (pW P r) q = _ ∨ _ ∧ upd σ.1 r (pW P r) q = _
      by_cases e : q = r
      · subst e; right; exact ⟨mon_pt hm, up_s⟩
      · left; exact up_n e
    · split at h
      · split at h
        · rename_i ho
          cases h
          obtain ⟨o1, o2, o3⟩ := oth_ok ho
          generalize oth P s r σ.1 = q9 at *
          refine ⟨fun q hq => ?_, ?_⟩
          · show upd (upd σ.1 r (pW P r)) q9 (pW P r) q = _ ∨ _ ∧ upd (upd σ.1 r (pW P r)) q9 (pW P r) q = _
            by_cases e : q = q9
            · subst e; right; exact ⟨mon_pt o2, by rw [up_s, o3]⟩
            · rw [up_n e]
              by_cases e2 : q = r
              · subst e2; right; exact ⟨mon_pt hm, up_s⟩
              · left; exact up_n e2
          · show upd (upd σ.1 r (pW P r)) q9 (pW P r) r = pW P r
            rw [up_n (fun e => o1 e.symm), up_s]
        · cases h
      · cases h
  · cases h
theorem sm_le {f g : Nat → Nat} : ∀ {n : Nat}, (∀ k, k < n → g k ≤ f k) → smN g n ≤ smN f n
  | 0, _ => Nat.le_refl _
  | n + 1, h => by
    have h1 := sm_le (f := f) (g := g) (n := n) (fun k hk => h k (by omega))
    have h2 := h n (by omega)
    rw [smN, smN]
    omega
theorem sm_lt {f g : Nat → Nat} : ∀ {n i : Nat}, (∀ k, k < n → g k ≤ f k) → i < n → g i < f i → smN g n < smN f n
  | 0, i, _, h, _ => absurd h (Nat.not_lt_zero i)
  | n + 1, i, h, hi, hl => by
    rw [smN, smN]
    rcases Nat.lt_or_ge i n with q | q
    · have h1 := sm_lt (f := f) (g := g) (n := n) (fun k hk => h k (by omega)) q hl
      have h2 := h n (by omega)
      omega
    · have e : i = n := by omega
      subst e
      have h1 := sm_le (f := f) (g := g) (n := i) (fun k hk => h k (by omega))
      omega
theorem pt_w {P : Pm} {h : Nat → Int32} {q : Nat} (e : h q = pW P q) : pt P h q ≤ 2 := by
  unfold pt
  rw [e]
  split
  · omega
  · simp
theorem pt_e {P : Pm} {h g : Nat → Int32} {q : Nat} (e : g q = h q) : pt P g q = pt P h q := by
  unfold pt
  rw [e]
theorem pt_3 {P : Pm} {h : Nat → Int32} {q : Nat} : pt P h q ≤ 3 := by
  unfold pt
  split
  · omega
  · split <;> omega
/-- every step leaves pt as it is, or less; what is less than 3 never comes back to 3 -/
theorem chg_pt {P : Pm} {s r : Nat} {σ σ' : St} (hr : r < pN P) (h : chg P s r σ = some σ') : (∀ q, q < pN P → pt P σ'.1 q ≤ pt P σ.1 q) ∧ pt P σ'.1 r < pt P σ.1 r := by
  obtain ⟨hm, h1, h2⟩ := chg_has h
  refine ⟨fun q hq => ?_, ?_⟩
  · rcases h1 q hq with e | ⟨e1, e2⟩
    · exact Nat.le_of_eq (pt_e e)
    · have := pt_w (P := P) e2
      omega
  · have h3 := pt_w (P := P) h2
    rw [mon_pt hm]
    omega
theorem lvS_has {P : Pm} {s r : Nat} {σ : St} : lvS P s r σ = σ ∨ ((leb P s r = true ∧ bt (pF P) r = true ∧ σ.1 r ≠ -1) ∧ (lvS P s r σ).1 = upd σ.1 r (-1)) := by
  unfold lvS
  split
  · rename_i h
    rw [Bool.and_eq_true, Bool.and_eq_true] at h
    exact Or.inr ⟨⟨h.1.1, h.1.2, of_decide_eq_true h.2⟩, rfl⟩
  · exact Or.inl rfl
theorem lvS_pt {P : Pm} {s r : Nat} {σ : St} (hr : r < pN P) : lvS P s r σ = σ ∨ ((∀ q, q < pN P → pt P (lvS P s r σ).1 q ≤ pt P σ.1 q) ∧ pt P (lvS P s r σ).1 r < pt P σ.1 r) := by
  rcases lvS_has (P := P) (s := s) (r := r) (σ := σ) with h | ⟨⟨-, -, h1⟩, h2⟩
  · exact Or.inl h
  · refine Or.inr ⟨fun q hq => ?_, ?_⟩
    · rw [h2]
      by_cases e : q = r
      · subst e
        have : pt P (upd σ.1 q (-1)) q = 0 := by unfold pt; rw [up_s, if_pos rfl]
        omega
      · rw [pt_up e]
        exact Nat.le_refl _
    · rw [h2]
      have e0 : pt P (upd σ.1 r (-1)) r = 0 := by unfold pt; rw [up_s, if_pos rfl]
      have e1 : 2 ≤ pt P σ.1 r := by
        unfold pt
        rw [if_neg h1]
        split <;> omega
      omega
/-- the pointwise order: q's pt in y is no more than in x -/
def ple (P : Pm) (x y : Sc) : Prop := ∀ q, q < pN P → pt P y.1.1 q ≤ pt P x.1.1 q
theorem ple_ms {P : Pm} {x y : Sc} (h : ple P x y) : ms P y ≤ ms P x := sm_le h
theorem chS_ple {P : Pm} {d s r : Nat} {x : Sc} (hr : r < pN P) : ple P x (chS P d s r x) ∧ (ms P (chS P d s r x) = ms P x → chS P d s r x = x) := by
  cases h : chg P s r x.1 with
  | none =>
    rw [chS_none h]
    exact ⟨fun _ _ => Nat.le_refl _, fun _ => rfl⟩
  | some σ =>
    obtain ⟨h1, h2⟩ := chg_pt hr h
    rw [chS_some h]
    refine ⟨h1, fun he => ?_⟩
    have := sm_lt (f := pt P x.1.1) (g := pt P σ.1) h1 hr h2
    have he : smN (pt P σ.1) (pN P) = smN (pt P x.1.1) (pN P) := he
    omega
theorem lvA_step {P : Pm} {s r : Nat} {σ : St} (hr : r < pN P) : (∀ q, q < pN P → pt P (lvS P s r σ).1 q ≤ pt P σ.1 q) ∧ (smN (pt P (lvS P s r σ).1) (pN P) = smN (pt P σ.1) (pN P) → lvS P s r σ = σ) := by
  rcases lvS_pt (s := s) (σ := σ) hr with h | ⟨h1, h2⟩
  · rw [h]
    exact ⟨fun _ _ => Nat.le_refl _, fun _ => rfl⟩
  · refine ⟨h1, fun he => ?_⟩
    have := sm_lt h1 hr h2
    omega
theorem lvA_ple {P : Pm} {s : Nat} {x : Sc} : ple P x (lvA P s x) := by
  unfold lvA ple
  exact it_ind (I := fun σ : St => ∀ q, q < pN P → pt P σ.1 q ≤ pt P x.1.1 q) (pN P) x.1 (fun i hi σ hσ q hq => Nat.le_trans ((lvA_step hi).1 q hq) (hσ q hq)) (fun _ _ => Nat.le_refl _)
theorem lvA_fix {P : Pm} {s : Nat} {x : Sc} (h : ms P (lvA P s x) = ms P x) : lvA P s x = x ∧ ∀ r, r < pN P → lvS P s r x.1 = x.1 := by
  have := it_fix (f := lvS P s) (μ := fun σ => smN (pt P σ.1) (pN P)) (pN P) x.1 (fun i hi σ => ⟨sm_le (lvA_step hi).1, (lvA_step hi).2⟩)
  obtain ⟨e1, e2⟩ := this.2 h
  unfold lvA
  rw [e1]
  exact ⟨rfl, e2⟩
theorem chI_ple {P : Pm} {d s : Nat} {x : Sc} : ∀ n, n ≤ pN P → ple P x (itN (chS P d s) n x) := fun n hn => it_ind (I := fun y => ple P x y) n x (fun i hi y hy q hq => Nat.le_trans ((chS_ple (by omega)).1 q hq) (hy q hq)) (fun _ _ => Nat.le_refl _)
theorem chA_ple {P : Pm} {d s : Nat} {x : Sc} : ple P x (chA P d s x) := by
  unfold chA
  split
  · exact chI_ple _ (Nat.le_refl _)
  · exact fun _ _ => Nat.le_refl _
theorem chA_fix {P : Pm} {d s : Nat} {x : Sc} (h : ms P (chA P d s x) = ms P x) : chA P d s x = x ∧ (bt (pC P) s = true → ∀ r, r < pN P → chg P s r x.1 = none) := by
  unfold chA at h ⊢
  split
  · rename_i hb
    rw [if_pos hb] at h
    have := it_fix (f := chS P d s) (μ := ms P) (pN P) x (fun i hi y => ⟨ple_ms (chS_ple hi).1, (chS_ple hi).2⟩)
    obtain ⟨e1, e2⟩ := this.2 h
    refine ⟨e1, fun _ r hr => ?_⟩
    cases hc : chg P s r x.1 with
    | none => rfl
    | some σ =>
      have := e2 r hr
      rw [chS_some hc] at this
      have := congrArg (fun y : Sc => y.2.1) this
      simp only at this
      omega
  · rename_i hb
    exact ⟨rfl, fun h => absurd h hb⟩
theorem stp_ple {P : Pm} {d s : Nat} {x : Sc} : ple P x (stp P d s x) := fun q hq => Nat.le_trans (chA_ple q hq) (lvA_ple q hq)
def quiet (P : Pm) (s : Nat) (x : Sc) : Prop := (∀ r, r < pN P → lvS P s r x.1 = x.1) ∧ (bt (pC P) s = true → ∀ r, r < pN P → chg P s r x.1 = none)
theorem stp_fix {P : Pm} {d s : Nat} {x : Sc} (h : ms P (stp P d s x) = ms P x) : stp P d s x = x ∧ quiet P s x := by
  have h1 := ple_ms (lvA_ple (P := P) (s := s) (x := x))
  have h2 := ple_ms (chA_ple (P := P) (d := d) (s := s) (x := lvA P s x))
  have h3 : ms P (stp P d s x) = ms P (chA P d s (lvA P s x)) := rfl
  obtain ⟨e1, e2⟩ := lvA_fix (P := P) (s := s) (x := x) (by omega)
  unfold stp at h ⊢
  rw [e1] at h ⊢
  obtain ⟨e3, e4⟩ := chA_fix h
  exact ⟨e3, e2, e4⟩
theorem quiet_stp {P : Pm} {s : Nat} {x : Sc} (h : quiet P s x) (d : Nat) : stp P d s x = x := by
  have e : lvA P s x = x := by
    unfold lvA
    rw [it_id (pN P) h.1]
  unfold stp
  rw [e]
  unfold chA
  split
  · rename_i hb
    exact it_id (pN P) (fun r hr => chS_none (h.2 hb r hr))
  · rfl
theorem dy_ple {P : Pm} {d : Nat} {x : Sc} : ple P x (dy P d x) := it_ind (I := fun y => ple P x y) 10 x (fun i _ y hy q hq => Nat.le_trans (stp_ple q hq) (hy q hq)) (fun _ _ => Nat.le_refl _)
theorem dy_fix {P : Pm} {d : Nat} {x : Sc} (h : ms P (dy P d x) = ms P x) : dy P d x = x ∧ ∀ s, s < 10 → quiet P s x := by
  have := it_fix (f := stp P d) (μ := ms P) 10 x (fun i hi y => ⟨ple_ms stp_ple, fun e => (stp_fix e).1⟩)
  obtain ⟨e1, e2⟩ := this.2 h
  exact ⟨e1, fun s hs => (stp_fix (d := d) (by rw [e2 s hs])).2⟩
theorem dy_any {P : Pm} {d d' : Nat} {x : Sc} (h : dy P d x = x) : dy P d' x = x := by
  have := (dy_fix (P := P) (d := d) (x := x) (by rw [h])).2
  exact it_id 10 (fun s hs => quiet_stp (this s hs) d')
theorem his_stay {P : Pm} {x : Sc} {d : Nat} (h : his P x (d + 1) = his P x d) : ∀ k, d ≤ k → his P x k = his P x d := by
  intro k hk
  induction k with
  | zero =>
    have : d = 0 := by omega
    subst this
    rfl
  | succ k ih =>
    rcases Nat.lt_or_ge d (k + 1) with q | q
    · rw [his, ih (by omega)]
      exact dy_any h
    · have : d = k + 1 := by omega
      subst this
      rfl
/-! room -/
theorem chS_ok {P : Pm} {d s r : Nat} {x : Sc} (hP : okP P) (hd : d < 10) (hr : r < pN P) (h : okC P x) (hm : x.2.1 + ms P x ≤ 24) : okC P (chS P d s r x) ∧ (chS P d s r x).2.1 + ms P (chS P d s r x) ≤ 24 := by
  cases hc : chg P s r x.1 with
  | none =>
    rw [chS_none hc]
    exact ⟨h, hm⟩
  | some σ =>
    obtain ⟨h1, h2⟩ := chg_pt hr hc
    have h3 := sm_lt (f := pt P x.1.1) (g := pt P σ.1) h1 hr h2
    rw [chS_some hc]
    unfold ms at hm ⊢
    refine ⟨⟨chg_ok hP hr h.1 hc, fun e => absurd e (by simp), fun _ => ?_, ?_⟩, ?_⟩
    · show (if x.2.1 = 0 then (nI d, nI s, nI r) else x.2.2).1 ≠ -1
      split
      · exact n_m1 (by omega)
      · rename_i h0
        exact h.2.2.1 (by omega)
    · show x.2.1 + 1 ≤ 24
      omega
    · show x.2.1 + 1 + smN (pt P σ.1) (pN P) ≤ 24
      omega

def okA (P : Pm) (x : Sc) : Prop := okC P x ∧ x.2.1 + ms P x ≤ 24
theorem chI_ok {P : Pm} {d s : Nat} (hP : okP P) (hd : d < 10) {x : Sc} (h : okA P x) : ∀ n, n ≤ pN P → okA P (itN (chS P d s) n x) := fun n hn => it_ind n x (fun i hi y hy => chS_ok hP hd (by omega) hy.1 hy.2) h
theorem lvI_ok {P : Pm} {s : Nat} {x : Sc} (h : okA P x) : ∀ n, n ≤ pN P → okA P (itN (lvS P s) n x.1, x.2) := by
  intro n hn
  have h1 : okS P (itN (lvS P s) n x.1) := it_ind (I := okS P) n x.1 (fun i hi y hy => lvS_ok (by omega) hy) h.1.1
  have h2 : smN (pt P (itN (lvS P s) n x.1).1) (pN P) ≤ smN (pt P x.1.1) (pN P) := it_ind (I := fun σ : St => smN (pt P σ.1) (pN P) ≤ smN (pt P x.1.1) (pN P)) n x.1 (fun i hi y hy => Nat.le_trans (sm_le (lvA_step (by omega)).1) hy) (Nat.le_refl _)
  have h3 : x.2.1 + smN (pt P x.1.1) (pN P) ≤ 24 := h.2
  refine ⟨⟨h1, h.1.2⟩, ?_⟩
  show x.2.1 + smN (pt P (itN (lvS P s) n x.1).1) (pN P) ≤ 24
  omega
theorem stp_ok {P : Pm} {d s : Nat} (hP : okP P) (hd : d < 10) {x : Sc} (h : okA P x) : okA P (stp P d s x) := by
  have h1 : okA P (lvA P s x) := lvI_ok h _ (Nat.le_refl _)
  unfold stp chA
  split
  · exact chI_ok hP hd h1 _ (Nat.le_refl _)
  · exact h1
theorem stpI_ok {P : Pm} {d : Nat} (hP : okP P) (hd : d < 10) {x : Sc} (h : okA P x) (n : Nat) : okA P (itN (stp P d) n x) := it_ind n x (fun i _ y hy => stp_ok hP hd hy) h
theorem dy_ok {P : Pm} {d : Nat} (hP : okP P) (hd : d < 10) {x : Sc} (h : okA P x) : okA P (dy P d x) := stpI_ok hP hd h 10
theorem his_ok {P : Pm} (hP : okP P) {x : Sc} (h : okA P x) : ∀ d, d ≤ 10 → okA P (his P x d)
  | 0, _ => h
  | d + 1, hd => dy_ok hP (by omega) (his_ok hP h d (by omega))
theorem sm_max {f : Nat → Nat} {c : Nat} : ∀ {n : Nat}, (∀ k, k < n → f k ≤ c) → smN f n ≤ n * c
  | 0, _ => by simp [smN]
  | n + 1, h => by
    have h1 := sm_max (f := f) (c := c) (n := n) (fun k hk => h k (by omega))
    have h2 := h n (by omega)
    rw [smN, Nat.succ_mul]
    omega
theorem ini_ok {P : Pm} (hP : okP P) {h : Nat → Int32} {l : List Int32} (hh : ∀ r, r < pN P → hv (h r)) (hl : l.length ≤ 17) : okA P (ini h l) := by
  have h1 : smN (pt P h) (pN P) ≤ pN P * 3 := sm_max (fun k _ => pt_3)
  have h2 := hP.1
  refine ⟨⟨⟨hh, ?_⟩, fun _ => rfl, fun h => absurd h (Nat.lt_irrefl 0), Nat.zero_le _⟩, ?_⟩
  · show 2 * l.length + smN (pt P h) (pN P) ≤ 58
    omega
  · show 0 + smN (pt P h) (pN P) ≤ 24
    omega
/-! no move behind day 7 -/
def cn (P : Pm) (x : Sc) : Nat := smN (fun r => if pt P x.1.1 r = 3 then 1 else 0) (pN P)
theorem cn_ple {P : Pm} {x y : Sc} (h : ple P x y) : cn P y ≤ cn P x := by
  refine sm_le (fun k hk => ?_)
  have h1 := h k hk
  have h2 : pt P x.1.1 k ≤ 3 := pt_3
  show (if pt P y.1.1 k = 3 then 1 else 0) ≤ (if pt P x.1.1 k = 3 then 1 else 0)
  split
  · rw [if_pos (by omega)]
    exact Nat.le_refl _
  · exact Nat.zero_le _
theorem cn_lt {P : Pm} {x y : Sc} {r : Nat} (h : ple P x y) (hr : r < pN P) (h3 : pt P x.1.1 r = 3) (h2 : pt P y.1.1 r < 3) : cn P y < cn P x := by
  refine sm_lt (i := r) (fun k hk => ?_) hr ?_
  · have h1 := h k hk
    have h4 : pt P x.1.1 k ≤ 3 := pt_3
    show (if pt P y.1.1 k = 3 then 1 else 0) ≤ (if pt P x.1.1 k = 3 then 1 else 0)
    split
    · rw [if_pos (by omega)]
      exact Nat.le_refl _
    · exact Nat.zero_le _
  · show (if pt P y.1.1 r = 3 then 1 else 0) < (if pt P x.1.1 r = 3 then 1 else 0)
    rw [if_pos h3, if_neg (by omega)]
    exact Nat.zero_lt_one
/-- who leaves his on the seat has none -/
def gone (P : Pm) (x : Sc) : Prop := ∀ r, r < pN P → bt (pF P) r = true → pB P r < pL P r → x.1.1 r = -1
def gon1 (P : Pm) (r : Nat) (h : Nat → Int32) : Prop := h r = -1
theorem chS_m1 {P : Pm} {d s r q : Nat} {x : Sc} (hq : q < pN P) (h : x.1.1 q = -1) : (chS P d s r x).1.1 q = -1 := by
  cases hc : chg P s r x.1 with
  | none => rw [chS_none hc]; exact h
  | some σ =>
    rw [chS_some hc]
    show σ.1 q = -1
    rcases (chg_has hc).2.1 q hq with e | ⟨e1, -⟩
    · rw [e]; exact h
    · unfold pt at e1
      rw [if_pos h] at e1
      omega
theorem lvS_m1 {P : Pm} {s r q : Nat} {σ : St} (h : σ.1 q = -1) : (lvS P s r σ).1 q = -1 := by
  rcases lvS_has (P := P) (s := s) (r := r) (σ := σ) with e | ⟨-, e⟩
  · rw [e]; exact h
  · rw [e]
    by_cases e2 : q = r
    · subst e2; exact up_s
    · rw [up_n e2]; exact h
theorem stp_m1 {P : Pm} {d s q : Nat} {x : Sc} (hq : q < pN P) (h : x.1.1 q = -1) : (stp P d s x).1.1 q = -1 := by
  have h1 : (lvA P s x).1.1 q = -1 := it_ind (I := fun σ : St => σ.1 q = -1) (pN P) x.1 (fun i _ y hy => lvS_m1 hy) h
  unfold stp chA
  split
  · exact it_ind (I := fun y : Sc => y.1.1 q = -1) (pN P) (lvA P s x) (fun i _ y hy => chS_m1 hq hy) h1
  · exact h1
theorem lvS_gone {P : Pm} {s q : Nat} {σ : St} (h1 : leb P s q = true) (h2 : bt (pF P) q = true) : (lvS P s q σ).1 q = -1 := by
  unfold lvS
  by_cases e : σ.1 q = -1
  · rw [if_neg (by simp [e])]
    exact e
  · rw [if_pos (by simp [h1, h2, e])]
    exact up_s
theorem it_at {S : Type} {f : Nat → S → S} {I : S → Prop} {q : Nat} : ∀ (n : Nat) (x : S), q < n → (∀ y, I (f q y)) → (∀ i y, I y → I (f i y)) → I (itN f n x)
  | 0, x, h, _, _ => absurd h (Nat.not_lt_zero q)
  | n + 1, x, h, h1, h2 => by
    rw [itN]
    rcases Nat.lt_or_ge q n with e | e
    · exact h2 n _ (it_at n x e h1 h2)
    · have : q = n := by omega
      subst this
      exact h1 _
theorem dy_gone {P : Pm} (hP : okP P) {d : Nat} {x : Sc} : gone P (dy P d x) := by
  intro r hr h1 h2
  have h3 := (hP.2.1 r hr).2.1
  refine it_at (I := fun y : Sc => y.1.1 r = -1) (q := pL P r) 10 x (by omega) (fun y => ?_) (fun i y hy => stp_m1 hr hy)
  have h4 : (lvA P (pL P r) y).1.1 r = -1 := it_at (I := fun σ : St => σ.1 r = -1) (q := r) (pN P) y.1 hr (fun σ => lvS_gone (decide_eq_true ⟨h2, rfl⟩) h1) (fun i σ hσ => lvS_m1 hσ)
  unfold stp chA
  split
  · exact it_ind (I := fun y : Sc => y.1.1 r = -1) (pN P) _ (fun i _ y hy => chS_m1 hr hy) h4
  · exact h4
theorem gone_lvS {P : Pm} {s r : Nat} {x : Sc} (hr : r < pN P) (h : gone P x) : lvS P s r x.1 = x.1 := by
  rcases lvS_has (P := P) (s := s) (r := r) (σ := x.1) with e | ⟨⟨e1, e2, e3⟩, -⟩
  · exact e
  · exact absurd (h r hr e2 (of_decide_eq_true e1).1) e3
theorem gone_stp {P : Pm} {d s : Nat} {x : Sc} (h : gone P x) : gone P (stp P d s x) := fun r hr h1 h2 => stp_m1 hr (h r hr h1 h2)
/-- from a state in which nobody leaves any more, a day moves nothing or takes one off cn -/
theorem gone_stp_cn {P : Pm} {d s : Nat} {x : Sc} (h : gone P x) : stp P d s x = x ∨ cn P (stp P d s x) < cn P x := by
  have e : lvA P s x = x := by
    unfold lvA
    rw [it_id (pN P) (fun r hr => gone_lvS hr h)]
  unfold stp
  rw [e]
  unfold chA
  split
  · have key : ∀ n, n ≤ pN P → itN (chS P d s) n x = x ∨ cn P (itN (chS P d s) n x) < cn P x := by
      intro n
      induction n with
      | zero => intro _; exact Or.inl rfl
      | succ n ih =>
        intro hn
        rw [itN]
        have hstep : cn P (chS P d s n (itN (chS P d s) n x)) ≤ cn P (itN (chS P d s) n x) := cn_ple (chS_ple (by omega)).1
        rcases ih (by omega) with e1 | e1
        · rw [e1]
          cases hc : chg P s n x.1 with
          | none => exact Or.inl (chS_none hc)
          | some σ =>
            right
            refine cn_lt (r := n) (chS_ple (by omega)).1 (by omega) (mon_pt (chg_has hc).1) ?_
            rw [chS_some hc]
            have := pt_w (P := P) (chg_has hc).2.2
            show pt P σ.1 n < 3
            omega
        · right
          omega
    exact key _ (Nat.le_refl _)
  · exact Or.inl rfl
theorem gone_dy_cn {P : Pm} {d : Nat} {x : Sc} (h : gone P x) : dy P d x = x ∨ cn P (dy P d x) < cn P x := by
  have key : ∀ n, gone P (itN (stp P d) n x) ∧ (itN (stp P d) n x = x ∨ cn P (itN (stp P d) n x) < cn P x) := by
    intro n
    induction n with
    | zero => exact ⟨h, Or.inl rfl⟩
    | succ n ih =>
      rw [itN]
      obtain ⟨h1, h2⟩ := ih
      refine ⟨gone_stp h1, ?_⟩
      have h3 := gone_stp_cn (d := d) (s := n) h1
      rcases h2 with h2 | h2
      · rw [h2] at h3 ⊢
        exact h3
      · right
        rcases h3 with h3 | h3
        · rw [h3]; exact h2
        · omega
  exact (key 10).2
theorem his_low {P : Pm} (hP : okP P) {x : Sc} : ∀ d, his P x (d + 1) = his P x d ∨ cn P (his P x (d + 1)) + d ≤ 7
  | 0 => by
    rcases Nat.lt_or_ge (cn P (his P x 1)) 8 with h | h
    · right; show cn P (his P x 1) + 0 ≤ 7; omega
    · left
      show dy P 0 x = x
      have h1 := hP.1
      have h2 : cn P (his P x 1) ≤ pN P * 1 := sm_max (fun k _ => by split <;> omega)
      have h3 : ms P x ≤ pN P * 3 := sm_max (fun k _ => pt_3)
      have key : ∀ n, n ≤ smN (fun r => if pt P (his P x 1).1.1 r = 3 then 1 else 0) n → n * 3 ≤ smN (pt P (his P x 1).1.1) n := by
        intro n
        induction n with
        | zero => intro _; simp [smN]
        | succ n ih =>
          intro hn
          have hb : smN (fun r => if pt P (his P x 1).1.1 r = 3 then 1 else 0) n ≤ n * 1 := sm_max (fun k _ => by split <;> omega)
          rw [smN] at hn ⊢
          by_cases e : pt P (his P x 1).1.1 n = 3
          · rw [if_pos e] at hn
            have := ih (by omega)
            omega
          · rw [if_neg e] at hn
            omega
      have h4 := key (pN P) (by show pN P ≤ cn P (his P x 1); omega)
      have h5 : ms P (dy P 0 x) = smN (pt P (his P x 1).1.1) (pN P) := rfl
      have h6 := ple_ms (dy_ple (P := P) (d := 0) (x := x))
      exact (dy_fix (by omega)).1
  | d + 1 => by
    have hg : gone P (his P x (d + 1)) := dy_gone hP
    rcases gone_dy_cn (d := d + 1) hg with h | h
    · exact Or.inl h
    · have h9 : cn P (his P x (d + 1 + 1)) < cn P (his P x (d + 1)) := h
      rcases his_low hP (x := x) d with e | e
      · left
        rw [his_stay e (d + 1 + 1) (by omega), his_stay e (d + 1) (by omega)]
      · right
        omega
theorem his_8 {P : Pm} (hP : okP P) {x : Sc} (k : Nat) (hk : 8 ≤ k) : his P x k = his P x 8 := by
  rcases his_low hP (x := x) 8 with h | h
  · exact his_stay h k hk
  · omega
