/-! THE LAW: its rows -/
theorem InvM0 : InvM v0m a0 := by
  refine ⟨okAb0, ⟨rfl, Nat.zero_le _, fun i hi => absurd hi (Nat.not_lt_zero i)⟩, ⟨rfl, Nat.zero_le _, fun i hi => absurd hi (Nat.not_lt_zero i)⟩, fun k hk => ?_, rfl, rfl, rfl, rfl, ⟨rfl, fun i hi => absurd hi (Nat.not_lt_zero i)⟩, fun s hs => ?_, rfl⟩
  · rcases (show k = 0 ∨ k = 1 ∨ k = 2 ∨ k = 3 ∨ k = 4 ∨ k = 5 ∨ k = 6 ∨ k = 7 by omega) with rfl | rfl | rfl | rfl | rfl | rfl | rfl | rfl <;> rfl
  · rcases (show s = 0 ∨ s = 1 ∨ s = 2 ∨ s = 3 by omega) with rfl | rfl | rfl | rfl <;> exact ⟨rfl, fun q => absurd rfl q⟩
/-- the script -/
def scr (Γ : gC) (Ξ : cO) (b L : Nat) (xs : Nat → Int32) : Prop := va_X b L xs Γ.2.2.2.2.1 Γ.2.2.2.2.1.heap ∧ b < Γ.2.2.2.2.1.heap.size ∧ ¬ Ξ.2.2 b
section LR
variable {Γ : gC} {Ξ : cO} {Q : State → Prop} {nL cn sn c1 s1 d mc ms : Nat} {F F' B B' : va_W} {pc n : Nat} {lv : List (Nat × Value)} {st : List Value} {cc : ByteArray} {own : String} {b L : Nat} {xs : Nat → Int32}
theorem cb_sld (hX : cx_X Γ Ξ cc own nL) (hs : scr Γ Ξ b L xs) {i x : Int32} (hg : gin i L = true) (hx : xs i.toNatClampNeg = x) (hd : decode cc pc = .ok (.iaload, 1)) (hn : pc + 1 = n) (k : cx_G Γ Ξ Q nL cn sn F B n lv (.int x :: st)) : cx_G Γ Ξ Q nL cn sn F B pc lv (.int i :: .ref b :: st) := by
  subst hn; subst hx
  exact fun H locs ls hP hD hS hl => va_sld hX.1 hX.2.1 hs.1 hs.2.1 hs.2.2 hS (gin_in hg) hd (k H locs ls hP hD hS hl)
theorem cb_slen (hX : cx_X Γ Ξ cc own nL) (hs : scr Γ Ξ b L xs) (hd : decode cc pc = .ok (.arraylength, 1)) (hn : pc + 1 = n) (k : cx_G Γ Ξ Q nL cn sn F B n lv (.int (nI L) :: st)) : cx_G Γ Ξ Q nL cn sn F B pc lv (.ref b :: st) := by
  subst hn
  exact fun H locs ls hP hD hS hl => va_slen hX.1 hX.2.1 hs.1 hs.2.1 hs.2.2 hS hd (k H locs ls hP hD hS hl)
theorem cb_isub (hX : cx_X Γ Ξ cc own nL) {x y : Int32} (hd : decode cc pc = .ok (.isub, 1)) (hn : pc + 1 = n) (k : cx_G Γ Ξ Q nL cn sn F B n lv (.int (x - y) :: st)) : cx_G Γ Ξ Q nL cn sn F B pc lv (.int y :: .int x :: st) := by
  subst hn
  exact fun H locs ls hP hD hS hl => lv_isub hX.1 hX.2.1 hd (k H locs ls hP hD hS hl)
theorem cb_iand (hX : cx_X Γ Ξ cc own nL) {x y : Int32} (hd : decode cc pc = .ok (.iand, 1)) (hn : pc + 1 = n) (k : cx_G Γ Ξ Q nL cn sn F B n lv (.int (x &&& y) :: st)) : cx_G Γ Ξ Q nL cn sn F B pc lv (.int y :: .int x :: st) := by
  subst hn
  exact fun H locs ls hP hD hS hl => lv_iand hX.1 hX.2.1 hd (k H locs ls hP hD hS hl)
theorem cb_gt (hX : cx_X Γ Ξ cc own nL) {x y : Int32} {off : Int} {tgt : Nat} (hd : decode cc pc = .ok (.if_icmp .gt off, 3)) (ht : (pc : Int) + off = (tgt : Int)) (hn : pc + 3 = n) (kt : y < x → cx_G Γ Ξ Q nL cn sn F B tgt lv st) (kf : ¬ y < x → cx_G Γ Ξ Q nL cn sn F B n lv st) : cx_G Γ Ξ Q nL cn sn F B pc lv (.int y :: .int x :: st) := by
  subst hn
  exact fun H locs ls hP hD hS hl => lv_icmp_gt (tgt := tgt) hX.1 hX.2.1 hd ht (fun h => kt h H locs ls hP hD hS hl) (fun h => kf h H locs ls hP hD hS hl)
theorem cb_eqT (hX : cx_X Γ Ξ cc own nL) {x y : Int32} {off : Int} {tgt : Nat} (he : x = y) (hd : decode cc pc = .ok (.if_icmp .eq off, 3)) (ht : (pc : Int) + off = (tgt : Int)) (kt : cx_G Γ Ξ Q nL cn sn F B tgt lv st) : cx_G Γ Ξ Q nL cn sn F B pc lv (.int y :: .int x :: st) := fun H locs ls hP hD hS hl => lv_icmp_eq (tgt := tgt) hX.1 hX.2.1 hd ht (fun _ => kt H locs ls hP hD hS hl) (fun h => absurd he h)
theorem cb_leqT (hX : cx_X Γ Ξ cc own nL) {x y : Int64} {off : Int} {tgt p2 : Nat} (he : x = y) (hd1 : decode cc pc = .ok (.lcmp, 1)) (hp : pc + 1 = p2) (hd : decode cc p2 = .ok (.ifCond .eq off, 3)) (ht : (p2 : Int) + off = (tgt : Int)) (kt : cx_G Γ Ξ Q nL cn sn F B tgt lv st) : cx_G Γ Ξ Q nL cn sn F B pc lv (.long y :: .long x :: st) := by
  subst hp; subst he
  have e : lg_cmp x x = 0 := by
    unfold lg_cmp
    have h : ¬ x > x := fun h => by have := Int64.lt_iff_toInt_lt.mp h; omega
    rw [if_neg h, if_pos rfl]
  intro H locs ls hP hD hS hl
  refine W.lcmp hX.1 hX.2.1 hd1 ?_
  refine lv_if_eq (tgt := tgt) hX.1 hX.2.1 hd ht (fun _ => kt H locs ls hP hD hS hl) (fun h => absurd e h)
theorem cb_tabIn (hX : cx_X Γ Ξ cc own nL) {dflt lo hi : Int} {offs : Array Int} {len : Nat} {x : Int32} {off : Int} {tgt : Nat} (hd : decode cc pc = .ok (.tableswitch dflt lo hi offs, len)) (h1 : ¬ x.toInt < lo) (h2 : ¬ hi < x.toInt) (ho : offs[(x.toInt - lo).toNat]? = some off) (ht : (pc : Int) + off = (tgt : Int)) (k : cx_G Γ Ξ Q nL cn sn F B tgt lv st) : cx_G Γ Ξ Q nL cn sn F B pc lv (.int x :: st) := fun H locs ls hP hD hS hl => lv_tableIn hX.1 hX.2.1 hd h1 h2 ho ht (k H locs ls hP hD hS hl)
theorem cb_tabOut (hX : cx_X Γ Ξ cc own nL) {dflt lo hi : Int} {offs : Array Int} {len : Nat} {x : Int32} {tgt : Nat} (hd : decode cc pc = .ok (.tableswitch dflt lo hi offs, len)) (h : x.toInt < lo ∨ hi < x.toInt) (ht : (pc : Int) + dflt = (tgt : Int)) (k : cx_G Γ Ξ Q nL cn sn F B tgt lv st) : cx_G Γ Ξ Q nL cn sn F B pc lv (.int x :: st) := fun H locs ls hP hD hS hl => lv_tableOut hX.1 hX.2.1 hd h ht (k H locs ls hP hD hS hl)
/-- an argument: script[i + j] -/
theorem lw_arg (hX : cx_X Γ Ξ cc own nL) (hs : scr Γ Ξ b L xs) {i p1 p2 p3 p4 p5 : Nat} (j : Nat) {jz : Int} {q1 q2 : Value} (hl : lv = [(3, .int (nI i)), (2, q2), (1, q1), (0, .ref b)]) (hij : i + j < L) (hL : L ≤ 384) (hj : Int32.ofInt jz = nI j) (hp : pc + 1 = p1 ∧ pc + 2 = p2 ∧ pc + 3 = p3 ∧ pc + 4 = p4 ∧ pc + 5 = p5) (d1 : decode cc pc = .ok (.aload_n 0, 1)) (d2 : decode cc p1 = .ok (.iload_n 3, 1)) (d3 : decode cc p2 = .ok (.iconst jz, 1)) (d4 : decode cc p3 = .ok (.iadd, 1)) (d5 : decode cc p4 = .ok (.iaload, 1)) (k : cx_G Γ Ξ Q nL cn sn F B p5 lv (.int (xs (i + j)) :: st)) : cx_G Γ Ξ Q nL cn sn F B pc lv st := by
  obtain ⟨rfl, rfl, rfl, rfl, rfl⟩ := hp
  subst hl
  refine cb_aload_n hX 3 d1 rfl rfl rfl ?_
  refine cb_iload_n hX 0 d2 rfl rfl rfl ?_
  refine cb_iconst (x := nI j) hX hj d3 rfl ?_
  refine cb_iadd (z := nI (i + j)) hX (n_add i j) d4 rfl ?_
  exact cb_sld (x := xs (i + j)) hX hs (gin_N hij (by omega)) (by rw [n_cl (by omega)]) d5 rfl k
theorem cb_virtI (hX : cx_X Γ Ξ cc own nL) (hR : Γ.2.2.2.1 = cx_R d mc ms) {σ : Nat → Nat} {lay : List gk} {v v1 : gV} {r : Int32} {C : String} {T : u_T} {N ci q idx d' maxL k0 : Nat} {t0 : Nat → FieldType} {tm : List (Option Nat)} {y : MethodName} {cy : ByteArray} {rt : Option FieldType} {As st0 : List Value} (hc : gx_c ci C T N t0) (hq : lay[q]? = some (gk_o ci tm)) (hm : gx_mv C y cy maxL rt k0) (hw : Cond.methodLink own idx y ∈ gU) (hM : gx_M Γ.2.1 (σ, Ξ.1, Ξ.2.1, gA lay σ) lay y cy maxL rt d' (.ref (σ q) :: As) v (some (.int r)) v1) (hk : As.length = k0) (hdd : Nat.ble (d' + 1) d = true ∧ Nat.ble maxL 21 = true) (hst : Nat.ble (st.map fun v => v.category).sum 8 = true) (hcm : Nat.ble cn mc = true) (hsm : Nat.ble sn ms = true) (hd : decode cc pc = .ok (.invokevirtual idx, 3)) (hn : pc + 3 = n) (hst0 : st0 = As.reverse ++ .ref (σ q) :: st) (k : cx_G Γ Ξ Q nL cn sn (gx_w lay σ Ξ.1 v1) B n lv (.int r :: st)) : cx_G Γ Ξ Q nL cn sn (gx_w lay σ Ξ.1 v) B pc lv st0 := cb_virt hX hR hc hq hm hw hM hk hdd hst hcm hsm hd hn hst0 k
theorem cb_virtJ (hX : cx_X Γ Ξ cc own nL) (hR : Γ.2.2.2.1 = cx_R d mc ms) {σ : Nat → Nat} {lay : List gk} {v v1 : gV} {r : Int64} {C : String} {T : u_T} {N ci q idx d' maxL k0 : Nat} {t0 : Nat → FieldType} {tm : List (Option Nat)} {y : MethodName} {cy : ByteArray} {rt : Option FieldType} {As st0 : List Value} (hc : gx_c ci C T N t0) (hq : lay[q]? = some (gk_o ci tm)) (hm : gx_mv C y cy maxL rt k0) (hw : Cond.methodLink own idx y ∈ gU) (hM : gx_M Γ.2.1 (σ, Ξ.1, Ξ.2.1, gA lay σ) lay y cy maxL rt d' (.ref (σ q) :: As) v (some (.long r)) v1) (hk : As.length = k0) (hdd : Nat.ble (d' + 1) d = true ∧ Nat.ble maxL 21 = true) (hst : Nat.ble (st.map fun v => v.category).sum 8 = true) (hcm : Nat.ble cn mc = true) (hsm : Nat.ble sn ms = true) (hd : decode cc pc = .ok (.invokevirtual idx, 3)) (hn : pc + 3 = n) (hst0 : st0 = As.reverse ++ .ref (σ q) :: st) (k : cx_G Γ Ξ Q nL cn sn (gx_w lay σ Ξ.1 v1) B n lv (.long r :: st)) : cx_G Γ Ξ Q nL cn sn (gx_w lay σ Ξ.1 v) B pc lv st0 := cb_virt hX hR hc hq hm hw hM hk hdd hst hcm hsm hd hn hst0 k
end LR
theorem and63 (x : Int32) : ∃ n, n < 64 ∧ x &&& 63 = nI n := by
  refine ⟨(x &&& 63).toBitVec.toNat, ?_, ?_⟩
  · rw [Int32.toBitVec_and, BitVec.toNat_and]
    exact Nat.lt_of_le_of_lt Nat.and_le_right (by decide)
  · apply Int32.toBitVec_inj.mp
    apply BitVec.eq_of_toNat_eq
    show _ = (BitVec.ofNat 32 (x &&& 63).toBitVec.toNat).toNat
    rw [BitVec.toNat_ofNat, Nat.mod_eq_of_lt (x &&& 63).toBitVec.isLt]
/-- where the law goes on behind a call -/
def lw_K (Γ : gC) (Ξ : cO) (Q : State → Prop) (σX σM : Nat → Nat) (b i c : Nat) : Prop := ∀ (vX vM : gV) (a : Ab) (c' : Nat), c' ≤ c + 300 → InvX vX a c' → InvM vM a → cx_G Γ Ξ Q 4 139 4654 (gx_w LX σX Ξ.1 vX) (gx_w LM σM Ξ.1 vM) 1198 [(3, .int (nI i)), (2, .ref (σM 0)), (1, .ref (σX 0)), (0, .ref b)] []
