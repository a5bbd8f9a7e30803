/-! state(x): a number of the row -/
theorem sta_0 {B n c s : Nat} {ρ : gS} {h0 h : jv_H} {K : jK} (hx : LX B n ρ [] c s h0 h) (T : (∀ h1, LX B n ρ [] c s h0 h1 → jE 192 6 [some (.ref B), some (.long 7), none, some (.int 0), none] [] h1 K)) : jE 192 0 [some (.ref B), none, none, none, none] [] h K := by
  refine jx_ldc2 (idx := 85) (v := 7) (by decide) (by decide +kernel) (by decide +kernel) ?_
  refine jx_blk (by decide) [(.lstore_n 1, 1), (.iconst 0, 1), (.istore_n 3, 1)] (pc' := 6) (Lv' := [some (.ref B), some (.long 7), none, some (.int 0), none]) (st' := []) (by decide +kernel) rfl ?_
  exact T _ hx

theorem sta_6 {B n c s : Nat} {ρ : gS} {h0 h : jv_H} {K : jK} {o : Int64} {k : Int32} (hx : LX B n ρ [] c s h0 h) (T : ((¬ k < 16 → (∀ h1, LX B n ρ [] c s h0 h1 → jE 192 33 [some (.ref B), some (.long o), none, some (.int 0), none] [] h1 K)) ∧ (k < 16 → (∀ h1, LX B n ρ [] c s h0 h1 → jE 192 6 [some (.ref B), some (.long ((o * 31) + (vVl ρ k).toInt64)), none, some (.int (k + 1)), none] [] h1 K)))) : jE 192 6 [some (.ref B), some (.long o), none, some (.int k), none] [] h K := by
  refine jx_blk (by decide) [(.iload_n 3, 1), (.bipush 16, 2)] (pc' := 9) (Lv' := [some (.ref B), some (.long o), none, some (.int k), none]) (st' := [.int 16, .int k]) (by decide +kernel) rfl ?_
  refine jx_ic_ge (off := 22) (b := 31) (by decide) (by decide +kernel) (by decide) (fun e1 => ?_) (fun e1 => ?_)
  · have t2 := T.1 e1
    refine jx_blk (by decide) [(.iconst 0, 1), (.istore_n 3, 1)] (pc' := 33) (Lv' := [some (.ref B), some (.long o), none, some (.int 0), none]) (st' := []) (by decide +kernel) rfl ?_
    exact t2 _ hx
  · have t3 := T.2 e1
    refine jx_blk (by decide) [(.lload_n 1, 1)] (pc' := 13) (Lv' := [some (.ref B), some (.long o), none, some (.int k), none]) (st' := [.long o]) (by decide +kernel) rfl ?_
    refine jx_ldc2 (idx := 87) (v := 31) (by decide) (by decide +kernel) (by decide +kernel) ?_
    refine jx_blk (by decide) [(.lmul, 1), (.aload_n 0, 1), (.iload_n 3, 1)] (pc' := 19) (Lv' := [some (.ref B), some (.long o), none, some (.int k), none]) (st' := [.int k, .ref B, .long (o * 31)]) (by decide +kernel) rfl ?_
    refine lx_call (z := 123) (na := 2) (mL := 2) (v := .int (vVl ρ k)) (ρ' := ρ) (r := [.long (o * 31)]) [k] (by decide +kernel) hx xr_value hx.1.1 rfl rfl (fun _ => rfl) (Nat.le_of_ble_eq_true rfl) (fun h4 hx5 => ?_)
    refine jx_blk (by decide) [(.i2l, 1), (.ladd, 1), (.lstore_n 1, 1), (.iinc 3 1, 3)] (pc' := 28) (Lv' := [some (.ref B), some (.long ((o * 31) + (vVl ρ k).toInt64)), none, some (.int (k + 1)), none]) (st' := []) (by decide +kernel) rfl ?_
    refine jx_goto (off := (-22)) (b := 6) (by decide) (by decide +kernel) (by decide) ?_
    exact t3 _ hx5

theorem sta_33 {B n c s : Nat} {ρ : gS} {h0 h : jv_H} {K : jK} {o : Int64} {t : Int32} {w : Option Value} (hx : LX B n ρ [] c s h0 h) (T : ((¬ t < (ρ 324 3) → (∀ h1, LX B n ρ [] c s h0 h1 → K (some (.long o)) h1)) ∧ (t < (ρ 324 3) → (∀ h1, LX B n ρ [] c s h0 h1 → jE 192 45 [some (.ref B), some (.long o), none, some (.int t), some (.int 0)] [] h1 K)))) : jE 192 33 [some (.ref B), some (.long o), none, some (.int t), w] [] h K := by
  refine jx_blk (by decide) [(.iload_n 3, 1), (.aload_n 0, 1), (.iconst 3, 1)] (pc' := 36) (Lv' := [some (.ref B), some (.long o), none, some (.int t), w]) (st' := [.int 3, .ref B, .int t]) (by decide +kernel) rfl ?_
  refine lx_call (z := 123) (na := 2) (mL := 2) (v := .int (ρ 324 3)) (ρ' := ρ) (r := [.int t]) [3] (by decide +kernel) hx xr_v3 hx.1.1 rfl rfl (fun _ => rfl) (Nat.le_of_ble_eq_true rfl) (fun h1 hx2 => ?_)
  refine jx_ic_ge (off := 40) (b := 79) (by decide) (by decide +kernel) (by decide) (fun e3 => ?_) (fun e3 => ?_)
  · have t4 := T.1 e3
    refine jx_blk (by decide) [(.lload_n 1, 1)] (pc' := 80) (Lv' := [some (.ref B), some (.long o), none, some (.int t), w]) (st' := [.long o]) (by decide +kernel) rfl ?_
    exact jx_lret (by decide) (by decide +kernel) (by decide +kernel) (t4 _ hx2)
  · have t5 := T.2 e3
    refine jx_blk (by decide) [(.iconst 0, 1), (.istore 4, 2)] (pc' := 45) (Lv' := [some (.ref B), some (.long o), none, some (.int t), some (.int 0)]) (st' := []) (by decide +kernel) rfl ?_
    exact t5 _ hx2

theorem sta_45 {B n c s : Nat} {ρ : gS} {h0 h : jv_H} {K : jK} {o : Int64} {t k : Int32} (hx : LX B n ρ [] c s h0 h) (T : ((¬ k < 9 → (∀ h1, LX B n ρ [] c s h0 h1 → jE 192 33 [some (.ref B), some (.long o), none, some (.int (t + 1)), some (.int k)] [] h1 K)) ∧ (k < 9 → (∀ h1, LX B n ρ [] c s h0 h1 → jE 192 45 [some (.ref B), some (.long ((o * 101) + (vOf (ρ 324) t k).toInt64)), none, some (.int t), some (.int (k + 1))] [] h1 K)))) : jE 192 45 [some (.ref B), some (.long o), none, some (.int t), some (.int k)] [] h K := by
  refine jx_blk (by decide) [(.iload 4, 2), (.bipush 9, 2)] (pc' := 49) (Lv' := [some (.ref B), some (.long o), none, some (.int t), some (.int k)]) (st' := [.int 9, .int k]) (by decide +kernel) rfl ?_
  refine jx_ic_ge (off := 24) (b := 73) (by decide) (by decide +kernel) (by decide) (fun e1 => ?_) (fun e1 => ?_)
  · have t2 := T.1 e1
    refine jx_blk (by decide) [(.iinc 3 1, 3)] (pc' := 76) (Lv' := [some (.ref B), some (.long o), none, some (.int (t + 1)), some (.int k)]) (st' := []) (by decide +kernel) rfl ?_
    refine jx_goto (off := (-43)) (b := 33) (by decide) (by decide +kernel) (by decide) ?_
    exact t2 _ hx
  · have t3 := T.2 e1
    refine jx_blk (by decide) [(.lload_n 1, 1)] (pc' := 53) (Lv' := [some (.ref B), some (.long o), none, some (.int t), some (.int k)]) (st' := [.long o]) (by decide +kernel) rfl ?_
    refine jx_ldc2 (idx := 92) (v := 101) (by decide) (by decide +kernel) (by decide +kernel) ?_
    refine jx_blk (by decide) [(.lmul, 1), (.aload_n 0, 1), (.iload_n 3, 1), (.iload 4, 2)] (pc' := 61) (Lv' := [some (.ref B), some (.long o), none, some (.int t), some (.int k)]) (st' := [.int k, .int t, .ref B, .long (o * 101)]) (by decide +kernel) rfl ?_
    refine lx_call (z := 124) (na := 3) (mL := 4) (v := .int (vOf (ρ 324) t k)) (ρ' := ρ) (r := [.long (o * 101)]) [k, t] (by decide +kernel) hx xr_of_ hx.1.1 rfl rfl (fun _ => rfl) (Nat.le_of_ble_eq_true rfl) (fun h4 hx5 => ?_)
    refine jx_blk (by decide) [(.i2l, 1), (.ladd, 1), (.lstore_n 1, 1), (.iinc 4 1, 3)] (pc' := 70) (Lv' := [some (.ref B), some (.long ((o * 101) + (vOf (ρ 324) t k).toInt64)), none, some (.int t), some (.int (k + 1))]) (st' := []) (by decide +kernel) rfl ?_
    refine jx_goto (off := (-25)) (b := 45) (by decide) (by decide +kernel) (by decide) ?_
    exact t3 _ hx5

/-- what a phantom tells of itself -/
def RI (ρ : gS) : Prop := RS ρ ∧ RT ρ ∧ zR (ρ 324) ∧ (2 ≤ ρ 324 0 ∧ ρ 324 0 ≤ 10) ∧ bF (ρ 324) ∧ bT (ρ 324) ∧ nmG (ρ 324)
theorem XP.inf {B n : Nat} {ρ : gS} {h : jv_H} (hx : XP B n ρ h) : RI ρ := by
  obtain ⟨-, σ, -, ⟨bd, -, -, g, -⟩, q⟩ := hx
  obtain ⟨a1, a2, a3, a4, a5, a6, a7⟩ := GR_rf g
  obtain ⟨q1, q2, -⟩ := q
  unfold RS RT RZ at *
  rw [q1, q2] at a1
  rw [q1] at a2
  rw [q2] at a3 a4 a5 a6 a7
  exact ⟨a1, a2, a3.1, a4, a5, a6, a7⟩
theorem LX.inf {B n c s : Nat} {ρ : gS} {A : jAs} {h0 h : jv_H} (hx : LX B n ρ A c s h0 h) : RI ρ := hx.1.inf
theorem RI.n {ρ : gS} (h : RI ρ) : ρ 324 3 = iN (nM (ρ 324)) ∧ nM (ρ 324) ≤ 20 := nM_of h.1.1.1
noncomputable def sv (ρ : gS) : Nat → Int64
  | 0 => 7
  | k + 1 => sv ρ k * 31 + (vVl ρ (iN k)).toInt64
noncomputable def sf (R : gW) (t : Nat) (o : Int64) : Nat → Int64
  | 0 => o
  | k + 1 => sf R t o k * 101 + (vOf R (iN t) (iN k)).toInt64
noncomputable def stt (R : gW) (o : Int64) : Nat → Int64
  | 0 => o
  | t + 1 => sf R t (stt R o t) 9
noncomputable def hsh (ρ : gS) : Int64 := stt (ρ 324) (sv ρ 16) (nM (ρ 324))
theorem sv_cg {ρ τ : gS} (e : ρ 324 = τ 324) : ∀ k, k ≤ 16 → sv ρ k = sv τ k
  | 0, _ => rfl
  | k + 1, hk => by
    have ih := sv_cg e k (by omega)
    have ek : vVl ρ (iN k) = vVl τ (iN k) := by
      have hk : k = 0 ∨ k = 1 ∨ k = 2 ∨ k = 3 ∨ k = 4 ∨ k = 5 ∨ k = 6 ∨ k = 7 ∨ k = 8 ∨ k = 9 ∨ k = 10 ∨ k = 11 ∨ k = 12 ∨ k = 13 ∨ k = 14 ∨ k = 15 := by omega
      rcases hk with rfl | rfl | rfl | rfl | rfl | rfl | rfl | rfl | rfl | rfl | rfl | rfl | rfl | rfl | rfl | rfl
      · show vVl ρ 0 = vVl τ 0
        rw [vVl_0 ρ, vVl_0 τ, e]
      · show vVl ρ 1 = vVl τ 1
        rw [vVl_1 ρ, vVl_1 τ, e]
      · show vVl ρ 2 = vVl τ 2
        rw [vVl_2 ρ, vVl_2 τ, e]
      · show vVl ρ 3 = vVl τ 3
        rw [vVl_3 ρ, vVl_3 τ, e]
      · show vVl ρ 4 = vVl τ 4
        rw [vVl_4 ρ, vVl_4 τ, e]
      · show vVl ρ 5 = vVl τ 5
        rw [vVl_5 ρ, vVl_5 τ, e]
      · show vVl ρ 6 = vVl τ 6
        rw [vVl_6 ρ, vVl_6 τ, e]
      · show vVl ρ 7 = vVl τ 7
        rw [vVl_7 ρ, vVl_7 τ, e]
      · show vVl ρ 8 = vVl τ 8
        rw [vVl_8 ρ, vVl_8 τ, e]
      · show vVl ρ 9 = vVl τ 9
        rw [vVl_9 ρ, vVl_9 τ, e]
      · show vVl ρ 10 = vVl τ 10
        rw [vVl_10 ρ, vVl_10 τ, e]
      · show vVl ρ 11 = vVl τ 11
        rw [vVl_11 ρ, vVl_11 τ, e]
      · show vVl ρ 12 = vVl τ 12
        rw [vVl_12 ρ, vVl_12 τ, e]
      · show vVl ρ 13 = vVl τ 13
        rw [vVl_13 ρ, vVl_13 τ, e]
      · show vVl ρ 14 = vVl τ 14
        rw [vVl_14 ρ, vVl_14 τ, e]
      · show vVl ρ 15 = vVl τ 15
        rw [vVl_15 ρ, vVl_15 τ, e]
    show sv ρ k * 31 + _ = sv τ k * 31 + _
    rw [ih, ek]
theorem hsh_cg {ρ τ : gS} (e : ρ 324 = τ 324) : hsh ρ = hsh τ := by
  unfold hsh
  rw [sv_cg e 16 (Nat.le_refl _), e]
section STT
variable {B n c s : Nat} {ρ : gS} {h0 h : jv_H} {K : jK}
theorem sta_a {t : Nat} (ht : t < nM (ρ 324)) {o : Int64} : ∀ (d k : Nat), k + d = 9 → ∀ {h : jv_H}, LX B n ρ [] c s h0 h → (∀ h1, LX B n ρ [] c s h0 h1 → jE 192 33 [some (.ref B), some (.long (sf (ρ 324) t o 9)), none, some (.int (iN (t + 1))), some (.int 9)] [] h1 K) → jE 192 45 [some (.ref B), some (.long (sf (ρ 324) t o k)), none, some (.int (iN t)), some (.int (iN k))] [] h K
  | 0, k, hk, h, hx, hg => by
    have hk : k = 9 := by omega
    subst hk
    refine sta_45 hx ⟨fun _ => ?_, fun z => absurd z (by decide)⟩
    rw [show iN t + 1 = iN (t + 1) from iN_add t 1]
    exact hg
  | d + 1, k, hk, h, hx, hg => by
    refine sta_45 hx ⟨fun z => absurd ((iN_lt (m := 9) (by omega) (by decide)).mpr (by omega)) z, fun _ h1 hx1 => ?_⟩
    rw [show iN k + 1 = iN (k + 1) from iN_add k 1]
    exact sta_a ht d (k + 1) (by omega) hx1 hg
theorem sta_b {o : Int64} (hK : ∀ h1, LX B n ρ [] c s h0 h1 → K (some (.long (stt (ρ 324) o (nM (ρ 324))))) h1) : ∀ (d t : Nat), t + d = nM (ρ 324) → ∀ {h : jv_H} {w : Option Value}, LX B n ρ [] c s h0 h → jE 192 33 [some (.ref B), some (.long (stt (ρ 324) o t)), none, some (.int (iN t)), w] [] h K
  | 0, t, ht, h, w, hx => by
    have ht : t = nM (ρ 324) := by omega
    subst ht
    obtain ⟨e, l⟩ := hx.inf.n
    refine sta_33 hx ⟨fun _ => hK, fun z => ?_⟩
    rw [e] at z
    exact absurd ((iN_lt (by omega) (by omega)).mp z) (Nat.lt_irrefl _)
  | d + 1, t, ht, h, w, hx => by
    obtain ⟨e, l⟩ := hx.inf.n
    refine sta_33 hx ⟨fun z => ?_, fun _ h1 hx1 => ?_⟩
    · rw [e] at z
      exact absurd ((iN_lt (by omega) (by omega)).mpr (by omega)) z
    · exact sta_a (o := stt (ρ 324) o t) (by omega) 9 0 rfl hx1 (fun h2 hx2 => sta_b hK d (t + 1) (by omega) hx2)
theorem sta_c (hg : ∀ h1, LX B n ρ [] c s h0 h1 → jE 192 33 [some (.ref B), some (.long (sv ρ 16)), none, some (.int 0), none] [] h1 K) : ∀ (d k : Nat), k + d = 16 → ∀ {h : jv_H}, LX B n ρ [] c s h0 h → jE 192 6 [some (.ref B), some (.long (sv ρ k)), none, some (.int (iN k)), none] [] h K
  | 0, k, hk, h, hx => by
    have hk : k = 16 := by omega
    subst hk
    exact sta_6 hx ⟨fun _ => hg, fun z => absurd z (by decide)⟩
  | d + 1, k, hk, h, hx => by
    refine sta_6 hx ⟨fun z => absurd ((iN_lt (m := 16) (by omega) (by decide)).mpr (by omega)) z, fun _ h1 hx1 => ?_⟩
    rw [show iN k + 1 = iN (k + 1) from iN_add k 1]
    exact sta_c hg d (k + 1) (by omega) hx1
theorem lm_state : LM 192 [some (.ref B), none, none, none, none] B n ρ c s (.long (hsh ρ)) n ρ c s := fun h hx =>
  sta_0 hx (fun h1 hx1 => sta_c (fun h2 hx2 => sta_b (fun h3 hx3 => ⟨rfl, hx3⟩) _ 0 (Nat.zero_add _) hx2) 16 0 rfl hx1)
end STT
