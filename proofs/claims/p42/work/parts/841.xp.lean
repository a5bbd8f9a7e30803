/-! A SEATSWAP OVER ANY HEAP, told by a phantom: ρ 324 the row now, 327 the rows before (323 6 of them), 328 the slots (329 which are full), 330 the tape (323 8 bytes), 323 9 the error position -/
def XQ (σ ρ : gS) : Prop := σ 323 = ρ 323 ∧ σ 324 = ρ 324 ∧ σ 327 = ρ 327 ∧ σ 328 = ρ 328 ∧ σ 329 = ρ 329 ∧ σ 330 = ρ 330
theorem XQ.rf {σ : gS} : XQ σ σ := ⟨rfl, rfl, rfl, rfl, rfl, rfl⟩
theorem XQ.hi {σ σ1 ρ : gS} (q : XQ σ ρ) (h : ∀ a, 323 ≤ a → σ1 a = σ a) : XQ σ1 ρ := ⟨(h _ (by decide)).trans q.1, (h _ (by decide)).trans q.2.1, (h _ (by decide)).trans q.2.2.1, (h _ (by decide)).trans q.2.2.2.1, (h _ (by decide)).trans q.2.2.2.2.1, (h _ (by decide)).trans q.2.2.2.2.2⟩
theorem XQ.op {σ ρ : gS} {g1 g2 : Prop} [Decidable g1] [Decidable g2] {N1 N2 : gW} (q : XQ σ ρ) (hg : g1 ↔ g2) (hN : N1 = N2) : XQ (hOp σ g1 N1) (hOp ρ g2 N2) := by
  obtain ⟨q1, q2, q3, q4, q5, q6⟩ := q
  subst hN
  unfold hOp
  by_cases g : g1
  · rw [if_pos g, if_pos (hg.mp g)]
    unfold hKe
    refine ⟨?_, ?_, ?_, ?_, ?_, ?_⟩
    · rw [grow_ne (by decide), grow_at, grow_ne (by decide), grow_at, q1]
    · rw [grow_at, grow_at]
    · rw [grow_ne (by decide), grow_ne (by decide), grow_at, grow_ne (by decide), grow_ne (by decide), grow_at, q1, q2, q3]
    · rw [grow_ne (by decide), grow_ne (by decide), grow_ne (by decide), grow_ne (by decide), grow_ne (by decide), grow_ne (by decide), q4]
    · rw [grow_ne (by decide), grow_ne (by decide), grow_ne (by decide), grow_ne (by decide), grow_ne (by decide), grow_ne (by decide), q5]
    · rw [grow_ne (by decide), grow_ne (by decide), grow_ne (by decide), grow_ne (by decide), grow_ne (by decide), grow_ne (by decide), q6]
  · rw [if_neg g, if_neg (fun z => g (hg.mpr z))]
    exact ⟨q1, q2, q3, q4, q5, q6⟩
theorem hOp_lo {σ : gS} {g : Prop} [Decidable g] {N : gW} {a : Nat} (h : a < 323) : hOp σ g N a = σ a := hOp_far (by omega) (by omega) (by omega)
/-- a call's row: from the phantom ρ the answer is v, the phantom then ρ' -/
def XRV (z : Nat) (L : gL) (n : Nat) (ρ : gS) (v : Value) (n' : Nat) (ρ' : gS) : Prop := n ≤ 9000 → ∀ σ, GI n σ → XQ σ ρ → gE z 0 L [] σ (fun r σ' => r = some v ∧ ∃ τ, (∀ a, a < 323 → τ a = σ' a) ∧ GI n' τ ∧ XQ τ ρ')
abbrev XR (z : Nat) (L : gL) (n : Nat) (ρ : gS) (x : Int32) (n' : Nat) (ρ' : gS) : Prop := XRV z L n ρ (.int x) n' ρ'
theorem xr_of {z n : Nat} {L : gL} {ρ : gS} {x : Int32} (hq : ∀ σ, GI n σ → XQ σ ρ → ∀ K : gK, K (some (.int x)) σ → gE z 0 L [] σ K) : XR z L n ρ x n ρ := fun _ σ h q => hq σ h q _ ⟨rfl, σ, fun _ _ => rfl, h, q⟩
/-! questions -/
noncomputable def vVl (ρ : gS) (w : Int32) : Int32 := aVl (ρ 324) (fMF (ρ 324)) (ρ 324 209) (ρ 323 6) w
noncomputable def vOf (R : gW) (t w : Int32) : Int32 := aOf R (kin R t.toNatClampNeg (fld R t.toNatClampNeg 0 / 8)) t w
noncomputable def vTb (R : gW) (b w : Int32) : Int32 := aTb R (fun f => iN (mem R b f)) b w
noncomputable def vFa (R : gW) (f w : Int32) : Int32 := aFa R (fMF R f) (iN (cnt (fun a => decide (0 < iN (mem R (iN a) f))) 5)) f w
noncomputable def vRk (R : gW) (x : Int32) : Int32 := if x < 0 then -1 else fRk R x
noncomputable def vBs (R : gW) (t : Int32) : Int32 := if isT R t then rBs R t.toNatClampNeg else -1
noncomputable def vPa (R : gW) (t : Int32) : Int32 := if isT R t then fPa R t.toNatClampNeg else -1
section XRS
variable {n : Nat} {ρ : gS}
theorem xr_value {w : Int32} : XR 123 [some (.ref 0), some (.int w)] n ρ (vVl ρ w) n ρ := xr_of (fun σ h q K hK => by
  obtain ⟨B, b1, b2, g, tb⟩ := h
  obtain ⟨hc, hF⟩ := GR_SC g
  refine s123 hc ?_
  rw [agr_vl g.1.1 (fun k hk => cFm_e hc.1 g.1.1 hk) g.1.2.2.1.2.1 g.2.2.1.1.2.1 w, q.1, q.2.1]
  exact hK)
theorem xr_of_ {t w : Int32} : XR 124 [some (.ref 0), some (.int t), some (.int w), none] n ρ (vOf (ρ 324) t w) n ρ := xr_of (fun σ h q K hK => by
  obtain ⟨B, b1, b2, g, tb⟩ := h
  obtain ⟨hc, hF⟩ := GR_SC g
  refine s124 hc ?_
  have e := agr_of hc.1.1 g.1.1 (rel := cRel σ 6 (8 + t.toNatClampNeg) (fld (cR σ 6) t.toNatClampNeg 0 / 8)) (rel' := kin (σ 324) t.toNatClampNeg (fld (σ 324) t.toNatClampNeg 0 / 8)) t w (fun q => (cRel_kin hc.1 (isT_nn hc.1.1 q) (TC_seat hc.1 _ (isT_nn hc.1.1 q))).trans (by rw [agr_kin g.1.1 (isT_nn hc.1.1 q), g.1.1.2 _ (isT_nn hc.1.1 q) 0 (by decide)]))
  rw [e, q.2.1]
  exact hK)
theorem xr_at {x : Int32} : XR 126 [some (.ref 0), some (.int x)] n ρ (aAt (ρ 324) x) n ρ := xr_of (fun σ h q K hK => by
  obtain ⟨B, b1, b2, g, tb⟩ := h
  obtain ⟨hc, hF⟩ := GR_SC g
  refine s126 hc ?_
  rw [agr_at g.1.1, q.2.1]
  exact hK)
theorem xr_table {b w : Int32} : XR 127 [some (.ref 0), some (.int b), some (.int w)] n ρ (vTb (ρ 324) b w) n ρ := xr_of (fun σ h q K hK => by
  obtain ⟨B, b1, b2, g, tb⟩ := h
  obtain ⟨hc, hF⟩ := GR_SC g
  refine s127 hc ?_
  rw [agr_tb hc.2.2.2 g.1.1 (m' := fun f => iN (mem (σ 324) b f)) b w (fun a ha eb k hk => by
    show _ = iN (mem (σ 324) b (iN k))
    rw [eb, cMa_of ha hk, hc.1.2.2 a ha k hk, mem_agr g.1.1]), q.2.1]
  exact hK)
theorem xr_family {f w : Int32} : XR 128 [some (.ref 0), some (.int f), some (.int w)] n ρ (vFa (ρ 324) f w) n ρ := xr_of (fun σ h q K hK => by
  obtain ⟨B, b1, b2, g, tb⟩ := h
  obtain ⟨hc, hF⟩ := GR_SC g
  refine s128 hc ?_
  have e : aFa (cR σ 6) (cFm σ f) (cFt σ f) f w = vFa (ρ 324) f w := by
    unfold vFa aFa
    by_cases z : 1 ≤ f ∧ f ≤ 9
    · rw [if_pos z, if_pos z]
      obtain ⟨ef, lf⟩ := iN_of (x := f) (by have := z.1; grind)
      obtain ⟨k, hk⟩ : ∃ k, f.toNatClampNeg = k := ⟨_, rfl⟩
      rw [hk] at ef lf
      have k10 : k < 10 := by
        have z2 := z.2
        rw [ef] at z2
        have := (iN_le (m := 9) lf (by decide)).mp z2
        omega
      rw [← q.2.1, ef, cFm_e hc.1 g.1.1 k10, agr_JF g.1.1]
      have ec : cFt σ (iN k) = iN (cnt (fun a => decide (0 < iN (mem (σ 324) (iN a) (iN k)))) 5) := by
        unfold cFt
        congr 1
        refine cnt_congr (fun a ha => ?_)
        rw [cMa_of ha k10, hc.1.2.2 a ha k k10, mem_agr g.1.1]
      rw [ec]
    · rw [if_neg z, if_neg z]
  rw [e]
  exact hK)
theorem xr_ranked {x : Int32} : XR 129 [some (.ref 0), some (.int x)] n ρ (vRk (ρ 324) x) n ρ := xr_of (fun σ h q K hK => by
  obtain ⟨B, b1, b2, g, tb⟩ := h
  obtain ⟨hc, hF⟩ := GR_SC g
  refine s129 hc ?_
  rw [agr_rk g.1.1, q.2.1]
  exact hK)
theorem xr_why {a b x : Int32} : XR 130 [some (.ref 0), some (.int a), some (.int b), some (.int x)] n ρ (aWy (ρ 324) a b x) n ρ := xr_of (fun σ h q K hK => by
  obtain ⟨B, b1, b2, g, tb⟩ := h
  obtain ⟨hc, hF⟩ := GR_SC g
  refine s130 hc ?_
  rw [agr_wy hc.1.1 g.1.1, q.2.1]
  exact hK)
theorem xr_whyMove {t x : Int32} : XR 131 [some (.ref 0), some (.int t), some (.int x)] n ρ (aWm (ρ 324) t x) n ρ := xr_of (fun σ h q K hK => by
  obtain ⟨B, b1, b2, g, tb⟩ := h
  obtain ⟨hc, hF⟩ := GR_SC g
  refine s131 hc ?_
  rw [agr_wm hc.1.1 g.1.1, q.2.1]
  exact hK)
theorem xr_joyAt {t x : Int32} : XR 132 [some (.ref 0), some (.int t), some (.int x)] n ρ (aJa (ρ 324) t x) n ρ := xr_of (fun σ h q K hK => by
  obtain ⟨B, b1, b2, g, tb⟩ := h
  obtain ⟨hc, hF⟩ := GR_SC g
  refine s132 hc ?_
  rw [agr_ja hc.1.1 g.1.1, q.2.1]
  exact hK)
theorem xr_ifSwapped {a b w : Int32} : XR 133 [some (.ref 0), some (.int a), some (.int b), some (.int w)] n ρ (aIs (ρ 324) a b w) n ρ := xr_of (fun σ h q K hK => by
  obtain ⟨B, b1, b2, g, tb⟩ := h
  obtain ⟨hc, hF⟩ := GR_SC g
  refine s133 hc ?_
  rw [agr_is hc.1.1 g.1.1, q.2.1]
  exact hK)
theorem xr_leastPrice {a b : Int32} : XR 134 [some (.ref 0), some (.int a), some (.int b), none] n ρ (aLe (ρ 324) a b) n ρ := xr_of (fun σ h q K hK => by
  obtain ⟨B, b1, b2, g, tb⟩ := h
  obtain ⟨hc, hF⟩ := GR_SC g
  refine s134 hc ?_
  rw [agr_le hc.1.1 g.1.1, q.2.1]
  exact hK)
theorem xr_bestSeat {t : Int32} : XR 135 [some (.ref 0), some (.int t)] n ρ (vBs (ρ 324) t) n ρ := xr_of (fun σ h q K hK => by
  obtain ⟨B, b1, b2, g, tb⟩ := h
  obtain ⟨hc, hF⟩ := GR_SC g
  obtain ⟨rs, rt, rz, h0, -⟩ := GR_rf g
  refine s135 hc ?_
  rw [agr_bs hc.1.1 h0 g.1.1, q.2.1]
  exact hK)
theorem xr_partner {t : Int32} : XR 136 [some (.ref 0), some (.int t)] n ρ (vPa (ρ 324) t) n ρ := xr_of (fun σ h q K hK => by
  obtain ⟨B, b1, b2, g, tb⟩ := h
  obtain ⟨hc, hF⟩ := GR_SC g
  refine s136 hc ?_
  rw [agr_pa hc.1.1 g.1.1, q.2.1]
  exact hK)
theorem xr_rings : XR 137 [some (.ref 0)] n ρ (fRi (ρ 324)) n ρ := xr_of (fun σ h q K hK => by
  obtain ⟨B, b1, b2, g, tb⟩ := h
  obtain ⟨hc, hF⟩ := GR_SC g
  refine s137 ⟨hc, hF⟩ ?_
  rw [agr_Ri g.1.1, q.2.1]
  exact hK)
theorem xr_ifFirst {x : Int32} : XR 139 [some (.ref 0), some (.int x)] n ρ (aIf (ρ 324) x) n ρ := xr_of (fun σ h q K hK => by
  obtain ⟨B, b1, b2, g, tb⟩ := h
  obtain ⟨hc, hF⟩ := GR_SC g
  refine s139 hc ?_
  rw [agr_if g.1.1, q.2.1]
  exact hK)
theorem xr_errorPosition : XR 111 [some (.ref 0)] n ρ (ρ 323 9) n ρ := xr_of (fun σ h q K hK => by
  obtain ⟨B, b1, b2, g, tb⟩ := h
  refine s111 ?_
  rw [g.2.2.2.2.2.1, q.1]
  exact hK)
theorem xr_ifSettled {w : Int32} : XR 138 [some (.ref 0), some (.int w), none] n ρ (aSt (ρ 324) w) n ρ := fun _ σ h q => by
  obtain ⟨B, b1, b2, g, tb⟩ := h
  obtain ⟨hc, hF⟩ := GR_SC g
  obtain ⟨rs, rt, rz, -⟩ := GR_rf g
  have ht := (GR_dr g.1).1
  have hi : ∀ q, q < 32 ∨ 58 ≤ q → clX σ w q = σ q := fun q hq => clX_hi hc ht hq
  have g1 : GR B (clX σ w) := GR_scr g (fun q q1 _ => hi q q1) (by rw [hi 326 (by decide)]; exact rz.2.2)
  refine s138 ⟨hc, ht⟩ ⟨?_, clX σ w, fun _ _ => rfl, ⟨B, b1, b2, g1, TB_of tb (by rw [hi 323 (by decide)]) (by rw [hi 330 (by decide)])⟩, q.hi (fun a ha => hi a (by omega))⟩
  rw [cSx_e g w, q.2.1]
/-! operations -/
theorem xr_swap {a b x : Int32} : XR 115 [some (.ref 0), some (.int a), some (.int b), some (.int x), none, none] n ρ (aSwa (ρ 324) a b x) n (hOp ρ (gSwa (ρ 324) a b x) (nSwa (ρ 324) a b x)) := fun hn σ h q => by
  obtain ⟨B, b1, b2, g, tb⟩ := h
  obtain ⟨hc, hF⟩ := GR_SC g
  obtain ⟨e24, rs, ea, gr⟩ := GR_swap (a := a) (b := b) (x := x) g (by omega)
  have hi : ∀ q, 323 ≤ q → clS σ a b x q = σ q := fun q hq => clS_hi hc hq
  refine s115 hc ⟨by rw [ea, q.2.1], _, fun q hq => hOp_lo hq, ⟨B, b1, b2, gr, TB_op tb hi⟩, (q.hi hi).op (by rw [q.2.1]) (by rw [q.2.1])⟩
theorem xr_move {a x : Int32} : XR 116 [some (.ref 0), some (.int a), some (.int x), none, none] n ρ (aMov (ρ 324) a x) n (hOp ρ (gMov (ρ 324) a x) (nMov (ρ 324) a x)) := fun hn σ h q => by
  obtain ⟨B, b1, b2, g, tb⟩ := h
  obtain ⟨hc, hF⟩ := GR_SC g
  obtain ⟨e24, rs, ea, gr⟩ := GR_move (a := a) (x := x) g
  have hi : ∀ q, 323 ≤ q → clM σ a x q = σ q := fun q hq => clM_hi hc hq
  refine s116 hc ⟨by rw [ea, q.2.1], _, fun q hq => hOp_lo hq, ⟨B, b1, b2, gr, TB_op tb hi⟩, (q.hi hi).op (by rw [q.2.1]) (by rw [q.2.1])⟩
theorem xr_ring {a b c : Int32} : XR 117 [some (.ref 0), some (.int a), some (.int b), some (.int c), none, none] n ρ (aRin (ρ 324) a b c) n (hOp ρ (gRin (ρ 324) a b c) (nRin (ρ 324) a b c)) := fun hn σ h q => by
  obtain ⟨B, b1, b2, g, tb⟩ := h
  obtain ⟨hc, hF⟩ := GR_SC g
  obtain ⟨e24, rs, ea, gr⟩ := GR_ring (a := a) (b := b) (c := c) g
  have hi : ∀ q, 323 ≤ q → clR σ a b c q = σ q := fun q hq => clR_hi hc hq
  refine s117 ⟨hc, hF⟩ ⟨by rw [ea, q.2.1], _, fun q hq => hOp_lo hq, ⟨B, b1, b2, gr, TB_op tb hi⟩, (q.hi hi).op (by rw [q.2.1]) (by rw [q.2.1])⟩
theorem xr_first {f : Int32} : XR 114 [some (.ref 0), some (.int f), none] n ρ (aFir (ρ 324) f) n (hOp ρ (gFir (ρ 324) f) (nFir (ρ 324) f)) := fun hn σ h q => by
  obtain ⟨B, b1, b2, g, tb⟩ := h
  obtain ⟨hc, hF⟩ := GR_SC g
  obtain ⟨e24, rs, ea, gr⟩ := GR_first (f := f) g
  have hi : ∀ q, 323 ≤ q → clF σ f q = σ q := fun q hq => clF_hi hc hq
  refine s114 hc ⟨by rw [ea, q.2.1], _, fun q hq => hOp_lo hq, ⟨B, b1, b2, gr, TB_op tb hi⟩, (q.hi hi).op (by rw [q.2.1]) (by rw [q.2.1])⟩
theorem xr_set {t w v : Int32} : XR 113 [some (.ref 0), some (.int t), some (.int w), some (.int v), none, none, none] n ρ (aSet (ρ 324) t w v) n (hOp ρ (gSet (ρ 324) t w v) (nSet (ρ 324) t w v)) := fun hn σ h q => by
  obtain ⟨B, b1, b2, g, tb⟩ := h
  obtain ⟨hc, hF⟩ := GR_SC g
  obtain ⟨e24, rs, ea, gr⟩ := GR_set (t := t) (w := w) (v := v) g
  have hi : ∀ q, 323 ≤ q → clE σ t w v q = σ q := fun q hq => clE_hi hc hq
  refine s113 hc ⟨by rw [ea, q.2.1], _, fun q hq => hOp_lo hq, ⟨B, b1, b2, gr, TB_op tb hi⟩, (q.hi hi).op (by rw [q.2.1]) (by rw [q.2.1])⟩
theorem xr_settle : XR 118 [some (.ref 0), none, none] n ρ (aStl (ρ 324)) n (hOp ρ (gStl (ρ 324)) (nStl (ρ 324))) := fun hn σ h q => by
  obtain ⟨B, b1, b2, g, tb⟩ := h
  obtain ⟨hc, hF⟩ := GR_SC g
  obtain ⟨e24, rs, rz, ea, gr⟩ := GR_settle g
  obtain ⟨t1, t2⟩ := GR_dr g.1
  have hi : ∀ q, 323 ≤ q → clT σ q = σ q := fun q hq => clT_hi hc t1 hq
  have hj : TB (grow (clT σ) 326 (fSt 99 (σ 324)).2) := TB_of tb (by rw [grow_ne (by decide), hi 323 (by decide)]) (by rw [grow_ne (by decide), hi 330 (by decide)])
  have q1 : XQ (grow (clT σ) 326 (fSt 99 (σ 324)).2) ρ := by
    obtain ⟨e1, e2, e3, e4, e5, e6⟩ := q.hi hi
    exact ⟨(grow_ne (by decide)).trans e1, (grow_ne (by decide)).trans e2, (grow_ne (by decide)).trans e3, (grow_ne (by decide)).trans e4, (grow_ne (by decide)).trans e5, (grow_ne (by decide)).trans e6⟩
  refine s118 ⟨hc, t1, t2⟩ ⟨by rw [ea, q.2.1], _, fun q hq => (hOp_lo hq).trans (grow_ne (by omega)), ⟨B, b1, b2, gr, TB_op hj (fun q _ => rfl)⟩, q1.op (by rw [q.2.1]) (by rw [q.2.1])⟩
theorem xr_station {m : Int32} : XR 119 [some (.ref 0), some (.int m), none, none] n ρ (aSta (ρ 324) m) n (hOp ρ (gSta (ρ 324) m) (stm m.toNatClampNeg (ρ 324))) := fun hn σ h q => by
  obtain ⟨B, b1, b2, g, tb⟩ := h
  obtain ⟨hc, hF⟩ := GR_SC g
  obtain ⟨hi, ea, gr⟩ := GR_station (m := m) g
  refine s119 ⟨hc.2.1, ⟨_, g.1⟩⟩ ⟨by rw [ea, q.2.1], _, fun q hq => hOp_lo hq, ⟨B, b1, b2, gr, TB_op tb hi⟩, (q.hi hi).op (by rw [q.2.1]) (by rw [q.2.1])⟩
theorem gRes_q {σ ρ : gS} (q : XQ σ ρ) (f : Int32) : (gRes σ f ↔ gRes ρ f) ∧ aRes σ f = aRes ρ f := by
  unfold gRes aRes
  rw [q.2.2.2.1, q.2.2.2.2.1]
  exact ⟨Iff.rfl, rfl⟩
theorem xr_restore {f : Int32} : XR 121 [some (.ref 0), some (.int f)] n ρ (aRes ρ f) n (hOp ρ (gRes ρ f) (rowAt (ρ 328) f.toNatClampNeg)) := fun hn σ h q => by
  obtain ⟨B, b1, b2, g, tb⟩ := h
  obtain ⟨hc, hF⟩ := GR_SC g
  obtain ⟨hi, ea, gr⟩ := GR_restore (f := f) g
  refine s121 ⟨hc, fun s hs => (g.2.2.2.1 s hs).2.1⟩ ⟨by rw [ea, (gRes_q q f).2], _, fun q hq => hOp_lo hq, ⟨B, b1, b2, gr, TB_op tb hi⟩, (q.hi hi).op (gRes_q q f).1 (by rw [q.2.2.2.1])⟩
theorem xr_keep {f : Int32} : XR 120 [some (.ref 0), some (.int f)] n ρ (if isSl f then ρ 324 3 else -1) n (if isSl f then hKp ρ f.toNatClampNeg else ρ) := fun hn σ h q => by
  obtain ⟨B, b1, b2, g, tb⟩ := h
  obtain ⟨hc, hF⟩ := GR_SC g
  obtain ⟨hi, ea, gr⟩ := GR_keep (f := f) g
  refine s120 hc ⟨by rw [ea, q.2.1], _, fun a ha => ?_, ⟨B, b1, b2, gr, TB_of tb ?_ ?_⟩, ?_⟩
  · have lo : ∀ τ : gS, (if isSl f then hKp τ f.toNatClampNeg else τ) a = τ a := fun τ => by
      split
      · unfold hKp
        rw [grow_ne (by omega), grow_ne (by omega)]
      · rfl
    exact lo (clK σ f)
  · split
    · unfold hKp
      rw [grow_ne (by decide), grow_ne (by decide), hi _ (by decide)]
    · rw [hi _ (by decide)]
  · split
    · unfold hKp
      rw [grow_ne (by decide), grow_ne (by decide), hi _ (by decide)]
    · rw [hi _ (by decide)]
  · obtain ⟨e1, e2, e3, e4, e5, e6⟩ := q.hi hi
    split
    · unfold hKp
      refine ⟨?_, ?_, ?_, ?_, ?_, ?_⟩
      · rw [grow_ne (by decide), grow_ne (by decide), grow_ne (by decide), grow_ne (by decide), e1]
      · rw [grow_ne (by decide), grow_ne (by decide), grow_ne (by decide), grow_ne (by decide), e2]
      · rw [grow_ne (by decide), grow_ne (by decide), grow_ne (by decide), grow_ne (by decide), e3]
      · rw [grow_ne (by decide), grow_at, grow_ne (by decide), grow_at, e2, e4]
      · rw [grow_at, grow_at, e5]
      · rw [grow_ne (by decide), grow_ne (by decide), grow_ne (by decide), grow_ne (by decide), e6]
    · exact ⟨e1, e2, e3, e4, e5, e6⟩
theorem xr_undo : XR 122 [some (.ref 0)] n ρ (if ρ 323 6 = 0 then -1 else ρ 323 6 - 1) n (hUn ρ) := fun hn σ h q => by
  obtain ⟨B, b1, b2, g, tb⟩ := h
  obtain ⟨hc, hF⟩ := GR_SC g
  obtain ⟨hi, ea, gr⟩ := GR_undo g
  refine s122 ⟨hc.2.1, g.2.2.1.2.2⟩ ⟨by rw [ea, q.1], _, fun a ha => ?_, ⟨B, b1, b2, gr, TB_of tb ?_ ?_⟩, ?_⟩
  · have lo : ∀ τ : gS, hUn τ a = τ a := fun τ => by
      unfold hUn
      split
      · rfl
      · rw [grow_ne (by omega), grow_ne (by omega)]
    exact lo (clW σ)
  · unfold hUn
    split
    · rw [hi 323 (by decide)]
    · rw [grow_ne (by decide), grow_at, rup_ne (by decide), hi 323 (by decide)]
  · unfold hUn
    split
    · exact hi _ (by decide)
    · rw [grow_ne (by decide), grow_ne (by decide), hi _ (by decide)]
  · obtain ⟨e1, e2, e3, e4, e5, e6⟩ := q.hi hi
    unfold hUn
    rw [e1, e3]
    split
    · exact ⟨e1, e2, e3, e4, e5, e6⟩
    · refine ⟨?_, ?_, ?_, ?_, ?_, ?_⟩
      · rw [grow_ne (by decide), grow_at, grow_ne (by decide), grow_at]
      · rw [grow_at, grow_at]
      · rw [grow_ne (by decide), grow_ne (by decide), grow_ne (by decide), grow_ne (by decide), e3]
      · rw [grow_ne (by decide), grow_ne (by decide), grow_ne (by decide), grow_ne (by decide), e4]
      · rw [grow_ne (by decide), grow_ne (by decide), grow_ne (by decide), grow_ne (by decide), e5]
      · rw [grow_ne (by decide), grow_ne (by decide), grow_ne (by decide), grow_ne (by decide), e6]
theorem hAp_q {σ ρ : gS} {Bt : Nat → Int32} (q : XQ σ ρ) : XQ (hAp σ Bt) (hAp ρ Bt) := by
  obtain ⟨e1, e2, e3, e4, e5, e6⟩ := q
  unfold hAp
  rw [e1, e6]
  split
  · exact ⟨e1, e2, e3, e4, e5, e6⟩
  · refine ⟨?_, ?_, ?_, ?_, ?_, ?_⟩
    · rw [grow_at, grow_at]
    · rw [grow_ne (by decide), grow_ne (by decide), grow_ne (by decide), grow_ne (by decide), e2]
    · rw [grow_ne (by decide), grow_ne (by decide), grow_ne (by decide), grow_ne (by decide), e3]
    · rw [grow_ne (by decide), grow_ne (by decide), grow_ne (by decide), grow_ne (by decide), e4]
    · rw [grow_ne (by decide), grow_ne (by decide), grow_ne (by decide), grow_ne (by decide), e5]
    · rw [grow_ne (by decide), grow_at, grow_ne (by decide), grow_at]
theorem xr_append {a b c d e : Int32} : XR 108 [some (.ref 0), some (.int a), some (.int b), some (.int c), some (.int d), some (.int e)] n ρ (if 1000 < ρ 323 8 + 20 then -1 else ρ 323 8 + 20) n (hAp ρ (byt a b c d e)) := fun hn σ h q => by
  obtain ⟨B, b1, b2, g, tb⟩ := h
  obtain ⟨hc, hF⟩ := GR_SC g
  obtain ⟨hi, ea, gr⟩ := GR_append (Bt := byt a b c d e) g
  have rt : RT (clA σ (byt a b c d e)) := by
    show 0 ≤ clA σ (byt a b c d e) 323 8 ∧ clA σ (byt a b c d e) 323 8 ≤ 1000
    rw [hi 323 (by decide)]
    exact g.2.2.2.2.2.2.2.2
  have tb2 : TB (clA σ (byt a b c d e)) := TB_of tb (by rw [hi 323 (by decide)]) (by rw [hi 330 (by decide)])
  refine s108 g.2.2.2.2.1.1 ⟨by rw [ea, q.1], _, fun a ha => ?_, ⟨B, b1, b2, gr, ?_⟩, hAp_q (q.hi hi)⟩
  · show hAp (clA σ _) _ a = clA σ _ a
    unfold hAp
    split
    · rfl
    · rw [grow_ne (by omega), grow_ne (by omega)]
  · generalize clA σ (byt a b c d e) = ρ at tb2 rt ⊢
    unfold hAp
    split
    · exact tb2
    · intro i hi2
      obtain ⟨eL, lL⟩ := l1000 rt
      rw [grow_at, rup_at] at hi2
      rw [grow_ne (by decide), grow_at]
      unfold fAp
      split
      · exact and255 _
      · refine tb2 i ?_
        rw [eL, show (20 : Int32) = iN 20 from rfl, iN_add, iN_nat (by omega)] at hi2
        omega
def hTr (ρ : gS) (m : Int32) : gS := if gTru (ρ 323 8) m then grow ρ 323 (rup (ρ 323) 8 (ρ 323 8 - m)) else ρ
theorem xr_truncate {m : Int32} : XR 109 [some (.ref 0), some (.int m)] n ρ (if gTru (ρ 323 8) m then ρ 323 8 - m else -1) n (hTr ρ m) := fun hn σ h q => by
  obtain ⟨B, b1, b2, g, tb⟩ := h
  obtain ⟨hc, hF⟩ := GR_SC g
  obtain ⟨hi, ea, gr⟩ := GR_trunc (n := m) g
  have rt := g.2.2.2.2.2.2.2.2
  have tb2 : TB (clU σ m) := TB_of tb (by rw [hi 323 (by decide)]) (by rw [hi 330 (by decide)])
  refine s109 ⟨by rw [ea, q.1], hTr (clU σ m) m, fun a ha => ?_, ⟨B, b1, b2, gr, ?_⟩, ?_⟩
  · show hTr (clU σ m) m a = clU σ m a
    unfold hTr
    split
    · rw [grow_ne (by omega)]
    · rfl
  · unfold hTr
    split
    · rename_i q
      intro i hi2
      rw [grow_at, rup_at, hi 323 (by decide)] at hi2
      rw [grow_ne (by decide), hi 330 (by decide)]
      refine tb i ?_
      rw [hi 323 (by decide)] at q
      obtain ⟨eL, lL⟩ := l1000 rt
      obtain ⟨em, lm⟩ := iN_of (Int32.not_lt.mp q.1)
      have q2 := Int32.not_lt.mp q.2
      rw [eL, em] at q2
      have q2 := (iN_le lm (by omega)).mp q2
      rw [eL, em, iN_sub (by omega) q2, iN_nat (by omega)] at hi2
      omega
    · exact tb2
  · obtain ⟨e1, e2, e3, e4, e5, e6⟩ := q.hi hi
    unfold hTr
    rw [e1]
    split
    · refine ⟨?_, ?_, ?_, ?_, ?_, ?_⟩
      · rw [grow_at, grow_at]
      · rw [grow_ne (by decide), grow_ne (by decide), e2]
      · rw [grow_ne (by decide), grow_ne (by decide), e3]
      · rw [grow_ne (by decide), grow_ne (by decide), e4]
      · rw [grow_ne (by decide), grow_ne (by decide), e5]
      · rw [grow_ne (by decide), grow_ne (by decide), e6]
    · exact ⟨e1, e2, e3, e4, e5, e6⟩
theorem hCom_q {σ ρ : gS} {x k f w s : Int32} (q : XQ σ ρ) : XQ (hCom σ x k f w s) (hCom ρ x k f w s) ∧ aCom σ x k f w s = aCom ρ x k f w s := by
  obtain ⟨e1, e2, e3, e4, e5, e6⟩ := q
  unfold hCom aCom gCom okC
  rw [e1, e2, e6]
  refine ⟨?_, rfl⟩
  split
  · unfold hKe
    refine ⟨?_, ?_, ?_, ?_, ?_, ?_⟩
    · rw [grow_ne (by decide), grow_at, grow_at, grow_ne (by decide), grow_at, grow_at, e1]
    · rw [grow_at, grow_at]
    · rw [grow_ne (by decide), grow_ne (by decide), grow_ne (by decide), grow_at, grow_ne (by decide), grow_ne (by decide), grow_ne (by decide), grow_at, e1, e2, e3]
    · rw [grow_ne (by decide), grow_ne (by decide), grow_ne (by decide), grow_ne (by decide), grow_ne (by decide), grow_ne (by decide), grow_ne (by decide), grow_ne (by decide), e4]
    · rw [grow_ne (by decide), grow_ne (by decide), grow_ne (by decide), grow_ne (by decide), grow_ne (by decide), grow_ne (by decide), grow_ne (by decide), grow_ne (by decide), e5]
    · rw [grow_ne (by decide), grow_ne (by decide), grow_ne (by decide), grow_ne (by decide), grow_ne (by decide), grow_ne (by decide), grow_ne (by decide), grow_ne (by decide), e6]
  · exact ⟨e1, e2, e3, e4, e5, e6⟩
theorem xr_come {x v f w s : Int32} : XR 112 [some (.ref 0), some (.int x), some (.int v), some (.int f), some (.int w), some (.int s), none] n ρ (aCom ρ x v f w s) (n + 1) (hCom ρ x v f w s) := fun hn σ h q => by
  obtain ⟨B, b1, b2, g, tb⟩ := h
  obtain ⟨hc, hF⟩ := GR_SC g
  obtain ⟨hi, ea, gr⟩ := GR_come (x := x) (k := v) (f := f) (w := w) (s := s) g
  have tb2 : TB (clC σ x v f w s) := TB_of tb (by rw [hi 323 (by decide)]) (by rw [hi 330 (by decide)])
  refine s112 ⟨hc, g.2.2.2.2.1.1⟩ ⟨by rw [ea, (hCom_q q).2], _, fun a ha => ?_, ⟨B + 99, by omega, by omega, gr, ?_⟩, (hCom_q (q.hi hi)).1⟩
  · show hCom (clC σ x v f w s) x v f w s a = clC σ x v f w s a
    unfold hCom
    split
    · rw [grow_ne (by omega), grow_ne (by omega), hKe_ne (by omega) (by omega)]
    · rfl
  · unfold hCom
    split
    · refine TB_0 ?_
      rw [grow_ne (by decide), grow_at, rup_at]
    · exact tb2
end XRS
