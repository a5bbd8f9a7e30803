-- text 81
/-! THE CLASS: a traveller is read -/
theorem RK_cg {σ τ : gS} (h : RK σ) (h1 : τ 1 = σ 1) (h2 : τ 2 = σ 2) (h3 : τ 3 = σ 3) : RK τ := by
  unfold RK RW RD at *
  rw [h1, h2, h3]
  exact h
theorem RK_4 {σ : gS} {j : Nat} {x : Int32} (h : RK σ) : RK (gup σ 4 j x) := RK_cg h (funext fun i => gup_ne (by omega)) (funext fun i => gup_ne (by omega)) (funext fun i => gup_ne (by omega))
theorem cPs_far {σ : gS} {c : Int32} {q : Nat} (h : ¬ q = 1) : cPs σ c q = σ q := by
  funext j
  unfold cPs
  split
  · exact cTok_ne (by omega)
  · exact gup_ne (by omega)
theorem cInt_far {σ : gS} {a b : Int32} {q : Nat} (h : ¬ q = 1) : cInt σ a b q = σ q := cPs_far h
theorem cWd_k {σ : gS} {B : List Int32} (h : RK σ) (hw : cWd σ B) : RD σ := h.1.1.2 (by rw [hw.1]; decide)
/-- the seat's word; the seat; the name -/
def rA (σ : gS) : gS := cPs (cZr σ 4) (bI (cWd (cZr σ 4) (jW 1000003)))
def rB (σ : gS) : gS := gup (cInt (cFs σ) 0 (σ 32 4 * 4 - 1)) 4 1 (cNu (cFs σ))
def rC (σ : gS) : gS := gup (cPs σ (bI (cNm σ))) 4 0 (cPk (σ 3) (σ 2 1).toNatClampNeg (σ 1 2).toNatClampNeg (min ((σ 1 3).toNatClampNeg - (σ 1 2).toNatClampNeg) 5))
/-- what may stand -/
abbrev rTh (σ : gS) (p : Nat) : Prop := σ 1 5 = 0 ∧ cWd σ (jW p)
def rT (σ : gS) : gS := if rTh σ 1000004 then gup (cTok σ) 4 2 1 else σ
def rF (σ : gS) : gS := if rTh σ 1000005 then gup (cInt (cTok σ) 1 9) 4 3 (cNu (cTok σ)) else σ
def rW (σ : gS) : gS := if rTh σ 1000006 then gup (cInt (cLkH (cTok σ)) 0 9) 4 4 (cLik (cTok σ)) else σ
def rAh (σ : gS) : gS := if rTh σ 1000007 then gup (cInt (cLkH (cTok σ)) 0 9) 4 5 (cLik (cTok σ)) else σ
def rR1 (σ : gS) : gS := gup (cInt (cTok σ) 0 (σ 32 4 - 1)) 4 6 (cNu (cTok σ))
def rR (σ : gS) : gS := if rTh σ 1000008 then gup (cInt (rR1 σ) 0 3) 4 7 (cNu (rR1 σ)) else σ
def rS (σ : gS) : gS := if rTh σ 1000009 then gup (cInt (cTok σ) 0 99) 4 8 (cNu (cTok σ)) else σ
def rP (σ : gS) : gS := if rTh σ 1000010 then gup (cInt (cTok σ) 1 99) 4 9 (cNu (cTok σ)) else σ
theorem z00 : (0 : Int32) ≤ 0 := by decide
theorem z01 : (0 : Int32) ≤ 1 := by decide
theorem rA_RK {σ : gS} (h : RK σ) : RK (rA σ) := by
  have h0 : RK (cZr σ 4) := RK_cg h (cZr_ne (by decide)) (cZr_ne (by decide)) (cZr_ne (by decide))
  refine cPs_RK h0 (fun q => ?_)
  have q : cWd (cZr σ 4) (jW 1000003) := Decidable.not_not.mp (fun z => q (bI_0.mpr z))
  rw [q.1]
  decide
theorem rB_RK {σ : gS} (h : RK σ) : RK (rB σ) := RK_4 (cInt_RK (cFs_RK h) z00)
theorem rC_RK {σ : gS} (h : RK σ) : RK (rC σ) := by
  refine RK_4 (cPs_RK h (fun q => ?_))
  have q : cNm σ := Decidable.not_not.mp (fun z => q (bI_0.mpr z))
  rw [q.1]
  decide
theorem rT_RK {σ : gS} (h : RK σ) : RK (rT σ) := by
  unfold rT
  split
  · rename_i q; exact RK_4 (cTok_RK (cWd_k h q.2))
  · exact h
theorem rF_RK {σ : gS} (h : RK σ) : RK (rF σ) := by
  unfold rF
  split
  · rename_i q; exact RK_4 (cInt_RK (cTok_RK (cWd_k h q.2)) z01)
  · exact h
theorem rW_RK {σ : gS} (h : RK σ) : RK (rW σ) := by
  unfold rW
  split
  · rename_i q; exact RK_4 (cInt_RK (cLkH_RK (cTok_RK (cWd_k h q.2))) z00)
  · exact h
theorem rAh_RK {σ : gS} (h : RK σ) : RK (rAh σ) := by
  unfold rAh
  split
  · rename_i q; exact RK_4 (cInt_RK (cLkH_RK (cTok_RK (cWd_k h q.2))) z00)
  · exact h
theorem rR1_RK {σ : gS} (h : RD σ) : RK (rR1 σ) := RK_4 (cInt_RK (cTok_RK h) z00)
theorem rR_RK {σ : gS} (h : RK σ) : RK (rR σ) := by
  unfold rR
  split
  · rename_i q; exact RK_4 (cInt_RK (rR1_RK (cWd_k h q.2)) z00)
  · exact h
theorem rS_RK {σ : gS} (h : RK σ) : RK (rS σ) := by
  unfold rS
  split
  · rename_i q; exact RK_4 (cInt_RK (cTok_RK (cWd_k h q.2)) z00)
  · exact h
theorem rP_RK {σ : gS} (h : RK σ) : RK (rP σ) := by
  unfold rP
  split
  · rename_i q; exact RK_4 (cInt_RK (cTok_RK (cWd_k h q.2)) z01)
  · exact h
-- text 82
/-! THE CLASS: a traveller is read, the walk -/
theorem tv_4 : gTv 4 := by unfold gTv; decide +kernel
theorem rTh_y {σ : gS} {p : Nat} (h : ¬ bI (rTh σ p) = 0) : rTh σ p := Decidable.not_not.mp (fun q => h (bI_0.mpr q))
/-- a traveller's end: admitted if all is right -/
def rZ (σ : gS) : gS := if cB0 σ = 59 ∧ (σ 4 2 = 1 ∨ cR σ 32 1 ≤ σ 4 1 / 4) then (if cPs σ 1 1 5 = 0 then cAdm (cPs σ 1) 32 4 else cPs σ 1) else cPs σ 0
set_option maxRecDepth 20000 in
theorem w32 {σ : gS} {K : gK} (h : gTv 4 ∧ (gTv 4) ∧ (RK (cZr σ 4)) ∧ gE 32 13 [some (.ref 1), some (.ref 32)] [] (cPs (cZr σ 4) (bI (cWd (cZr σ 4) (jW 1000003)))) K) : gE 32 0 [some (.ref 1), some (.ref 32)] [] σ K :=
  gw_run (cy := 32) (cuts := [13, 25, 36, 53, 76, 96, 116, 156, 179, 202, 237, 256]) (inl := []) (pf := gpds) gpds_ok 400 (by decide) h
set_option maxRecDepth 20000 in
theorem c32_13 {σ : gS} {K : gK} (h : (RK σ ∧ (0 ≤ σ 32 7 ∧ σ 32 7 ≤ 20)) ∧ gTv 4 ∧ gE 32 25 [some (.ref 1), some (.ref 32)] [] (gup (cInt (cFs σ) 0 (σ 32 4 * 4 - 1)) 4 1 (cNu (cFs σ))) K) : gE 32 13 [some (.ref 1), some (.ref 32)] [] σ K :=
  gw_run (cy := 32) (cuts := [13, 25, 36, 53, 76, 96, 116, 156, 179, 202, 237, 256]) (inl := []) (pf := gpds) gpds_ok 400 (by decide) h
set_option maxRecDepth 20000 in
theorem c32_25 {σ : gS} {K : gK} (h : (RK σ) ∧ gTv 4 ∧ gE 32 36 [some (.ref 1), some (.ref 32)] [] (gup (cPs σ (bI (cNm σ))) 4 0 (cPk (σ 3) (σ 2 1).toNatClampNeg (σ 1 2).toNatClampNeg (min ((σ 1 3).toNatClampNeg - (σ 1 2).toNatClampNeg) 5))) K) : gE 32 25 [some (.ref 1), some (.ref 32)] [] σ K :=
  gw_run (cy := 32) (cuts := [13, 25, 36, 53, 76, 96, 116, 156, 179, 202, 237, 256]) (inl := []) (pf := gpds) gpds_ok 400 (by decide) h
set_option maxRecDepth 20000 in
theorem c32_36 {σ : gS} {K : gK} (h : (RK σ) ∧ (((bI (σ 1 5 = 0 ∧ cWd σ (jW 1000004))) = 0 → gE 32 53 [some (.ref 1), some (.ref 32)] [] (if σ 1 5 = 0 ∧ cWd σ (jW 1000004) then cTok σ else σ) K) ∧ (¬ (bI (σ 1 5 = 0 ∧ cWd σ (jW 1000004))) = 0 → gTv 4 ∧ gE 32 53 [some (.ref 1), some (.ref 32)] [] (gup (if σ 1 5 = 0 ∧ cWd σ (jW 1000004) then cTok σ else σ) 4 2 1) K))) : gE 32 36 [some (.ref 1), some (.ref 32)] [] σ K :=
  gw_run (cy := 32) (cuts := [13, 25, 36, 53, 76, 96, 116, 156, 179, 202, 237, 256]) (inl := []) (pf := gpds) gpds_ok 400 (by decide) h
set_option maxRecDepth 20000 in
theorem c32_53 {σ : gS} {K : gK} (h : (RK σ) ∧ (((bI (σ 1 5 = 0 ∧ cWd σ (jW 1000005))) = 0 → gE 32 76 [some (.ref 1), some (.ref 32)] [] (if σ 1 5 = 0 ∧ cWd σ (jW 1000005) then cTok σ else σ) K) ∧ (¬ (bI (σ 1 5 = 0 ∧ cWd σ (jW 1000005))) = 0 → (RK (if σ 1 5 = 0 ∧ cWd σ (jW 1000005) then cTok σ else σ) ∧ 0 ≤ (1 : Int32)) ∧ gTv 4 ∧ gE 32 76 [some (.ref 1), some (.ref 32)] [] (gup (cInt (if σ 1 5 = 0 ∧ cWd σ (jW 1000005) then cTok σ else σ) (1 : Int32) (9 : Int32)) 4 3 (cNu (if σ 1 5 = 0 ∧ cWd σ (jW 1000005) then cTok σ else σ))) K))) : gE 32 53 [some (.ref 1), some (.ref 32)] [] σ K :=
  gw_run (cy := 32) (cuts := [13, 25, 36, 53, 76, 96, 116, 156, 179, 202, 237, 256]) (inl := []) (pf := gpds) gpds_ok 400 (by decide) h
set_option maxRecDepth 20000 in
theorem c32_76 {σ : gS} {K : gK} (h : (RK σ) ∧ (((bI (σ 1 5 = 0 ∧ cWd σ (jW 1000006))) = 0 → gE 32 96 [some (.ref 1), some (.ref 32)] [] (if σ 1 5 = 0 ∧ cWd σ (jW 1000006) then cTok σ else σ) K) ∧ (¬ (bI (σ 1 5 = 0 ∧ cWd σ (jW 1000006))) = 0 → (RK (if σ 1 5 = 0 ∧ cWd σ (jW 1000006) then cTok σ else σ)) ∧ gTv 4 ∧ gE 32 96 [some (.ref 1), some (.ref 32)] [] (gup (cInt (cLkH (if σ 1 5 = 0 ∧ cWd σ (jW 1000006) then cTok σ else σ)) 0 9) 4 4 (cLik (if σ 1 5 = 0 ∧ cWd σ (jW 1000006) then cTok σ else σ))) K))) : gE 32 76 [some (.ref 1), some (.ref 32)] [] σ K :=
  gw_run (cy := 32) (cuts := [13, 25, 36, 53, 76, 96, 116, 156, 179, 202, 237, 256]) (inl := []) (pf := gpds) gpds_ok 400 (by decide) h
set_option maxRecDepth 20000 in
theorem c32_96 {σ : gS} {K : gK} (h : (RK σ) ∧ (((bI (σ 1 5 = 0 ∧ cWd σ (jW 1000007))) = 0 → gE 32 116 [some (.ref 1), some (.ref 32)] [] (if σ 1 5 = 0 ∧ cWd σ (jW 1000007) then cTok σ else σ) K) ∧ (¬ (bI (σ 1 5 = 0 ∧ cWd σ (jW 1000007))) = 0 → (RK (if σ 1 5 = 0 ∧ cWd σ (jW 1000007) then cTok σ else σ)) ∧ gTv 4 ∧ gE 32 116 [some (.ref 1), some (.ref 32)] [] (gup (cInt (cLkH (if σ 1 5 = 0 ∧ cWd σ (jW 1000007) then cTok σ else σ)) 0 9) 4 5 (cLik (if σ 1 5 = 0 ∧ cWd σ (jW 1000007) then cTok σ else σ))) K))) : gE 32 96 [some (.ref 1), some (.ref 32)] [] σ K :=
  gw_run (cy := 32) (cuts := [13, 25, 36, 53, 76, 96, 116, 156, 179, 202, 237, 256]) (inl := []) (pf := gpds) gpds_ok 400 (by decide) h
set_option maxRecDepth 20000 in
theorem c32_116 {σ : gS} {K : gK} (h : (RK σ) ∧ (((bI (σ 1 5 = 0 ∧ cWd σ (jW 1000008))) = 0 → gE 32 156 [some (.ref 1), some (.ref 32)] [] (if σ 1 5 = 0 ∧ cWd σ (jW 1000008) then cTok σ else σ) K) ∧ (¬ (bI (σ 1 5 = 0 ∧ cWd σ (jW 1000008))) = 0 → (RK (if σ 1 5 = 0 ∧ cWd σ (jW 1000008) then cTok σ else σ) ∧ 0 ≤ (0 : Int32)) ∧ gTv 4 ∧ (RK (gup (cInt (if σ 1 5 = 0 ∧ cWd σ (jW 1000008) then cTok σ else σ) (0 : Int32) (((if σ 1 5 = 0 ∧ cWd σ (jW 1000008) then cTok σ else σ) 32 4) - 1)) 4 6 (cNu (if σ 1 5 = 0 ∧ cWd σ (jW 1000008) then cTok σ else σ))) ∧ 0 ≤ (0 : Int32)) ∧ gTv 4 ∧ gE 32 156 [some (.ref 1), some (.ref 32)] [] (gup (cInt (gup (cInt (if σ 1 5 = 0 ∧ cWd σ (jW 1000008) then cTok σ else σ) (0 : Int32) (((if σ 1 5 = 0 ∧ cWd σ (jW 1000008) then cTok σ else σ) 32 4) - 1)) 4 6 (cNu (if σ 1 5 = 0 ∧ cWd σ (jW 1000008) then cTok σ else σ))) (0 : Int32) (3 : Int32)) 4 7 (cNu (gup (cInt (if σ 1 5 = 0 ∧ cWd σ (jW 1000008) then cTok σ else σ) (0 : Int32) (((if σ 1 5 = 0 ∧ cWd σ (jW 1000008) then cTok σ else σ) 32 4) - 1)) 4 6 (cNu (if σ 1 5 = 0 ∧ cWd σ (jW 1000008) then cTok σ else σ))))) K))) : gE 32 116 [some (.ref 1), some (.ref 32)] [] σ K :=
  gw_run (cy := 32) (cuts := [13, 25, 36, 53, 76, 96, 116, 156, 179, 202, 237, 256]) (inl := []) (pf := gpds) gpds_ok 400 (by decide) h
set_option maxRecDepth 20000 in
theorem c32_156 {σ : gS} {K : gK} (h : (RK σ) ∧ (((bI (σ 1 5 = 0 ∧ cWd σ (jW 1000009))) = 0 → gE 32 179 [some (.ref 1), some (.ref 32)] [] (if σ 1 5 = 0 ∧ cWd σ (jW 1000009) then cTok σ else σ) K) ∧ (¬ (bI (σ 1 5 = 0 ∧ cWd σ (jW 1000009))) = 0 → (RK (if σ 1 5 = 0 ∧ cWd σ (jW 1000009) then cTok σ else σ) ∧ 0 ≤ (0 : Int32)) ∧ gTv 4 ∧ gE 32 179 [some (.ref 1), some (.ref 32)] [] (gup (cInt (if σ 1 5 = 0 ∧ cWd σ (jW 1000009) then cTok σ else σ) (0 : Int32) (99 : Int32)) 4 8 (cNu (if σ 1 5 = 0 ∧ cWd σ (jW 1000009) then cTok σ else σ))) K))) : gE 32 156 [some (.ref 1), some (.ref 32)] [] σ K :=
  gw_run (cy := 32) (cuts := [13, 25, 36, 53, 76, 96, 116, 156, 179, 202, 237, 256]) (inl := []) (pf := gpds) gpds_ok 400 (by decide) h
set_option maxRecDepth 20000 in
theorem c32_179 {σ : gS} {K : gK} (h : (RK σ) ∧ (((bI (σ 1 5 = 0 ∧ cWd σ (jW 1000010))) = 0 → gE 32 202 [some (.ref 1), some (.ref 32)] [] (if σ 1 5 = 0 ∧ cWd σ (jW 1000010) then cTok σ else σ) K) ∧ (¬ (bI (σ 1 5 = 0 ∧ cWd σ (jW 1000010))) = 0 → (RK (if σ 1 5 = 0 ∧ cWd σ (jW 1000010) then cTok σ else σ) ∧ 0 ≤ (1 : Int32)) ∧ gTv 4 ∧ gE 32 202 [some (.ref 1), some (.ref 32)] [] (gup (cInt (if σ 1 5 = 0 ∧ cWd σ (jW 1000010) then cTok σ else σ) (1 : Int32) (99 : Int32)) 4 9 (cNu (if σ 1 5 = 0 ∧ cWd σ (jW 1000010) then cTok σ else σ))) K))) : gE 32 179 [some (.ref 1), some (.ref 32)] [] σ K :=
  gw_run (cy := 32) (cuts := [13, 25, 36, 53, 76, 96, 116, 156, 179, 202, 237, 256]) (inl := []) (pf := gpds) gpds_ok 400 (by decide) h
set_option maxRecDepth 20000 in
theorem c32_202 {σ : gS} {K : gK} (h : (RW σ) ∧ (((bI (cBy (σ 3) (σ 2 1).toNatClampNeg (σ 1 2).toNatClampNeg = (59 : Int32))) = 0 → gE 32 237 [some (.ref 1), some (.ref 32)] [.ref 1] σ K) ∧ (¬ (bI (cBy (σ 3) (σ 2 1).toNatClampNeg (σ 1 2).toNatClampNeg = (59 : Int32))) = 0 → gTv 4 ∧ gTv 4 ∧ (((bI ((σ 4 2) = 1 ∨ cR σ 32 1 ≤ (σ 4 1) / 4)) = 0 → gE 32 237 [some (.ref 1), some (.ref 32)] [.ref 1] σ K) ∧ (¬ (bI ((σ 4 2) = 1 ∨ cR σ 32 1 ≤ (σ 4 1) / 4)) = 0 → (¬ (1 : Int32) = 0 → RD σ) ∧ ((¬ ((cPs σ (1 : Int32)) 1 5) = 0 → gE 32 256 [some (.ref 1), some (.ref 32)] [] (cPs σ (1 : Int32)) K) ∧ (((cPs σ (1 : Int32)) 1 5) = 0 → ((0 ≤ (cPs σ (1 : Int32)) 32 7 ∧ (cPs σ (1 : Int32)) 32 7 < 20) ∧ gTv 4) ∧ gE 32 256 [some (.ref 1), some (.ref 32)] [] (cAdm (cPs σ (1 : Int32)) 32 4) K))))))) : gE 32 202 [some (.ref 1), some (.ref 32)] [] σ K :=
  gw_run (cy := 32) (cuts := [13, 25, 36, 53, 76, 96, 116, 156, 179, 202, 237, 256]) (inl := []) (pf := gpds) gpds_ok 400 (by decide) h
set_option maxRecDepth 20000 in
theorem c32_237 {σ : gS} {K : gK} (h : (¬ (0 : Int32) = 0 → RD σ) ∧ ((¬ ((cPs σ (0 : Int32)) 1 5) = 0 → gE 32 256 [some (.ref 1), some (.ref 32)] [] (cPs σ (0 : Int32)) K) ∧ (((cPs σ (0 : Int32)) 1 5) = 0 → ((0 ≤ (cPs σ (0 : Int32)) 32 7 ∧ (cPs σ (0 : Int32)) 32 7 < 20) ∧ gTv 4) ∧ gE 32 256 [some (.ref 1), some (.ref 32)] [] (cAdm (cPs σ (0 : Int32)) 32 4) K))) : gE 32 237 [some (.ref 1), some (.ref 32)] [.ref 1] σ K :=
  gw_run (cy := 32) (cuts := [13, 25, 36, 53, 76, 96, 116, 156, 179, 202, 237, 256]) (inl := []) (pf := gpds) gpds_ok 400 (by decide) h
set_option maxRecDepth 20000 in
theorem c32_256 {σ : gS} {K : gK} (h : K none σ) : gE 32 256 [some (.ref 1), some (.ref 32)] [] σ K :=
  gw_run (cy := 32) (cuts := [13, 25, 36, 53, 76, 96, 116, 156, 179, 202, 237, 256]) (inl := []) (pf := gpds) gpds_ok 400 (by decide) h
theorem st_53 {σ : gS} {K : gK} (h : RK σ) (hK : gE 32 76 [some (.ref 1), some (.ref 32)] [] (rF σ) K) : gE 32 53 [some (.ref 1), some (.ref 32)] [] σ K := by
  unfold rF at hK
  refine c32_53 ⟨h, fun q => ?_, fun q => ?_⟩
  · have q := bI_0.mp q
    rw [if_neg q] at hK
    rw [if_neg q]
    exact hK
  · have q := rTh_y q
    rw [if_pos q] at hK
    rw [if_pos q]
    exact ⟨⟨cTok_RK (cWd_k h q.2), z01⟩, tv_4, hK⟩
theorem st_76 {σ : gS} {K : gK} (h : RK σ) (hK : gE 32 96 [some (.ref 1), some (.ref 32)] [] (rW σ) K) : gE 32 76 [some (.ref 1), some (.ref 32)] [] σ K := by
  unfold rW at hK
  refine c32_76 ⟨h, fun q => ?_, fun q => ?_⟩
  · have q := bI_0.mp q
    rw [if_neg q] at hK
    rw [if_neg q]
    exact hK
  · have q := rTh_y q
    rw [if_pos q] at hK
    rw [if_pos q]
    exact ⟨cTok_RK (cWd_k h q.2), tv_4, hK⟩
theorem st_96 {σ : gS} {K : gK} (h : RK σ) (hK : gE 32 116 [some (.ref 1), some (.ref 32)] [] (rAh σ) K) : gE 32 96 [some (.ref 1), some (.ref 32)] [] σ K := by
  unfold rAh at hK
  refine c32_96 ⟨h, fun q => ?_, fun q => ?_⟩
  · have q := bI_0.mp q
    rw [if_neg q] at hK
    rw [if_neg q]
    exact hK
  · have q := rTh_y q
    rw [if_pos q] at hK
    rw [if_pos q]
    exact ⟨cTok_RK (cWd_k h q.2), tv_4, hK⟩
theorem st_156 {σ : gS} {K : gK} (h : RK σ) (hK : gE 32 179 [some (.ref 1), some (.ref 32)] [] (rS σ) K) : gE 32 156 [some (.ref 1), some (.ref 32)] [] σ K := by
  unfold rS at hK
  refine c32_156 ⟨h, fun q => ?_, fun q => ?_⟩
  · have q := bI_0.mp q
    rw [if_neg q] at hK
    rw [if_neg q]
    exact hK
  · have q := rTh_y q
    rw [if_pos q] at hK
    rw [if_pos q]
    exact ⟨⟨cTok_RK (cWd_k h q.2), z00⟩, tv_4, hK⟩
theorem st_179 {σ : gS} {K : gK} (h : RK σ) (hK : gE 32 202 [some (.ref 1), some (.ref 32)] [] (rP σ) K) : gE 32 179 [some (.ref 1), some (.ref 32)] [] σ K := by
  unfold rP at hK
  refine c32_179 ⟨h, fun q => ?_, fun q => ?_⟩
  · have q := bI_0.mp q
    rw [if_neg q] at hK
    rw [if_neg q]
    exact hK
  · have q := rTh_y q
    rw [if_pos q] at hK
    rw [if_pos q]
    exact ⟨⟨cTok_RK (cWd_k h q.2), z01⟩, tv_4, hK⟩
theorem st_116 {σ : gS} {K : gK} (h : RK σ) (hK : gE 32 156 [some (.ref 1), some (.ref 32)] [] (rR σ) K) : gE 32 116 [some (.ref 1), some (.ref 32)] [] σ K := by
  unfold rR rR1 at hK
  refine c32_116 ⟨h, fun q => ?_, fun q => ?_⟩
  · have q := bI_0.mp q
    rw [if_neg q] at hK
    rw [if_neg q]
    exact hK
  · have q := rTh_y q
    have e : cTok σ 32 4 = σ 32 4 := cTok_ne (by omega)
    rw [if_pos q] at hK
    rw [if_pos q, e]
    have k1 : RK (cTok σ) := cTok_RK (cWd_k h q.2)
    have k2 : RK (gup (cInt (cTok σ) 0 (σ 32 4 - 1)) 4 6 (cNu (cTok σ))) := RK_4 (cInt_RK k1 z00)
    exact ⟨⟨k1, z00⟩, tv_4, ⟨k2, z00⟩, tv_4, hK⟩
theorem st_0 {σ : gS} {K : gK} (h : RK σ) (hK : gE 32 13 [some (.ref 1), some (.ref 32)] [] (rA σ) K) : gE 32 0 [some (.ref 1), some (.ref 32)] [] σ K :=
  w32 ⟨tv_4, tv_4, RK_cg h (cZr_ne (by decide)) (cZr_ne (by decide)) (cZr_ne (by decide)), hK⟩
theorem st_13 {σ : gS} {K : gK} (h : RK σ) (h7 : 0 ≤ σ 32 7 ∧ σ 32 7 ≤ 20) (hK : gE 32 25 [some (.ref 1), some (.ref 32)] [] (rB σ) K) : gE 32 13 [some (.ref 1), some (.ref 32)] [] σ K :=
  c32_13 ⟨⟨h, h7⟩, tv_4, hK⟩
theorem st_25 {σ : gS} {K : gK} (h : RK σ) (hK : gE 32 36 [some (.ref 1), some (.ref 32)] [] (rC σ) K) : gE 32 25 [some (.ref 1), some (.ref 32)] [] σ K :=
  c32_25 ⟨h, tv_4, hK⟩
