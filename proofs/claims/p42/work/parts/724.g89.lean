/-! THE REFERENCE: the next token -/
/-- where the reference stands behind a token, the token's number and kind -/
noncomputable def rPl (T : gW) (L S : Nat) : Nat := if S = L then S else if isSm (T S) then rnE 2 T L S else if isDg (T S) then rnE 3 T L S else S + 1
noncomputable def rVa (T : gW) (L S : Nat) : Int32 := if S = L then 0 else if isSm (T S) then wvN T S (min (rPl T L S - S) 6) else if isDg (T S) then nuN T S (min (rPl T L S - S) 2) else 0
noncomputable def rKi (T : gW) (L S : Nat) : Int32 := if S = L then 0 else if isSm (T S) then (if 6 < rPl T L S - S then 6 else 1) else if isDg (T S) then (if 2 < rPl T L S - S then 6 else 2) else if T S = 59 then 3 else if T S = 43 then 4 else if T S = 45 then 5 else 6
noncomputable def rSt (σ : gS) : Nat := tkS (σ 330) (σ 323 8).toNatClampNeg (σ 323 11).toNatClampNeg
noncomputable def rNx4 (σ : gS) (S : Nat) (v k : Int32) (e : Nat) : gS := fun q j => if q = 323 then (if j = 11 then iN e else if j = 12 then iN S else if j = 13 then k else if j = 14 then v else σ 323 j) else σ q j
theorem rNx_x : ∃ f : gS → gS, ∀ σ, f σ = rNx4 σ (rSt σ) (rVa (σ 330) (σ 323 8).toNatClampNeg (rSt σ)) (rKi (σ 330) (σ 323 8).toNatClampNeg (rSt σ)) (rPl (σ 330) (σ 323 8).toNatClampNeg (rSt σ)) := ⟨fun σ => rNx4 σ (rSt σ) (rVa (σ 330) (σ 323 8).toNatClampNeg (rSt σ)) (rKi (σ 330) (σ 323 8).toNatClampNeg (rSt σ)) (rPl (σ 330) (σ 323 8).toNatClampNeg (rSt σ)), fun _ => rfl⟩
noncomputable def rNx : gS → gS := Classical.choose rNx_x
theorem rNx_e : ∀ σ, rNx σ = rNx4 σ (rSt σ) (rVa (σ 330) (σ 323 8).toNatClampNeg (rSt σ)) (rKi (σ 330) (σ 323 8).toNatClampNeg (rSt σ)) (rPl (σ 330) (σ 323 8).toNatClampNeg (rSt σ)) := Classical.choose_spec rNx_x
theorem rN_1 {σ : gS} {S e : Nat} {v k : Int32} (e12 : σ 323 12 = iN S) : gup (gup (gup σ 323 14 v) 323 11 (iN e)) 323 13 k = rNx4 σ S v k e := by
  funext q j
  unfold rNx4 gup
  grind
theorem rN_2 {σ : gS} {S e : Nat} {k : Int32} (e12 : σ 323 12 = iN S) (e14 : σ 323 14 = 0) : gup (gup σ 323 13 k) 323 11 (iN e) = rNx4 σ S 0 k e := by
  funext q j
  unfold rNx4 gup
  grind
theorem rN_3 {σ : gS} {S : Nat} (e11 : σ 323 11 = iN S) (e12 : σ 323 12 = iN S) (e14 : σ 323 14 = 0) : gup σ 323 13 0 = rNx4 σ S 0 0 S := by
  funext q j
  unfold rNx4 gup
  grind
theorem cKd_1 {w : Int32} : cKd w = 1 ↔ (w = 32 ∨ w = 10) := by
  unfold cKd
  grind
theorem rNx4_up {σ : gS} {S e : Nat} {v k x y z : Int32} : rNx4 (gup (gup (gup σ 323 11 x) 323 12 y) 323 14 z) S v k e = rNx4 σ S v k e := by
  funext q j
  unfold rNx4 gup
  grind
noncomputable def f189 : gD := fun Lv σ => match Lv with
  | [some (.ref q0)] => cond (Nat.beq q0 323) (some (some (NX σ), none, rNx σ)) none
  | _ => none
noncomputable def gpdx_l : List (Nat × gD) := gpdw_l
noncomputable def gpdx : gP := gpl0 gpdx_l
theorem gpdx_ok : gPok gpdx := gpdw_ok
