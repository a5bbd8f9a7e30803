/-! THE REFERENCE: words and numbers on the tape -/
abbrev NX (σ : gS) : Prop := RT σ ∧ (0 ≤ σ 323 11 ∧ σ 323 11 ≤ σ 323 8)
theorem NX_n {σ : gS} (h : NX σ) : ∃ L n, σ 323 8 = iN L ∧ σ 323 11 = iN n ∧ L ≤ 1000 ∧ n ≤ L ∧ (σ 323 8).toNatClampNeg = L ∧ (σ 323 11).toNatClampNeg = n := by
  obtain ⟨⟨h1, h2⟩, h3, h4⟩ := h
  obtain ⟨e1, l1⟩ := iN_of h1
  obtain ⟨e2, l2⟩ := iN_of h3
  refine ⟨_, _, e1, e2, ?_, ?_, rfl, rfl⟩
  · rw [e1] at h2; exact (iN_le (m := 1000) l1 (by decide)).mp h2
  · rw [e1, e2] at h4; exact (iN_le l2 l1).mp h4
theorem cKd_3 {w : Int32} : cKd w = 3 ↔ isDg w := by
  unfold cKd isDg
  grind
/-- a run's end -/
noncomputable def rnE (c : Int32) (T : gW) (L S : Nat) : Nat := skp (fun i => decide (cKd (T i) = c)) (L - S) S
theorem rnE_b {c : Int32} {T : gW} {L S : Nat} (h : S ≤ L) : S ≤ rnE c T L S ∧ rnE c T L S ≤ L := by
  have := skp_b (P := fun i => decide (cKd (T i) = c)) (d := L - S) (s := S)
  unfold rnE
  omega
/-- a word's letters as a number -/
noncomputable def wvN (T : gW) (s : Nat) : Nat → Int32
  | 0 => 0
  | k + 1 => 27 * wvN T s k + T (s + k) - 96
noncomputable def hRn (σ : gS) (S j : Nat) (v : Int32) : gS := gup (gup σ 323 14 v) 323 11 (iN (S + j))
theorem hRn_1 {σ : gS} {S j : Nat} {v : Int32} : gup (hRn σ S j v) 323 11 (iN (S + j) + 1) = hRn σ S (j + 1) v := by
  unfold hRn
  rw [gup_tw, iN_one]
  rfl
theorem hRn_2 {σ : gS} {S j : Nat} {v w x : Int32} : gup (gup (hRn σ S j v) 323 14 w) 323 11 x = gup (gup σ 323 14 w) 323 11 x := by
  funext q i
  unfold hRn gup
  grind
theorem hWd_x : ∃ f : gS → gS, ∀ σ, f σ = gup (gup (gup σ 323 14 (wvN (σ 330) (σ 323 11).toNatClampNeg (min (rnE 2 (σ 330) (σ 323 8).toNatClampNeg (σ 323 11).toNatClampNeg - (σ 323 11).toNatClampNeg) 6))) 323 11 (iN (rnE 2 (σ 330) (σ 323 8).toNatClampNeg (σ 323 11).toNatClampNeg))) 323 13 (if 6 < rnE 2 (σ 330) (σ 323 8).toNatClampNeg (σ 323 11).toNatClampNeg - (σ 323 11).toNatClampNeg then 6 else 1) := ⟨fun σ => gup (gup (gup σ 323 14 (wvN (σ 330) (σ 323 11).toNatClampNeg (min (rnE 2 (σ 330) (σ 323 8).toNatClampNeg (σ 323 11).toNatClampNeg - (σ 323 11).toNatClampNeg) 6))) 323 11 (iN (rnE 2 (σ 330) (σ 323 8).toNatClampNeg (σ 323 11).toNatClampNeg))) 323 13 (if 6 < rnE 2 (σ 330) (σ 323 8).toNatClampNeg (σ 323 11).toNatClampNeg - (σ 323 11).toNatClampNeg then 6 else 1), fun _ => rfl⟩
noncomputable def hWd : gS → gS := Classical.choose hWd_x
theorem hWd_e : ∀ σ, hWd σ = gup (gup (gup σ 323 14 (wvN (σ 330) (σ 323 11).toNatClampNeg (min (rnE 2 (σ 330) (σ 323 8).toNatClampNeg (σ 323 11).toNatClampNeg - (σ 323 11).toNatClampNeg) 6))) 323 11 (iN (rnE 2 (σ 330) (σ 323 8).toNatClampNeg (σ 323 11).toNatClampNeg))) 323 13 (if 6 < rnE 2 (σ 330) (σ 323 8).toNatClampNeg (σ 323 11).toNatClampNeg - (σ 323 11).toNatClampNeg then 6 else 1) := Classical.choose_spec hWd_x
theorem hNb_x : ∃ f : gS → gS, ∀ σ, f σ = gup (gup (gup σ 323 14 (nuN (σ 330) (σ 323 11).toNatClampNeg (min (rnE 3 (σ 330) (σ 323 8).toNatClampNeg (σ 323 11).toNatClampNeg - (σ 323 11).toNatClampNeg) 2))) 323 11 (iN (rnE 3 (σ 330) (σ 323 8).toNatClampNeg (σ 323 11).toNatClampNeg))) 323 13 (if 2 < rnE 3 (σ 330) (σ 323 8).toNatClampNeg (σ 323 11).toNatClampNeg - (σ 323 11).toNatClampNeg then 6 else 2) := ⟨fun σ => gup (gup (gup σ 323 14 (nuN (σ 330) (σ 323 11).toNatClampNeg (min (rnE 3 (σ 330) (σ 323 8).toNatClampNeg (σ 323 11).toNatClampNeg - (σ 323 11).toNatClampNeg) 2))) 323 11 (iN (rnE 3 (σ 330) (σ 323 8).toNatClampNeg (σ 323 11).toNatClampNeg))) 323 13 (if 2 < rnE 3 (σ 330) (σ 323 8).toNatClampNeg (σ 323 11).toNatClampNeg - (σ 323 11).toNatClampNeg then 6 else 2), fun _ => rfl⟩
noncomputable def hNb : gS → gS := Classical.choose hNb_x
theorem hNb_e : ∀ σ, hNb σ = gup (gup (gup σ 323 14 (nuN (σ 330) (σ 323 11).toNatClampNeg (min (rnE 3 (σ 330) (σ 323 8).toNatClampNeg (σ 323 11).toNatClampNeg - (σ 323 11).toNatClampNeg) 2))) 323 11 (iN (rnE 3 (σ 330) (σ 323 8).toNatClampNeg (σ 323 11).toNatClampNeg))) 323 13 (if 2 < rnE 3 (σ 330) (σ 323 8).toNatClampNeg (σ 323 11).toNatClampNeg - (σ 323 11).toNatClampNeg then 6 else 2) := Classical.choose_spec hNb_x
noncomputable def f190 : gD := fun Lv σ => match Lv with
  | [some (.ref q0)] => cond (Nat.beq q0 323) (some (some (NX σ ∧ σ 323 12 = σ 323 11 ∧ σ 323 14 = 0), none, hWd σ)) none
  | _ => none
noncomputable def f191 : gD := fun Lv σ => match Lv with
  | [some (.ref q0)] => cond (Nat.beq q0 323) (some (some (NX σ ∧ σ 323 12 = σ 323 11 ∧ σ 323 14 = 0), none, hNb σ)) none
  | _ => none
noncomputable def gpdw_l : List (Nat × gD) := gpdv_l
noncomputable def gpdw : gP := gpl0 gpdw_l
theorem gpdw_ok : gPok gpdw := gpdv_ok
