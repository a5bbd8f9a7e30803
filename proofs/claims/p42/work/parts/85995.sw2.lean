/-! THE SETUP'S TEXT, of the row alone: a traveller's name and numbers -/
def nmW (r : Int32) : Nat → Nat → List Int32
  | 0, _ => []
  | d + 1, j => if j < nsz r then (97 + iN (lOf r j) - 1) :: nmW r d (j + 1) else []
theorem nm_z {c r : Int32} (h : nmR c r) {j : Nat} (hj : j < 5) : (0 < (c >>> ((5 * iN j) &&& 31)) &&& 31 ↔ j < nsz r) ∧ (j < nsz r → (c >>> ((5 * iN j) &&& 31)) &&& 31 = iN (lOf r j)) := by
  have h5 := (nmR_b h).2.2
  have e := nm_let h (k := j) (by omega)
  obtain ⟨q, hq, eq⟩ := and_n (c >>> ((5 * iN j) &&& 31)) 31 (by decide)
  have eq : (c >>> ((5 * iN j) &&& 31)) &&& 31 = iN q := eq
  rw [eq] at e ⊢
  have l5 : iN j < 5 := (iN_lt (m := 5) (by omega) (by decide)).mpr hj
  have n2 : ¬ iN q = -2 := iN_ne (by omega)
  have b27 : lOf r j < 27 := by
    unfold lOf
    exact Nat.mod_lt _ (by decide)
  by_cases z : j < nsz r
  · rw [if_pos ((iN_lt (by omega) (by omega)).mpr z)] at e
    by_cases y : iN q = 0
    · rw [if_neg (fun x => x.2 y)] at e
      exact absurd e.symm (iN_ne (by omega))
    · rw [if_pos ⟨l5, y⟩] at e
      have q0 : ¬ q = 0 := fun x => y (by rw [x]; rfl)
      exact ⟨⟨fun _ => z, fun _ => (iN_lt (k := 0) (by decide) (by omega)).mpr (by omega)⟩, fun _ => e⟩
  · rw [if_neg (fun x => z ((iN_lt (by omega) (by omega)).mp x))] at e
    by_cases y : iN q = 0
    · rw [y]
      exact ⟨⟨fun x => absurd x (by decide), fun x => absurd x z⟩, fun x => absurd x z⟩
    · rw [if_pos ⟨l5, y⟩] at e
      exact absurd e n2
theorem nmL_W {c r : Int32} (h : nmR c r) : ∀ (d j : Nat), j + d ≤ 5 → nmL c d j = nmW r d j
  | 0, _, _ => rfl
  | d + 1, j, hj => by
    obtain ⟨a, b⟩ := nm_z h (j := j) (by omega)
    unfold nmL nmW
    by_cases z : j < nsz r
    · rw [if_pos (a.mpr z), if_pos z, b z, nmL_W h d (j + 1) (by omega)]
    · rw [if_neg (fun y => z (a.mp y)), if_neg z]
/-- a traveller's line, of the row -/
noncomputable def gRw (R : gW) (t : Nat) : List Int32 := oT 12 ++ (numL (fld R t 0) ++ ([32] ++ (nmW (fld R t 9) 5 0 ++ g55 (fun f => fld R t (f - 1)))))
noncomputable def gRs (R : gW) : Nat → Nat → List Int32
  | 0, _ => []
  | d + 1, t => gRw R t ++ gRs R d (t + 1)
noncomputable def suT (R : gW) : List Int32 := oT 10 ++ (numL (R 0) ++ (oT 11 ++ (numL (R 1) ++ ([59] ++ gRs R (nM R) 0))))
theorem g55_cg {o u : Nat → Int32} (h : ∀ f, 2 ≤ f → f ≤ 9 → o f = u f) : g55 o = g55 u := by
  unfold g55 g69 g80 g90 g100 g142 g153
  rw [h 2 (by decide) (by decide), h 3 (by decide) (by decide), h 4 (by decide) (by decide), h 5 (by decide) (by decide), h 6 (by decide) (by decide), h 7 (by decide) (by decide), h 8 (by decide) (by decide), h 9 (by decide) (by decide)]
theorem g35_R {σ : gS} {R : gW} (s : SV σ 6 R) {t : Nat} (ht : t < nM R) : g35 (σ (6 + 2 + t)) = gRw R t := by
  obtain ⟨⟨a1, a2⟩, tc, lr, nm⟩ := s
  have n20 : nM (cR σ 6) = nM R := by
    unfold nM
    rw [a1 3 (by decide)]
  have l20 : nM R ≤ 20 := by
    rw [← n20]
    exact (nM_of tc.1).2
  have ef : ∀ f, f < 9 → σ (6 + 2 + t) (f + 1) = fld R t f := by
    intro f hf
    rw [← a2 t (by rw [n20]; exact ht) f hf]
    show _ = cR σ 6 (9 + 10 * t + f)
    unfold cR
    rw [if_neg (by omega), if_pos (by omega), if_pos (by omega), show (9 + 10 * t + f - 9) / 10 = t by omega, show (9 + 10 * t + f - 9) % 10 = f by omega]
  unfold g35 gRw
  rw [show σ (6 + 2 + t) 1 = fld R t 0 from ef 0 (by decide), nmL_W (nm t ht) 5 0 (by decide), g55_cg (o := σ (6 + 2 + t)) (u := fun f => fld R t (f - 1)) (fun f h2 h9 => by
    have := ef (f - 1) (by omega)
    rw [show f - 1 + 1 = f by omega] at this
    exact this)]
  rfl
theorem stX_R {σ : gS} {R : gW} (s : SV σ 6 R) : stX σ = suT R := by
  have hl : ∀ d t, t + d ≤ nM R → gLn σ d t = gRs R d t := by
    intro d
    induction d with
    | zero => exact fun _ _ => rfl
    | succ d ih =>
      intro t ht
      show g35 (σ (6 + 2 + t)) ++ gLn σ d (t + 1) = gRw R t ++ gRs R d (t + 1)
      rw [g35_R s (by omega), ih (t + 1) (by omega)]
  have e : ∀ j, j < 9 → σ 6 (j + 4) = R j := by
    intro j hj
    rw [← s.1.1 j hj]
    show _ = cR σ 6 j
    unfold cR
    rw [if_pos hj]
  unfold stX gSe suT
  rw [show σ 6 4 = R 0 from e 0 (by decide), show σ 6 5 = R 1 from e 1 (by decide), show σ 6 7 = R 3 from e 3 (by decide)]
  rw [hl _ 0 (by rw [Nat.zero_add]; exact Nat.le_refl _)]
  rfl
theorem xr_slen {n : Nat} {ρ : gS} : XR 145 [some (.ref 0)] n ρ (iN (suT (ρ 324)).length) n ρ := fun hn σ h q => by
  have h0 := h
  obtain ⟨B, b1, b2, g, tb⟩ := h
  have s3 := SV_3 g.1
  refine s145x (by rw [s3.2.2]; exact s3.1) ⟨by rw [stX_R g.1, q.2.1], _, fun a ha => rfl, (GI_uw h0 wz5_u).1, q.hi (fun a ha => ?_)⟩
  exact wz5_u a (by omega)
theorem xr_sbyte {n p : Nat} {ρ : gS} (hp : p < (suT (ρ 324)).length) (hl : (suT (ρ 324)).length < 2147483648) : XR 146 [some (.ref 0), some (.int (iN p))] n ρ ((suT (ρ 324)).getD p 0) n ρ := fun hn σ h q => by
  have h0 := h
  obtain ⟨B, b1, b2, g, tb⟩ := h
  have s3 := SV_3 g.1
  have e : stX σ = suT (ρ 324) := by rw [stX_R g.1, q.2.1]
  refine s146x (p := p) (by rw [s3.2.2]; exact s3.1) (by rw [e]; exact hp) (by rw [e]; exact hl) ⟨by rw [e], _, fun a ha => rfl, (GI_uw h0 wz5_u).1, q.hi (fun a ha => ?_)⟩
  exact wz5_u a (by omega)
