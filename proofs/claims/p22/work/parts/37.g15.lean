-- text 15
/-! THE REFERENCE: the log, what is kept for undo -/
def lsh (R : gW) (k : Nat) : gW := fun j => if 210 ≤ j ∧ j < 210 + k then R (j + 3) else R j
theorem lsh_0 (R : gW) : lsh R 0 = R := by funext j; unfold lsh; rw [if_neg (by omega)]
theorem lsh_s (R : gW) (k : Nat) : rup (lsh R k) (210 + k) (lsh R k (210 + k + 3)) = lsh R (k + 1) := by
  funext j
  unfold rup lsh
  by_cases h : j = 210 + k
  · rw [if_pos h, if_neg (by omega), if_pos (by omega), h]
  · rw [if_neg h]
    by_cases h2 : 210 ≤ j ∧ j < 210 + k
    · rw [if_pos h2, if_pos (by omega)]
    · rw [if_neg h2, if_neg (by omega)]
/-- an entry behind the last -/
def fTe0 (R : gW) (w a b : Int32) : gW := rup (rup (rup (rup R (210 + 3 * (R 209).toNatClampNeg) w) (210 + 3 * (R 209).toNatClampNeg + 1) a) (210 + 3 * (R 209).toNatClampNeg + 2) b) 209 (R 209 + 1)
def fTe (R : gW) (w a b : Int32) : gW := if R 209 = 40 then fTe0 (rup (lsh R 117) 209 39) w a b else fTe0 R w a b
theorem ix_l {s : Nat} (hs : s < 40) : ((210 + 3 * iN s : Int32).toNatClampNeg = 210 + 3 * s ∧ (210 + 3 * iN s + 1 : Int32).toNatClampNeg = 210 + 3 * s + 1 ∧ (210 + 3 * iN s + 2 : Int32).toNatClampNeg = 210 + 3 * s + 2) ∧ (0 ≤ 210 + 3 * iN s ∧ 210 + 3 * iN s < 330) ∧ (0 ≤ 210 + 3 * iN s + 1 ∧ 210 + 3 * iN s + 1 < 330) ∧ (0 ≤ 210 + 3 * iN s + 2 ∧ 210 + 3 * iN s + 2 < 330) := by
  have e0 : (210 + 3 * iN s : Int32) = iN (210 + 3 * s) := by
    show iN 210 + iN 3 * iN s = _
    rw [iN_mul, iN_add]
  have e1 : (210 + 3 * iN s + 1 : Int32) = iN (210 + 3 * s + 1) := by rw [e0, iN_one]
  have e2 : (210 + 3 * iN s + 2 : Int32) = iN (210 + 3 * s + 2) := by rw [e0]; exact iN_add _ 2
  rw [e1, e2, e0, iN_nat (by omega), iN_nat (by omega), iN_nat (by omega)]
  have lo : ∀ k, k < 330 → 0 ≤ iN k ∧ iN k < 330 := fun k hk => ⟨(iN_le (k := 0) (by decide) (by omega)).mpr (by omega), (iN_lt (m := 330) (by omega) (by decide)).mpr hk⟩
  exact ⟨⟨rfl, rfl, rfl⟩, lo _ (by omega), lo _ (by omega), lo _ (by omega)⟩
theorem i330 {k : Nat} (hk : k < 330) : (0 : Int32) ≤ iN k ∧ iN k < 330 := ⟨(iN_le (k := 0) (by decide) (by omega)).mpr (by omega), (iN_lt (m := 330) (by omega) (by decide)).mpr hk⟩
set_option maxRecDepth 20000 in
theorem w204 {σ : gS} {K : gK} {w a b : Int32} (h : (0 ≤ (209 : Int32) ∧ (209 : Int32) < 330) ∧ ((¬ (σ 324 209) = 40 → gE 204 65 [some (.ref 323), some (.int w), some (.int a), some (.int b), none] [] σ K) ∧ ((σ 324 209) = 40 → gE 204 16 [some (.ref 323), some (.int w), some (.int a), some (.int b), some (.int 0)] [] σ K))) : gE 204 0 [some (.ref 323), some (.int w), some (.int a), some (.int b), none] [] σ K :=
  gw_run (cy := 204) (cuts := [16, 65]) (inl := []) (pf := gpfL) gpfL_ok 400 (by decide) h
set_option maxRecDepth 20000 in
theorem v204 {σ : gS} {K : gK} {w a b k : Int32} (h : ((¬ k < 117 → (0 ≤ (209 : Int32) ∧ (209 : Int32) < 330) ∧ (0 ≤ (209 : Int32) ∧ (209 : Int32) < 330) ∧ gE 204 65 [some (.ref 323), some (.int w), some (.int a), some (.int b), some (.int k)] [] (gup σ 324 209 ((σ 324 209) - 1)) K) ∧ (k < 117 → (0 ≤ ((210 + k) + 3) ∧ ((210 + k) + 3) < 330) ∧ (0 ≤ (210 + k) ∧ (210 + k) < 330) ∧ gE 204 16 [some (.ref 323), some (.int w), some (.int a), some (.int b), some (.int (k + 1))] [] (gup σ 324 (210 + k).toNatClampNeg (σ 324 ((210 + k) + 3).toNatClampNeg)) K))) : gE 204 16 [some (.ref 323), some (.int w), some (.int a), some (.int b), some (.int k)] [] σ K :=
  gw_run (cy := 204) (cuts := [16, 65]) (inl := []) (pf := gpfL) gpfL_ok 400 (by decide) h
set_option maxRecDepth 20000 in
theorem x204 {σ : gS} {K : gK} {w a b : Int32} {u : Option Value} (h : (0 ≤ (209 : Int32) ∧ (209 : Int32) < 330) ∧ (0 ≤ (210 + (3 * (σ 324 209))) ∧ (210 + (3 * (σ 324 209))) < 330) ∧ (0 ≤ ((210 + (3 * (σ 324 209))) + 1) ∧ ((210 + (3 * (σ 324 209))) + 1) < 330) ∧ (0 ≤ ((210 + (3 * (σ 324 209))) + 2) ∧ ((210 + (3 * (σ 324 209))) + 2) < 330) ∧ (0 ≤ (209 : Int32) ∧ (209 : Int32) < 330) ∧ (0 ≤ (209 : Int32) ∧ (209 : Int32) < 330) ∧ K none (gup (gup (gup (gup σ 324 (210 + (3 * (σ 324 209))).toNatClampNeg w) 324 ((210 + (3 * (σ 324 209))) + 1).toNatClampNeg a) 324 ((210 + (3 * (σ 324 209))) + 2).toNatClampNeg b) 324 209 (((gup (gup (gup σ 324 (210 + (3 * (σ 324 209))).toNatClampNeg w) 324 ((210 + (3 * (σ 324 209))) + 1).toNatClampNeg a) 324 ((210 + (3 * (σ 324 209))) + 2).toNatClampNeg b) 324 209) + 1))) : gE 204 65 [some (.ref 323), some (.int w), some (.int a), some (.int b), u] [] σ K :=
  gw_run (cy := 204) (cuts := [16]) (inl := []) (pf := gpfL) gpfL_ok 400 (by decide) h
theorem y204 {σ : gS} {K : gK} {w a b : Int32} (u : Option Value) (hc : 0 ≤ σ 324 209 ∧ σ 324 209 ≤ 39) (hK : K none (grow σ 324 (fTe0 (σ 324) w a b))) : gE 204 65 [some (.ref 323), some (.int w), some (.int a), some (.int b), u] [] σ K := by
  obtain ⟨e, l⟩ := iN_of hc.1
  obtain ⟨s, hs⟩ : ∃ s, (σ 324 209).toNatClampNeg = s := ⟨_, rfl⟩
  rw [hs] at e l
  have ls : s ≤ 39 := by
    have h := hc.2
    rw [e] at h
    exact (iN_le l (by decide)).mp h
  obtain ⟨⟨x0, x1, x2⟩, b0, b1, b2⟩ := ix_l (s := s) (by omega)
  refine x204 ?_
  unfold fTe0 at hK
  simp only [gup_grow, grow_grow, grow_at]
  rw [e] at hK ⊢
  rw [x0, x1, x2]
  rw [iN_nat l] at hK
  refine ⟨by decide, b0, b1, b2, by decide, by decide, ?_⟩
  rw [rup_ne (by omega), rup_ne (by omega), rup_ne (by omega), e]
  exact hK
theorem s204 {σ : gS} {K : gK} {w a b : Int32} (hc : 0 ≤ σ 324 209 ∧ σ 324 209 ≤ 40) (hK : K none (grow σ 324 (fTe (σ 324) w a b))) : gE 204 0 [some (.ref 323), some (.int w), some (.int a), some (.int b), none] [] σ K := by
  by_cases h40 : σ 324 209 = 40
  · have e : fTe (σ 324) w a b = fTe0 (rup (lsh (σ 324) 117) 209 39) w a b := if_pos h40
    rw [e] at hK
    refine w204 ⟨by decide, fun h => absurd h40 h, fun _ => ?_⟩
    have main := g_forI (y := 204) (pc := 16) (K := K) 117 (fun k => [some (.ref 323), some (.int w), some (.int a), some (.int b), some (.int (iN k))]) (fun k => grow σ 324 (lsh (σ 324) k)) (fun _ => True) (fun _ => by
      refine v204 ⟨fun _ => ⟨by decide, by decide, ?_⟩, fun h => absurd h (by decide)⟩
      have e9 : lsh (σ 324) 117 209 = 40 := by unfold lsh; rw [if_neg (by omega)]; exact h40
      have e39 : (40 - 1 : Int32) = 39 := by decide
      rw [grow_at, e9, e39, gup_grow, grow_grow, grow_at]
      refine y204 _ ?_ ?_
      · rw [grow_at, rup_at]; decide
      · rw [grow_grow, grow_at]; exact hK) (fun k hk _ ih => by
      have ex : (210 + iN k : Int32) = iN (210 + k) := iN_add 210 k
      have ex3 : (210 + iN k + 3 : Int32) = iN (210 + k + 3) := by rw [ex]; exact iN_add _ 3
      have ih := ih trivial
      refine v204 ⟨fun h => absurd ((iN_lt (m := 117) (by omega) (by decide)).mpr hk) h, fun _ => ?_⟩
      rw [ex3, ex, iN_nat (by omega), iN_nat (by omega), iN_one, gup_grow, grow_grow, grow_at, lsh_s]
      exact ⟨i330 (by omega), i330 (by omega), ih⟩) 0 (Nat.zero_le _) trivial
    rw [lsh_0, grow_id] at main
    exact main
  · have e : fTe (σ 324) w a b = fTe0 (σ 324) w a b := if_neg h40
    rw [e] at hK
    refine w204 ⟨by decide, fun _ => ?_, fun h => absurd h h40⟩
    refine y204 _ ⟨hc.1, ?_⟩ hK
    have h2 := hc.2
    grind
noncomputable def f204 : gD := fun Lv σ => match Lv with
  | [some (.ref q0), some (.int w), some (.int a), some (.int b), none] => cond (Nat.beq q0 323) (some (some (0 ≤ σ 324 209 ∧ σ 324 209 ≤ 40), none, grow σ 324 (fTe (σ 324) w a b))) none
  | _ => none
theorem ok204 : gFok 204 f204 := by
  intro Lv σ q h hc K hK
  unfold f204 at h
  split at h
  · rename_i q0 w a b
    obtain ⟨hb, h⟩ := c_no h
    have hb0 := hb
    have e0 := b_eq hb0
    subst e0
    cases h
    exact s204 (hc _ rfl) hK
  · cases h
/-- the first m rows of 330 dropped by one -/
def esh (E : gW) (m : Nat) : gW := fun j => if j < 330 * m then E (j + 330) else E j
theorem esh_0 (E : gW) : esh E 0 = E := by funext j; unfold esh; rw [if_neg (by omega)]
theorem esh_s (E : gW) (m : Nat) : rla (esh E m) (esh E m) (330 * (m + 1)) (330 * m) 330 = esh E (m + 1) := by
  funext j
  unfold rla esh
  by_cases h : 330 * m ≤ j ∧ j < 330 * m + 330
  · rw [if_pos h, if_neg (by omega), if_pos (by omega), show 330 * (m + 1) + (j - 330 * m) = j + 330 by omega]
  · rw [if_neg h]
    by_cases h2 : j < 330 * m
    · rw [if_pos h2, if_pos (by omega)]
    · rw [if_neg h2, if_neg (by omega)]
/-- how many rows are kept, and the rows, behind one more -/
def fKu (u : Int32) : Int32 := if u = 8 then 8 else u + 1
def fKe (N E : gW) (u : Int32) : gW := if u = 8 then rla N (esh E 7) 0 2310 330 else rla N E 0 (330 * u.toNatClampNeg) 330
def hKe (σ : gS) : gS := grow (grow σ 327 (fKe (σ 324) (σ 327) (σ 323 6))) 323 (rup (σ 323) 6 (fKu (σ 323 6)))
set_option maxRecDepth 20000 in
theorem w205 {σ : gS} {K : gK} (h : ((¬ (σ 323 6) = 8 → ((0 ≤ (0 : Int32) ∧ (0 : Int32) ≤ iN (gln 324 - 330)) ∧ (0 ≤ (330 * (σ 323 6)) ∧ (330 * (σ 323 6)) ≤ iN (gln 327 - 330)) ∧ (324 = 327 → (330 * (σ 323 6)).toNatClampNeg + 330 ≤ (0 : Int32).toNatClampNeg)) ∧ K none (gup (grow σ 327 (rla (σ 324) (σ 327) (0 : Int32).toNatClampNeg (330 * (σ 323 6)).toNatClampNeg 330)) 323 6 (((grow σ 327 (rla (σ 324) (σ 327) (0 : Int32).toNatClampNeg (330 * (σ 323 6)).toNatClampNeg 330)) 323 6) + 1))) ∧ ((σ 323 6) = 8 → gE 205 11 [some (.ref 323), some (.int 1)] [] σ K))) : gE 205 0 [some (.ref 323), none] [] σ K :=
  gw_run (cy := 205) (cuts := [11]) (inl := []) (pf := gpfL) gpfL_ok 400 (by decide) h
set_option maxRecDepth 20000 in
theorem v205 {σ : gS} {K : gK} {k : Int32} (h : ((¬ k < 8 → ((0 ≤ (0 : Int32) ∧ (0 : Int32) ≤ iN (gln 324 - 330)) ∧ (0 ≤ (330 * ((gup σ 323 6 ((σ 323 6) - 1)) 323 6)) ∧ (330 * ((gup σ 323 6 ((σ 323 6) - 1)) 323 6)) ≤ iN (gln 327 - 330)) ∧ (324 = 327 → (330 * ((gup σ 323 6 ((σ 323 6) - 1)) 323 6)).toNatClampNeg + 330 ≤ (0 : Int32).toNatClampNeg)) ∧ K none (gup (grow (gup σ 323 6 ((σ 323 6) - 1)) 327 (rla ((gup σ 323 6 ((σ 323 6) - 1)) 324) ((gup σ 323 6 ((σ 323 6) - 1)) 327) (0 : Int32).toNatClampNeg (330 * ((gup σ 323 6 ((σ 323 6) - 1)) 323 6)).toNatClampNeg 330)) 323 6 (((grow (gup σ 323 6 ((σ 323 6) - 1)) 327 (rla ((gup σ 323 6 ((σ 323 6) - 1)) 324) ((gup σ 323 6 ((σ 323 6) - 1)) 327) (0 : Int32).toNatClampNeg (330 * ((gup σ 323 6 ((σ 323 6) - 1)) 323 6)).toNatClampNeg 330)) 323 6) + 1))) ∧ (k < 8 → ((0 ≤ (330 * k) ∧ (330 * k) ≤ iN (gln 327 - 330)) ∧ (0 ≤ (330 * (k - 1)) ∧ (330 * (k - 1)) ≤ iN (gln 327 - 330)) ∧ (327 = 327 → (330 * (k - 1)).toNatClampNeg + 330 ≤ (330 * k).toNatClampNeg)) ∧ gE 205 11 [some (.ref 323), some (.int (k + 1))] [] (grow σ 327 (rla (σ 327) (σ 327) (330 * k).toNatClampNeg (330 * (k - 1)).toNatClampNeg 330)) K))) : gE 205 11 [some (.ref 323), some (.int k)] [] σ K :=
  gw_run (cy := 205) (cuts := [11]) (inl := []) (pf := gpfL) gpfL_ok 400 (by decide) h
theorem s205 {σ : gS} {K : gK} (hc : 0 ≤ σ 323 6 ∧ σ 323 6 ≤ 8) (hK : K none (hKe σ)) : gE 205 0 [some (.ref 323), none] [] σ K := by
  have z0 : (0 : Int32).toNatClampNeg = 0 := by decide
  unfold hKe at hK
  by_cases h8 : σ 323 6 = 8
  · have e1 : fKe (σ 324) (σ 327) (σ 323 6) = rla (σ 324) (esh (σ 327) 7) 0 2310 330 := if_pos h8
    have e2 : fKu (σ 323 6) = 8 := if_pos h8
    rw [e1, e2] at hK
    refine w205 ⟨fun h => absurd h8 h, fun _ => ?_⟩
    have main := g_forI (y := 205) (pc := 11) (K := K) 7 (fun k => [some (.ref 323), some (.int (iN (k + 1)))]) (fun k => grow σ 327 (esh (σ 327) k)) (fun _ => True) (fun _ => by
      refine v205 ⟨fun _ => ?_, fun h => absurd h (by decide)⟩
      have e7 : (8 - 1 : Int32) = 7 := by decide
      have e8 : (7 + 1 : Int32) = 8 := by decide
      have n0 : grow σ 327 (esh (σ 327) 7) 323 6 = 8 := by rw [grow_ne (by decide)]; exact h8
      rw [n0, e7]
      simp (disch := decide) only [gup_grow, grow_grow, grow_at, grow_ne, rup_at]
      have em : (330 * 7 : Int32).toNatClampNeg = 2310 := by decide
      rw [z0, em, e8]
      refine ⟨⟨by decide, by decide, fun h => absurd h (by decide)⟩, ?_⟩
      have ee : grow (grow (grow (grow σ 327 (esh (σ 327) 7)) 323 (rup (σ 323) 6 7)) 327 (rla (σ 324) (esh (σ 327) 7) 0 2310 330)) 323 (rup (rup (σ 323) 6 7) 6 8) = grow (grow σ 327 (rla (σ 324) (esh (σ 327) 7) 0 2310 330)) 323 (rup (σ 323) 6 8) := by
        funext b j
        unfold grow rup
        grind
      rw [ee]
      exact hK) (fun k hk _ ih => by
      have ih := ih trivial
      have ek : (iN (k + 1) - 1 : Int32) = iN k := iN_sub (d := 1) (by omega) (by omega)
      have m1 : (330 * iN (k + 1) : Int32) = iN (330 * (k + 1)) := iN_mul 330 _
      have m0 : (330 * iN k : Int32) = iN (330 * k) := iN_mul 330 _
      refine v205 ⟨fun h => absurd ((iN_lt (m := 8) (by omega) (by decide)).mpr (by omega)) h, fun _ => ?_⟩
      rw [ek, m1, m0, iN_nat (by omega), iN_nat (by omega), iN_one, grow_grow, grow_at, esh_s]
      have b : ∀ n, n ≤ 2310 → (0 : Int32) ≤ iN n ∧ iN n ≤ iN (gln 327 - 330) := fun n hn => by
        show (0 : Int32) ≤ iN n ∧ iN n ≤ iN 2310
        exact ⟨(iN_le (k := 0) (by decide) (by omega)).mpr (by omega), (iN_le (by omega) (by decide)).mpr hn⟩
      exact ⟨⟨b _ (by omega), b _ (by omega), fun _ => by omega⟩, ih⟩) 0 (Nat.zero_le _) trivial
    rw [esh_0, grow_id] at main
    exact main
  · have e1 : fKe (σ 324) (σ 327) (σ 323 6) = rla (σ 324) (σ 327) 0 (330 * (σ 323 6).toNatClampNeg) 330 := if_neg h8
    have e2 : fKu (σ 323 6) = σ 323 6 + 1 := if_neg h8
    rw [e1, e2] at hK
    obtain ⟨e, l⟩ := iN_of hc.1
    obtain ⟨u, hu⟩ : ∃ u, (σ 323 6).toNatClampNeg = u := ⟨_, rfl⟩
    rw [hu] at e l hK
    have lu : u ≤ 7 := by
      have h := hc.2
      rw [e] at h h8
      have h := (iN_le l (by decide : (8 : Nat) < 2147483648)).mp h
      have : u ≠ 8 := fun q => h8 (by rw [q]; rfl)
      omega
    have m0 : (330 * iN u : Int32) = iN (330 * u) := iN_mul 330 _
    refine w205 ⟨fun _ => ?_, fun h => absurd h h8⟩
    rw [gup_grow, grow_ne (by decide), e, m0, iN_nat (by omega), z0]
    rw [e] at hK
    refine ⟨⟨by decide, ?_, fun h => absurd h (by decide)⟩, hK⟩
    show (0 : Int32) ≤ iN (330 * u) ∧ iN (330 * u) ≤ iN 2310
    exact ⟨(iN_le (k := 0) (by decide) (by omega)).mpr (by omega), (iN_le (by omega) (by decide)).mpr (by omega)⟩
noncomputable def f205 : gD := fun Lv σ => match Lv with
  | [some (.ref q0), none] => cond (Nat.beq q0 323) (some (some (0 ≤ σ 323 6 ∧ σ 323 6 ≤ 8), none, hKe σ)) none
  | _ => none
theorem ok205 : gFok 205 f205 := by
  intro Lv σ q h hc K hK
  unfold f205 at h
  split at h
  · rename_i q0
    obtain ⟨hb, h⟩ := c_no h
    have hb0 := hb
    have e0 := b_eq hb0
    subst e0
    cases h
    exact s205 (hc _ rfl) hK
  · cases h
noncomputable def gpfM_l : List (Nat × gD) := (204, f204) :: (205, f205) :: gpfL_l
noncomputable def gpfM : gP := gpl0 gpfM_l
theorem gpfM_ok : gPok gpfM := gpl0_cons ok204 (gpl0_cons ok205 (gpfL_ok))
-- text 16
/-! THE REFERENCE: its calls, first part -/
theorem hKe_324 (σ : gS) : hKe σ 324 = σ 324 := by unfold hKe; rw [grow_ne (by decide), grow_ne (by decide)]
theorem hKe_6 (σ : gS) : hKe σ 323 = rup (σ 323) 6 (fKu (σ 323 6)) := by unfold hKe; rw [grow_at]
/-- a row's bounds that the reference stands on -/
abbrev bN (R : gW) : Prop := (0 ≤ R 3 ∧ R 3 ≤ 20) ∧ (0 ≤ R 209 ∧ R 209 ≤ 40)
abbrev RS (σ : gS) : Prop := bN (σ 324) ∧ (0 ≤ σ 323 6 ∧ σ 323 6 ≤ 8)
/-- a call that goes through is kept for undo -/
def hOp (σ : gS) (g : Prop) [Decidable g] (n : gW) : gS := if g then grow (hKe σ) 324 n else σ
abbrev isT (R : gW) (t : Int32) : Prop := 0 ≤ t ∧ t ≤ R 3 - 1
abbrev isS (R : gW) (x : Int32) : Prop := 0 ≤ x ∧ x ≤ 4 * R 0 - 1
abbrev isP (R : gW) (a b : Int32) : Prop := (isT R a ∧ isT R b) ∧ ¬ a = b
theorem isT_of {R : gW} {t : Int32} (hc : 0 ≤ R 3 ∧ R 3 ≤ 20) (h : isT R t) : 0 ≤ t ∧ t < 20 := by
  obtain ⟨h1, h2⟩ := h
  exact ⟨h1, by grind⟩
theorem isP_of {R : gW} {a b : Int32} (hc : 0 ≤ R 3 ∧ R 3 ≤ 20) (h : isP R a b) : (0 ≤ a ∧ a < 20) ∧ (0 ≤ b ∧ b < 20) := ⟨isT_of hc h.1.1, isT_of hc h.1.2⟩
theorem nn_ne {a b : Int32} (ha : 0 ≤ a ∧ a < 20) (hb : 0 ≤ b ∧ b < 20) (h : ¬ a = b) : a.toNatClampNeg ≠ b.toNatClampNeg := by
  intro e
  rw [(t20 ha).1, (t20 hb).1, e] at h
  exact h rfl
set_option maxRecDepth 20000 in
theorem w156 {σ : gS} {K : gK} {t : Int32} (h : (0 ≤ (3 : Int32) ∧ (3 : Int32) < 330) ∧ ((bI ((0 : Int32) ≤ t ∧ t ≤ ((σ 324 3) - 1))) = 0 ∨ (bI ((0 : Int32) ≤ t ∧ t ≤ ((σ 324 3) - 1))) = 1) ∧ K (some (.int (bI ((0 : Int32) ≤ t ∧ t ≤ ((σ 324 3) - 1))))) σ) : gE 156 0 [some (.ref 323), some (.int t)] [] σ K :=
  gw_run (cy := 156) (cuts := []) (inl := []) (pf := gpfM) gpfM_ok 400 (by decide) h
theorem s156 {σ : gS} {K : gK} {t : Int32} (hK : K (some (.int (bI (isT (σ 324) t)))) σ) : gE 156 0 [some (.ref 323), some (.int t)] [] σ K := by
  exact w156 ⟨by decide, bI_01, hK⟩
noncomputable def f156 : gD := fun Lv σ => match Lv with
  | [some (.ref q0), some (.int t)] => cond (Nat.beq q0 323) (some (none, some (.int (bI (isT (σ 324) t))), σ)) none
  | _ => none
theorem ok156 : gFok 156 f156 := by
  intro Lv σ q h hc K hK
  unfold f156 at h
  split at h
  · rename_i q0 t
    obtain ⟨hb, h⟩ := c_no h
    have hb0 := hb
    have e0 := b_eq hb0
    subst e0
    cases h
    exact s156 hK
  · cases h
set_option maxRecDepth 20000 in
theorem w157 {σ : gS} {K : gK} {x : Int32} (h : (0 ≤ (0 : Int32) ∧ (0 : Int32) < 330) ∧ ((bI ((0 : Int32) ≤ x ∧ x ≤ ((4 * (σ 324 0)) - 1))) = 0 ∨ (bI ((0 : Int32) ≤ x ∧ x ≤ ((4 * (σ 324 0)) - 1))) = 1) ∧ K (some (.int (bI ((0 : Int32) ≤ x ∧ x ≤ ((4 * (σ 324 0)) - 1))))) σ) : gE 157 0 [some (.ref 323), some (.int x)] [] σ K :=
  gw_run (cy := 157) (cuts := []) (inl := []) (pf := gpfM) gpfM_ok 400 (by decide) h
theorem s157 {σ : gS} {K : gK} {x : Int32} (hK : K (some (.int (bI (isS (σ 324) x)))) σ) : gE 157 0 [some (.ref 323), some (.int x)] [] σ K := by
  exact w157 ⟨by decide, bI_01, hK⟩
noncomputable def f157 : gD := fun Lv σ => match Lv with
  | [some (.ref q0), some (.int x)] => cond (Nat.beq q0 323) (some (none, some (.int (bI (isS (σ 324) x))), σ)) none
  | _ => none
theorem ok157 : gFok 157 f157 := by
  intro Lv σ q h hc K hK
  unfold f157 at h
  split at h
  · rename_i q0 x
    obtain ⟨hb, h⟩ := c_no h
    have hb0 := hb
    have e0 := b_eq hb0
    subst e0
    cases h
    exact s157 hK
  · cases h
set_option maxRecDepth 20000 in
theorem w159 {σ : gS} {K : gK} {x : Int32} (h : ((bI ((0 : Int32) ≤ x ∧ x ≤ (9 : Int32))) = 0 ∨ (bI ((0 : Int32) ≤ x ∧ x ≤ (9 : Int32))) = 1) ∧ K (some (.int (bI ((0 : Int32) ≤ x ∧ x ≤ (9 : Int32))))) σ) : gE 159 0 [some (.int x)] [] σ K :=
  gw_run (cy := 159) (cuts := []) (inl := []) (pf := gpfM) gpfM_ok 400 (by decide) h
theorem s159 {σ : gS} {K : gK} {x : Int32} (hK : K (some (.int (bI (0 ≤ x ∧ x ≤ 9)))) σ) : gE 159 0 [some (.int x)] [] σ K := by
  exact w159 ⟨bI_01, hK⟩
noncomputable def f159 : gD := fun Lv σ => match Lv with
  | [some (.int x)] => some (none, some (.int (bI (0 ≤ x ∧ x ≤ 9))), σ)
  | _ => none
theorem ok159 : gFok 159 f159 := by
  intro Lv σ q h hc K hK
  unfold f159 at h
  split at h
  · rename_i x
    cases h
    exact s159 hK
  · cases h
set_option maxRecDepth 20000 in
theorem w209 {σ : gS} {K : gK} {w : Int32} (h : ((¬ w = 4 → K (some (.int (3 + w))) σ) ∧ (w = 4 → K (some (.int 1)) σ))) : gE 209 0 [some (.int w)] [] σ K :=
  gw_run (cy := 209) (cuts := []) (inl := []) (pf := gpfM) gpfM_ok 400 (by decide) h
theorem s209 {σ : gS} {K : gK} {w : Int32} (hK : K (some (.int (if w = 4 then 1 else 3 + w))) σ) : gE 209 0 [some (.int w)] [] σ K := by
  refine w209 ⟨fun h => ?_, fun h => ?_⟩
  · rw [if_neg h] at hK; exact hK
  · rw [if_pos h] at hK; exact hK
noncomputable def f209 : gD := fun Lv σ => match Lv with
  | [some (.int w)] => some (none, some (.int (if w = 4 then 1 else 3 + w)), σ)
  | _ => none
theorem ok209 : gFok 209 f209 := by
  intro Lv σ q h hc K hK
  unfold f209 at h
  split at h
  · rename_i w
    cases h
    exact s209 hK
  · cases h
noncomputable def gpfN_l : List (Nat × gD) := (156, f156) :: (157, f157) :: (159, f159) :: (209, f209) :: gpfM_l
noncomputable def gpfN : gP := gpl0 gpfN_l
theorem gpfN_ok : gPok gpfN := gpl0_cons ok156 (gpl0_cons ok157 (gpl0_cons ok159 (gpl0_cons ok209 (gpfM_ok))))
set_option maxRecDepth 20000 in
theorem w158 {σ : gS} {K : gK} {a b : Int32} (h : (((bI (isT (σ 324) a)) = 0 → ((0 : Int32) = 0 ∨ (0 : Int32) = 1) ∧ K (some (.int 0)) σ) ∧ (¬ (bI (isT (σ 324) a)) = 0 → (((bI (isT (σ 324) b)) = 0 → ((0 : Int32) = 0 ∨ (0 : Int32) = 1) ∧ K (some (.int 0)) σ) ∧ (¬ (bI (isT (σ 324) b)) = 0 → ((a = b → ((0 : Int32) = 0 ∨ (0 : Int32) = 1) ∧ K (some (.int 0)) σ) ∧ (¬ a = b → ((1 : Int32) = 0 ∨ (1 : Int32) = 1) ∧ K (some (.int 1)) σ))))))) : gE 158 0 [some (.ref 323), some (.int a), some (.int b)] [] σ K :=
  gw_run (cy := 158) (cuts := []) (inl := []) (pf := gpfN) gpfN_ok 400 (by decide) h
theorem s158 {σ : gS} {K : gK} {a b : Int32} (hK : K (some (.int (bI (isP (σ 324) a b)))) σ) : gE 158 0 [some (.ref 323), some (.int a), some (.int b)] [] σ K := by
  refine w158 ?_
  simp only [bI_0]
  grind [bI]
noncomputable def f158 : gD := fun Lv σ => match Lv with
  | [some (.ref q0), some (.int a), some (.int b)] => cond (Nat.beq q0 323) (some (none, some (.int (bI (isP (σ 324) a b))), σ)) none
  | _ => none
theorem ok158 : gFok 158 f158 := by
  intro Lv σ q h hc K hK
  unfold f158 at h
  split at h
  · rename_i q0 a b
    obtain ⟨hb, h⟩ := c_no h
    have hb0 := hb
    have e0 := b_eq hb0
    subst e0
    cases h
    exact s158 hK
  · cases h
abbrev inR (R : gW) (w n : Int32) : Prop := ((w = 0 ∨ w = 1) ∧ -9 ≤ n ∧ n ≤ 9) ∨ (w = 2 ∧ 0 ≤ n ∧ n ≤ R 0 - 1) ∨ (w = 3 ∧ 0 ≤ n ∧ n ≤ 3) ∨ (w = 4 ∧ 0 ≤ n ∧ n ≤ 1)
set_option maxRecDepth 20000 in
theorem w210 {σ : gS} {K : gK} {w n : Int32} (h : ((0 : Int) + 5 = 4 + 1 ∧ ((w = 0 → ((bI (((-9) : Int32) ≤ n ∧ n ≤ (9 : Int32))) = 0 ∨ (bI (((-9) : Int32) ≤ n ∧ n ≤ (9 : Int32))) = 1) ∧ K (some (.int (bI (((-9) : Int32) ≤ n ∧ n ≤ (9 : Int32))))) σ) ∧ (¬ w = 0 → ((w = 1 → ((bI (((-9) : Int32) ≤ n ∧ n ≤ (9 : Int32))) = 0 ∨ (bI (((-9) : Int32) ≤ n ∧ n ≤ (9 : Int32))) = 1) ∧ K (some (.int (bI (((-9) : Int32) ≤ n ∧ n ≤ (9 : Int32))))) σ) ∧ (¬ w = 1 → ((w = 2 → (0 ≤ (0 : Int32) ∧ (0 : Int32) < 330) ∧ ((bI ((0 : Int32) ≤ n ∧ n ≤ ((σ 324 0) - 1))) = 0 ∨ (bI ((0 : Int32) ≤ n ∧ n ≤ ((σ 324 0) - 1))) = 1) ∧ K (some (.int (bI ((0 : Int32) ≤ n ∧ n ≤ ((σ 324 0) - 1))))) σ) ∧ (¬ w = 2 → ((w = 3 → ((bI ((0 : Int32) ≤ n ∧ n ≤ (3 : Int32))) = 0 ∨ (bI ((0 : Int32) ≤ n ∧ n ≤ (3 : Int32))) = 1) ∧ K (some (.int (bI ((0 : Int32) ≤ n ∧ n ≤ (3 : Int32))))) σ) ∧ (¬ w = 3 → ((w = 4 → ((bI ((0 : Int32) ≤ n ∧ n ≤ (1 : Int32))) = 0 ∨ (bI ((0 : Int32) ≤ n ∧ n ≤ (1 : Int32))) = 1) ∧ K (some (.int (bI ((0 : Int32) ≤ n ∧ n ≤ (1 : Int32))))) σ) ∧ (¬ w = 4 → ((0 : Int32) = 0 ∨ (0 : Int32) = 1) ∧ K (some (.int 0)) σ)))))))))))) : gE 210 0 [some (.ref 323), some (.int w), some (.int n)] [] σ K :=
  gw_run (cy := 210) (cuts := []) (inl := []) (pf := gpfN) gpfN_ok 400 (by decide) h
theorem s210 {σ : gS} {K : gK} {w n : Int32} (hK : K (some (.int (bI (inR (σ 324) w n)))) σ) : gE 210 0 [some (.ref 323), some (.int w), some (.int n)] [] σ K := by
  have h01 : ∀ (p : Prop) [Decidable p], bI p = 0 ∨ bI p = 1 := fun p _ => bI_01
  have key : ∀ (p : Prop) [Decidable p], (p ↔ inR (σ 324) w n) → K (some (.int (bI p))) σ := by
    intro p _ h
    have e : bI p = bI (inR (σ 324) w n) := by
      by_cases q : p
      · rw [bI_t q, bI_t (h.mp q)]
      · rw [bI_f q, bI_f (fun e => q (h.mpr e))]
    rw [e]; exact hK
  refine w210 ⟨by decide, fun h => ⟨h01 _, key _ ?_⟩, fun h0 => ⟨fun h => ⟨h01 _, key _ ?_⟩, fun h1 => ⟨fun h => ⟨by decide, h01 _, key _ ?_⟩, fun h2 => ⟨fun h => ⟨h01 _, key _ ?_⟩, fun h3 => ⟨fun h => ⟨h01 _, key _ ?_⟩, fun h4 => ⟨by decide, ?_⟩⟩⟩⟩⟩⟩
  · subst h; exact ⟨fun q => Or.inl ⟨Or.inl rfl, q⟩, fun q => by rcases q with q | q | q | q <;> first | exact q.2 | exact absurd q.1 (by decide)⟩
  · subst h; exact ⟨fun q => Or.inl ⟨Or.inr rfl, q⟩, fun q => by rcases q with q | q | q | q <;> first | exact q.2 | exact absurd q.1 (by decide)⟩
  · subst h; exact ⟨fun q => Or.inr (Or.inl ⟨rfl, q⟩), fun q => by rcases q with q | q | q | q <;> first | exact absurd q.1 (by decide) | exact q.2⟩
  · subst h; exact ⟨fun q => Or.inr (Or.inr (Or.inl ⟨rfl, q⟩)), fun q => by rcases q with q | q | q | q <;> first | exact absurd q.1 (by decide) | exact q.2⟩
  · subst h; exact ⟨fun q => Or.inr (Or.inr (Or.inr ⟨rfl, q⟩)), fun q => by rcases q with q | q | q | q <;> first | exact absurd q.1 (by decide) | exact q.2⟩
  · have e : bI (inR (σ 324) w n) = 0 := bI_f (fun q => by rcases q with q | q | q | q <;> first | exact h4 q.1 | exact h3 q.1 | exact h2 q.1 | exact q.1.elim h0 h1)
    rw [e] at hK; exact hK
noncomputable def f210 : gD := fun Lv σ => match Lv with
  | [some (.ref q0), some (.int w), some (.int n)] => cond (Nat.beq q0 323) (some (none, some (.int (bI (inR (σ 324) w n))), σ)) none
  | _ => none
theorem ok210 : gFok 210 f210 := by
  intro Lv σ q h hc K hK
  unfold f210 at h
  split at h
  · rename_i q0 w n
    obtain ⟨hb, h⟩ := c_no h
    have hb0 := hb
    have e0 := b_eq hb0
    subst e0
    cases h
    exact s210 hK
  · cases h
noncomputable def gpfO_l : List (Nat × gD) := (158, f158) :: (210, f210) :: gpfN_l
noncomputable def gpfO : gP := gpl0 gpfO_l
theorem gpfO_ok : gPok gpfO := gpl0_cons ok158 (gpl0_cons ok210 (gpfN_ok))
abbrev gFir (R : gW) (f : Int32) : Prop := (0 ≤ f ∧ f ≤ R 0) ∧ ¬ R 1 = f ∧ ¬ 0 < fBar R f
def aFir (R : gW) (f : Int32) : Int32 := if 0 ≤ f ∧ f ≤ R 0 then (if R 1 = f then -2 else if 0 < fBar R f then -4 else R 1) else -1
def nFir (R : gW) (f : Int32) : gW := fTe (rup R 1 f) 7 0 (R 1)
set_option maxRecDepth 20000 in
theorem w213 {σ : gS} {K : gK} {f : Int32} (h : (0 ≤ (0 : Int32) ∧ (0 : Int32) < 330) ∧ ((¬ (bI ((0 : Int32) ≤ f ∧ f ≤ (σ 324 0))) = 0 → (0 ≤ (1 : Int32) ∧ (1 : Int32) < 330) ∧ ((¬ (σ 324 1) = f → (0 ≤ σ 324 3 ∧ σ 324 3 ≤ 20) ∧ ((¬ 0 < (fBar (σ 324) f) → (0 ≤ σ 323 6 ∧ σ 323 6 ≤ 8) ∧ (0 ≤ (1 : Int32) ∧ (1 : Int32) < 330) ∧ (0 ≤ (gup (hKe σ) 324 1 f) 324 209 ∧ (gup (hKe σ) 324 1 f) 324 209 ≤ 40) ∧ K (some (.int (σ 324 1))) (grow (gup (hKe σ) 324 1 f) 324 (fTe ((gup (hKe σ) 324 1 f) 324) (7 : Int32) (0 : Int32) (σ 324 1)))) ∧ (0 < (fBar (σ 324) f) → K (some (.int (-4))) σ))) ∧ ((σ 324 1) = f → K (some (.int (-2))) σ))) ∧ ((bI ((0 : Int32) ≤ f ∧ f ≤ (σ 324 0))) = 0 → K (some (.int (-1))) σ))) : gE 213 0 [some (.ref 323), some (.int f), none] [] σ K :=
  gw_run (cy := 213) (cuts := []) (inl := []) (pf := gpfO) gpfO_ok 400 (by decide) h
theorem s213 {σ : gS} {K : gK} {f : Int32} (hc : RS σ) (hK : K (some (.int (aFir (σ 324) f))) (hOp σ (gFir (σ 324) f) (nFir (σ 324) f))) : gE 213 0 [some (.ref 323), some (.int f), none] [] σ K := by
  obtain ⟨⟨h3, h9⟩, hu⟩ := hc
  refine w213 ?_
  simp (disch := decide) only [gup_grow, grow_grow, grow_at, hKe_324, rup_at, rup_ne]
  simp only [bI_0]
  unfold aFir hOp nFir at hK
  grind
noncomputable def f213 : gD := fun Lv σ => match Lv with
  | [some (.ref q0), some (.int f), none] => cond (Nat.beq q0 323) (some (some (RS σ), some (.int (aFir (σ 324) f)), hOp σ (gFir (σ 324) f) (nFir (σ 324) f))) none
  | _ => none
theorem ok213 : gFok 213 f213 := by
  intro Lv σ q h hc K hK
  unfold f213 at h
  split at h
  · rename_i q0 f
    obtain ⟨hb, h⟩ := c_no h
    have hb0 := hb
    have e0 := b_eq hb0
    subst e0
    cases h
    exact s213 (hc _ rfl) hK
  · cases h
abbrev gSwa (R : gW) (a b x : Int32) : Prop := (isP R a b ∧ 0 ≤ x ∧ x ≤ 9) ∧ ¬ 0 < fWhy R a.toNatClampNeg b.toNatClampNeg x
def aSwa (R : gW) (a b x : Int32) : Int32 := if isP R a b ∧ 0 ≤ x ∧ x ≤ 9 then (if 0 < fWhy R a.toNatClampNeg b.toNatClampNeg x then -10 - fWhy R a.toNatClampNeg b.toNatClampNeg x else fRise R a.toNatClampNeg b.toNatClampNeg a.toNatClampNeg + fRise R a.toNatClampNeg b.toNatClampNeg b.toNatClampNeg + 100) else -1
