/-! THE CLASS: the log, copies -/
noncomputable def gpcl_l : List (Nat × gD) := (86, f86) :: (87, f87) :: (88, f88) :: (90, f90) :: (93, f93) :: gpck_l
noncomputable def gpcl : gP := gpl0 gpcl_l
theorem gpcl_ok : gPok gpcl := gpl0_cons ok86 (gpl0_cons ok87 (gpl0_cons ok88 (gpl0_cons ok90 (gpl0_cons ok93 (gpck_ok)))))
theorem xor_40 : ∀ k, k < 100 → ¬ (iN k ^^^ 40) < 0 ∧ ¬ (iN k ^^^ 8) < 0 := by decide +kernel
theorem l100 {x : Int32} (h : 0 ≤ x ∧ x < 100) : x = iN x.toNatClampNeg ∧ x.toNatClampNeg < 100 := by
  obtain ⟨e, l⟩ := iN_of h.1
  refine ⟨e, ?_⟩
  have h2 := h.2
  rw [e] at h2
  exact (iN_lt (m := 100) l (by decide)).mp h2
set_option maxRecDepth 20000 in
theorem w269 {σ : gS} {K : gK} {x m : Int32} (h : m ≠ 0 ∧ ((¬ (x ^^^ m) < 0 → K (some (.int (x - x / m * m))) σ) ∧ ((x ^^^ m) < 0 → (((x - x / m * m) = 0 → K (some (.int (x - x / m * m))) σ) ∧ (¬ (x - x / m * m) = 0 → K (some (.int ((x - x / m * m) + m))) σ))))) : gE 269 0 [some (.int x), some (.int m), none] [] σ K :=
  gw_run (cy := 269) (cuts := []) (inl := []) (pf := gpcl) gpcl_ok 400 (by decide) h
theorem s269 {σ : gS} {K : gK} {x m : Int32} (hc : (0 ≤ x ∧ x < 100) ∧ (m = 40 ∨ m = 8)) (hK : K (some (.int (x - x / m * m))) σ) : gE 269 0 [some (.int x), some (.int m), none] [] σ K := by
  obtain ⟨hx, hm⟩ := hc
  obtain ⟨e, l⟩ := l100 hx
  obtain ⟨x1, x2⟩ := xor_40 _ l
  rw [← e] at x1 x2
  refine w269 ⟨?_, fun _ => hK, fun h => ?_⟩
  · rcases hm with rfl | rfl <;> decide
  · rcases hm with rfl | rfl
    · exact absurd h x1
    · exact absurd h x2
noncomputable def f269 : gD := fun Lv σ => match Lv with
  | [some (.int x), some (.int m), none] => some (some ((0 ≤ x ∧ x < 100) ∧ (m = 40 ∨ m = 8)), some (.int (x - x / m * m)), σ)
  | _ => none
theorem ok269 : gFok 269 f269 := by
  intro Lv σ q h hc K hK
  unfold f269 at h
  split at h
  · rename_i x m
    cases h
    exact s269 (hc _ rfl) hK
  · cases h
noncomputable def gpcm_l : List (Nat × gD) := (269, f269) :: gpcl_l
noncomputable def gpcm : gP := gpl0 gpcm_l
theorem gpcm_ok : gPok gpcm := gpl0_cons ok269 (gpcl_ok)
set_option maxRecDepth 20000 in
theorem w3 {σ : gS} {K : gK} {i w : Int32} (h : ((0 ≤ ((σ 30 1) + i) ∧ ((σ 30 1) + i) < 100) ∧ ((40 : Int32) = 40 ∨ (40 : Int32) = 8)) ∧ K (some (.int (((((σ 30 1) + i) - ((σ 30 1) + i) / (40 : Int32) * (40 : Int32)) * 3) + w))) σ) : gE 3 0 [some (.ref 30), some (.int i), some (.int w)] [] σ K :=
  gw_run (cy := 3) (cuts := []) (inl := []) (pf := gpcm) gpcm_ok 400 (by decide) h
theorem s3 {σ : gS} {K : gK} {i w : Int32} (hc : 0 ≤ σ 30 1 + i ∧ σ 30 1 + i < 100) (hK : K (some (.int (((σ 30 1 + i) - (σ 30 1 + i) / 40 * 40) * 3 + w))) σ) : gE 3 0 [some (.ref 30), some (.int i), some (.int w)] [] σ K := by
  exact w3 ⟨⟨hc, Or.inl rfl⟩, hK⟩
noncomputable def f3 : gD := fun Lv σ => match Lv with
  | [some (.ref q0), some (.int i), some (.int w)] => cond (Nat.beq q0 30) (some (some (0 ≤ σ 30 1 + i ∧ σ 30 1 + i < 100), some (.int (((σ 30 1 + i) - (σ 30 1 + i) / 40 * 40) * 3 + w)), σ)) none
  | _ => none
theorem ok3 : gFok 3 f3 := by
  intro Lv σ q h hc K hK
  unfold f3 at h
  split at h
  · rename_i q0 i w
    obtain ⟨hb, h⟩ := c_no h
    have hb0 := hb
    have e0 := b_eq hb0
    subst e0
    cases h
    exact s3 (hc _ rfl) hK
  · cases h
set_option maxRecDepth 20000 in
theorem w4 {σ : gS} {K : gK} {i w : Int32} (h : ((i < 0 → K none σ) ∧ (¬ i < 0 → ((¬ i < 120 → K none σ) ∧ (i < 120 → (0 ≤ i ∧ i < 120) ∧ K none (gup σ 31 i.toNatClampNeg w)))))) : gE 4 0 [some (.ref 30), some (.int i), some (.int w)] [] σ K :=
  gw_run (cy := 4) (cuts := []) (inl := []) (pf := gpcm) gpcm_ok 400 (by decide) h
theorem s4 {σ : gS} {K : gK} {i w : Int32} (hc : 0 ≤ i ∧ i < 120) (hK : K none (gup σ 31 i.toNatClampNeg w)) : gE 4 0 [some (.ref 30), some (.int i), some (.int w)] [] σ K := by
  refine w4 ?_
  grind
noncomputable def f4 : gD := fun Lv σ => match Lv with
  | [some (.ref q0), some (.int i), some (.int w)] => cond (Nat.beq q0 30) (some (some (0 ≤ i ∧ i < 120), none, gup σ 31 i.toNatClampNeg w)) none
  | _ => none
theorem ok4 : gFok 4 f4 := by
  intro Lv σ q h hc K hK
  unfold f4 at h
  split at h
  · rename_i q0 i w
    obtain ⟨hb, h⟩ := c_no h
    have hb0 := hb
    have e0 := b_eq hb0
    subst e0
    cases h
    exact s4 (hc _ rfl) hK
  · cases h
noncomputable def gpcn_l : List (Nat × gD) := (3, f3) :: (4, f4) :: gpcm_l
noncomputable def gpcn : gP := gpl0 gpcn_l
theorem gpcn_ok : gPok gpcn := gpl0_cons ok3 (gpl0_cons ok4 (gpcm_ok))
/-- the place of the entry that comes next -/
def cNx (σ : gS) : Nat := 3 * (((σ 30 1).toNatClampNeg + (σ 30 2).toNatClampNeg) % 40)
def cAd3 (σ : gS) (w a b : Int32) : gS := gup (gup (gup σ 31 (cNx σ) w) 31 (cNx σ + 1) a) 31 (cNx σ + 2) b
def cAdd (σ : gS) (w a b : Int32) : gS := if σ 30 2 < 40 then gup (cAd3 σ w a b) 30 2 (σ 30 2 + 1) else gup (cAd3 σ w a b) 30 1 (iN (((σ 30 1).toNatClampNeg + 1) % 40))
abbrev bLg (σ : gS) (l : Nat) : Prop := (0 ≤ σ l 1 ∧ σ l 1 < 40) ∧ (0 ≤ σ l 2 ∧ σ l 2 ≤ 40)
theorem l40 {x : Int32} (h : 0 ≤ x ∧ x ≤ 40) : x = iN x.toNatClampNeg ∧ x.toNatClampNeg ≤ 40 := by
  obtain ⟨e, l⟩ := iN_of h.1
  refine ⟨e, ?_⟩
  have h2 := h.2
  rw [e] at h2
  exact (iN_le (m := 40) l (by decide)).mp h2
theorem lg_i {o s c : Nat} (ho : o < 40) (hs : s ≤ 40) (hc : c < 3) : ((iN o + iN s) - (iN o + iN s) / 40 * 40) * 3 + iN c = iN (3 * ((o + s) % 40) + c) ∧ (0 ≤ iN (3 * ((o + s) % 40) + c) ∧ iN (3 * ((o + s) % 40) + c) < 120) ∧ (0 ≤ iN o + iN s ∧ iN o + iN s < 100) := by
  have e1 : (iN o + iN s) - (iN o + iN s) / 40 * 40 = iN ((o + s) % 40) := by
    rw [iN_add]
    exact iN_mod (d := 40) (by omega) (by decide)
  have e2 : iN ((o + s) % 40) * 3 + iN c = iN (3 * ((o + s) % 40) + c) := by
    show iN ((o + s) % 40) * iN 3 + iN c = _
    rw [iN_mul, iN_add, Nat.mul_comm]
  have hm : (o + s) % 40 < 40 := Nat.mod_lt _ (by decide)
  rw [e1, e2]
  refine ⟨rfl, ⟨(iN_le (k := 0) (by decide) (by omega)).mpr (by omega), (iN_lt (m := 120) (by omega) (by decide)).mpr (by omega)⟩, ?_⟩
  rw [iN_add]
  exact ⟨(iN_le (k := 0) (by decide) (by omega)).mpr (by omega), (iN_lt (m := 100) (by omega) (by decide)).mpr (by omega)⟩
set_option maxRecDepth 20000 in
theorem w5 {σ : gS} {K : gK} {w a b : Int32} (h : (0 ≤ σ 30 1 + (σ 30 2) ∧ σ 30 1 + (σ 30 2) < 100) ∧ (0 ≤ (((σ 30 1 + (σ 30 2)) - (σ 30 1 + (σ 30 2)) / 40 * 40) * 3 + (0 : Int32)) ∧ (((σ 30 1 + (σ 30 2)) - (σ 30 1 + (σ 30 2)) / 40 * 40) * 3 + (0 : Int32)) < 120) ∧ gE 5 14 [some (.ref 30), some (.int w), some (.int a), some (.int b)] [] (gup σ 31 (((σ 30 1 + (σ 30 2)) - (σ 30 1 + (σ 30 2)) / 40 * 40) * 3 + (0 : Int32)).toNatClampNeg w) K) : gE 5 0 [some (.ref 30), some (.int w), some (.int a), some (.int b)] [] σ K :=
  gw_run (cy := 5) (cuts := [14, 28, 42]) (inl := []) (pf := gpcn) gpcn_ok 400 (by decide) h
set_option maxRecDepth 20000 in
theorem c5_14 {σ : gS} {K : gK} {l1 l2 l3 : Int32} (h : (0 ≤ σ 30 1 + (σ 30 2) ∧ σ 30 1 + (σ 30 2) < 100) ∧ (0 ≤ (((σ 30 1 + (σ 30 2)) - (σ 30 1 + (σ 30 2)) / 40 * 40) * 3 + (1 : Int32)) ∧ (((σ 30 1 + (σ 30 2)) - (σ 30 1 + (σ 30 2)) / 40 * 40) * 3 + (1 : Int32)) < 120) ∧ gE 5 28 [some (.ref 30), some (.int l1), some (.int l2), some (.int l3)] [] (gup σ 31 (((σ 30 1 + (σ 30 2)) - (σ 30 1 + (σ 30 2)) / 40 * 40) * 3 + (1 : Int32)).toNatClampNeg l2) K) : gE 5 14 [some (.ref 30), some (.int l1), some (.int l2), some (.int l3)] [] σ K :=
  gw_run (cy := 5) (cuts := [14, 28, 42]) (inl := []) (pf := gpcn) gpcn_ok 400 (by decide) h
set_option maxRecDepth 20000 in
theorem c5_28 {σ : gS} {K : gK} {l1 l2 l3 : Int32} (h : (0 ≤ σ 30 1 + (σ 30 2) ∧ σ 30 1 + (σ 30 2) < 100) ∧ (0 ≤ (((σ 30 1 + (σ 30 2)) - (σ 30 1 + (σ 30 2)) / 40 * 40) * 3 + (2 : Int32)) ∧ (((σ 30 1 + (σ 30 2)) - (σ 30 1 + (σ 30 2)) / 40 * 40) * 3 + (2 : Int32)) < 120) ∧ gE 5 42 [some (.ref 30), some (.int l1), some (.int l2), some (.int l3)] [] (gup σ 31 (((σ 30 1 + (σ 30 2)) - (σ 30 1 + (σ 30 2)) / 40 * 40) * 3 + (2 : Int32)).toNatClampNeg l3) K) : gE 5 28 [some (.ref 30), some (.int l1), some (.int l2), some (.int l3)] [] σ K :=
  gw_run (cy := 5) (cuts := [14, 28, 42]) (inl := []) (pf := gpcn) gpcn_ok 400 (by decide) h
set_option maxRecDepth 20000 in
theorem c5_42 {σ : gS} {K : gK} {l1 l2 l3 : Int32} (h : ((¬ (σ 30 2) < 40 → (40 : Int32) ≠ 0 ∧ K none (gup σ 30 1 (((σ 30 1) + 1) - ((σ 30 1) + 1) / 40 * 40))) ∧ ((σ 30 2) < 40 → K none (gup σ 30 2 ((σ 30 2) + 1))))) : gE 5 42 [some (.ref 30), some (.int l1), some (.int l2), some (.int l3)] [] σ K :=
  gw_run (cy := 5) (cuts := [14, 28, 42]) (inl := []) (pf := gpcn) gpcn_ok 400 (by decide) h
theorem s5 {σ : gS} {K : gK} {w a b : Int32} (hc : bLg σ 30) (hK : K none (cAdd σ w a b)) : gE 5 0 [some (.ref 30), some (.int w), some (.int a), some (.int b)] [] σ K := by
  obtain ⟨ho, hs⟩ := hc
  obtain ⟨eo, lo⟩ := l40 ⟨ho.1, by have := ho.2; grind⟩
  obtain ⟨es, ls⟩ := l40 hs
  obtain ⟨O, hO⟩ : ∃ O, (σ 30 1).toNatClampNeg = O := ⟨_, rfl⟩
  obtain ⟨S, hS⟩ : ∃ S, (σ 30 2).toNatClampNeg = S := ⟨_, rfl⟩
  rw [hO] at eo lo
  rw [hS] at es ls
  have lo : O < 40 := by
    have h := ho.2
    rw [eo] at h
    exact (iN_lt (m := 40) (by omega) (by decide)).mp h
  obtain ⟨i0, b0, bb⟩ := lg_i (c := 0) lo ls (by decide)
  obtain ⟨i1, b1, -⟩ := lg_i (c := 1) lo ls (by decide)
  obtain ⟨i2, b2, -⟩ := lg_i (c := 2) lo ls (by decide)
  have i0 : ((iN O + iN S) - (iN O + iN S) / 40 * 40) * 3 + (0 : Int32) = iN (3 * ((O + S) % 40)) := i0
  have i1 : ((iN O + iN S) - (iN O + iN S) / 40 * 40) * 3 + (1 : Int32) = iN (3 * ((O + S) % 40) + 1) := i1
  have i2 : ((iN O + iN S) - (iN O + iN S) / 40 * 40) * 3 + (2 : Int32) = iN (3 * ((O + S) % 40) + 2) := i2
  have hm : (O + S) % 40 < 40 := Nat.mod_lt _ (by decide)
  have en : cNx σ = 3 * ((O + S) % 40) := by unfold cNx; rw [hO, hS]
  have r1 : ∀ i x, gup σ 31 i x 30 1 = iN O := fun i x => by rw [gup_ne (by omega)]; exact eo
  have r2 : ∀ i x, gup σ 31 i x 30 2 = iN S := fun i x => by rw [gup_ne (by omega)]; exact es
  have r3 : ∀ i x j y, gup (gup σ 31 i x) 31 j y 30 1 = iN O := fun i x j y => by rw [gup_ne (by omega)]; exact r1 i x
  have r4 : ∀ i x j y, gup (gup σ 31 i x) 31 j y 30 2 = iN S := fun i x j y => by rw [gup_ne (by omega)]; exact r2 i x
  have r5 : ∀ i x j y k z, gup (gup (gup σ 31 i x) 31 j y) 31 k z 30 1 = iN O := fun i x j y k z => by rw [gup_ne (by omega)]; exact r3 i x j y
  have r6 : ∀ i x j y k z, gup (gup (gup σ 31 i x) 31 j y) 31 k z 30 2 = iN S := fun i x j y k z => by rw [gup_ne (by omega)]; exact r4 i x j y
  unfold cAdd cAd3 at hK
  rw [en, hO, es] at hK
  refine w5 ?_
  rw [eo, es, i0, iN_nat (by omega)]
  refine ⟨bb, b0, c5_14 ?_⟩
  rw [r1, r2, i1, iN_nat (by omega)]
  refine ⟨bb, b1, c5_28 ?_⟩
  rw [r3, r4, i2, iN_nat (by omega)]
  refine ⟨bb, b2, c5_42 ?_⟩
  rw [r5, r6]
  refine ⟨fun h => ⟨by decide, ?_⟩, fun h => ?_⟩
  · rw [if_neg h] at hK
    rw [iN_one, show (40 : Int32) = iN 40 from rfl, iN_mod (by omega) (by decide)]
    exact hK
  · rw [if_pos h] at hK
    exact hK
noncomputable def f5 : gD := fun Lv σ => match Lv with
  | [some (.ref q0), some (.int w), some (.int a), some (.int b)] => cond (Nat.beq q0 30) (some (some (bLg σ 30), none, cAdd σ w a b)) none
  | _ => none
theorem ok5 : gFok 5 f5 := by
  intro Lv σ q h hc K hK
  unfold f5 at h
  split at h
  · rename_i q0 w a b
    obtain ⟨hb, h⟩ := c_no h
    have hb0 := hb
    have e0 := b_eq hb0
    subst e0
    cases h
    exact s5 (hc _ rfl) hK
  · cases h
noncomputable def gpco_l : List (Nat × gD) := (5, f5) :: gpcn_l
noncomputable def gpco : gP := gpl0 gpco_l
theorem gpco_ok : gPok gpco := gpl0_cons ok5 (gpcn_ok)
/-- a traveller's numbers from another: the first k -/
def cTk (σ : gS) (a b k : Nat) : gS := fun q j => if q = a ∧ j < k then σ b j else σ q j
theorem cTk_0 (σ : gS) (a b : Nat) : cTk σ a b 0 = σ := by funext q j; unfold cTk; rw [if_neg (by omega)]
theorem cTk_s (σ : gS) (a b k : Nat) : gup (cTk σ a b k) a k (cTk σ a b k b k) = cTk σ a b (k + 1) := by
  funext q j
  unfold gup cTk
  by_cases h : q = a ∧ j = k
  · rw [if_pos h, h.2, if_neg (show ¬ (b = a ∧ k < k) by omega), if_pos (show q = a ∧ k < k + 1 from ⟨h.1, by omega⟩)]
  · rw [if_neg h]
    by_cases h2 : q = a ∧ j < k
    · rw [if_pos h2, if_pos (by omega)]
    · rw [if_neg h2, if_neg (by omega)]
def cTv (σ : gS) (a b : Nat) : gS := cTk σ a b 10
theorem cTk_1 (σ : gS) (a b : Nat) : gup σ a 0 (σ b 0) = cTk σ a b 1 := by
  have := cTk_s σ a b 0
  rw [cTk_0] at this
  exact this
set_option maxRecDepth 20000 in
theorem w103 {σ : gS} {K : gK} {a b : Nat} (h : gTv b ∧ gTv a ∧ gE 103 8 [some (.ref a), some (.ref b)] [] (gup σ a 0 (σ b 0)) K) : gE 103 0 [some (.ref a), some (.ref b)] [] σ K :=
  gw_run (cy := 103) (cuts := [8, 16, 24, 32, 40, 48, 56, 64, 72]) (inl := []) (pf := gpco) gpco_ok 400 (by decide) h
set_option maxRecDepth 20000 in
theorem c103_8 {σ : gS} {K : gK} {l0 l1 : Nat} (h : gTv l1 ∧ gTv l0 ∧ gE 103 16 [some (.ref l0), some (.ref l1)] [] (gup σ l0 1 (σ l1 1)) K) : gE 103 8 [some (.ref l0), some (.ref l1)] [] σ K :=
  gw_run (cy := 103) (cuts := [8, 16, 24, 32, 40, 48, 56, 64, 72]) (inl := []) (pf := gpco) gpco_ok 400 (by decide) h
set_option maxRecDepth 20000 in
theorem c103_16 {σ : gS} {K : gK} {l0 l1 : Nat} (h : gTv l1 ∧ gTv l0 ∧ gE 103 24 [some (.ref l0), some (.ref l1)] [] (gup σ l0 2 (σ l1 2)) K) : gE 103 16 [some (.ref l0), some (.ref l1)] [] σ K :=
  gw_run (cy := 103) (cuts := [8, 16, 24, 32, 40, 48, 56, 64, 72]) (inl := []) (pf := gpco) gpco_ok 400 (by decide) h
set_option maxRecDepth 20000 in
theorem c103_24 {σ : gS} {K : gK} {l0 l1 : Nat} (h : gTv l1 ∧ gTv l0 ∧ gE 103 32 [some (.ref l0), some (.ref l1)] [] (gup σ l0 3 (σ l1 3)) K) : gE 103 24 [some (.ref l0), some (.ref l1)] [] σ K :=
  gw_run (cy := 103) (cuts := [8, 16, 24, 32, 40, 48, 56, 64, 72]) (inl := []) (pf := gpco) gpco_ok 400 (by decide) h
set_option maxRecDepth 20000 in
theorem c103_32 {σ : gS} {K : gK} {l0 l1 : Nat} (h : gTv l1 ∧ gTv l0 ∧ gE 103 40 [some (.ref l0), some (.ref l1)] [] (gup σ l0 4 (σ l1 4)) K) : gE 103 32 [some (.ref l0), some (.ref l1)] [] σ K :=
  gw_run (cy := 103) (cuts := [8, 16, 24, 32, 40, 48, 56, 64, 72]) (inl := []) (pf := gpco) gpco_ok 400 (by decide) h
set_option maxRecDepth 20000 in
theorem c103_40 {σ : gS} {K : gK} {l0 l1 : Nat} (h : gTv l1 ∧ gTv l0 ∧ gE 103 48 [some (.ref l0), some (.ref l1)] [] (gup σ l0 5 (σ l1 5)) K) : gE 103 40 [some (.ref l0), some (.ref l1)] [] σ K :=
  gw_run (cy := 103) (cuts := [8, 16, 24, 32, 40, 48, 56, 64, 72]) (inl := []) (pf := gpco) gpco_ok 400 (by decide) h
set_option maxRecDepth 20000 in
theorem c103_48 {σ : gS} {K : gK} {l0 l1 : Nat} (h : gTv l1 ∧ gTv l0 ∧ gE 103 56 [some (.ref l0), some (.ref l1)] [] (gup σ l0 6 (σ l1 6)) K) : gE 103 48 [some (.ref l0), some (.ref l1)] [] σ K :=
  gw_run (cy := 103) (cuts := [8, 16, 24, 32, 40, 48, 56, 64, 72]) (inl := []) (pf := gpco) gpco_ok 400 (by decide) h
set_option maxRecDepth 20000 in
theorem c103_56 {σ : gS} {K : gK} {l0 l1 : Nat} (h : gTv l1 ∧ gTv l0 ∧ gE 103 64 [some (.ref l0), some (.ref l1)] [] (gup σ l0 7 (σ l1 7)) K) : gE 103 56 [some (.ref l0), some (.ref l1)] [] σ K :=
  gw_run (cy := 103) (cuts := [8, 16, 24, 32, 40, 48, 56, 64, 72]) (inl := []) (pf := gpco) gpco_ok 400 (by decide) h
set_option maxRecDepth 20000 in
theorem c103_64 {σ : gS} {K : gK} {l0 l1 : Nat} (h : gTv l1 ∧ gTv l0 ∧ gE 103 72 [some (.ref l0), some (.ref l1)] [] (gup σ l0 8 (σ l1 8)) K) : gE 103 64 [some (.ref l0), some (.ref l1)] [] σ K :=
  gw_run (cy := 103) (cuts := [8, 16, 24, 32, 40, 48, 56, 64, 72]) (inl := []) (pf := gpco) gpco_ok 400 (by decide) h
set_option maxRecDepth 20000 in
theorem c103_72 {σ : gS} {K : gK} {l0 l1 : Nat} (h : gTv l1 ∧ gTv l0 ∧ K none (gup σ l0 9 (σ l1 9))) : gE 103 72 [some (.ref l0), some (.ref l1)] [] σ K :=
  gw_run (cy := 103) (cuts := [8, 16, 24, 32, 40, 48, 56, 64, 72]) (inl := []) (pf := gpco) gpco_ok 400 (by decide) h
theorem s103 {σ : gS} {K : gK} {a b : Nat} (hc : gTv a ∧ gTv b) (hK : K none (cTv σ a b)) : gE 103 0 [some (.ref a), some (.ref b)] [] σ K := by
  obtain ⟨ha, hb⟩ := hc
  unfold cTv at hK
  refine w103 ⟨hb, ha, ?_⟩
  rw [cTk_1]
  refine c103_8 ⟨hb, ha, ?_⟩
  rw [cTk_s]
  refine c103_16 ⟨hb, ha, ?_⟩
  rw [cTk_s]
  refine c103_24 ⟨hb, ha, ?_⟩
  rw [cTk_s]
  refine c103_32 ⟨hb, ha, ?_⟩
  rw [cTk_s]
  refine c103_40 ⟨hb, ha, ?_⟩
  rw [cTk_s]
  refine c103_48 ⟨hb, ha, ?_⟩
  rw [cTk_s]
  refine c103_56 ⟨hb, ha, ?_⟩
  rw [cTk_s]
  refine c103_64 ⟨hb, ha, ?_⟩
  rw [cTk_s]
  refine c103_72 ⟨hb, ha, ?_⟩
  rw [cTk_s]
  exact hK
noncomputable def f103 : gD := fun Lv σ => match Lv with
  | [some (.ref a), some (.ref b)] => some (some (gTv a ∧ gTv b), none, cTv σ a b)
  | _ => none
theorem ok103 : gFok 103 f103 := by
  intro Lv σ q h hc K hK
  unfold f103 at h
  split at h
  · rename_i a b
    cases h
    exact s103 (hc _ rfl) hK
  · cases h
/-- a train's travellers, the first k, from another train -/
def cT1 (σ : gS) (p q k : Nat) : gS := fun b j => if p + 2 ≤ b ∧ b < p + 2 + k ∧ j < 10 then σ (q + (b - p)) j else σ b j
theorem cT1_0 (σ : gS) (p q : Nat) : cT1 σ p q 0 = σ := by funext b j; unfold cT1; rw [if_neg (by omega)]
theorem cT1_s {σ : gS} {p q k : Nat} (h : q + 26 ≤ p ∨ p + 26 ≤ q) (hk : k < 20) : cTv (cT1 σ p q k) (p + 2 + k) (q + 2 + k) = cT1 σ p q (k + 1) := by
  funext b j
  unfold cTv cTk cT1
  by_cases h1 : b = p + 2 + k ∧ j < 10
  · rw [if_pos h1, if_neg (by omega), if_pos (by omega), h1.1, show q + (p + 2 + k - p) = q + 2 + k by omega]
  · rw [if_neg h1]
    by_cases h2 : p + 2 ≤ b ∧ b < p + 2 + k ∧ j < 10
    · rw [if_pos h2, if_pos (by omega)]
    · rw [if_neg h2, if_neg (by omega)]
/-- the first k numbers of place d from place s -/
def cA1 (σ : gS) (d s k : Nat) : gS := fun b j => if b = d ∧ j < k then σ s j else σ b j
theorem cA1_0 (σ : gS) (d s : Nat) : cA1 σ d s 0 = σ := by funext b j; unfold cA1; rw [if_neg (by omega)]
theorem cA1_s {σ : gS} {d s k : Nat} (h : ¬ d = s) : gup (cA1 σ d s k) d k (cA1 σ d s k s k) = cA1 σ d s (k + 1) := by
  funext b j
  unfold gup cA1
  by_cases h1 : b = d ∧ j = k
  · rw [if_pos h1, h1.2, if_neg (show ¬ (s = d ∧ k < k) by omega), if_pos (show b = d ∧ k < k + 1 from ⟨h1.1, by omega⟩)]
  · rw [if_neg h1]
    by_cases h2 : b = d ∧ j < k
    · rw [if_pos h2, if_pos (by omega)]
    · rw [if_neg h2, if_neg (by omega)]
/-- a log from another -/
def cLc (σ : gS) (d s : Nat) : gS := gup (gup (cA1 σ (d + 1) (s + 1) 120) d 1 (σ s 1)) d 2 (σ s 2)
