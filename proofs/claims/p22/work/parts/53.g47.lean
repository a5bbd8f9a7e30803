-- text 47
/-! THE CLASS: the tape -/
/-- k bytes behind the n of the class's tape -/
def cApp (σ : gS) (n : Nat) (B : Nat → Int32) (k : Nat) : gS := grow (grow σ 3 (fAp (σ 3) n B k)) 2 (rup (σ 2) 1 (iN (n + k)))
def cPut (σ : gS) (w : Int32) : gS := gup (gup σ 3 (σ 2 1).toNatClampNeg w) 2 1 (σ 2 1 + 1)
def cP4 (σ : gS) (w : Int32) : gS := cPut (cPut (cPut (cPut σ (w >>> iN 24 &&& 255)) (w >>> iN 16 &&& 255)) (w >>> iN 8 &&& 255)) (w >>> iN 0 &&& 255)
theorem cApp_2 (σ : gS) (n : Nat) (B : Nat → Int32) (k : Nat) : cApp σ n B k 2 1 = iN (n + k) := by
  unfold cApp
  rw [grow_at, rup_at]
theorem cPut_s {σ : gS} {n k : Nat} {B : Nat → Int32} (h : n + k < 1000) : cPut (cApp σ n B k) (B k) = cApp σ n B (k + 1) := by
  unfold cPut
  rw [cApp_2, iN_nat (by omega), iN_one]
  unfold cApp
  rw [← fAp_s, ← Nat.add_assoc]
  funext p j
  unfold gup grow rup
  grind
theorem cApp_0 {σ : gS} {n : Nat} {B : Nat → Int32} (h : σ 2 1 = iN n) : cApp σ n B 0 = σ := by
  unfold cApp
  rw [fAp_0, grow_id, Nat.add_zero, ← h]
  have : rup (σ 2) 1 (σ 2 1) = σ 2 := by
    funext j
    unfold rup
    split
    · rename_i h; rw [h]
    · rfl
  rw [this, grow_id]
theorem cP4_s {σ : gS} {n k : Nat} {B : Nat → Int32} {w : Int32} (h : n + k + 4 ≤ 1000) (hB : ∀ r, r < 4 → B (k + r) = w >>> iN (24 - 8 * r) &&& 255) : cP4 (cApp σ n B k) w = cApp σ n B (k + 4) := by
  unfold cP4
  have b0 := hB 0 (by decide)
  have b1 := hB 1 (by decide)
  have b2 := hB 2 (by decide)
  have b3 := hB 3 (by decide)
  rw [show 24 - 8 * 0 = 24 from rfl, Nat.add_zero] at b0
  rw [show 24 - 8 * 1 = 16 from rfl] at b1
  rw [show 24 - 8 * 2 = 8 from rfl] at b2
  rw [show 24 - 8 * 3 = 0 from rfl] at b3
  rw [← b0, ← b1, ← b2, ← b3, cPut_s (by omega), cPut_s (by omega), cPut_s (by omega), cPut_s (by omega)]
theorem byt_w (a b c d e : Int32) (q r : Nat) (h : r < 4) : byt a b c d e (4 * q + r) = wrd a b c d e (4 * q) >>> iN (24 - 8 * r) &&& 255 := by
  unfold byt
  rw [show (4 * q + r) % 4 = r from by omega]
  have : wrd a b c d e (4 * q + r) = wrd a b c d e (4 * q) := by
    unfold wrd
    have e1 : (4 * q + r < 4 ↔ 4 * q < 4) := by omega
    have e2 : (4 * q + r < 8 ↔ 4 * q < 8) := by omega
    have e3 : (4 * q + r < 12 ↔ 4 * q < 12) := by omega
    have e4 : (4 * q + r < 16 ↔ 4 * q < 16) := by omega
    simp only [e1, e2, e3, e4]
  rw [this]
set_option maxRecDepth 20000 in
theorem w42 {σ : gS} {K : gK} (h : ((1000 < ((σ 2 1) + 20) → ((0 : Int32) = 0 ∨ (0 : Int32) = 1) ∧ K (some (.int 0)) σ) ∧ (¬ 1000 < ((σ 2 1) + 20) → ((1 : Int32) = 0 ∨ (1 : Int32) = 1) ∧ K (some (.int 1)) σ))) : gE 42 0 [some (.ref 2)] [] σ K :=
  gw_run (cy := 42) (cuts := []) (inl := []) (pf := gpdd) gpdd_ok 400 (by decide) h
theorem s42 {σ : gS} {K : gK} (hK : K (some (.int (bI (¬ 1000 < σ 2 1 + 20)))) σ) : gE 42 0 [some (.ref 2)] [] σ K := by
  refine w42 ?_
  grind [bI]
noncomputable def f42 : gD := fun Lv σ => match Lv with
  | [some (.ref q0)] => cond (Nat.beq q0 2) (some (none, some (.int (bI (¬ 1000 < σ 2 1 + 20))), σ)) none
  | _ => none
theorem ok42 : gFok 42 f42 := by
  intro Lv σ q h hc K hK
  unfold f42 at h
  split at h
  · rename_i q0
    obtain ⟨hb, h⟩ := c_no h
    have hb0 := hb
    have e0 := b_eq hb0
    subst e0
    cases h
    exact s42 hK
  · cases h
set_option maxRecDepth 20000 in
theorem w44 {σ : gS} {K : gK} {w : Int32} (h : (((σ 2 1) < 0 → K none σ) ∧ (¬ (σ 2 1) < 0 → ((¬ (σ 2 1) < 1000 → K none σ) ∧ ((σ 2 1) < 1000 → (0 ≤ (σ 2 1) ∧ (σ 2 1) < 1000) ∧ K none (gup (gup σ 3 (σ 2 1).toNatClampNeg w) 2 1 (((gup σ 3 (σ 2 1).toNatClampNeg w) 2 1) + 1))))))) : gE 44 0 [some (.ref 2), some (.int w)] [] σ K :=
  gw_run (cy := 44) (cuts := []) (inl := []) (pf := gpdd) gpdd_ok 400 (by decide) h
theorem s44 {σ : gS} {K : gK} {w : Int32} (hc : 0 ≤ σ 2 1 ∧ σ 2 1 < 1000) (hK : K none (cPut σ w)) : gE 44 0 [some (.ref 2), some (.int w)] [] σ K := by
  refine w44 ⟨fun h => absurd h (Int32.not_lt.mpr hc.1), fun _ => ⟨fun h => absurd hc.2 h, fun _ => ⟨hc, ?_⟩⟩⟩
  rw [gup_ne (by omega)]
  exact hK
noncomputable def f44 : gD := fun Lv σ => match Lv with
  | [some (.ref q0), some (.int w)] => cond (Nat.beq q0 2) (some (some (0 ≤ σ 2 1 ∧ σ 2 1 < 1000), none, cPut σ w)) none
  | _ => none
theorem ok44 : gFok 44 f44 := by
  intro Lv σ q h hc K hK
  unfold f44 at h
  split at h
  · rename_i q0 w
    obtain ⟨hb, h⟩ := c_no h
    have hb0 := hb
    have e0 := b_eq hb0
    subst e0
    cases h
    exact s44 (hc _ rfl) hK
  · cases h
set_option maxRecDepth 20000 in
theorem w45 {σ : gS} {K : gK} {i : Int32} (h : ((i < 0 → K (some (.int (-1))) σ) ∧ (¬ i < 0 → ((¬ i < (σ 2 1) → K (some (.int (-1))) σ) ∧ (i < (σ 2 1) → ((¬ i < 1000 → K (some (.int (-1))) σ) ∧ (i < 1000 → (0 ≤ i ∧ i < 1000) ∧ K (some (.int (σ 3 i.toNatClampNeg))) σ))))))) : gE 45 0 [some (.ref 2), some (.int i)] [] σ K :=
  gw_run (cy := 45) (cuts := []) (inl := []) (pf := gpdd) gpdd_ok 400 (by decide) h
theorem s45 {σ : gS} {K : gK} {i : Int32} (hc : σ 2 1 ≤ 1000) (hK : K (some (.int (if 0 ≤ i ∧ i < σ 2 1 then σ 3 i.toNatClampNeg else -1))) σ) : gE 45 0 [some (.ref 2), some (.int i)] [] σ K := by
  refine w45 ?_
  grind
noncomputable def f45 : gD := fun Lv σ => match Lv with
  | [some (.ref q0), some (.int i)] => cond (Nat.beq q0 2) (some (some (σ 2 1 ≤ 1000), some (.int (if 0 ≤ i ∧ i < σ 2 1 then σ 3 i.toNatClampNeg else -1)), σ)) none
  | _ => none
theorem ok45 : gFok 45 f45 := by
  intro Lv σ q h hc K hK
  unfold f45 at h
  split at h
  · rename_i q0 i
    obtain ⟨hb, h⟩ := c_no h
    have hb0 := hb
    have e0 := b_eq hb0
    subst e0
    cases h
    exact s45 (hc _ rfl) hK
  · cases h
noncomputable def gpde_l : List (Nat × gD) := (42, f42) :: (44, f44) :: (45, f45) :: gpdd_l
noncomputable def gpde : gP := gpl0 gpde_l
theorem gpde_ok : gPok gpde := gpl0_cons ok42 (gpl0_cons ok44 (gpl0_cons ok45 (gpdd_ok)))
-- text 48
/-! THE CLASS: append, truncate, errorPosition -/
set_option maxRecDepth 20000 in
theorem w43 {σ : gS} {K : gK} {w : Int32} (h : gE 43 3 [some (.ref 2), some (.int w), some (.int 24)] [] σ K) : gE 43 0 [some (.ref 2), some (.int w), none] [] σ K :=
  gw_run (cy := 43) (cuts := [3]) (inl := []) (pf := gpde) gpde_ok 400 (by decide) h
set_option maxRecDepth 20000 in
theorem v43 {σ : gS} {K : gK} {w s : Int32} (h : ((s < 0 → K none σ) ∧ (¬ s < 0 → (0 ≤ σ 2 1 ∧ σ 2 1 < 1000) ∧ gE 43 3 [some (.ref 2), some (.int w), some (.int (s + (-8)))] [] (cPut σ ((w >>> (s &&& 31)) &&& 255)) K))) : gE 43 3 [some (.ref 2), some (.int w), some (.int s)] [] σ K :=
  gw_run (cy := 43) (cuts := [3]) (inl := []) (pf := gpde) gpde_ok 400 (by decide) h
theorem cPut_2 (σ : gS) (w : Int32) : cPut σ w 2 1 = σ 2 1 + 1 := gup_at _ _ _
theorem s43 {σ : gS} {K : gK} {w : Int32} (hc : 0 ≤ σ 2 1 ∧ σ 2 1 ≤ 996) (hK : K none (cP4 σ w)) : gE 43 0 [some (.ref 2), some (.int w), none] [] σ K := by
  have h1 := hc.1
  have h2 := hc.2
  refine w43 (v43 ⟨fun h => absurd h (by decide), fun _ => ⟨by grind, v43 ⟨fun h => absurd h (by decide), fun _ => ⟨by rw [cPut_2]; grind, v43 ⟨fun h => absurd h (by decide), fun _ => ⟨by rw [cPut_2, cPut_2]; grind, v43 ⟨fun h => absurd h (by decide), fun _ => ⟨by rw [cPut_2, cPut_2, cPut_2]; grind, v43 ⟨fun _ => ?_, fun h => absurd (by decide) h⟩⟩⟩⟩⟩⟩⟩⟩⟩)
  exact hK
noncomputable def f43 : gD := fun Lv σ => match Lv with
  | [some (.ref q0), some (.int w), none] => cond (Nat.beq q0 2) (some (some (0 ≤ σ 2 1 ∧ σ 2 1 ≤ 996), none, cP4 σ w)) none
  | _ => none
theorem ok43 : gFok 43 f43 := by
  intro Lv σ q h hc K hK
  unfold f43 at h
  split at h
  · rename_i q0 w
    obtain ⟨hb, h⟩ := c_no h
    have hb0 := hb
    have e0 := b_eq hb0
    subst e0
    cases h
    exact s43 (hc _ rfl) hK
  · cases h
noncomputable def gpdf_l : List (Nat × gD) := (43, f43) :: gpde_l
noncomputable def gpdf : gP := gpl0 gpdf_l
theorem gpdf_ok : gPok gpdf := gpl0_cons ok43 (gpde_ok)
theorem cP4_2 (σ : gS) (w : Int32) : cP4 σ w 2 1 = σ 2 1 + 4 := by
  unfold cP4
  rw [cPut_2, cPut_2, cPut_2, cPut_2]
  grind
set_option maxRecDepth 20000 in
theorem w108 {σ : gS} {K : gK} {a b c d e : Int32} (h : ((¬ (bI (¬ 1000 < σ 2 1 + 20)) = 0 → (0 ≤ σ 2 1 ∧ σ 2 1 ≤ 996) ∧ (0 ≤ (cP4 σ a) 2 1 ∧ (cP4 σ a) 2 1 ≤ 996) ∧ (0 ≤ (cP4 (cP4 σ a) b) 2 1 ∧ (cP4 (cP4 σ a) b) 2 1 ≤ 996) ∧ (0 ≤ (cP4 (cP4 (cP4 σ a) b) c) 2 1 ∧ (cP4 (cP4 (cP4 σ a) b) c) 2 1 ≤ 996) ∧ (0 ≤ (cP4 (cP4 (cP4 (cP4 σ a) b) c) d) 2 1 ∧ (cP4 (cP4 (cP4 (cP4 σ a) b) c) d) 2 1 ≤ 996) ∧ K (some (.int ((cP4 (cP4 (cP4 (cP4 (cP4 σ a) b) c) d) e) 2 1))) (cP4 (cP4 (cP4 (cP4 (cP4 σ a) b) c) d) e)) ∧ ((bI (¬ 1000 < σ 2 1 + 20)) = 0 → K (some (.int (-1))) σ))) : gE 108 0 [some (.ref 0), some (.int a), some (.int b), some (.int c), some (.int d), some (.int e)] [] σ K :=
  gw_run (cy := 108) (cuts := []) (inl := []) (pf := gpdf) gpdf_ok 400 (by decide) h
theorem s108 {σ : gS} {K : gK} {a b c d e : Int32} (hc : 0 ≤ σ 2 1 ∧ σ 2 1 ≤ 1000) (hK : K (some (.int (if 1000 < σ 2 1 + 20 then -1 else σ 2 1 + 20))) (if 1000 < σ 2 1 + 20 then σ else cApp σ (σ 2 1).toNatClampNeg (byt a b c d e) 20)) : gE 108 0 [some (.ref 0), some (.int a), some (.int b), some (.int c), some (.int d), some (.int e)] [] σ K := by
  have h1 := hc.1
  have h2 := hc.2
  refine w108 ?_
  simp only [bI_0]
  refine ⟨fun h => ?_, fun h => ?_⟩
  · have h := Decidable.not_not.mp h
    rw [if_neg h, if_neg h] at hK
    obtain ⟨e0, l0⟩ := l1000 hc
    obtain ⟨n, hn⟩ : ∃ n, (σ 2 1).toNatClampNeg = n := ⟨_, rfl⟩
    rw [hn] at e0 l0 hK
    have n980 : n ≤ 980 := by
      rw [e0, show (20 : Int32) = iN 20 from rfl, iN_add, show (1000 : Int32) = iN 1000 from rfl, iN_lt (by omega) (by omega)] at h
      omega
    have eP : cP4 (cP4 (cP4 (cP4 (cP4 σ a) b) c) d) e = cApp σ n (byt a b c d e) 20 := by
      have s0 : cP4 σ a = cApp σ n (byt a b c d e) 4 := by
        have q := cP4_s (σ := σ) (n := n) (k := 0) (B := byt a b c d e) (w := a) (by omega) (fun r hr => by rw [show 0 + r = 4 * 0 + r from by omega]; exact byt_w a b c d e 0 r hr)
        rw [cApp_0 e0] at q
        exact q
      have s1 := cP4_s (σ := σ) (n := n) (k := 4) (B := byt a b c d e) (w := b) (by omega) (fun r hr => byt_w a b c d e 1 r hr)
      have s2 := cP4_s (σ := σ) (n := n) (k := 8) (B := byt a b c d e) (w := c) (by omega) (fun r hr => byt_w a b c d e 2 r hr)
      have s3 := cP4_s (σ := σ) (n := n) (k := 12) (B := byt a b c d e) (w := d) (by omega) (fun r hr => byt_w a b c d e 3 r hr)
      have s4 := cP4_s (σ := σ) (n := n) (k := 16) (B := byt a b c d e) (w := e) (by omega) (fun r hr => byt_w a b c d e 4 r hr)
      rw [s0, s1, s2, s3, s4]
    refine ⟨by grind, by rw [cP4_2]; grind, by rw [cP4_2, cP4_2]; grind, by rw [cP4_2, cP4_2, cP4_2]; grind, by rw [cP4_2, cP4_2, cP4_2, cP4_2]; grind, ?_⟩
    rw [eP, cApp_2]
    rw [e0, show (20 : Int32) = iN 20 from rfl, iN_add] at hK
    exact hK
  · have h := Decidable.not_not.mp h
    rw [if_pos h, if_pos h] at hK; exact hK
noncomputable def f108 : gD := fun Lv σ => match Lv with
  | [some (.ref q0), some (.int a), some (.int b), some (.int c), some (.int d), some (.int e)] => cond (Nat.beq q0 0) (some (some (0 ≤ σ 2 1 ∧ σ 2 1 ≤ 1000), some (.int (if 1000 < σ 2 1 + 20 then -1 else σ 2 1 + 20)), if 1000 < σ 2 1 + 20 then σ else cApp σ (σ 2 1).toNatClampNeg (byt a b c d e) 20)) none
  | _ => none
theorem ok108 : gFok 108 f108 := by
  intro Lv σ q h hc K hK
  unfold f108 at h
  split at h
  · rename_i q0 a b c d e
    obtain ⟨hb, h⟩ := c_no h
    have hb0 := hb
    have e0 := b_eq hb0
    subst e0
    cases h
    exact s108 (hc _ rfl) hK
  · cases h
set_option maxRecDepth 20000 in
theorem w109 {σ : gS} {K : gK} {n : Int32} (h : ((¬ (bI ((0 : Int32) ≤ n ∧ n ≤ (σ 2 1))) = 0 → K (some (.int ((gup σ 2 1 ((σ 2 1) - n)) 2 1))) (gup σ 2 1 ((σ 2 1) - n))) ∧ ((bI ((0 : Int32) ≤ n ∧ n ≤ (σ 2 1))) = 0 → K (some (.int (-1))) σ))) : gE 109 0 [some (.ref 0), some (.int n)] [] σ K :=
  gw_run (cy := 109) (cuts := []) (inl := []) (pf := gpdf) gpdf_ok 400 (by decide) h
theorem s109 {σ : gS} {K : gK} {n : Int32} (hK : K (some (.int (if 0 ≤ n ∧ n ≤ σ 2 1 then σ 2 1 - n else -1))) (if 0 ≤ n ∧ n ≤ σ 2 1 then gup σ 2 1 (σ 2 1 - n) else σ)) : gE 109 0 [some (.ref 0), some (.int n)] [] σ K := by
  refine w109 ?_
  simp only [bI_0]
  rw [gup_at]
  refine ⟨fun h => ?_, fun h => ?_⟩
  · have h := Decidable.not_not.mp h
    rw [if_pos h, if_pos h] at hK
    exact hK
  · rw [if_neg h, if_neg h] at hK
    exact hK
noncomputable def f109 : gD := fun Lv σ => match Lv with
  | [some (.ref q0), some (.int n)] => cond (Nat.beq q0 0) (some (none, some (.int (if 0 ≤ n ∧ n ≤ σ 2 1 then σ 2 1 - n else -1)), if 0 ≤ n ∧ n ≤ σ 2 1 then gup σ 2 1 (σ 2 1 - n) else σ)) none
  | _ => none
theorem ok109 : gFok 109 f109 := by
  intro Lv σ q h hc K hK
  unfold f109 at h
  split at h
  · rename_i q0 n
    obtain ⟨hb, h⟩ := c_no h
    have hb0 := hb
    have e0 := b_eq hb0
    subst e0
    cases h
    exact s109 hK
  · cases h
set_option maxRecDepth 20000 in
theorem w111 {σ : gS} {K : gK} (h : K (some (.int (σ 0 9))) σ) : gE 111 0 [some (.ref 0)] [] σ K :=
  gw_run (cy := 111) (cuts := []) (inl := []) (pf := gpdf) gpdf_ok 400 (by decide) h
theorem s111 {σ : gS} {K : gK} (hK : K (some (.int (σ 0 9))) σ) : gE 111 0 [some (.ref 0)] [] σ K := by
  exact w111 hK
noncomputable def f111 : gD := fun Lv σ => match Lv with
  | [some (.ref q0)] => cond (Nat.beq q0 0) (some (none, some (.int (σ 0 9)), σ)) none
  | _ => none
theorem ok111 : gFok 111 f111 := by
  intro Lv σ q h hc K hK
  unfold f111 at h
  split at h
  · rename_i q0
    obtain ⟨hb, h⟩ := c_no h
    have hb0 := hb
    have e0 := b_eq hb0
    subst e0
    cases h
    exact s111 hK
  · cases h
