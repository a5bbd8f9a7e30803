/-! THE REFERENCE: names, the log, what is kept for undo -/
theorem bmod_small {z : Int} (h1 : -2147483648 ≤ z) (h2 : z < 2147483648) : z.bmod (2 ^ 32) = z := by
  have e : (2 ^ 32 : Nat) = 4294967296 := by decide
  rw [e, Int.bmod_def]
  split <;> omega
theorem iN_div {m d : Nat} (hm : m < 2147483648) (hd : d < 2147483648) : iN m / iN d = iN (m / d) := by
  have hq : m / d ≤ m := Nat.div_le_self m d
  have h0 : (0 : Int) ≤ ((m / d : Nat) : Int) := Int.natCast_nonneg _
  apply Int32.toInt_inj.1
  rw [Int32.toInt_div, iN_int hm, iN_int hd, iN_int (by omega), ← Int.ofNat_tdiv, bmod_small (by omega) (by omega)]
theorem iN_sub {m d : Nat} (hm : m < 2147483648) (hd : d ≤ m) : iN m - iN d = iN (m - d) := by
  apply Int32.toInt_inj.1
  rw [Int32.toInt_sub, iN_int hm, iN_int (by omega), iN_int (by omega), bmod_small (by omega) (by omega)]
  omega
theorem iN_mod {m d : Nat} (hm : m < 2147483648) (hd : d < 2147483648) : iN m - iN m / iN d * iN d = iN (m % d) := by
  have h1 : m / d * d ≤ m := Nat.div_mul_le_self m d
  have h2 := Nat.div_add_mod m d
  rw [iN_div hm hd, iN_mul, iN_sub hm h1]
  congr 1
  rw [Nat.mul_comm] at h2
  omega
abbrev isKey (w : Int32) : Prop := w = 13550 ∨ w = 377669 ∨ w = 388978 ∨ w = 692581 ∨ w = 3379448 ∨ w = 10984100 ∨ w = 86887672 ∨ w = 284954995 ∨ w = 291828332 ∨ w = 335086736
/-- how many letters a name has -/
def nsN : Nat → Nat → Nat
  | 0, _ => 0
  | f + 1, m => if m = 0 then 0 else nsN f (m / 27) + 1
def nsz (w : Int32) : Nat := nsN 8 w.toNatClampNeg
def lOf (w : Int32) (i : Nat) : Nat := w.toNatClampNeg / 27 ^ (nsz w - 1 - i) % 27
theorem nsN_le : ∀ f m, nsN f m ≤ f
  | 0, _ => Nat.le_refl 0
  | f + 1, m => by
    have := nsN_le f (m / 27)
    unfold nsN
    split <;> omega
set_option maxRecDepth 20000 in
theorem w193 {σ : gS} {K : gK} {w : Int32} (h : ((w = 13550 → ((1 : Int32) = 0 ∨ (1 : Int32) = 1) ∧ K (some (.int 1)) σ) ∧ (¬ w = 13550 → ((w = 377669 → ((1 : Int32) = 0 ∨ (1 : Int32) = 1) ∧ K (some (.int 1)) σ) ∧ (¬ w = 377669 → ((w = 388978 → ((1 : Int32) = 0 ∨ (1 : Int32) = 1) ∧ K (some (.int 1)) σ) ∧ (¬ w = 388978 → ((w = 692581 → ((1 : Int32) = 0 ∨ (1 : Int32) = 1) ∧ K (some (.int 1)) σ) ∧ (¬ w = 692581 → ((w = 3379448 → ((1 : Int32) = 0 ∨ (1 : Int32) = 1) ∧ K (some (.int 1)) σ) ∧ (¬ w = 3379448 → ((w = 10984100 → ((1 : Int32) = 0 ∨ (1 : Int32) = 1) ∧ K (some (.int 1)) σ) ∧ (¬ w = 10984100 → ((w = 86887672 → ((1 : Int32) = 0 ∨ (1 : Int32) = 1) ∧ K (some (.int 1)) σ) ∧ (¬ w = 86887672 → ((w = 284954995 → ((1 : Int32) = 0 ∨ (1 : Int32) = 1) ∧ K (some (.int 1)) σ) ∧ (¬ w = 284954995 → ((w = 291828332 → ((1 : Int32) = 0 ∨ (1 : Int32) = 1) ∧ K (some (.int 1)) σ) ∧ (¬ w = 291828332 → ((w = 335086736 → ((1 : Int32) = 0 ∨ (1 : Int32) = 1) ∧ K (some (.int 1)) σ) ∧ (¬ w = 335086736 → ((0 : Int32) = 0 ∨ (0 : Int32) = 1) ∧ K (some (.int 0)) σ))))))))))))))))))))) : gE 193 0 [some (.int w)] [] σ K :=
  gw_run (cy := 193) (cuts := []) (inl := []) (pf := gpfJ) gpfJ_ok 400 (by decide) h
theorem s193 {σ : gS} {K : gK} {w : Int32} (hK : K (some (.int (bI (isKey w)))) σ) : gE 193 0 [some (.int w)] [] σ K := by
  refine w193 ?_
  grind (splits := 40) [bI]
noncomputable def f193 : gD := fun Lv σ => match Lv with
  | [some (.int w)] => some (none, some (.int (bI (isKey w))), σ)
  | _ => none
theorem ok193 : gFok 193 f193 := by
  intro Lv σ q h hc K hK
  unfold f193 at h
  split at h
  · rename_i w
    cases h
    exact s193 hK
  · cases h
set_option maxRecDepth 20000 in
theorem w199 {σ : gS} {K : gK} {w : Int32} (h : gE 199 4 [some (.int w), some (.int 0), some (.int w)] [] σ K) : gE 199 0 [some (.int w), none, none] [] σ K :=
  gw_run (cy := 199) (cuts := [4]) (inl := []) (pf := gpfJ) gpfJ_ok 400 (by decide) h
set_option maxRecDepth 20000 in
theorem v199 {σ : gS} {K : gK} {w n l : Int32} (h : ((¬ 0 < l → K (some (.int n)) σ) ∧ (0 < l → (27 : Int32) ≠ 0 ∧ gE 199 4 [some (.int w), some (.int (n + 1)), some (.int (l / 27))] [] σ K))) : gE 199 4 [some (.int w), some (.int n), some (.int l)] [] σ K :=
  gw_run (cy := 199) (cuts := [4]) (inl := []) (pf := gpfJ) gpfJ_ok 400 (by decide) h
theorem s199 {σ : gS} {K : gK} {w : Int32} (hc : 0 ≤ w) (hK : K (some (.int (iN (nsz w)))) σ) : gE 199 0 [some (.int w), none, none] [] σ K := by
  obtain ⟨e, l⟩ := iN_of hc
  have key : ∀ (f m i : Nat), m < 2147483648 → m < 27 ^ f → K (some (.int (iN (i + nsN f m)))) σ → gE 199 4 [some (.int w), some (.int (iN i)), some (.int (iN m))] [] σ K := by
    intro f
    induction f with
    | zero =>
      intro m i h1 h2 hK
      have : m = 0 := by omega
      subst this
      exact v199 ⟨fun _ => hK, fun h => absurd h (by decide)⟩
    | succ f ih =>
      intro m i h1 h2 hK
      refine v199 ⟨fun h => ?_, fun h => ⟨by decide, ?_⟩⟩
      · have : ¬ 0 < m := fun q => h ((iN_lt (k := 0) (by decide) h1).mpr q)
        have : m = 0 := by omega
        subst this
        exact hK
      · have h0 : 0 < m := (iN_lt (k := 0) (by decide) h1).mp h
        have e1 : nsN (f + 1) m = nsN f (m / 27) + 1 := if_neg (by omega)
        have e2 : iN m / 27 = iN (m / 27) := iN_div h1 (by decide)
        rw [e1] at hK
        rw [e2, iN_one]
        refine ih (m / 27) (i + 1) (by omega) ?_ ?_
        · rw [Nat.pow_succ] at h2
          omega
        · rw [show i + 1 + nsN f (m / 27) = i + (nsN f (m / 27) + 1) by omega]
          exact hK
  refine w199 ?_
  have h := key 8 w.toNatClampNeg 0 l (Nat.lt_trans l (by decide)) (by rw [Nat.zero_add]; exact hK)
  rw [← e] at h
  exact h
noncomputable def f199 : gD := fun Lv σ => match Lv with
  | [some (.int w), none, none] => some (some (0 ≤ w), some (.int (iN (nsz w))), σ)
  | _ => none
theorem ok199 : gFok 199 f199 := by
  intro Lv σ q h hc K hK
  unfold f199 at h
  split at h
  · rename_i w
    cases h
    exact s199 (hc _ rfl) hK
  · cases h
noncomputable def gpfK_l : List (Nat × gD) := (193, f193) :: (199, f199) :: gpfJ_l
noncomputable def gpfK : gP := gpl0 gpfK_l
theorem gpfK_ok : gPok gpfK := gpl0_cons ok193 (gpl0_cons ok199 (gpfJ_ok))
set_option maxRecDepth 20000 in
theorem w198 {σ : gS} {K : gK} {w : Int32} (h : (0 ≤ w) ∧ ((5 < (iN (nsz w)) → ((0 : Int32) = 0 ∨ (0 : Int32) = 1) ∧ K (some (.int 0)) σ) ∧ (¬ 5 < (iN (nsz w)) → ((¬ (bI (isKey w)) = 0 → ((0 : Int32) = 0 ∨ (0 : Int32) = 1) ∧ K (some (.int 0)) σ) ∧ ((bI (isKey w)) = 0 → ((1 : Int32) = 0 ∨ (1 : Int32) = 1) ∧ K (some (.int 1)) σ))))) : gE 198 0 [some (.int w)] [] σ K :=
  gw_run (cy := 198) (cuts := []) (inl := []) (pf := gpfK) gpfK_ok 400 (by decide) h
theorem s198 {σ : gS} {K : gK} {w : Int32} (hc : 0 ≤ w) (hK : K (some (.int (bI (nsz w ≤ 5 ∧ ¬ isKey w)))) σ) : gE 198 0 [some (.int w)] [] σ K := by
  have h8 : nsz w ≤ 8 := nsN_le 8 _
  have e : 5 < iN (nsz w) ↔ 5 < nsz w := iN_lt (k := 5) (by decide) (by omega)
  refine w198 ⟨hc, ?_⟩
  simp only [bI_0, e]
  refine ⟨fun h => ⟨by decide, ?_⟩, fun h => ⟨fun h2 => ⟨by decide, ?_⟩, fun h2 => ⟨by decide, ?_⟩⟩⟩
  · rw [bI_f (fun q => by omega)] at hK; exact hK
  · rw [bI_f (fun q => h2 q.2)] at hK; exact hK
  · rw [bI_t ⟨by omega, h2⟩] at hK; exact hK
noncomputable def f198 : gD := fun Lv σ => match Lv with
  | [some (.int w)] => some (some (0 ≤ w), some (.int (bI (nsz w ≤ 5 ∧ ¬ isKey w))), σ)
  | _ => none
theorem ok198 : gFok 198 f198 := by
  intro Lv σ q h hc K hK
  unfold f198 at h
  split at h
  · rename_i w
    cases h
    exact s198 (hc _ rfl) hK
  · cases h
set_option maxRecDepth 20000 in
theorem w200 {σ : gS} {K : gK} {w x : Int32} (h : (0 ≤ w) ∧ gE 200 9 [some (.int w), some (.int x), some (.int w), some (.int ((iN (nsz w)) - 1))] [] σ K) : gE 200 0 [some (.int w), some (.int x), none, none] [] σ K :=
  gw_run (cy := 200) (cuts := [9]) (inl := []) (pf := gpfK) gpfK_ok 400 (by decide) h
set_option maxRecDepth 20000 in
theorem v200 {σ : gS} {K : gK} {w x l k : Int32} (h : ((¬ x < k → (27 : Int32) ≠ 0 ∧ K (some (.int (l - l / 27 * 27))) σ) ∧ (x < k → (27 : Int32) ≠ 0 ∧ gE 200 9 [some (.int w), some (.int x), some (.int (l / 27)), some (.int (k + (-1)))] [] σ K))) : gE 200 9 [some (.int w), some (.int x), some (.int l), some (.int k)] [] σ K :=
  gw_run (cy := 200) (cuts := [9]) (inl := []) (pf := gpfK) gpfK_ok 400 (by decide) h
theorem s200 {σ : gS} {K : gK} {w x : Int32} (hc : 0 ≤ w ∧ (0 ≤ x ∧ x < 20)) (hK : K (some (.int (iN (lOf w x.toNatClampNeg)))) σ) : gE 200 0 [some (.int w), some (.int x), none, none] [] σ K := by
  obtain ⟨hw, hx⟩ := hc
  obtain ⟨e, l⟩ := iN_of hw
  obtain ⟨ex, lx⟩ := t20 hx
  obtain ⟨m, hm⟩ : ∃ m, x.toNatClampNeg = m := ⟨_, rfl⟩
  rw [hm] at ex lx hK
  subst ex
  have h8 : nsz w ≤ 8 := nsN_le 8 _
  have key : ∀ (d q : Nat), q < 2147483648 → d < 20 → K (some (.int (iN (q / 27 ^ d % 27)))) σ → gE 200 9 [some (.int w), some (.int (iN m)), some (.int (iN q)), some (.int (iN (m + d)))] [] σ K := by
    intro d
    induction d with
    | zero =>
      intro q hq _ hK
      refine v200 ⟨fun _ => ⟨by decide, ?_⟩, fun h => ?_⟩
      · rw [show (27 : Int32) = iN 27 from rfl, iN_mod hq (by decide)]
        rw [Nat.pow_zero, Nat.div_one] at hK
        exact hK
      · rw [iN_lt (by omega) (by omega)] at h; omega
    | succ d ih =>
      intro q hq hd hK
      refine v200 ⟨fun h => ?_, fun _ => ⟨by decide, ?_⟩⟩
      · rw [iN_lt (by omega) (by omega)] at h; omega
      · have e2 : iN q / 27 = iN (q / 27) := iN_div hq (by decide)
        have e3 : iN (m + (d + 1)) + -1 = iN (m + d) := by
          rw [show m + (d + 1) = m + d + 1 by omega, ← iN_one (m + d)]
          grind
        rw [e2, e3]
        refine ih (q / 27) (by omega) (by omega) ?_
        rw [Nat.div_div_eq_div_mul, Nat.mul_comm, ← Nat.pow_succ]
        exact hK
  refine w200 ⟨hw, ?_⟩
  by_cases h1 : m + 1 ≤ nsz w
  · have h := key (nsz w - 1 - m) w.toNatClampNeg l (by omega) hK
    rw [← e, show m + (nsz w - 1 - m) = nsz w - 1 by omega] at h
    rw [show (1 : Int32) = iN 1 from rfl, iN_sub (by omega) (by omega)]
    exact h
  · have hz : nsz w - 1 - m = 0 := by omega
    unfold lOf at hK
    rw [hz, Nat.pow_zero, Nat.div_one] at hK
    refine v200 ⟨fun _ => ⟨by decide, ?_⟩, fun h => ?_⟩
    · rw [e, show (27 : Int32) = iN 27 from rfl, iN_mod l (by decide)]
      exact hK
    · exfalso
      rw [Int32.lt_iff_toInt_lt, Int32.toInt_sub, iN_int (by omega), iN_int (by omega), show (1 : Int32).toInt = 1 from rfl, bmod_small (by omega) (by omega)] at h
      omega
noncomputable def f200 : gD := fun Lv σ => match Lv with
  | [some (.int w), some (.int x), none, none] => some (some (0 ≤ w ∧ (0 ≤ x ∧ x < 20)), some (.int (iN (lOf w x.toNatClampNeg))), σ)
  | _ => none
theorem ok200 : gFok 200 f200 := by
  intro Lv σ q h hc K hK
  unfold f200 at h
  split at h
  · rename_i w x
    cases h
    exact s200 (hc _ rfl) hK
  · cases h
noncomputable def gpfL_l : List (Nat × gD) := (198, f198) :: (200, f200) :: gpfK_l
noncomputable def gpfL : gP := gpl0 gpfL_l
theorem gpfL_ok : gPok gpfL := gpl0_cons ok198 (gpl0_cons ok200 (gpfK_ok))
