/-! KNOWN METHODS, LOOPS, NUMBERS -/
abbrev gD : Type := gL → gS → Option (Option Prop × Option Value × gS)
def gFok (z : Nat) (f : gD) : Prop := ∀ (Lv : gL) (σ : gS) (q : Option Prop × Option Value × gS), f Lv σ = some q → (∀ P, q.1 = some P → P) → ∀ K : gK, K q.2.1 q.2.2 → gE z 0 Lv [] σ K
noncomputable def gpl0 (l : List (Nat × gD)) : gP := fun z Lv σ => List.rec (motive := fun _ => Option (Option Prop × Option Value × gS)) none (fun e _ ih => cond (Nat.beq e.1 z) (e.2 Lv σ) ih) l
theorem gpl0_nil : gPok (gpl0 []) := fun z Lv σ q h => by cases h
theorem gpl0_cons {e : Nat × gD} {l : List (Nat × gD)} (he : gFok e.1 e.2) (hl : gPok (gpl0 l)) : gPok (gpl0 (e :: l)) := by
  intro z Lv σ q h hc K hK
  have h : cond (Nat.beq e.1 z) (e.2 Lv σ) (gpl0 l z Lv σ) = some q := h
  cases b : Nat.beq e.1 z with
  | true =>
    rw [b] at h
    rw [← b_eq b]
    exact he Lv σ q h hc K hK
  | false =>
    rw [b] at h
    exact hl z Lv σ q h hc K hK
/-- a loop whose state is known at each turn -/
theorem g_for {y pc : Nat} {K : gK} (n : Nat) (Lv : Nat → gL) (σf : Nat → gS) (hend : gE y pc (Lv n) [] (σf n) K) (hstep : ∀ k, k < n → gE y pc (Lv (k + 1)) [] (σf (k + 1)) K → gE y pc (Lv k) [] (σf k) K) (k : Nat) (hk : k ≤ n) : gE y pc (Lv k) [] (σf k) K := by
  obtain ⟨d, hd⟩ : ∃ d, d = n - k := ⟨_, rfl⟩
  induction d generalizing k with
  | zero =>
    have : k = n := by omega
    rw [this]
    exact hend
  | succ d ih => exact hstep k (by omega) (ih (k + 1) (by omega) (by omega))
/-- truth as a number -/
def bI (p : Prop) [Decidable p] : Int32 := if p then 1 else 0
theorem bI_0 {p : Prop} [Decidable p] : bI p = 0 ↔ ¬ p := by
  unfold bI
  by_cases h : p
  · rw [if_pos h]; exact ⟨fun e => absurd e (by decide), fun e => absurd h e⟩
  · rw [if_neg h]; exact ⟨fun _ => h, fun _ => rfl⟩
theorem bI_01 {p : Prop} [Decidable p] : bI p = 0 ∨ bI p = 1 := by
  unfold bI
  by_cases h : p
  · rw [if_pos h]; exact Or.inr rfl
  · rw [if_neg h]; exact Or.inl rfl
theorem bI_t {p : Prop} [Decidable p] (h : p) : bI p = 1 := if_pos h
theorem bI_f {p : Prop} [Decidable p] (h : ¬ p) : bI p = 0 := if_neg h
/-- small numbers -/
abbrev iN (k : Nat) : Int32 := Int32.ofNat k
theorem iN_int {k : Nat} (h : k < 2147483648) : (iN k).toInt = k := Int32.toInt_ofNat_of_lt (by omega)
theorem iN_lt {k m : Nat} (h : k < 2147483648) (h2 : m < 2147483648) : iN k < iN m ↔ k < m := by
  rw [Int32.lt_iff_toInt_lt, iN_int h, iN_int h2]
  omega
theorem iN_le {k m : Nat} (h : k < 2147483648) (h2 : m < 2147483648) : iN k ≤ iN m ↔ k ≤ m := by
  rw [Int32.le_iff_toInt_le, iN_int h, iN_int h2]
  omega
theorem iN_inj {k m : Nat} (h : k < 2147483648) (h2 : m < 2147483648) : iN k = iN m ↔ k = m := by
  constructor
  · intro e
    have e2 := iN_int h
    rw [e, iN_int h2] at e2
    omega
  · intro e; rw [e]
theorem iN_nat {k : Nat} (h : k < 2147483648) : (iN k).toNatClampNeg = k := sI_clamp h
theorem iN_add (k m : Nat) : iN k + iN m = iN (k + m) := (Int32.ofNat_add k m).symm
theorem iN_one (k : Nat) : iN k + 1 = iN (k + 1) := iN_add k 1
theorem iN_mul (k m : Nat) : iN k * iN m = iN (k * m) := (Int32.ofNat_mul k m).symm
theorem iN_of {x : Int32} (h : 0 ≤ x) : x = iN x.toNatClampNeg ∧ x.toNatClampNeg < 2147483648 := by
  rw [Int32.le_iff_toInt_le] at h
  have h : 0 ≤ x.toInt := h
  have h1 : x.toNatClampNeg = x.toInt.toNat := rfl
  have h2 := Int32.toInt_lt x
  refine ⟨?_, by omega⟩
  apply Int32.toInt_inj.1
  rw [iN_int (by omega)]
  omega
