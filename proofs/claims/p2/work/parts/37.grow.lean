/-! ROWS OF NUMBERS: counting, finding, adding up; the reference's row read -/
theorem g_forI {y pc : Nat} {K : gK} (n : Nat) (Lv : Nat → gL) (σf : Nat → gS) (Inv : Nat → Prop) (hend : Inv n → gE y pc (Lv n) [] (σf n) K) (hstep : ∀ k, k < n → Inv k → (Inv (k + 1) → gE y pc (Lv (k + 1)) [] (σf (k + 1)) K) → gE y pc (Lv k) [] (σf k) K) (k : Nat) (hk : k ≤ n) (hi : Inv k) : gE y pc (Lv k) [] (σf k) K := by
  obtain ⟨d, hd⟩ : ∃ d, d = n - k := ⟨_, rfl⟩
  induction d generalizing k with
  | zero =>
    have : k = n := by omega
    subst this
    exact hend hi
  | succ d ih => exact hstep k (by omega) hi (fun h => ih (k + 1) (by omega) h (by omega))
def fnd (P : Nat → Bool) : Nat → Int32
  | 0 => -2
  | n + 1 => if fnd P n = -2 then (if P n = true then iN n else -2) else fnd P n
theorem iN_ne {k : Nat} (h : k < 2147483648) : iN k ≠ -2 := by
  intro e
  have e2 := iN_int h
  rw [e] at e2
  have : (-2 : Int32).toInt = -2 := by decide
  omega
theorem fnd_none {P : Nat → Bool} : ∀ {n : Nat}, (∀ j, j < n → P j = false) → fnd P n = -2
  | 0, _ => rfl
  | n + 1, h => by
    unfold fnd
    rw [fnd_none (fun j hj => h j (by omega)), if_pos rfl, h n (by omega), if_neg (by decide)]
theorem fnd_some {P : Nat → Bool} {k : Nat} (hk : P k = true) (hj : ∀ j, j < k → P j = false) : ∀ {n : Nat}, n < 2147483648 → k < n → fnd P n = iN k
  | 0, _, h => absurd h (Nat.not_lt_zero k)
  | n + 1, hn, h => by
    unfold fnd
    rcases Nat.lt_or_ge k n with q | q
    · rw [fnd_some hk hj (by omega) q, if_neg (iN_ne (by omega))]
    · have : k = n := by omega
      subst this
      rw [fnd_none hj, if_pos rfl, if_pos hk]
def cnt (P : Nat → Bool) : Nat → Nat
  | 0 => 0
  | n + 1 => cnt P n + (if P n = true then 1 else 0)
def sm (g : Nat → Int32) : Nat → Int32
  | 0 => 0
  | n + 1 => sm g n + g n
theorem cnt_le (P : Nat → Bool) : ∀ n, cnt P n ≤ n
  | 0 => Nat.le_refl 0
  | n + 1 => by
    have := cnt_le P n
    unfold cnt
    split <;> omega
theorem cnt_t {P : Nat → Bool} {n : Nat} (h : P n = true) : cnt P (n + 1) = cnt P n + 1 := by
  show cnt P n + (if P n = true then 1 else 0) = _
  rw [if_pos h]
theorem cnt_f {P : Nat → Bool} {n : Nat} (h : ¬ P n = true) : cnt P (n + 1) = cnt P n := by
  show cnt P n + (if P n = true then 1 else 0) = _
  rw [if_neg h]
  rfl
theorem cnt_congr {P Q : Nat → Bool} : ∀ {n : Nat}, (∀ j, j < n → P j = Q j) → cnt P n = cnt Q n
  | 0, _ => rfl
  | n + 1, h => by unfold cnt; rw [cnt_congr (fun j hj => h j (by omega)), h n (by omega)]
theorem sm_congr {f g : Nat → Int32} : ∀ {n : Nat}, (∀ j, j < n → f j = g j) → sm f n = sm g n
  | 0, _ => rfl
  | n + 1, h => by unfold sm; rw [sm_congr (fun j hj => h j (by omega)), h n (by omega)]
theorem fnd_congr {P Q : Nat → Bool} : ∀ {n : Nat}, (∀ j, j < n → P j = Q j) → fnd P n = fnd Q n
  | 0, _ => rfl
  | n + 1, h => by unfold fnd; rw [fnd_congr (fun j hj => h j (by omega)), h n (by omega)]
/-- a train as a row of numbers (the reference's): 0 rows, 1 first, 2 time, 3 how many travellers, 4 .. 8 counts, from 9 on ten numbers for each traveller, 209 how many entries, from 210 on the entries -/
abbrev gW : Type := Nat → Int32
def nM (R : gW) : Nat := (R 3).toNatClampNeg
def fld (R : gW) (t f : Nat) : Int32 := R (9 + 10 * t + f)
theorem nM_of {R : gW} (h : 0 ≤ R 3 ∧ R 3 ≤ 20) : R 3 = iN (nM R) ∧ nM R ≤ 20 := by
  obtain ⟨h1, h2⟩ := iN_of h.1
  refine ⟨h1, ?_⟩
  have h3 : iN (nM R) ≤ iN 20 := by
    show iN (R 3).toNatClampNeg ≤ _
    rw [← h1]
    exact h.2
  exact (iN_le h2 (by decide)).mp h3
theorem ixn (f : Nat) (k : Nat) (hk : k < 20) (hf : f < 20) : (9 + 10 * iN k + iN f).toNatClampNeg = 9 + 10 * k + f := by
  have e : (9 + 10 * iN k + iN f : Int32) = iN (9 + 10 * k + f) := by
    show iN 9 + iN 10 * iN k + iN f = _
    rw [iN_mul, iN_add, iN_add]
  rw [e, iN_nat (by omega)]
theorem ixbn (f : Nat) (k : Nat) (hk : k < 20) (hf : f < 20) : 0 ≤ 9 + 10 * iN k + iN f ∧ 9 + 10 * iN k + iN f < 330 := by
  have e : (9 + 10 * iN k + iN f : Int32) = iN (9 + 10 * k + f) := by
    show iN 9 + iN 10 * iN k + iN f = _
    rw [iN_mul, iN_add, iN_add]
  rw [e]
  constructor
  · show iN 0 ≤ _
    exact (iN_le (by decide) (by omega)).mpr (by omega)
  · show _ < iN 330
    exact (iN_lt (by omega) (by decide)).mpr (by omega)
theorem ix0 {k : Nat} (hk : k < 20) : (9 + 10 * iN k + 0).toNatClampNeg = 9 + 10 * k + 0 := ixn 0 k hk (by decide)
theorem ixb0 {k : Nat} (hk : k < 20) : 0 ≤ 9 + 10 * iN k + 0 ∧ 9 + 10 * iN k + 0 < 330 := ixbn 0 k hk (by decide)
theorem ix1 {k : Nat} (hk : k < 20) : (9 + 10 * iN k + 1).toNatClampNeg = 9 + 10 * k + 1 := ixn 1 k hk (by decide)
theorem ixb1 {k : Nat} (hk : k < 20) : 0 ≤ 9 + 10 * iN k + 1 ∧ 9 + 10 * iN k + 1 < 330 := ixbn 1 k hk (by decide)
theorem ix2 {k : Nat} (hk : k < 20) : (9 + 10 * iN k + 2).toNatClampNeg = 9 + 10 * k + 2 := ixn 2 k hk (by decide)
theorem ixb2 {k : Nat} (hk : k < 20) : 0 ≤ 9 + 10 * iN k + 2 ∧ 9 + 10 * iN k + 2 < 330 := ixbn 2 k hk (by decide)
theorem ix3 {k : Nat} (hk : k < 20) : (9 + 10 * iN k + 3).toNatClampNeg = 9 + 10 * k + 3 := ixn 3 k hk (by decide)
theorem ixb3 {k : Nat} (hk : k < 20) : 0 ≤ 9 + 10 * iN k + 3 ∧ 9 + 10 * iN k + 3 < 330 := ixbn 3 k hk (by decide)
theorem ix4 {k : Nat} (hk : k < 20) : (9 + 10 * iN k + 4).toNatClampNeg = 9 + 10 * k + 4 := ixn 4 k hk (by decide)
theorem ixb4 {k : Nat} (hk : k < 20) : 0 ≤ 9 + 10 * iN k + 4 ∧ 9 + 10 * iN k + 4 < 330 := ixbn 4 k hk (by decide)
theorem ix5 {k : Nat} (hk : k < 20) : (9 + 10 * iN k + 5).toNatClampNeg = 9 + 10 * k + 5 := ixn 5 k hk (by decide)
theorem ixb5 {k : Nat} (hk : k < 20) : 0 ≤ 9 + 10 * iN k + 5 ∧ 9 + 10 * iN k + 5 < 330 := ixbn 5 k hk (by decide)
theorem ix6 {k : Nat} (hk : k < 20) : (9 + 10 * iN k + 6).toNatClampNeg = 9 + 10 * k + 6 := ixn 6 k hk (by decide)
theorem ixb6 {k : Nat} (hk : k < 20) : 0 ≤ 9 + 10 * iN k + 6 ∧ 9 + 10 * iN k + 6 < 330 := ixbn 6 k hk (by decide)
theorem ix7 {k : Nat} (hk : k < 20) : (9 + 10 * iN k + 7).toNatClampNeg = 9 + 10 * k + 7 := ixn 7 k hk (by decide)
theorem ixb7 {k : Nat} (hk : k < 20) : 0 ≤ 9 + 10 * iN k + 7 ∧ 9 + 10 * iN k + 7 < 330 := ixbn 7 k hk (by decide)
theorem ix8 {k : Nat} (hk : k < 20) : (9 + 10 * iN k + 8).toNatClampNeg = 9 + 10 * k + 8 := ixn 8 k hk (by decide)
theorem ixb8 {k : Nat} (hk : k < 20) : 0 ≤ 9 + 10 * iN k + 8 ∧ 9 + 10 * iN k + 8 < 330 := ixbn 8 k hk (by decide)
theorem ix9 {k : Nat} (hk : k < 20) : (9 + 10 * iN k + 9).toNatClampNeg = 9 + 10 * k + 9 := ixn 9 k hk (by decide)
theorem ixb9 {k : Nat} (hk : k < 20) : 0 ≤ 9 + 10 * iN k + 9 ∧ 9 + 10 * iN k + 9 < 330 := ixbn 9 k hk (by decide)
theorem ixc {c : Int32} (h : 0 ≤ c ∧ c < 330) : 0 ≤ c ∧ c < 330 := h
def fWho (R : gW) (x : Int32) : Int32 := fnd (fun t => decide (fld R t 0 = x)) (nM R)
