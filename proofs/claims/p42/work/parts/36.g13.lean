/-! THE REFERENCE: settling, rows copied -/
theorem nfold_inv {α : Type} {f : Nat → α → α} {P : α → Prop} {s : α} (h0 : P s) : ∀ {n : Nat}, (∀ k s, k < n → P s → P (f k s)) → P (nfold f n s)
  | 0, _ => h0
  | n + 1, h => h n _ (by omega) (nfold_inv h0 (fun k s hk => h k s (by omega)))
def bsO (R : gW) (x : Int32) : Prop := x = -2 ∨ ∃ a b, a < nM R ∧ b < nM R ∧ x = 100 * iN a + iN b
theorem fBest_of (R : gW) : bsO R (fBest R) := by
  have h := nfold_inv (f := bsR R) (P := fun s : Int32 × Int32 => bsO R s.1) (s := (-2, 0)) (Or.inl rfl) (n := nM R) (fun a s ha hs => by
    refine nfold_inv (f := bsS R a) (P := fun s : Int32 × Int32 => bsO R s.1) hs (fun b s hb hs => ?_)
    unfold bsS
    split
    · exact hs
    · split
      · exact hs
      · exact Or.inr ⟨a, b, ha, hb, rfl⟩)
  exact h
theorem dm100 : ∀ a, a < 20 → ∀ b, b < 20 → (100 * iN a + iN b) / 100 = iN a ∧ (100 * iN a + iN b) - (100 * iN a + iN b) / 100 * 100 = iN b ∧ ¬ (100 * iN a + iN b) < 0 := by decide +kernel
def fNx (R : gW) : gW := rsw R (fBest R / 100).toNatClampNeg (fBest R - fBest R / 100 * 100).toNatClampNeg
theorem fNx_3 (R : gW) : fNx R 3 = R 3 := rsw_3 _ _ _
def fSt : Nat → gW → Nat × gW
  | 0, R => (0, R)
  | d + 1, R => if fBest R < 0 then (0, R) else ((fSt d (fNx R)).1 + 1, (fSt d (fNx R)).2)
theorem fSt_lt {d : Nat} {R : gW} (h : fBest R < 0) : fSt (d + 1) R = (0, R) := if_pos h
theorem fSt_ge {d : Nat} {R : gW} (h : ¬ fBest R < 0) : fSt (d + 1) R = ((fSt d (fNx R)).1 + 1, (fSt d (fNx R)).2) := if_neg h
noncomputable def f183 : gD := fun Lv σ => match Lv with
  | [some (.ref p), none, none] => cond (Nat.beq p 326) (some (some (0 ≤ σ p 3 ∧ σ p 3 ≤ 20), some (.int (iN (fSt 99 (σ p)).1)), grow σ p (fSt 99 (σ p)).2)) none
  | _ => none
/-- 330 numbers of S from a on, laid into T from b on: the first k of them -/
def rla (S T : gW) (a b k : Nat) : gW := fun j => if b ≤ j ∧ j < b + k then S (a + (j - b)) else T j
theorem rla_0 (S T : gW) (a b : Nat) : rla S T a b 0 = T := by funext j; unfold rla; rw [if_neg (by omega)]
theorem rla_s (S T : gW) (a b k : Nat) : rup (rla S T a b k) (b + k) (S (a + k)) = rla S T a b (k + 1) := by
  funext j
  unfold rup rla
  by_cases h : j = b + k
  · rw [if_pos h, if_pos (by omega), h, show a + (b + k - b) = a + k by omega]
  · rw [if_neg h]
    by_cases h2 : b ≤ j ∧ j < b + k
    · rw [if_pos h2, if_pos (by omega)]
    · rw [if_neg h2, if_neg (by omega)]
theorem ix_ab {a : Int32} {k n : Nat} (ha : 0 ≤ a ∧ a ≤ iN (n * 330)) (hk : k < 330) (hn : n < 9) : (a + iN k).toNatClampNeg = a.toNatClampNeg + k ∧ 0 ≤ a + iN k ∧ a + iN k < iN (n * 330 + 330) := by
  obtain ⟨e, l⟩ := iN_of ha.1
  have l2 : a.toNatClampNeg ≤ n * 330 := by
    have h := ha.2
    rw [e, iN_le l (by omega)] at h
    exact h
  rw [e, iN_nat l, iN_add, iN_nat (by omega)]
  exact ⟨rfl, (iN_le (k := 0) (by decide) (by omega)).mpr (by omega), (iN_lt (by omega) (by omega)).mpr (by omega)⟩
noncomputable def f153 : gD := fun Lv σ => match Lv with
  | [some (.ref p), some (.int a), some (.ref q), some (.int b), none] => cond ((Nat.beq p 324 && Nat.beq q 326) || (Nat.beq p 325 && Nat.beq q 324) || (Nat.beq p 326 && Nat.beq q 324) || (Nat.beq p 324 && Nat.beq q 327) || (Nat.beq p 327 && Nat.beq q 324) || (Nat.beq p 327 && Nat.beq q 327) || (Nat.beq p 324 && Nat.beq q 328) || (Nat.beq p 328 && Nat.beq q 324)) (some (some ((0 ≤ a ∧ a ≤ iN (gln p - 330)) ∧ (0 ≤ b ∧ b ≤ iN (gln q - 330)) ∧ (p = q → b.toNatClampNeg + 330 ≤ a.toNatClampNeg)), none, grow σ q (rla (σ p) (σ q) a.toNatClampNeg b.toNatClampNeg 330))) none
  | _ => none
noncomputable def gpfJ_l : List (Nat × gD) := gpfI_l
noncomputable def gpfJ : gP := gpl0 gpfJ_l
theorem gpfJ_ok : gPok gpfJ := gpfI_ok
/-! THE REFERENCE: names, the log, what is kept for undo -/
theorem bmod_small {z : Int} (h1 : -2147483648 ≤ z) (h2 : z < 2147483648) : z.bmod (2 ^ 32) = z := by
  have e : (2 ^ 32 : Nat) = 4294967296 := by decide
  rw [e, Int.bmod_def]
  split <;> omega
theorem iN_div {m d : Nat} (hm : m < 2147483648) (hd : d < 2147483648) : iN m / iN d = iN (m / d) := by
  have hq : m / d ≤ m := Nat.div_le_self m d
  have h0 : (0 : Int) ≤ ((m / d : Nat) : Int) := Int.natCast_nonneg _
  apply Int32.toInt_inj.1
  rw [Int32.toInt_div, iN_int hm, iN_int hd, iN_int (by omega), ← Int.ofNat_tdiv, bmod_small (by omega) (by omega)]
theorem iN_sub {m d : Nat} (hm : m < 2147483648) (hd : d ≤ m) : iN m - iN d = iN (m - d) := by
  apply Int32.toInt_inj.1
  rw [Int32.toInt_sub, iN_int hm, iN_int (by omega), iN_int (by omega), bmod_small (by omega) (by omega)]
  omega
theorem iN_mod {m d : Nat} (hm : m < 2147483648) (hd : d < 2147483648) : iN m - iN m / iN d * iN d = iN (m % d) := by
  have h1 : m / d * d ≤ m := Nat.div_mul_le_self m d
  have h2 := Nat.div_add_mod m d
  rw [iN_div hm hd, iN_mul, iN_sub hm h1]
  congr 1
  rw [Nat.mul_comm] at h2
  omega
abbrev isKey (w : Int32) : Prop := w = 13550 ∨ w = 377669 ∨ w = 388978 ∨ w = 692581 ∨ w = 3379448 ∨ w = 10984100 ∨ w = 86887672 ∨ w = 284954995 ∨ w = 291828332 ∨ w = 335086736
/-- how many letters a name has -/
def nsN : Nat → Nat → Nat
  | 0, _ => 0
  | f + 1, m => if m = 0 then 0 else nsN f (m / 27) + 1
def nsz (w : Int32) : Nat := nsN 8 w.toNatClampNeg
def lOf (w : Int32) (i : Nat) : Nat := w.toNatClampNeg / 27 ^ (nsz w - 1 - i) % 27
theorem nsN_le : ∀ f m, nsN f m ≤ f
  | 0, _ => Nat.le_refl 0
  | f + 1, m => by
    have := nsN_le f (m / 27)
    unfold nsN
    split <;> omega
noncomputable def f193 : gD := fun Lv σ => match Lv with
  | [some (.int w)] => some (none, some (.int (bI (isKey w))), σ)
  | _ => none
noncomputable def f199 : gD := fun Lv σ => match Lv with
  | [some (.int w), none, none] => some (some (0 ≤ w), some (.int (iN (nsz w))), σ)
  | _ => none
noncomputable def gpfK_l : List (Nat × gD) := gpfJ_l
noncomputable def gpfK : gP := gpl0 gpfK_l
theorem gpfK_ok : gPok gpfK := gpfJ_ok
noncomputable def f198 : gD := fun Lv σ => match Lv with
  | [some (.int w)] => some (some (0 ≤ w), some (.int (bI (nsz w ≤ 5 ∧ ¬ isKey w))), σ)
  | _ => none
noncomputable def f200 : gD := fun Lv σ => match Lv with
  | [some (.int w), some (.int x), none, none] => some (some (0 ≤ w ∧ (0 ≤ x ∧ x < 20)), some (.int (iN (lOf w x.toNatClampNeg))), σ)
  | _ => none
noncomputable def gpfL_l : List (Nat × gD) := gpfK_l
noncomputable def gpfL : gP := gpl0 gpfL_l
theorem gpfL_ok : gPok gpfL := gpfK_ok
