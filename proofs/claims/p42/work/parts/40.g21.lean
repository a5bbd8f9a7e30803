/-! THE REFERENCE: the tape -/
abbrev isSm (x : Int32) : Prop := 97 ≤ x ∧ x ≤ 122
abbrev isDg (x : Int32) : Prop := 48 ≤ x ∧ x ≤ 57
abbrev RT (σ : gS) : Prop := 0 ≤ σ 323 8 ∧ σ 323 8 ≤ 1000
noncomputable def f187 : gD := fun Lv σ => match Lv with
  | [some (.ref q0), some (.int k)] => cond (Nat.beq q0 323) (some (some ((0 ≤ k) ∧ RT σ), some (.int (bI (k < σ 323 8 ∧ isSm (σ 330 k.toNatClampNeg)))), σ)) none
  | _ => none
noncomputable def f188 : gD := fun Lv σ => match Lv with
  | [some (.ref q0), some (.int k)] => cond (Nat.beq q0 323) (some (some ((0 ≤ k) ∧ RT σ), some (.int (bI (k < σ 323 8 ∧ isDg (σ 330 k.toNatClampNeg)))), σ)) none
  | _ => none
noncomputable def gpfS_l : List (Nat × gD) := gpfR_l
noncomputable def gpfS : gP := gpl0 gpfS_l
theorem gpfS_ok : gPok gpfS := gpfR_ok
/-- k zeros from a on -/
def zsh (R : gW) (a k : Nat) : gW := fun j => if a ≤ j ∧ j < a + k then 0 else R j
theorem zsh_0 (R : gW) (a : Nat) : zsh R a 0 = R := by funext j; unfold zsh; rw [if_neg (by omega)]
theorem zsh_s (R : gW) (a k : Nat) : rup (zsh R a k) (a + k) 0 = zsh R a (k + 1) := by
  funext j
  unfold rup zsh
  by_cases h : j = a + k
  · rw [if_pos h, if_pos (by omega)]
  · rw [if_neg h]
    by_cases h2 : a ≤ j ∧ j < a + k
    · rw [if_pos h2, if_pos (by omega)]
    · rw [if_neg h2, if_neg (by omega)]
/-- a new traveller begun -/
def fNew (R : gW) (x w : Int32) : gW := rup (rup (rup (zsh R (9 + 10 * nM R) 10) (9 + 10 * nM R + 0) x) (9 + 10 * nM R + 9) w) (9 + 10 * nM R + 8) 99
noncomputable def f201 : gD := fun Lv σ => match Lv with
  | [some (.ref p), some (.int x), some (.int w), none, none] => cond (Nat.beq p 324 || Nat.beq p 325) (some (some (0 ≤ σ p 3 ∧ σ p 3 < 20), none, grow σ p (fNew (σ p) x w))) none
  | _ => none
/-- the number of the first k letters -/
def tnm (T : gW) : Nat → Int32
  | 0 => 0
  | k + 1 => 27 * tnm T k + T k - 96
abbrev smA (T : gW) (k : Nat) : Prop := ∀ j, j < k → isSm (T j)
theorem tnm_b {T : gW} : ∀ {k : Nat}, k ≤ 6 → smA T k → ∃ n : Nat, tnm T k = iN n ∧ n < 27 ^ k
  | 0, _, _ => ⟨0, rfl, by decide⟩
  | k + 1, hk, h => by
    obtain ⟨n, e, l⟩ := tnm_b (show k ≤ 6 by omega) (fun j hj => h j (by omega))
    obtain ⟨h1, h2⟩ := h k (by omega)
    obtain ⟨e2, l2⟩ := iN_of (show 0 ≤ T k by grind)
    obtain ⟨m, hm⟩ : ∃ m, (T k).toNatClampNeg = m := ⟨_, rfl⟩
    rw [hm] at e2 l2
    have h1 : 97 ≤ m := by
      rw [e2] at h1
      exact (iN_le (k := 97) (by decide) l2).mp h1
    have h2 : m ≤ 122 := by
      rw [e2] at h2
      exact (iN_le (m := 122) l2 (by decide)).mp h2
    have lp : 27 ^ k ≤ 27 ^ 5 := Nat.pow_le_pow_right (by decide) (by omega)
    have lp : 27 ^ k ≤ 14348907 := lp
    refine ⟨27 * n + m - 96, ?_, ?_⟩
    · show 27 * tnm T k + T k - 96 = _
      rw [e, e2, show (27 : Int32) = iN 27 from rfl, show (96 : Int32) = iN 96 from rfl, iN_mul, iN_add]
      exact iN_sub (by omega) (by omega)
    · rw [Nat.pow_succ]
      omega
def fTn (T : gW) (L : Int32) : Int32 := if (1 ≤ L ∧ L ≤ 5) ∧ smA T L.toNatClampNeg ∧ nsz (tnm T L.toNatClampNeg) ≤ 5 ∧ ¬ isKey (tnm T L.toNatClampNeg) then tnm T L.toNatClampNeg else -1
noncomputable def f207 : gD := fun Lv σ => match Lv with
  | [some (.ref q0), none, none, none] => cond (Nat.beq q0 323) (some (some (RT σ), some (.int (fTn (σ 330) (σ 323 8))), σ)) none
  | _ => none
noncomputable def gpfT_l : List (Nat × gD) := gpfS_l
noncomputable def gpfT : gP := gpl0 gpfT_l
theorem gpfT_ok : gPok gpfT := gpfS_ok
/-! THE REFERENCE: append, truncate, come -/
def wrd (a b c d e : Int32) (k : Nat) : Int32 := if k < 4 then a else if k < 8 then b else if k < 12 then c else if k < 16 then d else e
def byt (a b c d e : Int32) (k : Nat) : Int32 := wrd a b c d e k >>> iN (24 - 8 * (k % 4)) &&& 255
theorem sh20 : ∀ k, k < 20 → (24 - (8 * (iN k - iN k / 4 * 4))) &&& 31 = iN (24 - 8 * (k % 4)) := by decide +kernel
/-- k of the bytes behind n of the tape's -/
def fAp (T : gW) (n : Nat) (B : Nat → Int32) (k : Nat) : gW := fun j => if n ≤ j ∧ j < n + k then B (j - n) else T j
theorem fAp_0 (T : gW) (n : Nat) (B : Nat → Int32) : fAp T n B 0 = T := by funext j; unfold fAp; rw [if_neg (by omega)]
theorem fAp_s (T : gW) (n : Nat) (B : Nat → Int32) (k : Nat) : rup (fAp T n B k) (n + k) (B k) = fAp T n B (k + 1) := by
  funext j
  unfold rup fAp
  by_cases h : j = n + k
  · rw [if_pos h, if_pos (by omega), h, show n + k - n = k by omega]
  · rw [if_neg h]
    by_cases h2 : n ≤ j ∧ j < n + k
    · rw [if_pos h2, if_pos (by omega)]
    · rw [if_neg h2, if_neg (by omega)]
def hAp (σ : gS) (B : Nat → Int32) : gS := if 1000 < σ 323 8 + 20 then σ else grow (grow σ 330 (fAp (σ 330) (σ 323 8).toNatClampNeg B 20)) 323 (rup (σ 323) 8 (σ 323 8 + 20))
theorem l1000 {x : Int32} (h : 0 ≤ x ∧ x ≤ 1000) : x = iN x.toNatClampNeg ∧ x.toNatClampNeg ≤ 1000 := by
  obtain ⟨e, l⟩ := iN_of h.1
  refine ⟨e, ?_⟩
  have h2 := h.2
  rw [e] at h2
  exact (iN_le (m := 1000) l (by decide)).mp h2
noncomputable def f184 : gD := fun Lv σ => match Lv with
  | [some (.ref q0), some (.int a), some (.int b), some (.int c), some (.int d), some (.int e), none, none] => cond (Nat.beq q0 323) (some (some (RT σ), some (.int (if 1000 < σ 323 8 + 20 then -1 else σ 323 8 + 20)), hAp σ (byt a b c d e))) none
  | _ => none
abbrev gTru (L n : Int32) : Prop := ¬ n < 0 ∧ ¬ L < n
noncomputable def f185 : gD := fun Lv σ => match Lv with
  | [some (.ref q0), some (.int n)] => cond (Nat.beq q0 323) (some (none, some (.int (if gTru (σ 323 8) n then σ 323 8 - n else -1)), if gTru (σ 323 8) n then grow σ 323 (rup (σ 323) 8 (σ 323 8 - n)) else σ)) none
  | _ => none
noncomputable def f186 : gD := fun Lv σ => match Lv with
  | [some (.ref q0)] => cond (Nat.beq q0 323) (some (none, some (.int (σ 323 9)), σ)) none
  | _ => none
/-- what come asks of its numbers -/
abbrev okC (σ : gS) (x k f w s : Int32) : Prop := (((((isS (σ 324) x ∧ (0 ≤ k ∧ k ≤ 1)) ∧ (0 ≤ f ∧ f ≤ 9)) ∧ (0 ≤ w ∧ w ≤ 99)) ∧ (1 ≤ s ∧ s ≤ 99)) ∧ ¬ fTn (σ 330) (σ 323 8) < 0)
abbrev gCom (σ : gS) (x k f w s : Int32) : Prop := (okC σ x k f w s ∧ ¬ σ 324 3 = 20) ∧ (fWho (σ 324) x < 0 ∧ (k = 1 ∨ σ 324 1 ≤ x / 4))
def aCom (σ : gS) (x k f w s : Int32) : Int32 := if okC σ x k f w s then (if σ 324 3 = 20 then -3 else if fWho (σ 324) x < 0 ∧ (k = 1 ∨ σ 324 1 ≤ x / 4) then σ 324 3 else -4) else -1
def nCom (R : gW) (x k f w s nm : Int32) : gW := fTe (radd (rup (rup (rup (rup (fNew R x nm) (9 + 10 * nM R + 1) k) (9 + 10 * nM R + 2) f) (9 + 10 * nM R + 7) w) (9 + 10 * nM R + 8) s) 3 1) 0 (R 3) x
def hCom (σ : gS) (x k f w s : Int32) : gS := if gCom σ x k f w s then grow (grow (hKe σ) 323 (rup (hKe σ 323) 8 0)) 324 (nCom (σ 324) x k f w s (fTn (σ 330) (σ 323 8))) else σ
theorem fNew_ne {R : gW} {x w : Int32} {j : Nat} (h : j < 9 + 10 * nM R ∨ 9 + 10 * nM R + 10 ≤ j) : fNew R x w j = R j := by
  unfold fNew
  rw [rup_ne (by omega), rup_ne (by omega), rup_ne (by omega)]
  unfold zsh
  rw [if_neg (by omega)]
noncomputable def f208 : gD := fun Lv σ => match Lv with
  | [some (.ref q0), some (.int x), some (.int k), some (.int f), some (.int w), some (.int s), none, none] => cond (Nat.beq q0 323) (some (some (RS σ ∧ RT σ), some (.int (aCom σ x k f w s)), hCom σ x k f w s)) none
  | _ => none
