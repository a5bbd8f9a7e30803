-- text 55
/-! RELATION: the name on the tape -/
def dgt (T : gW) (i : Nat) : Nat := (T i).toNatClampNeg - 96
def nRd (d : Nat → Nat) : Nat → Nat
  | 0 => 0
  | k + 1 => 27 * nRd d k + d k
def nCd (d : Nat → Nat) : Nat → Nat
  | 0 => 0
  | k + 1 => nCd d k + d k * 32 ^ k
theorem dgt_of {x : Int32} (h : isSm x) : x = iN (96 + (x.toNatClampNeg - 96)) ∧ 1 ≤ x.toNatClampNeg - 96 ∧ x.toNatClampNeg - 96 ≤ 26 := by
  obtain ⟨h1, h2⟩ := h
  obtain ⟨e, l⟩ := iN_of (show 0 ≤ x by grind)
  obtain ⟨m, hm⟩ : ∃ m, x.toNatClampNeg = m := ⟨_, rfl⟩
  rw [hm] at e l ⊢
  rw [e] at h1 h2 ⊢
  have g1 : 97 ≤ m := (iN_le (k := 97) (by decide) l).mp h1
  have g2 : m ≤ 122 := (iN_le (m := 122) l (by decide)).mp h2
  refine ⟨by rw [show 96 + (m - 96) = m by omega], by omega, by omega⟩
theorem shl_d : ∀ d, d < 27 → ∀ k, k < 5 → iN d <<< (iN (5 * k) &&& 31) = iN (d * 32 ^ k) := by decide +kernel
theorem iN_or (a b : Nat) : iN a ||| iN b = iN (a ||| b) := by
  apply Int32.toBitVec_inj.mp
  rw [Int32.toBitVec_or]
  show BitVec.ofNat 32 a ||| BitVec.ofNat 32 b = BitVec.ofNat 32 (a ||| b)
  rw [BitVec.ofNat_or]
theorem nCd_lt {d : Nat → Nat} : ∀ {k : Nat}, (∀ i, i < k → d i ≤ 26) → nCd d k < 32 ^ k
  | 0, _ => Nat.zero_lt_one
  | k + 1, h => by
    have ih := nCd_lt (d := d) (k := k) (fun i hi => h i (by omega))
    have hk := h k (by omega)
    have e : nCd d (k + 1) = nCd d k + d k * 32 ^ k := rfl
    rw [e, Nat.pow_succ]
    have : d k * 32 ^ k ≤ 26 * 32 ^ k := Nat.mul_le_mul_right _ hk
    omega
theorem pk_or {m d k : Nat} (hm : m < 32 ^ k) : m ||| (d * 32 ^ k) = m + d * 32 ^ k := by
  have e : (32 : Nat) ^ k = 2 ^ (5 * k) := by rw [Nat.pow_mul]
  rw [e] at hm ⊢
  have := Nat.two_pow_add_eq_or_of_lt hm d
  rw [Nat.or_comm, Nat.mul_comm d, ← this, Nat.add_comm]
theorem cPk_e {T : gW} {L : Nat} (hs : smA T L) : ∀ {k : Nat}, k ≤ 5 → k ≤ L → cPk T L 0 k = iN (nCd (dgt T) k)
  | 0, _, _ => rfl
  | k + 1, h5, hL => by
    have ih := cPk_e hs (k := k) (by omega) (by omega)
    obtain ⟨e1, e2, e3⟩ := dgt_of (hs k (by omega))
    have hb : cBy T L (0 + k) - 97 + 1 = iN (dgt T k) := by
      unfold cBy dgt
      rw [Nat.zero_add, if_pos (by omega), e1]
      obtain ⟨m, hm⟩ : ∃ m, (T k).toNatClampNeg - 96 = m := ⟨_, rfl⟩
      rw [hm] at e2 e3 ⊢
      rw [iN_nat (by omega), show 96 + m - 96 = m by omega]
      have : iN (96 + m) - 97 = iN (m - 1) := by
        rw [show m - 1 = 96 + m - 97 by omega]
        exact iN_sub (d := 97) (by omega) (by omega)
      rw [this, iN_one, show m - 1 + 1 = m by omega]
    show cPk T L 0 k ||| ((cBy T L (0 + k) - 97 + 1) <<< (iN (5 * k) &&& 31)) = _
    rw [ih, hb, shl_d _ (show dgt T k < 27 from by unfold dgt; omega) k (by omega), iN_or, pk_or (nCd_lt (fun i hi => ?_))]
    · rfl
    · exact (dgt_of (hs i (by omega))).2.2
theorem nRd_lt {d : Nat → Nat} : ∀ {k : Nat}, (∀ i, i < k → d i ≤ 26) → nRd d k < 27 ^ k
  | 0, _ => Nat.zero_lt_one
  | k + 1, h => by
    have ih := nRd_lt (d := d) (k := k) (fun i hi => h i (by omega))
    have hk := h k (by omega)
    have e : nRd d (k + 1) = 27 * nRd d k + d k := rfl
    rw [e, Nat.pow_succ]
    omega
theorem tnm_e {T : gW} : ∀ {k : Nat}, k ≤ 5 → smA T k → tnm T k = iN (nRd (dgt T) k)
  | 0, _, _ => rfl
  | k + 1, h5, hs => by
    have ih := tnm_e (T := T) (k := k) (by omega) (fun j hj => hs j (by omega))
    obtain ⟨e1, e2, e3⟩ := dgt_of (hs k (by omega))
    show 27 * tnm T k + T k - 96 = iN (27 * nRd (dgt T) k + dgt T k)
    have q : (27 : Int32) = iN 27 := rfl
    rw [ih, e1, q, iN_mul, iN_add]
    have l : nRd (dgt T) k < 27 ^ 4 := Nat.lt_of_lt_of_le (nRd_lt (fun i hi => (dgt_of (hs i (by omega))).2.2)) (Nat.pow_le_pow_right (by decide) (by omega))
    have l2 : (27 : Nat) ^ 4 = 531441 := by decide
    rw [l2] at l
    rw [show 27 * nRd (dgt T) k + dgt T k = 27 * nRd (dgt T) k + (96 + ((T k).toNatClampNeg - 96)) - 96 by unfold dgt; omega]
    exact iN_sub (d := 96) (by omega) (by omega)
theorem foldr_z (l : List Nat) (z : Nat) : l.foldr (fun x s => x + 32 * s) z = l.foldr (fun x s => x + 32 * s) 0 + 32 ^ l.length * z := by
  induction l with
  | nil => simp
  | cons x l ih =>
    rw [List.foldr_cons, List.foldr_cons, ih, List.length_cons, Nat.pow_succ, Nat.mul_add, ← Nat.add_assoc]
    congr 1
    rw [Nat.mul_comm (32 ^ l.length) 32, Nat.mul_assoc]
theorem nm_fold (d : Nat → Nat) : ∀ k, ((List.range k).map d).foldl (fun s x => 27 * s + x) 0 = nRd d k ∧ ((List.range k).map d).foldr (fun x s => x + 32 * s) 0 = nCd d k
  | 0 => ⟨rfl, rfl⟩
  | k + 1 => by
    obtain ⟨i1, i2⟩ := nm_fold d k
    rw [List.range_succ, List.map_append, List.foldl_append, List.foldr_append, i1]
    refine ⟨rfl, ?_⟩
    show List.foldr _ (d k + 32 * 0) _ = _
    rw [foldr_z, i2, List.length_map, List.length_range]
    show _ = nCd d k + d k * 32 ^ k
    rw [Nat.mul_zero, Nat.add_zero, Nat.mul_comm (d k)]
/-- the two names stand for the same letters -/
theorem nm_ok {T : gW} {L : Nat} (h1 : 1 ≤ L) (h5 : L ≤ 5) (hs : smA T L) : nmR (cPk T L 0 L) (tnm T L) := by
  refine ⟨(List.range L).map (dgt T), ?_, ?_, ?_, ?_⟩
  · rw [List.length_map, List.length_range]
    exact ⟨h1, h5⟩
  · intro x hx
    rw [List.mem_map] at hx
    obtain ⟨i, hi, rfl⟩ := hx
    rw [List.mem_range] at hi
    exact (dgt_of (hs i hi)).2
  · rw [cPk_e hs h5 (Nat.le_refl _), (nm_fold _ _).2]
  · rw [tnm_e h5 hs, (nm_fold _ _).1]
-- text 56
/-! RELATION: whether the tape is a name -/
theorem skp_all {P : Nat → Bool} : ∀ {d s : Nat}, skp P d s = s + d ↔ ∀ i, i < d → P (s + i) = true
  | 0, s => ⟨fun _ i hi => absurd hi (Nat.not_lt_zero _), fun _ => rfl⟩
  | d + 1, s => by
    have ih := skp_all (P := P) (d := d) (s := s + 1)
    have b := skp_b (P := P) (d := d) (s := s + 1)
    unfold skp
    by_cases h : P s = true
    · rw [if_pos h, show s + (d + 1) = s + 1 + d by omega, ih]
      refine ⟨fun q i hi => ?_, fun q i hi => ?_⟩
      · by_cases e : i = 0
        · subst e; exact h
        · have := q (i - 1) (by omega)
          rw [show s + 1 + (i - 1) = s + i by omega] at this
          exact this
      · rw [show s + 1 + i = s + (i + 1) by omega]
        exact q (i + 1) (by omega)
    · rw [if_neg h]
      refine ⟨fun q => by omega, fun q => absurd (q 0 (by omega)) h⟩
theorem cKd_2 {w : Int32} : cKd w = 2 ↔ isSm w := by
  unfold cKd isSm
  grind
/-- letters alone stand on the tape -/
theorem tok_sm {T : gW} {L : Nat} : (tkS T L 0 = 0 ∧ tkE T L 0 = L ∧ tkK T L 0 = 2) ↔ (1 ≤ L ∧ smA T L) := by
  have k0 : tkS T L 0 = 0 → (tkK T L 0 = 2 ↔ (0 < L ∧ isSm (T 0))) := by
    intro h
    unfold tkK
    rw [h, cKd_2]
    unfold cBy
    by_cases hL : 0 < L
    · rw [if_pos hL]
      exact ⟨fun q => ⟨hL, q⟩, fun q => q.2⟩
    · rw [if_neg hL]
      exact ⟨fun q => absurd q (by decide), fun q => absurd q.1 hL⟩
  have run : tkS T L 0 = 0 → tkK T L 0 = 2 → 0 < L → (tkE T L 0 = L ↔ ∀ i, i < L - 1 → isSm (T (1 + i))) := by
    intro h1 h2 hL
    unfold tkE
    rw [if_pos (Or.inl h2), h1, h2, Nat.zero_add]
    have := skp_all (P := fun i => decide (cKd (T i) = 2)) (d := L - 1) (s := 1)
    rw [show 1 + (L - 1) = L by omega] at this
    rw [this]
    simp only [decide_eq_true_eq, cKd_2]
  constructor
  · rintro ⟨h1, h2, h3⟩
    obtain ⟨hL, h0⟩ := (k0 h1).mp h3
    have hr := (run h1 h3 hL).mp h2
    refine ⟨hL, fun j hj => ?_⟩
    by_cases e : j = 0
    · subst e; exact h0
    · have := hr (j - 1) (by omega)
      rw [show 1 + (j - 1) = j by omega] at this
      exact this
  · rintro ⟨hL, hs⟩
    have h1 : tkS T L 0 = 0 := by
      unfold tkS
      rw [show L - 0 = (L - 1) + 1 by omega]
      unfold skp
      have h0 := (cKd_2 (w := T 0)).mpr (hs 0 (by omega))
      rw [if_neg]
      simp only [decide_eq_true_eq]
      rw [h0]
      decide
    have h3 := (k0 h1).mpr ⟨by omega, hs 0 (by omega)⟩
    exact ⟨h1, (run h1 h3 (by omega)).mpr (fun i hi => hs (1 + i) (by omega)), h3⟩
/-- the class's word, letter by letter -/
theorem cWd_e {σ : gS} {B : List Int32} {L : Nat} (hL : σ 2 1 = iN L) (l : L ≤ 1000) (h1 : tkS (σ 3) L 0 = 0) (h2 : tkE (σ 3) L 0 = L) (h3 : tkK (σ 3) L 0 = 2) (hB : B.length ≤ 10) : cWd (cBeg σ) B ↔ (L = B.length ∧ ∀ i, i < L → σ 3 i = B.getD i 0) := by
  have nL : (σ 2 1).toNatClampNeg = L := by rw [hL, iN_nat (by omega)]
  obtain ⟨c1, c2, c3⟩ := cBeg_1 (σ := σ)
  rw [nL] at c1 c2 c3
  unfold cWd
  rw [c1, c2, c3, h1, h2, h3, cBeg_ne (by decide), cBeg_ne (by decide), nL]
  have e0 : iN L - iN 0 = iN L := by show iN L - 0 = iN L; grind
  have en : (iN 0).toNatClampNeg = 0 := rfl
  rw [e0, en, iN_inj (by omega) (by omega)]
  refine ⟨fun q => ⟨q.2.1, fun i hi => ?_⟩, fun q => ⟨rfl, q.1, fun i hi => ?_⟩⟩
  · have := q.2.2 i (by omega)
    unfold cBy at this
    rw [Nat.zero_add, if_pos hi] at this
    exact this
  · unfold cBy
    rw [Nat.zero_add, if_pos (by omega)]
    exact q.2 i (by omega)
