/-! COUNTS: places by JOY, free seats -/
theorem cnt_sub {P Q : Nat → Bool} : ∀ n, (∀ i, i < n → P i = true → Q i = true) → cnt P n ≤ cnt Q n
  | 0, _ => Nat.le_refl _
  | n + 1, h => by
    have ih := cnt_sub n (fun i hi => h i (by omega))
    have hn := h n (Nat.lt_succ_self _)
    show cnt P n + (if P n = true then 1 else 0) ≤ cnt Q n + (if Q n = true then 1 else 0)
    by_cases q : P n = true
    · rw [if_pos q, if_pos (hn q)]
      omega
    · rw [if_neg q]
      omega
theorem cnt_lt {P Q : Nat → Bool} {j : Nat} : ∀ n, (∀ i, i < n → P i = true → Q i = true) → j < n → Q j = true → ¬ P j = true → cnt P n < cnt Q n
  | 0, _, hj, _, _ => absurd hj (Nat.not_lt_zero _)
  | n + 1, h, hj, hq, hp => by
    have hn := h n (Nat.lt_succ_self _)
    show cnt P n + (if P n = true then 1 else 0) < cnt Q n + (if Q n = true then 1 else 0)
    rcases Nat.lt_succ_iff_lt_or_eq.mp hj with z | z
    · have ih := cnt_lt n (fun i hi => h i (by omega)) z hq hp
      by_cases q : P n = true
      · rw [if_pos q, if_pos (hn q)]
        omega
      · rw [if_neg q]
        omega
    · subst z
      have := cnt_sub j (fun i hi => h i (by omega))
      rw [if_neg hp, if_pos hq]
      omega
/-- distinct numbers: at most one has a value -/
theorem cnt_one {f : Nat → Nat} {k : Nat} : ∀ n, (∀ a b, a < n → b < n → f a = f b → a = b) → cnt (fun t => decide (f t = k)) n ≤ 1
  | 0, _ => Nat.zero_le _
  | n + 1, h => by
    have ih := cnt_one (f := f) (k := k) n (fun a b ha hb => h a b (by omega) (by omega))
    show cnt _ n + (if decide (f n = k) = true then 1 else 0) ≤ 1
    by_cases q : f n = k
    · have z : cnt (fun t => decide (f t = k)) n = 0 := cnt_none n (fun j hj => decide_eq_false (fun e => by have := h j n (by omega) (Nat.lt_succ_self _) (e.trans q.symm); omega))
      rw [z, if_pos (decide_eq_true q)]
      exact Nat.le_refl _
    · rw [if_neg (fun z => q (of_decide_eq_true z))]
      exact ih
theorem cnt_few {f : Nat → Nat} {n : Nat} (h : ∀ a b, a < n → b < n → f a = f b → a = b) : ∀ k, cnt (fun t => decide (f t < k)) n ≤ k
  | 0 => by rw [cnt_none n (fun j hj => decide_eq_false (Nat.not_lt_zero _))]; exact Nat.le_refl _
  | k + 1 => by
    have ih := cnt_few h k
    have e : cnt (fun t => decide (f t < k + 1)) n = cnt (fun j => decide (f j < k) || decide (f j = k)) n := cnt_congr (fun j hj => by
      rw [← Bool.decide_or, decide_eq_decide]
      omega)
    have e2 := cnt_or (P := fun j => decide (f j < k)) (Q := fun j => decide (f j = k)) n (fun j hj z => by
      have a := of_decide_eq_true z.1
      have b := of_decide_eq_true z.2
      omega)
    have e3 := cnt_one (f := f) (k := k) n h
    rw [e]
    show cnt (fun j => (fun j => decide (f j < k)) j || (fun j => decide (f j = k)) j) n ≤ k + 1
    rw [e2]
    omega
section RK
variable {R : gW}
noncomputable def rkN (R : gW) (t : Nat) : Nat := cnt (plP R t) (nM R)
theorem fPl_e (t : Nat) : fPl R t = iN (rkN R t) := rfl
theorem pl_iff {t o : Nat} : plP R t o = true ↔ (fJo R t < fJo R o ∨ (fJo R o = fJo R t ∧ o < t)) := by
  unfold plP
  exact decide_eq_true_iff
theorem pl_self (t : Nat) : ¬ plP R t t = true := by
  rw [pl_iff]
  rintro (z | z)
  · exact Int32.lt_irrefl z
  · omega
theorem pl_tot {t o : Nat} (h : t ≠ o) : plP R t o = true ∨ plP R o t = true := by
  rw [pl_iff, pl_iff]
  by_cases q : fJo R t < fJo R o
  · exact Or.inl (Or.inl q)
  · by_cases q2 : fJo R o < fJo R t
    · exact Or.inr (Or.inl q2)
    · have e : fJo R t = fJo R o := Int32.le_antisymm (Int32.not_lt.mp q2) (Int32.not_lt.mp q)
      rcases Nat.lt_or_gt_of_ne h with z | z
      · exact Or.inr (Or.inr ⟨e, z⟩)
      · exact Or.inl (Or.inr ⟨e.symm, z⟩)
theorem pl_tr {t o u : Nat} (h1 : plP R t o = true) (h2 : plP R o u = true) : plP R t u = true := by
  rw [pl_iff] at h1 h2 ⊢
  rcases h1 with a | ⟨a, b⟩ <;> rcases h2 with d | ⟨d, e⟩
  · exact Or.inl (Int32.lt_trans a d)
  · rw [← d] at a
    exact Or.inl a
  · rw [a] at d
    exact Or.inl d
  · exact Or.inr ⟨d.trans a, by omega⟩
theorem rk_mono {t o : Nat} (ho : o < nM R) (h : plP R t o = true) : rkN R o < rkN R t := by
  refine cnt_lt (j := o) (nM R) (fun i _ hi => pl_tr h hi) ho h (pl_self o)
theorem rk_inj : ∀ a b, a < nM R → b < nM R → rkN R a = rkN R b → a = b := by
  intro a b ha hb e
  refine Decidable.not_not.mp (fun hne => ?_)
  rcases pl_tot (R := R) hne with z | z
  · have := rk_mono hb z
    omega
  · have := rk_mono ha z
    omega
theorem rk_lt {t : Nat} (ht : t < nM R) : rkN R t < nM R := by
  have h := cnt_lt (P := plP R t) (Q := fun _ => true) (j := t) (nM R) (fun _ _ _ => rfl) ht rfl (pl_self t)
  rw [cnt_all (P := fun _ => true) (nM R) (fun _ _ => rfl)] at h
  exact h
theorem rk_sur {k : Nat} (hk : k < nM R) : ∃ t, t < nM R ∧ rkN R t = k := by
  have some_hi : ∃ t, t < nM R ∧ k ≤ rkN R t := by
    refine Decidable.not_not.mp (fun hno => ?_)
    have all : ∀ t, t < nM R → decide (rkN R t < k) = true := fun t ht => decide_eq_true (by
      rcases Nat.lt_or_ge (rkN R t) k with z | z
      · exact z
      · exact absurd ⟨t, ht, z⟩ hno)
    have h1 := cnt_few (f := rkN R) (n := nM R) rk_inj k
    rw [cnt_all (P := fun t => decide (rkN R t < k)) (nM R) all] at h1
    omega
  have go : ∀ m, (∃ t, t < nM R ∧ k ≤ rkN R t ∧ rkN R t ≤ m) → ∃ t, t < nM R ∧ rkN R t = k := by
    intro m
    induction m with
    | zero =>
      rintro ⟨t, ht, h1, h2⟩
      exact ⟨t, ht, by omega⟩
    | succ m ih =>
      rintro ⟨t, ht, h1, h2⟩
      by_cases q : rkN R t = k
      · exact ⟨t, ht, q⟩
      · by_cases z : ∃ o, o < nM R ∧ plP R t o = true ∧ k ≤ rkN R o
        · obtain ⟨o, ho, hp, hk2⟩ := z
          have := rk_mono ho hp
          exact ih ⟨o, ho, hk2, by omega⟩
        · have le : rkN R t ≤ cnt (fun o => decide (rkN R o < k)) (nM R) := cnt_sub (nM R) (fun o ho hp => decide_eq_true (by
            rcases Nat.lt_or_ge (rkN R o) k with v | v
            · exact v
            · exact absurd ⟨o, ho, hp, v⟩ z))
          have := cnt_few (f := rkN R) (n := nM R) rk_inj k
          exact ⟨t, ht, by omega⟩
  obtain ⟨t, ht, h⟩ := some_hi
  exact go (rkN R t) ⟨t, ht, h, Nat.le_refl _⟩
theorem rk_of {t : Nat} (h20 : nM R ≤ 20) (ht : t < nM R) : vRk R (iN (rkN R t)) = iN t := by
  have l := rk_lt ht
  unfold vRk
  rw [if_neg (show ¬ iN (rkN R t) < 0 from fun z => absurd ((iN_lt (m := 0) (by omega) (by decide)).mp z) (Nat.not_lt_zero _))]
  unfold fRk
  refine fnd_some (decide_eq_true (fPl_e t)) (fun j hj => decide_eq_false (fun e => ?_)) (by omega) ht
  rw [fPl_e] at e
  have lj := rk_lt (R := R) (t := j) (by omega)
  have := (iN_inj (by omega) (by omega)).mp e
  have := rk_inj (R := R) j t (by omega) ht this
  omega
theorem vRk_i {k : Nat} (h20 : nM R ≤ 20) (hk : k < nM R) : ∃ t, t < nM R ∧ vRk R (iN k) = iN t ∧ rkN R t = k := by
  obtain ⟨t, ht, e⟩ := rk_sur hk
  refine ⟨t, ht, ?_, e⟩
  rw [← e]
  exact rk_of h20 ht
theorem vRk_n (h20 : nM R ≤ 20) : vRk R (iN (nM R)) = -2 := by
  unfold vRk
  rw [if_neg (show ¬ iN (nM R) < 0 from fun z => absurd ((iN_lt (m := 0) (by omega) (by decide)).mp z) (Nat.not_lt_zero _))]
  unfold fRk
  refine fnd_none (fun j hj => decide_eq_false (fun e => ?_))
  rw [fPl_e] at e
  have lj := rk_lt (R := R) (t := j) hj
  have := (iN_inj (by omega) (by omega)).mp e
  omega
/-- taken seats -/
def occ (f : Nat → Nat) : Nat → Nat → Bool
  | 0, _ => false
  | n + 1, s => occ f n s || decide (f n = s)
theorem occ_iff {f : Nat → Nat} {s : Nat} : ∀ n, occ f n s = true ↔ ∃ t, t < n ∧ f t = s
  | 0 => ⟨(fun z => by cases z), (fun ⟨t, z, _⟩ => absurd z (Nat.not_lt_zero _))⟩
  | n + 1 => by
    unfold occ
    rw [Bool.or_eq_true, occ_iff n, decide_eq_true_iff]
    constructor
    · rintro (⟨t, a, b⟩ | z)
      · exact ⟨t, by omega, b⟩
      · exact ⟨n, Nat.lt_succ_self _, z⟩
    · rintro ⟨t, a, b⟩
      rcases Nat.lt_succ_iff_lt_or_eq.mp a with z | z
      · exact Or.inl ⟨t, z, b⟩
      · subst z
        exact Or.inr b
theorem cnt_pt {k : Nat} : ∀ n, cnt (fun j => decide (k = j)) n = if k < n then 1 else 0
  | 0 => by rw [if_neg (Nat.not_lt_zero _)]; rfl
  | n + 1 => by
    show cnt _ n + (if decide (k = n) = true then 1 else 0) = _
    rw [cnt_pt n]
    by_cases q : k = n
    · rw [if_neg (by omega), if_pos (decide_eq_true q), if_pos (by omega)]
    · rw [if_neg (fun z => q (of_decide_eq_true z))]
      by_cases q2 : k < n
      · rw [if_pos q2, if_pos (by omega)]
      · rw [if_neg q2, if_neg (by omega)]
theorem occ_c {f : Nat → Nat} {M : Nat} : ∀ n, (∀ a b, a < n → b < n → f a = f b → a = b) → (∀ t, t < n → f t < M) → cnt (occ f n) M = n
  | 0, _, _ => cnt_none M (fun _ _ => rfl)
  | n + 1, h, hM => by
    have ih := occ_c n (fun a b ha hb => h a b (by omega) (by omega)) (fun t ht => hM t (by omega))
    have e := cnt_or (P := occ f n) (Q := fun j => decide (f n = j)) M (fun j hj z => by
      obtain ⟨t, a, b⟩ := (occ_iff n).mp z.1
      have c := of_decide_eq_true z.2
      have := h t n (by omega) (Nat.lt_succ_self _) (b.trans c.symm)
      omega)
    have e2 : cnt (occ f (n + 1)) M = cnt (fun j => occ f n j || (fun j => decide (f n = j)) j) M := rfl
    rw [e2, e, ih, cnt_pt, if_pos (hM n (Nat.lt_succ_self _))]
theorem free_c {m : Nat} (s : SI R) (h3 : 0 ≤ R 3 ∧ R 3 ≤ 20) (h0 : R 0 = iN m) (hm : m ≤ 10) : cnt (fun k => decide (fWho R (iN k) = -2)) (4 * m) + nM R = 4 * m := by
  have l20 := (nM_of h3).2
  obtain ⟨s1, s2, s3, s4⟩ := s
  have seat : ∀ t, t < nM R → fld R t 0 = iN (fld R t 0).toNatClampNeg ∧ (fld R t 0).toNatClampNeg < 4 * m := fun t ht => by
    obtain ⟨a, b⟩ := s1 t ht
    obtain ⟨e, l⟩ := iN_of a
    refine ⟨e, ?_⟩
    rw [e, h0, show (4 : Int32) = iN 4 from rfl, iN_mul] at b
    exact (iN_lt l (by omega)).mp b
  have oc := occ_c (f := fun t => (fld R t 0).toNatClampNeg) (M := 4 * m) (nM R) (fun a b ha hb e => s2 a b ha hb (by rw [(seat a ha).1, (seat b hb).1]; exact congrArg iN e)) (fun t ht => (seat t ht).2)
  have sp := cnt_or (P := fun k => decide (fWho R (iN k) = -2)) (Q := occ (fun t => (fld R t 0).toNatClampNeg) (nM R)) (4 * m) (fun k hk z => by
    have a := of_decide_eq_true z.1
    obtain ⟨t, ht, e⟩ := (occ_iff (nM R)).mp z.2
    have e : (fld R t 0).toNatClampNeg = k := e
    have := who_t (R := R) s2 l20 ht
    rw [(seat t ht).1, e, a] at this
    exact absurd this.symm (iN_ne (by omega)))
  have al : cnt (fun k => (fun k => decide (fWho R (iN k) = -2)) k || occ (fun t => (fld R t 0).toNatClampNeg) (nM R) k) (4 * m) = 4 * m := cnt_all (4 * m) (fun k hk => by
    rcases who_c l20 (iN k) with ⟨e, -⟩ | ⟨t, ht, -, e⟩
    · show (decide (fWho R (iN k) = -2) || _) = true
      rw [decide_eq_true e, Bool.true_or]
    · have : occ (fun t => (fld R t 0).toNatClampNeg) (nM R) k = true := (occ_iff (nM R)).mpr ⟨t, ht, by
        show (fld R t 0).toNatClampNeg = k
        rw [e, iN_nat (by omega)]⟩
      show (decide (fWho R (iN k) = -2) || occ (fun t => (fld R t 0).toNatClampNeg) (nM R) k) = true
      rw [this, Bool.or_true])
  have al2 : cnt (fun j => decide (fWho R (iN j) = -2) || occ (fun t => (fld R t 0).toNatClampNeg) (nM R) j) (4 * m) = 4 * m := al
  omega
end RK
/-! a number that is one equals itself -/
theorem ord_self (d : FP.Core.Datum) : FP.Core.order d d = none ∨ FP.Core.order d d = some .eq := by
  cases d with
  | nan => exact Or.inl rfl
  | inf s => exact Or.inr (congrArg some (Int.compare_eq_eq.mpr rfl))
  | fin s c q => exact Or.inr (congrArg some (Int.compare_eq_eq.mpr rfl))
