/-! ANSWERS at travellers and seats that there are -/
section AN
variable {R : gW}
theorem isT_i {t : Nat} (h3 : 0 ≤ R 3 ∧ R 3 ≤ 20) (ht : t < nM R) : isT R (iN t) := by
  obtain ⟨e, l⟩ := nM_of h3
  refine ⟨(iN_le (k := 0) (by decide) (by omega)).mpr (Nat.zero_le _), ?_⟩
  rw [e, show (1 : Int32) = iN 1 from rfl, iN_sub (by omega) (by omega)]
  exact (iN_le (by omega) (by omega)).mpr (by omega)
theorem isT_x {x : Int32} (h3 : 0 ≤ R 3 ∧ R 3 ≤ 20) (hx : isT R x) : ∃ t, t < nM R ∧ x = iN t := ⟨x.toNatClampNeg, isT_nn h3 hx, (iN_of hx.1).1⟩
theorem isS_i {m k : Nat} (h0 : R 0 = iN m) (hm : m ≤ 10) (hk : k < 4 * m) : isS R (iN k) := by
  refine ⟨(iN_le (k := 0) (by decide) (by omega)).mpr (Nat.zero_le _), ?_⟩
  rw [h0, show (4 : Int32) = iN 4 from rfl, iN_mul, show (1 : Int32) = iN 1 from rfl, iN_sub (by omega) (by omega)]
  exact (iN_le (by omega) (by omega)).mpr (by omega)
theorem vO_i {t k : Nat} (h3 : 0 ≤ R 3 ∧ R 3 ≤ 20) (ht : t < nM R) (hk : ¬ (k = 3 ∨ k = 4)) : vO R (iN t) k = fld R t k := by
  have l := (nM_of h3).2
  unfold vO
  rw [if_pos (isT_i h3 ht), if_neg hk, iN_nat (by omega)]
theorem vO_j {t k : Nat} (h3 : 0 ≤ R 3 ∧ R 3 ≤ 20) (ht : t < nM R) (hk : k = 3 ∨ k = 4) : vO R (iN t) k = fld R t k + 9 := by
  have l := (nM_of h3).2
  unfold vO
  rw [if_pos (isT_i h3 ht), if_pos hk, iN_nat (by omega)]
theorem vO9_i {t : Nat} (h3 : 0 ≤ R 3 ∧ R 3 ≤ 20) (ht : t < nM R) : vO9 R (iN t) = fJo R t + 100 := by
  have l := (nM_of h3).2
  unfold vO9
  rw [if_pos (isT_i h3 ht), iN_nat (by omega)]
theorem vO10_i {t : Nat} (h3 : 0 ≤ R 3 ∧ R 3 ≤ 20) (ht : t < nM R) : vO10 R (iN t) = kin R t (fld R t 0 / 8) := by
  have l := (nM_of h3).2
  unfold vO10
  rw [if_pos (isT_i h3 ht), iN_nat (by omega)]
theorem vO11_i {t : Nat} (h3 : 0 ≤ R 3 ∧ R 3 ≤ 20) (ht : t < nM R) : vO11 R (iN t) = fPl R t := by
  have l := (nM_of h3).2
  unfold vO11
  rw [if_pos (isT_i h3 ht), iN_nat (by omega)]
theorem aWm_i {t : Nat} {x : Int32} (h3 : 0 ≤ R 3 ∧ R 3 ≤ 20) (ht : t < nM R) (hx : isS R x) : aWm R (iN t) x = fWhyM R t x := by
  have l := (nM_of h3).2
  unfold aWm
  rw [if_pos ⟨isT_i h3 ht, hx⟩, iN_nat (by omega)]
theorem aJa_i {t : Nat} {x : Int32} (h3 : 0 ≤ R 3 ∧ R 3 ≤ 20) (ht : t < nM R) (hx : isS R x) : aJa R (iN t) x = fJoy R t x + 100 := by
  have l := (nM_of h3).2
  unfold aJa
  rw [if_pos ⟨isT_i h3 ht, hx⟩, iN_nat (by omega)]
theorem aAt_i {x : Int32} (hx : isS R x) : aAt R x = fWho R x := if_pos hx
theorem vBs_i {t : Nat} (h3 : 0 ≤ R 3 ∧ R 3 ≤ 20) (ht : t < nM R) : vBs R (iN t) = rBs R t := by
  have l := (nM_of h3).2
  unfold vBs
  rw [if_pos (isT_i h3 ht), iN_nat (by omega)]
theorem isP_i {a b : Nat} (h3 : 0 ≤ R 3 ∧ R 3 ≤ 20) (ha : a < nM R) (hb : b < nM R) (hne : a ≠ b) : isP R (iN a) (iN b) := by
  have l := (nM_of h3).2
  exact ⟨⟨isT_i h3 ha, isT_i h3 hb⟩, iN_eq (by omega) (by omega) hne⟩
/-! who has a seat -/
theorem who_n {x : Int32} (h : ∀ t, t < nM R → ¬ fld R t 0 = x) : fWho R x = -2 := fnd_none (fun j hj => decide_eq_false (h j hj))
theorem who_t {t : Nat} (s : ∀ t o, t < nM R → o < nM R → fld R t 0 = fld R o 0 → t = o) (h20 : nM R ≤ 20) (ht : t < nM R) : fWho R (fld R t 0) = iN t :=
  fnd_some (decide_eq_true rfl) (fun j hj => decide_eq_false (fun e => by have := s j t (by omega) ht e; omega)) (by omega) ht
theorem fnd_c {P : Nat → Bool} : ∀ n, n < 2147483648 → (fnd P n = -2 ∧ ∀ j, j < n → P j = false) ∨ ∃ k, k < n ∧ fnd P n = iN k ∧ P k = true
  | 0, _ => Or.inl ⟨rfl, fun j hj => absurd hj (Nat.not_lt_zero _)⟩
  | n + 1, hn => by
    rcases fnd_c (P := P) n (by omega) with ⟨e, h⟩ | ⟨k, hk, e, h⟩
    · cases q : P n with
      | true => exact Or.inr ⟨n, Nat.lt_succ_self _, fnd_some q h hn (Nat.lt_succ_self _), q⟩
      | false =>
        have h2 : ∀ j, j < n + 1 → P j = false := fun j hj => by
          rcases Nat.lt_succ_iff_lt_or_eq.mp hj with z | z
          · exact h j z
          · rw [z]; exact q
        exact Or.inl ⟨fnd_none h2, h2⟩
    · refine Or.inr ⟨k, by omega, ?_, h⟩
      unfold fnd
      rw [e, if_neg (iN_ne (by omega))]
theorem who_c (h20 : nM R ≤ 20) (x : Int32) : (fWho R x = -2 ∧ ∀ t, t < nM R → ¬ fld R t 0 = x) ∨ ∃ t, t < nM R ∧ fWho R x = iN t ∧ fld R t 0 = x := by
  rcases fnd_c (P := fun t => decide (fld R t 0 = x)) (nM R) (by omega) with ⟨e, h⟩ | ⟨k, hk, e, h⟩
  · exact Or.inl ⟨e, fun t ht => of_decide_eq_false (h t ht)⟩
  · exact Or.inr ⟨k, hk, e, of_decide_eq_true h⟩
theorem who_lt (h20 : nM R ≤ 20) (x : Int32) : fWho R x < 0 ↔ fWho R x = -2 := by
  rcases who_c h20 x with ⟨e, -⟩ | ⟨t, ht, e, -⟩
  · rw [e]
    exact ⟨fun _ => rfl, fun _ => by decide⟩
  · rw [e]
    constructor
    · intro z
      exact absurd ((iN_lt (m := 0) (by omega) (by decide)).mp z) (Nat.not_lt_zero _)
    · intro z
      exact absurd z (iN_ne (by omega))
/-! JOY: sums of 100 -/
theorem j100 {a b : Int32} (ha : -2000 ≤ a ∧ a ≤ 2000) (hb : -2000 ≤ b ∧ b ≤ 2000) : (a + 100 < b + 100 ↔ a < b) := by
  obtain ⟨a1, a2⟩ := ha
  obtain ⟨b1, b2⟩ := hb
  constructor <;> intro z <;> grind
theorem j200 {a : Int32} (h : -100 ≤ a ∧ a ≤ 100) : -2000 ≤ a ∧ a ≤ 2000 := by
  obtain ⟨a1, a2⟩ := h
  constructor <;> grind
end AN
/-! a traveller on another seat -/
section SEAT
variable {R : gW} {t : Nat} {x : Int32}
theorem fld_seat (o : Nat) {f : Nat} (hf : f < 10) (h0 : ¬ f = 0) : fld (rup R (9 + 10 * t + 0) x) o f = fld R o f := by
  rw [fld_rup (by decide) hf, if_neg (fun z => h0 z.2)]
theorem fld_sea0 {o : Nat} (h : ¬ o = t) : fld (rup R (9 + 10 * t + 0) x) o 0 = fld R o 0 := by
  rw [fld_rup (by decide) (by decide), if_neg (fun z => h z.1)]
theorem kin_seat (b : Int32) : kin (rup R (9 + 10 * t + 0) x) t b = kin R t b := by
  unfold kin
  rw [nM_rup]
  congr 1
  refine cnt_congr (fun o ho => ?_)
  unfold kinP
  rw [fld_seat t (by decide) (by decide), fld_seat o (by decide) (by decide)]
  by_cases q : o = t
  · exact (decide_eq_false (fun z => z.1 q)).trans (decide_eq_false (fun z => z.1 q)).symm
  · rw [fld_sea0 q]
theorem joy_seat (y : Int32) : fJoy (rup R (9 + 10 * t + 0) x) t y = fJoy R t y := by
  unfold fJoy
  rw [kin_seat, fld_seat t (f := 3) (by decide) (by decide), fld_seat t (f := 4) (by decide) (by decide), fld_seat t (f := 5) (by decide) (by decide), fld_seat t (f := 6) (by decide) (by decide)]
theorem jo_seat : fJo (rup R (9 + 10 * t + 0) x) t = fJoy R t x := by
  unfold fJo
  rw [joy_seat, fld_rup (by decide) (by decide), if_pos ⟨rfl, rfl⟩]
theorem SI_seat (s : SI R) (hx : 0 ≤ x ∧ x < 4 * R 0) (hf : ∀ o, o < nM R → ¬ fld R o 0 = x) (hm : fMay R t x) : SI (rup R (9 + 10 * t + 0) x) := by
  obtain ⟨s1, s2, s3, s4⟩ := s
  have e : ∀ o, fld (rup R (9 + 10 * t + 0) x) o 0 = if o = t then x else fld R o 0 := fun o => by
    rw [fld_rup (by decide) (by decide)]
    by_cases q : o = t
    · rw [if_pos ⟨q, rfl⟩, if_pos q]
    · rw [if_neg (fun z => q z.1), if_neg q]
  have e1 : ∀ o, fld (rup R (9 + 10 * t + 0) x) o 1 = fld R o 1 := fun o => by rw [fld_rup (by decide) (by decide), if_neg (by omega)]
  refine ⟨fun o ho => ?_, fun o p ho hp q => ?_, fun o ho => ?_, by rw [rup_ne (by omega), rup_ne (by omega)]; exact s4⟩
  · rw [nM_rup] at ho
    rw [e, rup_ne (by omega)]
    split
    · exact hx
    · exact s1 o ho
  · rw [nM_rup] at ho hp
    rw [e, e] at q
    by_cases q1 : o = t
    · by_cases q2 : p = t
      · rw [q1, q2]
      · rw [if_pos q1, if_neg q2] at q
        exact absurd q.symm (hf p hp)
    · by_cases q2 : p = t
      · rw [if_neg q1, if_pos q2] at q
        exact absurd q (hf o ho)
      · rw [if_neg q1, if_neg q2] at q
        exact s2 o p ho hp q
  · rw [nM_rup] at ho
    unfold fMay
    rw [e, e1, rup_ne (by omega)]
    by_cases q1 : o = t
    · rw [if_pos q1, q1]
      exact hm
    · rw [if_neg q1]
      exact s3 o ho
end SEAT
/-- a contract that leaves all as it was, but for what can be undone -/
def LMx (z : Nat) (L : gL) (B n : Nat) (ρ : gS) (c s : Nat) (v : Value) (c' s' : Nat) : Prop := ∀ h, LX B n ρ [] c s h h → jE z 0 L [] h (fun r h' => r = some v ∧ ∃ τ, Sm ρ τ ∧ LX B n τ [] c' s' h h')
theorem lx_mx {z na mL y pc B n c s c' s' : Nat} {ρ : gS} {A : jAs} {h0 h : jv_H} {Lv : List (Option Value)} {r : List Value} {K : jK} {v : Value} {L : gL} (as : List Value) (hD : jx_chk y pc z na mL 0 10 = true) (hx : LX B n ρ A c s h0 h) (hm : LMx z L B n ρ c s v c' s') (hL : L = as.reverse.map some ++ List.replicate (mL - na) none) (hna : na = as.length) (hw1 : jv_wd r ≤ 8) (hw2 : jv_wd as = na) (hg : ∀ h' τ, Sm ρ τ → LX B n τ A c' s' h0 h' → jE y (pc + 3) Lv (v :: r) h' K) : jE y pc Lv (as ++ r) h K := by
  have ht : (as ++ r).take na = as := by rw [hna, List.take_left' rfl]
  have hd : (as ++ r).drop na = r := by rw [hna, List.drop_left' rfl]
  refine jx_call (z := z) (na := na) (mL := mL) (ck := 0) (ow := 10) hD (by rw [hna, List.length_append]; omega) (by rw [hd]; exact hw1) (by rw [ht]; exact hw2) (Or.inl rfl) ?_
  rw [ht, hd, ← hL]
  have hs : LX B n ρ [] c s h h := LX.start hx.1 hx.2.2.2.1
  refine (hm h hs).mono (fun r1 h1 q => ?_)
  obtain ⟨rfl, τ, q1, q2⟩ := q
  exact hg h1 τ q1 (hx.back q2)
