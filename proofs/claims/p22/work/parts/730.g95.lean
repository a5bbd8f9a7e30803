-- text 95
/-! RELATION: numbers, words, names, signs at a token -/
theorem PT_S {T : gW} {L n : Nat} {σ τ : gS} (hc : PC T L σ τ) (h : PT T L n σ τ) : (σ 1 2).toNatClampNeg = tkS T L n ∧ (σ 1 3).toNatClampNeg = tkE T L n ∧ (σ 2 1).toNatClampNeg = L ∧ tkS T L n ≤ L ∧ tkS T L n < tkE T L n ∧ tkE T L n ≤ L + 1 ∧ σ 1 3 - σ 1 2 = iN (tkE T L n - tkS T L n) := by
  obtain ⟨c1, c2, c3, c4, c5, c6⟩ := hc
  obtain ⟨hn, ⟨a1, a2, a3⟩, b1, b2, b3, b4⟩ := h
  have bS := tkS_b (T := T) hn
  have bE := tkE_b (T := T) hn
  refine ⟨by rw [a1, iN_nat (by omega)], by rw [a2, iN_nat (by omega)], by rw [c2, iN_nat (by omega)], bS.2, bE.1, bE.2, ?_⟩
  rw [a1, a2, iN_sub (by omega) (by omega)]
theorem PT_end {T : gW} {L n : Nat} {σ τ : gS} (hc : PC T L σ τ) (h : PT T L n σ τ) : σ 1 4 = 0 ↔ τ 323 13 = 0 := by
  rw [h.2.1.2.2, h.2.2.2.2.1]
  exact ki_0 h.1 hc.2.2.2.2.2
theorem PT_sg {T : gW} {L n : Nat} {σ τ : gS} (hc : PC T L σ τ) (h : PT T L n σ τ) : (cB0 σ = 59 ↔ τ 323 13 = 3) ∧ (cB0 σ = 43 ↔ τ 323 13 = 4) ∧ (cB0 σ = 45 ↔ τ 323 13 = 5) := by
  obtain ⟨s1, s2, s3, s4, s5, s6, s7⟩ := PT_S hc h
  rw [h.2.2.2.2.1]
  unfold cB0
  rw [s1, s3, hc.1]
  exact ki_s s4
/-- a number -/
theorem PT_nb {T : gW} {L n : Nat} {σ τ : gS} (hc : PC T L σ τ) (h : PT T L n σ τ) : (τ 323 13 = 2 ∧ τ 323 14 = cNu σ) ∨ (¬ τ 323 13 = 2 ∧ cNu σ = -1) := by
  obtain ⟨s1, s2, s3, s4, s5, s6, s7⟩ := PT_S hc h
  rw [h.2.2.2.2.1, h.2.2.2.2.2]
  unfold cNu
  rw [s7, s1, s2, hc.1, h.2.1.2.2]
  have hn := h.1
  have c5 := hc.2.2.2.2.1
  obtain ⟨S, hS⟩ : ∃ S, tkS T L n = S := ⟨_, rfl⟩
  by_cases q : S = L
  · rw [tk_end (by omega), hS]
    right
    unfold rKi
    rw [if_pos q]
    exact ⟨by decide, if_neg (fun z => absurd z.1 (by decide))⟩
  · have hl : tkS T L n < L := by omega
    have eE := tk_e hl
    rw [tk_k hl]
    rw [hS] at eE hl s4 s5 ⊢
    obtain ⟨E, hE⟩ : ∃ E, tkE T L n = E := ⟨_, rfl⟩
    rw [hE] at eE s5 s6 ⊢
    unfold rKi rVa
    rw [if_neg q, if_neg q, ← eE]
    have e2 : 2 < iN (E - S) ↔ 2 < E - S := iN_lt (k := 2) (by decide) (by omega)
    by_cases q1 : isSm (T S)
    · rw [if_pos q1, cKd_2.mpr q1]
      right
      refine ⟨?_, if_neg (fun z => absurd z.1 (by decide))⟩
      split <;> decide
    · rw [if_neg q1, if_neg q1]
      by_cases q2 : isDg (T S)
      · rw [if_pos q2, if_pos q2, cKd_3.mpr q2]
        by_cases q3 : 2 < E - S
        · right
          rw [if_pos q3]
          exact ⟨by decide, if_neg (fun z => z.2 (e2.mpr q3))⟩
        · left
          rw [if_neg q3, if_pos ⟨rfl, fun z => q3 (e2.mp z)⟩, show min (E - S) 2 = E - S by omega]
          exact ⟨rfl, rfl⟩
      · rw [if_neg q2]
        right
        refine ⟨?_, if_neg (fun z => q2 (cKd_3.mp z.1))⟩
        split
        · decide
        · split
          · decide
          · split <;> decide
theorem PT_ok {T : gW} {L n : Nat} {σ τ : gS} {a b : Int32} (hc : PC T L σ τ) (h : PT T L n σ τ) (ha : 0 ≤ a) : ((a ≤ cNu σ ∧ cNu σ ≤ b) ↔ rOk τ a b) ∧ (rOk τ a b → τ 323 14 = cNu σ) := by
  rcases PT_nb hc h with ⟨h1, h2⟩ | ⟨h1, h2⟩
  · refine ⟨?_, fun _ => h2⟩
    unfold rOk
    rw [h2]
    exact ⟨fun z => ⟨h1, z⟩, fun z => z.2⟩
  · refine ⟨⟨fun z => ?_, fun z => absurd z.1 h1⟩, fun z => absurd z.1 h1⟩
    rw [h2] at z
    exact absurd (Int32.le_trans ha z.1) (by decide)
/-- a word, letter by letter -/
theorem PT_w {T : gW} {L n : Nat} {σ τ : gS} (hc : PC T L σ τ) (h : PT T L n σ τ) : (σ 1 4 = 2 ∧ smA (fun k => T (tkS T L n + k)) (tkE T L n - tkS T L n) ∧ tkE T L n ≤ L ∧ (tkE T L n - tkS T L n ≤ 6 → τ 323 13 = 1 ∧ τ 323 14 = wvN T (tkS T L n) (tkE T L n - tkS T L n)) ∧ (¬ tkE T L n - tkS T L n ≤ 6 → ¬ τ 323 13 = 1)) ∨ (¬ σ 1 4 = 2 ∧ ¬ τ 323 13 = 1) := by
  obtain ⟨s1, s2, s3, s4, s5, s6, s7⟩ := PT_S hc h
  have hn := h.1
  rw [h.2.1.2.2, h.2.2.2.2.1, h.2.2.2.2.2]
  have kE : ¬ tkK T L n = 0 → tkE T L n ≤ L := fun z => tkE_k hn z
  obtain ⟨S, hS⟩ : ∃ S, tkS T L n = S := ⟨_, rfl⟩
  by_cases q : S = L
  · rw [tk_end (by omega), hS]
    right
    unfold rKi
    rw [if_pos q]
    decide
  · have hl : tkS T L n < L := by omega
    have eE := tk_e hl
    have ek := tk_k hl
    rw [hS] at eE hl s4 s5 ek ⊢
    obtain ⟨E, hE⟩ : ∃ E, tkE T L n = E := ⟨_, rfl⟩
    rw [hE] at eE s5 s6 kE ⊢
    rw [ek] at kE ⊢
    have rP : rPl T L S = if isSm (T S) then rnE 2 T L S else if isDg (T S) then rnE 3 T L S else S + 1 := if_neg q
    unfold rKi rVa
    rw [if_neg q, if_neg q, ← eE]
    by_cases q1 : isSm (T S)
    · rw [if_pos q1, if_pos q1, cKd_2.mpr q1]
      rw [cKd_2.mpr q1] at kE
      left
      rw [if_pos q1] at rP
      refine ⟨rfl, fun j hj => cKd_2.mp (rnE_in (c := 2) (L := L) j (by omega)), kE (by decide), fun z => ?_, fun z => ?_⟩
      · rw [if_neg (by omega), show min (E - S) 6 = E - S by omega]
        exact ⟨rfl, rfl⟩
      · rw [if_pos (by omega)]
        decide
    · rw [if_neg q1]
      right
      refine ⟨fun z => q1 (cKd_2.mp z), ?_⟩
      split
      · split <;> decide
      · split
        · decide
        · split
          · decide
          · split <;> decide
theorem PT_wd {T : gW} {L n : Nat} {σ τ : gS} {p v : Nat} {C : List Nat} (hc : PC T L σ τ) (h : PT T L n σ τ) (hB : jW p = C.map (fun x => iN (96 + x))) (hC : ∀ x, x ∈ C → x ≤ 26) (hC2 : ∀ i, i < C.length → 1 ≤ C.getD i 0 ∧ C.getD i 0 ≤ 26) (h6 : C.length ≤ 6) (hv : nRd (fun i => C.getD i 0) C.length = v) (lv : v < 2147483648) : cWd σ (jW p) ↔ rIs τ (iN v) := by
  obtain ⟨s1, s2, s3, s4, s5, s6, s7⟩ := PT_S hc h
  have c5 := hc.2.2.2.2.1
  have lB : (jW p).length = C.length := by rw [hB, List.length_map]
  unfold cWd rIs
  rw [s7, s1, s3, hc.1]
  rcases PT_w hc h with ⟨h1, h2, h3, h4, h5⟩ | ⟨h1, h2⟩
  · obtain ⟨S, hS⟩ : ∃ S, tkS T L n = S := ⟨_, rfl⟩
    obtain ⟨E, hE⟩ : ∃ E, tkE T L n = E := ⟨_, rfl⟩
    rw [hS, hE] at h2 h4 h5 s5
    rw [hE] at h3 s6
    rw [hS, hE]
    have eB : (iN (E - S) = iN (jW p).length ∧ ∀ i, i < (jW p).length → cBy T L (S + i) = (jW p).getD i 0) ↔ (E - S = (jW p).length ∧ ∀ i, i < E - S → T (S + i) = (jW p).getD i 0) := by
      rw [iN_inj (by omega) (by omega)]
      refine and_congr_right (fun e => ?_)
      rw [e]
      refine forall_congr' (fun i => forall_congr' (fun hi => ?_))
      unfold cBy
      rw [if_pos (by omega)]
    rw [eB, wd_c h2 hB hC, wd_v (d := dgt (fun k => T (S + k))) (fun i hi => (dgt_of (h2 i hi)).2) hC2 hv]
    by_cases q : E - S ≤ 6
    · obtain ⟨w1, w2⟩ := wvN_e (T := T) (S := S) q h2
      have l6 : (27 : Nat) ^ 6 = 387420489 := by decide
      rw [(h4 q).1, (h4 q).2, w1, h1, iN_inj (by omega) lv]
      exact ⟨fun z => ⟨rfl, z.2⟩, fun z => ⟨rfl, z.2⟩⟩
    · refine ⟨fun z => ?_, fun z => absurd z.1 (h5 q)⟩
      have : E - S = C.length := by
        have := (wd_v (d := dgt (fun k => T (S + k))) (L := E - S) (fun i hi => (dgt_of (h2 i hi)).2) hC2 hv).mpr z.2
        exact this.1
      omega
  · exact ⟨fun z => absurd z.1 h1, fun z => absurd z.1 h2⟩
theorem PT_1000001 {T : gW} {L n : Nat} {σ τ : gS} (hc : PC T L σ τ) (h : PT T L n σ τ) : cWd σ (jW 1000001) ↔ rIs τ 10984100 := PT_wd (v := 10984100) hc h jW_0 (by decide) (by decide) (by decide) (by decide) (by decide)
theorem PT_1000002 {T : gW} {L n : Nat} {σ τ : gS} (hc : PC T L σ τ) (h : PT T L n σ τ) : cWd σ (jW 1000002) ↔ rIs τ 3379448 := PT_wd (v := 3379448) hc h jW_1 (by decide) (by decide) (by decide) (by decide) (by decide)
theorem PT_1000003 {T : gW} {L n : Nat} {σ τ : gS} (hc : PC T L σ τ) (h : PT T L n σ τ) : cWd σ (jW 1000003) ↔ rIs τ 377669 := PT_wd (v := 377669) hc h jW_2 (by decide) (by decide) (by decide) (by decide) (by decide)
theorem PT_1000004 {T : gW} {L n : Nat} {σ τ : gS} (hc : PC T L σ τ) (h : PT T L n σ τ) : cWd σ (jW 1000004) ↔ rIs τ 291828332 := PT_wd (v := 291828332) hc h jW_3 (by decide) (by decide) (by decide) (by decide) (by decide)
theorem PT_1000005 {T : gW} {L n : Nat} {σ τ : gS} (hc : PC T L σ τ) (h : PT T L n σ τ) : cWd σ (jW 1000005) ↔ rIs τ 86887672 := PT_wd (v := 86887672) hc h jW_4 (by decide) (by decide) (by decide) (by decide) (by decide)
theorem PT_1000006 {T : gW} {L n : Nat} {σ τ : gS} (hc : PC T L σ τ) (h : PT T L n σ τ) : cWd σ (jW 1000006) ↔ rIs τ 335086736 := PT_wd (v := 335086736) hc h jW_5 (by decide) (by decide) (by decide) (by decide) (by decide)
theorem PT_1000007 {T : gW} {L n : Nat} {σ τ : gS} (hc : PC T L σ τ) (h : PT T L n σ τ) : cWd σ (jW 1000007) ↔ rIs τ 692581 := PT_wd (v := 692581) hc h jW_6 (by decide) (by decide) (by decide) (by decide) (by decide)
theorem PT_1000008 {T : gW} {L n : Nat} {σ τ : gS} (hc : PC T L σ τ) (h : PT T L n σ τ) : cWd σ (jW 1000008) ↔ rIs τ 13550 := PT_wd (v := 13550) hc h jW_7 (by decide) (by decide) (by decide) (by decide) (by decide)
theorem PT_1000009 {T : gW} {L n : Nat} {σ τ : gS} (hc : PC T L σ τ) (h : PT T L n σ τ) : cWd σ (jW 1000009) ↔ rIs τ 284954995 := PT_wd (v := 284954995) hc h jW_8 (by decide) (by decide) (by decide) (by decide) (by decide)
theorem PT_1000010 {T : gW} {L n : Nat} {σ τ : gS} (hc : PC T L σ τ) (h : PT T L n σ τ) : cWd σ (jW 1000010) ↔ rIs τ 388978 := PT_wd (v := 388978) hc h jW_9 (by decide) (by decide) (by decide) (by decide) (by decide)
theorem nsN_ge : ∀ (f j m : Nat), 27 ^ j ≤ m → j < f → j < nsN f m
  | 0, j, m, _, h => absurd h (Nat.not_lt_zero _)
  | f + 1, j, m, h, h2 => by
    have pj : 0 < 27 ^ j := Nat.pow_pos (by decide)
    unfold nsN
    rw [if_neg (by omega)]
    cases j with
    | zero => omega
    | succ j =>
      have : j < nsN f (m / 27) := nsN_ge f j (m / 27) (by rw [Nat.pow_succ] at h; omega) (by omega)
      omega
theorem nRd_ge {d : Nat → Nat} : ∀ {k : Nat}, (∀ i, i < k + 1 → 1 ≤ d i) → 27 ^ k ≤ nRd d (k + 1)
  | 0, h => by
    have := h 0 (by decide)
    show 27 ^ 0 ≤ 27 * nRd d 0 + d 0
    have : (27 : Nat) ^ 0 = 1 := rfl
    omega
  | k + 1, h => by
    have ih := nRd_ge (d := d) (k := k) (fun i hi => h i (by omega))
    show 27 ^ (k + 1) ≤ 27 * nRd d (k + 1) + d (k + 1)
    rw [Nat.pow_succ]
    omega
theorem cPk_of {T : gW} {L S m : Nat} (hE : S + m ≤ L) : ∀ {k : Nat}, k ≤ m → cPk T L S k = cPk (fun i => T (S + i)) m 0 k
  | 0, _ => rfl
  | k + 1, hk => by
    have ih := cPk_of (T := T) hE (k := k) (by omega)
    show cPk T L S k ||| _ = cPk (fun i => T (S + i)) m 0 k ||| _
    have e : cBy T L (S + k) = cBy (fun i => T (S + i)) m (0 + k) := by
      unfold cBy
      rw [if_pos (by omega), if_pos (by omega), Nat.zero_add]
    rw [ih, e]
theorem wvN_of {T : gW} {S : Nat} : ∀ {k : Nat}, wvN T S k = tnm (fun i => T (S + i)) k
  | 0 => rfl
  | k + 1 => by
    have ih := wvN_of (T := T) (S := S) (k := k)
    show 27 * wvN T S k + T (S + k) - 96 = 27 * tnm (fun i => T (S + i)) k + T (S + k) - 96
    rw [ih]
theorem PT_kw {T : gW} {L n : Nat} {σ τ : gS} (hc : PC T L σ τ) (h : PT T L n σ τ) : cKw σ ↔ (τ 323 13 = 1 ∧ isKey (τ 323 14)) := by
  unfold cKw
  rw [PT_1000001 hc h, PT_1000002 hc h, PT_1000003 hc h, PT_1000004 hc h, PT_1000005 hc h, PT_1000006 hc h, PT_1000007 hc h, PT_1000008 hc h, PT_1000009 hc h, PT_1000010 hc h]
  unfold rIs isKey
  grind
/-- a name -/
theorem PT_nm {T : gW} {L n : Nat} {σ τ : gS} (hc : PC T L σ τ) (h : PT T L n σ τ) : (cNm σ ↔ q3c τ) ∧ (cNm σ → nmR (cPk (σ 3) (σ 2 1).toNatClampNeg (σ 1 2).toNatClampNeg (min ((σ 1 3).toNatClampNeg - (σ 1 2).toNatClampNeg) 5)) (τ 323 14)) := by
  obtain ⟨s1, s2, s3, s4, s5, s6, s7⟩ := PT_S hc h
  have c5 := hc.2.2.2.2.1
  have kw := PT_kw hc h
  unfold cNm q3c
  rw [kw, s7, s1, s2, s3, hc.1]
  rcases PT_w hc h with ⟨h1, h2, h3, h4, h5⟩ | ⟨h1, h2⟩
  · obtain ⟨S, hS⟩ : ∃ S, tkS T L n = S := ⟨_, rfl⟩
    obtain ⟨E, hE⟩ : ∃ E, tkE T L n = E := ⟨_, rfl⟩
    rw [hS, hE] at h2 h4 h5 s5
    rw [hE] at h3 s6
    rw [hS, hE]
    have e5 : 5 < iN (E - S) ↔ 5 < E - S := iN_lt (k := 5) (by decide) (by omega)
    rw [e5]
    by_cases q : E - S ≤ 6
    · obtain ⟨w1, w2⟩ := wvN_e (T := T) (S := S) q h2
      have l6 : (27 : Nat) ^ 6 = 387420489 := by decide
      have l5 : (27 : Nat) ^ 5 = 14348907 := by decide
      obtain ⟨g1, g2⟩ := h4 q
      have ns : nsz (τ 323 14) ≤ 5 ↔ E - S ≤ 5 := by
        unfold nsz
        rw [g2, w1, iN_nat (by omega)]
        constructor
        · intro z
          apply Nat.le_of_not_lt
          intro z2
          have e6 : E - S = 5 + 1 := by omega
          have := nRd_ge (d := dgS T S) (k := 5) (fun i hi => (dgt_of (h2 i (by omega))).2.1)
          rw [← e6] at this
          have := nsN_ge 8 5 _ this (by decide)
          omega
        · intro z
          have : nRd (dgS T S) (E - S) < 27 ^ 5 := Nat.lt_of_lt_of_le (nRd_lt (fun i hi => (dgt_of (h2 i hi)).2.2)) (Nat.pow_le_pow_right (by decide) z)
          exact nsN_lt 8 5 _ this
      rw [ns]
      refine ⟨⟨fun z => ⟨g1, by omega, fun z2 => z.2.2 ⟨g1, z2⟩⟩, fun z => ⟨h1, by omega, fun z2 => z.2.2 z2.2⟩⟩, fun z => ?_⟩
      rw [show min (E - S) 5 = E - S by omega, g2, cPk_of (m := E - S) (by omega) (Nat.le_refl _), wvN_of]
      exact nm_ok (by omega) (by omega) h2
    · exact ⟨⟨fun z => absurd z.2.1 (by omega), fun z => absurd z.1 (h5 q)⟩, fun z => absurd z.2.1 (by omega)⟩
  · exact ⟨⟨fun z => absurd z.1 h1, fun z => absurd z.1 h2⟩, fun z => absurd z.1 h1⟩
