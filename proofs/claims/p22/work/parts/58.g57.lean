-- text 57
/-! RELATION: keywords -/
theorem nRd_inj {d d' : Nat → Nat} : ∀ {k k' : Nat}, (∀ i, i < k → 1 ≤ d i ∧ d i ≤ 26) → (∀ i, i < k' → 1 ≤ d' i ∧ d' i ≤ 26) → nRd d k = nRd d' k' → k = k' ∧ ∀ i, i < k → d i = d' i
  | 0, 0, _, _, _ => ⟨rfl, fun i hi => absurd hi (Nat.not_lt_zero _)⟩
  | 0, k' + 1, _, h', e => by
    have := h' k' (by omega)
    have e : 0 = 27 * nRd d' k' + d' k' := e
    omega
  | k + 1, 0, h, _, e => by
    have := h k (by omega)
    have e : 27 * nRd d k + d k = 0 := e
    omega
  | k + 1, k' + 1, h, h', e => by
    have h1 := h k (by omega)
    have h2 := h' k' (by omega)
    have e : 27 * nRd d k + d k = 27 * nRd d' k' + d' k' := e
    have e1 : nRd d k = nRd d' k' := by omega
    obtain ⟨i1, i2⟩ := nRd_inj (k := k) (k' := k') (fun i hi => h i (by omega)) (fun i hi => h' i (by omega)) e1
    subst i1
    refine ⟨rfl, fun i hi => ?_⟩
    by_cases q : i = k
    · subst q; omega
    · exact i2 i (by omega)
theorem nRd_cg {d d' : Nat → Nat} : ∀ {k : Nat}, (∀ i, i < k → d i = d' i) → nRd d k = nRd d' k
  | 0, _ => rfl
  | k + 1, h => by
    show 27 * nRd d k + d k = 27 * nRd d' k + d' k
    rw [nRd_cg (k := k) (fun i hi => h i (by omega)), h k (by omega)]
theorem wd_v {d : Nat → Nat} {L : Nat} {C : List Nat} {v : Nat} (hd : ∀ i, i < L → 1 ≤ d i ∧ d i ≤ 26) (hC : ∀ i, i < C.length → 1 ≤ C.getD i 0 ∧ C.getD i 0 ≤ 26) (hv : nRd (fun i => C.getD i 0) C.length = v) : (L = C.length ∧ ∀ i, i < L → d i = C.getD i 0) ↔ nRd d L = v := by
  constructor
  · rintro ⟨h, q⟩
    rw [← hv, ← h]
    exact nRd_cg q
  · intro h
    rw [← hv] at h
    exact nRd_inj hd hC h
theorem wd_c {T : gW} {L : Nat} (hs : smA T L) {B : List Int32} {C : List Nat} (hB : B = C.map (fun x => iN (96 + x))) (hC : ∀ x, x ∈ C → x ≤ 26) : (L = B.length ∧ ∀ i, i < L → T i = B.getD i 0) ↔ (L = C.length ∧ ∀ i, i < L → dgt T i = C.getD i 0) := by
  subst hB
  rw [List.length_map]
  refine and_congr_right (fun hL => forall_congr' (fun i => forall_congr' (fun hi => ?_)))
  obtain ⟨e1, e2, e3⟩ := dgt_of (hs i hi)
  have hi2 : i < C.length := by omega
  rw [List.getD_eq_getElem?_getD, List.getD_eq_getElem?_getD, List.getElem?_map, List.getElem?_eq_getElem hi2]
  have hx := hC (C[i]) (List.getElem_mem hi2)
  show T i = iN (96 + C[i]) ↔ dgt T i = C[i]
  unfold dgt
  rw [e1, iN_inj (by omega) (by omega), iN_nat (by omega)]
  omega
theorem jW_0 : jW 1000001 = ([20, 18, 1, 9, 14] : List Nat).map (fun x => iN (96 + x)) := by decide +kernel
theorem jW_1 : jW 1000002 = ([6, 9, 18, 19, 20] : List Nat).map (fun x => iN (96 + x)) := by decide +kernel
theorem jW_2 : jW 1000003 = ([19, 5, 1, 20] : List Nat).map (fun x => iN (96 + x)) := by decide +kernel
theorem jW_3 : jW 1000004 = ([20, 9, 3, 11, 5, 20] : List Nat).map (fun x => iN (96 + x)) := by decide +kernel
theorem jW_4 : jW 1000005 = ([6, 1, 13, 9, 12, 25] : List Nat).map (fun x => iN (96 + x)) := by decide +kernel
theorem jW_5 : jW 1000006 = ([23, 9, 14, 4, 15, 23] : List Nat).map (fun x => iN (96 + x)) := by decide +kernel
theorem jW_6 : jW 1000007 = ([1, 8, 5, 1, 4] : List Nat).map (fun x => iN (96 + x)) := by decide +kernel
theorem jW_7 : jW 1000008 = ([18, 15, 23] : List Nat).map (fun x => iN (96 + x)) := by decide +kernel
theorem jW_8 : jW 1000009 = ([19, 23, 5, 5, 20, 19] : List Nat).map (fun x => iN (96 + x)) := by decide +kernel
theorem jW_9 : jW 1000010 = ([19, 20, 15, 16] : List Nat).map (fun x => iN (96 + x)) := by decide +kernel
theorem kw_ok {σ : gS} {L : Nat} (hL : σ 2 1 = iN L) (h1 : 1 ≤ L) (h5 : L ≤ 5) (hs : smA (σ 3) L) : cKw (cBeg σ) ↔ isKey (tnm (σ 3) L) := by
  have l : L ≤ 1000 := by omega
  obtain ⟨t1, t2, t3⟩ := tok_sm.mpr ⟨h1, hs⟩
  have hd : ∀ i, i < L → 1 ≤ dgt (σ 3) i ∧ dgt (σ 3) i ≤ 26 := fun i hi => (dgt_of (hs i hi)).2
  have w0 : cWd (cBeg σ) (jW 1000001) ↔ nRd (dgt (σ 3)) L = 10984100 := (cWd_e (B := jW 1000001) hL l t1 t2 t3 (by decide)).trans ((wd_c hs jW_0 (by decide)).trans (wd_v hd (by decide) (by decide)))
  have w1 : cWd (cBeg σ) (jW 1000002) ↔ nRd (dgt (σ 3)) L = 3379448 := (cWd_e (B := jW 1000002) hL l t1 t2 t3 (by decide)).trans ((wd_c hs jW_1 (by decide)).trans (wd_v hd (by decide) (by decide)))
  have w2 : cWd (cBeg σ) (jW 1000003) ↔ nRd (dgt (σ 3)) L = 377669 := (cWd_e (B := jW 1000003) hL l t1 t2 t3 (by decide)).trans ((wd_c hs jW_2 (by decide)).trans (wd_v hd (by decide) (by decide)))
  have w3 : cWd (cBeg σ) (jW 1000004) ↔ nRd (dgt (σ 3)) L = 291828332 := (cWd_e (B := jW 1000004) hL l t1 t2 t3 (by decide)).trans ((wd_c hs jW_3 (by decide)).trans (wd_v hd (by decide) (by decide)))
  have w4 : cWd (cBeg σ) (jW 1000005) ↔ nRd (dgt (σ 3)) L = 86887672 := (cWd_e (B := jW 1000005) hL l t1 t2 t3 (by decide)).trans ((wd_c hs jW_4 (by decide)).trans (wd_v hd (by decide) (by decide)))
  have w5 : cWd (cBeg σ) (jW 1000006) ↔ nRd (dgt (σ 3)) L = 335086736 := (cWd_e (B := jW 1000006) hL l t1 t2 t3 (by decide)).trans ((wd_c hs jW_5 (by decide)).trans (wd_v hd (by decide) (by decide)))
  have w6 : cWd (cBeg σ) (jW 1000007) ↔ nRd (dgt (σ 3)) L = 692581 := (cWd_e (B := jW 1000007) hL l t1 t2 t3 (by decide)).trans ((wd_c hs jW_6 (by decide)).trans (wd_v hd (by decide) (by decide)))
  have w7 : cWd (cBeg σ) (jW 1000008) ↔ nRd (dgt (σ 3)) L = 13550 := (cWd_e (B := jW 1000008) hL l t1 t2 t3 (by decide)).trans ((wd_c hs jW_7 (by decide)).trans (wd_v hd (by decide) (by decide)))
  have w8 : cWd (cBeg σ) (jW 1000009) ↔ nRd (dgt (σ 3)) L = 284954995 := (cWd_e (B := jW 1000009) hL l t1 t2 t3 (by decide)).trans ((wd_c hs jW_8 (by decide)).trans (wd_v hd (by decide) (by decide)))
  have w9 : cWd (cBeg σ) (jW 1000010) ↔ nRd (dgt (σ 3)) L = 388978 := (cWd_e (B := jW 1000010) hL l t1 t2 t3 (by decide)).trans ((wd_c hs jW_9 (by decide)).trans (wd_v hd (by decide) (by decide)))
  have lt : nRd (dgt (σ 3)) L < 27 ^ 5 := Nat.lt_of_lt_of_le (nRd_lt (fun i hi => (dgt_of (hs i hi)).2.2)) (Nat.pow_le_pow_right (by decide) h5)
  have l5 : (27 : Nat) ^ 5 = 14348907 := by decide
  rw [l5] at lt
  have lit : ∀ k : Nat, k < 2147483648 → (iN (nRd (dgt (σ 3)) L) = iN k ↔ nRd (dgt (σ 3)) L = k) := fun k hk => iN_inj (by omega) hk
  have key : isKey (tnm (σ 3) L) ↔ (nRd (dgt (σ 3)) L = 13550 ∨ nRd (dgt (σ 3)) L = 377669 ∨ nRd (dgt (σ 3)) L = 388978 ∨ nRd (dgt (σ 3)) L = 692581 ∨ nRd (dgt (σ 3)) L = 3379448 ∨ nRd (dgt (σ 3)) L = 10984100 ∨ nRd (dgt (σ 3)) L = 86887672 ∨ nRd (dgt (σ 3)) L = 284954995 ∨ nRd (dgt (σ 3)) L = 291828332 ∨ nRd (dgt (σ 3)) L = 335086736) := by
    unfold isKey
    rw [tnm_e h5 hs]
    exact (or_congr (lit 13550 (by decide)) (or_congr (lit 377669 (by decide)) (or_congr (lit 388978 (by decide)) (or_congr (lit 692581 (by decide)) (or_congr (lit 3379448 (by decide)) (or_congr (lit 10984100 (by decide)) (or_congr (lit 86887672 (by decide)) (or_congr (lit 284954995 (by decide)) (or_congr (lit 291828332 (by decide)) (lit 335086736 (by decide)))))))))))
  rw [key]
  unfold cKw
  rw [w0, w1, w2, w3, w4, w5, w6, w7, w8, w9]
  omega
-- text 58
/-! RELATION: the tapes, and whether they are a name -/
/-- the two tapes are the same -/
def TP (σ : gS) : Prop := (0 ≤ σ 2 1 ∧ σ 2 1 ≤ 1000) ∧ σ 323 8 = σ 2 1 ∧ ∀ i, i < (σ 2 1).toNatClampNeg → σ 330 i = σ 3 i
theorem smA_cg {T S : gW} {L : Nat} (h : ∀ i, i < L → T i = S i) : smA T L ↔ smA S L := by
  constructor
  · intro q j hj; rw [← h j hj]; exact q j hj
  · intro q j hj; rw [h j hj]; exact q j hj
theorem tnm_cg {T S : gW} : ∀ {L : Nat}, (∀ i, i < L → T i = S i) → tnm T L = tnm S L
  | 0, _ => rfl
  | k + 1, h => by
    show 27 * tnm T k + T k - 96 = 27 * tnm S k + S k - 96
    rw [tnm_cg (L := k) (fun i hi => h i (by omega)), h k (by omega)]
theorem nsN_lt : ∀ (f j m : Nat), m < 27 ^ j → nsN f m ≤ j
  | 0, _, _, _ => Nat.zero_le _
  | f + 1, j, m, h => by
    unfold nsN
    by_cases e : m = 0
    · rw [if_pos e]; exact Nat.zero_le _
    · rw [if_neg e]
      cases j with
      | zero =>
        have h : m < 1 := h
        omega
      | succ j =>
        have : nsN f (m / 27) ≤ j := nsN_lt f j (m / 27) (by rw [Nat.pow_succ] at h; omega)
        omega
theorem fTn_e {T : gW} {L : Nat} (l : L ≤ 1000) : fTn T (iN L) = if (1 ≤ L ∧ L ≤ 5) ∧ smA T L ∧ ¬ isKey (tnm T L) then tnm T L else -1 := by
  unfold fTn
  rw [iN_nat (by omega)]
  have e1 : (1 : Int32) ≤ iN L ↔ 1 ≤ L := iN_le (k := 1) (by decide) (by omega)
  have e5 : iN L ≤ (5 : Int32) ↔ L ≤ 5 := iN_le (m := 5) (by omega) (by decide)
  by_cases h : (1 ≤ L ∧ L ≤ 5) ∧ smA T L ∧ ¬ isKey (tnm T L)
  · obtain ⟨h1, h2, h3⟩ := h
    have ns : nsz (tnm T L) ≤ 5 := by
      unfold nsz
      have lt : nRd (dgt T) L < 27 ^ 5 := Nat.lt_of_lt_of_le (nRd_lt (fun i hi => (dgt_of (h2 i hi)).2.2)) (Nat.pow_le_pow_right (by decide) h1.2)
      have l5 : (27 : Nat) ^ 5 = 14348907 := by decide
      rw [tnm_e h1.2 h2, iN_nat (by omega)]
      exact nsN_lt 8 5 _ lt
    rw [if_pos ⟨⟨e1.mpr h1.1, e5.mpr h1.2⟩, h2, ns, h3⟩, if_pos ⟨h1, h2, h3⟩]
  · rw [if_neg h, if_neg (fun q => h ⟨⟨e1.mp q.1.1, e5.mp q.1.2⟩, q.2.1, q.2.2.2⟩)]
theorem cTN_e {σ : gS} {L : Nat} (hL : σ 2 1 = iN L) (l : L ≤ 1000) : cTN σ ↔ ((1 ≤ L ∧ L ≤ 5) ∧ smA (σ 3) L ∧ ¬ isKey (tnm (σ 3) L)) := by
  have nL : (σ 2 1).toNatClampNeg = L := by rw [hL, iN_nat (by omega)]
  obtain ⟨c1, c2, c3⟩ := cBeg_1 (σ := σ)
  rw [nL] at c1 c2 c3
  have bS := tkS_b (T := σ 3) (L := L) (n := 0) (by omega)
  have bE := tkE_b (T := σ 3) (L := L) (n := 0) (by omega)
  have z : cBeg σ 1 2 = 0 ↔ tkS (σ 3) L 0 = 0 := by
    rw [c1]
    exact iN_inj (m := 0) (by omega) (by decide)
  have y : cBeg σ 1 3 = cBeg σ 2 1 ↔ tkE (σ 3) L 0 = L := by
    rw [c2, cBeg_ne (by decide), hL]
    exact iN_inj (by omega) (by omega)
  unfold cTN cNm
  rw [z, y, c3]
  have f5 : tkS (σ 3) L 0 = 0 → tkE (σ 3) L 0 = L → (¬ 5 < cBeg σ 1 3 - cBeg σ 1 2 ↔ L ≤ 5) := by
    intro h1 h2
    rw [c1, c2, h1, h2]
    have e0 : iN L - iN 0 = iN L := by show iN L - 0 = iN L; grind
    rw [e0, show (5 : Int32) < iN L ↔ 5 < L from iN_lt (k := 5) (by decide) (by omega)]
    omega
  constructor
  · rintro ⟨h1, h2, h3, h4, h5⟩
    obtain ⟨g1, g2⟩ := tok_sm.mp ⟨h1, h2, h3⟩
    have g3 := (f5 h1 h2).mp h4
    exact ⟨⟨g1, g3⟩, g2, fun q => h5 ((kw_ok hL g1 g3 g2).mpr q)⟩
  · rintro ⟨⟨h1, h2⟩, h3, h4⟩
    obtain ⟨t1, t2, t3⟩ := tok_sm.mpr ⟨h1, h3⟩
    exact ⟨t1, t2, t3, (f5 t1 t2).mpr h2, fun q => h4 ((kw_ok hL h1 h2 h3).mp q)⟩
/-- class and reference agree whether the tape is a name, and which -/
theorem tn_ok {σ : gS} (h : TP σ) : (cTN σ ↔ ¬ fTn (σ 330) (σ 323 8) < 0) ∧ (cTN σ → nmR (cNam σ) (fTn (σ 330) (σ 323 8))) := by
  obtain ⟨hL, h8, hT⟩ := h
  obtain ⟨eL, l⟩ := l1000 hL
  obtain ⟨L, hLL⟩ : ∃ L, (σ 2 1).toNatClampNeg = L := ⟨_, rfl⟩
  rw [hLL] at eL l hT
  have key := cTN_e eL l
  rw [h8, eL, fTn_e l]
  have c1 := smA_cg hT
  have c2 := tnm_cg hT
  have eF : (if (1 ≤ L ∧ L ≤ 5) ∧ smA (σ 330) L ∧ ¬ isKey (tnm (σ 330) L) then tnm (σ 330) L else -1) = if (1 ≤ L ∧ L ≤ 5) ∧ smA (σ 3) L ∧ ¬ isKey (tnm (σ 3) L) then tnm (σ 3) L else -1 := by
    by_cases q : (1 ≤ L ∧ L ≤ 5) ∧ smA (σ 3) L ∧ ¬ isKey (tnm (σ 3) L)
    · rw [if_pos q, if_pos ⟨q.1, c1.mpr q.2.1, by rw [c2]; exact q.2.2⟩, c2]
    · rw [if_neg q, if_neg (fun x => q ⟨x.1, c1.mp x.2.1, by have := x.2.2; rw [c2] at this; exact this⟩)]
  rw [eF]
  refine ⟨?_, fun hc => ?_⟩
  · rw [key]
    by_cases q : (1 ≤ L ∧ L ≤ 5) ∧ smA (σ 3) L ∧ ¬ isKey (tnm (σ 3) L)
    · rw [if_pos q]
      refine ⟨fun _ => ?_, fun _ => q⟩
      obtain ⟨n, en, ln⟩ := tnm_b (T := σ 3) (k := L) (by omega) q.2.1
      have l5 : (27 : Nat) ^ L ≤ 27 ^ 5 := Nat.pow_le_pow_right (by decide) q.1.2
      have l6 : (27 : Nat) ^ 5 = 14348907 := by decide
      rw [en]
      exact Int32.not_lt.mpr ((iN_le (k := 0) (by decide) (by omega)).mpr (by omega))
    · rw [if_neg q]
      exact ⟨fun x => absurd x q, fun x => absurd (by decide) x⟩
  · have q := key.mp hc
    rw [if_pos q]
    obtain ⟨t1, t2, t3⟩ := tok_sm.mpr ⟨q.1.1, q.2.1⟩
    obtain ⟨c1, c2, c3⟩ := cBeg_1 (σ := σ)
    rw [hLL] at c1 c2 c3
    have e : cNam σ = cPk (σ 3) L 0 L := by
      unfold cNam
      rw [c1, c2, cBeg_ne (by decide), cBeg_ne (by decide), t1, t2, hLL, iN_nat (by omega), iN_nat (by omega), show min (L - 0) 5 = L by have := q.1.2; omega]
    rw [e]
    exact nm_ok q.1.1 q.1.2 q.2.1
noncomputable def gpdm_l : List (Nat × gD) := (112, f112) :: gpdl_l
noncomputable def gpdm : gP := gpl0 gpdm_l
theorem gpdm_ok : gPok gpdm := gpl0_cons ok112 (gpdl_ok)
