/-! RELATION: keywords -/
theorem nRd_inj {d d' : Nat → Nat} : ∀ {k k' : Nat}, (∀ i, i < k → 1 ≤ d i ∧ d i ≤ 26) → (∀ i, i < k' → 1 ≤ d' i ∧ d' i ≤ 26) → nRd d k = nRd d' k' → k = k' ∧ ∀ i, i < k → d i = d' i
  | 0, 0, _, _, _ => ⟨rfl, fun i hi => absurd hi (Nat.not_lt_zero _)⟩
  | 0, k' + 1, _, h', e => by
    have := h' k' (by omega)
    have e : 0 = 27 * nRd d' k' + d' k' := e
    omega
  | k + 1, 0, h, _, e => by
    have := h k (by omega)
    have e : 27 * nRd d k + d k = 0 := e
    omega
  | k + 1, k' + 1, h, h', e => by
    have h1 := h k (by omega)
    have h2 := h' k' (by omega)
    have e : 27 * nRd d k + d k = 27 * nRd d' k' + d' k' := e
    have e1 : nRd d k = nRd d' k' := by omega
    obtain ⟨i1, i2⟩ := nRd_inj (k := k) (k' := k') (fun i hi => h i (by omega)) (fun i hi => h' i (by omega)) e1
    subst i1
    refine ⟨rfl, fun i hi => ?_⟩
    by_cases q : i = k
    · subst q; omega
    · exact i2 i (by omega)
theorem nRd_cg {d d' : Nat → Nat} : ∀ {k : Nat}, (∀ i, i < k → d i = d' i) → nRd d k = nRd d' k
  | 0, _ => rfl
  | k + 1, h => by
    show 27 * nRd d k + d k = 27 * nRd d' k + d' k
    rw [nRd_cg (k := k) (fun i hi => h i (by omega)), h k (by omega)]
theorem wd_v {d : Nat → Nat} {L : Nat} {C : List Nat} {v : Nat} (hd : ∀ i, i < L → 1 ≤ d i ∧ d i ≤ 26) (hC : ∀ i, i < C.length → 1 ≤ C.getD i 0 ∧ C.getD i 0 ≤ 26) (hv : nRd (fun i => C.getD i 0) C.length = v) : (L = C.length ∧ ∀ i, i < L → d i = C.getD i 0) ↔ nRd d L = v := by
  constructor
  · rintro ⟨h, q⟩
    rw [← hv, ← h]
    exact nRd_cg q
  · intro h
    rw [← hv] at h
    exact nRd_inj hd hC h
theorem wd_c {T : gW} {L : Nat} (hs : smA T L) {B : List Int32} {C : List Nat} (hB : B = C.map (fun x => iN (96 + x))) (hC : ∀ x, x ∈ C → x ≤ 26) : (L = B.length ∧ ∀ i, i < L → T i = B.getD i 0) ↔ (L = C.length ∧ ∀ i, i < L → dgt T i = C.getD i 0) := by
  subst hB
  rw [List.length_map]
  refine and_congr_right (fun hL => forall_congr' (fun i => forall_congr' (fun hi => ?_)))
  obtain ⟨e1, e2, e3⟩ := dgt_of (hs i hi)
  have hi2 : i < C.length := by omega
  rw [List.getD_eq_getElem?_getD, List.getD_eq_getElem?_getD, List.getElem?_map, List.getElem?_eq_getElem hi2]
  have hx := hC (C[i]) (List.getElem_mem hi2)
  show T i = iN (96 + C[i]) ↔ dgt T i = C[i]
  unfold dgt
  rw [e1, iN_inj (by omega) (by omega), iN_nat (by omega)]
  omega
theorem jW_0 : jW 1000001 = ([20, 18, 1, 9, 14] : List Nat).map (fun x => iN (96 + x)) := by decide +kernel
theorem jW_1 : jW 1000002 = ([6, 9, 18, 19, 20] : List Nat).map (fun x => iN (96 + x)) := by decide +kernel
theorem jW_2 : jW 1000003 = ([19, 5, 1, 20] : List Nat).map (fun x => iN (96 + x)) := by decide +kernel
theorem jW_3 : jW 1000004 = ([20, 9, 3, 11, 5, 20] : List Nat).map (fun x => iN (96 + x)) := by decide +kernel
theorem jW_4 : jW 1000005 = ([6, 1, 13, 9, 12, 25] : List Nat).map (fun x => iN (96 + x)) := by decide +kernel
theorem jW_5 : jW 1000006 = ([23, 9, 14, 4, 15, 23] : List Nat).map (fun x => iN (96 + x)) := by decide +kernel
theorem jW_6 : jW 1000007 = ([1, 8, 5, 1, 4] : List Nat).map (fun x => iN (96 + x)) := by decide +kernel
theorem jW_7 : jW 1000008 = ([18, 15, 23] : List Nat).map (fun x => iN (96 + x)) := by decide +kernel
theorem jW_8 : jW 1000009 = ([19, 23, 5, 5, 20, 19] : List Nat).map (fun x => iN (96 + x)) := by decide +kernel
theorem jW_9 : jW 1000010 = ([19, 20, 15, 16] : List Nat).map (fun x => iN (96 + x)) := by decide +kernel
theorem kw_ok {σ : gS} {L : Nat} (hL : σ 2 1 = iN L) (h1 : 1 ≤ L) (h5 : L ≤ 5) (hs : smA (σ 3) L) : cKw (cBeg σ) ↔ isKey (tnm (σ 3) L) := by
  have l : L ≤ 1000 := by omega
  obtain ⟨t1, t2, t3⟩ := tok_sm.mpr ⟨h1, hs⟩
  have hd : ∀ i, i < L → 1 ≤ dgt (σ 3) i ∧ dgt (σ 3) i ≤ 26 := fun i hi => (dgt_of (hs i hi)).2
  have w0 : cWd (cBeg σ) (jW 1000001) ↔ nRd (dgt (σ 3)) L = 10984100 := (cWd_e (B := jW 1000001) hL l t1 t2 t3 (by decide)).trans ((wd_c hs jW_0 (by decide)).trans (wd_v hd (by decide) (by decide)))
  have w1 : cWd (cBeg σ) (jW 1000002) ↔ nRd (dgt (σ 3)) L = 3379448 := (cWd_e (B := jW 1000002) hL l t1 t2 t3 (by decide)).trans ((wd_c hs jW_1 (by decide)).trans (wd_v hd (by decide) (by decide)))
  have w2 : cWd (cBeg σ) (jW 1000003) ↔ nRd (dgt (σ 3)) L = 377669 := (cWd_e (B := jW 1000003) hL l t1 t2 t3 (by decide)).trans ((wd_c hs jW_2 (by decide)).trans (wd_v hd (by decide) (by decide)))
  have w3 : cWd (cBeg σ) (jW 1000004) ↔ nRd (dgt (σ 3)) L = 291828332 := (cWd_e (B := jW 1000004) hL l t1 t2 t3 (by decide)).trans ((wd_c hs jW_3 (by decide)).trans (wd_v hd (by decide) (by decide)))
  have w4 : cWd (cBeg σ) (jW 1000005) ↔ nRd (dgt (σ 3)) L = 86887672 := (cWd_e (B := jW 1000005) hL l t1 t2 t3 (by decide)).trans ((wd_c hs jW_4 (by decide)).trans (wd_v hd (by decide) (by decide)))
  have w5 : cWd (cBeg σ) (jW 1000006) ↔ nRd (dgt (σ 3)) L = 335086736 := (cWd_e (B := jW 1000006) hL l t1 t2 t3 (by decide)).trans ((wd_c hs jW_5 (by decide)).trans (wd_v hd (by decide) (by decide)))
  have w6 : cWd (cBeg σ) (jW 1000007) ↔ nRd (dgt (σ 3)) L = 692581 := (cWd_e (B := jW 1000007) hL l t1 t2 t3 (by decide)).trans ((wd_c hs jW_6 (by decide)).trans (wd_v hd (by decide) (by decide)))
  have w7 : cWd (cBeg σ) (jW 1000008) ↔ nRd (dgt (σ 3)) L = 13550 := (cWd_e (B := jW 1000008) hL l t1 t2 t3 (by decide)).trans ((wd_c hs jW_7 (by decide)).trans (wd_v hd (by decide) (by decide)))
  have w8 : cWd (cBeg σ) (jW 1000009) ↔ nRd (dgt (σ 3)) L = 284954995 := (cWd_e (B := jW 1000009) hL l t1 t2 t3 (by decide)).trans ((wd_c hs jW_8 (by decide)).trans (wd_v hd (by decide) (by decide)))
  have w9 : cWd (cBeg σ) (jW 1000010) ↔ nRd (dgt (σ 3)) L = 388978 := (cWd_e (B := jW 1000010) hL l t1 t2 t3 (by decide)).trans ((wd_c hs jW_9 (by decide)).trans (wd_v hd (by decide) (by decide)))
  have lt : nRd (dgt (σ 3)) L < 27 ^ 5 := Nat.lt_of_lt_of_le (nRd_lt (fun i hi => (dgt_of (hs i hi)).2.2)) (Nat.pow_le_pow_right (by decide) h5)
  have l5 : (27 : Nat) ^ 5 = 14348907 := by decide
  rw [l5] at lt
  have lit : ∀ k : Nat, k < 2147483648 → (iN (nRd (dgt (σ 3)) L) = iN k ↔ nRd (dgt (σ 3)) L = k) := fun k hk => iN_inj (by omega) hk
  have key : isKey (tnm (σ 3) L) ↔ (nRd (dgt (σ 3)) L = 13550 ∨ nRd (dgt (σ 3)) L = 377669 ∨ nRd (dgt (σ 3)) L = 388978 ∨ nRd (dgt (σ 3)) L = 692581 ∨ nRd (dgt (σ 3)) L = 3379448 ∨ nRd (dgt (σ 3)) L = 10984100 ∨ nRd (dgt (σ 3)) L = 86887672 ∨ nRd (dgt (σ 3)) L = 284954995 ∨ nRd (dgt (σ 3)) L = 291828332 ∨ nRd (dgt (σ 3)) L = 335086736) := by
    unfold isKey
    rw [tnm_e h5 hs]
    exact (or_congr (lit 13550 (by decide)) (or_congr (lit 377669 (by decide)) (or_congr (lit 388978 (by decide)) (or_congr (lit 692581 (by decide)) (or_congr (lit 3379448 (by decide)) (or_congr (lit 10984100 (by decide)) (or_congr (lit 86887672 (by decide)) (or_congr (lit 284954995 (by decide)) (or_congr (lit 291828332 (by decide)) (lit 335086736 (by decide)))))))))))
  rw [key]
  unfold cKw
  rw [w0, w1, w2, w3, w4, w5, w6, w7, w8, w9]
  omega
