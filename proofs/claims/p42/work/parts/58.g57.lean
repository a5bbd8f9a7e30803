/-! RELATION: keywords -/
theorem nRd_inj {d d' : Nat → Nat} : ∀ {k k' : Nat}, (∀ i, i < k → 1 ≤ d i ∧ d i ≤ 26) → (∀ i, i < k' → 1 ≤ d' i ∧ d' i ≤ 26) → nRd d k = nRd d' k' → k = k' ∧ ∀ i, i < k → d i = d' i
  | 0, 0, _, _, _ => ⟨rfl, fun i hi => absurd hi (Nat.not_lt_zero _)⟩
  | 0, k' + 1, _, h', e => by
    have := h' k' (by omega)
    have e : 0 = 27 * nRd d' k' + d' k' := e
    omega
  | k + 1, 0, h, _, e => by
    have := h k (by omega)
    have e : 27 * nRd d k + d k = 0 := e
    omega
  | k + 1, k' + 1, h, h', e => by
    have h1 := h k (by omega)
    have h2 := h' k' (by omega)
    have e : 27 * nRd d k + d k = 27 * nRd d' k' + d' k' := e
    have e1 : nRd d k = nRd d' k' := by omega
    obtain ⟨i1, i2⟩ := nRd_inj (k := k) (k' := k') (fun i hi => h i (by omega)) (fun i hi => h' i (by omega)) e1
    subst i1
    refine ⟨rfl, fun i hi => ?_⟩
    by_cases q : i = k
    · subst q; omega
    · exact i2 i (by omega)
theorem nRd_cg {d d' : Nat → Nat} : ∀ {k : Nat}, (∀ i, i < k → d i = d' i) → nRd d k = nRd d' k
  | 0, _ => rfl
  | k + 1, h => by
    show 27 * nRd d k + d k = 27 * nRd d' k + d' k
    rw [nRd_cg (k := k) (fun i hi => h i (by omega)), h k (by omega)]
theorem wd_v {d : Nat → Nat} {L : Nat} {C : List Nat} {v : Nat} (hd : ∀ i, i < L → 1 ≤ d i ∧ d i ≤ 26) (hC : ∀ i, i < C.length → 1 ≤ C.getD i 0 ∧ C.getD i 0 ≤ 26) (hv : nRd (fun i => C.getD i 0) C.length = v) : (L = C.length ∧ ∀ i, i < L → d i = C.getD i 0) ↔ nRd d L = v := by
  constructor
  · rintro ⟨h, q⟩
    rw [← hv, ← h]
    exact nRd_cg q
  · intro h
    rw [← hv] at h
    exact nRd_inj hd hC h
theorem wd_c {T : gW} {L : Nat} (hs : smA T L) {B : List Int32} {C : List Nat} (hB : B = C.map (fun x => iN (96 + x))) (hC : ∀ x, x ∈ C → x ≤ 26) : (L = B.length ∧ ∀ i, i < L → T i = B.getD i 0) ↔ (L = C.length ∧ ∀ i, i < L → dgt T i = C.getD i 0) := by
  subst hB
  rw [List.length_map]
  refine and_congr_right (fun hL => forall_congr' (fun i => forall_congr' (fun hi => ?_)))
  obtain ⟨e1, e2, e3⟩ := dgt_of (hs i hi)
  have hi2 : i < C.length := by omega
  rw [List.getD_eq_getElem?_getD, List.getD_eq_getElem?_getD, List.getElem?_map, List.getElem?_eq_getElem hi2]
  have hx := hC (C[i]) (List.getElem_mem hi2)
  show T i = iN (96 + C[i]) ↔ dgt T i = C[i]
  unfold dgt
  rw [e1, iN_inj (by omega) (by omega), iN_nat (by omega)]
  omega
theorem jW_0 : jW 1000001 = ([20, 18, 1, 9, 14] : List Nat).map (fun x => iN (96 + x)) := by decide +kernel
theorem jW_1 : jW 1000002 = ([6, 9, 18, 19, 20] : List Nat).map (fun x => iN (96 + x)) := by decide +kernel
theorem jW_2 : jW 1000003 = ([19, 5, 1, 20] : List Nat).map (fun x => iN (96 + x)) := by decide +kernel
theorem jW_3 : jW 1000004 = ([20, 9, 3, 11, 5, 20] : List Nat).map (fun x => iN (96 + x)) := by decide +kernel
theorem jW_4 : jW 1000005 = ([6, 1, 13, 9, 12, 25] : List Nat).map (fun x => iN (96 + x)) := by decide +kernel
theorem jW_5 : jW 1000006 = ([23, 9, 14, 4, 15, 23] : List Nat).map (fun x => iN (96 + x)) := by decide +kernel
theorem jW_6 : jW 1000007 = ([1, 8, 5, 1, 4] : List Nat).map (fun x => iN (96 + x)) := by decide +kernel
theorem jW_7 : jW 1000008 = ([18, 15, 23] : List Nat).map (fun x => iN (96 + x)) := by decide +kernel
theorem jW_8 : jW 1000009 = ([19, 23, 5, 5, 20, 19] : List Nat).map (fun x => iN (96 + x)) := by decide +kernel
theorem jW_9 : jW 1000010 = ([19, 20, 15, 16] : List Nat).map (fun x => iN (96 + x)) := by decide +kernel
/-! RELATION: the tapes, and whether they are a name -/
/-- the two tapes are the same -/
def TP (σ : gS) : Prop := (0 ≤ σ 2 1 ∧ σ 2 1 ≤ 1000) ∧ σ 323 8 = σ 2 1 ∧ ∀ i, i < (σ 2 1).toNatClampNeg → σ 330 i = σ 3 i
theorem smA_cg {T S : gW} {L : Nat} (h : ∀ i, i < L → T i = S i) : smA T L ↔ smA S L := by
  constructor
  · intro q j hj; rw [← h j hj]; exact q j hj
  · intro q j hj; rw [h j hj]; exact q j hj
theorem tnm_cg {T S : gW} : ∀ {L : Nat}, (∀ i, i < L → T i = S i) → tnm T L = tnm S L
  | 0, _ => rfl
  | k + 1, h => by
    show 27 * tnm T k + T k - 96 = 27 * tnm S k + S k - 96
    rw [tnm_cg (L := k) (fun i hi => h i (by omega)), h k (by omega)]
theorem nsN_lt : ∀ (f j m : Nat), m < 27 ^ j → nsN f m ≤ j
  | 0, _, _, _ => Nat.zero_le _
  | f + 1, j, m, h => by
    unfold nsN
    by_cases e : m = 0
    · rw [if_pos e]; exact Nat.zero_le _
    · rw [if_neg e]
      cases j with
      | zero =>
        have h : m < 1 := h
        omega
      | succ j =>
        have : nsN f (m / 27) ≤ j := nsN_lt f j (m / 27) (by rw [Nat.pow_succ] at h; omega)
        omega
theorem fTn_e {T : gW} {L : Nat} (l : L ≤ 1000) : fTn T (iN L) = if (1 ≤ L ∧ L ≤ 5) ∧ smA T L ∧ ¬ isKey (tnm T L) then tnm T L else -1 := by
  unfold fTn
  rw [iN_nat (by omega)]
  have e1 : (1 : Int32) ≤ iN L ↔ 1 ≤ L := iN_le (k := 1) (by decide) (by omega)
  have e5 : iN L ≤ (5 : Int32) ↔ L ≤ 5 := iN_le (m := 5) (by omega) (by decide)
  by_cases h : (1 ≤ L ∧ L ≤ 5) ∧ smA T L ∧ ¬ isKey (tnm T L)
  · obtain ⟨h1, h2, h3⟩ := h
    have ns : nsz (tnm T L) ≤ 5 := by
      unfold nsz
      have lt : nRd (dgt T) L < 27 ^ 5 := Nat.lt_of_lt_of_le (nRd_lt (fun i hi => (dgt_of (h2 i hi)).2.2)) (Nat.pow_le_pow_right (by decide) h1.2)
      have l5 : (27 : Nat) ^ 5 = 14348907 := by decide
      rw [tnm_e h1.2 h2, iN_nat (by omega)]
      exact nsN_lt 8 5 _ lt
    rw [if_pos ⟨⟨e1.mpr h1.1, e5.mpr h1.2⟩, h2, ns, h3⟩, if_pos ⟨h1, h2, h3⟩]
  · rw [if_neg h, if_neg (fun q => h ⟨⟨e1.mp q.1.1, e5.mp q.1.2⟩, q.2.1, q.2.2.2⟩)]
noncomputable def gpdm_l : List (Nat × gD) := (112, f112) :: gpdl_l
noncomputable def gpdm : gP := gpl0 gpdm_l
theorem gpdm_ok : gPok gpdm := gpl0_cons ok112 (gpdl_ok)
