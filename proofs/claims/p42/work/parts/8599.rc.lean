/-! THE LAW'S RECORD is a text that load takes -/
/-- a traveller of the law's record: x the number drawn, at seat k -/
def tvS (x : Int32) (k R F : Nat) : TV :=
  ((k, oT (22 + (((x >>> ((10 : Int32) &&& 31)) &&& 255) - ((x >>> ((10 : Int32) &&& 31)) &&& 255) / 5 * 5).toNatClampNeg), decide (k / 4 < F) || decide ((x >>> ((12 : Int32) &&& 31)) &&& 7 = 0)),
   (if (x >>> ((15 : Int32) &&& 31)) &&& 1 = 0 then some (1 + ((x >>> ((16 : Int32) &&& 31)) &&& 1)).toNatClampNeg else none,
    if (x >>> ((17 : Int32) &&& 31)) &&& 1 = 0 then some (decide ((x >>> ((18 : Int32) &&& 31)) &&& 1 = 0), (((x >>> ((19 : Int32) &&& 31)) &&& 255) - ((x >>> ((19 : Int32) &&& 31)) &&& 255) / 10 * 10).toNatClampNeg) else none,
    if (x >>> ((20 : Int32) &&& 31)) &&& 1 = 0 then some (decide ((x >>> ((21 : Int32) &&& 31)) &&& 1 = 0), (((x >>> ((22 : Int32) &&& 31)) &&& 255) - ((x >>> ((22 : Int32) &&& 31)) &&& 255) / 10 * 10).toNatClampNeg) else none),
   (if (x >>> ((23 : Int32) &&& 31)) &&& 1 = 0 then some ((((x >>> ((3 : Int32) &&& 31)) &&& 255) - ((x >>> ((3 : Int32) &&& 31)) &&& 255) / iN R * iN R).toNatClampNeg, ((x >>> ((5 : Int32) &&& 31)) &&& 3).toNatClampNeg) else none,
    if (x >>> ((24 : Int32) &&& 31)) &&& 1 = 0 then some ((x >>> ((4 : Int32) &&& 31)) &&& 15).toNatClampNeg else none,
    if (x >>> ((25 : Int32) &&& 31)) &&& 1 = 0 then some (1 + ((x >>> ((6 : Int32) &&& 31)) &&& 15)).toNatClampNeg else none))
theorem tv_line {x : Int32} {k R F : Nat} (hk : k < 100) (hF : F ≤ 100) : tLin x (iN k) (iN R) (iN F) = oT 2 ++ 32 :: lnW (tvS x k R F) := by
  have e27 : oT 27 = oT 2 ++ [32] := rfl
  have e29 : oT 29 = [] := rfl
  have ek : dgI (iN k) = dg k := by
    unfold dgI
    rw [iN_nat (by omega)]
  have eT : tTic x (iN k) (iN F) = pT (tvS x k R F).1.2.2 := by
    have e : (tvS x k R F).1.2.2 = (decide (k / 4 < F) || decide ((x >>> ((12 : Int32) &&& 31)) &&& 7 = 0)) := rfl
    unfold tTic pT
    rw [e, show (4 : Int32) = iN 4 from rfl, iN_div (by omega) (by decide)]
    by_cases h1 : k / 4 < F
    · rw [if_pos ((iN_lt (by omega) (by omega)).mpr h1), if_pos (by rw [decide_eq_true h1]; rfl)]
    · rw [if_neg (fun z => h1 ((iN_lt (by omega) (by omega)).mp z))]
      by_cases h2 : (x >>> ((12 : Int32) &&& 31)) &&& 7 = 0
      · rw [if_pos h2, if_pos (by rw [decide_eq_true h2, Bool.or_true])]
      · rw [if_neg h2, if_neg (by rw [decide_eq_false h1, decide_eq_false h2]; decide), e29]
  have eF : tFam x = pN 30 (tvS x k R F).2.1.1 := by
    unfold tFam pN tvS
    by_cases h : (x >>> ((15 : Int32) &&& 31)) &&& 1 = 0
    · simp only [if_pos h]
      rfl
    · simp only [if_neg h]
  have eW : tWin x = pL 31 (tvS x k R F).2.1.2.1 := by
    unfold tWin pL tvS
    by_cases h : (x >>> ((17 : Int32) &&& 31)) &&& 1 = 0
    · simp only [if_pos h, decide_eq_true_eq, List.append_assoc, List.cons_append, List.nil_append]
      rfl
    · simp only [if_neg h]
  have eA : tAhe x = pL 32 (tvS x k R F).2.1.2.2 := by
    unfold tAhe pL tvS
    by_cases h : (x >>> ((20 : Int32) &&& 31)) &&& 1 = 0
    · simp only [if_pos h, decide_eq_true_eq, List.append_assoc, List.cons_append, List.nil_append]
      rfl
    · simp only [if_neg h]
  have eR : tRow x (iN R) = pR (tvS x k R F).2.2.1 := by
    unfold tRow pR tvS
    by_cases h : (x >>> ((23 : Int32) &&& 31)) &&& 1 = 0
    · simp only [if_pos h, List.append_assoc, List.cons_append, List.nil_append]
      rfl
    · simp only [if_neg h]
  have eS : tSwe x = pN 34 (tvS x k R F).2.2.2.1 := by
    unfold tSwe pN tvS
    by_cases h : (x >>> ((24 : Int32) &&& 31)) &&& 1 = 0
    · simp only [if_pos h]
      rfl
    · simp only [if_neg h]
  have eP : tSto x = pN 35 (tvS x k R F).2.2.2.2 := by
    unfold tSto pN tvS
    by_cases h : (x >>> ((25 : Int32) &&& 31)) &&& 1 = 0
    · simp only [if_pos h]
      rfl
    · simp only [if_neg h]
  unfold tLin tHea
  rw [eT, eF, eW, eA, eR, eS, eP, ek, e27]
  unfold lnW lnP
  simp only [List.append_assoc, List.cons_append, List.nil_append]
  rfl
theorem nat_lt {x : Int32} {d : Nat} (h : 0 ≤ x ∧ x < iN d) (hd : d < 2147483648) : x.toNatClampNeg < d ∧ iN x.toNatClampNeg = x := by
  obtain ⟨e, l⟩ := iN_of h.1
  have h2 := h.2
  rw [e, iN_lt l hd] at h2
  exact ⟨h2, e.symm⟩
theorem nm5_ok : ∀ i, i < 5 → (∀ x ∈ oT (22 + i), isSm x) ∧ (1 ≤ (oT (22 + i)).length ∧ (oT (22 + i)).length ≤ 5) ∧ nsz (wvl (oT (22 + i))) ≤ 5 ∧ ¬ isKey (wvl (oT (22 + i))) := by decide +kernel
theorem tv_ok {x : Int32} {k R F : Nat} (hR : 2 ≤ R ∧ R ≤ 10) (hk : k < 4 * R) : TVok R (tvS x k R F) ∧ ((tvS x k R F).1.2.2 = true ∨ F ≤ (tvS x k R F).1.1 / 4) := by
  have hn := nat_lt (rem_b (x := (x >>> ((10 : Int32) &&& 31)) &&& 255) (d := 5) (an_b _ 255 (by decide)).1 (by decide)) (by decide)
  have hm := nm5_ok _ hn.1
  refine ⟨⟨⟨hk, ⟨hm.1, hm.2.1⟩, hm.2.2⟩, ⟨fun j e => ?_, fun p e => ?_, fun p e => ?_⟩, fun p e => ?_, fun j e => ?_, fun j e => ?_⟩, ?_⟩
  · unfold tvS at e
    by_cases h : (x >>> ((15 : Int32) &&& 31)) &&& 1 = 0
    · simp only [if_pos h] at e
      have b := add_b (a := 1) (an_b (x >>> ((16 : Int32) &&& 31)) 1 (by decide)) (by decide)
      have b2 := nat_lt b (by decide)
      have b3 : 1 ≤ (1 + ((x >>> ((16 : Int32) &&& 31)) &&& 1)).toNatClampNeg := by
        obtain ⟨q, hq, eq⟩ := and_n (x >>> ((16 : Int32) &&& 31)) 1 (by decide)
        rw [show (1 + ((x >>> ((16 : Int32) &&& 31)) &&& 1) : Int32) = iN (1 + q) by rw [← iN_add, ← eq]; rfl, iN_nat (by omega)]
        omega
      have e := Option.some.inj e
      have b2 : (1 + ((x >>> ((16 : Int32) &&& 31)) &&& 1)).toNatClampNeg < 1 + (1 + 1) := b2.1
      omega
    · simp only [if_neg h] at e
      cases e
  · unfold tvS at e
    by_cases h : (x >>> ((17 : Int32) &&& 31)) &&& 1 = 0
    · simp only [if_pos h] at e
      have b := nat_lt (rem_b (x := (x >>> ((19 : Int32) &&& 31)) &&& 255) (d := 10) (an_b _ 255 (by decide)).1 (by decide)) (by decide)
      have e := Option.some.inj e
      rw [← e]
      have b := b.1
      exact Nat.le_of_lt_succ b
    · simp only [if_neg h] at e
      cases e
  · unfold tvS at e
    by_cases h : (x >>> ((20 : Int32) &&& 31)) &&& 1 = 0
    · simp only [if_pos h] at e
      have b := nat_lt (rem_b (x := (x >>> ((22 : Int32) &&& 31)) &&& 255) (d := 10) (an_b _ 255 (by decide)).1 (by decide)) (by decide)
      have e := Option.some.inj e
      rw [← e]
      have b := b.1
      exact Nat.le_of_lt_succ b
    · simp only [if_neg h] at e
      cases e
  · unfold tvS at e
    by_cases h : (x >>> ((23 : Int32) &&& 31)) &&& 1 = 0
    · simp only [if_pos h] at e
      have b := nat_lt (rem_b (x := (x >>> ((3 : Int32) &&& 31)) &&& 255) (d := R) (an_b _ 255 (by decide)).1 ⟨by omega, by omega⟩) (by omega)
      have c := nat_lt (an_b (x >>> ((5 : Int32) &&& 31)) 3 (by decide)) (by decide)
      have e := Option.some.inj e
      rw [← e]
      exact ⟨b.1, Nat.le_of_lt_succ c.1⟩
    · simp only [if_neg h] at e
      cases e
  · unfold tvS at e
    by_cases h : (x >>> ((24 : Int32) &&& 31)) &&& 1 = 0
    · simp only [if_pos h] at e
      have c := nat_lt (an_b (x >>> ((4 : Int32) &&& 31)) 15 (by decide)) (by decide)
      have e := Option.some.inj e
      rw [← e]
      have c : ((x >>> ((4 : Int32) &&& 31)) &&& 15).toNatClampNeg < 15 + 1 := c.1
      omega
    · simp only [if_neg h] at e
      cases e
  · unfold tvS at e
    by_cases h : (x >>> ((25 : Int32) &&& 31)) &&& 1 = 0
    · simp only [if_pos h] at e
      obtain ⟨q, hq, eq⟩ := and_n (x >>> ((6 : Int32) &&& 31)) 15 (by decide)
      have e := Option.some.inj e
      have b3 : (1 + ((x >>> ((6 : Int32) &&& 31)) &&& 15)).toNatClampNeg = 1 + q := by
        rw [show (1 + ((x >>> ((6 : Int32) &&& 31)) &&& 15) : Int32) = iN (1 + q) by rw [← iN_add, ← eq]; rfl, iN_nat (by omega)]
      omega
    · simp only [if_neg h] at e
      cases e
  · show (decide (k / 4 < F) || decide ((x >>> ((12 : Int32) &&& 31)) &&& 7 = 0)) = true ∨ F ≤ k / 4
    by_cases h : k / 4 < F
    · left
      rw [decide_eq_true h]
      rfl
    · right
      omega
/-- the record's travellers -/
def recS (R F : Nat) : Nat → Int32 → Nat → Nat → List TV
  | 0, _, _, _ => []
  | d + 1, x, n, k => if n < 13 then (if ((x * 1103515245 + 12345) >>> ((8 : Int32) &&& 31)) &&& 3 = 0 then recS R F d (x * 1103515245 + 12345) n (k + 1) else tvS (x * 1103515245 + 12345) k R F :: recS R F d (x * 1103515245 + 12345) (n + 1) (k + 1)) else []
theorem recS_t {R F : Nat} (hF : F ≤ 100) : ∀ (d : Nat) (x : Int32) (n k : Nat), k + d ≤ 100 → recT (iN R) (iN F) d x n k = txt (recS R F d x n k)
  | 0, _, _, _, _ => rfl
  | d + 1, x, n, k, hk => by
    unfold recT recS
    by_cases h : n < 13
    · rw [if_pos h, if_pos h]
      by_cases h2 : ((x * 1103515245 + 12345) >>> ((8 : Int32) &&& 31)) &&& 3 = 0
      · rw [if_pos h2, if_pos h2]
        exact recS_t hF d _ n (k + 1) (by omega)
      · rw [if_neg h2, if_neg h2, tv_line (by omega) hF, recS_t hF d _ (n + 1) (k + 1) (by omega)]
        show _ = oT 2 ++ 32 :: (lnW _ ++ txt _)
        simp only [List.append_assoc, List.cons_append]
    · rw [if_neg h, if_neg h]
      rfl
theorem recS_ok {R F : Nat} (hR : 2 ≤ R ∧ R ≤ 10) : ∀ (d : Nat) (x : Int32) (n k : Nat), k + d ≤ 4 * R → n ≤ 13 → (recS R F d x n k).length + n ≤ 13 ∧ (∀ s ∈ recS R F d x n k, (TVok R s ∧ (s.1.2.2 = true ∨ F ≤ s.1.1 / 4)) ∧ k ≤ s.1.1 ∧ ∃ y j, j < 4 * R ∧ s = tvS y j R F) ∧ ((recS R F d x n k).map (fun s => s.1.1)).Nodup
  | 0, _, n, _, _, hn => ⟨by show 0 + n ≤ 13; omega, fun s hs => (by cases hs), List.nodup_nil⟩
  | d + 1, x, n, k, hk, hn => by
    unfold recS
    by_cases h : n < 13
    · rw [if_pos h]
      by_cases h2 : ((x * 1103515245 + 12345) >>> ((8 : Int32) &&& 31)) &&& 3 = 0
      · rw [if_pos h2]
        obtain ⟨a, b, c⟩ := recS_ok (F := F) hR d (x * 1103515245 + 12345) n (k + 1) (by omega) hn
        refine ⟨a, fun s hs => ?_, c⟩
        obtain ⟨b1, b2, b3⟩ := b s hs
        exact ⟨b1, by omega, b3⟩
      · rw [if_neg h2]
        obtain ⟨a, b, c⟩ := recS_ok (F := F) hR d (x * 1103515245 + 12345) (n + 1) (k + 1) (by omega) (by omega)
        refine ⟨by rw [List.length_cons]; omega, fun s hs => ?_, ?_⟩
        · rcases List.mem_cons.mp hs with rfl | hs
          · exact ⟨tv_ok hR (by omega), Nat.le_refl _, _, k, by omega, rfl⟩
          · obtain ⟨b1, b2, b3⟩ := b s hs
            exact ⟨b1, by omega, b3⟩
        · rw [List.map_cons, List.nodup_cons]
          refine ⟨fun hm => ?_, c⟩
          obtain ⟨s, hs, e⟩ := List.mem_map.mp hm
          have := (b s hs).2.1
          have e : s.1.1 = k := e
          omega
    · rw [if_neg h]
      exact ⟨by show 0 + n ≤ 13; omega, fun s hs => (by cases hs), List.nodup_nil⟩
/-- its length -/
theorem ln_len {x : Int32} {k R F : Nat} (hk : k < 100) (hR : 2 ≤ R ∧ R ≤ 6) : (lnW (tvS x k R F)).length ≤ 68 := by
  have hn := nat_lt (rem_b (x := (x >>> ((10 : Int32) &&& 31)) &&& 255) (d := 5) (an_b _ 255 (by decide)).1 (by decide)) (by decide)
  have l5 : ∀ i, i < 5 → (oT (22 + i)).length ≤ 3 := by decide +kernel
  have d1 : ∀ k, k < 10 → (dg k).length = 1 := by decide +kernel
  have d2 := (dg_lt k hk).2.1
  have hnm := l5 _ hn.1
  have ok := (tv_ok (x := x) (k := 0) (R := R) (F := F) ⟨hR.1, by omega⟩ (by omega)).1
  obtain ⟨-, ⟨o4, o5, o6⟩, o7, o8, o9⟩ := ok
  have o4 : ∀ j, (tvS x k R F).2.1.1 = some j → 1 ≤ j ∧ j ≤ 9 := o4
  have o5 : ∀ p, (tvS x k R F).2.1.2.1 = some p → p.2 ≤ 9 := o5
  have o6 : ∀ p, (tvS x k R F).2.1.2.2 = some p → p.2 ≤ 9 := o6
  have o7 : ∀ p, (tvS x k R F).2.2.1 = some p → p.1 < R ∧ p.2 ≤ 3 := o7
  have o8 : ∀ j, (tvS x k R F).2.2.2.1 = some j → j ≤ 99 := o8
  have o9 : ∀ j, (tvS x k R F).2.2.2.2 = some j → 1 ≤ j ∧ j ≤ 99 := o9
  have nm : (tvS x k R F).1.2.1.length ≤ 3 := hnm
  have kk : (tvS x k R F).1.1 = k := rfl
  generalize tvS x k R F = s at *
  have p1 : (pT s.1.2.2).length ≤ 7 := by
    unfold pT
    split
    · decide
    · decide
  have p2 : (pN 30 s.2.1.1).length ≤ 9 := by
    unfold pN
    split
    · decide
    · rename_i j e
      rw [List.length_append, d1 j (by have := o4 j e; omega)]
      decide
  have p3 : (pL 31 s.2.1.2.1).length ≤ 10 := by
    unfold pL
    split
    · decide
    · rename_i b j e
      rw [List.length_append, List.length_cons, d1 j (by have : j ≤ 9 := o5 _ e; omega)]
      decide
  have p4 : (pL 32 s.2.1.2.2).length ≤ 9 := by
    unfold pL
    split
    · decide
    · rename_i b j e
      rw [List.length_append, List.length_cons, d1 j (by have : j ≤ 9 := o6 _ e; omega)]
      decide
  have p5 : (pR s.2.2.1).length ≤ 8 := by
    unfold pR
    split
    · decide
    · rename_i a b e
      rw [List.length_append, List.length_append, List.length_cons, d1 a (by have : a < R := (o7 _ e).1; omega), d1 b (by have : b ≤ 3 := (o7 _ e).2; omega)]
      decide
  have p6 : (pN 34 s.2.2.2.1).length ≤ 10 := by
    unfold pN
    split
    · decide
    · rename_i j e
      have := (dg_lt j (by have := o8 j e; omega)).2.1
      rw [List.length_append, show (oT 34).length = 8 from rfl]
      omega
  have p7 : (pN 35 s.2.2.2.2).length ≤ 8 := by
    unfold pN
    split
    · decide
    · rename_i j e
      have := (dg_lt j (by have := o9 j e; omega)).2.1
      rw [List.length_append, show (oT 35).length = 6 from rfl]
      omega
  unfold lnW lnP
  simp only [List.length_append, List.length_cons, List.length_nil]
  rw [kk]
  omega
theorem txt_len {R F : Nat} (hR : 2 ≤ R ∧ R ≤ 6) : ∀ l : List TV, (∀ s ∈ l, ∃ y j, j < 4 * R ∧ s = tvS y j R F) → (txt l).length ≤ 73 * l.length
  | [], _ => Nat.le_refl _
  | s :: l, h => by
    obtain ⟨y, j, hj, rfl⟩ := h s List.mem_cons_self
    have a := ln_len (x := y) (k := j) (R := R) (F := F) (by omega) hR
    have b := txt_len hR l (fun x hx => h x (List.mem_cons_of_mem _ hx))
    show (oT 2 ++ 32 :: (lnW _ ++ txt l)).length ≤ 73 * (l.length + 1)
    simp only [List.length_append, List.length_cons]
    rw [show (oT 2).length = 4 from rfl]
    omega
/-- the record as load reads it -/
theorem rec_T (w0 v0 : Int32) : ∃ (R F : Nat) (l : List TV), (2 ≤ R ∧ R ≤ 6) ∧ TxO R F l ∧ recW w0 v0 = hdT R F ++ txt l ∧ (recW w0 v0).length ≤ 1000 ∧ l.length ≤ 13 := by
  obtain ⟨R, hR, eR⟩ := recR_b w0
  obtain ⟨F, hF, eF⟩ := recF_b w0 hR eR
  obtain ⟨a, b, c⟩ := recS_ok (F := F) ⟨hR.1, by omega⟩ (4 * R) v0 0 0 (by omega) (by omega)
  have hl : (recS R F (4 * R) v0 0 0).length ≤ 13 := by omega
  have ew : recW w0 v0 = hdT R F ++ txt (recS R F (4 * R) v0 0 0) := by
    unfold recW recH
    rw [eR, eF, iN_nat (by omega), recS_t (by omega) (4 * R) v0 0 0 (by omega)]
    unfold hdT dgI
    rw [iN_nat (by omega), iN_nat (by omega), show oT 20 = oT 0 ++ [32] from rfl, show oT 21 = 32 :: (oT 1 ++ [32]) from rfl]
    simp only [List.append_assoc, List.cons_append, List.nil_append]
  refine ⟨R, F, _, hR, ⟨⟨⟨hR.1, by omega⟩, hF, by omega⟩, fun s hs => (b s hs).1, c⟩, ew, ?_, hl⟩
  rw [ew]
  have t := txt_len hR _ (fun s hs => (b s hs).2.2)
  have d1 : ∀ k, k < 10 → (dg k).length = 1 := by decide +kernel
  unfold hdT
  simp only [List.length_append, List.length_cons, List.length_nil]
  rw [d1 R (by omega), d1 F (by omega), show (oT 0).length = 5 from rfl, show (oT 1).length = 5 from rfl]
  omega
