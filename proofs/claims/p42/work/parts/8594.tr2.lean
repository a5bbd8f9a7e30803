/-! THE LAW'S RECORD: head, loop, text -/
section TR2
variable {y pc c s q b : Nat} {X : List (Nat × jv_E)} {h0 h : jv_H} {w : List Int32} {Lv : List (Option Value)} {r : List Value} {K : jK}
/-- the lines from a seat on: d seats are left -/
def recT (R F : Int32) : Nat → Int32 → Nat → Nat → List Int32
  | 0, _, _, _ => []
  | d + 1, x, n, k => if n < 13 then (if ((x * 1103515245 + 12345) >>> ((8 : Int32) &&& 31)) &&& 3 = 0 then recT R F d (x * 1103515245 + 12345) n (k + 1) else tLin (x * 1103515245 + 12345) (iN k) R F ++ recT R F d (x * 1103515245 + 12345) (n + 1) (k + 1)) else []
theorem tr_91 {p : Nat} {w0 v0 R F x n k : Int32} (hs : BS [(p, .inr (.inl (5, 5, nmF)))] c s h0 h q w b) (T : (¬ k < 4 * R → jE 190 451 [some (.int w0), some (.int v0), some (.int R), some (.int F), some (.ref q), some (.ref p), some (.int x), some (.int n), some (.int k)] [] h K) ∧ (k < 4 * R → (¬ n < 13 → jE 190 451 [some (.int w0), some (.int v0), some (.int R), some (.int F), some (.ref q), some (.ref p), some (.int x), some (.int n), some (.int k)] [] h K) ∧ (n < 13 → (((((x * 1103515245) + 12345) >>> ((8 : Int32) &&& 31)) &&& 3) = 0 → jE 190 91 [some (.int w0), some (.int v0), some (.int R), some (.int F), some (.ref q), some (.ref p), some (.int ((x * 1103515245) + 12345)), some (.int n), some (.int (k + 1))] [] h K) ∧ (¬ ((((x * 1103515245) + 12345) >>> ((8 : Int32) &&& 31)) &&& 3) = 0 → jE 190 130 [some (.int w0), some (.int v0), some (.int R), some (.int F), some (.ref q), some (.ref p), some (.int ((x * 1103515245) + 12345)), some (.int n), some (.int k)] [] h K)))) : jE 190 91 [some (.int w0), some (.int v0), some (.int R), some (.int F), some (.ref q), some (.ref p), some (.int x), some (.int n), some (.int k)] [] h K := by
  refine jx_blk (by decide) [(.iload 8, 2), (.iconst 4, 1), (.iload_n 2, 1), (.imul, 1)] (pc' := 96) (Lv' := [some (.int w0), some (.int v0), some (.int R), some (.int F), some (.ref q), some (.ref p), some (.int x), some (.int n), some (.int k)]) (st' := [.int (4 * R), .int k]) (by decide +kernel) rfl ?_
  refine jx_ic_ge (off := 355) (b := 451) (by decide) (by decide +kernel) (by decide) (fun e => T.1 e) (fun e => ?_)
  · refine jx_blk (by decide) [(.iload 7, 2), (.bipush 13, 2)] (pc' := 103) (Lv' := [some (.int w0), some (.int v0), some (.int R), some (.int F), some (.ref q), some (.ref p), some (.int x), some (.int n), some (.int k)]) (st' := [.int 13, .int n]) (by decide +kernel) rfl ?_
    refine jx_ic_ge (off := 348) (b := 451) (by decide) (by decide +kernel) (by decide) (fun e1 => (T.2 e).1 e1) (fun e1 => ?_)
    · refine jx_blk (by decide) [(.iload 6, 2)] (pc' := 108) (Lv' := [some (.int w0), some (.int v0), some (.int R), some (.int F), some (.ref q), some (.ref p), some (.int x), some (.int n), some (.int k)]) (st' := [.int x]) (by decide +kernel) rfl ?_
      refine jx_ldc (idx := 55) (v := .int 1103515245) (by decide) (by decide +kernel) (by decide +kernel) ?_
      refine jx_blk (by decide) [(.imul, 1), (.sipush 12345, 3), (.iadd, 1), (.istore 6, 2), (.iload 6, 2), (.bipush 8, 2), (.ishr, 1), (.iconst 3, 1), (.iand, 1)] (pc' := 124) (Lv' := [some (.int w0), some (.int v0), some (.int R), some (.int F), some (.ref q), some (.ref p), some (.int ((x * 1103515245) + 12345)), some (.int n), some (.int k)]) (st' := [.int ((((x * 1103515245) + 12345) >>> ((8 : Int32) &&& 31)) &&& 3)]) (by decide +kernel) rfl ?_
      refine jx_if_ne (off := 6) (b := 130) (by decide) (by decide +kernel) (by decide) (fun e2 => ((T.2 e).2 e1).2 e2) (fun e2 => ?_)
      · refine jx_goto (off := 318) (b := 445) (by decide) (by decide +kernel) (by decide) ?_
        refine jx_blk (by decide) [(.iinc 8 1, 3)] (pc' := 448) (Lv' := [some (.int w0), some (.int v0), some (.int R), some (.int F), some (.ref q), some (.ref p), some (.int ((x * 1103515245) + 12345)), some (.int n), some (.int (k + 1))]) (st' := []) (by decide +kernel) rfl ?_
        refine jx_goto (off := (-357)) (b := 91) (by decide) (by decide +kernel) (by decide) ?_
        exact ((T.2 e).2 e1).1 e2
theorem tr_lp {p R : Nat} {w0 v0 F : Int32} (hR : 2 ≤ R ∧ R ≤ 6) (T : ∀ (h1 : jv_H) (x n k : Int32), BS [(p, .inr (.inl (5, 5, nmF)))] c s h0 h1 q w 3900 → jE 190 451 [some (.int w0), some (.int v0), some (.int (iN R)), some (.int F), some (.ref q), some (.ref p), some (.int x), some (.int n), some (.int k)] [] h1 K) :
    ∀ (d k n : Nat) (x : Int32) (u : List Int32) {h : jv_H} {b : Nat}, k + d = 4 * R → n ≤ 13 → w = u ++ recT (iN R) F d x n k → b + 151 * (13 - n) ≤ 3900 → BS [(p, .inr (.inl (5, 5, nmF)))] c s h0 h q u b → jE 190 91 [some (.int w0), some (.int v0), some (.int (iN R)), some (.int F), some (.ref q), some (.ref p), some (.int x), some (.int (iN n)), some (.int (iN k))] [] h K := by
  intro d
  induction d with
  | zero =>
    intro k n x u h b hkd hn hu hb hs
    have e4 : 4 * iN R = iN (4 * R) := iN_mul 4 R
    refine tr_91 hs ⟨fun _ => T h x (iN n) (iN k) ?_, fun z => ?_⟩
    · rw [hu]
      unfold recT
      rw [List.append_nil]
      exact hs.le (by omega)
    · rw [e4, iN_lt (by omega) (by omega)] at z
      omega
  | succ d ih =>
    intro k n x u h b hkd hn hu hb hs
    have e4 : 4 * iN R = iN (4 * R) := iN_mul 4 R
    have e13 : (13 : Int32) = iN 13 := rfl
    have r26 : 2 ≤ iN R ∧ iN R ≤ 6 := ⟨(iN_le (k := 2) (by decide) (by omega)).mpr hR.1, (iN_le (m := 6) (by omega) (by decide)).mpr hR.2⟩
    unfold recT at hu
    refine tr_91 hs ⟨fun z => ?_, fun _ => ⟨fun z => T h x (iN n) (iN k) ?_, fun z => ⟨fun y => ?_, fun y => ?_⟩⟩⟩
    · rw [e4, iN_lt (by omega) (by omega)] at z
      omega
    · rw [e13, iN_lt (by omega) (by omega)] at z
      rw [hu, if_neg z, List.append_nil]
      exact hs.le (by omega)
    · rw [e13, iN_lt (by omega) (by omega)] at z
      rw [if_pos z, if_pos y] at hu
      rw [iN_one]
      exact ih (k + 1) n _ u (by omega) hn hu hb hs
    · rw [e13, iN_lt (by omega) (by omega)] at z
      rw [if_pos z, if_neg y, ← List.append_assoc] at hu
      refine tr_lin r26 ⟨(iN_le (k := 0) (by decide) (by omega)).mpr (Nat.zero_le _), (iN_lt (m := 100) (by omega) (by decide)).mpr (by omega)⟩ hs (by omega) (fun h1 s1 => ?_)
      rw [iN_one, iN_one]
      exact ih (k + 1) (n + 1) _ _ (by omega) (by omega) hu (by omega) s1
/-- a text that a method of the law's made -/
def jTM (h h' : jv_H) (a : Nat) (w : List Int32) : Prop := (∀ b, b < h.2.1 ∨ 1000000 ≤ b → h'.1 b = h.1 b) ∧ (h.2.1 ≤ h'.2.1 ∧ h'.2.1 ≤ h.2.1 + 8020 ∧ h'.2.2 ≤ h.2.2 + 20100) ∧ (h.2.1 ≤ a ∧ a + 1 < h'.2.1) ∧ (∃ tl, h'.1 a = .inr (.inr (8, .ref (a + 1) :: .int 0 :: tl))) ∧ (∃ g, h'.1 (a + 1) = .inl (4, w.length, g) ∧ ∀ j, j < w.length → g j = w.getD j 0) ∧ jLt w
theorem BS.tm {h' : jv_H} {a : Nat} (hs : BS X c s h0 h q w b) (hb : b ≤ 4000) (hc : c ≤ 16 ∧ s ≤ 80) (ht : jTS h h' a w) : jTM h0 h' a w := by
  obtain ⟨f1, f2, f3, fs, f4⟩ := hs.fix
  obtain ⟨v, m, s1, s2, s3, s4, s5, s6, s7, s8⟩ := hs
  have m8 := s1.2.2.2.1.2.2
  obtain ⟨t1, t2, t3, t4, t5, t6⟩ := ht
  refine ⟨fun x hx => ?_, ⟨by omega, by omega, by omega⟩, ⟨by omega, by omega⟩, t5, t6, s1.2.2.2.2⟩
  rw [t4 x (by omega)]
  exact s4 x hx
theorem tr_451 {p : Nat} {w0 v0 R F x n k : Int32} (hs : BS [(p, .inr (.inl (5, 5, nmF)))] c s h0 h q w b) (hb : b ≤ 4000) (hc : c ≤ 16 ∧ s ≤ 80) (T : ∀ a h1, jTM h0 h1 a w → K (some (.ref a)) h1) : jE 190 451 [some (.int w0), some (.int v0), some (.int R), some (.int F), some (.ref q), some (.ref p), some (.int x), some (.int n), some (.int k)] [] h K := by
  refine jx_blk (by decide) [(.aload 4, 2)] (pc' := 453) (Lv' := [some (.int w0), some (.int v0), some (.int R), some (.int F), some (.ref q), some (.ref p), some (.int x), some (.int n), some (.int k)]) (st' := [.ref q]) (by decide +kernel) rfl ?_
  obtain ⟨f1, f2, f3, fs, f4⟩ := hs.fix
  have hs0 := hs
  obtain ⟨v, m, s1, s2, s3, s4, s5, s6, s7, s8⟩ := hs
  refine jx_call (z := 163) (na := 1) (mL := 1) (ck := 1) (ow := 9) (by decide +kernel) (by show 1 ≤ 1; decide) (Nat.le_of_ble_eq_true rfl) rfl (Or.inr ⟨q, 9, _, rfl, Or.inl f3, f4, rfl⟩) ?_
  refine sb_ts s1 (fun a h' t => ?_)
  exact jx_aret (by decide) (by decide +kernel) (Or.inr ⟨"java/lang/String", by decide +kernel⟩) (T a h' (hs0.tm hb hc t))
def recR (w0 : Int32) : Int32 := (2 + ((w0 &&& 255) - (w0 &&& 255) / 5 * 5))
def recF (w0 : Int32) : Int32 := (((w0 >>> ((3 : Int32) &&& 31)) &&& 255) - ((w0 >>> ((3 : Int32) &&& 31)) &&& 255) / (recR w0 + 1) * (recR w0 + 1))
/-- a record's head, its whole text -/
def recH (w0 : Int32) : List Int32 := oT 20 ++ dgI (recR w0) ++ oT 21 ++ dgI (recF w0) ++ [59]
def recW (w0 v0 : Int32) : List Int32 := recH w0 ++ recT (recR w0) (recF w0) (4 * (recR w0).toNatClampNeg) v0 0 0
theorem recR_b (w0 : Int32) : ∃ R : Nat, (2 ≤ R ∧ R ≤ 6) ∧ recR w0 = iN R := by
  obtain ⟨e, l⟩ := iN_of (rem_b (x := w0 &&& 255) (d := 5) (an_b w0 255 (by decide)).1 (by decide)).1
  have h2 := (rem_b (x := w0 &&& 255) (d := 5) (an_b w0 255 (by decide)).1 (by decide)).2
  rw [e, iN_lt l (by decide)] at h2
  refine ⟨2 + ((w0 &&& 255) - (w0 &&& 255) / iN 5 * iN 5).toNatClampNeg, ⟨by omega, by omega⟩, ?_⟩
  unfold recR
  rw [← iN_add, ← e]
  rfl
theorem recF_b (w0 : Int32) {R : Nat} (hR : 2 ≤ R ∧ R ≤ 6) (e : recR w0 = iN R) : ∃ F : Nat, F ≤ R ∧ recF w0 = iN F := by
  have h := rem_b (x := (w0 >>> ((3 : Int32) &&& 31)) &&& 255) (d := R + 1) (an_b _ 255 (by decide)).1 ⟨by omega, by omega⟩
  obtain ⟨e2, l⟩ := iN_of h.1
  have h2 := h.2
  rw [e2, iN_lt l (by omega)] at h2
  refine ⟨(((w0 >>> ((3 : Int32) &&& 31)) &&& 255) - ((w0 >>> ((3 : Int32) &&& 31)) &&& 255) / iN (R + 1) * iN (R + 1)).toNatClampNeg, by omega, ?_⟩
  unfold recF
  rw [e, iN_one]
  exact e2
theorem lm_train {w0 v0 : Int32} (hF : jFix h) (hc : h.2.1 + 16 ≤ 600000) (hK : ∀ a h', jTM h h' a (recW w0 v0) → K (some (.ref a)) h') : jE 190 0 [some (.int w0), some (.int v0), none, none, none, none, none, none, none] [] h K := by
  obtain ⟨R, hR, eR⟩ := recR_b w0
  obtain ⟨F, hFR, eF⟩ := recF_b w0 hR eR
  refine jx_blk (by decide) [(.iconst 2, 1), (.iload_n 0, 1), (.sipush 255, 3), (.iand, 1), (.iconst 5, 1), (.irem, 1), (.iadd, 1), (.istore_n 2, 1), (.iload_n 0, 1), (.iconst 3, 1), (.ishr, 1), (.sipush 255, 3), (.iand, 1), (.iload_n 2, 1), (.iconst 1, 1), (.iadd, 1)] (pc' := 20) (Lv' := [some (.int w0), some (.int v0), some (.int (recR w0)), none, none, none, none, none, none]) (st' := [.int ((recR w0) + 1), .int ((w0 >>> ((3 : Int32) &&& 31)) &&& 255)]) (by decide +kernel) rfl ?_
  have hR1 : ¬ ((recR w0) + 1) = 0 := by
    rw [eR, iN_one]
    exact iN_eq (b := 0) (by omega) (by decide) (by omega)
  refine jx_rem (by decide) (by decide +kernel) hR1 ?_
  refine jx_blk (by decide) [(.istore_n 3, 1)] (pc' := 22) (Lv' := [some (.int w0), some (.int v0), some (.int (recR w0)), some (.int (((w0 >>> ((3 : Int32) &&& 31)) &&& 255) - ((w0 >>> ((3 : Int32) &&& 31)) &&& 255) / ((recR w0) + 1) * ((recR w0) + 1))), none, none, none, none, none]) (st' := []) (by decide +kernel) rfl ?_
  show jE 190 22 [some (.int w0), some (.int v0), some (.int (recR w0)), some (.int (recF w0)), none, none, none, none, none] [] h K
  refine jx_newo (idx := 27) (c := 9) (by decide) (by decide +kernel) (by decide +kernel) ?_
  obtain ⟨h1, hh1⟩ : ∃ h1, h1 = jv_add h (.inr (.inr (9, (List.range (jv_fn 9)).map (fun k => defaultValue (jv_fty 9 k))))) (jv_fn 9) := ⟨_, rfl⟩
  rw [← hh1]
  have u1 : h1.2.1 = h.2.1 + 1 := by rw [hh1]; rfl
  have u2 : h1.2.2 = h.2.2 + 4 := by rw [hh1]; rfl
  have e9 : h1.1 h.2.1 = .inr (.inr (9, [defaultValue (jv_fty 9 0), defaultValue (jv_fty 9 1), defaultValue (jv_fty 9 2), defaultValue (jv_fty 9 3)])) := by rw [hh1]; exact jv_at_new
  have hn9 : jN9 h1 h.2.1 := ⟨by omega, _, _, _, _, e9, by decide +kernel⟩
  have u3 : ∀ b, b ≠ h.2.1 → h1.1 b = h.1 b := by
    intro b hb
    rw [hh1]
    show jv_up h.1 h.2.1 _ b = _
    unfold jv_up
    rw [if_neg hb]
  have hF1 : jFix h1 := hF.fr (fun a ha => u3 a (by omega))
  refine jx_blk (by decide) [(.dup, 1)] (pc' := 26) (Lv' := [some (.int w0), some (.int v0), some (.int (recR w0)), some (.int (recF w0)), none, none, none, none, none]) (st' := [.ref h.2.1, .ref h.2.1]) (by decide +kernel) rfl ?_
  refine jx_ldc (idx := 29) (v := .ref 1000021) (by decide) (by decide +kernel) (by decide +kernel) ?_
  refine jx_call (z := 159) (na := 2) (mL := 2) (ck := 2) (ow := 9) (by decide +kernel) (by show 2 ≤ 3; decide) (Nat.le_of_ble_eq_true rfl) rfl (Or.inr ⟨h.2.1, 9, _, rfl, Or.inl hn9.1, e9, rfl⟩) ?_
  refine sb_is (i := 20) hn9 hF1 (by decide) (by omega) (fun h2 v2 m2 a1 a2 a3 a4 a5 a6 => ?_)
  show jE 190 31 [some (.int w0), some (.int v0), some (.int (recR w0)), some (.int (recF w0)), none, none, none, none, none] [.ref h.2.1] h2 K
  have m8 := a1.2.2.2.1.2.2
  have hs0 : BS [] 2 4 h h2 h.2.1 (oT 20) 8 := ⟨v2, m2, a1, (oT_lt 20 (by decide)).2, ⟨Nat.le_refl _, by omega⟩, fun x hx => by rw [a6 x (by omega) (by omega)]; exact u3 x (by omega), fun x hx => (by cases hx), ⟨by omega, by omega, by omega⟩, hF, by omega⟩
  have hRb : 0 ≤ recR w0 ∧ recR w0 < 100 := by rw [eR]; exact ⟨(iN_le (k := 0) (by decide) (by omega)).mpr (Nat.zero_le _), (iN_lt (m := 100) (by omega) (by decide)).mpr (by omega)⟩
  have hFb : 0 ≤ recF w0 ∧ recF w0 < 100 := by rw [eF]; exact ⟨(iN_le (k := 0) (by decide) (by omega)).mpr (Nat.zero_le _), (iN_lt (m := 100) (by omega) (by decide)).mpr (by omega)⟩
  refine jx_blk (by decide) [(.iload_n 2, 1)] (pc' := 32) (Lv' := [some (.int w0), some (.int v0), some (.int (recR w0)), some (.int (recF w0)), none, none, none, none, none]) (st' := [.int (recR w0), .ref h.2.1]) (by decide +kernel) rfl ?_
  refine bx_ai (by decide +kernel) hs0 hRb (by omega) (Nat.le_of_ble_eq_true rfl) (fun h1 hs1 => ?_)
  refine jx_ldc (idx := 37) (v := .ref 1000022) (by decide) (by decide +kernel) (by decide +kernel) ?_
  refine bx_as 21 (by decide +kernel) hs1 (by decide) (by omega) (Nat.le_of_ble_eq_true rfl) (fun h2 hs2 => ?_)
  refine jx_blk (by decide) [(.iload_n 3, 1)] (pc' := 41) (Lv' := [some (.int w0), some (.int v0), some (.int (recR w0)), some (.int (recF w0)), none, none, none, none, none]) (st' := [.int (recF w0), .ref h.2.1]) (by decide +kernel) rfl ?_
  refine bx_ai (by decide +kernel) hs2 hFb (by omega) (Nat.le_of_ble_eq_true rfl) (fun h3 hs3 => ?_)
  refine jx_blk (by decide) [(.bipush 59, 2)] (pc' := 46) (Lv' := [some (.int w0), some (.int v0), some (.int (recR w0)), some (.int (recF w0)), none, none, none, none, none]) (st' := [.int 59, .ref h.2.1]) (by decide +kernel) rfl ?_
  refine bx_ac (by decide +kernel) hs3 (by decide) (by omega) (Nat.le_of_ble_eq_true rfl) (fun h4 hs4 => ?_)
  refine jx_blk (by decide) [(.astore 4, 2), (.iconst 5, 1)] (pc' := 52) (Lv' := [some (.int w0), some (.int v0), some (.int (recR w0)), some (.int (recF w0)), some (.ref h.2.1), none, none, none, none]) (st' := [.int 5]) (by decide +kernel) rfl ?_
  have hsn := hs4.new (x := .inr (.inl (5, 5, fun _ => none))) (k := 5) (by omega)
  refine jx_newa5 (by decide) (by decide +kernel) (by decide +kernel) ?_
  obtain ⟨p, hp⟩ : ∃ p, p = h4.2.1 := ⟨_, rfl⟩
  rw [← hp] at hsn ⊢
  generalize jv_add h4 (.inr (.inl (5, 5, fun _ => none))) 5 = h7 at *
  refine jx_blk (by decide) [(.dup, 1), (.iconst 0, 1)] (pc' := 57) (Lv' := [some (.int w0), some (.int v0), some (.int (recR w0)), some (.int (recF w0)), some (.ref h.2.1), none, none, none, none]) (st' := [.int 0, .ref p, .ref p]) (by decide +kernel) rfl ?_
  refine jx_ldc (idx := 45) (v := .ref 1000023) (by decide) (by decide +kernel) (by decide +kernel) ?_
  refine jx_aast (t := 1000023) (j := 0) (by decide) (by decide +kernel) hsn.x.1 hsn.x.2 (by decide) ((hsn.fix.1).t (i := 22) (by decide)).1 (by decide) (by decide) ?_
  have hs21 := hsn.put (z := .inr (.inl (5, 5, (va_up (fun _ => none) 0 (some 1000023)))))
  generalize jv_put h7 p (.inr (.inl (5, 5, (va_up (fun _ => none) 0 (some 1000023))))) = h21 at *
  refine jx_blk (by decide) [(.dup, 1), (.iconst 1, 1)] (pc' := 62) (Lv' := [some (.int w0), some (.int v0), some (.int (recR w0)), some (.int (recF w0)), some (.ref h.2.1), none, none, none, none]) (st' := [.int 1, .ref p, .ref p]) (by decide +kernel) rfl ?_
  refine jx_ldc (idx := 47) (v := .ref 1000024) (by decide) (by decide +kernel) (by decide +kernel) ?_
  refine jx_aast (t := 1000024) (j := 1) (by decide) (by decide +kernel) hs21.x.1 hs21.x.2 (by decide) ((hs21.fix.1).t (i := 23) (by decide)).1 (by decide) (by decide) ?_
  have hs22 := hs21.put (z := .inr (.inl (5, 5, (va_up (va_up (fun _ => none) 0 (some 1000023)) 1 (some 1000024)))))
  generalize jv_put h21 p (.inr (.inl (5, 5, (va_up (va_up (fun _ => none) 0 (some 1000023)) 1 (some 1000024))))) = h22 at *
  refine jx_blk (by decide) [(.dup, 1), (.iconst 2, 1)] (pc' := 67) (Lv' := [some (.int w0), some (.int v0), some (.int (recR w0)), some (.int (recF w0)), some (.ref h.2.1), none, none, none, none]) (st' := [.int 2, .ref p, .ref p]) (by decide +kernel) rfl ?_
  refine jx_ldc (idx := 49) (v := .ref 1000025) (by decide) (by decide +kernel) (by decide +kernel) ?_
  refine jx_aast (t := 1000025) (j := 2) (by decide) (by decide +kernel) hs22.x.1 hs22.x.2 (by decide) ((hs22.fix.1).t (i := 24) (by decide)).1 (by decide) (by decide) ?_
  have hs23 := hs22.put (z := .inr (.inl (5, 5, (va_up (va_up (va_up (fun _ => none) 0 (some 1000023)) 1 (some 1000024)) 2 (some 1000025)))))
  generalize jv_put h22 p (.inr (.inl (5, 5, (va_up (va_up (va_up (fun _ => none) 0 (some 1000023)) 1 (some 1000024)) 2 (some 1000025))))) = h23 at *
  refine jx_blk (by decide) [(.dup, 1), (.iconst 3, 1)] (pc' := 72) (Lv' := [some (.int w0), some (.int v0), some (.int (recR w0)), some (.int (recF w0)), some (.ref h.2.1), none, none, none, none]) (st' := [.int 3, .ref p, .ref p]) (by decide +kernel) rfl ?_
  refine jx_ldc (idx := 51) (v := .ref 1000026) (by decide) (by decide +kernel) (by decide +kernel) ?_
  refine jx_aast (t := 1000026) (j := 3) (by decide) (by decide +kernel) hs23.x.1 hs23.x.2 (by decide) ((hs23.fix.1).t (i := 25) (by decide)).1 (by decide) (by decide) ?_
  have hs24 := hs23.put (z := .inr (.inl (5, 5, (va_up (va_up (va_up (va_up (fun _ => none) 0 (some 1000023)) 1 (some 1000024)) 2 (some 1000025)) 3 (some 1000026)))))
  generalize jv_put h23 p (.inr (.inl (5, 5, (va_up (va_up (va_up (va_up (fun _ => none) 0 (some 1000023)) 1 (some 1000024)) 2 (some 1000025)) 3 (some 1000026))))) = h24 at *
  refine jx_blk (by decide) [(.dup, 1), (.iconst 4, 1)] (pc' := 77) (Lv' := [some (.int w0), some (.int v0), some (.int (recR w0)), some (.int (recF w0)), some (.ref h.2.1), none, none, none, none]) (st' := [.int 4, .ref p, .ref p]) (by decide +kernel) rfl ?_
  refine jx_ldc (idx := 53) (v := .ref 1000027) (by decide) (by decide +kernel) (by decide +kernel) ?_
  refine jx_aast (t := 1000027) (j := 4) (by decide) (by decide +kernel) hs24.x.1 hs24.x.2 (by decide) ((hs24.fix.1).t (i := 26) (by decide)).1 (by decide) (by decide) ?_
  have hs25 := hs24.put (z := .inr (.inl (5, 5, (va_up (va_up (va_up (va_up (va_up (fun _ => none) 0 (some 1000023)) 1 (some 1000024)) 2 (some 1000025)) 3 (some 1000026)) 4 (some 1000027)))))
  generalize jv_put h24 p (.inr (.inl (5, 5, (va_up (va_up (va_up (va_up (va_up (fun _ => none) 0 (some 1000023)) 1 (some 1000024)) 2 (some 1000025)) 3 (some 1000026)) 4 (some 1000027))))) = h25 at *
  refine jx_blk (by decide) [(.astore 5, 2), (.iload_n 1, 1), (.istore 6, 2), (.iconst 0, 1), (.istore 7, 2), (.iconst 0, 1), (.istore 8, 2)] (pc' := 91) (Lv' := [some (.int w0), some (.int v0), some (.int (recR w0)), some (.int (recF w0)), some (.ref h.2.1), some (.ref p), some (.int v0), some (.int 0), some (.int 0)]) (st' := []) (by decide +kernel) rfl ?_
  have e4 : 4 * (recR w0).toNatClampNeg = 4 * R := by rw [eR, iN_nat (by omega)]
  rw [eR]
  refine tr_lp (c := 3) (s := 9) (h0 := h) (q := h.2.1) (w := recW w0 v0) (p := p) hR (fun h9 x n k z => ?_) (4 * R) 0 0 v0 (recH w0) (by omega) (by omega) ?_ (b := 100) (by omega) ?_
  · exact tr_451 z (by omega) (by omega) hK
  · unfold recW
    rw [e4, eR]
  · unfold recH
    exact hs25.le (by omega)
end TR2
