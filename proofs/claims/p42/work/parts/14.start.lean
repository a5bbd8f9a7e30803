/-! THE START: what the Statement gives of it, as the J machine's knowledge; printed by wip/p42/start42.py -/
def jv_flat : List Cond := flatC (Jvm.Cond.and given_1 narrow_1)
def jv_tm (i : Nat) : Term := Term.string (jv_str.getD i ("", 0, "")).1 (jv_str.getD i ("", 0, "")).2.1
def jv_pf : List Nat := [233, 242, 251, 259, 269, 279, 289, 298, 305, 315, 323, 333, 344, 353, 364, 376, 388, 399, 408, 420, 430, 441, 453, 460, 466, 472, 479, 486, 496, 508, 512, 525, 538, 550, 560, 573, 584]
theorem jv_fm1 : ∀ i, i < 37 → jv_flat[jv_pf.getD i 0]? = some (Cond.exactly (jv_tm i) "java/lang/String") := by decide +kernel
theorem jv_fl1 : ∀ i, i < 37 → Cond.exactly (jv_tm i) "java/lang/String" ∈ jv_flat := fun i hi => List.mem_of_getElem? (jv_fm1 i hi)
theorem jv_fm2 : ∀ i, i < 37 → jv_flat[jv_pf.getD i 0 + 1]? = some (Cond.eq (.field (jv_tm i) "java/lang/String" "coder" "B") (.int 0)) := by decide +kernel
theorem jv_fl2 : ∀ i, i < 37 → Cond.eq (.field (jv_tm i) "java/lang/String" "coder" "B") (.int 0) ∈ jv_flat := fun i hi => List.mem_of_getElem? (jv_fm2 i hi)
theorem jv_fm3 : ∀ i, i < 37 → jv_flat[jv_pf.getD i 0 + 2]? = some (Cond.arrayOf (.field (jv_tm i) "java/lang/String" "value" "[B") .byte) := by decide +kernel
theorem jv_fl3 : ∀ i, i < 37 → Cond.arrayOf (.field (jv_tm i) "java/lang/String" "value" "[B") .byte ∈ jv_flat := fun i hi => List.mem_of_getElem? (jv_fm3 i hi)
theorem jv_fm4 : ∀ i, i < 37 → jv_flat[jv_pf.getD i 0 + 3]? = some (Cond.eq (.length (.field (jv_tm i) "java/lang/String" "value" "[B")) (.int (Int32.ofNat (jv_lens.getD i 0)))) := by decide +kernel
theorem jv_fl4 : ∀ i, i < 37 → Cond.eq (.length (.field (jv_tm i) "java/lang/String" "value" "[B")) (.int (Int32.ofNat (jv_lens.getD i 0))) ∈ jv_flat := fun i hi => List.mem_of_getElem? (jv_fm4 i hi)
theorem jv_fm5 : ∀ i, i < 37 → ∀ j, j < jv_lens.getD i 0 → jv_flat[jv_pf.getD i 0 + 4 + j]? = some (Cond.eq (.elem (.field (jv_tm i) "java/lang/String" "value" "[B") (.int (Int32.ofNat j))) (.int ((jv_byt.getD i []).getD j 0))) := by decide +kernel
theorem jv_fl5 : ∀ i, i < 37 → ∀ j, j < jv_lens.getD i 0 → Cond.eq (.elem (.field (jv_tm i) "java/lang/String" "value" "[B") (.int (Int32.ofNat j))) (.int ((jv_byt.getD i []).getD j 0)) ∈ jv_flat := fun i hi j hj => List.mem_of_getElem? (jv_fm5 i hi j hj)
theorem jv_fl7 : Cond.eq (.static "java/lang/String" "COMPACT_STRINGS" "Z") (.int 1) ∈ jv_flat := List.mem_of_getElem? (i := 4) (by decide +kernel)
theorem jv_fl8 : Cond.isRef (.static "jdk/internal/util/Preconditions" "SIOOBE_FORMATTER" "Ljava/util/function/BiFunction;") ∈ jv_flat := List.mem_of_getElem? (i := 5) (by decide +kernel)
theorem jv_dg11 : Cond.arrayOf (.static "java/lang/Integer" "DigitOnes" "[B") .byte ∈ jv_flat := List.mem_of_getElem? (i := 10) (by decide +kernel)
theorem jv_dg12 : Cond.eq (.length (.static "java/lang/Integer" "DigitOnes" "[B")) (.int (Int32.ofNat 100)) ∈ jv_flat := List.mem_of_getElem? (i := 11) (by decide +kernel)
theorem jv_dg13 : ∀ j, j < 100 → jv_flat[12 + j]? = some (Cond.eq (.elem (.static "java/lang/Integer" "DigitOnes" "[B") (.int (Int32.ofNat j))) (.int (Int32.ofNat (48 + j % 10)))) := by decide +kernel
theorem jv_dgt1 : Cond.laysStatic "java/lang/Integer" "DigitOnes" "[B" ∈ lw_tbl := by decide +kernel
theorem jv_dg21 : Cond.arrayOf (.static "java/lang/Integer" "DigitTens" "[B") .byte ∈ jv_flat := List.mem_of_getElem? (i := 113) (by decide +kernel)
theorem jv_dg22 : Cond.eq (.length (.static "java/lang/Integer" "DigitTens" "[B")) (.int (Int32.ofNat 100)) ∈ jv_flat := List.mem_of_getElem? (i := 114) (by decide +kernel)
theorem jv_dg23 : ∀ j, j < 100 → jv_flat[115 + j]? = some (Cond.eq (.elem (.static "java/lang/Integer" "DigitTens" "[B") (.int (Int32.ofNat j))) (.int (Int32.ofNat (48 + j / 10)))) := by decide +kernel
theorem jv_dgt2 : Cond.laysStatic "java/lang/Integer" "DigitTens" "[B" ∈ lw_tbl := by decide +kernel
theorem jv_tb1 : Cond.laysStatic "java/lang/String" "COMPACT_STRINGS" "Z" ∈ lw_tbl := by decide +kernel
theorem jv_tb2 : Cond.laysStatic "jdk/internal/util/Preconditions" "SIOOBE_FORMATTER" "Ljava/util/function/BiFunction;" ∈ lw_tbl := by decide +kernel
theorem jv_tb3 : ∀ i, i < 37 → Cond.stringRef (jv_str.getD i ("", 0, "")).1 (jv_str.getD i ("", 0, "")).2.1 (jv_str.getD i ("", 0, "")).2.2 ∈ lw_tbl := by decide +kernel
theorem jv_tb4 : Cond.castable "[B" "java/lang/Cloneable" ∈ lw_tbl := by decide +kernel
theorem jv_ini6 : Cond.initialized "java/lang/Integer" ∈ jv_T := jv_in_ok (i := 1043) (by decide +kernel)
theorem jv_arrTA_spec {args : Array Value} {s : State} (h : (Cond.arrayOver (.array .int)).before args s = true) : ∃ comp c k, s.vm.findClass (FieldType.array .int).toString = some comp ∧ s.vm.classes[c]? = some k ∧ k.kind = .array comp (.array .int) ∧ s.vm.findClass ("[" ++ (FieldType.array .int).toString) = some c := by
  exact Cond.arrayOver_specA (args := args) (first := s) (o := none) (s := s) (idx := []) h
theorem jv_lens_lt : ∀ i, i < 37 → jv_lens.getD i 0 < 2 ^ 31 := by decide +kernel
/-- an object's text by its words: nothing is said of two being apart -/
theorem jv_Sof {args : Array Value} {s : State} {tm : Nat → Term} {A : Nat → Prop} (hex : ∀ i : Nat, i < 37 → (Cond.exactly (tm i) "java/lang/String").before args s = true) (hco : ∀ i : Nat, i < 37 → (Cond.eq (.field (tm i) "java/lang/String" "coder" "B") (.int 0)).before args s = true)
    (har : ∀ i : Nat, i < 37 → (Cond.arrayOf (.field (tm i) "java/lang/String" "value" "[B") .byte).before args s = true) (hle : ∀ i : Nat, i < 37 → (Cond.eq (.length (.field (tm i) "java/lang/String" "value" "[B")) (.int (Int32.ofNat (jv_lens.getD i 0)))).before args s = true)
    (hel : ∀ i : Nat, i < 37 → ∀ j : Nat, j < jv_lens.getD i 0 → (Cond.eq (.elem (.field (tm i) "java/lang/String" "value" "[B") (.int (Int32.ofNat j))) (.int ((jv_byt.getD i []).getD j 0))).before args s = true) (hA : ∀ a : Nat, a < s.heap.size → ¬ A a) :
    ∃ adK adV : Nat → Nat, jv_S adK adV A s s.heap ∧ ∀ i : Nat, i < 37 → (tm i).eval args s none [] s = some (.ref (adK i)) := by
  have h0 : ∀ i : Nat, ∃ q : Nat × Nat, i < 37 → (tm i).eval args s none [] s = some (.ref q.1) ∧ va_O "java/lang/String" q.1 A s s.heap ∧ va_OF "java/lang/String" "coder" "B" (.int 0) q.1 A s s.heap ∧ va_OF "java/lang/String" "value" "[B" (.ref q.2) q.1 A s s.heap ∧ va_T .byte q.2 (jv_lens.getD i 0) (fun j => .int ((jv_byt.getD i []).getD j 0)) A s s.heap := by
    intro i
    by_cases hi : i < 37
    · obtain ⟨a, c, cA, kA, q1, q2, q3, q4, q5, q6, -⟩ := Cond.exactly_spec (args := args) (first := s) (o := none) (s := s) (idx := []) (t := tm i) (cls := "java/lang/String") (hex i hi)
      obtain ⟨t, ht, hT⟩ := va_Tof (f := fun j => .int ((jv_byt.getD i []).getD j 0)) (A := A) (jv_lens_lt i hi) (har i hi) (va_eqt (hle i hi)) (fun j hj => va_eqt (hel i hi j hj)) hA
      exact ⟨(a, t), fun _ => ⟨q1, ⟨cA, q3, q5, by rw [q6]; exact q2, hA a (Array.getElem?_eq_some_iff.mp q3).1⟩, vk_OFof q1 (va_eqt (hco i hi)) hA, vk_OFof q1 ht hA, hT⟩⟩
    · exact ⟨(0, 0), fun h => absurd h hi⟩
  obtain ⟨ad, had⟩ := Classical.axiomOfChoice h0
  exact ⟨fun i => (ad i).1, fun i => (ad i).2, fun i hi => (had i hi).2, fun i hi => (had i hi).1⟩
/-- the addresses of what is old -/
def jv_adO (adK adV : Nat → Nat) (a1 a2 : Nat) (k : Nat) : Nat := if k < 100 then adK k else if k < 200 then adV (k - 100) else if k = 200 then a1 else a2
theorem jv_adO_K {adK adV : Nat → Nat} {a1 a2 i : Nat} (hi : i < 37) : jv_adO adK adV a1 a2 i = adK i := by unfold jv_adO; rw [if_pos (by omega)]
theorem jv_adO_V {adK adV : Nat → Nat} {a1 a2 i : Nat} (hi : i < 37) : jv_adO adK adV a1 a2 (100 + i) = adV i := by unfold jv_adO; rw [if_neg (by omega), if_pos (by omega), show 100 + i - 100 = i by omega]
set_option maxHeartbeats 4000000 in
set_option maxRecDepth 100000 in
theorem jv_begin {s : State} {b L : Nat} {xs : Nat → Int32} (hmo : ∀ w ∈ jv_more, w.before #[Value.ref b] s = true) (hts : ∀ w ∈ lw_tbl, w.before #[Value.ref b] s = true) (hX : va_X b L xs s s.heap) (hbl : b < s.heap.size) (hgv : (Jvm.Cond.and given_1 narrow_1).before #[Value.ref b] s = true) :
    ∃ (D : va_G) (dA : Nat → ClassId) (adK adV : Nat → Nat), jv_Kn D dA (s.heap.size, b, adK) adV L xs s := by
  have hg : ∀ w ∈ jv_flat, w.before #[Value.ref b] s = true := flat_of_before _ hgv
  have hT : ∀ w ∈ jv_T, w.before #[Value.ref b] s = true := fun w hw => (List.mem_append.mp (List.mem_filter.mp hw).1).elim (hmo w) (hts w)
  have hA : ∀ a : Nat, a < s.heap.size → ¬ (fun q : Nat => s.heap.size ≤ q) a := fun a h => Nat.not_le.mpr h
  have kn : ∀ c : Nat, c < 10 → ∃ (cC : ClassId) (iS : Nat → Nat), u_Kn s (jv_own c) (jv_fT c) (jv_fn c) cC iS := fun c h => u_known (n := jv_fn c) hT (jv_ws_in c h) (hT _ (jv_in_ok (jv_inst_ok c h).1))
  obtain ⟨c0, f0, -⟩ := kn 0 (by decide)
  have hcl : ∀ c : Nat, ∃ q : ClassId × (Nat → Nat), c < 10 → u_Kn s (jv_own c) (jv_fT c) (jv_fn c) q.1 q.2 := by
    intro c
    by_cases h : c < 10
    · obtain ⟨cC, iS, hk⟩ := kn c h
      exact ⟨(cC, iS), fun _ => hk⟩
    · exact ⟨(c0, f0), fun q => absurd q h⟩
  obtain ⟨F, hF⟩ := Classical.axiomOfChoice hcl
  obtain ⟨cI, kI, coI, i1, i2, i3⟩ := Cond.arrayClass_spec (args := #[Value.ref b]) (first := s) (o := none) (s := s) (idx := []) (hT _ (jv_in_ok jv_arrI))
  obtain ⟨cZ, kZ, coZ, z1, z2, z3⟩ := Cond.arrayClass_spec (args := #[Value.ref b]) (first := s) (o := none) (s := s) (idx := []) (hT _ (jv_in_ok jv_arrZ))
  obtain ⟨coT, cT, kT, t1, t2, t3, t4, t5⟩ := Cond.arrayOver_spec (args := #[Value.ref b]) (first := s) (o := none) (s := s) (idx := []) (hts _ jv_arrT6)
  obtain ⟨coR, cR, kR, r1, r2, r3, r4, r5⟩ := Cond.arrayOver_spec (args := #[Value.ref b]) (first := s) (o := none) (s := s) (idx := []) (hts _ jv_arrT5)
  obtain ⟨cB, kB, coB, b1, b2, b3⟩ := Cond.arrayClass_spec (args := #[Value.ref b]) (first := s) (o := none) (s := s) (idx := []) (hT _ (jv_in_ok jv_arrB))
  obtain ⟨coS, cS, kS, s1, s2, s3, s4, s5⟩ := Cond.arrayOver_spec (args := #[Value.ref b]) (first := s) (o := none) (s := s) (idx := []) (hts _ jv_arrT8)
  obtain ⟨coA, cA, kA, a1, a3, a4, a5⟩ := jv_arrTA_spec (hts _ jv_arrTA)
  obtain ⟨adK, adV, hS, hev⟩ := jv_Sof (args := #[Value.ref b]) (s := s) (tm := jv_tm) (A := fun q => s.heap.size ≤ q) (fun i hi => hg _ (jv_fl1 i hi)) (fun i hi => hg _ (jv_fl2 i hi)) (fun i hi => hg _ (jv_fl3 i hi)) (fun i hi => hg _ (jv_fl4 i hi)) (fun i hi j hj => hg _ (jv_fl5 i hi j hj)) hA
  obtain ⟨p1, hp1, hP1⟩ := va_Tof (f := fun j => .int (Int32.ofNat (48 + j % 10))) (N := 100) (A := fun q => s.heap.size ≤ q) (by decide) (hg _ jv_dg11) (va_eqt (hg _ jv_dg12)) (fun j hj => va_eqt (hg _ (List.mem_of_getElem? (jv_dg13 j hj)))) hA
  obtain ⟨p2, hp2, hP2⟩ := va_Tof (f := fun j => .int (Int32.ofNat (48 + j / 10))) (N := 100) (A := fun q => s.heap.size ≤ q) (by decide) (hg _ jv_dg21) (va_eqt (hg _ jv_dg22)) (fun j hj => va_eqt (hg _ (List.mem_of_getElem? (jv_dg23 j hj)))) hA
  refine ⟨(fun c => (F c).1, fun c => (F c).2), fun k => match k with
    | 0 => cI
    | 1 => cZ
    | 2 => cT
    | 3 => cR
    | 4 => cB
    | 5 => cS
    | _ => cA, jv_adO adK adV p1 p2, adV, ⟨?_, ?_⟩, hX, hbl, Nat.le_refl _, ?_, ?_, va_AO.of (hts _ jv_arrT6), va_AO.of (hts _ jv_arrT5), ?_, ?_, ⟨va_AO.of (hts _ jv_arrT8), fun i hi => jv_adO_V hi, ⟨?_, hP1⟩, ⟨?_, hP2⟩, va_Nw.of rfl (hts _ jv_tb4), hts _ jv_arrTA⟩, ?_⟩
  · intro c q hq
    have hc10 : c < 10 := (List.getElem?_eq_some_iff.mp hq).1
    have hq2 := (jv_cls_ok c hc10).symm.trans hq
    cases hq2
    exact hF c hc10
  · intro k q hq
    match k, hq with
    | 0, hq => cases hq; exact ⟨fun n z => ⟨fun k h => (by cases h), kI, i2, coI, i3⟩, i1⟩
    | 1, hq => cases hq; exact ⟨fun n z => ⟨fun k h => (by cases h), kZ, z2, coZ, z3⟩, z1⟩
    | 2, hq => cases hq; exact ⟨fun n z => ⟨fun k h => (by cases h), kT, t3, coT, t4⟩, kT, coT, t3, t4, t1, t5⟩
    | 3, hq => cases hq; exact ⟨fun n z => ⟨fun k h => (by cases h), kR, r3, coR, r4⟩, kR, coR, r3, r4, r1, r5⟩
    | 4, hq => cases hq; exact ⟨fun n z => ⟨fun k h => (by cases h), kB, b2, coB, b3⟩, b1⟩
    | 5, hq => cases hq; exact ⟨fun n z => ⟨fun k h => (by cases h), kS, s3, coS, s4⟩, kS, coS, s3, s4, s1, s5⟩
    | 6, hq => cases hq; exact ⟨fun n z => ⟨fun k h => (by cases h), kA, a3, coA, a4⟩, a5⟩
    | k + 7, hq => simp at hq
  · intro i hi
    have h := hS i hi
    rw [← jv_adO_K (adK := adK) (adV := adV) (a1 := p1) (a2 := p2) hi] at h
    exact h
  · intro i q hq
    have hi : i < 37 := (List.getElem?_eq_some_iff.mp hq).1
    have hd : jv_str.getD i ("", 0, "") = q := by rw [List.getD_eq_getElem?_getD, hq]; rfl
    have h1 := hts _ (jv_tb3 i hi)
    have h2 := hev i hi
    unfold jv_tm at h2
    rw [hd] at h1 h2
    show vk_R q.1 q.2.1 q.2.2 (jv_adO adK adV p1 p2 i) s
    rw [jv_adO_K hi]
    exact vk_R.of h1 h2
  · intro w hw
    have hw2 := hts w (jv_nests_in w hw)
    simp only [jv_nests, List.mem_cons, List.not_mem_nil, or_false] at hw
    rcases hw with rfl | rfl | rfl | rfl | rfl <;> exact va_Nw.of rfl hw2
  · exact va_Zof (hts _ jv_tb1) (hT _ jw_ini0) (va_eqi (hg _ jv_fl7)) hA
  · exact va_Zof (hts _ jv_dgt1) (hT _ jv_ini6) hp1 hA
  · exact va_Zof (hts _ jv_dgt2) (hT _ jv_ini6) hp2 hA
  · obtain ⟨v, hv, hr⟩ := Cond.isRef_spec (args := #[Value.ref b]) (first := s) (o := none) (s := s) (idx := []) (hg _ jv_fl8)
    refine ⟨v, ?_, va_Zof (hts _ jv_tb2) (hT _ jw_ini3) hv hA⟩
    cases v <;> first | exact Or.inl rfl | exact Or.inr ⟨_, rfl⟩ | cases hr
/-- the J machine's start -/
def jv_L0 : List (Option Value) := [some (.ref 1000000)] ++ List.replicate 10 none
def jv_h0 (L : Nat) (xs : Nat → Int32) : jv_H := (fun a => if a = 1000000 then .inl (9, L, xs) else jv_oldc a, 0, 0)
theorem jv_fix0 (L : Nat) (xs : Nat → Int32) : jv_fix L xs (jv_h0 L xs) := by
  refine ⟨rfl, fun a ha => ?_⟩
  have := jv_old_eq ha
  show (if a = 1000000 then _ else jv_oldc a) = _
  rw [if_neg (by omega)]
/-- the law's run in the J machine answers 1, within the room -/
def jv_law (N : Nat) : Prop := ∀ (L : Nat) (xs : Nat → Int32), L ≤ N → ∃ (n : Nat) (h' : jv_H), jv_run n 271 0 jv_L0 [] (jv_h0 L xs) = some (some (.int 1), h') ∧ h'.2.1 ≤ 600000 ∧ h'.2.2 ≤ 7302250
