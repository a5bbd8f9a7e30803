theorem jv_fl7 : Cond.eq (.static "java/lang/String" "COMPACT_STRINGS" "Z") (.int 1) ∈ jv_flat := by decide +kernel
theorem jv_fl8 : Cond.isRef (.static "jdk/internal/util/Preconditions" "SIOOBE_FORMATTER" "Ljava/util/function/BiFunction;") ∈ jv_flat := by decide +kernel
theorem jv_tb1 : Cond.laysStatic "java/lang/String" "COMPACT_STRINGS" "Z" ∈ lw_tbl := by decide +kernel
theorem jv_tb2 : Cond.laysStatic "jdk/internal/util/Preconditions" "SIOOBE_FORMATTER" "Ljava/util/function/BiFunction;" ∈ lw_tbl := by decide +kernel
theorem jv_tb3 : ∀ i, i < 20 → Cond.stringRef (jv_str.getD i ("", 0, "")).1 (jv_str.getD i ("", 0, "")).2.1 (jv_str.getD i ("", 0, "")).2.2 ∈ lw_tbl := by decide +kernel
theorem jv_lens_lt : ∀ i, i < 20 → jv_lens.getD i 0 < 2 ^ 31 := by decide +kernel
set_option maxHeartbeats 4000000 in
set_option maxRecDepth 100000 in
theorem jv_begin {s : State} {b L : Nat} {xs : Nat → Int32} (hts : ∀ w ∈ lw_tbl, w.before #[Value.ref b] s = true) (hX : va_X b L xs s s.heap) (hbl : b < s.heap.size) (hgv : (Jvm.Cond.and given_1 narrow_1).before #[Value.ref b] s = true) :
    ∃ (D : va_G) (dA : Nat → ClassId) (adK adV : Nat → Nat), jv_Kn D dA (s.heap.size, b, adK) adV L xs s := by
  have hg : ∀ w ∈ jv_flat, w.before #[Value.ref b] s = true := flat_of_before _ hgv
  have hT : ∀ w ∈ jv_T, w.before #[Value.ref b] s = true := fun w hw => hts w (List.mem_filter.mp hw).1
  have hA : ∀ a : Nat, a < s.heap.size → ¬ (fun q : Nat => s.heap.size ≤ q) a := fun a h => Nat.not_le.mpr h
  have kn : ∀ c : Nat, c < 9 → ∃ (cC : ClassId) (iS : Nat → Nat), u_Kn s (jv_own c) (jv_fT c) (jv_fn c) cC iS := fun c h => u_known (n := jv_fn c) hT (jv_ws_in c h) (hT _ (jv_in_ok (jv_inst_ok c h).1))
  obtain ⟨c0, f0, -⟩ := kn 0 (by decide)
  have hcl : ∀ c : Nat, ∃ q : ClassId × (Nat → Nat), c < 9 → u_Kn s (jv_own c) (jv_fT c) (jv_fn c) q.1 q.2 := by
    intro c
    by_cases h : c < 9
    · obtain ⟨cC, iS, hk⟩ := kn c h
      exact ⟨(cC, iS), fun _ => hk⟩
    · exact ⟨(c0, f0), fun q => absurd q h⟩
  obtain ⟨F, hF⟩ := Classical.axiomOfChoice hcl
  obtain ⟨cI, kI, coI, i1, i2, i3⟩ := Cond.arrayClass_spec (args := #[Value.ref b]) (first := s) (o := none) (s := s) (idx := []) (hT _ (jv_in_ok jv_arrI))
  obtain ⟨cZ, kZ, coZ, z1, z2, z3⟩ := Cond.arrayClass_spec (args := #[Value.ref b]) (first := s) (o := none) (s := s) (idx := []) (hT _ (jv_in_ok jv_arrZ))
  obtain ⟨coT, cT, kT, t1, t2, t3, t4, t5⟩ := Cond.arrayOver_spec (args := #[Value.ref b]) (first := s) (o := none) (s := s) (idx := []) (hts _ jv_arrT6)
  obtain ⟨coR, cR, kR, r1, r2, r3, r4, r5⟩ := Cond.arrayOver_spec (args := #[Value.ref b]) (first := s) (o := none) (s := s) (idx := []) (hts _ jv_arrT5)
  obtain ⟨adK, adV, hS, hev⟩ := vk_Sof (args := #[Value.ref b]) (s := s) (N := 20) (tm := jv_tm) (len := jv_lens) (byt := jv_byt) (A := fun q => s.heap.size ≤ q) jv_lens_lt (fun i hi => hg _ (jv_fl1 i hi)) (fun i hi => hg _ (jv_fl2 i hi)) (fun i hi => hg _ (jv_fl3 i hi)) (fun i hi => hg _ (jv_fl4 i hi)) (fun i hi j hj => hg _ (jv_fl5 i hi j hj)) (fun i j hi hj hij => (jv_fl6 i hi j hj hij).imp (hg _) (hg _)) hA
  refine ⟨(fun c => (F c).1, fun c => (F c).2), fun k => match k with
    | 0 => cI
    | 1 => cZ
    | 2 => cT
    | _ => cR, adK, adV, ⟨?_, ?_⟩, hX, hbl, Nat.le_refl _, hS, ?_, va_AO.of (hts _ jv_arrT6), va_AO.of (hts _ jv_arrT5), ?_, ?_, ?_⟩
  · intro c q hq
    have hc9 : c < 9 := (List.getElem?_eq_some_iff.mp hq).1
    have hq2 := (jv_cls_ok c hc9).symm.trans hq
    cases hq2
    exact hF c hc9
  · intro k q hq
    match k, hq with
    | 0, hq => cases hq; exact ⟨fun n z => ⟨fun k h => (by cases h), kI, i2, coI, i3⟩, i1⟩
    | 1, hq => cases hq; exact ⟨fun n z => ⟨fun k h => (by cases h), kZ, z2, coZ, z3⟩, z1⟩
    | 2, hq => cases hq; exact ⟨fun n z => ⟨fun k h => (by cases h), kT, t3, coT, t4⟩, kT, coT, t3, t4, t1, t5⟩
    | 3, hq => cases hq; exact ⟨fun n z => ⟨fun k h => (by cases h), kR, r3, coR, r4⟩, kR, coR, r3, r4, r1, r5⟩
    | k + 4, hq => simp at hq
  · intro i q hq
    have hi : i < 20 := (List.getElem?_eq_some_iff.mp hq).1
    have hd : jv_str.getD i ("", 0, "") = q := by rw [List.getD_eq_getElem?_getD, hq]; rfl
    have h1 := hts _ (jv_tb3 i hi)
    have h2 := hev i hi
    unfold jv_tm at h2
    rw [hd] at h1 h2
    exact vk_R.of h1 h2
  · intro w hw
    have hw2 := hts w (jv_nests_in w hw)
    simp only [jv_nests, List.mem_cons, List.not_mem_nil, or_false] at hw
    rcases hw with rfl | rfl | rfl | rfl | rfl <;> exact va_Nw.of rfl hw2
  · exact va_Zof (hts _ jv_tb1) (hT _ jw_ini0) (va_eqi (hg _ jv_fl7)) hA
  · obtain ⟨v, hv, hr⟩ := Cond.isRef_spec (args := #[Value.ref b]) (first := s) (o := none) (s := s) (idx := []) (hg _ jv_fl8)
    refine ⟨v, ?_, va_Zof (hts _ jv_tb2) (hT _ jw_ini3) hv hA⟩
    cases v <;> first | exact Or.inl rfl | exact Or.inr ⟨_, rfl⟩ | cases hr
