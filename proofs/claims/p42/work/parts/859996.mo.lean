/-! PRIVATE MEMBERS OF THE CLASS ABOVE -/
/-- a private method of the class in which another's selection lands is selected itself -/
theorem jv_sel_priv {cls : String} {u y : MethodName} {s : State} {args : Array Value} (hy : y.cls ≠ "java/lang/invoke/MethodHandle" ∧ y.cls ≠ "java/lang/invoke/VarHandle") (hsame : u.cls = y.cls) (hsel : (Cond.selects cls u u).before args s = true) (hpriv : (Cond.privateMethod y).before args s = true) (hinst : (Cond.instanceMethod y).before args s = true) : (Cond.selects cls y y).before args s = true := by
  obtain ⟨c, r, m, hc, hr, hm, -, k, hk, hki⟩ := Cond.selects_spec (args := args) (first := s) (o := none) (s := s) (idx := []) hsel
  obtain ⟨mk, methM, hnamed, hmethM, -, -⟩ := Cond.instanceMethod_spec hinst
  have hfound : s.methodFound? y.cls y.name y.desc = some mk := State.methodFound?_of_named hnamed hy
  have h2 := findClass_of_methodNamed hm
  rw [hsame] at h2
  have hcl : mk.cls = m.cls := Option.some.inj ((findClass_of_methodNamed hnamed).symm.trans h2)
  have hsel2 : selectMethod {} s.vm c mk = .method mk := selectMethod_private hmethM (Cond.privateMethod_at hpriv mk methM hnamed hmethM)
  simp only [Cond.before, Cond.holds, Cond.value, hc, hfound, hnamed, hsel2, hcl, hk]
  simp
  exact hki
theorem jv_hmo {b : Nat} {s : State} (hts : ∀ w ∈ lw_tbl, w.before #[Value.ref b] s = true) : ∀ w ∈ jv_more, w.before #[Value.ref b] s = true := by
  have q : ∀ y : MethodName, y.cls = RJ5 → Cond.privateMethod y ∈ lw_tbl → Cond.instanceMethod y ∈ lw_tbl → (Cond.selects RJ4 y y).before #[Value.ref b] s = true := fun y hy h1 h2 =>
    jv_sel_priv (u := yJ5_isLatin1_aae02) (by rw [hy]; exact ⟨by decide +kernel, by decide +kernel⟩) (by rw [hy]; rfl) (hts _ (jv_inw_ok (i := 4180) (by decide +kernel))) (hts _ h1) (hts _ h2)
  exact List.forall_mem_cons.mpr ⟨q _ rfl (jv_inw_ok (i := 4144) (by decide +kernel)) (jv_inw_ok (i := 4145) (by decide +kernel)), List.forall_mem_cons.mpr ⟨q _ rfl (jv_inw_ok (i := 4148) (by decide +kernel)) (jv_inw_ok (i := 4149) (by decide +kernel)), List.forall_mem_cons.mpr ⟨q _ rfl (jv_inw_ok (i := 4203) (by decide +kernel)) (jv_inw_ok (i := 4204) (by decide +kernel)), List.forall_mem_cons.mpr ⟨q _ rfl (jv_inw_ok (i := 4199) (by decide +kernel)) (jv_inw_ok (i := 4200) (by decide +kernel)), fun _ h => absurd h List.not_mem_nil⟩⟩⟩⟩
