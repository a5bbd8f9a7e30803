/-! THE SETUP'S TEXT: its letters, its length -/
theorem nz_lt {n : Int32} (hn : 0 ≤ n) : ∀ (us : List Int32) (b : Bool), (∀ u ∈ us, ∃ k : Nat, 0 < k ∧ k < 2147483648 ∧ u = iN k) → jLt (nzL n b us) ∧ (nzL n b us).length ≤ us.length
  | [], b, _ => by
    have e : nzL n b [] = [] := by cases b <;> rfl
    rw [e]
    exact ⟨fun c hc => (by cases hc), Nat.le_refl _⟩
  | u :: us, b, hu => by
    obtain ⟨k, k0, k1, ek⟩ := hu u List.mem_cons_self
    have hd : 0 ≤ 48 + (n / u - n / u / 10 * 10) ∧ 48 + (n / u - n / u / 10 * 10) < 128 := by
      obtain ⟨e, l⟩ := iN_of hn
      have q0 : 0 ≤ n / u := by
        rw [e, ek, iN_div l k1]
        have := Nat.div_le_self n.toNatClampNeg k
        exact (iN_le (k := 0) (by decide) (by omega)).mpr (Nat.zero_le _)
      have r := rem_b (x := n / u) (d := 10) q0 (by decide)
      exact lt_b (e := 128) (add_b (a := 48) r (by decide)) (by decide) (by decide)
    have i1 := nz_lt hn us true (fun x hx => hu x (List.mem_cons_of_mem _ hx))
    have i2 := nz_lt hn us false (fun x hx => hu x (List.mem_cons_of_mem _ hx))
    have on : jLt ((48 + (n / u - n / u / 10 * 10)) :: nzL n true us) ∧ ((48 + (n / u - n / u / 10 * 10)) :: nzL n true us).length ≤ (u :: us).length := by
      refine ⟨fun c hc => ?_, by rw [List.length_cons, List.length_cons]; have := i1.2; omega⟩
      rcases List.mem_cons.mp hc with rfl | hc
      · exact hd
      · exact i1.1 c hc
    cases b with
    | true => exact on
    | false =>
      unfold nzL
      split
      · exact ⟨i2.1, by rw [List.length_cons]; have := i2.2; omega⟩
      · exact on
theorem numL_b {n : Int32} (hn : 0 ≤ n) : jLt (numL n) ∧ (numL n).length ≤ 6 := by
  rw [numL_e]
  refine nz_lt hn _ _ (fun u hu => ?_)
  have c : u = 100000 ∨ u = 10000 ∨ u = 1000 ∨ u = 100 ∨ u = 10 ∨ u = 1 := by
    simp only [List.mem_cons, List.not_mem_nil, or_false] at hu
    exact hu
  rcases c with rfl | rfl | rfl | rfl | rfl | rfl
  · exact ⟨100000, by decide, by decide, rfl⟩
  · exact ⟨10000, by decide, by decide, rfl⟩
  · exact ⟨1000, by decide, by decide, rfl⟩
  · exact ⟨100, by decide, by decide, rfl⟩
  · exact ⟨10, by decide, by decide, rfl⟩
  · exact ⟨1, by decide, by decide, rfl⟩
theorem jLt.app {a b : List Int32} (ha : jLt a) (hb : jLt b) : jLt (a ++ b) := fun c hc => (List.mem_append.mp hc).elim (ha c) (hb c)
theorem jLt.nil : jLt [] := fun c hc => by cases hc
theorem jLt.one {x : Int32} (hx : 0 ≤ x ∧ x < 128) : jLt [x] := fun c hc => by rw [List.mem_singleton.mp hc]; exact hx
theorem nmW_b (r : Int32) : ∀ d j, jLt (nmW r d j) ∧ (nmW r d j).length ≤ d
  | 0, _ => ⟨jLt.nil, Nat.le_refl _⟩
  | d + 1, j => by
    unfold nmW
    split
    · have i := nmW_b r d (j + 1)
      have b27 : lOf r j < 27 := by
        unfold lOf
        exact Nat.mod_lt _ (by decide)
      have e : (97 + iN (lOf r j) - 1 : Int32) = iN (96 + lOf r j) := by
        rw [show (97 : Int32) = iN 97 from rfl, iN_add, show (1 : Int32) = iN 1 from rfl, iN_sub (by omega) (by omega)]
        congr 1
        omega
      refine ⟨(jLt.one (x := 97 + iN (lOf r j) - 1) ?_).app i.1, by rw [List.length_cons]; have := i.2; omega⟩
      rw [e]
      exact ⟨(iN_le (k := 0) (by decide) (by omega)).mpr (Nat.zero_le _), (iN_lt (m := 128) (by omega) (by decide)).mpr (by omega)⟩
    · exact ⟨jLt.nil, Nat.zero_le _⟩
/-- numbers of a traveller that the writer can write -/
def oOk (o : Nat → Int32) : Prop := (0 ≤ o 3 ∧ 0 ≤ o 6) ∧ 0 ≤ o 7 ∧ 0 ≤ o 8 ∧ 0 ≤ o 9 ∧ (-9 ≤ o 4 ∧ o 4 ≤ 9) ∧ (-9 ≤ o 5 ∧ o 5 ≤ 9)
theorem abs_b {x : Int32} (h : -9 ≤ x ∧ x ≤ 9) : 0 ≤ (if x < 0 then -x else x) := by
  split
  · grind
  · grind
theorem g55_b {o : Nat → Int32} (h : oOk o) : jLt (g55 o) ∧ (g55 o).length ≤ 95 := by
  obtain ⟨⟨h3, h6⟩, h7, h8, h9, h4, h5⟩ := h
  have p9 : jLt (g153 o) ∧ (g153 o).length ≤ 13 := by
    unfold g153
    have n := numL_b h9
    have t := oT_lt 19 (by decide)
    split
    · exact ⟨jLt.nil.app (jLt.one (by decide)), by decide⟩
    · refine ⟨(t.1.app n.1).app (jLt.one (by decide)), ?_⟩
      rw [List.length_append, List.length_append, show (oT 19).length = 6 from rfl]
      have := n.2
      show 6 + _ + 1 ≤ 13
      omega
  have p8 : jLt (g142 o) ∧ (g142 o).length ≤ 27 := by
    unfold g142
    have n := numL_b h8
    have t := oT_lt 18 (by decide)
    split
    · exact ⟨jLt.nil.app p9.1, by rw [List.nil_append]; have := p9.2; omega⟩
    · refine ⟨(t.1.app n.1).app p9.1, ?_⟩
      rw [List.length_append, List.length_append, show (oT 18).length = 8 from rfl]
      have := n.2
      have := p9.2
      omega
  have p6 : jLt (g100 o) ∧ (g100 o).length ≤ 45 := by
    unfold g100
    have n := numL_b h6
    have m := numL_b h7
    have t := oT_lt 17 (by decide)
    split
    · refine ⟨(t.1.app (n.1.app ((jLt.one (by decide)).app m.1))).app p8.1, ?_⟩
      rw [List.length_append, List.length_append, List.length_append, List.length_append, show (oT 17).length = 5 from rfl]
      have := n.2
      have := m.2
      have := p8.2
      show 5 + (_ + (1 + _)) + _ ≤ 45
      omega
    · exact ⟨jLt.nil.app p8.1, by rw [List.nil_append]; have := p8.2; omega⟩
  have p5 : jLt (g90 o) ∧ (g90 o).length ≤ 59 := by
    unfold g90
    have n := numL_b (abs_b h5)
    have t := oT_lt 16 (by decide)
    split
    · exact ⟨jLt.nil.app p6.1, by rw [List.nil_append]; have := p6.2; omega⟩
    · refine ⟨(t.1.app ((jLt.one (by split <;> decide)).app n.1)).app p6.1, ?_⟩
      rw [List.length_append, List.length_append, List.length_append, show (oT 16).length = 7 from rfl]
      have := n.2
      have := p6.2
      show 7 + (1 + _) + _ ≤ 59
      omega
  have p4 : jLt (g80 o) ∧ (g80 o).length ≤ 74 := by
    unfold g80
    have n := numL_b (abs_b h4)
    have t := oT_lt 15 (by decide)
    split
    · exact ⟨jLt.nil.app p5.1, by rw [List.nil_append]; have := p5.2; omega⟩
    · refine ⟨(t.1.app ((jLt.one (by split <;> decide)).app n.1)).app p5.1, ?_⟩
      rw [List.length_append, List.length_append, List.length_append, show (oT 15).length = 8 from rfl]
      have := n.2
      have := p5.2
      show 8 + (1 + _) + _ ≤ 74
      omega
  have p3 : jLt (g69 o) ∧ (g69 o).length ≤ 88 := by
    unfold g69
    have n := numL_b h3
    have t := oT_lt 14 (by decide)
    split
    · exact ⟨jLt.nil.app p4.1, by rw [List.nil_append]; have := p4.2; omega⟩
    · refine ⟨(t.1.app n.1).app p4.1, ?_⟩
      rw [List.length_append, List.length_append, show (oT 14).length = 8 from rfl]
      have := n.2
      have := p4.2
      omega
  unfold g55
  have t := oT_lt 13 (by decide)
  split
  · refine ⟨t.1.app p3.1, ?_⟩
    rw [List.length_append, show (oT 13).length = 7 from rfl]
    have := p3.2
    omega
  · exact ⟨jLt.nil.app p3.1, by rw [List.nil_append]; have := p3.2; omega⟩
theorem gRs_b {R : gW} (h0 : ∀ t, t < nM R → 0 ≤ fld R t 0 ∧ oOk (fun f => fld R t (f - 1))) : ∀ d t, t + d ≤ nM R → jLt (gRs R d t) ∧ (gRs R d t).length ≤ 112 * d
  | 0, _, _ => ⟨jLt.nil, Nat.le_refl _⟩
  | d + 1, t, ht => by
    obtain ⟨s0, ok⟩ := h0 t (by omega)
    have i := gRs_b h0 d (t + 1) (by omega)
    have n := numL_b s0
    have m := nmW_b (fld R t 9) 5 0
    have g := g55_b ok
    have tt := oT_lt 12 (by decide)
    show jLt (gRw R t ++ gRs R d (t + 1)) ∧ (gRw R t ++ gRs R d (t + 1)).length ≤ 112 * (d + 1)
    unfold gRw
    refine ⟨(tt.1.app (n.1.app ((jLt.one (by decide)).app (m.1.app g.1)))).app i.1, ?_⟩
    rw [List.length_append, List.length_append, List.length_append, List.length_append, List.length_append, show (oT 12).length = 5 from rfl]
    have := n.2
    have := m.2
    have := g.2
    have := i.2
    show 5 + (_ + (1 + (_ + _))) + _ ≤ _
    omega
theorem suT_b {R : gW} (h20 : nM R ≤ 20) (h1 : 0 ≤ R 0 ∧ 0 ≤ R 1) (h0 : ∀ t, t < nM R → 0 ≤ fld R t 0 ∧ oOk (fun f => fld R t (f - 1))) : jLt (suT R) ∧ (suT R).length ≤ 3900 := by
  have i := gRs_b h0 (nM R) 0 (by omega)
  have n := numL_b h1.1
  have m := numL_b h1.2
  have t1 := oT_lt 10 (by decide)
  have t2 := oT_lt 11 (by decide)
  unfold suT
  refine ⟨t1.1.app (n.1.app (t2.1.app (m.1.app ((jLt.one (by decide)).app i.1)))), ?_⟩
  rw [List.length_append, List.length_append, List.length_append, List.length_append, List.length_append, show (oT 10).length = 6 from rfl, show (oT 11).length = 7 from rfl]
  have := n.2
  have := m.2
  have := i.2
  show 6 + (_ + (7 + (_ + (1 + _)))) ≤ _
  omega
