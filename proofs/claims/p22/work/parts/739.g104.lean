-- text 104
/-! QUERIES: families, tables, letters, entries -/
noncomputable def gfS (m : Int32 → Int32) (j : Nat) (s : Int32 × Int32) : Int32 × Int32 := if s.2 < m (iN (j + 1)) then (iN (j + 1), m (iN (j + 1))) else s
noncomputable def gfA (m : Int32 → Int32) : Int32 := (nfold (gfS m) 9 (0, 0)).1
theorem gfS_t {m : Int32 → Int32} {j : Nat} {s : Int32 × Int32} (h : s.2 < m (iN (j + 1))) : gfS m j s = (iN (j + 1), m (iN (j + 1))) := if_pos h
theorem gfS_f {m : Int32 → Int32} {j : Nat} {s : Int32 × Int32} (h : ¬ s.2 < m (iN (j + 1))) : gfS m j s = s := if_neg h
noncomputable def cFm (σ : gS) (f : Int32) : Int32 := sm (fun a => cMa σ 6 (iN a) f) 5
noncomputable def cFt (σ : gS) (f : Int32) : Int32 := iN (cnt (fun a => decide (0 < cMa σ 6 (iN a) f)) 5)
noncomputable def rFt (R : gW) (f : Int32) : Int32 := iN (cnt (fun a => decide (0 < iN (mem R (iN a) f))) ((R 0 + 1) / 2).toNatClampNeg)
noncomputable def fFs (m : Int32 → Int32) : Int32 := iN (cnt (fun j => decide (0 < m (iN (j + 1)))) 9)
theorem rw_n {x : Int32} (h : 2 ≤ x ∧ x ≤ 10) : ∃ m, 2 ≤ m ∧ m ≤ 10 ∧ x = iN m ∧ (x + 1) / 2 = iN ((m + 1) / 2) := by
  obtain ⟨e, l⟩ := iN_of (x := x) (by have := h.1; grind)
  obtain ⟨m, hm⟩ : ∃ m, x.toNatClampNeg = m := ⟨_, rfl⟩
  rw [hm] at e l
  subst e
  refine ⟨m, (iN_le (k := 2) (by decide) l).mp h.1, (iN_le (m := 10) l (by decide)).mp h.2, rfl, ?_⟩
  rw [iN_one, show (2 : Int32) = iN 2 from rfl, iN_div (by have := (iN_le (m := 10) l (by decide)).mp h.2; omega) (by decide)]
theorem e9 {k : Nat} (hk : k < 9) : ¬ (9 : Int32) < iN (k + 1) := fun z => absurd ((iN_lt (k := 9) (by decide) (by omega)).mp z) (by omega)
set_option maxRecDepth 20000 in
theorem w77 {σ : gS} {K : gK} {b : Int32} (h : gE 77 7 [some (.ref 6), some (.int b), some (.int 0), some (.int 0), some (.int 1), none] [] σ K) : gE 77 0 [some (.ref 6), some (.int b), none, none, none, none] [] σ K :=
  gw_run (cy := 77) (cuts := [7]) (inl := []) (pf := gpef) gpef_ok 400 (by decide) h
set_option maxRecDepth 20000 in
theorem c77_7 {σ : gS} {K : gK} {l1 l2 l3 l4 : Int32} {l5 : Option Value} (h : ((9 < l4 → K (some (.int l2)) σ) ∧ (¬ 9 < l4 → ((¬ l3 < (cMa σ 6 l1 l4) → gE 77 7 [some (.ref 6), some (.int l1), some (.int l2), some (.int l3), some (.int (l4 + 1)), some (.int (cMa σ 6 l1 l4))] [] σ K) ∧ (l3 < (cMa σ 6 l1 l4) → gE 77 7 [some (.ref 6), some (.int l1), some (.int l4), some (.int (cMa σ 6 l1 l4)), some (.int (l4 + 1)), some (.int (cMa σ 6 l1 l4))] [] σ K))))) : gE 77 7 [some (.ref 6), some (.int l1), some (.int l2), some (.int l3), some (.int l4), l5] [] σ K :=
  gw_run (cy := 77) (cuts := [7]) (inl := []) (pf := gpef) gpef_ok 400 (by decide) h
theorem s77 {σ : gS} {K : gK} {b : Int32} (hK : K (some (.int (gfA (cMa σ 6 b)))) σ) : gE 77 0 [some (.ref 6), some (.int b), none, none, none, none] [] σ K := by
  refine w77 ?_
  refine g_forJ 9 (fun k u => [some (.ref 6), some (.int b), some (.int (nfold (gfS (cMa σ 6 b)) k (0, 0)).1), some (.int (nfold (gfS (cMa σ 6 b)) k (0, 0)).2), some (.int (iN (k + 1))), u]) (fun _ => σ) (fun _ => True) (fun _ u => c77_7 ⟨fun _ => hK, fun z => absurd (by decide) z⟩) (fun k hk _ ih u => ?_) 0 (Nat.zero_le _) trivial none
  have ih := ih trivial
  refine c77_7 ⟨fun z => absurd z (e9 hk), fun _ => ⟨fun q => ?_, fun q => ?_⟩⟩
  · have e : nfold (gfS (cMa σ 6 b)) (k + 1) (0, 0) = nfold (gfS (cMa σ 6 b)) k (0, 0) := gfS_f q
    rw [e] at ih
    rw [iN_one]
    exact ih _
  · have e : nfold (gfS (cMa σ 6 b)) (k + 1) (0, 0) = (iN (k + 1), cMa σ 6 b (iN (k + 1))) := gfS_t q
    rw [e] at ih
    have ih := ih (some (.int (cMa σ 6 b (iN (k + 1)))))
    rw [← iN_one (k + 1)] at ih
    exact ih
noncomputable def f77 : gD := fun Lv σ => match Lv with
  | [some (.ref q0), some (.int b), none, none, none, none] => cond (Nat.beq q0 6) (some (none, some (.int (gfA (cMa σ 6 b))), σ)) none
  | _ => none
theorem ok77 : gFok 77 f77 := by
  intro Lv σ q h hc K hK
  unfold f77 at h
  split at h
  · rename_i q0 b
    obtain ⟨hb, h⟩ := c_no h
    have hb0 := hb
    have e0 := b_eq hb0
    subst e0
    cases h
    exact s77 hK
  · cases h
set_option maxRecDepth 20000 in
theorem w78 {σ : gS} {K : gK} {f : Int32} (h : gE 78 4 [some (.ref 6), some (.int f), some (.int 0), some (.int 0)] [] σ K) : gE 78 0 [some (.ref 6), some (.int f), none, none] [] σ K :=
  gw_run (cy := 78) (cuts := [4]) (inl := []) (pf := gpef) gpef_ok 400 (by decide) h
set_option maxRecDepth 20000 in
theorem c78_4 {σ : gS} {K : gK} {l1 l2 l3 : Int32} (h : ((¬ l3 < 5 → K (some (.int l2)) σ) ∧ (l3 < 5 → gE 78 4 [some (.ref 6), some (.int l1), some (.int (l2 + (cMa σ 6 l3 l1))), some (.int (l3 + 1))] [] σ K))) : gE 78 4 [some (.ref 6), some (.int l1), some (.int l2), some (.int l3)] [] σ K :=
  gw_run (cy := 78) (cuts := [4]) (inl := []) (pf := gpef) gpef_ok 400 (by decide) h
theorem s78 {σ : gS} {K : gK} {f : Int32} (hK : K (some (.int (cFm σ f))) σ) : gE 78 0 [some (.ref 6), some (.int f), none, none] [] σ K := by
  refine w78 ?_
  refine g_forI 5 (fun k => [some (.ref 6), some (.int f), some (.int (sm (fun a => cMa σ 6 (iN a) f) k)), some (.int (iN k))]) (fun _ => σ) (fun _ => True) (fun _ => c78_4 ⟨fun _ => hK, fun z => absurd z (by decide)⟩) (fun k hk _ ih => ?_) 0 (Nat.zero_le _) trivial
  have ih := ih trivial
  refine c78_4 ⟨fun z => absurd ((iN_lt (m := 5) (by omega) (by decide)).mpr hk) z, fun _ => ?_⟩
  rw [iN_one]
  exact ih
noncomputable def f78 : gD := fun Lv σ => match Lv with
  | [some (.ref q0), some (.int f), none, none] => cond (Nat.beq q0 6) (some (none, some (.int (cFm σ f)), σ)) none
  | _ => none
theorem ok78 : gFok 78 f78 := by
  intro Lv σ q h hc K hK
  unfold f78 at h
  split at h
  · rename_i q0 f
    obtain ⟨hb, h⟩ := c_no h
    have hb0 := hb
    have e0 := b_eq hb0
    subst e0
    cases h
    exact s78 hK
  · cases h
set_option maxRecDepth 20000 in
theorem w79 {σ : gS} {K : gK} {f : Int32} (h : gE 79 4 [some (.ref 6), some (.int f), some (.int 0), some (.int 0)] [] σ K) : gE 79 0 [some (.ref 6), some (.int f), none, none] [] σ K :=
  gw_run (cy := 79) (cuts := [4]) (inl := []) (pf := gpef) gpef_ok 400 (by decide) h
set_option maxRecDepth 20000 in
theorem c79_4 {σ : gS} {K : gK} {l1 l2 l3 : Int32} (h : ((¬ l3 < 5 → K (some (.int l2)) σ) ∧ (l3 < 5 → ((¬ 0 < (cMa σ 6 l3 l1) → gE 79 4 [some (.ref 6), some (.int l1), some (.int l2), some (.int (l3 + 1))] [] σ K) ∧ (0 < (cMa σ 6 l3 l1) → gE 79 4 [some (.ref 6), some (.int l1), some (.int (l2 + 1)), some (.int (l3 + 1))] [] σ K))))) : gE 79 4 [some (.ref 6), some (.int l1), some (.int l2), some (.int l3)] [] σ K :=
  gw_run (cy := 79) (cuts := [4]) (inl := []) (pf := gpef) gpef_ok 400 (by decide) h
theorem s79 {σ : gS} {K : gK} {f : Int32} (hK : K (some (.int (cFt σ f))) σ) : gE 79 0 [some (.ref 6), some (.int f), none, none] [] σ K := by
  refine w79 ?_
  refine g_forI 5 (fun k => [some (.ref 6), some (.int f), some (.int (iN (cnt (fun a => decide (0 < cMa σ 6 (iN a) f)) k))), some (.int (iN k))]) (fun _ => σ) (fun _ => True) (fun _ => c79_4 ⟨fun _ => hK, fun z => absurd z (by decide)⟩) (fun k hk _ ih => ?_) 0 (Nat.zero_le _) trivial
  have ih := ih trivial
  refine c79_4 ⟨fun z => absurd ((iN_lt (m := 5) (by omega) (by decide)).mpr hk) z, fun _ => ⟨fun q => ?_, fun q => ?_⟩⟩
  · rw [cnt_f (fun z => q (of_decide_eq_true z))] at ih
    rw [iN_one]
    exact ih
  · rw [cnt_t (decide_eq_true q)] at ih
    rw [iN_one, iN_one]
    exact ih
noncomputable def f79 : gD := fun Lv σ => match Lv with
  | [some (.ref q0), some (.int f), none, none] => cond (Nat.beq q0 6) (some (none, some (.int (cFt σ f)), σ)) none
  | _ => none
theorem ok79 : gFok 79 f79 := by
  intro Lv σ q h hc K hK
  unfold f79 at h
  split at h
  · rename_i q0 f
    obtain ⟨hb, h⟩ := c_no h
    have hb0 := hb
    have e0 := b_eq hb0
    subst e0
    cases h
    exact s79 hK
  · cases h
set_option maxRecDepth 20000 in
theorem w226 {σ : gS} {K : gK} (h : gE 226 4 [some (.ref 323), some (.int 0), some (.int 1)] [] σ K) : gE 226 0 [some (.ref 323), none, none] [] σ K :=
  gw_run (cy := 226) (cuts := [4]) (inl := []) (pf := gpef) gpef_ok 400 (by decide) h
set_option maxRecDepth 20000 in
theorem c226_4 {σ : gS} {K : gK} {l1 l2 : Int32} (h : ((9 < l2 → K (some (.int l1)) σ) ∧ (¬ 9 < l2 → (RS σ) ∧ ((¬ 0 < (fMF (σ 324) l2) → gE 226 4 [some (.ref 323), some (.int l1), some (.int (l2 + 1))] [] σ K) ∧ (0 < (fMF (σ 324) l2) → gE 226 4 [some (.ref 323), some (.int (l1 + 1)), some (.int (l2 + 1))] [] σ K))))) : gE 226 4 [some (.ref 323), some (.int l1), some (.int l2)] [] σ K :=
  gw_run (cy := 226) (cuts := [4]) (inl := []) (pf := gpef) gpef_ok 400 (by decide) h
theorem s226 {σ : gS} {K : gK} (hc : RS σ) (hK : K (some (.int (fFs (fMF (σ 324))))) σ) : gE 226 0 [some (.ref 323), none, none] [] σ K := by
  refine w226 ?_
  refine g_forI 9 (fun k => [some (.ref 323), some (.int (iN (cnt (fun j => decide (0 < fMF (σ 324) (iN (j + 1)))) k))), some (.int (iN (k + 1)))]) (fun _ => σ) (fun _ => True) (fun _ => c226_4 ⟨fun _ => hK, fun z => absurd (by decide) z⟩) (fun k hk _ ih => ?_) 0 (Nat.zero_le _) trivial
  have ih := ih trivial
  refine c226_4 ⟨fun z => absurd z (e9 hk), fun _ => ⟨hc, fun q => ?_, fun q => ?_⟩⟩
  · rw [cnt_f (fun z => q (of_decide_eq_true z))] at ih
    rw [iN_one]
    exact ih
  · rw [cnt_t (decide_eq_true q)] at ih
    rw [iN_one, iN_one]
    exact ih
noncomputable def f226 : gD := fun Lv σ => match Lv with
  | [some (.ref q0), none, none] => cond (Nat.beq q0 323) (some (some (RS σ), some (.int (fFs (fMF (σ 324)))), σ)) none
  | _ => none
theorem ok226 : gFok 226 f226 := by
  intro Lv σ q h hc K hK
  unfold f226 at h
  split at h
  · rename_i q0
    obtain ⟨hb, h⟩ := c_no h
    have hb0 := hb
    have e0 := b_eq hb0
    subst e0
    cases h
    exact s226 (hc _ rfl) hK
  · cases h
set_option maxRecDepth 20000 in
theorem w234 {σ : gS} {K : gK} {b : Int32} (h : gE 234 7 [some (.ref 323), some (.int b), some (.int 0), some (.int 0), some (.int 1), none] [] σ K) : gE 234 0 [some (.ref 323), some (.int b), none, none, none, none] [] σ K :=
  gw_run (cy := 234) (cuts := [7]) (inl := []) (pf := gpef) gpef_ok 400 (by decide) h
set_option maxRecDepth 20000 in
theorem c234_7 {σ : gS} {K : gK} {l1 l2 l3 l4 : Int32} {l5 : Option Value} (h : ((9 < l4 → K (some (.int l2)) σ) ∧ (¬ 9 < l4 → (RS σ) ∧ ((l3 < (iN (mem (σ 324) l1 l4)) → gE 234 7 [some (.ref 323), some (.int l1), some (.int l4), some (.int (iN (mem (σ 324) l1 l4))), some (.int (l4 + 1)), some (.int (iN (mem (σ 324) l1 l4)))] [] σ K) ∧ (¬ l3 < (iN (mem (σ 324) l1 l4)) → gE 234 7 [some (.ref 323), some (.int l1), some (.int l2), some (.int l3), some (.int (l4 + 1)), some (.int (iN (mem (σ 324) l1 l4)))] [] σ K))))) : gE 234 7 [some (.ref 323), some (.int l1), some (.int l2), some (.int l3), some (.int l4), l5] [] σ K :=
  gw_run (cy := 234) (cuts := [7]) (inl := []) (pf := gpef) gpef_ok 400 (by decide) h
theorem s234 {σ : gS} {K : gK} {b : Int32} (hc : RS σ) (hK : K (some (.int (gfA (fun f => iN (mem (σ 324) b f))))) σ) : gE 234 0 [some (.ref 323), some (.int b), none, none, none, none] [] σ K := by
  refine w234 ?_
  refine g_forJ 9 (fun k u => [some (.ref 323), some (.int b), some (.int (nfold (gfS (fun f => iN (mem (σ 324) b f))) k (0, 0)).1), some (.int (nfold (gfS (fun f => iN (mem (σ 324) b f))) k (0, 0)).2), some (.int (iN (k + 1))), u]) (fun _ => σ) (fun _ => True) (fun _ u => c234_7 ⟨fun _ => hK, fun z => absurd (by decide) z⟩) (fun k hk _ ih u => ?_) 0 (Nat.zero_le _) trivial none
  have ih := ih trivial
  refine c234_7 ⟨fun z => absurd z (e9 hk), fun _ => ⟨hc, fun q => ?_, fun q => ?_⟩⟩
  · have e : nfold (gfS (fun f => iN (mem (σ 324) b f))) (k + 1) (0, 0) = (iN (k + 1), iN (mem (σ 324) b (iN (k + 1)))) := gfS_t (m := fun f => iN (mem (σ 324) b f)) q
    rw [e] at ih
    have ih := ih (some (.int (iN (mem (σ 324) b (iN (k + 1))))))
    rw [← iN_one (k + 1)] at ih
    exact ih
  · have e : nfold (gfS (fun f => iN (mem (σ 324) b f))) (k + 1) (0, 0) = nfold (gfS (fun f => iN (mem (σ 324) b f))) k (0, 0) := gfS_f (m := fun f => iN (mem (σ 324) b f)) q
    rw [e] at ih
    rw [iN_one]
    exact ih _
noncomputable def f234 : gD := fun Lv σ => match Lv with
  | [some (.ref q0), some (.int b), none, none, none, none] => cond (Nat.beq q0 323) (some (some (RS σ), some (.int (gfA (fun f => iN (mem (σ 324) b f)))), σ)) none
  | _ => none
theorem ok234 : gFok 234 f234 := by
  intro Lv σ q h hc K hK
  unfold f234 at h
  split at h
  · rename_i q0 b
    obtain ⟨hb, h⟩ := c_no h
    have hb0 := hb
    have e0 := b_eq hb0
    subst e0
    cases h
    exact s234 (hc _ rfl) hK
  · cases h
set_option maxRecDepth 20000 in
theorem w236 {σ : gS} {K : gK} {f : Int32} (h : gE 236 4 [some (.ref 323), some (.int f), some (.int 0), some (.int 0)] [] σ K) : gE 236 0 [some (.ref 323), some (.int f), none, none] [] σ K :=
  gw_run (cy := 236) (cuts := [4]) (inl := []) (pf := gpef) gpef_ok 400 (by decide) h
set_option maxRecDepth 20000 in
theorem c236_4 {σ : gS} {K : gK} {l1 l2 l3 : Int32} (h : ((¬ l3 < ((σ 324 0 + 1) / 2) → K (some (.int l2)) σ) ∧ (l3 < ((σ 324 0 + 1) / 2) → (RS σ) ∧ ((¬ 0 < (iN (mem (σ 324) l3 l1)) → gE 236 4 [some (.ref 323), some (.int l1), some (.int l2), some (.int (l3 + 1))] [] σ K) ∧ (0 < (iN (mem (σ 324) l3 l1)) → gE 236 4 [some (.ref 323), some (.int l1), some (.int (l2 + 1)), some (.int (l3 + 1))] [] σ K))))) : gE 236 4 [some (.ref 323), some (.int l1), some (.int l2), some (.int l3)] [] σ K :=
  gw_run (cy := 236) (cuts := [4]) (inl := []) (pf := gpef) gpef_ok 400 (by decide) h
theorem s236 {σ : gS} {K : gK} {f : Int32} (hc : RS σ ∧ (2 ≤ σ 324 0 ∧ σ 324 0 ≤ 10)) (hK : K (some (.int (rFt (σ 324) f))) σ) : gE 236 0 [some (.ref 323), some (.int f), none, none] [] σ K := by
  obtain ⟨hc, hr⟩ := hc
  obtain ⟨m, m1, m2, em, et⟩ := rw_n hr
  obtain ⟨T, hT⟩ : ∃ T, (m + 1) / 2 = T := ⟨_, rfl⟩
  rw [hT] at et
  have lT : T < 10 := by omega
  unfold rFt at hK
  rw [et, iN_nat (by omega)] at hK
  refine w236 ?_
  refine g_forI T (fun k => [some (.ref 323), some (.int f), some (.int (iN (cnt (fun a => decide (0 < iN (mem (σ 324) (iN a) f))) k))), some (.int (iN k))]) (fun _ => σ) (fun _ => True) (fun _ => c236_4 (by rw [et]; exact ⟨fun _ => hK, fun z => absurd ((iN_lt (by omega) (by omega)).mp z) (Nat.lt_irrefl _)⟩)) (fun k hk _ ih => ?_) 0 (Nat.zero_le _) trivial
  have ih := ih trivial
  refine c236_4 ?_
  rw [et]
  refine ⟨fun z => absurd ((iN_lt (by omega) (by omega)).mpr hk) z, fun _ => ⟨hc, fun q => ?_, fun q => ?_⟩⟩
  · rw [cnt_f (fun z => q (of_decide_eq_true z))] at ih
    rw [iN_one]
    exact ih
  · rw [cnt_t (decide_eq_true q)] at ih
    rw [iN_one, iN_one]
    exact ih
noncomputable def f236 : gD := fun Lv σ => match Lv with
  | [some (.ref q0), some (.int f), none, none] => cond (Nat.beq q0 323) (some (some (RS σ ∧ (2 ≤ σ 324 0 ∧ σ 324 0 ≤ 10)), some (.int (rFt (σ 324) f)), σ)) none
  | _ => none
theorem ok236 : gFok 236 f236 := by
  intro Lv σ q h hc K hK
  unfold f236 at h
  split at h
  · rename_i q0 f
    obtain ⟨hb, h⟩ := c_no h
    have hb0 := hb
    have e0 := b_eq hb0
    subst e0
    cases h
    exact s236 (hc _ rfl) hK
  · cases h
set_option maxRecDepth 20000 in
theorem w106 {σ : gS} {K : gK} {i : Int32} {p : Nat} (h : ((¬ i < 5 → K (some (.int 0)) σ) ∧ (i < 5 → gTv p ∧ K (some (.int (((σ p 0) >>> ((5 * i) &&& 31)) &&& 31))) σ))) : gE 106 0 [some (.ref p), some (.int i)] [] σ K :=
  gw_run (cy := 106) (cuts := []) (inl := []) (pf := gpef) gpef_ok 400 (by decide) h
theorem s106 {σ : gS} {K : gK} {p : Nat} {i : Int32} (hc : gTv p) (hK : K (some (.int (if i < 5 then (σ p 0 >>> ((5 * i) &&& 31)) &&& 31 else 0))) σ) : gE 106 0 [some (.ref p), some (.int i)] [] σ K := by
  refine w106 ⟨fun q => ?_, fun q => ⟨hc, ?_⟩⟩
  · rw [if_neg q] at hK; exact hK
  · rw [if_pos q] at hK; exact hK
noncomputable def f106 : gD := fun Lv σ => match Lv with
  | [some (.ref p), some (.int i)] => some (some (gTv p), some (.int (if i < 5 then (σ p 0 >>> ((5 * i) &&& 31)) &&& 31 else 0)), σ)
  | _ => none
theorem ok106 : gFok 106 f106 := by
  intro Lv σ q h hc K hK
  unfold f106 at h
  split at h
  · rename_i p i
    cases h
    exact s106 (hc _ rfl) hK
  · cases h
set_option maxRecDepth 20000 in
theorem w6 {σ : gS} {K : gK} {i c : Int32} (h : ((i < (σ 30 2) → (0 ≤ σ 30 1 + i ∧ σ 30 1 + i < 100) ∧ (((((σ 30 1 + i) - (σ 30 1 + i) / 40 * 40) * 3 + c) < 0 → K (some (.int (-2))) σ) ∧ (¬ (((σ 30 1 + i) - (σ 30 1 + i) / 40 * 40) * 3 + c) < 0 → ((¬ (((σ 30 1 + i) - (σ 30 1 + i) / 40 * 40) * 3 + c) < 120 → K (some (.int (-2))) σ) ∧ ((((σ 30 1 + i) - (σ 30 1 + i) / 40 * 40) * 3 + c) < 120 → (0 ≤ (((σ 30 1 + i) - (σ 30 1 + i) / 40 * 40) * 3 + c) ∧ (((σ 30 1 + i) - (σ 30 1 + i) / 40 * 40) * 3 + c) < 120) ∧ K (some (.int (σ 31 (((σ 30 1 + i) - (σ 30 1 + i) / 40 * 40) * 3 + c).toNatClampNeg))) σ))))) ∧ (¬ i < (σ 30 2) → K (some (.int (-2))) σ))) : gE 6 0 [some (.ref 30), some (.int i), some (.int c), none] [] σ K :=
  gw_run (cy := 6) (cuts := []) (inl := []) (pf := gpef) gpef_ok 400 (by decide) h
theorem s6 {σ : gS} {K : gK} {i c : Int32} (hc : bLg σ 30 ∧ 0 ≤ i ∧ (0 ≤ c ∧ c ≤ 2)) (hK : K (some (.int (if i < σ 30 2 then σ 31 (3 * (((σ 30 1).toNatClampNeg + i.toNatClampNeg) % 40) + c.toNatClampNeg) else -2))) σ) : gE 6 0 [some (.ref 30), some (.int i), some (.int c), none] [] σ K := by
  obtain ⟨⟨h1, h2⟩, hi, hw⟩ := hc
  obtain ⟨eO, lO⟩ := iN_of h1.1
  obtain ⟨eI, lI⟩ := iN_of hi
  obtain ⟨eC, lC⟩ := iN_of hw.1
  obtain ⟨O, hO⟩ : ∃ O, (σ 30 1).toNatClampNeg = O := ⟨_, rfl⟩
  obtain ⟨I, hI⟩ : ∃ I, i.toNatClampNeg = I := ⟨_, rfl⟩
  obtain ⟨C, hC⟩ : ∃ C, c.toNatClampNeg = C := ⟨_, rfl⟩
  rw [hO] at eO lO hK
  rw [hI] at eI lI hK
  rw [hC] at eC lC hK
  have O40 : O < 40 := by
    have := h1.2
    rw [eO] at this
    exact (iN_lt (m := 40) lO (by decide)).mp this
  have C3 : C < 3 := by
    have := hw.2
    rw [eC] at this
    have := (iN_le (m := 2) lC (by decide)).mp this
    omega
  refine w6 ⟨fun q => ?_, fun q => ?_⟩
  · rw [if_pos q] at hK
    have I40 : I < 40 := by
      have q2 : i < 40 := by
        have := h2.2
        grind
      rw [eI] at q2
      exact (iN_lt (m := 40) lI (by decide)).mp q2
    have key : (σ 30 1 + i - (σ 30 1 + i) / 40 * 40) * 3 + c = iN (3 * ((O + I) % 40) + C) := by
      rw [eO, eI, eC, iN_add, show (40 : Int32) = iN 40 from rfl, iN_mod (by omega) (by decide), show (3 : Int32) = iN 3 from rfl, iN_mul, iN_add, Nat.mul_comm]
    have m40 : (O + I) % 40 < 40 := Nat.mod_lt _ (by decide)
    have b : 0 ≤ iN (3 * ((O + I) % 40) + C) ∧ iN (3 * ((O + I) % 40) + C) < 120 := ⟨(iN_le (k := 0) (by decide) (by omega)).mpr (by omega), (iN_lt (m := 120) (by omega) (by decide)).mpr (by omega)⟩
    rw [key, iN_nat (by omega)]
    refine ⟨?_, fun z => absurd z (Int32.not_lt.mpr b.1), fun _ => ⟨fun z => absurd b.2 z, fun _ => ⟨b, hK⟩⟩⟩
    rw [eO, eI, iN_add]
    exact ⟨(iN_le (k := 0) (by decide) (by omega)).mpr (by omega), (iN_lt (m := 100) (by omega) (by decide)).mpr (by omega)⟩
  · rw [if_neg q] at hK; exact hK
noncomputable def f6 : gD := fun Lv σ => match Lv with
  | [some (.ref q0), some (.int i), some (.int c), none] => cond (Nat.beq q0 30) (some (some (bLg σ 30 ∧ 0 ≤ i ∧ (0 ≤ c ∧ c ≤ 2)), some (.int (if i < σ 30 2 then σ 31 (3 * (((σ 30 1).toNatClampNeg + i.toNatClampNeg) % 40) + c.toNatClampNeg) else -2)), σ)) none
  | _ => none
theorem ok6 : gFok 6 f6 := by
  intro Lv σ q h hc K hK
  unfold f6 at h
  split at h
  · rename_i q0 i c
    obtain ⟨hb, h⟩ := c_no h
    have hb0 := hb
    have e0 := b_eq hb0
    subst e0
    cases h
    exact s6 (hc _ rfl) hK
  · cases h
noncomputable def gpeg_l : List (Nat × gD) := (77, f77) :: (78, f78) :: (79, f79) :: (226, f226) :: (234, f234) :: (236, f236) :: (106, f106) :: (6, f6) :: gpef_l
noncomputable def gpeg : gP := gpl0 gpeg_l
theorem gpeg_ok : gPok gpeg := gpl0_cons ok77 (gpl0_cons ok78 (gpl0_cons ok79 (gpl0_cons ok226 (gpl0_cons ok234 (gpl0_cons ok236 (gpl0_cons ok106 (gpl0_cons ok6 (gpef_ok))))))))
set_option maxRecDepth 20000 in
theorem w81 {σ : gS} {K : gK} (h : gE 81 4 [some (.ref 6), some (.int 0), some (.int 1)] [] σ K) : gE 81 0 [some (.ref 6), none, none] [] σ K :=
  gw_run (cy := 81) (cuts := [4]) (inl := []) (pf := gpeg) gpeg_ok 400 (by decide) h
set_option maxRecDepth 20000 in
theorem c81_4 {σ : gS} {K : gK} {l1 l2 : Int32} (h : ((9 < l2 → K (some (.int l1)) σ) ∧ (¬ 9 < l2 → ((¬ 0 < (cFm σ l2) → gE 81 4 [some (.ref 6), some (.int l1), some (.int (l2 + 1))] [] σ K) ∧ (0 < (cFm σ l2) → gE 81 4 [some (.ref 6), some (.int (l1 + 1)), some (.int (l2 + 1))] [] σ K))))) : gE 81 4 [some (.ref 6), some (.int l1), some (.int l2)] [] σ K :=
  gw_run (cy := 81) (cuts := [4]) (inl := []) (pf := gpeg) gpeg_ok 400 (by decide) h
theorem s81 {σ : gS} {K : gK} (hK : K (some (.int (fFs (cFm σ)))) σ) : gE 81 0 [some (.ref 6), none, none] [] σ K := by
  refine w81 ?_
  refine g_forI 9 (fun k => [some (.ref 6), some (.int (iN (cnt (fun j => decide (0 < cFm σ (iN (j + 1)))) k))), some (.int (iN (k + 1)))]) (fun _ => σ) (fun _ => True) (fun _ => c81_4 ⟨fun _ => hK, fun z => absurd (by decide) z⟩) (fun k hk _ ih => ?_) 0 (Nat.zero_le _) trivial
  have ih := ih trivial
  refine c81_4 ⟨fun z => absurd z (e9 hk), fun _ => ⟨fun q => ?_, fun q => ?_⟩⟩
  · rw [cnt_f (fun z => q (of_decide_eq_true z))] at ih
    rw [iN_one]
    exact ih
  · rw [cnt_t (decide_eq_true q)] at ih
    rw [iN_one, iN_one]
    exact ih
noncomputable def f81 : gD := fun Lv σ => match Lv with
  | [some (.ref q0), none, none] => cond (Nat.beq q0 6) (some (none, some (.int (fFs (cFm σ))), σ)) none
  | _ => none
theorem ok81 : gFok 81 f81 := by
  intro Lv σ q h hc K hK
  unfold f81 at h
  split at h
  · rename_i q0
    obtain ⟨hb, h⟩ := c_no h
    have hb0 := hb
    have e0 := b_eq hb0
    subst e0
    cases h
    exact s81 hK
  · cases h
noncomputable def gpeh_l : List (Nat × gD) := (81, f81) :: gpeg_l
noncomputable def gpeh : gP := gpl0 gpeh_l
theorem gpeh_ok : gPok gpeh := gpl0_cons ok81 (gpeg_ok)
