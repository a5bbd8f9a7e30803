-- text 111
/-! THE LAW: what holds between two calls, and pairs of calls that change the train -/
noncomputable def GI (n : Nat) (σ : gS) : Prop := ∃ B, 1980 ≤ B ∧ B ≤ 1980 + 99 * n ∧ GR B σ ∧ TB σ
noncomputable def Sc (σ τ : gS) : Prop := τ 1000000 = σ 1000000 ∧ τ 1000001 = σ 1000001
theorem Sc_r (σ : gS) : Sc σ σ := ⟨rfl, rfl⟩
theorem Sc_t {σ τ ρ : gS} (h : Sc σ τ) (h2 : Sc τ ρ) : Sc σ ρ := ⟨h2.1.trans h.1, h2.2.trans h.2⟩
theorem Sc_hi {σ τ : gS} (h : ∀ q, 323 ≤ q → τ q = σ q) : Sc σ τ := ⟨h _ (by decide), h _ (by decide)⟩
theorem GI_up {n : Nat} {σ : gS} (h : GI n σ) : GI (n + 1) σ := by
  obtain ⟨B, h1, h2, h3, h4⟩ := h
  exact ⟨B, h1, by omega, h3, h4⟩
theorem TB_of {σ τ : gS} (h : TB σ) (h8 : τ 323 8 = σ 323 8) (h30 : τ 330 = σ 330) : TB τ := by
  unfold TB at *
  rw [h8, h30]
  exact h
theorem TB_0 {τ : gS} (h8 : τ 323 8 = 0) : TB τ := by
  intro i hi
  rw [h8] at hi
  exact absurd hi (Nat.not_lt_zero _)
theorem hOp_far {σ : gS} {g : Prop} [Decidable g] {N : gW} {q : Nat} (h1 : ¬ q = 323) (h2 : ¬ q = 324) (h3 : ¬ q = 327) : hOp σ g N q = σ q := by
  unfold hOp
  split
  · rw [grow_ne h2, hKe_ne h1 h3]
  · rfl
theorem hOp_8 {σ : gS} {g : Prop} [Decidable g] {N : gW} : hOp σ g N 323 8 = σ 323 8 := by
  unfold hOp
  split
  · rw [grow_ne (by decide)]
    unfold hKe
    rw [grow_at, rup_ne (by decide)]
  · rfl
theorem TB_op {σ ρ : gS} {g : Prop} [Decidable g] {N : gW} (h : TB σ) (hi : ∀ q, 323 ≤ q → ρ q = σ q) : TB (hOp ρ g N) := TB_of h (by rw [hOp_8, hi 323 (by decide)]) (by rw [hOp_far (by decide) (by decide) (by decide), hi 330 (by decide)])
theorem Sc_op {σ ρ : gS} {g : Prop} [Decidable g] {N : gW} (hi : ∀ q, 323 ≤ q → ρ q = σ q) : Sc σ (hOp ρ g N) := ⟨by rw [hOp_far (by decide) (by decide) (by decide), hi _ (by decide)], by rw [hOp_far (by decide) (by decide) (by decide), hi _ (by decide)]⟩
theorem hOp_iff {σ : gS} {g1 g2 : Prop} [Decidable g1] [Decidable g2] {N : gW} (h : g1 ↔ g2) : hOp σ g1 N = hOp σ g2 N := by
  unfold hOp
  by_cases q : g2
  · rw [if_pos q, if_pos (h.mpr q)]
  · rw [if_neg q, if_neg (fun z => q (h.mp z))]
theorem GR_7 {B : Nat} {σ : gS} (h : GR B σ) : 0 ≤ σ 6 7 ∧ σ 6 7 ≤ 20 := SC_7 (GR_SC h).1
theorem clS_hi {σ : gS} {a b x : Int32} {q : Nat} (hc : SC σ) (hq : 323 ≤ q) : clS σ a b x q = σ q := by
  unfold clS
  split
  · rename_i g
    have na := isN_of hc.1.1 g.1.1.1.1
    have nb := isN_of hc.1.1 g.1.1.1.2
    rw [cDsw_far (by omega) (n20 na.1) (n20 nb.1), cRem_far (Or.inr hq) (SC_7 hc)]
  · rfl
theorem clM_hi {σ : gS} {a x : Int32} {q : Nat} (hc : SC σ) (hq : 323 ≤ q) : clM σ a x q = σ q := by
  unfold clM
  split
  · rename_i g
    have na := isN_of hc.1.1 g.1.1
    rw [cDmo_far (by omega) (n20 na.1), cRem_far (Or.inr hq) (SC_7 hc)]
  · rfl
theorem clR_hi {σ : gS} {a b c : Int32} {q : Nat} (hc : SC σ) (hq : 323 ≤ q) : clR σ a b c q = σ q := by
  unfold clR
  split
  · rename_i g
    have na := isN_of hc.1.1 g.1.1.1.1.1
    have nb := isN_of hc.1.1 g.1.1.1.1.2
    have nc := isN_of hc.1.1 g.1.1.2.1.2
    rw [cDri_far (by omega) (n20 na.1) (n20 nb.1) (n20 nc.1), cRem_far (Or.inr hq) (SC_7 hc)]
  · rfl
theorem clF_hi {σ : gS} {f : Int32} {q : Nat} (hc : SC σ) (hq : 323 ≤ q) : clF σ f q = σ q := by
  unfold clF
  split
  · rw [cAdd_far (by omega) (by omega)]
    funext j
    rw [gup_ne (by omega), cRem_far (Or.inr hq) (SC_7 hc)]
  · rfl
theorem clE_hi {σ : gS} {t w v : Int32} {q : Nat} (hc : SC σ) (hq : 323 ≤ q) : clE σ t w v q = σ q := by
  unfold clE
  split
  · rename_i g
    have na := n20 (isN_of hc.1.1 g.1.1.1).1
    rw [cAdd_far (by omega) (by omega)]
    funext j
    rw [gup_ne (by omega), cRem_far (Or.inr hq) (SC_7 hc)]
  · rfl
theorem clT_hi {σ : gS} {q : Nat} (hc : SC σ) (ht : TC (cCo σ 32 6) 32) (hq : 323 ≤ q) : clT σ q = σ q := by
  have h7 := SC_7 hc
  have n7 := (c20 h7).2
  obtain ⟨t1, l1, f1⟩ := cSt_tc (d := 99) ht
  unfold clT
  obtain ⟨x, hx⟩ : ∃ x, cSt 99 (cCo σ 32 6) = x := ⟨_, rfl⟩
  rw [hx] at t1 f1 ⊢
  have fs : ∀ q, q < 32 ∨ 58 ≤ q → x.2 q = σ q := fun q hq => by
    rw [f1 q (by omega)]
    funext j
    exact cCo_far (by omega) n7
  split
  · exact fs q (by omega)
  · have x7 : 0 ≤ x.2 6 7 ∧ x.2 6 7 ≤ 20 := by rw [fs 6 (by decide)]; exact h7
    have x32 : 0 ≤ x.2 32 7 ∧ x.2 32 7 ≤ 20 := by have := t1.1; rw [cR_3] at this; exact this
    have n32 : (cRem x.2 32 7).toNatClampNeg ≤ 20 := by rw [cRem_far (Or.inl (by decide)) x7]; exact (c20 x32).2
    unfold cStl
    rw [cAdd_far (by omega) (by omega)]
    funext j
    rw [gup_ne (by omega), cCo_far (by omega) n32, cRem_far (Or.inr hq) x7, fs q (by omega)]
/-- a pair of calls: the class's row, which hands on a row for the reference's call -/
noncomputable def Pr (n : Nat) (σ : gS) (z2 : Nat) (L2 : gL) (Q : Int32 → gS → Prop) : Prop := ∀ x1 s1, Sc σ s1 → (∀ Q2 : Int32 → gS → Prop, (∀ τ, GI (n + 1) τ → Sc σ τ → Q2 x1 τ) → gXi z2 L2 s1 Q2) → Q x1 s1
theorem pr_swap {n : Nat} {σ : gS} {Q : Int32 → gS → Prop} {a b x : Int32} (hn : n ≤ 600) (h : GI n σ) (k : Pr n σ 214 [some (.ref 323), some (.int a), some (.int b), some (.int x), none, none] Q) : gXi 115 [some (.ref 0), some (.int a), some (.int b), some (.int x), none, none] σ Q := by
  obtain ⟨B, b1, b2, g, tb⟩ := h
  obtain ⟨hc, hF⟩ := GR_SC g
  obtain ⟨e24, rs, ea, gr⟩ := GR_swap (a := a) (b := b) (x := x) g (by omega)
  have hi : ∀ q, 323 ≤ q → clS σ a b x q = σ q := fun q hq => clS_hi hc hq
  refine s115 hc ⟨_, rfl, k _ (clS σ a b x) (Sc_hi hi) (fun Q2 h2 => s214 rs ⟨_, rfl, ?_⟩)⟩
  rw [e24, ← ea]
  exact h2 _ ⟨B, b1, by omega, gr, TB_op tb hi⟩ (Sc_op hi)
theorem pr_move {n : Nat} {σ : gS} {Q : Int32 → gS → Prop} {a x : Int32} (hn : n ≤ 600) (h : GI n σ) (k : Pr n σ 215 [some (.ref 323), some (.int a), some (.int x), none, none, none] Q) : gXi 116 [some (.ref 0), some (.int a), some (.int x), none, none] σ Q := by
  obtain ⟨B, b1, b2, g, tb⟩ := h
  obtain ⟨hc, hF⟩ := GR_SC g
  obtain ⟨e24, rs, ea, gr⟩ := GR_move (a := a) (x := x) g
  have hi : ∀ q, 323 ≤ q → clM σ a x q = σ q := fun q hq => clM_hi hc hq
  refine s116 hc ⟨_, rfl, k _ (clM σ a x) (Sc_hi hi) (fun Q2 h2 => s215 rs ⟨_, rfl, ?_⟩)⟩
  rw [e24, ← ea]
  exact h2 _ ⟨B, b1, by omega, gr, TB_op tb hi⟩ (Sc_op hi)
theorem pr_ring {n : Nat} {σ : gS} {Q : Int32 → gS → Prop} {a b c : Int32} (hn : n ≤ 600) (h : GI n σ) (k : Pr n σ 216 [some (.ref 323), some (.int a), some (.int b), some (.int c), none, none] Q) : gXi 117 [some (.ref 0), some (.int a), some (.int b), some (.int c), none, none] σ Q := by
  obtain ⟨B, b1, b2, g, tb⟩ := h
  obtain ⟨hc, hF⟩ := GR_SC g
  obtain ⟨e24, rs, ea, gr⟩ := GR_ring (a := a) (b := b) (c := c) g
  have hi : ∀ q, 323 ≤ q → clR σ a b c q = σ q := fun q hq => clR_hi hc hq
  refine s117 ⟨hc, hF⟩ ⟨_, rfl, k _ (clR σ a b c) (Sc_hi hi) (fun Q2 h2 => s216 rs ⟨_, rfl, ?_⟩)⟩
  rw [e24, ← ea]
  exact h2 _ ⟨B, b1, by omega, gr, TB_op tb hi⟩ (Sc_op hi)
theorem pr_first {n : Nat} {σ : gS} {Q : Int32 → gS → Prop} {f : Int32} (hn : n ≤ 600) (h : GI n σ) (k : Pr n σ 213 [some (.ref 323), some (.int f), none] Q) : gXi 114 [some (.ref 0), some (.int f), none] σ Q := by
  obtain ⟨B, b1, b2, g, tb⟩ := h
  obtain ⟨hc, hF⟩ := GR_SC g
  obtain ⟨e24, rs, ea, gr⟩ := GR_first (f := f) g
  have hi : ∀ q, 323 ≤ q → clF σ f q = σ q := fun q hq => clF_hi hc hq
  refine s114 hc ⟨_, rfl, k _ (clF σ f) (Sc_hi hi) (fun Q2 h2 => s213 rs ⟨_, rfl, ?_⟩)⟩
  rw [e24, ← ea]
  exact h2 _ ⟨B, b1, by omega, gr, TB_op tb hi⟩ (Sc_op hi)
theorem pr_set {n : Nat} {σ : gS} {Q : Int32 → gS → Prop} {t w v : Int32} (hn : n ≤ 600) (h : GI n σ) (k : Pr n σ 211 [some (.ref 323), some (.int t), some (.int w), some (.int v), none] Q) : gXi 113 [some (.ref 0), some (.int t), some (.int w), some (.int v), none, none, none] σ Q := by
  obtain ⟨B, b1, b2, g, tb⟩ := h
  obtain ⟨hc, hF⟩ := GR_SC g
  obtain ⟨e24, rs, ea, gr⟩ := GR_set (t := t) (w := w) (v := v) g
  have hi : ∀ q, 323 ≤ q → clE σ t w v q = σ q := fun q hq => clE_hi hc hq
  refine s113 hc ⟨_, rfl, k _ (clE σ t w v) (Sc_hi hi) (fun Q2 h2 => s211 rs ⟨_, rfl, ?_⟩)⟩
  rw [e24, ← ea]
  exact h2 _ ⟨B, b1, by omega, gr, TB_op tb hi⟩ (Sc_op hi)
theorem pr_settle {n : Nat} {σ : gS} {Q : Int32 → gS → Prop} (hn : n ≤ 600) (h : GI n σ) (k : Pr n σ 217 [some (.ref 323), none, none] Q) : gXi 118 [some (.ref 0), none, none] σ Q := by
  obtain ⟨B, b1, b2, g, tb⟩ := h
  obtain ⟨hc, hF⟩ := GR_SC g
  obtain ⟨e24, rs, rz, ea, gr⟩ := GR_settle g
  obtain ⟨t1, t2⟩ := GR_dr g.1
  have hi : ∀ q, 323 ≤ q → clT σ q = σ q := fun q hq => clT_hi hc t1 hq
  refine s118 ⟨hc, t1, t2⟩ ⟨_, rfl, k _ (clT σ) (Sc_hi hi) (fun Q2 h2 => s217 ⟨rs, rz⟩ ⟨_, rfl, ?_⟩)⟩
  rw [e24, ← ea]
  have hj : TB (grow (clT σ) 326 (fSt 99 (σ 324)).2) := TB_of tb (by rw [grow_ne (by decide), hi 323 (by decide)]) (by rw [grow_ne (by decide), hi 330 (by decide)])
  refine h2 _ ⟨B, b1, by omega, gr, TB_op hj (fun q _ => rfl)⟩ ⟨?_, ?_⟩
  · rw [hOp_far (by decide) (by decide) (by decide), grow_ne (by decide), hi _ (by decide)]
  · rw [hOp_far (by decide) (by decide) (by decide), grow_ne (by decide), hi _ (by decide)]
theorem pr_station {n : Nat} {σ : gS} {Q : Int32 → gS → Prop} {m : Int32} (hn : n ≤ 600) (h : GI n σ) (k : Pr n σ 220 [some (.ref 323), some (.int m), none, none] Q) : gXi 119 [some (.ref 0), some (.int m), none, none] σ Q := by
  obtain ⟨B, b1, b2, g, tb⟩ := h
  obtain ⟨hc, hF⟩ := GR_SC g
  obtain ⟨hi, ea, gr⟩ := GR_station (m := m) g
  have rs : RS (clN σ m) := by
    unfold RS
    rw [hi 324 (by decide), hi 323 (by decide)]
    exact g.2.2.2.2.2.2.1
  refine s119 ⟨hc.2.1, ⟨_, g.1⟩⟩ ⟨_, rfl, k _ (clN σ m) (Sc_hi hi) (fun Q2 h2 => s220 rs ⟨_, rfl, ?_⟩)⟩
  rw [hi 324 (by decide), ← ea]
  exact h2 _ ⟨B, b1, by omega, gr, TB_op tb hi⟩ (Sc_op hi)
theorem pr_restore {n : Nat} {σ : gS} {Q : Int32 → gS → Prop} {f : Int32} (hn : n ≤ 600) (h : GI n σ) (k : Pr n σ 222 [some (.ref 323), some (.int f)] Q) : gXi 121 [some (.ref 0), some (.int f)] σ Q := by
  obtain ⟨B, b1, b2, g, tb⟩ := h
  obtain ⟨hc, hF⟩ := GR_SC g
  obtain ⟨hi, ea, gr⟩ := GR_restore (f := f) g
  have rs : RS (clV σ f) := by
    unfold RS
    rw [hi 324 (by decide), hi 323 (by decide)]
    exact g.2.2.2.2.2.2.1
  have rz : RZ (clV σ f) := by
    unfold RZ
    rw [hi 324 (by decide), hi 325 (by decide), hi 326 (by decide)]
    exact g.2.2.2.2.2.2.2.1
  have er : aRes (clV σ f) f = aRes σ f := by
    unfold aRes
    rw [hi 328 (by decide), hi 329 (by decide)]
  have eg : gRes (clV σ f) f = gRes σ f := by
    unfold gRes
    rw [hi 329 (by decide)]
  refine s121 ⟨hc, fun s hs => (g.2.2.2.1 s hs).2.1⟩ ⟨_, rfl, k _ (clV σ f) (Sc_hi hi) (fun Q2 h2 => s222 ⟨rs, rz⟩ ⟨_, rfl, ?_⟩)⟩
  rw [er, ← ea]
  have gr' : GR B (hOp (clV σ f) (gRes (clV σ f) f) (rowAt (clV σ f 328) f.toNatClampNeg)) := by
    rw [hi 328 (by decide)]
    rw [hOp_iff (iff_of_eq eg)]
    exact gr
  exact h2 _ ⟨B, b1, by omega, gr', TB_op tb hi⟩ (Sc_op hi)
