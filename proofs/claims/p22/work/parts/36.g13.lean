-- text 13
/-! THE REFERENCE: settling, rows copied -/
theorem nfold_inv {α : Type} {f : Nat → α → α} {P : α → Prop} {s : α} (h0 : P s) : ∀ {n : Nat}, (∀ k s, k < n → P s → P (f k s)) → P (nfold f n s)
  | 0, _ => h0
  | n + 1, h => h n _ (by omega) (nfold_inv h0 (fun k s hk => h k s (by omega)))
def bsO (R : gW) (x : Int32) : Prop := x = -2 ∨ ∃ a b, a < nM R ∧ b < nM R ∧ x = 100 * iN a + iN b
theorem fBest_of (R : gW) : bsO R (fBest R) := by
  have h := nfold_inv (f := bsR R) (P := fun s : Int32 × Int32 => bsO R s.1) (s := (-2, 0)) (Or.inl rfl) (n := nM R) (fun a s ha hs => by
    refine nfold_inv (f := bsS R a) (P := fun s : Int32 × Int32 => bsO R s.1) hs (fun b s hb hs => ?_)
    unfold bsS
    split
    · exact hs
    · split
      · exact hs
      · exact Or.inr ⟨a, b, ha, hb, rfl⟩)
  exact h
theorem dm100 : ∀ a, a < 20 → ∀ b, b < 20 → (100 * iN a + iN b) / 100 = iN a ∧ (100 * iN a + iN b) - (100 * iN a + iN b) / 100 * 100 = iN b ∧ ¬ (100 * iN a + iN b) < 0 := by decide +kernel
def fNx (R : gW) : gW := rsw R (fBest R / 100).toNatClampNeg (fBest R - fBest R / 100 * 100).toNatClampNeg
theorem fNx_3 (R : gW) : fNx R 3 = R 3 := rsw_3 _ _ _
def fSt : Nat → gW → Nat × gW
  | 0, R => (0, R)
  | d + 1, R => if fBest R < 0 then (0, R) else ((fSt d (fNx R)).1 + 1, (fSt d (fNx R)).2)
theorem fSt_lt {d : Nat} {R : gW} (h : fBest R < 0) : fSt (d + 1) R = (0, R) := if_pos h
theorem fSt_ge {d : Nat} {R : gW} (h : ¬ fBest R < 0) : fSt (d + 1) R = ((fSt d (fNx R)).1 + 1, (fSt d (fNx R)).2) := if_neg h
set_option maxRecDepth 20000 in
theorem w183_326 {σ : gS} {K : gK} (h : (0 ≤ σ 326 3 ∧ σ 326 3 ≤ 20) ∧ gE 183 7 [some (.ref 326), some (.int 0), some (.int (fBest (σ 326)))] [] σ K) : gE 183 0 [some (.ref 326), none, none] [] σ K :=
  gw_run (cy := 183) (cuts := [7]) (inl := []) (pf := gpfI) gpfI_ok 400 (by decide) h
set_option maxRecDepth 20000 in
theorem v183_326 {σ : gS} {K : gK} {n best : Int32} (h : ((best < 0 → K (some (.int n)) σ) ∧ (¬ best < 0 → ((¬ n < 99 → K (some (.int n)) σ) ∧ (n < 99 → (100 : Int32) ≠ 0 ∧ (100 : Int32) ≠ 0 ∧ (((0 ≤ (best / 100) ∧ (best / 100) < 20) ∧ (0 ≤ (best - best / 100 * 100) ∧ (best - best / 100 * 100) < 20))) ∧ (0 ≤ (grow σ 326 (rsw (σ 326) (best / 100).toNatClampNeg (best - best / 100 * 100).toNatClampNeg)) 326 3 ∧ (grow σ 326 (rsw (σ 326) (best / 100).toNatClampNeg (best - best / 100 * 100).toNatClampNeg)) 326 3 ≤ 20) ∧ gE 183 7 [some (.ref 326), some (.int (n + 1)), some (.int (fBest ((grow σ 326 (rsw (σ 326) (best / 100).toNatClampNeg (best - best / 100 * 100).toNatClampNeg)) 326)))] [] (grow σ 326 (rsw (σ 326) (best / 100).toNatClampNeg (best - best / 100 * 100).toNatClampNeg)) K))))) : gE 183 7 [some (.ref 326), some (.int n), some (.int best)] [] σ K :=
  gw_run (cy := 183) (cuts := [7]) (inl := []) (pf := gpfI) gpfI_ok 400 (by decide) h
theorem s183_326 {σ : gS} {K : gK} (hc : 0 ≤ σ 326 3 ∧ σ 326 3 ≤ 20) (hK : K (some (.int (iN (fSt 99 (σ 326)).1))) (grow σ 326 (fSt 99 (σ 326)).2)) : gE 183 0 [some (.ref 326), none, none] [] σ K := by
  have key : ∀ (d : Nat) (R : gW), d ≤ 99 → (0 ≤ R 3 ∧ R 3 ≤ 20) → K (some (.int (iN (99 - d + (fSt d R).1)))) (grow σ 326 (fSt d R).2) → gE 183 7 [some (.ref 326), some (.int (iN (99 - d))), some (.int (fBest R))] [] (grow σ 326 R) K := by
    intro d
    induction d with
    | zero =>
      intro R _ _ hK
      refine v183_326 ⟨fun _ => hK, fun _ => ⟨fun _ => hK, fun h => ?_⟩⟩
      exact absurd h (by decide)
    | succ d ih =>
      intro R hd hR hK
      by_cases hb : fBest R < 0
      · rw [fSt_lt hb] at hK
        exact v183_326 ⟨fun _ => hK, fun h => absurd hb h⟩
      · rw [fSt_ge hb] at hK
        obtain ⟨a, b, ha, hb2, e⟩ : ∃ a b, a < nM R ∧ b < nM R ∧ fBest R = 100 * iN a + iN b := by
          rcases fBest_of R with h | h
          · rw [h] at hb; exact absurd (by decide) hb
          · exact h
        have hn := (nM_of hR).2
        obtain ⟨d1, d2, -⟩ := dm100 a (by omega) b (by omega)
        have e2 : fNx R = rsw R a b := by
          unfold fNx
          rw [e, d2, d1, iN_nat (by omega), iN_nat (by omega)]
        have ih := ih (fNx R) (by omega) (by rw [fNx_3]; exact hR) (by rw [show 99 - d + (fSt d (fNx R)).1 = 99 - (d + 1) + ((fSt d (fNx R)).1 + 1) by omega]; exact hK)
        refine v183_326 ⟨fun h => absurd h hb, fun _ => ⟨fun h => absurd ((iN_lt (m := 99) (by omega) (by omega)).mpr (by omega)) h, fun _ => ⟨by decide, by decide, ?_⟩⟩⟩
        rw [e, d2, d1, iN_nat (by omega), iN_nat (by omega)]
        refine ⟨⟨b20 (by omega), b20 (by omega)⟩, ?_⟩
        simp only [grow_grow, grow_at]
        refine ⟨by rw [rsw_3]; exact hR, ?_⟩
        rw [iN_one, show 99 - (d + 1) + 1 = 99 - d by omega, ← e2]
        exact ih
  refine w183_326 ⟨hc, ?_⟩
  have h := key 99 (σ 326) (by omega) hc
  rw [grow_id, show 99 - 99 + (fSt 99 (σ 326)).1 = (fSt 99 (σ 326)).1 by omega] at h
  exact h hK
noncomputable def f183 : gD := fun Lv σ => match Lv with
  | [some (.ref p), none, none] => cond (Nat.beq p 326) (some (some (0 ≤ σ p 3 ∧ σ p 3 ≤ 20), some (.int (iN (fSt 99 (σ p)).1)), grow σ p (fSt 99 (σ p)).2)) none
  | _ => none
theorem ok183 : gFok 183 f183 := by
  intro Lv σ q h hc K hK
  unfold f183 at h
  split at h
  · rename_i p
    obtain ⟨hb, h⟩ := c_no h
    have hb0 := hb
    have e := b_eq hb0
    subst e
    cases h
    exact s183_326 (hc _ rfl) hK
  · cases h
/-- 330 numbers of S from a on, laid into T from b on: the first k of them -/
def rla (S T : gW) (a b k : Nat) : gW := fun j => if b ≤ j ∧ j < b + k then S (a + (j - b)) else T j
theorem rla_0 (S T : gW) (a b : Nat) : rla S T a b 0 = T := by funext j; unfold rla; rw [if_neg (by omega)]
theorem rla_s (S T : gW) (a b k : Nat) : rup (rla S T a b k) (b + k) (S (a + k)) = rla S T a b (k + 1) := by
  funext j
  unfold rup rla
  by_cases h : j = b + k
  · rw [if_pos h, if_pos (by omega), h, show a + (b + k - b) = a + k by omega]
  · rw [if_neg h]
    by_cases h2 : b ≤ j ∧ j < b + k
    · rw [if_pos h2, if_pos (by omega)]
    · rw [if_neg h2, if_neg (by omega)]
theorem ix_ab {a : Int32} {k n : Nat} (ha : 0 ≤ a ∧ a ≤ iN (n * 330)) (hk : k < 330) (hn : n < 9) : (a + iN k).toNatClampNeg = a.toNatClampNeg + k ∧ 0 ≤ a + iN k ∧ a + iN k < iN (n * 330 + 330) := by
  obtain ⟨e, l⟩ := iN_of ha.1
  have l2 : a.toNatClampNeg ≤ n * 330 := by
    have h := ha.2
    rw [e, iN_le l (by omega)] at h
    exact h
  rw [e, iN_nat l, iN_add, iN_nat (by omega)]
  exact ⟨rfl, (iN_le (k := 0) (by decide) (by omega)).mpr (by omega), (iN_lt (by omega) (by omega)).mpr (by omega)⟩
set_option maxRecDepth 20000 in
theorem w153_324_326 {σ : gS} {K : gK} {a b : Int32} (h : gE 153 3 [some (.ref 324), some (.int a), some (.ref 326), some (.int b), some (.int 0)] [] σ K) : gE 153 0 [some (.ref 324), some (.int a), some (.ref 326), some (.int b), none] [] σ K :=
  gw_run (cy := 153) (cuts := [3]) (inl := []) (pf := gpfI) gpfI_ok 400 (by decide) h
set_option maxRecDepth 20000 in
theorem v153_324_326 {σ : gS} {K : gK} {a b k : Int32} (h : ((¬ k < 330 → K none σ) ∧ (k < 330 → (0 ≤ (a + k) ∧ (a + k) < 330) ∧ (0 ≤ (b + k) ∧ (b + k) < 330) ∧ gE 153 3 [some (.ref 324), some (.int a), some (.ref 326), some (.int b), some (.int (k + 1))] [] (gup σ 326 (b + k).toNatClampNeg (σ 324 (a + k).toNatClampNeg)) K))) : gE 153 3 [some (.ref 324), some (.int a), some (.ref 326), some (.int b), some (.int k)] [] σ K :=
  gw_run (cy := 153) (cuts := [3]) (inl := []) (pf := gpfI) gpfI_ok 400 (by decide) h
theorem s153_324_326 {σ : gS} {K : gK} {a b : Int32} (hc : (0 ≤ a ∧ a ≤ iN (gln 324 - 330)) ∧ (0 ≤ b ∧ b ≤ iN (gln 326 - 330)) ∧ (324 = 326 → b.toNatClampNeg + 330 ≤ a.toNatClampNeg)) (hK : K none (grow σ 326 (rla (σ 324) (σ 326) a.toNatClampNeg b.toNatClampNeg 330))) : gE 153 0 [some (.ref 324), some (.int a), some (.ref 326), some (.int b), none] [] σ K := by
  obtain ⟨ha, hb, hne⟩ := hc
  have ha : 0 ≤ a ∧ a ≤ iN (0 * 330) := ha
  have hb : 0 ≤ b ∧ b ≤ iN (0 * 330) := hb
  refine w153_324_326 ?_
  have h0 : σ = grow σ 326 (rla (σ 324) (σ 326) a.toNatClampNeg b.toNatClampNeg 0) := by rw [rla_0, grow_id]
  have main := g_forI (y := 153) (pc := 3) (K := K) 330 (fun k => [some (.ref 324), some (.int a), some (.ref 326), some (.int b), some (.int (iN k))]) (fun k => grow σ 326 (rla (σ 324) (σ 326) a.toNatClampNeg b.toNatClampNeg k)) (fun _ => True) (fun _ => v153_324_326 ⟨fun _ => hK, fun h => absurd h (by decide)⟩) (fun k hk _ ih => by
    obtain ⟨ea, a1, a2⟩ := ix_ab ha hk (by decide)
    obtain ⟨eb, b1, b2⟩ := ix_ab hb hk (by decide)
    refine v153_324_326 ⟨fun h => absurd ((iN_lt (m := 330) (by omega) (by omega)).mpr hk) h, fun _ => ⟨⟨a1, a2⟩, ⟨b1, b2⟩, ?_⟩⟩
    have ih := ih trivial
    rw [ea, eb, iN_one, gup_grow, grow_grow, grow_at]
    have hr : grow σ 326 (rla (σ 324) (σ 326) a.toNatClampNeg b.toNatClampNeg k) 324 (a.toNatClampNeg + k) = σ 324 (a.toNatClampNeg + k) := by
      rw [grow_ne (by decide)]
    rw [hr, rla_s]
    exact ih) 0 (Nat.zero_le _) trivial
  rw [← h0] at main
  exact main
set_option maxRecDepth 20000 in
theorem w153_325_324 {σ : gS} {K : gK} {a b : Int32} (h : gE 153 3 [some (.ref 325), some (.int a), some (.ref 324), some (.int b), some (.int 0)] [] σ K) : gE 153 0 [some (.ref 325), some (.int a), some (.ref 324), some (.int b), none] [] σ K :=
  gw_run (cy := 153) (cuts := [3]) (inl := []) (pf := gpfI) gpfI_ok 400 (by decide) h
set_option maxRecDepth 20000 in
theorem v153_325_324 {σ : gS} {K : gK} {a b k : Int32} (h : ((¬ k < 330 → K none σ) ∧ (k < 330 → (0 ≤ (a + k) ∧ (a + k) < 330) ∧ (0 ≤ (b + k) ∧ (b + k) < 330) ∧ gE 153 3 [some (.ref 325), some (.int a), some (.ref 324), some (.int b), some (.int (k + 1))] [] (gup σ 324 (b + k).toNatClampNeg (σ 325 (a + k).toNatClampNeg)) K))) : gE 153 3 [some (.ref 325), some (.int a), some (.ref 324), some (.int b), some (.int k)] [] σ K :=
  gw_run (cy := 153) (cuts := [3]) (inl := []) (pf := gpfI) gpfI_ok 400 (by decide) h
theorem s153_325_324 {σ : gS} {K : gK} {a b : Int32} (hc : (0 ≤ a ∧ a ≤ iN (gln 325 - 330)) ∧ (0 ≤ b ∧ b ≤ iN (gln 324 - 330)) ∧ (325 = 324 → b.toNatClampNeg + 330 ≤ a.toNatClampNeg)) (hK : K none (grow σ 324 (rla (σ 325) (σ 324) a.toNatClampNeg b.toNatClampNeg 330))) : gE 153 0 [some (.ref 325), some (.int a), some (.ref 324), some (.int b), none] [] σ K := by
  obtain ⟨ha, hb, hne⟩ := hc
  have ha : 0 ≤ a ∧ a ≤ iN (0 * 330) := ha
  have hb : 0 ≤ b ∧ b ≤ iN (0 * 330) := hb
  refine w153_325_324 ?_
  have h0 : σ = grow σ 324 (rla (σ 325) (σ 324) a.toNatClampNeg b.toNatClampNeg 0) := by rw [rla_0, grow_id]
  have main := g_forI (y := 153) (pc := 3) (K := K) 330 (fun k => [some (.ref 325), some (.int a), some (.ref 324), some (.int b), some (.int (iN k))]) (fun k => grow σ 324 (rla (σ 325) (σ 324) a.toNatClampNeg b.toNatClampNeg k)) (fun _ => True) (fun _ => v153_325_324 ⟨fun _ => hK, fun h => absurd h (by decide)⟩) (fun k hk _ ih => by
    obtain ⟨ea, a1, a2⟩ := ix_ab ha hk (by decide)
    obtain ⟨eb, b1, b2⟩ := ix_ab hb hk (by decide)
    refine v153_325_324 ⟨fun h => absurd ((iN_lt (m := 330) (by omega) (by omega)).mpr hk) h, fun _ => ⟨⟨a1, a2⟩, ⟨b1, b2⟩, ?_⟩⟩
    have ih := ih trivial
    rw [ea, eb, iN_one, gup_grow, grow_grow, grow_at]
    have hr : grow σ 324 (rla (σ 325) (σ 324) a.toNatClampNeg b.toNatClampNeg k) 325 (a.toNatClampNeg + k) = σ 325 (a.toNatClampNeg + k) := by
      rw [grow_ne (by decide)]
    rw [hr, rla_s]
    exact ih) 0 (Nat.zero_le _) trivial
  rw [← h0] at main
  exact main
set_option maxRecDepth 20000 in
theorem w153_326_324 {σ : gS} {K : gK} {a b : Int32} (h : gE 153 3 [some (.ref 326), some (.int a), some (.ref 324), some (.int b), some (.int 0)] [] σ K) : gE 153 0 [some (.ref 326), some (.int a), some (.ref 324), some (.int b), none] [] σ K :=
  gw_run (cy := 153) (cuts := [3]) (inl := []) (pf := gpfI) gpfI_ok 400 (by decide) h
set_option maxRecDepth 20000 in
theorem v153_326_324 {σ : gS} {K : gK} {a b k : Int32} (h : ((¬ k < 330 → K none σ) ∧ (k < 330 → (0 ≤ (a + k) ∧ (a + k) < 330) ∧ (0 ≤ (b + k) ∧ (b + k) < 330) ∧ gE 153 3 [some (.ref 326), some (.int a), some (.ref 324), some (.int b), some (.int (k + 1))] [] (gup σ 324 (b + k).toNatClampNeg (σ 326 (a + k).toNatClampNeg)) K))) : gE 153 3 [some (.ref 326), some (.int a), some (.ref 324), some (.int b), some (.int k)] [] σ K :=
  gw_run (cy := 153) (cuts := [3]) (inl := []) (pf := gpfI) gpfI_ok 400 (by decide) h
theorem s153_326_324 {σ : gS} {K : gK} {a b : Int32} (hc : (0 ≤ a ∧ a ≤ iN (gln 326 - 330)) ∧ (0 ≤ b ∧ b ≤ iN (gln 324 - 330)) ∧ (326 = 324 → b.toNatClampNeg + 330 ≤ a.toNatClampNeg)) (hK : K none (grow σ 324 (rla (σ 326) (σ 324) a.toNatClampNeg b.toNatClampNeg 330))) : gE 153 0 [some (.ref 326), some (.int a), some (.ref 324), some (.int b), none] [] σ K := by
  obtain ⟨ha, hb, hne⟩ := hc
  have ha : 0 ≤ a ∧ a ≤ iN (0 * 330) := ha
  have hb : 0 ≤ b ∧ b ≤ iN (0 * 330) := hb
  refine w153_326_324 ?_
  have h0 : σ = grow σ 324 (rla (σ 326) (σ 324) a.toNatClampNeg b.toNatClampNeg 0) := by rw [rla_0, grow_id]
  have main := g_forI (y := 153) (pc := 3) (K := K) 330 (fun k => [some (.ref 326), some (.int a), some (.ref 324), some (.int b), some (.int (iN k))]) (fun k => grow σ 324 (rla (σ 326) (σ 324) a.toNatClampNeg b.toNatClampNeg k)) (fun _ => True) (fun _ => v153_326_324 ⟨fun _ => hK, fun h => absurd h (by decide)⟩) (fun k hk _ ih => by
    obtain ⟨ea, a1, a2⟩ := ix_ab ha hk (by decide)
    obtain ⟨eb, b1, b2⟩ := ix_ab hb hk (by decide)
    refine v153_326_324 ⟨fun h => absurd ((iN_lt (m := 330) (by omega) (by omega)).mpr hk) h, fun _ => ⟨⟨a1, a2⟩, ⟨b1, b2⟩, ?_⟩⟩
    have ih := ih trivial
    rw [ea, eb, iN_one, gup_grow, grow_grow, grow_at]
    have hr : grow σ 324 (rla (σ 326) (σ 324) a.toNatClampNeg b.toNatClampNeg k) 326 (a.toNatClampNeg + k) = σ 326 (a.toNatClampNeg + k) := by
      rw [grow_ne (by decide)]
    rw [hr, rla_s]
    exact ih) 0 (Nat.zero_le _) trivial
  rw [← h0] at main
  exact main
set_option maxRecDepth 20000 in
theorem w153_324_327 {σ : gS} {K : gK} {a b : Int32} (h : gE 153 3 [some (.ref 324), some (.int a), some (.ref 327), some (.int b), some (.int 0)] [] σ K) : gE 153 0 [some (.ref 324), some (.int a), some (.ref 327), some (.int b), none] [] σ K :=
  gw_run (cy := 153) (cuts := [3]) (inl := []) (pf := gpfI) gpfI_ok 400 (by decide) h
set_option maxRecDepth 20000 in
theorem v153_324_327 {σ : gS} {K : gK} {a b k : Int32} (h : ((¬ k < 330 → K none σ) ∧ (k < 330 → (0 ≤ (a + k) ∧ (a + k) < 330) ∧ (0 ≤ (b + k) ∧ (b + k) < 2640) ∧ gE 153 3 [some (.ref 324), some (.int a), some (.ref 327), some (.int b), some (.int (k + 1))] [] (gup σ 327 (b + k).toNatClampNeg (σ 324 (a + k).toNatClampNeg)) K))) : gE 153 3 [some (.ref 324), some (.int a), some (.ref 327), some (.int b), some (.int k)] [] σ K :=
  gw_run (cy := 153) (cuts := [3]) (inl := []) (pf := gpfI) gpfI_ok 400 (by decide) h
theorem s153_324_327 {σ : gS} {K : gK} {a b : Int32} (hc : (0 ≤ a ∧ a ≤ iN (gln 324 - 330)) ∧ (0 ≤ b ∧ b ≤ iN (gln 327 - 330)) ∧ (324 = 327 → b.toNatClampNeg + 330 ≤ a.toNatClampNeg)) (hK : K none (grow σ 327 (rla (σ 324) (σ 327) a.toNatClampNeg b.toNatClampNeg 330))) : gE 153 0 [some (.ref 324), some (.int a), some (.ref 327), some (.int b), none] [] σ K := by
  obtain ⟨ha, hb, hne⟩ := hc
  have ha : 0 ≤ a ∧ a ≤ iN (0 * 330) := ha
  have hb : 0 ≤ b ∧ b ≤ iN (7 * 330) := hb
  refine w153_324_327 ?_
  have h0 : σ = grow σ 327 (rla (σ 324) (σ 327) a.toNatClampNeg b.toNatClampNeg 0) := by rw [rla_0, grow_id]
  have main := g_forI (y := 153) (pc := 3) (K := K) 330 (fun k => [some (.ref 324), some (.int a), some (.ref 327), some (.int b), some (.int (iN k))]) (fun k => grow σ 327 (rla (σ 324) (σ 327) a.toNatClampNeg b.toNatClampNeg k)) (fun _ => True) (fun _ => v153_324_327 ⟨fun _ => hK, fun h => absurd h (by decide)⟩) (fun k hk _ ih => by
    obtain ⟨ea, a1, a2⟩ := ix_ab ha hk (by decide)
    obtain ⟨eb, b1, b2⟩ := ix_ab hb hk (by decide)
    refine v153_324_327 ⟨fun h => absurd ((iN_lt (m := 330) (by omega) (by omega)).mpr hk) h, fun _ => ⟨⟨a1, a2⟩, ⟨b1, b2⟩, ?_⟩⟩
    have ih := ih trivial
    rw [ea, eb, iN_one, gup_grow, grow_grow, grow_at]
    have hr : grow σ 327 (rla (σ 324) (σ 327) a.toNatClampNeg b.toNatClampNeg k) 324 (a.toNatClampNeg + k) = σ 324 (a.toNatClampNeg + k) := by
      rw [grow_ne (by decide)]
    rw [hr, rla_s]
    exact ih) 0 (Nat.zero_le _) trivial
  rw [← h0] at main
  exact main
set_option maxRecDepth 20000 in
theorem w153_327_324 {σ : gS} {K : gK} {a b : Int32} (h : gE 153 3 [some (.ref 327), some (.int a), some (.ref 324), some (.int b), some (.int 0)] [] σ K) : gE 153 0 [some (.ref 327), some (.int a), some (.ref 324), some (.int b), none] [] σ K :=
  gw_run (cy := 153) (cuts := [3]) (inl := []) (pf := gpfI) gpfI_ok 400 (by decide) h
set_option maxRecDepth 20000 in
theorem v153_327_324 {σ : gS} {K : gK} {a b k : Int32} (h : ((¬ k < 330 → K none σ) ∧ (k < 330 → (0 ≤ (a + k) ∧ (a + k) < 2640) ∧ (0 ≤ (b + k) ∧ (b + k) < 330) ∧ gE 153 3 [some (.ref 327), some (.int a), some (.ref 324), some (.int b), some (.int (k + 1))] [] (gup σ 324 (b + k).toNatClampNeg (σ 327 (a + k).toNatClampNeg)) K))) : gE 153 3 [some (.ref 327), some (.int a), some (.ref 324), some (.int b), some (.int k)] [] σ K :=
  gw_run (cy := 153) (cuts := [3]) (inl := []) (pf := gpfI) gpfI_ok 400 (by decide) h
theorem s153_327_324 {σ : gS} {K : gK} {a b : Int32} (hc : (0 ≤ a ∧ a ≤ iN (gln 327 - 330)) ∧ (0 ≤ b ∧ b ≤ iN (gln 324 - 330)) ∧ (327 = 324 → b.toNatClampNeg + 330 ≤ a.toNatClampNeg)) (hK : K none (grow σ 324 (rla (σ 327) (σ 324) a.toNatClampNeg b.toNatClampNeg 330))) : gE 153 0 [some (.ref 327), some (.int a), some (.ref 324), some (.int b), none] [] σ K := by
  obtain ⟨ha, hb, hne⟩ := hc
  have ha : 0 ≤ a ∧ a ≤ iN (7 * 330) := ha
  have hb : 0 ≤ b ∧ b ≤ iN (0 * 330) := hb
  refine w153_327_324 ?_
  have h0 : σ = grow σ 324 (rla (σ 327) (σ 324) a.toNatClampNeg b.toNatClampNeg 0) := by rw [rla_0, grow_id]
  have main := g_forI (y := 153) (pc := 3) (K := K) 330 (fun k => [some (.ref 327), some (.int a), some (.ref 324), some (.int b), some (.int (iN k))]) (fun k => grow σ 324 (rla (σ 327) (σ 324) a.toNatClampNeg b.toNatClampNeg k)) (fun _ => True) (fun _ => v153_327_324 ⟨fun _ => hK, fun h => absurd h (by decide)⟩) (fun k hk _ ih => by
    obtain ⟨ea, a1, a2⟩ := ix_ab ha hk (by decide)
    obtain ⟨eb, b1, b2⟩ := ix_ab hb hk (by decide)
    refine v153_327_324 ⟨fun h => absurd ((iN_lt (m := 330) (by omega) (by omega)).mpr hk) h, fun _ => ⟨⟨a1, a2⟩, ⟨b1, b2⟩, ?_⟩⟩
    have ih := ih trivial
    rw [ea, eb, iN_one, gup_grow, grow_grow, grow_at]
    have hr : grow σ 324 (rla (σ 327) (σ 324) a.toNatClampNeg b.toNatClampNeg k) 327 (a.toNatClampNeg + k) = σ 327 (a.toNatClampNeg + k) := by
      rw [grow_ne (by decide)]
    rw [hr, rla_s]
    exact ih) 0 (Nat.zero_le _) trivial
  rw [← h0] at main
  exact main
set_option maxRecDepth 20000 in
theorem w153_327_327 {σ : gS} {K : gK} {a b : Int32} (h : gE 153 3 [some (.ref 327), some (.int a), some (.ref 327), some (.int b), some (.int 0)] [] σ K) : gE 153 0 [some (.ref 327), some (.int a), some (.ref 327), some (.int b), none] [] σ K :=
  gw_run (cy := 153) (cuts := [3]) (inl := []) (pf := gpfI) gpfI_ok 400 (by decide) h
set_option maxRecDepth 20000 in
theorem v153_327_327 {σ : gS} {K : gK} {a b k : Int32} (h : ((¬ k < 330 → K none σ) ∧ (k < 330 → (0 ≤ (a + k) ∧ (a + k) < 2640) ∧ (0 ≤ (b + k) ∧ (b + k) < 2640) ∧ gE 153 3 [some (.ref 327), some (.int a), some (.ref 327), some (.int b), some (.int (k + 1))] [] (gup σ 327 (b + k).toNatClampNeg (σ 327 (a + k).toNatClampNeg)) K))) : gE 153 3 [some (.ref 327), some (.int a), some (.ref 327), some (.int b), some (.int k)] [] σ K :=
  gw_run (cy := 153) (cuts := [3]) (inl := []) (pf := gpfI) gpfI_ok 400 (by decide) h
theorem s153_327_327 {σ : gS} {K : gK} {a b : Int32} (hc : (0 ≤ a ∧ a ≤ iN (gln 327 - 330)) ∧ (0 ≤ b ∧ b ≤ iN (gln 327 - 330)) ∧ (327 = 327 → b.toNatClampNeg + 330 ≤ a.toNatClampNeg)) (hK : K none (grow σ 327 (rla (σ 327) (σ 327) a.toNatClampNeg b.toNatClampNeg 330))) : gE 153 0 [some (.ref 327), some (.int a), some (.ref 327), some (.int b), none] [] σ K := by
  obtain ⟨ha, hb, hne⟩ := hc
  have ha : 0 ≤ a ∧ a ≤ iN (7 * 330) := ha
  have hb : 0 ≤ b ∧ b ≤ iN (7 * 330) := hb
  refine w153_327_327 ?_
  have h0 : σ = grow σ 327 (rla (σ 327) (σ 327) a.toNatClampNeg b.toNatClampNeg 0) := by rw [rla_0, grow_id]
  have main := g_forI (y := 153) (pc := 3) (K := K) 330 (fun k => [some (.ref 327), some (.int a), some (.ref 327), some (.int b), some (.int (iN k))]) (fun k => grow σ 327 (rla (σ 327) (σ 327) a.toNatClampNeg b.toNatClampNeg k)) (fun _ => True) (fun _ => v153_327_327 ⟨fun _ => hK, fun h => absurd h (by decide)⟩) (fun k hk _ ih => by
    obtain ⟨ea, a1, a2⟩ := ix_ab ha hk (by decide)
    obtain ⟨eb, b1, b2⟩ := ix_ab hb hk (by decide)
    refine v153_327_327 ⟨fun h => absurd ((iN_lt (m := 330) (by omega) (by omega)).mpr hk) h, fun _ => ⟨⟨a1, a2⟩, ⟨b1, b2⟩, ?_⟩⟩
    have ih := ih trivial
    rw [ea, eb, iN_one, gup_grow, grow_grow, grow_at]
    have hr : rla (σ 327) (σ 327) a.toNatClampNeg b.toNatClampNeg k (a.toNatClampNeg + k) = σ 327 (a.toNatClampNeg + k) := by
      unfold rla; have h9 := hne rfl; rw [if_neg (by omega)]
    rw [hr, rla_s]
    exact ih) 0 (Nat.zero_le _) trivial
  rw [← h0] at main
  exact main
set_option maxRecDepth 20000 in
theorem w153_324_328 {σ : gS} {K : gK} {a b : Int32} (h : gE 153 3 [some (.ref 324), some (.int a), some (.ref 328), some (.int b), some (.int 0)] [] σ K) : gE 153 0 [some (.ref 324), some (.int a), some (.ref 328), some (.int b), none] [] σ K :=
  gw_run (cy := 153) (cuts := [3]) (inl := []) (pf := gpfI) gpfI_ok 400 (by decide) h
set_option maxRecDepth 20000 in
theorem v153_324_328 {σ : gS} {K : gK} {a b k : Int32} (h : ((¬ k < 330 → K none σ) ∧ (k < 330 → (0 ≤ (a + k) ∧ (a + k) < 330) ∧ (0 ≤ (b + k) ∧ (b + k) < 660) ∧ gE 153 3 [some (.ref 324), some (.int a), some (.ref 328), some (.int b), some (.int (k + 1))] [] (gup σ 328 (b + k).toNatClampNeg (σ 324 (a + k).toNatClampNeg)) K))) : gE 153 3 [some (.ref 324), some (.int a), some (.ref 328), some (.int b), some (.int k)] [] σ K :=
  gw_run (cy := 153) (cuts := [3]) (inl := []) (pf := gpfI) gpfI_ok 400 (by decide) h
theorem s153_324_328 {σ : gS} {K : gK} {a b : Int32} (hc : (0 ≤ a ∧ a ≤ iN (gln 324 - 330)) ∧ (0 ≤ b ∧ b ≤ iN (gln 328 - 330)) ∧ (324 = 328 → b.toNatClampNeg + 330 ≤ a.toNatClampNeg)) (hK : K none (grow σ 328 (rla (σ 324) (σ 328) a.toNatClampNeg b.toNatClampNeg 330))) : gE 153 0 [some (.ref 324), some (.int a), some (.ref 328), some (.int b), none] [] σ K := by
  obtain ⟨ha, hb, hne⟩ := hc
  have ha : 0 ≤ a ∧ a ≤ iN (0 * 330) := ha
  have hb : 0 ≤ b ∧ b ≤ iN (1 * 330) := hb
  refine w153_324_328 ?_
  have h0 : σ = grow σ 328 (rla (σ 324) (σ 328) a.toNatClampNeg b.toNatClampNeg 0) := by rw [rla_0, grow_id]
  have main := g_forI (y := 153) (pc := 3) (K := K) 330 (fun k => [some (.ref 324), some (.int a), some (.ref 328), some (.int b), some (.int (iN k))]) (fun k => grow σ 328 (rla (σ 324) (σ 328) a.toNatClampNeg b.toNatClampNeg k)) (fun _ => True) (fun _ => v153_324_328 ⟨fun _ => hK, fun h => absurd h (by decide)⟩) (fun k hk _ ih => by
    obtain ⟨ea, a1, a2⟩ := ix_ab ha hk (by decide)
    obtain ⟨eb, b1, b2⟩ := ix_ab hb hk (by decide)
    refine v153_324_328 ⟨fun h => absurd ((iN_lt (m := 330) (by omega) (by omega)).mpr hk) h, fun _ => ⟨⟨a1, a2⟩, ⟨b1, b2⟩, ?_⟩⟩
    have ih := ih trivial
    rw [ea, eb, iN_one, gup_grow, grow_grow, grow_at]
    have hr : grow σ 328 (rla (σ 324) (σ 328) a.toNatClampNeg b.toNatClampNeg k) 324 (a.toNatClampNeg + k) = σ 324 (a.toNatClampNeg + k) := by
      rw [grow_ne (by decide)]
    rw [hr, rla_s]
    exact ih) 0 (Nat.zero_le _) trivial
  rw [← h0] at main
  exact main
set_option maxRecDepth 20000 in
theorem w153_328_324 {σ : gS} {K : gK} {a b : Int32} (h : gE 153 3 [some (.ref 328), some (.int a), some (.ref 324), some (.int b), some (.int 0)] [] σ K) : gE 153 0 [some (.ref 328), some (.int a), some (.ref 324), some (.int b), none] [] σ K :=
  gw_run (cy := 153) (cuts := [3]) (inl := []) (pf := gpfI) gpfI_ok 400 (by decide) h
set_option maxRecDepth 20000 in
theorem v153_328_324 {σ : gS} {K : gK} {a b k : Int32} (h : ((¬ k < 330 → K none σ) ∧ (k < 330 → (0 ≤ (a + k) ∧ (a + k) < 660) ∧ (0 ≤ (b + k) ∧ (b + k) < 330) ∧ gE 153 3 [some (.ref 328), some (.int a), some (.ref 324), some (.int b), some (.int (k + 1))] [] (gup σ 324 (b + k).toNatClampNeg (σ 328 (a + k).toNatClampNeg)) K))) : gE 153 3 [some (.ref 328), some (.int a), some (.ref 324), some (.int b), some (.int k)] [] σ K :=
  gw_run (cy := 153) (cuts := [3]) (inl := []) (pf := gpfI) gpfI_ok 400 (by decide) h
theorem s153_328_324 {σ : gS} {K : gK} {a b : Int32} (hc : (0 ≤ a ∧ a ≤ iN (gln 328 - 330)) ∧ (0 ≤ b ∧ b ≤ iN (gln 324 - 330)) ∧ (328 = 324 → b.toNatClampNeg + 330 ≤ a.toNatClampNeg)) (hK : K none (grow σ 324 (rla (σ 328) (σ 324) a.toNatClampNeg b.toNatClampNeg 330))) : gE 153 0 [some (.ref 328), some (.int a), some (.ref 324), some (.int b), none] [] σ K := by
  obtain ⟨ha, hb, hne⟩ := hc
  have ha : 0 ≤ a ∧ a ≤ iN (1 * 330) := ha
  have hb : 0 ≤ b ∧ b ≤ iN (0 * 330) := hb
  refine w153_328_324 ?_
  have h0 : σ = grow σ 324 (rla (σ 328) (σ 324) a.toNatClampNeg b.toNatClampNeg 0) := by rw [rla_0, grow_id]
  have main := g_forI (y := 153) (pc := 3) (K := K) 330 (fun k => [some (.ref 328), some (.int a), some (.ref 324), some (.int b), some (.int (iN k))]) (fun k => grow σ 324 (rla (σ 328) (σ 324) a.toNatClampNeg b.toNatClampNeg k)) (fun _ => True) (fun _ => v153_328_324 ⟨fun _ => hK, fun h => absurd h (by decide)⟩) (fun k hk _ ih => by
    obtain ⟨ea, a1, a2⟩ := ix_ab ha hk (by decide)
    obtain ⟨eb, b1, b2⟩ := ix_ab hb hk (by decide)
    refine v153_328_324 ⟨fun h => absurd ((iN_lt (m := 330) (by omega) (by omega)).mpr hk) h, fun _ => ⟨⟨a1, a2⟩, ⟨b1, b2⟩, ?_⟩⟩
    have ih := ih trivial
    rw [ea, eb, iN_one, gup_grow, grow_grow, grow_at]
    have hr : grow σ 324 (rla (σ 328) (σ 324) a.toNatClampNeg b.toNatClampNeg k) 328 (a.toNatClampNeg + k) = σ 328 (a.toNatClampNeg + k) := by
      rw [grow_ne (by decide)]
    rw [hr, rla_s]
    exact ih) 0 (Nat.zero_le _) trivial
  rw [← h0] at main
  exact main
noncomputable def f153 : gD := fun Lv σ => match Lv with
  | [some (.ref p), some (.int a), some (.ref q), some (.int b), none] => cond ((Nat.beq p 324 && Nat.beq q 326) || (Nat.beq p 325 && Nat.beq q 324) || (Nat.beq p 326 && Nat.beq q 324) || (Nat.beq p 324 && Nat.beq q 327) || (Nat.beq p 327 && Nat.beq q 324) || (Nat.beq p 327 && Nat.beq q 327) || (Nat.beq p 324 && Nat.beq q 328) || (Nat.beq p 328 && Nat.beq q 324)) (some (some ((0 ≤ a ∧ a ≤ iN (gln p - 330)) ∧ (0 ≤ b ∧ b ≤ iN (gln q - 330)) ∧ (p = q → b.toNatClampNeg + 330 ≤ a.toNatClampNeg)), none, grow σ q (rla (σ p) (σ q) a.toNatClampNeg b.toNatClampNeg 330))) none
  | _ => none
theorem ok153 : gFok 153 f153 := by
  intro Lv σ q h hc K hK
  unfold f153 at h
  split at h
  · rename_i p a q b
    obtain ⟨hb, h⟩ := c_no h
    have hb0 := hb
    rcases s_or hb0 with hb0 | hb0
    · rcases s_or hb0 with hb0 | hb0
      · rcases s_or hb0 with hb0 | hb0
        · rcases s_or hb0 with hb0 | hb0
          · rcases s_or hb0 with hb0 | hb0
            · rcases s_or hb0 with hb0 | hb0
              · rcases s_or hb0 with hb0 | hb0
                · obtain ⟨e1, e2⟩ := s_and hb0
                  have e1 := b_eq e1
                  have e2 := b_eq e2
                  subst e1
                  subst e2
                  cases h
                  exact s153_324_326 (hc _ rfl) hK
                · obtain ⟨e1, e2⟩ := s_and hb0
                  have e1 := b_eq e1
                  have e2 := b_eq e2
                  subst e1
                  subst e2
                  cases h
                  exact s153_325_324 (hc _ rfl) hK
              · obtain ⟨e1, e2⟩ := s_and hb0
                have e1 := b_eq e1
                have e2 := b_eq e2
                subst e1
                subst e2
                cases h
                exact s153_326_324 (hc _ rfl) hK
            · obtain ⟨e1, e2⟩ := s_and hb0
              have e1 := b_eq e1
              have e2 := b_eq e2
              subst e1
              subst e2
              cases h
              exact s153_324_327 (hc _ rfl) hK
          · obtain ⟨e1, e2⟩ := s_and hb0
            have e1 := b_eq e1
            have e2 := b_eq e2
            subst e1
            subst e2
            cases h
            exact s153_327_324 (hc _ rfl) hK
        · obtain ⟨e1, e2⟩ := s_and hb0
          have e1 := b_eq e1
          have e2 := b_eq e2
          subst e1
          subst e2
          cases h
          exact s153_327_327 (hc _ rfl) hK
      · obtain ⟨e1, e2⟩ := s_and hb0
        have e1 := b_eq e1
        have e2 := b_eq e2
        subst e1
        subst e2
        cases h
        exact s153_324_328 (hc _ rfl) hK
    · obtain ⟨e1, e2⟩ := s_and hb0
      have e1 := b_eq e1
      have e2 := b_eq e2
      subst e1
      subst e2
      cases h
      exact s153_328_324 (hc _ rfl) hK
  · cases h
noncomputable def gpfJ_l : List (Nat × gD) := (183, f183) :: (153, f153) :: gpfI_l
noncomputable def gpfJ : gP := gpl0 gpfJ_l
theorem gpfJ_ok : gPok gpfJ := gpl0_cons ok183 (gpl0_cons ok153 (gpfI_ok))
-- text 14
/-! THE REFERENCE: names, the log, what is kept for undo -/
theorem bmod_small {z : Int} (h1 : -2147483648 ≤ z) (h2 : z < 2147483648) : z.bmod (2 ^ 32) = z := by
  have e : (2 ^ 32 : Nat) = 4294967296 := by decide
  rw [e, Int.bmod_def]
  split <;> omega
theorem iN_div {m d : Nat} (hm : m < 2147483648) (hd : d < 2147483648) : iN m / iN d = iN (m / d) := by
  have hq : m / d ≤ m := Nat.div_le_self m d
  have h0 : (0 : Int) ≤ ((m / d : Nat) : Int) := Int.natCast_nonneg _
  apply Int32.toInt_inj.1
  rw [Int32.toInt_div, iN_int hm, iN_int hd, iN_int (by omega), ← Int.ofNat_tdiv, bmod_small (by omega) (by omega)]
theorem iN_sub {m d : Nat} (hm : m < 2147483648) (hd : d ≤ m) : iN m - iN d = iN (m - d) := by
  apply Int32.toInt_inj.1
  rw [Int32.toInt_sub, iN_int hm, iN_int (by omega), iN_int (by omega), bmod_small (by omega) (by omega)]
  omega
theorem iN_mod {m d : Nat} (hm : m < 2147483648) (hd : d < 2147483648) : iN m - iN m / iN d * iN d = iN (m % d) := by
  have h1 : m / d * d ≤ m := Nat.div_mul_le_self m d
  have h2 := Nat.div_add_mod m d
  rw [iN_div hm hd, iN_mul, iN_sub hm h1]
  congr 1
  rw [Nat.mul_comm] at h2
  omega
abbrev isKey (w : Int32) : Prop := w = 13550 ∨ w = 377669 ∨ w = 388978 ∨ w = 692581 ∨ w = 3379448 ∨ w = 10984100 ∨ w = 86887672 ∨ w = 284954995 ∨ w = 291828332 ∨ w = 335086736
/-- how many letters a name has -/
def nsN : Nat → Nat → Nat
  | 0, _ => 0
  | f + 1, m => if m = 0 then 0 else nsN f (m / 27) + 1
def nsz (w : Int32) : Nat := nsN 8 w.toNatClampNeg
def lOf (w : Int32) (i : Nat) : Nat := w.toNatClampNeg / 27 ^ (nsz w - 1 - i) % 27
theorem nsN_le : ∀ f m, nsN f m ≤ f
  | 0, _ => Nat.le_refl 0
  | f + 1, m => by
    have := nsN_le f (m / 27)
    unfold nsN
    split <;> omega
set_option maxRecDepth 20000 in
theorem w193 {σ : gS} {K : gK} {w : Int32} (h : ((w = 13550 → ((1 : Int32) = 0 ∨ (1 : Int32) = 1) ∧ K (some (.int 1)) σ) ∧ (¬ w = 13550 → ((w = 377669 → ((1 : Int32) = 0 ∨ (1 : Int32) = 1) ∧ K (some (.int 1)) σ) ∧ (¬ w = 377669 → ((w = 388978 → ((1 : Int32) = 0 ∨ (1 : Int32) = 1) ∧ K (some (.int 1)) σ) ∧ (¬ w = 388978 → ((w = 692581 → ((1 : Int32) = 0 ∨ (1 : Int32) = 1) ∧ K (some (.int 1)) σ) ∧ (¬ w = 692581 → ((w = 3379448 → ((1 : Int32) = 0 ∨ (1 : Int32) = 1) ∧ K (some (.int 1)) σ) ∧ (¬ w = 3379448 → ((w = 10984100 → ((1 : Int32) = 0 ∨ (1 : Int32) = 1) ∧ K (some (.int 1)) σ) ∧ (¬ w = 10984100 → ((w = 86887672 → ((1 : Int32) = 0 ∨ (1 : Int32) = 1) ∧ K (some (.int 1)) σ) ∧ (¬ w = 86887672 → ((w = 284954995 → ((1 : Int32) = 0 ∨ (1 : Int32) = 1) ∧ K (some (.int 1)) σ) ∧ (¬ w = 284954995 → ((w = 291828332 → ((1 : Int32) = 0 ∨ (1 : Int32) = 1) ∧ K (some (.int 1)) σ) ∧ (¬ w = 291828332 → ((w = 335086736 → ((1 : Int32) = 0 ∨ (1 : Int32) = 1) ∧ K (some (.int 1)) σ) ∧ (¬ w = 335086736 → ((0 : Int32) = 0 ∨ (0 : Int32) = 1) ∧ K (some (.int 0)) σ))))))))))))))))))))) : gE 193 0 [some (.int w)] [] σ K :=
  gw_run (cy := 193) (cuts := []) (inl := []) (pf := gpfJ) gpfJ_ok 400 (by decide) h
theorem s193 {σ : gS} {K : gK} {w : Int32} (hK : K (some (.int (bI (isKey w)))) σ) : gE 193 0 [some (.int w)] [] σ K := by
  refine w193 ?_
  grind (splits := 40) [bI]
noncomputable def f193 : gD := fun Lv σ => match Lv with
  | [some (.int w)] => some (none, some (.int (bI (isKey w))), σ)
  | _ => none
theorem ok193 : gFok 193 f193 := by
  intro Lv σ q h hc K hK
  unfold f193 at h
  split at h
  · rename_i w
    cases h
    exact s193 hK
  · cases h
set_option maxRecDepth 20000 in
theorem w199 {σ : gS} {K : gK} {w : Int32} (h : gE 199 4 [some (.int w), some (.int 0), some (.int w)] [] σ K) : gE 199 0 [some (.int w), none, none] [] σ K :=
  gw_run (cy := 199) (cuts := [4]) (inl := []) (pf := gpfJ) gpfJ_ok 400 (by decide) h
set_option maxRecDepth 20000 in
theorem v199 {σ : gS} {K : gK} {w n l : Int32} (h : ((¬ 0 < l → K (some (.int n)) σ) ∧ (0 < l → (27 : Int32) ≠ 0 ∧ gE 199 4 [some (.int w), some (.int (n + 1)), some (.int (l / 27))] [] σ K))) : gE 199 4 [some (.int w), some (.int n), some (.int l)] [] σ K :=
  gw_run (cy := 199) (cuts := [4]) (inl := []) (pf := gpfJ) gpfJ_ok 400 (by decide) h
theorem s199 {σ : gS} {K : gK} {w : Int32} (hc : 0 ≤ w) (hK : K (some (.int (iN (nsz w)))) σ) : gE 199 0 [some (.int w), none, none] [] σ K := by
  obtain ⟨e, l⟩ := iN_of hc
  have key : ∀ (f m i : Nat), m < 2147483648 → m < 27 ^ f → K (some (.int (iN (i + nsN f m)))) σ → gE 199 4 [some (.int w), some (.int (iN i)), some (.int (iN m))] [] σ K := by
    intro f
    induction f with
    | zero =>
      intro m i h1 h2 hK
      have : m = 0 := by omega
      subst this
      exact v199 ⟨fun _ => hK, fun h => absurd h (by decide)⟩
    | succ f ih =>
      intro m i h1 h2 hK
      refine v199 ⟨fun h => ?_, fun h => ⟨by decide, ?_⟩⟩
      · have : ¬ 0 < m := fun q => h ((iN_lt (k := 0) (by decide) h1).mpr q)
        have : m = 0 := by omega
        subst this
        exact hK
      · have h0 : 0 < m := (iN_lt (k := 0) (by decide) h1).mp h
        have e1 : nsN (f + 1) m = nsN f (m / 27) + 1 := if_neg (by omega)
        have e2 : iN m / 27 = iN (m / 27) := iN_div h1 (by decide)
        rw [e1] at hK
        rw [e2, iN_one]
        refine ih (m / 27) (i + 1) (by omega) ?_ ?_
        · rw [Nat.pow_succ] at h2
          omega
        · rw [show i + 1 + nsN f (m / 27) = i + (nsN f (m / 27) + 1) by omega]
          exact hK
  refine w199 ?_
  have h := key 8 w.toNatClampNeg 0 l (Nat.lt_trans l (by decide)) (by rw [Nat.zero_add]; exact hK)
  rw [← e] at h
  exact h
noncomputable def f199 : gD := fun Lv σ => match Lv with
  | [some (.int w), none, none] => some (some (0 ≤ w), some (.int (iN (nsz w))), σ)
  | _ => none
theorem ok199 : gFok 199 f199 := by
  intro Lv σ q h hc K hK
  unfold f199 at h
  split at h
  · rename_i w
    cases h
    exact s199 (hc _ rfl) hK
  · cases h
noncomputable def gpfK_l : List (Nat × gD) := (193, f193) :: (199, f199) :: gpfJ_l
noncomputable def gpfK : gP := gpl0 gpfK_l
theorem gpfK_ok : gPok gpfK := gpl0_cons ok193 (gpl0_cons ok199 (gpfJ_ok))
set_option maxRecDepth 20000 in
theorem w198 {σ : gS} {K : gK} {w : Int32} (h : (0 ≤ w) ∧ ((5 < (iN (nsz w)) → ((0 : Int32) = 0 ∨ (0 : Int32) = 1) ∧ K (some (.int 0)) σ) ∧ (¬ 5 < (iN (nsz w)) → ((¬ (bI (isKey w)) = 0 → ((0 : Int32) = 0 ∨ (0 : Int32) = 1) ∧ K (some (.int 0)) σ) ∧ ((bI (isKey w)) = 0 → ((1 : Int32) = 0 ∨ (1 : Int32) = 1) ∧ K (some (.int 1)) σ))))) : gE 198 0 [some (.int w)] [] σ K :=
  gw_run (cy := 198) (cuts := []) (inl := []) (pf := gpfK) gpfK_ok 400 (by decide) h
theorem s198 {σ : gS} {K : gK} {w : Int32} (hc : 0 ≤ w) (hK : K (some (.int (bI (nsz w ≤ 5 ∧ ¬ isKey w)))) σ) : gE 198 0 [some (.int w)] [] σ K := by
  have h8 : nsz w ≤ 8 := nsN_le 8 _
  have e : 5 < iN (nsz w) ↔ 5 < nsz w := iN_lt (k := 5) (by decide) (by omega)
  refine w198 ⟨hc, ?_⟩
  simp only [bI_0, e]
  refine ⟨fun h => ⟨by decide, ?_⟩, fun h => ⟨fun h2 => ⟨by decide, ?_⟩, fun h2 => ⟨by decide, ?_⟩⟩⟩
  · rw [bI_f (fun q => by omega)] at hK; exact hK
  · rw [bI_f (fun q => h2 q.2)] at hK; exact hK
  · rw [bI_t ⟨by omega, h2⟩] at hK; exact hK
noncomputable def f198 : gD := fun Lv σ => match Lv with
  | [some (.int w)] => some (some (0 ≤ w), some (.int (bI (nsz w ≤ 5 ∧ ¬ isKey w))), σ)
  | _ => none
theorem ok198 : gFok 198 f198 := by
  intro Lv σ q h hc K hK
  unfold f198 at h
  split at h
  · rename_i w
    cases h
    exact s198 (hc _ rfl) hK
  · cases h
set_option maxRecDepth 20000 in
theorem w200 {σ : gS} {K : gK} {w x : Int32} (h : (0 ≤ w) ∧ gE 200 9 [some (.int w), some (.int x), some (.int w), some (.int ((iN (nsz w)) - 1))] [] σ K) : gE 200 0 [some (.int w), some (.int x), none, none] [] σ K :=
  gw_run (cy := 200) (cuts := [9]) (inl := []) (pf := gpfK) gpfK_ok 400 (by decide) h
set_option maxRecDepth 20000 in
theorem v200 {σ : gS} {K : gK} {w x l k : Int32} (h : ((¬ x < k → (27 : Int32) ≠ 0 ∧ K (some (.int (l - l / 27 * 27))) σ) ∧ (x < k → (27 : Int32) ≠ 0 ∧ gE 200 9 [some (.int w), some (.int x), some (.int (l / 27)), some (.int (k + (-1)))] [] σ K))) : gE 200 9 [some (.int w), some (.int x), some (.int l), some (.int k)] [] σ K :=
  gw_run (cy := 200) (cuts := [9]) (inl := []) (pf := gpfK) gpfK_ok 400 (by decide) h
theorem s200 {σ : gS} {K : gK} {w x : Int32} (hc : 0 ≤ w ∧ (0 ≤ x ∧ x < 20)) (hK : K (some (.int (iN (lOf w x.toNatClampNeg)))) σ) : gE 200 0 [some (.int w), some (.int x), none, none] [] σ K := by
  obtain ⟨hw, hx⟩ := hc
  obtain ⟨e, l⟩ := iN_of hw
  obtain ⟨ex, lx⟩ := t20 hx
  obtain ⟨m, hm⟩ : ∃ m, x.toNatClampNeg = m := ⟨_, rfl⟩
  rw [hm] at ex lx hK
  subst ex
  have h8 : nsz w ≤ 8 := nsN_le 8 _
  have key : ∀ (d q : Nat), q < 2147483648 → d < 20 → K (some (.int (iN (q / 27 ^ d % 27)))) σ → gE 200 9 [some (.int w), some (.int (iN m)), some (.int (iN q)), some (.int (iN (m + d)))] [] σ K := by
    intro d
    induction d with
    | zero =>
      intro q hq _ hK
      refine v200 ⟨fun _ => ⟨by decide, ?_⟩, fun h => ?_⟩
      · rw [show (27 : Int32) = iN 27 from rfl, iN_mod hq (by decide)]
        rw [Nat.pow_zero, Nat.div_one] at hK
        exact hK
      · rw [iN_lt (by omega) (by omega)] at h; omega
    | succ d ih =>
      intro q hq hd hK
      refine v200 ⟨fun h => ?_, fun _ => ⟨by decide, ?_⟩⟩
      · rw [iN_lt (by omega) (by omega)] at h; omega
      · have e2 : iN q / 27 = iN (q / 27) := iN_div hq (by decide)
        have e3 : iN (m + (d + 1)) + -1 = iN (m + d) := by
          rw [show m + (d + 1) = m + d + 1 by omega, ← iN_one (m + d)]
          grind
        rw [e2, e3]
        refine ih (q / 27) (by omega) (by omega) ?_
        rw [Nat.div_div_eq_div_mul, Nat.mul_comm, ← Nat.pow_succ]
        exact hK
  refine w200 ⟨hw, ?_⟩
  by_cases h1 : m + 1 ≤ nsz w
  · have h := key (nsz w - 1 - m) w.toNatClampNeg l (by omega) hK
    rw [← e, show m + (nsz w - 1 - m) = nsz w - 1 by omega] at h
    rw [show (1 : Int32) = iN 1 from rfl, iN_sub (by omega) (by omega)]
    exact h
  · have hz : nsz w - 1 - m = 0 := by omega
    unfold lOf at hK
    rw [hz, Nat.pow_zero, Nat.div_one] at hK
    refine v200 ⟨fun _ => ⟨by decide, ?_⟩, fun h => ?_⟩
    · rw [e, show (27 : Int32) = iN 27 from rfl, iN_mod l (by decide)]
      exact hK
    · exfalso
      rw [Int32.lt_iff_toInt_lt, Int32.toInt_sub, iN_int (by omega), iN_int (by omega), show (1 : Int32).toInt = 1 from rfl, bmod_small (by omega) (by omega)] at h
      omega
noncomputable def f200 : gD := fun Lv σ => match Lv with
  | [some (.int w), some (.int x), none, none] => some (some (0 ≤ w ∧ (0 ≤ x ∧ x < 20)), some (.int (iN (lOf w x.toNatClampNeg))), σ)
  | _ => none
theorem ok200 : gFok 200 f200 := by
  intro Lv σ q h hc K hK
  unfold f200 at h
  split at h
  · rename_i w x
    cases h
    exact s200 (hc _ rfl) hK
  · cases h
noncomputable def gpfL_l : List (Nat × gD) := (198, f198) :: (200, f200) :: gpfK_l
noncomputable def gpfL : gP := gpl0 gpfL_l
theorem gpfL_ok : gPok gpfL := gpl0_cons ok198 (gpl0_cons ok200 (gpfK_ok))
