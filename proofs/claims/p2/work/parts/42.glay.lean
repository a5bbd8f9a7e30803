/-! THE REFERENCE: settling, rows copied -/
theorem nfold_inv {α : Type} {f : Nat → α → α} {P : α → Prop} {s : α} (h0 : P s) : ∀ {n : Nat}, (∀ k s, k < n → P s → P (f k s)) → P (nfold f n s)
  | 0, _ => h0
  | n + 1, h => h n _ (by omega) (nfold_inv h0 (fun k s hk => h k s (by omega)))
def bsO (R : gW) (x : Int32) : Prop := x = -2 ∨ ∃ a b, a < nM R ∧ b < nM R ∧ x = 100 * iN a + iN b
theorem fBest_of (R : gW) : bsO R (fBest R) := by
  have h := nfold_inv (f := bsR R) (P := fun s : Int32 × Int32 => bsO R s.1) (s := (-2, 0)) (Or.inl rfl) (n := nM R) (fun a s ha hs => by
    refine nfold_inv (f := bsS R a) (P := fun s : Int32 × Int32 => bsO R s.1) hs (fun b s hb hs => ?_)
    unfold bsS
    split
    · exact hs
    · split
      · exact hs
      · exact Or.inr ⟨a, b, ha, hb, rfl⟩)
  exact h
theorem dm100 : ∀ a, a < 20 → ∀ b, b < 20 → (100 * iN a + iN b) / 100 = iN a ∧ (100 * iN a + iN b) - (100 * iN a + iN b) / 100 * 100 = iN b ∧ ¬ (100 * iN a + iN b) < 0 := by decide +kernel
def fNx (R : gW) : gW := rsw R (fBest R / 100).toNatClampNeg (fBest R - fBest R / 100 * 100).toNatClampNeg
theorem fNx_3 (R : gW) : fNx R 3 = R 3 := rsw_3 _ _ _
def fSt : Nat → gW → Nat × gW
  | 0, R => (0, R)
  | d + 1, R => if fBest R < 0 then (0, R) else ((fSt d (fNx R)).1 + 1, (fSt d (fNx R)).2)
theorem fSt_lt {d : Nat} {R : gW} (h : fBest R < 0) : fSt (d + 1) R = (0, R) := if_pos h
theorem fSt_ge {d : Nat} {R : gW} (h : ¬ fBest R < 0) : fSt (d + 1) R = ((fSt d (fNx R)).1 + 1, (fSt d (fNx R)).2) := if_neg h
set_option maxRecDepth 20000 in
theorem w183_326 {σ : gS} {K : gK} (h : (0 ≤ σ 326 3 ∧ σ 326 3 ≤ 20) ∧ gE 183 7 [some (.ref 326), some (.int 0), some (.int (fBest (σ 326)))] [] σ K) : gE 183 0 [some (.ref 326), none, none] [] σ K :=
  gw_run (cy := 183) (cuts := [7]) (inl := []) (pf := gpfI) gpfI_ok 400 (by decide) h
set_option maxRecDepth 20000 in
theorem v183_326 {σ : gS} {K : gK} {n best : Int32} (h : ((best < 0 → K (some (.int n)) σ) ∧ (¬ best < 0 → ((¬ n < 99 → K (some (.int n)) σ) ∧ (n < 99 → (100 : Int32) ≠ 0 ∧ (100 : Int32) ≠ 0 ∧ (((0 ≤ (best / 100) ∧ (best / 100) < 20) ∧ (0 ≤ (best - best / 100 * 100) ∧ (best - best / 100 * 100) < 20))) ∧ (0 ≤ (grow σ 326 (rsw (σ 326) (best / 100).toNatClampNeg (best - best / 100 * 100).toNatClampNeg)) 326 3 ∧ (grow σ 326 (rsw (σ 326) (best / 100).toNatClampNeg (best - best / 100 * 100).toNatClampNeg)) 326 3 ≤ 20) ∧ gE 183 7 [some (.ref 326), some (.int (n + 1)), some (.int (fBest ((grow σ 326 (rsw (σ 326) (best / 100).toNatClampNeg (best - best / 100 * 100).toNatClampNeg)) 326)))] [] (grow σ 326 (rsw (σ 326) (best / 100).toNatClampNeg (best - best / 100 * 100).toNatClampNeg)) K))))) : gE 183 7 [some (.ref 326), some (.int n), some (.int best)] [] σ K :=
  gw_run (cy := 183) (cuts := [7]) (inl := []) (pf := gpfI) gpfI_ok 400 (by decide) h
theorem s183_326 {σ : gS} {K : gK} (hc : 0 ≤ σ 326 3 ∧ σ 326 3 ≤ 20) (hK : K (some (.int (iN (fSt 99 (σ 326)).1))) (grow σ 326 (fSt 99 (σ 326)).2)) : gE 183 0 [some (.ref 326), none, none] [] σ K := by
  have key : ∀ (d : Nat) (R : gW), d ≤ 99 → (0 ≤ R 3 ∧ R 3 ≤ 20) → K (some (.int (iN (99 - d + (fSt d R).1)))) (grow σ 326 (fSt d R).2) → gE 183 7 [some (.ref 326), some (.int (iN (99 - d))), some (.int (fBest R))] [] (grow σ 326 R) K := by
    intro d
    induction d with
    | zero =>
      intro R _ _ hK
      refine v183_326 ⟨fun _ => hK, fun _ => ⟨fun _ => hK, fun h => ?_⟩⟩
      exact absurd h (by decide)
    | succ d ih =>
      intro R hd hR hK
      by_cases hb : fBest R < 0
      · rw [fSt_lt hb] at hK
        exact v183_326 ⟨fun _ => hK, fun h => absurd hb h⟩
      · rw [fSt_ge hb] at hK
        obtain ⟨a, b, ha, hb2, e⟩ : ∃ a b, a < nM R ∧ b < nM R ∧ fBest R = 100 * iN a + iN b := by
          rcases fBest_of R with h | h
          · rw [h] at hb; exact absurd (by decide) hb
          · exact h
        have hn := (nM_of hR).2
        obtain ⟨d1, d2, -⟩ := dm100 a (by omega) b (by omega)
        have e2 : fNx R = rsw R a b := by
          unfold fNx
          rw [e, d2, d1, iN_nat (by omega), iN_nat (by omega)]
        have ih := ih (fNx R) (by omega) (by rw [fNx_3]; exact hR) (by rw [show 99 - d + (fSt d (fNx R)).1 = 99 - (d + 1) + ((fSt d (fNx R)).1 + 1) by omega]; exact hK)
        refine v183_326 ⟨fun h => absurd h hb, fun _ => ⟨fun h => absurd ((iN_lt (m := 99) (by omega) (by omega)).mpr (by omega)) h, fun _ => ⟨by decide, by decide, ?_⟩⟩⟩
        rw [e, d2, d1, iN_nat (by omega), iN_nat (by omega)]
        refine ⟨⟨b20 (by omega), b20 (by omega)⟩, ?_⟩
        simp only [grow_grow, grow_at]
        refine ⟨by rw [rsw_3]; exact hR, ?_⟩
        rw [iN_one, show 99 - (d + 1) + 1 = 99 - d by omega, ← e2]
        exact ih
  refine w183_326 ⟨hc, ?_⟩
  have h := key 99 (σ 326) (by omega) hc
  rw [grow_id, show 99 - 99 + (fSt 99 (σ 326)).1 = (fSt 99 (σ 326)).1 by omega] at h
  exact h hK
noncomputable def f183 : gD := fun Lv σ => match Lv with
  | [some (.ref p), none, none] => cond (Nat.beq p 326) (some (some (0 ≤ σ p 3 ∧ σ p 3 ≤ 20), some (.int (iN (fSt 99 (σ p)).1)), grow σ p (fSt 99 (σ p)).2)) none
  | _ => none
theorem ok183 : gFok 183 f183 := by
  intro Lv σ q h hc K hK
  unfold f183 at h
  split at h
  · rename_i p
    obtain ⟨hb, h⟩ := c_no h
    have hb0 := hb
    have e := b_eq hb0
    subst e
    cases h
    exact s183_326 (hc _ rfl) hK
  · cases h
/-- 330 numbers of S from a on, laid into T from b on: the first k of them -/
def rla (S T : gW) (a b k : Nat) : gW := fun j => if b ≤ j ∧ j < b + k then S (a + (j - b)) else T j
theorem rla_0 (S T : gW) (a b : Nat) : rla S T a b 0 = T := by funext j; unfold rla; rw [if_neg (by omega)]
theorem rla_s (S T : gW) (a b k : Nat) : rup (rla S T a b k) (b + k) (S (a + k)) = rla S T a b (k + 1) := by
  funext j
  unfold rup rla
  by_cases h : j = b + k
  · rw [if_pos h, if_pos (by omega), h, show a + (b + k - b) = a + k by omega]
  · rw [if_neg h]
    by_cases h2 : b ≤ j ∧ j < b + k
    · rw [if_pos h2, if_pos (by omega)]
    · rw [if_neg h2, if_neg (by omega)]
theorem ix_ab {a : Int32} {k n : Nat} (ha : 0 ≤ a ∧ a ≤ iN (n * 330)) (hk : k < 330) (hn : n < 9) : (a + iN k).toNatClampNeg = a.toNatClampNeg + k ∧ 0 ≤ a + iN k ∧ a + iN k < iN (n * 330 + 330) := by
  obtain ⟨e, l⟩ := iN_of ha.1
  have l2 : a.toNatClampNeg ≤ n * 330 := by
    have h := ha.2
    rw [e, iN_le l (by omega)] at h
    exact h
  rw [e, iN_nat l, iN_add, iN_nat (by omega)]
  exact ⟨rfl, (iN_le (k := 0) (by decide) (by omega)).mpr (by omega), (iN_lt (by omega) (by omega)).mpr (by omega)⟩
set_option maxRecDepth 20000 in
theorem w153_324_326 {σ : gS} {K : gK} {a b : Int32} (h : gE 153 3 [some (.ref 324), some (.int a), some (.ref 326), some (.int b), some (.int 0)] [] σ K) : gE 153 0 [some (.ref 324), some (.int a), some (.ref 326), some (.int b), none] [] σ K :=
  gw_run (cy := 153) (cuts := [3]) (inl := []) (pf := gpfI) gpfI_ok 400 (by decide) h
set_option maxRecDepth 20000 in
theorem v153_324_326 {σ : gS} {K : gK} {a b k : Int32} (h : ((¬ k < 330 → K none σ) ∧ (k < 330 → (0 ≤ (a + k) ∧ (a + k) < 330) ∧ (0 ≤ (b + k) ∧ (b + k) < 330) ∧ gE 153 3 [some (.ref 324), some (.int a), some (.ref 326), some (.int b), some (.int (k + 1))] [] (gup σ 326 (b + k).toNatClampNeg (σ 324 (a + k).toNatClampNeg)) K))) : gE 153 3 [some (.ref 324), some (.int a), some (.ref 326), some (.int b), some (.int k)] [] σ K :=
  gw_run (cy := 153) (cuts := [3]) (inl := []) (pf := gpfI) gpfI_ok 400 (by decide) h
theorem s153_324_326 {σ : gS} {K : gK} {a b : Int32} (hc : (0 ≤ a ∧ a ≤ iN (gln 324 - 330)) ∧ (0 ≤ b ∧ b ≤ iN (gln 326 - 330)) ∧ (324 = 326 → b.toNatClampNeg + 330 ≤ a.toNatClampNeg)) (hK : K none (grow σ 326 (rla (σ 324) (σ 326) a.toNatClampNeg b.toNatClampNeg 330))) : gE 153 0 [some (.ref 324), some (.int a), some (.ref 326), some (.int b), none] [] σ K := by
  obtain ⟨ha, hb, hne⟩ := hc
  have ha : 0 ≤ a ∧ a ≤ iN (0 * 330) := ha
  have hb : 0 ≤ b ∧ b ≤ iN (0 * 330) := hb
  refine w153_324_326 ?_
  have h0 : σ = grow σ 326 (rla (σ 324) (σ 326) a.toNatClampNeg b.toNatClampNeg 0) := by rw [rla_0, grow_id]
  have main := g_forI (y := 153) (pc := 3) (K := K) 330 (fun k => [some (.ref 324), some (.int a), some (.ref 326), some (.int b), some (.int (iN k))]) (fun k => grow σ 326 (rla (σ 324) (σ 326) a.toNatClampNeg b.toNatClampNeg k)) (fun _ => True) (fun _ => v153_324_326 ⟨fun _ => hK, fun h => absurd h (by decide)⟩) (fun k hk _ ih => by
    obtain ⟨ea, a1, a2⟩ := ix_ab ha hk (by decide)
    obtain ⟨eb, b1, b2⟩ := ix_ab hb hk (by decide)
    refine v153_324_326 ⟨fun h => absurd ((iN_lt (m := 330) (by omega) (by omega)).mpr hk) h, fun _ => ⟨⟨a1, a2⟩, ⟨b1, b2⟩, ?_⟩⟩
    have ih := ih trivial
    rw [ea, eb, iN_one, gup_grow, grow_grow, grow_at]
    have hr : grow σ 326 (rla (σ 324) (σ 326) a.toNatClampNeg b.toNatClampNeg k) 324 (a.toNatClampNeg + k) = σ 324 (a.toNatClampNeg + k) := by
      rw [grow_ne (by decide)]
    rw [hr, rla_s]
    exact ih) 0 (Nat.zero_le _) trivial
  rw [← h0] at main
  exact main
set_option maxRecDepth 20000 in
theorem w153_325_324 {σ : gS} {K : gK} {a b : Int32} (h : gE 153 3 [some (.ref 325), some (.int a), some (.ref 324), some (.int b), some (.int 0)] [] σ K) : gE 153 0 [some (.ref 325), some (.int a), some (.ref 324), some (.int b), none] [] σ K :=
  gw_run (cy := 153) (cuts := [3]) (inl := []) (pf := gpfI) gpfI_ok 400 (by decide) h
set_option maxRecDepth 20000 in
theorem v153_325_324 {σ : gS} {K : gK} {a b k : Int32} (h : ((¬ k < 330 → K none σ) ∧ (k < 330 → (0 ≤ (a + k) ∧ (a + k) < 330) ∧ (0 ≤ (b + k) ∧ (b + k) < 330) ∧ gE 153 3 [some (.ref 325), some (.int a), some (.ref 324), some (.int b), some (.int (k + 1))] [] (gup σ 324 (b + k).toNatClampNeg (σ 325 (a + k).toNatClampNeg)) K))) : gE 153 3 [some (.ref 325), some (.int a), some (.ref 324), some (.int b), some (.int k)] [] σ K :=
  gw_run (cy := 153) (cuts := [3]) (inl := []) (pf := gpfI) gpfI_ok 400 (by decide) h
theorem s153_325_324 {σ : gS} {K : gK} {a b : Int32} (hc : (0 ≤ a ∧ a ≤ iN (gln 325 - 330)) ∧ (0 ≤ b ∧ b ≤ iN (gln 324 - 330)) ∧ (325 = 324 → b.toNatClampNeg + 330 ≤ a.toNatClampNeg)) (hK : K none (grow σ 324 (rla (σ 325) (σ 324) a.toNatClampNeg b.toNatClampNeg 330))) : gE 153 0 [some (.ref 325), some (.int a), some (.ref 324), some (.int b), none] [] σ K := by
  obtain ⟨ha, hb, hne⟩ := hc
  have ha : 0 ≤ a ∧ a ≤ iN (0 * 330) := ha
  have hb : 0 ≤ b ∧ b ≤ iN (0 * 330) := hb
  refine w153_325_324 ?_
  have h0 : σ = grow σ 324 (rla (σ 325) (σ 324) a.toNatClampNeg b.toNatClampNeg 0) := by rw [rla_0, grow_id]
  have main := g_forI (y := 153) (pc := 3) (K := K) 330 (fun k => [some (.ref 325), some (.int a), some (.ref 324), some (.int b), some (.int (iN k))]) (fun k => grow σ 324 (rla (σ 325) (σ 324) a.toNatClampNeg b.toNatClampNeg k)) (fun _ => True) (fun _ => v153_325_324 ⟨fun _ => hK, fun h => absurd h (by decide)⟩) (fun k hk _ ih => by
    obtain ⟨ea, a1, a2⟩ := ix_ab ha hk (by decide)
    obtain ⟨eb, b1, b2⟩ := ix_ab hb hk (by decide)
    refine v153_325_324 ⟨fun h => absurd ((iN_lt (m := 330) (by omega) (by omega)).mpr hk) h, fun _ => ⟨⟨a1, a2⟩, ⟨b1, b2⟩, ?_⟩⟩
    have ih := ih trivial
    rw [ea, eb, iN_one, gup_grow, grow_grow, grow_at]
    have hr : grow σ 324 (rla (σ 325) (σ 324) a.toNatClampNeg b.toNatClampNeg k) 325 (a.toNatClampNeg + k) = σ 325 (a.toNatClampNeg + k) := by
      rw [grow_ne (by decide)]
    rw [hr, rla_s]
    exact ih) 0 (Nat.zero_le _) trivial
  rw [← h0] at main
  exact main
set_option maxRecDepth 20000 in
theorem w153_326_324 {σ : gS} {K : gK} {a b : Int32} (h : gE 153 3 [some (.ref 326), some (.int a), some (.ref 324), some (.int b), some (.int 0)] [] σ K) : gE 153 0 [some (.ref 326), some (.int a), some (.ref 324), some (.int b), none] [] σ K :=
  gw_run (cy := 153) (cuts := [3]) (inl := []) (pf := gpfI) gpfI_ok 400 (by decide) h
set_option maxRecDepth 20000 in
theorem v153_326_324 {σ : gS} {K : gK} {a b k : Int32} (h : ((¬ k < 330 → K none σ) ∧ (k < 330 → (0 ≤ (a + k) ∧ (a + k) < 330) ∧ (0 ≤ (b + k) ∧ (b + k) < 330) ∧ gE 153 3 [some (.ref 326), some (.int a), some (.ref 324), some (.int b), some (.int (k + 1))] [] (gup σ 324 (b + k).toNatClampNeg (σ 326 (a + k).toNatClampNeg)) K))) : gE 153 3 [some (.ref 326), some (.int a), some (.ref 324), some (.int b), some (.int k)] [] σ K :=
  gw_run (cy := 153) (cuts := [3]) (inl := []) (pf := gpfI) gpfI_ok 400 (by decide) h
theorem s153_326_324 {σ : gS} {K : gK} {a b : Int32} (hc : (0 ≤ a ∧ a ≤ iN (gln 326 - 330)) ∧ (0 ≤ b ∧ b ≤ iN (gln 324 - 330)) ∧ (326 = 324 → b.toNatClampNeg + 330 ≤ a.toNatClampNeg)) (hK : K none (grow σ 324 (rla (σ 326) (σ 324) a.toNatClampNeg b.toNatClampNeg 330))) : gE 153 0 [some (.ref 326), some (.int a), some (.ref 324), some (.int b), none] [] σ K := by
  obtain ⟨ha, hb, hne⟩ := hc
  have ha : 0 ≤ a ∧ a ≤ iN (0 * 330) := ha
  have hb : 0 ≤ b ∧ b ≤ iN (0 * 330) := hb
  refine w153_326_324 ?_
  have h0 : σ = grow σ 324 (rla (σ 326) (σ 324) a.toNatClampNeg b.toNatClampNeg 0) := by rw [rla_0, grow_id]
  have main := g_forI (y := 153) (pc := 3) (K := K) 330 (fun k => [some (.ref 326), some (.int a), some (.ref 324), some (.int b), some (.int (iN k))]) (fun k => grow σ 324 (rla (σ 326) (σ 324) a.toNatClampNeg b.toNatClampNeg k)) (fun _ => True) (fun _ => v153_326_324 ⟨fun _ => hK, fun h => absurd h (by decide)⟩) (fun k hk _ ih => by
    obtain ⟨ea, a1, a2⟩ := ix_ab ha hk (by decide)
    obtain ⟨eb, b1, b2⟩ := ix_ab hb hk (by decide)
    refine v153_326_324 ⟨fun h => absurd ((iN_lt (m := 330) (by omega) (by omega)).mpr hk) h, fun _ => ⟨⟨a1, a2⟩, ⟨b1, b2⟩, ?_⟩⟩
    have ih := ih trivial
    rw [ea, eb, iN_one, gup_grow, grow_grow, grow_at]
    have hr : grow σ 324 (rla (σ 326) (σ 324) a.toNatClampNeg b.toNatClampNeg k) 326 (a.toNatClampNeg + k) = σ 326 (a.toNatClampNeg + k) := by
      rw [grow_ne (by decide)]
    rw [hr, rla_s]
    exact ih) 0 (Nat.zero_le _) trivial
  rw [← h0] at main
  exact main
set_option maxRecDepth 20000 in
theorem w153_324_327 {σ : gS} {K : gK} {a b : Int32} (h : gE 153 3 [some (.ref 324), some (.int a), some (.ref 327), some (.int b), some (.int 0)] [] σ K) : gE 153 0 [some (.ref 324), some (.int a), some (.ref 327), some (.int b), none] [] σ K :=
  gw_run (cy := 153) (cuts := [3]) (inl := []) (pf := gpfI) gpfI_ok 400 (by decide) h
set_option maxRecDepth 20000 in
theorem v153_324_327 {σ : gS} {K : gK} {a b k : Int32} (h : ((¬ k < 330 → K none σ) ∧ (k < 330 → (0 ≤ (a + k) ∧ (a + k) < 330) ∧ (0 ≤ (b + k) ∧ (b + k) < 2640) ∧ gE 153 3 [some (.ref 324), some (.int a), some (.ref 327), some (.int b), some (.int (k + 1))] [] (gup σ 327 (b + k).toNatClampNeg (σ 324 (a + k).toNatClampNeg)) K))) : gE 153 3 [some (.ref 324), some (.int a), some (.ref 327), some (.int b), some (.int k)] [] σ K :=
  gw_run (cy := 153) (cuts := [3]) (inl := []) (pf := gpfI) gpfI_ok 400 (by decide) h
theorem s153_324_327 {σ : gS} {K : gK} {a b : Int32} (hc : (0 ≤ a ∧ a ≤ iN (gln 324 - 330)) ∧ (0 ≤ b ∧ b ≤ iN (gln 327 - 330)) ∧ (324 = 327 → b.toNatClampNeg + 330 ≤ a.toNatClampNeg)) (hK : K none (grow σ 327 (rla (σ 324) (σ 327) a.toNatClampNeg b.toNatClampNeg 330))) : gE 153 0 [some (.ref 324), some (.int a), some (.ref 327), some (.int b), none] [] σ K := by
  obtain ⟨ha, hb, hne⟩ := hc
  have ha : 0 ≤ a ∧ a ≤ iN (0 * 330) := ha
  have hb : 0 ≤ b ∧ b ≤ iN (7 * 330) := hb
  refine w153_324_327 ?_
  have h0 : σ = grow σ 327 (rla (σ 324) (σ 327) a.toNatClampNeg b.toNatClampNeg 0) := by rw [rla_0, grow_id]
  have main := g_forI (y := 153) (pc := 3) (K := K) 330 (fun k => [some (.ref 324), some (.int a), some (.ref 327), some (.int b), some (.int (iN k))]) (fun k => grow σ 327 (rla (σ 324) (σ 327) a.toNatClampNeg b.toNatClampNeg k)) (fun _ => True) (fun _ => v153_324_327 ⟨fun _ => hK, fun h => absurd h (by decide)⟩) (fun k hk _ ih => by
    obtain ⟨ea, a1, a2⟩ := ix_ab ha hk (by decide)
    obtain ⟨eb, b1, b2⟩ := ix_ab hb hk (by decide)
    refine v153_324_327 ⟨fun h => absurd ((iN_lt (m := 330) (by omega) (by omega)).mpr hk) h, fun _ => ⟨⟨a1, a2⟩, ⟨b1, b2⟩, ?_⟩⟩
    have ih := ih trivial
    rw [ea, eb, iN_one, gup_grow, grow_grow, grow_at]
    have hr : grow σ 327 (rla (σ 324) (σ 327) a.toNatClampNeg b.toNatClampNeg k) 324 (a.toNatClampNeg + k) = σ 324 (a.toNatClampNeg + k) := by
      rw [grow_ne (by decide)]
    rw [hr, rla_s]
    exact ih) 0 (Nat.zero_le _) trivial
  rw [← h0] at main
  exact main
set_option maxRecDepth 20000 in
theorem w153_327_324 {σ : gS} {K : gK} {a b : Int32} (h : gE 153 3 [some (.ref 327), some (.int a), some (.ref 324), some (.int b), some (.int 0)] [] σ K) : gE 153 0 [some (.ref 327), some (.int a), some (.ref 324), some (.int b), none] [] σ K :=
  gw_run (cy := 153) (cuts := [3]) (inl := []) (pf := gpfI) gpfI_ok 400 (by decide) h
set_option maxRecDepth 20000 in
theorem v153_327_324 {σ : gS} {K : gK} {a b k : Int32} (h : ((¬ k < 330 → K none σ) ∧ (k < 330 → (0 ≤ (a + k) ∧ (a + k) < 2640) ∧ (0 ≤ (b + k) ∧ (b + k) < 330) ∧ gE 153 3 [some (.ref 327), some (.int a), some (.ref 324), some (.int b), some (.int (k + 1))] [] (gup σ 324 (b + k).toNatClampNeg (σ 327 (a + k).toNatClampNeg)) K))) : gE 153 3 [some (.ref 327), some (.int a), some (.ref 324), some (.int b), some (.int k)] [] σ K :=
  gw_run (cy := 153) (cuts := [3]) (inl := []) (pf := gpfI) gpfI_ok 400 (by decide) h
theorem s153_327_324 {σ : gS} {K : gK} {a b : Int32} (hc : (0 ≤ a ∧ a ≤ iN (gln 327 - 330)) ∧ (0 ≤ b ∧ b ≤ iN (gln 324 - 330)) ∧ (327 = 324 → b.toNatClampNeg + 330 ≤ a.toNatClampNeg)) (hK : K none (grow σ 324 (rla (σ 327) (σ 324) a.toNatClampNeg b.toNatClampNeg 330))) : gE 153 0 [some (.ref 327), some (.int a), some (.ref 324), some (.int b), none] [] σ K := by
  obtain ⟨ha, hb, hne⟩ := hc
  have ha : 0 ≤ a ∧ a ≤ iN (7 * 330) := ha
  have hb : 0 ≤ b ∧ b ≤ iN (0 * 330) := hb
  refine w153_327_324 ?_
  have h0 : σ = grow σ 324 (rla (σ 327) (σ 324) a.toNatClampNeg b.toNatClampNeg 0) := by rw [rla_0, grow_id]
  have main := g_forI (y := 153) (pc := 3) (K := K) 330 (fun k => [some (.ref 327), some (.int a), some (.ref 324), some (.int b), some (.int (iN k))]) (fun k => grow σ 324 (rla (σ 327) (σ 324) a.toNatClampNeg b.toNatClampNeg k)) (fun _ => True) (fun _ => v153_327_324 ⟨fun _ => hK, fun h => absurd h (by decide)⟩) (fun k hk _ ih => by
    obtain ⟨ea, a1, a2⟩ := ix_ab ha hk (by decide)
    obtain ⟨eb, b1, b2⟩ := ix_ab hb hk (by decide)
    refine v153_327_324 ⟨fun h => absurd ((iN_lt (m := 330) (by omega) (by omega)).mpr hk) h, fun _ => ⟨⟨a1, a2⟩, ⟨b1, b2⟩, ?_⟩⟩
    have ih := ih trivial
    rw [ea, eb, iN_one, gup_grow, grow_grow, grow_at]
    have hr : grow σ 324 (rla (σ 327) (σ 324) a.toNatClampNeg b.toNatClampNeg k) 327 (a.toNatClampNeg + k) = σ 327 (a.toNatClampNeg + k) := by
      rw [grow_ne (by decide)]
    rw [hr, rla_s]
    exact ih) 0 (Nat.zero_le _) trivial
  rw [← h0] at main
  exact main
set_option maxRecDepth 20000 in
theorem w153_327_327 {σ : gS} {K : gK} {a b : Int32} (h : gE 153 3 [some (.ref 327), some (.int a), some (.ref 327), some (.int b), some (.int 0)] [] σ K) : gE 153 0 [some (.ref 327), some (.int a), some (.ref 327), some (.int b), none] [] σ K :=
  gw_run (cy := 153) (cuts := [3]) (inl := []) (pf := gpfI) gpfI_ok 400 (by decide) h
set_option maxRecDepth 20000 in
theorem v153_327_327 {σ : gS} {K : gK} {a b k : Int32} (h : ((¬ k < 330 → K none σ) ∧ (k < 330 → (0 ≤ (a + k) ∧ (a + k) < 2640) ∧ (0 ≤ (b + k) ∧ (b + k) < 2640) ∧ gE 153 3 [some (.ref 327), some (.int a), some (.ref 327), some (.int b), some (.int (k + 1))] [] (gup σ 327 (b + k).toNatClampNeg (σ 327 (a + k).toNatClampNeg)) K))) : gE 153 3 [some (.ref 327), some (.int a), some (.ref 327), some (.int b), some (.int k)] [] σ K :=
  gw_run (cy := 153) (cuts := [3]) (inl := []) (pf := gpfI) gpfI_ok 400 (by decide) h
theorem s153_327_327 {σ : gS} {K : gK} {a b : Int32} (hc : (0 ≤ a ∧ a ≤ iN (gln 327 - 330)) ∧ (0 ≤ b ∧ b ≤ iN (gln 327 - 330)) ∧ (327 = 327 → b.toNatClampNeg + 330 ≤ a.toNatClampNeg)) (hK : K none (grow σ 327 (rla (σ 327) (σ 327) a.toNatClampNeg b.toNatClampNeg 330))) : gE 153 0 [some (.ref 327), some (.int a), some (.ref 327), some (.int b), none] [] σ K := by
  obtain ⟨ha, hb, hne⟩ := hc
  have ha : 0 ≤ a ∧ a ≤ iN (7 * 330) := ha
  have hb : 0 ≤ b ∧ b ≤ iN (7 * 330) := hb
  refine w153_327_327 ?_
  have h0 : σ = grow σ 327 (rla (σ 327) (σ 327) a.toNatClampNeg b.toNatClampNeg 0) := by rw [rla_0, grow_id]
  have main := g_forI (y := 153) (pc := 3) (K := K) 330 (fun k => [some (.ref 327), some (.int a), some (.ref 327), some (.int b), some (.int (iN k))]) (fun k => grow σ 327 (rla (σ 327) (σ 327) a.toNatClampNeg b.toNatClampNeg k)) (fun _ => True) (fun _ => v153_327_327 ⟨fun _ => hK, fun h => absurd h (by decide)⟩) (fun k hk _ ih => by
    obtain ⟨ea, a1, a2⟩ := ix_ab ha hk (by decide)
    obtain ⟨eb, b1, b2⟩ := ix_ab hb hk (by decide)
    refine v153_327_327 ⟨fun h => absurd ((iN_lt (m := 330) (by omega) (by omega)).mpr hk) h, fun _ => ⟨⟨a1, a2⟩, ⟨b1, b2⟩, ?_⟩⟩
    have ih := ih trivial
    rw [ea, eb, iN_one, gup_grow, grow_grow, grow_at]
    have hr : rla (σ 327) (σ 327) a.toNatClampNeg b.toNatClampNeg k (a.toNatClampNeg + k) = σ 327 (a.toNatClampNeg + k) := by
      unfold rla; have h9 := hne rfl; rw [if_neg (by omega)]
    rw [hr, rla_s]
    exact ih) 0 (Nat.zero_le _) trivial
  rw [← h0] at main
  exact main
set_option maxRecDepth 20000 in
theorem w153_324_328 {σ : gS} {K : gK} {a b : Int32} (h : gE 153 3 [some (.ref 324), some (.int a), some (.ref 328), some (.int b), some (.int 0)] [] σ K) : gE 153 0 [some (.ref 324), some (.int a), some (.ref 328), some (.int b), none] [] σ K :=
  gw_run (cy := 153) (cuts := [3]) (inl := []) (pf := gpfI) gpfI_ok 400 (by decide) h
set_option maxRecDepth 20000 in
theorem v153_324_328 {σ : gS} {K : gK} {a b k : Int32} (h : ((¬ k < 330 → K none σ) ∧ (k < 330 → (0 ≤ (a + k) ∧ (a + k) < 330) ∧ (0 ≤ (b + k) ∧ (b + k) < 660) ∧ gE 153 3 [some (.ref 324), some (.int a), some (.ref 328), some (.int b), some (.int (k + 1))] [] (gup σ 328 (b + k).toNatClampNeg (σ 324 (a + k).toNatClampNeg)) K))) : gE 153 3 [some (.ref 324), some (.int a), some (.ref 328), some (.int b), some (.int k)] [] σ K :=
  gw_run (cy := 153) (cuts := [3]) (inl := []) (pf := gpfI) gpfI_ok 400 (by decide) h
theorem s153_324_328 {σ : gS} {K : gK} {a b : Int32} (hc : (0 ≤ a ∧ a ≤ iN (gln 324 - 330)) ∧ (0 ≤ b ∧ b ≤ iN (gln 328 - 330)) ∧ (324 = 328 → b.toNatClampNeg + 330 ≤ a.toNatClampNeg)) (hK : K none (grow σ 328 (rla (σ 324) (σ 328) a.toNatClampNeg b.toNatClampNeg 330))) : gE 153 0 [some (.ref 324), some (.int a), some (.ref 328), some (.int b), none] [] σ K := by
  obtain ⟨ha, hb, hne⟩ := hc
  have ha : 0 ≤ a ∧ a ≤ iN (0 * 330) := ha
  have hb : 0 ≤ b ∧ b ≤ iN (1 * 330) := hb
  refine w153_324_328 ?_
  have h0 : σ = grow σ 328 (rla (σ 324) (σ 328) a.toNatClampNeg b.toNatClampNeg 0) := by rw [rla_0, grow_id]
  have main := g_forI (y := 153) (pc := 3) (K := K) 330 (fun k => [some (.ref 324), some (.int a), some (.ref 328), some (.int b), some (.int (iN k))]) (fun k => grow σ 328 (rla (σ 324) (σ 328) a.toNatClampNeg b.toNatClampNeg k)) (fun _ => True) (fun _ => v153_324_328 ⟨fun _ => hK, fun h => absurd h (by decide)⟩) (fun k hk _ ih => by
    obtain ⟨ea, a1, a2⟩ := ix_ab ha hk (by decide)
    obtain ⟨eb, b1, b2⟩ := ix_ab hb hk (by decide)
    refine v153_324_328 ⟨fun h => absurd ((iN_lt (m := 330) (by omega) (by omega)).mpr hk) h, fun _ => ⟨⟨a1, a2⟩, ⟨b1, b2⟩, ?_⟩⟩
    have ih := ih trivial
    rw [ea, eb, iN_one, gup_grow, grow_grow, grow_at]
    have hr : grow σ 328 (rla (σ 324) (σ 328) a.toNatClampNeg b.toNatClampNeg k) 324 (a.toNatClampNeg + k) = σ 324 (a.toNatClampNeg + k) := by
      rw [grow_ne (by decide)]
    rw [hr, rla_s]
    exact ih) 0 (Nat.zero_le _) trivial
  rw [← h0] at main
  exact main
set_option maxRecDepth 20000 in
theorem w153_328_324 {σ : gS} {K : gK} {a b : Int32} (h : gE 153 3 [some (.ref 328), some (.int a), some (.ref 324), some (.int b), some (.int 0)] [] σ K) : gE 153 0 [some (.ref 328), some (.int a), some (.ref 324), some (.int b), none] [] σ K :=
  gw_run (cy := 153) (cuts := [3]) (inl := []) (pf := gpfI) gpfI_ok 400 (by decide) h
set_option maxRecDepth 20000 in
theorem v153_328_324 {σ : gS} {K : gK} {a b k : Int32} (h : ((¬ k < 330 → K none σ) ∧ (k < 330 → (0 ≤ (a + k) ∧ (a + k) < 660) ∧ (0 ≤ (b + k) ∧ (b + k) < 330) ∧ gE 153 3 [some (.ref 328), some (.int a), some (.ref 324), some (.int b), some (.int (k + 1))] [] (gup σ 324 (b + k).toNatClampNeg (σ 328 (a + k).toNatClampNeg)) K))) : gE 153 3 [some (.ref 328), some (.int a), some (.ref 324), some (.int b), some (.int k)] [] σ K :=
  gw_run (cy := 153) (cuts := [3]) (inl := []) (pf := gpfI) gpfI_ok 400 (by decide) h
theorem s153_328_324 {σ : gS} {K : gK} {a b : Int32} (hc : (0 ≤ a ∧ a ≤ iN (gln 328 - 330)) ∧ (0 ≤ b ∧ b ≤ iN (gln 324 - 330)) ∧ (328 = 324 → b.toNatClampNeg + 330 ≤ a.toNatClampNeg)) (hK : K none (grow σ 324 (rla (σ 328) (σ 324) a.toNatClampNeg b.toNatClampNeg 330))) : gE 153 0 [some (.ref 328), some (.int a), some (.ref 324), some (.int b), none] [] σ K := by
  obtain ⟨ha, hb, hne⟩ := hc
  have ha : 0 ≤ a ∧ a ≤ iN (1 * 330) := ha
  have hb : 0 ≤ b ∧ b ≤ iN (0 * 330) := hb
  refine w153_328_324 ?_
  have h0 : σ = grow σ 324 (rla (σ 328) (σ 324) a.toNatClampNeg b.toNatClampNeg 0) := by rw [rla_0, grow_id]
  have main := g_forI (y := 153) (pc := 3) (K := K) 330 (fun k => [some (.ref 328), some (.int a), some (.ref 324), some (.int b), some (.int (iN k))]) (fun k => grow σ 324 (rla (σ 328) (σ 324) a.toNatClampNeg b.toNatClampNeg k)) (fun _ => True) (fun _ => v153_328_324 ⟨fun _ => hK, fun h => absurd h (by decide)⟩) (fun k hk _ ih => by
    obtain ⟨ea, a1, a2⟩ := ix_ab ha hk (by decide)
    obtain ⟨eb, b1, b2⟩ := ix_ab hb hk (by decide)
    refine v153_328_324 ⟨fun h => absurd ((iN_lt (m := 330) (by omega) (by omega)).mpr hk) h, fun _ => ⟨⟨a1, a2⟩, ⟨b1, b2⟩, ?_⟩⟩
    have ih := ih trivial
    rw [ea, eb, iN_one, gup_grow, grow_grow, grow_at]
    have hr : grow σ 324 (rla (σ 328) (σ 324) a.toNatClampNeg b.toNatClampNeg k) 328 (a.toNatClampNeg + k) = σ 328 (a.toNatClampNeg + k) := by
      rw [grow_ne (by decide)]
    rw [hr, rla_s]
    exact ih) 0 (Nat.zero_le _) trivial
  rw [← h0] at main
  exact main
noncomputable def f153 : gD := fun Lv σ => match Lv with
  | [some (.ref p), some (.int a), some (.ref q), some (.int b), none] => cond ((Nat.beq p 324 && Nat.beq q 326) || (Nat.beq p 325 && Nat.beq q 324) || (Nat.beq p 326 && Nat.beq q 324) || (Nat.beq p 324 && Nat.beq q 327) || (Nat.beq p 327 && Nat.beq q 324) || (Nat.beq p 327 && Nat.beq q 327) || (Nat.beq p 324 && Nat.beq q 328) || (Nat.beq p 328 && Nat.beq q 324)) (some (some ((0 ≤ a ∧ a ≤ iN (gln p - 330)) ∧ (0 ≤ b ∧ b ≤ iN (gln q - 330)) ∧ (p = q → b.toNatClampNeg + 330 ≤ a.toNatClampNeg)), none, grow σ q (rla (σ p) (σ q) a.toNatClampNeg b.toNatClampNeg 330))) none
  | _ => none
theorem ok153 : gFok 153 f153 := by
  intro Lv σ q h hc K hK
  unfold f153 at h
  split at h
  · rename_i p a q b
    obtain ⟨hb, h⟩ := c_no h
    have hb0 := hb
    rcases s_or hb0 with hb0 | hb0
    · rcases s_or hb0 with hb0 | hb0
      · rcases s_or hb0 with hb0 | hb0
        · rcases s_or hb0 with hb0 | hb0
          · rcases s_or hb0 with hb0 | hb0
            · rcases s_or hb0 with hb0 | hb0
              · rcases s_or hb0 with hb0 | hb0
                · obtain ⟨e1, e2⟩ := s_and hb0
                  have e1 := b_eq e1
                  have e2 := b_eq e2
                  subst e1
                  subst e2
                  cases h
                  exact s153_324_326 (hc _ rfl) hK
                · obtain ⟨e1, e2⟩ := s_and hb0
                  have e1 := b_eq e1
                  have e2 := b_eq e2
                  subst e1
                  subst e2
                  cases h
                  exact s153_325_324 (hc _ rfl) hK
              · obtain ⟨e1, e2⟩ := s_and hb0
                have e1 := b_eq e1
                have e2 := b_eq e2
                subst e1
                subst e2
                cases h
                exact s153_326_324 (hc _ rfl) hK
            · obtain ⟨e1, e2⟩ := s_and hb0
              have e1 := b_eq e1
              have e2 := b_eq e2
              subst e1
              subst e2
              cases h
              exact s153_324_327 (hc _ rfl) hK
          · obtain ⟨e1, e2⟩ := s_and hb0
            have e1 := b_eq e1
            have e2 := b_eq e2
            subst e1
            subst e2
            cases h
            exact s153_327_324 (hc _ rfl) hK
        · obtain ⟨e1, e2⟩ := s_and hb0
          have e1 := b_eq e1
          have e2 := b_eq e2
          subst e1
          subst e2
          cases h
          exact s153_327_327 (hc _ rfl) hK
      · obtain ⟨e1, e2⟩ := s_and hb0
        have e1 := b_eq e1
        have e2 := b_eq e2
        subst e1
        subst e2
        cases h
        exact s153_324_328 (hc _ rfl) hK
    · obtain ⟨e1, e2⟩ := s_and hb0
      have e1 := b_eq e1
      have e2 := b_eq e2
      subst e1
      subst e2
      cases h
      exact s153_328_324 (hc _ rfl) hK
  · cases h
noncomputable def gpfJ_l : List (Nat × gD) := (183, f183) :: (153, f153) :: gpfI_l
noncomputable def gpfJ : gP := gpl0 gpfJ_l
theorem gpfJ_ok : gPok gpfJ := gpl0_cons ok183 (gpl0_cons ok153 (gpfI_ok))
