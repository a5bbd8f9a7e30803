/-! THE LAW'S PASSES: 190 to 417 -/
abbrev LW (zz B : Nat) (i : Int32) (r : List (Option Value)) : List (Option Value) := some (.ref 1000000) :: some (.ref zz) :: some (.ref B) :: some (.int 1) :: some (.int i) :: r
def i6 (i : Int32) : Prop := (0 ≤ i ∧ i.toNatClampNeg < 6) ∧ (0 ≤ i + 1 ∧ (i + 1).toNatClampNeg < 6)
section LPS
variable {B zz : Nat} {h0 : jv_H} {K : jK} {f : Nat → Int32} {i : Int32} {r5 r6 r7 r8 r9 r10 : Option Value} {c s : Nat}
theorem lp_193 (hz : jZ B h0 zz f) (hi : i6 i) {N b : Nat} (hN : N + 1 ≤ 9000) (hb : b ≤ 1000) (T : ∀ (n : Nat) (ρ : gS) (h : jv_H), n ≤ N → SQ (RWp b) ρ → ρ 323 8 = 0 → LX B n ρ [] c s h0 h → jE 271 235 (LW zz B i [some (.int 6), r6, r7, r8, r9, r10]) [] h K) :
    ∀ (d t n b0 : Nat) (ρ : gS) (h : jv_H), t + d = 6 → n + d ≤ N → b0 + 4 * d ≤ b → SQ (RWp b0) ρ → ρ 323 8 = 0 → LX B n ρ [] (c + 51 * (d + 1)) (s + 255 * (d + 1)) h0 h → jE 271 193 (LW zz B i [some (.int (iN t)), r6, r7, r8, r9, r10]) [] h K
  | 0, t, n, b0, ρ, h, ht, hn, hb0, hS, h8, hx => by
    have e : t = 6 := by omega
    subst e
    have hS2 : SQ (RWp b) ρ := SQ_mono hS (fun R q => ⟨RP_le q.1 (by omega), q.2⟩)
    exact lw_193 (c := c) (s := s) hz (b := b0) (by omega) (by omega) (hx.le (by omega) (by omega)) ⟨fun _ h1 hx1 => T n ρ h1 (by omega) hS2 h8 hx1, fun z => absurd z (by decide)⟩
  | d + 1, t, n, b0, ρ, h, ht, hn, hb0, hS, h8, hx => by
    refine lw_193 (c := c + 51 * (d + 1)) (s := s + 255 * (d + 1)) hz (b := b0) (by omega) (by omega) (hx.le (by omega) (by omega)) ⟨fun z => absurd ((iN_lt (m := 6) (by omega) (by decide)).mpr (by omega)) z, fun _ => ⟨hi.1, hi.2, ⟨hS, h8⟩, fun τ n9 a1 a2 a3 h1 hx1 => ?_⟩⟩
    rw [iN_one]
    exact lp_193 hz hi hN hb T d (t + 1) n9 (b0 + 4) τ h1 (by omega) (by omega) (by omega) a2 a3 hx1
theorem lp_303 (hz : jZ B h0 zz f) (hi : i6 i) {ρ0 : gS} {n : Nat} {o : Int64} (h20 : nM (ρ0 324) ≤ 20) (T : ∀ (τ : gS) (k : Int32) (h : jv_H), Sm ρ0 τ → LX B n τ [] c s h0 h → jE 271 353 (LW zz B i [some (.long o), none, some (.int (iN (nM (ρ0 324)))), some (.int k), r9, r10]) [] h K) :
    ∀ (d t : Nat) (ρ : gS) (h : jv_H), nM (ρ0 324) ≤ t + 3 * d → t + 3 * d ≤ 100 → Sm ρ0 ρ → SP ρ → LX B n ρ [] (c + 200 * d) (s + 1400 * d) h0 h → jE 271 303 (LW zz B i [some (.long o), none, some (.int (iN (nM (ρ0 324)))), some (.int (iN t)), r9, r10]) [] h K
  | 0, t, ρ, h, ht, hd, hs, sp, hx => lw_303e hx (fun z => by have := (iN_lt (by omega) (by omega)).mp z; omega) (T ρ _ h hs (hx.le (by omega) (by omega)))
  | d + 1, t, ρ, h, ht, hd, hs, sp, hx => by
    by_cases q : t < nM (ρ0 324)
    · refine lw_303 (c := c + 200 * d) (s := s + 1400 * d) hz (t := t) sp (by rw [hs.1]; exact q) (hx.le (by omega) (by omega)) ⟨fun z => absurd ((iN_lt (by omega) (by omega)).mpr q) z, fun _ => ⟨hi.2, fun τ7 s7 τ12 s12 h1 hx1 => ?_⟩⟩
      rw [show iN t + 3 = iN (t + 3) from iN_add t 3]
      exact lp_303 hz hi h20 T d (t + 3) τ12 h1 (by omega) (by omega) (hs.trans (s7.trans s12)) ((s7.trans s12).sp sp) hx1
    · exact lw_303e hx (fun z => by have := (iN_lt (by omega) (by omega)).mp z; omega) (T ρ _ h hs (hx.le (by omega) (by omega)))
theorem lp_353 (hz : jZ B h0 zz f) (hi : i6 i) {ρ0 ρ : gS} {n b : Nat} {m : Int32} {h : jv_H} (hs : Sm ρ0 ρ) (sp : SP ρ) (ti : TI b (ρ 324)) (hb : b ≤ 900) (hx : LX B n ρ [] (c + 16000) (s + 48000) h0 h) (T : ∀ (τ : gS) (h1 : jv_H), Sm ρ0 τ → LX B n τ [] c s h0 h1 → jE 271 417 (LW zz B i [some (.long (hsh ρ0)), none, some (.int m), r8, r9, r10]) [] h1 K) : jE 271 353 (LW zz B i [some (.long (hsh ρ0)), none, some (.int m), r8, r9, r10]) [] h K := by
  have e : ∀ τ, Sm ρ0 τ → lg_cmp (hsh τ) (hsh ρ0) = 0 := fun τ h => (lg_cmp_eq _ _).mpr (hsh_cg h.1)
  exact lw_353 hz sp ti hb hx ⟨e ρ hs, fun _ => ⟨e ρ hs, fun τ14 s14 => ⟨hi.2, fun τ20 s20 h1 hx1 => T τ20 h1 (hs.trans (s14.trans s20)) hx1⟩⟩, fun _ τ25 s25 => ⟨e τ25 (hs.trans s25), fun τ34 s34 => ⟨hi.2, fun τ40 s40 h1 hx1 => T τ40 h1 (hs.trans (s25.trans (s34.trans s40))) hx1⟩⟩⟩
theorem lp_190 (hz : jZ B h0 zz f) (hi : i6 i) {n b : Nat} {ρ : gS} {h : jv_H} (hn : n + 7 ≤ 9000) (hb : b + 24 ≤ 900) (hS : SQ (RWp b) ρ) (h8 : ρ 323 8 = 0) (hx : LX B n ρ [] (c + 21000) (s + 90000) h0 h) (T : ∀ (n' : Nat) (τ : gS) (o : Int64) (x8 : Option Value) (h1 : jv_H), n' ≤ n + 6 → SQ (RWp (b + 24)) τ → τ 323 8 = 0 → LX B n' τ [] c s h0 h1 → jE 271 417 (LW zz B i [some (.long o), none, some (.int (iN (nM (τ 324)))), x8, r9, r10]) [] h1 K) : jE 271 190 (LW zz B i [r5, r6, r7, r8, r9, r10]) [] h K := by
  refine lw_190 hz hx (fun h1 hx1 => ?_)
  refine lp_193 (c := c + 20200) (s := s + 78000) (N := n + 6) (b := b + 24) hz hi (by omega) (by omega) (fun n1 ρ1 h2 hn1 hS1 h81 hx2 => ?_) 6 0 n b ρ h1 rfl (by omega) (by omega) hS h8 (hx1.le (by omega) (by omega))
  have sp1 : SP ρ1 := SQ_mono hS1 (fun _ q => q.1.1)
  obtain ⟨e3, l20⟩ := hx2.inf.n
  refine lw_235 (c := c + 20188) (s := s + 77896) hz sp1 (hx2.le (by omega) (by omega)) ⟨(lg_cmp_eq _ _).mpr rfl, hi.1, fun h3 hx3 => ?_⟩
  obtain ⟨j, j3, ej⟩ : ∃ j : Nat, j < 3 ∧ iN j = ((f i.toNatClampNeg) &&& 255) - ((f i.toNatClampNeg) &&& 255) / 3 * 3 := by
    have q := nat_lt (rem_b (x := (f i.toNatClampNeg) &&& 255) (d := 3) (an_b _ 255 (by decide)).1 (by decide)) (by decide)
    exact ⟨_, q.1, q.2⟩
  rw [e3, ← ej]
  refine lp_303 (c := c + 16000) (s := s + 48000) (ρ0 := ρ1) hz hi l20 (fun τ k h4 hs4 hx4 => ?_) 7 j ρ1 h3 (by omega) (by omega) Sm.rf sp1 (hx3.le (by omega) (by omega))
  refine lp_353 hz hi hs4 (hs4.sp sp1) (b := b + 24) (by rw [hs4.1]; exact hS1.1.1.2.1) hb hx4 (fun τ2 h5 hs5 hx5 => ?_)
  have t := T n1 τ2 (hsh ρ1) (some (.int k)) h5 hn1 (hs5.2.2.2 _ (RC_RW _) hS1) (by rw [hs5.2.1.2.1]; exact h81) hx5
  rw [hs5.1] at t
  exact t
end LPS
