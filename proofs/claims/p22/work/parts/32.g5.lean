-- text 5
section GSND4
variable {y pc : Nat} {i : Instr} {len : Nat} {t : List sI} {Lv : gL} {st : List Value} {σ : gS} {K : gK} {k : gC} {j : gJ} {a b : Nat}
def gPok (pf : gP) : Prop := ∀ (z : Nat) (Lv : gL) (σ : gS) (q : Option Prop × Option Value × gS), pf z Lv σ = some q → (∀ P, q.1 = some P → P) → ∀ K : gK, K q.2.1 q.2.2 → gE z 0 Lv [] σ K
theorem gan_of {c : Option Prop} {P : Prop} (h : gan c P) : (∀ Q, c = some Q → Q) ∧ P := by
  cases c with
  | none => exact ⟨fun Q e => (by cases e), h⟩
  | some Q => exact ⟨fun Q' e => (by cases e; exact h.1), h.2⟩
theorem gk_call {run : gR} {inl : List Nat} {pf : gP} (hpf : gPok pf) (hrun : ∀ y pc t Lv st σ K, y < 272 → s_ok y pc t = true → run y pc t Lv st σ K → gE y pc Lv st σ K) (A : gA y pc i len K k) (hlen : len = 3) (hs : sk_call y i a b = true) (hr : go_call run inl pf a b Lv st σ k) : gE y pc Lv st σ K := by
  subst hlen
  have ha : a < 272 := by
    have hs2 := hs
    unfold sk_call at hs2
    split at hs2
    · exact (of_decide_eq_true hs2).2.1
    · cases hs2
  unfold go_call at hr
  obtain ⟨q, hr⟩ := c_fr hr
  obtain ⟨q1, q⟩ := s_and q
  obtain ⟨q2, q⟩ := s_and q
  obtain ⟨q3, q4⟩ := s_and q
  obtain ⟨h4, hr⟩ := grc_of (b_lt q4) hr
  refine g_call A.1 A.2.1 hs q1 (b_le q2) (b_le q3) h4 ?_
  rw [← gtk_eq, ← gdr_eq, ← gno_eq, ← grv_eq]
  split at hr
  · rename_i q hq
    obtain ⟨hc, hr⟩ := gan_of hr
    refine hpf _ _ _ _ hq hc _ ?_
    revert hr
    cases q.2.1 with
    | none => exact fun h => A.2.2 _ _ _ h
    | some v => exact fun h => A.2.2 _ _ _ h
  cases hm : gmem inl a with
  | true =>
    rw [hm] at hr
    refine gE_mono (fun r σ1 h => ?_) (hrun _ _ _ _ _ _ _ ha (sc_ok a ha) hr)
    cases r with
    | none => exact A.2.2 _ _ _ h
    | some v => exact A.2.2 _ _ _ h
  | false =>
    rw [hm] at hr
    cases h0 : Nat.beq (gret a) 0 with
    | true =>
      rw [h0] at hr
      refine gE_mono (fun r σ1 h => ?_) hr
      obtain ⟨rfl, h⟩ := h
      exact A.2.2 _ _ _ h
    | false =>
      rw [h0] at hr
      cases h1 : Nat.beq (gret a) 1 with
      | true =>
        rw [h1] at hr
        refine gE_mono (fun r σ1 h => ?_) hr
        obtain ⟨x, rfl, h⟩ := h
        exact A.2.2 _ _ _ h
      | false =>
        rw [h1] at hr
        refine gE_mono (fun r σ1 h => ?_) hr
        obtain ⟨x, rfl, h⟩ := h
        exact A.2.2 _ _ _ h
set_option maxHeartbeats 8000000 in
theorem gop_ok {run : gR} {inl : List Nat} {pf : gP} (hpf : gPok pf) (hrun : ∀ y pc t Lv st σ K, y < 272 → s_ok y pc t = true → run y pc t Lv st σ K → gE y pc Lv st σ K) (A : gA y pc i len K k) (hj : ∀ tgt Lv st σ, j tgt Lv st σ → gE y tgt Lv st σ K) {op : Nat} (hl : jv_sw i = true ∨ len = jv_len i) (hk : sk1 y pc i op a b = true) (hr : gop run inl pf y pc op a b Lv st σ K k j) : gE y pc Lv st σ K := by
  match op, hk, hr with
  | 0, hk, hr =>
    have hr : go_const a Lv st σ k := hr
    exact gk_const A hk hr
  | 1, hk, hr =>
    have hr : go_iload a Lv st σ k := hr
    exact gk_iload A hk hr
  | 2, hk, hr =>
    have hr : go_aload a Lv st σ k := hr
    exact gk_aload A hk hr
  | 3, hk, hr => exact (show False from hr).elim
  | 4, hk, hr =>
    have hr : go_istore a Lv st σ k := hr
    exact gk_istore A hk hr
  | 5, hk, hr =>
    have hr : go_astore a Lv st σ k := hr
    exact gk_astore A hk hr
  | 6, hk, hr => exact (show False from hr).elim
  | 7, hk, hr =>
    have hr : go_iinc a b Lv st σ k := hr
    exact gk_iinc A hk hr
  | 8, hk, hr =>
    have hr : go_getf a b Lv st σ k := hr
    exact gk_getf A hk hr
  | 9, hk, hr =>
    have hr : go_putf a b Lv st σ k := hr
    exact gk_putf A hk hr
  | 10, hk, hr =>
    have hr : go_putz a b Lv st σ k := hr
    exact gk_putz A hk hr
  | 11, hk, hr => exact (show False from hr).elim
  | 12, hk, hr =>
    have hr : j a Lv st σ := hr
    exact gk_goto A.1 A.2.1 hj hk hr
  | 13, hk, hr =>
    have hr : go_if a b Lv st σ k j := hr
    exact gk_if A hj (len_if hl hk) hk hr
  | 14, hk, hr =>
    have hr : go_icmp a b Lv st σ k j := hr
    exact gk_icmp A hj (len_icmp hl hk) hk hr
  | 15, hk, hr =>
    have hr : go_two Lv st σ k (fun x v => x + v) := hr
    have hk : i = .iadd := of_decide_eq_true hk
    subst hk
    exact gk_two A rfl rfl (fun _ _ _ => rfl) hr
  | 16, hk, hr =>
    have hr : go_two Lv st σ k (fun x v => x - v) := hr
    have hk : i = .isub := of_decide_eq_true hk
    subst hk
    exact gk_two A rfl rfl (fun _ _ _ => rfl) hr
  | 17, hk, hr =>
    have hr : go_two Lv st σ k (fun x v => x * v) := hr
    have hk : i = .imul := of_decide_eq_true hk
    subst hk
    exact gk_two A rfl rfl (fun _ _ _ => rfl) hr
  | 18, hk, hr =>
    have hr : go_div Lv st σ k (fun x v => x / v) := hr
    have hk : i = .idiv := of_decide_eq_true hk
    subst hk
    exact gk_div A rfl rfl (fun _ _ _ h => if_neg h) hr
  | 19, hk, hr =>
    have hr : go_div Lv st σ k (fun x v => x - x / v * v) := hr
    have hk : i = .irem := of_decide_eq_true hk
    subst hk
    exact gk_div A rfl rfl (fun _ _ _ h => if_neg h) hr
  | 20, hk, hr =>
    have hr : go_two Lv st σ k (fun x v => x &&& v) := hr
    have hk : i = .iand := of_decide_eq_true hk
    subst hk
    exact gk_two A rfl rfl (fun _ _ _ => rfl) hr
  | 21, hk, hr =>
    have hr : go_two Lv st σ k (fun x v => x >>> (v &&& 31)) := hr
    have hk : i = .ishr := of_decide_eq_true hk
    subst hk
    exact gk_two A rfl rfl (fun _ _ _ => rfl) hr
  | 22, hk, hr =>
    have hr : go_two Lv st σ k (fun x v => x ^^^ v) := hr
    have hk : i = .ixor := of_decide_eq_true hk
    subst hk
    exact gk_two A rfl rfl (fun _ _ _ => rfl) hr
  | 23, hk, hr =>
    have hr : go_sald Lv st σ k y := hr
    have hk : i = .iaload := of_decide_eq_true hk
    subst hk
    exact gk_sald A hr
  | 24, hk, hr =>
    have hr : go_iald Lv st σ k 1 := hr
    have hk : i = .baload := of_decide_eq_true hk
    subst hk
    exact gk_bald A hr
  | 25, hk, hr =>
    have hr : go_aald Lv st σ k := hr
    have hk : i = .aaload := of_decide_eq_true hk
    subst hk
    exact gk_aald A hr
  | 26, hk, hr =>
    have hr : go_iast Lv st σ k := hr
    have hk : i = .iastore := of_decide_eq_true hk
    subst hk
    exact gk_iast A hr
  | 27, hk, hr =>
    have hr : go_bast Lv st σ k := hr
    have hk : i = .bastore := of_decide_eq_true hk
    subst hk
    exact gk_bast A hr
  | 28, hk, hr => exact (show False from hr).elim
  | 29, hk, hr =>
    have hr : go_alen Lv st σ k y := hr
    have hk : i = .arraylength := of_decide_eq_true hk
    subst hk
    exact gk_alen A hr
  | 30, hk, hr => exact (show False from hr).elim
  | 31, hk, hr => exact (show False from hr).elim
  | 32, hk, hr => exact (show False from hr).elim
  | 33, hk, hr =>
    have hr : go_dup Lv st σ k := hr
    exact gk_dup A (of_decide_eq_true hk) hr
  | 34, hk, hr =>
    have hr : go_dup2 Lv st σ k := hr
    exact gk_dup2 A (of_decide_eq_true hk) hr
  | 35, hk, hr =>
    have hr : go_pop Lv st σ k := hr
    exact gk_pop A (of_decide_eq_true hk) hr
  | 36, hk, hr =>
    have hr : go_call run inl pf a b Lv st σ k := hr
    exact gk_call hpf hrun A (len_call hl hk) hk hr
  | 37, hk, hr => exact (show False from hr).elim
  | 38, hk, hr =>
    have hr : go_slen Lv st σ k := hr
    exact gk_slen A.1 A.2.1 A.2.2 (len_spec hl hk) hk hr
  | 39, hk, hr =>
    have hr : go_sat Lv st σ k := hr
    exact gk_sat A.1 A.2.1 A.2.2 (len_spec hl hk) hk hr
  | 40, hk, hr =>
    have hr : go_vret st σ K := hr
    unfold go_vret at hr
    split at hr
    · exact gk_ret A.1 A.2.1 (sk_ret_0 hk) hr
    · exact hr.elim
  | 41, hk, hr =>
    have hr : go_ret st σ K := hr
    unfold go_ret at hr
    split at hr
    · exact gk_ret A.1 A.2.1 (sk_ret_1 hk ⟨_, rfl⟩) hr
    · exact hr.elim
  | 42, hk, hr =>
    have hr : go_zret st σ K := hr
    unfold go_zret at hr
    split at hr
    · exact gk_ret A.1 A.2.1 (sk_ret_2 hk ⟨_, rfl, hr.1⟩) hr.2
    · exact hr.elim
  | 43, hk, hr =>
    have hr : go_aret st σ K := hr
    unfold go_aret at hr
    split at hr
    · exact gk_ret A.1 A.2.1 (sk_ret_3 hk ⟨_, rfl⟩) hr
    · exact hr.elim
  | 44, hk, hr => exact (show False from hr).elim
  | 45, hk, hr => exact (show False from hr).elim
  | 46, hk, hr =>
    have hr : go_tab a Lv st σ j y := hr
    exact gk_tab A.1 A.2.1 hj hk hr
  | 47, hk, hr => exact (show False from hr).elim
  | 48, hk, hr =>
    have hr : go_const a Lv st σ k := hr
    exact gk_ldc A rfl hk hr
  | 49, hk, hr =>
    have hr : go_ref a Lv st σ k := hr
    exact gk_ldr A rfl hk hr
  | 50, hk, hr =>
    have hr : go_lsw a Lv st σ j y := hr
    exact gk_lsw A.1 A.2.1 hj hk hr
  | n + 51, hk, hr =>
    have bb : ∀ c, c ≤ 51 → Nat.blt (n + 51) c = false := fun c hc => by
      cases e : Nat.blt (n + 51) c with
      | true => have := b_lt e; omega
      | false => rfl
    have hr : go_51 Lv st σ k y pc := by
      unfold gop at hr
      rw [bb 26 (by decide), c_f, bb 39 (by decide), c_f, bb 45 (by decide), c_f, bb 48 (by decide), c_f, bb 50 (by decide), c_f, bb 51 (by decide), c_f] at hr
      exact hr
    unfold go_51 at hr
    rw [A.2.1] at hr
    split at hr
    · rename_i e
      cases e
      exact gk_neg A hr
    · rename_i e
      cases e
      exact gk_two A rfl rfl (fun _ _ _ => rfl) hr
    · rename_i e
      cases e
      exact gk_two A rfl rfl (fun _ _ _ => rfl) hr
    · exact hr.elim
end GSND4
theorem gon_ok {run : gR} {cy : Nat} {cuts : List Nat} {y pc : Nat} {t : List sI} {Lv : gL} {st : List Value} {σ : gS} {K : gK} (hrun : run y pc t Lv st σ K → gE y pc Lv st σ K) (hr : gon run cy cuts y pc t Lv st σ K) : gE y pc Lv st σ K := by
  unfold gon at hr
  cases q : (Nat.beq y cy && gmem cuts pc) with
  | true => rw [q] at hr; exact hr
  | false => rw [q] at hr; exact hrun hr
theorem gw_sound {cy : Nat} {cuts inl : List Nat} {pf : gP} (hpf : gPok pf) : ∀ (n y pc : Nat) (t : List sI) (Lv : gL) (st : List Value) (σ : gS) (K : gK), y < 272 → s_ok y pc t = true → gw cy cuts inl pf n y pc t Lv st σ K → gE y pc Lv st σ K
  | 0, _, _, _, _, _, _, _, _, _, h => h.elim
  | n + 1, y, pc, t, Lv, st, σ, K, hy, hok, hr => by
    have ih := gw_sound (cy := cy) (cuts := cuts) (inl := inl) hpf n
    match t, hok, hr with
    | [], _, hr => exact (show False from hr).elim
    | e :: t, hok, hr =>
      obtain ⟨h1, h2⟩ := s_and (show (s_k y pc e && s_ok y (pc + e.2.2.2) t) = true from hok)
      have hr : gop (gw cy cuts inl pf n) inl pf y pc e.1 e.2.1 e.2.2.1 Lv st σ K (fun Lv st σ => gon (gw cy cuts inl pf n) cy cuts y (pc + e.2.2.2) t Lv st σ K) (gjp (gw cy cuts inl pf n) cy cuts y K) := hr
      unfold s_k at h1
      split at h1
      · rename_i i len hcode
        obtain ⟨h3, h4⟩ := s_and h1
        have e2 := b_eq h3
        refine gop_ok hpf ih ⟨hy, hcode, fun Lv st σ hk => ?_⟩ (fun tgt Lv st σ hj => ?_) (jv_code_ok hcode).2 h4 hr
        · rw [e2]
          exact gon_ok (ih _ _ _ _ _ _ _ hy h2) hk
        · unfold gjp at hj
          split at hj
          · rename_i l hl
            exact gon_ok (ih _ _ _ _ _ _ _ hy (s_find_ok _ 0 (sc_ok y hy) hl)) hj
          · exact hj.elim
      · cases h1
/-- a walk from y's place pc -/
theorem gw_run {cy : Nat} {cuts inl : List Nat} {pf : gP} (hpf : gPok pf) (n : Nat) {y pc : Nat} {Lv : gL} {st : List Value} {σ : gS} {K : gK} (hy : y < 272) (hr : gwm cy cuts inl pf n y pc Lv st σ K) : gE y pc Lv st σ K := by
  unfold gwm at hr
  split at hr
  · rename_i l hl
    exact gw_sound hpf n _ _ _ _ _ _ _ hy (s_find_ok _ 0 (sc_ok y hy) hl) hr
  · exact hr.elim
theorem gpf0_ok : gPok gpf0 := fun z Lv σ q h => by cases h
-- text 6
/-! KNOWN METHODS, LOOPS, NUMBERS -/
abbrev gD : Type := gL → gS → Option (Option Prop × Option Value × gS)
def gFok (z : Nat) (f : gD) : Prop := ∀ (Lv : gL) (σ : gS) (q : Option Prop × Option Value × gS), f Lv σ = some q → (∀ P, q.1 = some P → P) → ∀ K : gK, K q.2.1 q.2.2 → gE z 0 Lv [] σ K
noncomputable def gpl0 (l : List (Nat × gD)) : gP := fun z Lv σ => List.rec (motive := fun _ => Option (Option Prop × Option Value × gS)) none (fun e _ ih => cond (Nat.beq e.1 z) (e.2 Lv σ) ih) l
theorem gpl0_nil : gPok (gpl0 []) := fun z Lv σ q h => by cases h
theorem gpl0_cons {e : Nat × gD} {l : List (Nat × gD)} (he : gFok e.1 e.2) (hl : gPok (gpl0 l)) : gPok (gpl0 (e :: l)) := by
  intro z Lv σ q h hc K hK
  have h : cond (Nat.beq e.1 z) (e.2 Lv σ) (gpl0 l z Lv σ) = some q := h
  cases b : Nat.beq e.1 z with
  | true =>
    rw [b] at h
    rw [← b_eq b]
    exact he Lv σ q h hc K hK
  | false =>
    rw [b] at h
    exact hl z Lv σ q h hc K hK
/-- a loop whose state is known at each turn -/
theorem g_for {y pc : Nat} {K : gK} (n : Nat) (Lv : Nat → gL) (σf : Nat → gS) (hend : gE y pc (Lv n) [] (σf n) K) (hstep : ∀ k, k < n → gE y pc (Lv (k + 1)) [] (σf (k + 1)) K → gE y pc (Lv k) [] (σf k) K) (k : Nat) (hk : k ≤ n) : gE y pc (Lv k) [] (σf k) K := by
  obtain ⟨d, hd⟩ : ∃ d, d = n - k := ⟨_, rfl⟩
  induction d generalizing k with
  | zero =>
    have : k = n := by omega
    rw [this]
    exact hend
  | succ d ih => exact hstep k (by omega) (ih (k + 1) (by omega) (by omega))
/-- truth as a number -/
def bI (p : Prop) [Decidable p] : Int32 := if p then 1 else 0
theorem bI_0 {p : Prop} [Decidable p] : bI p = 0 ↔ ¬ p := by
  unfold bI
  by_cases h : p
  · rw [if_pos h]; exact ⟨fun e => absurd e (by decide), fun e => absurd h e⟩
  · rw [if_neg h]; exact ⟨fun _ => h, fun _ => rfl⟩
theorem bI_01 {p : Prop} [Decidable p] : bI p = 0 ∨ bI p = 1 := by
  unfold bI
  by_cases h : p
  · rw [if_pos h]; exact Or.inr rfl
  · rw [if_neg h]; exact Or.inl rfl
theorem bI_t {p : Prop} [Decidable p] (h : p) : bI p = 1 := if_pos h
theorem bI_f {p : Prop} [Decidable p] (h : ¬ p) : bI p = 0 := if_neg h
/-- small numbers -/
abbrev iN (k : Nat) : Int32 := Int32.ofNat k
theorem iN_int {k : Nat} (h : k < 2147483648) : (iN k).toInt = k := Int32.toInt_ofNat_of_lt (by omega)
theorem iN_lt {k m : Nat} (h : k < 2147483648) (h2 : m < 2147483648) : iN k < iN m ↔ k < m := by
  rw [Int32.lt_iff_toInt_lt, iN_int h, iN_int h2]
  omega
theorem iN_le {k m : Nat} (h : k < 2147483648) (h2 : m < 2147483648) : iN k ≤ iN m ↔ k ≤ m := by
  rw [Int32.le_iff_toInt_le, iN_int h, iN_int h2]
  omega
theorem iN_inj {k m : Nat} (h : k < 2147483648) (h2 : m < 2147483648) : iN k = iN m ↔ k = m := by
  constructor
  · intro e
    have e2 := iN_int h
    rw [e, iN_int h2] at e2
    omega
  · intro e; rw [e]
theorem iN_nat {k : Nat} (h : k < 2147483648) : (iN k).toNatClampNeg = k := sI_clamp h
theorem iN_add (k m : Nat) : iN k + iN m = iN (k + m) := (Int32.ofNat_add k m).symm
theorem iN_one (k : Nat) : iN k + 1 = iN (k + 1) := iN_add k 1
theorem iN_mul (k m : Nat) : iN k * iN m = iN (k * m) := (Int32.ofNat_mul k m).symm
theorem iN_of {x : Int32} (h : 0 ≤ x) : x = iN x.toNatClampNeg ∧ x.toNatClampNeg < 2147483648 := by
  rw [Int32.le_iff_toInt_le] at h
  have h : 0 ≤ x.toInt := h
  have h1 : x.toNatClampNeg = x.toInt.toNat := rfl
  have h2 := Int32.toInt_lt x
  refine ⟨?_, by omega⟩
  apply Int32.toInt_inj.1
  rw [iN_int (by omega)]
  omega
