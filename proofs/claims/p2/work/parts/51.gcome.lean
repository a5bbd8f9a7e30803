/-! THE REFERENCE: append, truncate, come -/
def wrd (a b c d e : Int32) (k : Nat) : Int32 := if k < 4 then a else if k < 8 then b else if k < 12 then c else if k < 16 then d else e
def byt (a b c d e : Int32) (k : Nat) : Int32 := wrd a b c d e k >>> iN (24 - 8 * (k % 4)) &&& 255
theorem sh20 : ∀ k, k < 20 → (24 - (8 * (iN k - iN k / 4 * 4))) &&& 31 = iN (24 - 8 * (k % 4)) := by decide +kernel
/-- k of the bytes behind n of the tape's -/
def fAp (T : gW) (n : Nat) (B : Nat → Int32) (k : Nat) : gW := fun j => if n ≤ j ∧ j < n + k then B (j - n) else T j
theorem fAp_0 (T : gW) (n : Nat) (B : Nat → Int32) : fAp T n B 0 = T := by funext j; unfold fAp; rw [if_neg (by omega)]
theorem fAp_s (T : gW) (n : Nat) (B : Nat → Int32) (k : Nat) : rup (fAp T n B k) (n + k) (B k) = fAp T n B (k + 1) := by
  funext j
  unfold rup fAp
  by_cases h : j = n + k
  · rw [if_pos h, if_pos (by omega), h, show n + k - n = k by omega]
  · rw [if_neg h]
    by_cases h2 : n ≤ j ∧ j < n + k
    · rw [if_pos h2, if_pos (by omega)]
    · rw [if_neg h2, if_neg (by omega)]
def hAp (σ : gS) (B : Nat → Int32) : gS := if 1000 < σ 323 8 + 20 then σ else grow (grow σ 330 (fAp (σ 330) (σ 323 8).toNatClampNeg B 20)) 323 (rup (σ 323) 8 (σ 323 8 + 20))
theorem l1000 {x : Int32} (h : 0 ≤ x ∧ x ≤ 1000) : x = iN x.toNatClampNeg ∧ x.toNatClampNeg ≤ 1000 := by
  obtain ⟨e, l⟩ := iN_of h.1
  refine ⟨e, ?_⟩
  have h2 := h.2
  rw [e] at h2
  exact (iN_le (m := 1000) l (by decide)).mp h2
set_option maxRecDepth 20000 in
theorem w184 {σ : gS} {K : gK} {a b c d e : Int32} (h : ((¬ 1000 < ((σ 323 8) + 20) → gE 184 18 [some (.ref 323), some (.int a), some (.int b), some (.int c), some (.int d), some (.int e), some (.int 0), none] [] σ K) ∧ (1000 < ((σ 323 8) + 20) → K (some (.int (-1))) σ))) : gE 184 0 [some (.ref 323), some (.int a), some (.int b), some (.int c), some (.int d), some (.int e), none, none] [] σ K :=
  gw_run (cy := 184) (cuts := [18]) (inl := []) (pf := gpfT) gpfT_ok 400 (by decide) h
set_option maxRecDepth 20000 in
theorem c184_18 {σ : gS} {K : gK} {l1 l2 l3 l4 l5 l6 : Int32} {l7 : Option Value} (h : ((¬ l6 < 20 → K (some (.int (σ 323 8))) σ) ∧ (l6 < 20 → ((¬ l6 < 4 → ((¬ l6 < 8 → ((¬ l6 < 12 → ((¬ l6 < 16 → (4 : Int32) ≠ 0 ∧ (0 ≤ (σ 323 8) ∧ (σ 323 8) < 1000) ∧ gE 184 18 [some (.ref 323), some (.int l1), some (.int l2), some (.int l3), some (.int l4), some (.int l5), some (.int (l6 + 1)), some (.int l5)] [] (gup (gup σ 330 (σ 323 8).toNatClampNeg ((l5 >>> ((24 - (8 * (l6 - l6 / 4 * 4))) &&& 31)) &&& 255)) 323 8 (((gup σ 330 (σ 323 8).toNatClampNeg ((l5 >>> ((24 - (8 * (l6 - l6 / 4 * 4))) &&& 31)) &&& 255)) 323 8) + 1)) K) ∧ (l6 < 16 → (4 : Int32) ≠ 0 ∧ (0 ≤ (σ 323 8) ∧ (σ 323 8) < 1000) ∧ gE 184 18 [some (.ref 323), some (.int l1), some (.int l2), some (.int l3), some (.int l4), some (.int l5), some (.int (l6 + 1)), some (.int l4)] [] (gup (gup σ 330 (σ 323 8).toNatClampNeg ((l4 >>> ((24 - (8 * (l6 - l6 / 4 * 4))) &&& 31)) &&& 255)) 323 8 (((gup σ 330 (σ 323 8).toNatClampNeg ((l4 >>> ((24 - (8 * (l6 - l6 / 4 * 4))) &&& 31)) &&& 255)) 323 8) + 1)) K))) ∧ (l6 < 12 → (4 : Int32) ≠ 0 ∧ (0 ≤ (σ 323 8) ∧ (σ 323 8) < 1000) ∧ gE 184 18 [some (.ref 323), some (.int l1), some (.int l2), some (.int l3), some (.int l4), some (.int l5), some (.int (l6 + 1)), some (.int l3)] [] (gup (gup σ 330 (σ 323 8).toNatClampNeg ((l3 >>> ((24 - (8 * (l6 - l6 / 4 * 4))) &&& 31)) &&& 255)) 323 8 (((gup σ 330 (σ 323 8).toNatClampNeg ((l3 >>> ((24 - (8 * (l6 - l6 / 4 * 4))) &&& 31)) &&& 255)) 323 8) + 1)) K))) ∧ (l6 < 8 → (4 : Int32) ≠ 0 ∧ (0 ≤ (σ 323 8) ∧ (σ 323 8) < 1000) ∧ gE 184 18 [some (.ref 323), some (.int l1), some (.int l2), some (.int l3), some (.int l4), some (.int l5), some (.int (l6 + 1)), some (.int l2)] [] (gup (gup σ 330 (σ 323 8).toNatClampNeg ((l2 >>> ((24 - (8 * (l6 - l6 / 4 * 4))) &&& 31)) &&& 255)) 323 8 (((gup σ 330 (σ 323 8).toNatClampNeg ((l2 >>> ((24 - (8 * (l6 - l6 / 4 * 4))) &&& 31)) &&& 255)) 323 8) + 1)) K))) ∧ (l6 < 4 → (4 : Int32) ≠ 0 ∧ (0 ≤ (σ 323 8) ∧ (σ 323 8) < 1000) ∧ gE 184 18 [some (.ref 323), some (.int l1), some (.int l2), some (.int l3), some (.int l4), some (.int l5), some (.int (l6 + 1)), some (.int l1)] [] (gup (gup σ 330 (σ 323 8).toNatClampNeg ((l1 >>> ((24 - (8 * (l6 - l6 / 4 * 4))) &&& 31)) &&& 255)) 323 8 (((gup σ 330 (σ 323 8).toNatClampNeg ((l1 >>> ((24 - (8 * (l6 - l6 / 4 * 4))) &&& 31)) &&& 255)) 323 8) + 1)) K))))) : gE 184 18 [some (.ref 323), some (.int l1), some (.int l2), some (.int l3), some (.int l4), some (.int l5), some (.int l6), l7] [] σ K :=
  gw_run (cy := 184) (cuts := [18]) (inl := []) (pf := gpfT) gpfT_ok 400 (by decide) h
theorem s184 {σ : gS} {K : gK} {a b c d e : Int32} (hc : RT σ) (hK : K (some (.int (if 1000 < σ 323 8 + 20 then -1 else σ 323 8 + 20))) (hAp σ (byt a b c d e))) : gE 184 0 [some (.ref 323), some (.int a), some (.int b), some (.int c), some (.int d), some (.int e), none, none] [] σ K := by
  unfold hAp at hK
  refine w184 ⟨fun h => ?_, fun h => ?_⟩
  · rw [if_neg h, if_neg h] at hK
    obtain ⟨e0, l0⟩ := l1000 hc
    obtain ⟨n, hn⟩ : ∃ n, (σ 323 8).toNatClampNeg = n := ⟨_, rfl⟩
    rw [hn] at e0 l0 hK
    have n980 : n ≤ 980 := by
      rw [e0, show (20 : Int32) = iN 20 from rfl, iN_add, show (1000 : Int32) = iN 1000 from rfl, iN_lt (by omega) (by omega)] at h
      omega
    rw [e0, show (20 : Int32) = iN 20 from rfl, iN_add] at hK
    have main := g_forJ (y := 184) (pc := 18) (K := K) 20 (fun k u => [some (.ref 323), some (.int a), some (.int b), some (.int c), some (.int d), some (.int e), some (.int (iN k)), u]) (fun k => grow (grow σ 330 (fAp (σ 330) n (byt a b c d e) k)) 323 (rup (σ 323) 8 (iN (n + k)))) (fun _ => True) (fun _ u => by
      refine c184_18 ⟨fun _ => ?_, fun h => absurd h (by decide)⟩
      rw [grow_at, rup_at]
      exact hK) (fun k hk _ ih u => by
      have ih := ih trivial
      have hs : grow (grow σ 330 (fAp (σ 330) n (byt a b c d e) k)) 323 (rup (σ 323) 8 (iN (n + k))) 323 8 = iN (n + k) := by rw [grow_at, rup_at]
      have fin : ∀ w, w = wrd a b c d e k → gE 184 18 [some (.ref 323), some (.int a), some (.int b), some (.int c), some (.int d), some (.int e), some (.int (iN k + 1)), some (.int w)] [] (gup (gup (grow (grow σ 330 (fAp (σ 330) n (byt a b c d e) k)) 323 (rup (σ 323) 8 (iN (n + k)))) 330 (grow (grow σ 330 (fAp (σ 330) n (byt a b c d e) k)) 323 (rup (σ 323) 8 (iN (n + k))) 323 8).toNatClampNeg ((w >>> ((24 - (8 * (iN k - iN k / 4 * 4))) &&& 31)) &&& 255)) 323 8 (((gup (grow (grow σ 330 (fAp (σ 330) n (byt a b c d e) k)) 323 (rup (σ 323) 8 (iN (n + k)))) 330 (grow (grow σ 330 (fAp (σ 330) n (byt a b c d e) k)) 323 (rup (σ 323) 8 (iN (n + k))) 323 8).toNatClampNeg ((w >>> ((24 - (8 * (iN k - iN k / 4 * 4))) &&& 31)) &&& 255)) 323 8) + 1)) K := by
        intro w hw
        rw [hs, iN_nat (by omega), sh20 k hk]
        have hb : (w >>> iN (24 - 8 * (k % 4)) &&& 255) = byt a b c d e k := by rw [hw]; rfl
        rw [hb]
        have eh : gup (gup (grow (grow σ 330 (fAp (σ 330) n (byt a b c d e) k)) 323 (rup (σ 323) 8 (iN (n + k)))) 330 (n + k) (byt a b c d e k)) 323 8 (((gup (grow (grow σ 330 (fAp (σ 330) n (byt a b c d e) k)) 323 (rup (σ 323) 8 (iN (n + k)))) 330 (n + k) (byt a b c d e k)) 323 8) + 1) = grow (grow σ 330 (fAp (σ 330) n (byt a b c d e) (k + 1))) 323 (rup (σ 323) 8 (iN (n + (k + 1)))) := by
          rw [← fAp_s]
          simp (disch := decide) only [gup_grow, grow_at, grow_ne, rup_at]
          rw [iN_one, Nat.add_assoc]
          funext p j
          unfold grow rup
          grind
        rw [eh, iN_one]
        exact ih _
      have bd : 0 ≤ iN (n + k) ∧ iN (n + k) < 1000 := ⟨(iN_le (k := 0) (by decide) (by omega)).mpr (by omega), (iN_lt (m := 1000) (by omega) (by decide)).mpr (by omega)⟩
      have lt : ∀ m : Nat, m < 100 → (iN k < iN m ↔ k < m) := fun m hm => iN_lt (by omega) (by omega)
      refine c184_18 ⟨fun h => absurd ((lt 20 (by decide)).mpr hk) h, fun _ => ⟨fun h4 => ⟨fun h8 => ⟨fun h12 => ⟨fun h16 => ⟨by decide, by rw [hs]; exact bd, fin _ ?_⟩, fun h16 => ⟨by decide, by rw [hs]; exact bd, fin _ ?_⟩⟩, fun h12 => ⟨by decide, by rw [hs]; exact bd, fin _ ?_⟩⟩, fun h8 => ⟨by decide, by rw [hs]; exact bd, fin _ ?_⟩⟩, fun h4 => ⟨by decide, by rw [hs]; exact bd, fin _ ?_⟩⟩⟩ <;> unfold wrd
      · have h4 := fun q => h4 ((lt 4 (by decide)).mpr q)
        have h8 := fun q => h8 ((lt 8 (by decide)).mpr q)
        have h12 := fun q => h12 ((lt 12 (by decide)).mpr q)
        have h16 := fun q => h16 ((lt 16 (by decide)).mpr q)
        rw [if_neg h4, if_neg h8, if_neg h12, if_neg h16]
      · have h4 := fun q => h4 ((lt 4 (by decide)).mpr q)
        have h8 := fun q => h8 ((lt 8 (by decide)).mpr q)
        have h12 := fun q => h12 ((lt 12 (by decide)).mpr q)
        rw [if_neg h4, if_neg h8, if_neg h12, if_pos ((lt 16 (by decide)).mp h16)]
      · have h4 := fun q => h4 ((lt 4 (by decide)).mpr q)
        have h8 := fun q => h8 ((lt 8 (by decide)).mpr q)
        rw [if_neg h4, if_neg h8, if_pos ((lt 12 (by decide)).mp h12)]
      · have h4 := fun q => h4 ((lt 4 (by decide)).mpr q)
        rw [if_neg h4, if_pos ((lt 8 (by decide)).mp h8)]
      · rw [if_pos ((lt 4 (by decide)).mp h4)]) 0 (Nat.zero_le _) trivial none
    have e00 : grow (grow σ 330 (fAp (σ 330) n (byt a b c d e) 0)) 323 (rup (σ 323) 8 (iN (n + 0))) = σ := by
      rw [fAp_0, grow_id, Nat.add_zero, ← e0]
      have : rup (σ 323) 8 (σ 323 8) = σ 323 := by
        funext j
        unfold rup
        split
        · rename_i h; rw [h]
        · rfl
      rw [this, grow_id]
    rw [e00] at main
    exact main
  · rw [if_pos h, if_pos h] at hK; exact hK
noncomputable def f184 : gD := fun Lv σ => match Lv with
  | [some (.ref q0), some (.int a), some (.int b), some (.int c), some (.int d), some (.int e), none, none] => cond (Nat.beq q0 323) (some (some (RT σ), some (.int (if 1000 < σ 323 8 + 20 then -1 else σ 323 8 + 20)), hAp σ (byt a b c d e))) none
  | _ => none
theorem ok184 : gFok 184 f184 := by
  intro Lv σ q h hc K hK
  unfold f184 at h
  split at h
  · rename_i q0 a b c d e
    obtain ⟨hb, h⟩ := c_no h
    have hb0 := hb
    have e0 := b_eq hb0
    subst e0
    cases h
    exact s184 (hc _ rfl) hK
  · cases h
abbrev gTru (L n : Int32) : Prop := ¬ n < 0 ∧ ¬ L < n
set_option maxRecDepth 20000 in
theorem w185 {σ : gS} {K : gK} {n : Int32} (h : ((n < 0 → K (some (.int (-1))) σ) ∧ (¬ n < 0 → ((¬ (σ 323 8) < n → K (some (.int ((gup σ 323 8 ((σ 323 8) - n)) 323 8))) (gup σ 323 8 ((σ 323 8) - n))) ∧ ((σ 323 8) < n → K (some (.int (-1))) σ))))) : gE 185 0 [some (.ref 323), some (.int n)] [] σ K :=
  gw_run (cy := 185) (cuts := []) (inl := []) (pf := gpfT) gpfT_ok 400 (by decide) h
theorem s185 {σ : gS} {K : gK} {n : Int32} (hK : K (some (.int (if gTru (σ 323 8) n then σ 323 8 - n else -1))) (if gTru (σ 323 8) n then grow σ 323 (rup (σ 323) 8 (σ 323 8 - n)) else σ)) : gE 185 0 [some (.ref 323), some (.int n)] [] σ K := by
  refine w185 ⟨fun h => ?_, fun h => ⟨fun h2 => ?_, fun h2 => ?_⟩⟩
  · rw [if_neg (fun q => q.1 h), if_neg (fun q => q.1 h)] at hK; exact hK
  · rw [if_pos ⟨h, h2⟩, if_pos ⟨h, h2⟩] at hK
    rw [gup_grow, grow_at, rup_at]
    exact hK
  · rw [if_neg (fun q => q.2 h2), if_neg (fun q => q.2 h2)] at hK; exact hK
noncomputable def f185 : gD := fun Lv σ => match Lv with
  | [some (.ref q0), some (.int n)] => cond (Nat.beq q0 323) (some (none, some (.int (if gTru (σ 323 8) n then σ 323 8 - n else -1)), if gTru (σ 323 8) n then grow σ 323 (rup (σ 323) 8 (σ 323 8 - n)) else σ)) none
  | _ => none
theorem ok185 : gFok 185 f185 := by
  intro Lv σ q h hc K hK
  unfold f185 at h
  split at h
  · rename_i q0 n
    obtain ⟨hb, h⟩ := c_no h
    have hb0 := hb
    have e0 := b_eq hb0
    subst e0
    cases h
    exact s185 hK
  · cases h
set_option maxRecDepth 20000 in
theorem w186 {σ : gS} {K : gK} (h : K (some (.int (σ 323 9))) σ) : gE 186 0 [some (.ref 323)] [] σ K :=
  gw_run (cy := 186) (cuts := []) (inl := []) (pf := gpfT) gpfT_ok 400 (by decide) h
theorem s186 {σ : gS} {K : gK} (hK : K (some (.int (σ 323 9))) σ) : gE 186 0 [some (.ref 323)] [] σ K := by
  exact w186 hK
noncomputable def f186 : gD := fun Lv σ => match Lv with
  | [some (.ref q0)] => cond (Nat.beq q0 323) (some (none, some (.int (σ 323 9)), σ)) none
  | _ => none
theorem ok186 : gFok 186 f186 := by
  intro Lv σ q h hc K hK
  unfold f186 at h
  split at h
  · rename_i q0
    obtain ⟨hb, h⟩ := c_no h
    have hb0 := hb
    have e0 := b_eq hb0
    subst e0
    cases h
    exact s186 hK
  · cases h
/-- what come asks of its numbers -/
abbrev okC (σ : gS) (x k f w s : Int32) : Prop := (((((isS (σ 324) x ∧ (0 ≤ k ∧ k ≤ 1)) ∧ (0 ≤ f ∧ f ≤ 9)) ∧ (0 ≤ w ∧ w ≤ 99)) ∧ (1 ≤ s ∧ s ≤ 99)) ∧ ¬ fTn (σ 330) (σ 323 8) < 0)
abbrev gCom (σ : gS) (x k f w s : Int32) : Prop := (okC σ x k f w s ∧ ¬ σ 324 3 = 20) ∧ (fWho (σ 324) x < 0 ∧ (k = 1 ∨ σ 324 1 ≤ x / 4))
def aCom (σ : gS) (x k f w s : Int32) : Int32 := if okC σ x k f w s then (if σ 324 3 = 20 then -3 else if fWho (σ 324) x < 0 ∧ (k = 1 ∨ σ 324 1 ≤ x / 4) then σ 324 3 else -4) else -1
def nCom (R : gW) (x k f w s nm : Int32) : gW := fTe (radd (rup (rup (rup (rup (fNew R x nm) (9 + 10 * nM R + 1) k) (9 + 10 * nM R + 2) f) (9 + 10 * nM R + 7) w) (9 + 10 * nM R + 8) s) 3 1) 0 (R 3) x
def hCom (σ : gS) (x k f w s : Int32) : gS := if gCom σ x k f w s then grow (grow (hKe σ) 323 (rup (hKe σ 323) 8 0)) 324 (nCom (σ 324) x k f w s (fTn (σ 330) (σ 323 8))) else σ
theorem fNew_ne {R : gW} {x w : Int32} {j : Nat} (h : j < 9 + 10 * nM R ∨ 9 + 10 * nM R + 10 ≤ j) : fNew R x w j = R j := by
  unfold fNew
  rw [rup_ne (by omega), rup_ne (by omega), rup_ne (by omega)]
  unfold zsh
  rw [if_neg (by omega)]
set_option maxRecDepth 20000 in
theorem w208 {σ : gS} {K : gK} {x k f w s : Int32} (h : (RT σ) ∧ (((bI (isS (σ 324) x)) = 0 → K (some (.int (-1))) σ) ∧ (¬ (bI (isS (σ 324) x)) = 0 → (((bI ((0 : Int32) ≤ k ∧ k ≤ (1 : Int32))) = 0 → K (some (.int (-1))) σ) ∧ (¬ (bI ((0 : Int32) ≤ k ∧ k ≤ (1 : Int32))) = 0 → (((bI ((0 : Int32) ≤ f ∧ f ≤ (9 : Int32))) = 0 → K (some (.int (-1))) σ) ∧ (¬ (bI ((0 : Int32) ≤ f ∧ f ≤ (9 : Int32))) = 0 → (((bI ((0 : Int32) ≤ w ∧ w ≤ (99 : Int32))) = 0 → K (some (.int (-1))) σ) ∧ (¬ (bI ((0 : Int32) ≤ w ∧ w ≤ (99 : Int32))) = 0 → (((bI ((1 : Int32) ≤ s ∧ s ≤ (99 : Int32))) = 0 → K (some (.int (-1))) σ) ∧ (¬ (bI ((1 : Int32) ≤ s ∧ s ≤ (99 : Int32))) = 0 → ((¬ (fTn (σ 330) (σ 323 8)) < 0 → (0 ≤ (3 : Int32) ∧ (3 : Int32) < 330) ∧ ((¬ (σ 324 3) = 20 → (0 ≤ σ 324 3 ∧ σ 324 3 ≤ 20) ∧ ((¬ (fWho (σ 324) x) < 0 → K (some (.int (-4))) σ) ∧ ((fWho (σ 324) x) < 0 → (0 ≤ (1 : Int32) ∧ (1 : Int32) < 330) ∧ ((¬ (bI (k = 1 ∨ (σ 324 1) ≤ x / 4)) = 0 → (0 ≤ σ 323 6 ∧ σ 323 6 ≤ 8) ∧ (0 ≤ (3 : Int32) ∧ (3 : Int32) < 330) ∧ (0 ≤ (gup (hKe σ) 323 8 0) 324 3 ∧ (gup (hKe σ) 323 8 0) 324 3 < 20) ∧ (0 ≤ (9 + 10 * ((gup (hKe σ) 323 8 0) 324 3) + (1 : Int32)) ∧ (9 + 10 * ((gup (hKe σ) 323 8 0) 324 3) + (1 : Int32)) < 330) ∧ gE 208 143 [some (.ref 323), some (.int x), some (.int k), some (.int f), some (.int w), some (.int s), some (.int (fTn (σ 330) (σ 323 8))), some (.int ((gup (hKe σ) 323 8 0) 324 3))] [] (gup (grow (gup (hKe σ) 323 8 0) 324 (fNew ((gup (hKe σ) 323 8 0) 324) x (fTn (σ 330) (σ 323 8)))) 324 (9 + 10 * ((gup (hKe σ) 323 8 0) 324 3) + (1 : Int32)).toNatClampNeg k) K) ∧ ((bI (k = 1 ∨ (σ 324 1) ≤ x / 4)) = 0 → K (some (.int (-4))) σ))))) ∧ ((σ 324 3) = 20 → K (some (.int (-3))) σ))) ∧ ((fTn (σ 330) (σ 323 8)) < 0 → K (some (.int (-1))) σ))))))))))))) : gE 208 0 [some (.ref 323), some (.int x), some (.int k), some (.int f), some (.int w), some (.int s), none, none] [] σ K :=
  gw_run (cy := 208) (cuts := [143, 155, 169, 183, 193]) (inl := []) (pf := gpfT) gpfT_ok 400 (by decide) h
set_option maxRecDepth 20000 in
theorem c208_143 {σ : gS} {K : gK} {l1 l2 l3 l4 l5 l6 l7 : Int32} (h : (0 ≤ (9 + 10 * l7 + (2 : Int32)) ∧ (9 + 10 * l7 + (2 : Int32)) < 330) ∧ gE 208 155 [some (.ref 323), some (.int l1), some (.int l2), some (.int l3), some (.int l4), some (.int l5), some (.int l6), some (.int l7)] [] (gup σ 324 (9 + 10 * l7 + (2 : Int32)).toNatClampNeg l3) K) : gE 208 143 [some (.ref 323), some (.int l1), some (.int l2), some (.int l3), some (.int l4), some (.int l5), some (.int l6), some (.int l7)] [] σ K :=
  gw_run (cy := 208) (cuts := [143, 155, 169, 183, 193]) (inl := []) (pf := gpfT) gpfT_ok 400 (by decide) h
set_option maxRecDepth 20000 in
theorem c208_155 {σ : gS} {K : gK} {l1 l2 l3 l4 l5 l6 l7 : Int32} (h : (0 ≤ (9 + 10 * l7 + (7 : Int32)) ∧ (9 + 10 * l7 + (7 : Int32)) < 330) ∧ gE 208 169 [some (.ref 323), some (.int l1), some (.int l2), some (.int l3), some (.int l4), some (.int l5), some (.int l6), some (.int l7)] [] (gup σ 324 (9 + 10 * l7 + (7 : Int32)).toNatClampNeg l4) K) : gE 208 155 [some (.ref 323), some (.int l1), some (.int l2), some (.int l3), some (.int l4), some (.int l5), some (.int l6), some (.int l7)] [] σ K :=
  gw_run (cy := 208) (cuts := [143, 155, 169, 183, 193]) (inl := []) (pf := gpfT) gpfT_ok 400 (by decide) h
set_option maxRecDepth 20000 in
theorem c208_169 {σ : gS} {K : gK} {l1 l2 l3 l4 l5 l6 l7 : Int32} (h : (0 ≤ (9 + 10 * l7 + (8 : Int32)) ∧ (9 + 10 * l7 + (8 : Int32)) < 330) ∧ gE 208 183 [some (.ref 323), some (.int l1), some (.int l2), some (.int l3), some (.int l4), some (.int l5), some (.int l6), some (.int l7)] [] (gup σ 324 (9 + 10 * l7 + (8 : Int32)).toNatClampNeg l5) K) : gE 208 169 [some (.ref 323), some (.int l1), some (.int l2), some (.int l3), some (.int l4), some (.int l5), some (.int l6), some (.int l7)] [] σ K :=
  gw_run (cy := 208) (cuts := [143, 155, 169, 183, 193]) (inl := []) (pf := gpfT) gpfT_ok 400 (by decide) h
set_option maxRecDepth 20000 in
theorem c208_183 {σ : gS} {K : gK} {l1 l2 l3 l4 l5 l6 l7 : Int32} (h : (0 ≤ (3 : Int32) ∧ (3 : Int32) < 330) ∧ (0 ≤ (3 : Int32) ∧ (3 : Int32) < 330) ∧ gE 208 193 [some (.ref 323), some (.int l1), some (.int l2), some (.int l3), some (.int l4), some (.int l5), some (.int l6), some (.int l7)] [] (gup σ 324 3 ((σ 324 3) + 1)) K) : gE 208 183 [some (.ref 323), some (.int l1), some (.int l2), some (.int l3), some (.int l4), some (.int l5), some (.int l6), some (.int l7)] [] σ K :=
  gw_run (cy := 208) (cuts := [143, 155, 169, 183, 193]) (inl := []) (pf := gpfT) gpfT_ok 400 (by decide) h
set_option maxRecDepth 20000 in
theorem c208_193 {σ : gS} {K : gK} {l1 l2 l3 l4 l5 l6 l7 : Int32} (h : (0 ≤ σ 324 209 ∧ σ 324 209 ≤ 40) ∧ K (some (.int l7)) (grow σ 324 (fTe (σ 324) (0 : Int32) l7 l1))) : gE 208 193 [some (.ref 323), some (.int l1), some (.int l2), some (.int l3), some (.int l4), some (.int l5), some (.int l6), some (.int l7)] [] σ K :=
  gw_run (cy := 208) (cuts := [143, 155, 169, 183, 193]) (inl := []) (pf := gpfT) gpfT_ok 400 (by decide) h
theorem s208 {σ : gS} {K : gK} {x k f w s : Int32} (hc : RS σ ∧ RT σ) (hK : K (some (.int (aCom σ x k f w s))) (hCom σ x k f w s)) : gE 208 0 [some (.ref 323), some (.int x), some (.int k), some (.int f), some (.int w), some (.int s), none, none] [] σ K := by
  obtain ⟨⟨⟨h3, h9⟩, hu⟩, hT⟩ := hc
  unfold aCom hCom at hK
  have no : ¬ okC σ x k f w s → K (some (.int (-1))) σ := by
    intro q
    rw [if_neg q, if_neg (fun e => q e.1.1)] at hK
    exact hK
  refine w208 ⟨hT, ?_⟩
  simp only [bI_0]
  refine ⟨fun h => no (fun q => h q.1.1.1.1.1), fun h => ⟨fun h1 => no (fun q => h1 q.1.1.1.1.2), fun h1 => ⟨fun h2 => no (fun q => h2 q.1.1.1.2), fun h2 => ⟨fun h4 => no (fun q => h4 q.1.1.2), fun h4 => ⟨fun h5 => no (fun q => h5 q.1.2), fun h5 => ⟨fun h6 => ?_, fun h6 => no (fun q => q.2 h6)⟩⟩⟩⟩⟩⟩
  have hok : okC σ x k f w s := ⟨⟨⟨⟨⟨Decidable.not_not.mp h, Decidable.not_not.mp h1⟩, Decidable.not_not.mp h2⟩, Decidable.not_not.mp h4⟩, Decidable.not_not.mp h5⟩, h6⟩
  rw [if_pos hok] at hK
  refine ⟨by decide, fun h7 => ⟨h3, fun h8 => ?_, fun h8 => ⟨by decide, fun h10 => ⟨hu, by decide, ?_⟩, fun h10 => ?_⟩⟩, fun h7 => ?_⟩
  · have n8 : ¬ (fWho (σ 324) x < 0 ∧ (k = 1 ∨ σ 324 1 ≤ x / 4)) := fun q => h8 q.1
    rw [if_neg h7, if_neg n8, if_neg (show ¬ gCom σ x k f w s from fun q => n8 q.2)] at hK; exact hK
  · have h10 := Decidable.not_not.mp h10
    rw [if_neg h7, if_pos ⟨h8, h10⟩, if_pos (show gCom σ x k f w s from ⟨⟨hok, h7⟩, h8, h10⟩)] at hK
    have h20 : 0 ≤ σ 324 3 ∧ σ 324 3 < 20 := ⟨h3.1, by have := h3.2; grind⟩
    obtain ⟨e3, l3⟩ := t20 h20
    obtain ⟨n, hn⟩ : ∃ n, nM (σ 324) = n := ⟨_, rfl⟩
    have hn' : (σ 324 3).toNatClampNeg = n := hn
    rw [hn'] at e3 l3
    have e0 : gup (hKe σ) 323 8 0 324 = σ 324 := by rw [gup_grow, grow_ne (by decide), hKe_324]
    rw [e0]
    refine ⟨h20, by rw [e3]; exact ixb1 l3, ?_⟩
    unfold nCom at hK
    rw [hn] at hK
    rw [e3, ix1 l3]
    refine c208_143 ⟨ixb2 l3, c208_155 ⟨ixb7 l3, c208_169 ⟨ixb8 l3, c208_183 ⟨by decide, by decide, c208_193 ?_⟩⟩⟩⟩
    rw [ix2 l3, ix7 l3, ix8 l3]
    simp (disch := decide) only [gup_grow, grow_grow, grow_at]
    refine ⟨?_, ?_⟩
    · refine bnd209 (by decide) (bnd209 (by omega) (bnd209 (by omega) (bnd209 (by omega) (bnd209 (by omega) ?_))))
      rw [fNew_ne (by omega)]
      exact h9
    · rw [e3] at hK
      exact hK
  · have n8 : ¬ (fWho (σ 324) x < 0 ∧ (k = 1 ∨ σ 324 1 ≤ x / 4)) := fun q => h10 q.2
    rw [if_neg h7, if_neg n8, if_neg (show ¬ gCom σ x k f w s from fun q => n8 q.2)] at hK; exact hK
  · rw [if_pos h7, if_neg (show ¬ gCom σ x k f w s from fun q => q.1.2 h7)] at hK; exact hK
noncomputable def f208 : gD := fun Lv σ => match Lv with
  | [some (.ref q0), some (.int x), some (.int k), some (.int f), some (.int w), some (.int s), none, none] => cond (Nat.beq q0 323) (some (some (RS σ ∧ RT σ), some (.int (aCom σ x k f w s)), hCom σ x k f w s)) none
  | _ => none
theorem ok208 : gFok 208 f208 := by
  intro Lv σ q h hc K hK
  unfold f208 at h
  split at h
  · rename_i q0 x k f w s
    obtain ⟨hb, h⟩ := c_no h
    have hb0 := hb
    have e0 := b_eq hb0
    subst e0
    cases h
    exact s208 (hc _ rfl) hK
  · cases h
