-- text 112
/-! THE LAW: pairs of calls: texts, slots, queries -/
theorem nmR_b {c r : Int32} (h : nmR c r) : 0 ≤ r ∧ (1 ≤ nsz r ∧ nsz r ≤ 5) := by
  obtain ⟨l, ⟨h1, h5⟩, hx, -, er⟩ := h
  have e : (List.range l.length).map (fun i => l.getD i 0) = l := by
    apply List.ext_getElem
    · simp
    · intro i h1 h2
      simp [List.getElem?_eq_getElem h2]
  have hf := (nm_fold (fun i => l.getD i 0) l.length).1
  rw [e] at hf
  rw [hf] at er
  have hd : ∀ i, i < l.length → 1 ≤ l.getD i 0 ∧ l.getD i 0 ≤ 26 := fun i hi => by
    rw [List.getD_eq_getElem?_getD, List.getElem?_eq_getElem hi]
    exact hx _ (List.getElem_mem hi)
  obtain ⟨k, hk⟩ : ∃ k, l.length = k + 1 := ⟨l.length - 1, by omega⟩
  have lo := nRd_ge (d := fun i => l.getD i 0) (k := k) (fun i hi => (hd i (by omega)).1)
  have hi : nRd (fun i => l.getD i 0) l.length < 27 ^ 5 := Nat.lt_of_lt_of_le (nRd_lt (fun i hi => (hd i hi).2)) (Nat.pow_le_pow_right (by decide) h5)
  have l5 : (27 : Nat) ^ 5 = 14348907 := by decide
  rw [← hk] at lo
  have big : nRd (fun i => l.getD i 0) l.length < 2147483648 := by omega
  have pk : 0 < 27 ^ k := Nat.pow_pos (by decide)
  rw [er]
  refine ⟨(iN_le (k := 0) (by decide) big).mpr (Nat.zero_le _), ?_, ?_⟩
  · unfold nsz
    rw [iN_nat big]
    have := nsN_ge 8 0 (nRd (fun i => l.getD i 0) l.length) (by rw [Nat.pow_zero]; omega) (by decide)
    omega
  · unfold nsz
    rw [iN_nat big]
    exact nsN_lt 8 5 _ hi
theorem GR_rf {B : Nat} {σ : gS} (g : GR B σ) : RS σ ∧ RT σ ∧ RZ σ ∧ (2 ≤ σ 324 0 ∧ σ 324 0 ≤ 10) ∧ bF (σ 324) ∧ bT (σ 324) ∧ nmG (σ 324) := by
  obtain ⟨g1, g2, g3, g4, g5, g6, g7, g8, g9⟩ := g
  refine ⟨g7, g9, g8, g2.2.2.2, g2.1, fun t ht => ?_, fun t ht => nmR_b (g1.2.2.2 t ht)⟩
  have ht' : t < nM (cR σ 6) := by rw [agr_n g1.1]; exact ht
  have := g1.2.1.2.1 t ht'
  rw [g1.1.2 t ht' 0 (by decide), g1.1.2 t ht' 1 (by decide), g1.1.2 t ht' 2 (by decide)] at this
  exact this
theorem and255 (x : Int32) : ¬ x &&& 255 = -1 := by
  intro h
  have h2 := congrArg (fun y : Int32 => y.toBitVec.getLsbD 8) h
  have e1 : (x &&& 255).toBitVec.getLsbD 8 = false := by
    rw [Int32.toBitVec_and, BitVec.getLsbD_and, show (255 : Int32).toBitVec.getLsbD 8 = false from by decide, Bool.and_false]
  have e2 : (-1 : Int32).toBitVec.getLsbD 8 = true := by decide
  have h2 : (x &&& 255).toBitVec.getLsbD 8 = (-1 : Int32).toBitVec.getLsbD 8 := h2
  rw [e1, e2] at h2
  cases h2
/-- as Pr, the reference's answer not told -/
noncomputable def Pa (n : Nat) (σ : gS) (z2 : Nat) (L2 : gL) (Q : Int32 → gS → Prop) : Prop := ∀ x1 s1, Sc σ s1 → (∀ Q2 : Int32 → gS → Prop, (∀ x2 τ, GI (n + 1) τ → Sc σ τ → Q2 x2 τ) → gXi z2 L2 s1 Q2) → Q x1 s1
theorem Pa_r {n : Nat} {σ : gS} {z2 : Nat} {L2 : gL} {Q : Int32 → gS → Prop} (k : Pa n σ z2 L2 Q) : Pr n σ z2 L2 Q := fun x1 s1 hs h => k x1 s1 hs (fun Q2 h2 => h Q2 (fun τ a b => h2 x1 τ a b))
theorem pr_append {n : Nat} {σ : gS} {Q : Int32 → gS → Prop} {a b c d e : Int32} (hn : n ≤ 600) (h : GI n σ) (k : Pr n σ 184 [some (.ref 323), some (.int a), some (.int b), some (.int c), some (.int d), some (.int e), none, none] Q) : gXi 108 [some (.ref 0), some (.int a), some (.int b), some (.int c), some (.int d), some (.int e)] σ Q := by
  obtain ⟨B, b1, b2, g, tb⟩ := h
  obtain ⟨hc, hF⟩ := GR_SC g
  obtain ⟨hi, ea, gr⟩ := GR_append (Bt := byt a b c d e) g
  have hL := g.2.2.2.2.1.1
  have rt : RT (clA σ (byt a b c d e)) := by
    show 0 ≤ clA σ (byt a b c d e) 323 8 ∧ clA σ (byt a b c d e) 323 8 ≤ 1000
    rw [hi 323 (by decide)]
    exact g.2.2.2.2.2.2.2.2
  refine s108 hL ⟨_, rfl, k _ (clA σ (byt a b c d e)) (Sc_hi hi) (fun Q2 h2 => s184 rt ⟨_, rfl, ?_⟩)⟩
  rw [hi 323 (by decide), ← ea]
  have tb2 : TB (clA σ (byt a b c d e)) := TB_of tb (by rw [hi 323 (by decide)]) (by rw [hi 330 (by decide)])
  refine h2 _ ⟨B, b1, by omega, gr, ?_⟩ ⟨?_, ?_⟩
  · generalize clA σ (byt a b c d e) = ρ at tb2 rt ⊢
    unfold hAp
    split
    · exact tb2
    · intro i hi2
      obtain ⟨eL, lL⟩ := l1000 rt
      rw [grow_at, rup_at] at hi2
      rw [grow_ne (by decide), grow_at]
      unfold fAp
      split
      · exact and255 _
      · refine tb2 i ?_
        rw [eL, show (20 : Int32) = iN 20 from rfl, iN_add, iN_nat (by omega)] at hi2
        omega
  · have e : ∀ ρ : gS, hAp ρ (byt a b c d e) 1000000 = ρ 1000000 := fun ρ => by
      unfold hAp
      split
      · rfl
      · rw [grow_ne (by decide), grow_ne (by decide)]
    rw [e, hi _ (by decide)]
  · have e : ∀ ρ : gS, hAp ρ (byt a b c d e) 1000001 = ρ 1000001 := fun ρ => by
      unfold hAp
      split
      · rfl
      · rw [grow_ne (by decide), grow_ne (by decide)]
    rw [e, hi _ (by decide)]
theorem pr_truncate {n : Nat} {σ : gS} {Q : Int32 → gS → Prop} {m : Int32} (hn : n ≤ 600) (h : GI n σ) (k : Pr n σ 185 [some (.ref 323), some (.int m)] Q) : gXi 109 [some (.ref 0), some (.int m)] σ Q := by
  obtain ⟨B, b1, b2, g, tb⟩ := h
  obtain ⟨hc, hF⟩ := GR_SC g
  obtain ⟨hi, ea, gr⟩ := GR_trunc (n := m) g
  have rt := g.2.2.2.2.2.2.2.2
  refine s109 ⟨_, rfl, k _ (clU σ m) (Sc_hi hi) (fun Q2 h2 => s185 ⟨_, rfl, ?_⟩)⟩
  have tb2 : TB (clU σ m) := TB_of tb (by rw [hi 323 (by decide)]) (by rw [hi 330 (by decide)])
  have e : (if gTru (clU σ m 323 8) m then clU σ m 323 8 - m else -1) = (if 0 ≤ m ∧ m ≤ σ 2 1 then σ 2 1 - m else -1) := by
    rw [hi 323 (by decide), ← ea]
  rw [e]
  refine h2 _ ⟨B, b1, by omega, gr, ?_⟩ ⟨?_, ?_⟩
  · split
    · rename_i q
      intro i hi2
      rw [grow_at, rup_at, hi 323 (by decide)] at hi2
      rw [grow_ne (by decide), hi 330 (by decide)]
      refine tb i ?_
      rw [hi 323 (by decide)] at q
      obtain ⟨eL, lL⟩ := l1000 rt
      obtain ⟨em, lm⟩ := iN_of (Int32.not_lt.mp q.1)
      have q2 := Int32.not_lt.mp q.2
      rw [eL, em] at q2
      have q2 := (iN_le lm (by omega)).mp q2
      rw [eL, em, iN_sub (by omega) q2, iN_nat (by omega)] at hi2
      omega
    · exact tb2
  · split
    · rw [grow_ne (by decide), hi _ (by decide)]
    · exact hi _ (by decide)
  · split
    · rw [grow_ne (by decide), hi _ (by decide)]
    · exact hi _ (by decide)
theorem pr_load {n : Nat} {σ : gS} {Q : Int32 → gS → Prop} (hn : n ≤ 600) (h : GI n σ) (k : Pr n σ 203 [some (.ref 323), none] Q) : gXi 110 [some (.ref 0), none, none] σ Q := by
  obtain ⟨B, b1, b2, g, tb⟩ := h
  obtain ⟨hc, hF⟩ := GR_SC g
  obtain ⟨hi, ea, gr⟩ := GR_load g b1 tb
  have hL := g.2.2.2.2.1.1
  have rt : RT (clL σ) := by
    show 0 ≤ clL σ 323 8 ∧ clL σ 323 8 ≤ 1000
    rw [hi 323 (by decide)]
    exact g.2.2.2.2.2.2.2.2
  refine s110 hL ⟨_, rfl, k _ (clL σ) (Sc_hi hi) (fun Q2 h2 => s203 rt ⟨_, rfl, ?_⟩)⟩
  rw [← ea]
  have J := dSet_J rt
  have z : ∀ q, q = 1000000 ∨ q = 1000001 → hLoad (clL σ) q = σ q := fun q hq => by
    rw [hLoad_e]
    unfold hLo
    split
    · unfold hLo1
      funext j
      rw [gup_ne (by omega), gup_ne (by omega), gup_ne (by omega), grow_ne (by omega), gup_ne (by omega), J.2.2 q (by omega) (by omega), hi q (by omega)]
    · funext j
      rw [gup_ne (by omega), J.2.2 q (by omega) (by omega), hi q (by omega)]
  refine h2 _ ⟨B, b1, by omega, gr, TB_0 ?_⟩ ⟨z _ (Or.inl rfl), z _ (Or.inr rfl)⟩
  rw [hLoad_e]
  unfold hLo
  split
  · unfold hLo1
    rw [gup_ne (by omega), gup_ne (by omega), gup_ne (by omega), grow_ne (by decide), gup_at]
  · rw [gup_at]
theorem pr_come {n : Nat} {σ : gS} {Q : Int32 → gS → Prop} {x v f w s : Int32} (hn : n ≤ 600) (h : GI n σ) (k : Pr n σ 208 [some (.ref 323), some (.int x), some (.int v), some (.int f), some (.int w), some (.int s), none, none] Q) : gXi 112 [some (.ref 0), some (.int x), some (.int v), some (.int f), some (.int w), some (.int s), none] σ Q := by
  obtain ⟨B, b1, b2, g, tb⟩ := h
  obtain ⟨hc, hF⟩ := GR_SC g
  obtain ⟨hi, ea, gr⟩ := GR_come (x := x) (k := v) (f := f) (w := w) (s := s) g
  have hL := g.2.2.2.2.1.1
  obtain ⟨rs, rt, -⟩ := GR_rf g
  have rs2 : RS (clC σ x v f w s) ∧ RT (clC σ x v f w s) := by
    refine ⟨?_, ?_⟩
    · unfold RS
      rw [hi 324 (by decide), hi 323 (by decide)]
      exact rs
    · show 0 ≤ clC σ x v f w s 323 8 ∧ clC σ x v f w s 323 8 ≤ 1000
      rw [hi 323 (by decide)]
      exact rt
  refine s112 ⟨hc, hL⟩ ⟨_, rfl, k _ (clC σ x v f w s) (Sc_hi hi) (fun Q2 h2 => s208 rs2 ⟨_, rfl, ?_⟩)⟩
  have eq : aCom (clC σ x v f w s) x v f w s = aCom σ x v f w s := by
    unfold aCom okC
    rw [hi 323 (by decide), hi 324 (by decide), hi 330 (by decide)]
  rw [eq, ← ea]
  have tb2 : TB (clC σ x v f w s) := TB_of tb (by rw [hi 323 (by decide)]) (by rw [hi 330 (by decide)])
  refine h2 _ ⟨B + 99, by omega, by omega, gr, ?_⟩ ⟨?_, ?_⟩
  · unfold hCom
    split
    · refine TB_0 ?_
      rw [grow_ne (by decide), grow_at, rup_at]
    · exact tb2
  · unfold hCom
    split
    · rw [grow_ne (by decide), grow_ne (by decide), hKe_ne (by decide) (by decide), hi _ (by decide)]
    · exact hi _ (by decide)
  · unfold hCom
    split
    · rw [grow_ne (by decide), grow_ne (by decide), hKe_ne (by decide) (by decide), hi _ (by decide)]
    · exact hi _ (by decide)
theorem pr_keep {n : Nat} {σ : gS} {Q : Int32 → gS → Prop} {f : Int32} (hn : n ≤ 600) (h : GI n σ) (k : Pr n σ 221 [some (.ref 323), some (.int f)] Q) : gXi 120 [some (.ref 0), some (.int f)] σ Q := by
  obtain ⟨B, b1, b2, g, tb⟩ := h
  obtain ⟨hc, hF⟩ := GR_SC g
  obtain ⟨hi, ea, gr⟩ := GR_keep (f := f) g
  refine s120 hc ⟨_, rfl, k _ (clK σ f) (Sc_hi hi) (fun Q2 h2 => s221 ⟨_, rfl, ?_⟩)⟩
  rw [hi 324 (by decide), ← ea]
  refine h2 _ ⟨B, b1, by omega, gr, TB_of tb ?_ ?_⟩ ⟨?_, ?_⟩
  · split
    · unfold hKp
      rw [grow_ne (by decide), grow_ne (by decide), hi _ (by decide)]
    · rw [hi _ (by decide)]
  · split
    · unfold hKp
      rw [grow_ne (by decide), grow_ne (by decide), hi _ (by decide)]
    · rw [hi _ (by decide)]
  · split
    · unfold hKp
      rw [grow_ne (by decide), grow_ne (by decide), hi _ (by decide)]
    · rw [hi _ (by decide)]
  · split
    · unfold hKp
      rw [grow_ne (by decide), grow_ne (by decide), hi _ (by decide)]
    · rw [hi _ (by decide)]
theorem pr_undo {n : Nat} {σ : gS} {Q : Int32 → gS → Prop} (hn : n ≤ 600) (h : GI n σ) (k : Pr n σ 223 [some (.ref 323)] Q) : gXi 122 [some (.ref 0)] σ Q := by
  obtain ⟨B, b1, b2, g, tb⟩ := h
  obtain ⟨hc, hF⟩ := GR_SC g
  obtain ⟨hi, ea, gr⟩ := GR_undo g
  obtain ⟨rs, rt, rz, -⟩ := GR_rf g
  have rs2 : RS (clW σ) ∧ RZ (clW σ) := by
    refine ⟨?_, ?_⟩
    · unfold RS
      rw [hi 324 (by decide), hi 323 (by decide)]
      exact rs
    · unfold RZ
      rw [hi 324 (by decide), hi 325 (by decide), hi 326 (by decide)]
      exact rz
  refine s122 ⟨hc.2.1, g.2.2.1.2.2⟩ ⟨_, rfl, k _ (clW σ) (Sc_hi hi) (fun Q2 h2 => s223 rs2 ⟨_, rfl, ?_⟩)⟩
  rw [hi 323 (by decide), ← ea]
  refine h2 _ ⟨B, b1, by omega, gr, TB_of tb ?_ ?_⟩ ⟨?_, ?_⟩
  · unfold hUn
    split
    · rw [hi 323 (by decide)]
    · rw [grow_ne (by decide), grow_at, rup_ne (by decide), hi 323 (by decide)]
  · unfold hUn
    split
    · exact hi _ (by decide)
    · rw [grow_ne (by decide), grow_ne (by decide), hi _ (by decide)]
  · unfold hUn
    split
    · exact hi _ (by decide)
    · rw [grow_ne (by decide), grow_ne (by decide), hi _ (by decide)]
  · unfold hUn
    split
    · exact hi _ (by decide)
    · rw [grow_ne (by decide), grow_ne (by decide), hi _ (by decide)]
theorem pr_errorPosition {n : Nat} {σ : gS} {Q : Int32 → gS → Prop} (hn : n ≤ 600) (h : GI n σ) (k : Pr n σ 186 [some (.ref 323)] Q) : gXi 111 [some (.ref 0)] σ Q := by
  obtain ⟨B, b1, b2, g, tb⟩ := h
  obtain ⟨hc, hF⟩ := GR_SC g
  refine s111 ⟨_, rfl, k _ σ (Sc_r σ) (fun Q2 h2 => s186 ⟨_, rfl, ?_⟩)⟩
  rw [← g.2.2.2.2.2.1]
  exact h2 σ ⟨B, b1, by omega, g, tb⟩ (Sc_r σ)
theorem pq_value {n : Nat} {σ : gS} {Q : Int32 → gS → Prop} {w : Int32} (h : GI n σ) (k : Pa n σ 227 [some (.ref 323), some (.int w)] Q) : gXi 123 [some (.ref 0), some (.int w)] σ Q := by
  have h' := h
  obtain ⟨B, b1, b2, g, tb⟩ := h'
  obtain ⟨hc, hF⟩ := GR_SC g
  obtain ⟨rs, rt, rz, h0, rF, rT, nG⟩ := GR_rf g
  exact s123 hc ⟨_, rfl, k _ σ (Sc_r σ) (fun Q2 h2 => s227 rs ⟨_, rfl, h2 _ σ (GI_up h) (Sc_r σ)⟩)⟩
theorem pq_of {n : Nat} {σ : gS} {Q : Int32 → gS → Prop} {t w : Int32} (h : GI n σ) (k : Pa n σ 229 [some (.ref 323), some (.int t), some (.int w), none] Q) : gXi 124 [some (.ref 0), some (.int t), some (.int w), none] σ Q := by
  have h' := h
  obtain ⟨B, b1, b2, g, tb⟩ := h'
  obtain ⟨hc, hF⟩ := GR_SC g
  obtain ⟨rs, rt, rz, h0, rF, rT, nG⟩ := GR_rf g
  exact s124 hc ⟨_, rfl, k _ σ (Sc_r σ) (fun Q2 h2 => s229 rs ⟨_, rfl, h2 _ σ (GI_up h) (Sc_r σ)⟩)⟩
theorem pq_letter {n : Nat} {σ : gS} {Q : Int32 → gS → Prop} {t i : Int32} (h : GI n σ) (k : Pa n σ 230 [some (.ref 323), some (.int t), some (.int i), none] Q) : gXi 125 [some (.ref 0), some (.int t), some (.int i), none] σ Q := by
  have h' := h
  obtain ⟨B, b1, b2, g, tb⟩ := h'
  obtain ⟨hc, hF⟩ := GR_SC g
  obtain ⟨rs, rt, rz, h0, rF, rT, nG⟩ := GR_rf g
  exact s125 hc ⟨_, rfl, k _ σ (Sc_r σ) (fun Q2 h2 => s230 ⟨rs, nG⟩ ⟨_, rfl, h2 _ σ (GI_up h) (Sc_r σ)⟩)⟩
theorem pq_at {n : Nat} {σ : gS} {Q : Int32 → gS → Prop} {x : Int32} (h : GI n σ) (k : Pa n σ 231 [some (.ref 323), some (.int x)] Q) : gXi 126 [some (.ref 0), some (.int x)] σ Q := by
  have h' := h
  obtain ⟨B, b1, b2, g, tb⟩ := h'
  obtain ⟨hc, hF⟩ := GR_SC g
  obtain ⟨rs, rt, rz, h0, rF, rT, nG⟩ := GR_rf g
  exact s126 hc ⟨_, rfl, k _ σ (Sc_r σ) (fun Q2 h2 => s231 rs ⟨_, rfl, h2 _ σ (GI_up h) (Sc_r σ)⟩)⟩
theorem pq_table {n : Nat} {σ : gS} {Q : Int32 → gS → Prop} {b w : Int32} (h : GI n σ) (k : Pa n σ 235 [some (.ref 323), some (.int b), some (.int w), none, none, none, none, none] Q) : gXi 127 [some (.ref 0), some (.int b), some (.int w)] σ Q := by
  have h' := h
  obtain ⟨B, b1, b2, g, tb⟩ := h'
  obtain ⟨hc, hF⟩ := GR_SC g
  obtain ⟨rs, rt, rz, h0, rF, rT, nG⟩ := GR_rf g
  exact s127 hc ⟨_, rfl, k _ σ (Sc_r σ) (fun Q2 h2 => s235 rs ⟨_, rfl, h2 _ σ (GI_up h) (Sc_r σ)⟩)⟩
theorem pq_family {n : Nat} {σ : gS} {Q : Int32 → gS → Prop} {f w : Int32} (h : GI n σ) (k : Pa n σ 238 [some (.ref 323), some (.int f), some (.int w)] Q) : gXi 128 [some (.ref 0), some (.int f), some (.int w)] σ Q := by
  have h' := h
  obtain ⟨B, b1, b2, g, tb⟩ := h'
  obtain ⟨hc, hF⟩ := GR_SC g
  obtain ⟨rs, rt, rz, h0, rF, rT, nG⟩ := GR_rf g
  exact s128 hc ⟨_, rfl, k _ σ (Sc_r σ) (fun Q2 h2 => s238 ⟨rs, h0⟩ ⟨_, rfl, h2 _ σ (GI_up h) (Sc_r σ)⟩)⟩
theorem pq_ranked {n : Nat} {σ : gS} {Q : Int32 → gS → Prop} {x : Int32} (h : GI n σ) (k : Pa n σ 239 [some (.ref 323), some (.int x), none] Q) : gXi 129 [some (.ref 0), some (.int x)] σ Q := by
  have h' := h
  obtain ⟨B, b1, b2, g, tb⟩ := h'
  obtain ⟨hc, hF⟩ := GR_SC g
  obtain ⟨rs, rt, rz, h0, rF, rT, nG⟩ := GR_rf g
  exact s129 hc ⟨_, rfl, k _ σ (Sc_r σ) (fun Q2 h2 => s239 rs ⟨_, rfl, h2 _ σ (GI_up h) (Sc_r σ)⟩)⟩
theorem pq_why {n : Nat} {σ : gS} {Q : Int32 → gS → Prop} {a b x : Int32} (h : GI n σ) (k : Pa n σ 240 [some (.ref 323), some (.int a), some (.int b), some (.int x)] Q) : gXi 130 [some (.ref 0), some (.int a), some (.int b), some (.int x)] σ Q := by
  have h' := h
  obtain ⟨B, b1, b2, g, tb⟩ := h'
  obtain ⟨hc, hF⟩ := GR_SC g
  obtain ⟨rs, rt, rz, h0, rF, rT, nG⟩ := GR_rf g
  exact s130 hc ⟨_, rfl, k _ σ (Sc_r σ) (fun Q2 h2 => s240 rs ⟨_, rfl, h2 _ σ (GI_up h) (Sc_r σ)⟩)⟩
theorem pq_whyMove {n : Nat} {σ : gS} {Q : Int32 → gS → Prop} {t x : Int32} (h : GI n σ) (k : Pa n σ 241 [some (.ref 323), some (.int t), some (.int x)] Q) : gXi 131 [some (.ref 0), some (.int t), some (.int x)] σ Q := by
  have h' := h
  obtain ⟨B, b1, b2, g, tb⟩ := h'
  obtain ⟨hc, hF⟩ := GR_SC g
  obtain ⟨rs, rt, rz, h0, rF, rT, nG⟩ := GR_rf g
  exact s131 hc ⟨_, rfl, k _ σ (Sc_r σ) (fun Q2 h2 => s241 rs ⟨_, rfl, h2 _ σ (GI_up h) (Sc_r σ)⟩)⟩
theorem pq_joyAt {n : Nat} {σ : gS} {Q : Int32 → gS → Prop} {t x : Int32} (h : GI n σ) (k : Pa n σ 242 [some (.ref 323), some (.int t), some (.int x)] Q) : gXi 132 [some (.ref 0), some (.int t), some (.int x)] σ Q := by
  have h' := h
  obtain ⟨B, b1, b2, g, tb⟩ := h'
  obtain ⟨hc, hF⟩ := GR_SC g
  obtain ⟨rs, rt, rz, h0, rF, rT, nG⟩ := GR_rf g
  exact s132 hc ⟨_, rfl, k _ σ (Sc_r σ) (fun Q2 h2 => s242 rs ⟨_, rfl, h2 _ σ (GI_up h) (Sc_r σ)⟩)⟩
theorem pq_ifSwapped {n : Nat} {σ : gS} {Q : Int32 → gS → Prop} {a b w : Int32} (h : GI n σ) (k : Pa n σ 243 [some (.ref 323), some (.int a), some (.int b), some (.int w)] Q) : gXi 133 [some (.ref 0), some (.int a), some (.int b), some (.int w)] σ Q := by
  have h' := h
  obtain ⟨B, b1, b2, g, tb⟩ := h'
  obtain ⟨hc, hF⟩ := GR_SC g
  obtain ⟨rs, rt, rz, h0, rF, rT, nG⟩ := GR_rf g
  exact s133 hc ⟨_, rfl, k _ σ (Sc_r σ) (fun Q2 h2 => s243 rs ⟨_, rfl, h2 _ σ (GI_up h) (Sc_r σ)⟩)⟩
theorem pq_leastPrice {n : Nat} {σ : gS} {Q : Int32 → gS → Prop} {a b : Int32} (h : GI n σ) (k : Pa n σ 244 [some (.ref 323), some (.int a), some (.int b), none] Q) : gXi 134 [some (.ref 0), some (.int a), some (.int b), none] σ Q := by
  have h' := h
  obtain ⟨B, b1, b2, g, tb⟩ := h'
  obtain ⟨hc, hF⟩ := GR_SC g
  obtain ⟨rs, rt, rz, h0, rF, rT, nG⟩ := GR_rf g
  exact s134 hc ⟨_, rfl, k _ σ (Sc_r σ) (fun Q2 h2 => s244 rs ⟨_, rfl, h2 _ σ (GI_up h) (Sc_r σ)⟩)⟩
theorem pq_bestSeat {n : Nat} {σ : gS} {Q : Int32 → gS → Prop} {t : Int32} (h : GI n σ) (k : Pa n σ 245 [some (.ref 323), some (.int t), none, none] Q) : gXi 135 [some (.ref 0), some (.int t)] σ Q := by
  have h' := h
  obtain ⟨B, b1, b2, g, tb⟩ := h'
  obtain ⟨hc, hF⟩ := GR_SC g
  obtain ⟨rs, rt, rz, h0, rF, rT, nG⟩ := GR_rf g
  exact s135 hc ⟨_, rfl, k _ σ (Sc_r σ) (fun Q2 h2 => s245 ⟨rs, h0⟩ ⟨_, rfl, h2 _ σ (GI_up h) (Sc_r σ)⟩)⟩
theorem pq_partner {n : Nat} {σ : gS} {Q : Int32 → gS → Prop} {t : Int32} (h : GI n σ) (k : Pa n σ 246 [some (.ref 323), some (.int t), none, none, none, none] Q) : gXi 136 [some (.ref 0), some (.int t)] σ Q := by
  have h' := h
  obtain ⟨B, b1, b2, g, tb⟩ := h'
  obtain ⟨hc, hF⟩ := GR_SC g
  obtain ⟨rs, rt, rz, h0, rF, rT, nG⟩ := GR_rf g
  exact s136 hc ⟨_, rfl, k _ σ (Sc_r σ) (fun Q2 h2 => s246 rs ⟨_, rfl, h2 _ σ (GI_up h) (Sc_r σ)⟩)⟩
theorem pq_rings {n : Nat} {σ : gS} {Q : Int32 → gS → Prop} (h : GI n σ) (k : Pa n σ 247 [some (.ref 323), none, none, none, none] Q) : gXi 137 [some (.ref 0)] σ Q := by
  have h' := h
  obtain ⟨B, b1, b2, g, tb⟩ := h'
  obtain ⟨hc, hF⟩ := GR_SC g
  obtain ⟨rs, rt, rz, h0, rF, rT, nG⟩ := GR_rf g
  exact s137 ⟨hc, hF⟩ ⟨_, rfl, k _ σ (Sc_r σ) (fun Q2 h2 => s247 rs ⟨_, rfl, h2 _ σ (GI_up h) (Sc_r σ)⟩)⟩
theorem pq_ifFirst {n : Nat} {σ : gS} {Q : Int32 → gS → Prop} {x : Int32} (h : GI n σ) (k : Pa n σ 249 [some (.ref 323), some (.int x)] Q) : gXi 139 [some (.ref 0), some (.int x)] σ Q := by
  have h' := h
  obtain ⟨B, b1, b2, g, tb⟩ := h'
  obtain ⟨hc, hF⟩ := GR_SC g
  obtain ⟨rs, rt, rz, h0, rF, rT, nG⟩ := GR_rf g
  exact s139 hc ⟨_, rfl, k _ σ (Sc_r σ) (fun Q2 h2 => s249 rs ⟨_, rfl, h2 _ σ (GI_up h) (Sc_r σ)⟩)⟩
theorem pq_log {n : Nat} {σ : gS} {Q : Int32 → gS → Prop} {i c : Int32} (h : GI n σ) (k : Pa n σ 250 [some (.ref 323), some (.int i), some (.int c)] Q) : gXi 140 [some (.ref 0), some (.int i), some (.int c)] σ Q := by
  have h' := h
  obtain ⟨B, b1, b2, g, tb⟩ := h'
  obtain ⟨hc, hF⟩ := GR_SC g
  obtain ⟨rs, rt, rz, h0, rF, rT, nG⟩ := GR_rf g
  exact s140 hc ⟨_, rfl, k _ σ (Sc_r σ) (fun Q2 h2 => s250 rs ⟨_, rfl, h2 _ σ (GI_up h) (Sc_r σ)⟩)⟩
