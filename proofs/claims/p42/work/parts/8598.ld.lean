/-! LOAD over any heap -/
/-- a call's row whose phantom behind it is told by P -/
def XE (z : Nat) (L : gL) (n : Nat) (ρ : gS) (v : Value) (n' : Nat) (P : gS → Prop) : Prop := n ≤ 9000 → ∀ σ, GI n σ → XQ σ ρ → gE z 0 L [] σ (fun r σ' => r = some v ∧ ∃ τ, (∀ a, a < 323 → τ a = σ' a) ∧ GI n' τ ∧ P τ)
theorem lx_callE {y pc B n n' c s z na mL : Nat} {ρ : gS} {A : jAs} {h0 h : jv_H} {Lv : List (Option Value)} {r : List Value} {K : jK} {v : Value} {L : gL} {P : gS → Prop} (hD : jx_chk y pc z na mL 1 7 = true) (hx : LX B n ρ A c s h0 h) (hr : XE z L n ρ v n' P) (hn : n' ≤ 9000) (hL : L = some (.ref 0) :: List.replicate (mL - 1) none) (hna : na = 1) (hv : ∀ f, jm_v f v = v) (hw1 : jv_wd r ≤ 8)
    (hg : ∀ h' τ, P τ → LX B n' τ A c s h0 h' → jE y (pc + 3) Lv (v :: r) h' K) : jE y pc Lv (.ref B :: r) h K := by
  obtain ⟨⟨x1, σ, x2, x3, x4⟩, h2, h3, h4, h5⟩ := hx
  have hB := x2.1
  have hg1 := hr x1 σ x3 x4
  rw [hL] at hg1
  subst hna
  refine jx_x (as := []) hD x2 rfl hw1 rfl hg1 (fun w hw => by cases hw) (fun r0 σ' h' hk x5 xf => ?_)
  obtain ⟨rfl, τ, t1, t2, t3⟩ := hk
  have e : ((some v : Option Value).map (jm_v (fun a => a + B))).toList ++ r = v :: r := by
    show [jm_v _ v] ++ r = _
    rw [hv]
    rfl
  rw [e]
  have f2 : h'.2 = h.2 := xf.1
  have f3 : ∀ a, a < B ∨ B + 323 ≤ a → h'.1 a = h.1 a := xf.2
  obtain ⟨g1, g2, g3⟩ := h5
  refine hg h' τ t3 ⟨⟨hn, τ, x5.ph t1, t2, XQ.rf⟩, fun q hq => ?_, h3, by unfold bud; rw [f2]; exact h4, g1, by rw [f2]; exact g2, fun a ha hb => ?_⟩
  · obtain ⟨i1, i2⟩ := h2 q hq
    exact ⟨i1.fr (f3 _ (by omega)) (by rw [f2]; exact Nat.le_refl _), i2⟩
  · rw [f3 a hb]
    exact g3 a ha hb
/-- behind load: the row that the text tells, nothing kept, nothing done -/
def LdF (R F : Nat) (l : List TV) (τ : gS) : Prop := ((τ 323 8 = 0 ∧ τ 323 6 = 0) ∧ τ 323 9 = -2 ∧ τ 329 0 = 0 ∧ τ 329 1 = 0) ∧ (τ 324 0 = iN R ∧ τ 324 1 = iN F ∧ τ 324 2 = 0 ∧ τ 324 3 = iN l.length) ∧ ∀ i f, i < l.length → f < 10 → fld (τ 324) i f = lnV (l.getD i default) f
/-- the text w on the tape -/
def OnT (ρ : gS) (w : List Int32) : Prop := ρ 323 8 = iN w.length ∧ w.length ≤ 1000 ∧ ∀ j, j < w.length → ρ 330 j = w.getD j 0
/-- a text that load takes -/
def TxO (R F : Nat) (l : List TV) : Prop := ((2 ≤ R ∧ R ≤ 10) ∧ F ≤ R ∧ l.length ≤ 20) ∧ (∀ s ∈ l, TVok R s ∧ (s.1.2.2 = true ∨ F ≤ s.1.1 / 4)) ∧ (l.map (fun s => s.1.1)).Nodup
theorem hLo_F {ρ : gS} {R F : Nat} {l : List TV} (ok : TxO R F l) (ht : OnT ρ (hdT R F ++ txt l)) : aLo (dSet ρ) = iN l.length ∧ LdF R F l (hLoad ρ) ∧ ∀ a, a < 323 → hLoad ρ a = ρ a := by
  obtain ⟨⟨oR, oF, ol⟩, o1, o2⟩ := ok
  have g := dSet_go ht.1 ht.2.1 ht.2.2 rfl oR oF ol o1 o2
  obtain ⟨k1, k2, k3, k4⟩ := foD_ok l 0 (D0 ρ R F) rfl (by omega)
  rw [hLoad_e]
  generalize dSet ρ = κ at *
  generalize foD (D0 ρ R F) 0 l = E at *
  have h15 := g.1.1.1
  have h25 := g.2.2.1
  have e3 : κ 325 3 = iN l.length := by rw [h25, k1, Nat.zero_add]
  have eR : ∀ j, j < 330 → rla (κ 325) (gup κ 323 8 0 324) 0 0 330 j = E j := by
    intro j hj
    unfold rla
    rw [if_pos ⟨Nat.zero_le _, by omega⟩, h25, Nat.sub_zero, Nat.zero_add]
  unfold hLo
  rw [if_pos h15]
  have e4 : ∀ j, j < 330 → hLo1 κ 324 j = E j := by
    intro j hj
    unfold hLo1
    rw [gup_ne (by omega), gup_ne (by omega), gup_ne (by omega), grow_at]
    have := eR j hj
    rw [show gup κ 323 8 0 324 = κ 324 from by funext i; exact gup_ne (by omega)] at this
    exact this
  have e5 : ∀ j, ¬ j = 6 → ¬ j = 8 → hLo1 κ 323 j = κ 323 j := by
    intro j h6 h8
    unfold hLo1
    rw [gup_ne (by omega), gup_ne (by omega), gup_ne (by omega), grow_ne (by decide), gup_ne (by omega)]
  refine ⟨?_, ⟨⟨⟨?_, ?_⟩, ?_, ?_, ?_⟩, ⟨?_, ?_, ?_, ?_⟩, fun i f hi hf => ?_⟩, fun a ha => ?_⟩
  · unfold aLo
    rw [if_pos h15]
    exact e3
  · unfold hLo1
    rw [gup_ne (by omega), gup_ne (by omega), gup_ne (by omega), grow_ne (by decide), gup_at]
  · unfold hLo1
    rw [gup_ne (by omega), gup_ne (by omega), gup_at]
  · rw [e5 9 (by decide) (by decide)]
    exact g.1.1.2
  · unfold hLo1
    rw [gup_ne (by omega), gup_at]
  · unfold hLo1
    rw [gup_at]
  · rw [e4 0 (by decide), k2 0 (by decide) (by decide)]
    rfl
  · rw [e4 1 (by decide), k2 1 (by decide) (by decide)]
    rfl
  · rw [e4 2 (by decide), k2 2 (by decide) (by decide)]
    rfl
  · rw [e4 3 (by decide), k1, Nat.zero_add]
  · have := k4 i f hi hf
    rw [Nat.zero_add] at this
    rw [← this]
    exact e4 _ (by omega)
  · have := g.2.2.2.1 a (by omega) (by omega)
    rw [← this]
    unfold hLo1
    funext j
    rw [gup_ne (by omega), gup_ne (by omega), gup_ne (by omega), grow_ne (by omega), gup_ne (by omega)]
theorem xe_load {n : Nat} {ρ : gS} {R F : Nat} {l : List TV} (ok : TxO R F l) (ht : OnT ρ (hdT R F ++ txt l)) : XE 110 [some (.ref 0), none, none] n ρ (.int (iN l.length)) n (LdF R F l) := fun hn σ h q => by
  obtain ⟨B, b1, b2, g, tb⟩ := h
  obtain ⟨hi, ea, gr⟩ := GR_load g b1 tb
  have ht2 : OnT (clL σ) (hdT R F ++ txt l) := by
    obtain ⟨t1, t2, t3⟩ := ht
    refine ⟨?_, t2, fun j hj => ?_⟩
    · rw [hi 323 (by decide), q.1]
      exact t1
    · rw [hi 330 (by decide), q.2.2.2.2.2]
      exact t3 j hj
  obtain ⟨a1, a2, a3⟩ := hLo_F ok ht2
  refine s110 g.2.2.2.2.1.1 ⟨by rw [ea, a1], hLoad (clL σ), a3, ⟨B, b1, b2, gr, fun i hi2 => ?_⟩, a2⟩
  rw [a2.1.1.1] at hi2
  exact absurd hi2 (Nat.not_lt_zero _)
/-! the row behind load -/
theorem LdF.get {R F : Nat} {l : List TV} {τ : gS} (h : LdF R F l τ) {t : Nat} (ht : t < l.length) : ∃ s, s ∈ l ∧ l.getD t default = s ∧ l[t]? = some s ∧ ∀ f, f < 10 → fld (τ 324) t f = lnV s f := by
  have e := List.getElem?_eq_getElem ht
  have e2 : l.getD t default = l[t] := by rw [List.getD_eq_getElem?_getD, e]; rfl
  exact ⟨l[t], List.getElem_mem ht, e2, e, fun f hf => by rw [h.2.2 t f ht hf, e2]⟩
theorem LdF.sq {R F : Nat} {l : List TV} {τ : gS} (ok : TxO R F l) (h : LdF R F l τ) : SQ (RWp 0) τ := by
  obtain ⟨⟨oR, oF, ol⟩, o1, o2⟩ := ok
  have hg := fun t ht => h.get (t := t) ht
  obtain ⟨⟨⟨h8, h6⟩, h9, s0, s1⟩, ⟨r0, r1, r2, r3⟩, -⟩ := h
  have hnM : nM (τ 324) = l.length := by
    unfold nM
    rw [r3]
    exact iN_nat (by omega)
  refine ⟨⟨⟨⟨⟨fun t ht => ?_, fun t o ht ho e => ?_, fun t ht => ?_, ?_⟩, by omega⟩, ⟨0, Nat.le_refl _, r2⟩, fun t ht => ?_⟩, ?_⟩, fun u hu => ?_, fun s hs hz => ?_⟩
  · rw [hnM] at ht
    obtain ⟨s, hs, -, -, hf⟩ := hg t ht
    have hc := (o1 s hs).1.1.1
    rw [hf 0 (by decide), r0, show (4 : Int32) = iN 4 from rfl, iN_mul]
    exact ⟨(iN_le (k := 0) (by decide) (by omega)).mpr (Nat.zero_le _), (iN_lt (by omega) (by omega)).mpr hc⟩
  · rw [hnM] at ht ho
    obtain ⟨s, hs, -, gs, hf⟩ := hg t ht
    obtain ⟨x, hx, -, gx, hf2⟩ := hg o ho
    have hc := (o1 s hs).1.1.1
    have hc2 := (o1 x hx).1.1.1
    rw [hf 0 (by decide), hf2 0 (by decide)] at e
    have e : s.1.1 = x.1.1 := (iN_inj (by omega) (by omega)).mp e
    have n1 : (l.map (fun s => s.1.1))[t]? = some s.1.1 := by rw [List.getElem?_map, gs]; rfl
    have n2 : (l.map (fun s => s.1.1))[o]? = some x.1.1 := by rw [List.getElem?_map, gx]; rfl
    rw [← e] at n2
    exact (List.getElem?_inj (by rw [List.length_map]; exact ht) o2).mp (n1.trans n2.symm)
  · rw [hnM] at ht
    obtain ⟨s, hs, -, -, hf⟩ := hg t ht
    obtain ⟨ok, may⟩ := o1 s hs
    have hc := ok.1.1
    rcases may with z | z
    · left
      rw [hf 1 (by decide)]
      exact if_pos z
    · right
      rw [hf 0 (by decide), r1]
      show iN F ≤ iN s.1.1 / 4
      rw [show (4 : Int32) = iN 4 from rfl, iN_div (by omega) (by decide)]
      exact (iN_le (by omega) (by omega)).mpr z
  · rw [r1, r0]
    exact ⟨(iN_le (k := 0) (by decide) (by omega)).mpr (Nat.zero_le _), (iN_le (by omega) (by omega)).mpr oF⟩
  · rw [hnM] at ht
    obtain ⟨s, hs, -, -, hf⟩ := hg t ht
    obtain ⟨⟨⟨c1, c2, c3⟩, -, c5, -, c8⟩, -⟩ := o1 s hs
    refine ⟨?_, ?_, ?_⟩
    · rw [hf 8 (by decide)]
      show 1 ≤ (s.2.2.2.2.map iN).getD 99 ∧ (s.2.2.2.2.map iN).getD 99 ≤ 99
      cases e : s.2.2.2.2 with
      | none => decide
      | some k =>
        have := c8 k e
        exact ⟨(iN_le (k := 1) (by decide) (by omega)).mpr this.1, (iN_le (m := 99) (by omega) (by decide)).mpr this.2⟩
    · rw [hf 5 (by decide), r0]
      show (s.2.2.1.map (fun p => iN p.1)).getD 0 < iN R
      cases e : s.2.2.1 with
      | none => exact (iN_lt (k := 0) (by decide) (by omega)).mpr (by omega)
      | some p =>
        have := c5 p e
        exact (iN_lt (by omega) (by omega)).mpr this.1
    · rw [hf 9 (by decide)]
      exact c3.2
  · rw [r3]
    exact (iN_le (k := 0) (by decide) (by omega)).mpr (Nat.zero_le _)
  · rw [h6] at hu
    exact absurd hu (Nat.not_lt_zero _)
  · have c : s = 0 ∨ s = 1 := by omega
    rcases c with rfl | rfl
    · exact absurd s0 hz
    · exact absurd s1 hz
