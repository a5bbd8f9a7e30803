-- text 115
/-! THE LAW: its start -/
/-- what the loop head's heap says of a place's numbers -/
noncomputable def wS (a k : Nat) : Int32 := cond (Nat.blt k (gln a)) (Int32.ofNat (gct a k)) 0
noncomputable def w0 (L : Nat) (xs : Nat → Int32) : gS := fun a k => if a < 332 then wS a k else if a = 1000000 then xs k else if a = 1000001 ∧ k = 0 then Int32.ofNat L else 0
theorem w0_lo {L : Nat} {xs : Nat → Int32} {a : Nat} (h : a < 332) : w0 L xs a = wS a := by
  funext k
  unfold w0
  rw [if_pos h]
theorem wS_in {a k : Nat} (h : k < gln a) : wS a k = Int32.ofNat (gct a k) := by
  unfold wS
  rw [show Nat.blt k (gln a) = true from by rw [Nat.blt_eq]; exact h]
  rfl
theorem wS_out {a k : Nat} (h : gln a ≤ k) : wS a k = 0 := by
  unfold wS
  have e : Nat.blt k (gln a) = false := by
    cases q : Nat.blt k (gln a) with
    | false => rfl
    | true => exact absurd (b_lt q) (by omega)
  rw [e]
  rfl
/-- every number's place holds a number, every place's a place -/
noncomputable def wOk (a k : Nat) : Bool := cond (Nat.blt (gkd a) 2) (Nat.blt (gct a k) sM) (cond (Nat.blt (gkd a) 4) (s_isR (gct a k)) (cond (Nat.ble 16 (gkd a) && gfi (gkd a - 16) k) (Nat.blt (gct a k) sM) true))
theorem wOk_all : s_all (fun a => s_all (fun k => wOk a k) 0 (gln a)) 0 332 = true := by decide +kernel
theorem wOk_at {a k : Nat} (ha : a < 332) (hk : k < gln a) : wOk a k = true := s_all0 (s_all0 wOk_all a ha) k hk
theorem gpl_of {a k b : Nat} (h1 : gct a k = sREF + b) (h2 : b < sM) : gpl a k = b := by
  unfold gpl
  rw [h1]
  show (4294967296 + b) % 4294967296 = b
  have h3 : b < 4294967296 := h2
  omega
theorem w_cell {ρ : Nat → Int32} {a : Nat} {x : jv_E} (ha : a < 332) (h : sCk ρ (sh0.1 a) x) : gCk (wS a) a x := by
  match x, h with
  | .inl (ty, n, f), h =>
    obtain ⟨e1, e2, e3, e4⟩ := h
    refine ⟨e1, e2, e3, fun i hi => ?_⟩
    have e1' : gkd a = ty := e1
    have e3' : gln a = n := e3
    have q := wOk_at (k := i) ha (by rw [e3']; exact hi)
    unfold wOk at q
    rw [show Nat.blt (gkd a) 2 = true from by rw [Nat.blt_eq, e1']; exact e2] at q
    have q2 := sr_num (b_lt (show Nat.blt (gct a i) sM = true from q)) (e4 i hi)
    rw [wS_in (by rw [e3']; exact hi)]
    exact Value.int.inj q2
  | .inr (.inl (ty, n, g)), h =>
    obtain ⟨e1, e2, e3, e4⟩ := h
    refine ⟨e1, e2, e3, fun i hi => ?_⟩
    have e1' : gkd a = ty := e1
    have e3' : gln a = n := e3
    have q := wOk_at (k := i) ha (by rw [e3']; exact hi)
    unfold wOk at q
    have k1 : Nat.blt (gkd a) 2 = false := by rw [e1']; rcases e2 with rfl | rfl <;> rfl
    have k2 : Nat.blt (gkd a) 4 = true := by rw [e1']; rcases e2 with rfl | rfl <;> rfl
    rw [k1, k2] at q
    have q2 : s_isR (gct a i) = true := q
    have q3 := e4 i hi
    cases hg : g i with
    | none =>
      rw [hg] at q3
      have q4 : gct a i = sNUL := q3
      rw [q4] at q2
      exact absurd q2 (by decide)
    | some b =>
      rw [hg] at q3
      rw [gpl_of q3.1 q3.2]
  | .inr (.inr (d, fs)), h =>
    obtain ⟨e1, e2, e3⟩ := h
    refine ⟨e1, e2, fun i v hv => ?_⟩
    have e1' : gkd a = 16 + d := e1
    have e2' : gln a = fs.length := e2
    have hi : i < gln a := by rw [e2']; exact (List.getElem?_eq_some_iff.mp hv).1
    have q := wOk_at (k := i) ha hi
    unfold wOk at q
    have k1 : Nat.blt (gkd a) 2 = false := by
      cases z : Nat.blt (gkd a) 2 with
      | false => rfl
      | true => have := b_lt z; omega
    have k2 : Nat.blt (gkd a) 4 = false := by
      cases z : Nat.blt (gkd a) 4 with
      | false => rfl
      | true => have := b_lt z; omega
    have k3 : Nat.ble 16 (gkd a) = true := by rw [Nat.ble_eq, e1']; omega
    have k4 : gkd a - 16 = d := by rw [e1']; omega
    rw [k1, k2, k3, k4] at q
    have q2 := e3 i v hv
    have hr : sr ρ (gct a i) v := q2
    unfold gvl
    cases hf : gfi d i with
    | true =>
      rw [hf] at q
      rw [wS_in hi]
      exact sr_num (b_lt (show Nat.blt (gct a i) sM = true from q)) hr
    | false =>
      cases hs : s_isR (gct a i) with
      | false => exact trivial
      | true =>
        obtain ⟨z1, z2, z3⟩ := sr_ref hs hr
        rw [gpl_of z3 z2]
        exact z1
theorem w_rel {ρ : Nat → Int32} {L : Nat} {xs : Nat → Int32} {h : jv_H} (hL : L ≤ 3072) (hH : sHk ρ L xs sh0 h) : gRel L xs (w0 L xs) h := by
  obtain ⟨h1, h2, h3, h4, h5⟩ := hH
  refine ⟨h1, h2, ⟨h4, by omega, ?_, fun i hi => ?_⟩, fun a ha => ?_⟩
  · unfold w0
    rw [if_neg (by decide), if_neg (by decide), if_pos ⟨rfl, rfl⟩]
  · unfold w0
    rw [if_neg (by decide), if_pos rfl]
  · rw [w0_lo ha]
    exact w_cell ha (h5 a ha)
theorem wS_n : nM (cR wS 6) = 0 := by decide +kernel
theorem wS_nR : nM (wS 324) = 0 := by decide +kernel
theorem wS_SV : SV wS 6 (wS 324) := by
  refine ⟨⟨by decide +kernel, fun t ht => absurd ht (by rw [wS_n]; omega)⟩, ⟨by decide +kernel, fun t ht => absurd ht (by rw [wS_n]; omega), ?_⟩, ⟨by decide +kernel, by decide +kernel, fun i hi => ?_⟩, fun t ht => absurd ht (by rw [wS_nR]; omega)⟩
  · decide +kernel
  · rw [show (wS 30 2).toNatClampNeg = 0 from by decide +kernel] at hi
    exact absurd hi (Nat.not_lt_zero _)
theorem wS_GD : GD 1980 (wS 324) := by
  refine ⟨fun t ht => absurd ht (by rw [wS_nR]; omega), fun t ht => absurd ht (by rw [wS_nR]; omega), ?_, by decide +kernel⟩
  rw [wS_nR]
  exact Nat.zero_le _
theorem wS_113 : (wS 113 2).toNatClampNeg = 0 := by decide +kernel
theorem wS_PG : PG 1980 wS := by
  refine ⟨⟨by decide +kernel, by decide +kernel, fun u hu => absurd hu (by rw [wS_113]; omega)⟩, fun u hu => absurd hu (by rw [wS_113]; omega), by decide +kernel⟩
theorem wS_SL : SL 1980 wS := by
  have e : ∀ s, s < 2 → wS 112 s = wS 329 s ∧ (0 ≤ wS (60 + 26 * s) 7 ∧ wS (60 + 26 * s) 7 ≤ 20) ∧ wS 112 s = 0 := by decide +kernel
  intro s hs
  obtain ⟨e1, e2, e3⟩ := e s hs
  exact ⟨e1, e2, fun z => absurd e3 z⟩
theorem wS_TP : TP wS := by
  refine ⟨by decide +kernel, by decide +kernel, fun i hi => ?_⟩
  rw [show (wS 2 1).toNatClampNeg = 0 from by decide +kernel] at hi
  exact absurd hi (Nat.not_lt_zero _)
theorem wS_z {a : Nat} (h : gln a = 330) : zR (wS a) := fun j hj => wS_out (by omega)
theorem wS_GR : GR 1980 wS := ⟨wS_SV, wS_GD, wS_PG, wS_SL, wS_TP, by decide +kernel, by decide +kernel, ⟨wS_z (by decide +kernel), wS_z (by decide +kernel), wS_z (by decide +kernel)⟩, by decide +kernel⟩
theorem GR_lo {B : Nat} {σ τ : gS} (h : GR B σ) (hq : ∀ q, q < 332 → τ q = σ q) : GR B τ := by
  obtain ⟨g1, g2, g3, g4, g5, g6, g7, g8, g9⟩ := h
  have e324 := hq 324 (by decide)
  have e323 := hq 323 (by decide)
  refine ⟨?_, by rw [e324]; exact g2, ?_, SL_same (Nat.le_refl _) g4 (fun q q1 q2 => hq q (by omega)) (hq 328 (by decide)) (hq 329 (by decide)), ?_, ?_, ?_, ?_, ?_⟩
  · rw [e324]
    exact SV_blk g1 (fun q q1 q2 => hq q (by omega))
  · obtain ⟨⟨p1, p2, p3⟩, p4, p5⟩ := g3
    have e113 := hq 113 (by decide)
    have e327 := hq 327 (by decide)
    have eP : ∀ u, cPl τ u = cPl σ u := fun u => by unfold cPl; rw [e113]
    have hm : ∀ u, ((σ 113 1).toNatClampNeg + u) % 8 < 8 := fun u => Nat.mod_lt _ (by decide)
    refine ⟨⟨by unfold bPa; rw [e113]; exact p1, by rw [e113, e323]; exact p2, fun u hu => ?_⟩, fun u hu => ?_, fun j hj => ?_⟩
    · rw [e113] at hu
      rw [eP, e327]
      refine SV_blk (p3 u hu) (fun q q1 q2 => ?_)
      have := hm u
      unfold cPl at q1 q2
      exact hq q (by omega)
    · rw [e113] at hu
      rw [e327]
      exact p4 u hu
    · rw [hq _ (by omega)]
      exact p5 j hj
  · unfold TP
    rw [hq 2 (by decide), hq 3 (by decide), e323, hq 330 (by decide)]
    exact g5
  · rw [hq 0 (by decide), e323]
    exact g6
  · unfold RS
    rw [e324, e323]
    exact g7
  · unfold RZ
    rw [e324, hq 325 (by decide), hq 326 (by decide)]
    exact g8
  · show 0 ≤ τ 323 8 ∧ τ 323 8 ≤ 1000
    rw [e323]
    exact g9
theorem w_GI {L : Nat} {xs : Nat → Int32} : GI 0 (w0 L xs) := ⟨1980, by decide, by decide, GR_lo wS_GR (fun q hq => w0_lo hq), TB_0 (by rw [w0_lo (by decide)]; decide +kernel)⟩
theorem sO_ref {ρ : Nat → Int32} {x : Nat} {o : Option Value} (h : sO ρ x o) (hx : s_isR x = true) : o = some (.ref (x - sREF)) := by
  cases o with
  | none =>
    have e : x = sUNS := h
    rw [e] at hx
    exact absurd hx (by decide)
  | some v => rw [(sr_ref hx h).1]
theorem sO_num {ρ : Nat → Int32} {x : Nat} {o : Option Value} (h : sO ρ x o) (hx : x < sM) : o = some (.int (Int32.ofNat x)) := by
  cases o with
  | none =>
    have e : x = sUNS := h
    rw [e] at hx
    exact absurd hx (by decide)
  | some v => rw [sr_num hx h]
theorem sAt_0 : sAt sh0 sKL := by
  intro L xs ρ hρ h Lv hL hH
  have hL6 := (sRho_6 hρ).2
  obtain ⟨o0, M0, rfl, h0, o1, M1, rfl, h1, o2, M2, rfl, h2, o3, M3, rfl, h3, o4, M4, rfl, -, o5, M5, rfl, -, o6, M6, rfl, -, o7, M7, rfl, -, hn⟩ := hL
  have hn : M7 = [] := hn
  subst hn
  have e0 := sO_ref h0 (by decide)
  have e1 := sO_ref h1 (by decide)
  have e2 := sO_ref h2 (by decide)
  have e3 := sO_num h3 (by decide)
  subst e0 e1 e2 e3
  obtain ⟨r, h', σ', hv, hr, hk⟩ := lw_lp (K := fun r _ => r = some (.int 1)) hL6 (fun _ => rfl) 513 0 (by decide) o4 o5 o6 o7 (w0 L xs) w_GI (by unfold w0; rw [if_neg (by decide), if_neg (by decide), if_pos ⟨rfl, rfl⟩]) L xs h (w_rel hL6 hH)
  subst hk
  refine ⟨h', hv, ?_, ?_⟩
  · rw [hr.1]
    decide
  · rw [hr.2.1]
    decide
theorem jv_law_ok : jv_law 3072 := by
  intro L xs hL6
  obtain ⟨ρ, hρd⟩ : ∃ ρ : Nat → Int32, ρ = fun k => if k < 6 then xs k else if k = 6 then Int32.ofNat L else xs 0 &&& 63 := ⟨_, rfl⟩
  have hρ : sRho L xs ρ := by
    subst hρd
    exact ⟨hL6, fun k hk => if_pos hk, rfl, rfl⟩
  obtain ⟨k, hk, h7⟩ := sRho_7 hρ
  have h6 := (sRho_6 hρ).1
  have hg := sm_sound (s_stop_ok sAt_0) _ _ _ _ _ sr_first L xs ρ hρ (sEk_of (s_full _) (by omega) (by omega)) [] jv_L0 [] (jv_h0 L xs) (by decide) (sc_ok 271 (by decide)) ⟨some (.ref 1000000), _, rfl, ⟨rfl, by decide⟩, none, _, rfl, rfl, none, _, rfl, rfl, none, _, rfl, rfl, none, _, rfl, rfl, none, _, rfl, rfl, none, _, rfl, rfl, none, _, rfl, rfl, rfl⟩ rfl rfl ⟨rfl, rfl, by decide, rfl, fun a ha => absurd ha (Nat.not_lt_zero a)⟩
  obtain ⟨h', ⟨N, hN⟩, h1, h2⟩ := hg
  exact ⟨N, h', hN N (Nat.le_refl N), h1, h2⟩
