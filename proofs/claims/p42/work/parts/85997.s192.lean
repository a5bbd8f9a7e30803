/-! THE LAW'S SETUP, whole -/
section S192
variable {B n c s : Nat} {ρ : gS} {h : jv_H} {K : jK}
theorem lm_setup (hlen : (suT (ρ 324)).length ≤ 3900) (hlt : jLt (suT (ρ 324))) (hx : LX B n ρ [] (c + 8040) (s + 20100) h h) (hK : ∀ a h', jT B h' a (suT (ρ 324)).length (fun j => (suT (ρ 324)).getD j 0) → LX B n ρ [] c s h h' → K (some (.ref a)) h') : jE 191 0 [some (.ref B), none, none, none] [] h K := by
  have hB := hx.1.lt
  obtain ⟨hb1, hb2⟩ := hx.2.2.2.1
  have hF : jFix h := fun a ha => hx.1.old ha
  refine jx_newo (idx := 27) (c := 9) (by decide) (by decide +kernel) (by decide +kernel) ?_
  obtain ⟨h1, hh1⟩ : ∃ h1, h1 = jv_add h (.inr (.inr (9, (List.range (jv_fn 9)).map (fun k => defaultValue (jv_fty 9 k))))) (jv_fn 9) := ⟨_, rfl⟩
  rw [← hh1]
  have u1 : h1.2.1 = h.2.1 + 1 := by rw [hh1]; rfl
  have u2 : h1.2.2 = h.2.2 + 4 := by rw [hh1]; rfl
  have e9 : h1.1 h.2.1 = .inr (.inr (9, [defaultValue (jv_fty 9 0), defaultValue (jv_fty 9 1), defaultValue (jv_fty 9 2), defaultValue (jv_fty 9 3)])) := by rw [hh1]; exact jv_at_new
  have hn9 : jN9 h1 h.2.1 := ⟨by omega, _, _, _, _, e9, by decide +kernel⟩
  have u3 : ∀ b, b ≠ h.2.1 → h1.1 b = h.1 b := by
    intro b hb
    rw [hh1]
    show jv_up h.1 h.2.1 _ b = _
    unfold jv_up
    rw [if_neg hb]
  refine jx_blk (by decide) [(.dup, 1)] (pc' := 4) (Lv' := [some (.ref B), none, none, none]) (st' := [.ref h.2.1, .ref h.2.1]) (by decide +kernel) rfl ?_
  refine jx_call (z := 158) (na := 1) (mL := 1) (ck := 2) (ow := 9) (by decide +kernel) (by show 1 ≤ 2; decide) (Nat.le_of_ble_eq_true rfl) rfl (Or.inr ⟨h.2.1, 9, _, rfl, Or.inl hn9.1, e9, rfl⟩) ?_
  refine sb_i1 hn9 (fun h2 a1 a2 a3 => ?_)
  show jE 191 7 [some (.ref B), none, none, none] [.ref h.2.1] h2 K
  have w1 : ∀ a, a < h.2.1 ∨ 1000000 ≤ a → h2.1 a = h.1 a := fun a ha => by rw [a3 a (by omega) (by omega)]; exact u3 a (by omega)
  have bx : BX B n ρ 2 4 h h2 h.2.1 [] 0 := ⟨hx.1.same2 (fun a ha => w1 a (by omega)) (Nat.le_trans hB (by omega)) (by omega), h, rfl, fun _ _ => rfl, ⟨h1.2.1, 16, a1, Nat.le_refl _, ⟨Nat.le_refl _, by omega⟩, w1, fun x hx => (by cases hx), ⟨by omega, by omega, by omega⟩, hF, by omega⟩, hB⟩
  refine jx_blk (by decide) [(.astore_n 1, 1), (.aload_n 0, 1)] (pc' := 9) (Lv' := [some (.ref B), some (.ref h.2.1), none, none]) (st' := [.ref B]) (by decide +kernel) rfl ?_
  refine xp_call (z := 145) (na := 1) (mL := 1) (v := .int (iN (suT (ρ 324)).length)) (ρ' := ρ) (r := []) [] (by decide +kernel) bx.1 xr_slen bx.1.1 rfl rfl (fun _ => rfl) (Nat.le_of_ble_eq_true rfl) (fun h3 x1 e2 e1 => ?_)
  refine jx_blk (by decide) [(.istore_n 2, 1), (.iconst 0, 1), (.istore_n 3, 1)] (pc' := 15) (Lv' := [some (.ref B), some (.ref h.2.1), some (.int (iN (suT (ρ 324)).length)), some (.int 0)]) (st' := []) (by decide +kernel) rfl ?_
  refine su_lp (u := suT (ρ 324)) rfl hlen hlt (fun k hk => xr_sbyte hk (by omega)) (fun h4 k x4 => ?_) (suT (ρ 324)).length 0 (Nat.zero_add _) (bx.cls x1 e2 e1)
  obtain ⟨xp, g1, y2, y1, hs, -⟩ := x4
  obtain ⟨f1, f2, f3, fs, f4⟩ := hs.fix
  obtain ⟨v, m, s1, s2, s3, s4, s5, s6, s7, s8⟩ := hs
  have m8 := s1.2.2.2.1.2.2
  have z0 : g1.2.1 = h.2.1 := by rw [y2]
  have z1 : g1.2.2 = h.2.2 := by rw [y2]
  refine jx_blk (by decide) [(.aload_n 1, 1)] (pc' := 38) (Lv' := [some (.ref B), some (.ref h.2.1), some (.int (iN (suT (ρ 324)).length)), some (.int k)]) (st' := [.ref h.2.1]) (by decide +kernel) rfl ?_
  refine jx_call (z := 163) (na := 1) (mL := 1) (ck := 1) (ow := 9) (by decide +kernel) (by show 1 ≤ 1; decide) (Nat.le_of_ble_eq_true rfl) rfl (Or.inr ⟨h.2.1, 9, _, rfl, Or.inl f3, f4, rfl⟩) ?_
  refine sb_ts s1 (fun a h' t => ?_)
  obtain ⟨t1, t2, t3, t4, ⟨tl, t5⟩, g, t6, t7⟩ := t
  refine jx_aret (by decide) (by decide +kernel) (Or.inr ⟨"java/lang/String", by decide +kernel⟩) (hK a h' ⟨⟨Or.inl (by omega), Or.inr (Nat.le_trans hB (by omega))⟩, a + 1, tl, t5, ⟨Or.inl (by omega), Or.inr (Nat.le_trans hB (by omega))⟩, g, t6, t7⟩ ⟨xp.same2 (fun b hb => t4 b (by omega)) (Nat.le_trans hB (by omega)) (by omega), fun q hq => (by cases hq), List.nodup_nil, ⟨by omega, by omega⟩, hB, by omega, fun b hb hb2 => ?_⟩)
  rw [t4 b (by omega), s4 b (by omega), y1 b hb2]
end S192
