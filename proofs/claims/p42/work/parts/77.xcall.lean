/-! CLASS CALLS OVER ANY HEAP -/
theorem jm_det {B : Nat → Nat} {h h' H H1 H2 : jv_H} (s1 : jm_S B h' H1) (f1 : jm_F B h h' H H1) (s2 : jm_S B h' H2) (f2 : jm_F B h h' H H2) (e0 : H1.1 1000000 = H2.1 1000000) : H1 = H2 := by
  obtain ⟨a1, a2, a3⟩ := f1
  obtain ⟨b1, b2, b3⟩ := f2
  have hh : H1.1 = H2.1 := by
    funext a
    by_cases ha : 1000000 ≤ a
    · by_cases e : a = 1000000
      · rw [e]; exact e0
      · have c1 := (s1.1 a (Or.inr ha)).resolve_right (fun q => e q.1)
        have c2 := (s2.1 a (Or.inr ha)).resolve_right (fun q => e q.1)
        rw [jm_big ha] at c1 c2
        rw [c1, c2]
    · by_cases hb : ∃ b, b < h'.2.1 ∧ B b = a
      · obtain ⟨b, hb1, hb2⟩ := hb
        have c1 := jm_at s1 hb1
        have c2 := jm_at s2 hb1
        rw [(jm_lt s1 hb1).1, hb2] at c1
        rw [(jm_lt s2 hb1).1, hb2] at c2
        rw [c1, c2]
      · have hn : ∀ b, b < h'.2.1 → B b ≠ a := fun b h1 h2 => hb ⟨b, h1, h2⟩
        rw [a3 a (by omega) hn, b3 a (by omega) hn]
  have hc : H1.2 = H2.2 := Prod.ext (by rw [a1, b1]) (by rw [a2, b2])
  exact Prod.ext hh hc
/-- what lies above the new cells is never written -/
theorem jv_heap_far {ow : Nat} {ini : Bool} {i : Instr} {st st' : List Value} {h h' : jv_H} (h0 : jv_heap ow ini i st h = some (st', h')) : ∀ b, h'.2.1 ≤ b → h'.1 b = h.1 b := by
  unfold jv_heap at h0
  split at h0
  case h_2 =>
    obtain ⟨v, a, cx, kf, fs, rfl, hf, ha, he, hkl, hn, hfi, hfin, rfl⟩ := jv_set_eq h0
    intro b hb
    have hb2 : h.2.1 ≤ b := hb
    show jv_up h.1 a _ b = h.1 b
    unfold jv_up
    rw [if_neg (by omega)]
  all_goals (repeat' split at h0)
  all_goals first
    | (cases h0; done)
    | (cases h0; exact fun _ _ => rfl)
    | (cases h0
       intro b hb
       have hb2 : h.2.1 ≤ b := hb
       show jv_up h.1 _ _ b = h.1 b
       unfold jv_up
       rw [if_neg (by omega)])
    | (cases h0
       intro b hb
       have hb2 : h.2.1 + 1 ≤ b := hb
       show jv_up h.1 h.2.1 _ b = h.1 b
       unfold jv_up
       rw [if_neg (by omega)])
    | (cases h0
       intro b hb
       rw [(jv_addn_eq _ _ _).1] at hb
       rw [(jv_addn_at _ _ _ b).1 (Or.inr hb)]
       have hb2 : h.2.1 + 1 ≤ b := Nat.le_trans (Nat.le_add_right _ _) hb
       show jv_up h.1 h.2.1 _ b = h.1 b
       unfold jv_up
       rw [if_neg (by omega)])
theorem jv_step_far {ow : Nat} {ini : Bool} {i : Instr} {len pc pc' : Nat} {L L' : List (Option Value)} {st st' : List Value} {h h' : jv_H} (hs : jv_step ow ini i len pc L st h = some (pc', L', st', h')) : ∀ b, h'.2.1 ≤ b → h'.1 b = h.1 b := by
  unfold jv_step at hs
  split at hs
  · cases hs; exact fun _ _ => rfl
  · split at hs
    · cases hs; exact fun _ _ => rfl
    · split at hs
      · cases hs; exact fun _ _ => rfl
      · split at hs
        · cases hs; exact fun _ _ => rfl
        · split at hs
          · rename_i st1 h1 hh
            cases hs
            exact jv_heap_far hh
          · cases hs
theorem jv_run_far : ∀ (n : Nat) {y pc : Nat} {L : List (Option Value)} {st : List Value} {h h' : jv_H} {r : Option Value}, jv_run n y pc L st h = some (r, h') → ∀ b, h'.2.1 ≤ b → h'.1 b = h.1 b
  | 0, _, _, _, _, _, _, _, h0 => by cases h0
  | n + 1, y, pc, L, st, h, h', r, h0 => by
    intro b hb
    obtain ⟨ow, kd, na, mL, fr, lo, i, len, -, -, ⟨-, rfl⟩ | ⟨pc', L', st', h1, hs, hr⟩ | ⟨ck, idx, z, na', ne, -, -, hz⟩⟩ := jv_run_inv h0
    · rfl
    · have m := jv_run_mono n hr
      exact (jv_run_far n hr b hb).trans (jv_step_far hs b (by omega))
    · rcases hz with ⟨-, a, rst, -, -, -, -, hr⟩ | ⟨-, st', -, -, -, -, -, hr⟩ | ⟨-, st', h1, hst, -, -, -, -, hr⟩ | ⟨-, st', h1, hst, -, -, -, -, hr⟩ | ⟨-, -, -, -, q, r1, h1, -, -, hr1, hr⟩
      · exact jv_run_far n hr b hb
      · exact jv_run_far n hr b hb
      · obtain ⟨_, _, _, d, _, _, _, _, _, -, -, hd, -, -, -, -, -, -, -, rfl⟩ := jv_acpy_eq hst
        have m := jv_run_mono n hr
        have m1 : h.2.1 ≤ h'.2.1 := m.1
        refine (jv_run_far n hr b hb).trans ?_
        show jv_up h.1 d _ b = h.1 b
        unfold jv_up
        rw [if_neg (by omega)]
      · obtain ⟨_, _, _, _, -, -, -, -, -, rfl⟩ := jv_cln_eq hst
        have m := jv_run_mono n hr
        have m1 : h.2.1 + 1 ≤ h'.2.1 := m.1
        refine (jv_run_far n hr b hb).trans ?_
        show jv_up h.1 h.2.1 _ b = h.1 b
        unfold jv_up
        rw [if_neg (by omega)]
      · have m := jv_run_mono n hr
        exact (jv_run_far n hr b hb).trans (jv_run_far n hr1 b (by omega))
theorem jv_scr_run (n y pc : Nat) (Lv : List (Option Value)) (st : List Value) (h h' : jv_H) (r : Option Value) (h0 : jv_run n y pc Lv st h = some (r, h')) (h1 : h'.2.1 ≤ 1000000) : h'.1 1000000 = h.1 1000000 := jv_run_far n h0 _ h1
/-- a run, moved, whatever the fuel -/
theorem jm_ev {B : Nat → Nat} {y pc : Nat} {Lv : List (Option Value)} {st : List Value} {h h' H : jv_H} {r : Option Value} (hev : jv_ev y pc Lv st h (r, h')) (hS : jm_S B h H) (hal : h'.2.1 = h.2.1 ∨ jm_A B h.2.1 H.2.1) (hm : H.2.1 + (h'.2.1 - h.2.1) ≤ 1000000) :
    ∃ H', jv_ev y pc (Lv.map (Option.map (jm_v B))) (st.map (jm_v B)) H (r.map (jm_v B), H') ∧ jm_S B h' H' ∧ jm_F B h h' H H' := by
  obtain ⟨N, hN⟩ := hev
  obtain ⟨H1, e1, s1, f1⟩ := jm_run N y pc Lv st h h' H r (hN N (Nat.le_refl _)) hS hal hm
  refine ⟨H1, ⟨N, fun n hn => ?_⟩, s1, f1⟩
  obtain ⟨H2, e2, s2, f2⟩ := jm_run n y pc Lv st h h' H r (hN n hn) hS hal hm
  have q1 := hS.2.2
  have t1 := s1.2.2
  have t2 := s2.2.2
  rw [jm_det s1 f1 s2 f2 ((jv_scr_run _ _ _ _ _ _ _ _ e1 t1).trans (jv_scr_run _ _ _ _ _ _ _ _ e2 t2).symm)]
  exact e2
/-- a SeatSwap stands at places B .. B + 322, with the numbers σ -/
def xH (B : Nat) (σ : gS) (H : jv_H) : Prop := B + 323 ≤ H.2.1 ∧ ∃ h : jv_H, gRel 0 (fun _ => 0) σ h ∧ h.1 1000000 = jm_dead ∧ jm_S (fun a => a + B) h H
/-- what is beside it stays -/
def xF (B : Nat) (H H' : jv_H) : Prop := H'.2 = H.2 ∧ ∀ a, a < B ∨ B + 323 ≤ a → H'.1 a = H.1 a
theorem xF.rf {B : Nat} {H : jv_H} : xF B H H := ⟨rfl, fun _ _ => rfl⟩
theorem xF.trans {B : Nat} {H H1 H2 : jv_H} (a : xF B H H1) (b : xF B H1 H2) : xF B H H2 := ⟨b.1.trans a.1, fun q h => (b.2 q h).trans (a.2 q h)⟩
theorem xcall {z B : Nat} {Lv : List (Option Value)} {σ : gS} {K : gK} {H : jv_H} (hg : gE z 0 Lv [] σ K) (hx : xH B σ H) : jE z 0 (Lv.map (Option.map (jm_v (fun a => a + B)))) [] H (fun r H' => ∃ r0 σ', K r0 σ' ∧ r = r0.map (jm_v (fun a => a + B)) ∧ xH B σ' H' ∧ xF B H H') := by
  obtain ⟨hB, h, hr, hd, hS⟩ := hx
  obtain ⟨r, h', σ', hev, hr', hk⟩ := hg 0 (fun _ => 0) h hr
  have e1 : h'.2.1 = h.2.1 := hr'.1.trans hr.1.symm
  have e2 : h'.2.2 = h.2.2 := hr'.2.1.trans hr.2.1.symm
  have hm : H.2.1 + (h'.2.1 - h.2.1) ≤ 1000000 := by
    rw [e1, Nat.sub_self]
    exact hS.2.2
  obtain ⟨H', ev, s, f1, f2, f3⟩ := jm_ev hev hS (Or.inl e1) hm
  rw [e1, Nat.sub_self, Nat.add_zero] at f1
  rw [e2, Nat.sub_self, Nat.add_zero] at f2
  have hc : H'.2 = H.2 := Prod.ext f1 f2
  refine ⟨_, H', ev, r, σ', hk, rfl, ⟨by rw [hc]; exact hB, (jv_up h'.1 1000000 jm_dead, h'.2), ⟨hr'.1, hr'.2.1, fun a ha => ?_, fun a ha => ?_⟩, ?_, ?_⟩, hc, fun a ha => ?_⟩
  · have := jv_old_eq ha
    show jv_up h'.1 1000000 jm_dead a = _
    unfold jv_up
    rw [if_neg (by omega)]
    exact hr'.2.2.1 a ha
  · show gCk (σ' a) a (jv_up h'.1 1000000 jm_dead a)
    unfold jv_up
    rw [if_neg (by omega)]
    exact hr'.2.2.2 a ha
  · show jv_up h'.1 1000000 jm_dead 1000000 = _
    unfold jv_up
    rw [if_pos rfl]
  · refine ⟨fun a ha => ?_, s.2⟩
    have ha2 : a < h'.2.1 ∨ 1000000 ≤ a := ha
    show _ = jm_c _ (jv_up h'.1 1000000 jm_dead a) ∨ (_ ∧ jv_up h'.1 1000000 jm_dead a = jm_dead)
    unfold jv_up
    by_cases e : a = 1000000
    · rw [if_pos e]
      exact Or.inr ⟨e, rfl⟩
    · rw [if_neg e]
      exact s.1 a ha2
  · by_cases hb : a < 1000000
    · exact f3 a hb (fun b hb1 hb2 => by
        have hb3 : b < 323 := by rw [← hr'.1]; exact hb1
        have hb4 : b + B = a := hb2
        omega)
    · have ha2 : 1000000 ≤ a := by omega
      by_cases e : a = 1000000
      · obtain ⟨N, hN⟩ := ev
        rw [e]
        exact jv_scr_run _ _ _ _ _ _ _ _ (hN N (Nat.le_refl _)) s.2.2
      · have c1 := (s.1 a (Or.inr ha2)).resolve_right (fun q => e q.1)
        have c2 := (hS.1 a (Or.inr ha2)).resolve_right (fun q => e q.1)
        rw [jm_big ha2] at c1 c2
        rw [c1, c2]
        have e4 : h'.1 a = h.1 a := by
          obtain ⟨N, hN⟩ := hev
          exact jv_run_far N (hN N (Nat.le_refl _)) a (by rw [hr'.1]; omega)
        rw [e4]
