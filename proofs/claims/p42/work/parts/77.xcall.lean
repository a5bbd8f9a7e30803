/-! CLASS CALLS OVER ANY HEAP -/
/-- more fuel does no harm -/
theorem jv_run_more : ∀ (n : Nat) {y pc : Nat} {L : List (Option Value)} {st : List Value} {h : jv_H} {x : Option Value × jv_H}, jv_run n y pc L st h = some x → jv_run (n + 1) y pc L st h = some x
  | 0, _, _, _, _, _, _, h0 => by cases h0
  | n + 1, y, pc, L, st, h, x, h0 => by
    unfold jv_run at h0
    split at h0
    · cases h0
    · rename_i ow kd na0 mL fr lo hinf
      split at h0
      · cases h0
      · rename_i i len hcode
        split at h0
        · rename_i r0 hr
          cases h0
          unfold jv_run
          simp only [hinf, hcode, hr]
        · rename_i hr
          split at h0
          · rename_i hc
            split at h0
            · rename_i pc' L' st' h1 hs
              have e2 := jv_run_more n h0
              unfold jv_run
              simp only [hinf, hcode, hr, hc, hs]
              exact e2
            · cases h0
          · rename_i ck idx hc
            split at h0
            · cases h0
            · rename_i z na ne hcal
              split at h0
              · rename_i hz
                split at h0
                · rename_i a rst
                  split at h0
                  · rename_i hq
                    have e2 := jv_run_more n h0
                    unfold jv_run
                    simp only [hinf, hcode, hr, hc, hcal]
                    rw [if_pos hz, if_pos hq]
                    exact e2
                  · cases h0
                · cases h0
              · rename_i hz0
                split at h0
                · rename_i hz
                  split at h0
                  · rename_i st1 hst
                    split at h0
                    · rename_i hq
                      have e2 := jv_run_more n h0
                      unfold jv_run
                      simp only [hinf, hcode, hr, hc, hcal]
                      rw [if_neg hz0, if_pos hz, hst]
                      dsimp only
                      rw [if_pos hq]
                      exact e2
                    · cases h0
                  · cases h0
                · rename_i hz1
                  split at h0
                  · rename_i hz
                    split at h0
                    · rename_i st1 h1 hst
                      split at h0
                      · rename_i hq
                        have e2 := jv_run_more n h0
                        unfold jv_run
                        simp only [hinf, hcode, hr, hc, hcal]
                        rw [if_neg hz0, if_neg hz1, if_pos hz, hst]
                        dsimp only
                        rw [if_pos hq]
                        exact e2
                      · cases h0
                    · cases h0
                  · rename_i hz2
                    split at h0
                    · rename_i hz
                      split at h0
                      · rename_i st1 h1 hst
                        split at h0
                        · rename_i hq
                          have e2 := jv_run_more n h0
                          unfold jv_run
                          simp only [hinf, hcode, hr, hc, hcal]
                          rw [if_neg hz0, if_neg hz1, if_neg hz2, if_pos hz, hst]
                          dsimp only
                          rw [if_pos hq]
                          exact e2
                        · cases h0
                      · cases h0
                    · rename_i hz3
                      split at h0
                      · cases h0
                      · rename_i q hq
                        split at h0
                        · rename_i hmay
                          split at h0
                          · rename_i r1 h1 hrun
                            have e1 := jv_run_more n hrun
                            have e2 := jv_run_more n h0
                            unfold jv_run
                            simp only [hinf, hcode, hr, hc, hcal]
                            rw [if_neg hz0, if_neg hz1, if_neg hz2, if_neg hz3, hq]
                            dsimp only
                            rw [if_pos hmay, e1]
                            exact e2
                          · cases h0
                        · cases h0
theorem jv_ev_of {n y pc : Nat} {L : List (Option Value)} {st : List Value} {h : jv_H} {x : Option Value × jv_H} (h0 : jv_run n y pc L st h = some x) : jv_ev y pc L st h x := by
  refine ⟨n, fun m hm => ?_⟩
  obtain ⟨k, rfl⟩ : ∃ k, m = n + k := ⟨m - n, by omega⟩
  induction k with
  | zero => exact h0
  | succ k ih => exact jv_run_more (n + k) (ih (by omega))
/-- what lies above the new cells is never written -/
theorem jv_heap_far {ow : Nat} {ini : Bool} {i : Instr} {st st' : List Value} {h h' : jv_H} (h0 : jv_heap ow ini i st h = some (st', h')) : ∀ b, h'.2.1 ≤ b → h'.1 b = h.1 b := by
  unfold jv_heap at h0
  split at h0
  case h_2 =>
    obtain ⟨v, a, cx, kf, fs, rfl, hf, ha, he, hkl, hn, hfi, hfin, rfl⟩ := jv_set_eq h0
    intro b hb
    have hb2 : h.2.1 ≤ b := hb
    show jv_up h.1 a _ b = h.1 b
    unfold jv_up
    rw [if_neg (by omega)]
  all_goals (repeat' split at h0)
  all_goals first
    | (cases h0; done)
    | (cases h0; exact fun _ _ => rfl)
    | (cases h0
       intro b hb
       have hb2 : h.2.1 ≤ b := hb
       show jv_up h.1 _ _ b = h.1 b
       unfold jv_up
       rw [if_neg]
       intro e
       first
         | exact absurd (Nat.lt_of_le_of_lt (Nat.le_of_eq e) ‹_ < h.2.1›) (Nat.not_lt.mpr hb2)
         | exact absurd (Nat.lt_of_le_of_lt (Nat.le_of_eq e) (‹_ < h.2.1 ∧ _›).1) (Nat.not_lt.mpr hb2))
    | (cases h0
       intro b hb
       have hb2 : h.2.1 + 1 ≤ b := hb
       show jv_up h.1 h.2.1 _ b = h.1 b
       unfold jv_up
       rw [if_neg (by omega)])
    | (cases h0
       intro b hb
       rw [(jv_addn_eq _ _ _).1] at hb
       rw [(jv_addn_at _ _ _ b).1 (Or.inr hb)]
       have hb2 : h.2.1 + 1 ≤ b := Nat.le_trans (Nat.le_add_right _ _) hb
       show jv_up h.1 h.2.1 _ b = h.1 b
       unfold jv_up
       rw [if_neg (by omega)])
theorem jv_step_far {ow : Nat} {ini : Bool} {i : Instr} {len pc pc' : Nat} {L L' : List (Option Value)} {st st' : List Value} {h h' : jv_H} (hs : jv_step ow ini i len pc L st h = some (pc', L', st', h')) : ∀ b, h'.2.1 ≤ b → h'.1 b = h.1 b := by
  unfold jv_step at hs
  split at hs
  · cases hs; exact fun _ _ => rfl
  · split at hs
    · cases hs; exact fun _ _ => rfl
    · split at hs
      · cases hs; exact fun _ _ => rfl
      · split at hs
        · cases hs; exact fun _ _ => rfl
        · split at hs
          · rename_i st1 h1 hh
            cases hs
            exact jv_heap_far hh
          · cases hs
theorem jv_run_far : ∀ (n : Nat) {y pc : Nat} {L : List (Option Value)} {st : List Value} {h h' : jv_H} {r : Option Value}, jv_run n y pc L st h = some (r, h') → ∀ b, h'.2.1 ≤ b → h'.1 b = h.1 b
  | 0, _, _, _, _, _, _, _, h0 => by cases h0
  | n + 1, y, pc, L, st, h, h', r, h0 => by
    intro b hb
    obtain ⟨ow, kd, na, mL, fr, lo, i, len, -, -, ⟨-, rfl⟩ | ⟨pc', L', st', h1, hs, hr⟩ | ⟨ck, idx, z, na', ne, -, -, hz⟩⟩ := jv_run_inv h0
    · rfl
    · have m := jv_run_mono n hr
      exact (jv_run_far n hr b hb).trans (jv_step_far hs b (by omega))
    · rcases hz with ⟨-, a, rst, -, -, -, -, hr⟩ | ⟨-, st', -, -, -, -, -, hr⟩ | ⟨-, st', h1, hst, -, -, -, -, hr⟩ | ⟨-, st', h1, hst, -, -, -, -, hr⟩ | ⟨-, -, -, -, q, r1, h1, -, -, hr1, hr⟩
      · exact jv_run_far n hr b hb
      · exact jv_run_far n hr b hb
      · obtain ⟨_, _, _, d, _, _, _, _, _, -, -, hd, -, -, -, -, -, -, -, rfl⟩ := jv_acpy_eq hst
        have m := jv_run_mono n hr
        have m1 : h.2.1 ≤ h'.2.1 := m.1
        refine (jv_run_far n hr b hb).trans ?_
        show jv_up h.1 d _ b = h.1 b
        unfold jv_up
        rw [if_neg (by omega)]
      · obtain ⟨_, _, _, _, -, -, -, -, -, rfl⟩ := jv_cln_eq hst
        have m := jv_run_mono n hr
        have m1 : h.2.1 + 1 ≤ h'.2.1 := m.1
        refine (jv_run_far n hr b hb).trans ?_
        show jv_up h.1 h.2.1 _ b = h.1 b
        unfold jv_up
        rw [if_neg (by omega)]
      · have m := jv_run_mono n hr
        exact (jv_run_far n hr b hb).trans (jv_run_far n hr1 b (by omega))
theorem jv_scr_run (n y pc : Nat) (Lv : List (Option Value)) (st : List Value) (h h' : jv_H) (r : Option Value) (h0 : jv_run n y pc Lv st h = some (r, h')) (h1 : h'.2.1 ≤ 1000000) : h'.1 1000000 = h.1 1000000 := jv_run_far n h0 _ h1
/-- a run, moved, whatever the fuel -/
theorem jm_ev {B : Nat → Nat} {y pc : Nat} {Lv : List (Option Value)} {st : List Value} {h h' H : jv_H} {r : Option Value} (hev : jv_ev y pc Lv st h (r, h')) (hS : jm_S B h H) (hal : h'.2.1 = h.2.1 ∨ jm_A B h.2.1 H.2.1) (hm : H.2.1 + (h'.2.1 - h.2.1) ≤ 1000000) :
    ∃ H', jv_ev y pc (Lv.map (Option.map (jm_v B))) (st.map (jm_v B)) H (r.map (jm_v B), H') ∧ jm_S B h' H' ∧ jm_F B h h' H H' := by
  obtain ⟨N, hN⟩ := hev
  obtain ⟨H1, e1, s1, f1⟩ := jm_run N y pc Lv st h h' H r (hN N (Nat.le_refl _)) hS hal hm
  exact ⟨H1, jv_ev_of e1, s1, f1⟩
/-- a SeatSwap stands at places B .. B + 322, with the numbers σ -/
def xH (B : Nat) (σ : gS) (H : jv_H) : Prop := B + 323 ≤ H.2.1 ∧ ∃ h : jv_H, gRel 0 (fun _ => 0) σ h ∧ h.1 1000000 = jm_dead ∧ jm_S (fun a => a + B) h H
/-- what is beside it stays -/
def xF (B : Nat) (H H' : jv_H) : Prop := H'.2 = H.2 ∧ ∀ a, a < B ∨ B + 323 ≤ a → H'.1 a = H.1 a
theorem xF.rf {B : Nat} {H : jv_H} : xF B H H := ⟨rfl, fun _ _ => rfl⟩
theorem xF.trans {B : Nat} {H H1 H2 : jv_H} (a : xF B H H1) (b : xF B H1 H2) : xF B H H2 := ⟨b.1.trans a.1, fun q h => (b.2 q h).trans (a.2 q h)⟩
theorem xcall {z B : Nat} {Lv : List (Option Value)} {σ : gS} {K : gK} {H : jv_H} (hg : gE z 0 Lv [] σ K) (hx : xH B σ H) : jE z 0 (Lv.map (Option.map (jm_v (fun a => a + B)))) [] H (fun r H' => ∃ r0 σ', K r0 σ' ∧ r = r0.map (jm_v (fun a => a + B)) ∧ xH B σ' H' ∧ xF B H H') := by
  obtain ⟨hB, h, hr, hd, hS⟩ := hx
  obtain ⟨r, h', σ', hev, hr', hk⟩ := hg 0 (fun _ => 0) h hr
  have e1 : h'.2.1 = h.2.1 := hr'.1.trans hr.1.symm
  have e2 : h'.2.2 = h.2.2 := hr'.2.1.trans hr.2.1.symm
  have hm : H.2.1 + (h'.2.1 - h.2.1) ≤ 1000000 := by
    rw [e1, Nat.sub_self]
    exact hS.2.2
  obtain ⟨H', ev, s, f1, f2, f3⟩ := jm_ev hev hS (Or.inl e1) hm
  rw [e1, Nat.sub_self, Nat.add_zero] at f1
  rw [e2, Nat.sub_self, Nat.add_zero] at f2
  have hc : H'.2 = H.2 := Prod.ext f1 f2
  refine ⟨_, H', ev, r, σ', hk, rfl, ⟨by rw [hc]; exact hB, (jv_up h'.1 1000000 jm_dead, h'.2), ⟨hr'.1, hr'.2.1, fun a ha => ?_, fun a ha => ?_⟩, ?_, ?_⟩, hc, fun a ha => ?_⟩
  · have := jv_old_eq ha
    show jv_up h'.1 1000000 jm_dead a = _
    unfold jv_up
    rw [if_neg (by omega)]
    exact hr'.2.2.1 a ha
  · show gCk (σ' a) a (jv_up h'.1 1000000 jm_dead a)
    unfold jv_up
    rw [if_neg (by omega)]
    exact hr'.2.2.2 a ha
  · show jv_up h'.1 1000000 jm_dead 1000000 = _
    unfold jv_up
    rw [if_pos rfl]
  · refine ⟨fun a ha => ?_, s.2⟩
    have ha2 : a < h'.2.1 ∨ a = 1000000 ∨ jv_old a = true := ha
    show _ = jm_c _ (jv_up h'.1 1000000 jm_dead a) ∨ (_ ∧ jv_up h'.1 1000000 jm_dead a = jm_dead)
    unfold jv_up
    by_cases e : a = 1000000
    · rw [if_pos e]
      exact Or.inr ⟨e, rfl⟩
    · rw [if_neg e]
      exact s.1 a ha2
  · by_cases hb : a < 1000000
    · exact f3 a hb (fun b hb1 hb2 => by
        have hb3 : b < 323 := by rw [← hr'.1]; exact hb1
        have hb4 : b + B = a := hb2
        omega)
    · obtain ⟨N, hN⟩ := ev
      have := s.2.2
      exact jv_run_far N (hN N (Nat.le_refl _)) a (by omega)
