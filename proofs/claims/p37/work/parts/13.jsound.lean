/-! THE J MACHINE IS RIGHT: the whole -/
theorem jw_lStr {ow idx z na ne : Nat} (h : jv_cal ow idx = some (z, na, ne)) : (z = 900 → Cond.methodLink (jv_own ow) idx Lib.objectInit ∈ jv_T) ∧ (z = 901 → Cond.methodLink (jv_own ow) idx yJ0_length_8abf5 ∈ jv_T) ∧ (z = 902 → Cond.methodLink (jv_own ow) idx yJ0_charAt_5068e ∈ jv_T) ∧ (z ≠ 900 → z ≠ 901 → z ≠ 902 → z < 271) := by
  have hck := jv_ckc_ok h
  unfold jv_ckc1 at hck
  refine ⟨fun hz => ?_, fun hz => ?_, fun hz => ?_, fun h0 h1 h2 => ?_⟩
  · subst hz
    exact jv_in_ok hck
  · subst hz
    exact jv_in_ok hck
  · subst hz
    exact jv_in_ok hck
  · rw [if_neg h0, if_neg h1, if_neg h2] at hck
    split at hck
    · simp only [Bool.and_eq_true, decide_eq_true_eq] at hck
      exact hck.1.2
    · cases hck
theorem jv_strlen_eq {st st' : List Value} (h0 : jv_strlen st = some st') : ∃ (i : Nat) (r : List Value), i < 20 ∧ st = .ref (1000001 + i) :: r ∧ st' = .int (Int32.ofNat (jv_byt.getD i []).length) :: r := by
  unfold jv_strlen at h0
  split at h0
  · rename_i a r
    split at h0
    · rename_i i htx
      obtain ⟨hi20, rfl⟩ := jv_tix_eq htx
      cases h0
      exact ⟨i, r, hi20, rfl, rfl⟩
    · cases h0
  · cases h0
theorem jv_strat_eq {st st' : List Value} (h0 : jv_strat st = some st') : ∃ (i : Nat) (j : Int32) (r : List Value), i < 20 ∧ ¬ (j < 0 ∨ (jv_byt.getD i []).length ≤ j.toNatClampNeg) ∧ st = .int j :: .ref (1000001 + i) :: r ∧ st' = .int ((jv_byt.getD i []).getD j.toNatClampNeg 0) :: r := by
  unfold jv_strat at h0
  split at h0
  · rename_i j a r
    split at h0
    · rename_i i htx
      obtain ⟨hi20, rfl⟩ := jv_tix_eq htx
      split at h0
      · rename_i hj
        cases h0
        exact ⟨i, j, r, hi20, hj, rfl, rfl⟩
      · cases h0
    · cases h0
  · cases h0
section JSS
variable {l : Launch} {D : va_G} {dA : Nat → ClassId} {G : jv_G} {adV : Nat → Nat} {L : Nat} {xs : Nat → Int32}
set_option maxHeartbeats 8000000 in
set_option maxRecDepth 100000 in
theorem jv_sound : ∀ (n y pc : Nat) (Lv : List (Option Value)) (st : List Value) (h h' : jv_H) (r : Option Value), jv_run n y pc Lv st h = some (r, h') → jv_OK l D dA G adV L xs y pc Lv st h r h'
  | 0, _, _, _, _, _, _, _, h0 => by cases h0
  | n + 1, y, pc, Lv, st, h, h', r, h0 => by
    intro p e R s m args below meth c H locs cells slots tc ts Q ls ow kd na mL fr lo hinf S hini hK hR hS hLv hm hfr hlo htc hts2 htcR htsR hend
    obtain ⟨ow1, kd1, na1, mL1, fr1, lo1, i, len, hinf1, hcode, hcase⟩ := jv_run_inv h0
    have he := Option.some.inj (hinf.symm.trans hinf1)
    cases he
    obtain ⟨hdg, hl⟩ := jv_code_ok hcode
    have S0 := S
    obtain ⟨hx, hb, hml, hown, hts⟩ := S0
    have hmono := jv_run_mono (n + 1) h0
    rcases hcase with ⟨hret, rfl⟩ | ⟨pc', L', st', h1, hs, hr⟩ | ⟨ck, idx, z, na', ne, hci, hcal, hz⟩
    · have e1 : tc = cells := by omega
      have e2 : ts = slots := by omega
      subst e1
      subst e2
      exact hend H locs pc ls st i len hdg hl hret hR hS
    · have m1 := jv_step_mono hs
      have m2 := jv_run_mono n hr
      refine jv_step_ok hx hb hown hts hK hR hS (fun q => hini (by simpa using q)) hLv hdg hl hs (by omega) (by omega) (by omega) ?_
      intro H' locs' ls' cells' slots' e1 e2 hR' hS' hL'
      exact jv_sound n y pc' L' st' h1 h' r hr p e R s m args below meth c H' locs' cells' slots' tc ts Q ls' ow kd na mL fr lo hinf S hini hK hR' hS' hL' hm hfr hlo (by omega) (by omega) htcR htsR hend
    · obtain ⟨q900, q901, q902, qz⟩ := jw_lStr hcal
      rcases hz with ⟨hz, a, rst, rfl, hck, hf1, hl1, hr⟩ | ⟨hz, st', hst, hck, hf1, hl1, hl2, hr⟩ | ⟨hz, st', hst, hck, hf1, hl1, hl2, hr⟩ | ⟨hz0, hz1, hz2, q, r1, h1, hq, hmay, hr1, hr⟩
      · subst hck
        have hi : i = .invokespecial idx := by
          rcases jv_isC_eq hci with ⟨hk, -⟩ | ⟨hk, -⟩ | ⟨-, hi⟩
          · cases hk
          · cases hk
          · exact hi
        subst hi
        have e := jv_len1 hl rfl
        subst e
        refine W.objInit (a := jv_ad G a) (rest := rst.map (jv_vl (jv_ad G))) hx hb hown (hts _ (q900 hz)) (hts _ (jv_in_ok jv_obI)) (hts _ (jv_in_ok jv_obC)) rfl (hLv.1.trans hml.symm) rfl hdg (by omega) ?_ ?_
        · show 2 * 0 + _ + 12 ≤ R.locals
          rw [jv_wd_map]
          omega
        · exact jv_sound n y (pc + 3) Lv rst h h' r hr p e R s m args below meth c H locs cells slots tc ts Q ls ow kd na mL fr lo hinf S hini hK hR hS hLv hm hfr hlo htc hts2 htcR htsR hend
      · subst hck
        have hi : i = .invokevirtual idx := by
          rcases jv_isC_eq hci with ⟨hk, -⟩ | ⟨-, hi⟩ | ⟨hk, -⟩
          · cases hk
          · exact hi
          · cases hk
        subst hi
        have e := jv_len1 hl rfl
        subst e
        obtain ⟨k, rst, hk20, rfl, rfl⟩ := jv_strlen_eq hst
        have hWd : jv_wd (rst.map (jv_vl (jv_ad G))) ≤ 8 := by
          have h9 : jv_wd rst ≤ 8 := hl2
          unfold jv_wd
          rw [jv_wd_map]
          exact h9
        have hcell : ∃ cell : Cell, H[jv_ad G (1000001 + k)]? = some cell ∧ cell.vm.isStatics = false ∧ s.vm.findClass RJ0 = some cell.cls := by
          rw [jv_ad_txt]
          exact vk_recv hK.2.2.2.2.1 hk20 hS
        refine jv_jV (C := RJ0) (As := []) (n := 0) (b := jv_ad G (1000001 + k)) (rest := rst.map (jv_vl (jv_ad G))) S hK hR hS (jv_len_met k h hk20) jw_codeLEN jw_ini0 (q901 hz) jw_insLEN jw_selLEN hcell (by decide +kernel) ⟨by show 1 + 1 ≤ R.frames; omega, by show 8 + (1 + 11) + 20 ≤ R.locals; omega⟩ rfl hLv.1 hWd hdg ⟨by omega, by omega⟩ rfl (fun H1 locs1 hR1 hS1 => ?_)
        exact jv_sound n y (pc + 3) Lv _ h h' r hr p e R s m args below meth c H1 locs1 cells slots tc ts Q ls ow kd na mL fr lo hinf S hini hK hR1 hS1 hLv hm hfr hlo htc hts2 htcR htsR hend
      · subst hck
        have hi : i = .invokevirtual idx := by
          rcases jv_isC_eq hci with ⟨hk, -⟩ | ⟨-, hi⟩ | ⟨hk, -⟩
          · cases hk
          · exact hi
          · cases hk
        subst hi
        have e := jv_len1 hl rfl
        subst e
        obtain ⟨k, j, rst, hk20, hj, rfl, rfl⟩ := jv_strat_eq hst
        have hWd : jv_wd (rst.map (jv_vl (jv_ad G))) ≤ 8 := by
          have h9 : jv_wd rst ≤ 8 := hl2
          unfold jv_wd
          rw [jv_wd_map]
          exact h9
        have hcell : ∃ cell : Cell, H[jv_ad G (1000001 + k)]? = some cell ∧ cell.vm.isStatics = false ∧ s.vm.findClass RJ0 = some cell.cls := by
          rw [jv_ad_txt]
          exact vk_recv hK.2.2.2.2.1 hk20 hS
        refine jv_jV (C := RJ0) (As := [.int j]) (n := 1) (b := jv_ad G (1000001 + k)) (rest := rst.map (jv_vl (jv_ad G))) S hK hR hS (jv_chr_met k j h hk20 hj) jw_codeCH jw_ini0 (q902 hz) jw_insCH jw_selCH hcell (by decide +kernel) ⟨by show 5 + 1 ≤ R.frames; omega, by show 8 + (2 + 11) + 99 ≤ R.locals; omega⟩ rfl hLv.1 hWd hdg ⟨by omega, by omega⟩ rfl (fun H1 locs1 hR1 hS1 => ?_)
        exact jv_sound n y (pc + 3) Lv _ h h' r hr p e R s m args below meth c H1 locs1 cells slots tc ts Q ls ow kd na mL fr lo hinf S hini hK hR1 hS1 hLv hm hfr hlo htc hts2 htcR htsR hend
      · obtain ⟨ow2, kd2, na2, mL2, fr2, lo2⟩ := q
        have m1 := jv_run_mono n hr1
        have m2 := jv_run_mono n hr
        have hmay2 := hmay
        unfold jv_may at hmay2
        simp only [Bool.and_eq_true, decide_eq_true_eq] at hmay2
        obtain ⟨⟨-, -, hn2, hn3, -, -, -, hw2⟩, -⟩ := hmay2
        have hlen : (st.take na').reverse.length = na' := by rw [List.length_reverse, List.length_take]; omega
        have hcat : ∀ v ∈ (st.take na').reverse, v.category = 1 := by
          intro v hv
          exact jv_wd_one (st.take na') (by rw [hw2, List.length_take]; omega) v (List.mem_reverse.mp hv)
        have hok := jv_sound n z 0 _ [] h h1 r1 hr1
        have hM := jv_met (qz hz0 hz1 hz2) hq hcat (by omega) (h := h) (h' := h1) (r := r1) (by rw [hlen]; exact hok) (by omega)
        refine jv_call_ok S hK hR hS hq hcal hz0 hz1 hz2 hdg hci hl hmay hfr hlo hLv.1 hM ⟨by omega, by omega⟩ ?_
        intro H1 locs1 hR1 hS1
        exact jv_sound n y (pc + 3) Lv _ h1 h' r hr p e R s m args below meth c H1 locs1 _ _ tc ts Q ls ow kd na mL fr lo hinf S hini hK hR1 hS1 hLv hm hfr hlo (by omega) (by omega) htcR htsR hend
end JSS
