/-! THE J MACHINE IS RIGHT: the whole -/
theorem jw_lStr {ow idx z na ne : Nat} (h : jv_cal ow idx = some (z, na, ne)) : (z = 900 → Cond.methodLink (jv_own ow) idx Lib.objectInit ∈ jv_T) ∧ (z = 903 → Cond.methodLink (jv_own ow) idx yJ0_checkIndex_df160 ∈ jv_T) ∧ (z = 904 → Cond.methodLink (jv_own ow) idx arraycopyName ∈ jv_T) ∧ (z = 905 → Cond.methodLink (jv_own ow) idx ⟨"[B", "clone", "()Ljava/lang/Object;"⟩ ∈ jv_T) ∧ (z ≠ 900 → z ≠ 903 → z ≠ 904 → z ≠ 905 → z < 271) := by
  have hck := jv_ckc_ok h
  unfold jv_ckc1 at hck
  refine ⟨fun hz => ?_, fun hz => ?_, fun hz => ?_, fun hz => ?_, fun h0 h1 h2 h3 => ?_⟩
  · subst hz
    exact jv_in_ok hck
  · subst hz
    exact jv_in_ok hck
  · subst hz
    exact jv_in_ok hck
  · subst hz
    exact jv_in_ok hck
  · rw [if_neg h0, if_neg h1, if_neg h2, if_neg h3] at hck
    split at hck
    · simp only [Bool.and_eq_true, decide_eq_true_eq] at hck
      exact hck.1.2
    · cases hck
section JSS
variable {l : Launch} {D : va_G} {dA : Nat → ClassId} {G : jv_G} {adV : Nat → Nat} {L : Nat} {xs : Nat → Int32}
set_option maxHeartbeats 8000000 in
set_option maxRecDepth 100000 in
theorem jv_sound : ∀ (n y pc : Nat) (Lv : List (Option Value)) (st : List Value) (h h' : jv_H) (r : Option Value), jv_run n y pc Lv st h = some (r, h') → jv_OK l D dA G adV L xs y pc Lv st h r h'
  | 0, _, _, _, _, _, _, _, h0 => by cases h0
  | n + 1, y, pc, Lv, st, h, h', r, h0 => by
    intro p e R s m args below meth c H locs cells slots tc ts Q ls ow kd na mL fr lo hinf S hini hK hR hS hLv hm hfr hlo htc hts2 htcR htsR hend
    obtain ⟨ow1, kd1, na1, mL1, fr1, lo1, i, len, hinf1, hcode, hcase⟩ := jv_run_inv h0
    have he := Option.some.inj (hinf.symm.trans hinf1)
    cases he
    obtain ⟨hdg, hl⟩ := jv_code_ok hcode
    have S0 := S
    obtain ⟨hx, hb, hml, hown, hts⟩ := S0
    have hmono := jv_run_mono (n + 1) h0
    rcases hcase with ⟨hret, rfl⟩ | ⟨pc', L', st', h1, hs, hr⟩ | ⟨ck, idx, z, na', ne, hci, hcal, hz⟩
    · have e1 : tc = cells := by omega
      have e2 : ts = slots := by omega
      subst e1
      subst e2
      exact hend H locs pc ls st i len hdg hl hret hR hS
    · have m1 := jv_step_mono hs
      have m2 := jv_run_mono n hr
      refine jv_step_ok hx hb hown hts hK hR hS (fun q => hini (by simpa using q)) hLv hdg hl hs (by omega) (by omega) (by omega) ?_
      intro H' locs' ls' cells' slots' e1 e2 hR' hS' hL'
      exact jv_sound n y pc' L' st' h1 h' r hr p e R s m args below meth c H' locs' cells' slots' tc ts Q ls' ow kd na mL fr lo hinf S hini hK hR' hS' hL' hm hfr hlo (by omega) (by omega) htcR htsR hend
    · obtain ⟨q900, q903, q904, q905, qz⟩ := jw_lStr hcal
      rcases hz with ⟨hz, a, rst, rfl, hck, hf1, hl1, hr⟩ | ⟨hz, st', hst, hck, hf1, hl1, hl2, hr⟩ | ⟨hz, st', h1, hst, hck, hf1, hl1, hl2, hr⟩ | ⟨hz, st', h1, hst, hck, hf1, hl1, hl2, hr⟩ | ⟨hz0, hz1, hz2, hz3, q, r1, h1, hq, hmay, hr1, hr⟩
      · subst hck
        have hi : i = .invokespecial idx := by
          rcases jv_isC_eq hci with ⟨hk, -⟩ | ⟨hk, -⟩ | ⟨-, hi⟩
          · cases hk
          · cases hk
          · exact hi
        subst hi
        have e := jv_len1 hl rfl
        subst e
        refine W.objInit (a := jv_ad G a) (rest := rst.map (jv_vl (jv_ad G))) hx hb hown (hts _ (q900 hz)) (hts _ (jv_in_ok jv_obI)) (hts _ (jv_in_ok jv_obC)) rfl (hLv.1.trans hml.symm) rfl hdg (by omega) ?_ ?_
        · show 2 * 0 + _ + 12 ≤ R.locals
          rw [jv_wd_map]
          omega
        · exact jv_sound n y (pc + 3) Lv rst h h' r hr p e R s m args below meth c H locs cells slots tc ts Q ls ow kd na mL fr lo hinf S hini hK hR hS hLv hm hfr hlo htc hts2 htcR htsR hend
      · subst hck
        have hi : i = .invokestatic idx := by
          rcases jv_isC_eq hci with ⟨-, hi⟩ | ⟨hk, -⟩ | ⟨hk, -⟩
          · exact hi
          · cases hk
          · cases hk
        subst hi
        have e := jv_len1 hl rfl
        subst e
        obtain ⟨n2, i2, rfl, hi0, hi1⟩ := jv_cidx_eq hst
        have hWd : jv_wd (st'.map (jv_vl (jv_ad G))) ≤ 8 := by
          have h9 : jv_wd st' ≤ 8 := hl2
          unfold jv_wd
          rw [jv_wd_map]
          exact h9
        refine jv_jS (As := [.int i2, .int n2]) (n := 2) (rest := st'.map (jv_vl (jv_ad G))) S hK hR hS (jv_metCI i2 n2 (Int32.not_lt.mpr hi0) hi1 h) jw_codeCI jw_ini0 (q903 hz) jw_staCI (by decide +kernel) ⟨by show 1 + 1 ≤ R.frames; omega, by show 8 + (2 + 11) + 22 ≤ R.locals; omega⟩ rfl hLv.1 hWd hdg ⟨by omega, by omega⟩ rfl (fun H1 locs1 hR1 hS1 => ?_)
        exact jv_sound n y (pc + 3) Lv _ h h' r hr p e R s m args below meth c H1 locs1 cells slots tc ts Q ls ow kd na mL fr lo hinf S hini hK hR1 hS1 hLv hm hfr hlo htc hts2 htcR htsR hend
      · subst hck
        have hi : i = .invokestatic idx := by
          rcases jv_isC_eq hci with ⟨-, hi⟩ | ⟨hk, -⟩ | ⟨hk, -⟩
          · exact hi
          · cases hk
          · cases hk
        subst hi
        have e := jv_len1 hl rfl
        subst e
        obtain ⟨n2, dp, sp, d, sr, m0, k0, f, g, rfl, hsr, hd, hne, hesr, hed, ⟨hn0, hdp0, hsp0⟩, hb1, hb2, hfit, rfl⟩ := jv_acpy_eq hst
        have hWd : ((st'.map (jv_vl (jv_ad G))).map fun v => v.category).sum ≤ 8 := by
          rw [jv_wd_map]
          exact hl2
        have hnf : nativeFrameWords "java/lang/System" "arraycopy" 5 ≤ 21 := by decide
        have key : ∀ (scr : Cell) (k1 : Class) (cm : ClassId), H[jv_ad G sr]? = some scr → (∀ k, scr.vm ≠ .statics k) → scr.vm ≠ .unknown → s.vm.classes[scr.cls]? = some k1 → k1.kind = .array cm .byte → m0 ≤ scr.slots.size → (∀ j, j < m0 → scr.slots[j]? = some (.int (f j))) → W p l e R s m args below meth c H locs cells slots Q (F0 m pc ls ((.int n2 :: .int dp :: .ref d :: .int sp :: .ref sr :: st').map (jv_vl (jv_ad G)))) := by
          intro scr k1 cm c1 c2 c3 c4 c5 c6 c7
          refine jv_copyW (D := D) (a := jv_ad G d) (b0 := jv_ad G sr) (rest := st'.map (jv_vl (jv_ad G))) hx hb (hml.trans hLv.1.symm) hown hts (q904 hz) hK.1 hR.2.2.1 jv_ws_D hS c1 c2 c3 c4 c5 c6 c7 d 4 (hR.at hd hed) rfl hsp0 hdp0 hn0 hb1 hb2 hfit (by omega) (by omega) hdg (fun H1 locs1 z hP1 hS1 => ?_)
          exact jv_sound n y (pc + 3) Lv _ _ h' r hr p e R s m args below meth c H1 locs1 cells slots tc ts Q ls ow kd na mL fr lo hinf S hini hK (hR.put hd z hP1) hS1 hLv hm hfr hlo htc hts2 htcR htsR hend
        rcases hsr with hsr | hsr
        · have h9 := hR.2.2.1 sr _ (hR.at hsr hesr)
          obtain ⟨c2, k1, hk1, cm1, hkk1⟩ := (hK.1.2 4 _ rfl).1 m0 (fun j => .int (f j))
          exact key _ k1 cm1 h9 (fun _ h => by cases h) (fun h => by cases h) hk1 hkk1 (by show m0 ≤ (arrV _ _ _).slots.size; rw [arrV_size]; exact Nat.le_refl _) (fun j hj => by show (arrV _ _ _).slots[j]? = _; rw [arrV_read _ _ hj])
        · obtain ⟨scr, c1, ⟨c2, k1, c4, cm, c5⟩, c3, c6, -, c7, c8⟩ := (hK.oldT hsr ((hR.2.2.2.2 sr hsr).symm.trans hesr)).2
          exact key scr k1 cm (by rw [hS.2.1 _ (Array.getElem?_eq_some_iff.mp c1).1 c8]; exact c1) c2 c3 c4 c5 c6 c7
      · subst hck
        have hi : i = .invokevirtual idx := by
          rcases jv_isC_eq hci with ⟨hk, -⟩ | ⟨-, hi⟩ | ⟨hk, -⟩
          · cases hk
          · exact hi
          · cases hk
        subst hi
        have e := jv_len1 hl rfl
        subst e
        obtain ⟨a, n2, f, rst, rfl, ha, hea, hfit, rfl, rfl⟩ := jv_cln_eq hst
        have m2 := jv_run_mono n hr
        have m21 : h.2.1 + 1 ≤ h'.2.1 := m2.1
        have m22 : h.2.2 + n2 ≤ h'.2.2 := m2.2
        have hWd : ((rst.map (jv_vl (jv_ad G))).map fun v => v.category).sum ≤ 8 := by
          rw [jv_wd_map]
          exact hl2
        have hsz := hR.1
        have hadr : jv_ad G h.2.1 = H.size := by rw [hsz]; exact jv_ad_lt (by omega)
        refine jv_cloneW (D := D) (a := jv_ad G a) (rest := rst.map (jv_vl (jv_ad G))) hx hb (hml.trans hLv.1.symm) hown hts (q905 hz) hK.k3.2.2.2.2.1 hK.1 hR.2.2.1 a 4 (hR.at ha hea) rfl (hK.1.2 4 _ rfl).2 hfit (by omega) (by omega) (by omega) (by omega) hdg (fun H1 z1 o1 e1 => ?_)
        have kk := jv_sound n y (pc + 3) Lv _ _ h' r hr p e R s m args below meth c H1 locs (cells + 1) (slots + n2) tc ts Q ls ow kd na mL fr lo hinf S hini hK (hR.add (by omega) z1 o1 (by rw [← hsz]; exact e1)) (jv_grow hS z1 o1) hLv hm hfr hlo (by show tc = cells + 1 + (h'.2.1 - (h.2.1 + 1)); omega) (by show ts = slots + n2 + (h'.2.2 - (h.2.2 + n2)); omega) htcR htsR hend
        have kk2 : W p l e R s m args below meth c H1 locs (cells + 1) (slots + n2) Q (F0 m (pc + 3) ls (.ref (jv_ad G h.2.1) :: rst.map (jv_vl (jv_ad G)))) := kk
        rw [hadr] at kk2
        exact kk2
      · obtain ⟨ow2, kd2, na2, mL2, fr2, lo2⟩ := q
        have m1 := jv_run_mono n hr1
        have m2 := jv_run_mono n hr
        have hmay2 := hmay
        unfold jv_may at hmay2
        simp only [Bool.and_eq_true, decide_eq_true_eq] at hmay2
        obtain ⟨⟨-, -, hn2, hn3, -, -, -, hw2⟩, -⟩ := hmay2
        have hlen : (st.take na').reverse.length = na' := by rw [List.length_reverse, List.length_take]; omega
        have hcat : ∀ v ∈ (st.take na').reverse, v.category = 1 := by
          intro v hv
          exact jv_wd_one (st.take na') (by rw [hw2, List.length_take]; omega) v (List.mem_reverse.mp hv)
        have hok := jv_sound n z 0 _ [] h h1 r1 hr1
        have hM := jv_met (qz hz0 hz1 hz2 hz3) hq hcat (by omega) (h := h) (h' := h1) (r := r1) (by rw [hlen]; exact hok) (by omega)
        refine jv_call_ok S hK hR hS hq hcal hz0 hz1 hz2 hz3 hdg hci hl hmay hfr hlo hLv.1 hM ⟨by omega, by omega⟩ ?_
        intro H1 locs1 hR1 hS1
        exact jv_sound n y (pc + 3) Lv _ h1 h' r hr p e R s m args below meth c H1 locs1 _ _ tc ts Q ls ow kd na mL fr lo hinf S hini hK hR1 hS1 hLv hm hfr hlo (by omega) (by omega) htcR htsR hend
end JSS
