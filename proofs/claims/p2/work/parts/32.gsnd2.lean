section GSND2
variable {y pc : Nat} {i : Instr} {len : Nat} {t : List sI} {Lv : gL} {st : List Value} {σ : gS} {K : gK} {k : gC} {j : gJ} {a b : Nat}
theorem c_fr {c : Bool} {P : Prop} (h : cond c P False) : c = true ∧ P := by
  cases c
  · exact h.elim
  · exact ⟨rfl, h⟩
theorem gk_getf (A : gA y pc i len K k) (hs : sk_getf y i a b = true) (hr : go_getf a b Lv st σ k) : gE y pc Lv st σ K := by
  unfold go_getf at hr
  split at hr
  · rename_i p r
    obtain ⟨hb, hr⟩ := c_fr hr
    obtain ⟨hb, ha⟩ := s_and hb
    have hb := b_lt hb
    have ha := b_lt ha
    unfold sk_getf at hs
    split at hs
    · rename_i idx
      have hfld := of_decide_eq_true hs
      have go : ∀ (v : Value), p < 332 ∧ gkd p = 16 + a → (∀ w, gvl (σ p) p a b w → w = v) → k Lv (v :: r) σ → gE y pc Lv (.ref p :: r) σ K := by
        intro v hp hv hk
        refine gA_go A rfl rfl (fun L xs h hh => ⟨h, st_heap rfl rfl rfl rfl ?_, hh⟩) hk
        obtain ⟨fs, hx, hlen, hf⟩ := gCk_obj (hh.2.2.2 p hp.1) hp.2
        have hlt : b < fs.length := by rw [← hlen, gln_ok p hp.1 a ha hp.2]; exact hb
        have hv2 := List.getElem?_eq_getElem hlt
        have e := hv _ (hf b _ hv2)
        show (match jv_get (sow y) idx (.ref p :: r) h with
          | some st' => some (st', h)
          | none => none) = _
        have e2 : jv_get (sow y) idx (.ref p :: r) h = some (v :: r) := by
          unfold jv_get
          simp only [hfld]
          rw [if_pos (by rw [hh.1]; exact hp.1)]
          simp only [hx]
          rw [if_pos trivial]
          simp only [hv2, e]
        rw [e2]
      cases q : gfi a b with
      | true =>
        rw [q] at hr
        obtain ⟨hp, hk⟩ := gcl_of ha hr
        exact go _ hp (fun w hw => by unfold gvl at hw; rw [q] at hw; exact hw) hk
      | false =>
        rw [q] at hr
        obtain ⟨hp, hk⟩ := gcl_of ha hr
        obtain ⟨q2, hk⟩ := c_fr hk
        exact go _ hp (fun w hw => by unfold gvl at hw; rw [q, q2] at hw; exact hw) hk
    · cases hs
  · exact hr.elim
theorem gk_put {kd : Nat} {w : Int32} {p : Nat} {r : List Value} (A : gA y pc i len K k) (ha : a < 9) (hb : b < jv_fn a) (hs : sk_putf y i a b kd = true) (hfi : gfi a b = true) (hn : pv_k kd (jv_fty a b) = true → narrow (jv_fty a b) (.int w) = .int w ∧ fits (jv_fty a b) (.int w) = true) (hp : p < 332 ∧ gkd p = 16 + a) (hk : k Lv r (gup σ p b w)) : gE y pc Lv (.int w :: .ref p :: r) σ K := by
  unfold sk_putf at hs
  split at hs
  · rename_i idx
    obtain ⟨hk1, hk2⟩ := s_and hs
    obtain ⟨hfld, hfin⟩ := of_decide_eq_true hk1
    obtain ⟨n1, n2⟩ := hn hk2
    refine gA_go A rfl rfl (fun L xs h hh => ?_) hk
    obtain ⟨fs, hx, hlen, hf⟩ := gCk_obj (hh.2.2.2 p hp.1) hp.2
    have hlt : b < fs.length := by rw [← hlen, gln_ok p hp.1 a ha hp.2]; exact hb
    refine ⟨jv_put h p (.inr (.inr (a, fs.set b (.int w)))), st_heap rfl rfl rfl rfl ?_, gRel_put hh hp.1 ⟨hp.2, by rw [List.length_set]; exact hlen, fun m v hm => ?_⟩⟩
    · show jv_set (sow y) (sini y) idx (.int w :: .ref p :: r) h = _
      unfold jv_set
      simp only [hfld]
      rw [if_pos ⟨by rw [hh.1]; exact hp.1, n1, n2, hfin⟩]
      simp only [hx]
      rw [if_pos ⟨trivial, hlt⟩]
    · by_cases q : m = b
      · rw [q, List.getElem?_set_self hlt] at hm
        cases hm
        rw [q]
        unfold gvl
        rw [hfi, gup_at]
        rfl
      · rw [List.getElem?_set_ne (fun e => q e.symm)] at hm
        have h5 := hf m v hm
        unfold gvl at h5 ⊢
        rw [gup_ne (fun e => q e.2)]
        exact h5
  · cases hs
theorem gk_putf (A : gA y pc i len K k) (hs : sk_putf y i a b 0 = true) (hr : go_putf a b Lv st σ k) : gE y pc Lv st σ K := by
  unfold go_putf at hr
  split at hr
  · rename_i x p r
    obtain ⟨hb, hr⟩ := c_fr hr
    obtain ⟨hb, ha⟩ := s_and hb
    obtain ⟨ha, hfi⟩ := s_and ha
    have ha := b_lt ha
    obtain ⟨hp, hk⟩ := gcl_of ha hr
    refine gk_put A ha (b_lt hb) hs hfi (fun q => ?_) hp hk
    generalize jv_fty a b = ty at q ⊢
    cases ty <;> first | (cases q; done) | exact ⟨rfl, rfl⟩
  · exact hr.elim
theorem gk_putz (A : gA y pc i len K k) (hs : sk_putf y i a b 1 = true) (hr : go_putz a b Lv st σ k) : gE y pc Lv st σ K := by
  unfold go_putz at hr
  split at hr
  · rename_i x p r
    obtain ⟨hb, hx, hr⟩ := c_fr hr
    obtain ⟨hb, ha⟩ := s_and hb
    obtain ⟨ha, hfi⟩ := s_and ha
    have ha := b_lt ha
    obtain ⟨hp, hk⟩ := gcl_of ha hr
    refine gk_put A ha (b_lt hb) hs hfi (fun q => ?_) hp hk
    generalize jv_fty a b = ty at q ⊢
    cases ty <;> first | (cases q; done) | skip
    rcases hx with rfl | rfl <;> exact ⟨by decide, by decide⟩
  · exact hr.elim
theorem gin_ok {x : Int32} {p : Nat} (hp : p < 332) (h : 0 ≤ x ∧ x < Int32.ofNat (gln p)) : ¬ (x < 0 ∨ gln p ≤ x.toNatClampNeg) := by
  obtain ⟨h1, h2⟩ := h
  have h3 := gln_lt p hp
  have e : (Int32.ofNat (gln p)).toInt = gln p := Int32.toInt_ofNat_of_lt (by omega)
  rw [Int32.lt_iff_toInt_lt, e] at h2
  rw [Int32.le_iff_toInt_le] at h1
  have h1 : 0 ≤ x.toInt := h1
  intro q
  rcases q with q | q
  · rw [Int32.lt_iff_toInt_lt] at q
    have q : x.toInt < 0 := q
    omega
  · have : x.toNatClampNeg = x.toInt.toNat := rfl
    omega
theorem gin_lt {x : Int32} {p : Nat} (hp : p < 332) (h : 0 ≤ x ∧ x < Int32.ofNat (gln p)) : x.toNatClampNeg < gln p := by
  have := gin_ok hp h
  omega
theorem gk_iald (A : gA y pc .iaload len K k) (hr : go_iald Lv st σ k 0) : gE y pc Lv st σ K := by
  unfold go_iald at hr
  split at hr
  · rename_i x p r
    obtain ⟨q, hi, hk⟩ := c_fr hr
    obtain ⟨q1, q2⟩ := s_and q
    have hp := b_lt q1
    refine gA_go A rfl rfl (fun L xs h hh => ⟨h, st_heap rfl rfl rfl rfl ?_, hh⟩) hk
    obtain ⟨g, hx, hg⟩ := gCk_arr (hh.2.2.2 p hp) (b_eq q2) (by decide)
    have hlt : p < h.2.1 := by rw [hh.1]; exact hp
    show (if p < h.2.1 ∨ (p = 1000000 ∧ sow y = 10) then match h.1 p with
      | .inl (ty, n, f) => if (ty = 0 ∧ p < h.2.1 ∨ ty = 9 ∧ p = 1000000) ∧ ¬ (x < 0 ∨ n ≤ x.toNatClampNeg) then some (.int (f x.toNatClampNeg) :: r, h) else none
      | _ => none else none) = _
    rw [if_pos (Or.inl hlt), hx]
    show (if ((0 : Nat) = 0 ∧ p < h.2.1 ∨ (0 : Nat) = 9 ∧ p = 1000000) ∧ ¬ (x < 0 ∨ gln p ≤ x.toNatClampNeg) then some (.int (g x.toNatClampNeg) :: r, h) else none) = _
    rw [if_pos ⟨Or.inl ⟨rfl, hlt⟩, gin_ok hp hi⟩, hg _ (gin_lt hp hi)]
  · exact hr.elim
theorem gk_bald (A : gA y pc .baload len K k) (hr : go_iald Lv st σ k 1) : gE y pc Lv st σ K := by
  unfold go_iald at hr
  split at hr
  · rename_i x p r
    obtain ⟨q, hi, hk⟩ := c_fr hr
    obtain ⟨q1, q2⟩ := s_and q
    have hp := b_lt q1
    refine gA_go A rfl rfl (fun L xs h hh => ⟨h, st_heap rfl rfl rfl rfl ?_, hh⟩) hk
    obtain ⟨g, hx, hg⟩ := gCk_arr (hh.2.2.2 p hp) (b_eq q2) (by decide)
    have hlt : p < h.2.1 := by rw [hh.1]; exact hp
    show (if p < h.2.1 then match h.1 p with
      | .inl (ty, n, f) => if ty = 1 ∧ ¬ (x < 0 ∨ n ≤ x.toNatClampNeg) then some (.int (f x.toNatClampNeg) :: r, h) else none
      | _ => none else none) = _
    rw [if_pos hlt, hx]
    show (if (1 : Nat) = 1 ∧ ¬ (x < 0 ∨ gln p ≤ x.toNatClampNeg) then some (.int (g x.toNatClampNeg) :: r, h) else none) = _
    rw [if_pos ⟨rfl, gin_ok hp hi⟩, hg _ (gin_lt hp hi)]
  · exact hr.elim
theorem gk_aald (A : gA y pc .aaload len K k) (hr : go_aald Lv st σ k) : gE y pc Lv st σ K := by
  unfold go_aald at hr
  split at hr
  · rename_i x p r
    obtain ⟨q, hi, hk⟩ := c_fr hr
    obtain ⟨q1, q2⟩ := s_and q
    have hp := b_lt q1
    have q3 : gkd p = 2 ∨ gkd p = 3 := (s_or q2).imp b_eq b_eq
    refine gA_go A rfl rfl (fun L xs h hh => ⟨h, st_heap rfl rfl rfl rfl ?_, hh⟩) hk
    obtain ⟨g, hx, hg⟩ := gCk_rarr (hh.2.2.2 p hp) rfl q3
    have hlt : p < h.2.1 := by rw [hh.1]; exact hp
    show (if p < h.2.1 then match h.1 p with
      | .inr (.inl (ty, n, f)) => if (ty = 2 ∨ ty = 3) ∧ ¬ (x < 0 ∨ n ≤ x.toNatClampNeg) then (match f x.toNatClampNeg with
        | some b => some (.ref b :: r, h)
        | none => none) else none
      | _ => none else none) = _
    rw [if_pos hlt, hx]
    show (if (gkd p = 2 ∨ gkd p = 3) ∧ ¬ (x < 0 ∨ gln p ≤ x.toNatClampNeg) then (match g x.toNatClampNeg with
        | some b => some (.ref b :: r, h)
        | none => none) else none) = _
    rw [if_pos ⟨q3, gin_ok hp hi⟩, hg _ (gin_lt hp hi)]
  · exact hr.elim
theorem gCk_upd {f : Nat → Int32} {p c m : Nat} {w : Int32} {g : Nat → Int32} (hk : gkd p = c) (hc2 : c < 2) (hg : ∀ i, i < gln p → g i = σ p i) : gCk (gup σ p m w p) p (.inl (c, gln p, upd g m w)) := by
  refine ⟨hk, hc2, rfl, fun n hn => ?_⟩
  unfold upd gup
  by_cases q : n = m
  · rw [if_pos q, if_pos ⟨rfl, q⟩]
  · rw [if_neg q, if_neg (fun e => q e.2)]
    exact hg n hn
theorem gk_iast (A : gA y pc .iastore len K k) (hr : go_iast Lv st σ k) : gE y pc Lv st σ K := by
  unfold go_iast at hr
  split at hr
  · rename_i w x p r
    obtain ⟨q, hi, hk⟩ := c_fr hr
    obtain ⟨q1, q2⟩ := s_and q
    have hp := b_lt q1
    refine gA_go A rfl rfl (fun L xs h hh => ?_) hk
    obtain ⟨g, hx, hg⟩ := gCk_arr (hh.2.2.2 p hp) (b_eq q2) (by decide)
    have hlt : p < h.2.1 := by rw [hh.1]; exact hp
    refine ⟨jv_put h p (.inl (0, gln p, upd g x.toNatClampNeg w)), st_heap rfl rfl rfl rfl ?_, gRel_put hh hp (gCk_upd (f := g) (b_eq q2) (by decide) hg)⟩
    show (if p < h.2.1 then match h.1 p with
      | .inl (ty, n, f) => if ty = 0 ∧ ¬ (x < 0 ∨ n ≤ x.toNatClampNeg) then some (r, jv_put h p (.inl (ty, n, upd f x.toNatClampNeg w))) else none
      | _ => none else none) = _
    rw [if_pos hlt, hx]
    show (if (0 : Nat) = 0 ∧ ¬ (x < 0 ∨ gln p ≤ x.toNatClampNeg) then some (r, jv_put h p (.inl (0, gln p, upd g x.toNatClampNeg w))) else none) = _
    rw [if_pos ⟨rfl, gin_ok hp hi⟩]
  · exact hr.elim
theorem gk_bast (A : gA y pc .bastore len K k) (hr : go_bast Lv st σ k) : gE y pc Lv st σ K := by
  unfold go_bast at hr
  split at hr
  · rename_i w x p r
    obtain ⟨q, ⟨hi, hw⟩, hk⟩ := c_fr hr
    obtain ⟨q1, q2⟩ := s_and q
    have hp := b_lt q1
    have hnar : vp_nar .boolean w = w := by rcases hw with rfl | rfl <;> decide
    refine gA_go A rfl rfl (fun L xs h hh => ?_) hk
    obtain ⟨g, hx, hg⟩ := gCk_arr (hh.2.2.2 p hp) (b_eq q2) (by decide)
    have hlt : p < h.2.1 := by rw [hh.1]; exact hp
    refine ⟨jv_put h p (.inl (1, gln p, upd g x.toNatClampNeg w)), st_heap rfl rfl rfl rfl ?_, gRel_put hh hp (gCk_upd (f := g) (b_eq q2) (by decide) hg)⟩
    show (if p < h.2.1 ∧ vp_nar .boolean w = w then match h.1 p with
      | .inl (ty, n, f) => if ty = 1 ∧ ¬ (x < 0 ∨ n ≤ x.toNatClampNeg) then some (r, jv_put h p (.inl (ty, n, upd f x.toNatClampNeg w))) else none
      | _ => none else none) = _
    rw [if_pos ⟨hlt, hnar⟩, hx]
    show (if (1 : Nat) = 1 ∧ ¬ (x < 0 ∨ gln p ≤ x.toNatClampNeg) then some (r, jv_put h p (.inl (1, gln p, upd g x.toNatClampNeg w))) else none) = _
    rw [if_pos ⟨rfl, gin_ok hp hi⟩]
  · exact hr.elim
theorem c_2 {c : Bool} {P Q : Prop} (h : cond c P Q) : (c = true ∧ P) ∨ Q := by
  cases c
  · exact Or.inr h
  · exact Or.inl ⟨rfl, h⟩
theorem gk_sald (A : gA y pc .iaload len K k) (hr : go_sald Lv st σ k y) : gE y pc Lv st σ K := by
  unfold go_sald at hr
  split at hr
  · rename_i x p r
    rcases c_2 hr with ⟨q, hi, hk⟩ | hr
    · obtain ⟨q1, q2⟩ := s_and q
      have hp := b_eq q1
      have hy := b_eq q2
      subst hp
      refine gA_go A rfl rfl (fun L xs h hh => ⟨h, st_heap rfl rfl rfl rfl ?_, hh⟩) hk
      obtain ⟨s1, s2, s3, s4⟩ := hh.2.2.1
      have how : sow y = 10 := by rw [hy]; rfl
      rw [s3] at hi
      obtain ⟨i1, i2⟩ := hi
      have e : (Int32.ofNat L).toInt = L := Int32.toInt_ofNat_of_lt (by omega)
      rw [Int32.lt_iff_toInt_lt, e] at i2
      rw [Int32.le_iff_toInt_le] at i1
      have i1 : 0 ≤ x.toInt := i1
      have en : x.toNatClampNeg = x.toInt.toNat := rfl
      have hn : ¬ (x < 0 ∨ L ≤ x.toNatClampNeg) := by
        intro q
        rcases q with q | q
        · rw [Int32.lt_iff_toInt_lt] at q
          have q : x.toInt < 0 := q
          omega
        · omega
      show (if (1000000 : Nat) < h.2.1 ∨ ((1000000 : Nat) = 1000000 ∧ sow y = 10) then match h.1 1000000 with
        | .inl (ty, n, f) => if (ty = 0 ∧ (1000000 : Nat) < h.2.1 ∨ ty = 9 ∧ (1000000 : Nat) = 1000000) ∧ ¬ (x < 0 ∨ n ≤ x.toNatClampNeg) then some (.int (f x.toNatClampNeg) :: r, h) else none
        | _ => none else none) = _
      rw [if_pos (Or.inr ⟨rfl, how⟩), s1]
      show (if ((9 : Nat) = 0 ∧ (1000000 : Nat) < h.2.1 ∨ (9 : Nat) = 9 ∧ (1000000 : Nat) = 1000000) ∧ ¬ (x < 0 ∨ L ≤ x.toNatClampNeg) then some (.int (xs x.toNatClampNeg) :: r, h) else none) = _
      rw [if_pos ⟨Or.inr ⟨rfl, rfl⟩, hn⟩, s4 _ (by omega)]
    · exact gk_iald A hr
  · exact hr.elim
theorem gk_alen (A : gA y pc .arraylength len K k) (hr : go_alen Lv st σ k y) : gE y pc Lv st σ K := by
  unfold go_alen at hr
  split at hr
  · rename_i p r
    rcases c_2 hr with ⟨q, hk⟩ | hr
    · obtain ⟨q1, q2⟩ := s_and q
      have hp := b_eq q1
      have hy := b_eq q2
      subst hp
      refine gA_go A rfl rfl (fun L xs h hh => ⟨h, st_heap rfl rfl rfl rfl ?_, hh⟩) hk
      obtain ⟨s1, s2, s3, s4⟩ := hh.2.2.1
      have how : sow y = 10 := by rw [hy]; rfl
      show (if (1000000 : Nat) < h.2.1 ∨ ((1000000 : Nat) = 1000000 ∧ sow y = 10) then match h.1 1000000 with
        | .inl (ty, n, _) => if ty < 2 ∧ (1000000 : Nat) < h.2.1 ∨ ty = 9 ∧ (1000000 : Nat) = 1000000 then some (.int (Int32.ofNat n) :: r, h) else none
        | .inr (.inl (ty, n, _)) => if (ty = 2 ∨ ty = 3) ∧ (1000000 : Nat) < h.2.1 then some (.int (Int32.ofNat n) :: r, h) else none
        | _ => none else none) = _
      rw [if_pos (Or.inr ⟨rfl, how⟩), s1]
      show (if (9 : Nat) < 2 ∧ (1000000 : Nat) < h.2.1 ∨ (9 : Nat) = 9 ∧ (1000000 : Nat) = 1000000 then some (.int (Int32.ofNat L) :: r, h) else none) = _
      rw [if_pos (Or.inr ⟨rfl, rfl⟩), s3]
    obtain ⟨q, hk⟩ := c_fr hr
    obtain ⟨q1, q2⟩ := s_and q
    have hp := b_lt q1
    have q2 := b_lt q2
    refine gA_go A rfl rfl (fun L xs h hh => ⟨h, st_heap rfl rfl rfl rfl ?_, hh⟩) hk
    have hlt : p < h.2.1 := by rw [hh.1]; exact hp
    show (if p < h.2.1 ∨ (p = 1000000 ∧ sow y = 10) then match h.1 p with
      | .inl (ty, n, _) => if ty < 2 ∧ p < h.2.1 ∨ ty = 9 ∧ p = 1000000 then some (.int (Int32.ofNat n) :: r, h) else none
      | .inr (.inl (ty, n, _)) => if (ty = 2 ∨ ty = 3) ∧ p < h.2.1 then some (.int (Int32.ofNat n) :: r, h) else none
      | _ => none else none) = _
    rw [if_pos (Or.inl hlt)]
    have hcell := hh.2.2.2 p hp
    rcases Nat.lt_or_ge (gkd p) 2 with c2 | c2
    · obtain ⟨g, hx, -⟩ := gCk_arr hcell rfl c2
      rw [hx]
      show (if gkd p < 2 ∧ p < h.2.1 ∨ gkd p = 9 ∧ p = 1000000 then some (.int (Int32.ofNat (gln p)) :: r, h) else none) = _
      rw [if_pos (Or.inl ⟨c2, hlt⟩)]
    · have c3 : gkd p = 2 ∨ gkd p = 3 := by omega
      obtain ⟨g, hx, -⟩ := gCk_rarr hcell rfl c3
      rw [hx]
      show (if (gkd p = 2 ∨ gkd p = 3) ∧ p < h.2.1 then some (.int (Int32.ofNat (gln p)) :: r, h) else none) = _
      rw [if_pos ⟨c3, hlt⟩]
  · exact hr.elim
/-- jumps -/
theorem gbr_of {x v : Int32} {P Q : Prop} {cn : ClassFile.Cond} (hr : gbr (s_ccn cn) x v P Q) : (jv_cc cn x v = true ∧ P) ∨ (¬ jv_cc cn x v = true ∧ Q) := by
  cases cn
  · by_cases q : x = v
    · exact Or.inl ⟨decide_eq_true q, (show (x = v → P) ∧ (¬ x = v → Q) from hr).1 q⟩
    · exact Or.inr ⟨fun e => q (of_decide_eq_true e), (show (x = v → P) ∧ (¬ x = v → Q) from hr).2 q⟩
  · by_cases q : x = v
    · exact Or.inr ⟨fun e => (of_decide_eq_true e) q, (show (¬ x = v → P) ∧ (x = v → Q) from hr).2 q⟩
    · exact Or.inl ⟨decide_eq_true q, (show (¬ x = v → P) ∧ (x = v → Q) from hr).1 q⟩
  · by_cases q : x < v
    · exact Or.inl ⟨decide_eq_true q, (show (x < v → P) ∧ (¬ x < v → Q) from hr).1 q⟩
    · exact Or.inr ⟨fun e => q (of_decide_eq_true e), (show (x < v → P) ∧ (¬ x < v → Q) from hr).2 q⟩
  · have hr : (¬ x < v → P) ∧ (x < v → Q) := hr
    by_cases q : x < v
    · refine Or.inr ⟨fun e => ?_, hr.2 q⟩
      have e2 : x ≥ v := of_decide_eq_true e
      exact absurd q (Int32.not_lt.mpr e2)
    · exact Or.inl ⟨decide_eq_true (Int32.not_lt.mp q), hr.1 q⟩
  · have hr : (v < x → P) ∧ (¬ v < x → Q) := hr
    by_cases q : v < x
    · exact Or.inl ⟨decide_eq_true q, hr.1 q⟩
    · exact Or.inr ⟨fun e => q (of_decide_eq_true e), hr.2 q⟩
  · have hr : (¬ v < x → P) ∧ (v < x → Q) := hr
    by_cases q : v < x
    · refine Or.inr ⟨fun e => ?_, hr.2 q⟩
      have e2 : x ≤ v := of_decide_eq_true e
      exact absurd q (Int32.not_lt.mpr e2)
    · exact Or.inl ⟨decide_eq_true (Int32.not_lt.mp q), hr.1 q⟩
theorem gk_goto (hy : y < 272) (hcode : jv_code y pc = some (i, len)) (hj : ∀ tgt Lv st σ, j tgt Lv st σ → gE y tgt Lv st σ K) (hs : sk_goto pc i a = true) (hr : j a Lv st σ) : gE y pc Lv st σ K := by
  unfold sk_goto at hs
  split at hs
  · rename_i off
    have h1 := of_decide_eq_true hs
    refine gE_step hy hcode rfl rfl (fun L xs h hh => ⟨h, st_br (pc' := a) (vs' := st) rfl rfl ?_, hh⟩) (hj _ _ _ _ hr)
    exact s_jmp h1
  · cases hs
theorem gk_if (A : gA y pc i len K k) (hj : ∀ tgt Lv st σ, j tgt Lv st σ → gE y tgt Lv st σ K) (hlen : len = 3) (hs : sk_if pc i a b = true) (hr : go_if a b Lv st σ k j) : gE y pc Lv st σ K := by
  unfold go_if at hr
  split at hr
  · rename_i x r
    unfold sk_if at hs
    split at hs
    · rename_i cn off
      obtain ⟨rfl, h1⟩ := of_decide_eq_true hs
      rcases gbr_of hr with ⟨hc, hr⟩ | ⟨hc, hr⟩
      · refine gE_step A.1 A.2.1 rfl rfl (fun L xs h hh => ⟨h, st_br (pc' := b) (vs' := r) rfl rfl ?_, hh⟩) (hj _ _ _ _ hr)
        show (match jv_jmp pc off r with
          | some t => if jv_cc cn x 0 = true then some t else some (pc + 3, r)
          | none => none) = some (b, r)
        rw [s_jmp h1]
        exact if_pos hc
      · refine gA_go A rfl rfl (fun L xs h hh => ⟨h, st_br (vs' := r) rfl rfl ?_, hh⟩) hr
        show (match jv_jmp pc off r with
          | some t => if jv_cc cn x 0 = true then some t else some (pc + 3, r)
          | none => none) = some (pc + len, r)
        rw [s_jmp h1, hlen]
        exact if_neg hc
    · cases hs
  · exact hr.elim
theorem gk_icmp (A : gA y pc i len K k) (hj : ∀ tgt Lv st σ, j tgt Lv st σ → gE y tgt Lv st σ K) (hlen : len = 3) (hs : sk_icmp pc i a b = true) (hr : go_icmp a b Lv st σ k j) : gE y pc Lv st σ K := by
  unfold go_icmp at hr
  split at hr
  · rename_i v x r
    unfold sk_icmp at hs
    split at hs
    · rename_i cn off
      obtain ⟨rfl, h1⟩ := of_decide_eq_true hs
      rcases gbr_of hr with ⟨hc, hr⟩ | ⟨hc, hr⟩
      · refine gE_step A.1 A.2.1 rfl rfl (fun L xs h hh => ⟨h, st_br (pc' := b) (vs' := r) rfl rfl ?_, hh⟩) (hj _ _ _ _ hr)
        show (match jv_jmp pc off r with
          | some t => if jv_cc cn x v = true then some t else some (pc + 3, r)
          | none => none) = some (b, r)
        rw [s_jmp h1]
        exact if_pos hc
      · refine gA_go A rfl rfl (fun L xs h hh => ⟨h, st_br (vs' := r) rfl rfl ?_, hh⟩) hr
        show (match jv_jmp pc off r with
          | some t => if jv_cc cn x v = true then some t else some (pc + 3, r)
          | none => none) = some (pc + len, r)
        rw [s_jmp h1, hlen]
        exact if_neg hc
    · cases hs
  · exact hr.elim
end GSND2
