-- text 3
section GSND2
variable {y pc : Nat} {i : Instr} {len : Nat} {t : List sI} {Lv : gL} {st : List Value} {σ : gS} {K : gK} {k : gC} {j : gJ} {a b : Nat}
theorem c_fr {c : Bool} {P : Prop} (h : cond c P False) : c = true ∧ P := by
  cases c
  · exact h.elim
  · exact ⟨rfl, h⟩
theorem gk_getf (A : gA y pc i len K k) (hs : sk_getf y i a b = true) (hr : go_getf a b Lv st σ k) : gE y pc Lv st σ K := by
  unfold go_getf at hr
  split at hr
  · rename_i p r
    obtain ⟨hb, hr⟩ := c_fr hr
    obtain ⟨hb, ha⟩ := s_and hb
    have hb := b_lt hb
    have ha := b_lt ha
    unfold sk_getf at hs
    split at hs
    · rename_i idx
      have hfld := of_decide_eq_true hs
      have go : ∀ (v : Value), p < 332 ∧ gkd p = 16 + a → (∀ w, gvl (σ p) p a b w → w = v) → k Lv (v :: r) σ → gE y pc Lv (.ref p :: r) σ K := by
        intro v hp hv hk
        refine gA_go A rfl rfl (fun L xs h hh => ⟨h, st_heap rfl rfl rfl rfl ?_, hh⟩) hk
        obtain ⟨fs, hx, hlen, hf⟩ := gCk_obj (hh.2.2.2 p hp.1) hp.2
        have hlt : b < fs.length := by rw [← hlen, gln_ok p hp.1 a ha hp.2]; exact hb
        have hv2 := List.getElem?_eq_getElem hlt
        have e := hv _ (hf b _ hv2)
        show (match jv_get (sow y) idx (.ref p :: r) h with
          | some st' => some (st', h)
          | none => none) = _
        have e2 : jv_get (sow y) idx (.ref p :: r) h = some (v :: r) := by
          unfold jv_get
          simp only [hfld]
          rw [if_pos (by rw [hh.1]; exact hp.1)]
          simp only [hx]
          rw [if_pos trivial]
          simp only [hv2, e]
        rw [e2]
      cases q : gfi a b with
      | true =>
        rw [q] at hr
        obtain ⟨hp, hk⟩ := gcl_of ha hr
        exact go _ hp (fun w hw => by unfold gvl at hw; rw [q] at hw; exact hw) hk
      | false =>
        rw [q] at hr
        obtain ⟨hp, hk⟩ := gcl_of ha hr
        obtain ⟨q2, hk⟩ := c_fr hk
        exact go _ hp (fun w hw => by unfold gvl at hw; rw [q, q2] at hw; exact hw) hk
    · cases hs
  · exact hr.elim
theorem gk_put {kd : Nat} {w : Int32} {p : Nat} {r : List Value} (A : gA y pc i len K k) (ha : a < 9) (hb : b < jv_fn a) (hs : sk_putf y i a b kd = true) (hfi : gfi a b = true) (hn : pv_k kd (jv_fty a b) = true → narrow (jv_fty a b) (.int w) = .int w ∧ fits (jv_fty a b) (.int w) = true) (hp : p < 332 ∧ gkd p = 16 + a) (hk : k Lv r (gup σ p b w)) : gE y pc Lv (.int w :: .ref p :: r) σ K := by
  unfold sk_putf at hs
  split at hs
  · rename_i idx
    obtain ⟨hk1, hk2⟩ := s_and hs
    obtain ⟨hfld, hfin⟩ := of_decide_eq_true hk1
    obtain ⟨n1, n2⟩ := hn hk2
    refine gA_go A rfl rfl (fun L xs h hh => ?_) hk
    obtain ⟨fs, hx, hlen, hf⟩ := gCk_obj (hh.2.2.2 p hp.1) hp.2
    have hlt : b < fs.length := by rw [← hlen, gln_ok p hp.1 a ha hp.2]; exact hb
    refine ⟨jv_put h p (.inr (.inr (a, fs.set b (.int w)))), st_heap rfl rfl rfl rfl ?_, gRel_put hh hp.1 ⟨hp.2, by rw [List.length_set]; exact hlen, fun m v hm => ?_⟩⟩
    · show jv_set (sow y) (sini y) idx (.int w :: .ref p :: r) h = _
      unfold jv_set
      simp only [hfld]
      rw [if_pos ⟨by rw [hh.1]; exact hp.1, n1, n2, hfin⟩]
      simp only [hx]
      rw [if_pos ⟨trivial, hlt⟩]
    · by_cases q : m = b
      · rw [q, List.getElem?_set_self hlt] at hm
        cases hm
        rw [q]
        unfold gvl
        rw [hfi, gup_at]
        rfl
      · rw [List.getElem?_set_ne (fun e => q e.symm)] at hm
        have h5 := hf m v hm
        unfold gvl at h5 ⊢
        rw [gup_ne (fun e => q e.2)]
        exact h5
  · cases hs
theorem gk_putf (A : gA y pc i len K k) (hs : sk_putf y i a b 0 = true) (hr : go_putf a b Lv st σ k) : gE y pc Lv st σ K := by
  unfold go_putf at hr
  split at hr
  · rename_i x p r
    obtain ⟨hb, hr⟩ := c_fr hr
    obtain ⟨hb, ha⟩ := s_and hb
    obtain ⟨ha, hfi⟩ := s_and ha
    have ha := b_lt ha
    obtain ⟨hp, hk⟩ := gcl_of ha hr
    refine gk_put A ha (b_lt hb) hs hfi (fun q => ?_) hp hk
    generalize jv_fty a b = ty at q ⊢
    cases ty <;> first | (cases q; done) | exact ⟨rfl, rfl⟩
  · exact hr.elim
theorem gk_putz (A : gA y pc i len K k) (hs : sk_putf y i a b 1 = true) (hr : go_putz a b Lv st σ k) : gE y pc Lv st σ K := by
  unfold go_putz at hr
  split at hr
  · rename_i x p r
    obtain ⟨hb, hx, hr⟩ := c_fr hr
    obtain ⟨hb, ha⟩ := s_and hb
    obtain ⟨ha, hfi⟩ := s_and ha
    have ha := b_lt ha
    obtain ⟨hp, hk⟩ := gcl_of ha hr
    refine gk_put A ha (b_lt hb) hs hfi (fun q => ?_) hp hk
    generalize jv_fty a b = ty at q ⊢
    cases ty <;> first | (cases q; done) | skip
    rcases hx with rfl | rfl <;> exact ⟨by decide, by decide⟩
  · exact hr.elim
theorem gin_ok {x : Int32} {p : Nat} (hp : p < 332) (h : 0 ≤ x ∧ x < Int32.ofNat (gln p)) : ¬ (x < 0 ∨ gln p ≤ x.toNatClampNeg) := by
  obtain ⟨h1, h2⟩ := h
  have h3 := gln_lt p hp
  have e : (Int32.ofNat (gln p)).toInt = gln p := Int32.toInt_ofNat_of_lt (by omega)
  rw [Int32.lt_iff_toInt_lt, e] at h2
  rw [Int32.le_iff_toInt_le] at h1
  have h1 : 0 ≤ x.toInt := h1
  intro q
  rcases q with q | q
  · rw [Int32.lt_iff_toInt_lt] at q
    have q : x.toInt < 0 := q
    omega
  · have : x.toNatClampNeg = x.toInt.toNat := rfl
    omega
theorem gin_lt {x : Int32} {p : Nat} (hp : p < 332) (h : 0 ≤ x ∧ x < Int32.ofNat (gln p)) : x.toNatClampNeg < gln p := by
  have := gin_ok hp h
  omega
theorem gk_iald (A : gA y pc .iaload len K k) (hr : go_iald Lv st σ k 0) : gE y pc Lv st σ K := by
  unfold go_iald at hr
  split at hr
  · rename_i x p r
    obtain ⟨q, hi, hk⟩ := c_fr hr
    obtain ⟨q1, q2⟩ := s_and q
    have hp := b_lt q1
    refine gA_go A rfl rfl (fun L xs h hh => ⟨h, st_heap rfl rfl rfl rfl ?_, hh⟩) hk
    obtain ⟨g, hx, hg⟩ := gCk_arr (hh.2.2.2 p hp) (b_eq q2) (by decide)
    have hlt : p < h.2.1 := by rw [hh.1]; exact hp
    show (if p < h.2.1 ∨ (p = 1000000 ∧ sow y = 10) then match h.1 p with
      | .inl (ty, n, f) => if (ty = 0 ∧ p < h.2.1 ∨ ty = 9 ∧ p = 1000000) ∧ ¬ (x < 0 ∨ n ≤ x.toNatClampNeg) then some (.int (f x.toNatClampNeg) :: r, h) else none
      | _ => none else none) = _
    rw [if_pos (Or.inl hlt), hx]
    show (if ((0 : Nat) = 0 ∧ p < h.2.1 ∨ (0 : Nat) = 9 ∧ p = 1000000) ∧ ¬ (x < 0 ∨ gln p ≤ x.toNatClampNeg) then some (.int (g x.toNatClampNeg) :: r, h) else none) = _
    rw [if_pos ⟨Or.inl ⟨rfl, hlt⟩, gin_ok hp hi⟩, hg _ (gin_lt hp hi)]
  · exact hr.elim
theorem gk_bald (A : gA y pc .baload len K k) (hr : go_iald Lv st σ k 1) : gE y pc Lv st σ K := by
  unfold go_iald at hr
  split at hr
  · rename_i x p r
    obtain ⟨q, hi, hk⟩ := c_fr hr
    obtain ⟨q1, q2⟩ := s_and q
    have hp := b_lt q1
    refine gA_go A rfl rfl (fun L xs h hh => ⟨h, st_heap rfl rfl rfl rfl ?_, hh⟩) hk
    obtain ⟨g, hx, hg⟩ := gCk_arr (hh.2.2.2 p hp) (b_eq q2) (by decide)
    have hlt : p < h.2.1 := by rw [hh.1]; exact hp
    show (if p < h.2.1 then match h.1 p with
      | .inl (ty, n, f) => if ty = 1 ∧ ¬ (x < 0 ∨ n ≤ x.toNatClampNeg) then some (.int (f x.toNatClampNeg) :: r, h) else none
      | _ => none else none) = _
    rw [if_pos hlt, hx]
    show (if (1 : Nat) = 1 ∧ ¬ (x < 0 ∨ gln p ≤ x.toNatClampNeg) then some (.int (g x.toNatClampNeg) :: r, h) else none) = _
    rw [if_pos ⟨rfl, gin_ok hp hi⟩, hg _ (gin_lt hp hi)]
  · exact hr.elim
theorem gk_aald (A : gA y pc .aaload len K k) (hr : go_aald Lv st σ k) : gE y pc Lv st σ K := by
  unfold go_aald at hr
  split at hr
  · rename_i x p r
    obtain ⟨q, hi, hk⟩ := c_fr hr
    obtain ⟨q1, q2⟩ := s_and q
    have hp := b_lt q1
    have q3 : gkd p = 2 ∨ gkd p = 3 := (s_or q2).imp b_eq b_eq
    refine gA_go A rfl rfl (fun L xs h hh => ⟨h, st_heap rfl rfl rfl rfl ?_, hh⟩) hk
    obtain ⟨g, hx, hg⟩ := gCk_rarr (hh.2.2.2 p hp) rfl q3
    have hlt : p < h.2.1 := by rw [hh.1]; exact hp
    show (if p < h.2.1 then match h.1 p with
      | .inr (.inl (ty, n, f)) => if (ty = 2 ∨ ty = 3) ∧ ¬ (x < 0 ∨ n ≤ x.toNatClampNeg) then (match f x.toNatClampNeg with
        | some b => some (.ref b :: r, h)
        | none => none) else none
      | _ => none else none) = _
    rw [if_pos hlt, hx]
    show (if (gkd p = 2 ∨ gkd p = 3) ∧ ¬ (x < 0 ∨ gln p ≤ x.toNatClampNeg) then (match g x.toNatClampNeg with
        | some b => some (.ref b :: r, h)
        | none => none) else none) = _
    rw [if_pos ⟨q3, gin_ok hp hi⟩, hg _ (gin_lt hp hi)]
  · exact hr.elim
theorem gCk_upd {f : Nat → Int32} {p c m : Nat} {w : Int32} {g : Nat → Int32} (hk : gkd p = c) (hc2 : c < 2) (hg : ∀ i, i < gln p → g i = σ p i) : gCk (gup σ p m w p) p (.inl (c, gln p, upd g m w)) := by
  refine ⟨hk, hc2, rfl, fun n hn => ?_⟩
  unfold upd gup
  by_cases q : n = m
  · rw [if_pos q, if_pos ⟨rfl, q⟩]
  · rw [if_neg q, if_neg (fun e => q e.2)]
    exact hg n hn
theorem gk_iast (A : gA y pc .iastore len K k) (hr : go_iast Lv st σ k) : gE y pc Lv st σ K := by
  unfold go_iast at hr
  split at hr
  · rename_i w x p r
    obtain ⟨q, hi, hk⟩ := c_fr hr
    obtain ⟨q1, q2⟩ := s_and q
    have hp := b_lt q1
    refine gA_go A rfl rfl (fun L xs h hh => ?_) hk
    obtain ⟨g, hx, hg⟩ := gCk_arr (hh.2.2.2 p hp) (b_eq q2) (by decide)
    have hlt : p < h.2.1 := by rw [hh.1]; exact hp
    refine ⟨jv_put h p (.inl (0, gln p, upd g x.toNatClampNeg w)), st_heap rfl rfl rfl rfl ?_, gRel_put hh hp (gCk_upd (f := g) (b_eq q2) (by decide) hg)⟩
    show (if p < h.2.1 then match h.1 p with
      | .inl (ty, n, f) => if ty = 0 ∧ ¬ (x < 0 ∨ n ≤ x.toNatClampNeg) then some (r, jv_put h p (.inl (ty, n, upd f x.toNatClampNeg w))) else none
      | _ => none else none) = _
    rw [if_pos hlt, hx]
    show (if (0 : Nat) = 0 ∧ ¬ (x < 0 ∨ gln p ≤ x.toNatClampNeg) then some (r, jv_put h p (.inl (0, gln p, upd g x.toNatClampNeg w))) else none) = _
    rw [if_pos ⟨rfl, gin_ok hp hi⟩]
  · exact hr.elim
theorem gk_bast (A : gA y pc .bastore len K k) (hr : go_bast Lv st σ k) : gE y pc Lv st σ K := by
  unfold go_bast at hr
  split at hr
  · rename_i w x p r
    obtain ⟨q, ⟨hi, hw⟩, hk⟩ := c_fr hr
    obtain ⟨q1, q2⟩ := s_and q
    have hp := b_lt q1
    have hnar : vp_nar .boolean w = w := by rcases hw with rfl | rfl <;> decide
    refine gA_go A rfl rfl (fun L xs h hh => ?_) hk
    obtain ⟨g, hx, hg⟩ := gCk_arr (hh.2.2.2 p hp) (b_eq q2) (by decide)
    have hlt : p < h.2.1 := by rw [hh.1]; exact hp
    refine ⟨jv_put h p (.inl (1, gln p, upd g x.toNatClampNeg w)), st_heap rfl rfl rfl rfl ?_, gRel_put hh hp (gCk_upd (f := g) (b_eq q2) (by decide) hg)⟩
    show (if p < h.2.1 ∧ vp_nar .boolean w = w then match h.1 p with
      | .inl (ty, n, f) => if ty = 1 ∧ ¬ (x < 0 ∨ n ≤ x.toNatClampNeg) then some (r, jv_put h p (.inl (ty, n, upd f x.toNatClampNeg w))) else none
      | _ => none else none) = _
    rw [if_pos ⟨hlt, hnar⟩, hx]
    show (if (1 : Nat) = 1 ∧ ¬ (x < 0 ∨ gln p ≤ x.toNatClampNeg) then some (r, jv_put h p (.inl (1, gln p, upd g x.toNatClampNeg w))) else none) = _
    rw [if_pos ⟨rfl, gin_ok hp hi⟩]
  · exact hr.elim
theorem c_2 {c : Bool} {P Q : Prop} (h : cond c P Q) : (c = true ∧ P) ∨ Q := by
  cases c
  · exact Or.inr h
  · exact Or.inl ⟨rfl, h⟩
theorem gk_sald (A : gA y pc .iaload len K k) (hr : go_sald Lv st σ k y) : gE y pc Lv st σ K := by
  unfold go_sald at hr
  split at hr
  · rename_i x p r
    rcases c_2 hr with ⟨q, hi, hk⟩ | hr
    · obtain ⟨q1, q2⟩ := s_and q
      have hp := b_eq q1
      have hy := b_eq q2
      subst hp
      refine gA_go A rfl rfl (fun L xs h hh => ⟨h, st_heap rfl rfl rfl rfl ?_, hh⟩) hk
      obtain ⟨s1, s2, s3, s4⟩ := hh.2.2.1
      have how : sow y = 10 := by rw [hy]; rfl
      rw [s3] at hi
      obtain ⟨i1, i2⟩ := hi
      have e : (Int32.ofNat L).toInt = L := Int32.toInt_ofNat_of_lt (by omega)
      rw [Int32.lt_iff_toInt_lt, e] at i2
      rw [Int32.le_iff_toInt_le] at i1
      have i1 : 0 ≤ x.toInt := i1
      have en : x.toNatClampNeg = x.toInt.toNat := rfl
      have hn : ¬ (x < 0 ∨ L ≤ x.toNatClampNeg) := by
        intro q
        rcases q with q | q
        · rw [Int32.lt_iff_toInt_lt] at q
          have q : x.toInt < 0 := q
          omega
        · omega
      show (if (1000000 : Nat) < h.2.1 ∨ ((1000000 : Nat) = 1000000 ∧ sow y = 10) then match h.1 1000000 with
        | .inl (ty, n, f) => if (ty = 0 ∧ (1000000 : Nat) < h.2.1 ∨ ty = 9 ∧ (1000000 : Nat) = 1000000) ∧ ¬ (x < 0 ∨ n ≤ x.toNatClampNeg) then some (.int (f x.toNatClampNeg) :: r, h) else none
        | _ => none else none) = _
      rw [if_pos (Or.inr ⟨rfl, how⟩), s1]
      show (if ((9 : Nat) = 0 ∧ (1000000 : Nat) < h.2.1 ∨ (9 : Nat) = 9 ∧ (1000000 : Nat) = 1000000) ∧ ¬ (x < 0 ∨ L ≤ x.toNatClampNeg) then some (.int (xs x.toNatClampNeg) :: r, h) else none) = _
      rw [if_pos ⟨Or.inr ⟨rfl, rfl⟩, hn⟩, s4 _ (by omega)]
    · exact gk_iald A hr
  · exact hr.elim
theorem gk_alen (A : gA y pc .arraylength len K k) (hr : go_alen Lv st σ k y) : gE y pc Lv st σ K := by
  unfold go_alen at hr
  split at hr
  · rename_i p r
    rcases c_2 hr with ⟨q, hk⟩ | hr
    · obtain ⟨q1, q2⟩ := s_and q
      have hp := b_eq q1
      have hy := b_eq q2
      subst hp
      refine gA_go A rfl rfl (fun L xs h hh => ⟨h, st_heap rfl rfl rfl rfl ?_, hh⟩) hk
      obtain ⟨s1, s2, s3, s4⟩ := hh.2.2.1
      have how : sow y = 10 := by rw [hy]; rfl
      show (if (1000000 : Nat) < h.2.1 ∨ ((1000000 : Nat) = 1000000 ∧ sow y = 10) then match h.1 1000000 with
        | .inl (ty, n, _) => if ty < 2 ∧ (1000000 : Nat) < h.2.1 ∨ ty = 9 ∧ (1000000 : Nat) = 1000000 then some (.int (Int32.ofNat n) :: r, h) else none
        | .inr (.inl (ty, n, _)) => if (ty = 2 ∨ ty = 3) ∧ (1000000 : Nat) < h.2.1 then some (.int (Int32.ofNat n) :: r, h) else none
        | _ => none else none) = _
      rw [if_pos (Or.inr ⟨rfl, how⟩), s1]
      show (if (9 : Nat) < 2 ∧ (1000000 : Nat) < h.2.1 ∨ (9 : Nat) = 9 ∧ (1000000 : Nat) = 1000000 then some (.int (Int32.ofNat L) :: r, h) else none) = _
      rw [if_pos (Or.inr ⟨rfl, rfl⟩), s3]
    obtain ⟨q, hk⟩ := c_fr hr
    obtain ⟨q1, q2⟩ := s_and q
    have hp := b_lt q1
    have q2 := b_lt q2
    refine gA_go A rfl rfl (fun L xs h hh => ⟨h, st_heap rfl rfl rfl rfl ?_, hh⟩) hk
    have hlt : p < h.2.1 := by rw [hh.1]; exact hp
    show (if p < h.2.1 ∨ (p = 1000000 ∧ sow y = 10) then match h.1 p with
      | .inl (ty, n, _) => if ty < 2 ∧ p < h.2.1 ∨ ty = 9 ∧ p = 1000000 then some (.int (Int32.ofNat n) :: r, h) else none
      | .inr (.inl (ty, n, _)) => if (ty = 2 ∨ ty = 3) ∧ p < h.2.1 then some (.int (Int32.ofNat n) :: r, h) else none
      | _ => none else none) = _
    rw [if_pos (Or.inl hlt)]
    have hcell := hh.2.2.2 p hp
    rcases Nat.lt_or_ge (gkd p) 2 with c2 | c2
    · obtain ⟨g, hx, -⟩ := gCk_arr hcell rfl c2
      rw [hx]
      show (if gkd p < 2 ∧ p < h.2.1 ∨ gkd p = 9 ∧ p = 1000000 then some (.int (Int32.ofNat (gln p)) :: r, h) else none) = _
      rw [if_pos (Or.inl ⟨c2, hlt⟩)]
    · have c3 : gkd p = 2 ∨ gkd p = 3 := by omega
      obtain ⟨g, hx, -⟩ := gCk_rarr hcell rfl c3
      rw [hx]
      show (if (gkd p = 2 ∨ gkd p = 3) ∧ p < h.2.1 then some (.int (Int32.ofNat (gln p)) :: r, h) else none) = _
      rw [if_pos ⟨c3, hlt⟩]
  · exact hr.elim
/-- jumps -/
theorem gbr_of {x v : Int32} {P Q : Prop} {cn : ClassFile.Cond} (hr : gbr (s_ccn cn) x v P Q) : (jv_cc cn x v = true ∧ P) ∨ (¬ jv_cc cn x v = true ∧ Q) := by
  cases cn
  · by_cases q : x = v
    · exact Or.inl ⟨decide_eq_true q, (show (x = v → P) ∧ (¬ x = v → Q) from hr).1 q⟩
    · exact Or.inr ⟨fun e => q (of_decide_eq_true e), (show (x = v → P) ∧ (¬ x = v → Q) from hr).2 q⟩
  · by_cases q : x = v
    · exact Or.inr ⟨fun e => (of_decide_eq_true e) q, (show (¬ x = v → P) ∧ (x = v → Q) from hr).2 q⟩
    · exact Or.inl ⟨decide_eq_true q, (show (¬ x = v → P) ∧ (x = v → Q) from hr).1 q⟩
  · by_cases q : x < v
    · exact Or.inl ⟨decide_eq_true q, (show (x < v → P) ∧ (¬ x < v → Q) from hr).1 q⟩
    · exact Or.inr ⟨fun e => q (of_decide_eq_true e), (show (x < v → P) ∧ (¬ x < v → Q) from hr).2 q⟩
  · have hr : (¬ x < v → P) ∧ (x < v → Q) := hr
    by_cases q : x < v
    · refine Or.inr ⟨fun e => ?_, hr.2 q⟩
      have e2 : x ≥ v := of_decide_eq_true e
      exact absurd q (Int32.not_lt.mpr e2)
    · exact Or.inl ⟨decide_eq_true (Int32.not_lt.mp q), hr.1 q⟩
  · have hr : (v < x → P) ∧ (¬ v < x → Q) := hr
    by_cases q : v < x
    · exact Or.inl ⟨decide_eq_true q, hr.1 q⟩
    · exact Or.inr ⟨fun e => q (of_decide_eq_true e), hr.2 q⟩
  · have hr : (¬ v < x → P) ∧ (v < x → Q) := hr
    by_cases q : v < x
    · refine Or.inr ⟨fun e => ?_, hr.2 q⟩
      have e2 : x ≤ v := of_decide_eq_true e
      exact absurd q (Int32.not_lt.mpr e2)
    · exact Or.inl ⟨decide_eq_true (Int32.not_lt.mp q), hr.1 q⟩
theorem gk_goto (hy : y < 272) (hcode : jv_code y pc = some (i, len)) (hj : ∀ tgt Lv st σ, j tgt Lv st σ → gE y tgt Lv st σ K) (hs : sk_goto pc i a = true) (hr : j a Lv st σ) : gE y pc Lv st σ K := by
  unfold sk_goto at hs
  split at hs
  · rename_i off
    have h1 := of_decide_eq_true hs
    refine gE_step hy hcode rfl rfl (fun L xs h hh => ⟨h, st_br (pc' := a) (vs' := st) rfl rfl ?_, hh⟩) (hj _ _ _ _ hr)
    exact s_jmp h1
  · cases hs
theorem gk_if (A : gA y pc i len K k) (hj : ∀ tgt Lv st σ, j tgt Lv st σ → gE y tgt Lv st σ K) (hlen : len = 3) (hs : sk_if pc i a b = true) (hr : go_if a b Lv st σ k j) : gE y pc Lv st σ K := by
  unfold go_if at hr
  split at hr
  · rename_i x r
    unfold sk_if at hs
    split at hs
    · rename_i cn off
      obtain ⟨rfl, h1⟩ := of_decide_eq_true hs
      rcases gbr_of hr with ⟨hc, hr⟩ | ⟨hc, hr⟩
      · refine gE_step A.1 A.2.1 rfl rfl (fun L xs h hh => ⟨h, st_br (pc' := b) (vs' := r) rfl rfl ?_, hh⟩) (hj _ _ _ _ hr)
        show (match jv_jmp pc off r with
          | some t => if jv_cc cn x 0 = true then some t else some (pc + 3, r)
          | none => none) = some (b, r)
        rw [s_jmp h1]
        exact if_pos hc
      · refine gA_go A rfl rfl (fun L xs h hh => ⟨h, st_br (vs' := r) rfl rfl ?_, hh⟩) hr
        show (match jv_jmp pc off r with
          | some t => if jv_cc cn x 0 = true then some t else some (pc + 3, r)
          | none => none) = some (pc + len, r)
        rw [s_jmp h1, hlen]
        exact if_neg hc
    · cases hs
  · exact hr.elim
theorem gk_icmp (A : gA y pc i len K k) (hj : ∀ tgt Lv st σ, j tgt Lv st σ → gE y tgt Lv st σ K) (hlen : len = 3) (hs : sk_icmp pc i a b = true) (hr : go_icmp a b Lv st σ k j) : gE y pc Lv st σ K := by
  unfold go_icmp at hr
  split at hr
  · rename_i v x r
    unfold sk_icmp at hs
    split at hs
    · rename_i cn off
      obtain ⟨rfl, h1⟩ := of_decide_eq_true hs
      rcases gbr_of hr with ⟨hc, hr⟩ | ⟨hc, hr⟩
      · refine gE_step A.1 A.2.1 rfl rfl (fun L xs h hh => ⟨h, st_br (pc' := b) (vs' := r) rfl rfl ?_, hh⟩) (hj _ _ _ _ hr)
        show (match jv_jmp pc off r with
          | some t => if jv_cc cn x v = true then some t else some (pc + 3, r)
          | none => none) = some (b, r)
        rw [s_jmp h1]
        exact if_pos hc
      · refine gA_go A rfl rfl (fun L xs h hh => ⟨h, st_br (vs' := r) rfl rfl ?_, hh⟩) hr
        show (match jv_jmp pc off r with
          | some t => if jv_cc cn x v = true then some t else some (pc + 3, r)
          | none => none) = some (pc + len, r)
        rw [s_jmp h1, hlen]
        exact if_neg hc
    · cases hs
  · exact hr.elim
end GSND2
-- text 4
section GSND3
variable {y pc : Nat} {i : Instr} {len : Nat} {t : List sI} {Lv : gL} {st : List Value} {σ : gS} {K : gK} {k : gC} {j : gJ} {a b : Nat}
theorem gk_tab (hy : y < 272) (hcode : jv_code y pc = some (i, len)) (hj : ∀ tgt Lv st σ, j tgt Lv st σ → gE y tgt Lv st σ K) (hs : sk_tab pc i a = true) (hr : go_tab a Lv st σ j y) : gE y pc Lv st σ K := by
  unfold go_tab at hr
  split at hr
  · rename_i x r
    unfold sk_tab at hs
    split at hs
    · rename_i d lo hi offs
      obtain ⟨hk1, hk2⟩ := s_and hs
      obtain ⟨rfl, hd, hlo1, hlo2, hhi1, hhi2⟩ := of_decide_eq_true hk1
      rw [hcode] at hr
      have hr : lo + offs.toList.length = hi + 1 ∧ gsw Lv σ j x r ((a : Int) + d).toNat (gtabl a lo offs.toList) := hr
      obtain ⟨hlen, hr⟩ := hr
      have hbr : jv_br (.tableswitch d lo hi offs) a (.int x :: r) = (if x.toInt < lo ∨ hi < x.toInt then jv_jmp a d r else match offs[(x.toInt - lo).toNat]? with
        | some off => jv_jmp a off r
        | none => none) := rfl
      have go : ∀ (off : Int), 0 ≤ (a : Int) + off → jv_br (.tableswitch d lo hi offs) a (.int x :: r) = jv_jmp a off r → j ((a : Int) + off).toNat Lv r σ → gE y a Lv (.int x :: r) σ K := by
        intro off h0 hb1 hj'
        refine gE_step hy hcode rfl rfl (fun L xs h hh => ⟨h, st_br (pc' := ((a : Int) + off).toNat) (vs' := r) rfl rfl ?_, hh⟩) (hj _ _ _ _ hj')
        rw [hb1]
        unfold jv_jmp
        rw [if_pos h0]
      have key : ∀ (l : List Int) (lo' : Int), -2147483648 ≤ lo' → lo' + l.length ≤ 2147483648 → gsw Lv σ j x r ((a : Int) + d).toNat (gtabl a lo' l) →
          (∃ (n : Nat) (off : Int), l[n]? = some off ∧ x.toInt = lo' + n ∧ j ((a : Int) + off).toNat Lv r σ) ∨ ((x.toInt < lo' ∨ lo' + l.length ≤ x.toInt) ∧ j ((a : Int) + d).toNat Lv r σ) := by
        intro l
        induction l with
        | nil =>
          intro lo' _ _ h
          refine Or.inr ⟨?_, h⟩
          show _ ∨ lo' + ((0 : Nat) : Int) ≤ _
          omega
        | cons o l ih =>
          intro lo' h1 h2 h
          have h2 : lo' + ((l.length + 1 : Nat) : Int) ≤ 2147483648 := h2
          have h : (x = Int32.ofInt lo' → j ((a : Int) + o).toNat Lv r σ) ∧ (¬ x = Int32.ofInt lo' → gsw Lv σ j x r ((a : Int) + d).toNat (gtabl a (lo' + 1) l)) := h
          by_cases q : x = Int32.ofInt lo'
          · exact Or.inl ⟨0, o, rfl, by rw [q, s_to32 h1 (by omega)]; omega, h.1 q⟩
          · have q2 : x.toInt ≠ lo' := fun e => q (Int32.toInt_inj.1 (by rw [s_to32 h1 (by omega)]; exact e))
            rcases ih (lo' + 1) (by omega) (by omega) (h.2 q) with ⟨n, off, e1, e2, e3⟩ | ⟨e1, e2⟩
            · exact Or.inl ⟨n + 1, off, e1, by omega, e3⟩
            · refine Or.inr ⟨?_, e2⟩
              show _ ∨ lo' + ((l.length + 1 : Nat) : Int) ≤ _
              omega
      rcases key offs.toList lo hlo1 (by omega) hr with ⟨n, off, e1, e2, e3⟩ | ⟨e1, e2⟩
      · have hn : n < offs.toList.length := (List.getElem?_eq_some_iff.mp e1).1
        have h0 : 0 ≤ (a : Int) + off := of_decide_eq_true (List.all_eq_true.mp hk2 off (List.mem_of_getElem? e1))
        refine go off h0 ?_ e3
        have e4 : (x.toInt - lo).toNat = n := by omega
        have e5 : offs[n]? = some off := by rw [← Array.getElem?_toList]; exact e1
        rw [hbr, if_neg (by omega), e4, e5]
      · refine go d hd ?_ e2
        rw [hbr, if_pos (by omega)]
    · cases hs
  · exact hr.elim
theorem gk_lsw (hy : y < 272) (hcode : jv_code y pc = some (i, len)) (hj : ∀ tgt Lv st σ, j tgt Lv st σ → gE y tgt Lv st σ K) (hs : sk_lsw pc i a = true) (hr : go_lsw a Lv st σ j y) : gE y pc Lv st σ K := by
  unfold go_lsw at hr
  split at hr
  · rename_i x r
    unfold sk_lsw at hs
    split at hs
    · rename_i d ps
      obtain ⟨hk1, hk2⟩ := s_and hs
      obtain ⟨hsort, hk2⟩ := s_and hk2
      obtain ⟨rfl, hd, hne0⟩ := of_decide_eq_true hk1
      rw [hcode] at hr
      have hr : gsw Lv σ j x r ((a : Int) + d).toNat (ps.toList.map (fun p => (Int32.ofInt p.1, ((a : Int) + p.2).toNat))) := hr
      have hall : ∀ p ∈ ps.toList, 0 ≤ (a : Int) + p.2 ∧ -2147483648 ≤ p.1 ∧ p.1 < 2147483648 := fun p hp => of_decide_eq_true (List.all_eq_true.mp hk2 p hp)
      have key : ∀ (l : List (Int × Int)), (∀ p ∈ l, 0 ≤ (a : Int) + p.2 ∧ -2147483648 ≤ p.1 ∧ p.1 < 2147483648) → gsw Lv σ j x r ((a : Int) + d).toNat (l.map (fun p => (Int32.ofInt p.1, ((a : Int) + p.2).toNat))) → ∃ off : Int, 0 ≤ (a : Int) + off ∧ Op.lookupswitch.offset l d x.toInt = off ∧ j ((a : Int) + off).toNat Lv r σ := by
        intro l
        induction l with
        | nil =>
          intro _ h
          exact ⟨d, hd, rfl, h⟩
        | cons p l ih =>
          intro hal h
          obtain ⟨c, off⟩ := p
          obtain ⟨p1, p2, p3⟩ := hal (c, off) List.mem_cons_self
          have h : (x = Int32.ofInt c → j ((a : Int) + off).toNat Lv r σ) ∧ (¬ x = Int32.ofInt c → gsw Lv σ j x r ((a : Int) + d).toNat (l.map (fun p => (Int32.ofInt p.1, ((a : Int) + p.2).toNat)))) := h
          by_cases q : x = Int32.ofInt c
          · refine ⟨off, p1, ?_, h.1 q⟩
            rw [Op.lookupswitch.offset_cons, if_pos]
            rw [q, s_to32 p2 p3]
          · obtain ⟨off2, h0, ho, h3⟩ := ih (fun q hq => hal q (List.mem_cons_of_mem _ hq)) (h.2 q)
            refine ⟨off2, h0, ?_, h3⟩
            rw [Op.lookupswitch.offset_cons, if_neg]
            · exact ho
            · intro e
              apply q
              apply Int32.toInt_inj.1
              rw [s_to32 p2 p3]
              exact e.symm
      obtain ⟨off, h0, ho, hj'⟩ := key _ hall hr
      refine gE_step hy hcode rfl rfl (fun L xs h hh => ⟨h, st_br (pc' := ((a : Int) + off).toNat) (vs' := r) rfl rfl ?_, hh⟩) (hj _ _ _ _ hj')
      show (if (ps.toList.zip (ps.toList.drop 1)).all (fun (a, next) => a.1 < next.1) = true then jv_jmp a (Op.lookupswitch.offset ps.toList d x.toInt) r else none) = _
      rw [if_pos hsort, ho]
      unfold jv_jmp
      rw [if_pos h0]
    · cases hs
  · exact hr.elim
theorem g1_wd : ∀ (l : List Value), g1 l = true → jv_wd l = l.length
  | [], _ => rfl
  | .int w :: r, h => by
    have h2 := g1_wd r h
    have h5 : jv_wd (.int w :: r) = (Value.int w).category + jv_wd r := by simp [jv_wd]
    rw [h5, h2, List.length_cons, show (Value.int w).category = 1 from rfl]
    omega
  | .ref w :: r, h => by
    have h2 := g1_wd r h
    have h5 : jv_wd (.ref w :: r) = (Value.ref w).category + jv_wd r := by simp [jv_wd]
    rw [h5, h2, List.length_cons, show (Value.ref w).category = 1 from rfl]
    omega
  | .null :: _, h => by cases h
  | .float _ :: _, h => by cases h
  | .double _ :: _, h => by cases h
  | .long _ :: _, h => by cases h
  | .retAddr _ :: _, h => by cases h
theorem gtk_eq : ∀ (l : List Value) (n : Nat), gtk l n = l.take n
  | [], n => by rw [List.take_nil]; rfl
  | x :: t, 0 => rfl
  | x :: t, n + 1 => by
    show x :: gtk t n = _
    rw [gtk_eq t n]
    rfl
theorem gdr_eq : ∀ (l : List Value) (n : Nat), gdr l n = l.drop n
  | [], n => by rw [List.drop_nil]; rfl
  | x :: t, 0 => rfl
  | x :: t, n + 1 => gdr_eq t n
theorem grv_eq : ∀ (l : List Value) (acc : gL), grv l acc = l.reverse.map some ++ acc
  | [], acc => rfl
  | x :: t, acc => by
    show grv t (some x :: acc) = _
    rw [grv_eq t, List.reverse_cons, List.map_append, List.append_assoc]
    rfl
theorem gno_eq : ∀ n : Nat, gno n = List.replicate n none
  | 0 => rfl
  | n + 1 => by
    show none :: gno n = _
    rw [gno_eq n, List.replicate_succ]
theorem gnv_eq : ∀ (l : List Value) (i : Nat), gnv l i = l[i]?
  | [], i => rfl
  | x :: t, 0 => rfl
  | x :: t, i + 1 => by
    rw [List.getElem?_cons_succ]
    exact gnv_eq t i
theorem g_wd8 {r : List Value} (q : (g1 r && Nat.ble r.length 8) = true) : jv_wd r ≤ 8 := by
  obtain ⟨q1, q2⟩ := s_and q
  rw [g1_wd r q1]
  exact b_le q2
theorem jv_tix_len {p k : Nat} (h : jv_tix p = some k) : (jv_byt.getD k []).length < 100 := by
  have h20 := (jv_tix_eq h).1
  have : ∀ k, k < 20 → (jv_byt.getD k []).length < 100 := by decide +kernel
  exact this k h20
/-- a jump over a String's member -/
theorem gk_slen (hy : y < 272) (hcode : jv_code y pc = some (i, len)) (hk : ∀ Lv st σ, k Lv st σ → gE y (pc + len) Lv st σ K) (hlen : len = 3) (hs : sk_spec y i 901 1 2 40 = true) (hr : go_slen Lv st σ k) : gE y pc Lv st σ K := by
  subst hlen
  obtain ⟨idx, ow, kd, na, mL, fr, lo, na', ne, hC, hinf, hcal, h1, h2⟩ := sk_spec_eq hs
  unfold go_slen at hr
  split at hr
  · rename_i p r
    obtain ⟨q, hr⟩ := c_fr hr
    have hwd := g_wd8 q
    split at hr
    · rename_i m hm
      intro L xs h hh
      obtain ⟨r2, h', σ2, e1, e2, e3⟩ := hk _ _ _ hr L xs h hh
      refine ⟨r2, h', σ2, jv_ev_step (fun n => ?_) e1, e2, e3⟩
      refine jv_run_slen hinf hcode hC hcal ?_ h1 h2 hwd
      unfold jv_strlen
      simp only [hm]
    · exact hr.elim
  · exact hr.elim
theorem gk_sat (hy : y < 272) (hcode : jv_code y pc = some (i, len)) (hk : ∀ Lv st σ, k Lv st σ → gE y (pc + len) Lv st σ K) (hlen : len = 3) (hs : sk_spec y i 902 1 6 120 = true) (hr : go_sat Lv st σ k) : gE y pc Lv st σ K := by
  subst hlen
  obtain ⟨idx, ow, kd, na, mL, fr, lo, na', ne, hC, hinf, hcal, h1, h2⟩ := sk_spec_eq hs
  unfold go_sat at hr
  split at hr
  · rename_i x p r
    obtain ⟨q, hr⟩ := c_fr hr
    have hwd := g_wd8 q
    split at hr
    · rename_i m hm
      obtain ⟨⟨i1, i2⟩, hr⟩ := hr
      intro L xs h hh
      obtain ⟨r2, h', σ2, e1, e2, e3⟩ := hk _ _ _ hr L xs h hh
      refine ⟨r2, h', σ2, jv_ev_step (fun n => ?_) e1, e2, e3⟩
      refine jv_run_sat hinf hcode hC hcal ?_ h1 h2 hwd
      unfold jv_strat
      simp only [hm]
      have h3 := jv_tix_len hm
      have e : (Int32.ofNat (jv_byt.getD m []).length).toInt = (jv_byt.getD m []).length := Int32.toInt_ofNat_of_lt (by omega)
      rw [Int32.lt_iff_toInt_lt, e] at i2
      rw [Int32.le_iff_toInt_le] at i1
      have i1 : 0 ≤ x.toInt := i1
      rw [if_pos]
      intro q
      rcases q with q | q
      · rw [Int32.lt_iff_toInt_lt] at q
        have q : x.toInt < 0 := q
        omega
      · have : x.toNatClampNeg = x.toInt.toNat := rfl
        omega
    · exact hr.elim
  · exact hr.elim
theorem gk_ret {r : Option Value} (hy : y < 272) (hcode : jv_code y pc = some (i, len)) (hret : jv_ret (jv_ym y).2.2 i st = some r) (hK : K r σ) : gE y pc Lv st σ K := by
  obtain ⟨ow, kd, na, mL, fr, lo, hinf, -, -⟩ := s_inf hy
  intro L xs h hh
  exact ⟨r, h, σ, ⟨1, fun n hn => by
    obtain ⟨m, rfl⟩ : ∃ m, n = m + 1 := ⟨n - 1, by omega⟩
    exact jv_run_ret hinf hcode hret⟩, hh, hK⟩
theorem sk_ret_0 (hk : sk_ret y i 0 = true) : jv_ret (jv_ym y).2.2 i [] = some none := by
  have hk : sk_r0 i (jv_ym y).2.2 = true := hk
  unfold sk_r0 at hk
  generalize (jv_ym y).2.2 = rt at hk ⊢
  split at hk
  · rfl
  · cases hk
theorem g_call (hy : y < 272) (hcode : jv_code y pc = some (i, len)) (hs : sk_call y i a b = true) (h1 : g1 st = true) (h2 : b % 16 ≤ st.length) (h3 : st.length ≤ b % 16 + 8) (h4 : b / 1024 = 0 ∨ ∃ p, st[b % 16 - 1]? = some (.ref p) ∧ p < 332 ∧ gkd p = 15 + b / 1024)
    (hg : gE a 0 ((st.take (b % 16)).reverse.map some ++ List.replicate (b / 16 % 64 - b % 16) none) [] σ (fun r σ1 => gE y (pc + 3) Lv (r.toList ++ st.drop (b % 16)) σ1 K)) : gE y pc Lv st σ K := by
  unfold sk_call at hs
  split at hs
  · rename_i ck idx ow kd na mL fr lo ow2 kd2 na2 mL2 fr2 lo2 hC hinf hinf2
    obtain ⟨hcal, ha, hck, hb, hna, hmL, hnm, hkd, hfr, hlo⟩ := of_decide_eq_true hs
    have hb1 : b % 16 = na2 := by split at hb <;> omega
    have hb2 : b / 16 % 64 = mL2 := by split at hb <;> omega
    have hb3 : b / 1024 = (if kd2 = 0 then 0 else ow2 + 1) := by
      by_cases q : kd2 = 0
      · rw [if_pos q] at hb ⊢; omega
      · rw [if_neg q] at hb ⊢; omega
    rw [hb1] at h2 h3 h4 hg
    rw [hb2] at hg
    have hwd := g1_wd st h1
    intro L xs h hh
    obtain ⟨r, h', σ1, hev, hh', hk⟩ := hg L xs h hh
    obtain ⟨r2, h2', σ2, hev2, hh2, hK⟩ := hk L xs h' hh'
    have hmay : jv_may ck fr lo (ow2, kd2, na2, mL2, fr2, lo2) na2 st h = true := by
      obtain ⟨w1, w2⟩ := jv_wd_take hwd na2
      have w3 : (st.take na2).length = na2 := by rw [List.length_take]; omega
      have w4 : (st.drop na2).length ≤ 8 := by rw [List.length_drop]; omega
      unfold jv_may
      rw [Bool.and_eq_true]
      refine ⟨decide_eq_true ⟨hck.symm, rfl, by omega, hnm, hfr, hlo, by omega, by omega⟩, ?_⟩
      subst hck
      rcases h4 with z | ⟨p, hp, hp1, hp2⟩
      · rw [hb3] at z
        have hck0 : ck = 0 := by
          by_cases e : ck = 0
          · exact e
          · rw [if_neg e] at z; omega
        subst hck0
        rfl
      · rw [hb3] at hp2
        by_cases hck0 : ck = 0
        · subst hck0
          rfl
        · rw [if_neg hck0] at hp2
          obtain ⟨fs, hx, -⟩ := gCk_obj (c := ow2) (hh.2.2.2 p hp1) (by omega)
          have hlt : p < h.2.1 := by rw [hh.1]; exact hp1
          have hlast : (st.take na2).getLast? = some (.ref p) := by
            rw [List.getLast?_eq_getElem?, w3, List.getElem?_take, if_pos (by omega)]
            exact hp
          match ck, hck0 with
          | n + 1, _ =>
            show (match (st.take na2).getLast? with
              | some (.ref a) => decide (a < h.2.1) && (match h.1 a with
                | .inr (.inr (d, _)) => decide (d = ow2)
                | _ => false)
              | _ => false) = true
            rw [hlast]
            show (decide (p < h.2.1) && (match h.1 p with
                | .inr (.inr (d, _)) => decide (d = ow2)
                | _ => false)) = true
            rw [hx, Bool.and_eq_true]
            exact ⟨decide_eq_true hlt, decide_eq_true rfl⟩
          | 0, e => exact absurd rfl e
    refine ⟨r2, h2', σ2, ?_, hh2, hK⟩
    obtain ⟨N1, hN1⟩ := hev
    obtain ⟨N2, hN2⟩ := hev2
    refine ⟨N1 + N2 + 1, fun n hn => ?_⟩
    obtain ⟨m, rfl⟩ : ∃ m, n = m + 1 := ⟨n - 1, by omega⟩
    rw [jv_run_call hinf hcode hC hcal (by omega) (by omega) (by omega) hinf2 hmay (hN1 m (by omega))]
    exact hN2 m (by omega)
  · cases hs
theorem gE_mono {K' : gK} (h : ∀ r σ', K r σ' → K' r σ') (hg : gE y pc Lv st σ K) : gE y pc Lv st σ K' := by
  intro L xs h0 hh
  obtain ⟨r, h', σ', e1, e2, e3⟩ := hg L xs h0 hh
  exact ⟨r, h', σ', e1, e2, h _ _ e3⟩
theorem grc_of {P : Prop} (hb : b / 1024 < 10) (h : grc b st P) : (b / 1024 = 0 ∨ ∃ p, st[b % 16 - 1]? = some (.ref p) ∧ p < 332 ∧ gkd p = 15 + b / 1024) ∧ P := by
  unfold grc at h
  cases q : Nat.beq (b / 1024) 0 with
  | true => rw [q] at h; exact ⟨Or.inl (b_eq q), h⟩
  | false =>
    rw [q] at h
    have q := b_ne q
    have h : (match gnv st (b % 16 - 1) with
      | some (.ref p) => gcl (b / 1024 - 1) p P
      | _ => False) := h
    split at h
    · rename_i p hp
      rw [gnv_eq] at hp
      obtain ⟨⟨e1, e2⟩, h⟩ := gcl_of (by omega) h
      exact ⟨Or.inr ⟨p, hp, e1, by omega⟩, h⟩
    · exact h.elim
end GSND3
