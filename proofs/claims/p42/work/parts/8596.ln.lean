/-! A TRAVELLER'S LINE, forward -/
abbrev CT (ρ σ : gS) (U : List Int32) (D : gW) : Prop := TK ρ σ (nK U) (nV U) (nU U) D
/-- behind a word or a number: a space or the line's end -/
def nl (V : List Int32) : Prop := V.getD 0 0 = 32 ∨ V.getD 0 0 = 59
theorem nl.w {V : List Int32} (h : nl V) : V = [] ∨ ¬ isSm (V.getD 0 0) := by
  right
  rcases h with e | e <;> rw [e] <;> decide
theorem nl.d {V : List Int32} (h : nl V) : V = [] ∨ ¬ isDg (V.getD 0 0) := by
  right
  rcases h with e | e <;> rw [e] <;> decide
/-- the first token is the line's end or one of these words -/
def FK (V : List Int32) (l : List Int32) : Prop := nK V = 3 ∨ (nK V = 1 ∧ nV V ∈ l)
theorem FK.no {V l : List Int32} {w : Int32} (h : FK V l) (hw : ¬ w ∈ l) : ¬ (nK V = 1 ∧ nV V = w) := by
  rintro ⟨h1, h2⟩
  rcases h with e | ⟨-, e⟩
  · rw [e] at h1
    exact absurd h1 (by decide)
  · rw [h2] at e
    exact hw e
theorem FK.mo {V l l' : List Int32} (h : FK V l) (hl : ∀ x ∈ l, x ∈ l') : FK V l' := h.imp id (fun z => ⟨z.1, hl _ z.2⟩)
theorem FK_e (W : List Int32) : FK (59 :: W) [] := Or.inl (sg_T W (Or.inl rfl)).1
def pT (tk : Bool) : List Int32 := if tk = true then oT 28 else []
def pN (i : Nat) (o : Option Nat) : List Int32 := match o with
  | none => []
  | some k => oT i ++ dg k
def pL (i : Nat) (o : Option (Bool × Nat)) : List Int32 := match o with
  | none => []
  | some (s, k) => oT i ++ (if s = true then 43 else 45) :: dg k
def pR (o : Option (Nat × Nat)) : List Int32 := match o with
  | none => []
  | some (a, b) => oT 33 ++ (dg a ++ 32 :: dg b)
theorem kw_w : ∀ j, j < 10 → (∀ x ∈ oT j, isSm x) ∧ 1 ≤ (oT j).length ∧ (oT j).length ≤ 6 := by decide +kernel
theorem kw_v : wvl (oT 0) = 10984100 ∧ wvl (oT 1) = 3379448 ∧ wvl (oT 2) = 377669 ∧ wvl (oT 3) = 291828332 ∧ wvl (oT 4) = 86887672 ∧ wvl (oT 5) = 335086736 ∧ wvl (oT 6) = 692581 ∧ wvl (oT 7) = 13550 ∧ wvl (oT 8) = 284954995 ∧ wvl (oT 9) = 388978 := by decide +kernel
theorem oT_28 : oT 28 = 32 :: oT 3 := rfl
theorem oT_30 : oT 30 = 32 :: (oT 4 ++ [32]) := rfl
theorem oT_31 : oT 31 = 32 :: (oT 5 ++ [32]) := rfl
theorem oT_32 : oT 32 = 32 :: (oT 6 ++ [32]) := rfl
theorem oT_33 : oT 33 = 32 :: (oT 7 ++ [32]) := rfl
theorem oT_34 : oT 34 = 32 :: (oT 8 ++ [32]) := rfl
theorem oT_35 : oT 35 = 32 :: (oT 9 ++ [32]) := rfl
theorem nl_32 (V : List Int32) : nl (32 :: V) := Or.inl rfl
theorem kw_T {j : Nat} (hj : j < 10) {V : List Int32} (hV : nl V) : nK (32 :: (oT j ++ V)) = 1 ∧ nV (32 :: (oT j ++ V)) = wvl (oT j) ∧ nU (32 :: (oT j ++ V)) = V := by
  obtain ⟨s1, s2, s3⟩ := sp_T (oT j ++ V)
  obtain ⟨w1, w2, w3⟩ := wd_T (kw_w j hj).1 (kw_w j hj).2 hV.w
  exact ⟨s1.trans w1, s2.trans w2, s3.trans w3⟩
theorem nd_T {k : Nat} (hk : k < 100) {V : List Int32} (hV : nl V) : nK (32 :: (dg k ++ V)) = 2 ∧ nV (32 :: (dg k ++ V)) = iN k ∧ nU (32 :: (dg k ++ V)) = V := by
  obtain ⟨s1, s2, s3⟩ := sp_T (dg k ++ V)
  obtain ⟨w1, w2, w3⟩ := nu_T hk hV.d
  exact ⟨s1.trans w1, s2.trans w2, s3.trans w3⟩
/-- pieces: how they begin -/
theorem nl_T {tk : Bool} {V : List Int32} (hV : nl V) : nl (pT tk ++ V) := by
  unfold pT
  split
  · exact nl_32 _
  · exact hV
theorem nl_N {i : Nat} {o : Option Nat} {V : List Int32} (hi : (oT i).getD 0 0 = 32 ∧ 0 < (oT i).length) (hV : nl V) : nl (pN i o ++ V) := by
  unfold pN
  split
  · exact hV
  · left
    rw [List.append_assoc, getD_app1 hi.2]
    exact hi.1
theorem nl_L {i : Nat} {o : Option (Bool × Nat)} {V : List Int32} (hi : (oT i).getD 0 0 = 32 ∧ 0 < (oT i).length) (hV : nl V) : nl (pL i o ++ V) := by
  unfold pL
  split
  · exact hV
  · left
    rw [List.append_assoc, getD_app1 hi.2]
    exact hi.1
theorem nl_R {o : Option (Nat × Nat)} {V : List Int32} (hV : nl V) : nl (pR o ++ V) := by
  unfold pR
  split
  · exact hV
  · exact nl_32 _
theorem FK_w {j : Nat} (hj : j < 10) {V U l : List Int32} (hV : nl V) (e : U = 32 :: (oT j ++ V)) : FK U (wvl (oT j) :: l) := by
  rw [e]
  obtain ⟨k1, k2, -⟩ := kw_T hj hV
  refine Or.inr ⟨k1, ?_⟩
  rw [k2]
  exact List.mem_cons_self
theorem FK_c {V l : List Int32} {w : Int32} (h : FK V l) : FK V (w :: l) := h.mo (fun _ hx => List.mem_cons_of_mem _ hx)
theorem FK_T {tk : Bool} {V l : List Int32} (hV : nl V) (h : FK V l) : FK (pT tk ++ V) (wvl (oT 3) :: l) := by
  unfold pT
  split
  · exact FK_w (by decide) hV rfl
  · exact FK_c h
theorem FK_N {i j : Nat} (hj : j < 10) (ei : oT i = 32 :: (oT j ++ [32])) {o : Option Nat} {V l : List Int32} (h : FK V l) : FK (pN i o ++ V) (wvl (oT j) :: l) := by
  unfold pN
  split
  · exact FK_c h
  · rename_i k
    refine FK_w hj (V := 32 :: (dg k ++ V)) (nl_32 _) ?_
    rw [ei]
    simp only [List.cons_append, List.append_assoc, List.nil_append]
theorem FK_L {i j : Nat} (hj : j < 10) (ei : oT i = 32 :: (oT j ++ [32])) {o : Option (Bool × Nat)} {V l : List Int32} (h : FK V l) : FK (pL i o ++ V) (wvl (oT j) :: l) := by
  unfold pL
  split
  · exact FK_c h
  · rename_i s k
    refine FK_w hj (V := 32 :: ((if s = true then 43 else 45) :: (dg k ++ V))) (nl_32 _) ?_
    rw [ei]
    simp only [List.cons_append, List.append_assoc, List.nil_append]
theorem FK_R {o : Option (Nat × Nat)} {V l : List Int32} (h : FK V l) : FK (pR o ++ V) (wvl (oT 7) :: l) := by
  unfold pR
  split
  · exact FK_c h
  · rename_i a b
    refine FK_w (j := 7) (by decide) (V := 32 :: (dg a ++ 32 :: (dg b ++ V))) (nl_32 _) ?_
    rw [oT_33]
    simp only [List.cons_append, List.append_assoc, List.nil_append]
section LN
variable {ρ σ : gS} {D : gW} {V : List Int32} {n : Nat}
theorem CT.tw {U : List Int32} {w : Int32} (h : CT ρ σ U D) : rTw σ w ↔ (nK U = 1 ∧ nV U = w) := by
  constructor
  · rintro ⟨-, h1, h2⟩
    exact ⟨h.1.2.1.symm.trans h1, h.1.2.2.symm.trans h2⟩
  · rintro ⟨h1, h2⟩
    exact ⟨h.1.1.1, h.1.2.1.trans h1, h.1.2.2.trans h2⟩
theorem CT.on {j : Nat} (hj : j < 10) (hV : nl V) (h : CT ρ σ (32 :: (oT j ++ V)) D) : TK ρ σ 1 (wvl (oT j)) V D := by
  obtain ⟨k1, k2, k3⟩ := kw_T hj hV
  have h2 : TK ρ σ (nK (32 :: (oT j ++ V))) (nV (32 :: (oT j ++ V))) (nU (32 :: (oT j ++ V))) D := h
  rw [k1, k2, k3] at h2
  exact h2
theorem TK.tw {w : Int32} (h : TK ρ σ 1 w V D) : rTw σ w := ⟨h.1.1.1, h.1.2.1, h.1.2.2⟩
theorem qT_go {tk : Bool} {l : List Int32} (h : CT ρ σ (pT tk ++ V) D) (hV : nl V) (hF : FK V l) (hl : ¬ (291828332 : Int32) ∈ l) : CT ρ (qT σ n) V (if tk = true then rup D (9 + 10 * n + 1) 1 else D) := by
  unfold qT
  cases tk with
  | true =>
    have h : TK ρ σ 1 (wvl (oT 3)) V D := CT.on (by decide) hV h
    rw [kw_v.2.2.2.1] at h
    rw [if_pos h.tw, if_pos rfl]
    exact (nx_go h).up
  | false =>
    have h : CT ρ σ V D := h
    rw [if_neg (fun z => hF.no hl (h.tw.mp z)), if_neg (by decide)]
    exact h
def upo (D : gW) (j : Nat) (o : Option Int32) : gW := match o with
  | none => D
  | some x => rup D j x
theorem num_go {k : Nat} {a b v : Int32} (hk : k < 100) (hV : nl V) (h : TK ρ σ 1 v (32 :: (dg k ++ V)) D) (hab : a ≤ iN k ∧ iN k ≤ b) : CT ρ (rTn (rNx σ) a b) V D ∧ rNm (rNx σ) a b = iN k := by
  have h2 := nx_go h
  obtain ⟨k1, k2, k3⟩ := nd_T hk hV
  rw [k1, k2, k3] at h2
  exact tn_go h2 hab
theorem qF_go {o : Option Nat} {l : List Int32} (h : CT ρ σ (pN 30 o ++ V) D) (hV : nl V) (hF : FK V l) (hl : ¬ (86887672 : Int32) ∈ l) (ho : ∀ k, o = some k → 1 ≤ k ∧ k ≤ 9) : CT ρ (qF σ n) V (upo D (9 + 10 * n + 2) (o.map iN)) := by
  unfold qF
  cases o with
  | none =>
    have h : CT ρ σ V D := h
    rw [if_neg (fun z => hF.no hl (h.tw.mp z))]
    exact h
  | some k =>
    have hk := ho k rfl
    have e : pN 30 (some k) ++ V = 32 :: (oT 4 ++ 32 :: (dg k ++ V)) := by
      show oT 30 ++ dg k ++ V = _
      rw [oT_30]
      simp only [List.cons_append, List.append_assoc, List.nil_append]
    rw [e] at h
    have h := CT.on (j := 4) (by decide) (nl_32 _) h
    rw [kw_v.2.2.2.2.1] at h
    rw [if_pos h.tw]
    obtain ⟨z1, z2⟩ := num_go (a := 1) (b := 9) (by omega) hV h ⟨(iN_le (k := 1) (by decide) (by omega)).mpr (by omega), (iN_le (m := 9) (by omega) (by decide)).mpr (by omega)⟩
    rw [z2]
    exact z1.up
theorem qS_go {o : Option Nat} {l : List Int32} (h : CT ρ σ (pN 34 o ++ V) D) (hV : nl V) (hF : FK V l) (hl : ¬ (284954995 : Int32) ∈ l) (ho : ∀ k, o = some k → k ≤ 99) : CT ρ (qS σ n) V (upo D (9 + 10 * n + 7) (o.map iN)) := by
  unfold qS
  cases o with
  | none =>
    have h : CT ρ σ V D := h
    rw [if_neg (fun z => hF.no hl (h.tw.mp z))]
    exact h
  | some k =>
    have hk := ho k rfl
    have e : pN 34 (some k) ++ V = 32 :: (oT 8 ++ 32 :: (dg k ++ V)) := by
      show oT 34 ++ dg k ++ V = _
      rw [oT_34]
      simp only [List.cons_append, List.append_assoc, List.nil_append]
    rw [e] at h
    have h := CT.on (j := 8) (by decide) (nl_32 _) h
    rw [kw_v.2.2.2.2.2.2.2.2.1] at h
    rw [if_pos h.tw]
    obtain ⟨z1, z2⟩ := num_go (a := 0) (b := 99) (by omega) hV h ⟨(iN_le (k := 0) (by decide) (by omega)).mpr (by omega), (iN_le (m := 99) (by omega) (by decide)).mpr (by omega)⟩
    rw [z2]
    exact z1.up
theorem qP_go {o : Option Nat} {l : List Int32} (h : CT ρ σ (pN 35 o ++ V) D) (hV : nl V) (hF : FK V l) (hl : ¬ (388978 : Int32) ∈ l) (ho : ∀ k, o = some k → 1 ≤ k ∧ k ≤ 99) : CT ρ (qP σ n) V (upo D (9 + 10 * n + 8) (o.map iN)) := by
  unfold qP
  cases o with
  | none =>
    have h : CT ρ σ V D := h
    rw [if_neg (fun z => hF.no hl (h.tw.mp z))]
    exact h
  | some k =>
    have hk := ho k rfl
    have e : pN 35 (some k) ++ V = 32 :: (oT 9 ++ 32 :: (dg k ++ V)) := by
      show oT 35 ++ dg k ++ V = _
      rw [oT_35]
      simp only [List.cons_append, List.append_assoc, List.nil_append]
    rw [e] at h
    have h := CT.on (j := 9) (by decide) (nl_32 _) h
    rw [kw_v.2.2.2.2.2.2.2.2.2] at h
    rw [if_pos h.tw]
    obtain ⟨z1, z2⟩ := num_go (a := 1) (b := 99) (by omega) hV h ⟨(iN_le (k := 1) (by decide) (by omega)).mpr (by omega), (iN_le (m := 99) (by omega) (by decide)).mpr (by omega)⟩
    rw [z2]
    exact z1.up
/-- a like's number -/
def lkV (p : Bool × Nat) : Int32 := (if p.1 = true then 1 else -1) * iN p.2
theorem lik_go {s : Bool} {k : Nat} {v : Int32} (hk : k ≤ 9) (hV : nl V) (h : TK ρ σ 1 v (32 :: ((if s = true then 43 else 45) :: (dg k ++ V))) D) : CT ρ (rTn (rLk (rNx σ)) 0 9) V D ∧ rLi (rNx σ) = lkV (s, k) := by
  have h2 := nx_go h
  obtain ⟨s1, s2, s3⟩ := sp_T ((if s = true then 43 else 45) :: (dg k ++ V))
  obtain ⟨g1, g2, g3⟩ := sg_T (c := if s = true then 43 else 45) (dg k ++ V) (by cases s <;> simp)
  rw [s1, s2, s3, g1, g2, g3] at h2
  have h13 := h2.1.2.1
  have h3 : CT ρ (rLk (rNx σ)) (dg k ++ V) D := tk_go h2 (bI_nz (by rw [h13]; cases s <;> decide))
  obtain ⟨w1, w2, w3⟩ := nu_T (k := k) (u := V) (by omega) hV.d
  have h3 : TK ρ (rLk (rNx σ)) (nK (dg k ++ V)) (nV (dg k ++ V)) (nU (dg k ++ V)) D := h3
  rw [w1, w2, w3] at h3
  obtain ⟨z1, z2⟩ := tn_go (a := 0) (b := 9) h3 ⟨(iN_le (k := 0) (by decide) (by omega)).mpr (by omega), (iN_le (m := 9) (by omega) (by decide)).mpr (by omega)⟩
  refine ⟨z1, ?_⟩
  unfold rLi lkV
  rw [z2, h13]
  cases s <;> rfl
theorem qW_go {o : Option (Bool × Nat)} {l : List Int32} (h : CT ρ σ (pL 31 o ++ V) D) (hV : nl V) (hF : FK V l) (hl : ¬ (335086736 : Int32) ∈ l) (ho : ∀ p, o = some p → p.2 ≤ 9) : CT ρ (qW σ n) V (upo D (9 + 10 * n + 3) (o.map lkV)) := by
  unfold qW
  cases o with
  | none =>
    have h : CT ρ σ V D := h
    rw [if_neg (fun z => hF.no hl (h.tw.mp z))]
    exact h
  | some p =>
    obtain ⟨s, k⟩ := p
    have e : pL 31 (some (s, k)) ++ V = 32 :: (oT 5 ++ 32 :: ((if s = true then 43 else 45) :: (dg k ++ V))) := by
      show oT 31 ++ (if s = true then 43 else 45) :: dg k ++ V = _
      rw [oT_31]
      simp only [List.cons_append, List.append_assoc, List.nil_append]
    rw [e] at h
    have h := CT.on (j := 5) (by decide) (nl_32 _) h
    rw [kw_v.2.2.2.2.2.1] at h
    rw [if_pos h.tw]
    obtain ⟨z1, z2⟩ := lik_go (ho _ rfl) hV h
    rw [z2]
    exact z1.up
theorem qA_go {o : Option (Bool × Nat)} {l : List Int32} (h : CT ρ σ (pL 32 o ++ V) D) (hV : nl V) (hF : FK V l) (hl : ¬ (692581 : Int32) ∈ l) (ho : ∀ p, o = some p → p.2 ≤ 9) : CT ρ (qAh σ n) V (upo D (9 + 10 * n + 4) (o.map lkV)) := by
  unfold qAh
  cases o with
  | none =>
    have h : CT ρ σ V D := h
    rw [if_neg (fun z => hF.no hl (h.tw.mp z))]
    exact h
  | some p =>
    obtain ⟨s, k⟩ := p
    have e : pL 32 (some (s, k)) ++ V = 32 :: (oT 6 ++ 32 :: ((if s = true then 43 else 45) :: (dg k ++ V))) := by
      show oT 32 ++ (if s = true then 43 else 45) :: dg k ++ V = _
      rw [oT_32]
      simp only [List.cons_append, List.append_assoc, List.nil_append]
    rw [e] at h
    have h := CT.on (j := 6) (by decide) (nl_32 _) h
    rw [kw_v.2.2.2.2.2.2.1] at h
    rw [if_pos h.tw]
    obtain ⟨z1, z2⟩ := lik_go (ho _ rfl) hV h
    rw [z2]
    exact z1.up
theorem qR_go {o : Option (Nat × Nat)} {l : List Int32} {m : Nat} (h : CT ρ σ (pR o ++ V) D) (hV : nl V) (hF : FK V l) (hl : ¬ (13550 : Int32) ∈ l) (h0 : D 0 = iN m) (hm : m ≤ 10) (ho : ∀ p, o = some p → p.1 < m ∧ p.2 ≤ 3) : CT ρ (qR σ n) V (upo (upo D (9 + 10 * n + 5) (o.map (fun p => iN p.1))) (9 + 10 * n + 6) (o.map (fun p => iN p.2))) := by
  unfold qR
  cases o with
  | none =>
    have h : CT ρ σ V D := h
    rw [if_neg (fun z => hF.no hl (h.tw.mp z))]
    exact h
  | some p =>
    obtain ⟨a, b⟩ := p
    obtain ⟨ha, hb⟩ := ho _ rfl
    have ha : a < m := ha
    have hb : b ≤ 3 := hb
    have e : pR (some (a, b)) ++ V = 32 :: (oT 7 ++ 32 :: (dg a ++ 32 :: (dg b ++ V))) := by
      show oT 33 ++ (dg a ++ 32 :: dg b) ++ V = _
      rw [oT_33]
      simp only [List.cons_append, List.append_assoc, List.nil_append]
    rw [e] at h
    have h := CT.on (j := 7) (by decide) (nl_32 _) h
    rw [kw_v.2.2.2.2.2.2.2.1] at h
    rw [if_pos h.tw]
    have e25 : σ 325 0 = iN m := by
      rw [h.2.2.1]
      exact h0
    have em : iN m - 1 = iN (m - 1) := iN_sub (d := 1) (by omega) (by omega)
    obtain ⟨z1, z2⟩ := num_go (a := 0) (b := σ 325 0 - 1) (k := a) (by omega) (nl_32 _) h ⟨(iN_le (k := 0) (by decide) (by omega)).mpr (by omega), by rw [e25, em]; exact (iN_le (by omega) (by omega)).mpr (by omega)⟩
    have z3 : CT ρ (qR1 σ n) (32 :: (dg b ++ V)) (rup D (9 + 10 * n + 5) (iN a)) := by
      unfold qR1
      rw [z2]
      exact z1.up
    obtain ⟨k1, k2, k3⟩ := nd_T (k := b) (by omega) hV
    have z3 : TK ρ (qR1 σ n) (nK (32 :: (dg b ++ V))) (nV (32 :: (dg b ++ V))) (nU (32 :: (dg b ++ V))) (rup D (9 + 10 * n + 5) (iN a)) := z3
    rw [k1, k2, k3] at z3
    obtain ⟨y1, y2⟩ := tn_go (a := 0) (b := 3) z3 ⟨(iN_le (k := 0) (by decide) (by omega)).mpr (by omega), (iN_le (m := 3) (by omega) (by decide)).mpr (by omega)⟩
    rw [y2]
    exact y1.up
end LN
