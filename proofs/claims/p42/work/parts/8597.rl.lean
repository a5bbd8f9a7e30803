/-! A RECORD, forward -/
/-- what a traveller's line says: seat, name, ticket; family, window, ahead; row and place, sweets, stop -/
abbrev TV : Type := (Nat × List Int32 × Bool) × (Option Nat × Option (Bool × Nat) × Option (Bool × Nat)) × (Option (Nat × Nat) × Option Nat × Option Nat)
def lnP (s : TV) : List Int32 := pT s.1.2.2 ++ (pN 30 s.2.1.1 ++ (pL 31 s.2.1.2.1 ++ (pL 32 s.2.1.2.2 ++ (pR s.2.2.1 ++ (pN 34 s.2.2.2.1 ++ (pN 35 s.2.2.2.2 ++ [59]))))))
def lnW (s : TV) : List Int32 := dg s.1.1 ++ 32 :: (s.1.2.1 ++ lnP s)
def txt : List TV → List Int32
  | [] => []
  | s :: l => oT 2 ++ 32 :: (lnW s ++ txt l)
noncomputable def lnD (D : gW) (n : Nat) (s : TV) : gW := upo (upo (upo (upo (upo (upo (upo (if s.1.2.2 = true then rup (fNew D (iN s.1.1) (wvl s.1.2.1)) (9 + 10 * n + 1) 1 else fNew D (iN s.1.1) (wvl s.1.2.1)) (9 + 10 * n + 2) (s.2.1.1.map iN)) (9 + 10 * n + 3) (s.2.1.2.1.map lkV)) (9 + 10 * n + 4) (s.2.1.2.2.map lkV)) (9 + 10 * n + 5) (s.2.2.1.map (fun p => iN p.1))) (9 + 10 * n + 6) (s.2.2.1.map (fun p => iN p.2))) (9 + 10 * n + 7) (s.2.2.2.1.map iN)) (9 + 10 * n + 8) (s.2.2.2.2.map iN)
/-- a traveller's numbers -/
noncomputable def lnV (s : TV) : Nat → Int32
  | 0 => iN s.1.1
  | 1 => if s.1.2.2 = true then 1 else 0
  | 2 => (s.2.1.1.map iN).getD 0
  | 3 => (s.2.1.2.1.map lkV).getD 0
  | 4 => (s.2.1.2.2.map lkV).getD 0
  | 5 => (s.2.2.1.map (fun p => iN p.1)).getD 0
  | 6 => (s.2.2.1.map (fun p => iN p.2)).getD 0
  | 7 => (s.2.2.2.1.map iN).getD 0
  | 8 => (s.2.2.2.2.map iN).getD 99
  | _ => wvl s.1.2.1
def TVok (m : Nat) (s : TV) : Prop := (s.1.1 < 4 * m ∧ ((∀ x ∈ s.1.2.1, isSm x) ∧ 1 ≤ s.1.2.1.length ∧ s.1.2.1.length ≤ 5) ∧ (nsz (wvl s.1.2.1) ≤ 5 ∧ ¬ isKey (wvl s.1.2.1))) ∧ ((∀ k, s.2.1.1 = some k → 1 ≤ k ∧ k ≤ 9) ∧ (∀ p, s.2.1.2.1 = some p → p.2 ≤ 9) ∧ ∀ p, s.2.1.2.2 = some p → p.2 ≤ 9) ∧ (∀ p, s.2.2.1 = some p → p.1 < m ∧ p.2 ≤ 3) ∧ (∀ k, s.2.2.2.1 = some k → k ≤ 99) ∧ ∀ k, s.2.2.2.2 = some k → 1 ≤ k ∧ k ≤ 99
section RL
variable {ρ σ : gS} {D : gW} {W : List Int32} {n m F : Nat} {s : TV}
theorem upo_ne {j i : Nat} {o : Option Int32} (h : ¬ i = j) : upo D j o i = D i := by
  unfold upo
  split
  · rfl
  · exact if_neg h
theorem upo_at {j : Nat} {o : Option Int32} : upo D j o j = o.getD (D j) := by
  unfold upo
  split
  · rfl
  · exact if_pos rfl
theorem nM_3 (h : D 3 = iN n) (hn : n ≤ 20) : nM D = n := by
  unfold nM
  rw [h]
  exact iN_nat (by omega)
theorem fNew_o {x w : Int32} {j : Nat} (hn : nM D = n) (hj : j < 9 + 10 * n ∨ 9 + 10 * n + 10 ≤ j) : fNew D x w j = D j := by
  unfold fNew rup
  rw [hn, if_neg (by omega), if_neg (by omega), if_neg (by omega)]
  unfold zsh
  exact if_neg (by omega)
theorem lnD_o {j : Nat} (hn : nM D = n) (hj : j < 9 + 10 * n ∨ 9 + 10 * n + 10 ≤ j) : lnD D n s j = D j := by
  unfold lnD
  rw [upo_ne (by omega), upo_ne (by omega), upo_ne (by omega), upo_ne (by omega), upo_ne (by omega), upo_ne (by omega), upo_ne (by omega)]
  split
  · exact (if_neg (by omega)).trans (fNew_o hn hj)
  · exact fNew_o hn hj
theorem fNew_0 {x w : Int32} {f : Nat} (hn : nM D = n) (hf : f < 10) : fNew D x w (9 + 10 * n + f) = if f = 8 then 99 else if f = 9 then w else if f = 0 then x else 0 := by
  unfold fNew rup
  rw [hn]
  by_cases h8 : f = 8
  · rw [if_pos (by omega), if_pos h8]
  · rw [if_neg (by omega), if_neg h8]
    by_cases h9 : f = 9
    · rw [if_pos (by omega), if_pos h9]
    · rw [if_neg (by omega), if_neg h9]
      by_cases h0 : f = 0
      · rw [if_pos (by omega), if_pos h0]
      · rw [if_neg (by omega), if_neg h0]
        unfold zsh
        exact if_pos (by omega)
theorem lnD_f {f : Nat} (hn : nM D = n) (hf : f < 10) : lnD D n s (9 + 10 * n + f) = lnV s f := by
  have e : ∀ g, ¬ g = 1 → (if s.1.2.2 = true then rup (fNew D (iN s.1.1) (wvl s.1.2.1)) (9 + 10 * n + 1) 1 else fNew D (iN s.1.1) (wvl s.1.2.1)) (9 + 10 * n + g) = fNew D (iN s.1.1) (wvl s.1.2.1) (9 + 10 * n + g) := by
    intro g hg
    split
    · exact if_neg (by omega)
    · rfl
  have c : f = 0 ∨ f = 1 ∨ f = 2 ∨ f = 3 ∨ f = 4 ∨ f = 5 ∨ f = 6 ∨ f = 7 ∨ f = 8 ∨ f = 9 := by omega
  unfold lnD
  rcases c with rfl | rfl | rfl | rfl | rfl | rfl | rfl | rfl | rfl | rfl
  · rw [upo_ne (by omega), upo_ne (by omega), upo_ne (by omega), upo_ne (by omega), upo_ne (by omega), upo_ne (by omega), upo_ne (by omega), e 0 (by decide), fNew_0 hn (by decide)]
    rfl
  · rw [upo_ne (by omega), upo_ne (by omega), upo_ne (by omega), upo_ne (by omega), upo_ne (by omega), upo_ne (by omega), upo_ne (by omega)]
    show _ = if s.1.2.2 = true then 1 else 0
    split
    · exact if_pos rfl
    · rw [fNew_0 hn (by decide)]
      rfl
  · rw [upo_ne (by omega), upo_ne (by omega), upo_ne (by omega), upo_ne (by omega), upo_ne (by omega), upo_ne (by omega), upo_at, e 2 (by decide), fNew_0 hn (by decide)]
    rfl
  · rw [upo_ne (by omega), upo_ne (by omega), upo_ne (by omega), upo_ne (by omega), upo_ne (by omega), upo_at, upo_ne (by omega), e 3 (by decide), fNew_0 hn (by decide)]
    rfl
  · rw [upo_ne (by omega), upo_ne (by omega), upo_ne (by omega), upo_ne (by omega), upo_at, upo_ne (by omega), upo_ne (by omega), e 4 (by decide), fNew_0 hn (by decide)]
    rfl
  · rw [upo_ne (by omega), upo_ne (by omega), upo_ne (by omega), upo_at, upo_ne (by omega), upo_ne (by omega), upo_ne (by omega), e 5 (by decide), fNew_0 hn (by decide)]
    rfl
  · rw [upo_ne (by omega), upo_ne (by omega), upo_at, upo_ne (by omega), upo_ne (by omega), upo_ne (by omega), upo_ne (by omega), e 6 (by decide), fNew_0 hn (by decide)]
    rfl
  · rw [upo_ne (by omega), upo_at, upo_ne (by omega), upo_ne (by omega), upo_ne (by omega), upo_ne (by omega), upo_ne (by omega), e 7 (by decide), fNew_0 hn (by decide)]
    rfl
  · rw [upo_at, upo_ne (by omega), upo_ne (by omega), upo_ne (by omega), upo_ne (by omega), upo_ne (by omega), upo_ne (by omega), e 8 (by decide), fNew_0 hn (by decide)]
    rfl
  · rw [upo_ne (by omega), upo_ne (by omega), upo_ne (by omega), upo_ne (by omega), upo_ne (by omega), upo_ne (by omega), upo_ne (by omega), e 9 (by decide), fNew_0 hn (by decide)]
    rfl
/-- a line is read -/
theorem hRs_go (h : TK ρ σ 1 377669 (32 :: (lnW s ++ W)) D) (hn : D 3 = iN n) (hn20 : n < 20) (h0 : D 0 = iN m) (hm : m ≤ 10) (ok : TVok m s) (hw : ∀ t, t < n → ¬ fld D t 0 = iN s.1.1) (h1 : D 1 = iN F) (hF : F ≤ 10) (hM : s.1.2.2 = true ∨ F ≤ s.1.1 / 4) : CT ρ (hRs σ) W (rup (lnD D n s) 3 (iN (n + 1))) := by
  obtain ⟨⟨o1, o2, o3⟩, ⟨o4, o5, o6⟩, o7, o8, o9⟩ := ok
  have hnM := nM_3 hn (by omega)
  have e25 := h.2.2.1
  have l7 : nl ([59] ++ W) := Or.inr rfl
  have f7 : FK ([59] ++ W) [] := FK_e W
  have d30 : (oT 30).getD 0 0 = 32 ∧ 0 < (oT 30).length := by decide
  have d31 : (oT 31).getD 0 0 = 32 ∧ 0 < (oT 31).length := by decide
  have d32 : (oT 32).getD 0 0 = 32 ∧ 0 < (oT 32).length := by decide
  have d34 : (oT 34).getD 0 0 = 32 ∧ 0 < (oT 34).length := by decide
  have d35 : (oT 35).getD 0 0 = 32 ∧ 0 < (oT 35).length := by decide
  have l6 := nl_N (o := s.2.2.2.2) d35 l7
  have f6 := FK_N (j := 9) (o := s.2.2.2.2) (by decide) oT_35 f7
  have l5 := nl_N (o := s.2.2.2.1) d34 l6
  have f5 := FK_N (j := 8) (o := s.2.2.2.1) (by decide) oT_34 f6
  have l4 := nl_R (o := s.2.2.1) l5
  have f4 := FK_R (o := s.2.2.1) f5
  have l3 := nl_L (o := s.2.1.2.2) d32 l4
  have f3 := FK_L (j := 6) (o := s.2.1.2.2) (by decide) oT_32 f4
  have l2 := nl_L (o := s.2.1.2.1) d31 l3
  have f2 := FK_L (j := 5) (o := s.2.1.2.1) (by decide) oT_31 f3
  have l1 := nl_N (o := s.2.1.1) d30 l2
  have f1 := FK_N (j := 4) (o := s.2.1.1) (by decide) oT_30 f2
  have l0 := nl_T (tk := s.1.2.2) l1
  have eP : lnP s ++ W = pT s.1.2.2 ++ (pN 30 s.2.1.1 ++ (pL 31 s.2.1.2.1 ++ (pL 32 s.2.1.2.2 ++ (pR s.2.2.1 ++ (pN 34 s.2.2.2.1 ++ (pN 35 s.2.2.2.2 ++ ([59] ++ W))))))) := by
    unfold lnP
    simp only [List.append_assoc]
  have eW : lnW s ++ W = dg s.1.1 ++ 32 :: (s.1.2.1 ++ (lnP s ++ W)) := by
    unfold lnW
    simp only [List.append_assoc, List.cons_append]
  rw [eW] at h
  have ha := tk_go (c := 1) h (by decide)
  obtain ⟨a1, a2, a3⟩ := nd_T (k := s.1.1) (by omega) (nl_32 (s.1.2.1 ++ (lnP s ++ W)))
  rw [a1, a2, a3] at ha
  have e3 : σ 325 3 < 20 := by
    rw [e25, hn]
    exact (iN_lt (by omega) (by decide)).mpr hn20
  rw [hRs_e, if_pos e3]
  unfold hRs1
  have eA25 := ha.2.2.1
  have eA14 := ha.1.2.2
  have hq2 : q2c (rTk σ 1) (iN s.1.1) := by
    refine ⟨ha.1.2.1, ?_, ?_⟩
    · rw [eA25, h0, show (4 : Int32) = iN 4 from rfl, iN_mul]
      exact (iN_lt (by omega) (by omega)).mpr o1
    · rw [eA25]
      have : fWho D (iN s.1.1) = -2 := who_n (fun t ht => hw t (by omega))
      rw [this]
      decide
  rw [eA14, show (rTk σ 1 325 3).toNatClampNeg = n by rw [eA25, hn]; exact iN_nat (by omega)]
  have hb := tk_go (c := bI (q2c (rTk σ 1) (iN s.1.1))) ha (bI_nz hq2)
  generalize rTk (rTk σ 1) (bI (q2c (rTk σ 1) (iN s.1.1))) = b at *
  obtain ⟨b1, b2, b3⟩ := sp_T (s.1.2.1 ++ (lnP s ++ W))
  obtain ⟨w1, w2, w3⟩ := wd_T o2.1 ⟨o2.2.1, by omega⟩ (u := lnP s ++ W) (by rw [eP]; exact l0.w)
  rw [b1, b2, b3, w1, w2, w3] at hb
  unfold hRs2
  rw [if_pos ⟨hb.1.1.1, hb.1.2.1, by rw [hb.1.2.2]; exact o3⟩, hb.1.2.2, hb.2.2.1]
  have hc : CT ρ (grow (rTk b 1) 325 (fNew D (iN s.1.1) (wvl s.1.2.1))) (lnP s ++ W) (fNew D (iN s.1.1) (wvl s.1.2.1)) := (tk_go (c := 1) hb (by decide)).gr
  generalize grow (rTk b 1) 325 (fNew D (iN s.1.1) (wvl s.1.2.1)) = τ at *
  rw [eP] at hc
  have g0 := qT_go (n := n) hc l1 f1 (by rw [kw_v.2.2.2.2.1, kw_v.2.2.2.2.2.1, kw_v.2.2.2.2.2.2.1, kw_v.2.2.2.2.2.2.2.1, kw_v.2.2.2.2.2.2.2.2.1, kw_v.2.2.2.2.2.2.2.2.2]; decide)
  have g1 := qF_go (n := n) g0 l2 f2 (by rw [kw_v.2.2.2.2.2.1, kw_v.2.2.2.2.2.2.1, kw_v.2.2.2.2.2.2.2.1, kw_v.2.2.2.2.2.2.2.2.1, kw_v.2.2.2.2.2.2.2.2.2]; decide) o4
  have g2 := qW_go (n := n) g1 l3 f3 (by rw [kw_v.2.2.2.2.2.2.1, kw_v.2.2.2.2.2.2.2.1, kw_v.2.2.2.2.2.2.2.2.1, kw_v.2.2.2.2.2.2.2.2.2]; decide) o5
  have g3 := qA_go (n := n) g2 l4 f4 (by rw [kw_v.2.2.2.2.2.2.2.1, kw_v.2.2.2.2.2.2.2.2.1, kw_v.2.2.2.2.2.2.2.2.2]; decide) o6
  have g4 := qR_go (n := n) (m := m) g3 l5 f5 (by rw [kw_v.2.2.2.2.2.2.2.2.1, kw_v.2.2.2.2.2.2.2.2.2]; decide) (by
    rw [upo_ne (by omega), upo_ne (by omega), upo_ne (by omega)]
    split
    · exact (if_neg (by omega)).trans ((fNew_o hnM (by omega)).trans h0)
    · exact (fNew_o hnM (by omega)).trans h0) hm o7
  have g5 := qS_go (n := n) g4 l6 f6 (by rw [kw_v.2.2.2.2.2.2.2.2.2]; decide) o8
  have g6 : CT ρ (qMid τ n) ([59] ++ W) (lnD D n s) := qP_go (n := n) g5 l7 f7 (by decide) o9
  generalize qMid τ n = κ at *
  obtain ⟨s1, s2, s3⟩ := sg_T (c := 59) W (Or.inl rfl)
  have g7 : TK ρ κ (nK ([59] ++ W)) (nV ([59] ++ W)) (nU ([59] ++ W)) (lnD D n s) := g6
  have s1 : nK ([59] ++ W) = 3 := s1
  have s3 : nU ([59] ++ W) = W := s3
  rw [s1, s3] at g7
  have hmay : fMay (κ 325) n (iN s.1.1) := by
    rw [g7.2.2.1]
    rcases hM with z | z
    · left
      show lnD D n s (9 + 10 * n + 1) = 1
      rw [lnD_f hnM (by decide)]
      exact if_pos z
    · right
      rw [lnD_o hnM (by omega), h1, show (4 : Int32) = iN 4 from rfl, iN_div (by omega) (by decide)]
      exact (iN_le (by omega) (by omega)).mpr z
  unfold qZ
  rw [if_pos ⟨g7.1.2.1, hmay⟩, if_pos g7.1.1.1]
  have g8 := tk_go (c := 1) g7 (by decide)
  rw [g8.2.2.1, lnD_o hnM (by omega), hn, iN_one]
  exact g8.up
/-- lines, one behind another -/
noncomputable def foD : gW → Nat → List TV → gW
  | D, _, [] => D
  | D, n, s :: l => foD (rup (lnD D n s) 3 (iN (n + 1))) (n + 1) l
theorem foD_fl {f t : Nat} (hf : f < 10) (hn : nM D = n) (ht : t < n) : fld (rup (lnD D n s) 3 (iN (n + 1))) t f = fld D t f := by
  show rup (lnD D n s) 3 (iN (n + 1)) (9 + 10 * t + f) = D (9 + 10 * t + f)
  unfold rup
  rw [if_neg (by omega)]
  exact lnD_o hn (by omega)
theorem foD_at {f : Nat} (hf : f < 10) (hn : nM D = n) : fld (rup (lnD D n s) 3 (iN (n + 1))) n f = lnV s f := by
  show rup (lnD D n s) 3 (iN (n + 1)) (9 + 10 * n + f) = _
  unfold rup
  rw [if_neg (by omega)]
  exact lnD_f hn hf
theorem foD_lo {j : Nat} (hj : j < 9 ∧ ¬ j = 3) (hn : nM D = n) : rup (lnD D n s) 3 (iN (n + 1)) j = D j := by
  unfold rup
  rw [if_neg hj.2]
  exact lnD_o hn (by omega)
theorem st_T (V : List Int32) : nK (oT 2 ++ 32 :: V) = 1 ∧ nV (oT 2 ++ 32 :: V) = 377669 ∧ nU (oT 2 ++ 32 :: V) = 32 :: V := by
  obtain ⟨h1, h2, h3⟩ := wd_T (kw_w 2 (by decide)).1 (kw_w 2 (by decide)).2 (nl_32 V).w
  exact ⟨h1, h2.trans kw_v.2.2.1, h3⟩
theorem rLp_go (hm : m ≤ 10) (hF : F ≤ 10) : ∀ (l : List TV) (d n : Nat) (D : gW) (σ : gS), l.length < d → CT ρ σ (txt l) D → D 3 = iN n → n + l.length ≤ 20 → D 0 = iN m → D 1 = iN F → (∀ s ∈ l, TVok m s ∧ (s.1.2.2 = true ∨ F ≤ s.1.1 / 4)) → (∀ t, t < n → ∀ s ∈ l, ¬ fld D t 0 = iN s.1.1) → (l.map (fun s => s.1.1)).Nodup → CT ρ (rLp d σ) [] (foD D n l)
  | [], 0, n, D, σ, hd, h, _, _, _, _, _, _, _ => h
  | [], d + 1, n, D, σ, hd, h, _, _, _, _, _, _, _ => by
    unfold rLp
    rw [if_pos]
    · exact h
    · right
      intro z
      have h13 : σ 323 13 = nK [] := h.1.2.1
      rw [en_T.1, z.1] at h13
      exact absurd h13 (by decide)
  | s :: l, 0, n, D, σ, hd, _, _, _, _, _, _, _, _ => absurd hd (Nat.not_lt_zero _)
  | s :: l, d + 1, n, D, σ, hd, h, hn, h20, h0, h1, hok, hw, hnd => by
    have hl : (s :: l).length = l.length + 1 := rfl
    have hnM := nM_3 hn (by omega)
    obtain ⟨t1, t2, t3⟩ := st_T (lnW s ++ txt l)
    have h2 : TK ρ σ (nK (oT 2 ++ 32 :: (lnW s ++ txt l))) (nV (oT 2 ++ 32 :: (lnW s ++ txt l))) (nU (oT 2 ++ 32 :: (lnW s ++ txt l))) D := h
    rw [t1, t2, t3] at h2
    unfold rLp
    rw [if_neg]
    · obtain ⟨ok, may⟩ := hok s List.mem_cons_self
      have g := hRs_go h2 hn (by omega) h0 hm ok (fun t ht => hw t ht s List.mem_cons_self) h1 hF may
      rw [List.map_cons, List.nodup_cons] at hnd
      refine rLp_go hm hF l d (n + 1) _ _ (by omega) g (if_pos rfl) (by omega) ((foD_lo ⟨by decide, by decide⟩ hnM).trans h0) ((foD_lo ⟨by decide, by decide⟩ hnM).trans h1) (fun x hx => hok x (List.mem_cons_of_mem _ hx)) (fun t ht x hx => ?_) hnd.2
      rcases Nat.lt_or_ge t n with z | z
      · rw [foD_fl (by decide) hnM z]
        exact hw t z x (List.mem_cons_of_mem _ hx)
      · have : t = n := by omega
        subst this
        rw [foD_at (by decide) hnM]
        show ¬ iN s.1.1 = iN x.1.1
        intro y
        have a1 := ok.1.1
        have a2 := (hok x (List.mem_cons_of_mem _ hx)).1.1.1
        have y := (iN_inj (by omega) (by omega)).mp y
        exact hnd.1 (List.mem_map.mpr ⟨x, hx, y.symm⟩)
    · rintro (z | z)
      · exact z h2.1.1.1
      · exact z ⟨h2.1.2.1, h2.1.2.2⟩
/-- what stands in the row behind the lines -/
theorem foD_ok : ∀ (l : List TV) (n : Nat) (D : gW), D 3 = iN n → n + l.length ≤ 20 → foD D n l 3 = iN (n + l.length) ∧ (∀ j, j < 9 → ¬ j = 3 → foD D n l j = D j) ∧ (∀ t f, t < n → f < 10 → fld (foD D n l) t f = fld D t f) ∧ ∀ i f, i < l.length → f < 10 → fld (foD D n l) (n + i) f = lnV (l.getD i default) f
  | [], n, D, h, _ => ⟨h, fun _ _ _ => rfl, fun _ _ _ _ => rfl, fun i f hi _ => absurd hi (Nat.not_lt_zero _)⟩
  | s :: l, n, D, h, h20 => by
    have hl : (s :: l).length = l.length + 1 := rfl
    have hnM := nM_3 h (by omega)
    obtain ⟨e1, e2, e3, e4⟩ := foD_ok l (n + 1) (rup (lnD D n s) 3 (iN (n + 1))) (if_pos rfl) (by omega)
    refine ⟨?_, fun j h1 h2 => ?_, fun t f ht hf => ?_, fun i f hi hf => ?_⟩
    · rw [hl, show n + (l.length + 1) = n + 1 + l.length by omega]
      exact e1
    · exact (e2 j h1 h2).trans (foD_lo ⟨h1, h2⟩ hnM)
    · exact (e3 t f (by omega) hf).trans (foD_fl hf hnM ht)
    · cases i with
      | zero => exact (e3 n f (by omega) hf).trans (foD_at hf hnM)
      | succ i =>
        have := e4 i f (by omega) hf
        rw [show n + 1 + i = n + (i + 1) by omega] at this
        exact this
/-- the head -/
def hdT (R F : Nat) : List Int32 := oT 0 ++ 32 :: (dg R ++ 32 :: (oT 1 ++ 32 :: (dg F ++ [59])))
noncomputable def D0 (ρ : gS) (R F : Nat) : gW := rup (rup (fun j => if j < 330 then 0 else ρ 325 j) 0 (iN R)) 1 (iN F)
theorem dSet_go {R : Nat} {l : List TV} {w : List Int32} (h8 : ρ 323 8 = iN w.length) (hL : w.length ≤ 1000) (hT : ∀ j, j < w.length → ρ 330 j = w.getD j 0) (hw : w = hdT R F ++ txt l) (hR : 2 ≤ R ∧ R ≤ 10) (hF : F ≤ R) (hl : l.length ≤ 20) (hok : ∀ s ∈ l, TVok R s ∧ (s.1.2.2 = true ∨ F ≤ s.1.1 / 4)) (hnd : (l.map (fun s => s.1.1)).Nodup) : TK ρ (dSet ρ) 0 0 [] (foD (D0 ρ R F) 0 l) := by
  have i0 : TK ρ (gup (gup (gup (dZk ρ 330) 323 11 0) 323 15 0) 323 9 (-2)) (ρ 323 13) (ρ 323 14) w (fun j => if j < 330 then 0 else ρ 325 j) := by
    have ff : ∀ q, ¬ q = 323 → gup (gup (gup (dZk ρ 330) 323 11 0) 323 15 0) 323 9 (-2) q = dZk ρ 330 q := fun q hq => by
      funext i
      rw [gup_ne (by omega), gup_ne (by omega), gup_ne (by omega)]
    have fj : ∀ j, ¬ (j = 9 ∨ j = 11 ∨ j = 15) → gup (gup (gup (dZk ρ 330) 323 11 0) 323 15 0) 323 9 (-2) 323 j = ρ 323 j := fun j hj => by
      rw [gup_ne (by omega), gup_ne (by omega), gup_ne (by omega)]
      unfold dZk
      rw [grow_ne (by decide)]
    have fz : ∀ q, ¬ q = 325 → dZk ρ 330 q = ρ q := fun q hq => by
      unfold dZk
      exact grow_ne hq
    refine ⟨⟨⟨?_, ?_⟩, fj 13 (by omega), fj 14 (by omega)⟩, ⟨0, ?_, ?_, by omega, fun j hj => ?_⟩, ?_, fun q h1 h2 => (ff q h1).trans (fz q h2), fun j hj => fj j (by omega)⟩
    · rw [gup_ne (by omega), gup_at]
    · rw [gup_at]
    · rw [gup_ne (by omega), gup_ne (by omega), gup_at]
      rfl
    · rw [fj 8 (by omega), h8, Nat.zero_add]
    · rw [ff 330 (by decide), fz 330 (by decide), Nat.zero_add]
      exact hT j hj
    · rw [ff 325 (by decide)]
      unfold dZk
      exact grow_at _ _ _
  have i1 := nx_go i0
  have i1 : TK ρ (dS1 ρ) (nK w) (nV w) (nU w) (fun j => if j < 330 then 0 else ρ 325 j) := i1
  have ew : w = oT 0 ++ 32 :: (dg R ++ 32 :: (oT 1 ++ 32 :: (dg F ++ (59 :: txt l)))) := by
    rw [hw]
    unfold hdT
    simp only [List.append_assoc, List.cons_append, List.nil_append]
  obtain ⟨a1, a2, a3⟩ := wd_T (kw_w 0 (by decide)).1 (kw_w 0 (by decide)).2 (nl_32 (dg R ++ 32 :: (oT 1 ++ 32 :: (dg F ++ (59 :: txt l))))).w
  rw [← ew] at a1 a2 a3
  rw [a1, a2, a3, kw_v.1] at i1
  have i2 := tk_go (c := bI (rIs (dS1 ρ) 10984100)) i1 (bI_nz ⟨i1.1.2.1, i1.1.2.2⟩)
  rw [show rTk (dS1 ρ) (bI (rIs (dS1 ρ) 10984100)) = (dS2 (dS1 ρ)) from rfl] at i2
  obtain ⟨b1, b2, b3⟩ := nd_T (k := R) (by omega) (nl_32 (oT 1 ++ 32 :: (dg F ++ (59 :: txt l))))
  rw [b1, b2, b3] at i2
  obtain ⟨i3, n3⟩ := tn_go (a := 2) (b := 10) i2 ⟨(iN_le (k := 2) (by decide) (by omega)).mpr hR.1, (iN_le (m := 10) (by omega) (by decide)).mpr hR.2⟩
  have i3b := i3.up (j := 0) (x := rNm ((dS2 (dS1 ρ))) 2 10)
  rw [show gup (rTn ((dS2 (dS1 ρ))) 2 10) 325 0 (rNm ((dS2 (dS1 ρ))) 2 10) = (dS3 (dS2 (dS1 ρ))) from rfl, n3] at i3b
  obtain ⟨c1, c2, c3⟩ := kw_T (j := 1) (by decide) (nl_32 (dg F ++ (59 :: txt l)))
  rw [c1, c2, c3, kw_v.2.1] at i3b
  have i4 := tk_go (c := bI (rIs ((dS3 (dS2 (dS1 ρ)))) 3379448)) i3b (bI_nz ⟨i3b.1.2.1, i3b.1.2.2⟩)
  rw [show rTk ((dS3 (dS2 (dS1 ρ)))) (bI (rIs ((dS3 (dS2 (dS1 ρ)))) 3379448)) = (dS4 (dS3 (dS2 (dS1 ρ)))) from rfl] at i4
  have l59 : nl (59 :: txt l) := Or.inr rfl
  obtain ⟨d1, d2, d3⟩ := nd_T (k := F) (by omega) l59
  rw [d1, d2, d3] at i4
  have e0 : (dS4 (dS3 (dS2 (dS1 ρ)))) 325 0 = iN R := by
    rw [i4.2.2.1]
    exact if_pos rfl
  obtain ⟨i5, n5⟩ := tn_go (a := 0) (b := (dS4 (dS3 (dS2 (dS1 ρ)))) 325 0) i4 ⟨(iN_le (k := 0) (by decide) (by omega)).mpr (Nat.zero_le _), by rw [e0]; exact (iN_le (by omega) (by omega)).mpr hF⟩
  have i5b := i5.up (j := 1) (x := rNm ((dS4 (dS3 (dS2 (dS1 ρ))))) 0 ((dS4 (dS3 (dS2 (dS1 ρ)))) 325 0))
  rw [show gup (rTn ((dS4 (dS3 (dS2 (dS1 ρ))))) 0 ((dS4 (dS3 (dS2 (dS1 ρ)))) 325 0)) 325 1 (rNm ((dS4 (dS3 (dS2 (dS1 ρ))))) 0 ((dS4 (dS3 (dS2 (dS1 ρ)))) 325 0)) = (dS5 (dS4 (dS3 (dS2 (dS1 ρ))))) from rfl, n5] at i5b
  obtain ⟨g1, g2, g3⟩ := sg_T (c := 59) (txt l) (Or.inl rfl)
  rw [g1, g2, g3] at i5b
  have i6 : CT ρ (dSet0 ρ) (txt l) (D0 ρ R F) := tk_go (c := bI ((dS5 (dS4 (dS3 (dS2 (dS1 ρ))))) 323 13 = 3)) i5b (bI_nz i5b.1.2.1)
  have z3 : D0 ρ R F 3 = iN 0 := rfl
  have i7 : TK ρ (rLp 21 (dSet0 ρ)) (nK []) (nV []) (nU []) (foD (D0 ρ R F) 0 l) := rLp_go hR.2 (by omega) l 21 0 _ _ (by omega) i6 z3 (by omega) rfl rfl hok (fun t ht => absurd ht (Nat.not_lt_zero _)) hnd
  rw [en_T.1, en_T.2.1, en_T.2.2] at i7
  rw [dSet_e]
  unfold hEd
  rw [if_neg (fun z => z.2 i7.1.2.1)]
  exact i7
end RL
