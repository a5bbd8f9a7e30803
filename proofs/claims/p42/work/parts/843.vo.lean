/-! QUESTIONS with a number for what is asked; max, abs -/
noncomputable def vO (R : gW) (t : Int32) (k : Nat) : Int32 := if isT R t then (if k = 3 ∨ k = 4 then fld R t.toNatClampNeg k + 9 else fld R t.toNatClampNeg k) else -1
noncomputable def vO9 (R : gW) (t : Int32) : Int32 := if isT R t then fJo R t.toNatClampNeg + 100 else -1
noncomputable def vO10 (R : gW) (t : Int32) : Int32 := if isT R t then kin R t.toNatClampNeg (fld R t.toNatClampNeg 0 / 8) else -1
noncomputable def vO11 (R : gW) (t : Int32) : Int32 := if isT R t then fPl R t.toNatClampNeg else -1
section XRO
variable {n : Nat} {ρ : gS}
theorem vOf_0 (R : gW) (t : Int32) : vOf R t 0 = vO R t 0 := by
  unfold vOf aOf vO
  by_cases q : isT R t
  · rw [if_pos q, if_pos q]
    rw [if_neg (by decide)]
    unfold aOf0
    rw [if_pos rfl]
  · rw [if_neg q, if_neg q]
theorem xr_o0 {t : Int32} : XR 124 [some (.ref 0), some (.int t), some (.int 0), none] n ρ (vO (ρ 324) t 0) n ρ := by
  have h := xr_of_ (n := n) (ρ := ρ) (t := t) (w := 0)
  rw [vOf_0] at h
  exact h
theorem vOf_1 (R : gW) (t : Int32) : vOf R t 1 = vO R t 1 := by
  unfold vOf aOf vO
  by_cases q : isT R t
  · rw [if_pos q, if_pos q]
    rw [if_neg (by decide)]
    unfold aOf0
    rw [if_neg (by decide), if_pos rfl]
  · rw [if_neg q, if_neg q]
theorem xr_o1 {t : Int32} : XR 124 [some (.ref 0), some (.int t), some (.int 1), none] n ρ (vO (ρ 324) t 1) n ρ := by
  have h := xr_of_ (n := n) (ρ := ρ) (t := t) (w := 1)
  rw [vOf_1] at h
  exact h
theorem vOf_2 (R : gW) (t : Int32) : vOf R t 2 = vO R t 2 := by
  unfold vOf aOf vO
  by_cases q : isT R t
  · rw [if_pos q, if_pos q]
    rw [if_neg (by decide)]
    unfold aOf0
    rw [if_neg (by decide), if_neg (by decide), if_pos rfl]
  · rw [if_neg q, if_neg q]
theorem xr_o2 {t : Int32} : XR 124 [some (.ref 0), some (.int t), some (.int 2), none] n ρ (vO (ρ 324) t 2) n ρ := by
  have h := xr_of_ (n := n) (ρ := ρ) (t := t) (w := 2)
  rw [vOf_2] at h
  exact h
theorem vOf_3 (R : gW) (t : Int32) : vOf R t 3 = vO R t 3 := by
  unfold vOf aOf vO
  by_cases q : isT R t
  · rw [if_pos q, if_pos q]
    rw [if_pos (by decide)]
    unfold aOf0
    rw [if_neg (by decide), if_neg (by decide), if_neg (by decide), if_pos rfl]
  · rw [if_neg q, if_neg q]
theorem xr_o3 {t : Int32} : XR 124 [some (.ref 0), some (.int t), some (.int 3), none] n ρ (vO (ρ 324) t 3) n ρ := by
  have h := xr_of_ (n := n) (ρ := ρ) (t := t) (w := 3)
  rw [vOf_3] at h
  exact h
theorem vOf_4 (R : gW) (t : Int32) : vOf R t 4 = vO R t 4 := by
  unfold vOf aOf vO
  by_cases q : isT R t
  · rw [if_pos q, if_pos q]
    rw [if_pos (by decide)]
    unfold aOf0
    rw [if_neg (by decide), if_neg (by decide), if_neg (by decide), if_neg (by decide), if_pos rfl]
  · rw [if_neg q, if_neg q]
theorem xr_o4 {t : Int32} : XR 124 [some (.ref 0), some (.int t), some (.int 4), none] n ρ (vO (ρ 324) t 4) n ρ := by
  have h := xr_of_ (n := n) (ρ := ρ) (t := t) (w := 4)
  rw [vOf_4] at h
  exact h
theorem vOf_5 (R : gW) (t : Int32) : vOf R t 5 = vO R t 5 := by
  unfold vOf aOf vO
  by_cases q : isT R t
  · rw [if_pos q, if_pos q]
    rw [if_neg (by decide)]
    unfold aOf0
    rw [if_neg (by decide), if_neg (by decide), if_neg (by decide), if_neg (by decide), if_neg (by decide), if_pos rfl]
  · rw [if_neg q, if_neg q]
theorem xr_o5 {t : Int32} : XR 124 [some (.ref 0), some (.int t), some (.int 5), none] n ρ (vO (ρ 324) t 5) n ρ := by
  have h := xr_of_ (n := n) (ρ := ρ) (t := t) (w := 5)
  rw [vOf_5] at h
  exact h
theorem vOf_6 (R : gW) (t : Int32) : vOf R t 6 = vO R t 6 := by
  unfold vOf aOf vO
  by_cases q : isT R t
  · rw [if_pos q, if_pos q]
    rw [if_neg (by decide)]
    unfold aOf0
    rw [if_neg (by decide), if_neg (by decide), if_neg (by decide), if_neg (by decide), if_neg (by decide), if_neg (by decide), if_pos rfl]
  · rw [if_neg q, if_neg q]
theorem xr_o6 {t : Int32} : XR 124 [some (.ref 0), some (.int t), some (.int 6), none] n ρ (vO (ρ 324) t 6) n ρ := by
  have h := xr_of_ (n := n) (ρ := ρ) (t := t) (w := 6)
  rw [vOf_6] at h
  exact h
theorem vOf_7 (R : gW) (t : Int32) : vOf R t 7 = vO R t 7 := by
  unfold vOf aOf vO
  by_cases q : isT R t
  · rw [if_pos q, if_pos q]
    rw [if_neg (by decide)]
    unfold aOf0
    rw [if_neg (by decide), if_neg (by decide), if_neg (by decide), if_neg (by decide), if_neg (by decide), if_neg (by decide), if_neg (by decide), if_pos rfl]
  · rw [if_neg q, if_neg q]
theorem xr_o7 {t : Int32} : XR 124 [some (.ref 0), some (.int t), some (.int 7), none] n ρ (vO (ρ 324) t 7) n ρ := by
  have h := xr_of_ (n := n) (ρ := ρ) (t := t) (w := 7)
  rw [vOf_7] at h
  exact h
theorem vOf_8 (R : gW) (t : Int32) : vOf R t 8 = vO R t 8 := by
  unfold vOf aOf vO
  by_cases q : isT R t
  · rw [if_pos q, if_pos q]
    rw [if_neg (by decide)]
    unfold aOf0
    rw [if_neg (by decide), if_neg (by decide), if_neg (by decide), if_neg (by decide), if_neg (by decide), if_neg (by decide), if_neg (by decide), if_neg (by decide), if_pos rfl]
  · rw [if_neg q, if_neg q]
theorem xr_o8 {t : Int32} : XR 124 [some (.ref 0), some (.int t), some (.int 8), none] n ρ (vO (ρ 324) t 8) n ρ := by
  have h := xr_of_ (n := n) (ρ := ρ) (t := t) (w := 8)
  rw [vOf_8] at h
  exact h
theorem vOf_9 (R : gW) (t : Int32) : vOf R t 9 = vO9 R t := by
  unfold vOf aOf vO9
  by_cases q : isT R t
  · rw [if_pos q, if_pos q]
    unfold aOf0
    rw [if_neg (by decide), if_neg (by decide), if_neg (by decide), if_neg (by decide), if_neg (by decide), if_neg (by decide), if_neg (by decide), if_neg (by decide), if_neg (by decide), if_pos rfl]
  · rw [if_neg q, if_neg q]
theorem xr_o9 {t : Int32} : XR 124 [some (.ref 0), some (.int t), some (.int 9), none] n ρ (vO9 (ρ 324) t) n ρ := by
  have h := xr_of_ (n := n) (ρ := ρ) (t := t) (w := 9)
  rw [vOf_9] at h
  exact h
theorem vOf_10 (R : gW) (t : Int32) : vOf R t 10 = vO10 R t := by
  unfold vOf aOf vO10
  by_cases q : isT R t
  · rw [if_pos q, if_pos q]
    unfold aOf0
    rw [if_neg (by decide), if_neg (by decide), if_neg (by decide), if_neg (by decide), if_neg (by decide), if_neg (by decide), if_neg (by decide), if_neg (by decide), if_neg (by decide), if_neg (by decide), if_pos rfl]
  · rw [if_neg q, if_neg q]
theorem xr_o10 {t : Int32} : XR 124 [some (.ref 0), some (.int t), some (.int 10), none] n ρ (vO10 (ρ 324) t) n ρ := by
  have h := xr_of_ (n := n) (ρ := ρ) (t := t) (w := 10)
  rw [vOf_10] at h
  exact h
theorem vOf_11 (R : gW) (t : Int32) : vOf R t 11 = vO11 R t := by
  unfold vOf aOf vO11
  by_cases q : isT R t
  · rw [if_pos q, if_pos q]
    unfold aOf0
    rw [if_neg (by decide), if_neg (by decide), if_neg (by decide), if_neg (by decide), if_neg (by decide), if_neg (by decide), if_neg (by decide), if_neg (by decide), if_neg (by decide), if_neg (by decide), if_neg (by decide), if_pos rfl]
  · rw [if_neg q, if_neg q]
theorem xr_o11 {t : Int32} : XR 124 [some (.ref 0), some (.int t), some (.int 11), none] n ρ (vO11 (ρ 324) t) n ρ := by
  have h := xr_of_ (n := n) (ρ := ρ) (t := t) (w := 11)
  rw [vOf_11] at h
  exact h
theorem vVl_0 (ρ : gS) : vVl ρ 0 = ρ 324 0 := by
  unfold vVl aVl
  rw [if_pos rfl]
theorem xr_v0 : XR 123 [some (.ref 0), some (.int 0)] n ρ (ρ 324 0) n ρ := by
  have h := xr_value (n := n) (ρ := ρ) (w := 0)
  rw [vVl_0] at h
  exact h
theorem vVl_1 (ρ : gS) : vVl ρ 1 = ρ 324 1 := by
  unfold vVl aVl
  rw [if_neg (by decide), if_pos rfl]
theorem xr_v1 : XR 123 [some (.ref 0), some (.int 1)] n ρ (ρ 324 1) n ρ := by
  have h := xr_value (n := n) (ρ := ρ) (w := 1)
  rw [vVl_1] at h
  exact h
theorem vVl_2 (ρ : gS) : vVl ρ 2 = ρ 324 2 := by
  unfold vVl aVl
  rw [if_neg (by decide), if_neg (by decide), if_pos rfl]
theorem xr_v2 : XR 123 [some (.ref 0), some (.int 2)] n ρ (ρ 324 2) n ρ := by
  have h := xr_value (n := n) (ρ := ρ) (w := 2)
  rw [vVl_2] at h
  exact h
theorem vVl_3 (ρ : gS) : vVl ρ 3 = ρ 324 3 := by
  unfold vVl aVl
  rw [if_neg (by decide), if_neg (by decide), if_neg (by decide), if_pos rfl]
theorem xr_v3 : XR 123 [some (.ref 0), some (.int 3)] n ρ (ρ 324 3) n ρ := by
  have h := xr_value (n := n) (ρ := ρ) (w := 3)
  rw [vVl_3] at h
  exact h
theorem vVl_4 (ρ : gS) : vVl ρ 4 = 4 * ρ 324 0 - ρ 324 3 := by
  unfold vVl aVl
  rw [if_neg (by decide), if_neg (by decide), if_neg (by decide), if_neg (by decide), if_pos rfl]
theorem xr_v4 : XR 123 [some (.ref 0), some (.int 4)] n ρ (4 * ρ 324 0 - ρ 324 3) n ρ := by
  have h := xr_value (n := n) (ρ := ρ) (w := 4)
  rw [vVl_4] at h
  exact h
theorem vVl_5 (ρ : gS) : vVl ρ 5 = fJa (ρ 324) + 10000 := by
  unfold vVl aVl
  rw [if_neg (by decide), if_neg (by decide), if_neg (by decide), if_neg (by decide), if_neg (by decide), if_pos rfl]
theorem xr_v5 : XR 123 [some (.ref 0), some (.int 5)] n ρ (fJa (ρ 324) + 10000) n ρ := by
  have h := xr_value (n := n) (ρ := ρ) (w := 5)
  rw [vVl_5] at h
  exact h
theorem vVl_6 (ρ : gS) : vVl ρ 6 = fGr (ρ 324) := by
  unfold vVl aVl
  rw [if_neg (by decide), if_neg (by decide), if_neg (by decide), if_neg (by decide), if_neg (by decide), if_neg (by decide), if_pos rfl]
theorem xr_v6 : XR 123 [some (.ref 0), some (.int 6)] n ρ (fGr (ρ 324)) n ρ := by
  have h := xr_value (n := n) (ρ := ρ) (w := 6)
  rw [vVl_6] at h
  exact h
theorem vVl_7 (ρ : gS) : vVl ρ 7 = fSw (ρ 324) := by
  unfold vVl aVl
  rw [if_neg (by decide), if_neg (by decide), if_neg (by decide), if_neg (by decide), if_neg (by decide), if_neg (by decide), if_neg (by decide), if_pos rfl]
theorem xr_v7 : XR 123 [some (.ref 0), some (.int 7)] n ρ (fSw (ρ 324)) n ρ := by
  have h := xr_value (n := n) (ρ := ρ) (w := 7)
  rw [vVl_7] at h
  exact h
theorem vVl_8 (ρ : gS) : vVl ρ 8 = ρ 324 4 := by
  unfold vVl aVl
  rw [if_neg (by decide), if_neg (by decide), if_neg (by decide), if_neg (by decide), if_neg (by decide), if_neg (by decide), if_neg (by decide), if_neg (by decide), if_pos rfl]
theorem xr_v8 : XR 123 [some (.ref 0), some (.int 8)] n ρ (ρ 324 4) n ρ := by
  have h := xr_value (n := n) (ρ := ρ) (w := 8)
  rw [vVl_8] at h
  exact h
theorem vVl_9 (ρ : gS) : vVl ρ 9 = ρ 324 5 := by
  unfold vVl aVl
  rw [if_neg (by decide), if_neg (by decide), if_neg (by decide), if_neg (by decide), if_neg (by decide), if_neg (by decide), if_neg (by decide), if_neg (by decide), if_neg (by decide), if_pos rfl]
theorem xr_v9 : XR 123 [some (.ref 0), some (.int 9)] n ρ (ρ 324 5) n ρ := by
  have h := xr_value (n := n) (ρ := ρ) (w := 9)
  rw [vVl_9] at h
  exact h
theorem vVl_10 (ρ : gS) : vVl ρ 10 = ρ 324 6 := by
  unfold vVl aVl
  rw [if_neg (by decide), if_neg (by decide), if_neg (by decide), if_neg (by decide), if_neg (by decide), if_neg (by decide), if_neg (by decide), if_neg (by decide), if_neg (by decide), if_neg (by decide), if_pos rfl]
theorem xr_v10 : XR 123 [some (.ref 0), some (.int 10)] n ρ (ρ 324 6) n ρ := by
  have h := xr_value (n := n) (ρ := ρ) (w := 10)
  rw [vVl_10] at h
  exact h
theorem vVl_11 (ρ : gS) : vVl ρ 11 = ρ 324 7 := by
  unfold vVl aVl
  rw [if_neg (by decide), if_neg (by decide), if_neg (by decide), if_neg (by decide), if_neg (by decide), if_neg (by decide), if_neg (by decide), if_neg (by decide), if_neg (by decide), if_neg (by decide), if_neg (by decide), if_pos rfl]
theorem xr_v11 : XR 123 [some (.ref 0), some (.int 11)] n ρ (ρ 324 7) n ρ := by
  have h := xr_value (n := n) (ρ := ρ) (w := 11)
  rw [vVl_11] at h
  exact h
theorem vVl_12 (ρ : gS) : vVl ρ 12 = ρ 324 8 := by
  unfold vVl aVl
  rw [if_neg (by decide), if_neg (by decide), if_neg (by decide), if_neg (by decide), if_neg (by decide), if_neg (by decide), if_neg (by decide), if_neg (by decide), if_neg (by decide), if_neg (by decide), if_neg (by decide), if_neg (by decide), if_pos rfl]
theorem xr_v12 : XR 123 [some (.ref 0), some (.int 12)] n ρ (ρ 324 8) n ρ := by
  have h := xr_value (n := n) (ρ := ρ) (w := 12)
  rw [vVl_12] at h
  exact h
theorem vVl_13 (ρ : gS) : vVl ρ 13 = (ρ 324 0 + 1) / 2 := by
  unfold vVl aVl
  rw [if_neg (by decide), if_neg (by decide), if_neg (by decide), if_neg (by decide), if_neg (by decide), if_neg (by decide), if_neg (by decide), if_neg (by decide), if_neg (by decide), if_neg (by decide), if_neg (by decide), if_neg (by decide), if_neg (by decide), if_pos rfl]
theorem xr_v13 : XR 123 [some (.ref 0), some (.int 13)] n ρ ((ρ 324 0 + 1) / 2) n ρ := by
  have h := xr_value (n := n) (ρ := ρ) (w := 13)
  rw [vVl_13] at h
  exact h
theorem vVl_14 (ρ : gS) : vVl ρ 14 = fFs (fMF (ρ 324)) := by
  unfold vVl aVl
  rw [if_neg (by decide), if_neg (by decide), if_neg (by decide), if_neg (by decide), if_neg (by decide), if_neg (by decide), if_neg (by decide), if_neg (by decide), if_neg (by decide), if_neg (by decide), if_neg (by decide), if_neg (by decide), if_neg (by decide), if_neg (by decide), if_pos rfl]
theorem xr_v14 : XR 123 [some (.ref 0), some (.int 14)] n ρ (fFs (fMF (ρ 324))) n ρ := by
  have h := xr_value (n := n) (ρ := ρ) (w := 14)
  rw [vVl_14] at h
  exact h
theorem vVl_15 (ρ : gS) : vVl ρ 15 = ρ 324 209 := by
  unfold vVl aVl
  rw [if_neg (by decide), if_neg (by decide), if_neg (by decide), if_neg (by decide), if_neg (by decide), if_neg (by decide), if_neg (by decide), if_neg (by decide), if_neg (by decide), if_neg (by decide), if_neg (by decide), if_neg (by decide), if_neg (by decide), if_neg (by decide), if_neg (by decide), if_pos rfl]
theorem xr_v15 : XR 123 [some (.ref 0), some (.int 15)] n ρ (ρ 324 209) n ρ := by
  have h := xr_value (n := n) (ρ := ρ) (w := 15)
  rw [vVl_15] at h
  exact h
theorem vVl_17 (ρ : gS) : vVl ρ 17 = -1 := by
  unfold vVl aVl
  rw [if_neg (by decide), if_neg (by decide), if_neg (by decide), if_neg (by decide), if_neg (by decide), if_neg (by decide), if_neg (by decide), if_neg (by decide), if_neg (by decide), if_neg (by decide), if_neg (by decide), if_neg (by decide), if_neg (by decide), if_neg (by decide), if_neg (by decide), if_neg (by decide), if_neg (by decide)]
theorem xr_v17 : XR 123 [some (.ref 0), some (.int 17)] n ρ (-1) n ρ := by
  have h := xr_value (n := n) (ρ := ρ) (w := 17)
  rw [vVl_17] at h
  exact h
theorem agr_vFl {R S : gW} (h : agr R S) : vFl R = vFl S := by
  unfold vFl
  rw [h.1 3 (by decide), h.1 0 (by decide)]
theorem agr_vMj {R S : gW} (h : agr R S) : vMj R = vMj S := by
  unfold vMj
  rw [h.1 3 (by decide), agr_Ja h]
theorem xr_full : XRV 141 [some (.ref 0), none] n ρ (.float (vFl (ρ 324))) n ρ := fun _ σ h q => by
  have h' := h
  obtain ⟨B, b1, b2, g, tb⟩ := h
  obtain ⟨hc, hF⟩ := GR_SC g
  refine x141 hc ⟨?_, σ, fun _ _ => rfl, h', q⟩
  rw [agr_vFl g.1.1, q.2.1]
theorem xr_meanJoy : XRV 142 [some (.ref 0)] n ρ (.double (vMj (ρ 324))) n ρ := fun _ σ h q => by
  have h' := h
  obtain ⟨B, b1, b2, g, tb⟩ := h
  obtain ⟨hc, hF⟩ := GR_SC g
  refine x142 hc hF ⟨?_, σ, fun _ _ => rfl, h', q⟩
  rw [agr_vMj g.1.1, q.2.1]
end XRO
section JLM
variable {y pc : Nat} {Lv : List (Option Value)} {r : List Value} {h : jv_H} {K : jK}
theorem jl_max {a b : Int32} (hD : jx_chk y pc 180 2 2 0 13 = true) (hw1 : jv_wd r ≤ 8) (hg : jE y (pc + 3) Lv (.int (if a < b then b else a) :: r) h K) : jE y pc Lv (.int b :: .int a :: r) h K := by
  refine jx_call (z := 180) (na := 2) (mL := 2) (ck := 0) (ow := 13) hD (by show 2 ≤ r.length + 2; omega) hw1 rfl (Or.inl rfl) ?_
  exact sb_max hg
theorem jl_abs0 {a : Int32} (hK : K (some (.int (if a < 0 then -a else a))) h) : jE 270 0 [some (.int a)] [] h K := by
  refine jx_blk (by decide) [(.iload_n 0, 1)] (pc' := 1) (Lv' := [some (.int a)]) (st' := [.int a]) (by decide +kernel) rfl ?_
  refine jx_if_ge (off := 8) (b := 9) (by decide) (by decide +kernel) (by decide) (fun e => ?_) (fun e => ?_)
  · refine jx_blk (by decide) [(.iload_n 0, 1)] (pc' := 10) (Lv' := [some (.int a)]) (st' := [.int a]) (by decide +kernel) rfl ?_
    rw [if_neg e] at hK
    exact jx_iret .int (by decide) (by decide +kernel) (by decide +kernel) rfl hK
  · refine jx_blk (by decide) [(.iload_n 0, 1), (.ineg, 1)] (pc' := 6) (Lv' := [some (.int a)]) (st' := [.int (-a)]) (by decide +kernel) rfl ?_
    refine jx_goto (off := 4) (b := 10) (by decide) (by decide +kernel) (by decide) ?_
    rw [if_pos e] at hK
    exact jx_iret .int (by decide) (by decide +kernel) (by decide +kernel) rfl hK
theorem jl_abs {a : Int32} (hD : jx_chk y pc 270 1 1 0 13 = true) (hw1 : jv_wd r ≤ 8) (hg : jE y (pc + 3) Lv (.int (if a < 0 then -a else a) :: r) h K) : jE y pc Lv (.int a :: r) h K := by
  refine jx_call (z := 270) (na := 1) (mL := 1) (ck := 0) (ow := 13) hD (by show 1 ≤ r.length + 1; omega) hw1 rfl (Or.inl rfl) ?_
  exact jl_abs0 hg
end JLM
