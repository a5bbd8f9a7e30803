/-! THE REFERENCE: a seat is read -/
noncomputable def hRs2 (b : gS) (n : Nat) (x : Int32) : gS := if b 323 15 = 0 ∧ q3c b then qZ (qMid (grow (rTk b 1) 325 (fNew (b 325) x (b 323 14))) n) n x else rTk b 0
noncomputable def hRs1 (a : gS) : gS := hRs2 (rTk a (bI (q2c a (a 323 14)))) (a 325 3).toNatClampNeg (a 323 14)
theorem hRs_x : ∃ f : gS → gS, ∀ σ, f σ = if σ 325 3 < 20 then hRs1 (rTk σ 1) else rTk σ 0 := ⟨fun σ => if σ 325 3 < 20 then hRs1 (rTk σ 1) else rTk σ 0, fun _ => rfl⟩
noncomputable def hRs : gS → gS := Classical.choose hRs_x
theorem hRs_e : ∀ σ, hRs σ = if σ 325 3 < 20 then hRs1 (rTk σ 1) else rTk σ 0 := Classical.choose_spec hRs_x
theorem NX_gr {σ : gS} {R : gW} (h : NX σ) : NX (grow σ 325 R) := NX_cg h (by rw [grow_ne (by decide)]) (by rw [grow_ne (by decide)])
noncomputable def f202 : gD := fun Lv σ => match Lv with
  | [some (.ref q0), none, none, none] => cond (Nat.beq q0 323) (some (some ((NX σ ∧ KV σ) ∧ σ 323 15 = 0 ∧ (0 ≤ σ 325 3 ∧ σ 325 3 ≤ 20)), none, hRs σ)) none
  | _ => none
noncomputable def gpeb_l : List (Nat × gD) := gpea_l
noncomputable def gpeb : gP := gpl0 gpeb_l
theorem gpeb_ok : gPok gpeb := gpea_ok
