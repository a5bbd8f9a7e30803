section
-- text 92
/-! THE REFERENCE: a seat is read -/
set_option maxRecDepth 20000 in
theorem w202 {σ : gS} {K : gK} (h : (0 ≤ (3 : Int32) ∧ (3 : Int32) < 330) ∧ ((¬ (σ 325 3) < 20 → (NX σ) ∧ ((¬ (bI (σ 323 15 = 0 ∧ ¬ (0 : Int32) = 0)) = 0 → gE 202 24 [some (.ref 323), none, none, none] [] (rTk σ (0 : Int32)) K) ∧ ((bI (σ 323 15 = 0 ∧ ¬ (0 : Int32) = 0)) = 0 → K none (rTk σ (0 : Int32))))) ∧ ((σ 325 3) < 20 → (NX σ) ∧ ((¬ (bI (σ 323 15 = 0 ∧ ¬ (1 : Int32) = 0)) = 0 → gE 202 24 [some (.ref 323), none, none, none] [] (rTk σ (1 : Int32)) K) ∧ ((bI (σ 323 15 = 0 ∧ ¬ (1 : Int32) = 0)) = 0 → K none (rTk σ (1 : Int32))))))) : gE 202 0 [some (.ref 323), none, none, none] [] σ K :=
  gw_run (cy := 202) (cuts := [24, 36, 77, 82, 110, 119, 139, 165, 188, 211, 244, 261, 288, 315]) (inl := []) (pf := gpea) gpea_ok 400 (by decide) h
set_option maxRecDepth 20000 in
theorem c202_24 {σ : gS} {K : gK} (h : (0 ≤ (3 : Int32) ∧ (3 : Int32) < 330) ∧ gE 202 36 [some (.ref 323), some (.int (σ 325 3)), some (.int (σ 323 14)), none] [] σ K) : gE 202 24 [some (.ref 323), none, none, none] [] σ K :=
  gw_run (cy := 202) (cuts := [24, 36, 77, 82, 110, 119, 139, 165, 188, 211, 244, 261, 288, 315]) (inl := []) (pf := gpea) gpea_ok 400 (by decide) h
set_option maxRecDepth 20000 in
theorem c202_36 {σ : gS} {K : gK} {l1 l2 : Int32} (h : ((¬ (σ 323 13) = 2 → (NX σ) ∧ gE 202 77 [some (.ref 323), some (.int l1), some (.int l2), none] [] (rTk σ (0 : Int32)) K) ∧ ((σ 323 13) = 2 → (0 ≤ (0 : Int32) ∧ (0 : Int32) < 330) ∧ ((¬ l2 < (4 * (σ 325 0)) → (NX σ) ∧ gE 202 77 [some (.ref 323), some (.int l1), some (.int l2), none] [] (rTk σ (0 : Int32)) K) ∧ (l2 < (4 * (σ 325 0)) → (0 ≤ σ 325 3 ∧ σ 325 3 ≤ 20) ∧ ((¬ (fWho (σ 325) l2) < 0 → (NX σ) ∧ gE 202 77 [some (.ref 323), some (.int l1), some (.int l2), none] [] (rTk σ (0 : Int32)) K) ∧ ((fWho (σ 325) l2) < 0 → (NX σ) ∧ gE 202 77 [some (.ref 323), some (.int l1), some (.int l2), none] [] (rTk σ (1 : Int32)) K))))))) : gE 202 36 [some (.ref 323), some (.int l1), some (.int l2), none] [] σ K :=
  gw_run (cy := 202) (cuts := [24, 36, 77, 82, 110, 119, 139, 165, 188, 211, 244, 261, 288, 315]) (inl := []) (pf := gpea) gpea_ok 400 (by decide) h
set_option maxRecDepth 20000 in
theorem c202_77 {σ : gS} {K : gK} {l1 l2 : Int32} (h : gE 202 82 [some (.ref 323), some (.int l1), some (.int l2), some (.int (σ 323 14))] [] σ K) : gE 202 77 [some (.ref 323), some (.int l1), some (.int l2), none] [] σ K :=
  gw_run (cy := 202) (cuts := [24, 36, 77, 82, 110, 119, 139, 165, 188, 211, 244, 261, 288, 315]) (inl := []) (pf := gpea) gpea_ok 400 (by decide) h
set_option maxRecDepth 20000 in
theorem c202_82 {σ : gS} {K : gK} {l1 l2 l3 : Int32} (h : ((¬ (σ 323 13) = 1 → (NX σ) ∧ ((¬ (bI (σ 323 15 = 0 ∧ ¬ (0 : Int32) = 0)) = 0 → gE 202 110 [some (.ref 323), some (.int l1), some (.int l2), some (.int l3)] [] (rTk σ (0 : Int32)) K) ∧ ((bI (σ 323 15 = 0 ∧ ¬ (0 : Int32) = 0)) = 0 → K none (rTk σ (0 : Int32))))) ∧ ((σ 323 13) = 1 → (0 ≤ l3) ∧ (((bI (nsz l3 ≤ 5 ∧ ¬ isKey l3)) = 0 → (NX σ) ∧ ((¬ (bI (σ 323 15 = 0 ∧ ¬ (0 : Int32) = 0)) = 0 → gE 202 110 [some (.ref 323), some (.int l1), some (.int l2), some (.int l3)] [] (rTk σ (0 : Int32)) K) ∧ ((bI (σ 323 15 = 0 ∧ ¬ (0 : Int32) = 0)) = 0 → K none (rTk σ (0 : Int32))))) ∧ (¬ (bI (nsz l3 ≤ 5 ∧ ¬ isKey l3)) = 0 → (NX σ) ∧ ((¬ (bI (σ 323 15 = 0 ∧ ¬ (1 : Int32) = 0)) = 0 → gE 202 110 [some (.ref 323), some (.int l1), some (.int l2), some (.int l3)] [] (rTk σ (1 : Int32)) K) ∧ ((bI (σ 323 15 = 0 ∧ ¬ (1 : Int32) = 0)) = 0 → K none (rTk σ (1 : Int32))))))))) : gE 202 82 [some (.ref 323), some (.int l1), some (.int l2), some (.int l3)] [] σ K :=
  gw_run (cy := 202) (cuts := [24, 36, 77, 82, 110, 119, 139, 165, 188, 211, 244, 261, 288, 315]) (inl := []) (pf := gpea) gpea_ok 400 (by decide) h
set_option maxRecDepth 20000 in
theorem c202_110 {σ : gS} {K : gK} {l1 l2 l3 : Int32} (h : (0 ≤ σ 325 3 ∧ σ 325 3 < 20) ∧ gE 202 119 [some (.ref 323), some (.int l1), some (.int l2), some (.int l3)] [] (grow σ 325 (fNew (σ 325) l2 l3)) K) : gE 202 110 [some (.ref 323), some (.int l1), some (.int l2), some (.int l3)] [] σ K :=
  gw_run (cy := 202) (cuts := [24, 36, 77, 82, 110, 119, 139, 165, 188, 211, 244, 261, 288, 315]) (inl := []) (pf := gpea) gpea_ok 400 (by decide) h
set_option maxRecDepth 20000 in
theorem c202_119 {σ : gS} {K : gK} {l1 l2 l3 : Int32} (h : (NX σ) ∧ (((bI (rTw σ (291828332 : Int32))) = 0 → gE 202 139 [some (.ref 323), some (.int l1), some (.int l2), some (.int l3)] [] (if rTw σ (291828332 : Int32) then rNx σ else σ) K) ∧ (¬ (bI (rTw σ (291828332 : Int32))) = 0 → (0 ≤ (9 + 10 * l1 + (1 : Int32)) ∧ (9 + 10 * l1 + (1 : Int32)) < 330) ∧ gE 202 139 [some (.ref 323), some (.int l1), some (.int l2), some (.int l3)] [] (gup (if rTw σ (291828332 : Int32) then rNx σ else σ) 325 (9 + 10 * l1 + (1 : Int32)).toNatClampNeg 1) K))) : gE 202 119 [some (.ref 323), some (.int l1), some (.int l2), some (.int l3)] [] σ K :=
  gw_run (cy := 202) (cuts := [24, 36, 77, 82, 110, 119, 139, 165, 188, 211, 244, 261, 288, 315]) (inl := []) (pf := gpea) gpea_ok 400 (by decide) h
set_option maxRecDepth 20000 in
theorem c202_139 {σ : gS} {K : gK} {l1 l2 l3 : Int32} (h : (NX σ) ∧ (((bI (rTw σ (86887672 : Int32))) = 0 → gE 202 165 [some (.ref 323), some (.int l1), some (.int l2), some (.int l3)] [] (if rTw σ (86887672 : Int32) then rNx σ else σ) K) ∧ (¬ (bI (rTw σ (86887672 : Int32))) = 0 → (NX (if rTw σ (86887672 : Int32) then rNx σ else σ)) ∧ (0 ≤ (9 + 10 * l1 + (2 : Int32)) ∧ (9 + 10 * l1 + (2 : Int32)) < 330) ∧ gE 202 165 [some (.ref 323), some (.int l1), some (.int l2), some (.int l3)] [] (gup (rTn (if rTw σ (86887672 : Int32) then rNx σ else σ) (1 : Int32) (9 : Int32)) 325 (9 + 10 * l1 + (2 : Int32)).toNatClampNeg (rNm (if rTw σ (86887672 : Int32) then rNx σ else σ) (1 : Int32) (9 : Int32))) K))) : gE 202 139 [some (.ref 323), some (.int l1), some (.int l2), some (.int l3)] [] σ K :=
  gw_run (cy := 202) (cuts := [24, 36, 77, 82, 110, 119, 139, 165, 188, 211, 244, 261, 288, 315]) (inl := []) (pf := gpea) gpea_ok 400 (by decide) h
set_option maxRecDepth 20000 in
theorem c202_165 {σ : gS} {K : gK} {l1 l2 l3 : Int32} (h : (NX σ) ∧ (((bI (rTw σ (335086736 : Int32))) = 0 → gE 202 188 [some (.ref 323), some (.int l1), some (.int l2), some (.int l3)] [] (if rTw σ (335086736 : Int32) then rNx σ else σ) K) ∧ (¬ (bI (rTw σ (335086736 : Int32))) = 0 → (NX (if rTw σ (335086736 : Int32) then rNx σ else σ)) ∧ (0 ≤ (9 + 10 * l1 + (3 : Int32)) ∧ (9 + 10 * l1 + (3 : Int32)) < 330) ∧ gE 202 188 [some (.ref 323), some (.int l1), some (.int l2), some (.int l3)] [] (gup (rTn (rLk (if rTw σ (335086736 : Int32) then rNx σ else σ)) 0 9) 325 (9 + 10 * l1 + (3 : Int32)).toNatClampNeg (rLi (if rTw σ (335086736 : Int32) then rNx σ else σ))) K))) : gE 202 165 [some (.ref 323), some (.int l1), some (.int l2), some (.int l3)] [] σ K :=
  gw_run (cy := 202) (cuts := [24, 36, 77, 82, 110, 119, 139, 165, 188, 211, 244, 261, 288, 315]) (inl := []) (pf := gpea) gpea_ok 400 (by decide) h
set_option maxRecDepth 20000 in
theorem c202_188 {σ : gS} {K : gK} {l1 l2 l3 : Int32} (h : (NX σ) ∧ (((bI (rTw σ (692581 : Int32))) = 0 → gE 202 211 [some (.ref 323), some (.int l1), some (.int l2), some (.int l3)] [] (if rTw σ (692581 : Int32) then rNx σ else σ) K) ∧ (¬ (bI (rTw σ (692581 : Int32))) = 0 → (NX (if rTw σ (692581 : Int32) then rNx σ else σ)) ∧ (0 ≤ (9 + 10 * l1 + (4 : Int32)) ∧ (9 + 10 * l1 + (4 : Int32)) < 330) ∧ gE 202 211 [some (.ref 323), some (.int l1), some (.int l2), some (.int l3)] [] (gup (rTn (rLk (if rTw σ (692581 : Int32) then rNx σ else σ)) 0 9) 325 (9 + 10 * l1 + (4 : Int32)).toNatClampNeg (rLi (if rTw σ (692581 : Int32) then rNx σ else σ))) K))) : gE 202 188 [some (.ref 323), some (.int l1), some (.int l2), some (.int l3)] [] σ K :=
  gw_run (cy := 202) (cuts := [24, 36, 77, 82, 110, 119, 139, 165, 188, 211, 244, 261, 288, 315]) (inl := []) (pf := gpea) gpea_ok 400 (by decide) h
set_option maxRecDepth 20000 in
theorem c202_211 {σ : gS} {K : gK} {l1 l2 l3 : Int32} (h : (NX σ) ∧ (((bI (rTw σ (13550 : Int32))) = 0 → gE 202 261 [some (.ref 323), some (.int l1), some (.int l2), some (.int l3)] [] (if rTw σ (13550 : Int32) then rNx σ else σ) K) ∧ (¬ (bI (rTw σ (13550 : Int32))) = 0 → (0 ≤ (0 : Int32) ∧ (0 : Int32) < 330) ∧ (NX (if rTw σ (13550 : Int32) then rNx σ else σ)) ∧ (0 ≤ (9 + 10 * l1 + (5 : Int32)) ∧ (9 + 10 * l1 + (5 : Int32)) < 330) ∧ gE 202 244 [some (.ref 323), some (.int l1), some (.int l2), some (.int l3)] [] (gup (rTn (if rTw σ (13550 : Int32) then rNx σ else σ) (0 : Int32) (((if rTw σ (13550 : Int32) then rNx σ else σ) 325 0) - 1)) 325 (9 + 10 * l1 + (5 : Int32)).toNatClampNeg (rNm (if rTw σ (13550 : Int32) then rNx σ else σ) (0 : Int32) (((if rTw σ (13550 : Int32) then rNx σ else σ) 325 0) - 1))) K))) : gE 202 211 [some (.ref 323), some (.int l1), some (.int l2), some (.int l3)] [] σ K :=
  gw_run (cy := 202) (cuts := [24, 36, 77, 82, 110, 119, 139, 165, 188, 211, 244, 261, 288, 315]) (inl := []) (pf := gpea) gpea_ok 400 (by decide) h
set_option maxRecDepth 20000 in
theorem c202_261 {σ : gS} {K : gK} {l1 l2 l3 : Int32} (h : (NX σ) ∧ (((bI (rTw σ (284954995 : Int32))) = 0 → gE 202 288 [some (.ref 323), some (.int l1), some (.int l2), some (.int l3)] [] (if rTw σ (284954995 : Int32) then rNx σ else σ) K) ∧ (¬ (bI (rTw σ (284954995 : Int32))) = 0 → (NX (if rTw σ (284954995 : Int32) then rNx σ else σ)) ∧ (0 ≤ (9 + 10 * l1 + (7 : Int32)) ∧ (9 + 10 * l1 + (7 : Int32)) < 330) ∧ gE 202 288 [some (.ref 323), some (.int l1), some (.int l2), some (.int l3)] [] (gup (rTn (if rTw σ (284954995 : Int32) then rNx σ else σ) (0 : Int32) (99 : Int32)) 325 (9 + 10 * l1 + (7 : Int32)).toNatClampNeg (rNm (if rTw σ (284954995 : Int32) then rNx σ else σ) (0 : Int32) (99 : Int32))) K))) : gE 202 261 [some (.ref 323), some (.int l1), some (.int l2), some (.int l3)] [] σ K :=
  gw_run (cy := 202) (cuts := [24, 36, 77, 82, 110, 119, 139, 165, 188, 211, 244, 261, 288, 315]) (inl := []) (pf := gpea) gpea_ok 400 (by decide) h
set_option maxRecDepth 20000 in
theorem c202_244 {σ : gS} {K : gK} {l1 l2 l3 : Int32} (h : (NX σ) ∧ (0 ≤ (9 + 10 * l1 + (6 : Int32)) ∧ (9 + 10 * l1 + (6 : Int32)) < 330) ∧ gE 202 261 [some (.ref 323), some (.int l1), some (.int l2), some (.int l3)] [] (gup (rTn σ (0 : Int32) (3 : Int32)) 325 (9 + 10 * l1 + (6 : Int32)).toNatClampNeg (rNm σ (0 : Int32) (3 : Int32))) K) : gE 202 244 [some (.ref 323), some (.int l1), some (.int l2), some (.int l3)] [] σ K :=
  gw_run (cy := 202) (cuts := [24, 36, 77, 82, 110, 119, 139, 165, 188, 211, 244, 261, 288, 315]) (inl := []) (pf := gpea) gpea_ok 400 (by decide) h
set_option maxRecDepth 20000 in
theorem c202_288 {σ : gS} {K : gK} {l1 l2 l3 : Int32} (h : (NX σ) ∧ (((bI (rTw σ (388978 : Int32))) = 0 → gE 202 315 [some (.ref 323), some (.int l1), some (.int l2), some (.int l3)] [] (if rTw σ (388978 : Int32) then rNx σ else σ) K) ∧ (¬ (bI (rTw σ (388978 : Int32))) = 0 → (NX (if rTw σ (388978 : Int32) then rNx σ else σ)) ∧ (0 ≤ (9 + 10 * l1 + (8 : Int32)) ∧ (9 + 10 * l1 + (8 : Int32)) < 330) ∧ gE 202 315 [some (.ref 323), some (.int l1), some (.int l2), some (.int l3)] [] (gup (rTn (if rTw σ (388978 : Int32) then rNx σ else σ) (1 : Int32) (99 : Int32)) 325 (9 + 10 * l1 + (8 : Int32)).toNatClampNeg (rNm (if rTw σ (388978 : Int32) then rNx σ else σ) (1 : Int32) (99 : Int32))) K))) : gE 202 288 [some (.ref 323), some (.int l1), some (.int l2), some (.int l3)] [] σ K :=
  gw_run (cy := 202) (cuts := [24, 36, 77, 82, 110, 119, 139, 165, 188, 211, 244, 261, 288, 315]) (inl := []) (pf := gpea) gpea_ok 400 (by decide) h
set_option maxRecDepth 20000 in
theorem c202_315 {σ : gS} {K : gK} {l1 l2 l3 : Int32} (h : ((¬ (σ 323 13) = 3 → (NX σ) ∧ (((bI (σ 323 15 = 0 ∧ ¬ (0 : Int32) = 0)) = 0 → K none (rTk σ (0 : Int32))) ∧ (¬ (bI (σ 323 15 = 0 ∧ ¬ (0 : Int32) = 0)) = 0 → (0 ≤ (3 : Int32) ∧ (3 : Int32) < 330) ∧ (0 ≤ (3 : Int32) ∧ (3 : Int32) < 330) ∧ K none (gup (rTk σ (0 : Int32)) 325 3 (((rTk σ (0 : Int32)) 325 3) + 1))))) ∧ ((σ 323 13) = 3 → (0 ≤ l1 ∧ l1 < 20) ∧ (((bI (fMay (σ 325) l1.toNatClampNeg l2)) = 0 → (NX σ) ∧ (((bI (σ 323 15 = 0 ∧ ¬ (0 : Int32) = 0)) = 0 → K none (rTk σ (0 : Int32))) ∧ (¬ (bI (σ 323 15 = 0 ∧ ¬ (0 : Int32) = 0)) = 0 → (0 ≤ (3 : Int32) ∧ (3 : Int32) < 330) ∧ (0 ≤ (3 : Int32) ∧ (3 : Int32) < 330) ∧ K none (gup (rTk σ (0 : Int32)) 325 3 (((rTk σ (0 : Int32)) 325 3) + 1))))) ∧ (¬ (bI (fMay (σ 325) l1.toNatClampNeg l2)) = 0 → (NX σ) ∧ (((bI (σ 323 15 = 0 ∧ ¬ (1 : Int32) = 0)) = 0 → K none (rTk σ (1 : Int32))) ∧ (¬ (bI (σ 323 15 = 0 ∧ ¬ (1 : Int32) = 0)) = 0 → (0 ≤ (3 : Int32) ∧ (3 : Int32) < 330) ∧ (0 ≤ (3 : Int32) ∧ (3 : Int32) < 330) ∧ K none (gup (rTk σ (1 : Int32)) 325 3 (((rTk σ (1 : Int32)) 325 3) + 1))))))))) : gE 202 315 [some (.ref 323), some (.int l1), some (.int l2), some (.int l3)] [] σ K :=
  gw_run (cy := 202) (cuts := [24, 36, 77, 82, 110, 119, 139, 165, 188, 211, 244, 261, 288, 315]) (inl := []) (pf := gpea) gpea_ok 400 (by decide) h
theorem qs_119 {σ : gS} {K : gK} {n : Nat} {x v : Int32} (hn : n < 20) (h : NX σ) (hK : gE 202 139 [some (.ref 323), some (.int (iN n)), some (.int x), some (.int v)] [] (qT σ n) K) : gE 202 119 [some (.ref 323), some (.int (iN n)), some (.int x), some (.int v)] [] σ K := by
  unfold qT at hK
  refine c202_119 ⟨h, fun q => ?_, fun q => ?_⟩
  · have q := bI_0.mp q
    rw [if_neg q] at hK ⊢
    exact hK
  · have q := Decidable.not_not.mp (fun z => q (bI_0.mpr z))
    rw [if_pos q] at hK ⊢
    rw [ix1 hn]
    exact ⟨ixb1 hn, hK⟩
theorem qs_139 {σ : gS} {K : gK} {n : Nat} {x v : Int32} (hn : n < 20) (h : NX σ) (hK : gE 202 165 [some (.ref 323), some (.int (iN n)), some (.int x), some (.int v)] [] (qF σ n) K) : gE 202 139 [some (.ref 323), some (.int (iN n)), some (.int x), some (.int v)] [] σ K := by
  unfold qF at hK
  refine c202_139 ⟨h, fun q => ?_, fun q => ?_⟩
  · have q := bI_0.mp q
    rw [if_neg q] at hK ⊢
    exact hK
  · have q := Decidable.not_not.mp (fun z => q (bI_0.mpr z))
    rw [if_pos q] at hK ⊢
    rw [ix2 hn]
    exact ⟨rNx_NX h, ixb2 hn, hK⟩
theorem qs_165 {σ : gS} {K : gK} {n : Nat} {x v : Int32} (hn : n < 20) (h : NX σ) (hK : gE 202 188 [some (.ref 323), some (.int (iN n)), some (.int x), some (.int v)] [] (qW σ n) K) : gE 202 165 [some (.ref 323), some (.int (iN n)), some (.int x), some (.int v)] [] σ K := by
  unfold qW at hK
  refine c202_165 ⟨h, fun q => ?_, fun q => ?_⟩
  · have q := bI_0.mp q
    rw [if_neg q] at hK ⊢
    exact hK
  · have q := Decidable.not_not.mp (fun z => q (bI_0.mpr z))
    rw [if_pos q] at hK ⊢
    rw [ix3 hn]
    exact ⟨rNx_NX h, ixb3 hn, hK⟩
theorem qs_188 {σ : gS} {K : gK} {n : Nat} {x v : Int32} (hn : n < 20) (h : NX σ) (hK : gE 202 211 [some (.ref 323), some (.int (iN n)), some (.int x), some (.int v)] [] (qAh σ n) K) : gE 202 188 [some (.ref 323), some (.int (iN n)), some (.int x), some (.int v)] [] σ K := by
  unfold qAh at hK
  refine c202_188 ⟨h, fun q => ?_, fun q => ?_⟩
  · have q := bI_0.mp q
    rw [if_neg q] at hK ⊢
    exact hK
  · have q := Decidable.not_not.mp (fun z => q (bI_0.mpr z))
    rw [if_pos q] at hK ⊢
    rw [ix4 hn]
    exact ⟨rNx_NX h, ixb4 hn, hK⟩
theorem qs_261 {σ : gS} {K : gK} {n : Nat} {x v : Int32} (hn : n < 20) (h : NX σ) (hK : gE 202 288 [some (.ref 323), some (.int (iN n)), some (.int x), some (.int v)] [] (qS σ n) K) : gE 202 261 [some (.ref 323), some (.int (iN n)), some (.int x), some (.int v)] [] σ K := by
  unfold qS at hK
  refine c202_261 ⟨h, fun q => ?_, fun q => ?_⟩
  · have q := bI_0.mp q
    rw [if_neg q] at hK ⊢
    exact hK
  · have q := Decidable.not_not.mp (fun z => q (bI_0.mpr z))
    rw [if_pos q] at hK ⊢
    rw [ix7 hn]
    exact ⟨rNx_NX h, ixb7 hn, hK⟩
theorem qs_288 {σ : gS} {K : gK} {n : Nat} {x v : Int32} (hn : n < 20) (h : NX σ) (hK : gE 202 315 [some (.ref 323), some (.int (iN n)), some (.int x), some (.int v)] [] (qP σ n) K) : gE 202 288 [some (.ref 323), some (.int (iN n)), some (.int x), some (.int v)] [] σ K := by
  unfold qP at hK
  refine c202_288 ⟨h, fun q => ?_, fun q => ?_⟩
  · have q := bI_0.mp q
    rw [if_neg q] at hK ⊢
    exact hK
  · have q := Decidable.not_not.mp (fun z => q (bI_0.mpr z))
    rw [if_pos q] at hK ⊢
    rw [ix8 hn]
    exact ⟨rNx_NX h, ixb8 hn, hK⟩
theorem qs_211 {σ : gS} {K : gK} {n : Nat} {x v : Int32} (hn : n < 20) (h : NX σ) (hK : gE 202 261 [some (.ref 323), some (.int (iN n)), some (.int x), some (.int v)] [] (qR σ n) K) : gE 202 211 [some (.ref 323), some (.int (iN n)), some (.int x), some (.int v)] [] σ K := by
  unfold qR at hK
  refine c202_211 ⟨h, fun q => ?_, fun q => ?_⟩
  · have q := bI_0.mp q
    rw [if_neg q] at hK ⊢
    exact hK
  · have q := Decidable.not_not.mp (fun z => q (bI_0.mpr z))
    rw [if_pos q] at hK ⊢
    have e : rNx σ 325 = σ 325 := rNx_far (by decide)
    rw [ix5 hn, e]
    refine ⟨by decide, rNx_NX h, ixb5 hn, ?_⟩
    have k : NX (qR1 σ n) := qR1_I.1 h
    unfold qR1 at hK k
    refine c202_244 ⟨k, ixb6 hn, ?_⟩
    rw [ix6 hn]
    exact hK
theorem qs_315 {σ : gS} {K : gK} {n : Nat} {x v : Int32} (hn : n < 20) (h : NX σ) (hK : K none (qZ σ n x)) : gE 202 315 [some (.ref 323), some (.int (iN n)), some (.int x), some (.int v)] [] σ K := by
  have b : 0 ≤ iN n ∧ iN n < 20 := ⟨(iN_le (k := 0) (by decide) (by omega)).mpr (by omega), (iN_lt (m := 20) (by omega) (by decide)).mpr hn⟩
  unfold qZ at hK
  have no : ¬ (σ 323 13 = 3 ∧ fMay (σ 325) n x) → K none (rTk σ 0) := fun q => by rw [if_neg q] at hK; exact hK
  refine c202_315 ⟨fun q => ⟨h, fun _ => no (fun z => q z.1), fun z => absurd (bI_0.mpr (fun z => z.2 rfl)) z⟩, fun q => ⟨b, fun q2 => ⟨h, fun _ => no (fun z => ?_), fun z => absurd (bI_0.mpr (fun z => z.2 rfl)) z⟩, fun q2 => ⟨h, fun q3 => ?_, fun q3 => ⟨by decide, by decide, ?_⟩⟩⟩⟩
  · rw [iN_nat (by omega)] at q2
    exact bI_0.mp q2 z.2
  · have q3 : ¬ σ 323 15 = 0 := fun z => bI_0.mp q3 ⟨z, by decide⟩
    rw [iN_nat (by omega)] at q2
    rw [if_pos ⟨q, Decidable.not_not.mp (fun z => q2 (bI_0.mpr z))⟩, if_neg q3] at hK
    rw [rTk_f q3]
    exact hK
  · have q3 := Decidable.not_not.mp (fun z => q3 (bI_0.mpr z))
    rw [iN_nat (by omega)] at q2
    rw [if_pos ⟨q, Decidable.not_not.mp (fun z => q2 (bI_0.mpr z))⟩, if_pos q3.1] at hK
    exact hK
noncomputable def hRs2 (b : gS) (n : Nat) (x : Int32) : gS := if b 323 15 = 0 ∧ q3c b then qZ (qMid (grow (rTk b 1) 325 (fNew (b 325) x (b 323 14))) n) n x else rTk b 0
noncomputable def hRs1 (a : gS) : gS := hRs2 (rTk a (bI (q2c a (a 323 14)))) (a 325 3).toNatClampNeg (a 323 14)
theorem hRs_x : ∃ f : gS → gS, ∀ σ, f σ = if σ 325 3 < 20 then hRs1 (rTk σ 1) else rTk σ 0 := ⟨fun σ => if σ 325 3 < 20 then hRs1 (rTk σ 1) else rTk σ 0, fun _ => rfl⟩
noncomputable def hRs : gS → gS := Classical.choose hRs_x
theorem hRs_e : ∀ σ, hRs σ = if σ 325 3 < 20 then hRs1 (rTk σ 1) else rTk σ 0 := Classical.choose_spec hRs_x
theorem NX_gr {σ : gS} {R : gW} (h : NX σ) : NX (grow σ 325 R) := NX_cg h (by rw [grow_ne (by decide)]) (by rw [grow_ne (by decide)])
theorem qs_110 {σ : gS} {K : gK} {n : Nat} {x v : Int32} (hn : n < 20) (h3 : σ 325 3 = iN n) (h : NX σ) (hK : K none (qZ (qMid (grow σ 325 (fNew (σ 325) x v)) n) n x)) : gE 202 110 [some (.ref 323), some (.int (iN n)), some (.int x), some (.int v)] [] σ K := by
  have b : 0 ≤ σ 325 3 ∧ σ 325 3 < 20 := by
    rw [h3]
    exact ⟨(iN_le (k := 0) (by decide) (by omega)).mpr (by omega), (iN_lt (m := 20) (by omega) (by decide)).mpr hn⟩
  have k := NX_gr (R := fNew (σ 325) x v) h
  unfold qMid at hK
  have k1 := (qT_I (n := n)).1 k
  have k2 := (qF_I (n := n)).1 k1
  have k3 := (qW_I (n := n)).1 k2
  have k4 := (qAh_I (n := n)).1 k3
  have k5 := (qR_I (n := n)).1 k4
  have k6 := (qS_I (n := n)).1 k5
  have k7 := (qP_I (n := n)).1 k6
  exact c202_110 ⟨b, qs_119 hn k (qs_139 hn k1 (qs_165 hn k2 (qs_188 hn k3 (qs_211 hn k4 (qs_261 hn k5 (qs_288 hn k6 (qs_315 hn k7 hK)))))))⟩
theorem qs_77 {σ : gS} {K : gK} {n : Nat} {x : Int32} (hn : n < 20) (h3 : σ 325 3 = iN n) (h : NX σ) (hv : KV σ) (hK : K none (hRs2 σ n x)) : gE 202 77 [some (.ref 323), some (.int (iN n)), some (.int x), none] [] σ K := by
  unfold hRs2 at hK
  have no : ¬ (σ 323 15 = 0 ∧ q3c σ) → K none (rTk σ 0) := fun q => by rw [if_neg q] at hK; exact hK
  refine c202_77 (c202_82 ⟨fun q => ⟨h, fun z => absurd (bI_0.mpr (fun z => z.2 rfl)) z, fun _ => no (fun z => q z.2.1)⟩, fun q => ⟨hv q, fun q2 => ⟨h, fun z => absurd (bI_0.mpr (fun z => z.2 rfl)) z, fun _ => no (fun z => bI_0.mp q2 z.2.2)⟩, fun q2 => ⟨h, fun q3 => ?_, fun q3 => ?_⟩⟩⟩)
  · have q3 := Decidable.not_not.mp (fun z => q3 (bI_0.mpr z))
    have q2 := Decidable.not_not.mp (fun z => q2 (bI_0.mpr z))
    rw [if_pos ⟨q3.1, q, q2⟩] at hK
    have e : rTk σ 1 325 = σ 325 := rTk_far (by decide)
    refine qs_110 hn (by rw [e]; exact h3) (rTk_NX h) ?_
    rw [e]
    exact hK
  · have q3 : ¬ σ 323 15 = 0 := fun z => bI_0.mp q3 ⟨z, by decide⟩
    rw [rTk_f q3]
    have := no (fun z => q3 z.1)
    rw [rTk_f q3] at this
    exact this
theorem qs_24 {σ : gS} {K : gK} (h : NX σ) (hv : KV σ) (h3 : 0 ≤ σ 325 3 ∧ σ 325 3 < 20) (hK : K none (hRs1 σ)) : gE 202 24 [some (.ref 323), none, none, none] [] σ K := by
  obtain ⟨e, l⟩ := t20 h3
  obtain ⟨n, hn⟩ : ∃ n, (σ 325 3).toNatClampNeg = n := ⟨_, rfl⟩
  rw [hn] at e l
  unfold hRs1 at hK
  rw [hn] at hK
  refine c202_24 ⟨by decide, ?_⟩
  rw [e]
  have go : ∀ c, K none (hRs2 (rTk σ c) n (σ 323 14)) → gE 202 77 [some (.ref 323), some (.int (iN n)), some (.int (σ 323 14)), none] [] (rTk σ c) K := fun c hc => qs_77 l (by rw [rTk_far (by decide)]; exact e) (rTk_NX h) (rTk_KV hv) hc
  have no : ¬ q2c σ (σ 323 14) → K none (hRs2 (rTk σ 0) n (σ 323 14)) := fun q => by rw [bI_n q] at hK; exact hK
  refine c202_36 ⟨fun q => ⟨h, go 0 (no (fun z => q z.1))⟩, fun q => ⟨by decide, fun q2 => ⟨h, go 0 (no (fun z => q2 z.2.1))⟩, fun q2 => ⟨⟨h3.1, by have := h3.2; grind⟩, fun q3 => ⟨h, go 0 (no (fun z => q3 z.2.2))⟩, fun q3 => ⟨h, go 1 ?_⟩⟩⟩⟩
  rw [bI_y ⟨q, q2, q3⟩] at hK
  exact hK
theorem s202 {σ : gS} {K : gK} (hc : (NX σ ∧ KV σ) ∧ σ 323 15 = 0 ∧ (0 ≤ σ 325 3 ∧ σ 325 3 ≤ 20)) (hK : K none (hRs σ)) : gE 202 0 [some (.ref 323), none, none, none] [] σ K := by
  obtain ⟨⟨h, hv⟩, hf, h3⟩ := hc
  rw [hRs_e] at hK
  refine w202 ⟨by decide, fun q => ⟨h, fun z => absurd (bI_0.mpr (fun z => z.2 rfl)) z, fun _ => ?_⟩, fun q => ⟨h, fun _ => ?_, fun z => absurd ⟨hf, by decide⟩ (bI_0.mp z)⟩⟩
  · rw [if_neg q] at hK
    exact hK
  · rw [if_pos q] at hK
    exact qs_24 (rTk_NX h) (rTk_KV hv) (by rw [rTk_far (by decide)]; exact ⟨h3.1, q⟩) hK
noncomputable def f202 : gD := fun Lv σ => match Lv with
  | [some (.ref q0), none, none, none] => cond (Nat.beq q0 323) (some (some ((NX σ ∧ KV σ) ∧ σ 323 15 = 0 ∧ (0 ≤ σ 325 3 ∧ σ 325 3 ≤ 20)), none, hRs σ)) none
  | _ => none
theorem ok202 : gFok 202 f202 := by
  intro Lv σ q h hc K hK
  unfold f202 at h
  split at h
  · rename_i q0
    obtain ⟨hb, h⟩ := c_no h
    have hb0 := hb
    have e0 := b_eq hb0
    subst e0
    cases h
    exact s202 (hc _ rfl) hK
  · cases h
noncomputable def gpeb_l : List (Nat × gD) := (202, f202) :: gpea_l
noncomputable def gpeb : gP := gpl0 gpeb_l
theorem gpeb_ok : gPok gpeb := gpl0_cons ok202 (gpea_ok)
end
section
-- text 93
/-! THE REFERENCE: load -/
set_option maxRecDepth 20000 in
theorem w203 {σ : gS} {K : gK} (h : gE 203 2 [some (.ref 323), some (.int 0)] [] σ K) : gE 203 0 [some (.ref 323), none] [] σ K :=
  gw_run (cy := 203) (cuts := [2, 22, 42, 53, 66, 77, 94, 112, 135, 155, 169, 189, 207]) (inl := []) (pf := gpeb) gpeb_ok 400 (by decide) h
set_option maxRecDepth 20000 in
theorem c203_2 {σ : gS} {K : gK} {l1 : Int32} (h : ((¬ l1 < 330 → gE 203 22 [some (.ref 323), some (.int l1)] [] σ K) ∧ (l1 < 330 → (0 ≤ l1 ∧ l1 < 330) ∧ gE 203 2 [some (.ref 323), some (.int (l1 + 1))] [] (gup σ 325 l1.toNatClampNeg 0) K))) : gE 203 2 [some (.ref 323), some (.int l1)] [] σ K :=
  gw_run (cy := 203) (cuts := [2, 22, 42, 53, 66, 77, 94, 112, 135, 155, 169, 189, 207]) (inl := []) (pf := gpeb) gpeb_ok 400 (by decide) h
set_option maxRecDepth 20000 in
theorem c203_22 {σ : gS} {K : gK} {l1 : Int32} (h : ((0 : Int32) = 0 ∨ (0 : Int32) = 1) ∧ (NX (gup (gup (gup σ 323 11 0) 323 15 0) 323 9 (-2))) ∧ gE 203 42 [some (.ref 323), some (.int l1)] [] (rNx (gup (gup (gup σ 323 11 0) 323 15 0) 323 9 (-2))) K) : gE 203 22 [some (.ref 323), some (.int l1)] [] σ K :=
  gw_run (cy := 203) (cuts := [2, 22, 42, 53, 66, 77, 94, 112, 135, 155, 169, 189, 207]) (inl := []) (pf := gpeb) gpeb_ok 400 (by decide) h
set_option maxRecDepth 20000 in
theorem c203_42 {σ : gS} {K : gK} {l1 : Int32} (h : (NX σ) ∧ gE 203 53 [some (.ref 323), some (.int l1)] [] (rTk σ (bI (rIs σ (10984100 : Int32)))) K) : gE 203 42 [some (.ref 323), some (.int l1)] [] σ K :=
  gw_run (cy := 203) (cuts := [2, 22, 42, 53, 66, 77, 94, 112, 135, 155, 169, 189, 207]) (inl := []) (pf := gpeb) gpeb_ok 400 (by decide) h
set_option maxRecDepth 20000 in
theorem c203_53 {σ : gS} {K : gK} {l1 : Int32} (h : (NX σ) ∧ (0 ≤ (0 : Int32) ∧ (0 : Int32) < 330) ∧ gE 203 66 [some (.ref 323), some (.int l1)] [] (gup (rTn σ (2 : Int32) (10 : Int32)) 325 0 (rNm σ (2 : Int32) (10 : Int32))) K) : gE 203 53 [some (.ref 323), some (.int l1)] [] σ K :=
  gw_run (cy := 203) (cuts := [2, 22, 42, 53, 66, 77, 94, 112, 135, 155, 169, 189, 207]) (inl := []) (pf := gpeb) gpeb_ok 400 (by decide) h
set_option maxRecDepth 20000 in
theorem c203_66 {σ : gS} {K : gK} {l1 : Int32} (h : (NX σ) ∧ gE 203 77 [some (.ref 323), some (.int l1)] [] (rTk σ (bI (rIs σ (3379448 : Int32)))) K) : gE 203 66 [some (.ref 323), some (.int l1)] [] σ K :=
  gw_run (cy := 203) (cuts := [2, 22, 42, 53, 66, 77, 94, 112, 135, 155, 169, 189, 207]) (inl := []) (pf := gpeb) gpeb_ok 400 (by decide) h
set_option maxRecDepth 20000 in
theorem c203_77 {σ : gS} {K : gK} {l1 : Int32} (h : (0 ≤ (0 : Int32) ∧ (0 : Int32) < 330) ∧ (NX σ) ∧ (0 ≤ (1 : Int32) ∧ (1 : Int32) < 330) ∧ gE 203 94 [some (.ref 323), some (.int l1)] [] (gup (rTn σ (0 : Int32) (σ 325 0)) 325 1 (rNm σ (0 : Int32) (σ 325 0))) K) : gE 203 77 [some (.ref 323), some (.int l1)] [] σ K :=
  gw_run (cy := 203) (cuts := [2, 22, 42, 53, 66, 77, 94, 112, 135, 155, 169, 189, 207]) (inl := []) (pf := gpeb) gpeb_ok 400 (by decide) h
set_option maxRecDepth 20000 in
theorem c203_94 {σ : gS} {K : gK} {l1 : Int32} (h : ((¬ (σ 323 13) = 3 → (NX σ) ∧ gE 203 112 [some (.ref 323), some (.int l1)] [] (rTk σ (0 : Int32)) K) ∧ ((σ 323 13) = 3 → (NX σ) ∧ gE 203 112 [some (.ref 323), some (.int l1)] [] (rTk σ (1 : Int32)) K))) : gE 203 94 [some (.ref 323), some (.int l1)] [] σ K :=
  gw_run (cy := 203) (cuts := [2, 22, 42, 53, 66, 77, 94, 112, 135, 155, 169, 189, 207]) (inl := []) (pf := gpeb) gpeb_ok 400 (by decide) h
set_option maxRecDepth 20000 in
theorem c203_112 {σ : gS} {K : gK} {l1 : Int32} (h : ((¬ (σ 323 15) = 0 → gE 203 135 [some (.ref 323), some (.int l1)] [] σ K) ∧ ((σ 323 15) = 0 → (((bI (rIs σ (377669 : Int32))) = 0 → gE 203 135 [some (.ref 323), some (.int l1)] [] σ K) ∧ (¬ (bI (rIs σ (377669 : Int32))) = 0 → ((NX σ ∧ KV σ) ∧ σ 323 15 = 0 ∧ (0 ≤ σ 325 3 ∧ σ 325 3 ≤ 20)) ∧ gE 203 112 [some (.ref 323), some (.int l1)] [] (hRs σ) K))))) : gE 203 112 [some (.ref 323), some (.int l1)] [] σ K :=
  gw_run (cy := 203) (cuts := [2, 22, 42, 53, 66, 77, 94, 112, 135, 155, 169, 189, 207]) (inl := []) (pf := gpeb) gpeb_ok 400 (by decide) h
set_option maxRecDepth 20000 in
theorem c203_135 {σ : gS} {K : gK} {l1 : Int32} (h : ((¬ (σ 323 15) = 0 → gE 203 155 [some (.ref 323), some (.int l1)] [] σ K) ∧ ((σ 323 15) = 0 → (((σ 323 13) = 0 → gE 203 155 [some (.ref 323), some (.int l1)] [] σ K) ∧ (¬ (σ 323 13) = 0 → (NX σ) ∧ gE 203 155 [some (.ref 323), some (.int l1)] [] (rTk σ (0 : Int32)) K))))) : gE 203 135 [some (.ref 323), some (.int l1)] [] σ K :=
  gw_run (cy := 203) (cuts := [2, 22, 42, 53, 66, 77, 94, 112, 135, 155, 169, 189, 207]) (inl := []) (pf := gpeb) gpeb_ok 400 (by decide) h
set_option maxRecDepth 20000 in
theorem c203_155 {σ : gS} {K : gK} {l1 : Int32} (h : ((((gup σ 323 8 0) 323 15) = 0 → gE 203 169 [some (.ref 323), some (.int l1)] [] (gup σ 323 8 0) K) ∧ (¬ ((gup σ 323 8 0) 323 15) = 0 → K (some (.int (-1))) (gup σ 323 8 0)))) : gE 203 155 [some (.ref 323), some (.int l1)] [] σ K :=
  gw_run (cy := 203) (cuts := [2, 22, 42, 53, 66, 77, 94, 112, 135, 155, 169, 189, 207]) (inl := []) (pf := gpeb) gpeb_ok 400 (by decide) h
set_option maxRecDepth 20000 in
theorem c203_169 {σ : gS} {K : gK} {l1 : Int32} (h : ((0 ≤ (0 : Int32) ∧ (0 : Int32) ≤ iN (gln 325 - 330)) ∧ (0 ≤ (0 : Int32) ∧ (0 : Int32) ≤ iN (gln 324 - 330)) ∧ (325 = 324 → (0 : Int32).toNatClampNeg + 330 ≤ (0 : Int32).toNatClampNeg)) ∧ gE 203 189 [some (.ref 323), some (.int 0)] [] (gup (grow σ 324 (rla (σ 325) (σ 324) (0 : Int32).toNatClampNeg (0 : Int32).toNatClampNeg 330)) 323 6 0) K) : gE 203 169 [some (.ref 323), some (.int l1)] [] σ K :=
  gw_run (cy := 203) (cuts := [2, 22, 42, 53, 66, 77, 94, 112, 135, 155, 169, 189, 207]) (inl := []) (pf := gpeb) gpeb_ok 400 (by decide) h
set_option maxRecDepth 20000 in
theorem c203_189 {σ : gS} {K : gK} {l1 : Int32} (h : ((¬ l1 < 2 → gE 203 207 [some (.ref 323), some (.int l1)] [] σ K) ∧ (l1 < 2 → ((0 ≤ l1 ∧ l1 < 2) ∧ ((0 : Int32) = 0 ∨ (0 : Int32) = 1)) ∧ gE 203 189 [some (.ref 323), some (.int (l1 + 1))] [] (gup σ 329 l1.toNatClampNeg 0) K))) : gE 203 189 [some (.ref 323), some (.int l1)] [] σ K :=
  gw_run (cy := 203) (cuts := [2, 22, 42, 53, 66, 77, 94, 112, 135, 155, 169, 189, 207]) (inl := []) (pf := gpeb) gpeb_ok 400 (by decide) h
set_option maxRecDepth 20000 in
theorem c203_207 {σ : gS} {K : gK} {l1 : Int32} (h : (0 ≤ (3 : Int32) ∧ (3 : Int32) < 330) ∧ K (some (.int (σ 324 3))) σ) : gE 203 207 [some (.ref 323), some (.int l1)] [] σ K :=
  gw_run (cy := 203) (cuts := [2, 22, 42, 53, 66, 77, 94, 112, 135, 155, 169, 189, 207]) (inl := []) (pf := gpeb) gpeb_ok 400 (by decide) h
theorem rTk0_f {σ : gS} : ¬ rTk σ 0 323 15 = 0 := by
  rw [rTk_e]
  split
  · rw [if_pos rfl, gup_ne (by omega), gup_at]
    decide
  · assumption
theorem rTk_25 {σ : gS} {c : Int32} {j : Nat} : rTk σ c 325 j = σ 325 j := by rw [rTk_far (by decide)]
theorem qZ_ok {σ : gS} {n m : Nat} {x : Int32} (h : NX σ) (h3 : σ 325 3 = iN m) : NX (qZ σ n x) ∧ ((¬ qZ σ n x 323 15 = 0 ∧ qZ σ n x 325 3 = iN m) ∨ (KV (qZ σ n x) ∧ qZ σ n x 325 3 = iN (m + 1))) := by
  unfold qZ
  split
  · split
    · rename_i q
      refine ⟨NX_25 (rTk_NX h), Or.inr ⟨?_, ?_⟩⟩
      · have k : KV (rTk σ 1) := by
          rw [rTk_e, if_pos q, if_neg (by decide)]
          exact rNx_KV
        intro z
        rw [gup_ne (by omega)] at z ⊢
        exact k z
      · rw [gup_at, rTk_25, h3, iN_one]
    · rename_i q
      exact ⟨h, Or.inl ⟨q, h3⟩⟩
  · exact ⟨rTk_NX h, Or.inl ⟨rTk0_f, by rw [rTk_25, h3]⟩⟩
theorem hRs_ok {σ : gS} {n : Nat} (h : NX σ) (h3 : σ 325 3 = iN n) (hn : n ≤ 20) : NX (hRs σ) ∧ ((¬ hRs σ 323 15 = 0 ∧ hRs σ 325 3 = iN n) ∨ (n < 20 ∧ KV (hRs σ) ∧ hRs σ 325 3 = iN (n + 1))) := by
  rw [hRs_e]
  split
  · rename_i q
    have l : n < 20 := by
      rw [h3] at q
      exact (iN_lt (m := 20) (by omega) (by decide)).mp q
    obtain ⟨b, hb⟩ : ∃ b, rTk (rTk σ 1) (bI (q2c (rTk σ 1) (rTk σ 1 323 14))) = b := ⟨_, rfl⟩
    have b3 : b 325 3 = iN n := by rw [← hb, rTk_25, rTk_25, h3]
    have bN : NX b := by rw [← hb]; exact rTk_NX (rTk_NX h)
    unfold hRs1
    rw [hb]
    unfold hRs2
    split
    · obtain ⟨ρ, hρ⟩ : ∃ ρ, qMid (grow (rTk b 1) 325 (fNew (b 325) (rTk σ 1 323 14) (b 323 14))) (rTk σ 1 325 3).toNatClampNeg = ρ := ⟨_, rfl⟩
      have I := qMid_I (σ := grow (rTk b 1) 325 (fNew (b 325) (rTk σ 1 323 14) (b 323 14))) (n := (rTk σ 1 325 3).toNatClampNeg)
      rw [hρ] at I ⊢
      have r3 : ρ 325 3 = iN n := by
        rw [I.2.2 3 (by decide), grow_at, fNew_ne (by omega), b3]
      have rN : NX ρ := I.1 (NX_gr (rTk_NX bN))
      obtain ⟨z1, z2⟩ := qZ_ok (n := (rTk σ 1 325 3).toNatClampNeg) (x := rTk σ 1 323 14) rN r3
      exact ⟨z1, z2.elim Or.inl (fun z => Or.inr ⟨l, z.1, z.2⟩)⟩
    · exact ⟨rTk_NX bN, Or.inl ⟨rTk0_f, by rw [rTk_25, b3]⟩⟩
  · exact ⟨rTk_NX h, Or.inl ⟨rTk0_f, by rw [rTk_25, h3]⟩⟩
noncomputable def rLp : Nat → gS → gS
  | 0, σ => σ
  | d + 1, σ => if ¬ σ 323 15 = 0 ∨ ¬ rIs σ 377669 then σ else rLp d (hRs σ)
abbrev rHd (d : Nat) (σ : gS) : Prop := NX σ ∧ ((¬ σ 323 15 = 0 ∧ (0 ≤ σ 325 3 ∧ σ 325 3 ≤ 20)) ∨ (KV σ ∧ ∃ n, n ≤ 20 ∧ n + d = 21 ∧ σ 325 3 = iN n))
theorem rHd_st {d : Nat} {σ : gS} (h : rHd (d + 1) σ) (hf : σ 323 15 = 0) : ((NX σ ∧ KV σ) ∧ σ 323 15 = 0 ∧ (0 ≤ σ 325 3 ∧ σ 325 3 ≤ 20)) ∧ rHd d (hRs σ) := by
  obtain ⟨hN, h | ⟨hk, n, h1, h2, h3⟩⟩ := h
  · exact absurd hf h.1
  have b : 0 ≤ iN n ∧ iN n ≤ 20 := ⟨(iN_le (k := 0) (by decide) (by omega)).mpr (by omega), (iN_le (m := 20) (by omega) (by decide)).mpr h1⟩
  refine ⟨⟨⟨hN, hk⟩, hf, by rw [h3]; exact b⟩, ?_⟩
  obtain ⟨z1, z2⟩ := hRs_ok hN h3 h1
  refine ⟨z1, z2.elim (fun z => Or.inl ⟨z.1, by rw [z.2]; exact b⟩) (fun z => Or.inr ⟨z.2.1, n + 1, by omega, by omega, z.2.2⟩)⟩
theorem rHd_20 {d : Nat} {σ : gS} (h : rHd d σ) : NX σ ∧ (0 ≤ σ 325 3 ∧ σ 325 3 ≤ 20) := by
  obtain ⟨hN, h | ⟨hk, n, h1, h2, h3⟩⟩ := h
  · exact ⟨hN, h.2⟩
  · rw [h3]
    exact ⟨hN, (iN_le (k := 0) (by decide) (by omega)).mpr (by omega), (iN_le (m := 20) (by omega) (by decide)).mpr h1⟩
theorem rLp_ok : ∀ (d : Nat) (σ : gS), rHd d σ → NX (rLp d σ) ∧ (0 ≤ rLp d σ 325 3 ∧ rLp d σ 325 3 ≤ 20)
  | 0, σ, h => rHd_20 h
  | d + 1, σ, h => by
    unfold rLp
    split
    · exact rHd_20 h
    · rename_i q
      exact rLp_ok d _ (rHd_st h (Decidable.not_not.mp (fun z => q (Or.inl z)))).2
/-- the text must end there -/
noncomputable def hEd (τ : gS) : gS := if τ 323 15 = 0 ∧ ¬ τ 323 13 = 0 then rTk τ 0 else τ
noncomputable def hLo1 (ρ : gS) : gS := gup (gup (gup (grow (gup ρ 323 8 0) 324 (rla (ρ 325) (ρ 324) 0 0 330)) 323 6 0) 329 0 0) 329 1 0
noncomputable def hLo (ρ : gS) : gS := if ρ 323 15 = 0 then hLo1 ρ else gup ρ 323 8 0
noncomputable def aLo (ρ : gS) : Int32 := if ρ 323 15 = 0 then ρ 325 3 else -1
theorem ld_155 {ρ : gS} {K : gK} {x : Int32} (hK : K (some (.int (aLo ρ))) (hLo ρ)) : gE 203 155 [some (.ref 323), some (.int x)] [] ρ K := by
  unfold aLo hLo at hK
  have e : gup ρ 323 8 0 323 15 = ρ 323 15 := gup_ne (by omega)
  have e25 : gup ρ 323 8 0 325 = ρ 325 := funext fun j => gup_ne (by omega)
  have e24 : gup ρ 323 8 0 324 = ρ 324 := funext fun j => gup_ne (by omega)
  refine c203_155 ?_
  rw [e]
  refine ⟨fun q => c203_169 ⟨⟨⟨by decide, by decide +kernel⟩, ⟨by decide, by decide +kernel⟩, fun z => absurd z (by decide)⟩, ?_⟩, fun q => ?_⟩
  · rw [if_pos q, if_pos q] at hK
    have a0 : (0 : Int32).toNatClampNeg = 0 := rfl
    have a1 : ((0 : Int32) + 1).toNatClampNeg = 1 := by decide
    rw [e25, e24, a0]
    refine c203_189 ⟨fun z => absurd (by decide) z, fun _ => ⟨⟨by decide, Or.inl rfl⟩, c203_189 ⟨fun z => absurd (by decide) z, fun _ => ⟨⟨by decide, Or.inl rfl⟩, c203_189 ⟨fun _ => c203_207 ⟨by decide, ?_⟩, fun z => absurd z (by decide)⟩⟩⟩⟩⟩
    rw [a0, a1]
    unfold hLo1 at hK
    have v : gup (gup (gup (grow (gup ρ 323 8 0) 324 (rla (ρ 325) (ρ 324) 0 0 330)) 323 6 0) 329 0 0) 329 1 0 324 3 = ρ 325 3 := by
      rw [gup_ne (by omega), gup_ne (by omega), gup_ne (by omega), grow_at]
      unfold rla
      rw [if_pos (by omega)]
    rw [v]
    exact hK
  · rw [if_neg q, if_neg q] at hK
    exact hK
theorem ld_135 {τ : gS} {K : gK} {x : Int32} (h : NX τ) (hK : K (some (.int (aLo (hEd τ)))) (hLo (hEd τ))) : gE 203 135 [some (.ref 323), some (.int x)] [] τ K := by
  unfold hEd at hK
  refine c203_135 ⟨fun q => ld_155 ?_, fun q => ⟨fun q2 => ld_155 ?_, fun q2 => ⟨h, ld_155 ?_⟩⟩⟩
  · rw [if_neg (fun z => q z.1)] at hK; exact hK
  · rw [if_neg (fun z => z.2 q2)] at hK; exact hK
  · rw [if_pos ⟨q, q2⟩] at hK; exact hK
theorem ld_lp {K : gK} {x : Int32} : ∀ (d : Nat) (σ : gS), rHd d σ → K (some (.int (aLo (hEd (rLp d σ))))) (hLo (hEd (rLp d σ))) → gE 203 112 [some (.ref 323), some (.int x)] [] σ K
  | 0, σ, h, hK => by
    obtain ⟨hN, h | ⟨hk, n, h1, h2, h3⟩⟩ := h
    · exact c203_112 ⟨fun _ => ld_135 hN hK, fun q => absurd q h.1⟩
    · omega
  | d + 1, σ, h, hK => by
    unfold rLp at hK
    have out : (¬ σ 323 15 = 0 ∨ ¬ rIs σ 377669) → gE 203 135 [some (.ref 323), some (.int x)] [] σ K := fun q => by
      rw [if_pos q] at hK
      exact ld_135 h.1 hK
    refine c203_112 ⟨fun q => out (Or.inl q), fun q => ⟨fun q2 => out (Or.inr (bI_0.mp q2)), fun q2 => ?_⟩⟩
    have q2 := Decidable.not_not.mp (fun z => q2 (bI_0.mpr z))
    rw [if_neg (fun z => z.elim (fun z => z q) (fun z => z q2))] at hK
    obtain ⟨a, b⟩ := rHd_st h q
    exact ⟨a, ld_lp d _ b hK⟩
/-- the draft is emptied -/
noncomputable def dZk (σ : gS) (k : Nat) : gS := grow σ 325 (fun j => if j < k then 0 else σ 325 j)
theorem dZk_s (σ : gS) (k : Nat) : gup (dZk σ k) 325 k 0 = dZk σ (k + 1) := by
  funext q j
  unfold gup dZk grow
  grind
noncomputable def dS1 (σ : gS) : gS := rNx (gup (gup (gup (dZk σ 330) 323 11 0) 323 15 0) 323 9 (-2))
noncomputable def dS2 (σ : gS) : gS := rTk σ (bI (rIs σ 10984100))
noncomputable def dS3 (σ : gS) : gS := gup (rTn σ 2 10) 325 0 (rNm σ 2 10)
noncomputable def dS4 (σ : gS) : gS := rTk σ (bI (rIs σ 3379448))
noncomputable def dS5 (σ : gS) : gS := gup (rTn σ 0 (σ 325 0)) 325 1 (rNm σ 0 (σ 325 0))
noncomputable def dS6 (σ : gS) : gS := rTk σ (bI (σ 323 13 = 3))
noncomputable def dSet0 (σ : gS) : gS := dS6 (dS5 (dS4 (dS3 (dS2 (dS1 σ)))))
theorem dSet_x : ∃ f : gS → gS, ∀ σ, f σ = hEd (rLp 21 (dSet0 σ)) := ⟨fun σ => hEd (rLp 21 (dSet0 σ)), fun _ => rfl⟩
noncomputable def dSet : gS → gS := Classical.choose dSet_x
theorem dSet_e : ∀ σ, dSet σ = hEd (rLp 21 (dSet0 σ)) := Classical.choose_spec dSet_x
theorem hLoad_x : ∃ f : gS → gS, ∀ σ, f σ = hLo (dSet σ) := ⟨fun σ => hLo (dSet σ), fun _ => rfl⟩
noncomputable def hLoad : gS → gS := Classical.choose hLoad_x
theorem hLoad_e : ∀ σ, hLoad σ = hLo (dSet σ) := Classical.choose_spec hLoad_x
theorem dS1_NX0 {σ : gS} (h : RT σ) : NX (gup (gup (gup (dZk σ 330) 323 11 0) 323 15 0) 323 9 (-2)) := by
  have e8 : gup (gup (gup (dZk σ 330) 323 11 0) 323 15 0) 323 9 (-2) 323 8 = σ 323 8 := by
    rw [gup_ne (by omega), gup_ne (by omega), gup_ne (by omega)]
    unfold dZk
    rw [grow_ne (by decide)]
  have e11 : gup (gup (gup (dZk σ 330) 323 11 0) 323 15 0) 323 9 (-2) 323 11 = 0 := by
    rw [gup_ne (by omega), gup_ne (by omega), gup_at]
  refine ⟨?_, ?_⟩
  · show 0 ≤ gup (gup (gup (dZk σ 330) 323 11 0) 323 15 0) 323 9 (-2) 323 8 ∧ gup (gup (gup (dZk σ 330) 323 11 0) 323 15 0) 323 9 (-2) 323 8 ≤ 1000
    rw [e8]
    exact h
  · rw [e8, e11]
    exact ⟨by decide, h.1⟩
theorem dS1_NX {σ : gS} (h : RT σ) : NX (dS1 σ) := rNx_NX (dS1_NX0 h)
theorem dS_3 {σ : gS} : dSet0 σ 325 3 = 0 := by
  unfold dSet0 dS6 dS5 dS4 dS3 dS2 dS1 rTn
  rw [rTk_25, gup_ne (by omega), rTk_25, rTk_25, gup_ne (by omega), rTk_25, rTk_25, rNx_far (by decide), gup_ne (by omega), gup_ne (by omega), gup_ne (by omega)]
  unfold dZk
  rw [grow_at, if_pos (by decide)]
theorem dSet0_NX {σ : gS} (h : RT σ) : NX (dSet0 σ) := rTk_NX (NX_25 (rTn_NX (rTk_NX (NX_25 (rTn_NX (rTk_NX (dS1_NX h)))))))
theorem dS1_KV {σ : gS} : KV (dS1 σ) := rNx_KV
theorem KV_25 {σ : gS} {j : Nat} {x : Int32} (h : KV σ) : KV (gup σ 325 j x) := by
  intro z
  rw [gup_ne (by omega)] at z ⊢
  exact h z
theorem dSet0_KV {σ : gS} : KV (dSet0 σ) := rTk_KV (KV_25 (rTk_KV (rTk_KV (KV_25 (rTk_KV (rTk_KV dS1_KV))))))
theorem dSet0_hd {σ : gS} (h : RT σ) : rHd 21 (dSet0 σ) := ⟨dSet0_NX h, Or.inr ⟨dSet0_KV, 0, by decide, by decide, dS_3⟩⟩
theorem s203 {σ : gS} {K : gK} (hc : RT σ) (hK : K (some (.int (aLo (dSet σ)))) (hLoad σ)) : gE 203 0 [some (.ref 323), none] [] σ K := by
  rw [hLoad_e, dSet_e] at hK
  have k1 := dS1_NX hc
  have k2 : NX (dS2 (dS1 σ)) := rTk_NX k1
  have k3 : NX (dS3 (dS2 (dS1 σ))) := NX_25 (rTn_NX k2)
  have k4 : NX (dS4 (dS3 (dS2 (dS1 σ)))) := rTk_NX k3
  have k5 : NX (dS5 (dS4 (dS3 (dS2 (dS1 σ))))) := NX_25 (rTn_NX k4)
  have six : ∀ x, gE 203 112 [some (.ref 323), some (.int x)] [] (dS6 (dS5 (dS4 (dS3 (dS2 (dS1 σ)))))) K := fun x => ld_lp 21 _ (dSet0_hd hc) hK
  have tail : ∀ x, gE 203 22 [some (.ref 323), some (.int x)] [] (dZk σ 330) K := by
    intro x
    refine c203_22 ⟨Or.inl rfl, dS1_NX0 hc, c203_42 ⟨k1, c203_53 ⟨k2, by decide, c203_66 ⟨k3, c203_77 ⟨by decide, k4, by decide, c203_94 ⟨fun q => ⟨k5, ?_⟩, fun q => ⟨k5, ?_⟩⟩⟩⟩⟩⟩⟩
    · have e : dS6 (dS5 (dS4 (dS3 (dS2 (dS1 σ))))) = rTk (dS5 (dS4 (dS3 (dS2 (dS1 σ))))) 0 := by
        exact congrArg (rTk _) (bI_n q)
      have := six x
      rw [e] at this
      exact this
    · have e : dS6 (dS5 (dS4 (dS3 (dS2 (dS1 σ))))) = rTk (dS5 (dS4 (dS3 (dS2 (dS1 σ))))) 1 := by
        exact congrArg (rTk _) (bI_y q)
      have := six x
      rw [e] at this
      exact this
  have key : ∀ d k, k + d = 330 → gE 203 2 [some (.ref 323), some (.int (iN k))] [] (dZk σ k) K := by
    intro d
    induction d with
    | zero =>
      intro k hk
      have : k = 330 := by omega
      subst this
      exact c203_2 ⟨fun _ => tail _, fun q => absurd q (by decide)⟩
    | succ d ih =>
      intro k hk
      refine c203_2 ⟨fun q => absurd ((iN_lt (m := 330) (by omega) (by decide)).mpr (by omega)) q, fun _ => ⟨i330 (by omega), ?_⟩⟩
      rw [iN_nat (by omega), dZk_s, iN_one]
      exact ih (k + 1) (by omega)
  have e0 : dZk σ 0 = σ := by
    funext q j
    unfold dZk grow
    split
    · rename_i e
      show (if j < 0 then 0 else σ 325 j) = σ q j
      rw [if_neg (by omega), e]
    · rfl
  have := key 330 0 (by omega)
  rw [e0] at this
  exact w203 this
noncomputable def f203 : gD := fun Lv σ => match Lv with
  | [some (.ref q0), none] => cond (Nat.beq q0 323) (some (some (RT σ), some (.int (aLo (dSet σ))), hLoad σ)) none
  | _ => none
theorem ok203 : gFok 203 f203 := by
  intro Lv σ q h hc K hK
  unfold f203 at h
  split at h
  · rename_i q0
    obtain ⟨hb, h⟩ := c_no h
    have hb0 := hb
    have e0 := b_eq hb0
    subst e0
    cases h
    exact s203 (hc _ rfl) hK
  · cases h
noncomputable def gpec_l : List (Nat × gD) := (203, f203) :: gpeb_l
noncomputable def gpec : gP := gpl0 gpec_l
theorem gpec_ok : gPok gpec := gpl0_cons ok203 (gpeb_ok)
end
section
-- text 94
/-! RELATION: tokens -/
theorem skp_cg {P Q : Nat → Bool} : ∀ {d s : Nat}, (∀ i, s ≤ i → i < s + d → P i = Q i) → skp P d s = skp Q d s
  | 0, _, _ => rfl
  | d + 1, s, h => by
    have ih := skp_cg (P := P) (Q := Q) (d := d) (s := s + 1) (fun i a b => h i (by omega) (by omega))
    rw [skp, skp, h s (by omega) (by omega), ih]
theorem skp_out {P : Nat → Bool} : ∀ {d s : Nat}, skp P d s < s + d → P (skp P d s) = false
  | 0, s, h => by
    have h : s < s + 0 := h
    omega
  | d + 1, s, h => by
    unfold skp at h ⊢
    by_cases q : P s = true
    · rw [if_pos q] at h ⊢
      exact skp_out (d := d) (s := s + 1) (by omega)
    · rw [if_neg q]
      exact Bool.eq_false_iff.mpr q
theorem tkS_cg {T U : gW} {L n : Nat} (h : ∀ i, i < L → T i = U i) (hn : n ≤ L) : tkS T L n = tkS U L n := by
  unfold tkS
  exact skp_cg (fun i a b => by rw [h i (by omega)])
theorem rnE_cg {c : Int32} {T U : gW} {L S : Nat} (h : ∀ i, i < L → T i = U i) (hS : S ≤ L) : rnE c T L S = rnE c U L S := by
  unfold rnE
  exact skp_cg (fun i a b => by rw [h i (by omega)])
theorem wvN_cg {T U : gW} {L S : Nat} (h : ∀ i, i < L → T i = U i) : ∀ {k : Nat}, S + k ≤ L → wvN T S k = wvN U S k
  | 0, _ => rfl
  | k + 1, hk => by
    show 27 * wvN T S k + T (S + k) - 96 = 27 * wvN U S k + U (S + k) - 96
    rw [wvN_cg h (k := k) (by omega), h (S + k) (by omega)]
theorem nuN_cg {T U : gW} {L S : Nat} (h : ∀ i, i < L → T i = U i) : ∀ {k : Nat}, S + k ≤ L → nuN T S k = nuN U S k
  | 0, _ => rfl
  | k + 1, hk => by
    show 10 * nuN T S k + T (S + k) - 48 = 10 * nuN U S k + U (S + k) - 48
    rw [nuN_cg h (k := k) (by omega), h (S + k) (by omega)]
theorem rPl_cg {T U : gW} {L S : Nat} (h : ∀ i, i < L → T i = U i) (hS : S ≤ L) : rPl T L S = rPl U L S := by
  unfold rPl
  by_cases q : S = L
  · rw [if_pos q, if_pos q]
  · rw [h S (by omega), rnE_cg h hS, rnE_cg h hS]
theorem rVa_cg {T U : gW} {L S : Nat} (h : ∀ i, i < L → T i = U i) (hS : S ≤ L) : rVa T L S = rVa U L S := by
  unfold rVa
  by_cases q : S = L
  · rw [if_pos q, if_pos q]
  · have b := rPl_b (T := U) hS
    rw [h S (by omega), rPl_cg h hS, wvN_cg h (by omega), nuN_cg h (by omega)]
theorem rKi_cg {T U : gW} {L S : Nat} (h : ∀ i, i < L → T i = U i) (hS : S ≤ L) : rKi T L S = rKi U L S := by
  unfold rKi
  by_cases q : S = L
  · rw [if_pos q, if_pos q]
  · rw [h S (by omega), rPl_cg h hS]
theorem tk_nw {T : gW} {L n : Nat} (hn : n ≤ L) (h : tkS T L n < L) : ¬ cKd (T (tkS T L n)) = 1 := by
  have := skp_out (P := fun i => decide (cKd (T i) = 1)) (d := L - n) (s := n) (by unfold tkS at h; omega)
  exact of_decide_eq_false this
theorem tk_k {T : gW} {L n : Nat} (h : tkS T L n < L) : tkK T L n = cKd (T (tkS T L n)) := by
  unfold tkK cBy
  rw [if_pos h]
theorem tk_end {T : gW} {L n : Nat} (h : tkS T L n = L) : tkK T L n = 0 := by
  unfold tkK cBy
  rw [if_neg (by omega)]
  decide
theorem rnE_1 {c : Int32} {T : gW} {L S : Nat} (h : S < L) (hc : cKd (T S) = c) : rnE c T L S = skp (fun i => decide (cKd (T i) = c)) (L - (S + 1)) (S + 1) := by
  unfold rnE
  rw [show L - S = (L - (S + 1)) + 1 by omega, skp, if_pos (decide_eq_true hc)]
theorem tk_e {T : gW} {L n : Nat} (h : tkS T L n < L) : tkE T L n = rPl T L (tkS T L n) := by
  obtain ⟨S, hS⟩ : ∃ S, tkS T L n = S := ⟨_, rfl⟩
  have hk := tk_k h
  unfold tkE rPl
  rw [hS] at h hk ⊢
  rw [if_neg (show ¬ S = L by omega), hk]
  by_cases q : isSm (T S)
  · have q2 := cKd_2.mpr q
    rw [if_pos (Or.inl q2), if_pos q, rnE_1 h q2, q2]
  · have n2 : ¬ cKd (T S) = 2 := fun z => q (cKd_2.mp z)
    rw [if_neg q]
    by_cases q3 : isDg (T S)
    · have q4 := cKd_3.mpr q3
      rw [if_pos (Or.inr q4), if_pos q3, rnE_1 h q4, q4]
    · rw [if_neg (fun z => z.elim n2 (fun z => q3 (cKd_3.mp z))), if_neg q3]
/-- the end of the text -/
theorem ki_0 {T : gW} {L n : Nat} (hn : n ≤ L) (hb : ∀ i, i < L → ¬ T i = -1) : tkK T L n = 0 ↔ rKi T L (tkS T L n) = 0 := by
  have b := tkS_b (T := T) hn
  by_cases q : tkS T L n = L
  · rw [tk_end q]
    unfold rKi
    rw [if_pos q]
  · have h : tkS T L n < L := by omega
    rw [tk_k h]
    have := hb _ h
    obtain ⟨S, hS⟩ : ∃ S, tkS T L n = S := ⟨_, rfl⟩
    rw [hS] at this q ⊢
    unfold cKd rKi
    rw [if_neg q]
    grind
theorem ki_s {T : gW} {L S : Nat} : (S ≤ L) → ((cBy T L S = 59 ↔ rKi T L S = 3) ∧ (cBy T L S = 43 ↔ rKi T L S = 4) ∧ (cBy T L S = 45 ↔ rKi T L S = 5)) := by
  intro h
  unfold cBy rKi
  by_cases q : S = L
  · rw [if_pos q, if_neg (by omega)]
    decide
  · rw [if_neg q, if_pos (by omega)]
    obtain ⟨x, hx⟩ : ∃ x, T S = x := ⟨_, rfl⟩
    rw [hx]
    by_cases q1 : isSm x
    · rw [if_pos q1]
      unfold isSm at q1
      split <;> grind
    · rw [if_neg q1]
      by_cases q2 : isDg x
      · rw [if_pos q2]
        unfold isDg at q2
        split <;> grind
      · rw [if_neg q2]
        grind
noncomputable def PC (T : gW) (L : Nat) (σ τ : gS) : Prop := σ 3 = T ∧ σ 2 1 = iN L ∧ τ 323 8 = iN L ∧ (∀ i, i < L → τ 330 i = T i) ∧ L ≤ 1000 ∧ ∀ i, i < L → ¬ T i = -1
/-- both stand at the same token -/
noncomputable def PT (T : gW) (L n : Nat) (σ τ : gS) : Prop := n ≤ L ∧ (σ 1 2 = iN (tkS T L n) ∧ σ 1 3 = iN (tkE T L n) ∧ σ 1 4 = tkK T L n) ∧ τ 323 12 = iN (tkS T L n) ∧ τ 323 11 = iN (rPl T L (tkS T L n)) ∧ τ 323 13 = rKi T L (tkS T L n) ∧ τ 323 14 = rVa T L (tkS T L n)
/-- at the same token, or wrong both at the same place -/
noncomputable def PQ (T : gW) (L : Nat) (σ τ : gS) : Prop := PC T L σ τ ∧ ((σ 1 5 = 0 ∧ (τ 323 15 = 0 ∧ τ 323 9 = -2) ∧ ∃ n, PT T L n σ τ) ∨ (¬ σ 1 5 = 0 ∧ ¬ τ 323 15 = 0 ∧ τ 323 9 = σ 1 2))
theorem PQ_cg {T : gW} {L : Nat} {σ τ σ' τ' : gS} (h : PQ T L σ τ) (h1 : σ' 1 = σ 1) (h2 : σ' 2 = σ 2) (h3 : σ' 3 = σ 3) (h4 : τ' 323 = τ 323) (h5 : τ' 330 = τ 330) : PQ T L σ' τ' := by
  unfold PQ PC PT at *
  rw [h1, h2, h3, h4, h5]
  exact h
/-- the next token -/
theorem PT_nx {T : gW} {L n : Nat} {σ τ : gS} (hc : PC T L σ τ) (h : PT T L n σ τ) (hk : ¬ tkK T L n = 0) : PT T L (tkE T L n) (cTok σ) (rNx τ) := by
  obtain ⟨c1, c2, c3, c4, c5, c6⟩ := hc
  obtain ⟨hn, ⟨a1, a2, a3⟩, b1, b2, b3, b4⟩ := h
  have bS := tkS_b (T := T) hn
  have hl : tkS T L n < L := by
    have : ¬ tkS T L n = L := fun z => hk (tk_end z)
    omega
  have eE := tk_e hl
  have lE := tkE_k hn hk
  obtain ⟨E, hE⟩ : ∃ E, tkE T L n = E := ⟨_, rfl⟩
  rw [hE] at a2 eE lE ⊢
  rw [← eE] at b2
  have nL : (σ 2 1).toNatClampNeg = L := by rw [c2, iN_nat (by omega)]
  have nE : (σ 1 3).toNatClampNeg = E := by rw [a2, iN_nat (by omega)]
  have mL : (τ 323 8).toNatClampNeg = L := by rw [c3, iN_nat (by omega)]
  have mE : (τ 323 11).toNatClampNeg = E := by rw [b2, iN_nat (by omega)]
  obtain ⟨t1, t2, t3⟩ := cTok_1 nL nE
  rw [c1] at t1 t2 t3
  have eS : rSt τ = tkS T L E := by
    unfold rSt
    rw [mL, mE]
    exact tkS_cg c4 lE
  have bE := tkS_b (T := T) lE
  have eP := rPl_cg c4 bE.2
  have eV := rVa_cg c4 bE.2
  have eK := rKi_cg c4 bE.2
  refine ⟨lE, ⟨t1, t2, t3⟩, ?_⟩
  rw [rNx_e, mL, eS, eP, eV, eK]
  exact ⟨rfl, rfl, rfl, rfl⟩
theorem PC_nx {T : gW} {L : Nat} {σ τ : gS} (hc : PC T L σ τ) : PC T L (cTok σ) (rNx τ) := by
  obtain ⟨c1, c2, c3, c4, c5, c6⟩ := hc
  unfold PC
  rw [cTok_far (q := 3) (by decide), cTok_far (q := 2) (by decide), rNx_3 (by omega), rNx_far (by decide)]
  exact ⟨c1, c2, c3, c4, c5, c6⟩
theorem cTok_5 {σ : gS} : cTok σ 1 5 = σ 1 5 := cTok_ne (by omega)
/-- what must stand: both go on, or both are wrong -/
theorem PQ_pass {T : gW} {L : Nat} {σ τ : gS} {P Q : Prop} [Decidable P] [Decidable Q] (h : PQ T L σ τ) (hpq : σ 1 5 = 0 → ∀ n, PT T L n σ τ → (P ↔ Q)) (hk : σ 1 5 = 0 → P → ¬ σ 1 4 = 0) : PQ T L (cPs σ (bI P)) (rTk τ (bI Q)) := by
  obtain ⟨hc, ⟨w, ⟨f, f9⟩, n, ht⟩ | ⟨w, f, he⟩⟩ := h
  · have pq := hpq w n ht
    by_cases q : P
    · have q2 := pq.mp q
      rw [bI_y q, bI_y q2]
      have e : cPs σ 1 = cTok σ := by unfold cPs; rw [if_pos ⟨w, by decide⟩]
      rw [e, rTk_e, if_pos f, if_neg (by decide)]
      refine ⟨PC_nx hc, Or.inl ⟨by rw [cTok_5]; exact w, ⟨by rw [rNx_3 (by omega)]; exact f, by rw [rNx_3 (by omega)]; exact f9⟩, _, PT_nx hc ht ?_⟩⟩
      rw [← ht.2.1.2.2]
      exact hk w q
    · have q2 : ¬ Q := fun z => q (pq.mpr z)
      rw [bI_n q, bI_n q2]
      have e : cPs σ 0 = gup σ 1 5 1 := by unfold cPs; rw [if_neg (fun z => z.2 rfl)]
      rw [e, rTk_e, if_pos f, if_pos rfl]
      refine ⟨?_, Or.inr ⟨by rw [gup_at]; decide, by rw [gup_ne (by omega), gup_at]; decide, ?_⟩⟩
      · obtain ⟨c1, c2, c3, c4, c5, c6⟩ := hc
        refine ⟨?_, ?_, ?_, ?_, c5, c6⟩
        · funext i; rw [gup_ne (by omega), c1]
        · rw [gup_ne (by omega), c2]
        · rw [gup_ne (by omega), gup_ne (by omega), c3]
        · intro i hi; rw [gup_ne (by omega), gup_ne (by omega), c4 i hi]
      · rw [gup_at, gup_ne (by omega), ht.2.1.1]
        exact ht.2.2.1
  · have e : cPs σ (bI P) = gup σ 1 5 1 := by unfold cPs; rw [if_neg (fun z => w z.1)]
    rw [e, rTk_f f]
    refine ⟨?_, Or.inr ⟨by rw [gup_at]; decide, f, by rw [gup_ne (by omega)]; exact he⟩⟩
    obtain ⟨c1, c2, c3, c4, c5, c6⟩ := hc
    refine ⟨?_, ?_, c3, c4, c5, c6⟩
    · funext i; rw [gup_ne (by omega), c1]
    · rw [gup_ne (by omega), c2]
end
section
-- text 95
/-! RELATION: numbers, words, names, signs at a token -/
theorem PT_S {T : gW} {L n : Nat} {σ τ : gS} (hc : PC T L σ τ) (h : PT T L n σ τ) : (σ 1 2).toNatClampNeg = tkS T L n ∧ (σ 1 3).toNatClampNeg = tkE T L n ∧ (σ 2 1).toNatClampNeg = L ∧ tkS T L n ≤ L ∧ tkS T L n < tkE T L n ∧ tkE T L n ≤ L + 1 ∧ σ 1 3 - σ 1 2 = iN (tkE T L n - tkS T L n) := by
  obtain ⟨c1, c2, c3, c4, c5, c6⟩ := hc
  obtain ⟨hn, ⟨a1, a2, a3⟩, b1, b2, b3, b4⟩ := h
  have bS := tkS_b (T := T) hn
  have bE := tkE_b (T := T) hn
  refine ⟨by rw [a1, iN_nat (by omega)], by rw [a2, iN_nat (by omega)], by rw [c2, iN_nat (by omega)], bS.2, bE.1, bE.2, ?_⟩
  rw [a1, a2, iN_sub (by omega) (by omega)]
theorem PT_end {T : gW} {L n : Nat} {σ τ : gS} (hc : PC T L σ τ) (h : PT T L n σ τ) : σ 1 4 = 0 ↔ τ 323 13 = 0 := by
  rw [h.2.1.2.2, h.2.2.2.2.1]
  exact ki_0 h.1 hc.2.2.2.2.2
theorem PT_sg {T : gW} {L n : Nat} {σ τ : gS} (hc : PC T L σ τ) (h : PT T L n σ τ) : (cB0 σ = 59 ↔ τ 323 13 = 3) ∧ (cB0 σ = 43 ↔ τ 323 13 = 4) ∧ (cB0 σ = 45 ↔ τ 323 13 = 5) := by
  obtain ⟨s1, s2, s3, s4, s5, s6, s7⟩ := PT_S hc h
  rw [h.2.2.2.2.1]
  unfold cB0
  rw [s1, s3, hc.1]
  exact ki_s s4
/-- a number -/
theorem PT_nb {T : gW} {L n : Nat} {σ τ : gS} (hc : PC T L σ τ) (h : PT T L n σ τ) : (τ 323 13 = 2 ∧ τ 323 14 = cNu σ) ∨ (¬ τ 323 13 = 2 ∧ cNu σ = -1) := by
  obtain ⟨s1, s2, s3, s4, s5, s6, s7⟩ := PT_S hc h
  rw [h.2.2.2.2.1, h.2.2.2.2.2]
  unfold cNu
  rw [s7, s1, s2, hc.1, h.2.1.2.2]
  have hn := h.1
  have c5 := hc.2.2.2.2.1
  obtain ⟨S, hS⟩ : ∃ S, tkS T L n = S := ⟨_, rfl⟩
  by_cases q : S = L
  · rw [tk_end (by omega), hS]
    right
    unfold rKi
    rw [if_pos q]
    exact ⟨by decide, if_neg (fun z => absurd z.1 (by decide))⟩
  · have hl : tkS T L n < L := by omega
    have eE := tk_e hl
    rw [tk_k hl]
    rw [hS] at eE hl s4 s5 ⊢
    obtain ⟨E, hE⟩ : ∃ E, tkE T L n = E := ⟨_, rfl⟩
    rw [hE] at eE s5 s6 ⊢
    unfold rKi rVa
    rw [if_neg q, if_neg q, ← eE]
    have e2 : 2 < iN (E - S) ↔ 2 < E - S := iN_lt (k := 2) (by decide) (by omega)
    by_cases q1 : isSm (T S)
    · rw [if_pos q1, cKd_2.mpr q1]
      right
      refine ⟨?_, if_neg (fun z => absurd z.1 (by decide))⟩
      split <;> decide
    · rw [if_neg q1, if_neg q1]
      by_cases q2 : isDg (T S)
      · rw [if_pos q2, if_pos q2, cKd_3.mpr q2]
        by_cases q3 : 2 < E - S
        · right
          rw [if_pos q3]
          exact ⟨by decide, if_neg (fun z => z.2 (e2.mpr q3))⟩
        · left
          rw [if_neg q3, if_pos ⟨rfl, fun z => q3 (e2.mp z)⟩, show min (E - S) 2 = E - S by omega]
          exact ⟨rfl, rfl⟩
      · rw [if_neg q2]
        right
        refine ⟨?_, if_neg (fun z => q2 (cKd_3.mp z.1))⟩
        split
        · decide
        · split
          · decide
          · split <;> decide
theorem PT_ok {T : gW} {L n : Nat} {σ τ : gS} {a b : Int32} (hc : PC T L σ τ) (h : PT T L n σ τ) (ha : 0 ≤ a) : ((a ≤ cNu σ ∧ cNu σ ≤ b) ↔ rOk τ a b) ∧ (rOk τ a b → τ 323 14 = cNu σ) := by
  rcases PT_nb hc h with ⟨h1, h2⟩ | ⟨h1, h2⟩
  · refine ⟨?_, fun _ => h2⟩
    unfold rOk
    rw [h2]
    exact ⟨fun z => ⟨h1, z⟩, fun z => z.2⟩
  · refine ⟨⟨fun z => ?_, fun z => absurd z.1 h1⟩, fun z => absurd z.1 h1⟩
    rw [h2] at z
    exact absurd (Int32.le_trans ha z.1) (by decide)
/-- a word, letter by letter -/
theorem PT_w {T : gW} {L n : Nat} {σ τ : gS} (hc : PC T L σ τ) (h : PT T L n σ τ) : (σ 1 4 = 2 ∧ smA (fun k => T (tkS T L n + k)) (tkE T L n - tkS T L n) ∧ tkE T L n ≤ L ∧ (tkE T L n - tkS T L n ≤ 6 → τ 323 13 = 1 ∧ τ 323 14 = wvN T (tkS T L n) (tkE T L n - tkS T L n)) ∧ (¬ tkE T L n - tkS T L n ≤ 6 → ¬ τ 323 13 = 1)) ∨ (¬ σ 1 4 = 2 ∧ ¬ τ 323 13 = 1) := by
  obtain ⟨s1, s2, s3, s4, s5, s6, s7⟩ := PT_S hc h
  have hn := h.1
  rw [h.2.1.2.2, h.2.2.2.2.1, h.2.2.2.2.2]
  have kE : ¬ tkK T L n = 0 → tkE T L n ≤ L := fun z => tkE_k hn z
  obtain ⟨S, hS⟩ : ∃ S, tkS T L n = S := ⟨_, rfl⟩
  by_cases q : S = L
  · rw [tk_end (by omega), hS]
    right
    unfold rKi
    rw [if_pos q]
    decide
  · have hl : tkS T L n < L := by omega
    have eE := tk_e hl
    have ek := tk_k hl
    rw [hS] at eE hl s4 s5 ek ⊢
    obtain ⟨E, hE⟩ : ∃ E, tkE T L n = E := ⟨_, rfl⟩
    rw [hE] at eE s5 s6 kE ⊢
    rw [ek] at kE ⊢
    have rP : rPl T L S = if isSm (T S) then rnE 2 T L S else if isDg (T S) then rnE 3 T L S else S + 1 := if_neg q
    unfold rKi rVa
    rw [if_neg q, if_neg q, ← eE]
    by_cases q1 : isSm (T S)
    · rw [if_pos q1, if_pos q1, cKd_2.mpr q1]
      rw [cKd_2.mpr q1] at kE
      left
      rw [if_pos q1] at rP
      refine ⟨rfl, fun j hj => cKd_2.mp (rnE_in (c := 2) (L := L) j (by omega)), kE (by decide), fun z => ?_, fun z => ?_⟩
      · rw [if_neg (by omega), show min (E - S) 6 = E - S by omega]
        exact ⟨rfl, rfl⟩
      · rw [if_pos (by omega)]
        decide
    · rw [if_neg q1]
      right
      refine ⟨fun z => q1 (cKd_2.mp z), ?_⟩
      split
      · split <;> decide
      · split
        · decide
        · split
          · decide
          · split <;> decide
theorem PT_wd {T : gW} {L n : Nat} {σ τ : gS} {p v : Nat} {C : List Nat} (hc : PC T L σ τ) (h : PT T L n σ τ) (hB : jW p = C.map (fun x => iN (96 + x))) (hC : ∀ x, x ∈ C → x ≤ 26) (hC2 : ∀ i, i < C.length → 1 ≤ C.getD i 0 ∧ C.getD i 0 ≤ 26) (h6 : C.length ≤ 6) (hv : nRd (fun i => C.getD i 0) C.length = v) (lv : v < 2147483648) : cWd σ (jW p) ↔ rIs τ (iN v) := by
  obtain ⟨s1, s2, s3, s4, s5, s6, s7⟩ := PT_S hc h
  have c5 := hc.2.2.2.2.1
  have lB : (jW p).length = C.length := by rw [hB, List.length_map]
  unfold cWd rIs
  rw [s7, s1, s3, hc.1]
  rcases PT_w hc h with ⟨h1, h2, h3, h4, h5⟩ | ⟨h1, h2⟩
  · obtain ⟨S, hS⟩ : ∃ S, tkS T L n = S := ⟨_, rfl⟩
    obtain ⟨E, hE⟩ : ∃ E, tkE T L n = E := ⟨_, rfl⟩
    rw [hS, hE] at h2 h4 h5 s5
    rw [hE] at h3 s6
    rw [hS, hE]
    have eB : (iN (E - S) = iN (jW p).length ∧ ∀ i, i < (jW p).length → cBy T L (S + i) = (jW p).getD i 0) ↔ (E - S = (jW p).length ∧ ∀ i, i < E - S → T (S + i) = (jW p).getD i 0) := by
      rw [iN_inj (by omega) (by omega)]
      refine and_congr_right (fun e => ?_)
      rw [e]
      refine forall_congr' (fun i => forall_congr' (fun hi => ?_))
      unfold cBy
      rw [if_pos (by omega)]
    rw [eB, wd_c h2 hB hC, wd_v (d := dgt (fun k => T (S + k))) (fun i hi => (dgt_of (h2 i hi)).2) hC2 hv]
    by_cases q : E - S ≤ 6
    · obtain ⟨w1, w2⟩ := wvN_e (T := T) (S := S) q h2
      have l6 : (27 : Nat) ^ 6 = 387420489 := by decide
      rw [(h4 q).1, (h4 q).2, w1, h1, iN_inj (by omega) lv]
      exact ⟨fun z => ⟨rfl, z.2⟩, fun z => ⟨rfl, z.2⟩⟩
    · refine ⟨fun z => ?_, fun z => absurd z.1 (h5 q)⟩
      have : E - S = C.length := by
        have := (wd_v (d := dgt (fun k => T (S + k))) (L := E - S) (fun i hi => (dgt_of (h2 i hi)).2) hC2 hv).mpr z.2
        exact this.1
      omega
  · exact ⟨fun z => absurd z.1 h1, fun z => absurd z.1 h2⟩
theorem PT_1000001 {T : gW} {L n : Nat} {σ τ : gS} (hc : PC T L σ τ) (h : PT T L n σ τ) : cWd σ (jW 1000001) ↔ rIs τ 10984100 := PT_wd (v := 10984100) hc h jW_0 (by decide) (by decide) (by decide) (by decide) (by decide)
theorem PT_1000002 {T : gW} {L n : Nat} {σ τ : gS} (hc : PC T L σ τ) (h : PT T L n σ τ) : cWd σ (jW 1000002) ↔ rIs τ 3379448 := PT_wd (v := 3379448) hc h jW_1 (by decide) (by decide) (by decide) (by decide) (by decide)
theorem PT_1000003 {T : gW} {L n : Nat} {σ τ : gS} (hc : PC T L σ τ) (h : PT T L n σ τ) : cWd σ (jW 1000003) ↔ rIs τ 377669 := PT_wd (v := 377669) hc h jW_2 (by decide) (by decide) (by decide) (by decide) (by decide)
theorem PT_1000004 {T : gW} {L n : Nat} {σ τ : gS} (hc : PC T L σ τ) (h : PT T L n σ τ) : cWd σ (jW 1000004) ↔ rIs τ 291828332 := PT_wd (v := 291828332) hc h jW_3 (by decide) (by decide) (by decide) (by decide) (by decide)
theorem PT_1000005 {T : gW} {L n : Nat} {σ τ : gS} (hc : PC T L σ τ) (h : PT T L n σ τ) : cWd σ (jW 1000005) ↔ rIs τ 86887672 := PT_wd (v := 86887672) hc h jW_4 (by decide) (by decide) (by decide) (by decide) (by decide)
theorem PT_1000006 {T : gW} {L n : Nat} {σ τ : gS} (hc : PC T L σ τ) (h : PT T L n σ τ) : cWd σ (jW 1000006) ↔ rIs τ 335086736 := PT_wd (v := 335086736) hc h jW_5 (by decide) (by decide) (by decide) (by decide) (by decide)
theorem PT_1000007 {T : gW} {L n : Nat} {σ τ : gS} (hc : PC T L σ τ) (h : PT T L n σ τ) : cWd σ (jW 1000007) ↔ rIs τ 692581 := PT_wd (v := 692581) hc h jW_6 (by decide) (by decide) (by decide) (by decide) (by decide)
theorem PT_1000008 {T : gW} {L n : Nat} {σ τ : gS} (hc : PC T L σ τ) (h : PT T L n σ τ) : cWd σ (jW 1000008) ↔ rIs τ 13550 := PT_wd (v := 13550) hc h jW_7 (by decide) (by decide) (by decide) (by decide) (by decide)
theorem PT_1000009 {T : gW} {L n : Nat} {σ τ : gS} (hc : PC T L σ τ) (h : PT T L n σ τ) : cWd σ (jW 1000009) ↔ rIs τ 284954995 := PT_wd (v := 284954995) hc h jW_8 (by decide) (by decide) (by decide) (by decide) (by decide)
theorem PT_1000010 {T : gW} {L n : Nat} {σ τ : gS} (hc : PC T L σ τ) (h : PT T L n σ τ) : cWd σ (jW 1000010) ↔ rIs τ 388978 := PT_wd (v := 388978) hc h jW_9 (by decide) (by decide) (by decide) (by decide) (by decide)
theorem nsN_ge : ∀ (f j m : Nat), 27 ^ j ≤ m → j < f → j < nsN f m
  | 0, j, m, _, h => absurd h (Nat.not_lt_zero _)
  | f + 1, j, m, h, h2 => by
    have pj : 0 < 27 ^ j := Nat.pow_pos (by decide)
    unfold nsN
    rw [if_neg (by omega)]
    cases j with
    | zero => omega
    | succ j =>
      have : j < nsN f (m / 27) := nsN_ge f j (m / 27) (by rw [Nat.pow_succ] at h; omega) (by omega)
      omega
theorem nRd_ge {d : Nat → Nat} : ∀ {k : Nat}, (∀ i, i < k + 1 → 1 ≤ d i) → 27 ^ k ≤ nRd d (k + 1)
  | 0, h => by
    have := h 0 (by decide)
    show 27 ^ 0 ≤ 27 * nRd d 0 + d 0
    have : (27 : Nat) ^ 0 = 1 := rfl
    omega
  | k + 1, h => by
    have ih := nRd_ge (d := d) (k := k) (fun i hi => h i (by omega))
    show 27 ^ (k + 1) ≤ 27 * nRd d (k + 1) + d (k + 1)
    rw [Nat.pow_succ]
    omega
theorem cPk_of {T : gW} {L S m : Nat} (hE : S + m ≤ L) : ∀ {k : Nat}, k ≤ m → cPk T L S k = cPk (fun i => T (S + i)) m 0 k
  | 0, _ => rfl
  | k + 1, hk => by
    have ih := cPk_of (T := T) hE (k := k) (by omega)
    show cPk T L S k ||| _ = cPk (fun i => T (S + i)) m 0 k ||| _
    have e : cBy T L (S + k) = cBy (fun i => T (S + i)) m (0 + k) := by
      unfold cBy
      rw [if_pos (by omega), if_pos (by omega), Nat.zero_add]
    rw [ih, e]
theorem wvN_of {T : gW} {S : Nat} : ∀ {k : Nat}, wvN T S k = tnm (fun i => T (S + i)) k
  | 0 => rfl
  | k + 1 => by
    have ih := wvN_of (T := T) (S := S) (k := k)
    show 27 * wvN T S k + T (S + k) - 96 = 27 * tnm (fun i => T (S + i)) k + T (S + k) - 96
    rw [ih]
theorem PT_kw {T : gW} {L n : Nat} {σ τ : gS} (hc : PC T L σ τ) (h : PT T L n σ τ) : cKw σ ↔ (τ 323 13 = 1 ∧ isKey (τ 323 14)) := by
  unfold cKw
  rw [PT_1000001 hc h, PT_1000002 hc h, PT_1000003 hc h, PT_1000004 hc h, PT_1000005 hc h, PT_1000006 hc h, PT_1000007 hc h, PT_1000008 hc h, PT_1000009 hc h, PT_1000010 hc h]
  unfold rIs isKey
  grind
/-- a name -/
theorem PT_nm {T : gW} {L n : Nat} {σ τ : gS} (hc : PC T L σ τ) (h : PT T L n σ τ) : (cNm σ ↔ q3c τ) ∧ (cNm σ → nmR (cPk (σ 3) (σ 2 1).toNatClampNeg (σ 1 2).toNatClampNeg (min ((σ 1 3).toNatClampNeg - (σ 1 2).toNatClampNeg) 5)) (τ 323 14)) := by
  obtain ⟨s1, s2, s3, s4, s5, s6, s7⟩ := PT_S hc h
  have c5 := hc.2.2.2.2.1
  have kw := PT_kw hc h
  unfold cNm q3c
  rw [kw, s7, s1, s2, s3, hc.1]
  rcases PT_w hc h with ⟨h1, h2, h3, h4, h5⟩ | ⟨h1, h2⟩
  · obtain ⟨S, hS⟩ : ∃ S, tkS T L n = S := ⟨_, rfl⟩
    obtain ⟨E, hE⟩ : ∃ E, tkE T L n = E := ⟨_, rfl⟩
    rw [hS, hE] at h2 h4 h5 s5
    rw [hE] at h3 s6
    rw [hS, hE]
    have e5 : 5 < iN (E - S) ↔ 5 < E - S := iN_lt (k := 5) (by decide) (by omega)
    rw [e5]
    by_cases q : E - S ≤ 6
    · obtain ⟨w1, w2⟩ := wvN_e (T := T) (S := S) q h2
      have l6 : (27 : Nat) ^ 6 = 387420489 := by decide
      have l5 : (27 : Nat) ^ 5 = 14348907 := by decide
      obtain ⟨g1, g2⟩ := h4 q
      have ns : nsz (τ 323 14) ≤ 5 ↔ E - S ≤ 5 := by
        unfold nsz
        rw [g2, w1, iN_nat (by omega)]
        constructor
        · intro z
          apply Nat.le_of_not_lt
          intro z2
          have e6 : E - S = 5 + 1 := by omega
          have := nRd_ge (d := dgS T S) (k := 5) (fun i hi => (dgt_of (h2 i (by omega))).2.1)
          rw [← e6] at this
          have := nsN_ge 8 5 _ this (by decide)
          omega
        · intro z
          have : nRd (dgS T S) (E - S) < 27 ^ 5 := Nat.lt_of_lt_of_le (nRd_lt (fun i hi => (dgt_of (h2 i hi)).2.2)) (Nat.pow_le_pow_right (by decide) z)
          exact nsN_lt 8 5 _ this
      rw [ns]
      refine ⟨⟨fun z => ⟨g1, by omega, fun z2 => z.2.2 ⟨g1, z2⟩⟩, fun z => ⟨h1, by omega, fun z2 => z.2.2 z2.2⟩⟩, fun z => ?_⟩
      rw [show min (E - S) 5 = E - S by omega, g2, cPk_of (m := E - S) (by omega) (Nat.le_refl _), wvN_of]
      exact nm_ok (by omega) (by omega) h2
    · exact ⟨⟨fun z => absurd z.2.1 (by omega), fun z => absurd z.1 (h5 q)⟩, fun z => absurd z.2.1 (by omega)⟩
  · exact ⟨⟨fun z => absurd z.1 h1, fun z => absurd z.1 h2⟩, fun z => absurd z.1 h1⟩
end
section
-- text 96
/-! RELATION: a traveller is read by both, the parts that may stand -/
theorem cPs_0 {σ : gS} {c : Int32} (h : cPs σ c 1 5 = 0) : σ 1 5 = 0 ∧ ¬ c = 0 := by
  unfold cPs at h
  by_cases q : σ 1 5 = 0 ∧ ¬ c = 0
  · exact q
  · rw [if_neg q, gup_at] at h
    exact absurd h (by decide)
theorem PQ_no {T : gW} {L : Nat} {σ τ : gS} (h : PQ T L σ τ) (h0 : σ 1 5 = 0) : τ 323 15 = 0 ∧ ∃ n, PT T L n σ τ := by
  obtain ⟨hc, ⟨w, f, ht⟩ | ⟨w, f, he⟩⟩ := h
  · exact ⟨f.1, ht⟩
  · exact absurd h0 w
theorem cNu_b {σ : gS} {a b : Int32} (ha : 0 ≤ a) (h : a ≤ cNu σ ∧ cNu σ ≤ b) : ¬ σ 1 4 = 0 := by
  have k : ¬ cNu σ = -1 := fun e => by
    have := h.1
    rw [e] at this
    exact absurd (Int32.le_trans ha this) (by decide)
  rw [cNu_k k]
  decide
/-- both take a number -/
theorem PQ_int {T : gW} {L : Nat} {σ τ : gS} {a b : Int32} (h : PQ T L σ τ) (ha : 0 ≤ a) : PQ T L (cInt σ a b) (rTn τ a b) ∧ (cInt σ a b 1 5 = 0 → σ 1 5 = 0 ∧ (a ≤ cNu σ ∧ cNu σ ≤ b) ∧ rNm τ a b = cNu σ) := by
  refine ⟨PQ_pass h (fun _ n ht => (PT_ok h.1 ht ha).1) (fun _ q => cNu_b ha q), fun q => ?_⟩
  obtain ⟨q1, q2⟩ := cPs_0 q
  have q2 := Decidable.not_not.mp (fun z => q2 (bI_0.mpr z))
  obtain ⟨f, n, ht⟩ := PQ_no h q1
  obtain ⟨o1, o2⟩ := PT_ok (b := b) h.1 ht ha
  have o3 := o1.mp q2
  refine ⟨q1, q2, ?_⟩
  unfold rNm
  rw [if_pos ⟨f, o3⟩]
  exact o2 o3
/-- both take a like -/
theorem PQ_lk {T : gW} {L : Nat} {σ τ : gS} (h : PQ T L σ τ) : PQ T L (cInt (cLkH σ) 0 9) (rTn (rLk τ) 0 9) ∧ (cInt (cLkH σ) 0 9 1 5 = 0 → (-9 ≤ cLik σ ∧ cLik σ ≤ 9) ∧ rLi τ = cLik σ) := by
  have h2 : PQ T L (cLkH σ) (rLk τ) := by
    refine PQ_pass h (fun _ n ht => ?_) (fun w q => ?_)
    · obtain ⟨s1, s2, s3⟩ := PT_sg h.1 ht
      rw [s2, s3]
    · obtain ⟨f, n, ht⟩ := PQ_no h w
      intro z
      have z2 := (PT_end h.1 ht).mp z
      obtain ⟨s1, s2, s3⟩ := PT_sg h.1 ht
      rcases q with q | q
      · have := s3.mp q
        rw [z2] at this
        exact absurd this (by decide)
      · have := s2.mp q
        rw [z2] at this
        exact absurd this (by decide)
  obtain ⟨i1, i2⟩ := PQ_int (b := 9) h2 z00
  refine ⟨i1, fun q => ?_⟩
  obtain ⟨j1, j2, j3⟩ := i2 q
  obtain ⟨k1, k2⟩ := cPs_0 j1
  obtain ⟨f, n, ht⟩ := PQ_no h k1
  obtain ⟨s1, s2, s3⟩ := PT_sg h.1 ht
  unfold cLik rLi
  rw [j3]
  obtain ⟨v, hv⟩ : ∃ v, cNu (cLkH σ) = v := ⟨_, rfl⟩
  rw [hv] at j2 ⊢
  by_cases e : cB0 σ = 45
  · rw [if_pos e, if_pos (s3.mp e)]
    have := j2.1
    have := j2.2
    refine ⟨by grind, by grind⟩
  · rw [if_neg e, if_neg (fun z => e (s3.mpr z))]
    have := j2.1
    have := j2.2
    refine ⟨by grind, by grind⟩
/-- bounds of a traveller's numbers -/
noncomputable def PB (f : Nat) (x : Int32) : Prop := (f = 0 → 0 ≤ x ∧ x < 40) ∧ (f = 1 → x = 0 ∨ x = 1) ∧ (f = 2 → 0 ≤ x ∧ x ≤ 9) ∧ (f = 3 → -9 ≤ x ∧ x ≤ 9) ∧ (f = 4 → -9 ≤ x ∧ x ≤ 9) ∧ (f = 5 → 0 ≤ x ∧ x ≤ 9) ∧ (f = 6 → 0 ≤ x ∧ x ≤ 3) ∧ (f = 7 → 0 ≤ x ∧ x ≤ 99)
noncomputable def PW (n : Nat) (x : Int32) (R : gW) (σ τ : gS) : Prop := (∀ j, (j < 9 + 10 * n ∨ 9 + 10 * n + 10 ≤ j) → τ 325 j = R j) ∧ (∀ f, f < 9 → τ 325 (9 + 10 * n + f) = σ 4 (f + 1) ∧ PB f (σ 4 (f + 1))) ∧ nmR (σ 4 0) (τ 325 (9 + 10 * n + 9)) ∧ σ 4 1 = x
theorem PW_cg {n : Nat} {x : Int32} {R : gW} {σ τ σ' τ' : gS} (h : PW n x R σ τ) (h1 : σ' 4 = σ 4) (h2 : τ' 325 = τ 325) : PW n x R σ' τ' := by
  unfold PW at *
  rw [h1, h2]
  exact h
theorem PW_set {n f : Nat} {x v : Int32} {R : gW} {σ τ : gS} (h : PW n x R σ τ) (hf : 1 ≤ f) (hf2 : f < 9) (hv : PB f v) : PW n x R (gup σ 4 (f + 1) v) (gup τ 325 (9 + 10 * n + f) v) := by
  obtain ⟨h1, h2, h3, h4⟩ := h
  refine ⟨fun j hj => ?_, fun g hg => ?_, ?_, ?_⟩
  · rw [gup_ne (by omega)]
    exact h1 j hj
  · by_cases e : g = f
    · subst e
      rw [gup_at, gup_at]
      exact ⟨rfl, hv⟩
    · rw [gup_ne (by omega), gup_ne (by omega)]
      exact h2 g hg
  · rw [gup_ne (by omega), gup_ne (by omega)]
    exact h3
  · rw [gup_ne (by omega)]
    exact h4
/-- both are in the midst of a traveller -/
noncomputable def PS (T : gW) (L n : Nat) (x : Int32) (R : gW) (σ τ : gS) : Prop := PQ T L σ τ ∧ (σ 1 5 = 0 → PW n x R σ τ)
theorem PQ_4 {T : gW} {L j : Nat} {σ τ : gS} {v : Int32} (h : PQ T L σ τ) : PQ T L (gup σ 4 j v) τ := PQ_cg h (funext fun i => gup_ne (by omega)) (funext fun i => gup_ne (by omega)) (funext fun i => gup_ne (by omega)) rfl rfl
theorem PQ_25 {T : gW} {L j : Nat} {σ τ : gS} {v : Int32} (h : PQ T L σ τ) : PQ T L σ (gup τ 325 j v) := PQ_cg h rfl rfl rfl (funext fun i => gup_ne (by omega)) (funext fun i => gup_ne (by omega))
theorem PQ_kw {T : gW} {L p : Nat} {w : Int32} {σ τ : gS} (h : PQ T L σ τ) (hk : ∀ n, PT T L n σ τ → (cWd σ (jW p) ↔ rIs τ w)) : (rTh σ p ↔ rTw τ w) ∧ (rTh σ p → PQ T L (cTok σ) (rNx τ)) := by
  obtain ⟨hc, ⟨w0, ⟨f, f9⟩, n, ht⟩ | ⟨w0, f, he⟩⟩ := h
  · have k := hk n ht
    refine ⟨⟨fun z => ⟨f, k.mp z.2⟩, fun z => ⟨w0, k.mpr z.2⟩⟩, fun z => ⟨PC_nx hc, Or.inl ⟨by rw [cTok_5]; exact w0, ⟨by rw [rNx_3 (by omega)]; exact f, by rw [rNx_3 (by omega)]; exact f9⟩, _, PT_nx hc ht ?_⟩⟩⟩
    rw [← ht.2.1.2.2, z.2.1]
    decide
  · exact ⟨⟨fun z => absurd z.1 w0, fun z => absurd z.1 f⟩, fun z => absurd z.1 w0⟩
theorem PB_1 {v : Int32} (h : v = 0 ∨ v = 1) : PB 1 v := by unfold PB; simp [h]
theorem PB_2 {v : Int32} (h : 1 ≤ v ∧ v ≤ 9) : PB 2 v := by
  have : 0 ≤ v ∧ v ≤ 9 := ⟨by have := h.1; grind, h.2⟩
  unfold PB; simp [this]
theorem PB_3 {v : Int32} (h : -9 ≤ v ∧ v ≤ 9) : PB 3 v := by unfold PB; simp [h]
theorem PB_4 {v : Int32} (h : -9 ≤ v ∧ v ≤ 9) : PB 4 v := by unfold PB; simp [h]
theorem PB_5 {v : Int32} (h : 0 ≤ v ∧ v ≤ 9) : PB 5 v := by unfold PB; simp [h]
theorem PB_6 {v : Int32} (h : 0 ≤ v ∧ v ≤ 3) : PB 6 v := by unfold PB; simp [h]
theorem PB_7 {v : Int32} (h : 0 ≤ v ∧ v ≤ 99) : PB 7 v := by unfold PB; simp [h]
theorem PB_8 {v : Int32} : PB 8 v := by unfold PB; simp
theorem PS_T {T : gW} {L n : Nat} {x : Int32} {R : gW} {σ τ : gS} (h : PS T L n x R σ τ) : PS T L n x R (rT σ) (qT τ n) := by
  obtain ⟨hq, hw⟩ := h
  obtain ⟨k1, k2⟩ := PQ_kw hq (fun m ht => PT_1000004 hq.1 ht)
  unfold rT qT
  by_cases q : rTh σ 1000004
  · rw [if_pos q, if_pos (k1.mp q)]
    refine ⟨PQ_25 (PQ_4 (k2 q)), fun _ => PW_set (f := 1) (PW_cg (hw q.1) (cTok_far (by decide)) (rNx_far (by decide))) (by decide) (by decide) (PB_1 (Or.inr rfl))⟩
  · rw [if_neg q, if_neg (fun z => q (k1.mpr z))]
    exact ⟨hq, hw⟩
theorem PS_F {T : gW} {L n : Nat} {x : Int32} {R : gW} {σ τ : gS} (h : PS T L n x R σ τ) : PS T L n x R (rF σ) (qF τ n) := by
  obtain ⟨hq, hw⟩ := h
  obtain ⟨k1, k2⟩ := PQ_kw hq (fun m ht => PT_1000005 hq.1 ht)
  unfold rF qF
  by_cases q : rTh σ 1000005
  · rw [if_pos q, if_pos (k1.mp q)]
    obtain ⟨i1, i2⟩ := PQ_int (a := 1) (b := 9) (k2 q) (by decide)
    refine ⟨PQ_25 (PQ_4 i1), fun z => ?_⟩
    rw [gup_ne (by omega)] at z
    obtain ⟨j1, j2, j3⟩ := i2 z
    rw [j3]
    exact PW_set (f := 2) (PW_cg (hw q.1) (by rw [cInt_far (by decide), cTok_far (by decide)]) (by rw [rTn_far (by decide), rNx_far (by decide)])) (by decide) (by decide) (PB_2 j2)
  · rw [if_neg q, if_neg (fun z => q (k1.mpr z))]
    exact ⟨hq, hw⟩
theorem PS_S {T : gW} {L n : Nat} {x : Int32} {R : gW} {σ τ : gS} (h : PS T L n x R σ τ) : PS T L n x R (rS σ) (qS τ n) := by
  obtain ⟨hq, hw⟩ := h
  obtain ⟨k1, k2⟩ := PQ_kw hq (fun m ht => PT_1000009 hq.1 ht)
  unfold rS qS
  by_cases q : rTh σ 1000009
  · rw [if_pos q, if_pos (k1.mp q)]
    obtain ⟨i1, i2⟩ := PQ_int (a := 0) (b := 99) (k2 q) (by decide)
    refine ⟨PQ_25 (PQ_4 i1), fun z => ?_⟩
    rw [gup_ne (by omega)] at z
    obtain ⟨j1, j2, j3⟩ := i2 z
    rw [j3]
    exact PW_set (f := 7) (PW_cg (hw q.1) (by rw [cInt_far (by decide), cTok_far (by decide)]) (by rw [rTn_far (by decide), rNx_far (by decide)])) (by decide) (by decide) (PB_7 j2)
  · rw [if_neg q, if_neg (fun z => q (k1.mpr z))]
    exact ⟨hq, hw⟩
theorem PS_P {T : gW} {L n : Nat} {x : Int32} {R : gW} {σ τ : gS} (h : PS T L n x R σ τ) : PS T L n x R (rP σ) (qP τ n) := by
  obtain ⟨hq, hw⟩ := h
  obtain ⟨k1, k2⟩ := PQ_kw hq (fun m ht => PT_1000010 hq.1 ht)
  unfold rP qP
  by_cases q : rTh σ 1000010
  · rw [if_pos q, if_pos (k1.mp q)]
    obtain ⟨i1, i2⟩ := PQ_int (a := 1) (b := 99) (k2 q) (by decide)
    refine ⟨PQ_25 (PQ_4 i1), fun z => ?_⟩
    rw [gup_ne (by omega)] at z
    obtain ⟨j1, j2, j3⟩ := i2 z
    rw [j3]
    exact PW_set (f := 8) (PW_cg (hw q.1) (by rw [cInt_far (by decide), cTok_far (by decide)]) (by rw [rTn_far (by decide), rNx_far (by decide)])) (by decide) (by decide) (PB_8)
  · rw [if_neg q, if_neg (fun z => q (k1.mpr z))]
    exact ⟨hq, hw⟩
theorem PS_W {T : gW} {L n : Nat} {x : Int32} {R : gW} {σ τ : gS} (h : PS T L n x R σ τ) : PS T L n x R (rW σ) (qW τ n) := by
  obtain ⟨hq, hw⟩ := h
  obtain ⟨k1, k2⟩ := PQ_kw hq (fun m ht => PT_1000006 hq.1 ht)
  unfold rW qW
  by_cases q : rTh σ 1000006
  · rw [if_pos q, if_pos (k1.mp q)]
    obtain ⟨i1, i2⟩ := PQ_lk (k2 q)
    refine ⟨PQ_25 (PQ_4 i1), fun z => ?_⟩
    rw [gup_ne (by omega)] at z
    obtain ⟨j2, j3⟩ := i2 z
    rw [j3]
    exact PW_set (f := 3) (PW_cg (hw q.1) (by rw [cInt_far (by decide), cLkH_far (by decide), cTok_far (by decide)]) (by rw [rTn_far (by decide), rLk_far (by decide), rNx_far (by decide)])) (by decide) (by decide) (PB_3 j2)
  · rw [if_neg q, if_neg (fun z => q (k1.mpr z))]
    exact ⟨hq, hw⟩
theorem PS_Ah {T : gW} {L n : Nat} {x : Int32} {R : gW} {σ τ : gS} (h : PS T L n x R σ τ) : PS T L n x R (rAh σ) (qAh τ n) := by
  obtain ⟨hq, hw⟩ := h
  obtain ⟨k1, k2⟩ := PQ_kw hq (fun m ht => PT_1000007 hq.1 ht)
  unfold rAh qAh
  by_cases q : rTh σ 1000007
  · rw [if_pos q, if_pos (k1.mp q)]
    obtain ⟨i1, i2⟩ := PQ_lk (k2 q)
    refine ⟨PQ_25 (PQ_4 i1), fun z => ?_⟩
    rw [gup_ne (by omega)] at z
    obtain ⟨j2, j3⟩ := i2 z
    rw [j3]
    exact PW_set (f := 4) (PW_cg (hw q.1) (by rw [cInt_far (by decide), cLkH_far (by decide), cTok_far (by decide)]) (by rw [rTn_far (by decide), rLk_far (by decide), rNx_far (by decide)])) (by decide) (by decide) (PB_4 j2)
  · rw [if_neg q, if_neg (fun z => q (k1.mpr z))]
    exact ⟨hq, hw⟩
theorem PS_R {T : gW} {L n : Nat} {x : Int32} {R : gW} {σ τ : gS} (h : PS T L n x R σ τ) (hR : σ 1 5 = 0 → σ 32 4 = R 0 ∧ (2 ≤ R 0 ∧ R 0 ≤ 10)) : PS T L n x R (rR σ) (qR τ n) := by
  obtain ⟨hq, hw⟩ := h
  obtain ⟨k1, k2⟩ := PQ_kw hq (fun m ht => PT_1000008 hq.1 ht)
  unfold rR qR
  by_cases q : rTh σ 1000008
  · rw [if_pos q, if_pos (k1.mp q)]
    obtain ⟨r1, r2⟩ := hR q.1
    have w := hw q.1
    have e0 : τ 325 0 = R 0 := w.1 0 (by omega)
    obtain ⟨i1, i2⟩ := PQ_int (a := 0) (b := R 0 - 1) (k2 q) (by decide)
    unfold rR1 qR1
    rw [r1, e0]
    have p1 := PQ_25 (j := 9 + 10 * n + 5) (v := rNm (rNx τ) 0 (R 0 - 1)) (PQ_4 (j := 6) (v := cNu (cTok σ)) i1)
    obtain ⟨i3, i4⟩ := PQ_int (a := 0) (b := 3) p1 (by decide)
    refine ⟨PQ_25 (PQ_4 i3), fun z => ?_⟩
    rw [gup_ne (by omega)] at z
    obtain ⟨j1, j2, j3⟩ := i4 z
    rw [gup_ne (by omega)] at j1
    obtain ⟨l1, l2, l3⟩ := i2 j1
    rw [j3]
    rw [l3] at j3 ⊢
    have b9 : 0 ≤ cNu (cTok σ) ∧ cNu (cTok σ) ≤ 9 := ⟨l2.1, by have := l2.2; have := r2.1; have := r2.2; grind⟩
    refine PW_set (f := 6) (PW_cg (PW_set (f := 5) (PW_cg (hw q.1) (?_ : cInt (cTok σ) 0 (R 0 - 1) 4 = σ 4) (?_ : rTn (rNx τ) 0 (R 0 - 1) 325 = τ 325)) (by decide) (by decide) (PB_5 b9)) ?_ ?_) (by decide) (by decide) (PB_6 j2)
    · rw [cInt_far (by decide), cTok_far (by decide)]
    · rw [rTn_far (by decide), rNx_far (by decide)]
    · rw [cInt_far (by decide)]
    · rw [rTn_far (by decide)]
  · rw [if_neg q, if_neg (fun z => q (k1.mpr z))]
    exact ⟨hq, hw⟩
end
section
-- text 97
/-! RELATION: a traveller is read by both, the parts that must stand -/
/-- what is wrong stays so, at its place -/
noncomputable def WP (σ ρ : gS) : Prop := ¬ σ 1 5 = 0 → ¬ ρ 1 5 = 0 ∧ ρ 1 2 = σ 1 2
theorem WP_id (σ : gS) : WP σ σ := fun h => ⟨h, rfl⟩
theorem WP_t {σ ρ ν : gS} (h : WP σ ρ) (h2 : WP ρ ν) : WP σ ν := fun z => ⟨(h2 (h z).1).1, (h2 (h z).1).2.trans (h z).2⟩
theorem WP_4 {σ ρ : gS} {j : Nat} {v : Int32} (h : WP σ ρ) : WP σ (gup ρ 4 j v) := fun z => by
  rw [gup_ne (by omega), gup_ne (by omega)]
  exact h z
theorem WP_ps (σ : gS) (c : Int32) : WP σ (cPs σ c) := fun z => by
  unfold cPs
  rw [if_neg (fun q => z q.1), gup_at, gup_ne (by omega)]
  exact ⟨by decide, rfl⟩
theorem WP_fs (σ : gS) : WP σ (cFs σ) := fun z => by
  unfold cFs
  rw [if_neg (fun q => z q.1), gup_at, gup_ne (by omega)]
  exact ⟨by decide, rfl⟩
theorem WP_zr (σ : gS) : WP σ (cZr σ 4) := fun z => by
  rw [cZr_ne (by decide)]
  exact ⟨z, rfl⟩
theorem WP_A (σ : gS) : WP σ (rA σ) := WP_t (WP_zr σ) (WP_ps _ _)
theorem WP_B (σ : gS) : WP σ (rB σ) := WP_4 (WP_t (WP_fs σ) (WP_ps _ _))
theorem WP_C (σ : gS) : WP σ (rC σ) := WP_4 (WP_ps _ _)
theorem WP_T (σ : gS) : WP σ (rT σ) := fun z => by
  unfold rT
  rw [if_neg (fun q => z q.1)]
  exact ⟨z, rfl⟩
theorem WP_F (σ : gS) : WP σ (rF σ) := fun z => by
  unfold rF
  rw [if_neg (fun q => z q.1)]
  exact ⟨z, rfl⟩
theorem WP_W (σ : gS) : WP σ (rW σ) := fun z => by
  unfold rW
  rw [if_neg (fun q => z q.1)]
  exact ⟨z, rfl⟩
theorem WP_Ah (σ : gS) : WP σ (rAh σ) := fun z => by
  unfold rAh
  rw [if_neg (fun q => z q.1)]
  exact ⟨z, rfl⟩
theorem WP_R (σ : gS) : WP σ (rR σ) := fun z => by
  unfold rR
  rw [if_neg (fun q => z q.1)]
  exact ⟨z, rfl⟩
theorem WP_S (σ : gS) : WP σ (rS σ) := fun z => by
  unfold rS
  rw [if_neg (fun q => z q.1)]
  exact ⟨z, rfl⟩
theorem WP_P (σ : gS) : WP σ (rP σ) := fun z => by
  unfold rP
  rw [if_neg (fun q => z q.1)]
  exact ⟨z, rfl⟩
theorem WP_Z {σ : gS} (h7 : 0 ≤ σ 32 7 ∧ σ 32 7 < 20) : WP σ (rZ σ) := fun z => by
  have f7 : cPs σ 1 32 7 = σ 32 7 := by rw [cPs_far (by decide)]
  unfold rZ
  split
  · split
    · rw [cAdm_far (by rw [f7]; exact h7) (by omega)]
      exact WP_ps σ 1 z
    · exact WP_ps σ 1 z
  · exact WP_ps σ 0 z
theorem WP_mid (σ : gS) : WP (rC (rB (rA σ))) (rMid σ) := WP_t (WP_t (WP_t (WP_t (WP_t (WP_t (WP_T _) (WP_F _)) (WP_W _)) (WP_Ah _)) (WP_R _)) (WP_S _)) (WP_P _)
theorem WP_trv {σ : gS} (h7 : 0 ≤ σ 32 7 ∧ σ 32 7 < 20) : WP (rC (rB (rA σ))) (rTrv σ) ∧ WP (rA σ) (rTrv σ) := by
  have k : WP (rC (rB (rA σ))) (rTrv σ) := by
    rw [rTrv_e]
    exact WP_t (WP_mid σ) (WP_Z (by rw [rMid_far (by decide) (by decide)]; exact h7))
  exact ⟨k, WP_t (WP_t (WP_B _) (WP_C _)) k⟩
theorem rTrv_far {σ : gS} {q : Nat} (h : ¬ q = 1) (h4 : ¬ q = 4) (h7 : 0 ≤ σ 32 7 ∧ σ 32 7 < 20) (h32 : q < 32 ∨ 56 ≤ q) : rTrv σ q = σ q := by
  have e := rMid_far (σ := σ) h h4
  have e7 : cPs (rMid σ) 1 32 7 = σ 32 7 := by rw [cPs_far (by decide), rMid_far (by decide) (by decide)]
  rw [rTrv_e, ← e]
  unfold rZ
  split
  · split
    · rw [cAdm_far (by rw [e7]; exact h7) (by omega), cPs_far h]
    · exact cPs_far h
  · exact cPs_far h
theorem nuN_b {T : gW} {S : Nat} : ∀ {k : Nat}, k ≤ 2 → (∀ i, i < k → isDg (T (S + i))) → 0 ≤ nuN T S k
  | 0, _, _ => by
    show (0 : Int32) ≤ 0
    decide
  | 1, _, h => by
    have := h 0 (by decide)
    obtain ⟨a, ha⟩ : ∃ a, T (S + 0) = a := ⟨_, rfl⟩
    show 0 ≤ 10 * 0 + T (S + 0) - 48
    rw [ha] at this ⊢
    have u := this.1
    have v := this.2
    grind
  | 2, _, h => by
    have h1 := h 0 (by decide)
    have h2 := h 1 (by decide)
    obtain ⟨a, ha⟩ : ∃ a, T (S + 0) = a := ⟨_, rfl⟩
    obtain ⟨b, hb⟩ : ∃ b, T (S + 1) = b := ⟨_, rfl⟩
    show 0 ≤ 10 * (10 * 0 + T (S + 0) - 48) + T (S + 1) - 48
    rw [ha] at h1 ⊢
    rw [hb] at h2 ⊢
    have := h1.1
    have := h1.2
    have := h2.1
    have := h2.2
    grind
  | k + 3, h, _ => by omega
theorem PT_nb0 {T : gW} {L n : Nat} {σ τ : gS} (h : PT T L n σ τ) : τ 323 13 = 2 → 0 ≤ τ 323 14 := by
  rw [h.2.2.2.2.1, h.2.2.2.2.2]
  have hn := h.1
  obtain ⟨S, hS⟩ : ∃ S, tkS T L n = S := ⟨_, rfl⟩
  rw [hS]
  unfold rKi rVa
  by_cases q : S = L
  · rw [if_pos q]
    intro z
    exact absurd z (by decide)
  · rw [if_neg q, if_neg q]
    by_cases q1 : isSm (T S)
    · rw [if_pos q1]
      intro z
      exfalso
      split at z
      · exact absurd z (by decide)
      · exact absurd z (by decide)
    · rw [if_neg q1, if_neg q1]
      by_cases q2 : isDg (T S)
      · have hp : rPl T L S = rnE 3 T L S := by unfold rPl; rw [if_neg q, if_neg q1, if_pos q2]
        rw [if_pos q2, if_pos q2, hp]
        intro _
        exact nuN_b (by omega) (fun i hi => cKd_3.mp (rnE_in (c := 3) (L := L) i (by omega)))
      · rw [if_neg q2, if_neg q2]
        intro _
        decide
theorem PQ_w {T : gW} {L : Nat} {σ τ : gS} (h : PQ T L σ τ) (hw : ¬ σ 1 5 = 0) : PQ T L (gup σ 1 5 1) τ := by
  obtain ⟨hc, ⟨w, f, ht⟩ | ⟨w, f, he⟩⟩ := h
  · exact absurd w hw
  · obtain ⟨c1, c2, c3, c4, c5, c6⟩ := hc
    refine ⟨⟨?_, ?_, c3, c4, c5, c6⟩, Or.inr ⟨by rw [gup_at]; decide, f, by rw [gup_ne (by omega)]; exact he⟩⟩
    · funext i; rw [gup_ne (by omega), c1]
    · rw [gup_ne (by omega), c2]
/-- the seat's number -/
theorem PQ_seat {T : gW} {L : Nat} {σ a : gS} (h : PQ T L σ a) (hr : σ 32 4 = a 325 0) (hb : 2 ≤ a 325 0 ∧ a 325 0 ≤ 10) (hw : ∀ v, fWho (cR σ 32) v = -2 ↔ fWho (a 325) v < 0) : PQ T L (cInt (cFs σ) 0 (σ 32 4 * 4 - 1)) (rTk a (bI (q2c a (a 323 14)))) ∧ (cInt (cFs σ) 0 (σ 32 4 * 4 - 1) 1 5 = 0 → σ 1 5 = 0 ∧ (0 ≤ cNu (cFs σ) ∧ cNu (cFs σ) < 40) ∧ a 323 14 = cNu (cFs σ)) := by
  by_cases w : σ 1 5 = 0
  · obtain ⟨f, n, ht⟩ := PQ_no h w
    by_cases q : fWho (cR σ 32) (cNu σ) = -2
    · have e : cFs σ = σ := by unfold cFs; rw [if_pos ⟨w, q⟩]
      rw [e]
      have hb1 := hb.1
      have hb2 := hb.2
      have key : (0 ≤ cNu σ ∧ cNu σ ≤ σ 32 4 * 4 - 1) ↔ q2c a (a 323 14) := by
        unfold q2c
        rcases PT_nb h.1 ht with ⟨z1, z2⟩ | ⟨z1, z2⟩
        · have z0 := PT_nb0 ht z1
          rw [z2] at z0 ⊢
          have y := (hw _).mp q
          rw [hr]
          exact ⟨fun z => ⟨z1, by have := z.2; grind, y⟩, fun z => ⟨z0, by have := z.2.1; grind⟩⟩
        · exact ⟨fun z => by rw [z2] at z; exact absurd z.1 (by decide), fun z => absurd z.1 z1⟩
      refine ⟨PQ_pass h (fun _ m hm => key) (fun _ z => cNu_b z00 z), fun z => ?_⟩
      obtain ⟨y1, y2⟩ := cPs_0 z
      have y2 := Decidable.not_not.mp (fun z => y2 (bI_0.mpr z))
      have y3 := key.mp y2
      refine ⟨w, ⟨y2.1, ?_⟩, ?_⟩
      · have := y2.2
        rw [hr] at this
        grind
      · rcases PT_nb h.1 ht with ⟨z1, z2⟩ | ⟨z1, z2⟩
        · exact z2
        · exact absurd y3.1 z1
    · have e : cFs σ = gup σ 1 5 1 := by unfold cFs; rw [if_neg (fun z => q z.2)]
      have nq : ¬ q2c a (a 323 14) := by
        intro z
        rcases PT_nb h.1 ht with ⟨z1, z2⟩ | ⟨z1, z2⟩
        · have := z.2.2
          rw [z2] at this
          exact q ((hw _).mpr this)
        · exact z1 z.1
      have k := PQ_pass (P := False) (Q := q2c a (a 323 14)) h (fun _ m hm => ⟨fun z => absurd z id, fun z => absurd z nq⟩) (fun _ z => absurd z id)
      have e2 : cPs σ (bI False) = gup σ 1 5 1 := by unfold cPs; rw [bI_n (fun z => z), if_neg (fun z => z.2 rfl)]
      rw [e2] at k
      have e3 : cInt (cFs σ) 0 (σ 32 4 * 4 - 1) = gup σ 1 5 1 := by
        rw [e]
        unfold cInt cPs
        rw [if_neg (fun z => absurd z.1 (by rw [gup_at]; decide)), gup_tw]
      rw [e3]
      exact ⟨k, fun z => absurd z (by rw [gup_at]; decide)⟩
  · have e : cFs σ = gup σ 1 5 1 := by unfold cFs; rw [if_neg (fun z => w z.1)]
    have k := PQ_w h w
    have e3 : cInt (cFs σ) 0 (σ 32 4 * 4 - 1) = gup σ 1 5 1 := by
      rw [e]
      unfold cInt cPs
      rw [if_neg (fun z => absurd z.1 (by rw [gup_at]; decide)), gup_tw]
    have f : ¬ a 323 15 = 0 := by
      obtain ⟨hc, ⟨w2, f, ht⟩ | ⟨w2, f, he⟩⟩ := h
      · exact absurd w2 w
      · exact f
    rw [e3, rTk_f f]
    exact ⟨k, fun z => absurd z (by rw [gup_at]; decide)⟩
theorem cNu_fs {σ : gS} : cNu (cFs σ) = cNu σ := by
  unfold cFs
  split
  · rfl
  · have e3 : gup σ 1 5 1 3 = σ 3 := funext fun j => gup_ne (by omega)
    unfold cNu
    rw [gup_ne (by omega), gup_ne (by omega), gup_ne (by omega), e3]
end
