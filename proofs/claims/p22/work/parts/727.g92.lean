-- text 92
/-! THE REFERENCE: a seat is read -/
set_option maxRecDepth 20000 in
theorem w202 {σ : gS} {K : gK} (h : (0 ≤ (3 : Int32) ∧ (3 : Int32) < 330) ∧ ((¬ (σ 325 3) < 20 → (NX σ) ∧ ((¬ (bI (σ 323 15 = 0 ∧ ¬ (0 : Int32) = 0)) = 0 → gE 202 24 [some (.ref 323), none, none, none] [] (rTk σ (0 : Int32)) K) ∧ ((bI (σ 323 15 = 0 ∧ ¬ (0 : Int32) = 0)) = 0 → K none (rTk σ (0 : Int32))))) ∧ ((σ 325 3) < 20 → (NX σ) ∧ ((¬ (bI (σ 323 15 = 0 ∧ ¬ (1 : Int32) = 0)) = 0 → gE 202 24 [some (.ref 323), none, none, none] [] (rTk σ (1 : Int32)) K) ∧ ((bI (σ 323 15 = 0 ∧ ¬ (1 : Int32) = 0)) = 0 → K none (rTk σ (1 : Int32))))))) : gE 202 0 [some (.ref 323), none, none, none] [] σ K :=
  gw_run (cy := 202) (cuts := [24, 36, 77, 82, 110, 119, 139, 165, 188, 211, 244, 261, 288, 315]) (inl := []) (pf := gpea) gpea_ok 400 (by decide) h
set_option maxRecDepth 20000 in
theorem c202_24 {σ : gS} {K : gK} (h : (0 ≤ (3 : Int32) ∧ (3 : Int32) < 330) ∧ gE 202 36 [some (.ref 323), some (.int (σ 325 3)), some (.int (σ 323 14)), none] [] σ K) : gE 202 24 [some (.ref 323), none, none, none] [] σ K :=
  gw_run (cy := 202) (cuts := [24, 36, 77, 82, 110, 119, 139, 165, 188, 211, 244, 261, 288, 315]) (inl := []) (pf := gpea) gpea_ok 400 (by decide) h
set_option maxRecDepth 20000 in
theorem c202_36 {σ : gS} {K : gK} {l1 l2 : Int32} (h : ((¬ (σ 323 13) = 2 → (NX σ) ∧ gE 202 77 [some (.ref 323), some (.int l1), some (.int l2), none] [] (rTk σ (0 : Int32)) K) ∧ ((σ 323 13) = 2 → (0 ≤ (0 : Int32) ∧ (0 : Int32) < 330) ∧ ((¬ l2 < (4 * (σ 325 0)) → (NX σ) ∧ gE 202 77 [some (.ref 323), some (.int l1), some (.int l2), none] [] (rTk σ (0 : Int32)) K) ∧ (l2 < (4 * (σ 325 0)) → (0 ≤ σ 325 3 ∧ σ 325 3 ≤ 20) ∧ ((¬ (fWho (σ 325) l2) < 0 → (NX σ) ∧ gE 202 77 [some (.ref 323), some (.int l1), some (.int l2), none] [] (rTk σ (0 : Int32)) K) ∧ ((fWho (σ 325) l2) < 0 → (NX σ) ∧ gE 202 77 [some (.ref 323), some (.int l1), some (.int l2), none] [] (rTk σ (1 : Int32)) K))))))) : gE 202 36 [some (.ref 323), some (.int l1), some (.int l2), none] [] σ K :=
  gw_run (cy := 202) (cuts := [24, 36, 77, 82, 110, 119, 139, 165, 188, 211, 244, 261, 288, 315]) (inl := []) (pf := gpea) gpea_ok 400 (by decide) h
set_option maxRecDepth 20000 in
theorem c202_77 {σ : gS} {K : gK} {l1 l2 : Int32} (h : gE 202 82 [some (.ref 323), some (.int l1), some (.int l2), some (.int (σ 323 14))] [] σ K) : gE 202 77 [some (.ref 323), some (.int l1), some (.int l2), none] [] σ K :=
  gw_run (cy := 202) (cuts := [24, 36, 77, 82, 110, 119, 139, 165, 188, 211, 244, 261, 288, 315]) (inl := []) (pf := gpea) gpea_ok 400 (by decide) h
set_option maxRecDepth 20000 in
theorem c202_82 {σ : gS} {K : gK} {l1 l2 l3 : Int32} (h : ((¬ (σ 323 13) = 1 → (NX σ) ∧ ((¬ (bI (σ 323 15 = 0 ∧ ¬ (0 : Int32) = 0)) = 0 → gE 202 110 [some (.ref 323), some (.int l1), some (.int l2), some (.int l3)] [] (rTk σ (0 : Int32)) K) ∧ ((bI (σ 323 15 = 0 ∧ ¬ (0 : Int32) = 0)) = 0 → K none (rTk σ (0 : Int32))))) ∧ ((σ 323 13) = 1 → (0 ≤ l3) ∧ (((bI (nsz l3 ≤ 5 ∧ ¬ isKey l3)) = 0 → (NX σ) ∧ ((¬ (bI (σ 323 15 = 0 ∧ ¬ (0 : Int32) = 0)) = 0 → gE 202 110 [some (.ref 323), some (.int l1), some (.int l2), some (.int l3)] [] (rTk σ (0 : Int32)) K) ∧ ((bI (σ 323 15 = 0 ∧ ¬ (0 : Int32) = 0)) = 0 → K none (rTk σ (0 : Int32))))) ∧ (¬ (bI (nsz l3 ≤ 5 ∧ ¬ isKey l3)) = 0 → (NX σ) ∧ ((¬ (bI (σ 323 15 = 0 ∧ ¬ (1 : Int32) = 0)) = 0 → gE 202 110 [some (.ref 323), some (.int l1), some (.int l2), some (.int l3)] [] (rTk σ (1 : Int32)) K) ∧ ((bI (σ 323 15 = 0 ∧ ¬ (1 : Int32) = 0)) = 0 → K none (rTk σ (1 : Int32))))))))) : gE 202 82 [some (.ref 323), some (.int l1), some (.int l2), some (.int l3)] [] σ K :=
  gw_run (cy := 202) (cuts := [24, 36, 77, 82, 110, 119, 139, 165, 188, 211, 244, 261, 288, 315]) (inl := []) (pf := gpea) gpea_ok 400 (by decide) h
set_option maxRecDepth 20000 in
theorem c202_110 {σ : gS} {K : gK} {l1 l2 l3 : Int32} (h : (0 ≤ σ 325 3 ∧ σ 325 3 < 20) ∧ gE 202 119 [some (.ref 323), some (.int l1), some (.int l2), some (.int l3)] [] (grow σ 325 (fNew (σ 325) l2 l3)) K) : gE 202 110 [some (.ref 323), some (.int l1), some (.int l2), some (.int l3)] [] σ K :=
  gw_run (cy := 202) (cuts := [24, 36, 77, 82, 110, 119, 139, 165, 188, 211, 244, 261, 288, 315]) (inl := []) (pf := gpea) gpea_ok 400 (by decide) h
set_option maxRecDepth 20000 in
theorem c202_119 {σ : gS} {K : gK} {l1 l2 l3 : Int32} (h : (NX σ) ∧ (((bI (rTw σ (291828332 : Int32))) = 0 → gE 202 139 [some (.ref 323), some (.int l1), some (.int l2), some (.int l3)] [] (if rTw σ (291828332 : Int32) then rNx σ else σ) K) ∧ (¬ (bI (rTw σ (291828332 : Int32))) = 0 → (0 ≤ (9 + 10 * l1 + (1 : Int32)) ∧ (9 + 10 * l1 + (1 : Int32)) < 330) ∧ gE 202 139 [some (.ref 323), some (.int l1), some (.int l2), some (.int l3)] [] (gup (if rTw σ (291828332 : Int32) then rNx σ else σ) 325 (9 + 10 * l1 + (1 : Int32)).toNatClampNeg 1) K))) : gE 202 119 [some (.ref 323), some (.int l1), some (.int l2), some (.int l3)] [] σ K :=
  gw_run (cy := 202) (cuts := [24, 36, 77, 82, 110, 119, 139, 165, 188, 211, 244, 261, 288, 315]) (inl := []) (pf := gpea) gpea_ok 400 (by decide) h
set_option maxRecDepth 20000 in
theorem c202_139 {σ : gS} {K : gK} {l1 l2 l3 : Int32} (h : (NX σ) ∧ (((bI (rTw σ (86887672 : Int32))) = 0 → gE 202 165 [some (.ref 323), some (.int l1), some (.int l2), some (.int l3)] [] (if rTw σ (86887672 : Int32) then rNx σ else σ) K) ∧ (¬ (bI (rTw σ (86887672 : Int32))) = 0 → (NX (if rTw σ (86887672 : Int32) then rNx σ else σ)) ∧ (0 ≤ (9 + 10 * l1 + (2 : Int32)) ∧ (9 + 10 * l1 + (2 : Int32)) < 330) ∧ gE 202 165 [some (.ref 323), some (.int l1), some (.int l2), some (.int l3)] [] (gup (rTn (if rTw σ (86887672 : Int32) then rNx σ else σ) (1 : Int32) (9 : Int32)) 325 (9 + 10 * l1 + (2 : Int32)).toNatClampNeg (rNm (if rTw σ (86887672 : Int32) then rNx σ else σ) (1 : Int32) (9 : Int32))) K))) : gE 202 139 [some (.ref 323), some (.int l1), some (.int l2), some (.int l3)] [] σ K :=
  gw_run (cy := 202) (cuts := [24, 36, 77, 82, 110, 119, 139, 165, 188, 211, 244, 261, 288, 315]) (inl := []) (pf := gpea) gpea_ok 400 (by decide) h
set_option maxRecDepth 20000 in
theorem c202_165 {σ : gS} {K : gK} {l1 l2 l3 : Int32} (h : (NX σ) ∧ (((bI (rTw σ (335086736 : Int32))) = 0 → gE 202 188 [some (.ref 323), some (.int l1), some (.int l2), some (.int l3)] [] (if rTw σ (335086736 : Int32) then rNx σ else σ) K) ∧ (¬ (bI (rTw σ (335086736 : Int32))) = 0 → (NX (if rTw σ (335086736 : Int32) then rNx σ else σ)) ∧ (0 ≤ (9 + 10 * l1 + (3 : Int32)) ∧ (9 + 10 * l1 + (3 : Int32)) < 330) ∧ gE 202 188 [some (.ref 323), some (.int l1), some (.int l2), some (.int l3)] [] (gup (rTn (rLk (if rTw σ (335086736 : Int32) then rNx σ else σ)) 0 9) 325 (9 + 10 * l1 + (3 : Int32)).toNatClampNeg (rLi (if rTw σ (335086736 : Int32) then rNx σ else σ))) K))) : gE 202 165 [some (.ref 323), some (.int l1), some (.int l2), some (.int l3)] [] σ K :=
  gw_run (cy := 202) (cuts := [24, 36, 77, 82, 110, 119, 139, 165, 188, 211, 244, 261, 288, 315]) (inl := []) (pf := gpea) gpea_ok 400 (by decide) h
set_option maxRecDepth 20000 in
theorem c202_188 {σ : gS} {K : gK} {l1 l2 l3 : Int32} (h : (NX σ) ∧ (((bI (rTw σ (692581 : Int32))) = 0 → gE 202 211 [some (.ref 323), some (.int l1), some (.int l2), some (.int l3)] [] (if rTw σ (692581 : Int32) then rNx σ else σ) K) ∧ (¬ (bI (rTw σ (692581 : Int32))) = 0 → (NX (if rTw σ (692581 : Int32) then rNx σ else σ)) ∧ (0 ≤ (9 + 10 * l1 + (4 : Int32)) ∧ (9 + 10 * l1 + (4 : Int32)) < 330) ∧ gE 202 211 [some (.ref 323), some (.int l1), some (.int l2), some (.int l3)] [] (gup (rTn (rLk (if rTw σ (692581 : Int32) then rNx σ else σ)) 0 9) 325 (9 + 10 * l1 + (4 : Int32)).toNatClampNeg (rLi (if rTw σ (692581 : Int32) then rNx σ else σ))) K))) : gE 202 188 [some (.ref 323), some (.int l1), some (.int l2), some (.int l3)] [] σ K :=
  gw_run (cy := 202) (cuts := [24, 36, 77, 82, 110, 119, 139, 165, 188, 211, 244, 261, 288, 315]) (inl := []) (pf := gpea) gpea_ok 400 (by decide) h
set_option maxRecDepth 20000 in
theorem c202_211 {σ : gS} {K : gK} {l1 l2 l3 : Int32} (h : (NX σ) ∧ (((bI (rTw σ (13550 : Int32))) = 0 → gE 202 261 [some (.ref 323), some (.int l1), some (.int l2), some (.int l3)] [] (if rTw σ (13550 : Int32) then rNx σ else σ) K) ∧ (¬ (bI (rTw σ (13550 : Int32))) = 0 → (0 ≤ (0 : Int32) ∧ (0 : Int32) < 330) ∧ (NX (if rTw σ (13550 : Int32) then rNx σ else σ)) ∧ (0 ≤ (9 + 10 * l1 + (5 : Int32)) ∧ (9 + 10 * l1 + (5 : Int32)) < 330) ∧ gE 202 244 [some (.ref 323), some (.int l1), some (.int l2), some (.int l3)] [] (gup (rTn (if rTw σ (13550 : Int32) then rNx σ else σ) (0 : Int32) (((if rTw σ (13550 : Int32) then rNx σ else σ) 325 0) - 1)) 325 (9 + 10 * l1 + (5 : Int32)).toNatClampNeg (rNm (if rTw σ (13550 : Int32) then rNx σ else σ) (0 : Int32) (((if rTw σ (13550 : Int32) then rNx σ else σ) 325 0) - 1))) K))) : gE 202 211 [some (.ref 323), some (.int l1), some (.int l2), some (.int l3)] [] σ K :=
  gw_run (cy := 202) (cuts := [24, 36, 77, 82, 110, 119, 139, 165, 188, 211, 244, 261, 288, 315]) (inl := []) (pf := gpea) gpea_ok 400 (by decide) h
set_option maxRecDepth 20000 in
theorem c202_261 {σ : gS} {K : gK} {l1 l2 l3 : Int32} (h : (NX σ) ∧ (((bI (rTw σ (284954995 : Int32))) = 0 → gE 202 288 [some (.ref 323), some (.int l1), some (.int l2), some (.int l3)] [] (if rTw σ (284954995 : Int32) then rNx σ else σ) K) ∧ (¬ (bI (rTw σ (284954995 : Int32))) = 0 → (NX (if rTw σ (284954995 : Int32) then rNx σ else σ)) ∧ (0 ≤ (9 + 10 * l1 + (7 : Int32)) ∧ (9 + 10 * l1 + (7 : Int32)) < 330) ∧ gE 202 288 [some (.ref 323), some (.int l1), some (.int l2), some (.int l3)] [] (gup (rTn (if rTw σ (284954995 : Int32) then rNx σ else σ) (0 : Int32) (99 : Int32)) 325 (9 + 10 * l1 + (7 : Int32)).toNatClampNeg (rNm (if rTw σ (284954995 : Int32) then rNx σ else σ) (0 : Int32) (99 : Int32))) K))) : gE 202 261 [some (.ref 323), some (.int l1), some (.int l2), some (.int l3)] [] σ K :=
  gw_run (cy := 202) (cuts := [24, 36, 77, 82, 110, 119, 139, 165, 188, 211, 244, 261, 288, 315]) (inl := []) (pf := gpea) gpea_ok 400 (by decide) h
set_option maxRecDepth 20000 in
theorem c202_244 {σ : gS} {K : gK} {l1 l2 l3 : Int32} (h : (NX σ) ∧ (0 ≤ (9 + 10 * l1 + (6 : Int32)) ∧ (9 + 10 * l1 + (6 : Int32)) < 330) ∧ gE 202 261 [some (.ref 323), some (.int l1), some (.int l2), some (.int l3)] [] (gup (rTn σ (0 : Int32) (3 : Int32)) 325 (9 + 10 * l1 + (6 : Int32)).toNatClampNeg (rNm σ (0 : Int32) (3 : Int32))) K) : gE 202 244 [some (.ref 323), some (.int l1), some (.int l2), some (.int l3)] [] σ K :=
  gw_run (cy := 202) (cuts := [24, 36, 77, 82, 110, 119, 139, 165, 188, 211, 244, 261, 288, 315]) (inl := []) (pf := gpea) gpea_ok 400 (by decide) h
set_option maxRecDepth 20000 in
theorem c202_288 {σ : gS} {K : gK} {l1 l2 l3 : Int32} (h : (NX σ) ∧ (((bI (rTw σ (388978 : Int32))) = 0 → gE 202 315 [some (.ref 323), some (.int l1), some (.int l2), some (.int l3)] [] (if rTw σ (388978 : Int32) then rNx σ else σ) K) ∧ (¬ (bI (rTw σ (388978 : Int32))) = 0 → (NX (if rTw σ (388978 : Int32) then rNx σ else σ)) ∧ (0 ≤ (9 + 10 * l1 + (8 : Int32)) ∧ (9 + 10 * l1 + (8 : Int32)) < 330) ∧ gE 202 315 [some (.ref 323), some (.int l1), some (.int l2), some (.int l3)] [] (gup (rTn (if rTw σ (388978 : Int32) then rNx σ else σ) (1 : Int32) (99 : Int32)) 325 (9 + 10 * l1 + (8 : Int32)).toNatClampNeg (rNm (if rTw σ (388978 : Int32) then rNx σ else σ) (1 : Int32) (99 : Int32))) K))) : gE 202 288 [some (.ref 323), some (.int l1), some (.int l2), some (.int l3)] [] σ K :=
  gw_run (cy := 202) (cuts := [24, 36, 77, 82, 110, 119, 139, 165, 188, 211, 244, 261, 288, 315]) (inl := []) (pf := gpea) gpea_ok 400 (by decide) h
set_option maxRecDepth 20000 in
theorem c202_315 {σ : gS} {K : gK} {l1 l2 l3 : Int32} (h : ((¬ (σ 323 13) = 3 → (NX σ) ∧ (((bI (σ 323 15 = 0 ∧ ¬ (0 : Int32) = 0)) = 0 → K none (rTk σ (0 : Int32))) ∧ (¬ (bI (σ 323 15 = 0 ∧ ¬ (0 : Int32) = 0)) = 0 → (0 ≤ (3 : Int32) ∧ (3 : Int32) < 330) ∧ (0 ≤ (3 : Int32) ∧ (3 : Int32) < 330) ∧ K none (gup (rTk σ (0 : Int32)) 325 3 (((rTk σ (0 : Int32)) 325 3) + 1))))) ∧ ((σ 323 13) = 3 → (0 ≤ l1 ∧ l1 < 20) ∧ (((bI (fMay (σ 325) l1.toNatClampNeg l2)) = 0 → (NX σ) ∧ (((bI (σ 323 15 = 0 ∧ ¬ (0 : Int32) = 0)) = 0 → K none (rTk σ (0 : Int32))) ∧ (¬ (bI (σ 323 15 = 0 ∧ ¬ (0 : Int32) = 0)) = 0 → (0 ≤ (3 : Int32) ∧ (3 : Int32) < 330) ∧ (0 ≤ (3 : Int32) ∧ (3 : Int32) < 330) ∧ K none (gup (rTk σ (0 : Int32)) 325 3 (((rTk σ (0 : Int32)) 325 3) + 1))))) ∧ (¬ (bI (fMay (σ 325) l1.toNatClampNeg l2)) = 0 → (NX σ) ∧ (((bI (σ 323 15 = 0 ∧ ¬ (1 : Int32) = 0)) = 0 → K none (rTk σ (1 : Int32))) ∧ (¬ (bI (σ 323 15 = 0 ∧ ¬ (1 : Int32) = 0)) = 0 → (0 ≤ (3 : Int32) ∧ (3 : Int32) < 330) ∧ (0 ≤ (3 : Int32) ∧ (3 : Int32) < 330) ∧ K none (gup (rTk σ (1 : Int32)) 325 3 (((rTk σ (1 : Int32)) 325 3) + 1))))))))) : gE 202 315 [some (.ref 323), some (.int l1), some (.int l2), some (.int l3)] [] σ K :=
  gw_run (cy := 202) (cuts := [24, 36, 77, 82, 110, 119, 139, 165, 188, 211, 244, 261, 288, 315]) (inl := []) (pf := gpea) gpea_ok 400 (by decide) h
theorem qs_119 {σ : gS} {K : gK} {n : Nat} {x v : Int32} (hn : n < 20) (h : NX σ) (hK : gE 202 139 [some (.ref 323), some (.int (iN n)), some (.int x), some (.int v)] [] (qT σ n) K) : gE 202 119 [some (.ref 323), some (.int (iN n)), some (.int x), some (.int v)] [] σ K := by
  unfold qT at hK
  refine c202_119 ⟨h, fun q => ?_, fun q => ?_⟩
  · have q := bI_0.mp q
    rw [if_neg q] at hK ⊢
    exact hK
  · have q := Decidable.not_not.mp (fun z => q (bI_0.mpr z))
    rw [if_pos q] at hK ⊢
    rw [ix1 hn]
    exact ⟨ixb1 hn, hK⟩
theorem qs_139 {σ : gS} {K : gK} {n : Nat} {x v : Int32} (hn : n < 20) (h : NX σ) (hK : gE 202 165 [some (.ref 323), some (.int (iN n)), some (.int x), some (.int v)] [] (qF σ n) K) : gE 202 139 [some (.ref 323), some (.int (iN n)), some (.int x), some (.int v)] [] σ K := by
  unfold qF at hK
  refine c202_139 ⟨h, fun q => ?_, fun q => ?_⟩
  · have q := bI_0.mp q
    rw [if_neg q] at hK ⊢
    exact hK
  · have q := Decidable.not_not.mp (fun z => q (bI_0.mpr z))
    rw [if_pos q] at hK ⊢
    rw [ix2 hn]
    exact ⟨rNx_NX h, ixb2 hn, hK⟩
theorem qs_165 {σ : gS} {K : gK} {n : Nat} {x v : Int32} (hn : n < 20) (h : NX σ) (hK : gE 202 188 [some (.ref 323), some (.int (iN n)), some (.int x), some (.int v)] [] (qW σ n) K) : gE 202 165 [some (.ref 323), some (.int (iN n)), some (.int x), some (.int v)] [] σ K := by
  unfold qW at hK
  refine c202_165 ⟨h, fun q => ?_, fun q => ?_⟩
  · have q := bI_0.mp q
    rw [if_neg q] at hK ⊢
    exact hK
  · have q := Decidable.not_not.mp (fun z => q (bI_0.mpr z))
    rw [if_pos q] at hK ⊢
    rw [ix3 hn]
    exact ⟨rNx_NX h, ixb3 hn, hK⟩
theorem qs_188 {σ : gS} {K : gK} {n : Nat} {x v : Int32} (hn : n < 20) (h : NX σ) (hK : gE 202 211 [some (.ref 323), some (.int (iN n)), some (.int x), some (.int v)] [] (qAh σ n) K) : gE 202 188 [some (.ref 323), some (.int (iN n)), some (.int x), some (.int v)] [] σ K := by
  unfold qAh at hK
  refine c202_188 ⟨h, fun q => ?_, fun q => ?_⟩
  · have q := bI_0.mp q
    rw [if_neg q] at hK ⊢
    exact hK
  · have q := Decidable.not_not.mp (fun z => q (bI_0.mpr z))
    rw [if_pos q] at hK ⊢
    rw [ix4 hn]
    exact ⟨rNx_NX h, ixb4 hn, hK⟩
theorem qs_261 {σ : gS} {K : gK} {n : Nat} {x v : Int32} (hn : n < 20) (h : NX σ) (hK : gE 202 288 [some (.ref 323), some (.int (iN n)), some (.int x), some (.int v)] [] (qS σ n) K) : gE 202 261 [some (.ref 323), some (.int (iN n)), some (.int x), some (.int v)] [] σ K := by
  unfold qS at hK
  refine c202_261 ⟨h, fun q => ?_, fun q => ?_⟩
  · have q := bI_0.mp q
    rw [if_neg q] at hK ⊢
    exact hK
  · have q := Decidable.not_not.mp (fun z => q (bI_0.mpr z))
    rw [if_pos q] at hK ⊢
    rw [ix7 hn]
    exact ⟨rNx_NX h, ixb7 hn, hK⟩
theorem qs_288 {σ : gS} {K : gK} {n : Nat} {x v : Int32} (hn : n < 20) (h : NX σ) (hK : gE 202 315 [some (.ref 323), some (.int (iN n)), some (.int x), some (.int v)] [] (qP σ n) K) : gE 202 288 [some (.ref 323), some (.int (iN n)), some (.int x), some (.int v)] [] σ K := by
  unfold qP at hK
  refine c202_288 ⟨h, fun q => ?_, fun q => ?_⟩
  · have q := bI_0.mp q
    rw [if_neg q] at hK ⊢
    exact hK
  · have q := Decidable.not_not.mp (fun z => q (bI_0.mpr z))
    rw [if_pos q] at hK ⊢
    rw [ix8 hn]
    exact ⟨rNx_NX h, ixb8 hn, hK⟩
theorem qs_211 {σ : gS} {K : gK} {n : Nat} {x v : Int32} (hn : n < 20) (h : NX σ) (hK : gE 202 261 [some (.ref 323), some (.int (iN n)), some (.int x), some (.int v)] [] (qR σ n) K) : gE 202 211 [some (.ref 323), some (.int (iN n)), some (.int x), some (.int v)] [] σ K := by
  unfold qR at hK
  refine c202_211 ⟨h, fun q => ?_, fun q => ?_⟩
  · have q := bI_0.mp q
    rw [if_neg q] at hK ⊢
    exact hK
  · have q := Decidable.not_not.mp (fun z => q (bI_0.mpr z))
    rw [if_pos q] at hK ⊢
    have e : rNx σ 325 = σ 325 := rNx_far (by decide)
    rw [ix5 hn, e]
    refine ⟨by decide, rNx_NX h, ixb5 hn, ?_⟩
    have k : NX (qR1 σ n) := qR1_I.1 h
    unfold qR1 at hK k
    refine c202_244 ⟨k, ixb6 hn, ?_⟩
    rw [ix6 hn]
    exact hK
theorem qs_315 {σ : gS} {K : gK} {n : Nat} {x v : Int32} (hn : n < 20) (h : NX σ) (hK : K none (qZ σ n x)) : gE 202 315 [some (.ref 323), some (.int (iN n)), some (.int x), some (.int v)] [] σ K := by
  have b : 0 ≤ iN n ∧ iN n < 20 := ⟨(iN_le (k := 0) (by decide) (by omega)).mpr (by omega), (iN_lt (m := 20) (by omega) (by decide)).mpr hn⟩
  unfold qZ at hK
  have no : ¬ (σ 323 13 = 3 ∧ fMay (σ 325) n x) → K none (rTk σ 0) := fun q => by rw [if_neg q] at hK; exact hK
  refine c202_315 ⟨fun q => ⟨h, fun _ => no (fun z => q z.1), fun z => absurd (bI_0.mpr (fun z => z.2 rfl)) z⟩, fun q => ⟨b, fun q2 => ⟨h, fun _ => no (fun z => ?_), fun z => absurd (bI_0.mpr (fun z => z.2 rfl)) z⟩, fun q2 => ⟨h, fun q3 => ?_, fun q3 => ⟨by decide, by decide, ?_⟩⟩⟩⟩
  · rw [iN_nat (by omega)] at q2
    exact bI_0.mp q2 z.2
  · have q3 : ¬ σ 323 15 = 0 := fun z => bI_0.mp q3 ⟨z, by decide⟩
    rw [iN_nat (by omega)] at q2
    rw [if_pos ⟨q, Decidable.not_not.mp (fun z => q2 (bI_0.mpr z))⟩, if_neg q3] at hK
    rw [rTk_f q3]
    exact hK
  · have q3 := Decidable.not_not.mp (fun z => q3 (bI_0.mpr z))
    rw [iN_nat (by omega)] at q2
    rw [if_pos ⟨q, Decidable.not_not.mp (fun z => q2 (bI_0.mpr z))⟩, if_pos q3.1] at hK
    exact hK
noncomputable def hRs2 (b : gS) (n : Nat) (x : Int32) : gS := if b 323 15 = 0 ∧ q3c b then qZ (qMid (grow (rTk b 1) 325 (fNew (b 325) x (b 323 14))) n) n x else rTk b 0
noncomputable def hRs1 (a : gS) : gS := hRs2 (rTk a (bI (q2c a (a 323 14)))) (a 325 3).toNatClampNeg (a 323 14)
theorem hRs_x : ∃ f : gS → gS, ∀ σ, f σ = if σ 325 3 < 20 then hRs1 (rTk σ 1) else rTk σ 0 := ⟨fun σ => if σ 325 3 < 20 then hRs1 (rTk σ 1) else rTk σ 0, fun _ => rfl⟩
noncomputable def hRs : gS → gS := Classical.choose hRs_x
theorem hRs_e : ∀ σ, hRs σ = if σ 325 3 < 20 then hRs1 (rTk σ 1) else rTk σ 0 := Classical.choose_spec hRs_x
theorem NX_gr {σ : gS} {R : gW} (h : NX σ) : NX (grow σ 325 R) := NX_cg h (by rw [grow_ne (by decide)]) (by rw [grow_ne (by decide)])
theorem qs_110 {σ : gS} {K : gK} {n : Nat} {x v : Int32} (hn : n < 20) (h3 : σ 325 3 = iN n) (h : NX σ) (hK : K none (qZ (qMid (grow σ 325 (fNew (σ 325) x v)) n) n x)) : gE 202 110 [some (.ref 323), some (.int (iN n)), some (.int x), some (.int v)] [] σ K := by
  have b : 0 ≤ σ 325 3 ∧ σ 325 3 < 20 := by
    rw [h3]
    exact ⟨(iN_le (k := 0) (by decide) (by omega)).mpr (by omega), (iN_lt (m := 20) (by omega) (by decide)).mpr hn⟩
  have k := NX_gr (R := fNew (σ 325) x v) h
  unfold qMid at hK
  have k1 := (qT_I (n := n)).1 k
  have k2 := (qF_I (n := n)).1 k1
  have k3 := (qW_I (n := n)).1 k2
  have k4 := (qAh_I (n := n)).1 k3
  have k5 := (qR_I (n := n)).1 k4
  have k6 := (qS_I (n := n)).1 k5
  have k7 := (qP_I (n := n)).1 k6
  exact c202_110 ⟨b, qs_119 hn k (qs_139 hn k1 (qs_165 hn k2 (qs_188 hn k3 (qs_211 hn k4 (qs_261 hn k5 (qs_288 hn k6 (qs_315 hn k7 hK)))))))⟩
theorem qs_77 {σ : gS} {K : gK} {n : Nat} {x : Int32} (hn : n < 20) (h3 : σ 325 3 = iN n) (h : NX σ) (hv : KV σ) (hK : K none (hRs2 σ n x)) : gE 202 77 [some (.ref 323), some (.int (iN n)), some (.int x), none] [] σ K := by
  unfold hRs2 at hK
  have no : ¬ (σ 323 15 = 0 ∧ q3c σ) → K none (rTk σ 0) := fun q => by rw [if_neg q] at hK; exact hK
  refine c202_77 (c202_82 ⟨fun q => ⟨h, fun z => absurd (bI_0.mpr (fun z => z.2 rfl)) z, fun _ => no (fun z => q z.2.1)⟩, fun q => ⟨hv q, fun q2 => ⟨h, fun z => absurd (bI_0.mpr (fun z => z.2 rfl)) z, fun _ => no (fun z => bI_0.mp q2 z.2.2)⟩, fun q2 => ⟨h, fun q3 => ?_, fun q3 => ?_⟩⟩⟩)
  · have q3 := Decidable.not_not.mp (fun z => q3 (bI_0.mpr z))
    have q2 := Decidable.not_not.mp (fun z => q2 (bI_0.mpr z))
    rw [if_pos ⟨q3.1, q, q2⟩] at hK
    have e : rTk σ 1 325 = σ 325 := rTk_far (by decide)
    refine qs_110 hn (by rw [e]; exact h3) (rTk_NX h) ?_
    rw [e]
    exact hK
  · have q3 : ¬ σ 323 15 = 0 := fun z => bI_0.mp q3 ⟨z, by decide⟩
    rw [rTk_f q3]
    have := no (fun z => q3 z.1)
    rw [rTk_f q3] at this
    exact this
theorem qs_24 {σ : gS} {K : gK} (h : NX σ) (hv : KV σ) (h3 : 0 ≤ σ 325 3 ∧ σ 325 3 < 20) (hK : K none (hRs1 σ)) : gE 202 24 [some (.ref 323), none, none, none] [] σ K := by
  obtain ⟨e, l⟩ := t20 h3
  obtain ⟨n, hn⟩ : ∃ n, (σ 325 3).toNatClampNeg = n := ⟨_, rfl⟩
  rw [hn] at e l
  unfold hRs1 at hK
  rw [hn] at hK
  refine c202_24 ⟨by decide, ?_⟩
  rw [e]
  have go : ∀ c, K none (hRs2 (rTk σ c) n (σ 323 14)) → gE 202 77 [some (.ref 323), some (.int (iN n)), some (.int (σ 323 14)), none] [] (rTk σ c) K := fun c hc => qs_77 l (by rw [rTk_far (by decide)]; exact e) (rTk_NX h) (rTk_KV hv) hc
  have no : ¬ q2c σ (σ 323 14) → K none (hRs2 (rTk σ 0) n (σ 323 14)) := fun q => by rw [bI_n q] at hK; exact hK
  refine c202_36 ⟨fun q => ⟨h, go 0 (no (fun z => q z.1))⟩, fun q => ⟨by decide, fun q2 => ⟨h, go 0 (no (fun z => q2 z.2.1))⟩, fun q2 => ⟨⟨h3.1, by have := h3.2; grind⟩, fun q3 => ⟨h, go 0 (no (fun z => q3 z.2.2))⟩, fun q3 => ⟨h, go 1 ?_⟩⟩⟩⟩
  rw [bI_y ⟨q, q2, q3⟩] at hK
  exact hK
theorem s202 {σ : gS} {K : gK} (hc : (NX σ ∧ KV σ) ∧ σ 323 15 = 0 ∧ (0 ≤ σ 325 3 ∧ σ 325 3 ≤ 20)) (hK : K none (hRs σ)) : gE 202 0 [some (.ref 323), none, none, none] [] σ K := by
  obtain ⟨⟨h, hv⟩, hf, h3⟩ := hc
  rw [hRs_e] at hK
  refine w202 ⟨by decide, fun q => ⟨h, fun z => absurd (bI_0.mpr (fun z => z.2 rfl)) z, fun _ => ?_⟩, fun q => ⟨h, fun _ => ?_, fun z => absurd ⟨hf, by decide⟩ (bI_0.mp z)⟩⟩
  · rw [if_neg q] at hK
    exact hK
  · rw [if_pos q] at hK
    exact qs_24 (rTk_NX h) (rTk_KV hv) (by rw [rTk_far (by decide)]; exact ⟨h3.1, q⟩) hK
noncomputable def f202 : gD := fun Lv σ => match Lv with
  | [some (.ref q0), none, none, none] => cond (Nat.beq q0 323) (some (some ((NX σ ∧ KV σ) ∧ σ 323 15 = 0 ∧ (0 ≤ σ 325 3 ∧ σ 325 3 ≤ 20)), none, hRs σ)) none
  | _ => none
theorem ok202 : gFok 202 f202 := by
  intro Lv σ q h hc K hK
  unfold f202 at h
  split at h
  · rename_i q0
    obtain ⟨hb, h⟩ := c_no h
    have hb0 := hb
    have e0 := b_eq hb0
    subst e0
    cases h
    exact s202 (hc _ rfl) hK
  · cases h
noncomputable def gpeb_l : List (Nat × gD) := (202, f202) :: gpea_l
noncomputable def gpeb : gP := gpl0 gpeb_l
theorem gpeb_ok : gPok gpeb := gpl0_cons ok202 (gpea_ok)
