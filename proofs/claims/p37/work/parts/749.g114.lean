-- text 114
/-! THE LAW: its loop -/
set_option maxRecDepth 20000 in
theorem l18 {σ : gS} {K : gK} {i : Int32} {u4 u5 u6 u7 : Option Value} (h : ((((σ 1000001 0) - 6) < i → ((1 : Int32) = 0 ∨ (1 : Int32) = 1) ∧ K (some (.int 1)) σ) ∧ (¬ ((σ 1000001 0) - 6) < i → (0 ≤ i ∧ i < σ 1000001 0) ∧ ((0 : Int) + 39 = 38 + 1 ∧ ((((σ 1000000 i.toNatClampNeg) &&& 63) = 0 → gE 271 204 [some (.ref 1000000), some (.ref 0), some (.ref 323), some (.int i), u4, u5, u6, u7] [] σ K) ∧ (¬ ((σ 1000000 i.toNatClampNeg) &&& 63) = 0 → ((((σ 1000000 i.toNatClampNeg) &&& 63) = 1 → gE 271 267 [some (.ref 1000000), some (.ref 0), some (.ref 323), some (.int i), u4, u5, u6, u7] [] σ K) ∧ (¬ ((σ 1000000 i.toNatClampNeg) &&& 63) = 1 → ((((σ 1000000 i.toNatClampNeg) &&& 63) = 2 → gE 271 290 [some (.ref 1000000), some (.ref 0), some (.ref 323), some (.int i), u4, u5, u6, u7] [] σ K) ∧ (¬ ((σ 1000000 i.toNatClampNeg) &&& 63) = 2 → ((((σ 1000000 i.toNatClampNeg) &&& 63) = 3 → gE 271 303 [some (.ref 1000000), some (.ref 0), some (.ref 323), some (.int i), u4, u5, u6, u7] [] σ K) ∧ (¬ ((σ 1000000 i.toNatClampNeg) &&& 63) = 3 → ((((σ 1000000 i.toNatClampNeg) &&& 63) = 4 → gE 271 316 [some (.ref 1000000), some (.ref 0), some (.ref 323), some (.int i), u4, u5, u6, u7] [] σ K) ∧ (¬ ((σ 1000000 i.toNatClampNeg) &&& 63) = 4 → ((((σ 1000000 i.toNatClampNeg) &&& 63) = 5 → gE 271 379 [some (.ref 1000000), some (.ref 0), some (.ref 323), some (.int i), u4, u5, u6, u7] [] σ K) ∧ (¬ ((σ 1000000 i.toNatClampNeg) &&& 63) = 5 → ((((σ 1000000 i.toNatClampNeg) &&& 63) = 6 → gE 271 422 [some (.ref 1000000), some (.ref 0), some (.ref 323), some (.int i), u4, u5, u6, u7] [] σ K) ∧ (¬ ((σ 1000000 i.toNatClampNeg) &&& 63) = 6 → ((((σ 1000000 i.toNatClampNeg) &&& 63) = 7 → gE 271 445 [some (.ref 1000000), some (.ref 0), some (.ref 323), some (.int i), u4, u5, u6, u7] [] σ K) ∧ (¬ ((σ 1000000 i.toNatClampNeg) &&& 63) = 7 → ((((σ 1000000 i.toNatClampNeg) &&& 63) = 8 → gE 271 488 [some (.ref 1000000), some (.ref 0), some (.ref 323), some (.int i), u4, u5, u6, u7] [] σ K) ∧ (¬ ((σ 1000000 i.toNatClampNeg) &&& 63) = 8 → ((((σ 1000000 i.toNatClampNeg) &&& 63) = 9 → gE 271 521 [some (.ref 1000000), some (.ref 0), some (.ref 323), some (.int i), u4, u5, u6, u7] [] σ K) ∧ (¬ ((σ 1000000 i.toNatClampNeg) &&& 63) = 9 → ((((σ 1000000 i.toNatClampNeg) &&& 63) = 10 → gE 271 564 [some (.ref 1000000), some (.ref 0), some (.ref 323), some (.int i), u4, u5, u6, u7] [] σ K) ∧ (¬ ((σ 1000000 i.toNatClampNeg) &&& 63) = 10 → ((((σ 1000000 i.toNatClampNeg) &&& 63) = 11 → gE 271 577 [some (.ref 1000000), some (.ref 0), some (.ref 323), some (.int i), u4, u5, u6, u7] [] σ K) ∧ (¬ ((σ 1000000 i.toNatClampNeg) &&& 63) = 11 → ((((σ 1000000 i.toNatClampNeg) &&& 63) = 12 → gE 271 600 [some (.ref 1000000), some (.ref 0), some (.ref 323), some (.int i), u4, u5, u6, u7] [] σ K) ∧ (¬ ((σ 1000000 i.toNatClampNeg) &&& 63) = 12 → ((((σ 1000000 i.toNatClampNeg) &&& 63) = 13 → gE 271 623 [some (.ref 1000000), some (.ref 0), some (.ref 323), some (.int i), u4, u5, u6, u7] [] σ K) ∧ (¬ ((σ 1000000 i.toNatClampNeg) &&& 63) = 13 → ((((σ 1000000 i.toNatClampNeg) &&& 63) = 14 → gE 271 646 [some (.ref 1000000), some (.ref 0), some (.ref 323), some (.int i), u4, u5, u6, u7] [] σ K) ∧ (¬ ((σ 1000000 i.toNatClampNeg) &&& 63) = 14 → ((((σ 1000000 i.toNatClampNeg) &&& 63) = 15 → gE 271 659 [some (.ref 1000000), some (.ref 0), some (.ref 323), some (.int i), u4, u5, u6, u7] [] σ K) ∧ (¬ ((σ 1000000 i.toNatClampNeg) &&& 63) = 15 → ((((σ 1000000 i.toNatClampNeg) &&& 63) = 16 → gE 271 682 [some (.ref 1000000), some (.ref 0), some (.ref 323), some (.int i), u4, u5, u6, u7] [] σ K) ∧ (¬ ((σ 1000000 i.toNatClampNeg) &&& 63) = 16 → ((((σ 1000000 i.toNatClampNeg) &&& 63) = 17 → gE 271 715 [some (.ref 1000000), some (.ref 0), some (.ref 323), some (.int i), u4, u5, u6, u7] [] σ K) ∧ (¬ ((σ 1000000 i.toNatClampNeg) &&& 63) = 17 → ((((σ 1000000 i.toNatClampNeg) &&& 63) = 18 → gE 271 748 [some (.ref 1000000), some (.ref 0), some (.ref 323), some (.int i), u4, u5, u6, u7] [] σ K) ∧ (¬ ((σ 1000000 i.toNatClampNeg) &&& 63) = 18 → ((((σ 1000000 i.toNatClampNeg) &&& 63) = 19 → gE 271 771 [some (.ref 1000000), some (.ref 0), some (.ref 323), some (.int i), u4, u5, u6, u7] [] σ K) ∧ (¬ ((σ 1000000 i.toNatClampNeg) &&& 63) = 19 → ((((σ 1000000 i.toNatClampNeg) &&& 63) = 20 → gE 271 804 [some (.ref 1000000), some (.ref 0), some (.ref 323), some (.int i), u4, u5, u6, u7] [] σ K) ∧ (¬ ((σ 1000000 i.toNatClampNeg) &&& 63) = 20 → ((((σ 1000000 i.toNatClampNeg) &&& 63) = 21 → gE 271 837 [some (.ref 1000000), some (.ref 0), some (.ref 323), some (.int i), u4, u5, u6, u7] [] σ K) ∧ (¬ ((σ 1000000 i.toNatClampNeg) &&& 63) = 21 → ((((σ 1000000 i.toNatClampNeg) &&& 63) = 22 → gE 271 860 [some (.ref 1000000), some (.ref 0), some (.ref 323), some (.int i), u4, u5, u6, u7] [] σ K) ∧ (¬ ((σ 1000000 i.toNatClampNeg) &&& 63) = 22 → ((((σ 1000000 i.toNatClampNeg) &&& 63) = 23 → gE 271 903 [some (.ref 1000000), some (.ref 0), some (.ref 323), some (.int i), u4, u5, u6, u7] [] σ K) ∧ (¬ ((σ 1000000 i.toNatClampNeg) &&& 63) = 23 → ((((σ 1000000 i.toNatClampNeg) &&& 63) = 24 → gE 271 936 [some (.ref 1000000), some (.ref 0), some (.ref 323), some (.int i), u4, u5, u6, u7] [] σ K) ∧ (¬ ((σ 1000000 i.toNatClampNeg) &&& 63) = 24 → ((((σ 1000000 i.toNatClampNeg) &&& 63) = 25 → gE 271 969 [some (.ref 1000000), some (.ref 0), some (.ref 323), some (.int i), u4, u5, u6, u7] [] σ K) ∧ (¬ ((σ 1000000 i.toNatClampNeg) &&& 63) = 25 → ((((σ 1000000 i.toNatClampNeg) &&& 63) = 26 → gE 271 1012 [some (.ref 1000000), some (.ref 0), some (.ref 323), some (.int i), u4, u5, u6, u7] [] σ K) ∧ (¬ ((σ 1000000 i.toNatClampNeg) &&& 63) = 26 → ((((σ 1000000 i.toNatClampNeg) &&& 63) = 27 → gE 271 1045 [some (.ref 1000000), some (.ref 0), some (.ref 323), some (.int i), u4, u5, u6, u7] [] σ K) ∧ (¬ ((σ 1000000 i.toNatClampNeg) &&& 63) = 27 → ((((σ 1000000 i.toNatClampNeg) &&& 63) = 28 → gE 271 1068 [some (.ref 1000000), some (.ref 0), some (.ref 323), some (.int i), u4, u5, u6, u7] [] σ K) ∧ (¬ ((σ 1000000 i.toNatClampNeg) &&& 63) = 28 → ((((σ 1000000 i.toNatClampNeg) &&& 63) = 29 → gE 271 1091 [some (.ref 1000000), some (.ref 0), some (.ref 323), some (.int i), u4, u5, u6, u7] [] σ K) ∧ (¬ ((σ 1000000 i.toNatClampNeg) &&& 63) = 29 → ((((σ 1000000 i.toNatClampNeg) &&& 63) = 30 → gE 271 1104 [some (.ref 1000000), some (.ref 0), some (.ref 323), some (.int i), u4, u5, u6, u7] [] σ K) ∧ (¬ ((σ 1000000 i.toNatClampNeg) &&& 63) = 30 → ((((σ 1000000 i.toNatClampNeg) &&& 63) = 31 → gE 271 1127 [some (.ref 1000000), some (.ref 0), some (.ref 323), some (.int i), u4, u5, u6, u7] [] σ K) ∧ (¬ ((σ 1000000 i.toNatClampNeg) &&& 63) = 31 → ((((σ 1000000 i.toNatClampNeg) &&& 63) = 32 → gE 271 1150 [some (.ref 1000000), some (.ref 0), some (.ref 323), some (.int i), u4, u5, u6, u7] [] σ K) ∧ (¬ ((σ 1000000 i.toNatClampNeg) &&& 63) = 32 → ((((σ 1000000 i.toNatClampNeg) &&& 63) = 33 → gE 271 1183 [some (.ref 1000000), some (.ref 0), some (.ref 323), some (.int i), u4, u5, u6, u7] [] σ K) ∧ (¬ ((σ 1000000 i.toNatClampNeg) &&& 63) = 33 → ((((σ 1000000 i.toNatClampNeg) &&& 63) = 34 → gE 271 1200 [some (.ref 1000000), some (.ref 0), some (.ref 323), some (.int i), u4, u5, u6, u7] [] σ K) ∧ (¬ ((σ 1000000 i.toNatClampNeg) &&& 63) = 34 → ((((σ 1000000 i.toNatClampNeg) &&& 63) = 35 → gE 271 1215 [some (.ref 1000000), some (.ref 0), some (.ref 323), some (.int i), u4, u5, u6, u7] [] σ K) ∧ (¬ ((σ 1000000 i.toNatClampNeg) &&& 63) = 35 → ((((σ 1000000 i.toNatClampNeg) &&& 63) = 36 → gE 271 1228 [some (.ref 1000000), some (.ref 0), some (.ref 323), some (.int i), u4, u5, u6, u7] [] σ K) ∧ (¬ ((σ 1000000 i.toNatClampNeg) &&& 63) = 36 → ((((σ 1000000 i.toNatClampNeg) &&& 63) = 37 → gE 271 1251 [some (.ref 1000000), some (.ref 0), some (.ref 323), some (.int i), u4, u5, u6, u7] [] σ K) ∧ (¬ ((σ 1000000 i.toNatClampNeg) &&& 63) = 37 → ((((σ 1000000 i.toNatClampNeg) &&& 63) = 38 → gE 271 1264 [some (.ref 1000000), some (.ref 0), some (.ref 323), some (.int i), u4, u5, u6, u7] [] σ K) ∧ (¬ ((σ 1000000 i.toNatClampNeg) &&& 63) = 38 → gE 271 1287 [some (.ref 1000000), some (.ref 0), some (.ref 323), some (.int i), u4, u5, u6, u7] [] σ K)))))))))))))))))))))))))))))))))))))))))))))))))))))))))))))))))))))))))))))))))) : gE 271 18 [some (.ref 1000000), some (.ref 0), some (.ref 323), some (.int i), u4, u5, u6, u7] [] σ K :=
  gw_run (cy := 271) (cuts := [18, 1287, 204, 267, 290, 303, 316, 379, 422, 445, 488, 521, 564, 577, 600, 623, 646, 659, 682, 715, 748, 771, 804, 837, 860, 903, 936, 969, 1012, 1045, 1068, 1091, 1104, 1127, 1150, 1183, 1200, 1215, 1228, 1251, 1264]) (inl := []) (pf := gpf0) gpf0_ok 400 (by decide) h
set_option maxRecDepth 20000 in
theorem l1287 {σ : gS} {K : gK} {i : Int32} {u4 u5 u6 u7 : Option Value} (h : gE 271 18 [some (.ref 1000000), some (.ref 0), some (.ref 323), some (.int (i + 6)), u4, u5, u6, u7] [] σ K) : gE 271 1287 [some (.ref 1000000), some (.ref 0), some (.ref 323), some (.int i), u4, u5, u6, u7] [] σ K :=
  gw_run (cy := 271) (cuts := [18, 1287, 204, 267, 290, 303, 316, 379, 422, 445, 488, 521, 564, 577, 600, 623, 646, 659, 682, 715, 748, 771, 804, 837, 860, 903, 936, 969, 1012, 1045, 1068, 1091, 1104, 1127, 1150, 1183, 1200, 1215, 1228, 1251, 1264]) (inl := []) (pf := gpf0) gpf0_ok 400 (by decide) h
set_option maxRecDepth 20000 in
theorem l_0 {σ : gS} {K : gK} {i : Int32} {u4 u5 u6 u7 : Option Value} (h : (0 ≤ (i + 1) ∧ (i + 1) < σ 1000001 0) ∧ (0 ≤ (i + 2) ∧ (i + 2) < σ 1000001 0) ∧ (0 ≤ (i + 3) ∧ (i + 3) < σ 1000001 0) ∧ (0 ≤ (i + 4) ∧ (i + 4) < σ 1000001 0) ∧ (0 ≤ (i + 5) ∧ (i + 5) < σ 1000001 0) ∧ gXi 108 [some (.ref 0), some (.int (σ 1000000 (i + 1).toNatClampNeg)), some (.int (σ 1000000 (i + 2).toNatClampNeg)), some (.int (σ 1000000 (i + 3).toNatClampNeg)), some (.int (σ 1000000 (i + 4).toNatClampNeg)), some (.int (σ 1000000 (i + 5).toNatClampNeg))] σ (fun x1 s1 => (0 ≤ (i + 1) ∧ (i + 1) < s1 1000001 0) ∧ (0 ≤ (i + 2) ∧ (i + 2) < s1 1000001 0) ∧ (0 ≤ (i + 3) ∧ (i + 3) < s1 1000001 0) ∧ (0 ≤ (i + 4) ∧ (i + 4) < s1 1000001 0) ∧ (0 ≤ (i + 5) ∧ (i + 5) < s1 1000001 0) ∧ gXi 184 [some (.ref 323), some (.int (s1 1000000 (i + 1).toNatClampNeg)), some (.int (s1 1000000 (i + 2).toNatClampNeg)), some (.int (s1 1000000 (i + 3).toNatClampNeg)), some (.int (s1 1000000 (i + 4).toNatClampNeg)), some (.int (s1 1000000 (i + 5).toNatClampNeg)), none, none] s1 (fun x2 s2 => gE 271 1287 [some (.ref 1000000), some (.ref 0), some (.ref 323), some (.int i), u4, u5, u6, u7] [] s2 K))) : gE 271 204 [some (.ref 1000000), some (.ref 0), some (.ref 323), some (.int i), u4, u5, u6, u7] [] σ K :=
  gw_run (cy := 271) (cuts := [18, 1287, 204, 267, 290, 303, 316, 379, 422, 445, 488, 521, 564, 577, 600, 623, 646, 659, 682, 715, 748, 771, 804, 837, 860, 903, 936, 969, 1012, 1045, 1068, 1091, 1104, 1127, 1150, 1183, 1200, 1215, 1228, 1251, 1264]) (inl := []) (pf := gpf0) gpf0_ok 400 (by decide) h
set_option maxRecDepth 20000 in
theorem l_1 {σ : gS} {K : gK} {i : Int32} {u4 u5 u6 u7 : Option Value} (h : (0 ≤ (i + 1) ∧ (i + 1) < σ 1000001 0) ∧ gXi 109 [some (.ref 0), some (.int (σ 1000000 (i + 1).toNatClampNeg))] σ (fun x1 s1 => (0 ≤ (i + 1) ∧ (i + 1) < s1 1000001 0) ∧ gXi 185 [some (.ref 323), some (.int (s1 1000000 (i + 1).toNatClampNeg))] s1 (fun x2 s2 => gE 271 1287 [some (.ref 1000000), some (.ref 0), some (.ref 323), some (.int i), u4, u5, u6, u7] [] s2 K))) : gE 271 267 [some (.ref 1000000), some (.ref 0), some (.ref 323), some (.int i), u4, u5, u6, u7] [] σ K :=
  gw_run (cy := 271) (cuts := [18, 1287, 204, 267, 290, 303, 316, 379, 422, 445, 488, 521, 564, 577, 600, 623, 646, 659, 682, 715, 748, 771, 804, 837, 860, 903, 936, 969, 1012, 1045, 1068, 1091, 1104, 1127, 1150, 1183, 1200, 1215, 1228, 1251, 1264]) (inl := []) (pf := gpf0) gpf0_ok 400 (by decide) h
set_option maxRecDepth 20000 in
theorem l_2 {σ : gS} {K : gK} {i : Int32} {u4 u5 u6 u7 : Option Value} (h : gXi 110 [some (.ref 0), none, none] σ (fun x1 s1 => gXi 203 [some (.ref 323), none] s1 (fun x2 s2 => gE 271 1287 [some (.ref 1000000), some (.ref 0), some (.ref 323), some (.int i), u4, u5, u6, u7] [] s2 K))) : gE 271 290 [some (.ref 1000000), some (.ref 0), some (.ref 323), some (.int i), u4, u5, u6, u7] [] σ K :=
  gw_run (cy := 271) (cuts := [18, 1287, 204, 267, 290, 303, 316, 379, 422, 445, 488, 521, 564, 577, 600, 623, 646, 659, 682, 715, 748, 771, 804, 837, 860, 903, 936, 969, 1012, 1045, 1068, 1091, 1104, 1127, 1150, 1183, 1200, 1215, 1228, 1251, 1264]) (inl := []) (pf := gpf0) gpf0_ok 400 (by decide) h
set_option maxRecDepth 20000 in
theorem l_3 {σ : gS} {K : gK} {i : Int32} {u4 u5 u6 u7 : Option Value} (h : gXi 111 [some (.ref 0)] σ (fun x1 s1 => gXi 186 [some (.ref 323)] s1 (fun x2 s2 => gE 271 1287 [some (.ref 1000000), some (.ref 0), some (.ref 323), some (.int i), u4, u5, u6, u7] [] s2 K))) : gE 271 303 [some (.ref 1000000), some (.ref 0), some (.ref 323), some (.int i), u4, u5, u6, u7] [] σ K :=
  gw_run (cy := 271) (cuts := [18, 1287, 204, 267, 290, 303, 316, 379, 422, 445, 488, 521, 564, 577, 600, 623, 646, 659, 682, 715, 748, 771, 804, 837, 860, 903, 936, 969, 1012, 1045, 1068, 1091, 1104, 1127, 1150, 1183, 1200, 1215, 1228, 1251, 1264]) (inl := []) (pf := gpf0) gpf0_ok 400 (by decide) h
set_option maxRecDepth 20000 in
theorem l_4 {σ : gS} {K : gK} {i : Int32} {u4 u5 u6 u7 : Option Value} (h : (0 ≤ (i + 1) ∧ (i + 1) < σ 1000001 0) ∧ (0 ≤ (i + 2) ∧ (i + 2) < σ 1000001 0) ∧ (0 ≤ (i + 3) ∧ (i + 3) < σ 1000001 0) ∧ (0 ≤ (i + 4) ∧ (i + 4) < σ 1000001 0) ∧ (0 ≤ (i + 5) ∧ (i + 5) < σ 1000001 0) ∧ gXi 112 [some (.ref 0), some (.int (σ 1000000 (i + 1).toNatClampNeg)), some (.int (σ 1000000 (i + 2).toNatClampNeg)), some (.int (σ 1000000 (i + 3).toNatClampNeg)), some (.int (σ 1000000 (i + 4).toNatClampNeg)), some (.int (σ 1000000 (i + 5).toNatClampNeg)), none] σ (fun x1 s1 => (0 ≤ (i + 1) ∧ (i + 1) < s1 1000001 0) ∧ (0 ≤ (i + 2) ∧ (i + 2) < s1 1000001 0) ∧ (0 ≤ (i + 3) ∧ (i + 3) < s1 1000001 0) ∧ (0 ≤ (i + 4) ∧ (i + 4) < s1 1000001 0) ∧ (0 ≤ (i + 5) ∧ (i + 5) < s1 1000001 0) ∧ gXi 208 [some (.ref 323), some (.int (s1 1000000 (i + 1).toNatClampNeg)), some (.int (s1 1000000 (i + 2).toNatClampNeg)), some (.int (s1 1000000 (i + 3).toNatClampNeg)), some (.int (s1 1000000 (i + 4).toNatClampNeg)), some (.int (s1 1000000 (i + 5).toNatClampNeg)), none, none] s1 (fun x2 s2 => gE 271 1287 [some (.ref 1000000), some (.ref 0), some (.ref 323), some (.int i), u4, u5, u6, u7] [] s2 K))) : gE 271 316 [some (.ref 1000000), some (.ref 0), some (.ref 323), some (.int i), u4, u5, u6, u7] [] σ K :=
  gw_run (cy := 271) (cuts := [18, 1287, 204, 267, 290, 303, 316, 379, 422, 445, 488, 521, 564, 577, 600, 623, 646, 659, 682, 715, 748, 771, 804, 837, 860, 903, 936, 969, 1012, 1045, 1068, 1091, 1104, 1127, 1150, 1183, 1200, 1215, 1228, 1251, 1264]) (inl := []) (pf := gpf0) gpf0_ok 400 (by decide) h
set_option maxRecDepth 20000 in
theorem l_5 {σ : gS} {K : gK} {i : Int32} {u4 u5 u6 u7 : Option Value} (h : (0 ≤ (i + 1) ∧ (i + 1) < σ 1000001 0) ∧ (0 ≤ (i + 2) ∧ (i + 2) < σ 1000001 0) ∧ (0 ≤ (i + 3) ∧ (i + 3) < σ 1000001 0) ∧ gXi 113 [some (.ref 0), some (.int (σ 1000000 (i + 1).toNatClampNeg)), some (.int (σ 1000000 (i + 2).toNatClampNeg)), some (.int (σ 1000000 (i + 3).toNatClampNeg)), none, none, none] σ (fun x1 s1 => (0 ≤ (i + 1) ∧ (i + 1) < s1 1000001 0) ∧ (0 ≤ (i + 2) ∧ (i + 2) < s1 1000001 0) ∧ (0 ≤ (i + 3) ∧ (i + 3) < s1 1000001 0) ∧ gXi 211 [some (.ref 323), some (.int (s1 1000000 (i + 1).toNatClampNeg)), some (.int (s1 1000000 (i + 2).toNatClampNeg)), some (.int (s1 1000000 (i + 3).toNatClampNeg)), none] s1 (fun x2 s2 => gE 271 1287 [some (.ref 1000000), some (.ref 0), some (.ref 323), some (.int i), u4, u5, u6, u7] [] s2 K))) : gE 271 379 [some (.ref 1000000), some (.ref 0), some (.ref 323), some (.int i), u4, u5, u6, u7] [] σ K :=
  gw_run (cy := 271) (cuts := [18, 1287, 204, 267, 290, 303, 316, 379, 422, 445, 488, 521, 564, 577, 600, 623, 646, 659, 682, 715, 748, 771, 804, 837, 860, 903, 936, 969, 1012, 1045, 1068, 1091, 1104, 1127, 1150, 1183, 1200, 1215, 1228, 1251, 1264]) (inl := []) (pf := gpf0) gpf0_ok 400 (by decide) h
set_option maxRecDepth 20000 in
theorem l_6 {σ : gS} {K : gK} {i : Int32} {u4 u5 u6 u7 : Option Value} (h : (0 ≤ (i + 1) ∧ (i + 1) < σ 1000001 0) ∧ gXi 114 [some (.ref 0), some (.int (σ 1000000 (i + 1).toNatClampNeg)), none] σ (fun x1 s1 => (0 ≤ (i + 1) ∧ (i + 1) < s1 1000001 0) ∧ gXi 213 [some (.ref 323), some (.int (s1 1000000 (i + 1).toNatClampNeg)), none] s1 (fun x2 s2 => gE 271 1287 [some (.ref 1000000), some (.ref 0), some (.ref 323), some (.int i), u4, u5, u6, u7] [] s2 K))) : gE 271 422 [some (.ref 1000000), some (.ref 0), some (.ref 323), some (.int i), u4, u5, u6, u7] [] σ K :=
  gw_run (cy := 271) (cuts := [18, 1287, 204, 267, 290, 303, 316, 379, 422, 445, 488, 521, 564, 577, 600, 623, 646, 659, 682, 715, 748, 771, 804, 837, 860, 903, 936, 969, 1012, 1045, 1068, 1091, 1104, 1127, 1150, 1183, 1200, 1215, 1228, 1251, 1264]) (inl := []) (pf := gpf0) gpf0_ok 400 (by decide) h
set_option maxRecDepth 20000 in
theorem l_7 {σ : gS} {K : gK} {i : Int32} {u4 u5 u6 u7 : Option Value} (h : (0 ≤ (i + 1) ∧ (i + 1) < σ 1000001 0) ∧ (0 ≤ (i + 2) ∧ (i + 2) < σ 1000001 0) ∧ (0 ≤ (i + 3) ∧ (i + 3) < σ 1000001 0) ∧ gXi 115 [some (.ref 0), some (.int (σ 1000000 (i + 1).toNatClampNeg)), some (.int (σ 1000000 (i + 2).toNatClampNeg)), some (.int (σ 1000000 (i + 3).toNatClampNeg)), none, none] σ (fun x1 s1 => (0 ≤ (i + 1) ∧ (i + 1) < s1 1000001 0) ∧ (0 ≤ (i + 2) ∧ (i + 2) < s1 1000001 0) ∧ (0 ≤ (i + 3) ∧ (i + 3) < s1 1000001 0) ∧ gXi 214 [some (.ref 323), some (.int (s1 1000000 (i + 1).toNatClampNeg)), some (.int (s1 1000000 (i + 2).toNatClampNeg)), some (.int (s1 1000000 (i + 3).toNatClampNeg)), none, none] s1 (fun x2 s2 => gE 271 1287 [some (.ref 1000000), some (.ref 0), some (.ref 323), some (.int i), u4, u5, u6, u7] [] s2 K))) : gE 271 445 [some (.ref 1000000), some (.ref 0), some (.ref 323), some (.int i), u4, u5, u6, u7] [] σ K :=
  gw_run (cy := 271) (cuts := [18, 1287, 204, 267, 290, 303, 316, 379, 422, 445, 488, 521, 564, 577, 600, 623, 646, 659, 682, 715, 748, 771, 804, 837, 860, 903, 936, 969, 1012, 1045, 1068, 1091, 1104, 1127, 1150, 1183, 1200, 1215, 1228, 1251, 1264]) (inl := []) (pf := gpf0) gpf0_ok 400 (by decide) h
set_option maxRecDepth 20000 in
theorem l_8 {σ : gS} {K : gK} {i : Int32} {u4 u5 u6 u7 : Option Value} (h : (0 ≤ (i + 1) ∧ (i + 1) < σ 1000001 0) ∧ (0 ≤ (i + 2) ∧ (i + 2) < σ 1000001 0) ∧ gXi 116 [some (.ref 0), some (.int (σ 1000000 (i + 1).toNatClampNeg)), some (.int (σ 1000000 (i + 2).toNatClampNeg)), none, none] σ (fun x1 s1 => (0 ≤ (i + 1) ∧ (i + 1) < s1 1000001 0) ∧ (0 ≤ (i + 2) ∧ (i + 2) < s1 1000001 0) ∧ gXi 215 [some (.ref 323), some (.int (s1 1000000 (i + 1).toNatClampNeg)), some (.int (s1 1000000 (i + 2).toNatClampNeg)), none, none, none] s1 (fun x2 s2 => gE 271 1287 [some (.ref 1000000), some (.ref 0), some (.ref 323), some (.int i), u4, u5, u6, u7] [] s2 K))) : gE 271 488 [some (.ref 1000000), some (.ref 0), some (.ref 323), some (.int i), u4, u5, u6, u7] [] σ K :=
  gw_run (cy := 271) (cuts := [18, 1287, 204, 267, 290, 303, 316, 379, 422, 445, 488, 521, 564, 577, 600, 623, 646, 659, 682, 715, 748, 771, 804, 837, 860, 903, 936, 969, 1012, 1045, 1068, 1091, 1104, 1127, 1150, 1183, 1200, 1215, 1228, 1251, 1264]) (inl := []) (pf := gpf0) gpf0_ok 400 (by decide) h
set_option maxRecDepth 20000 in
theorem l_9 {σ : gS} {K : gK} {i : Int32} {u4 u5 u6 u7 : Option Value} (h : (0 ≤ (i + 1) ∧ (i + 1) < σ 1000001 0) ∧ (0 ≤ (i + 2) ∧ (i + 2) < σ 1000001 0) ∧ (0 ≤ (i + 3) ∧ (i + 3) < σ 1000001 0) ∧ gXi 117 [some (.ref 0), some (.int (σ 1000000 (i + 1).toNatClampNeg)), some (.int (σ 1000000 (i + 2).toNatClampNeg)), some (.int (σ 1000000 (i + 3).toNatClampNeg)), none, none] σ (fun x1 s1 => (0 ≤ (i + 1) ∧ (i + 1) < s1 1000001 0) ∧ (0 ≤ (i + 2) ∧ (i + 2) < s1 1000001 0) ∧ (0 ≤ (i + 3) ∧ (i + 3) < s1 1000001 0) ∧ gXi 216 [some (.ref 323), some (.int (s1 1000000 (i + 1).toNatClampNeg)), some (.int (s1 1000000 (i + 2).toNatClampNeg)), some (.int (s1 1000000 (i + 3).toNatClampNeg)), none, none] s1 (fun x2 s2 => gE 271 1287 [some (.ref 1000000), some (.ref 0), some (.ref 323), some (.int i), u4, u5, u6, u7] [] s2 K))) : gE 271 521 [some (.ref 1000000), some (.ref 0), some (.ref 323), some (.int i), u4, u5, u6, u7] [] σ K :=
  gw_run (cy := 271) (cuts := [18, 1287, 204, 267, 290, 303, 316, 379, 422, 445, 488, 521, 564, 577, 600, 623, 646, 659, 682, 715, 748, 771, 804, 837, 860, 903, 936, 969, 1012, 1045, 1068, 1091, 1104, 1127, 1150, 1183, 1200, 1215, 1228, 1251, 1264]) (inl := []) (pf := gpf0) gpf0_ok 400 (by decide) h
set_option maxRecDepth 20000 in
theorem l_10 {σ : gS} {K : gK} {i : Int32} {u4 u5 u6 u7 : Option Value} (h : gXi 118 [some (.ref 0), none, none] σ (fun x1 s1 => gXi 217 [some (.ref 323), none, none] s1 (fun x2 s2 => gE 271 1287 [some (.ref 1000000), some (.ref 0), some (.ref 323), some (.int i), u4, u5, u6, u7] [] s2 K))) : gE 271 564 [some (.ref 1000000), some (.ref 0), some (.ref 323), some (.int i), u4, u5, u6, u7] [] σ K :=
  gw_run (cy := 271) (cuts := [18, 1287, 204, 267, 290, 303, 316, 379, 422, 445, 488, 521, 564, 577, 600, 623, 646, 659, 682, 715, 748, 771, 804, 837, 860, 903, 936, 969, 1012, 1045, 1068, 1091, 1104, 1127, 1150, 1183, 1200, 1215, 1228, 1251, 1264]) (inl := []) (pf := gpf0) gpf0_ok 400 (by decide) h
set_option maxRecDepth 20000 in
theorem l_11 {σ : gS} {K : gK} {i : Int32} {u4 u5 u6 u7 : Option Value} (h : (0 ≤ (i + 1) ∧ (i + 1) < σ 1000001 0) ∧ gXi 119 [some (.ref 0), some (.int (σ 1000000 (i + 1).toNatClampNeg)), none, none] σ (fun x1 s1 => (0 ≤ (i + 1) ∧ (i + 1) < s1 1000001 0) ∧ gXi 220 [some (.ref 323), some (.int (s1 1000000 (i + 1).toNatClampNeg)), none, none] s1 (fun x2 s2 => gE 271 1287 [some (.ref 1000000), some (.ref 0), some (.ref 323), some (.int i), u4, u5, u6, u7] [] s2 K))) : gE 271 577 [some (.ref 1000000), some (.ref 0), some (.ref 323), some (.int i), u4, u5, u6, u7] [] σ K :=
  gw_run (cy := 271) (cuts := [18, 1287, 204, 267, 290, 303, 316, 379, 422, 445, 488, 521, 564, 577, 600, 623, 646, 659, 682, 715, 748, 771, 804, 837, 860, 903, 936, 969, 1012, 1045, 1068, 1091, 1104, 1127, 1150, 1183, 1200, 1215, 1228, 1251, 1264]) (inl := []) (pf := gpf0) gpf0_ok 400 (by decide) h
set_option maxRecDepth 20000 in
theorem l_12 {σ : gS} {K : gK} {i : Int32} {u4 u5 u6 u7 : Option Value} (h : (0 ≤ (i + 1) ∧ (i + 1) < σ 1000001 0) ∧ gXi 120 [some (.ref 0), some (.int (σ 1000000 (i + 1).toNatClampNeg))] σ (fun x1 s1 => (0 ≤ (i + 1) ∧ (i + 1) < s1 1000001 0) ∧ gXi 221 [some (.ref 323), some (.int (s1 1000000 (i + 1).toNatClampNeg))] s1 (fun x2 s2 => gE 271 1287 [some (.ref 1000000), some (.ref 0), some (.ref 323), some (.int i), u4, u5, u6, u7] [] s2 K))) : gE 271 600 [some (.ref 1000000), some (.ref 0), some (.ref 323), some (.int i), u4, u5, u6, u7] [] σ K :=
  gw_run (cy := 271) (cuts := [18, 1287, 204, 267, 290, 303, 316, 379, 422, 445, 488, 521, 564, 577, 600, 623, 646, 659, 682, 715, 748, 771, 804, 837, 860, 903, 936, 969, 1012, 1045, 1068, 1091, 1104, 1127, 1150, 1183, 1200, 1215, 1228, 1251, 1264]) (inl := []) (pf := gpf0) gpf0_ok 400 (by decide) h
set_option maxRecDepth 20000 in
theorem l_13 {σ : gS} {K : gK} {i : Int32} {u4 u5 u6 u7 : Option Value} (h : (0 ≤ (i + 1) ∧ (i + 1) < σ 1000001 0) ∧ gXi 121 [some (.ref 0), some (.int (σ 1000000 (i + 1).toNatClampNeg))] σ (fun x1 s1 => (0 ≤ (i + 1) ∧ (i + 1) < s1 1000001 0) ∧ gXi 222 [some (.ref 323), some (.int (s1 1000000 (i + 1).toNatClampNeg))] s1 (fun x2 s2 => gE 271 1287 [some (.ref 1000000), some (.ref 0), some (.ref 323), some (.int i), u4, u5, u6, u7] [] s2 K))) : gE 271 623 [some (.ref 1000000), some (.ref 0), some (.ref 323), some (.int i), u4, u5, u6, u7] [] σ K :=
  gw_run (cy := 271) (cuts := [18, 1287, 204, 267, 290, 303, 316, 379, 422, 445, 488, 521, 564, 577, 600, 623, 646, 659, 682, 715, 748, 771, 804, 837, 860, 903, 936, 969, 1012, 1045, 1068, 1091, 1104, 1127, 1150, 1183, 1200, 1215, 1228, 1251, 1264]) (inl := []) (pf := gpf0) gpf0_ok 400 (by decide) h
set_option maxRecDepth 20000 in
theorem l_14 {σ : gS} {K : gK} {i : Int32} {u4 u5 u6 u7 : Option Value} (h : gXi 122 [some (.ref 0)] σ (fun x1 s1 => gXi 223 [some (.ref 323)] s1 (fun x2 s2 => gE 271 1287 [some (.ref 1000000), some (.ref 0), some (.ref 323), some (.int i), u4, u5, u6, u7] [] s2 K))) : gE 271 646 [some (.ref 1000000), some (.ref 0), some (.ref 323), some (.int i), u4, u5, u6, u7] [] σ K :=
  gw_run (cy := 271) (cuts := [18, 1287, 204, 267, 290, 303, 316, 379, 422, 445, 488, 521, 564, 577, 600, 623, 646, 659, 682, 715, 748, 771, 804, 837, 860, 903, 936, 969, 1012, 1045, 1068, 1091, 1104, 1127, 1150, 1183, 1200, 1215, 1228, 1251, 1264]) (inl := []) (pf := gpf0) gpf0_ok 400 (by decide) h
set_option maxRecDepth 20000 in
theorem l_15 {σ : gS} {K : gK} {i : Int32} {u4 u5 u6 u7 : Option Value} (h : (0 ≤ (i + 1) ∧ (i + 1) < σ 1000001 0) ∧ gXi 123 [some (.ref 0), some (.int (σ 1000000 (i + 1).toNatClampNeg))] σ (fun x1 s1 => (0 ≤ (i + 1) ∧ (i + 1) < s1 1000001 0) ∧ gXi 227 [some (.ref 323), some (.int (s1 1000000 (i + 1).toNatClampNeg))] s1 (fun x2 s2 => gE 271 1287 [some (.ref 1000000), some (.ref 0), some (.ref 323), some (.int i), u4, u5, u6, u7] [] s2 K))) : gE 271 659 [some (.ref 1000000), some (.ref 0), some (.ref 323), some (.int i), u4, u5, u6, u7] [] σ K :=
  gw_run (cy := 271) (cuts := [18, 1287, 204, 267, 290, 303, 316, 379, 422, 445, 488, 521, 564, 577, 600, 623, 646, 659, 682, 715, 748, 771, 804, 837, 860, 903, 936, 969, 1012, 1045, 1068, 1091, 1104, 1127, 1150, 1183, 1200, 1215, 1228, 1251, 1264]) (inl := []) (pf := gpf0) gpf0_ok 400 (by decide) h
set_option maxRecDepth 20000 in
theorem l_16 {σ : gS} {K : gK} {i : Int32} {u4 u5 u6 u7 : Option Value} (h : (0 ≤ (i + 1) ∧ (i + 1) < σ 1000001 0) ∧ (0 ≤ (i + 2) ∧ (i + 2) < σ 1000001 0) ∧ gXi 124 [some (.ref 0), some (.int (σ 1000000 (i + 1).toNatClampNeg)), some (.int (σ 1000000 (i + 2).toNatClampNeg)), none] σ (fun x1 s1 => (0 ≤ (i + 1) ∧ (i + 1) < s1 1000001 0) ∧ (0 ≤ (i + 2) ∧ (i + 2) < s1 1000001 0) ∧ gXi 229 [some (.ref 323), some (.int (s1 1000000 (i + 1).toNatClampNeg)), some (.int (s1 1000000 (i + 2).toNatClampNeg)), none] s1 (fun x2 s2 => gE 271 1287 [some (.ref 1000000), some (.ref 0), some (.ref 323), some (.int i), u4, u5, u6, u7] [] s2 K))) : gE 271 682 [some (.ref 1000000), some (.ref 0), some (.ref 323), some (.int i), u4, u5, u6, u7] [] σ K :=
  gw_run (cy := 271) (cuts := [18, 1287, 204, 267, 290, 303, 316, 379, 422, 445, 488, 521, 564, 577, 600, 623, 646, 659, 682, 715, 748, 771, 804, 837, 860, 903, 936, 969, 1012, 1045, 1068, 1091, 1104, 1127, 1150, 1183, 1200, 1215, 1228, 1251, 1264]) (inl := []) (pf := gpf0) gpf0_ok 400 (by decide) h
set_option maxRecDepth 20000 in
theorem l_17 {σ : gS} {K : gK} {i : Int32} {u4 u5 u6 u7 : Option Value} (h : (0 ≤ (i + 1) ∧ (i + 1) < σ 1000001 0) ∧ (0 ≤ (i + 2) ∧ (i + 2) < σ 1000001 0) ∧ gXi 125 [some (.ref 0), some (.int (σ 1000000 (i + 1).toNatClampNeg)), some (.int (σ 1000000 (i + 2).toNatClampNeg)), none] σ (fun x1 s1 => (0 ≤ (i + 1) ∧ (i + 1) < s1 1000001 0) ∧ (0 ≤ (i + 2) ∧ (i + 2) < s1 1000001 0) ∧ gXi 230 [some (.ref 323), some (.int (s1 1000000 (i + 1).toNatClampNeg)), some (.int (s1 1000000 (i + 2).toNatClampNeg)), none] s1 (fun x2 s2 => gE 271 1287 [some (.ref 1000000), some (.ref 0), some (.ref 323), some (.int i), u4, u5, u6, u7] [] s2 K))) : gE 271 715 [some (.ref 1000000), some (.ref 0), some (.ref 323), some (.int i), u4, u5, u6, u7] [] σ K :=
  gw_run (cy := 271) (cuts := [18, 1287, 204, 267, 290, 303, 316, 379, 422, 445, 488, 521, 564, 577, 600, 623, 646, 659, 682, 715, 748, 771, 804, 837, 860, 903, 936, 969, 1012, 1045, 1068, 1091, 1104, 1127, 1150, 1183, 1200, 1215, 1228, 1251, 1264]) (inl := []) (pf := gpf0) gpf0_ok 400 (by decide) h
set_option maxRecDepth 20000 in
theorem l_18 {σ : gS} {K : gK} {i : Int32} {u4 u5 u6 u7 : Option Value} (h : (0 ≤ (i + 1) ∧ (i + 1) < σ 1000001 0) ∧ gXi 126 [some (.ref 0), some (.int (σ 1000000 (i + 1).toNatClampNeg))] σ (fun x1 s1 => (0 ≤ (i + 1) ∧ (i + 1) < s1 1000001 0) ∧ gXi 231 [some (.ref 323), some (.int (s1 1000000 (i + 1).toNatClampNeg))] s1 (fun x2 s2 => gE 271 1287 [some (.ref 1000000), some (.ref 0), some (.ref 323), some (.int i), u4, u5, u6, u7] [] s2 K))) : gE 271 748 [some (.ref 1000000), some (.ref 0), some (.ref 323), some (.int i), u4, u5, u6, u7] [] σ K :=
  gw_run (cy := 271) (cuts := [18, 1287, 204, 267, 290, 303, 316, 379, 422, 445, 488, 521, 564, 577, 600, 623, 646, 659, 682, 715, 748, 771, 804, 837, 860, 903, 936, 969, 1012, 1045, 1068, 1091, 1104, 1127, 1150, 1183, 1200, 1215, 1228, 1251, 1264]) (inl := []) (pf := gpf0) gpf0_ok 400 (by decide) h
set_option maxRecDepth 20000 in
theorem l_19 {σ : gS} {K : gK} {i : Int32} {u4 u5 u6 u7 : Option Value} (h : (0 ≤ (i + 1) ∧ (i + 1) < σ 1000001 0) ∧ (0 ≤ (i + 2) ∧ (i + 2) < σ 1000001 0) ∧ gXi 127 [some (.ref 0), some (.int (σ 1000000 (i + 1).toNatClampNeg)), some (.int (σ 1000000 (i + 2).toNatClampNeg))] σ (fun x1 s1 => (0 ≤ (i + 1) ∧ (i + 1) < s1 1000001 0) ∧ (0 ≤ (i + 2) ∧ (i + 2) < s1 1000001 0) ∧ gXi 235 [some (.ref 323), some (.int (s1 1000000 (i + 1).toNatClampNeg)), some (.int (s1 1000000 (i + 2).toNatClampNeg)), none, none, none, none, none] s1 (fun x2 s2 => gE 271 1287 [some (.ref 1000000), some (.ref 0), some (.ref 323), some (.int i), u4, u5, u6, u7] [] s2 K))) : gE 271 771 [some (.ref 1000000), some (.ref 0), some (.ref 323), some (.int i), u4, u5, u6, u7] [] σ K :=
  gw_run (cy := 271) (cuts := [18, 1287, 204, 267, 290, 303, 316, 379, 422, 445, 488, 521, 564, 577, 600, 623, 646, 659, 682, 715, 748, 771, 804, 837, 860, 903, 936, 969, 1012, 1045, 1068, 1091, 1104, 1127, 1150, 1183, 1200, 1215, 1228, 1251, 1264]) (inl := []) (pf := gpf0) gpf0_ok 400 (by decide) h
set_option maxRecDepth 20000 in
theorem l_20 {σ : gS} {K : gK} {i : Int32} {u4 u5 u6 u7 : Option Value} (h : (0 ≤ (i + 1) ∧ (i + 1) < σ 1000001 0) ∧ (0 ≤ (i + 2) ∧ (i + 2) < σ 1000001 0) ∧ gXi 128 [some (.ref 0), some (.int (σ 1000000 (i + 1).toNatClampNeg)), some (.int (σ 1000000 (i + 2).toNatClampNeg))] σ (fun x1 s1 => (0 ≤ (i + 1) ∧ (i + 1) < s1 1000001 0) ∧ (0 ≤ (i + 2) ∧ (i + 2) < s1 1000001 0) ∧ gXi 238 [some (.ref 323), some (.int (s1 1000000 (i + 1).toNatClampNeg)), some (.int (s1 1000000 (i + 2).toNatClampNeg))] s1 (fun x2 s2 => gE 271 1287 [some (.ref 1000000), some (.ref 0), some (.ref 323), some (.int i), u4, u5, u6, u7] [] s2 K))) : gE 271 804 [some (.ref 1000000), some (.ref 0), some (.ref 323), some (.int i), u4, u5, u6, u7] [] σ K :=
  gw_run (cy := 271) (cuts := [18, 1287, 204, 267, 290, 303, 316, 379, 422, 445, 488, 521, 564, 577, 600, 623, 646, 659, 682, 715, 748, 771, 804, 837, 860, 903, 936, 969, 1012, 1045, 1068, 1091, 1104, 1127, 1150, 1183, 1200, 1215, 1228, 1251, 1264]) (inl := []) (pf := gpf0) gpf0_ok 400 (by decide) h
set_option maxRecDepth 20000 in
theorem l_21 {σ : gS} {K : gK} {i : Int32} {u4 u5 u6 u7 : Option Value} (h : (0 ≤ (i + 1) ∧ (i + 1) < σ 1000001 0) ∧ gXi 129 [some (.ref 0), some (.int (σ 1000000 (i + 1).toNatClampNeg))] σ (fun x1 s1 => (0 ≤ (i + 1) ∧ (i + 1) < s1 1000001 0) ∧ gXi 239 [some (.ref 323), some (.int (s1 1000000 (i + 1).toNatClampNeg)), none] s1 (fun x2 s2 => gE 271 1287 [some (.ref 1000000), some (.ref 0), some (.ref 323), some (.int i), u4, u5, u6, u7] [] s2 K))) : gE 271 837 [some (.ref 1000000), some (.ref 0), some (.ref 323), some (.int i), u4, u5, u6, u7] [] σ K :=
  gw_run (cy := 271) (cuts := [18, 1287, 204, 267, 290, 303, 316, 379, 422, 445, 488, 521, 564, 577, 600, 623, 646, 659, 682, 715, 748, 771, 804, 837, 860, 903, 936, 969, 1012, 1045, 1068, 1091, 1104, 1127, 1150, 1183, 1200, 1215, 1228, 1251, 1264]) (inl := []) (pf := gpf0) gpf0_ok 400 (by decide) h
set_option maxRecDepth 20000 in
theorem l_22 {σ : gS} {K : gK} {i : Int32} {u4 u5 u6 u7 : Option Value} (h : (0 ≤ (i + 1) ∧ (i + 1) < σ 1000001 0) ∧ (0 ≤ (i + 2) ∧ (i + 2) < σ 1000001 0) ∧ (0 ≤ (i + 3) ∧ (i + 3) < σ 1000001 0) ∧ gXi 130 [some (.ref 0), some (.int (σ 1000000 (i + 1).toNatClampNeg)), some (.int (σ 1000000 (i + 2).toNatClampNeg)), some (.int (σ 1000000 (i + 3).toNatClampNeg))] σ (fun x1 s1 => (0 ≤ (i + 1) ∧ (i + 1) < s1 1000001 0) ∧ (0 ≤ (i + 2) ∧ (i + 2) < s1 1000001 0) ∧ (0 ≤ (i + 3) ∧ (i + 3) < s1 1000001 0) ∧ gXi 240 [some (.ref 323), some (.int (s1 1000000 (i + 1).toNatClampNeg)), some (.int (s1 1000000 (i + 2).toNatClampNeg)), some (.int (s1 1000000 (i + 3).toNatClampNeg))] s1 (fun x2 s2 => gE 271 1287 [some (.ref 1000000), some (.ref 0), some (.ref 323), some (.int i), u4, u5, u6, u7] [] s2 K))) : gE 271 860 [some (.ref 1000000), some (.ref 0), some (.ref 323), some (.int i), u4, u5, u6, u7] [] σ K :=
  gw_run (cy := 271) (cuts := [18, 1287, 204, 267, 290, 303, 316, 379, 422, 445, 488, 521, 564, 577, 600, 623, 646, 659, 682, 715, 748, 771, 804, 837, 860, 903, 936, 969, 1012, 1045, 1068, 1091, 1104, 1127, 1150, 1183, 1200, 1215, 1228, 1251, 1264]) (inl := []) (pf := gpf0) gpf0_ok 400 (by decide) h
set_option maxRecDepth 20000 in
theorem l_23 {σ : gS} {K : gK} {i : Int32} {u4 u5 u6 u7 : Option Value} (h : (0 ≤ (i + 1) ∧ (i + 1) < σ 1000001 0) ∧ (0 ≤ (i + 2) ∧ (i + 2) < σ 1000001 0) ∧ gXi 131 [some (.ref 0), some (.int (σ 1000000 (i + 1).toNatClampNeg)), some (.int (σ 1000000 (i + 2).toNatClampNeg))] σ (fun x1 s1 => (0 ≤ (i + 1) ∧ (i + 1) < s1 1000001 0) ∧ (0 ≤ (i + 2) ∧ (i + 2) < s1 1000001 0) ∧ gXi 241 [some (.ref 323), some (.int (s1 1000000 (i + 1).toNatClampNeg)), some (.int (s1 1000000 (i + 2).toNatClampNeg))] s1 (fun x2 s2 => gE 271 1287 [some (.ref 1000000), some (.ref 0), some (.ref 323), some (.int i), u4, u5, u6, u7] [] s2 K))) : gE 271 903 [some (.ref 1000000), some (.ref 0), some (.ref 323), some (.int i), u4, u5, u6, u7] [] σ K :=
  gw_run (cy := 271) (cuts := [18, 1287, 204, 267, 290, 303, 316, 379, 422, 445, 488, 521, 564, 577, 600, 623, 646, 659, 682, 715, 748, 771, 804, 837, 860, 903, 936, 969, 1012, 1045, 1068, 1091, 1104, 1127, 1150, 1183, 1200, 1215, 1228, 1251, 1264]) (inl := []) (pf := gpf0) gpf0_ok 400 (by decide) h
set_option maxRecDepth 20000 in
theorem l_24 {σ : gS} {K : gK} {i : Int32} {u4 u5 u6 u7 : Option Value} (h : (0 ≤ (i + 1) ∧ (i + 1) < σ 1000001 0) ∧ (0 ≤ (i + 2) ∧ (i + 2) < σ 1000001 0) ∧ gXi 132 [some (.ref 0), some (.int (σ 1000000 (i + 1).toNatClampNeg)), some (.int (σ 1000000 (i + 2).toNatClampNeg))] σ (fun x1 s1 => (0 ≤ (i + 1) ∧ (i + 1) < s1 1000001 0) ∧ (0 ≤ (i + 2) ∧ (i + 2) < s1 1000001 0) ∧ gXi 242 [some (.ref 323), some (.int (s1 1000000 (i + 1).toNatClampNeg)), some (.int (s1 1000000 (i + 2).toNatClampNeg))] s1 (fun x2 s2 => gE 271 1287 [some (.ref 1000000), some (.ref 0), some (.ref 323), some (.int i), u4, u5, u6, u7] [] s2 K))) : gE 271 936 [some (.ref 1000000), some (.ref 0), some (.ref 323), some (.int i), u4, u5, u6, u7] [] σ K :=
  gw_run (cy := 271) (cuts := [18, 1287, 204, 267, 290, 303, 316, 379, 422, 445, 488, 521, 564, 577, 600, 623, 646, 659, 682, 715, 748, 771, 804, 837, 860, 903, 936, 969, 1012, 1045, 1068, 1091, 1104, 1127, 1150, 1183, 1200, 1215, 1228, 1251, 1264]) (inl := []) (pf := gpf0) gpf0_ok 400 (by decide) h
set_option maxRecDepth 20000 in
theorem l_25 {σ : gS} {K : gK} {i : Int32} {u4 u5 u6 u7 : Option Value} (h : (0 ≤ (i + 1) ∧ (i + 1) < σ 1000001 0) ∧ (0 ≤ (i + 2) ∧ (i + 2) < σ 1000001 0) ∧ (0 ≤ (i + 3) ∧ (i + 3) < σ 1000001 0) ∧ gXi 133 [some (.ref 0), some (.int (σ 1000000 (i + 1).toNatClampNeg)), some (.int (σ 1000000 (i + 2).toNatClampNeg)), some (.int (σ 1000000 (i + 3).toNatClampNeg))] σ (fun x1 s1 => (0 ≤ (i + 1) ∧ (i + 1) < s1 1000001 0) ∧ (0 ≤ (i + 2) ∧ (i + 2) < s1 1000001 0) ∧ (0 ≤ (i + 3) ∧ (i + 3) < s1 1000001 0) ∧ gXi 243 [some (.ref 323), some (.int (s1 1000000 (i + 1).toNatClampNeg)), some (.int (s1 1000000 (i + 2).toNatClampNeg)), some (.int (s1 1000000 (i + 3).toNatClampNeg))] s1 (fun x2 s2 => gE 271 1287 [some (.ref 1000000), some (.ref 0), some (.ref 323), some (.int i), u4, u5, u6, u7] [] s2 K))) : gE 271 969 [some (.ref 1000000), some (.ref 0), some (.ref 323), some (.int i), u4, u5, u6, u7] [] σ K :=
  gw_run (cy := 271) (cuts := [18, 1287, 204, 267, 290, 303, 316, 379, 422, 445, 488, 521, 564, 577, 600, 623, 646, 659, 682, 715, 748, 771, 804, 837, 860, 903, 936, 969, 1012, 1045, 1068, 1091, 1104, 1127, 1150, 1183, 1200, 1215, 1228, 1251, 1264]) (inl := []) (pf := gpf0) gpf0_ok 400 (by decide) h
set_option maxRecDepth 20000 in
theorem l_26 {σ : gS} {K : gK} {i : Int32} {u4 u5 u6 u7 : Option Value} (h : (0 ≤ (i + 1) ∧ (i + 1) < σ 1000001 0) ∧ (0 ≤ (i + 2) ∧ (i + 2) < σ 1000001 0) ∧ gXi 134 [some (.ref 0), some (.int (σ 1000000 (i + 1).toNatClampNeg)), some (.int (σ 1000000 (i + 2).toNatClampNeg)), none] σ (fun x1 s1 => (0 ≤ (i + 1) ∧ (i + 1) < s1 1000001 0) ∧ (0 ≤ (i + 2) ∧ (i + 2) < s1 1000001 0) ∧ gXi 244 [some (.ref 323), some (.int (s1 1000000 (i + 1).toNatClampNeg)), some (.int (s1 1000000 (i + 2).toNatClampNeg)), none] s1 (fun x2 s2 => gE 271 1287 [some (.ref 1000000), some (.ref 0), some (.ref 323), some (.int i), u4, u5, u6, u7] [] s2 K))) : gE 271 1012 [some (.ref 1000000), some (.ref 0), some (.ref 323), some (.int i), u4, u5, u6, u7] [] σ K :=
  gw_run (cy := 271) (cuts := [18, 1287, 204, 267, 290, 303, 316, 379, 422, 445, 488, 521, 564, 577, 600, 623, 646, 659, 682, 715, 748, 771, 804, 837, 860, 903, 936, 969, 1012, 1045, 1068, 1091, 1104, 1127, 1150, 1183, 1200, 1215, 1228, 1251, 1264]) (inl := []) (pf := gpf0) gpf0_ok 400 (by decide) h
set_option maxRecDepth 20000 in
theorem l_27 {σ : gS} {K : gK} {i : Int32} {u4 u5 u6 u7 : Option Value} (h : (0 ≤ (i + 1) ∧ (i + 1) < σ 1000001 0) ∧ gXi 135 [some (.ref 0), some (.int (σ 1000000 (i + 1).toNatClampNeg))] σ (fun x1 s1 => (0 ≤ (i + 1) ∧ (i + 1) < s1 1000001 0) ∧ gXi 245 [some (.ref 323), some (.int (s1 1000000 (i + 1).toNatClampNeg)), none, none] s1 (fun x2 s2 => gE 271 1287 [some (.ref 1000000), some (.ref 0), some (.ref 323), some (.int i), u4, u5, u6, u7] [] s2 K))) : gE 271 1045 [some (.ref 1000000), some (.ref 0), some (.ref 323), some (.int i), u4, u5, u6, u7] [] σ K :=
  gw_run (cy := 271) (cuts := [18, 1287, 204, 267, 290, 303, 316, 379, 422, 445, 488, 521, 564, 577, 600, 623, 646, 659, 682, 715, 748, 771, 804, 837, 860, 903, 936, 969, 1012, 1045, 1068, 1091, 1104, 1127, 1150, 1183, 1200, 1215, 1228, 1251, 1264]) (inl := []) (pf := gpf0) gpf0_ok 400 (by decide) h
set_option maxRecDepth 20000 in
theorem l_28 {σ : gS} {K : gK} {i : Int32} {u4 u5 u6 u7 : Option Value} (h : (0 ≤ (i + 1) ∧ (i + 1) < σ 1000001 0) ∧ gXi 136 [some (.ref 0), some (.int (σ 1000000 (i + 1).toNatClampNeg))] σ (fun x1 s1 => (0 ≤ (i + 1) ∧ (i + 1) < s1 1000001 0) ∧ gXi 246 [some (.ref 323), some (.int (s1 1000000 (i + 1).toNatClampNeg)), none, none, none, none] s1 (fun x2 s2 => gE 271 1287 [some (.ref 1000000), some (.ref 0), some (.ref 323), some (.int i), u4, u5, u6, u7] [] s2 K))) : gE 271 1068 [some (.ref 1000000), some (.ref 0), some (.ref 323), some (.int i), u4, u5, u6, u7] [] σ K :=
  gw_run (cy := 271) (cuts := [18, 1287, 204, 267, 290, 303, 316, 379, 422, 445, 488, 521, 564, 577, 600, 623, 646, 659, 682, 715, 748, 771, 804, 837, 860, 903, 936, 969, 1012, 1045, 1068, 1091, 1104, 1127, 1150, 1183, 1200, 1215, 1228, 1251, 1264]) (inl := []) (pf := gpf0) gpf0_ok 400 (by decide) h
set_option maxRecDepth 20000 in
theorem l_29 {σ : gS} {K : gK} {i : Int32} {u4 u5 u6 u7 : Option Value} (h : gXi 137 [some (.ref 0)] σ (fun x1 s1 => gXi 247 [some (.ref 323), none, none, none, none] s1 (fun x2 s2 => gE 271 1287 [some (.ref 1000000), some (.ref 0), some (.ref 323), some (.int i), u4, u5, u6, u7] [] s2 K))) : gE 271 1091 [some (.ref 1000000), some (.ref 0), some (.ref 323), some (.int i), u4, u5, u6, u7] [] σ K :=
  gw_run (cy := 271) (cuts := [18, 1287, 204, 267, 290, 303, 316, 379, 422, 445, 488, 521, 564, 577, 600, 623, 646, 659, 682, 715, 748, 771, 804, 837, 860, 903, 936, 969, 1012, 1045, 1068, 1091, 1104, 1127, 1150, 1183, 1200, 1215, 1228, 1251, 1264]) (inl := []) (pf := gpf0) gpf0_ok 400 (by decide) h
set_option maxRecDepth 20000 in
theorem l_30 {σ : gS} {K : gK} {i : Int32} {u4 u5 u6 u7 : Option Value} (h : (0 ≤ (i + 1) ∧ (i + 1) < σ 1000001 0) ∧ gXi 138 [some (.ref 0), some (.int (σ 1000000 (i + 1).toNatClampNeg)), none] σ (fun x1 s1 => (0 ≤ (i + 1) ∧ (i + 1) < s1 1000001 0) ∧ gXi 248 [some (.ref 323), some (.int (s1 1000000 (i + 1).toNatClampNeg)), none] s1 (fun x2 s2 => gE 271 1287 [some (.ref 1000000), some (.ref 0), some (.ref 323), some (.int i), u4, u5, u6, u7] [] s2 K))) : gE 271 1104 [some (.ref 1000000), some (.ref 0), some (.ref 323), some (.int i), u4, u5, u6, u7] [] σ K :=
  gw_run (cy := 271) (cuts := [18, 1287, 204, 267, 290, 303, 316, 379, 422, 445, 488, 521, 564, 577, 600, 623, 646, 659, 682, 715, 748, 771, 804, 837, 860, 903, 936, 969, 1012, 1045, 1068, 1091, 1104, 1127, 1150, 1183, 1200, 1215, 1228, 1251, 1264]) (inl := []) (pf := gpf0) gpf0_ok 400 (by decide) h
set_option maxRecDepth 20000 in
theorem l_31 {σ : gS} {K : gK} {i : Int32} {u4 u5 u6 u7 : Option Value} (h : (0 ≤ (i + 1) ∧ (i + 1) < σ 1000001 0) ∧ gXi 139 [some (.ref 0), some (.int (σ 1000000 (i + 1).toNatClampNeg))] σ (fun x1 s1 => (0 ≤ (i + 1) ∧ (i + 1) < s1 1000001 0) ∧ gXi 249 [some (.ref 323), some (.int (s1 1000000 (i + 1).toNatClampNeg))] s1 (fun x2 s2 => gE 271 1287 [some (.ref 1000000), some (.ref 0), some (.ref 323), some (.int i), u4, u5, u6, u7] [] s2 K))) : gE 271 1127 [some (.ref 1000000), some (.ref 0), some (.ref 323), some (.int i), u4, u5, u6, u7] [] σ K :=
  gw_run (cy := 271) (cuts := [18, 1287, 204, 267, 290, 303, 316, 379, 422, 445, 488, 521, 564, 577, 600, 623, 646, 659, 682, 715, 748, 771, 804, 837, 860, 903, 936, 969, 1012, 1045, 1068, 1091, 1104, 1127, 1150, 1183, 1200, 1215, 1228, 1251, 1264]) (inl := []) (pf := gpf0) gpf0_ok 400 (by decide) h
set_option maxRecDepth 20000 in
theorem l_32 {σ : gS} {K : gK} {i : Int32} {u4 u5 u6 u7 : Option Value} (h : (0 ≤ (i + 1) ∧ (i + 1) < σ 1000001 0) ∧ (0 ≤ (i + 2) ∧ (i + 2) < σ 1000001 0) ∧ gXi 140 [some (.ref 0), some (.int (σ 1000000 (i + 1).toNatClampNeg)), some (.int (σ 1000000 (i + 2).toNatClampNeg))] σ (fun x1 s1 => (0 ≤ (i + 1) ∧ (i + 1) < s1 1000001 0) ∧ (0 ≤ (i + 2) ∧ (i + 2) < s1 1000001 0) ∧ gXi 250 [some (.ref 323), some (.int (s1 1000000 (i + 1).toNatClampNeg)), some (.int (s1 1000000 (i + 2).toNatClampNeg))] s1 (fun x2 s2 => gE 271 1287 [some (.ref 1000000), some (.ref 0), some (.ref 323), some (.int i), u4, u5, u6, u7] [] s2 K))) : gE 271 1150 [some (.ref 1000000), some (.ref 0), some (.ref 323), some (.int i), u4, u5, u6, u7] [] σ K :=
  gw_run (cy := 271) (cuts := [18, 1287, 204, 267, 290, 303, 316, 379, 422, 445, 488, 521, 564, 577, 600, 623, 646, 659, 682, 715, 748, 771, 804, 837, 860, 903, 936, 969, 1012, 1045, 1068, 1091, 1104, 1127, 1150, 1183, 1200, 1215, 1228, 1251, 1264]) (inl := []) (pf := gpf0) gpf0_ok 400 (by decide) h
set_option maxRecDepth 20000 in
theorem l_35 {σ : gS} {K : gK} {i : Int32} {u4 u5 u6 u7 : Option Value} (h : gXi 143 [some (.ref 0)] σ (fun x1 s1 => gXi 257 [some (.ref 323)] s1 (fun x2 s2 => ((x1 = x2 → gE 271 1287 [some (.ref 1000000), some (.ref 0), some (.ref 323), some (.int i), u4, u5, u6, u7] [] s2 K) ∧ (¬ x1 = x2 → ((0 : Int32) = 0 ∨ (0 : Int32) = 1) ∧ K (some (.int 0)) s2))))) : gE 271 1215 [some (.ref 1000000), some (.ref 0), some (.ref 323), some (.int i), u4, u5, u6, u7] [] σ K :=
  gw_run (cy := 271) (cuts := [18, 1287, 204, 267, 290, 303, 316, 379, 422, 445, 488, 521, 564, 577, 600, 623, 646, 659, 682, 715, 748, 771, 804, 837, 860, 903, 936, 969, 1012, 1045, 1068, 1091, 1104, 1127, 1150, 1183, 1200, 1215, 1228, 1251, 1264]) (inl := []) (pf := gpf0) gpf0_ok 400 (by decide) h
set_option maxRecDepth 20000 in
theorem l_36 {σ : gS} {K : gK} {i : Int32} {u4 u5 u6 u7 : Option Value} (h : (0 ≤ (i + 1) ∧ (i + 1) < σ 1000001 0) ∧ gXi 144 [some (.ref 0), some (.int (σ 1000000 (i + 1).toNatClampNeg))] σ (fun x1 s1 => (0 ≤ (i + 1) ∧ (i + 1) < s1 1000001 0) ∧ gXi 258 [some (.ref 323), some (.int (s1 1000000 (i + 1).toNatClampNeg))] s1 (fun x2 s2 => gE 271 1287 [some (.ref 1000000), some (.ref 0), some (.ref 323), some (.int i), u4, u5, u6, u7] [] s2 K))) : gE 271 1228 [some (.ref 1000000), some (.ref 0), some (.ref 323), some (.int i), u4, u5, u6, u7] [] σ K :=
  gw_run (cy := 271) (cuts := [18, 1287, 204, 267, 290, 303, 316, 379, 422, 445, 488, 521, 564, 577, 600, 623, 646, 659, 682, 715, 748, 771, 804, 837, 860, 903, 936, 969, 1012, 1045, 1068, 1091, 1104, 1127, 1150, 1183, 1200, 1215, 1228, 1251, 1264]) (inl := []) (pf := gpf0) gpf0_ok 400 (by decide) h
set_option maxRecDepth 20000 in
theorem l_37 {σ : gS} {K : gK} {i : Int32} {u4 u5 u6 u7 : Option Value} (h : gXi 145 [some (.ref 0)] σ (fun x1 s1 => gXi 267 [some (.ref 323)] s1 (fun x2 s2 => gE 271 1287 [some (.ref 1000000), some (.ref 0), some (.ref 323), some (.int i), u4, u5, u6, u7] [] s2 K))) : gE 271 1251 [some (.ref 1000000), some (.ref 0), some (.ref 323), some (.int i), u4, u5, u6, u7] [] σ K :=
  gw_run (cy := 271) (cuts := [18, 1287, 204, 267, 290, 303, 316, 379, 422, 445, 488, 521, 564, 577, 600, 623, 646, 659, 682, 715, 748, 771, 804, 837, 860, 903, 936, 969, 1012, 1045, 1068, 1091, 1104, 1127, 1150, 1183, 1200, 1215, 1228, 1251, 1264]) (inl := []) (pf := gpf0) gpf0_ok 400 (by decide) h
set_option maxRecDepth 20000 in
theorem l_38 {σ : gS} {K : gK} {i : Int32} {u4 u5 u6 u7 : Option Value} (h : (0 ≤ (i + 1) ∧ (i + 1) < σ 1000001 0) ∧ gXi 146 [some (.ref 0), some (.int (σ 1000000 (i + 1).toNatClampNeg))] σ (fun x1 s1 => (0 ≤ (i + 1) ∧ (i + 1) < s1 1000001 0) ∧ gXi 268 [some (.ref 323), some (.int (s1 1000000 (i + 1).toNatClampNeg))] s1 (fun x2 s2 => gE 271 1287 [some (.ref 1000000), some (.ref 0), some (.ref 323), some (.int i), u4, u5, u6, u7] [] s2 K))) : gE 271 1264 [some (.ref 1000000), some (.ref 0), some (.ref 323), some (.int i), u4, u5, u6, u7] [] σ K :=
  gw_run (cy := 271) (cuts := [18, 1287, 204, 267, 290, 303, 316, 379, 422, 445, 488, 521, 564, 577, 600, 623, 646, 659, 682, 715, 748, 771, 804, 837, 860, 903, 936, 969, 1012, 1045, 1068, 1091, 1104, 1127, 1150, 1183, 1200, 1215, 1228, 1251, 1264]) (inl := []) (pf := gpf0) gpf0_ok 400 (by decide) h
theorem l_33 {σ : gS} {K : gK} {i : Int32} {u4 u5 u6 u7 : Option Value} {n : Nat} (h : GI n σ) (hK : ∀ v4 v5 v6 v7 : Option Value, gE 271 1287 [some (.ref 1000000), some (.ref 0), some (.ref 323), some (.int i), v4, v5, v6, v7] [] σ K) : gE 271 1183 [some (.ref 1000000), some (.ref 0), some (.ref 323), some (.int i), u4, u5, u6, u7] [] σ K := by
  obtain ⟨B, b1, b2, g, tb⟩ := h
  obtain ⟨hc, hF⟩ := GR_SC g
  obtain ⟨rs, rt, rz, h0, rF, rT, nG⟩ := GR_rf g
  have k1 := (vFl_ok hc.1.1 hc.2.2.2).2
  have k2 := (vFl_ok rs.1.1 h0).2
  refine gq_ld (show jv_code 271 1183 = some ((.aload_n 1), 1) from by decide +kernel) (by decide) rfl rfl rfl rfl ?_
  refine g_call (a := 141) (b := 8225) (by decide) (show jv_code 271 1184 = some ((.invokevirtual 150), 3) from by decide +kernel) (by decide +kernel) rfl (by decide) (by decide) (Or.inr ⟨0, rfl, by decide, by decide +kernel⟩) ?_
  refine x141 hc ?_
  refine gq_pure (show jv_code 271 1187 = some (.f2d, 1) from by decide +kernel) (by decide) rfl rfl (f2d_p k1) ?_
  refine gq_sto (show jv_code 271 1188 = some ((.dstore 4), 2) from by decide +kernel) (by decide) rfl rfl rfl rfl rfl rfl ?_
  refine gq_ld (show jv_code 271 1190 = some ((.aload_n 2), 1) from by decide +kernel) (by decide) rfl rfl rfl rfl ?_
  refine g_call (a := 251) (b := 9233) (by decide) (show jv_code 271 1191 = some ((.invokevirtual 154), 3) from by decide +kernel) (by decide +kernel) rfl (by decide) (by decide) (Or.inr ⟨323, rfl, by decide, by decide +kernel⟩) ?_
  refine x251 rs.1.1 h0 ?_
  refine gq_pure (show jv_code 271 1194 = some (.f2d, 1) from by decide +kernel) (by decide) rfl rfl (f2d_p k2) ?_
  refine gq_sto (show jv_code 271 1195 = some ((.dstore 6), 2) from by decide +kernel) (by decide) rfl rfl rfl rfl rfl rfl ?_
  refine gq_br (show jv_code 271 1197 = some ((.goto 90), 3) from by decide +kernel) (by decide) rfl rfl rfl rfl rfl ?_
  exact hK _ _ _ _
theorem l_34 {σ : gS} {K : gK} {i : Int32} {u4 u5 u6 u7 : Option Value} {n : Nat} (h : GI n σ) (hK : ∀ v4 v5 v6 v7 : Option Value, gE 271 1287 [some (.ref 1000000), some (.ref 0), some (.ref 323), some (.int i), v4, v5, v6, v7] [] σ K) : gE 271 1200 [some (.ref 1000000), some (.ref 0), some (.ref 323), some (.int i), u4, u5, u6, u7] [] σ K := by
  obtain ⟨B, b1, b2, g, tb⟩ := h
  obtain ⟨hc, hF⟩ := GR_SC g
  obtain ⟨rs, rt, rz, h0, rF, rT, nG⟩ := GR_rf g
  refine gq_ld (show jv_code 271 1200 = some ((.aload_n 1), 1) from by decide +kernel) (by decide) rfl rfl rfl rfl ?_
  refine g_call (a := 142) (b := 8209) (by decide) (show jv_code 271 1201 = some ((.invokevirtual 155), 3) from by decide +kernel) (by decide +kernel) rfl (by decide) (by decide) (Or.inr ⟨0, rfl, by decide, by decide +kernel⟩) ?_
  refine x142 hc hF ?_
  refine gq_sto (show jv_code 271 1204 = some ((.dstore 4), 2) from by decide +kernel) (by decide) rfl rfl rfl rfl rfl rfl ?_
  refine gq_ld (show jv_code 271 1206 = some ((.aload_n 2), 1) from by decide +kernel) (by decide) rfl rfl rfl rfl ?_
  refine g_call (a := 252) (b := 9233) (by decide) (show jv_code 271 1207 = some ((.invokevirtual 159), 3) from by decide +kernel) (by decide +kernel) rfl (by decide) (by decide) (Or.inr ⟨323, rfl, by decide, by decide +kernel⟩) ?_
  refine x252 rs.1.1 rT rF ?_
  refine gq_sto (show jv_code 271 1210 = some ((.dstore 6), 2) from by decide +kernel) (by decide) rfl rfl rfl rfl rfl rfl ?_
  refine gq_br (show jv_code 271 1212 = some ((.goto 75), 3) from by decide +kernel) (by decide) rfl rfl rfl rfl rfl ?_
  exact hK _ _ _ _
theorem lw_it {σ : gS} {K : gK} {n t L : Nat} {u4 u5 u6 u7 : Option Value} (hn : n ≤ 600) (h : GI n σ) (ht : 6 * t + 6 ≤ L) (hL : L ≤ 3072) (eL : σ 1000001 0 = iN L) (hK : ∀ (v4 v5 v6 v7 : Option Value) τ, GI (n + 1) τ → Sc σ τ → gE 271 18 [some (.ref 1000000), some (.ref 0), some (.ref 323), some (.int (iN (6 * (t + 1)))), v4, v5, v6, v7] [] τ K) : gE 271 18 [some (.ref 1000000), some (.ref 0), some (.ref 323), some (.int (iN (6 * t))), u4, u5, u6, u7] [] σ K := by
  have back : ∀ (v4 v5 v6 v7 : Option Value) τ, GI (n + 1) τ → Sc σ τ → gE 271 1287 [some (.ref 1000000), some (.ref 0), some (.ref 323), some (.int (iN (6 * t))), v4, v5, v6, v7] [] τ K := by
    intro v4 v5 v6 v7 τ h2 hs
    refine l1287 ?_
    have := hK v4 v5 v6 v7 τ h2 hs
    rw [show 6 * (t + 1) = 6 * t + 6 by omega, ← iN_add] at this
    exact this
  have bd : ∀ c, c < 6 → 0 ≤ iN (6 * t) + iN c ∧ iN (6 * t) + iN c < σ 1000001 0 := by
    intro c hc
    rw [eL, iN_add]
    exact ⟨(iN_le (k := 0) (by decide) (by omega)).mpr (by omega), (iN_lt (by omega) (by omega)).mpr (by omega)⟩
  have b0 : 0 ≤ iN (6 * t) ∧ iN (6 * t) < σ 1000001 0 := by
    rw [eL]
    exact ⟨(iN_le (k := 0) (by decide) (by omega)).mpr (by omega), (iN_lt (by omega) (by omega)).mpr (by omega)⟩
  have e6 : ¬ σ 1000001 0 - 6 < iN (6 * t) := by
    rw [eL, show (6 : Int32) = iN 6 from rfl, iN_sub (by omega) (by omega)]
    intro z
    have := (iN_lt (by omega) (by omega)).mp z
    omega
  refine l18 ⟨fun z => absurd z e6, fun _ => ⟨b0, by decide, ⟨fun _ => ?_, fun _ => ⟨fun _ => ?_, fun _ => ⟨fun _ => ?_, fun _ => ⟨fun _ => ?_, fun _ => ⟨fun _ => ?_, fun _ => ⟨fun _ => ?_, fun _ => ⟨fun _ => ?_, fun _ => ⟨fun _ => ?_, fun _ => ⟨fun _ => ?_, fun _ => ⟨fun _ => ?_, fun _ => ⟨fun _ => ?_, fun _ => ⟨fun _ => ?_, fun _ => ⟨fun _ => ?_, fun _ => ⟨fun _ => ?_, fun _ => ⟨fun _ => ?_, fun _ => ⟨fun _ => ?_, fun _ => ⟨fun _ => ?_, fun _ => ⟨fun _ => ?_, fun _ => ⟨fun _ => ?_, fun _ => ⟨fun _ => ?_, fun _ => ⟨fun _ => ?_, fun _ => ⟨fun _ => ?_, fun _ => ⟨fun _ => ?_, fun _ => ⟨fun _ => ?_, fun _ => ⟨fun _ => ?_, fun _ => ⟨fun _ => ?_, fun _ => ⟨fun _ => ?_, fun _ => ⟨fun _ => ?_, fun _ => ⟨fun _ => ?_, fun _ => ⟨fun _ => ?_, fun _ => ⟨fun _ => ?_, fun _ => ⟨fun _ => ?_, fun _ => ⟨fun _ => ?_, fun _ => ⟨fun _ => ?_, fun _ => ⟨fun _ => ?_, fun _ => ⟨fun _ => ?_, fun _ => ⟨fun _ => ?_, fun _ => ⟨fun _ => ?_, fun _ => ⟨fun _ => ?_, fun _ => ?_⟩⟩⟩⟩⟩⟩⟩⟩⟩⟩⟩⟩⟩⟩⟩⟩⟩⟩⟩⟩⟩⟩⟩⟩⟩⟩⟩⟩⟩⟩⟩⟩⟩⟩⟩⟩⟩⟩⟩⟩⟩
  · refine l_0 ⟨bd 1 (by decide), bd 2 (by decide), bd 3 (by decide), bd 4 (by decide), bd 5 (by decide), pr_append (by omega) h (fun x1 s1 hs kk => ?_)⟩
    rw [hs.1, hs.2]
    exact ⟨bd 1 (by decide), bd 2 (by decide), bd 3 (by decide), bd 4 (by decide), bd 5 (by decide), kk _ (fun τ h2 hs2 => back u4 u5 u6 u7 τ h2 hs2)⟩
  · refine l_1 ⟨bd 1 (by decide), pr_truncate (by omega) h (fun x1 s1 hs kk => ?_)⟩
    rw [hs.1, hs.2]
    exact ⟨bd 1 (by decide), kk _ (fun τ h2 hs2 => back u4 u5 u6 u7 τ h2 hs2)⟩
  · refine l_2 (pr_load (by omega) h (fun x1 s1 hs kk => ?_))
    exact kk _ (fun τ h2 hs2 => back u4 u5 u6 u7 τ h2 hs2)
  · refine l_3 (pr_errorPosition (by omega) h (fun x1 s1 hs kk => ?_))
    exact kk _ (fun τ h2 hs2 => back u4 u5 u6 u7 τ h2 hs2)
  · refine l_4 ⟨bd 1 (by decide), bd 2 (by decide), bd 3 (by decide), bd 4 (by decide), bd 5 (by decide), pr_come (by omega) h (fun x1 s1 hs kk => ?_)⟩
    rw [hs.1, hs.2]
    exact ⟨bd 1 (by decide), bd 2 (by decide), bd 3 (by decide), bd 4 (by decide), bd 5 (by decide), kk _ (fun τ h2 hs2 => back u4 u5 u6 u7 τ h2 hs2)⟩
  · refine l_5 ⟨bd 1 (by decide), bd 2 (by decide), bd 3 (by decide), pr_set (by omega) h (fun x1 s1 hs kk => ?_)⟩
    rw [hs.1, hs.2]
    exact ⟨bd 1 (by decide), bd 2 (by decide), bd 3 (by decide), kk _ (fun τ h2 hs2 => back u4 u5 u6 u7 τ h2 hs2)⟩
  · refine l_6 ⟨bd 1 (by decide), pr_first (by omega) h (fun x1 s1 hs kk => ?_)⟩
    rw [hs.1, hs.2]
    exact ⟨bd 1 (by decide), kk _ (fun τ h2 hs2 => back u4 u5 u6 u7 τ h2 hs2)⟩
  · refine l_7 ⟨bd 1 (by decide), bd 2 (by decide), bd 3 (by decide), pr_swap (by omega) h (fun x1 s1 hs kk => ?_)⟩
    rw [hs.1, hs.2]
    exact ⟨bd 1 (by decide), bd 2 (by decide), bd 3 (by decide), kk _ (fun τ h2 hs2 => back u4 u5 u6 u7 τ h2 hs2)⟩
  · refine l_8 ⟨bd 1 (by decide), bd 2 (by decide), pr_move (by omega) h (fun x1 s1 hs kk => ?_)⟩
    rw [hs.1, hs.2]
    exact ⟨bd 1 (by decide), bd 2 (by decide), kk _ (fun τ h2 hs2 => back u4 u5 u6 u7 τ h2 hs2)⟩
  · refine l_9 ⟨bd 1 (by decide), bd 2 (by decide), bd 3 (by decide), pr_ring (by omega) h (fun x1 s1 hs kk => ?_)⟩
    rw [hs.1, hs.2]
    exact ⟨bd 1 (by decide), bd 2 (by decide), bd 3 (by decide), kk _ (fun τ h2 hs2 => back u4 u5 u6 u7 τ h2 hs2)⟩
  · refine l_10 (pr_settle (by omega) h (fun x1 s1 hs kk => ?_))
    exact kk _ (fun τ h2 hs2 => back u4 u5 u6 u7 τ h2 hs2)
  · refine l_11 ⟨bd 1 (by decide), pr_station (by omega) h (fun x1 s1 hs kk => ?_)⟩
    rw [hs.1, hs.2]
    exact ⟨bd 1 (by decide), kk _ (fun τ h2 hs2 => back u4 u5 u6 u7 τ h2 hs2)⟩
  · refine l_12 ⟨bd 1 (by decide), pr_keep (by omega) h (fun x1 s1 hs kk => ?_)⟩
    rw [hs.1, hs.2]
    exact ⟨bd 1 (by decide), kk _ (fun τ h2 hs2 => back u4 u5 u6 u7 τ h2 hs2)⟩
  · refine l_13 ⟨bd 1 (by decide), pr_restore (by omega) h (fun x1 s1 hs kk => ?_)⟩
    rw [hs.1, hs.2]
    exact ⟨bd 1 (by decide), kk _ (fun τ h2 hs2 => back u4 u5 u6 u7 τ h2 hs2)⟩
  · refine l_14 (pr_undo (by omega) h (fun x1 s1 hs kk => ?_))
    exact kk _ (fun τ h2 hs2 => back u4 u5 u6 u7 τ h2 hs2)
  · refine l_15 ⟨bd 1 (by decide), pq_value h (fun x1 s1 hs kk => ?_)⟩
    rw [hs.1, hs.2]
    exact ⟨bd 1 (by decide), kk _ (fun x2 τ h2 hs2 => back u4 u5 u6 u7 τ h2 hs2)⟩
  · refine l_16 ⟨bd 1 (by decide), bd 2 (by decide), pq_of h (fun x1 s1 hs kk => ?_)⟩
    rw [hs.1, hs.2]
    exact ⟨bd 1 (by decide), bd 2 (by decide), kk _ (fun x2 τ h2 hs2 => back u4 u5 u6 u7 τ h2 hs2)⟩
  · refine l_17 ⟨bd 1 (by decide), bd 2 (by decide), pq_letter h (fun x1 s1 hs kk => ?_)⟩
    rw [hs.1, hs.2]
    exact ⟨bd 1 (by decide), bd 2 (by decide), kk _ (fun x2 τ h2 hs2 => back u4 u5 u6 u7 τ h2 hs2)⟩
  · refine l_18 ⟨bd 1 (by decide), pq_at h (fun x1 s1 hs kk => ?_)⟩
    rw [hs.1, hs.2]
    exact ⟨bd 1 (by decide), kk _ (fun x2 τ h2 hs2 => back u4 u5 u6 u7 τ h2 hs2)⟩
  · refine l_19 ⟨bd 1 (by decide), bd 2 (by decide), pq_table h (fun x1 s1 hs kk => ?_)⟩
    rw [hs.1, hs.2]
    exact ⟨bd 1 (by decide), bd 2 (by decide), kk _ (fun x2 τ h2 hs2 => back u4 u5 u6 u7 τ h2 hs2)⟩
  · refine l_20 ⟨bd 1 (by decide), bd 2 (by decide), pq_family h (fun x1 s1 hs kk => ?_)⟩
    rw [hs.1, hs.2]
    exact ⟨bd 1 (by decide), bd 2 (by decide), kk _ (fun x2 τ h2 hs2 => back u4 u5 u6 u7 τ h2 hs2)⟩
  · refine l_21 ⟨bd 1 (by decide), pq_ranked h (fun x1 s1 hs kk => ?_)⟩
    rw [hs.1, hs.2]
    exact ⟨bd 1 (by decide), kk _ (fun x2 τ h2 hs2 => back u4 u5 u6 u7 τ h2 hs2)⟩
  · refine l_22 ⟨bd 1 (by decide), bd 2 (by decide), bd 3 (by decide), pq_why h (fun x1 s1 hs kk => ?_)⟩
    rw [hs.1, hs.2]
    exact ⟨bd 1 (by decide), bd 2 (by decide), bd 3 (by decide), kk _ (fun x2 τ h2 hs2 => back u4 u5 u6 u7 τ h2 hs2)⟩
  · refine l_23 ⟨bd 1 (by decide), bd 2 (by decide), pq_whyMove h (fun x1 s1 hs kk => ?_)⟩
    rw [hs.1, hs.2]
    exact ⟨bd 1 (by decide), bd 2 (by decide), kk _ (fun x2 τ h2 hs2 => back u4 u5 u6 u7 τ h2 hs2)⟩
  · refine l_24 ⟨bd 1 (by decide), bd 2 (by decide), pq_joyAt h (fun x1 s1 hs kk => ?_)⟩
    rw [hs.1, hs.2]
    exact ⟨bd 1 (by decide), bd 2 (by decide), kk _ (fun x2 τ h2 hs2 => back u4 u5 u6 u7 τ h2 hs2)⟩
  · refine l_25 ⟨bd 1 (by decide), bd 2 (by decide), bd 3 (by decide), pq_ifSwapped h (fun x1 s1 hs kk => ?_)⟩
    rw [hs.1, hs.2]
    exact ⟨bd 1 (by decide), bd 2 (by decide), bd 3 (by decide), kk _ (fun x2 τ h2 hs2 => back u4 u5 u6 u7 τ h2 hs2)⟩
  · refine l_26 ⟨bd 1 (by decide), bd 2 (by decide), pq_leastPrice h (fun x1 s1 hs kk => ?_)⟩
    rw [hs.1, hs.2]
    exact ⟨bd 1 (by decide), bd 2 (by decide), kk _ (fun x2 τ h2 hs2 => back u4 u5 u6 u7 τ h2 hs2)⟩
  · refine l_27 ⟨bd 1 (by decide), pq_bestSeat h (fun x1 s1 hs kk => ?_)⟩
    rw [hs.1, hs.2]
    exact ⟨bd 1 (by decide), kk _ (fun x2 τ h2 hs2 => back u4 u5 u6 u7 τ h2 hs2)⟩
  · refine l_28 ⟨bd 1 (by decide), pq_partner h (fun x1 s1 hs kk => ?_)⟩
    rw [hs.1, hs.2]
    exact ⟨bd 1 (by decide), kk _ (fun x2 τ h2 hs2 => back u4 u5 u6 u7 τ h2 hs2)⟩
  · refine l_29 (pq_rings h (fun x1 s1 hs kk => ?_))
    exact kk _ (fun x2 τ h2 hs2 => back u4 u5 u6 u7 τ h2 hs2)
  · refine l_30 ⟨bd 1 (by decide), pq_ifSettled h (fun x1 s1 hs kk => ?_)⟩
    rw [hs.1, hs.2]
    exact ⟨bd 1 (by decide), kk _ (fun x2 τ h2 hs2 => back u4 u5 u6 u7 τ h2 hs2)⟩
  · refine l_31 ⟨bd 1 (by decide), pq_ifFirst h (fun x1 s1 hs kk => ?_)⟩
    rw [hs.1, hs.2]
    exact ⟨bd 1 (by decide), kk _ (fun x2 τ h2 hs2 => back u4 u5 u6 u7 τ h2 hs2)⟩
  · refine l_32 ⟨bd 1 (by decide), bd 2 (by decide), pq_log h (fun x1 s1 hs kk => ?_)⟩
    rw [hs.1, hs.2]
    exact ⟨bd 1 (by decide), bd 2 (by decide), kk _ (fun x2 τ h2 hs2 => back u4 u5 u6 u7 τ h2 hs2)⟩
  · exact l_33 h (fun v4 v5 v6 v7 => back v4 v5 v6 v7 σ (GI_up h) (Sc_r σ))
  · exact l_34 h (fun v4 v5 v6 v7 => back v4 v5 v6 v7 σ (GI_up h) (Sc_r σ))
  · refine l_35 (pr_planLength h (fun x1 s1 hs kk => ?_))
    exact kk _ (fun τ h2 hs2 => ⟨fun _ => back u4 u5 u6 u7 τ h2 hs2, fun z => absurd rfl z⟩)
  · refine l_36 ⟨bd 1 (by decide), pq_planByte h (fun x1 s1 hs kk => ?_)⟩
    rw [hs.1, hs.2]
    exact ⟨bd 1 (by decide), kk _ (fun x2 τ h2 hs2 => back u4 u5 u6 u7 τ h2 hs2)⟩
  · refine l_37 (pq_setupLength h (fun x1 s1 hs kk => ?_))
    exact kk _ (fun x2 τ h2 hs2 => back u4 u5 u6 u7 τ h2 hs2)
  · refine l_38 ⟨bd 1 (by decide), pq_setupByte h (fun x1 s1 hs kk => ?_)⟩
    rw [hs.1, hs.2]
    exact ⟨bd 1 (by decide), kk _ (fun x2 τ h2 hs2 => back u4 u5 u6 u7 τ h2 hs2)⟩
  · exact back u4 u5 u6 u7 σ (GI_up h) (Sc_r σ)
theorem lw_lp {K : gK} {L : Nat} (hL : L ≤ 3072) (hK : ∀ τ, K (some (.int 1)) τ) : ∀ (d t : Nat), t + d = 513 → ∀ (u4 u5 u6 u7 : Option Value) σ, GI t σ → σ 1000001 0 = iN L → gE 271 18 [some (.ref 1000000), some (.ref 0), some (.ref 323), some (.int (iN (6 * t))), u4, u5, u6, u7] [] σ K := by
  intro d
  induction d with
  | zero =>
    intro t ht u4 u5 u6 u7 σ h eL
    refine l18 ⟨fun _ => ⟨Or.inr rfl, hK σ⟩, fun z => absurd ?_ z⟩
    rw [eL]
    by_cases q : L < 6
    · have h1 : iN L < 6 := (iN_lt (m := 6) (by omega) (by decide)).mpr q
      have h2 : (0 : Int32) ≤ iN L := (iN_le (k := 0) (by decide) (by omega)).mpr (by omega)
      have h3 : (0 : Int32) ≤ iN (6 * t) := (iN_le (k := 0) (by decide) (by omega)).mpr (by omega)
      grind
    · rw [show (6 : Int32) = iN 6 from rfl, iN_sub (by omega) (by omega)]
      exact (iN_lt (by omega) (by omega)).mpr (by omega)
  | succ d ih =>
    intro t ht u4 u5 u6 u7 σ h eL
    by_cases q : 6 * t + 6 ≤ L
    · exact lw_it (by omega) h q hL eL (fun v4 v5 v6 v7 τ h2 hs => ih (t + 1) (by omega) v4 v5 v6 v7 τ h2 (by rw [hs.2]; exact eL))
    · refine l18 ⟨fun _ => ⟨Or.inr rfl, hK σ⟩, fun z => absurd ?_ z⟩
      rw [eL]
      by_cases q : L < 6
      · have h1 : iN L < 6 := (iN_lt (m := 6) (by omega) (by decide)).mpr q
        have h2 : (0 : Int32) ≤ iN L := (iN_le (k := 0) (by decide) (by omega)).mpr (by omega)
        have h3 : (0 : Int32) ≤ iN (6 * t) := (iN_le (k := 0) (by decide) (by omega)).mpr (by omega)
        grind
      · rw [show (6 : Int32) = iN 6 from rfl, iN_sub (by omega) (by omega)]
        exact (iN_lt (by omega) (by omega)).mpr (by omega)
