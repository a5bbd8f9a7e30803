/-! THE WRITER, letter by letter -/
noncomputable def pu (σ : gS) (x : Int32) : gS := if σ 5 0 = σ 5 1 then gup (gup σ 5 2 x) 5 0 ((gup σ 5 2 x) 5 0 + 1) else gup σ 5 0 (σ 5 0 + 1)
noncomputable def wr0 : gS → List Int32 → gS
  | σ, [] => σ
  | σ, x :: l => wr0 (pu σ x) l
theorem wr_x : ∃ f : gS → List Int32 → gS, (∀ σ, f σ [] = σ) ∧ ∀ σ x l, f σ (x :: l) = f (pu σ x) l := ⟨wr0, fun _ => rfl, fun _ _ _ => rfl⟩
noncomputable def wr : gS → List Int32 → gS := Classical.choose wr_x
theorem wr_nil : ∀ σ, wr σ [] = σ := (Classical.choose_spec wr_x).1
theorem wr_cons : ∀ σ x l, wr σ (x :: l) = wr (pu σ x) l := (Classical.choose_spec wr_x).2
theorem wr_c {σ : gS} {x : Int32} {l : List Int32} : wr σ (x :: l) = wr (wr σ [x]) l := by rw [wr_cons, wr_cons, wr_nil]
theorem wr_app : ∀ (a b : List Int32) (σ : gS), wr σ (a ++ b) = wr (wr σ a) b
  | [], b, σ => by
    rw [wr_nil]
    rfl
  | x :: a, b, σ => by
    rw [List.cons_append, wr_cons, wr_cons]
    exact wr_app a b (pu σ x)
theorem pu_o {σ : gS} {x : Int32} {q : Nat} (h : ¬ q = 5) : pu σ x q = σ q := by
  unfold pu
  split
  · funext j
    rw [gup_ne (by omega), gup_ne (by omega)]
  · funext j
    rw [gup_ne (by omega)]
theorem wr_o {q : Nat} (h : ¬ q = 5) : ∀ (l : List Int32) (σ : gS), wr σ l q = σ q
  | [], σ => by rw [wr_nil]
  | x :: l, σ => by
    rw [wr_cons]
    exact (wr_o h l (pu σ x)).trans (pu_o h)
theorem p40 {σ : gS} {P : gS → Prop} {x : Int32} (h : P (wr σ [x])) : gXv 40 [some (.ref 5), some (.int x)] σ P := by
  have h : P (pu σ x) := by
    rw [wr_cons, wr_nil] at h
    exact h
  unfold pu at h
  refine w40 ⟨fun z => ⟨rfl, ?_⟩, fun z => ⟨rfl, ?_⟩⟩
  · rw [if_neg z] at h
    exact h
  · rw [if_pos z] at h
    exact h
theorem drop_c {l : List Int32} {k : Nat} (hk : k < l.length) : l.drop k = l.getD k 0 :: l.drop (k + 1) := by
  rw [List.drop_eq_getElem_cons hk, List.getD_eq_getElem?_getD, List.getElem?_eq_getElem hk]
  rfl
theorem p39_10 {σ : gS} {P : gS → Prop} (h : P (wr σ (oT 10))) : gXv 39 [some (.ref 5), some (.ref 1000011), none] σ P := by
  have key : ∀ d k, k + d = 6 → ∀ σ, P (wr σ ((oT 10).drop k)) → gE 39 2 [some (.ref 5), some (.ref 1000011), some (.int (iN k))] [] σ (fun r σ1 => r = none ∧ P σ1) := by
    intro d
    induction d with
    | zero =>
      intro k hk σ h
      have : k = 6 := by omega
      subst this
      rw [show (oT 10).drop 6 = [] from rfl, wr_nil] at h
      exact v39_1000011 ⟨fun _ => ⟨rfl, h⟩, fun z => absurd z (by decide)⟩
    | succ d ih =>
      intro k hk σ h
      refine v39_1000011 ⟨fun z => absurd ((iN_lt (m := 6) (by omega) (by decide)).mpr (by omega)) z, fun z => ⟨⟨(iN_le (k := 0) (by decide) (by omega)).mpr (by omega), z⟩, p40 ?_⟩⟩
      rw [iN_one, iN_nat (by omega)]
      refine ih (k + 1) (by omega) _ ?_
      rw [drop_c (show k < (oT 10).length by show k < 6; omega), wr_c] at h
      exact h
  exact w39_1000011 (key 6 0 rfl σ h)
theorem p39_11 {σ : gS} {P : gS → Prop} (h : P (wr σ (oT 11))) : gXv 39 [some (.ref 5), some (.ref 1000012), none] σ P := by
  have key : ∀ d k, k + d = 7 → ∀ σ, P (wr σ ((oT 11).drop k)) → gE 39 2 [some (.ref 5), some (.ref 1000012), some (.int (iN k))] [] σ (fun r σ1 => r = none ∧ P σ1) := by
    intro d
    induction d with
    | zero =>
      intro k hk σ h
      have : k = 7 := by omega
      subst this
      rw [show (oT 11).drop 7 = [] from rfl, wr_nil] at h
      exact v39_1000012 ⟨fun _ => ⟨rfl, h⟩, fun z => absurd z (by decide)⟩
    | succ d ih =>
      intro k hk σ h
      refine v39_1000012 ⟨fun z => absurd ((iN_lt (m := 7) (by omega) (by decide)).mpr (by omega)) z, fun z => ⟨⟨(iN_le (k := 0) (by decide) (by omega)).mpr (by omega), z⟩, p40 ?_⟩⟩
      rw [iN_one, iN_nat (by omega)]
      refine ih (k + 1) (by omega) _ ?_
      rw [drop_c (show k < (oT 11).length by show k < 7; omega), wr_c] at h
      exact h
  exact w39_1000012 (key 7 0 rfl σ h)
theorem p39_12 {σ : gS} {P : gS → Prop} (h : P (wr σ (oT 12))) : gXv 39 [some (.ref 5), some (.ref 1000013), none] σ P := by
  have key : ∀ d k, k + d = 5 → ∀ σ, P (wr σ ((oT 12).drop k)) → gE 39 2 [some (.ref 5), some (.ref 1000013), some (.int (iN k))] [] σ (fun r σ1 => r = none ∧ P σ1) := by
    intro d
    induction d with
    | zero =>
      intro k hk σ h
      have : k = 5 := by omega
      subst this
      rw [show (oT 12).drop 5 = [] from rfl, wr_nil] at h
      exact v39_1000013 ⟨fun _ => ⟨rfl, h⟩, fun z => absurd z (by decide)⟩
    | succ d ih =>
      intro k hk σ h
      refine v39_1000013 ⟨fun z => absurd ((iN_lt (m := 5) (by omega) (by decide)).mpr (by omega)) z, fun z => ⟨⟨(iN_le (k := 0) (by decide) (by omega)).mpr (by omega), z⟩, p40 ?_⟩⟩
      rw [iN_one, iN_nat (by omega)]
      refine ih (k + 1) (by omega) _ ?_
      rw [drop_c (show k < (oT 12).length by show k < 5; omega), wr_c] at h
      exact h
  exact w39_1000013 (key 5 0 rfl σ h)
theorem p39_13 {σ : gS} {P : gS → Prop} (h : P (wr σ (oT 13))) : gXv 39 [some (.ref 5), some (.ref 1000014), none] σ P := by
  have key : ∀ d k, k + d = 7 → ∀ σ, P (wr σ ((oT 13).drop k)) → gE 39 2 [some (.ref 5), some (.ref 1000014), some (.int (iN k))] [] σ (fun r σ1 => r = none ∧ P σ1) := by
    intro d
    induction d with
    | zero =>
      intro k hk σ h
      have : k = 7 := by omega
      subst this
      rw [show (oT 13).drop 7 = [] from rfl, wr_nil] at h
      exact v39_1000014 ⟨fun _ => ⟨rfl, h⟩, fun z => absurd z (by decide)⟩
    | succ d ih =>
      intro k hk σ h
      refine v39_1000014 ⟨fun z => absurd ((iN_lt (m := 7) (by omega) (by decide)).mpr (by omega)) z, fun z => ⟨⟨(iN_le (k := 0) (by decide) (by omega)).mpr (by omega), z⟩, p40 ?_⟩⟩
      rw [iN_one, iN_nat (by omega)]
      refine ih (k + 1) (by omega) _ ?_
      rw [drop_c (show k < (oT 13).length by show k < 7; omega), wr_c] at h
      exact h
  exact w39_1000014 (key 7 0 rfl σ h)
theorem p39_14 {σ : gS} {P : gS → Prop} (h : P (wr σ (oT 14))) : gXv 39 [some (.ref 5), some (.ref 1000015), none] σ P := by
  have key : ∀ d k, k + d = 8 → ∀ σ, P (wr σ ((oT 14).drop k)) → gE 39 2 [some (.ref 5), some (.ref 1000015), some (.int (iN k))] [] σ (fun r σ1 => r = none ∧ P σ1) := by
    intro d
    induction d with
    | zero =>
      intro k hk σ h
      have : k = 8 := by omega
      subst this
      rw [show (oT 14).drop 8 = [] from rfl, wr_nil] at h
      exact v39_1000015 ⟨fun _ => ⟨rfl, h⟩, fun z => absurd z (by decide)⟩
    | succ d ih =>
      intro k hk σ h
      refine v39_1000015 ⟨fun z => absurd ((iN_lt (m := 8) (by omega) (by decide)).mpr (by omega)) z, fun z => ⟨⟨(iN_le (k := 0) (by decide) (by omega)).mpr (by omega), z⟩, p40 ?_⟩⟩
      rw [iN_one, iN_nat (by omega)]
      refine ih (k + 1) (by omega) _ ?_
      rw [drop_c (show k < (oT 14).length by show k < 8; omega), wr_c] at h
      exact h
  exact w39_1000015 (key 8 0 rfl σ h)
theorem p39_15 {σ : gS} {P : gS → Prop} (h : P (wr σ (oT 15))) : gXv 39 [some (.ref 5), some (.ref 1000016), none] σ P := by
  have key : ∀ d k, k + d = 8 → ∀ σ, P (wr σ ((oT 15).drop k)) → gE 39 2 [some (.ref 5), some (.ref 1000016), some (.int (iN k))] [] σ (fun r σ1 => r = none ∧ P σ1) := by
    intro d
    induction d with
    | zero =>
      intro k hk σ h
      have : k = 8 := by omega
      subst this
      rw [show (oT 15).drop 8 = [] from rfl, wr_nil] at h
      exact v39_1000016 ⟨fun _ => ⟨rfl, h⟩, fun z => absurd z (by decide)⟩
    | succ d ih =>
      intro k hk σ h
      refine v39_1000016 ⟨fun z => absurd ((iN_lt (m := 8) (by omega) (by decide)).mpr (by omega)) z, fun z => ⟨⟨(iN_le (k := 0) (by decide) (by omega)).mpr (by omega), z⟩, p40 ?_⟩⟩
      rw [iN_one, iN_nat (by omega)]
      refine ih (k + 1) (by omega) _ ?_
      rw [drop_c (show k < (oT 15).length by show k < 8; omega), wr_c] at h
      exact h
  exact w39_1000016 (key 8 0 rfl σ h)
theorem p39_16 {σ : gS} {P : gS → Prop} (h : P (wr σ (oT 16))) : gXv 39 [some (.ref 5), some (.ref 1000017), none] σ P := by
  have key : ∀ d k, k + d = 7 → ∀ σ, P (wr σ ((oT 16).drop k)) → gE 39 2 [some (.ref 5), some (.ref 1000017), some (.int (iN k))] [] σ (fun r σ1 => r = none ∧ P σ1) := by
    intro d
    induction d with
    | zero =>
      intro k hk σ h
      have : k = 7 := by omega
      subst this
      rw [show (oT 16).drop 7 = [] from rfl, wr_nil] at h
      exact v39_1000017 ⟨fun _ => ⟨rfl, h⟩, fun z => absurd z (by decide)⟩
    | succ d ih =>
      intro k hk σ h
      refine v39_1000017 ⟨fun z => absurd ((iN_lt (m := 7) (by omega) (by decide)).mpr (by omega)) z, fun z => ⟨⟨(iN_le (k := 0) (by decide) (by omega)).mpr (by omega), z⟩, p40 ?_⟩⟩
      rw [iN_one, iN_nat (by omega)]
      refine ih (k + 1) (by omega) _ ?_
      rw [drop_c (show k < (oT 16).length by show k < 7; omega), wr_c] at h
      exact h
  exact w39_1000017 (key 7 0 rfl σ h)
theorem p39_17 {σ : gS} {P : gS → Prop} (h : P (wr σ (oT 17))) : gXv 39 [some (.ref 5), some (.ref 1000018), none] σ P := by
  have key : ∀ d k, k + d = 5 → ∀ σ, P (wr σ ((oT 17).drop k)) → gE 39 2 [some (.ref 5), some (.ref 1000018), some (.int (iN k))] [] σ (fun r σ1 => r = none ∧ P σ1) := by
    intro d
    induction d with
    | zero =>
      intro k hk σ h
      have : k = 5 := by omega
      subst this
      rw [show (oT 17).drop 5 = [] from rfl, wr_nil] at h
      exact v39_1000018 ⟨fun _ => ⟨rfl, h⟩, fun z => absurd z (by decide)⟩
    | succ d ih =>
      intro k hk σ h
      refine v39_1000018 ⟨fun z => absurd ((iN_lt (m := 5) (by omega) (by decide)).mpr (by omega)) z, fun z => ⟨⟨(iN_le (k := 0) (by decide) (by omega)).mpr (by omega), z⟩, p40 ?_⟩⟩
      rw [iN_one, iN_nat (by omega)]
      refine ih (k + 1) (by omega) _ ?_
      rw [drop_c (show k < (oT 17).length by show k < 5; omega), wr_c] at h
      exact h
  exact w39_1000018 (key 5 0 rfl σ h)
theorem p39_18 {σ : gS} {P : gS → Prop} (h : P (wr σ (oT 18))) : gXv 39 [some (.ref 5), some (.ref 1000019), none] σ P := by
  have key : ∀ d k, k + d = 8 → ∀ σ, P (wr σ ((oT 18).drop k)) → gE 39 2 [some (.ref 5), some (.ref 1000019), some (.int (iN k))] [] σ (fun r σ1 => r = none ∧ P σ1) := by
    intro d
    induction d with
    | zero =>
      intro k hk σ h
      have : k = 8 := by omega
      subst this
      rw [show (oT 18).drop 8 = [] from rfl, wr_nil] at h
      exact v39_1000019 ⟨fun _ => ⟨rfl, h⟩, fun z => absurd z (by decide)⟩
    | succ d ih =>
      intro k hk σ h
      refine v39_1000019 ⟨fun z => absurd ((iN_lt (m := 8) (by omega) (by decide)).mpr (by omega)) z, fun z => ⟨⟨(iN_le (k := 0) (by decide) (by omega)).mpr (by omega), z⟩, p40 ?_⟩⟩
      rw [iN_one, iN_nat (by omega)]
      refine ih (k + 1) (by omega) _ ?_
      rw [drop_c (show k < (oT 18).length by show k < 8; omega), wr_c] at h
      exact h
  exact w39_1000019 (key 8 0 rfl σ h)
theorem p39_19 {σ : gS} {P : gS → Prop} (h : P (wr σ (oT 19))) : gXv 39 [some (.ref 5), some (.ref 1000020), none] σ P := by
  have key : ∀ d k, k + d = 6 → ∀ σ, P (wr σ ((oT 19).drop k)) → gE 39 2 [some (.ref 5), some (.ref 1000020), some (.int (iN k))] [] σ (fun r σ1 => r = none ∧ P σ1) := by
    intro d
    induction d with
    | zero =>
      intro k hk σ h
      have : k = 6 := by omega
      subst this
      rw [show (oT 19).drop 6 = [] from rfl, wr_nil] at h
      exact v39_1000020 ⟨fun _ => ⟨rfl, h⟩, fun z => absurd z (by decide)⟩
    | succ d ih =>
      intro k hk σ h
      refine v39_1000020 ⟨fun z => absurd ((iN_lt (m := 6) (by omega) (by decide)).mpr (by omega)) z, fun z => ⟨⟨(iN_le (k := 0) (by decide) (by omega)).mpr (by omega), z⟩, p40 ?_⟩⟩
      rw [iN_one, iN_nat (by omega)]
      refine ih (k + 1) (by omega) _ ?_
      rw [drop_c (show k < (oT 19).length by show k < 6; omega), wr_c] at h
      exact h
  exact w39_1000020 (key 6 0 rfl σ h)
/-- a number's letters -/
def nzL (n : Int32) : Bool → List Int32 → List Int32
  | _, [] => []
  | true, u :: us => (48 + (n / u - n / u / 10 * 10)) :: nzL n true us
  | false, u :: us => if n < u ∧ ¬ u = 1 then nzL n false us else (48 + (n / u - n / u / 10 * 10)) :: nzL n true us
theorem numL_x : ∃ f : Int32 → List Int32, ∀ n, f n = nzL n false [100000, 10000, 1000, 100, 10, 1] := ⟨_, fun _ => rfl⟩
noncomputable def numL : Int32 → List Int32 := Classical.choose numL_x
theorem numL_e : ∀ n, numL n = nzL n false [100000, 10000, 1000, 100, 10, 1] := Classical.choose_spec numL_x
theorem q38 {P : gS → Prop} {n u v : Int32} {us : List Int32} (hu : 0 < u) (hv : u / 10 = v) (hn : ∀ (b : Bool) σ, P (wr σ (nzL n b us)) → gE 38 5 [some (.ref 5), some (.int n), some (.int (if b = true then 1 else 0)), some (.int v)] [] σ (fun r σ1 => r = none ∧ P σ1)) : ∀ (b : Bool) σ, P (wr σ (nzL n b (u :: us))) → gE 38 5 [some (.ref 5), some (.int n), some (.int (if b = true then 1 else 0)), some (.int u)] [] σ (fun r σ1 => r = none ∧ P σ1) := by
  intro b σ h
  have u0 : u ≠ 0 := fun z => by rw [z] at hu; exact absurd hu (by decide)
  have t10 : (10 : Int32) ≠ 0 := by decide
  refine v38 ?_
  rw [hv]
  refine ⟨fun z => absurd hu z, fun _ => ⟨fun zb => ⟨fun z => absurd z (by decide), fun _ => ⟨u0, t10, p40 ⟨t10, ?_⟩⟩⟩, fun zb => ⟨fun z1 => ⟨fun z => absurd z (by decide), fun _ => ⟨u0, t10, p40 ⟨t10, ?_⟩⟩⟩, fun z1 => ⟨fun z2 => ⟨fun _ => ⟨t10, ?_⟩, fun z => absurd rfl z⟩, fun z2 => ⟨fun z => absurd z (by decide), fun _ => ⟨u0, t10, p40 ⟨t10, ?_⟩⟩⟩⟩⟩⟩⟩
  · cases b with
    | false => exact absurd rfl zb
    | true =>
      rw [show nzL n true (u :: us) = (48 + (n / u - n / u / 10 * 10)) :: nzL n true us from rfl, wr_c] at h
      exact hn true _ h
  · cases b with
    | true => exact absurd zb (by decide)
    | false =>
      unfold nzL at h
      rw [if_neg (fun z => z1 z.1), wr_c] at h
      exact hn true _ h
  · cases b with
    | true => exact absurd zb (by decide)
    | false =>
      unfold nzL at h
      rw [if_pos ⟨z1, z2⟩] at h
      exact hn false _ h
  · cases b with
    | true => exact absurd zb (by decide)
    | false =>
      unfold nzL at h
      rw [if_neg (fun z => z.2 z2), wr_c] at h
      exact hn true _ h
theorem p38 {σ : gS} {P : gS → Prop} {n : Int32} (h : P (wr σ (numL n))) : gXv 38 [some (.ref 5), some (.int n), none, none] σ P := by
  have a0 : ∀ (b : Bool) σ, P (wr σ (nzL n b [])) → gE 38 5 [some (.ref 5), some (.int n), some (.int (if b = true then 1 else 0)), some (.int 0)] [] σ (fun r σ1 => r = none ∧ P σ1) := fun b σ h => v38 ⟨fun _ => ⟨rfl, by rw [show nzL n b [] = [] by cases b <;> rfl, wr_nil] at h; exact h⟩, fun z => absurd z (by decide)⟩
  have a1 := q38 (u := 1) (by decide) (by decide) a0
  have a2 := q38 (u := 10) (by decide) (by decide) a1
  have a3 := q38 (u := 100) (by decide) (by decide) a2
  have a4 := q38 (u := 1000) (by decide) (by decide) a3
  have a5 := q38 (u := 10000) (by decide) (by decide) a4
  have a6 := q38 (u := 100000) (by decide) (by decide) a5
  rw [numL_e] at h
  exact w38 (a6 false σ h)
set_option maxRecDepth 20000 in
theorem k35_100 {σ : gS} {K : gK} {l2 : Int32} {l1 : Nat} (h : gTv l1 ∧ ((0 < (σ l1 6) → gXv 39 [some (.ref 5), some (.ref 1000018), none] σ (fun s1 => gTv l1 ∧ gXv 38 [some (.ref 5), some (.int (s1 l1 6)), none, none] s1 (fun s2 => gXv 40 [some (.ref 5), some (.int 32)] s2 (fun s3 => gTv l1 ∧ gXv 38 [some (.ref 5), some (.int (s3 l1 7)), none, none] s3 (fun s4 => gE 35 142 [some (.ref 5), some (.ref l1), some (.int l2)] [] s4 K))))) ∧ (¬ 0 < (σ l1 6) → gTv l1 ∧ ((¬ 0 < (σ l1 7) → gE 35 142 [some (.ref 5), some (.ref l1), some (.int l2)] [] σ K) ∧ (0 < (σ l1 7) → gXv 39 [some (.ref 5), some (.ref 1000018), none] σ (fun s5 => gTv l1 ∧ gXv 38 [some (.ref 5), some (.int (s5 l1 6)), none, none] s5 (fun s6 => gXv 40 [some (.ref 5), some (.int 32)] s6 (fun s7 => gTv l1 ∧ gXv 38 [some (.ref 5), some (.int (s7 l1 7)), none, none] s7 (fun s8 => gE 35 142 [some (.ref 5), some (.ref l1), some (.int l2)] [] s8 K))))))))) : gE 35 100 [some (.ref 5), some (.ref l1), some (.int l2)] [] σ K :=
  gw_run (cy := 35) (cuts := [22, 55, 69, 80, 90, 100, 142, 153, 165]) (inl := [36, 37]) (pf := gpek) gpek_ok 400 (by decide) h
/-! a traveller's line, as the writer writes it: o the traveller's numbers -/
def nmL (v : Int32) : Nat → Nat → List Int32
  | 0, _ => []
  | d + 1, j => if 0 < (v >>> ((5 * iN j) &&& 31)) &&& 31 then (97 + ((v >>> ((5 * iN j) &&& 31)) &&& 31) - 1) :: nmL v d (j + 1) else []
noncomputable def g153 (o : Nat → Int32) : List Int32 := (if o 9 = 99 then [] else oT 19 ++ numL (o 9)) ++ [59]
noncomputable def g142 (o : Nat → Int32) : List Int32 := (if o 8 = 0 then [] else oT 18 ++ numL (o 8)) ++ g153 o
noncomputable def g100 (o : Nat → Int32) : List Int32 := (if 0 < o 6 ∨ 0 < o 7 then oT 17 ++ (numL (o 6) ++ ([32] ++ numL (o 7))) else []) ++ g142 o
noncomputable def g90 (o : Nat → Int32) : List Int32 := (if o 5 = 0 then [] else oT 16 ++ ([if 0 < o 5 then 43 else 45] ++ numL (if o 5 < 0 then -o 5 else o 5))) ++ g100 o
noncomputable def g80 (o : Nat → Int32) : List Int32 := (if o 4 = 0 then [] else oT 15 ++ ([if 0 < o 4 then 43 else 45] ++ numL (if o 4 < 0 then -o 4 else o 4))) ++ g90 o
noncomputable def g69 (o : Nat → Int32) : List Int32 := (if o 3 = 0 then [] else oT 14 ++ numL (o 3)) ++ g80 o
noncomputable def g55 (o : Nat → Int32) : List Int32 := (if o 2 = 1 then oT 13 else []) ++ g69 o
noncomputable def g35 (o : Nat → Int32) : List Int32 := oT 12 ++ (numL (o 1) ++ ([32] ++ (nmL (o 0) 5 0 ++ g55 o)))
section WR
variable {σ : gS} {P : gS → Prop} {w : Nat} {l2 : Int32}
theorem gTv5 (hw : gTv w) : ¬ w = 5 := by
  intro z
  subst z
  exact absurd hw.2 (by decide +kernel)
theorem gTv8 : ∀ {t : Nat}, t < 20 → gTv (6 + 2 + t) := by
  have h : ∀ t, t < 20 → 6 + 2 + t < 323 ∧ gkd (6 + 2 + t) = 22 := by decide +kernel
  exact fun {t} ht => h t ht
theorem e165 (h : P (wr σ [59])) : gE 35 165 [some (.ref 5), some (.ref w), some (.int l2)] [] σ (fun r σ1 => r = none ∧ P σ1) := c35_165 (p40 ⟨rfl, h⟩)
theorem e153 (hw : gTv w) (h : P (wr σ (g153 (σ w)))) : gE 35 153 [some (.ref 5), some (.ref w), some (.int l2)] [] σ (fun r σ1 => r = none ∧ P σ1) := by
  unfold g153 at h
  refine c35_153 ⟨hw, fun z => ?_, fun z => ?_⟩
  · rw [if_pos z, List.nil_append] at h
    exact e165 h
  · rw [if_neg z, wr_app, wr_app] at h
    exact p39_19 (p38 (e165 h))
theorem e142 (hw : gTv w) (h : P (wr σ (g142 (σ w)))) : gE 35 142 [some (.ref 5), some (.ref w), some (.int l2)] [] σ (fun r σ1 => r = none ∧ P σ1) := by
  have w5 := gTv5 hw
  unfold g142 at h
  refine c35_142 ⟨hw, fun z => ?_, fun z => ?_⟩
  · rw [if_pos z, List.nil_append] at h
    exact e153 hw h
  · rw [if_neg z, wr_app, wr_app] at h
    refine p39_18 (p38 (e153 hw ?_))
    rw [wr_o w5, wr_o w5]
    exact h
theorem e100 (hw : gTv w) (h : P (wr σ (g100 (σ w)))) : gE 35 100 [some (.ref 5), some (.ref w), some (.int l2)] [] σ (fun r σ1 => r = none ∧ P σ1) := by
  have w5 := gTv5 hw
  unfold g100 at h
  have on : (0 < σ w 6 ∨ 0 < σ w 7) → gXv 39 [some (.ref 5), some (.ref 1000018), none] σ (fun s1 => gTv w ∧ gXv 38 [some (.ref 5), some (.int (s1 w 6)), none, none] s1 (fun s2 => gXv 40 [some (.ref 5), some (.int 32)] s2 (fun s3 => gTv w ∧ gXv 38 [some (.ref 5), some (.int (s3 w 7)), none, none] s3 (fun s4 => gE 35 142 [some (.ref 5), some (.ref w), some (.int l2)] [] s4 (fun r σ1 => r = none ∧ P σ1))))) := by
    intro z
    rw [if_pos z, wr_app, wr_app, wr_app, wr_app] at h
    refine p39_17 ⟨hw, p38 (p40 ⟨hw, p38 (e142 hw ?_)⟩)⟩
    simp only [wr_o w5]
    exact h
  refine k35_100 ⟨hw, fun z => on (Or.inl z), fun z => ⟨hw, fun z2 => ?_, fun z2 => on (Or.inr z2)⟩⟩
  rw [if_neg (fun y => y.elim z z2), List.nil_append] at h
  exact e142 hw h
theorem e90 (hw : gTv w) (h : P (wr σ (g90 (σ w)))) : gE 35 90 [some (.ref 5), some (.ref w), some (.int l2)] [] σ (fun r σ1 => r = none ∧ P σ1) := by
  have w5 := gTv5 hw
  unfold g90 at h
  refine c35_90 ⟨hw, fun z => ?_, fun z => ?_⟩
  · rw [if_pos z, List.nil_append] at h
    exact e100 hw h
  · rw [if_neg z, wr_app, wr_app, wr_app] at h
    refine p39_16 ⟨fun y => ?_, fun y => ?_⟩
    · rw [if_neg y] at h
      refine p40 (p38 (e100 hw ?_))
      rw [wr_o w5, wr_o w5, wr_o w5]
      exact h
    · rw [if_pos y] at h
      refine p40 (p38 (e100 hw ?_))
      rw [wr_o w5, wr_o w5, wr_o w5]
      exact h
theorem e80 (hw : gTv w) (h : P (wr σ (g80 (σ w)))) : gE 35 80 [some (.ref 5), some (.ref w), some (.int l2)] [] σ (fun r σ1 => r = none ∧ P σ1) := by
  have w5 := gTv5 hw
  unfold g80 at h
  refine c35_80 ⟨hw, fun z => ?_, fun z => ?_⟩
  · rw [if_pos z, List.nil_append] at h
    exact e90 hw h
  · rw [if_neg z, wr_app, wr_app, wr_app] at h
    refine p39_15 ⟨fun y => ?_, fun y => ?_⟩
    · rw [if_neg y] at h
      refine p40 (p38 (e90 hw ?_))
      rw [wr_o w5, wr_o w5, wr_o w5]
      exact h
    · rw [if_pos y] at h
      refine p40 (p38 (e90 hw ?_))
      rw [wr_o w5, wr_o w5, wr_o w5]
      exact h
theorem e69 (hw : gTv w) (h : P (wr σ (g69 (σ w)))) : gE 35 69 [some (.ref 5), some (.ref w), some (.int l2)] [] σ (fun r σ1 => r = none ∧ P σ1) := by
  have w5 := gTv5 hw
  unfold g69 at h
  refine c35_69 ⟨hw, fun z => ?_, fun z => ?_⟩
  · rw [if_pos z, List.nil_append] at h
    exact e80 hw h
  · rw [if_neg z, wr_app, wr_app] at h
    refine p39_14 (p38 (e80 hw ?_))
    rw [wr_o w5, wr_o w5]
    exact h
theorem e55 (hw : gTv w) (h : P (wr σ (g55 (σ w)))) : gE 35 55 [some (.ref 5), some (.ref w), some (.int l2)] [] σ (fun r σ1 => r = none ∧ P σ1) := by
  have w5 := gTv5 hw
  unfold g55 at h
  refine c35_55 ⟨hw, fun z => ?_, fun z => ?_⟩
  · rw [if_neg z, List.nil_append] at h
    exact e69 hw h
  · rw [if_pos z, wr_app] at h
    refine p39_13 (e69 hw ?_)
    rw [wr_o w5]
    exact h
theorem e22 (hw : gTv w) : ∀ (d j : Nat) (σ : gS), j + d = 5 → P (wr σ (nmL (σ w 0) d j ++ g55 (σ w))) → gE 35 22 [some (.ref 5), some (.ref w), some (.int (iN j))] [] σ (fun r σ1 => r = none ∧ P σ1)
  | 0, j, σ, hj, h => by
    rw [show nmL (σ w 0) 0 j = [] from rfl, List.nil_append] at h
    refine c35_22 ⟨fun _ => e55 hw h, fun z => ?_⟩
    rw [show (5 : Int32) = iN 5 from rfl, iN_lt (by omega) (by decide)] at z
    omega
  | d + 1, j, σ, hj, h => by
    have w5 := gTv5 hw
    have l5 : iN j < 5 := (iN_lt (m := 5) (by omega) (by decide)).mpr (by omega)
    unfold nmL at h
    refine c35_22 ⟨fun z => absurd l5 z, fun z => ⟨hw, hw, fun y => ?_, fun y => ⟨hw, hw, p40 ?_⟩⟩⟩
    · rw [if_pos l5] at y
      rw [if_neg y, List.nil_append] at h
      exact e55 hw h
    · rw [if_pos l5] at y
      rw [if_pos y, List.cons_append, wr_c] at h
      rw [iN_one, if_pos l5]
      refine e22 hw d (j + 1) _ (by omega) ?_
      rw [wr_o w5]
      exact h
theorem p35 (hw : gTv w) (h : P (wr σ (g35 (σ w)))) : gXv 35 [some (.ref 5), some (.ref w), none] σ P := by
  have w5 := gTv5 hw
  unfold g35 at h
  rw [wr_app, wr_app, wr_app] at h
  refine w35 (p39_12 ⟨hw, p38 (p40 (e22 hw 5 0 _ rfl ?_))⟩)
  simp only [wr_o w5]
  exact h
/-- the setup's text -/
noncomputable def gLn (σ : gS) : Nat → Nat → List Int32
  | 0, _ => []
  | d + 1, t => g35 (σ (6 + 2 + t)) ++ gLn σ d (t + 1)
noncomputable def gSe (σ : gS) (n : Nat) : List Int32 := oT 10 ++ (numL (σ 6 4) ++ (oT 11 ++ (numL (σ 6 5) ++ ([59] ++ gLn σ n 0))))
theorem gLn_cg {σ τ : gS} (h : ∀ q, ¬ q = 5 → τ q = σ q) : ∀ d t, gLn τ d t = gLn σ d t
  | 0, _ => rfl
  | d + 1, t => by
    show g35 (τ (6 + 2 + t)) ++ gLn τ d (t + 1) = g35 (σ (6 + 2 + t)) ++ gLn σ d (t + 1)
    rw [h _ (by omega), gLn_cg h d (t + 1)]
theorem e52 {n : Nat} (h20 : n ≤ 20) : ∀ (d t : Nat) (σ : gS), t + d = n → σ 6 7 = iN n → P (wr σ (gLn σ d t)) → gE 34 52 [some (.ref 5), some (.ref 6), some (.int l2), some (.int (iN t))] [] σ (fun r σ1 => r = none ∧ P σ1)
  | 0, t, σ, ht, h7, h => by
    rw [show gLn σ 0 t = [] from rfl, wr_nil] at h
    refine c34_52 ⟨fun _ => ⟨rfl, h⟩, fun z => ?_⟩
    rw [h7, iN_lt (by omega) (by omega)] at z
    omega
  | d + 1, t, σ, ht, h7, h => by
    have lt : iN t < σ 6 7 := by
      rw [h7]
      exact (iN_lt (by omega) (by omega)).mpr (by omega)
    have h : P (wr σ (g35 (σ (6 + 2 + t)) ++ gLn σ d (t + 1))) := h
    rw [wr_app] at h
    refine c34_52 ⟨fun z => absurd lt z, fun _ => ⟨⟨(iN_le (k := 0) (by decide) (by omega)).mpr (Nat.zero_le _), (iN_lt (m := 20) (by omega) (by decide)).mpr (by omega)⟩, ?_⟩⟩
    rw [iN_nat (by omega), iN_one]
    refine p35 (gTv8 (by omega)) (e52 h20 d (t + 1) _ (by omega) (by rw [wr_o (by decide)]; exact h7) ?_)
    rw [gLn_cg (fun q hq => wr_o hq _ _)]
    exact h
end WR
