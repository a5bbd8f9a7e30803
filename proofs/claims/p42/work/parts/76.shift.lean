/-! THE J MACHINE, MOVED: a run over places 0, 1 .. is a run over places B 0, B 1 .. (apart from each other), with other cells beside; new ones come on top -/
def jm_p (B : Nat → Nat) (a : Nat) : Nat := if a < 1000000 then B a else a
def jm_v (B : Nat → Nat) (v : Value) : Value := match v with
  | .ref a => .ref (jm_p B a)
  | w => w
def jm_c (B : Nat → Nat) (x : jv_E) : jv_E := match x with
  | .inl q => .inl q
  | .inr (.inl (ty, n, f)) => .inr (.inl (ty, n, fun j => (f j).map (jm_p B)))
  | .inr (.inr (c, fs)) => .inr (.inr (c, fs.map (jm_v B)))
/-- a place where nothing can be read -/
def jm_dead : jv_E := .inl (99, 0, fun _ => 0)
/-- the heap H holds h's cells at places B 0, B 1 .., and the same old ones (h may have no script) -/
def jm_S (B : Nat → Nat) (h H : jv_H) : Prop := (∀ a, a < h.2.1 ∨ a = 1000000 ∨ jv_old a = true → H.1 (jm_p B a) = jm_c B (h.1 a) ∨ (a = 1000000 ∧ h.1 a = jm_dead)) ∧ (h.2.1 ≤ H.2.1 ∧ (∀ a, a < h.2.1 → B a < H.2.1) ∧ ∀ a b, a < h.2.1 → b < h.2.1 → B a = B b → a = b) ∧ H.2.1 ≤ 1000000
/-- new cells: B counts on from b as h does from a -/
def jm_A (B : Nat → Nat) (a b : Nat) : Prop := ∀ i, B (a + i) = b + i
theorem jm_A.next {B : Nat → Nat} {a b a1 b1 : Nat} (h : jm_A B a b) (h1 : a ≤ a1) (h2 : b1 = b + (a1 - a)) : jm_A B a1 b1 := by
  intro i
  have h3 := h (a1 - a + i)
  rw [show a + (a1 - a + i) = a1 + i by omega] at h3
  omega
theorem jm_hal1 {B : Nat → Nat} {h h1 h' H : jv_H} (hal : h'.2.1 = h.2.1 ∨ jm_A B h.2.1 H.2.1) (m1 : h.2.1 ≤ h1.2.1) (m2 : h1.2.1 ≤ h'.2.1) : h1.2.1 = h.2.1 ∨ jm_A B h.2.1 H.2.1 := hal.imp (fun q => by omega) id
theorem jm_hal2 {B : Nat → Nat} {h h1 h' H H1 : jv_H} (hal : h'.2.1 = h.2.1 ∨ jm_A B h.2.1 H.2.1) (m1 : h.2.1 ≤ h1.2.1) (m2 : h1.2.1 ≤ h'.2.1) (f : H1.2.1 = H.2.1 + (h1.2.1 - h.2.1)) : h'.2.1 = h1.2.1 ∨ jm_A B h1.2.1 H1.2.1 := hal.imp (fun q => by omega) (fun q => q.next m1 f)
theorem jm_v_ref (B : Nat → Nat) (a : Nat) : jm_v B (.ref a) = .ref (jm_p B a) := rfl
theorem jm_v_int (B : Nat → Nat) (a : Int32) : jm_v B (.int a) = .int a := rfl
theorem jm_v_long (B : Nat → Nat) (a : Int64) : jm_v B (.long a) = .long a := rfl
theorem jm_v_double (B : Nat → Nat) (a : UInt64) : jm_v B (.double a) = .double a := rfl
theorem jm_v_null (B : Nat → Nat) : jm_v B .null = .null := rfl
theorem jm_cat (B : Nat → Nat) (v : Value) : (jm_v B v).category = v.category := by cases v <;> rfl
theorem jm_lt {B : Nat → Nat} {a : Nat} {h H : jv_H} (hS : jm_S B h H) (ha : a < h.2.1) : jm_p B a = B a ∧ B a < H.2.1 := by
  have h1 := hS.2.1.1
  have h2 := hS.2.2
  unfold jm_p
  rw [if_pos (by omega)]
  exact ⟨rfl, hS.2.1.2.1 a ha⟩
theorem jm_big {B : Nat → Nat} {a : Nat} (ha : 1000000 ≤ a) : jm_p B a = a := by
  unfold jm_p
  rw [if_neg (by omega)]
theorem jm_inj {B : Nat → Nat} {a b : Nat} {h H : jv_H} (hS : jm_S B h H) (ha : a < h.2.1) (hb : b < h.2.1 ∨ b = 1000000 ∨ jv_old b = true) (e : jm_p B a = jm_p B b) : a = b := by
  obtain ⟨e1, h1⟩ := jm_lt hS ha
  have h2 := hS.2.2
  rw [e1] at e
  rcases hb with hb | hb
  · rw [(jm_lt hS hb).1] at e
    exact hS.2.1.2.2 a b ha hb e
  · have hb : 1000000 ≤ b := by
      rcases hb with q | q
      · omega
      · have := jv_old_eq q
        omega
    rw [jm_big hb] at e
    omega
theorem jm_pure {B : Nat → Nat} {i : Instr} {st st' : List Value} (h : jv_pure i st = some st') : jv_pure i (st.map (jm_v B)) = some (st'.map (jm_v B)) := by
  unfold jv_pure at h ⊢
  split at h
  all_goals first
    | (cases h; done)
    | (cases h; rfl)
    | (obtain ⟨y, x, r, rfl, rfl⟩ := jv_two_eq h; rfl)
    | (split at h
       all_goals first
         | (cases h; done)
         | (cases h; rfl)
         | (rename_i hq
            cases h
            first
              | (exact if_pos hq)
              | (exact if_neg hq))
         | (split at h
            all_goals first
              | (cases h; done)
              | (rename_i hq
                 cases h
                 first
                   | (exact if_neg hq)
                   | (exact if_pos hq))))
theorem jm_get {B : Nat → Nat} {L : List (Option Value)} {i : Nat} {v : Value} (h : L[i]? = some (some v)) : (L.map (Option.map (jm_v B)))[i]? = some (some (jm_v B v)) := by
  rw [List.getElem?_map, h]
  rfl
theorem jm_ldI {B : Nat → Nat} {L : List (Option Value)} {i : Nat} {st st' : List Value} (h : jv_ldI L i st = some st') : jv_ldI (L.map (Option.map (jm_v B))) i (st.map (jm_v B)) = some (st'.map (jm_v B)) := by
  obtain ⟨x, h1, rfl⟩ := jv_ldI_eq h
  unfold jv_ldI
  rw [jm_get h1]
  rfl
theorem jm_ldA {B : Nat → Nat} {L : List (Option Value)} {i : Nat} {st st' : List Value} (h : jv_ldA L i st = some st') : jv_ldA (L.map (Option.map (jm_v B))) i (st.map (jm_v B)) = some (st'.map (jm_v B)) := by
  obtain ⟨x, h1, rfl⟩ := jv_ldA_eq h
  unfold jv_ldA
  rw [jm_get h1]
  rfl
theorem jm_ldD {B : Nat → Nat} {L : List (Option Value)} {i : Nat} {st st' : List Value} (h : jv_ldD L i st = some st') : jv_ldD (L.map (Option.map (jm_v B))) i (st.map (jm_v B)) = some (st'.map (jm_v B)) := by
  obtain ⟨x, h1, rfl⟩ := jv_ldD_eq h
  unfold jv_ldD
  rw [jm_get h1]
  rfl
theorem jm_ldL {B : Nat → Nat} {L : List (Option Value)} {i : Nat} {st st' : List Value} (h : jv_ldL L i st = some st') : jv_ldL (L.map (Option.map (jm_v B))) i (st.map (jm_v B)) = some (st'.map (jm_v B)) := by
  obtain ⟨x, h1, rfl⟩ := jv_ldL_eq h
  unfold jv_ldL
  rw [jm_get h1]
  rfl
theorem jm_ld {B : Nat → Nat} {i : Instr} {L : List (Option Value)} {st st' : List Value} (h : jv_ld i L st = some st') : jv_ld i (L.map (Option.map (jm_v B))) (st.map (jm_v B)) = some (st'.map (jm_v B)) := by
  unfold jv_ld at h ⊢
  split at h
  all_goals first
    | exact jm_ldI h
    | exact jm_ldA h
    | exact jm_ldD h
    | exact jm_ldL h
    | cases h
theorem jm_jmp {B : Nat → Nat} {pc : Nat} {off : Int} {st : List Value} {t : Nat × List Value} (h : jv_jmp pc off st = some t) : jv_jmp pc off (st.map (jm_v B)) = some (t.1, t.2.map (jm_v B)) := by
  unfold jv_jmp at h ⊢
  split at h
  · rename_i hq
    cases h
    exact if_pos hq
  · cases h
theorem jm_br {B : Nat → Nat} {i : Instr} {pc : Nat} {st : List Value} {t : Nat × List Value} (h : jv_br i pc st = some t) : jv_br i pc (st.map (jm_v B)) = some (t.1, t.2.map (jm_v B)) := by
  unfold jv_br at h ⊢
  split at h
  · split at h
    · exact jm_jmp h
    · cases h
  · exact jm_jmp h
  · split at h
    · split at h
      · rename_i u hj
        have hj2 := jm_jmp (B := B) hj
        simp only [List.map_cons, jm_v_ref, jm_v_int, jm_v_long, jm_v_null, jm_v_double, hj2]
        rcases jv_if_eq h with ⟨hc, rfl⟩ | ⟨hc, rfl⟩
        · rw [if_pos hc]
        · rw [hc]; rfl
      · cases h
    · cases h
  · split at h
    · split at h
      · rename_i u hj
        have hj2 := jm_jmp (B := B) hj
        simp only [List.map_cons, jm_v_ref, jm_v_int, jm_v_long, jm_v_null, jm_v_double, hj2]
        rcases jv_if_eq h with ⟨hc, rfl⟩ | ⟨hc, rfl⟩
        · rw [if_pos hc]
        · rw [hc]; rfl
      · cases h
    · cases h
  · split at h
    · simp only [List.map_cons, jm_v_ref, jm_v_int, jm_v_long, jm_v_null, jm_v_double]
      split at h
      · rename_i hq
        rw [if_pos hq]
        exact jm_jmp h
      · rename_i hq
        rw [if_neg hq]
        split at h
        · rename_i off ho
          first
            | (rw [ho]; exact jm_jmp h)
            | exact jm_jmp h
        · cases h
    · cases h
  · split at h
    · simp only [List.map_cons, jm_v_ref, jm_v_int, jm_v_long, jm_v_null, jm_v_double]
      split at h
      · rename_i hq
        rw [if_pos hq]
        exact jm_jmp h
      · cases h
    · cases h
  · cases h
theorem jm_cat2 (B : Nat → Nat) (L : List (Option Value)) (i : Nat) : jv_cat2 (L.map (Option.map (jm_v B))) i = jv_cat2 L i := by
  unfold jv_cat2
  rw [List.getElem?_map]
  cases L[i]? with
  | none => rfl
  | some v => cases v with
    | none => rfl
    | some v => cases v <;> rfl
theorem jm_set1 {B : Nat → Nat} {L L' : List (Option Value)} {i : Nat} {v : Value} (h : jv_set1 L i v = some L') : jv_set1 (L.map (Option.map (jm_v B))) i (jm_v B v) = some (L'.map (Option.map (jm_v B))) := by
  unfold jv_set1 at h ⊢
  rw [List.length_map]
  split at h
  · rename_i hi
    rw [if_pos hi]
    split at h
    · cases h
      simp [List.map_set]
    · rw [jm_cat2]
      split at h
      · cases h
      · rename_i hc
        rw [if_neg hc]
        cases h
        simp [List.map_set]
  · cases h
theorem jm_set2 {B : Nat → Nat} {L L' : List (Option Value)} {i : Nat} {v : Value} (h : jv_set2 L i v = some L') : jv_set2 (L.map (Option.map (jm_v B))) i (jm_v B v) = some (L'.map (Option.map (jm_v B))) := by
  unfold jv_set2 at h ⊢
  rw [List.length_map]
  split at h
  · rename_i hi
    rw [if_pos hi]
    split at h
    · cases h
      simp [List.map_set]
    · rw [jm_cat2]
      split at h
      · cases h
      · rename_i hc
        rw [if_neg hc]
        cases h
        simp [List.map_set]
  · cases h
theorem jm_sto {B : Nat → Nat} {i : Instr} {L L' : List (Option Value)} {st st' : List Value} (h : jv_sto i L st = some (L', st')) : jv_sto i (L.map (Option.map (jm_v B))) (st.map (jm_v B)) = some (L'.map (Option.map (jm_v B)), st'.map (jm_v B)) := by
  have kI : ∀ {k : Nat}, jv_stI L k st = some (L', st') → jv_stI (L.map (Option.map (jm_v B))) k (st.map (jm_v B)) = some (L'.map (Option.map (jm_v B)), st'.map (jm_v B)) := by
    intro k h
    obtain ⟨x, rfl, h1⟩ := jv_stI_eq h
    have h2 := jm_set1 (B := B) h1
    unfold jv_stI
    simp only [List.map_cons, jm_v_ref, jm_v_int, jm_v_long, jm_v_null, jm_v_double] at h2 ⊢
    rw [h2]
  have kA : ∀ {k : Nat}, jv_stA L k st = some (L', st') → jv_stA (L.map (Option.map (jm_v B))) k (st.map (jm_v B)) = some (L'.map (Option.map (jm_v B)), st'.map (jm_v B)) := by
    intro k h
    obtain ⟨x, rfl, h1⟩ := jv_stA_eq h
    have h2 := jm_set1 (B := B) h1
    unfold jv_stA
    simp only [List.map_cons, jm_v_ref, jm_v_int, jm_v_long, jm_v_null, jm_v_double] at h2 ⊢
    rw [h2]
  have kD : ∀ {k : Nat}, jv_stD L k st = some (L', st') → jv_stD (L.map (Option.map (jm_v B))) k (st.map (jm_v B)) = some (L'.map (Option.map (jm_v B)), st'.map (jm_v B)) := by
    intro k h
    obtain ⟨x, rfl, h1⟩ := jv_stD_eq h
    have h2 := jm_set2 (B := B) h1
    unfold jv_stD
    simp only [List.map_cons, jm_v_ref, jm_v_int, jm_v_long, jm_v_null, jm_v_double] at h2 ⊢
    rw [h2]
  have kL : ∀ {k : Nat}, jv_stL L k st = some (L', st') → jv_stL (L.map (Option.map (jm_v B))) k (st.map (jm_v B)) = some (L'.map (Option.map (jm_v B)), st'.map (jm_v B)) := by
    intro k h
    obtain ⟨x, rfl, h1⟩ := jv_stL_eq h
    have h2 := jm_set2 (B := B) h1
    unfold jv_stL
    simp only [List.map_cons, jm_v_ref, jm_v_int, jm_v_long, jm_v_null, jm_v_double] at h2 ⊢
    rw [h2]
  unfold jv_sto at h ⊢
  split at h
  · exact kI h
  · exact kI h
  · exact kA h
  · exact kA h
  · exact kD h
  · exact kD h
  · exact kL h
  · exact kL h
  · split at h
    · rename_i x hx1
      rw [jm_get hx1]
      dsimp only [jm_v_ref, jm_v_int, jm_v_long, jm_v_null, jm_v_double]
      split at h
      · rename_i h1
        cases h
        have h2 := jm_set1 (B := B) h1
        simp only [jm_v_ref, jm_v_int, jm_v_long, jm_v_null, jm_v_double] at h2
        rw [h2]
      · cases h
    · cases h
  · cases h
/-- what else: the counts, and the cells beside -/
def jm_F (B : Nat → Nat) (h h' H H' : jv_H) : Prop := H'.2.1 = H.2.1 + (h'.2.1 - h.2.1) ∧ H'.2.2 = H.2.2 + (h'.2.2 - h.2.2) ∧ ∀ a, a < 1000000 → (∀ b, b < h'.2.1 → B b ≠ a) → H'.1 a = H.1 a
theorem jm_F.rf {B : Nat → Nat} {h H : jv_H} : jm_F B h h H H := ⟨by omega, by omega, fun _ _ _ => rfl⟩
theorem jm_S.put {B : Nat → Nat} {h H : jv_H} (hS : jm_S B h H) {a : Nat} (ha : a < h.2.1) (x : jv_E) : jm_S B (jv_put h a x) (jv_put H (jm_p B a) (jm_c B x)) := by
  refine ⟨fun b hb => ?_, hS.2⟩
  show jv_up H.1 (jm_p B a) (jm_c B x) (jm_p B b) = jm_c B (jv_up h.1 a x b) ∨ (b = 1000000 ∧ jv_up h.1 a x b = jm_dead)
  unfold jv_up
  by_cases e : b = a
  · subst e
    rw [if_pos rfl, if_pos rfl]
    exact Or.inl rfl
  · rw [if_neg e, if_neg (fun q => e (jm_inj hS ha hb q.symm).symm)]
    exact hS.1 b hb
theorem jm_F.put {B : Nat → Nat} {h H : jv_H} (hS : jm_S B h H) {a : Nat} (ha : a < h.2.1) (x y : jv_E) : jm_F B h (jv_put h a x) H (jv_put H (jm_p B a) y) := by
  refine ⟨by show H.2.1 = H.2.1 + (h.2.1 - h.2.1); omega, by show H.2.2 = H.2.2 + (h.2.2 - h.2.2); omega, fun b h1 h2 => ?_⟩
  show jv_up H.1 (jm_p B a) y b = H.1 b
  unfold jv_up
  rw [(jm_lt hS ha).1, if_neg (fun e => h2 a ha e.symm)]
theorem jm_S.add {B : Nat → Nat} {h H : jv_H} (hS : jm_S B h H) (he : jm_A B h.2.1 H.2.1) (hm : H.2.1 + 1 ≤ 1000000) (x : jv_E) (n : Nat) : jm_S B (jv_add h x n) (jv_add H (jm_c B x) n) := by
  have h0 : B h.2.1 = H.2.1 := he 0
  obtain ⟨s1, ⟨s2, s3, s4⟩, s5⟩ := hS
  refine ⟨fun b hb => ?_, ⟨Nat.succ_le_succ s2, fun a ha => ?_, fun a b ha hb e => ?_⟩, hm⟩
  · have hb1 : b < h.2.1 + 1 ∨ b = 1000000 ∨ jv_old b = true := hb
    have hb2 : b < h.2.1 + 1 ∨ 1000000 ≤ b := by
      rcases hb1 with q | q | q
      · exact Or.inl q
      · exact Or.inr (by omega)
      · have := jv_old_eq q
        exact Or.inr (by omega)
    show jv_up H.1 H.2.1 (jm_c B x) (jm_p B b) = jm_c B (jv_up h.1 h.2.1 x b) ∨ (b = 1000000 ∧ jv_up h.1 h.2.1 x b = jm_dead)
    unfold jv_up
    by_cases e : b = h.2.1
    · subst e
      have : jm_p B h.2.1 = H.2.1 := by
        unfold jm_p
        rw [if_pos (by omega)]
        exact h0
      rw [this, if_pos rfl, if_pos rfl]
      exact Or.inl rfl
    · have : ¬ jm_p B b = H.2.1 := by
        unfold jm_p
        split
        · have := s3 b (by omega)
          omega
        · omega
      rw [if_neg e, if_neg this]
      refine s1 b ?_
      rcases hb1 with q | q
      · exact Or.inl (by omega)
      · exact Or.inr q
  · have ha2 : a < h.2.1 + 1 := ha
    show B a < H.2.1 + 1
    by_cases e : a = h.2.1
    · subst e; omega
    · have := s3 a (by omega)
      omega
  · have ha2 : a < h.2.1 + 1 := ha
    have hb2 : b < h.2.1 + 1 := hb
    by_cases e1 : a = h.2.1
    · by_cases e2 : b = h.2.1
      · omega
      · have := s3 b (by omega)
        subst e1
        omega
    · by_cases e2 : b = h.2.1
      · have := s3 a (by omega)
        subst e2
        omega
      · exact s4 a b (by omega) (by omega) e
theorem jm_F.add {B : Nat → Nat} {h H : jv_H} (he : jm_A B h.2.1 H.2.1) (x y : jv_E) (n : Nat) : jm_F B h (jv_add h x n) H (jv_add H y n) := by
  refine ⟨by show H.2.1 + 1 = H.2.1 + (h.2.1 + 1 - h.2.1); omega, by show H.2.2 + n = H.2.2 + (h.2.2 + n - h.2.2); omega, fun b h1 h2 => ?_⟩
  have h3 : B h.2.1 ≠ b := h2 h.2.1 (Nat.lt_succ_self _)
  have h0 : B h.2.1 = H.2.1 := he 0
  show jv_up H.1 H.2.1 y b = H.1 b
  unfold jv_up
  rw [if_neg (by omega)]
theorem jm_F.trans {B : Nat → Nat} {h h1 h2 H H1 H2 : jv_H} (a : jm_F B h h1 H H1) (b : jm_F B h1 h2 H1 H2) (m1 : h.2.1 ≤ h1.2.1 ∧ h.2.2 ≤ h1.2.2) (m2 : h1.2.1 ≤ h2.2.1 ∧ h1.2.2 ≤ h2.2.2) : jm_F B h h2 H H2 := by
  obtain ⟨a1, a2, a3⟩ := a
  obtain ⟨b1, b2, b3⟩ := b
  exact ⟨by omega, by omega, fun q h3 h4 => (b3 q h3 h4).trans (a3 q h3 (fun b hb => h4 b (by omega)))⟩
theorem jm_addn {B : Nat → Nat} : ∀ (k m : Nat) (h H : jv_H), jm_S B h H → jm_A B h.2.1 H.2.1 → H.2.1 + k ≤ 1000000 → jm_S B (jv_addn h k m) (jv_addn H k m) ∧ jm_F B h (jv_addn h k m) H (jv_addn H k m)
  | 0, m, h, H, hS, he, hm => ⟨hS, jm_F.rf⟩
  | k + 1, m, h, H, hS, he, hm => by
    have h1 := hS.add he (by omega) (.inl (0, m, fun _ => 0)) m
    have h2 := jm_addn k m _ _ h1 (he.next (a1 := h.2.1 + 1) (b1 := H.2.1 + 1) (by omega) (by omega)) (by show H.2.1 + 1 + k ≤ 1000000; omega)
    have e := jv_addn_eq k m (jv_add h (.inl (0, m, fun _ => 0)) m)
    have e2 := jv_addn_eq (k + 1) m h
    refine ⟨h2.1, (jm_F.add he (.inl (0, m, fun _ => 0)) _ m).trans h2.2 ⟨Nat.le_succ _, Nat.le_add_right _ _⟩ ⟨?_, ?_⟩⟩
    · show (jv_add h (.inl (0, m, fun _ => 0)) m).2.1 ≤ (jv_addn (jv_add h (.inl (0, m, fun _ => 0)) m) k m).2.1
      rw [e.1]
      exact Nat.le_add_right _ _
    · show (jv_add h (.inl (0, m, fun _ => 0)) m).2.2 ≤ (jv_addn (jv_add h (.inl (0, m, fun _ => 0)) m) k m).2.2
      rw [e.2]
      exact Nat.le_add_right _ _
theorem jm_at {B : Nat → Nat} {a : Nat} {h H : jv_H} (hS : jm_S B h H) (ha : a < h.2.1) : H.1 (jm_p B a) = jm_c B (h.1 a) := by
  have h1 := hS.2.1.1
  have h2 := hS.2.2
  exact (hS.1 a (Or.inl ha)).resolve_right (fun q => by have q1 := q.1; omega)
theorem jm_acc {B : Nat → Nat} {a : Nat} {h H : jv_H} (hS : jm_S B h H) (ha : a < h.2.1 ∨ jv_old a = true) : (jm_p B a < H.2.1 ∨ jv_old (jm_p B a) = true) ∧ H.1 (jm_p B a) = jm_c B (h.1 a) := by
  rcases ha with ha | ha
  · exact ⟨Or.inl (by rw [(jm_lt hS ha).1]; exact (jm_lt hS ha).2), jm_at hS ha⟩
  · have h1 := jv_old_eq ha
    exact ⟨Or.inr (by rw [jm_big (by omega)]; exact ha), (hS.1 a (Or.inr (Or.inr ha))).resolve_right (fun q => by have q1 := q.1; omega)⟩
theorem jm_accN {B : Nat → Nat} {a : Nat} {h H : jv_H} (hS : jm_S B h H) (ha : a < h.2.1) : jm_p B a < H.2.1 ∧ H.1 (jm_p B a) = jm_c B (h.1 a) := ⟨by rw [(jm_lt hS ha).1]; exact (jm_lt hS ha).2, jm_at hS ha⟩
/-- the script, where it was read -/
theorem jm_scr {B : Nat → Nat} {n : Nat} {f : Nat → Int32} {h H : jv_H} (hS : jm_S B h H) {ty : Nat} (he : h.1 1000000 = .inl (ty, n, f)) (ht : ty = 9) : H.1 1000000 = .inl (ty, n, f) := by
  have c2 := hS.1 1000000 (Or.inr (Or.inl rfl))
  rw [jm_big (Nat.le_refl _), he] at c2
  refine c2.resolve_right (fun q => ?_)
  have e1 := (Prod.mk.inj (Sum.inl.inj q.2)).1
  omega
/-- what an instruction on cells comes to, moved -/
def jm_R (B : Nat → Nat) (ow : Nat) (ini : Bool) (i : Instr) (st st' : List Value) (h h' H : jv_H) : Prop := ∃ H', jv_heap ow ini i (st.map (jm_v B)) H = some (st'.map (jm_v B), H') ∧ jm_S B h' H' ∧ jm_F B h h' H H'
theorem jm_fits (B : Nat → Nat) (ty : FieldType) (v : Value) : fits ty (jm_v B v) = fits ty v := by
  cases v <;> first | rfl | (cases ty <;> rfl)
theorem jm_narrow (B : Nat → Nat) (ty : FieldType) (v : Value) (h : narrow ty v = v) : narrow ty (jm_v B v) = jm_v B v := by
  cases v <;> first | exact h | (cases ty <;> rfl)
theorem jm_default (B : Nat → Nat) (ty : FieldType) : jm_v B (defaultValue ty) = defaultValue ty := by
  cases ty <;> rfl
section JMH
variable {B : Nat → Nat} {ow : Nat} {ini : Bool} {st st' : List Value} {h h' H : jv_H}
theorem jm_getfield (hS : jm_S B h H) {idx : Nat} (h0 : jv_heap ow ini (.getfield idx) st h = some (st', h')) : jm_R B ow ini (.getfield idx) st st' h h' H := by
  unfold jv_heap at h0
  dsimp only at h0
  split at h0
  · rename_i st1 hg
    cases h0
    obtain ⟨a, r, cx, k, fs, v, rfl, hf, ha, he, hv, rfl⟩ := jv_get_eq hg
    obtain ⟨c1, c2⟩ := jm_acc hS ha
    refine ⟨H, ?_, hS, jm_F.rf⟩
    unfold jv_heap jv_get
    simp only [List.map_cons, jm_v_ref, jm_v_int, jm_v_long, jm_v_null, jm_v_double, hf]
    rw [if_pos c1, c2, he]
    simp only [jm_c, List.getElem?_map, hv, if_true, Option.map_some]
  · cases h0
theorem jm_putfield (hS : jm_S B h H) {idx : Nat} (h0 : jv_heap ow ini (.putfield idx) st h = some (st', h')) : jm_R B ow ini (.putfield idx) st st' h h' H := by
  unfold jv_heap at h0
  dsimp only at h0
  obtain ⟨v, a, cx, k, fs, rfl, hf, ha, he, hkl, hn, hfi, hfin, rfl⟩ := jv_set_eq h0
  obtain ⟨c1, c2⟩ := jm_accN hS ha
  refine ⟨jv_put H (jm_p B a) (jm_c B (.inr (.inr (cx, fs.set k v)))), ?_, hS.put ha _, jm_F.put hS ha _ _⟩
  unfold jv_heap jv_set
  simp only [List.map_cons]
  show (match jv_fld ow idx with
    | some (c, k) => _
    | none => none) = _
  rw [hf]
  dsimp only [jm_v_ref, jm_v_int, jm_v_long, jm_v_null, jm_v_double]
  rw [if_pos ⟨c1, jm_narrow B _ _ hn, by rw [jm_fits]; exact hfi, hfin⟩, c2, he]
  simp only [jm_c, List.length_map, List.map_set]
  rw [if_pos ⟨by first | rfl | trivial, hkl⟩]
theorem jm_iaload (hS : jm_S B h H) (h0 : jv_heap ow ini .iaload st h = some (st', h')) : jm_R B ow ini .iaload st st' h h' H := by
  unfold jv_heap at h0
  dsimp only at h0
  split at h0
  · rename_i j a r
    split at h0
    · rename_i ha
      split at h0
      · rename_i ty n f he
        split at h0
        · rename_i hq
          cases h0
          refine ⟨H, ?_, hS, jm_F.rf⟩
          unfold jv_heap
          simp only [List.map_cons, jm_v_ref, jm_v_int, jm_v_long, jm_v_null, jm_v_double]
          rcases ha with ha | ⟨rfl, how⟩
          · obtain ⟨c1, c2⟩ := jm_accN hS ha
            rw [if_pos (Or.inl c1), c2, he]
            simp only [jm_c]
            have h6 := hS.2.1.1
            have h7 := hS.2.2
            have t0 : ty = 0 := by
              rcases hq.1 with ⟨q, -⟩ | ⟨-, q⟩
              · exact q
              · exact absurd q (Nat.ne_of_lt (Nat.lt_of_lt_of_le ha (Nat.le_trans h6 h7)))
            rw [if_pos ⟨Or.inl ⟨t0, c1⟩, hq.2⟩]
          · have h6 := hS.2.1.1
            have h7 := hS.2.2
            have t9 : ty = 9 := by
              rcases hq.1 with ⟨-, q⟩ | ⟨q, -⟩
              · exact absurd (Nat.lt_of_lt_of_le q (Nat.le_trans h6 h7)) (Nat.lt_irrefl _)
              · exact q
            have c2 := jm_scr hS he t9
            rw [jm_big (B := B) (a := 1000000) (Nat.le_refl _), if_pos (Or.inr ⟨rfl, how⟩), c2]
            dsimp only
            rw [if_pos ⟨Or.inr ⟨t9, by first | rfl | trivial⟩, hq.2⟩]
        · cases h0
      · cases h0
    · cases h0
  · cases h0
theorem jm_baload (hS : jm_S B h H) (h0 : jv_heap ow ini .baload st h = some (st', h')) : jm_R B ow ini .baload st st' h h' H := by
  unfold jv_heap at h0
  dsimp only at h0
  split at h0
  · rename_i j a r
    split at h0
    · rename_i ha
      split at h0
      · rename_i ty n f he
        split at h0
        · rename_i hq
          cases h0
          obtain ⟨c1, c2⟩ := jm_acc hS ha
          refine ⟨H, ?_, hS, jm_F.rf⟩
          unfold jv_heap
          simp only [List.map_cons, jm_v_ref, jm_v_int, jm_v_long, jm_v_null, jm_v_double]
          rw [if_pos c1, c2, he]
          simp only [jm_c]
          rw [if_pos ⟨hq.1.imp (fun q => ⟨q.1, (jm_accN hS q.2).1⟩) id, hq.2⟩]
        · cases h0
      · cases h0
    · cases h0
  · cases h0
theorem jm_aaload (hS : jm_S B h H) (h0 : jv_heap ow ini .aaload st h = some (st', h')) : jm_R B ow ini .aaload st st' h h' H := by
  unfold jv_heap at h0
  dsimp only at h0
  split at h0
  · rename_i j a r
    split at h0
    · rename_i ha
      split at h0
      · rename_i ty n f he
        split at h0
        · rename_i hq
          split at h0
          · rename_i b hb
            cases h0
            obtain ⟨c1, c2⟩ := jm_accN hS ha
            refine ⟨H, ?_, hS, jm_F.rf⟩
            unfold jv_heap
            simp only [List.map_cons, jm_v_ref, jm_v_int, jm_v_long, jm_v_null, jm_v_double]
            rw [if_pos c1, c2, he]
            simp only [jm_c]
            rw [if_pos hq, hb]
            rfl
          · cases h0
        · cases h0
      · cases h0
    · cases h0
  · cases h0
theorem jm_iastore (hS : jm_S B h H) (h0 : jv_heap ow ini .iastore st h = some (st', h')) : jm_R B ow ini .iastore st st' h h' H := by
  unfold jv_heap at h0
  dsimp only at h0
  split at h0
  · rename_i x j a r
    split at h0
    · rename_i ha
      split at h0
      · rename_i ty n f he
        split at h0
        · rename_i hq
          cases h0
          obtain ⟨c1, c2⟩ := jm_accN hS ha
          refine ⟨_, ?_, hS.put ha _, jm_F.put hS ha _ _⟩
          unfold jv_heap
          simp only [List.map_cons, jm_v_ref, jm_v_int, jm_v_long, jm_v_null, jm_v_double]
          rw [if_pos c1, c2, he]
          simp only [jm_c]
          rw [if_pos hq]
        · cases h0
      · cases h0
    · cases h0
  · cases h0
theorem jm_bastore (hS : jm_S B h H) (h0 : jv_heap ow ini .bastore st h = some (st', h')) : jm_R B ow ini .bastore st st' h h' H := by
  unfold jv_heap at h0
  dsimp only at h0
  split at h0
  · rename_i x j a r
    split at h0
    · rename_i ha
      split at h0
      · rename_i ty n f he
        split at h0
        · rename_i hq
          cases h0
          obtain ⟨c1, c2⟩ := jm_accN hS ha
          refine ⟨_, ?_, hS.put ha _, jm_F.put hS ha _ _⟩
          unfold jv_heap
          simp only [List.map_cons, jm_v_ref, jm_v_int, jm_v_long, jm_v_null, jm_v_double]
          rw [if_pos c1, c2, he]
          simp only [jm_c]
          rw [if_pos hq]
        · cases h0
      · cases h0
    · cases h0
  · cases h0
theorem jm_aastore (hS : jm_S B h H) (h0 : jv_heap ow ini .aastore st h = some (st', h')) : jm_R B ow ini .aastore st st' h h' H := by
  unfold jv_heap at h0
  dsimp only at h0
  split at h0
  · rename_i b j a r
    split at h0
    · rename_i ha
      obtain ⟨ha, hb⟩ := ha
      split at h0
      · rename_i ty n f d vs he heb
        split at h0
        · rename_i hq
          cases h0
          obtain ⟨c1, c2⟩ := jm_accN hS ha
          obtain ⟨d1, d2⟩ := jm_acc hS hb
          refine ⟨_, ?_, hS.put ha _, jm_F.put hS ha _ _⟩
          unfold jv_heap
          simp only [List.map_cons, jm_v_ref, jm_v_int, jm_v_long, jm_v_null, jm_v_double]
          rw [if_pos ⟨c1, d1⟩, c2, d2, he, heb]
          simp only [jm_c]
          have hup : (fun q => ((va_up f j.toNatClampNeg (some b)) q).map (jm_p B)) = va_up (fun q => (f q).map (jm_p B)) j.toNatClampNeg (some (jm_p B b)) := by
            funext q
            unfold va_up
            split <;> rfl
          rw [hup, if_pos]
          refine ⟨?_, hq.2⟩
          rcases hq.1 with ⟨q1, q2, q3⟩ | ⟨q1, q2, q3⟩ | ⟨q1, q2, q3⟩
          · exact Or.inl ⟨q1, q2, (jm_accN hS q3).1⟩
          · exact Or.inr (Or.inl ⟨q1, q2, (jm_accN hS q3).1⟩)
          · have h9 := jv_old_eq q3
            exact Or.inr (Or.inr ⟨q1, q2, by rw [jm_big (by omega)]; exact q3⟩)
        · cases h0
      · cases h0
    · cases h0
  · cases h0
theorem jm_arraylength (hS : jm_S B h H) (h0 : jv_heap ow ini .arraylength st h = some (st', h')) : jm_R B ow ini .arraylength st st' h h' H := by
  unfold jv_heap at h0
  dsimp only at h0
  split at h0
  · rename_i a r
    split at h0
    · rename_i ha
      split at h0
      · rename_i ty n f he
        split at h0
        · rename_i hq
          cases h0
          refine ⟨H, ?_, hS, jm_F.rf⟩
          have hac : (jm_p B a < H.2.1 ∨ (jm_p B a = 1000000 ∧ ow = 10) ∨ jv_old (jm_p B a) = true) ∧ H.1 (jm_p B a) = .inl (ty, n, f) := by
            rcases ha with ha | ⟨rfl, how⟩ | ha
            · exact ⟨Or.inl (jm_accN hS ha).1, (jm_accN hS ha).2.trans (by rw [he]; rfl)⟩
            · have h6 := hS.2.1.1
              have h7 := hS.2.2
              have t9 : ty = 9 := by
                rcases hq with ⟨-, q⟩ | ⟨q, -⟩ | ⟨-, q⟩
                · exact absurd (Nat.lt_of_lt_of_le q (Nat.le_trans h6 h7)) (Nat.lt_irrefl _)
                · exact q
                · exact absurd (jv_old_eq q).1 (by omega)
              rw [jm_big (Nat.le_refl _)]
              exact ⟨Or.inr (Or.inl ⟨rfl, how⟩), jm_scr hS he t9⟩
            · obtain ⟨c1, c2⟩ := jm_acc hS (Or.inr ha)
              exact ⟨c1.imp id Or.inr, c2.trans (by rw [he]; rfl)⟩
          unfold jv_heap
          simp only [List.map_cons, jm_v_ref, jm_v_int, jm_v_long, jm_v_null, jm_v_double]
          rw [if_pos hac.1, hac.2]
          dsimp only
          rw [if_pos]
          rcases hq with ⟨q1, q2⟩ | ⟨q1, q2⟩ | ⟨q1, q2⟩
          · exact Or.inl ⟨q1, (jm_accN hS q2).1⟩
          · exact Or.inr (Or.inl ⟨q1, by rw [q2]; exact jm_big (by omega)⟩)
          · have h9 := jv_old_eq q2
            exact Or.inr (Or.inr ⟨q1, by rw [jm_big (by omega)]; exact q2⟩)
        · cases h0
      · rename_i ty n f he
        split at h0
        · rename_i hq
          cases h0
          refine ⟨H, ?_, hS, jm_F.rf⟩
          obtain ⟨c1, c2⟩ := jm_accN hS hq.2
          unfold jv_heap
          simp only [List.map_cons, jm_v_ref, jm_v_int, jm_v_long, jm_v_null, jm_v_double]
          rw [if_pos (Or.inl c1), c2, he]
          simp only [jm_c]
          rw [if_pos ⟨hq.1, c1⟩]
        · cases h0
      · cases h0
    · cases h0
  · cases h0
theorem jm_ref {n : Nat} (hS : jm_S B h H) (he : jm_A B h.2.1 H.2.1) (hm : H.2.1 + (h.2.1 + 1 + n - h.2.1) ≤ 1000000) : jm_p B h.2.1 = H.2.1 := by
  have := hS.2.1.1
  unfold jm_p
  rw [if_pos (by omega)]
  exact he 0
theorem jm_new (hS : jm_S B h H) {idx : Nat} (h0 : jv_heap ow ini (.new idx) st h = some (st', h')) (hal : h'.2.1 = h.2.1 ∨ jm_A B h.2.1 H.2.1) (hm : H.2.1 + (h'.2.1 - h.2.1) ≤ 1000000) : jm_R B ow ini (.new idx) st st' h h' H := by
  unfold jv_heap at h0
  dsimp only at h0
  split at h0
  · rename_i c hn
    cases h0
    have he : jm_A B h.2.1 H.2.1 := hal.elim (fun q => absurd q (by show ¬ h.2.1 + 1 = h.2.1; omega)) id
    have hm2 : H.2.1 + (h.2.1 + 1 + 0 - h.2.1) ≤ 1000000 := hm
    have hr := jm_ref (n := 0) hS he hm2
    have ec : jm_c B (.inr (.inr (c, (List.range (jv_fn c)).map (fun k => defaultValue (jv_fty c k))))) = .inr (.inr (c, (List.range (jv_fn c)).map (fun k => defaultValue (jv_fty c k)))) := by
      show (Sum.inr (Sum.inr (c, _)) : jv_E) = _
      rw [List.map_map]
      congr 3
      apply List.map_congr_left
      intro k _
      exact jm_default B _
    refine ⟨_, ?_, hS.add he (by omega) _ _, jm_F.add he _ _ _⟩
    rw [ec]
    unfold jv_heap
    simp only [List.map_cons, jm_v_ref, jm_v_int, jm_v_long, jm_v_null, jm_v_double, hn, hr]
  · cases h0
theorem jm_newarray (hS : jm_S B h H) {t : ArrayType} (h0 : jv_heap ow ini (.newarray t) st h = some (st', h')) (hal : h'.2.1 = h.2.1 ∨ jm_A B h.2.1 H.2.1) (hm : H.2.1 + (h'.2.1 - h.2.1) ≤ 1000000) : jm_R B ow ini (.newarray t) st st' h h' H := by
  unfold jv_heap at h0
  dsimp only at h0
  split at h0
  · rename_i n r
    split at h0
    · rename_i hn
      have key : ∀ ty : Nat, some (Value.ref h.2.1 :: r, jv_add h (.inl (ty, n.toNatClampNeg, fun _ => 0)) n.toNatClampNeg) = some (st', h') → jm_S B h' (jv_add H (.inl (ty, n.toNatClampNeg, fun _ => 0)) n.toNatClampNeg) ∧ jm_F B h h' H (jv_add H (.inl (ty, n.toNatClampNeg, fun _ => 0)) n.toNatClampNeg) ∧ st'.map (jm_v B) = .ref H.2.1 :: r.map (jm_v B) := by
        intro ty h0
        cases h0
        have he : jm_A B h.2.1 H.2.1 := hal.elim (fun q => absurd q (by show ¬ h.2.1 + 1 = h.2.1; omega)) id
        have hm2 : H.2.1 + (h.2.1 + 1 + 0 - h.2.1) ≤ 1000000 := hm
        have hr := jm_ref (n := 0) hS he hm2
        refine ⟨hS.add he (by omega) _ _, jm_F.add he _ _ _, ?_⟩
        simp only [List.map_cons, jm_v_ref, jm_v_int, jm_v_long, jm_v_null, jm_v_double, hr]
      split at h0
      · obtain ⟨k1, k2, k3⟩ := key 0 h0
        refine ⟨_, ?_, k1, k2⟩
        rw [k3]
        unfold jv_heap
        simp only [List.map_cons, jm_v_ref, jm_v_int, jm_v_long, jm_v_null, jm_v_double]
        rw [if_pos hn]
      · obtain ⟨k1, k2, k3⟩ := key 1 h0
        refine ⟨_, ?_, k1, k2⟩
        rw [k3]
        unfold jv_heap
        simp only [List.map_cons, jm_v_ref, jm_v_int, jm_v_long, jm_v_null, jm_v_double]
        rw [if_pos hn]
      · obtain ⟨k1, k2, k3⟩ := key 4 h0
        refine ⟨_, ?_, k1, k2⟩
        rw [k3]
        unfold jv_heap
        simp only [List.map_cons, jm_v_ref, jm_v_int, jm_v_long, jm_v_null, jm_v_double]
        rw [if_pos hn]
      · cases h0
    · cases h0
  · cases h0
theorem jm_anewarray (hS : jm_S B h H) {idx : Nat} (h0 : jv_heap ow ini (.anewarray idx) st h = some (st', h')) (hal : h'.2.1 = h.2.1 ∨ jm_A B h.2.1 H.2.1) (hm : H.2.1 + (h'.2.1 - h.2.1) ≤ 1000000) : jm_R B ow ini (.anewarray idx) st st' h h' H := by
  unfold jv_heap at h0
  dsimp only at h0
  split at h0
  · rename_i n r
    split at h0
    · rename_i hn
      have key : ∀ ty : Nat, some (Value.ref h.2.1 :: r, jv_add h (.inr (.inl (ty, n.toNatClampNeg, fun _ => none))) n.toNatClampNeg) = some (st', h') → jm_S B h' (jv_add H (.inr (.inl (ty, n.toNatClampNeg, fun _ => none))) n.toNatClampNeg) ∧ jm_F B h h' H (jv_add H (.inr (.inl (ty, n.toNatClampNeg, fun _ => none))) n.toNatClampNeg) ∧ st'.map (jm_v B) = .ref H.2.1 :: r.map (jm_v B) := by
        intro ty h0
        cases h0
        have he : jm_A B h.2.1 H.2.1 := hal.elim (fun q => absurd q (by show ¬ h.2.1 + 1 = h.2.1; omega)) id
        have hm2 : H.2.1 + (h.2.1 + 1 + 0 - h.2.1) ≤ 1000000 := hm
        have hr := jm_ref (n := 0) hS he hm2
        refine ⟨hS.add he (by omega) _ _, jm_F.add he _ _ _, ?_⟩
        simp only [List.map_cons, jm_v_ref, jm_v_int, jm_v_long, jm_v_null, jm_v_double, hr]
      split at h0
      · rename_i c hnw
        split at h0
        · rename_i h6
          obtain ⟨k1, k2, k3⟩ := key 2 h0
          refine ⟨_, ?_, k1, k2⟩
          rw [k3]
          unfold jv_heap
          simp only [List.map_cons, jm_v_ref, jm_v_int, jm_v_long, jm_v_null, jm_v_double]
          rw [if_pos hn, hnw]
          dsimp only
          rw [if_pos h6]
        · rename_i h6
          split at h0
          · rename_i h5
            obtain ⟨k1, k2, k3⟩ := key 3 h0
            refine ⟨_, ?_, k1, k2⟩
            rw [k3]
            unfold jv_heap
            simp only [List.map_cons, jm_v_ref, jm_v_int, jm_v_long, jm_v_null, jm_v_double]
            rw [if_pos hn, hnw]
            dsimp only
            rw [if_neg h6, if_pos h5]
          · rename_i h5
            split at h0
            · rename_i h8
              obtain ⟨k1, k2, k3⟩ := key 5 h0
              refine ⟨_, ?_, k1, k2⟩
              rw [k3]
              unfold jv_heap
              simp only [List.map_cons, jm_v_ref, jm_v_int, jm_v_long, jm_v_null, jm_v_double]
              rw [if_pos hn, hnw]
              dsimp only
              rw [if_neg h6, if_neg h5, if_pos h8]
            · cases h0
      · cases h0
    · cases h0
  · cases h0
theorem jm_ldcv {idx : Nat} {v : Value} (hv : jv_ldc ow idx = some v) : jm_v B v = v := by
  have hck := jv_ckl_ok hv
  cases v with
  | ref a =>
    unfold jv_ckl1 at hck
    dsimp only at hck
    cases htx : jv_tix a with
    | none => rw [htx] at hck; cases hck
    | some ix =>
      obtain ⟨hi, rfl⟩ := jv_tix_eq htx
      show Value.ref (jm_p B (1000001 + ix)) = _
      rw [jm_big (by omega)]
  | int x => rfl
  | long x => rfl
  | float x => rfl
  | double x => rfl
  | null => rfl
  | retAddr x => rfl
theorem jm_ldc (hS : jm_S B h H) {idx : Nat} (h0 : jv_heap ow ini (.ldc idx) st h = some (st', h')) : jm_R B ow ini (.ldc idx) st st' h h' H := by
  unfold jv_heap at h0
  dsimp only at h0
  split at h0
  · rename_i v hv
    cases h0
    refine ⟨H, ?_, hS, jm_F.rf⟩
    unfold jv_heap
    simp only [List.map_cons, hv, jm_ldcv (B := B) hv]
  · cases h0
theorem jm_ldc2 (hS : jm_S B h H) {idx : Nat} (h0 : jv_heap ow ini (.ldc2_w idx) st h = some (st', h')) : jm_R B ow ini (.ldc2_w idx) st st' h h' H := by
  unfold jv_heap at h0
  dsimp only at h0
  split at h0
  · rename_i v hv
    cases h0
    refine ⟨H, ?_, hS, jm_F.rf⟩
    unfold jv_heap
    simp only [List.map_cons, hv, jm_v_ref, jm_v_int, jm_v_long, jm_v_null, jm_v_double]
  · cases h0
theorem jm_getstatic (hS : jm_S B h H) {idx : Nat} (h0 : jv_heap ow ini (.getstatic idx) st h = some (st', h')) : jm_R B ow ini (.getstatic idx) st st' h h' H := by
  unfold jv_heap at h0
  dsimp only at h0
  split at h0
  · rename_i v hv
    cases h0
    have e : jm_v B v = v := by
      unfold jv_sta at hv
      split at hv
      · cases hv; rfl
      · split at hv
        · cases hv
          show Value.ref (jm_p B 1000201) = _
          rw [jm_big (by omega)]
        · split at hv
          · cases hv
            show Value.ref (jm_p B 1000202) = _
            rw [jm_big (by omega)]
          · cases hv
    refine ⟨H, ?_, hS, jm_F.rf⟩
    unfold jv_heap
    simp only [List.map_cons, hv, e]
  · cases h0
theorem jm_checkcast (hS : jm_S B h H) {idx : Nat} (h0 : jv_heap ow ini (.checkcast idx) st h = some (st', h')) : jm_R B ow ini (.checkcast idx) st st' h h' H := by
  unfold jv_heap at h0
  dsimp only at h0
  split at h0
  · rename_i a r
    split at h0
    · rename_i ha
      split at h0
      · rename_i ty n f he
        split at h0
        · rename_i hty
          cases h0
          obtain ⟨c1, c2⟩ := jm_accN hS ha.1
          refine ⟨H, ?_, hS, jm_F.rf⟩
          unfold jv_heap
          simp only [List.map_cons, jm_v_ref, jm_v_int, jm_v_long, jm_v_null, jm_v_double]
          rw [if_pos ⟨c1, ha.2⟩, c2, he]
          simp only [jm_c]
          rw [if_pos hty]
        · cases h0
      · cases h0
    · cases h0
  · cases h0
theorem jm_multi (hS : jm_S B h H) {idx d : Nat} (h0 : jv_heap ow ini (.multianewarray idx d) st h = some (st', h')) (hal : h'.2.1 = h.2.1 ∨ jm_A B h.2.1 H.2.1) (hm : H.2.1 + (h'.2.1 - h.2.1) ≤ 1000000) : jm_R B ow ini (.multianewarray idx d) st st' h h' H := by
  unfold jv_heap at h0
  dsimp only at h0
  split at h0
  · rename_i how
    split at h0
    · rename_i mm nn r
      split at h0
      · rename_i hq
        cases h0
        generalize hx0 : (Sum.inr (Sum.inl (6, nn.toNatClampNeg, fun i => if i < nn.toNatClampNeg then some (h.2.1 + 1 + i) else none)) : jv_E) = x0 at *
        have ea := jv_addn_eq nn.toNatClampNeg mm.toNatClampNeg (jv_add h x0 nn.toNatClampNeg)
        have ea1 : (jv_addn (jv_add h x0 nn.toNatClampNeg) nn.toNatClampNeg mm.toNatClampNeg).2.1 = h.2.1 + 1 + nn.toNatClampNeg := ea.1
        rw [ea1] at hm hal
        have he : jm_A B h.2.1 H.2.1 := hal.elim (fun q => absurd q (by omega)) id
        have hr := jm_ref hS he hm
        have ec : jm_c B x0 = .inr (.inl (6, nn.toNatClampNeg, fun i => if i < nn.toNatClampNeg then some (H.2.1 + 1 + i) else none)) := by
          rw [← hx0]
          show (Sum.inr (Sum.inl (6, nn.toNatClampNeg, fun j => (if j < nn.toNatClampNeg then some (h.2.1 + 1 + j) else none : Option Nat).map (jm_p B))) : jv_E) = _
          congr 4
          funext j
          by_cases hj : j < nn.toNatClampNeg
          · rw [if_pos hj, if_pos hj]
            show some (jm_p B (h.2.1 + 1 + j)) = _
            have h9 := hS.2.1.1
            have h8 := he (1 + j)
            unfold jm_p
            rw [if_pos (by omega), show h.2.1 + 1 + j = h.2.1 + (1 + j) by omega, h8]
            congr 1
            omega
          · rw [if_neg hj, if_neg hj]
            rfl
        have h1 := hS.add he (by omega) x0 nn.toNatClampNeg
        have h2 := jm_addn nn.toNatClampNeg mm.toNatClampNeg _ _ h1 (he.next (a1 := h.2.1 + 1) (b1 := H.2.1 + 1) (by omega) (by omega)) (by show H.2.1 + 1 + nn.toNatClampNeg ≤ 1000000; omega)
        refine ⟨_, ?_, h2.1, (jm_F.add he x0 _ _).trans h2.2 ⟨Nat.le_succ _, Nat.le_add_right _ _⟩ ⟨by rw [ea.1]; omega, by rw [ea.2]; omega⟩⟩
        rw [ec]
        unfold jv_heap
        simp only [List.map_cons, jm_v_ref, jm_v_int, jm_v_long, jm_v_null, jm_v_double, hr]
        rw [if_pos how, if_pos hq]
      · cases h0
    · cases h0
  · cases h0
theorem jm_heap (hS : jm_S B h H) {i : Instr} (h0 : jv_heap ow ini i st h = some (st', h')) (hal : h'.2.1 = h.2.1 ∨ jm_A B h.2.1 H.2.1) (hm : H.2.1 + (h'.2.1 - h.2.1) ≤ 1000000) : jm_R B ow ini i st st' h h' H := by
  have h00 := h0
  unfold jv_heap at h0
  split at h0
  · exact jm_getfield hS h00
  · exact jm_putfield hS h00
  · exact jm_iaload hS h00
  · exact jm_baload hS h00
  · exact jm_aaload hS h00
  · exact jm_iastore hS h00
  · exact jm_bastore hS h00
  · exact jm_aastore hS h00
  · exact jm_arraylength hS h00
  · exact jm_new hS h00 hal hm
  · exact jm_newarray hS h00 hal hm
  · exact jm_anewarray hS h00 hal hm
  · exact jm_ldc hS h00
  · exact jm_ldc2 hS h00
  · exact jm_getstatic hS h00
  · exact jm_checkcast hS h00
  · exact jm_multi hS h00 hal hm
  · cases h0
end JMH
theorem jm_ld_np {i : Instr} {L : List (Option Value)} {st st' : List Value} (h : jv_ld i L st = some st') : ∀ s, jv_pure i s = none := by
  unfold jv_ld at h
  split at h
  all_goals first
    | (intro s; rfl)
    | cases h
theorem jm_br_np {i : Instr} {pc : Nat} {st : List Value} {t : Nat × List Value} (h : jv_br i pc st = some t) : (∀ s, jv_pure i s = none) ∧ ∀ L s, jv_ld i L s = none := by
  unfold jv_br at h
  split at h
  all_goals first
    | exact ⟨fun s => rfl, fun L s => rfl⟩
    | cases h
theorem jm_sto_np {i : Instr} {L L' : List (Option Value)} {st st' : List Value} (h : jv_sto i L st = some (L', st')) : (∀ s, jv_pure i s = none) ∧ (∀ L s, jv_ld i L s = none) ∧ ∀ pc s, jv_br i pc s = none := by
  unfold jv_sto at h
  split at h
  all_goals first
    | exact ⟨fun s => rfl, fun L s => rfl, fun pc s => rfl⟩
    | cases h
theorem jm_heap_np {ow : Nat} {ini : Bool} {i : Instr} {st st' : List Value} {h h' : jv_H} (h0 : jv_heap ow ini i st h = some (st', h')) : (∀ s, jv_pure i s = none) ∧ (∀ L s, jv_ld i L s = none) ∧ (∀ pc s, jv_br i pc s = none) ∧ ∀ L s, jv_sto i L s = none := by
  unfold jv_heap at h0
  split at h0
  all_goals first
    | exact ⟨fun s => rfl, fun L s => rfl, fun pc s => rfl, fun L s => rfl⟩
    | cases h0
theorem jm_step {B : Nat → Nat} {ow : Nat} {ini : Bool} {i : Instr} {len pc pc' : Nat} {L L' : List (Option Value)} {st st' : List Value} {h h' H : jv_H} (hS : jm_S B h H) (h0 : jv_step ow ini i len pc L st h = some (pc', L', st', h')) (hal : h'.2.1 = h.2.1 ∨ jm_A B h.2.1 H.2.1) (hm : H.2.1 + (h'.2.1 - h.2.1) ≤ 1000000) :
    ∃ H', jv_step ow ini i len pc (L.map (Option.map (jm_v B))) (st.map (jm_v B)) H = some (pc', L'.map (Option.map (jm_v B)), st'.map (jm_v B), H') ∧ jm_S B h' H' ∧ jm_F B h h' H H' := by
  unfold jv_step at h0
  split at h0
  · rename_i h1
    cases h0
    refine ⟨H, ?_, hS, jm_F.rf⟩
    unfold jv_step
    rw [jm_pure h1]
  · split at h0
    · rename_i h1
      cases h0
      refine ⟨H, ?_, hS, jm_F.rf⟩
      unfold jv_step
      rw [jm_ld_np h1, jm_ld h1]
    · split at h0
      · rename_i h1
        cases h0
        refine ⟨H, ?_, hS, jm_F.rf⟩
        unfold jv_step
        rw [(jm_br_np h1).1, (jm_br_np h1).2, jm_br h1]
      · split at h0
        · rename_i h1
          cases h0
          refine ⟨H, ?_, hS, jm_F.rf⟩
          unfold jv_step
          rw [(jm_sto_np h1).1, (jm_sto_np h1).2.1, (jm_sto_np h1).2.2, jm_sto h1]
        · split at h0
          · rename_i h1
            cases h0
            obtain ⟨H', e1, e2, e3⟩ := jm_heap hS h1 hal hm
            refine ⟨H', ?_, e2, e3⟩
            unfold jv_step
            rw [(jm_heap_np h1).1, (jm_heap_np h1).2.1, (jm_heap_np h1).2.2.1, (jm_heap_np h1).2.2.2, e1]
          · cases h0
theorem jm_ret {B : Nat → Nat} {ret : Option FieldType} {i : Instr} {st : List Value} : jv_ret ret i (st.map (jm_v B)) = (jv_ret ret i st).map (Option.map (jm_v B)) := by
  cases i
  case return_ => rcases ret with _ | ty <;> rcases st with _ | ⟨v, r⟩ <;> rfl
  case ireturn =>
    rcases ret with _ | ty
    · rcases st with _ | ⟨v, _ | ⟨w, r⟩⟩ <;> try rfl
      all_goals (cases v <;> rfl)
    · rcases st with _ | ⟨v, _ | ⟨w, r⟩⟩
      · rfl
      · cases v
        case int x =>
          show (if _ then _ else none) = Option.map _ (if _ then _ else none)
          split <;> rfl
        all_goals rfl
      · cases v <;> rfl
  case areturn =>
    rcases ret with _ | ty
    · rcases st with _ | ⟨v, _ | ⟨w, r⟩⟩ <;> try rfl
      all_goals (cases v <;> rfl)
    · rcases st with _ | ⟨v, _ | ⟨w, r⟩⟩
      · cases ty <;> rfl
      · cases ty <;> cases v <;> rfl
      · cases ty <;> cases v <;> rfl
  case freturn =>
    rcases ret with _ | ty
    · rcases st with _ | ⟨v, _ | ⟨w, r⟩⟩ <;> try rfl
      all_goals (cases v <;> rfl)
    · rcases st with _ | ⟨v, _ | ⟨w, r⟩⟩
      · cases ty <;> rfl
      · cases ty <;> cases v <;> rfl
      · cases ty <;> cases v <;> rfl
  case dreturn =>
    rcases ret with _ | ty
    · rcases st with _ | ⟨v, _ | ⟨w, r⟩⟩ <;> try rfl
      all_goals (cases v <;> rfl)
    · rcases st with _ | ⟨v, _ | ⟨w, r⟩⟩
      · cases ty <;> rfl
      · cases ty <;> cases v <;> rfl
      · cases ty <;> cases v <;> rfl
  case lreturn =>
    rcases ret with _ | ty
    · rcases st with _ | ⟨v, _ | ⟨w, r⟩⟩ <;> try rfl
      all_goals (cases v <;> rfl)
    · rcases st with _ | ⟨v, _ | ⟨w, r⟩⟩
      · cases ty <;> rfl
      · cases ty <;> cases v <;> rfl
      · cases ty <;> cases v <;> rfl
  all_goals rfl
theorem jm_wd (B : Nat → Nat) (st : List Value) : jv_wd (st.map (jm_v B)) = jv_wd st := by
  unfold jv_wd
  rw [List.map_map]
  congr 1
  apply List.map_congr_left
  intro v _
  exact jm_cat B v
theorem jm_may {B : Nat → Nat} {kd fr lo na : Nat} {q : Nat × Nat × Nat × Nat × Nat × Nat} {st : List Value} {h H : jv_H} (hS : jm_S B h H) (h0 : jv_may kd fr lo q na st h = true) : jv_may kd fr lo q na (st.map (jm_v B)) H = true := by
  unfold jv_may at h0 ⊢
  rw [Bool.and_eq_true] at h0 ⊢
  obtain ⟨h1, h2⟩ := h0
  refine ⟨?_, ?_⟩
  · rw [List.length_map, ← List.map_drop, ← List.map_take, jm_wd, jm_wd]
    exact h1
  · split at h2
    · rfl
    · rw [← List.map_take, List.getLast?_map]
      split at h2
      · rename_i a hl
        rw [hl]
        simp only [Option.map_some, jm_v_ref, jm_v_int, jm_v_long, jm_v_null, jm_v_double]
        rw [Bool.and_eq_true, Bool.or_eq_true, Bool.and_eq_true] at h2
        obtain ⟨h3, h4⟩ := h2
        have hac : a < h.2.1 ∨ jv_old a = true := h3.imp of_decide_eq_true (fun q => q.1)
        have c2 := (jm_acc hS hac).2
        rw [c2, Bool.and_eq_true, Bool.or_eq_true, Bool.and_eq_true]
        refine ⟨h3.imp (fun q => decide_eq_true (jm_accN hS (of_decide_eq_true q)).1) (fun q => ⟨?_, q.2⟩), ?_⟩
        · have h9 := jv_old_eq q.1
          rw [jm_big (by omega)]
          exact q.1
        · split at h4
          · rename_i d fs he
            rw [he]
            exact h4
          · cases h4
      · cases h2
theorem jm_args {B : Nat → Nat} {na k : Nat} {st : List Value} : ((st.take na).reverse.map some ++ List.replicate k none).map (Option.map (jm_v B)) = (((st.map (jm_v B)).take na).reverse.map some ++ List.replicate k none : List (Option Value)) := by
  rw [List.map_append, List.map_replicate, List.map_map, ← List.map_take, ← List.map_reverse, List.map_map]
  rfl
theorem jm_acpy {B : Nat → Nat} {st st' : List Value} {h h1 H : jv_H} (hS : jm_S B h H) (h0 : jv_acpy st h = some (st', h1)) : ∃ H1, jv_acpy (st.map (jm_v B)) H = some (st'.map (jm_v B), H1) ∧ jm_S B h1 H1 ∧ jm_F B h h1 H H1 := by
  obtain ⟨n, dp, sp, d, s, m, k, f, g, rfl, hs, hd, hne, es, ed, hq, hb1, hb2, hfit, rfl⟩ := jv_acpy_eq h0
  obtain ⟨c1, c2⟩ := jm_acc hS hs
  obtain ⟨d1, d2⟩ := jm_accN hS hd
  refine ⟨_, ?_, hS.put hd _, jm_F.put hS hd _ _⟩
  unfold jv_acpy
  simp only [List.map_cons, jm_v_ref, jm_v_int, jm_v_long, jm_v_null, jm_v_double]
  have hne2 : jm_p B s ≠ jm_p B d := fun e => hne (jm_inj hS hd (hs.imp id Or.inr) e.symm).symm
  rw [if_pos ⟨c1, d1, hne2⟩, c2, d2, es, ed]
  simp only [jm_c]
  rw [if_pos ⟨hq, hb1, hb2, List.all_eq_true.mpr (fun i hi => hfit i (List.mem_range.mp hi))⟩]
theorem jm_cln {B : Nat → Nat} {st st' : List Value} {h h1 H : jv_H} (hS : jm_S B h H) (h0 : jv_cln st h = some (st', h1)) (hal : h1.2.1 = h.2.1 ∨ jm_A B h.2.1 H.2.1) (hm : H.2.1 + (h1.2.1 - h.2.1) ≤ 1000000) : ∃ H1, jv_cln (st.map (jm_v B)) H = some (st'.map (jm_v B), H1) ∧ jm_S B h1 H1 ∧ jm_F B h h1 H H1 := by
  obtain ⟨a, n, f, r, rfl, ha, ea, hfit, rfl, rfl⟩ := jv_cln_eq h0
  obtain ⟨c1, c2⟩ := jm_accN hS ha
  have he : jm_A B h.2.1 H.2.1 := hal.elim (fun q => absurd q (by show ¬ h.2.1 + 1 = h.2.1; omega)) id
  have hm2 : H.2.1 + (h.2.1 + 1 + 0 - h.2.1) ≤ 1000000 := hm
  have hr := jm_ref (n := 0) hS he hm2
  refine ⟨_, ?_, hS.add he (by omega) _ _, jm_F.add he _ _ _⟩
  unfold jv_cln
  simp only [List.map_cons, jm_v_ref, jm_v_int, jm_v_long, jm_v_null, jm_v_double, hr]
  rw [if_pos c1, c2, ea]
  simp only [jm_c]
  rw [if_pos (List.all_eq_true.mpr (fun i hi => hfit i (List.mem_range.mp hi)))]
theorem jm_cidx {B : Nat → Nat} {st st' : List Value} (h0 : jv_cidx st = some st') : jv_cidx (st.map (jm_v B)) = some (st'.map (jm_v B)) := by
  obtain ⟨n, i, rfl, h1, h2⟩ := jv_cidx_eq h0
  unfold jv_cidx
  simp only [List.map_cons, jm_v_ref, jm_v_int, jm_v_long, jm_v_null, jm_v_double]
  rw [if_pos ⟨h1, h2⟩]
set_option maxHeartbeats 4000000 in
/-- a run, moved -/
theorem jm_run {B : Nat → Nat} : ∀ (n y pc : Nat) (L : List (Option Value)) (st : List Value) (h h' H : jv_H) (r : Option Value), jv_run n y pc L st h = some (r, h') → jm_S B h H → (h'.2.1 = h.2.1 ∨ jm_A B h.2.1 H.2.1) → H.2.1 + (h'.2.1 - h.2.1) ≤ 1000000 →
    ∃ H', jv_run n y pc (L.map (Option.map (jm_v B))) (st.map (jm_v B)) H = some (r.map (jm_v B), H') ∧ jm_S B h' H' ∧ jm_F B h h' H H'
  | 0, _, _, _, _, _, _, _, _, h0, _, _, _ => by cases h0
  | n + 1, y, pc, L, st, h, h', H, r, h0, hS, hal, hm => by
    have hmono := jv_run_mono (n + 1) h0
    unfold jv_run at h0
    split at h0
    · cases h0
    · rename_i ow kd na0 mL fr lo hinf
      split at h0
      · cases h0
      · rename_i i len hcode
        have hret := jm_ret (B := B) (ret := (jv_ym y).2.2) (i := i) (st := st)
        split at h0
        · rename_i r0 hr
          cases h0
          refine ⟨H, ?_, hS, jm_F.rf⟩
          unfold jv_run
          simp only [hinf, hcode]
          rw [hret, hr]
          rfl
        · rename_i hr
          rw [hr] at hret
          split at h0
          · rename_i hc
            split at h0
            · rename_i pc' L' st' h1 hs
              have m1 := jv_step_mono hs
              have m2 := jv_run_mono n h0
              obtain ⟨H1, e1, s1, f1⟩ := jm_step hS hs (jm_hal1 hal m1.1 m2.1) (by omega)
              have f10 := f1.1
              obtain ⟨H2, e2, s2, f2⟩ := jm_run n y pc' L' st' h1 h' H1 r h0 s1 (jm_hal2 hal m1.1 m2.1 f10) (by omega)
              refine ⟨H2, ?_, s2, f1.trans f2 m1 m2⟩
              unfold jv_run
              simp only [hinf, hcode]
              rw [hret]
              simp only [Option.map_none, hc]
              rw [e1]
              exact e2
            · cases h0
          · rename_i ck idx hc
            split at h0
            · cases h0
            · rename_i z na ne hcal
              split at h0
              · rename_i hz
                split at h0
                · rename_i a rst
                  split at h0
                  · rename_i hq
                    obtain ⟨H2, e2, s2, f2⟩ := jm_run n y (pc + 3) L rst h h' H r h0 hS hal hm
                    refine ⟨H2, ?_, s2, f2⟩
                    unfold jv_run
                    simp only [hinf, hcode]
                    rw [hret]
                    simp only [Option.map_none, hc, hcal]
                    rw [if_pos hz]
                    simp only [List.map_cons, jm_v_ref, jm_v_int, jm_v_long, jm_v_null, jm_v_double]
                    rw [if_pos (by rw [jm_wd]; exact hq)]
                    exact e2
                  · cases h0
                · cases h0
              · rename_i hz0
                split at h0
                · rename_i hz
                  split at h0
                  · rename_i st1 hst
                    split at h0
                    · rename_i hq
                      obtain ⟨H2, e2, s2, f2⟩ := jm_run n y (pc + 3) L st1 h h' H r h0 hS hal hm
                      refine ⟨H2, ?_, s2, f2⟩
                      unfold jv_run
                      simp only [hinf, hcode]
                      rw [hret]
                      simp only [Option.map_none, hc, hcal]
                      rw [if_neg hz0, if_pos hz, jm_cidx hst]
                      dsimp only
                      rw [if_pos (by rw [← List.map_drop, jm_wd]; exact hq)]
                      exact e2
                    · cases h0
                  · cases h0
                · rename_i hz1
                  split at h0
                  · rename_i hz
                    split at h0
                    · rename_i st1 h1 hst
                      split at h0
                      · rename_i hq
                        have m1 : h.2.1 ≤ h1.2.1 ∧ h.2.2 ≤ h1.2.2 := by
                          obtain ⟨_, _, _, _, _, _, _, _, _, -, -, -, -, -, -, -, -, -, -, rfl⟩ := jv_acpy_eq hst
                          exact ⟨Nat.le_refl _, Nat.le_refl _⟩
                        have m2 := jv_run_mono n h0
                        obtain ⟨H1, e1, s1, f1⟩ := jm_acpy hS hst
                        have f10 := f1.1
                        obtain ⟨H2, e2, s2, f2⟩ := jm_run n y (pc + 3) L st1 h1 h' H1 r h0 s1 (jm_hal2 hal m1.1 m2.1 f10) (by omega)
                        refine ⟨H2, ?_, s2, f1.trans f2 m1 m2⟩
                        unfold jv_run
                        simp only [hinf, hcode]
                        rw [hret]
                        simp only [Option.map_none, hc, hcal]
                        rw [if_neg hz0, if_neg hz1, if_pos hz, e1]
                        dsimp only
                        rw [if_pos (by rw [← List.map_drop, jm_wd]; exact hq)]
                        exact e2
                      · cases h0
                    · cases h0
                  · rename_i hz2
                    split at h0
                    · rename_i hz
                      split at h0
                      · rename_i st1 h1 hst
                        split at h0
                        · rename_i hq
                          have m1 : h.2.1 ≤ h1.2.1 ∧ h.2.2 ≤ h1.2.2 := by
                            obtain ⟨_, _, _, _, -, -, -, -, -, rfl⟩ := jv_cln_eq hst
                            exact ⟨Nat.le_succ _, Nat.le_add_right _ _⟩
                          have m2 := jv_run_mono n h0
                          obtain ⟨H1, e1, s1, f1⟩ := jm_cln hS hst (jm_hal1 hal m1.1 m2.1) (by omega)
                          have f10 := f1.1
                          obtain ⟨H2, e2, s2, f2⟩ := jm_run n y (pc + 3) L st1 h1 h' H1 r h0 s1 (jm_hal2 hal m1.1 m2.1 f10) (by omega)
                          refine ⟨H2, ?_, s2, f1.trans f2 m1 m2⟩
                          unfold jv_run
                          simp only [hinf, hcode]
                          rw [hret]
                          simp only [Option.map_none, hc, hcal]
                          rw [if_neg hz0, if_neg hz1, if_neg hz2, if_pos hz, e1]
                          dsimp only
                          rw [if_pos (by rw [← List.map_drop, jm_wd]; exact hq)]
                          exact e2
                        · cases h0
                      · cases h0
                    · rename_i hz3
                      split at h0
                      · cases h0
                      · rename_i q hq
                        split at h0
                        · rename_i hmay
                          split at h0
                          · rename_i r1 h1 hrun
                            have m1 := jv_run_mono n hrun
                            have m2 := jv_run_mono n h0
                            obtain ⟨H1, e1, s1, f1⟩ := jm_run n z 0 _ [] h h1 H r1 hrun hS (jm_hal1 hal m1.1 m2.1) (by omega)
                            have f10 := f1.1
                            obtain ⟨H2, e2, s2, f2⟩ := jm_run n y (pc + 3) L _ h1 h' H1 r h0 s1 (jm_hal2 hal m1.1 m2.1 f10) (by omega)
                            refine ⟨H2, ?_, s2, f1.trans f2 m1 m2⟩
                            have e3 : (r1.toList ++ st.drop na).map (jm_v B) = (r1.map (jm_v B)).toList ++ (st.map (jm_v B)).drop na := by
                              rw [List.map_append, List.map_drop]
                              cases r1 <;> rfl
                            rw [e3] at e2
                            rw [jm_args] at e1
                            unfold jv_run
                            simp only [hinf, hcode]
                            rw [hret]
                            simp only [Option.map_none, hc, hcal]
                            rw [if_neg hz0, if_neg hz1, if_neg hz2, if_neg hz3, hq]
                            dsimp only
                            rw [if_pos (jm_may hS hmay)]
                            have e4 : jv_run n z 0 (((st.map (jm_v B)).take na).reverse.map some ++ List.replicate (q.2.2.2.1 - na) none) [] H = some (r1.map (jm_v B), H1) := e1
                            rw [e4]
                            exact e2
                          · cases h0
                        · cases h0
