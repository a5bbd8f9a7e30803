-- text 117
/-! THE LAW: pairs of queries, equal answers: letters, the plan -/
theorem shr_ok {N s : Nat} (hN : N < 2147483648) (hs : ((iN s).toBitVec.smod 32).toNat = s) : iN N >>> iN s = iN (N >>> s) := by
  apply Int32.toInt_inj.1
  have e : (iN N >>> iN s).toInt = ((iN N).toBitVec.sshiftRight ((iN s).toBitVec.smod 32).toNat).toInt := rfl
  have l : N >>> s ≤ N := by rw [Nat.shiftRight_eq_div_pow]; exact Nat.div_le_self _ _
  rw [e, hs, BitVec.toInt_sshiftRight, Int32.toInt_toBitVec, iN_int hN, iN_int (by omega)]
  rfl
theorem and31 (N : Nat) : iN N &&& 31 = iN (N % 32) := by
  rw [show (31 : Int32) = Int32.ofNat 31 from rfl]
  rw [show iN N &&& Int32.ofNat 31 = Int32.ofNat (Nat.land N 31) from a_and N 31]
  rw [show Nat.land N 31 = N % 32 from Nat.and_two_pow_sub_one_eq_mod N 5]
theorem let_c {N : Nat} (hN : N < 2147483648) : ∀ {k : Nat}, k < 5 → (iN N >>> ((5 * iN k) &&& 31)) &&& 31 = iN (N / 32 ^ k % 32) := by
  intro k hk
  have hk5 : k = 0 ∨ k = 1 ∨ k = 2 ∨ k = 3 ∨ k = 4 := by omega
  rcases hk5 with rfl | rfl | rfl | rfl | rfl
  · rw [show (5 * iN 0 : Int32) &&& 31 = iN 0 from by decide, shr_ok hN (by decide), and31, Nat.shiftRight_eq_div_pow]
  · rw [show (5 * iN 1 : Int32) &&& 31 = iN 5 from by decide, shr_ok hN (by decide), and31, Nat.shiftRight_eq_div_pow]
  · rw [show (5 * iN 2 : Int32) &&& 31 = iN 10 from by decide, shr_ok hN (by decide), and31, Nat.shiftRight_eq_div_pow]
  · rw [show (5 * iN 3 : Int32) &&& 31 = iN 15 from by decide, shr_ok hN (by decide), and31, Nat.shiftRight_eq_div_pow]
  · rw [show (5 * iN 4 : Int32) &&& 31 = iN 20 from by decide, shr_ok hN (by decide), and31, Nat.shiftRight_eq_div_pow]
theorem nsN_0 : ∀ f, nsN f 0 = 0
  | 0 => rfl
  | f + 1 => if_pos rfl
theorem nsN_s {f s x : Nat} (h : 1 ≤ x ∧ x ≤ 26) : nsN (f + 1) (27 * s + x) = nsN f s + 1 := by
  show (if 27 * s + x = 0 then 0 else nsN f ((27 * s + x) / 27) + 1) = _
  rw [if_neg (by omega), show (27 * s + x) / 27 = s by omega]
theorem nm_core {N V m : Nat} (hN : N < 2147483648) (hV : V < 2147483648) (hm : nsN 8 V = m) (h5 : m ≤ 5) (h1 : ∀ k, k < m → N / 32 ^ k % 32 = V / 27 ^ (m - 1 - k) % 27 ∧ 1 ≤ N / 32 ^ k % 32) (h2 : ∀ k, m ≤ k → k < 5 → N / 32 ^ k % 32 = 0) {k : Nat} (hk : k < 2147483648) : (if iN k < 5 ∧ ¬ (iN N >>> ((5 * iN k) &&& 31)) &&& 31 = 0 then (iN N >>> ((5 * iN k) &&& 31)) &&& 31 else -2) = (if iN k < iN (nsz (iN V)) then iN (lOf (iN V) k) else -2) := by
  have es : nsz (iN V) = m := by
    unfold nsz
    rw [iN_nat hV]
    exact hm
  have el : lOf (iN V) k = V / 27 ^ (m - 1 - k) % 27 := by
    unfold lOf
    rw [es, iN_nat hV]
  rw [es, el]
  by_cases q : k < m
  · have e := let_c hN (k := k) (by omega)
    have n0 : ¬ iN (N / 32 ^ k % 32) = 0 := fun z => by
      have l : N / 32 ^ k % 32 < 32 := Nat.mod_lt _ (by decide)
      have := (iN_inj (m := 0) (by omega) (by decide)).mp z
      have := (h1 k q).2
      omega
    rw [e, if_pos ⟨(iN_lt (m := 5) hk (by decide)).mpr (by omega), n0⟩, if_pos ((iN_lt hk (by omega)).mpr q), (h1 k q).1]
  · rw [if_neg (fun z => q ((iN_lt hk (by omega)).mp z)), if_neg ?_]
    rintro ⟨z1, z2⟩
    have k5 := (iN_lt (m := 5) hk (by decide)).mp z1
    rw [let_c hN k5, h2 k (by omega) k5] at z2
    exact z2 rfl
theorem nm_1 {a k : Nat} (ha : 1 ≤ a ∧ a ≤ 26) (hk : k < 2147483648) : (if iN k < 5 ∧ ¬ (iN (a + 32 * 0) >>> ((5 * iN k) &&& 31)) &&& 31 = 0 then (iN (a + 32 * 0) >>> ((5 * iN k) &&& 31)) &&& 31 else -2) = (if iN k < iN (nsz (iN (27 * 0 + a))) then iN (lOf (iN (27 * 0 + a)) k) else -2) := by
  refine nm_core (m := 1) (by omega) (by omega) (by rw [nsN_s ha, nsN_0]) (by decide) (fun k hk => ?_) (fun k h1 h2 => ?_) hk
  · have hc : k = 0 := by omega
    rcases hc with rfl
    · show (a + 32 * 0) / 1 % 32 = (27 * 0 + a) / 1 % 27 ∧ 1 ≤ (a + 32 * 0) / 1 % 32
      rw [show (a + 32 * 0) / 1 = (a + 32 * 0) from Nat.div_one _, show (27 * 0 + a) / 1 = (27 * 0 + a) from Nat.div_one _]
      omega
  · have hc : k = 1 ∨ k = 2 ∨ k = 3 ∨ k = 4 := by omega
    rcases hc with rfl | rfl | rfl | rfl
    · show (a + 32 * 0) / 32 % 32 = 0
      rw [show (a + 32 * 0) / 32 = 0 from by omega]
    · show (a + 32 * 0) / 1024 % 32 = 0
      rw [show (a + 32 * 0) / 1024 = 0 from by omega]
    · show (a + 32 * 0) / 32768 % 32 = 0
      rw [show (a + 32 * 0) / 32768 = 0 from by omega]
    · show (a + 32 * 0) / 1048576 % 32 = 0
      rw [show (a + 32 * 0) / 1048576 = 0 from by omega]
theorem nm_2 {a b k : Nat} (ha : 1 ≤ a ∧ a ≤ 26) (hb : 1 ≤ b ∧ b ≤ 26) (hk : k < 2147483648) : (if iN k < 5 ∧ ¬ (iN (a + 32 * (b + 32 * 0)) >>> ((5 * iN k) &&& 31)) &&& 31 = 0 then (iN (a + 32 * (b + 32 * 0)) >>> ((5 * iN k) &&& 31)) &&& 31 else -2) = (if iN k < iN (nsz (iN (27 * (27 * 0 + a) + b))) then iN (lOf (iN (27 * (27 * 0 + a) + b)) k) else -2) := by
  refine nm_core (m := 2) (by omega) (by omega) (by rw [nsN_s hb, nsN_s ha, nsN_0]) (by decide) (fun k hk => ?_) (fun k h1 h2 => ?_) hk
  · have hc : k = 0 ∨ k = 1 := by omega
    rcases hc with rfl | rfl
    · show (a + 32 * (b + 32 * 0)) / 1 % 32 = (27 * (27 * 0 + a) + b) / 27 % 27 ∧ 1 ≤ (a + 32 * (b + 32 * 0)) / 1 % 32
      rw [show (a + 32 * (b + 32 * 0)) / 1 = (a + 32 * (b + 32 * 0)) from Nat.div_one _, show (27 * (27 * 0 + a) + b) / 27 = (27 * 0 + a) from by omega]
      omega
    · show (a + 32 * (b + 32 * 0)) / 32 % 32 = (27 * (27 * 0 + a) + b) / 1 % 27 ∧ 1 ≤ (a + 32 * (b + 32 * 0)) / 32 % 32
      rw [show (a + 32 * (b + 32 * 0)) / 32 = (b + 32 * 0) from by omega, show (27 * (27 * 0 + a) + b) / 1 = (27 * (27 * 0 + a) + b) from Nat.div_one _]
      omega
  · have hc : k = 2 ∨ k = 3 ∨ k = 4 := by omega
    rcases hc with rfl | rfl | rfl
    · show (a + 32 * (b + 32 * 0)) / 1024 % 32 = 0
      rw [show (a + 32 * (b + 32 * 0)) / 1024 = 0 from by omega]
    · show (a + 32 * (b + 32 * 0)) / 32768 % 32 = 0
      rw [show (a + 32 * (b + 32 * 0)) / 32768 = 0 from by omega]
    · show (a + 32 * (b + 32 * 0)) / 1048576 % 32 = 0
      rw [show (a + 32 * (b + 32 * 0)) / 1048576 = 0 from by omega]
theorem nm_3 {a b c k : Nat} (ha : 1 ≤ a ∧ a ≤ 26) (hb : 1 ≤ b ∧ b ≤ 26) (hc : 1 ≤ c ∧ c ≤ 26) (hk : k < 2147483648) : (if iN k < 5 ∧ ¬ (iN (a + 32 * (b + 32 * (c + 32 * 0))) >>> ((5 * iN k) &&& 31)) &&& 31 = 0 then (iN (a + 32 * (b + 32 * (c + 32 * 0))) >>> ((5 * iN k) &&& 31)) &&& 31 else -2) = (if iN k < iN (nsz (iN (27 * (27 * (27 * 0 + a) + b) + c))) then iN (lOf (iN (27 * (27 * (27 * 0 + a) + b) + c)) k) else -2) := by
  refine nm_core (m := 3) (by omega) (by omega) (by rw [nsN_s hc, nsN_s hb, nsN_s ha, nsN_0]) (by decide) (fun k hk => ?_) (fun k h1 h2 => ?_) hk
  · have hc : k = 0 ∨ k = 1 ∨ k = 2 := by omega
    rcases hc with rfl | rfl | rfl
    · show (a + 32 * (b + 32 * (c + 32 * 0))) / 1 % 32 = (27 * (27 * (27 * 0 + a) + b) + c) / 729 % 27 ∧ 1 ≤ (a + 32 * (b + 32 * (c + 32 * 0))) / 1 % 32
      rw [show (a + 32 * (b + 32 * (c + 32 * 0))) / 1 = (a + 32 * (b + 32 * (c + 32 * 0))) from Nat.div_one _, show (27 * (27 * (27 * 0 + a) + b) + c) / 729 = (27 * 0 + a) from by omega]
      omega
    · show (a + 32 * (b + 32 * (c + 32 * 0))) / 32 % 32 = (27 * (27 * (27 * 0 + a) + b) + c) / 27 % 27 ∧ 1 ≤ (a + 32 * (b + 32 * (c + 32 * 0))) / 32 % 32
      rw [show (a + 32 * (b + 32 * (c + 32 * 0))) / 32 = (b + 32 * (c + 32 * 0)) from by omega, show (27 * (27 * (27 * 0 + a) + b) + c) / 27 = (27 * (27 * 0 + a) + b) from by omega]
      omega
    · show (a + 32 * (b + 32 * (c + 32 * 0))) / 1024 % 32 = (27 * (27 * (27 * 0 + a) + b) + c) / 1 % 27 ∧ 1 ≤ (a + 32 * (b + 32 * (c + 32 * 0))) / 1024 % 32
      rw [show (a + 32 * (b + 32 * (c + 32 * 0))) / 1024 = (c + 32 * 0) from by omega, show (27 * (27 * (27 * 0 + a) + b) + c) / 1 = (27 * (27 * (27 * 0 + a) + b) + c) from Nat.div_one _]
      omega
  · have hc : k = 3 ∨ k = 4 := by omega
    rcases hc with rfl | rfl
    · show (a + 32 * (b + 32 * (c + 32 * 0))) / 32768 % 32 = 0
      rw [show (a + 32 * (b + 32 * (c + 32 * 0))) / 32768 = 0 from by omega]
    · show (a + 32 * (b + 32 * (c + 32 * 0))) / 1048576 % 32 = 0
      rw [show (a + 32 * (b + 32 * (c + 32 * 0))) / 1048576 = 0 from by omega]
theorem nm_4 {a b c d k : Nat} (ha : 1 ≤ a ∧ a ≤ 26) (hb : 1 ≤ b ∧ b ≤ 26) (hc : 1 ≤ c ∧ c ≤ 26) (hd : 1 ≤ d ∧ d ≤ 26) (hk : k < 2147483648) : (if iN k < 5 ∧ ¬ (iN (a + 32 * (b + 32 * (c + 32 * (d + 32 * 0)))) >>> ((5 * iN k) &&& 31)) &&& 31 = 0 then (iN (a + 32 * (b + 32 * (c + 32 * (d + 32 * 0)))) >>> ((5 * iN k) &&& 31)) &&& 31 else -2) = (if iN k < iN (nsz (iN (27 * (27 * (27 * (27 * 0 + a) + b) + c) + d))) then iN (lOf (iN (27 * (27 * (27 * (27 * 0 + a) + b) + c) + d)) k) else -2) := by
  refine nm_core (m := 4) (by omega) (by omega) (by rw [nsN_s hd, nsN_s hc, nsN_s hb, nsN_s ha, nsN_0]) (by decide) (fun k hk => ?_) (fun k h1 h2 => ?_) hk
  · have hc : k = 0 ∨ k = 1 ∨ k = 2 ∨ k = 3 := by omega
    rcases hc with rfl | rfl | rfl | rfl
    · show (a + 32 * (b + 32 * (c + 32 * (d + 32 * 0)))) / 1 % 32 = (27 * (27 * (27 * (27 * 0 + a) + b) + c) + d) / 19683 % 27 ∧ 1 ≤ (a + 32 * (b + 32 * (c + 32 * (d + 32 * 0)))) / 1 % 32
      rw [show (a + 32 * (b + 32 * (c + 32 * (d + 32 * 0)))) / 1 = (a + 32 * (b + 32 * (c + 32 * (d + 32 * 0)))) from Nat.div_one _, show (27 * (27 * (27 * (27 * 0 + a) + b) + c) + d) / 19683 = (27 * 0 + a) from by omega]
      omega
    · show (a + 32 * (b + 32 * (c + 32 * (d + 32 * 0)))) / 32 % 32 = (27 * (27 * (27 * (27 * 0 + a) + b) + c) + d) / 729 % 27 ∧ 1 ≤ (a + 32 * (b + 32 * (c + 32 * (d + 32 * 0)))) / 32 % 32
      rw [show (a + 32 * (b + 32 * (c + 32 * (d + 32 * 0)))) / 32 = (b + 32 * (c + 32 * (d + 32 * 0))) from by omega, show (27 * (27 * (27 * (27 * 0 + a) + b) + c) + d) / 729 = (27 * (27 * 0 + a) + b) from by omega]
      omega
    · show (a + 32 * (b + 32 * (c + 32 * (d + 32 * 0)))) / 1024 % 32 = (27 * (27 * (27 * (27 * 0 + a) + b) + c) + d) / 27 % 27 ∧ 1 ≤ (a + 32 * (b + 32 * (c + 32 * (d + 32 * 0)))) / 1024 % 32
      rw [show (a + 32 * (b + 32 * (c + 32 * (d + 32 * 0)))) / 1024 = (c + 32 * (d + 32 * 0)) from by omega, show (27 * (27 * (27 * (27 * 0 + a) + b) + c) + d) / 27 = (27 * (27 * (27 * 0 + a) + b) + c) from by omega]
      omega
    · show (a + 32 * (b + 32 * (c + 32 * (d + 32 * 0)))) / 32768 % 32 = (27 * (27 * (27 * (27 * 0 + a) + b) + c) + d) / 1 % 27 ∧ 1 ≤ (a + 32 * (b + 32 * (c + 32 * (d + 32 * 0)))) / 32768 % 32
      rw [show (a + 32 * (b + 32 * (c + 32 * (d + 32 * 0)))) / 32768 = (d + 32 * 0) from by omega, show (27 * (27 * (27 * (27 * 0 + a) + b) + c) + d) / 1 = (27 * (27 * (27 * (27 * 0 + a) + b) + c) + d) from Nat.div_one _]
      omega
  · have hc : k = 4 := by omega
    rcases hc with rfl
    · show (a + 32 * (b + 32 * (c + 32 * (d + 32 * 0)))) / 1048576 % 32 = 0
      rw [show (a + 32 * (b + 32 * (c + 32 * (d + 32 * 0)))) / 1048576 = 0 from by omega]
theorem nm_5 {a b c d e k : Nat} (ha : 1 ≤ a ∧ a ≤ 26) (hb : 1 ≤ b ∧ b ≤ 26) (hc : 1 ≤ c ∧ c ≤ 26) (hd : 1 ≤ d ∧ d ≤ 26) (he : 1 ≤ e ∧ e ≤ 26) (hk : k < 2147483648) : (if iN k < 5 ∧ ¬ (iN (a + 32 * (b + 32 * (c + 32 * (d + 32 * (e + 32 * 0))))) >>> ((5 * iN k) &&& 31)) &&& 31 = 0 then (iN (a + 32 * (b + 32 * (c + 32 * (d + 32 * (e + 32 * 0))))) >>> ((5 * iN k) &&& 31)) &&& 31 else -2) = (if iN k < iN (nsz (iN (27 * (27 * (27 * (27 * (27 * 0 + a) + b) + c) + d) + e))) then iN (lOf (iN (27 * (27 * (27 * (27 * (27 * 0 + a) + b) + c) + d) + e)) k) else -2) := by
  refine nm_core (m := 5) (by omega) (by omega) (by rw [nsN_s he, nsN_s hd, nsN_s hc, nsN_s hb, nsN_s ha, nsN_0]) (by decide) (fun k hk => ?_) (fun k h1 h2 => ?_) hk
  · have hc : k = 0 ∨ k = 1 ∨ k = 2 ∨ k = 3 ∨ k = 4 := by omega
    rcases hc with rfl | rfl | rfl | rfl | rfl
    · show (a + 32 * (b + 32 * (c + 32 * (d + 32 * (e + 32 * 0))))) / 1 % 32 = (27 * (27 * (27 * (27 * (27 * 0 + a) + b) + c) + d) + e) / 531441 % 27 ∧ 1 ≤ (a + 32 * (b + 32 * (c + 32 * (d + 32 * (e + 32 * 0))))) / 1 % 32
      rw [show (a + 32 * (b + 32 * (c + 32 * (d + 32 * (e + 32 * 0))))) / 1 = (a + 32 * (b + 32 * (c + 32 * (d + 32 * (e + 32 * 0))))) from Nat.div_one _, show (27 * (27 * (27 * (27 * (27 * 0 + a) + b) + c) + d) + e) / 531441 = (27 * 0 + a) from by omega]
      omega
    · show (a + 32 * (b + 32 * (c + 32 * (d + 32 * (e + 32 * 0))))) / 32 % 32 = (27 * (27 * (27 * (27 * (27 * 0 + a) + b) + c) + d) + e) / 19683 % 27 ∧ 1 ≤ (a + 32 * (b + 32 * (c + 32 * (d + 32 * (e + 32 * 0))))) / 32 % 32
      rw [show (a + 32 * (b + 32 * (c + 32 * (d + 32 * (e + 32 * 0))))) / 32 = (b + 32 * (c + 32 * (d + 32 * (e + 32 * 0)))) from by omega, show (27 * (27 * (27 * (27 * (27 * 0 + a) + b) + c) + d) + e) / 19683 = (27 * (27 * 0 + a) + b) from by omega]
      omega
    · show (a + 32 * (b + 32 * (c + 32 * (d + 32 * (e + 32 * 0))))) / 1024 % 32 = (27 * (27 * (27 * (27 * (27 * 0 + a) + b) + c) + d) + e) / 729 % 27 ∧ 1 ≤ (a + 32 * (b + 32 * (c + 32 * (d + 32 * (e + 32 * 0))))) / 1024 % 32
      rw [show (a + 32 * (b + 32 * (c + 32 * (d + 32 * (e + 32 * 0))))) / 1024 = (c + 32 * (d + 32 * (e + 32 * 0))) from by omega, show (27 * (27 * (27 * (27 * (27 * 0 + a) + b) + c) + d) + e) / 729 = (27 * (27 * (27 * 0 + a) + b) + c) from by omega]
      omega
    · show (a + 32 * (b + 32 * (c + 32 * (d + 32 * (e + 32 * 0))))) / 32768 % 32 = (27 * (27 * (27 * (27 * (27 * 0 + a) + b) + c) + d) + e) / 27 % 27 ∧ 1 ≤ (a + 32 * (b + 32 * (c + 32 * (d + 32 * (e + 32 * 0))))) / 32768 % 32
      rw [show (a + 32 * (b + 32 * (c + 32 * (d + 32 * (e + 32 * 0))))) / 32768 = (d + 32 * (e + 32 * 0)) from by omega, show (27 * (27 * (27 * (27 * (27 * 0 + a) + b) + c) + d) + e) / 27 = (27 * (27 * (27 * (27 * 0 + a) + b) + c) + d) from by omega]
      omega
    · show (a + 32 * (b + 32 * (c + 32 * (d + 32 * (e + 32 * 0))))) / 1048576 % 32 = (27 * (27 * (27 * (27 * (27 * 0 + a) + b) + c) + d) + e) / 1 % 27 ∧ 1 ≤ (a + 32 * (b + 32 * (c + 32 * (d + 32 * (e + 32 * 0))))) / 1048576 % 32
      rw [show (a + 32 * (b + 32 * (c + 32 * (d + 32 * (e + 32 * 0))))) / 1048576 = (e + 32 * 0) from by omega, show (27 * (27 * (27 * (27 * (27 * 0 + a) + b) + c) + d) + e) / 1 = (27 * (27 * (27 * (27 * (27 * 0 + a) + b) + c) + d) + e) from Nat.div_one _]
      omega
  · omega
theorem nm_let {c r : Int32} (h : nmR c r) {k : Nat} (hk : k < 2147483648) : (if iN k < 5 ∧ ¬ (c >>> ((5 * iN k) &&& 31)) &&& 31 = 0 then (c >>> ((5 * iN k) &&& 31)) &&& 31 else -2) = (if iN k < iN (nsz r) then iN (lOf r k) else -2) := by
  obtain ⟨l, hl, hx, rfl, rfl⟩ := h
  match l, hl, hx with
  | [], hl, _ => exact absurd hl.1 (by decide)
  | [a], _, hx => exact nm_1 (hx a (by simp)) hk
  | [a, b], _, hx => exact nm_2 (hx a (by simp)) (hx b (by simp)) hk
  | [a, b, c], _, hx => exact nm_3 (hx a (by simp)) (hx b (by simp)) (hx c (by simp)) hk
  | [a, b, c, d], _, hx => exact nm_4 (hx a (by simp)) (hx b (by simp)) (hx c (by simp)) (hx d (by simp)) hk
  | [a, b, c, d, e], _, hx => exact nm_5 (hx a (by simp)) (hx b (by simp)) (hx c (by simp)) (hx d (by simp)) (hx e (by simp)) hk
  | a :: b :: c :: d :: e :: f :: l, hl, _ => exact absurd hl.2 (by simp)
theorem nm_fst {c r : Int32} (h : nmR c r) : (c >>> ((5 * (0 : Int32)) &&& 31)) &&& 31 = iN (lOf r 0) ∧ lOf r 0 < 27 := by
  have hl : lOf r 0 < 27 := Nat.mod_lt _ (by decide)
  refine ⟨?_, hl⟩
  have e := nm_let h (k := 0) (by decide)
  have h1 := (nmR_b h).2
  rw [if_pos ((iN_lt (by decide) (by omega)).mpr (by omega))] at e
  by_cases q : (c >>> ((5 * iN 0) &&& 31)) &&& 31 = 0
  · rw [if_neg (fun z => z.2 q)] at e
    exact absurd e.symm (iN_ne (by omega))
  · rw [if_pos ⟨by decide, q⟩] at e
    exact e
theorem agr_let {σ : gS} {R : gW} (h3 : b3R (cR σ 6)) (h : agr (cR σ 6) R) (hn : ∀ t, t < nM R → nmR (σ (6 + 2 + t) 0) (R (9 + 10 * t + 9))) (t i : Int32) : (if isT (cR σ 6) t ∧ ¬ i < 0 then (if i < 5 ∧ ¬ (σ (8 + t.toNatClampNeg) 0 >>> ((5 * i) &&& 31)) &&& 31 = 0 then (σ (8 + t.toNatClampNeg) 0 >>> ((5 * i) &&& 31)) &&& 31 else -2) else -1) = (if isT R t ∧ ¬ i < 0 then (if i < iN (nsz (R (9 + 10 * t.toNatClampNeg + 9))) then iN (lOf (R (9 + 10 * t.toNatClampNeg + 9)) i.toNatClampNeg) else -2) else -1) := by
  by_cases q : isT (cR σ 6) t ∧ ¬ i < 0
  · refine (if_pos q).trans (Eq.trans ?_ (if_pos ⟨(agr_isT h t).mp q.1, q.2⟩).symm)
    have ht := isT_nn h3 q.1
    have m := hn _ (by rw [← agr_n h]; exact ht)
    obtain ⟨ei, li⟩ := iN_of (x := i) (by have := q.2; grind)
    have e := nm_let m li
    rw [← ei] at e
    exact e
  · rw [if_neg q, if_neg (fun z => q ⟨(agr_isT h t).mpr z.1, z.2⟩)]
theorem pr_letter {n : Nat} {σ : gS} {Q : Int32 → gS → Prop} {t i : Int32} (h : GI n σ) (k : Pr n σ 230 [some (.ref 323), some (.int t), some (.int i), none] Q) : gXi 125 [some (.ref 0), some (.int t), some (.int i), none] σ Q := by
  have h' := h
  obtain ⟨B, b1, b2, g, tb⟩ := h'
  obtain ⟨hc, hF⟩ := GR_SC g
  obtain ⟨rs, rt, rz, h0, rF, rT, nG⟩ := GR_rf g
  exact s125 hc ⟨_, rfl, k _ σ (Sc_r σ) (fun Q2 h2 => s230 ⟨rs, nG⟩ ⟨_, congrArg (fun v => some (Value.int v)) (agr_let hc.1.1 g.1.1 g.1.2.2.2 t i).symm, h2 σ (GI_up h) (Sc_r σ)⟩)⟩
/-- a seat's sign in the plan -/
theorem sgn_e {σ : gS} {R : gW} (h3 : b3R (cR σ 6)) (h : agr (cR σ 6) R) (hn : ∀ t, t < nM R → nmR (σ (6 + 2 + t) 0) (R (9 + 10 * t + 9))) (x : Int32) : sgn (cR σ 6) (cLt σ) x = sgr R x := by
  unfold sgn sgr
  rw [← agr_Who h]
  by_cases q : fWho (cR σ 6) x = -2
  · rw [if_pos q, if_pos (by rw [q]; decide)]
  · obtain ⟨w1, w2⟩ := fWho_w h3 q
    have m := hn _ (by rw [← agr_n h]; exact w2)
    obtain ⟨e, l⟩ := nm_fst m
    have e2 : cLt σ (fWho (cR σ 6) x).toNatClampNeg = iN (lOf (R (9 + 10 * (fWho (cR σ 6) x).toNatClampNeg + 9)) 0) := e
    have nq : ¬ fWho (cR σ 6) x < 0 := Int32.not_lt.mpr w1.1
    refine (if_neg q).trans (Eq.trans ?_ (if_neg nq).symm)
    rw [e2, ← agr_Jo h w2]
    obtain ⟨a, ha⟩ : ∃ a, lOf (R (9 + 10 * (fWho (cR σ 6) x).toNatClampNeg + 9)) 0 = a := ⟨_, rfl⟩
    rw [ha] at l ⊢
    have k1 : (65 : Int32) + iN a - 1 = iN a + 64 := by
      rw [show (65 : Int32) = iN 65 from rfl, show (64 : Int32) = iN 64 from rfl, show (1 : Int32) = iN 1 from rfl, iN_add, iN_add, iN_sub (by omega) (by omega)]
      congr 1
      omega
    have k2 : (97 : Int32) + iN a - 1 = iN a + 96 := by
      rw [show (97 : Int32) = iN 97 from rfl, show (96 : Int32) = iN 96 from rfl, show (1 : Int32) = iN 1 from rfl, iN_add, iN_add, iN_sub (by omega) (by omega)]
      congr 1
      omega
    by_cases qj : fJo (cR σ 6) (fWho (cR σ 6) x).toNatClampNeg < 0
    · rw [if_pos qj, if_pos qj]
      exact k1
    · rw [if_neg qj, if_neg qj]
      exact k2
theorem agr_pb {σ : gS} {R : gW} (h3 : b3R (cR σ 6)) (h : agr (cR σ 6) R) (hn : ∀ t, t < nM R → nmR (σ (6 + 2 + t) 0) (R (9 + 10 * t + 9))) (i : Int32) : aPb (cR σ 6) (cLt σ) i = rPb R i := by
  unfold aPb rPb
  rw [← h.1 0 (by decide)]
  by_cases q : i < 0
  · rw [if_pos q, if_pos q]
  · rw [if_neg q, if_neg q]
    by_cases q2 : i < cR σ 6 0 * 7
    · rw [if_pos q2, if_pos q2]
      obtain ⟨ei, li⟩ := iN_of (x := i) (by grind)
      obtain ⟨k, hk⟩ : ∃ k, i.toNatClampNeg = k := ⟨_, rfl⟩
      rw [hk] at ei li ⊢
      rw [ei, show (7 : Int32) = iN 7 from rfl, iN_mod li (by decide), iN_div li (by decide)]
      unfold plS plB plr
      obtain ⟨r, hr⟩ : ∃ r, k / 7 = r := ⟨_, rfl⟩
      obtain ⟨c, hc⟩ : ∃ c, k % 7 = c := ⟨_, rfl⟩
      have lc : c < 7 := by omega
      have lr : r < 2147483648 / 7 + 1 := by omega
      rw [hr, hc, ← h.1 1 (by decide)]
      have j : ∀ d, d < 7 → ((iN c = iN d) ↔ c = d) := fun d hd => iN_inj (by omega) (by omega)
      by_cases c0 : c = 0
      · rw [if_pos (show iN c = 0 from (j 0 (by decide)).mpr c0), if_pos c0]
      · rw [if_neg (show ¬ iN c = 0 from fun z => c0 ((j 0 (by decide)).mp z)), if_neg c0]
        by_cases c1 : c = 1
        · rw [if_pos (show iN c = 1 from (j 1 (by decide)).mpr c1), if_pos c1]
        · rw [if_neg (show ¬ iN c = 1 from fun z => c1 ((j 1 (by decide)).mp z)), if_neg c1]
          by_cases c6 : c = 6
          · rw [if_pos (show iN c = 6 from (j 6 (by decide)).mpr c6), if_pos c6]
          · rw [if_neg (show ¬ iN c = 6 from fun z => c6 ((j 6 (by decide)).mp z)), if_neg c6, sgn_e h3 h hn]
            congr 1
            rw [show (4 : Int32) = iN 4 from rfl, show (2 : Int32) = iN 2 from rfl, iN_mul, iN_add, iN_sub (by omega) (by omega), iN_mul, iN_add]
            congr 1
            omega
    · rw [if_neg q2, if_neg q2]
theorem pr_planByte {n : Nat} {σ : gS} {Q : Int32 → gS → Prop} {i : Int32} (h : GI n σ) (k : Pr n σ 258 [some (.ref 323), some (.int i)] Q) : gXi 144 [some (.ref 0), some (.int i)] σ Q := by
  have h' := h
  obtain ⟨B, b1, b2, g, tb⟩ := h'
  obtain ⟨hc, hF⟩ := GR_SC g
  obtain ⟨rs, rt, rz, h0, rF, rT, nG⟩ := GR_rf g
  refine s144 hc ⟨_, rfl, k _ σ (Sc_r σ) (fun Q2 h2 => x258 rs.1.1 h0 nG (fun τ hw => ?_))⟩
  obtain ⟨i1, i2⟩ := GI_wf h hw
  rw [← agr_pb hc.1.1 g.1.1 g.1.2.2.2 i]
  exact h2 τ (GI_up i1) i2
