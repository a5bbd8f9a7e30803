/-! A NAME, packed and by 27 (from text 117) -/
theorem shr_ok {N s : Nat} (hN : N < 2147483648) (hs : ((iN s).toBitVec.smod 32).toNat = s) : iN N >>> iN s = iN (N >>> s) := by
  apply Int32.toInt_inj.1
  have e : (iN N >>> iN s).toInt = ((iN N).toBitVec.sshiftRight ((iN s).toBitVec.smod 32).toNat).toInt := rfl
  have l : N >>> s ≤ N := by rw [Nat.shiftRight_eq_div_pow]; exact Nat.div_le_self _ _
  rw [e, hs, BitVec.toInt_sshiftRight, Int32.toInt_toBitVec, iN_int hN, iN_int (by omega)]
  rfl
theorem and31 (N : Nat) : iN N &&& 31 = iN (N % 32) := by
  apply Int32.toBitVec_inj.mp
  rw [Int32.toBitVec_and]
  apply BitVec.eq_of_toNat_eq
  rw [BitVec.toNat_and, show (iN N).toBitVec = BitVec.ofNat 32 N from rfl, show (31 : Int32).toBitVec = BitVec.ofNat 32 31 from rfl, show (iN (N % 32)).toBitVec = BitVec.ofNat 32 (N % 32) from rfl, BitVec.toNat_ofNat, BitVec.toNat_ofNat, BitVec.toNat_ofNat]
  have e := Nat.and_two_pow_sub_one_eq_mod (N % 2 ^ 32) 5
  have e2 : (2 : Nat) ^ 5 - 1 = 31 % 2 ^ 32 := by decide
  rw [e2] at e
  rw [e]
  have e3 : (2 : Nat) ^ 32 = 4294967296 := by decide
  have e4 : (2 : Nat) ^ 5 = 32 := by decide
  rw [e3, e4]
  omega
theorem let_c {N : Nat} (hN : N < 2147483648) : ∀ {k : Nat}, k < 5 → (iN N >>> ((5 * iN k) &&& 31)) &&& 31 = iN (N / 32 ^ k % 32) := by
  intro k hk
  have hk5 : k = 0 ∨ k = 1 ∨ k = 2 ∨ k = 3 ∨ k = 4 := by omega
  rcases hk5 with rfl | rfl | rfl | rfl | rfl
  · rw [show (5 * iN 0 : Int32) &&& 31 = iN 0 from by decide, shr_ok hN (by decide), and31, Nat.shiftRight_eq_div_pow]
  · rw [show (5 * iN 1 : Int32) &&& 31 = iN 5 from by decide, shr_ok hN (by decide), and31, Nat.shiftRight_eq_div_pow]
  · rw [show (5 * iN 2 : Int32) &&& 31 = iN 10 from by decide, shr_ok hN (by decide), and31, Nat.shiftRight_eq_div_pow]
  · rw [show (5 * iN 3 : Int32) &&& 31 = iN 15 from by decide, shr_ok hN (by decide), and31, Nat.shiftRight_eq_div_pow]
  · rw [show (5 * iN 4 : Int32) &&& 31 = iN 20 from by decide, shr_ok hN (by decide), and31, Nat.shiftRight_eq_div_pow]
theorem nsN_0 : ∀ f, nsN f 0 = 0
  | 0 => rfl
  | f + 1 => if_pos rfl
theorem nsN_s {f s x : Nat} (h : 1 ≤ x ∧ x ≤ 26) : nsN (f + 1) (27 * s + x) = nsN f s + 1 := by
  show (if 27 * s + x = 0 then 0 else nsN f ((27 * s + x) / 27) + 1) = _
  rw [if_neg (by omega), show (27 * s + x) / 27 = s by omega]
theorem nm_core {N V m : Nat} (hN : N < 2147483648) (hV : V < 2147483648) (hm : nsN 8 V = m) (h5 : m ≤ 5) (h1 : ∀ k, k < m → N / 32 ^ k % 32 = V / 27 ^ (m - 1 - k) % 27 ∧ 1 ≤ N / 32 ^ k % 32) (h2 : ∀ k, m ≤ k → k < 5 → N / 32 ^ k % 32 = 0) {k : Nat} (hk : k < 2147483648) : (if iN k < 5 ∧ ¬ (iN N >>> ((5 * iN k) &&& 31)) &&& 31 = 0 then (iN N >>> ((5 * iN k) &&& 31)) &&& 31 else -2) = (if iN k < iN (nsz (iN V)) then iN (lOf (iN V) k) else -2) := by
  have es : nsz (iN V) = m := by
    unfold nsz
    rw [iN_nat hV]
    exact hm
  have el : lOf (iN V) k = V / 27 ^ (m - 1 - k) % 27 := by
    unfold lOf
    rw [es, iN_nat hV]
  rw [es, el]
  by_cases q : k < m
  · have e := let_c hN (k := k) (by omega)
    have n0 : ¬ iN (N / 32 ^ k % 32) = 0 := fun z => by
      have l : N / 32 ^ k % 32 < 32 := Nat.mod_lt _ (by decide)
      have := (iN_inj (m := 0) (by omega) (by decide)).mp z
      have := (h1 k q).2
      omega
    rw [e, if_pos ⟨(iN_lt (m := 5) hk (by decide)).mpr (by omega), n0⟩, if_pos ((iN_lt hk (by omega)).mpr q), (h1 k q).1]
  · rw [if_neg (fun z => q ((iN_lt hk (by omega)).mp z)), if_neg ?_]
    rintro ⟨z1, z2⟩
    have k5 := (iN_lt (m := 5) hk (by decide)).mp z1
    rw [let_c hN k5, h2 k (by omega) k5] at z2
    exact z2 rfl
theorem nm_1 {a k : Nat} (ha : 1 ≤ a ∧ a ≤ 26) (hk : k < 2147483648) : (if iN k < 5 ∧ ¬ (iN (a + 32 * 0) >>> ((5 * iN k) &&& 31)) &&& 31 = 0 then (iN (a + 32 * 0) >>> ((5 * iN k) &&& 31)) &&& 31 else -2) = (if iN k < iN (nsz (iN (27 * 0 + a))) then iN (lOf (iN (27 * 0 + a)) k) else -2) := by
  refine nm_core (m := 1) (by omega) (by omega) (by rw [nsN_s ha, nsN_0]) (by decide) (fun k hk => ?_) (fun k h1 h2 => ?_) hk
  · have hc : k = 0 := by omega
    rcases hc with rfl
    · show (a + 32 * 0) / 1 % 32 = (27 * 0 + a) / 1 % 27 ∧ 1 ≤ (a + 32 * 0) / 1 % 32
      rw [show (a + 32 * 0) / 1 = (a + 32 * 0) from Nat.div_one _, show (27 * 0 + a) / 1 = (27 * 0 + a) from Nat.div_one _]
      omega
  · have hc : k = 1 ∨ k = 2 ∨ k = 3 ∨ k = 4 := by omega
    rcases hc with rfl | rfl | rfl | rfl
    · show (a + 32 * 0) / 32 % 32 = 0
      rw [show (a + 32 * 0) / 32 = 0 from by omega]
    · show (a + 32 * 0) / 1024 % 32 = 0
      rw [show (a + 32 * 0) / 1024 = 0 from by omega]
    · show (a + 32 * 0) / 32768 % 32 = 0
      rw [show (a + 32 * 0) / 32768 = 0 from by omega]
    · show (a + 32 * 0) / 1048576 % 32 = 0
      rw [show (a + 32 * 0) / 1048576 = 0 from by omega]
theorem nm_2 {a b k : Nat} (ha : 1 ≤ a ∧ a ≤ 26) (hb : 1 ≤ b ∧ b ≤ 26) (hk : k < 2147483648) : (if iN k < 5 ∧ ¬ (iN (a + 32 * (b + 32 * 0)) >>> ((5 * iN k) &&& 31)) &&& 31 = 0 then (iN (a + 32 * (b + 32 * 0)) >>> ((5 * iN k) &&& 31)) &&& 31 else -2) = (if iN k < iN (nsz (iN (27 * (27 * 0 + a) + b))) then iN (lOf (iN (27 * (27 * 0 + a) + b)) k) else -2) := by
  refine nm_core (m := 2) (by omega) (by omega) (by rw [nsN_s hb, nsN_s ha, nsN_0]) (by decide) (fun k hk => ?_) (fun k h1 h2 => ?_) hk
  · have hc : k = 0 ∨ k = 1 := by omega
    rcases hc with rfl | rfl
    · show (a + 32 * (b + 32 * 0)) / 1 % 32 = (27 * (27 * 0 + a) + b) / 27 % 27 ∧ 1 ≤ (a + 32 * (b + 32 * 0)) / 1 % 32
      rw [show (a + 32 * (b + 32 * 0)) / 1 = (a + 32 * (b + 32 * 0)) from Nat.div_one _, show (27 * (27 * 0 + a) + b) / 27 = (27 * 0 + a) from by omega]
      omega
    · show (a + 32 * (b + 32 * 0)) / 32 % 32 = (27 * (27 * 0 + a) + b) / 1 % 27 ∧ 1 ≤ (a + 32 * (b + 32 * 0)) / 32 % 32
      rw [show (a + 32 * (b + 32 * 0)) / 32 = (b + 32 * 0) from by omega, show (27 * (27 * 0 + a) + b) / 1 = (27 * (27 * 0 + a) + b) from Nat.div_one _]
      omega
  · have hc : k = 2 ∨ k = 3 ∨ k = 4 := by omega
    rcases hc with rfl | rfl | rfl
    · show (a + 32 * (b + 32 * 0)) / 1024 % 32 = 0
      rw [show (a + 32 * (b + 32 * 0)) / 1024 = 0 from by omega]
    · show (a + 32 * (b + 32 * 0)) / 32768 % 32 = 0
      rw [show (a + 32 * (b + 32 * 0)) / 32768 = 0 from by omega]
    · show (a + 32 * (b + 32 * 0)) / 1048576 % 32 = 0
      rw [show (a + 32 * (b + 32 * 0)) / 1048576 = 0 from by omega]
theorem nm_3 {a b c k : Nat} (ha : 1 ≤ a ∧ a ≤ 26) (hb : 1 ≤ b ∧ b ≤ 26) (hc : 1 ≤ c ∧ c ≤ 26) (hk : k < 2147483648) : (if iN k < 5 ∧ ¬ (iN (a + 32 * (b + 32 * (c + 32 * 0))) >>> ((5 * iN k) &&& 31)) &&& 31 = 0 then (iN (a + 32 * (b + 32 * (c + 32 * 0))) >>> ((5 * iN k) &&& 31)) &&& 31 else -2) = (if iN k < iN (nsz (iN (27 * (27 * (27 * 0 + a) + b) + c))) then iN (lOf (iN (27 * (27 * (27 * 0 + a) + b) + c)) k) else -2) := by
  refine nm_core (m := 3) (by omega) (by omega) (by rw [nsN_s hc, nsN_s hb, nsN_s ha, nsN_0]) (by decide) (fun k hk => ?_) (fun k h1 h2 => ?_) hk
  · have hc : k = 0 ∨ k = 1 ∨ k = 2 := by omega
    rcases hc with rfl | rfl | rfl
    · show (a + 32 * (b + 32 * (c + 32 * 0))) / 1 % 32 = (27 * (27 * (27 * 0 + a) + b) + c) / 729 % 27 ∧ 1 ≤ (a + 32 * (b + 32 * (c + 32 * 0))) / 1 % 32
      rw [show (a + 32 * (b + 32 * (c + 32 * 0))) / 1 = (a + 32 * (b + 32 * (c + 32 * 0))) from Nat.div_one _, show (27 * (27 * (27 * 0 + a) + b) + c) / 729 = (27 * 0 + a) from by omega]
      omega
    · show (a + 32 * (b + 32 * (c + 32 * 0))) / 32 % 32 = (27 * (27 * (27 * 0 + a) + b) + c) / 27 % 27 ∧ 1 ≤ (a + 32 * (b + 32 * (c + 32 * 0))) / 32 % 32
      rw [show (a + 32 * (b + 32 * (c + 32 * 0))) / 32 = (b + 32 * (c + 32 * 0)) from by omega, show (27 * (27 * (27 * 0 + a) + b) + c) / 27 = (27 * (27 * 0 + a) + b) from by omega]
      omega
    · show (a + 32 * (b + 32 * (c + 32 * 0))) / 1024 % 32 = (27 * (27 * (27 * 0 + a) + b) + c) / 1 % 27 ∧ 1 ≤ (a + 32 * (b + 32 * (c + 32 * 0))) / 1024 % 32
      rw [show (a + 32 * (b + 32 * (c + 32 * 0))) / 1024 = (c + 32 * 0) from by omega, show (27 * (27 * (27 * 0 + a) + b) + c) / 1 = (27 * (27 * (27 * 0 + a) + b) + c) from Nat.div_one _]
      omega
  · have hc : k = 3 ∨ k = 4 := by omega
    rcases hc with rfl | rfl
    · show (a + 32 * (b + 32 * (c + 32 * 0))) / 32768 % 32 = 0
      rw [show (a + 32 * (b + 32 * (c + 32 * 0))) / 32768 = 0 from by omega]
    · show (a + 32 * (b + 32 * (c + 32 * 0))) / 1048576 % 32 = 0
      rw [show (a + 32 * (b + 32 * (c + 32 * 0))) / 1048576 = 0 from by omega]
theorem nm_4 {a b c d k : Nat} (ha : 1 ≤ a ∧ a ≤ 26) (hb : 1 ≤ b ∧ b ≤ 26) (hc : 1 ≤ c ∧ c ≤ 26) (hd : 1 ≤ d ∧ d ≤ 26) (hk : k < 2147483648) : (if iN k < 5 ∧ ¬ (iN (a + 32 * (b + 32 * (c + 32 * (d + 32 * 0)))) >>> ((5 * iN k) &&& 31)) &&& 31 = 0 then (iN (a + 32 * (b + 32 * (c + 32 * (d + 32 * 0)))) >>> ((5 * iN k) &&& 31)) &&& 31 else -2) = (if iN k < iN (nsz (iN (27 * (27 * (27 * (27 * 0 + a) + b) + c) + d))) then iN (lOf (iN (27 * (27 * (27 * (27 * 0 + a) + b) + c) + d)) k) else -2) := by
  refine nm_core (m := 4) (by omega) (by omega) (by rw [nsN_s hd, nsN_s hc, nsN_s hb, nsN_s ha, nsN_0]) (by decide) (fun k hk => ?_) (fun k h1 h2 => ?_) hk
  · have hc : k = 0 ∨ k = 1 ∨ k = 2 ∨ k = 3 := by omega
    rcases hc with rfl | rfl | rfl | rfl
    · show (a + 32 * (b + 32 * (c + 32 * (d + 32 * 0)))) / 1 % 32 = (27 * (27 * (27 * (27 * 0 + a) + b) + c) + d) / 19683 % 27 ∧ 1 ≤ (a + 32 * (b + 32 * (c + 32 * (d + 32 * 0)))) / 1 % 32
      rw [show (a + 32 * (b + 32 * (c + 32 * (d + 32 * 0)))) / 1 = (a + 32 * (b + 32 * (c + 32 * (d + 32 * 0)))) from Nat.div_one _, show (27 * (27 * (27 * (27 * 0 + a) + b) + c) + d) / 19683 = (27 * 0 + a) from by omega]
      omega
    · show (a + 32 * (b + 32 * (c + 32 * (d + 32 * 0)))) / 32 % 32 = (27 * (27 * (27 * (27 * 0 + a) + b) + c) + d) / 729 % 27 ∧ 1 ≤ (a + 32 * (b + 32 * (c + 32 * (d + 32 * 0)))) / 32 % 32
      rw [show (a + 32 * (b + 32 * (c + 32 * (d + 32 * 0)))) / 32 = (b + 32 * (c + 32 * (d + 32 * 0))) from by omega, show (27 * (27 * (27 * (27 * 0 + a) + b) + c) + d) / 729 = (27 * (27 * 0 + a) + b) from by omega]
      omega
    · show (a + 32 * (b + 32 * (c + 32 * (d + 32 * 0)))) / 1024 % 32 = (27 * (27 * (27 * (27 * 0 + a) + b) + c) + d) / 27 % 27 ∧ 1 ≤ (a + 32 * (b + 32 * (c + 32 * (d + 32 * 0)))) / 1024 % 32
      rw [show (a + 32 * (b + 32 * (c + 32 * (d + 32 * 0)))) / 1024 = (c + 32 * (d + 32 * 0)) from by omega, show (27 * (27 * (27 * (27 * 0 + a) + b) + c) + d) / 27 = (27 * (27 * (27 * 0 + a) + b) + c) from by omega]
      omega
    · show (a + 32 * (b + 32 * (c + 32 * (d + 32 * 0)))) / 32768 % 32 = (27 * (27 * (27 * (27 * 0 + a) + b) + c) + d) / 1 % 27 ∧ 1 ≤ (a + 32 * (b + 32 * (c + 32 * (d + 32 * 0)))) / 32768 % 32
      rw [show (a + 32 * (b + 32 * (c + 32 * (d + 32 * 0)))) / 32768 = (d + 32 * 0) from by omega, show (27 * (27 * (27 * (27 * 0 + a) + b) + c) + d) / 1 = (27 * (27 * (27 * (27 * 0 + a) + b) + c) + d) from Nat.div_one _]
      omega
  · have hc : k = 4 := by omega
    rcases hc with rfl
    · show (a + 32 * (b + 32 * (c + 32 * (d + 32 * 0)))) / 1048576 % 32 = 0
      rw [show (a + 32 * (b + 32 * (c + 32 * (d + 32 * 0)))) / 1048576 = 0 from by omega]
theorem nm_5 {a b c d e k : Nat} (ha : 1 ≤ a ∧ a ≤ 26) (hb : 1 ≤ b ∧ b ≤ 26) (hc : 1 ≤ c ∧ c ≤ 26) (hd : 1 ≤ d ∧ d ≤ 26) (he : 1 ≤ e ∧ e ≤ 26) (hk : k < 2147483648) : (if iN k < 5 ∧ ¬ (iN (a + 32 * (b + 32 * (c + 32 * (d + 32 * (e + 32 * 0))))) >>> ((5 * iN k) &&& 31)) &&& 31 = 0 then (iN (a + 32 * (b + 32 * (c + 32 * (d + 32 * (e + 32 * 0))))) >>> ((5 * iN k) &&& 31)) &&& 31 else -2) = (if iN k < iN (nsz (iN (27 * (27 * (27 * (27 * (27 * 0 + a) + b) + c) + d) + e))) then iN (lOf (iN (27 * (27 * (27 * (27 * (27 * 0 + a) + b) + c) + d) + e)) k) else -2) := by
  refine nm_core (m := 5) (by omega) (by omega) (by rw [nsN_s he, nsN_s hd, nsN_s hc, nsN_s hb, nsN_s ha, nsN_0]) (by decide) (fun k hk => ?_) (fun k h1 h2 => ?_) hk
  · have hc : k = 0 ∨ k = 1 ∨ k = 2 ∨ k = 3 ∨ k = 4 := by omega
    rcases hc with rfl | rfl | rfl | rfl | rfl
    · show (a + 32 * (b + 32 * (c + 32 * (d + 32 * (e + 32 * 0))))) / 1 % 32 = (27 * (27 * (27 * (27 * (27 * 0 + a) + b) + c) + d) + e) / 531441 % 27 ∧ 1 ≤ (a + 32 * (b + 32 * (c + 32 * (d + 32 * (e + 32 * 0))))) / 1 % 32
      rw [show (a + 32 * (b + 32 * (c + 32 * (d + 32 * (e + 32 * 0))))) / 1 = (a + 32 * (b + 32 * (c + 32 * (d + 32 * (e + 32 * 0))))) from Nat.div_one _, show (27 * (27 * (27 * (27 * (27 * 0 + a) + b) + c) + d) + e) / 531441 = (27 * 0 + a) from by omega]
      omega
    · show (a + 32 * (b + 32 * (c + 32 * (d + 32 * (e + 32 * 0))))) / 32 % 32 = (27 * (27 * (27 * (27 * (27 * 0 + a) + b) + c) + d) + e) / 19683 % 27 ∧ 1 ≤ (a + 32 * (b + 32 * (c + 32 * (d + 32 * (e + 32 * 0))))) / 32 % 32
      rw [show (a + 32 * (b + 32 * (c + 32 * (d + 32 * (e + 32 * 0))))) / 32 = (b + 32 * (c + 32 * (d + 32 * (e + 32 * 0)))) from by omega, show (27 * (27 * (27 * (27 * (27 * 0 + a) + b) + c) + d) + e) / 19683 = (27 * (27 * 0 + a) + b) from by omega]
      omega
    · show (a + 32 * (b + 32 * (c + 32 * (d + 32 * (e + 32 * 0))))) / 1024 % 32 = (27 * (27 * (27 * (27 * (27 * 0 + a) + b) + c) + d) + e) / 729 % 27 ∧ 1 ≤ (a + 32 * (b + 32 * (c + 32 * (d + 32 * (e + 32 * 0))))) / 1024 % 32
      rw [show (a + 32 * (b + 32 * (c + 32 * (d + 32 * (e + 32 * 0))))) / 1024 = (c + 32 * (d + 32 * (e + 32 * 0))) from by omega, show (27 * (27 * (27 * (27 * (27 * 0 + a) + b) + c) + d) + e) / 729 = (27 * (27 * (27 * 0 + a) + b) + c) from by omega]
      omega
    · show (a + 32 * (b + 32 * (c + 32 * (d + 32 * (e + 32 * 0))))) / 32768 % 32 = (27 * (27 * (27 * (27 * (27 * 0 + a) + b) + c) + d) + e) / 27 % 27 ∧ 1 ≤ (a + 32 * (b + 32 * (c + 32 * (d + 32 * (e + 32 * 0))))) / 32768 % 32
      rw [show (a + 32 * (b + 32 * (c + 32 * (d + 32 * (e + 32 * 0))))) / 32768 = (d + 32 * (e + 32 * 0)) from by omega, show (27 * (27 * (27 * (27 * (27 * 0 + a) + b) + c) + d) + e) / 27 = (27 * (27 * (27 * (27 * 0 + a) + b) + c) + d) from by omega]
      omega
    · show (a + 32 * (b + 32 * (c + 32 * (d + 32 * (e + 32 * 0))))) / 1048576 % 32 = (27 * (27 * (27 * (27 * (27 * 0 + a) + b) + c) + d) + e) / 1 % 27 ∧ 1 ≤ (a + 32 * (b + 32 * (c + 32 * (d + 32 * (e + 32 * 0))))) / 1048576 % 32
      rw [show (a + 32 * (b + 32 * (c + 32 * (d + 32 * (e + 32 * 0))))) / 1048576 = (e + 32 * 0) from by omega, show (27 * (27 * (27 * (27 * (27 * 0 + a) + b) + c) + d) + e) / 1 = (27 * (27 * (27 * (27 * (27 * 0 + a) + b) + c) + d) + e) from Nat.div_one _]
      omega
  · omega
theorem nm_let {c r : Int32} (h : nmR c r) {k : Nat} (hk : k < 2147483648) : (if iN k < 5 ∧ ¬ (c >>> ((5 * iN k) &&& 31)) &&& 31 = 0 then (c >>> ((5 * iN k) &&& 31)) &&& 31 else -2) = (if iN k < iN (nsz r) then iN (lOf r k) else -2) := by
  obtain ⟨l, hl, hx, rfl, rfl⟩ := h
  match l, hl, hx with
  | [], hl, _ => exact absurd hl.1 (by decide)
  | [a], _, hx => exact nm_1 (hx a (by simp)) hk
  | [a, b], _, hx => exact nm_2 (hx a (by simp)) (hx b (by simp)) hk
  | [a, b, c], _, hx => exact nm_3 (hx a (by simp)) (hx b (by simp)) (hx c (by simp)) hk
  | [a, b, c, d], _, hx => exact nm_4 (hx a (by simp)) (hx b (by simp)) (hx c (by simp)) (hx d (by simp)) hk
  | [a, b, c, d, e], _, hx => exact nm_5 (hx a (by simp)) (hx b (by simp)) (hx c (by simp)) (hx d (by simp)) (hx e (by simp)) hk
  | a :: b :: c :: d :: e :: f :: l, hl, _ => exact absurd hl.2 (by simp)
