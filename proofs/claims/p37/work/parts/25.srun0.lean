section
/-! THE LAW RUN BY THE KERNEL -/
theorem sr_first : sm_run (s_stop sh0 sKL) sc_meth 6000 (s_env 2147483648 2147486720 2147483648 2147483711) (271, 0, sc_meth 271, [4295967296, sUNS, sUNS, sUNS, sUNS, sUNS, sUNS, sUNS], []) [] (fun _ => (0, 0, fun _ => 0), 0, 0) = true := by decide +kernel
end
section
-- text 1
/-! THE G MACHINE: what must hold for a piece of code to come to its end with what is asked (a weakest precondition), over a heap whose shape is the loop head's and whose whole numbers are told by place and index -/
abbrev gS : Type := Nat → Nat → Int32
abbrev gK : Type := Option Value → gS → Prop
abbrev gL : Type := List (Option Value)
def gup (σ : gS) (a k : Nat) (x : Int32) : gS := fun b j => if b = a ∧ j = k then x else σ b j
noncomputable def gkd (a : Nat) : Nat := (sh0.1 a).1
noncomputable def gln (a : Nat) : Nat := (sh0.1 a).2.1
noncomputable def gct (a k : Nat) : Nat := (sh0.1 a).2.2 k
/-- the place that a field or an array's cell holds -/
noncomputable def gpl (a k : Nat) : Nat := Nat.mod (gct a k) 4294967296
/-- is it a field of whole numbers? -/
def gfi (c k : Nat) : Bool := match jv_fty c k with
  | .int => true
  | .boolean => true
  | _ => false
def gvl (f : Nat → Int32) (a c k : Nat) (v : Value) : Prop := cond (gfi c k) (v = .int (f k)) (cond (s_isR (gct a k)) (v = .ref (gpl a k)) True)
def gCk (f : Nat → Int32) (a : Nat) (x : jv_E) : Prop := match x with
  | .inl (ty, n, g) => gkd a = ty ∧ ty < 2 ∧ gln a = n ∧ ∀ i, i < n → g i = f i
  | .inr (.inl (ty, n, g)) => gkd a = ty ∧ (ty = 2 ∨ ty = 3) ∧ gln a = n ∧ ∀ i, i < n → g i = some (gpl a i)
  | .inr (.inr (d, fs)) => gkd a = 16 + d ∧ gln a = fs.length ∧ ∀ (i : Nat) (v : Value), fs[i]? = some v → gvl f a d i v
/-- the script's numbers are told as place 1000000's, its length as place 1000001's first -/
def gRel (L : Nat) (xs : Nat → Int32) (σ : gS) (h : jv_H) : Prop := h.2.1 = 332 ∧ h.2.2 = 13058 ∧ (h.1 1000000 = .inl (9, L, xs) ∧ L < 2147483648 ∧ σ 1000001 0 = Int32.ofNat L ∧ ∀ i, i < L → xs i = σ 1000000 i) ∧ ∀ a, a < 332 → gCk (σ a) a (h.1 a)
/-- from here the method comes to its end, with an answer and a heap of which K holds -/
def gE (y pc : Nat) (Lv : gL) (st : List Value) (σ : gS) (K : gK) : Prop := ∀ (L : Nat) (xs : Nat → Int32) (h : jv_H), gRel L xs σ h → ∃ (r : Option Value) (h' : jv_H) (σ' : gS), jv_ev y pc Lv st h (r, h') ∧ gRel L xs σ' h' ∧ K r σ'
/-- calls: of a method with a whole number, with nothing, with a place as its answer -/
def gXi (z : Nat) (Lv : gL) (σ : gS) (K : Int32 → gS → Prop) : Prop := gE z 0 Lv [] σ (fun r σ1 => ∃ x, r = some (.int x) ∧ K x σ1)
def gXv (z : Nat) (Lv : gL) (σ : gS) (K : gS → Prop) : Prop := gE z 0 Lv [] σ (fun r σ1 => r = none ∧ K σ1)
def gXr (z : Nat) (Lv : gL) (σ : gS) (K : Nat → gS → Prop) : Prop := gE z 0 Lv [] σ (fun r σ1 => ∃ p, r = some (.ref p) ∧ K p σ1)
noncomputable def gmem (l : List Nat) (x : Nat) : Bool := List.rec (motive := fun _ => Bool) false (fun a _ ih => cond (Nat.beq a x) true ih) l
noncomputable def gnth (l : gL) : Nat → Option Value := List.rec (motive := fun _ => Nat → Option Value) (fun _ => none) (fun a _ ih i => Nat.rec (motive := fun _ => Option Value) a (fun j _ => ih j) i) l
noncomputable def gset (l : gL) : Nat → Value → gL := List.rec (motive := fun _ => Nat → Value → gL) (fun _ _ => []) (fun a t ih i v => Nat.rec (motive := fun _ => gL) (some v :: t) (fun j _ => a :: ih j v) i) l
/-- a word of a number's code -/
def gnm (a : Nat) : Int32 := cond (Nat.blt a 2147483648) (Int32.ofNat a) (-(Int32.ofNat (4294967296 - a)))
abbrev gC : Type := gL → List Value → gS → Prop
section GOP
variable (a b : Nat) (Lv : gL) (st : List Value) (σ : gS) (k : gC)
def go_const : Prop := k Lv (.int (gnm a) :: st) σ
def go_ref : Prop := k Lv (.ref (a - sREF) :: st) σ
noncomputable def go_iload : Prop := match gnth Lv a with
  | some (.int x) => k Lv (.int x :: st) σ
  | _ => False
noncomputable def go_aload : Prop := match gnth Lv a with
  | some (.ref x) => k Lv (.ref x :: st) σ
  | _ => False
/-- no long word stands before local a -/
noncomputable def gfree : Bool := Nat.blt a Lv.length && (Nat.rec (motive := fun _ => Bool) true (fun j _ => match gnth Lv j with
  | some (.int _) => true
  | some (.ref _) => true
  | none => true
  | _ => false) a)
noncomputable def go_istore : Prop := match st with
  | .int x :: r => cond (gfree a Lv) (k (gset Lv a (.int x)) r σ) False
  | _ => False
noncomputable def go_astore : Prop := match st with
  | .ref x :: r => cond (gfree a Lv) (k (gset Lv a (.ref x)) r σ) False
  | _ => False
noncomputable def go_iinc : Prop := match gnth Lv a with
  | some (.int x) => cond (gfree a Lv) (k (gset Lv a (.int (x + gnm b))) st σ) False
  | _ => False
/-- a Traveller's place -/
def gTv (p : Nat) : Prop := p < 332 ∧ gkd p = 22
/-- the place p is of class c (a Traveller's place may be told by a number that is not known) -/
noncomputable def gcl (c p : Nat) (P : Prop) : Prop := cond (Nat.beq c 6) (gTv p ∧ P) (cond (Nat.blt p 332 && Nat.beq (gkd p) (16 + c)) P False)
noncomputable def go_getf : Prop := match st with
  | .ref p :: r => cond (Nat.blt b (jv_fn a) && Nat.blt a 9) (cond (gfi a b) (gcl a p (k Lv (.int (σ p b) :: r) σ)) (gcl a p (cond (s_isR (gct p b)) (k Lv (.ref (gpl p b) :: r) σ) False))) False
  | _ => False
noncomputable def go_putf : Prop := match st with
  | .int x :: .ref p :: r => cond (Nat.blt b (jv_fn a) && (Nat.blt a 9 && gfi a b)) (gcl a p (k Lv r (gup σ p b x))) False
  | _ => False
noncomputable def go_putz : Prop := match st with
  | .int x :: .ref p :: r => cond (Nat.blt b (jv_fn a) && (Nat.blt a 9 && gfi a b)) ((x = 0 ∨ x = 1) ∧ gcl a p (k Lv r (gup σ p b x))) False
  | _ => False
def go_two (f : Int32 → Int32 → Int32) : Prop := match st with
  | .int v :: .int x :: r => k Lv (.int (f x v) :: r) σ
  | _ => False
def go_div (f : Int32 → Int32 → Int32) : Prop := match st with
  | .int v :: .int x :: r => v ≠ 0 ∧ k Lv (.int (f x v) :: r) σ
  | _ => False
def go_neg : Prop := match st with
  | .int x :: r => k Lv (.int (-x) :: r) σ
  | _ => False
noncomputable def go_iald (kd : Nat) : Prop := match st with
  | .int i :: .ref p :: r => cond (Nat.blt p 332 && Nat.beq (gkd p) kd) ((0 ≤ i ∧ i < Int32.ofNat (gln p)) ∧ k Lv (.int (σ p i.toNatClampNeg) :: r) σ) False
  | _ => False
/-- of the script, in the law alone -/
noncomputable def go_sald (y : Nat) : Prop := match st with
  | .int i :: .ref p :: r => cond (Nat.beq p 1000000 && Nat.beq y 271) ((0 ≤ i ∧ i < σ 1000001 0) ∧ k Lv (.int (σ 1000000 i.toNatClampNeg) :: r) σ) (go_iald Lv st σ k 0)
  | _ => False
noncomputable def go_aald : Prop := match st with
  | .int i :: .ref p :: r => cond (Nat.blt p 332 && (Nat.beq (gkd p) 2 || Nat.beq (gkd p) 3)) ((0 ≤ i ∧ i < Int32.ofNat (gln p)) ∧ k Lv (.ref (gpl p i.toNatClampNeg) :: r) σ) False
  | _ => False
noncomputable def go_iast : Prop := match st with
  | .int x :: .int i :: .ref p :: r => cond (Nat.blt p 332 && Nat.beq (gkd p) 0) ((0 ≤ i ∧ i < Int32.ofNat (gln p)) ∧ k Lv r (gup σ p i.toNatClampNeg x)) False
  | _ => False
noncomputable def go_bast : Prop := match st with
  | .int x :: .int i :: .ref p :: r => cond (Nat.blt p 332 && Nat.beq (gkd p) 1) (((0 ≤ i ∧ i < Int32.ofNat (gln p)) ∧ (x = 0 ∨ x = 1)) ∧ k Lv r (gup σ p i.toNatClampNeg x)) False
  | _ => False
noncomputable def go_alen (y : Nat) : Prop := match st with
  | .ref p :: r => cond (Nat.beq p 1000000 && Nat.beq y 271) (k Lv (.int (σ 1000001 0) :: r) σ) (cond (Nat.blt p 332 && Nat.blt (gkd p) 4) (k Lv (.int (Int32.ofNat (gln p)) :: r) σ) False)
  | _ => False
def go_dup : Prop := match st with
  | .int x :: r => k Lv (.int x :: .int x :: r) σ
  | .ref x :: r => k Lv (.ref x :: .ref x :: r) σ
  | _ => False
def go_dup2 : Prop := match st with
  | .int x :: .ref p :: r => k Lv (.int x :: .ref p :: .int x :: .ref p :: r) σ
  | _ => False
def go_pop : Prop := match st with
  | .int _ :: r => k Lv r σ
  | .ref _ :: r => k Lv r σ
  | _ => False
def g1 (l : List Value) : Bool := match l with
  | [] => true
  | .int _ :: r => g1 r
  | .ref _ :: r => g1 r
  | _ => false
noncomputable def go_slen : Prop := match st with
  | .ref p :: r => cond (g1 r && Nat.ble r.length 8) (match jv_tix p with
    | some i => k Lv (.int (Int32.ofNat (jv_byt.getD i []).length) :: r) σ
    | none => False) False
  | _ => False
noncomputable def go_sat : Prop := match st with
  | .int j :: .ref p :: r => cond (g1 r && Nat.ble r.length 8) (match jv_tix p with
    | some i => (0 ≤ j ∧ j < Int32.ofNat (jv_byt.getD i []).length) ∧ k Lv (.int ((jv_byt.getD i []).getD j.toNatClampNeg 0) :: r) σ
    | none => False) False
  | _ => False
end GOP
abbrev gJ : Type := Nat → gL → List Value → gS → Prop
section GJP
variable (a b : Nat) (Lv : gL) (st : List Value) (σ : gS) (k : gC) (j : gJ)
/-- a branch -/
def gbr (x v : Int32) (A B : Prop) : Prop :=
  cond (Nat.beq a 0) ((x = v → A) ∧ (¬ x = v → B)) (cond (Nat.beq a 1) ((¬ x = v → A) ∧ (x = v → B)) (cond (Nat.beq a 2) ((x < v → A) ∧ (¬ x < v → B)) (cond (Nat.beq a 3) ((¬ x < v → A) ∧ (x < v → B)) (cond (Nat.beq a 4) ((v < x → A) ∧ (¬ v < x → B)) ((¬ v < x → A) ∧ (v < x → B))))))
def go_if : Prop := match st with
  | .int x :: r => gbr a x 0 (j b Lv r σ) (k Lv r σ)
  | _ => False
def go_icmp : Prop := match st with
  | .int v :: .int x :: r => gbr a x v (j b Lv r σ) (k Lv r σ)
  | _ => False
def gsw (x : Int32) (r : List Value) (d : Nat) (ps : List (Int32 × Nat)) : Prop := match ps with
  | [] => j d Lv r σ
  | q :: ps => (x = q.1 → j q.2 Lv r σ) ∧ (¬ x = q.1 → gsw x r d ps)
/-- the table's words and targets -/
def gtabl (pc lo : Int) (offs : List Int) : List (Int32 × Nat) := match offs with
  | [] => []
  | o :: t => (Int32.ofInt lo, (pc + o).toNat) :: gtabl pc (lo + 1) t
def go_tab (y : Nat) : Prop := match st with
  | .int x :: r => match jv_code y a with
    | some (.tableswitch d lo hi offs, _) => lo + offs.toList.length = hi + 1 ∧ gsw Lv σ j x r ((a : Int) + d).toNat (gtabl a lo offs.toList)
    | _ => False
  | _ => False
def go_lsw (y : Nat) : Prop := match st with
  | .int x :: r => match jv_code y a with
    | some (.lookupswitch d ps, _) => gsw Lv σ j x r ((a : Int) + d).toNat (ps.toList.map (fun p => (Int32.ofInt p.1, ((a : Int) + p.2).toNat)))
    | _ => False
  | _ => False
/-- minus, shift to the left, or -/
def go_51 (y pc : Nat) : Prop := match jv_code y pc with
  | some (.ineg, _) => go_neg Lv st σ k
  | some (.ishl, _) => go_two Lv st σ k (fun x v => x <<< (v &&& 31))
  | some (.ior, _) => go_two Lv st σ k (fun x v => x ||| v)
  | _ => False
end GJP
abbrev gR : Type := Nat → Nat → List sI → gL → List Value → gS → gK → Prop
noncomputable def gtk (l : List Value) : Nat → List Value := List.rec (motive := fun _ => Nat → List Value) (fun _ => []) (fun x _ ih n => Nat.rec (motive := fun _ => List Value) [] (fun m _ => x :: ih m) n) l
noncomputable def gdr (l : List Value) : Nat → List Value := List.rec (motive := fun _ => Nat → List Value) (fun _ => []) (fun x t ih n => Nat.rec (motive := fun _ => List Value) (x :: t) (fun m _ => ih m) n) l
noncomputable def grv (l : List Value) : gL → gL := List.rec (motive := fun _ => gL → gL) (fun acc => acc) (fun x _ ih acc => ih (some x :: acc)) l
noncomputable def gno (n : Nat) : gL := Nat.rec (motive := fun _ => gL) [] (fun _ ih => none :: ih) n
noncomputable def gnv (l : List Value) : Nat → Option Value := List.rec (motive := fun _ => Nat → Option Value) (fun _ => none) (fun a _ ih i => Nat.rec (motive := fun _ => Option Value) (some a) (fun j _ => ih j) i) l
def gret (z : Nat) : Nat := match (jv_ym z).2.2 with
  | none => 0
  | some .int => 1
  | some .boolean => 1
  | _ => 2
/-- methods whose meaning is known: what they ask, what they answer, the heap behind them -/
abbrev gP : Type := Nat → gL → gS → Option (Option Prop × Option Value × gS)
def gan (c : Option Prop) (P : Prop) : Prop := match c with
  | none => P
  | some Q => Q ∧ P
def gpf0 : gP := fun _ _ _ => none
section GW
variable (run : gR) (cy : Nat) (cuts inl : List Nat) (pf : gP)
noncomputable def grc (b : Nat) (st : List Value) (P : Prop) : Prop := cond (Nat.beq (b / 1024) 0) P (match gnv st (b % 16 - 1) with
  | some (.ref p) => gcl (b / 1024 - 1) p P
  | _ => False)
noncomputable def go_call (a b : Nat) (Lv : gL) (st : List Value) (σ : gS) (k : gC) : Prop :=
  cond (g1 st && (Nat.ble (b % 16) st.length && (Nat.ble st.length (b % 16 + 8) && Nat.blt (b / 1024) 10))) (grc b st
    (match pf a (grv (gtk st (b % 16)) (gno (b / 16 % 64 - b % 16))) σ with
    | some q => gan q.1 (match q.2.1 with
      | none => k Lv (gdr st (b % 16)) q.2.2
      | some v => k Lv (v :: gdr st (b % 16)) q.2.2)
    | none => cond (gmem inl a) (run a 0 (sc_meth a) (grv (gtk st (b % 16)) (gno (b / 16 % 64 - b % 16))) [] σ (fun r σ1 => match r with
      | none => k Lv (gdr st (b % 16)) σ1
      | some v => k Lv (v :: gdr st (b % 16)) σ1))
      (cond (Nat.beq (gret a) 0) (gXv a (grv (gtk st (b % 16)) (gno (b / 16 % 64 - b % 16))) σ (fun σ1 => k Lv (gdr st (b % 16)) σ1))
      (cond (Nat.beq (gret a) 1) (gXi a (grv (gtk st (b % 16)) (gno (b / 16 % 64 - b % 16))) σ (fun x σ1 => k Lv (.int x :: gdr st (b % 16)) σ1))
      (gXr a (grv (gtk st (b % 16)) (gno (b / 16 % 64 - b % 16))) σ (fun p σ1 => k Lv (.ref p :: gdr st (b % 16)) σ1)))))) False
def go_vret (st : List Value) (σ : gS) (K : gK) : Prop := match st with
  | [] => K none σ
  | _ => False
def go_ret (st : List Value) (σ : gS) (K : gK) : Prop := match st with
  | [.int x] => K (some (.int x)) σ
  | _ => False
def go_zret (st : List Value) (σ : gS) (K : gK) : Prop := match st with
  | [.int x] => (x = 0 ∨ x = 1) ∧ K (some (.int x)) σ
  | _ => False
def go_aret (st : List Value) (σ : gS) (K : gK) : Prop := match st with
  | [.ref x] => K (some (.ref x)) σ
  | _ => False
/-- on, or stop at a cut -/
noncomputable def gon (y pc : Nat) (t : List sI) (Lv : gL) (st : List Value) (σ : gS) (K : gK) : Prop := cond (Nat.beq y cy && gmem cuts pc) (gE y pc Lv st σ K) (run y pc t Lv st σ K)
noncomputable def gjp (y : Nat) (K : gK) : gJ := fun tgt Lv st σ => match s_find (sc_meth y) 0 tgt with
  | some l => gon run cy cuts y tgt l Lv st σ K
  | none => False
noncomputable def gop (y pc : Nat) (op a b : Nat) (Lv : gL) (st : List Value) (σ : gS) (K : gK) (k : gC) (j : gJ) : Prop := (cond (Nat.blt op 26) (cond (Nat.blt op 13) (cond (Nat.blt op 6) (cond (Nat.blt op 3) (cond (Nat.blt op 1) (go_const a Lv st σ k) (cond (Nat.blt op 2) (go_iload a Lv st σ k) (go_aload a Lv st σ k))) (cond (Nat.blt op 4) False (cond (Nat.blt op 5) (go_istore a Lv st σ k) (go_astore a Lv st σ k)))) (cond (Nat.blt op 9) (cond (Nat.blt op 7) False (cond (Nat.blt op 8) (go_iinc a b Lv st σ k) (go_getf a b Lv st σ k))) (cond (Nat.blt op 11) (cond (Nat.blt op 10) (go_putf a b Lv st σ k) (go_putz a b Lv st σ k)) (cond (Nat.blt op 12) False (j a Lv st σ))))) (cond (Nat.blt op 19) (cond (Nat.blt op 16) (cond (Nat.blt op 14) (go_if a b Lv st σ k j) (cond (Nat.blt op 15) (go_icmp a b Lv st σ k j) (go_two Lv st σ k (fun x v => x + v)))) (cond (Nat.blt op 17) (go_two Lv st σ k (fun x v => x - v)) (cond (Nat.blt op 18) (go_two Lv st σ k (fun x v => x * v)) (go_div Lv st σ k (fun x v => x / v))))) (cond (Nat.blt op 22) (cond (Nat.blt op 20) (go_div Lv st σ k (fun x v => x - x / v * v)) (cond (Nat.blt op 21) (go_two Lv st σ k (fun x v => x &&& v)) (go_two Lv st σ k (fun x v => x >>> (v &&& 31))))) (cond (Nat.blt op 24) (cond (Nat.blt op 23) (go_two Lv st σ k (fun x v => x ^^^ v)) (go_sald Lv st σ k y)) (cond (Nat.blt op 25) (go_iald Lv st σ k 1) (go_aald Lv st σ k)))))) (cond (Nat.blt op 39) (cond (Nat.blt op 32) (cond (Nat.blt op 29) (cond (Nat.blt op 27) (go_iast Lv st σ k) (cond (Nat.blt op 28) (go_bast Lv st σ k) False)) (cond (Nat.blt op 30) (go_alen Lv st σ k y) False)) (cond (Nat.blt op 35) (cond (Nat.blt op 33) False (cond (Nat.blt op 34) (go_dup Lv st σ k) (go_dup2 Lv st σ k))) (cond (Nat.blt op 37) (cond (Nat.blt op 36) (go_pop Lv st σ k) (go_call run inl pf a b Lv st σ k)) (cond (Nat.blt op 38) False (go_slen Lv st σ k))))) (cond (Nat.blt op 45) (cond (Nat.blt op 42) (cond (Nat.blt op 40) (go_sat Lv st σ k) (cond (Nat.blt op 41) (go_vret st σ K) (go_ret st σ K))) (cond (Nat.blt op 43) (go_zret st σ K) (cond (Nat.blt op 44) (go_aret st σ K) False))) (cond (Nat.blt op 48) (cond (Nat.blt op 46) False (cond (Nat.blt op 47) (go_tab a Lv st σ j y) False)) (cond (Nat.blt op 50) (cond (Nat.blt op 49) (go_const a Lv st σ k) (go_ref a Lv st σ k)) (cond (Nat.blt op 51) (go_lsw a Lv st σ j y) (go_51 Lv st σ k y pc)))))))
noncomputable def gbody : gR := fun y pc t Lv st σ K => match t with
  | [] => False
  | e :: t => gop run inl pf y pc e.1 e.2.1 e.2.2.1 Lv st σ K (fun Lv st σ => gon run cy cuts y (pc + e.2.2.2) t Lv st σ K) (gjp run cy cuts y K)
end GW
noncomputable def gw (cy : Nat) (cuts inl : List Nat) (pf : gP) (n : Nat) : gR := Nat.rec (motive := fun _ => gR) (fun _ _ _ _ _ _ _ => False) (fun _ ih => gbody ih cy cuts inl pf) n
noncomputable def gwm (cy : Nat) (cuts inl : List Nat) (pf : gP) (n : Nat) (y pc : Nat) (Lv : gL) (st : List Value) (σ : gS) (K : gK) : Prop := match s_find (sc_meth y) 0 pc with
  | some l => gw cy cuts inl pf n y pc l Lv st σ K
  | none => False
-- text 2
/-! THE G MACHINE IS RIGHT -/
theorem gnm_eq {a : Nat} (h : a < sM) : gnm a = Int32.ofNat a := by
  unfold gnm
  have h2 : a < 4294967296 := h
  cases q : Nat.blt a 2147483648 with
  | true => rfl
  | false =>
    have h3 := b_nlt q
    show -(Int32.ofNat (4294967296 - a)) = Int32.ofNat a
    apply Int32.toBitVec.inj
    show -(BitVec.ofNat 32 (4294967296 - a)) = BitVec.ofNat 32 a
    apply BitVec.eq_of_toNat_eq
    simp only [BitVec.toNat_neg, BitVec.toNat_ofNat]
    omega
theorem gnth_ok : ∀ (l : gL) (i : Nat) (v : Value), gnth l i = some v → l[i]? = some (some v)
  | [], i, v, h => by cases h
  | x :: t, 0, v, h => by
    have h2 : x = some v := h
    rw [h2]
    rfl
  | x :: t, i + 1, v, h => by
    rw [List.getElem?_cons_succ]
    exact gnth_ok t i v h
theorem gnth_no : ∀ (l : gL) (i : Nat), gnth l i = none → l[i]? = some none ∨ l[i]? = none
  | [], i, h => Or.inr rfl
  | x :: t, 0, h => by
    have h2 : x = none := h
    rw [h2]
    exact Or.inl rfl
  | x :: t, i + 1, h => by
    rw [List.getElem?_cons_succ]
    exact gnth_no t i h
theorem gset_ok (v : Value) : ∀ (l : gL) (i : Nat), gset l i v = l.set i (some v)
  | [], i => rfl
  | x :: t, 0 => rfl
  | x :: t, i + 1 => by
    show x :: gset t i v = x :: t.set i (some v)
    rw [gset_ok v t i]
theorem gfree_ok {Lv : gL} {a : Nat} (v : Value) (h : gfree a Lv = true) : jv_set1 Lv a v = some (gset Lv a v) := by
  unfold gfree at h
  obtain ⟨h1, h2⟩ := s_and h
  have hlt := b_lt h1
  unfold jv_set1
  rw [if_pos hlt, gset_ok]
  cases a with
  | zero => rfl
  | succ j =>
    have h3 : (match gnth Lv j with
      | some (.int _) => true
      | some (.ref _) => true
      | none => true
      | _ => false) = true := h2
    have h4 : ¬ jv_cat2 Lv j = true := by
      refine jv_cat2_one (fun v hv => ?_)
      split at h3
      · rename_i q
        rw [gnth_ok _ _ _ q] at hv
        cases hv
        rfl
      · rename_i q
        rw [gnth_ok _ _ _ q] at hv
        cases hv
        rfl
      · rename_i q
        rcases gnth_no _ _ q with q | q
        · rw [q] at hv; cases hv
        · rw [q] at hv; cases hv
      · cases h3
    show (if jv_cat2 Lv j = true then none else some (Lv.set (j + 1) (some v))) = _
    rw [if_neg h4]
theorem gkd_far {p : Nat} (h : 332 ≤ p) : gkd p = 0 := by
  unfold gkd sh0
  show (s_at (0, 0, fun _ => 0) (s_at [] sh_all (p / 16)) (p % 16)).1 = 0
  rcases Nat.lt_or_ge p 336 with q | q
  · have : p = 332 ∨ p = 333 ∨ p = 334 ∨ p = 335 := by omega
    rcases this with rfl | rfl | rfl | rfl <;> rfl
  · have e : s_at [] sh_all (p / 16) = [] := by
      obtain ⟨m, hm⟩ : ∃ m, p / 16 = m + 21 := ⟨p / 16 - 21, by omega⟩
      rw [hm]
      rfl
    rw [e]
    rfl
theorem gln_ok : ∀ p, p < 332 → ∀ c, c < 9 → gkd p = 16 + c → gln p = jv_fn c := by decide +kernel
theorem gln_lt : ∀ p, p < 332 → gln p < 100000 := by decide +kernel
section GSND
variable {y pc : Nat} {i : Instr} {len : Nat} {t : List sI} {Lv : gL} {st : List Value} {σ : gS} {K : gK} {k : gC} {j : gJ} {a b : Nat}
theorem gE_step (hy : y < 272) (hcode : jv_code y pc = some (i, len)) (hR : jv_isR i = false) (hC : jv_isC i = none) {pc' : Nat} {Lv' : gL} {st' : List Value} {σ' : gS} (hs : ∀ (L : Nat) (xs : Nat → Int32) (h : jv_H), gRel L xs σ h → ∃ h1, jv_step (sow y) (sini y) i len pc Lv st h = some (pc', Lv', st', h1) ∧ gRel L xs σ' h1) (hg : gE y pc' Lv' st' σ' K) : gE y pc Lv st σ K := by
  intro L xs h hh
  obtain ⟨h1, h2, h3⟩ := hs L xs h hh
  obtain ⟨r, h', σ2, h4, h5, h6⟩ := hg L xs h1 h3
  obtain ⟨ow, kd, na, mL, fr, lo, hinf, e1, e2⟩ := s_inf hy
  rw [e1, e2] at h2
  exact ⟨r, h', σ2, jv_ev_step (fun n => jv_run_step hinf hcode hR hC h2) h4, h5, h6⟩
/-- what each operation's row takes: the method, the instruction there, what holds behind it -/
def gA (y pc : Nat) (i : Instr) (len : Nat) (K : gK) (k : gC) : Prop := y < 272 ∧ jv_code y pc = some (i, len) ∧ ∀ Lv st σ, k Lv st σ → gE y (pc + len) Lv st σ K
theorem gA_go (A : gA y pc i len K k) (hR : jv_isR i = false) (hC : jv_isC i = none) {Lv' : gL} {st' : List Value} {σ' : gS} (hs : ∀ (L : Nat) (xs : Nat → Int32) (h : jv_H), gRel L xs σ h → ∃ h1, jv_step (sow y) (sini y) i len pc Lv st h = some (pc + len, Lv', st', h1) ∧ gRel L xs σ' h1) (hk : k Lv' st' σ') : gE y pc Lv st σ K :=
  gE_step A.1 A.2.1 hR hC hs (A.2.2 _ _ _ hk)
theorem gA_pure (A : gA y pc i len K k) (hR : jv_isR i = false) (hC : jv_isC i = none) {st' : List Value} (hs : jv_pure i st = some st') (hk : k Lv st' σ) : gE y pc Lv st σ K :=
  gA_go A hR hC (fun L xs h hh => ⟨h, st_pure hs, hh⟩) hk
theorem gk_const (A : gA y pc i len K k) (hs : sk_const i a = true) (hr : go_const a Lv st σ k) : gE y pc Lv st σ K := by
  unfold go_const at hr
  unfold sk_const at hs
  split at hs
  · obtain ⟨h1, h2⟩ := of_decide_eq_true hs
    rw [gnm_eq h2, ← h1] at hr
    exact gA_pure A rfl rfl rfl hr
  · obtain ⟨h1, h2⟩ := of_decide_eq_true hs
    rw [gnm_eq h2, ← h1] at hr
    exact gA_pure A rfl rfl rfl hr
  · obtain ⟨h1, h2⟩ := of_decide_eq_true hs
    rw [gnm_eq h2, ← h1] at hr
    exact gA_pure A rfl rfl rfl hr
  · cases hs
theorem gk_ldc {kd : Nat} (A : gA y pc i len K k) (hkd : kd = 0) (hs : sk_ldc y i a kd = true) (hr : go_const a Lv st σ k) : gE y pc Lv st σ K := by
  unfold go_const at hr
  unfold sk_ldc at hs
  split at hs
  · rename_i idx
    split at hs
    · rename_i w hl
      obtain ⟨h1, h2⟩ := of_decide_eq_true hs
      rw [gnm_eq h2, ← h1] at hr
      refine gA_go A rfl rfl (fun L xs h hh => ⟨h, st_heap rfl rfl rfl rfl ?_, hh⟩) hr
      show (match jv_ldc (sow y) idx with
        | some v => some (v :: st, h)
        | none => none) = _
      rw [hl]
    · cases hkd
    · cases hs
  · cases hs
theorem gk_ldr {kd : Nat} (A : gA y pc i len K k) (hkd : kd = 1) (hs : sk_ldc y i a kd = true) (hr : go_ref a Lv st σ k) : gE y pc Lv st σ K := by
  unfold go_ref at hr
  unfold sk_ldc at hs
  split at hs
  · rename_i idx
    split at hs
    · cases hkd
    · rename_i p hl
      obtain ⟨h1, h2⟩ := of_decide_eq_true hs
      have e : a - sREF = p := by rw [h1]; exact Nat.add_sub_cancel_left ..
      rw [e] at hr
      refine gA_go A rfl rfl (fun L xs h hh => ⟨h, st_heap rfl rfl rfl rfl ?_, hh⟩) hr
      show (match jv_ldc (sow y) idx with
        | some v => some (v :: st, h)
        | none => none) = _
      rw [hl]
    · cases hs
  · cases hs
theorem gk_iload (A : gA y pc i len K k) (hs : sk_iload i a = true) (hr : go_iload a Lv st σ k) : gE y pc Lv st σ K := by
  unfold go_iload at hr
  split at hr
  · rename_i x hq
    have hv := gnth_ok _ _ _ hq
    have e : jv_ldI Lv a st = some (.int x :: st) := by unfold jv_ldI; rw [hv]
    unfold sk_iload at hs
    split at hs
    · have h2 := of_decide_eq_true hs
      exact gA_go A rfl rfl (fun L xs h hh => ⟨h, st_ld rfl (by rw [← h2] at e; exact e), hh⟩) hr
    · have h2 := of_decide_eq_true hs
      exact gA_go A rfl rfl (fun L xs h hh => ⟨h, st_ld rfl (by rw [← h2] at e; exact e), hh⟩) hr
    · cases hs
  · exact hr.elim
theorem gk_aload (A : gA y pc i len K k) (hs : sk_aload i a = true) (hr : go_aload a Lv st σ k) : gE y pc Lv st σ K := by
  unfold go_aload at hr
  split at hr
  · rename_i x hq
    have hv := gnth_ok _ _ _ hq
    have e : jv_ldA Lv a st = some (.ref x :: st) := by unfold jv_ldA; rw [hv]
    unfold sk_aload at hs
    split at hs
    · have h2 := of_decide_eq_true hs
      exact gA_go A rfl rfl (fun L xs h hh => ⟨h, st_ld rfl (by rw [← h2] at e; exact e), hh⟩) hr
    · have h2 := of_decide_eq_true hs
      exact gA_go A rfl rfl (fun L xs h hh => ⟨h, st_ld rfl (by rw [← h2] at e; exact e), hh⟩) hr
    · cases hs
  · exact hr.elim
theorem gk_istore (A : gA y pc i len K k) (hs : sk_istore i a = true) (hr : go_istore a Lv st σ k) : gE y pc Lv st σ K := by
  unfold go_istore at hr
  split at hr
  · rename_i x r
    cases hq : gfree a Lv with
    | false => rw [hq] at hr; exact hr.elim
    | true =>
      rw [hq] at hr
      have e : jv_stI Lv a (.int x :: r) = some (gset Lv a (.int x), r) := by unfold jv_stI; simp only [gfree_ok _ hq]
      unfold sk_istore at hs
      split at hs
      · have h2 := of_decide_eq_true hs
        exact gA_go A rfl rfl (fun L xs h hh => ⟨h, st_sto rfl rfl rfl (by rw [← h2] at e; exact e), hh⟩) (by rw [h2]; exact hr)
      · have h2 := of_decide_eq_true hs
        exact gA_go A rfl rfl (fun L xs h hh => ⟨h, st_sto rfl rfl rfl (by rw [← h2] at e; exact e), hh⟩) (by rw [h2]; exact hr)
      · cases hs
  · exact hr.elim
theorem gk_astore (A : gA y pc i len K k) (hs : sk_astore i a = true) (hr : go_astore a Lv st σ k) : gE y pc Lv st σ K := by
  unfold go_astore at hr
  split at hr
  · rename_i x r
    cases hq : gfree a Lv with
    | false => rw [hq] at hr; exact hr.elim
    | true =>
      rw [hq] at hr
      have e : jv_stA Lv a (.ref x :: r) = some (gset Lv a (.ref x), r) := by unfold jv_stA; simp only [gfree_ok _ hq]
      unfold sk_astore at hs
      split at hs
      · have h2 := of_decide_eq_true hs
        exact gA_go A rfl rfl (fun L xs h hh => ⟨h, st_sto rfl rfl rfl (by rw [← h2] at e; exact e), hh⟩) (by rw [h2]; exact hr)
      · have h2 := of_decide_eq_true hs
        exact gA_go A rfl rfl (fun L xs h hh => ⟨h, st_sto rfl rfl rfl (by rw [← h2] at e; exact e), hh⟩) (by rw [h2]; exact hr)
      · cases hs
  · exact hr.elim
theorem gk_iinc (A : gA y pc i len K k) (hs : sk_iinc i a b = true) (hr : go_iinc a b Lv st σ k) : gE y pc Lv st σ K := by
  unfold go_iinc at hr
  split at hr
  · rename_i x hx
    have hv := gnth_ok _ _ _ hx
    cases hq : gfree a Lv with
    | false => rw [hq] at hr; exact hr.elim
    | true =>
      rw [hq] at hr
      unfold sk_iinc at hs
      split at hs
      · rename_i q n
        obtain ⟨rfl, hn, hb⟩ := of_decide_eq_true hs
        have hr : k (gset Lv q (.int (x + gnm b))) st σ := hr
        rw [gnm_eq hb, ← hn] at hr
        refine gA_go A rfl rfl (fun L xs h hh => ⟨h, st_sto rfl rfl rfl ?_, hh⟩) hr
        show (match Lv[q]? with
          | some (some (.int x)) => match jv_set1 Lv q (.int (x + Int32.ofInt n)) with
            | some L' => some (L', st)
            | none => none
          | _ => none) = _
        rw [hv]
        show (match jv_set1 Lv q (.int (x + Int32.ofInt n)) with
            | some L' => some (L', st)
            | none => none) = _
        rw [gfree_ok _ hq]
      · cases hs
  · exact hr.elim
theorem gk_two (A : gA y pc i len K k) {f : Int32 → Int32 → Int32} (hR : jv_isR i = false) (hC : jv_isC i = none) (hp : ∀ (x v : Int32) (r : List Value), jv_pure i (.int v :: .int x :: r) = some (.int (f x v) :: r)) (hr : go_two Lv st σ k f) : gE y pc Lv st σ K := by
  unfold go_two at hr
  split at hr
  · exact gA_pure A hR hC (hp _ _ _) hr
  · exact hr.elim
theorem gk_div (A : gA y pc i len K k) {f : Int32 → Int32 → Int32} (hR : jv_isR i = false) (hC : jv_isC i = none) (hp : ∀ (x v : Int32) (r : List Value), v ≠ 0 → jv_pure i (.int v :: .int x :: r) = some (.int (f x v) :: r)) (hr : go_div Lv st σ k f) : gE y pc Lv st σ K := by
  unfold go_div at hr
  split at hr
  · exact gA_pure A hR hC (hp _ _ _ hr.1) hr.2
  · exact hr.elim
theorem gk_neg (A : gA y pc .ineg len K k) (hr : go_neg Lv st σ k) : gE y pc Lv st σ K := by
  unfold go_neg at hr
  split at hr
  · exact gA_pure A rfl rfl rfl hr
  · exact hr.elim
theorem gk_dup (A : gA y pc i len K k) (hs : i = .dup) (hr : go_dup Lv st σ k) : gE y pc Lv st σ K := by
  subst hs
  unfold go_dup at hr
  split at hr
  · exact gA_pure A rfl rfl rfl hr
  · exact gA_pure A rfl rfl rfl hr
  · exact hr.elim
theorem gk_dup2 (A : gA y pc i len K k) (hs : i = .dup2) (hr : go_dup2 Lv st σ k) : gE y pc Lv st σ K := by
  subst hs
  unfold go_dup2 at hr
  split at hr
  · exact gA_pure A rfl rfl rfl hr
  · exact hr.elim
theorem gk_pop (A : gA y pc i len K k) (hs : i = .pop) (hr : go_pop Lv st σ k) : gE y pc Lv st σ K := by
  subst hs
  unfold go_pop at hr
  split at hr
  · exact gA_pure A rfl rfl rfl hr
  · exact gA_pure A rfl rfl rfl hr
  · exact hr.elim
theorem gcl_of {c p : Nat} {P : Prop} (hc : c < 9) (h : gcl c p P) : (p < 332 ∧ gkd p = 16 + c) ∧ P := by
  unfold gcl at h
  cases q : Nat.beq c 6 with
  | true =>
    rw [q] at h
    obtain ⟨⟨h1, h2⟩, h3⟩ := h
    exact ⟨⟨h1, by rw [b_eq q]; exact h2⟩, h3⟩
  | false =>
    rw [q] at h
    cases q2 : (Nat.blt p 332 && Nat.beq (gkd p) (16 + c)) with
    | true =>
      rw [q2] at h
      obtain ⟨h1, h2⟩ := s_and q2
      exact ⟨⟨b_lt h1, b_eq h2⟩, h⟩
    | false => rw [q2] at h; exact h.elim
theorem gCk_obj {f : Nat → Int32} {p c : Nat} {x : jv_E} (hc : gCk f p x) (hk : gkd p = 16 + c) : ∃ fs, x = .inr (.inr (c, fs)) ∧ gln p = fs.length ∧ ∀ (i : Nat) (v : Value), fs[i]? = some v → gvl f p c i v := by
  match x, hc with
  | .inl (ty, n, g), hc =>
    obtain ⟨e1, e2, -⟩ := hc
    omega
  | .inr (.inl (ty, n, g)), hc =>
    obtain ⟨e1, e2, -⟩ := hc
    omega
  | .inr (.inr (d, fs)), hc =>
    obtain ⟨e1, e2, e3⟩ := hc
    have : d = c := by omega
    subst this
    exact ⟨fs, rfl, e2, e3⟩
theorem gCk_arr {f : Nat → Int32} {p c : Nat} {x : jv_E} (hc : gCk f p x) (hk : gkd p = c) (hc2 : c < 2) : ∃ g, x = .inl (c, gln p, g) ∧ ∀ i, i < gln p → g i = f i := by
  match x, hc with
  | .inl (ty, n, g), hc =>
    obtain ⟨e1, e2, e3, e4⟩ := hc
    have : ty = c := by omega
    subst this
    subst e3
    exact ⟨g, rfl, e4⟩
  | .inr (.inl (ty, n, g)), hc =>
    obtain ⟨e1, e2, -⟩ := hc
    omega
  | .inr (.inr (d, fs)), hc =>
    obtain ⟨e1, e2, e3⟩ := hc
    omega
theorem gCk_rarr {f : Nat → Int32} {p c : Nat} {x : jv_E} (hc : gCk f p x) (hk : gkd p = c) (hc2 : c = 2 ∨ c = 3) : ∃ g, x = .inr (.inl (c, gln p, g)) ∧ ∀ i, i < gln p → g i = some (gpl p i) := by
  match x, hc with
  | .inl (ty, n, g), hc =>
    obtain ⟨e1, e2, e3, e4⟩ := hc
    omega
  | .inr (.inl (ty, n, g)), hc =>
    obtain ⟨e1, e2, e3, e4⟩ := hc
    have : ty = c := by omega
    subst this
    subst e3
    exact ⟨g, rfl, e4⟩
  | .inr (.inr (d, fs)), hc =>
    obtain ⟨e1, e2, e3⟩ := hc
    omega
theorem gRel_put {L : Nat} {xs : Nat → Int32} {h : jv_H} {p m : Nat} {w : Int32} {x : jv_E} (hh : gRel L xs σ h) (hp : p < 332) (hc : gCk (gup σ p m w p) p x) : gRel L xs (gup σ p m w) (jv_put h p x) := by
  obtain ⟨h1, h2, h3, h4⟩ := hh
  have hs : ∀ q, 332 ≤ q → gup σ p m w q = σ q := by
    intro q hq
    funext j
    unfold gup
    rw [if_neg (fun e => by omega)]
  refine ⟨h1, h2, ⟨?_, h3.2.1, by rw [hs _ (by decide)]; exact h3.2.2.1, by rw [hs _ (by decide)]; exact h3.2.2.2⟩, fun a ha => ?_⟩
  · show jv_up h.1 p x 1000000 = _
    unfold jv_up
    rw [if_neg (by omega)]
    exact h3.1
  · show gCk (gup σ p m w a) a (jv_up h.1 p x a)
    unfold jv_up
    by_cases q : a = p
    · rw [if_pos q, q]; exact hc
    · rw [if_neg q]
      have e : gup σ p m w a = σ a := by
        funext j
        unfold gup
        rw [if_neg (fun e => q e.1)]
      rw [e]
      exact h4 a ha
theorem gup_at (p m : Nat) (w : Int32) : gup σ p m w p m = w := by unfold gup; rw [if_pos ⟨rfl, rfl⟩]
theorem gup_ne {p m q n : Nat} {w : Int32} (h : ¬ (q = p ∧ n = m)) : gup σ p m w q n = σ q n := by unfold gup; rw [if_neg h]
end GSND
end
section
-- text 3
section GSND2
variable {y pc : Nat} {i : Instr} {len : Nat} {t : List sI} {Lv : gL} {st : List Value} {σ : gS} {K : gK} {k : gC} {j : gJ} {a b : Nat}
theorem c_fr {c : Bool} {P : Prop} (h : cond c P False) : c = true ∧ P := by
  cases c
  · exact h.elim
  · exact ⟨rfl, h⟩
theorem gk_getf (A : gA y pc i len K k) (hs : sk_getf y i a b = true) (hr : go_getf a b Lv st σ k) : gE y pc Lv st σ K := by
  unfold go_getf at hr
  split at hr
  · rename_i p r
    obtain ⟨hb, hr⟩ := c_fr hr
    obtain ⟨hb, ha⟩ := s_and hb
    have hb := b_lt hb
    have ha := b_lt ha
    unfold sk_getf at hs
    split at hs
    · rename_i idx
      have hfld := of_decide_eq_true hs
      have go : ∀ (v : Value), p < 332 ∧ gkd p = 16 + a → (∀ w, gvl (σ p) p a b w → w = v) → k Lv (v :: r) σ → gE y pc Lv (.ref p :: r) σ K := by
        intro v hp hv hk
        refine gA_go A rfl rfl (fun L xs h hh => ⟨h, st_heap rfl rfl rfl rfl ?_, hh⟩) hk
        obtain ⟨fs, hx, hlen, hf⟩ := gCk_obj (hh.2.2.2 p hp.1) hp.2
        have hlt : b < fs.length := by rw [← hlen, gln_ok p hp.1 a ha hp.2]; exact hb
        have hv2 := List.getElem?_eq_getElem hlt
        have e := hv _ (hf b _ hv2)
        show (match jv_get (sow y) idx (.ref p :: r) h with
          | some st' => some (st', h)
          | none => none) = _
        have e2 : jv_get (sow y) idx (.ref p :: r) h = some (v :: r) := by
          unfold jv_get
          simp only [hfld]
          rw [if_pos (by rw [hh.1]; exact hp.1)]
          simp only [hx]
          rw [if_pos trivial]
          simp only [hv2, e]
        rw [e2]
      cases q : gfi a b with
      | true =>
        rw [q] at hr
        obtain ⟨hp, hk⟩ := gcl_of ha hr
        exact go _ hp (fun w hw => by unfold gvl at hw; rw [q] at hw; exact hw) hk
      | false =>
        rw [q] at hr
        obtain ⟨hp, hk⟩ := gcl_of ha hr
        obtain ⟨q2, hk⟩ := c_fr hk
        exact go _ hp (fun w hw => by unfold gvl at hw; rw [q, q2] at hw; exact hw) hk
    · cases hs
  · exact hr.elim
theorem gk_put {kd : Nat} {w : Int32} {p : Nat} {r : List Value} (A : gA y pc i len K k) (ha : a < 9) (hb : b < jv_fn a) (hs : sk_putf y i a b kd = true) (hfi : gfi a b = true) (hn : pv_k kd (jv_fty a b) = true → narrow (jv_fty a b) (.int w) = .int w ∧ fits (jv_fty a b) (.int w) = true) (hp : p < 332 ∧ gkd p = 16 + a) (hk : k Lv r (gup σ p b w)) : gE y pc Lv (.int w :: .ref p :: r) σ K := by
  unfold sk_putf at hs
  split at hs
  · rename_i idx
    obtain ⟨hk1, hk2⟩ := s_and hs
    obtain ⟨hfld, hfin⟩ := of_decide_eq_true hk1
    obtain ⟨n1, n2⟩ := hn hk2
    refine gA_go A rfl rfl (fun L xs h hh => ?_) hk
    obtain ⟨fs, hx, hlen, hf⟩ := gCk_obj (hh.2.2.2 p hp.1) hp.2
    have hlt : b < fs.length := by rw [← hlen, gln_ok p hp.1 a ha hp.2]; exact hb
    refine ⟨jv_put h p (.inr (.inr (a, fs.set b (.int w)))), st_heap rfl rfl rfl rfl ?_, gRel_put hh hp.1 ⟨hp.2, by rw [List.length_set]; exact hlen, fun m v hm => ?_⟩⟩
    · show jv_set (sow y) (sini y) idx (.int w :: .ref p :: r) h = _
      unfold jv_set
      simp only [hfld]
      rw [if_pos ⟨by rw [hh.1]; exact hp.1, n1, n2, hfin⟩]
      simp only [hx]
      rw [if_pos ⟨trivial, hlt⟩]
    · by_cases q : m = b
      · rw [q, List.getElem?_set_self hlt] at hm
        cases hm
        rw [q]
        unfold gvl
        rw [hfi, gup_at]
        rfl
      · rw [List.getElem?_set_ne (fun e => q e.symm)] at hm
        have h5 := hf m v hm
        unfold gvl at h5 ⊢
        rw [gup_ne (fun e => q e.2)]
        exact h5
  · cases hs
theorem gk_putf (A : gA y pc i len K k) (hs : sk_putf y i a b 0 = true) (hr : go_putf a b Lv st σ k) : gE y pc Lv st σ K := by
  unfold go_putf at hr
  split at hr
  · rename_i x p r
    obtain ⟨hb, hr⟩ := c_fr hr
    obtain ⟨hb, ha⟩ := s_and hb
    obtain ⟨ha, hfi⟩ := s_and ha
    have ha := b_lt ha
    obtain ⟨hp, hk⟩ := gcl_of ha hr
    refine gk_put A ha (b_lt hb) hs hfi (fun q => ?_) hp hk
    generalize jv_fty a b = ty at q ⊢
    cases ty <;> first | (cases q; done) | exact ⟨rfl, rfl⟩
  · exact hr.elim
theorem gk_putz (A : gA y pc i len K k) (hs : sk_putf y i a b 1 = true) (hr : go_putz a b Lv st σ k) : gE y pc Lv st σ K := by
  unfold go_putz at hr
  split at hr
  · rename_i x p r
    obtain ⟨hb, hx, hr⟩ := c_fr hr
    obtain ⟨hb, ha⟩ := s_and hb
    obtain ⟨ha, hfi⟩ := s_and ha
    have ha := b_lt ha
    obtain ⟨hp, hk⟩ := gcl_of ha hr
    refine gk_put A ha (b_lt hb) hs hfi (fun q => ?_) hp hk
    generalize jv_fty a b = ty at q ⊢
    cases ty <;> first | (cases q; done) | skip
    rcases hx with rfl | rfl <;> exact ⟨by decide, by decide⟩
  · exact hr.elim
theorem gin_ok {x : Int32} {p : Nat} (hp : p < 332) (h : 0 ≤ x ∧ x < Int32.ofNat (gln p)) : ¬ (x < 0 ∨ gln p ≤ x.toNatClampNeg) := by
  obtain ⟨h1, h2⟩ := h
  have h3 := gln_lt p hp
  have e : (Int32.ofNat (gln p)).toInt = gln p := Int32.toInt_ofNat_of_lt (by omega)
  rw [Int32.lt_iff_toInt_lt, e] at h2
  rw [Int32.le_iff_toInt_le] at h1
  have h1 : 0 ≤ x.toInt := h1
  intro q
  rcases q with q | q
  · rw [Int32.lt_iff_toInt_lt] at q
    have q : x.toInt < 0 := q
    omega
  · have : x.toNatClampNeg = x.toInt.toNat := rfl
    omega
theorem gin_lt {x : Int32} {p : Nat} (hp : p < 332) (h : 0 ≤ x ∧ x < Int32.ofNat (gln p)) : x.toNatClampNeg < gln p := by
  have := gin_ok hp h
  omega
theorem gk_iald (A : gA y pc .iaload len K k) (hr : go_iald Lv st σ k 0) : gE y pc Lv st σ K := by
  unfold go_iald at hr
  split at hr
  · rename_i x p r
    obtain ⟨q, hi, hk⟩ := c_fr hr
    obtain ⟨q1, q2⟩ := s_and q
    have hp := b_lt q1
    refine gA_go A rfl rfl (fun L xs h hh => ⟨h, st_heap rfl rfl rfl rfl ?_, hh⟩) hk
    obtain ⟨g, hx, hg⟩ := gCk_arr (hh.2.2.2 p hp) (b_eq q2) (by decide)
    have hlt : p < h.2.1 := by rw [hh.1]; exact hp
    show (if p < h.2.1 ∨ (p = 1000000 ∧ sow y = 10) then match h.1 p with
      | .inl (ty, n, f) => if (ty = 0 ∧ p < h.2.1 ∨ ty = 9 ∧ p = 1000000) ∧ ¬ (x < 0 ∨ n ≤ x.toNatClampNeg) then some (.int (f x.toNatClampNeg) :: r, h) else none
      | _ => none else none) = _
    rw [if_pos (Or.inl hlt), hx]
    show (if ((0 : Nat) = 0 ∧ p < h.2.1 ∨ (0 : Nat) = 9 ∧ p = 1000000) ∧ ¬ (x < 0 ∨ gln p ≤ x.toNatClampNeg) then some (.int (g x.toNatClampNeg) :: r, h) else none) = _
    rw [if_pos ⟨Or.inl ⟨rfl, hlt⟩, gin_ok hp hi⟩, hg _ (gin_lt hp hi)]
  · exact hr.elim
theorem gk_bald (A : gA y pc .baload len K k) (hr : go_iald Lv st σ k 1) : gE y pc Lv st σ K := by
  unfold go_iald at hr
  split at hr
  · rename_i x p r
    obtain ⟨q, hi, hk⟩ := c_fr hr
    obtain ⟨q1, q2⟩ := s_and q
    have hp := b_lt q1
    refine gA_go A rfl rfl (fun L xs h hh => ⟨h, st_heap rfl rfl rfl rfl ?_, hh⟩) hk
    obtain ⟨g, hx, hg⟩ := gCk_arr (hh.2.2.2 p hp) (b_eq q2) (by decide)
    have hlt : p < h.2.1 := by rw [hh.1]; exact hp
    show (if p < h.2.1 then match h.1 p with
      | .inl (ty, n, f) => if ty = 1 ∧ ¬ (x < 0 ∨ n ≤ x.toNatClampNeg) then some (.int (f x.toNatClampNeg) :: r, h) else none
      | _ => none else none) = _
    rw [if_pos hlt, hx]
    show (if (1 : Nat) = 1 ∧ ¬ (x < 0 ∨ gln p ≤ x.toNatClampNeg) then some (.int (g x.toNatClampNeg) :: r, h) else none) = _
    rw [if_pos ⟨rfl, gin_ok hp hi⟩, hg _ (gin_lt hp hi)]
  · exact hr.elim
theorem gk_aald (A : gA y pc .aaload len K k) (hr : go_aald Lv st σ k) : gE y pc Lv st σ K := by
  unfold go_aald at hr
  split at hr
  · rename_i x p r
    obtain ⟨q, hi, hk⟩ := c_fr hr
    obtain ⟨q1, q2⟩ := s_and q
    have hp := b_lt q1
    have q3 : gkd p = 2 ∨ gkd p = 3 := (s_or q2).imp b_eq b_eq
    refine gA_go A rfl rfl (fun L xs h hh => ⟨h, st_heap rfl rfl rfl rfl ?_, hh⟩) hk
    obtain ⟨g, hx, hg⟩ := gCk_rarr (hh.2.2.2 p hp) rfl q3
    have hlt : p < h.2.1 := by rw [hh.1]; exact hp
    show (if p < h.2.1 then match h.1 p with
      | .inr (.inl (ty, n, f)) => if (ty = 2 ∨ ty = 3) ∧ ¬ (x < 0 ∨ n ≤ x.toNatClampNeg) then (match f x.toNatClampNeg with
        | some b => some (.ref b :: r, h)
        | none => none) else none
      | _ => none else none) = _
    rw [if_pos hlt, hx]
    show (if (gkd p = 2 ∨ gkd p = 3) ∧ ¬ (x < 0 ∨ gln p ≤ x.toNatClampNeg) then (match g x.toNatClampNeg with
        | some b => some (.ref b :: r, h)
        | none => none) else none) = _
    rw [if_pos ⟨q3, gin_ok hp hi⟩, hg _ (gin_lt hp hi)]
  · exact hr.elim
theorem gCk_upd {f : Nat → Int32} {p c m : Nat} {w : Int32} {g : Nat → Int32} (hk : gkd p = c) (hc2 : c < 2) (hg : ∀ i, i < gln p → g i = σ p i) : gCk (gup σ p m w p) p (.inl (c, gln p, upd g m w)) := by
  refine ⟨hk, hc2, rfl, fun n hn => ?_⟩
  unfold upd gup
  by_cases q : n = m
  · rw [if_pos q, if_pos ⟨rfl, q⟩]
  · rw [if_neg q, if_neg (fun e => q e.2)]
    exact hg n hn
theorem gk_iast (A : gA y pc .iastore len K k) (hr : go_iast Lv st σ k) : gE y pc Lv st σ K := by
  unfold go_iast at hr
  split at hr
  · rename_i w x p r
    obtain ⟨q, hi, hk⟩ := c_fr hr
    obtain ⟨q1, q2⟩ := s_and q
    have hp := b_lt q1
    refine gA_go A rfl rfl (fun L xs h hh => ?_) hk
    obtain ⟨g, hx, hg⟩ := gCk_arr (hh.2.2.2 p hp) (b_eq q2) (by decide)
    have hlt : p < h.2.1 := by rw [hh.1]; exact hp
    refine ⟨jv_put h p (.inl (0, gln p, upd g x.toNatClampNeg w)), st_heap rfl rfl rfl rfl ?_, gRel_put hh hp (gCk_upd (f := g) (b_eq q2) (by decide) hg)⟩
    show (if p < h.2.1 then match h.1 p with
      | .inl (ty, n, f) => if ty = 0 ∧ ¬ (x < 0 ∨ n ≤ x.toNatClampNeg) then some (r, jv_put h p (.inl (ty, n, upd f x.toNatClampNeg w))) else none
      | _ => none else none) = _
    rw [if_pos hlt, hx]
    show (if (0 : Nat) = 0 ∧ ¬ (x < 0 ∨ gln p ≤ x.toNatClampNeg) then some (r, jv_put h p (.inl (0, gln p, upd g x.toNatClampNeg w))) else none) = _
    rw [if_pos ⟨rfl, gin_ok hp hi⟩]
  · exact hr.elim
theorem gk_bast (A : gA y pc .bastore len K k) (hr : go_bast Lv st σ k) : gE y pc Lv st σ K := by
  unfold go_bast at hr
  split at hr
  · rename_i w x p r
    obtain ⟨q, ⟨hi, hw⟩, hk⟩ := c_fr hr
    obtain ⟨q1, q2⟩ := s_and q
    have hp := b_lt q1
    have hnar : vp_nar .boolean w = w := by rcases hw with rfl | rfl <;> decide
    refine gA_go A rfl rfl (fun L xs h hh => ?_) hk
    obtain ⟨g, hx, hg⟩ := gCk_arr (hh.2.2.2 p hp) (b_eq q2) (by decide)
    have hlt : p < h.2.1 := by rw [hh.1]; exact hp
    refine ⟨jv_put h p (.inl (1, gln p, upd g x.toNatClampNeg w)), st_heap rfl rfl rfl rfl ?_, gRel_put hh hp (gCk_upd (f := g) (b_eq q2) (by decide) hg)⟩
    show (if p < h.2.1 ∧ vp_nar .boolean w = w then match h.1 p with
      | .inl (ty, n, f) => if ty = 1 ∧ ¬ (x < 0 ∨ n ≤ x.toNatClampNeg) then some (r, jv_put h p (.inl (ty, n, upd f x.toNatClampNeg w))) else none
      | _ => none else none) = _
    rw [if_pos ⟨hlt, hnar⟩, hx]
    show (if (1 : Nat) = 1 ∧ ¬ (x < 0 ∨ gln p ≤ x.toNatClampNeg) then some (r, jv_put h p (.inl (1, gln p, upd g x.toNatClampNeg w))) else none) = _
    rw [if_pos ⟨rfl, gin_ok hp hi⟩]
  · exact hr.elim
theorem c_2 {c : Bool} {P Q : Prop} (h : cond c P Q) : (c = true ∧ P) ∨ Q := by
  cases c
  · exact Or.inr h
  · exact Or.inl ⟨rfl, h⟩
theorem gk_sald (A : gA y pc .iaload len K k) (hr : go_sald Lv st σ k y) : gE y pc Lv st σ K := by
  unfold go_sald at hr
  split at hr
  · rename_i x p r
    rcases c_2 hr with ⟨q, hi, hk⟩ | hr
    · obtain ⟨q1, q2⟩ := s_and q
      have hp := b_eq q1
      have hy := b_eq q2
      subst hp
      refine gA_go A rfl rfl (fun L xs h hh => ⟨h, st_heap rfl rfl rfl rfl ?_, hh⟩) hk
      obtain ⟨s1, s2, s3, s4⟩ := hh.2.2.1
      have how : sow y = 10 := by rw [hy]; rfl
      rw [s3] at hi
      obtain ⟨i1, i2⟩ := hi
      have e : (Int32.ofNat L).toInt = L := Int32.toInt_ofNat_of_lt (by omega)
      rw [Int32.lt_iff_toInt_lt, e] at i2
      rw [Int32.le_iff_toInt_le] at i1
      have i1 : 0 ≤ x.toInt := i1
      have en : x.toNatClampNeg = x.toInt.toNat := rfl
      have hn : ¬ (x < 0 ∨ L ≤ x.toNatClampNeg) := by
        intro q
        rcases q with q | q
        · rw [Int32.lt_iff_toInt_lt] at q
          have q : x.toInt < 0 := q
          omega
        · omega
      show (if (1000000 : Nat) < h.2.1 ∨ ((1000000 : Nat) = 1000000 ∧ sow y = 10) then match h.1 1000000 with
        | .inl (ty, n, f) => if (ty = 0 ∧ (1000000 : Nat) < h.2.1 ∨ ty = 9 ∧ (1000000 : Nat) = 1000000) ∧ ¬ (x < 0 ∨ n ≤ x.toNatClampNeg) then some (.int (f x.toNatClampNeg) :: r, h) else none
        | _ => none else none) = _
      rw [if_pos (Or.inr ⟨rfl, how⟩), s1]
      show (if ((9 : Nat) = 0 ∧ (1000000 : Nat) < h.2.1 ∨ (9 : Nat) = 9 ∧ (1000000 : Nat) = 1000000) ∧ ¬ (x < 0 ∨ L ≤ x.toNatClampNeg) then some (.int (xs x.toNatClampNeg) :: r, h) else none) = _
      rw [if_pos ⟨Or.inr ⟨rfl, rfl⟩, hn⟩, s4 _ (by omega)]
    · exact gk_iald A hr
  · exact hr.elim
theorem gk_alen (A : gA y pc .arraylength len K k) (hr : go_alen Lv st σ k y) : gE y pc Lv st σ K := by
  unfold go_alen at hr
  split at hr
  · rename_i p r
    rcases c_2 hr with ⟨q, hk⟩ | hr
    · obtain ⟨q1, q2⟩ := s_and q
      have hp := b_eq q1
      have hy := b_eq q2
      subst hp
      refine gA_go A rfl rfl (fun L xs h hh => ⟨h, st_heap rfl rfl rfl rfl ?_, hh⟩) hk
      obtain ⟨s1, s2, s3, s4⟩ := hh.2.2.1
      have how : sow y = 10 := by rw [hy]; rfl
      show (if (1000000 : Nat) < h.2.1 ∨ ((1000000 : Nat) = 1000000 ∧ sow y = 10) then match h.1 1000000 with
        | .inl (ty, n, _) => if ty < 2 ∧ (1000000 : Nat) < h.2.1 ∨ ty = 9 ∧ (1000000 : Nat) = 1000000 then some (.int (Int32.ofNat n) :: r, h) else none
        | .inr (.inl (ty, n, _)) => if (ty = 2 ∨ ty = 3) ∧ (1000000 : Nat) < h.2.1 then some (.int (Int32.ofNat n) :: r, h) else none
        | _ => none else none) = _
      rw [if_pos (Or.inr ⟨rfl, how⟩), s1]
      show (if (9 : Nat) < 2 ∧ (1000000 : Nat) < h.2.1 ∨ (9 : Nat) = 9 ∧ (1000000 : Nat) = 1000000 then some (.int (Int32.ofNat L) :: r, h) else none) = _
      rw [if_pos (Or.inr ⟨rfl, rfl⟩), s3]
    obtain ⟨q, hk⟩ := c_fr hr
    obtain ⟨q1, q2⟩ := s_and q
    have hp := b_lt q1
    have q2 := b_lt q2
    refine gA_go A rfl rfl (fun L xs h hh => ⟨h, st_heap rfl rfl rfl rfl ?_, hh⟩) hk
    have hlt : p < h.2.1 := by rw [hh.1]; exact hp
    show (if p < h.2.1 ∨ (p = 1000000 ∧ sow y = 10) then match h.1 p with
      | .inl (ty, n, _) => if ty < 2 ∧ p < h.2.1 ∨ ty = 9 ∧ p = 1000000 then some (.int (Int32.ofNat n) :: r, h) else none
      | .inr (.inl (ty, n, _)) => if (ty = 2 ∨ ty = 3) ∧ p < h.2.1 then some (.int (Int32.ofNat n) :: r, h) else none
      | _ => none else none) = _
    rw [if_pos (Or.inl hlt)]
    have hcell := hh.2.2.2 p hp
    rcases Nat.lt_or_ge (gkd p) 2 with c2 | c2
    · obtain ⟨g, hx, -⟩ := gCk_arr hcell rfl c2
      rw [hx]
      show (if gkd p < 2 ∧ p < h.2.1 ∨ gkd p = 9 ∧ p = 1000000 then some (.int (Int32.ofNat (gln p)) :: r, h) else none) = _
      rw [if_pos (Or.inl ⟨c2, hlt⟩)]
    · have c3 : gkd p = 2 ∨ gkd p = 3 := by omega
      obtain ⟨g, hx, -⟩ := gCk_rarr hcell rfl c3
      rw [hx]
      show (if (gkd p = 2 ∨ gkd p = 3) ∧ p < h.2.1 then some (.int (Int32.ofNat (gln p)) :: r, h) else none) = _
      rw [if_pos ⟨c3, hlt⟩]
  · exact hr.elim
/-- jumps -/
theorem gbr_of {x v : Int32} {P Q : Prop} {cn : ClassFile.Cond} (hr : gbr (s_ccn cn) x v P Q) : (jv_cc cn x v = true ∧ P) ∨ (¬ jv_cc cn x v = true ∧ Q) := by
  cases cn
  · by_cases q : x = v
    · exact Or.inl ⟨decide_eq_true q, (show (x = v → P) ∧ (¬ x = v → Q) from hr).1 q⟩
    · exact Or.inr ⟨fun e => q (of_decide_eq_true e), (show (x = v → P) ∧ (¬ x = v → Q) from hr).2 q⟩
  · by_cases q : x = v
    · exact Or.inr ⟨fun e => (of_decide_eq_true e) q, (show (¬ x = v → P) ∧ (x = v → Q) from hr).2 q⟩
    · exact Or.inl ⟨decide_eq_true q, (show (¬ x = v → P) ∧ (x = v → Q) from hr).1 q⟩
  · by_cases q : x < v
    · exact Or.inl ⟨decide_eq_true q, (show (x < v → P) ∧ (¬ x < v → Q) from hr).1 q⟩
    · exact Or.inr ⟨fun e => q (of_decide_eq_true e), (show (x < v → P) ∧ (¬ x < v → Q) from hr).2 q⟩
  · have hr : (¬ x < v → P) ∧ (x < v → Q) := hr
    by_cases q : x < v
    · refine Or.inr ⟨fun e => ?_, hr.2 q⟩
      have e2 : x ≥ v := of_decide_eq_true e
      exact absurd q (Int32.not_lt.mpr e2)
    · exact Or.inl ⟨decide_eq_true (Int32.not_lt.mp q), hr.1 q⟩
  · have hr : (v < x → P) ∧ (¬ v < x → Q) := hr
    by_cases q : v < x
    · exact Or.inl ⟨decide_eq_true q, hr.1 q⟩
    · exact Or.inr ⟨fun e => q (of_decide_eq_true e), hr.2 q⟩
  · have hr : (¬ v < x → P) ∧ (v < x → Q) := hr
    by_cases q : v < x
    · refine Or.inr ⟨fun e => ?_, hr.2 q⟩
      have e2 : x ≤ v := of_decide_eq_true e
      exact absurd q (Int32.not_lt.mpr e2)
    · exact Or.inl ⟨decide_eq_true (Int32.not_lt.mp q), hr.1 q⟩
theorem gk_goto (hy : y < 272) (hcode : jv_code y pc = some (i, len)) (hj : ∀ tgt Lv st σ, j tgt Lv st σ → gE y tgt Lv st σ K) (hs : sk_goto pc i a = true) (hr : j a Lv st σ) : gE y pc Lv st σ K := by
  unfold sk_goto at hs
  split at hs
  · rename_i off
    have h1 := of_decide_eq_true hs
    refine gE_step hy hcode rfl rfl (fun L xs h hh => ⟨h, st_br (pc' := a) (vs' := st) rfl rfl ?_, hh⟩) (hj _ _ _ _ hr)
    exact s_jmp h1
  · cases hs
theorem gk_if (A : gA y pc i len K k) (hj : ∀ tgt Lv st σ, j tgt Lv st σ → gE y tgt Lv st σ K) (hlen : len = 3) (hs : sk_if pc i a b = true) (hr : go_if a b Lv st σ k j) : gE y pc Lv st σ K := by
  unfold go_if at hr
  split at hr
  · rename_i x r
    unfold sk_if at hs
    split at hs
    · rename_i cn off
      obtain ⟨rfl, h1⟩ := of_decide_eq_true hs
      rcases gbr_of hr with ⟨hc, hr⟩ | ⟨hc, hr⟩
      · refine gE_step A.1 A.2.1 rfl rfl (fun L xs h hh => ⟨h, st_br (pc' := b) (vs' := r) rfl rfl ?_, hh⟩) (hj _ _ _ _ hr)
        show (match jv_jmp pc off r with
          | some t => if jv_cc cn x 0 = true then some t else some (pc + 3, r)
          | none => none) = some (b, r)
        rw [s_jmp h1]
        exact if_pos hc
      · refine gA_go A rfl rfl (fun L xs h hh => ⟨h, st_br (vs' := r) rfl rfl ?_, hh⟩) hr
        show (match jv_jmp pc off r with
          | some t => if jv_cc cn x 0 = true then some t else some (pc + 3, r)
          | none => none) = some (pc + len, r)
        rw [s_jmp h1, hlen]
        exact if_neg hc
    · cases hs
  · exact hr.elim
theorem gk_icmp (A : gA y pc i len K k) (hj : ∀ tgt Lv st σ, j tgt Lv st σ → gE y tgt Lv st σ K) (hlen : len = 3) (hs : sk_icmp pc i a b = true) (hr : go_icmp a b Lv st σ k j) : gE y pc Lv st σ K := by
  unfold go_icmp at hr
  split at hr
  · rename_i v x r
    unfold sk_icmp at hs
    split at hs
    · rename_i cn off
      obtain ⟨rfl, h1⟩ := of_decide_eq_true hs
      rcases gbr_of hr with ⟨hc, hr⟩ | ⟨hc, hr⟩
      · refine gE_step A.1 A.2.1 rfl rfl (fun L xs h hh => ⟨h, st_br (pc' := b) (vs' := r) rfl rfl ?_, hh⟩) (hj _ _ _ _ hr)
        show (match jv_jmp pc off r with
          | some t => if jv_cc cn x v = true then some t else some (pc + 3, r)
          | none => none) = some (b, r)
        rw [s_jmp h1]
        exact if_pos hc
      · refine gA_go A rfl rfl (fun L xs h hh => ⟨h, st_br (vs' := r) rfl rfl ?_, hh⟩) hr
        show (match jv_jmp pc off r with
          | some t => if jv_cc cn x v = true then some t else some (pc + 3, r)
          | none => none) = some (pc + len, r)
        rw [s_jmp h1, hlen]
        exact if_neg hc
    · cases hs
  · exact hr.elim
end GSND2
-- text 4
section GSND3
variable {y pc : Nat} {i : Instr} {len : Nat} {t : List sI} {Lv : gL} {st : List Value} {σ : gS} {K : gK} {k : gC} {j : gJ} {a b : Nat}
theorem gk_tab (hy : y < 272) (hcode : jv_code y pc = some (i, len)) (hj : ∀ tgt Lv st σ, j tgt Lv st σ → gE y tgt Lv st σ K) (hs : sk_tab pc i a = true) (hr : go_tab a Lv st σ j y) : gE y pc Lv st σ K := by
  unfold go_tab at hr
  split at hr
  · rename_i x r
    unfold sk_tab at hs
    split at hs
    · rename_i d lo hi offs
      obtain ⟨hk1, hk2⟩ := s_and hs
      obtain ⟨rfl, hd, hlo1, hlo2, hhi1, hhi2⟩ := of_decide_eq_true hk1
      rw [hcode] at hr
      have hr : lo + offs.toList.length = hi + 1 ∧ gsw Lv σ j x r ((a : Int) + d).toNat (gtabl a lo offs.toList) := hr
      obtain ⟨hlen, hr⟩ := hr
      have hbr : jv_br (.tableswitch d lo hi offs) a (.int x :: r) = (if x.toInt < lo ∨ hi < x.toInt then jv_jmp a d r else match offs[(x.toInt - lo).toNat]? with
        | some off => jv_jmp a off r
        | none => none) := rfl
      have go : ∀ (off : Int), 0 ≤ (a : Int) + off → jv_br (.tableswitch d lo hi offs) a (.int x :: r) = jv_jmp a off r → j ((a : Int) + off).toNat Lv r σ → gE y a Lv (.int x :: r) σ K := by
        intro off h0 hb1 hj'
        refine gE_step hy hcode rfl rfl (fun L xs h hh => ⟨h, st_br (pc' := ((a : Int) + off).toNat) (vs' := r) rfl rfl ?_, hh⟩) (hj _ _ _ _ hj')
        rw [hb1]
        unfold jv_jmp
        rw [if_pos h0]
      have key : ∀ (l : List Int) (lo' : Int), -2147483648 ≤ lo' → lo' + l.length ≤ 2147483648 → gsw Lv σ j x r ((a : Int) + d).toNat (gtabl a lo' l) →
          (∃ (n : Nat) (off : Int), l[n]? = some off ∧ x.toInt = lo' + n ∧ j ((a : Int) + off).toNat Lv r σ) ∨ ((x.toInt < lo' ∨ lo' + l.length ≤ x.toInt) ∧ j ((a : Int) + d).toNat Lv r σ) := by
        intro l
        induction l with
        | nil =>
          intro lo' _ _ h
          refine Or.inr ⟨?_, h⟩
          show _ ∨ lo' + ((0 : Nat) : Int) ≤ _
          omega
        | cons o l ih =>
          intro lo' h1 h2 h
          have h2 : lo' + ((l.length + 1 : Nat) : Int) ≤ 2147483648 := h2
          have h : (x = Int32.ofInt lo' → j ((a : Int) + o).toNat Lv r σ) ∧ (¬ x = Int32.ofInt lo' → gsw Lv σ j x r ((a : Int) + d).toNat (gtabl a (lo' + 1) l)) := h
          by_cases q : x = Int32.ofInt lo'
          · exact Or.inl ⟨0, o, rfl, by rw [q, s_to32 h1 (by omega)]; omega, h.1 q⟩
          · have q2 : x.toInt ≠ lo' := fun e => q (Int32.toInt_inj.1 (by rw [s_to32 h1 (by omega)]; exact e))
            rcases ih (lo' + 1) (by omega) (by omega) (h.2 q) with ⟨n, off, e1, e2, e3⟩ | ⟨e1, e2⟩
            · exact Or.inl ⟨n + 1, off, e1, by omega, e3⟩
            · refine Or.inr ⟨?_, e2⟩
              show _ ∨ lo' + ((l.length + 1 : Nat) : Int) ≤ _
              omega
      rcases key offs.toList lo hlo1 (by omega) hr with ⟨n, off, e1, e2, e3⟩ | ⟨e1, e2⟩
      · have hn : n < offs.toList.length := (List.getElem?_eq_some_iff.mp e1).1
        have h0 : 0 ≤ (a : Int) + off := of_decide_eq_true (List.all_eq_true.mp hk2 off (List.mem_of_getElem? e1))
        refine go off h0 ?_ e3
        have e4 : (x.toInt - lo).toNat = n := by omega
        have e5 : offs[n]? = some off := by rw [← Array.getElem?_toList]; exact e1
        rw [hbr, if_neg (by omega), e4, e5]
      · refine go d hd ?_ e2
        rw [hbr, if_pos (by omega)]
    · cases hs
  · exact hr.elim
theorem gk_lsw (hy : y < 272) (hcode : jv_code y pc = some (i, len)) (hj : ∀ tgt Lv st σ, j tgt Lv st σ → gE y tgt Lv st σ K) (hs : sk_lsw pc i a = true) (hr : go_lsw a Lv st σ j y) : gE y pc Lv st σ K := by
  unfold go_lsw at hr
  split at hr
  · rename_i x r
    unfold sk_lsw at hs
    split at hs
    · rename_i d ps
      obtain ⟨hk1, hk2⟩ := s_and hs
      obtain ⟨hsort, hk2⟩ := s_and hk2
      obtain ⟨rfl, hd, hne0⟩ := of_decide_eq_true hk1
      rw [hcode] at hr
      have hr : gsw Lv σ j x r ((a : Int) + d).toNat (ps.toList.map (fun p => (Int32.ofInt p.1, ((a : Int) + p.2).toNat))) := hr
      have hall : ∀ p ∈ ps.toList, 0 ≤ (a : Int) + p.2 ∧ -2147483648 ≤ p.1 ∧ p.1 < 2147483648 := fun p hp => of_decide_eq_true (List.all_eq_true.mp hk2 p hp)
      have key : ∀ (l : List (Int × Int)), (∀ p ∈ l, 0 ≤ (a : Int) + p.2 ∧ -2147483648 ≤ p.1 ∧ p.1 < 2147483648) → gsw Lv σ j x r ((a : Int) + d).toNat (l.map (fun p => (Int32.ofInt p.1, ((a : Int) + p.2).toNat))) → ∃ off : Int, 0 ≤ (a : Int) + off ∧ Op.lookupswitch.offset l d x.toInt = off ∧ j ((a : Int) + off).toNat Lv r σ := by
        intro l
        induction l with
        | nil =>
          intro _ h
          exact ⟨d, hd, rfl, h⟩
        | cons p l ih =>
          intro hal h
          obtain ⟨c, off⟩ := p
          obtain ⟨p1, p2, p3⟩ := hal (c, off) List.mem_cons_self
          have h : (x = Int32.ofInt c → j ((a : Int) + off).toNat Lv r σ) ∧ (¬ x = Int32.ofInt c → gsw Lv σ j x r ((a : Int) + d).toNat (l.map (fun p => (Int32.ofInt p.1, ((a : Int) + p.2).toNat)))) := h
          by_cases q : x = Int32.ofInt c
          · refine ⟨off, p1, ?_, h.1 q⟩
            rw [Op.lookupswitch.offset_cons, if_pos]
            rw [q, s_to32 p2 p3]
          · obtain ⟨off2, h0, ho, h3⟩ := ih (fun q hq => hal q (List.mem_cons_of_mem _ hq)) (h.2 q)
            refine ⟨off2, h0, ?_, h3⟩
            rw [Op.lookupswitch.offset_cons, if_neg]
            · exact ho
            · intro e
              apply q
              apply Int32.toInt_inj.1
              rw [s_to32 p2 p3]
              exact e.symm
      obtain ⟨off, h0, ho, hj'⟩ := key _ hall hr
      refine gE_step hy hcode rfl rfl (fun L xs h hh => ⟨h, st_br (pc' := ((a : Int) + off).toNat) (vs' := r) rfl rfl ?_, hh⟩) (hj _ _ _ _ hj')
      show (if (ps.toList.zip (ps.toList.drop 1)).all (fun (a, next) => a.1 < next.1) = true then jv_jmp a (Op.lookupswitch.offset ps.toList d x.toInt) r else none) = _
      rw [if_pos hsort, ho]
      unfold jv_jmp
      rw [if_pos h0]
    · cases hs
  · exact hr.elim
theorem g1_wd : ∀ (l : List Value), g1 l = true → jv_wd l = l.length
  | [], _ => rfl
  | .int w :: r, h => by
    have h2 := g1_wd r h
    have h5 : jv_wd (.int w :: r) = (Value.int w).category + jv_wd r := by simp [jv_wd]
    rw [h5, h2, List.length_cons, show (Value.int w).category = 1 from rfl]
    omega
  | .ref w :: r, h => by
    have h2 := g1_wd r h
    have h5 : jv_wd (.ref w :: r) = (Value.ref w).category + jv_wd r := by simp [jv_wd]
    rw [h5, h2, List.length_cons, show (Value.ref w).category = 1 from rfl]
    omega
  | .null :: _, h => by cases h
  | .float _ :: _, h => by cases h
  | .double _ :: _, h => by cases h
  | .long _ :: _, h => by cases h
  | .retAddr _ :: _, h => by cases h
theorem gtk_eq : ∀ (l : List Value) (n : Nat), gtk l n = l.take n
  | [], n => by rw [List.take_nil]; rfl
  | x :: t, 0 => rfl
  | x :: t, n + 1 => by
    show x :: gtk t n = _
    rw [gtk_eq t n]
    rfl
theorem gdr_eq : ∀ (l : List Value) (n : Nat), gdr l n = l.drop n
  | [], n => by rw [List.drop_nil]; rfl
  | x :: t, 0 => rfl
  | x :: t, n + 1 => gdr_eq t n
theorem grv_eq : ∀ (l : List Value) (acc : gL), grv l acc = l.reverse.map some ++ acc
  | [], acc => rfl
  | x :: t, acc => by
    show grv t (some x :: acc) = _
    rw [grv_eq t, List.reverse_cons, List.map_append, List.append_assoc]
    rfl
theorem gno_eq : ∀ n : Nat, gno n = List.replicate n none
  | 0 => rfl
  | n + 1 => by
    show none :: gno n = _
    rw [gno_eq n, List.replicate_succ]
theorem gnv_eq : ∀ (l : List Value) (i : Nat), gnv l i = l[i]?
  | [], i => rfl
  | x :: t, 0 => rfl
  | x :: t, i + 1 => by
    rw [List.getElem?_cons_succ]
    exact gnv_eq t i
theorem g_wd8 {r : List Value} (q : (g1 r && Nat.ble r.length 8) = true) : jv_wd r ≤ 8 := by
  obtain ⟨q1, q2⟩ := s_and q
  rw [g1_wd r q1]
  exact b_le q2
theorem jv_tix_len {p k : Nat} (h : jv_tix p = some k) : (jv_byt.getD k []).length < 100 := by
  have h20 := (jv_tix_eq h).1
  have : ∀ k, k < 20 → (jv_byt.getD k []).length < 100 := by decide +kernel
  exact this k h20
/-- a jump over a String's member -/
theorem gk_slen (hy : y < 272) (hcode : jv_code y pc = some (i, len)) (hk : ∀ Lv st σ, k Lv st σ → gE y (pc + len) Lv st σ K) (hlen : len = 3) (hs : sk_spec y i 901 1 2 40 = true) (hr : go_slen Lv st σ k) : gE y pc Lv st σ K := by
  subst hlen
  obtain ⟨idx, ow, kd, na, mL, fr, lo, na', ne, hC, hinf, hcal, h1, h2⟩ := sk_spec_eq hs
  unfold go_slen at hr
  split at hr
  · rename_i p r
    obtain ⟨q, hr⟩ := c_fr hr
    have hwd := g_wd8 q
    split at hr
    · rename_i m hm
      intro L xs h hh
      obtain ⟨r2, h', σ2, e1, e2, e3⟩ := hk _ _ _ hr L xs h hh
      refine ⟨r2, h', σ2, jv_ev_step (fun n => ?_) e1, e2, e3⟩
      refine jv_run_slen hinf hcode hC hcal ?_ h1 h2 hwd
      unfold jv_strlen
      simp only [hm]
    · exact hr.elim
  · exact hr.elim
theorem gk_sat (hy : y < 272) (hcode : jv_code y pc = some (i, len)) (hk : ∀ Lv st σ, k Lv st σ → gE y (pc + len) Lv st σ K) (hlen : len = 3) (hs : sk_spec y i 902 1 6 120 = true) (hr : go_sat Lv st σ k) : gE y pc Lv st σ K := by
  subst hlen
  obtain ⟨idx, ow, kd, na, mL, fr, lo, na', ne, hC, hinf, hcal, h1, h2⟩ := sk_spec_eq hs
  unfold go_sat at hr
  split at hr
  · rename_i x p r
    obtain ⟨q, hr⟩ := c_fr hr
    have hwd := g_wd8 q
    split at hr
    · rename_i m hm
      obtain ⟨⟨i1, i2⟩, hr⟩ := hr
      intro L xs h hh
      obtain ⟨r2, h', σ2, e1, e2, e3⟩ := hk _ _ _ hr L xs h hh
      refine ⟨r2, h', σ2, jv_ev_step (fun n => ?_) e1, e2, e3⟩
      refine jv_run_sat hinf hcode hC hcal ?_ h1 h2 hwd
      unfold jv_strat
      simp only [hm]
      have h3 := jv_tix_len hm
      have e : (Int32.ofNat (jv_byt.getD m []).length).toInt = (jv_byt.getD m []).length := Int32.toInt_ofNat_of_lt (by omega)
      rw [Int32.lt_iff_toInt_lt, e] at i2
      rw [Int32.le_iff_toInt_le] at i1
      have i1 : 0 ≤ x.toInt := i1
      rw [if_pos]
      intro q
      rcases q with q | q
      · rw [Int32.lt_iff_toInt_lt] at q
        have q : x.toInt < 0 := q
        omega
      · have : x.toNatClampNeg = x.toInt.toNat := rfl
        omega
    · exact hr.elim
  · exact hr.elim
theorem gk_ret {r : Option Value} (hy : y < 272) (hcode : jv_code y pc = some (i, len)) (hret : jv_ret (jv_ym y).2.2 i st = some r) (hK : K r σ) : gE y pc Lv st σ K := by
  obtain ⟨ow, kd, na, mL, fr, lo, hinf, -, -⟩ := s_inf hy
  intro L xs h hh
  exact ⟨r, h, σ, ⟨1, fun n hn => by
    obtain ⟨m, rfl⟩ : ∃ m, n = m + 1 := ⟨n - 1, by omega⟩
    exact jv_run_ret hinf hcode hret⟩, hh, hK⟩
theorem sk_ret_0 (hk : sk_ret y i 0 = true) : jv_ret (jv_ym y).2.2 i [] = some none := by
  have hk : sk_r0 i (jv_ym y).2.2 = true := hk
  unfold sk_r0 at hk
  generalize (jv_ym y).2.2 = rt at hk ⊢
  split at hk
  · rfl
  · cases hk
theorem g_call (hy : y < 272) (hcode : jv_code y pc = some (i, len)) (hs : sk_call y i a b = true) (h1 : g1 st = true) (h2 : b % 16 ≤ st.length) (h3 : st.length ≤ b % 16 + 8) (h4 : b / 1024 = 0 ∨ ∃ p, st[b % 16 - 1]? = some (.ref p) ∧ p < 332 ∧ gkd p = 15 + b / 1024)
    (hg : gE a 0 ((st.take (b % 16)).reverse.map some ++ List.replicate (b / 16 % 64 - b % 16) none) [] σ (fun r σ1 => gE y (pc + 3) Lv (r.toList ++ st.drop (b % 16)) σ1 K)) : gE y pc Lv st σ K := by
  unfold sk_call at hs
  split at hs
  · rename_i ck idx ow kd na mL fr lo ow2 kd2 na2 mL2 fr2 lo2 hC hinf hinf2
    obtain ⟨hcal, ha, hck, hb, hna, hmL, hnm, hkd, hfr, hlo⟩ := of_decide_eq_true hs
    have hb1 : b % 16 = na2 := by split at hb <;> omega
    have hb2 : b / 16 % 64 = mL2 := by split at hb <;> omega
    have hb3 : b / 1024 = (if kd2 = 0 then 0 else ow2 + 1) := by
      by_cases q : kd2 = 0
      · rw [if_pos q] at hb ⊢; omega
      · rw [if_neg q] at hb ⊢; omega
    rw [hb1] at h2 h3 h4 hg
    rw [hb2] at hg
    have hwd := g1_wd st h1
    intro L xs h hh
    obtain ⟨r, h', σ1, hev, hh', hk⟩ := hg L xs h hh
    obtain ⟨r2, h2', σ2, hev2, hh2, hK⟩ := hk L xs h' hh'
    have hmay : jv_may ck fr lo (ow2, kd2, na2, mL2, fr2, lo2) na2 st h = true := by
      obtain ⟨w1, w2⟩ := jv_wd_take hwd na2
      have w3 : (st.take na2).length = na2 := by rw [List.length_take]; omega
      have w4 : (st.drop na2).length ≤ 8 := by rw [List.length_drop]; omega
      unfold jv_may
      rw [Bool.and_eq_true]
      refine ⟨decide_eq_true ⟨hck.symm, rfl, by omega, hnm, hfr, hlo, by omega, by omega⟩, ?_⟩
      subst hck
      rcases h4 with z | ⟨p, hp, hp1, hp2⟩
      · rw [hb3] at z
        have hck0 : ck = 0 := by
          by_cases e : ck = 0
          · exact e
          · rw [if_neg e] at z; omega
        subst hck0
        rfl
      · rw [hb3] at hp2
        by_cases hck0 : ck = 0
        · subst hck0
          rfl
        · rw [if_neg hck0] at hp2
          obtain ⟨fs, hx, -⟩ := gCk_obj (c := ow2) (hh.2.2.2 p hp1) (by omega)
          have hlt : p < h.2.1 := by rw [hh.1]; exact hp1
          have hlast : (st.take na2).getLast? = some (.ref p) := by
            rw [List.getLast?_eq_getElem?, w3, List.getElem?_take, if_pos (by omega)]
            exact hp
          match ck, hck0 with
          | n + 1, _ =>
            show (match (st.take na2).getLast? with
              | some (.ref a) => decide (a < h.2.1) && (match h.1 a with
                | .inr (.inr (d, _)) => decide (d = ow2)
                | _ => false)
              | _ => false) = true
            rw [hlast]
            show (decide (p < h.2.1) && (match h.1 p with
                | .inr (.inr (d, _)) => decide (d = ow2)
                | _ => false)) = true
            rw [hx, Bool.and_eq_true]
            exact ⟨decide_eq_true hlt, decide_eq_true rfl⟩
          | 0, e => exact absurd rfl e
    refine ⟨r2, h2', σ2, ?_, hh2, hK⟩
    obtain ⟨N1, hN1⟩ := hev
    obtain ⟨N2, hN2⟩ := hev2
    refine ⟨N1 + N2 + 1, fun n hn => ?_⟩
    obtain ⟨m, rfl⟩ : ∃ m, n = m + 1 := ⟨n - 1, by omega⟩
    rw [jv_run_call hinf hcode hC hcal (by omega) (by omega) (by omega) hinf2 hmay (hN1 m (by omega))]
    exact hN2 m (by omega)
  · cases hs
theorem gE_mono {K' : gK} (h : ∀ r σ', K r σ' → K' r σ') (hg : gE y pc Lv st σ K) : gE y pc Lv st σ K' := by
  intro L xs h0 hh
  obtain ⟨r, h', σ', e1, e2, e3⟩ := hg L xs h0 hh
  exact ⟨r, h', σ', e1, e2, h _ _ e3⟩
theorem grc_of {P : Prop} (hb : b / 1024 < 10) (h : grc b st P) : (b / 1024 = 0 ∨ ∃ p, st[b % 16 - 1]? = some (.ref p) ∧ p < 332 ∧ gkd p = 15 + b / 1024) ∧ P := by
  unfold grc at h
  cases q : Nat.beq (b / 1024) 0 with
  | true => rw [q] at h; exact ⟨Or.inl (b_eq q), h⟩
  | false =>
    rw [q] at h
    have q := b_ne q
    have h : (match gnv st (b % 16 - 1) with
      | some (.ref p) => gcl (b / 1024 - 1) p P
      | _ => False) := h
    split at h
    · rename_i p hp
      rw [gnv_eq] at hp
      obtain ⟨⟨e1, e2⟩, h⟩ := gcl_of (by omega) h
      exact ⟨Or.inr ⟨p, hp, e1, by omega⟩, h⟩
    · exact h.elim
end GSND3
end
section
-- text 5
section GSND4
variable {y pc : Nat} {i : Instr} {len : Nat} {t : List sI} {Lv : gL} {st : List Value} {σ : gS} {K : gK} {k : gC} {j : gJ} {a b : Nat}
def gPok (pf : gP) : Prop := ∀ (z : Nat) (Lv : gL) (σ : gS) (q : Option Prop × Option Value × gS), pf z Lv σ = some q → (∀ P, q.1 = some P → P) → ∀ K : gK, K q.2.1 q.2.2 → gE z 0 Lv [] σ K
theorem gan_of {c : Option Prop} {P : Prop} (h : gan c P) : (∀ Q, c = some Q → Q) ∧ P := by
  cases c with
  | none => exact ⟨fun Q e => (by cases e), h⟩
  | some Q => exact ⟨fun Q' e => (by cases e; exact h.1), h.2⟩
theorem gk_call {run : gR} {inl : List Nat} {pf : gP} (hpf : gPok pf) (hrun : ∀ y pc t Lv st σ K, y < 272 → s_ok y pc t = true → run y pc t Lv st σ K → gE y pc Lv st σ K) (A : gA y pc i len K k) (hlen : len = 3) (hs : sk_call y i a b = true) (hr : go_call run inl pf a b Lv st σ k) : gE y pc Lv st σ K := by
  subst hlen
  have ha : a < 272 := by
    have hs2 := hs
    unfold sk_call at hs2
    split at hs2
    · exact (of_decide_eq_true hs2).2.1
    · cases hs2
  unfold go_call at hr
  obtain ⟨q, hr⟩ := c_fr hr
  obtain ⟨q1, q⟩ := s_and q
  obtain ⟨q2, q⟩ := s_and q
  obtain ⟨q3, q4⟩ := s_and q
  obtain ⟨h4, hr⟩ := grc_of (b_lt q4) hr
  refine g_call A.1 A.2.1 hs q1 (b_le q2) (b_le q3) h4 ?_
  rw [← gtk_eq, ← gdr_eq, ← gno_eq, ← grv_eq]
  split at hr
  · rename_i q hq
    obtain ⟨hc, hr⟩ := gan_of hr
    refine hpf _ _ _ _ hq hc _ ?_
    revert hr
    cases q.2.1 with
    | none => exact fun h => A.2.2 _ _ _ h
    | some v => exact fun h => A.2.2 _ _ _ h
  cases hm : gmem inl a with
  | true =>
    rw [hm] at hr
    refine gE_mono (fun r σ1 h => ?_) (hrun _ _ _ _ _ _ _ ha (sc_ok a ha) hr)
    cases r with
    | none => exact A.2.2 _ _ _ h
    | some v => exact A.2.2 _ _ _ h
  | false =>
    rw [hm] at hr
    cases h0 : Nat.beq (gret a) 0 with
    | true =>
      rw [h0] at hr
      refine gE_mono (fun r σ1 h => ?_) hr
      obtain ⟨rfl, h⟩ := h
      exact A.2.2 _ _ _ h
    | false =>
      rw [h0] at hr
      cases h1 : Nat.beq (gret a) 1 with
      | true =>
        rw [h1] at hr
        refine gE_mono (fun r σ1 h => ?_) hr
        obtain ⟨x, rfl, h⟩ := h
        exact A.2.2 _ _ _ h
      | false =>
        rw [h1] at hr
        refine gE_mono (fun r σ1 h => ?_) hr
        obtain ⟨x, rfl, h⟩ := h
        exact A.2.2 _ _ _ h
set_option maxHeartbeats 8000000 in
theorem gop_ok {run : gR} {inl : List Nat} {pf : gP} (hpf : gPok pf) (hrun : ∀ y pc t Lv st σ K, y < 272 → s_ok y pc t = true → run y pc t Lv st σ K → gE y pc Lv st σ K) (A : gA y pc i len K k) (hj : ∀ tgt Lv st σ, j tgt Lv st σ → gE y tgt Lv st σ K) {op : Nat} (hl : jv_sw i = true ∨ len = jv_len i) (hk : sk1 y pc i op a b = true) (hr : gop run inl pf y pc op a b Lv st σ K k j) : gE y pc Lv st σ K := by
  match op, hk, hr with
  | 0, hk, hr =>
    have hr : go_const a Lv st σ k := hr
    exact gk_const A hk hr
  | 1, hk, hr =>
    have hr : go_iload a Lv st σ k := hr
    exact gk_iload A hk hr
  | 2, hk, hr =>
    have hr : go_aload a Lv st σ k := hr
    exact gk_aload A hk hr
  | 3, hk, hr => exact (show False from hr).elim
  | 4, hk, hr =>
    have hr : go_istore a Lv st σ k := hr
    exact gk_istore A hk hr
  | 5, hk, hr =>
    have hr : go_astore a Lv st σ k := hr
    exact gk_astore A hk hr
  | 6, hk, hr => exact (show False from hr).elim
  | 7, hk, hr =>
    have hr : go_iinc a b Lv st σ k := hr
    exact gk_iinc A hk hr
  | 8, hk, hr =>
    have hr : go_getf a b Lv st σ k := hr
    exact gk_getf A hk hr
  | 9, hk, hr =>
    have hr : go_putf a b Lv st σ k := hr
    exact gk_putf A hk hr
  | 10, hk, hr =>
    have hr : go_putz a b Lv st σ k := hr
    exact gk_putz A hk hr
  | 11, hk, hr => exact (show False from hr).elim
  | 12, hk, hr =>
    have hr : j a Lv st σ := hr
    exact gk_goto A.1 A.2.1 hj hk hr
  | 13, hk, hr =>
    have hr : go_if a b Lv st σ k j := hr
    exact gk_if A hj (len_if hl hk) hk hr
  | 14, hk, hr =>
    have hr : go_icmp a b Lv st σ k j := hr
    exact gk_icmp A hj (len_icmp hl hk) hk hr
  | 15, hk, hr =>
    have hr : go_two Lv st σ k (fun x v => x + v) := hr
    have hk : i = .iadd := of_decide_eq_true hk
    subst hk
    exact gk_two A rfl rfl (fun _ _ _ => rfl) hr
  | 16, hk, hr =>
    have hr : go_two Lv st σ k (fun x v => x - v) := hr
    have hk : i = .isub := of_decide_eq_true hk
    subst hk
    exact gk_two A rfl rfl (fun _ _ _ => rfl) hr
  | 17, hk, hr =>
    have hr : go_two Lv st σ k (fun x v => x * v) := hr
    have hk : i = .imul := of_decide_eq_true hk
    subst hk
    exact gk_two A rfl rfl (fun _ _ _ => rfl) hr
  | 18, hk, hr =>
    have hr : go_div Lv st σ k (fun x v => x / v) := hr
    have hk : i = .idiv := of_decide_eq_true hk
    subst hk
    exact gk_div A rfl rfl (fun _ _ _ h => if_neg h) hr
  | 19, hk, hr =>
    have hr : go_div Lv st σ k (fun x v => x - x / v * v) := hr
    have hk : i = .irem := of_decide_eq_true hk
    subst hk
    exact gk_div A rfl rfl (fun _ _ _ h => if_neg h) hr
  | 20, hk, hr =>
    have hr : go_two Lv st σ k (fun x v => x &&& v) := hr
    have hk : i = .iand := of_decide_eq_true hk
    subst hk
    exact gk_two A rfl rfl (fun _ _ _ => rfl) hr
  | 21, hk, hr =>
    have hr : go_two Lv st σ k (fun x v => x >>> (v &&& 31)) := hr
    have hk : i = .ishr := of_decide_eq_true hk
    subst hk
    exact gk_two A rfl rfl (fun _ _ _ => rfl) hr
  | 22, hk, hr =>
    have hr : go_two Lv st σ k (fun x v => x ^^^ v) := hr
    have hk : i = .ixor := of_decide_eq_true hk
    subst hk
    exact gk_two A rfl rfl (fun _ _ _ => rfl) hr
  | 23, hk, hr =>
    have hr : go_sald Lv st σ k y := hr
    have hk : i = .iaload := of_decide_eq_true hk
    subst hk
    exact gk_sald A hr
  | 24, hk, hr =>
    have hr : go_iald Lv st σ k 1 := hr
    have hk : i = .baload := of_decide_eq_true hk
    subst hk
    exact gk_bald A hr
  | 25, hk, hr =>
    have hr : go_aald Lv st σ k := hr
    have hk : i = .aaload := of_decide_eq_true hk
    subst hk
    exact gk_aald A hr
  | 26, hk, hr =>
    have hr : go_iast Lv st σ k := hr
    have hk : i = .iastore := of_decide_eq_true hk
    subst hk
    exact gk_iast A hr
  | 27, hk, hr =>
    have hr : go_bast Lv st σ k := hr
    have hk : i = .bastore := of_decide_eq_true hk
    subst hk
    exact gk_bast A hr
  | 28, hk, hr => exact (show False from hr).elim
  | 29, hk, hr =>
    have hr : go_alen Lv st σ k y := hr
    have hk : i = .arraylength := of_decide_eq_true hk
    subst hk
    exact gk_alen A hr
  | 30, hk, hr => exact (show False from hr).elim
  | 31, hk, hr => exact (show False from hr).elim
  | 32, hk, hr => exact (show False from hr).elim
  | 33, hk, hr =>
    have hr : go_dup Lv st σ k := hr
    exact gk_dup A (of_decide_eq_true hk) hr
  | 34, hk, hr =>
    have hr : go_dup2 Lv st σ k := hr
    exact gk_dup2 A (of_decide_eq_true hk) hr
  | 35, hk, hr =>
    have hr : go_pop Lv st σ k := hr
    exact gk_pop A (of_decide_eq_true hk) hr
  | 36, hk, hr =>
    have hr : go_call run inl pf a b Lv st σ k := hr
    exact gk_call hpf hrun A (len_call hl hk) hk hr
  | 37, hk, hr => exact (show False from hr).elim
  | 38, hk, hr =>
    have hr : go_slen Lv st σ k := hr
    exact gk_slen A.1 A.2.1 A.2.2 (len_spec hl hk) hk hr
  | 39, hk, hr =>
    have hr : go_sat Lv st σ k := hr
    exact gk_sat A.1 A.2.1 A.2.2 (len_spec hl hk) hk hr
  | 40, hk, hr =>
    have hr : go_vret st σ K := hr
    unfold go_vret at hr
    split at hr
    · exact gk_ret A.1 A.2.1 (sk_ret_0 hk) hr
    · exact hr.elim
  | 41, hk, hr =>
    have hr : go_ret st σ K := hr
    unfold go_ret at hr
    split at hr
    · exact gk_ret A.1 A.2.1 (sk_ret_1 hk ⟨_, rfl⟩) hr
    · exact hr.elim
  | 42, hk, hr =>
    have hr : go_zret st σ K := hr
    unfold go_zret at hr
    split at hr
    · exact gk_ret A.1 A.2.1 (sk_ret_2 hk ⟨_, rfl, hr.1⟩) hr.2
    · exact hr.elim
  | 43, hk, hr =>
    have hr : go_aret st σ K := hr
    unfold go_aret at hr
    split at hr
    · exact gk_ret A.1 A.2.1 (sk_ret_3 hk ⟨_, rfl⟩) hr
    · exact hr.elim
  | 44, hk, hr => exact (show False from hr).elim
  | 45, hk, hr => exact (show False from hr).elim
  | 46, hk, hr =>
    have hr : go_tab a Lv st σ j y := hr
    exact gk_tab A.1 A.2.1 hj hk hr
  | 47, hk, hr => exact (show False from hr).elim
  | 48, hk, hr =>
    have hr : go_const a Lv st σ k := hr
    exact gk_ldc A rfl hk hr
  | 49, hk, hr =>
    have hr : go_ref a Lv st σ k := hr
    exact gk_ldr A rfl hk hr
  | 50, hk, hr =>
    have hr : go_lsw a Lv st σ j y := hr
    exact gk_lsw A.1 A.2.1 hj hk hr
  | n + 51, hk, hr =>
    have bb : ∀ c, c ≤ 51 → Nat.blt (n + 51) c = false := fun c hc => by
      cases e : Nat.blt (n + 51) c with
      | true => have := b_lt e; omega
      | false => rfl
    have hr : go_51 Lv st σ k y pc := by
      unfold gop at hr
      rw [bb 26 (by decide), c_f, bb 39 (by decide), c_f, bb 45 (by decide), c_f, bb 48 (by decide), c_f, bb 50 (by decide), c_f, bb 51 (by decide), c_f] at hr
      exact hr
    unfold go_51 at hr
    rw [A.2.1] at hr
    split at hr
    · rename_i e
      cases e
      exact gk_neg A hr
    · rename_i e
      cases e
      exact gk_two A rfl rfl (fun _ _ _ => rfl) hr
    · rename_i e
      cases e
      exact gk_two A rfl rfl (fun _ _ _ => rfl) hr
    · exact hr.elim
end GSND4
theorem gon_ok {run : gR} {cy : Nat} {cuts : List Nat} {y pc : Nat} {t : List sI} {Lv : gL} {st : List Value} {σ : gS} {K : gK} (hrun : run y pc t Lv st σ K → gE y pc Lv st σ K) (hr : gon run cy cuts y pc t Lv st σ K) : gE y pc Lv st σ K := by
  unfold gon at hr
  cases q : (Nat.beq y cy && gmem cuts pc) with
  | true => rw [q] at hr; exact hr
  | false => rw [q] at hr; exact hrun hr
theorem gw_sound {cy : Nat} {cuts inl : List Nat} {pf : gP} (hpf : gPok pf) : ∀ (n y pc : Nat) (t : List sI) (Lv : gL) (st : List Value) (σ : gS) (K : gK), y < 272 → s_ok y pc t = true → gw cy cuts inl pf n y pc t Lv st σ K → gE y pc Lv st σ K
  | 0, _, _, _, _, _, _, _, _, _, h => h.elim
  | n + 1, y, pc, t, Lv, st, σ, K, hy, hok, hr => by
    have ih := gw_sound (cy := cy) (cuts := cuts) (inl := inl) hpf n
    match t, hok, hr with
    | [], _, hr => exact (show False from hr).elim
    | e :: t, hok, hr =>
      obtain ⟨h1, h2⟩ := s_and (show (s_k y pc e && s_ok y (pc + e.2.2.2) t) = true from hok)
      have hr : gop (gw cy cuts inl pf n) inl pf y pc e.1 e.2.1 e.2.2.1 Lv st σ K (fun Lv st σ => gon (gw cy cuts inl pf n) cy cuts y (pc + e.2.2.2) t Lv st σ K) (gjp (gw cy cuts inl pf n) cy cuts y K) := hr
      unfold s_k at h1
      split at h1
      · rename_i i len hcode
        obtain ⟨h3, h4⟩ := s_and h1
        have e2 := b_eq h3
        refine gop_ok hpf ih ⟨hy, hcode, fun Lv st σ hk => ?_⟩ (fun tgt Lv st σ hj => ?_) (jv_code_ok hcode).2 h4 hr
        · rw [e2]
          exact gon_ok (ih _ _ _ _ _ _ _ hy h2) hk
        · unfold gjp at hj
          split at hj
          · rename_i l hl
            exact gon_ok (ih _ _ _ _ _ _ _ hy (s_find_ok _ 0 (sc_ok y hy) hl)) hj
          · exact hj.elim
      · cases h1
/-- a walk from y's place pc -/
theorem gw_run {cy : Nat} {cuts inl : List Nat} {pf : gP} (hpf : gPok pf) (n : Nat) {y pc : Nat} {Lv : gL} {st : List Value} {σ : gS} {K : gK} (hy : y < 272) (hr : gwm cy cuts inl pf n y pc Lv st σ K) : gE y pc Lv st σ K := by
  unfold gwm at hr
  split at hr
  · rename_i l hl
    exact gw_sound hpf n _ _ _ _ _ _ _ hy (s_find_ok _ 0 (sc_ok y hy) hl) hr
  · exact hr.elim
theorem gpf0_ok : gPok gpf0 := fun z Lv σ q h => by cases h
-- text 6
/-! KNOWN METHODS, LOOPS, NUMBERS -/
abbrev gD : Type := gL → gS → Option (Option Prop × Option Value × gS)
def gFok (z : Nat) (f : gD) : Prop := ∀ (Lv : gL) (σ : gS) (q : Option Prop × Option Value × gS), f Lv σ = some q → (∀ P, q.1 = some P → P) → ∀ K : gK, K q.2.1 q.2.2 → gE z 0 Lv [] σ K
noncomputable def gpl0 (l : List (Nat × gD)) : gP := fun z Lv σ => List.rec (motive := fun _ => Option (Option Prop × Option Value × gS)) none (fun e _ ih => cond (Nat.beq e.1 z) (e.2 Lv σ) ih) l
theorem gpl0_nil : gPok (gpl0 []) := fun z Lv σ q h => by cases h
theorem gpl0_cons {e : Nat × gD} {l : List (Nat × gD)} (he : gFok e.1 e.2) (hl : gPok (gpl0 l)) : gPok (gpl0 (e :: l)) := by
  intro z Lv σ q h hc K hK
  have h : cond (Nat.beq e.1 z) (e.2 Lv σ) (gpl0 l z Lv σ) = some q := h
  cases b : Nat.beq e.1 z with
  | true =>
    rw [b] at h
    rw [← b_eq b]
    exact he Lv σ q h hc K hK
  | false =>
    rw [b] at h
    exact hl z Lv σ q h hc K hK
/-- a loop whose state is known at each turn -/
theorem g_for {y pc : Nat} {K : gK} (n : Nat) (Lv : Nat → gL) (σf : Nat → gS) (hend : gE y pc (Lv n) [] (σf n) K) (hstep : ∀ k, k < n → gE y pc (Lv (k + 1)) [] (σf (k + 1)) K → gE y pc (Lv k) [] (σf k) K) (k : Nat) (hk : k ≤ n) : gE y pc (Lv k) [] (σf k) K := by
  obtain ⟨d, hd⟩ : ∃ d, d = n - k := ⟨_, rfl⟩
  induction d generalizing k with
  | zero =>
    have : k = n := by omega
    rw [this]
    exact hend
  | succ d ih => exact hstep k (by omega) (ih (k + 1) (by omega) (by omega))
/-- truth as a number -/
def bI (p : Prop) [Decidable p] : Int32 := if p then 1 else 0
theorem bI_0 {p : Prop} [Decidable p] : bI p = 0 ↔ ¬ p := by
  unfold bI
  by_cases h : p
  · rw [if_pos h]; exact ⟨fun e => absurd e (by decide), fun e => absurd h e⟩
  · rw [if_neg h]; exact ⟨fun _ => h, fun _ => rfl⟩
theorem bI_01 {p : Prop} [Decidable p] : bI p = 0 ∨ bI p = 1 := by
  unfold bI
  by_cases h : p
  · rw [if_pos h]; exact Or.inr rfl
  · rw [if_neg h]; exact Or.inl rfl
theorem bI_t {p : Prop} [Decidable p] (h : p) : bI p = 1 := if_pos h
theorem bI_f {p : Prop} [Decidable p] (h : ¬ p) : bI p = 0 := if_neg h
/-- small numbers -/
abbrev iN (k : Nat) : Int32 := Int32.ofNat k
theorem iN_int {k : Nat} (h : k < 2147483648) : (iN k).toInt = k := Int32.toInt_ofNat_of_lt (by omega)
theorem iN_lt {k m : Nat} (h : k < 2147483648) (h2 : m < 2147483648) : iN k < iN m ↔ k < m := by
  rw [Int32.lt_iff_toInt_lt, iN_int h, iN_int h2]
  omega
theorem iN_le {k m : Nat} (h : k < 2147483648) (h2 : m < 2147483648) : iN k ≤ iN m ↔ k ≤ m := by
  rw [Int32.le_iff_toInt_le, iN_int h, iN_int h2]
  omega
theorem iN_inj {k m : Nat} (h : k < 2147483648) (h2 : m < 2147483648) : iN k = iN m ↔ k = m := by
  constructor
  · intro e
    have e2 := iN_int h
    rw [e, iN_int h2] at e2
    omega
  · intro e; rw [e]
theorem iN_nat {k : Nat} (h : k < 2147483648) : (iN k).toNatClampNeg = k := sI_clamp h
theorem iN_add (k m : Nat) : iN k + iN m = iN (k + m) := (Int32.ofNat_add k m).symm
theorem iN_one (k : Nat) : iN k + 1 = iN (k + 1) := iN_add k 1
theorem iN_mul (k m : Nat) : iN k * iN m = iN (k * m) := (Int32.ofNat_mul k m).symm
theorem iN_of {x : Int32} (h : 0 ≤ x) : x = iN x.toNatClampNeg ∧ x.toNatClampNeg < 2147483648 := by
  rw [Int32.le_iff_toInt_le] at h
  have h : 0 ≤ x.toInt := h
  have h1 : x.toNatClampNeg = x.toInt.toNat := rfl
  have h2 := Int32.toInt_lt x
  refine ⟨?_, by omega⟩
  apply Int32.toInt_inj.1
  rw [iN_int (by omega)]
  omega
end
section
-- text 7
/-! KNOWN METHODS: the smallest -/
theorem c_no {α : Type} {c : Bool} {a : Option α} {q : α} (h : cond c a none = some q) : c = true ∧ a = some q := by
  cases c
  · cases h
  · exact ⟨rfl, h⟩
set_option maxRecDepth 20000 in
theorem w147 {σ : gS} {K : gK} {x a b : Int32} (h : ((x < a → ((0 : Int32) = 0 ∨ (0 : Int32) = 1) ∧ K (some (.int 0)) σ) ∧ (¬ x < a → ((b < x → ((0 : Int32) = 0 ∨ (0 : Int32) = 1) ∧ K (some (.int 0)) σ) ∧ (¬ b < x → ((1 : Int32) = 0 ∨ (1 : Int32) = 1) ∧ K (some (.int 1)) σ))))) : gE 147 0 [some (.int x), some (.int a), some (.int b)] [] σ K :=
  gw_run (cy := 147) (cuts := []) (inl := []) (pf := gpf0) gpf0_ok 400 (by decide) h
theorem s147 {σ : gS} {K : gK} {x a b : Int32} (hK : K (some (.int (bI (a ≤ x ∧ x ≤ b)))) σ) : gE 147 0 [some (.int x), some (.int a), some (.int b)] [] σ K := by
  refine w147 ?_
  grind [bI]
noncomputable def f147 : gD := fun Lv σ => match Lv with
  | [some (.int x), some (.int a), some (.int b)] => some (none, some (.int (bI (a ≤ x ∧ x ≤ b))), σ)
  | _ => none
theorem ok147 : gFok 147 f147 := by
  intro Lv σ q h hc K hK
  unfold f147 at h
  split at h
  · rename_i x a b
    cases h
    exact s147 hK
  · cases h
set_option maxRecDepth 20000 in
theorem w152 {σ : gS} {K : gK} {x a b : Int32} (h : ((x < a → ((0 : Int32) = 0 ∨ (0 : Int32) = 1) ∧ K (some (.int 0)) σ) ∧ (¬ x < a → ((b < x → ((0 : Int32) = 0 ∨ (0 : Int32) = 1) ∧ K (some (.int 0)) σ) ∧ (¬ b < x → ((1 : Int32) = 0 ∨ (1 : Int32) = 1) ∧ K (some (.int 1)) σ))))) : gE 152 0 [some (.int x), some (.int a), some (.int b)] [] σ K :=
  gw_run (cy := 152) (cuts := []) (inl := []) (pf := gpf0) gpf0_ok 400 (by decide) h
theorem s152 {σ : gS} {K : gK} {x a b : Int32} (hK : K (some (.int (bI (a ≤ x ∧ x ≤ b)))) σ) : gE 152 0 [some (.int x), some (.int a), some (.int b)] [] σ K := by
  refine w152 ?_
  grind [bI]
noncomputable def f152 : gD := fun Lv σ => match Lv with
  | [some (.int x), some (.int a), some (.int b)] => some (none, some (.int (bI (a ≤ x ∧ x ≤ b))), σ)
  | _ => none
theorem ok152 : gFok 152 f152 := by
  intro Lv σ q h hc K hK
  unfold f152 at h
  split at h
  · rename_i x a b
    cases h
    exact s152 hK
  · cases h
set_option maxRecDepth 20000 in
theorem w155 {σ : gS} {K : gK} {t f : Int32} (h : K (some (.int ((9 + (10 * t)) + f))) σ) : gE 155 0 [some (.int t), some (.int f)] [] σ K :=
  gw_run (cy := 155) (cuts := []) (inl := []) (pf := gpf0) gpf0_ok 400 (by decide) h
theorem s155 {σ : gS} {K : gK} {t f : Int32} (hK : K (some (.int (9 + 10 * t + f))) σ) : gE 155 0 [some (.int t), some (.int f)] [] σ K := by
  refine w155 ?_
  grind [bI]
noncomputable def f155 : gD := fun Lv σ => match Lv with
  | [some (.int t), some (.int f)] => some (none, some (.int (9 + 10 * t + f)), σ)
  | _ => none
theorem ok155 : gFok 155 f155 := by
  intro Lv σ q h hc K hK
  unfold f155 at h
  split at h
  · rename_i t f
    cases h
    exact s155 hK
  · cases h
set_option maxRecDepth 20000 in
theorem w160 {σ : gS} {K : gK} {x : Int32} (h : (4 : Int32) ≠ 0 ∧ K (some (.int (x / 4))) σ) : gE 160 0 [some (.int x)] [] σ K :=
  gw_run (cy := 160) (cuts := []) (inl := []) (pf := gpf0) gpf0_ok 400 (by decide) h
theorem s160 {σ : gS} {K : gK} {x : Int32} (hK : K (some (.int (x / 4))) σ) : gE 160 0 [some (.int x)] [] σ K := by
  refine w160 ?_
  grind [bI]
noncomputable def f160 : gD := fun Lv σ => match Lv with
  | [some (.int x)] => some (none, some (.int (x / 4)), σ)
  | _ => none
theorem ok160 : gFok 160 f160 := by
  intro Lv σ q h hc K hK
  unfold f160 at h
  split at h
  · rename_i x
    cases h
    exact s160 hK
  · cases h
set_option maxRecDepth 20000 in
theorem w161 {σ : gS} {K : gK} {x : Int32} (h : (8 : Int32) ≠ 0 ∧ K (some (.int (x / 8))) σ) : gE 161 0 [some (.int x)] [] σ K :=
  gw_run (cy := 161) (cuts := []) (inl := []) (pf := gpf0) gpf0_ok 400 (by decide) h
theorem s161 {σ : gS} {K : gK} {x : Int32} (hK : K (some (.int (x / 8))) σ) : gE 161 0 [some (.int x)] [] σ K := by
  refine w161 ?_
  grind [bI]
noncomputable def f161 : gD := fun Lv σ => match Lv with
  | [some (.int x)] => some (none, some (.int (x / 8)), σ)
  | _ => none
theorem ok161 : gFok 161 f161 := by
  intro Lv σ q h hc K hK
  unfold f161 at h
  split at h
  · rename_i x
    cases h
    exact s161 hK
  · cases h
set_option maxRecDepth 20000 in
theorem w148 {σ : gS} {K : gK} {x : Int32} (h : K (some (.int ((-10) - x))) σ) : gE 148 0 [some (.int x)] [] σ K :=
  gw_run (cy := 148) (cuts := []) (inl := []) (pf := gpf0) gpf0_ok 400 (by decide) h
theorem s148 {σ : gS} {K : gK} {x : Int32} (hK : K (some (.int (-10 - x))) σ) : gE 148 0 [some (.int x)] [] σ K := by
  refine w148 ?_
  grind [bI]
noncomputable def f148 : gD := fun Lv σ => match Lv with
  | [some (.int x)] => some (none, some (.int (-10 - x)), σ)
  | _ => none
theorem ok148 : gFok 148 f148 := by
  intro Lv σ q h hc K hK
  unfold f148 at h
  split at h
  · rename_i x
    cases h
    exact s148 hK
  · cases h
set_option maxRecDepth 20000 in
theorem w206 {σ : gS} {K : gK} {x : Int32} (h : K (some (.int ((-10) - x))) σ) : gE 206 0 [some (.int x)] [] σ K :=
  gw_run (cy := 206) (cuts := []) (inl := []) (pf := gpf0) gpf0_ok 400 (by decide) h
theorem s206 {σ : gS} {K : gK} {x : Int32} (hK : K (some (.int (-10 - x))) σ) : gE 206 0 [some (.int x)] [] σ K := by
  refine w206 ?_
  grind [bI]
noncomputable def f206 : gD := fun Lv σ => match Lv with
  | [some (.int x)] => some (none, some (.int (-10 - x)), σ)
  | _ => none
theorem ok206 : gFok 206 f206 := by
  intro Lv σ q h hc K hK
  unfold f206 at h
  split at h
  · rename_i x
    cases h
    exact s206 hK
  · cases h
theorem gpl_7 : ∀ k, k < 20 → gpl 7 k = 6 + 2 + k := by decide +kernel
theorem gpl_33 : ∀ k, k < 20 → gpl 33 k = 32 + 2 + k := by decide +kernel
theorem gpl_61 : ∀ k, k < 20 → gpl 61 k = 60 + 2 + k := by decide +kernel
theorem gpl_87 : ∀ k, k < 20 → gpl 87 k = 86 + 2 + k := by decide +kernel
theorem gpl_116 : ∀ k, k < 20 → gpl 116 k = 115 + 2 + k := by decide +kernel
theorem gpl_142 : ∀ k, k < 20 → gpl 142 k = 141 + 2 + k := by decide +kernel
theorem gpl_168 : ∀ k, k < 20 → gpl 168 k = 167 + 2 + k := by decide +kernel
theorem gpl_194 : ∀ k, k < 20 → gpl 194 k = 193 + 2 + k := by decide +kernel
theorem gpl_220 : ∀ k, k < 20 → gpl 220 k = 219 + 2 + k := by decide +kernel
theorem gpl_246 : ∀ k, k < 20 → gpl 246 k = 245 + 2 + k := by decide +kernel
theorem gpl_272 : ∀ k, k < 20 → gpl 272 k = 271 + 2 + k := by decide +kernel
theorem gpl_298 : ∀ k, k < 20 → gpl 298 k = 297 + 2 + k := by decide +kernel
theorem n20 {t : Int32} (h : 0 ≤ t ∧ t < 20) : t.toNatClampNeg < 20 := by
  obtain ⟨h1, h2⟩ := iN_of h.1
  have h3 : iN t.toNatClampNeg < iN 20 := by rw [← h1]; exact h.2
  exact (iN_lt h2 (by decide)).mp h3
set_option maxRecDepth 20000 in
theorem w49_6 {σ : gS} {K : gK} {t : Int32} (h : ((t < 0 → K (some (.ref 28)) σ) ∧ (¬ t < 0 → ((¬ t < 20 → K (some (.ref 28)) σ) ∧ (t < 20 → (0 ≤ t ∧ t < 20) ∧ K (some (.ref (gpl 7 t.toNatClampNeg))) σ))))) : gE 49 0 [some (.ref 6), some (.int t)] [] σ K :=
  gw_run (cy := 49) (cuts := []) (inl := []) (pf := gpf0) gpf0_ok 400 (by decide) h
theorem s49_6 {σ : gS} {K : gK} {t : Int32} (hc : 0 ≤ t ∧ t < 20) (hK : K (some (.ref (6 + 2 + t.toNatClampNeg))) σ) : gE 49 0 [some (.ref 6), some (.int t)] [] σ K := by
  refine w49_6 ?_
  simp only [gpl_7 _ (n20 hc), gpl_33 _ (n20 hc), gpl_61 _ (n20 hc), gpl_87 _ (n20 hc), gpl_116 _ (n20 hc), gpl_142 _ (n20 hc), gpl_168 _ (n20 hc), gpl_194 _ (n20 hc), gpl_220 _ (n20 hc), gpl_246 _ (n20 hc), gpl_272 _ (n20 hc), gpl_298 _ (n20 hc)]
  grind
set_option maxRecDepth 20000 in
theorem w49_32 {σ : gS} {K : gK} {t : Int32} (h : ((t < 0 → K (some (.ref 54)) σ) ∧ (¬ t < 0 → ((¬ t < 20 → K (some (.ref 54)) σ) ∧ (t < 20 → (0 ≤ t ∧ t < 20) ∧ K (some (.ref (gpl 33 t.toNatClampNeg))) σ))))) : gE 49 0 [some (.ref 32), some (.int t)] [] σ K :=
  gw_run (cy := 49) (cuts := []) (inl := []) (pf := gpf0) gpf0_ok 400 (by decide) h
theorem s49_32 {σ : gS} {K : gK} {t : Int32} (hc : 0 ≤ t ∧ t < 20) (hK : K (some (.ref (32 + 2 + t.toNatClampNeg))) σ) : gE 49 0 [some (.ref 32), some (.int t)] [] σ K := by
  refine w49_32 ?_
  simp only [gpl_7 _ (n20 hc), gpl_33 _ (n20 hc), gpl_61 _ (n20 hc), gpl_87 _ (n20 hc), gpl_116 _ (n20 hc), gpl_142 _ (n20 hc), gpl_168 _ (n20 hc), gpl_194 _ (n20 hc), gpl_220 _ (n20 hc), gpl_246 _ (n20 hc), gpl_272 _ (n20 hc), gpl_298 _ (n20 hc)]
  grind
set_option maxRecDepth 20000 in
theorem w49_60 {σ : gS} {K : gK} {t : Int32} (h : ((t < 0 → K (some (.ref 82)) σ) ∧ (¬ t < 0 → ((¬ t < 20 → K (some (.ref 82)) σ) ∧ (t < 20 → (0 ≤ t ∧ t < 20) ∧ K (some (.ref (gpl 61 t.toNatClampNeg))) σ))))) : gE 49 0 [some (.ref 60), some (.int t)] [] σ K :=
  gw_run (cy := 49) (cuts := []) (inl := []) (pf := gpf0) gpf0_ok 400 (by decide) h
theorem s49_60 {σ : gS} {K : gK} {t : Int32} (hc : 0 ≤ t ∧ t < 20) (hK : K (some (.ref (60 + 2 + t.toNatClampNeg))) σ) : gE 49 0 [some (.ref 60), some (.int t)] [] σ K := by
  refine w49_60 ?_
  simp only [gpl_7 _ (n20 hc), gpl_33 _ (n20 hc), gpl_61 _ (n20 hc), gpl_87 _ (n20 hc), gpl_116 _ (n20 hc), gpl_142 _ (n20 hc), gpl_168 _ (n20 hc), gpl_194 _ (n20 hc), gpl_220 _ (n20 hc), gpl_246 _ (n20 hc), gpl_272 _ (n20 hc), gpl_298 _ (n20 hc)]
  grind
set_option maxRecDepth 20000 in
theorem w49_86 {σ : gS} {K : gK} {t : Int32} (h : ((t < 0 → K (some (.ref 108)) σ) ∧ (¬ t < 0 → ((¬ t < 20 → K (some (.ref 108)) σ) ∧ (t < 20 → (0 ≤ t ∧ t < 20) ∧ K (some (.ref (gpl 87 t.toNatClampNeg))) σ))))) : gE 49 0 [some (.ref 86), some (.int t)] [] σ K :=
  gw_run (cy := 49) (cuts := []) (inl := []) (pf := gpf0) gpf0_ok 400 (by decide) h
theorem s49_86 {σ : gS} {K : gK} {t : Int32} (hc : 0 ≤ t ∧ t < 20) (hK : K (some (.ref (86 + 2 + t.toNatClampNeg))) σ) : gE 49 0 [some (.ref 86), some (.int t)] [] σ K := by
  refine w49_86 ?_
  simp only [gpl_7 _ (n20 hc), gpl_33 _ (n20 hc), gpl_61 _ (n20 hc), gpl_87 _ (n20 hc), gpl_116 _ (n20 hc), gpl_142 _ (n20 hc), gpl_168 _ (n20 hc), gpl_194 _ (n20 hc), gpl_220 _ (n20 hc), gpl_246 _ (n20 hc), gpl_272 _ (n20 hc), gpl_298 _ (n20 hc)]
  grind
set_option maxRecDepth 20000 in
theorem w49_115 {σ : gS} {K : gK} {t : Int32} (h : ((t < 0 → K (some (.ref 137)) σ) ∧ (¬ t < 0 → ((¬ t < 20 → K (some (.ref 137)) σ) ∧ (t < 20 → (0 ≤ t ∧ t < 20) ∧ K (some (.ref (gpl 116 t.toNatClampNeg))) σ))))) : gE 49 0 [some (.ref 115), some (.int t)] [] σ K :=
  gw_run (cy := 49) (cuts := []) (inl := []) (pf := gpf0) gpf0_ok 400 (by decide) h
theorem s49_115 {σ : gS} {K : gK} {t : Int32} (hc : 0 ≤ t ∧ t < 20) (hK : K (some (.ref (115 + 2 + t.toNatClampNeg))) σ) : gE 49 0 [some (.ref 115), some (.int t)] [] σ K := by
  refine w49_115 ?_
  simp only [gpl_7 _ (n20 hc), gpl_33 _ (n20 hc), gpl_61 _ (n20 hc), gpl_87 _ (n20 hc), gpl_116 _ (n20 hc), gpl_142 _ (n20 hc), gpl_168 _ (n20 hc), gpl_194 _ (n20 hc), gpl_220 _ (n20 hc), gpl_246 _ (n20 hc), gpl_272 _ (n20 hc), gpl_298 _ (n20 hc)]
  grind
set_option maxRecDepth 20000 in
theorem w49_141 {σ : gS} {K : gK} {t : Int32} (h : ((t < 0 → K (some (.ref 163)) σ) ∧ (¬ t < 0 → ((¬ t < 20 → K (some (.ref 163)) σ) ∧ (t < 20 → (0 ≤ t ∧ t < 20) ∧ K (some (.ref (gpl 142 t.toNatClampNeg))) σ))))) : gE 49 0 [some (.ref 141), some (.int t)] [] σ K :=
  gw_run (cy := 49) (cuts := []) (inl := []) (pf := gpf0) gpf0_ok 400 (by decide) h
theorem s49_141 {σ : gS} {K : gK} {t : Int32} (hc : 0 ≤ t ∧ t < 20) (hK : K (some (.ref (141 + 2 + t.toNatClampNeg))) σ) : gE 49 0 [some (.ref 141), some (.int t)] [] σ K := by
  refine w49_141 ?_
  simp only [gpl_7 _ (n20 hc), gpl_33 _ (n20 hc), gpl_61 _ (n20 hc), gpl_87 _ (n20 hc), gpl_116 _ (n20 hc), gpl_142 _ (n20 hc), gpl_168 _ (n20 hc), gpl_194 _ (n20 hc), gpl_220 _ (n20 hc), gpl_246 _ (n20 hc), gpl_272 _ (n20 hc), gpl_298 _ (n20 hc)]
  grind
set_option maxRecDepth 20000 in
theorem w49_167 {σ : gS} {K : gK} {t : Int32} (h : ((t < 0 → K (some (.ref 189)) σ) ∧ (¬ t < 0 → ((¬ t < 20 → K (some (.ref 189)) σ) ∧ (t < 20 → (0 ≤ t ∧ t < 20) ∧ K (some (.ref (gpl 168 t.toNatClampNeg))) σ))))) : gE 49 0 [some (.ref 167), some (.int t)] [] σ K :=
  gw_run (cy := 49) (cuts := []) (inl := []) (pf := gpf0) gpf0_ok 400 (by decide) h
theorem s49_167 {σ : gS} {K : gK} {t : Int32} (hc : 0 ≤ t ∧ t < 20) (hK : K (some (.ref (167 + 2 + t.toNatClampNeg))) σ) : gE 49 0 [some (.ref 167), some (.int t)] [] σ K := by
  refine w49_167 ?_
  simp only [gpl_7 _ (n20 hc), gpl_33 _ (n20 hc), gpl_61 _ (n20 hc), gpl_87 _ (n20 hc), gpl_116 _ (n20 hc), gpl_142 _ (n20 hc), gpl_168 _ (n20 hc), gpl_194 _ (n20 hc), gpl_220 _ (n20 hc), gpl_246 _ (n20 hc), gpl_272 _ (n20 hc), gpl_298 _ (n20 hc)]
  grind
set_option maxRecDepth 20000 in
theorem w49_193 {σ : gS} {K : gK} {t : Int32} (h : ((t < 0 → K (some (.ref 215)) σ) ∧ (¬ t < 0 → ((¬ t < 20 → K (some (.ref 215)) σ) ∧ (t < 20 → (0 ≤ t ∧ t < 20) ∧ K (some (.ref (gpl 194 t.toNatClampNeg))) σ))))) : gE 49 0 [some (.ref 193), some (.int t)] [] σ K :=
  gw_run (cy := 49) (cuts := []) (inl := []) (pf := gpf0) gpf0_ok 400 (by decide) h
theorem s49_193 {σ : gS} {K : gK} {t : Int32} (hc : 0 ≤ t ∧ t < 20) (hK : K (some (.ref (193 + 2 + t.toNatClampNeg))) σ) : gE 49 0 [some (.ref 193), some (.int t)] [] σ K := by
  refine w49_193 ?_
  simp only [gpl_7 _ (n20 hc), gpl_33 _ (n20 hc), gpl_61 _ (n20 hc), gpl_87 _ (n20 hc), gpl_116 _ (n20 hc), gpl_142 _ (n20 hc), gpl_168 _ (n20 hc), gpl_194 _ (n20 hc), gpl_220 _ (n20 hc), gpl_246 _ (n20 hc), gpl_272 _ (n20 hc), gpl_298 _ (n20 hc)]
  grind
set_option maxRecDepth 20000 in
theorem w49_219 {σ : gS} {K : gK} {t : Int32} (h : ((t < 0 → K (some (.ref 241)) σ) ∧ (¬ t < 0 → ((¬ t < 20 → K (some (.ref 241)) σ) ∧ (t < 20 → (0 ≤ t ∧ t < 20) ∧ K (some (.ref (gpl 220 t.toNatClampNeg))) σ))))) : gE 49 0 [some (.ref 219), some (.int t)] [] σ K :=
  gw_run (cy := 49) (cuts := []) (inl := []) (pf := gpf0) gpf0_ok 400 (by decide) h
theorem s49_219 {σ : gS} {K : gK} {t : Int32} (hc : 0 ≤ t ∧ t < 20) (hK : K (some (.ref (219 + 2 + t.toNatClampNeg))) σ) : gE 49 0 [some (.ref 219), some (.int t)] [] σ K := by
  refine w49_219 ?_
  simp only [gpl_7 _ (n20 hc), gpl_33 _ (n20 hc), gpl_61 _ (n20 hc), gpl_87 _ (n20 hc), gpl_116 _ (n20 hc), gpl_142 _ (n20 hc), gpl_168 _ (n20 hc), gpl_194 _ (n20 hc), gpl_220 _ (n20 hc), gpl_246 _ (n20 hc), gpl_272 _ (n20 hc), gpl_298 _ (n20 hc)]
  grind
set_option maxRecDepth 20000 in
theorem w49_245 {σ : gS} {K : gK} {t : Int32} (h : ((t < 0 → K (some (.ref 267)) σ) ∧ (¬ t < 0 → ((¬ t < 20 → K (some (.ref 267)) σ) ∧ (t < 20 → (0 ≤ t ∧ t < 20) ∧ K (some (.ref (gpl 246 t.toNatClampNeg))) σ))))) : gE 49 0 [some (.ref 245), some (.int t)] [] σ K :=
  gw_run (cy := 49) (cuts := []) (inl := []) (pf := gpf0) gpf0_ok 400 (by decide) h
theorem s49_245 {σ : gS} {K : gK} {t : Int32} (hc : 0 ≤ t ∧ t < 20) (hK : K (some (.ref (245 + 2 + t.toNatClampNeg))) σ) : gE 49 0 [some (.ref 245), some (.int t)] [] σ K := by
  refine w49_245 ?_
  simp only [gpl_7 _ (n20 hc), gpl_33 _ (n20 hc), gpl_61 _ (n20 hc), gpl_87 _ (n20 hc), gpl_116 _ (n20 hc), gpl_142 _ (n20 hc), gpl_168 _ (n20 hc), gpl_194 _ (n20 hc), gpl_220 _ (n20 hc), gpl_246 _ (n20 hc), gpl_272 _ (n20 hc), gpl_298 _ (n20 hc)]
  grind
set_option maxRecDepth 20000 in
theorem w49_271 {σ : gS} {K : gK} {t : Int32} (h : ((t < 0 → K (some (.ref 293)) σ) ∧ (¬ t < 0 → ((¬ t < 20 → K (some (.ref 293)) σ) ∧ (t < 20 → (0 ≤ t ∧ t < 20) ∧ K (some (.ref (gpl 272 t.toNatClampNeg))) σ))))) : gE 49 0 [some (.ref 271), some (.int t)] [] σ K :=
  gw_run (cy := 49) (cuts := []) (inl := []) (pf := gpf0) gpf0_ok 400 (by decide) h
theorem s49_271 {σ : gS} {K : gK} {t : Int32} (hc : 0 ≤ t ∧ t < 20) (hK : K (some (.ref (271 + 2 + t.toNatClampNeg))) σ) : gE 49 0 [some (.ref 271), some (.int t)] [] σ K := by
  refine w49_271 ?_
  simp only [gpl_7 _ (n20 hc), gpl_33 _ (n20 hc), gpl_61 _ (n20 hc), gpl_87 _ (n20 hc), gpl_116 _ (n20 hc), gpl_142 _ (n20 hc), gpl_168 _ (n20 hc), gpl_194 _ (n20 hc), gpl_220 _ (n20 hc), gpl_246 _ (n20 hc), gpl_272 _ (n20 hc), gpl_298 _ (n20 hc)]
  grind
set_option maxRecDepth 20000 in
theorem w49_297 {σ : gS} {K : gK} {t : Int32} (h : ((t < 0 → K (some (.ref 319)) σ) ∧ (¬ t < 0 → ((¬ t < 20 → K (some (.ref 319)) σ) ∧ (t < 20 → (0 ≤ t ∧ t < 20) ∧ K (some (.ref (gpl 298 t.toNatClampNeg))) σ))))) : gE 49 0 [some (.ref 297), some (.int t)] [] σ K :=
  gw_run (cy := 49) (cuts := []) (inl := []) (pf := gpf0) gpf0_ok 400 (by decide) h
theorem s49_297 {σ : gS} {K : gK} {t : Int32} (hc : 0 ≤ t ∧ t < 20) (hK : K (some (.ref (297 + 2 + t.toNatClampNeg))) σ) : gE 49 0 [some (.ref 297), some (.int t)] [] σ K := by
  refine w49_297 ?_
  simp only [gpl_7 _ (n20 hc), gpl_33 _ (n20 hc), gpl_61 _ (n20 hc), gpl_87 _ (n20 hc), gpl_116 _ (n20 hc), gpl_142 _ (n20 hc), gpl_168 _ (n20 hc), gpl_194 _ (n20 hc), gpl_220 _ (n20 hc), gpl_246 _ (n20 hc), gpl_272 _ (n20 hc), gpl_298 _ (n20 hc)]
  grind
noncomputable def f49 : gD := fun Lv σ => match Lv with
  | [some (.ref p), some (.int t)] => cond (Nat.beq p 6 || Nat.beq p 32 || Nat.beq p 60 || Nat.beq p 86 || Nat.beq p 115 || Nat.beq p 141 || Nat.beq p 167 || Nat.beq p 193 || Nat.beq p 219 || Nat.beq p 245 || Nat.beq p 271 || Nat.beq p 297) (some (some (0 ≤ t ∧ t < 20), some (.ref (p + 2 + t.toNatClampNeg)), σ)) none
  | _ => none
theorem ok49 : gFok 49 f49 := by
  intro Lv σ q h hc K hK
  unfold f49 at h
  split at h
  · rename_i p t
    obtain ⟨hb, h⟩ := c_no h
    have hb0 := hb
    rcases s_or hb0 with hb0 | hb0
    · rcases s_or hb0 with hb0 | hb0
      · rcases s_or hb0 with hb0 | hb0
        · rcases s_or hb0 with hb0 | hb0
          · rcases s_or hb0 with hb0 | hb0
            · rcases s_or hb0 with hb0 | hb0
              · rcases s_or hb0 with hb0 | hb0
                · rcases s_or hb0 with hb0 | hb0
                  · rcases s_or hb0 with hb0 | hb0
                    · rcases s_or hb0 with hb0 | hb0
                      · rcases s_or hb0 with hb0 | hb0
                        · have e := b_eq hb0
                          subst e
                          cases h
                          exact s49_6 (hc _ rfl) hK
                        · have e := b_eq hb0
                          subst e
                          cases h
                          exact s49_32 (hc _ rfl) hK
                      · have e := b_eq hb0
                        subst e
                        cases h
                        exact s49_60 (hc _ rfl) hK
                    · have e := b_eq hb0
                      subst e
                      cases h
                      exact s49_86 (hc _ rfl) hK
                  · have e := b_eq hb0
                    subst e
                    cases h
                    exact s49_115 (hc _ rfl) hK
                · have e := b_eq hb0
                  subst e
                  cases h
                  exact s49_141 (hc _ rfl) hK
              · have e := b_eq hb0
                subst e
                cases h
                exact s49_167 (hc _ rfl) hK
            · have e := b_eq hb0
              subst e
              cases h
              exact s49_193 (hc _ rfl) hK
          · have e := b_eq hb0
            subst e
            cases h
            exact s49_219 (hc _ rfl) hK
        · have e := b_eq hb0
          subst e
          cases h
          exact s49_245 (hc _ rfl) hK
      · have e := b_eq hb0
        subst e
        cases h
        exact s49_271 (hc _ rfl) hK
    · have e := b_eq hb0
      subst e
      cases h
      exact s49_297 (hc _ rfl) hK
  · cases h
set_option maxRecDepth 20000 in
theorem w50_6 {σ : gS} {K : gK} (h : K (some (.int ((σ 6 4) * 4))) σ) : gE 50 0 [some (.ref 6)] [] σ K :=
  gw_run (cy := 50) (cuts := []) (inl := []) (pf := gpf0) gpf0_ok 400 (by decide) h
theorem s50_6 {σ : gS} {K : gK} (hK : K (some (.int (σ 6 4 * 4))) σ) : gE 50 0 [some (.ref 6)] [] σ K := by
  exact w50_6 hK
set_option maxRecDepth 20000 in
theorem w50_32 {σ : gS} {K : gK} (h : K (some (.int ((σ 32 4) * 4))) σ) : gE 50 0 [some (.ref 32)] [] σ K :=
  gw_run (cy := 50) (cuts := []) (inl := []) (pf := gpf0) gpf0_ok 400 (by decide) h
theorem s50_32 {σ : gS} {K : gK} (hK : K (some (.int (σ 32 4 * 4))) σ) : gE 50 0 [some (.ref 32)] [] σ K := by
  exact w50_32 hK
noncomputable def f50 : gD := fun Lv σ => match Lv with
  | [some (.ref p)] => cond (Nat.beq p 6 || Nat.beq p 32) (some (none, some (.int (σ p 4 * 4)), σ)) none
  | _ => none
theorem ok50 : gFok 50 f50 := by
  intro Lv σ q h hc K hK
  unfold f50 at h
  split at h
  · rename_i p
    obtain ⟨hb, h⟩ := c_no h
    have hb0 := hb
    rcases s_or hb0 with hb0 | hb0
    · have e := b_eq hb0
      subst e
      cases h
      exact s50_6 hK
    · have e := b_eq hb0
      subst e
      cases h
      exact s50_32 hK
  · cases h
noncomputable def gpfA_l : List (Nat × gD) := (147, f147) :: (152, f152) :: (155, f155) :: (160, f160) :: (161, f161) :: (148, f148) :: (206, f206) :: (49, f49) :: (50, f50) :: []
noncomputable def gpfA : gP := gpl0 gpfA_l
theorem gpfA_ok : gPok gpfA := gpl0_cons ok147 (gpl0_cons ok152 (gpl0_cons ok155 (gpl0_cons ok160 (gpl0_cons ok161 (gpl0_cons ok148 (gpl0_cons ok206 (gpl0_cons ok49 (gpl0_cons ok50 (gpl0_nil)))))))))
-- text 8
/-! ROWS OF NUMBERS: counting, finding, adding up; the reference's row read -/
theorem g_forI {y pc : Nat} {K : gK} (n : Nat) (Lv : Nat → gL) (σf : Nat → gS) (Inv : Nat → Prop) (hend : Inv n → gE y pc (Lv n) [] (σf n) K) (hstep : ∀ k, k < n → Inv k → (Inv (k + 1) → gE y pc (Lv (k + 1)) [] (σf (k + 1)) K) → gE y pc (Lv k) [] (σf k) K) (k : Nat) (hk : k ≤ n) (hi : Inv k) : gE y pc (Lv k) [] (σf k) K := by
  obtain ⟨d, hd⟩ : ∃ d, d = n - k := ⟨_, rfl⟩
  induction d generalizing k with
  | zero =>
    have : k = n := by omega
    subst this
    exact hend hi
  | succ d ih => exact hstep k (by omega) hi (fun h => ih (k + 1) (by omega) h (by omega))
def fnd (P : Nat → Bool) : Nat → Int32
  | 0 => -2
  | n + 1 => if fnd P n = -2 then (if P n = true then iN n else -2) else fnd P n
theorem iN_ne {k : Nat} (h : k < 2147483648) : iN k ≠ -2 := by
  intro e
  have e2 := iN_int h
  rw [e] at e2
  have : (-2 : Int32).toInt = -2 := by decide
  omega
theorem fnd_none {P : Nat → Bool} : ∀ {n : Nat}, (∀ j, j < n → P j = false) → fnd P n = -2
  | 0, _ => rfl
  | n + 1, h => by
    unfold fnd
    rw [fnd_none (fun j hj => h j (by omega)), if_pos rfl, h n (by omega), if_neg (by decide)]
theorem fnd_some {P : Nat → Bool} {k : Nat} (hk : P k = true) (hj : ∀ j, j < k → P j = false) : ∀ {n : Nat}, n < 2147483648 → k < n → fnd P n = iN k
  | 0, _, h => absurd h (Nat.not_lt_zero k)
  | n + 1, hn, h => by
    unfold fnd
    rcases Nat.lt_or_ge k n with q | q
    · rw [fnd_some hk hj (by omega) q, if_neg (iN_ne (by omega))]
    · have : k = n := by omega
      subst this
      rw [fnd_none hj, if_pos rfl, if_pos hk]
def cnt (P : Nat → Bool) : Nat → Nat
  | 0 => 0
  | n + 1 => cnt P n + (if P n = true then 1 else 0)
def sm (g : Nat → Int32) : Nat → Int32
  | 0 => 0
  | n + 1 => sm g n + g n
theorem cnt_le (P : Nat → Bool) : ∀ n, cnt P n ≤ n
  | 0 => Nat.le_refl 0
  | n + 1 => by
    have := cnt_le P n
    unfold cnt
    split <;> omega
theorem cnt_t {P : Nat → Bool} {n : Nat} (h : P n = true) : cnt P (n + 1) = cnt P n + 1 := by
  show cnt P n + (if P n = true then 1 else 0) = _
  rw [if_pos h]
theorem cnt_f {P : Nat → Bool} {n : Nat} (h : ¬ P n = true) : cnt P (n + 1) = cnt P n := by
  show cnt P n + (if P n = true then 1 else 0) = _
  rw [if_neg h]
  rfl
theorem cnt_congr {P Q : Nat → Bool} : ∀ {n : Nat}, (∀ j, j < n → P j = Q j) → cnt P n = cnt Q n
  | 0, _ => rfl
  | n + 1, h => by unfold cnt; rw [cnt_congr (fun j hj => h j (by omega)), h n (by omega)]
theorem sm_congr {f g : Nat → Int32} : ∀ {n : Nat}, (∀ j, j < n → f j = g j) → sm f n = sm g n
  | 0, _ => rfl
  | n + 1, h => by unfold sm; rw [sm_congr (fun j hj => h j (by omega)), h n (by omega)]
theorem fnd_congr {P Q : Nat → Bool} : ∀ {n : Nat}, (∀ j, j < n → P j = Q j) → fnd P n = fnd Q n
  | 0, _ => rfl
  | n + 1, h => by unfold fnd; rw [fnd_congr (fun j hj => h j (by omega)), h n (by omega)]
/-- a train as a row of numbers (the reference's): 0 rows, 1 first, 2 time, 3 how many travellers, 4 .. 8 counts, from 9 on ten numbers for each traveller, 209 how many entries, from 210 on the entries -/
abbrev gW : Type := Nat → Int32
def nM (R : gW) : Nat := (R 3).toNatClampNeg
def fld (R : gW) (t f : Nat) : Int32 := R (9 + 10 * t + f)
theorem nM_of {R : gW} (h : 0 ≤ R 3 ∧ R 3 ≤ 20) : R 3 = iN (nM R) ∧ nM R ≤ 20 := by
  obtain ⟨h1, h2⟩ := iN_of h.1
  refine ⟨h1, ?_⟩
  have h3 : iN (nM R) ≤ iN 20 := by
    show iN (R 3).toNatClampNeg ≤ _
    rw [← h1]
    exact h.2
  exact (iN_le h2 (by decide)).mp h3
theorem ixn (f : Nat) (k : Nat) (hk : k < 20) (hf : f < 20) : (9 + 10 * iN k + iN f).toNatClampNeg = 9 + 10 * k + f := by
  have e : (9 + 10 * iN k + iN f : Int32) = iN (9 + 10 * k + f) := by
    show iN 9 + iN 10 * iN k + iN f = _
    rw [iN_mul, iN_add, iN_add]
  rw [e, iN_nat (by omega)]
theorem ixbn (f : Nat) (k : Nat) (hk : k < 20) (hf : f < 20) : 0 ≤ 9 + 10 * iN k + iN f ∧ 9 + 10 * iN k + iN f < 330 := by
  have e : (9 + 10 * iN k + iN f : Int32) = iN (9 + 10 * k + f) := by
    show iN 9 + iN 10 * iN k + iN f = _
    rw [iN_mul, iN_add, iN_add]
  rw [e]
  constructor
  · show iN 0 ≤ _
    exact (iN_le (by decide) (by omega)).mpr (by omega)
  · show _ < iN 330
    exact (iN_lt (by omega) (by decide)).mpr (by omega)
theorem ix0 {k : Nat} (hk : k < 20) : (9 + 10 * iN k + 0).toNatClampNeg = 9 + 10 * k + 0 := ixn 0 k hk (by decide)
theorem ixb0 {k : Nat} (hk : k < 20) : 0 ≤ 9 + 10 * iN k + 0 ∧ 9 + 10 * iN k + 0 < 330 := ixbn 0 k hk (by decide)
theorem ix1 {k : Nat} (hk : k < 20) : (9 + 10 * iN k + 1).toNatClampNeg = 9 + 10 * k + 1 := ixn 1 k hk (by decide)
theorem ixb1 {k : Nat} (hk : k < 20) : 0 ≤ 9 + 10 * iN k + 1 ∧ 9 + 10 * iN k + 1 < 330 := ixbn 1 k hk (by decide)
theorem ix2 {k : Nat} (hk : k < 20) : (9 + 10 * iN k + 2).toNatClampNeg = 9 + 10 * k + 2 := ixn 2 k hk (by decide)
theorem ixb2 {k : Nat} (hk : k < 20) : 0 ≤ 9 + 10 * iN k + 2 ∧ 9 + 10 * iN k + 2 < 330 := ixbn 2 k hk (by decide)
theorem ix3 {k : Nat} (hk : k < 20) : (9 + 10 * iN k + 3).toNatClampNeg = 9 + 10 * k + 3 := ixn 3 k hk (by decide)
theorem ixb3 {k : Nat} (hk : k < 20) : 0 ≤ 9 + 10 * iN k + 3 ∧ 9 + 10 * iN k + 3 < 330 := ixbn 3 k hk (by decide)
theorem ix4 {k : Nat} (hk : k < 20) : (9 + 10 * iN k + 4).toNatClampNeg = 9 + 10 * k + 4 := ixn 4 k hk (by decide)
theorem ixb4 {k : Nat} (hk : k < 20) : 0 ≤ 9 + 10 * iN k + 4 ∧ 9 + 10 * iN k + 4 < 330 := ixbn 4 k hk (by decide)
theorem ix5 {k : Nat} (hk : k < 20) : (9 + 10 * iN k + 5).toNatClampNeg = 9 + 10 * k + 5 := ixn 5 k hk (by decide)
theorem ixb5 {k : Nat} (hk : k < 20) : 0 ≤ 9 + 10 * iN k + 5 ∧ 9 + 10 * iN k + 5 < 330 := ixbn 5 k hk (by decide)
theorem ix6 {k : Nat} (hk : k < 20) : (9 + 10 * iN k + 6).toNatClampNeg = 9 + 10 * k + 6 := ixn 6 k hk (by decide)
theorem ixb6 {k : Nat} (hk : k < 20) : 0 ≤ 9 + 10 * iN k + 6 ∧ 9 + 10 * iN k + 6 < 330 := ixbn 6 k hk (by decide)
theorem ix7 {k : Nat} (hk : k < 20) : (9 + 10 * iN k + 7).toNatClampNeg = 9 + 10 * k + 7 := ixn 7 k hk (by decide)
theorem ixb7 {k : Nat} (hk : k < 20) : 0 ≤ 9 + 10 * iN k + 7 ∧ 9 + 10 * iN k + 7 < 330 := ixbn 7 k hk (by decide)
theorem ix8 {k : Nat} (hk : k < 20) : (9 + 10 * iN k + 8).toNatClampNeg = 9 + 10 * k + 8 := ixn 8 k hk (by decide)
theorem ixb8 {k : Nat} (hk : k < 20) : 0 ≤ 9 + 10 * iN k + 8 ∧ 9 + 10 * iN k + 8 < 330 := ixbn 8 k hk (by decide)
theorem ix9 {k : Nat} (hk : k < 20) : (9 + 10 * iN k + 9).toNatClampNeg = 9 + 10 * k + 9 := ixn 9 k hk (by decide)
theorem ixb9 {k : Nat} (hk : k < 20) : 0 ≤ 9 + 10 * iN k + 9 ∧ 9 + 10 * iN k + 9 < 330 := ixbn 9 k hk (by decide)
theorem ixc {c : Int32} (h : 0 ≤ c ∧ c < 330) : 0 ≤ c ∧ c < 330 := h
def fWho (R : gW) (x : Int32) : Int32 := fnd (fun t => decide (fld R t 0 = x)) (nM R)
end
section
-- text 9
/-! THE REFERENCE: what asks a row of numbers -/
theorem nM_lt {R : gW} {k : Nat} (hc : 0 ≤ R 3 ∧ R 3 ≤ 20) (hk : k < 2147483648) : iN k < R 3 ↔ k < nM R := by
  obtain ⟨h1, h2⟩ := nM_of hc
  have e : iN k < R 3 ↔ iN k < iN (nM R) := by rw [← h1]
  rw [e, iN_lt hk (by omega)]
theorem t20 {t : Int32} (h : 0 ≤ t ∧ t < 20) : t = iN t.toNatClampNeg ∧ t.toNatClampNeg < 20 := by
  obtain ⟨h1, h2⟩ := iN_of h.1
  refine ⟨h1, ?_⟩
  have h3 : iN t.toNatClampNeg < iN 20 := by rw [← h1]; exact h.2
  exact (iN_lt h2 (by decide)).mp h3
set_option maxRecDepth 20000 in
theorem w165_324 {σ : gS} {K : gK} {x : Int32} (h : gE 165 2 [some (.ref 324), some (.int x), some (.int 0)] [] σ K) : gE 165 0 [some (.ref 324), some (.int x), none] [] σ K :=
  gw_run (cy := 165) (cuts := [2]) (inl := []) (pf := gpfA) gpfA_ok 400 (by decide) h
set_option maxRecDepth 20000 in
theorem v165_324 {σ : gS} {K : gK} {x t : Int32} (h : (0 ≤ (3 : Int32) ∧ (3 : Int32) < 330) ∧ ((¬ t < (σ 324 3) → K (some (.int (-2))) σ) ∧ (t < (σ 324 3) → (0 ≤ (9 + 10 * t + (0 : Int32)) ∧ (9 + 10 * t + (0 : Int32)) < 330) ∧ ((¬ (σ 324 (9 + 10 * t + (0 : Int32)).toNatClampNeg) = x → gE 165 2 [some (.ref 324), some (.int x), some (.int (t + 1))] [] σ K) ∧ ((σ 324 (9 + 10 * t + (0 : Int32)).toNatClampNeg) = x → K (some (.int t)) σ))))) : gE 165 2 [some (.ref 324), some (.int x), some (.int t)] [] σ K :=
  gw_run (cy := 165) (cuts := [2]) (inl := []) (pf := gpfA) gpfA_ok 400 (by decide) h
theorem s165_324 {σ : gS} {K : gK} {x : Int32} (hc : 0 ≤ σ 324 3 ∧ σ 324 3 ≤ 20) (hK : K (some (.int (fWho (σ 324) x))) σ) : gE 165 0 [some (.ref 324), some (.int x), none] [] σ K := by
  refine w165_324 ?_
  refine g_forI (nM (σ 324)) (fun k => [some (.ref 324), some (.int x), some (.int (iN k))]) (fun _ => σ) (fun k => ∀ j, j < k → fld (σ 324) j 0 ≠ x) (fun hi => ?_) (fun k hk hi ih => ?_) 0 (Nat.zero_le _) (fun j hj => absurd hj (Nat.not_lt_zero j))
  · have hn := (nM_of hc).2
    refine v165_324 ⟨by decide, fun _ => ?_, fun h => ?_⟩
    · have e : fWho (σ 324) x = -2 := fnd_none (fun j hj => decide_eq_false (hi j hj))
      rw [e] at hK; exact hK
    · rw [nM_lt hc (by omega)] at h; omega
  · have hn := (nM_of hc).2
    have hk20 : k < 20 := by omega
    refine v165_324 ⟨by decide, fun h => ?_, fun h => ⟨ixb0 hk20, fun h2 => ?_, fun h2 => ?_⟩⟩
    · rw [nM_lt hc (by omega)] at h; omega
    · rw [ix0 hk20] at h2
      rw [iN_one]
      refine ih (fun j hj => ?_)
      rcases Nat.lt_or_ge j k with q | q
      · exact hi j q
      · have : j = k := by omega
        subst this; exact h2
    · rw [ix0 hk20] at h2
      have e : fWho (σ 324) x = iN k := fnd_some (decide_eq_true h2) (fun j hj => decide_eq_false (hi j hj)) (by omega) hk
      rw [e] at hK; exact hK
set_option maxRecDepth 20000 in
theorem w165_325 {σ : gS} {K : gK} {x : Int32} (h : gE 165 2 [some (.ref 325), some (.int x), some (.int 0)] [] σ K) : gE 165 0 [some (.ref 325), some (.int x), none] [] σ K :=
  gw_run (cy := 165) (cuts := [2]) (inl := []) (pf := gpfA) gpfA_ok 400 (by decide) h
set_option maxRecDepth 20000 in
theorem v165_325 {σ : gS} {K : gK} {x t : Int32} (h : (0 ≤ (3 : Int32) ∧ (3 : Int32) < 330) ∧ ((¬ t < (σ 325 3) → K (some (.int (-2))) σ) ∧ (t < (σ 325 3) → (0 ≤ (9 + 10 * t + (0 : Int32)) ∧ (9 + 10 * t + (0 : Int32)) < 330) ∧ ((¬ (σ 325 (9 + 10 * t + (0 : Int32)).toNatClampNeg) = x → gE 165 2 [some (.ref 325), some (.int x), some (.int (t + 1))] [] σ K) ∧ ((σ 325 (9 + 10 * t + (0 : Int32)).toNatClampNeg) = x → K (some (.int t)) σ))))) : gE 165 2 [some (.ref 325), some (.int x), some (.int t)] [] σ K :=
  gw_run (cy := 165) (cuts := [2]) (inl := []) (pf := gpfA) gpfA_ok 400 (by decide) h
theorem s165_325 {σ : gS} {K : gK} {x : Int32} (hc : 0 ≤ σ 325 3 ∧ σ 325 3 ≤ 20) (hK : K (some (.int (fWho (σ 325) x))) σ) : gE 165 0 [some (.ref 325), some (.int x), none] [] σ K := by
  refine w165_325 ?_
  refine g_forI (nM (σ 325)) (fun k => [some (.ref 325), some (.int x), some (.int (iN k))]) (fun _ => σ) (fun k => ∀ j, j < k → fld (σ 325) j 0 ≠ x) (fun hi => ?_) (fun k hk hi ih => ?_) 0 (Nat.zero_le _) (fun j hj => absurd hj (Nat.not_lt_zero j))
  · have hn := (nM_of hc).2
    refine v165_325 ⟨by decide, fun _ => ?_, fun h => ?_⟩
    · have e : fWho (σ 325) x = -2 := fnd_none (fun j hj => decide_eq_false (hi j hj))
      rw [e] at hK; exact hK
    · rw [nM_lt hc (by omega)] at h; omega
  · have hn := (nM_of hc).2
    have hk20 : k < 20 := by omega
    refine v165_325 ⟨by decide, fun h => ?_, fun h => ⟨ixb0 hk20, fun h2 => ?_, fun h2 => ?_⟩⟩
    · rw [nM_lt hc (by omega)] at h; omega
    · rw [ix0 hk20] at h2
      rw [iN_one]
      refine ih (fun j hj => ?_)
      rcases Nat.lt_or_ge j k with q | q
      · exact hi j q
      · have : j = k := by omega
        subst this; exact h2
    · rw [ix0 hk20] at h2
      have e : fWho (σ 325) x = iN k := fnd_some (decide_eq_true h2) (fun j hj => decide_eq_false (hi j hj)) (by omega) hk
      rw [e] at hK; exact hK
set_option maxRecDepth 20000 in
theorem w165_326 {σ : gS} {K : gK} {x : Int32} (h : gE 165 2 [some (.ref 326), some (.int x), some (.int 0)] [] σ K) : gE 165 0 [some (.ref 326), some (.int x), none] [] σ K :=
  gw_run (cy := 165) (cuts := [2]) (inl := []) (pf := gpfA) gpfA_ok 400 (by decide) h
set_option maxRecDepth 20000 in
theorem v165_326 {σ : gS} {K : gK} {x t : Int32} (h : (0 ≤ (3 : Int32) ∧ (3 : Int32) < 330) ∧ ((¬ t < (σ 326 3) → K (some (.int (-2))) σ) ∧ (t < (σ 326 3) → (0 ≤ (9 + 10 * t + (0 : Int32)) ∧ (9 + 10 * t + (0 : Int32)) < 330) ∧ ((¬ (σ 326 (9 + 10 * t + (0 : Int32)).toNatClampNeg) = x → gE 165 2 [some (.ref 326), some (.int x), some (.int (t + 1))] [] σ K) ∧ ((σ 326 (9 + 10 * t + (0 : Int32)).toNatClampNeg) = x → K (some (.int t)) σ))))) : gE 165 2 [some (.ref 326), some (.int x), some (.int t)] [] σ K :=
  gw_run (cy := 165) (cuts := [2]) (inl := []) (pf := gpfA) gpfA_ok 400 (by decide) h
theorem s165_326 {σ : gS} {K : gK} {x : Int32} (hc : 0 ≤ σ 326 3 ∧ σ 326 3 ≤ 20) (hK : K (some (.int (fWho (σ 326) x))) σ) : gE 165 0 [some (.ref 326), some (.int x), none] [] σ K := by
  refine w165_326 ?_
  refine g_forI (nM (σ 326)) (fun k => [some (.ref 326), some (.int x), some (.int (iN k))]) (fun _ => σ) (fun k => ∀ j, j < k → fld (σ 326) j 0 ≠ x) (fun hi => ?_) (fun k hk hi ih => ?_) 0 (Nat.zero_le _) (fun j hj => absurd hj (Nat.not_lt_zero j))
  · have hn := (nM_of hc).2
    refine v165_326 ⟨by decide, fun _ => ?_, fun h => ?_⟩
    · have e : fWho (σ 326) x = -2 := fnd_none (fun j hj => decide_eq_false (hi j hj))
      rw [e] at hK; exact hK
    · rw [nM_lt hc (by omega)] at h; omega
  · have hn := (nM_of hc).2
    have hk20 : k < 20 := by omega
    refine v165_326 ⟨by decide, fun h => ?_, fun h => ⟨ixb0 hk20, fun h2 => ?_, fun h2 => ?_⟩⟩
    · rw [nM_lt hc (by omega)] at h; omega
    · rw [ix0 hk20] at h2
      rw [iN_one]
      refine ih (fun j hj => ?_)
      rcases Nat.lt_or_ge j k with q | q
      · exact hi j q
      · have : j = k := by omega
        subst this; exact h2
    · rw [ix0 hk20] at h2
      have e : fWho (σ 326) x = iN k := fnd_some (decide_eq_true h2) (fun j hj => decide_eq_false (hi j hj)) (by omega) hk
      rw [e] at hK; exact hK
noncomputable def f165 : gD := fun Lv σ => match Lv with
  | [some (.ref p), some (.int x), none] => cond (Nat.beq p 324 || Nat.beq p 325 || Nat.beq p 326) (some (some (0 ≤ σ p 3 ∧ σ p 3 ≤ 20), some (.int (fWho (σ p) x)), σ)) none
  | _ => none
theorem ok165 : gFok 165 f165 := by
  intro Lv σ q h hc K hK
  unfold f165 at h
  split at h
  · rename_i p x
    obtain ⟨hb, h⟩ := c_no h
    have hb0 := hb
    rcases s_or hb0 with hb0 | hb0
    · rcases s_or hb0 with hb0 | hb0
      · have e := b_eq hb0
        subst e
        cases h
        exact s165_324 (hc _ rfl) hK
      · have e := b_eq hb0
        subst e
        cases h
        exact s165_325 (hc _ rfl) hK
    · have e := b_eq hb0
      subst e
      cases h
      exact s165_326 (hc _ rfl) hK
  · cases h
def kinP (R : gW) (t : Nat) (b : Int32) (o : Nat) : Bool := decide (o ≠ t ∧ 0 < fld R t 2 ∧ fld R o 2 = fld R t 2 ∧ fld R o 0 / 8 = b)
def kin (R : gW) (t : Nat) (b : Int32) : Int32 := iN (cnt (kinP R t b) (nM R))
set_option maxRecDepth 20000 in
theorem w168_324 {σ : gS} {K : gK} {t b : Int32} (h : (0 ≤ (9 + 10 * t + (2 : Int32)) ∧ (9 + 10 * t + (2 : Int32)) < 330) ∧ gE 168 14 [some (.ref 324), some (.int t), some (.int b), some (.int 0), some (.int (σ 324 (9 + 10 * t + (2 : Int32)).toNatClampNeg)), some (.int 0)] [] σ K) : gE 168 0 [some (.ref 324), some (.int t), some (.int b), none, none, none] [] σ K :=
  gw_run (cy := 168) (cuts := [14]) (inl := []) (pf := gpfA) gpfA_ok 400 (by decide) h
set_option maxRecDepth 20000 in
theorem v168_324 {σ : gS} {K : gK} {t b n m o : Int32} (h : (0 ≤ (3 : Int32) ∧ (3 : Int32) < 330) ∧ ((¬ o < (σ 324 3) → K (some (.int n)) σ) ∧ (o < (σ 324 3) → ((o = t → gE 168 14 [some (.ref 324), some (.int t), some (.int b), some (.int n), some (.int m), some (.int (o + 1))] [] σ K) ∧ (¬ o = t → ((¬ 0 < m → gE 168 14 [some (.ref 324), some (.int t), some (.int b), some (.int n), some (.int m), some (.int (o + 1))] [] σ K) ∧ (0 < m → (0 ≤ (9 + 10 * o + (2 : Int32)) ∧ (9 + 10 * o + (2 : Int32)) < 330) ∧ ((¬ (σ 324 (9 + 10 * o + (2 : Int32)).toNatClampNeg) = m → gE 168 14 [some (.ref 324), some (.int t), some (.int b), some (.int n), some (.int m), some (.int (o + 1))] [] σ K) ∧ ((σ 324 (9 + 10 * o + (2 : Int32)).toNatClampNeg) = m → (0 ≤ (9 + 10 * o + (0 : Int32)) ∧ (9 + 10 * o + (0 : Int32)) < 330) ∧ ((¬ ((σ 324 (9 + 10 * o + (0 : Int32)).toNatClampNeg) / 8) = b → gE 168 14 [some (.ref 324), some (.int t), some (.int b), some (.int n), some (.int m), some (.int (o + 1))] [] σ K) ∧ (((σ 324 (9 + 10 * o + (0 : Int32)).toNatClampNeg) / 8) = b → gE 168 14 [some (.ref 324), some (.int t), some (.int b), some (.int (n + 1)), some (.int m), some (.int (o + 1))] [] σ K))))))))))) : gE 168 14 [some (.ref 324), some (.int t), some (.int b), some (.int n), some (.int m), some (.int o)] [] σ K :=
  gw_run (cy := 168) (cuts := [14]) (inl := []) (pf := gpfA) gpfA_ok 400 (by decide) h
theorem s168_324 {σ : gS} {K : gK} {t b : Int32} (hc : (0 ≤ t ∧ t < 20) ∧ 0 ≤ σ 324 3 ∧ σ 324 3 ≤ 20) (hK : K (some (.int (kin (σ 324) t.toNatClampNeg b))) σ) : gE 168 0 [some (.ref 324), some (.int t), some (.int b), none, none, none] [] σ K := by
  obtain ⟨ht, hc⟩ := hc
  obtain ⟨e1, e2⟩ := t20 ht
  obtain ⟨m, hm⟩ : ∃ m, t.toNatClampNeg = m := ⟨_, rfl⟩
  rw [hm] at e1 e2 hK
  subst e1
  refine w168_324 ⟨ixb2 e2, ?_⟩
  rw [ix2 e2]
  refine g_forI (nM (σ 324)) (fun k => [some (.ref 324), some (.int (iN m)), some (.int b), some (.int (iN (cnt (kinP (σ 324) m b) k))), some (.int (fld (σ 324) m 2)), some (.int (iN k))]) (fun _ => σ) (fun _ => True) (fun _ => ?_) (fun k hk _ ih => ?_) 0 (Nat.zero_le _) trivial
  · have hn := (nM_of hc).2
    refine v168_324 ⟨by decide, fun _ => hK, fun h => ?_⟩
    rw [nM_lt hc (by omega)] at h; omega
  · have hn := (nM_of hc).2
    have hk20 : k < 20 := by omega
    have no : kinP (σ 324) m b k = false → gE 168 14 [some (.ref 324), some (.int (iN m)), some (.int b), some (.int (iN (cnt (kinP (σ 324) m b) k))), some (.int (fld (σ 324) m 2)), some (.int (iN k + 1))] [] σ K := by
      intro q
      have ih := ih trivial
      rw [cnt_f (by rw [q]; decide)] at ih
      rw [iN_one]
      exact ih
    refine v168_324 ⟨by decide, fun h => ?_, fun _ => ⟨fun h => no (decide_eq_false (fun e => ?_)), fun h => ⟨fun h2 => no (decide_eq_false (fun e => h2 e.2.1)), fun h2 => ⟨ixb2 hk20, fun h3 => no (decide_eq_false (fun e => ?_)), fun h3 => ⟨ixb0 hk20, fun h4 => no (decide_eq_false (fun e => ?_)), fun h4 => ?_⟩⟩⟩⟩⟩
    · rw [nM_lt hc (by omega)] at h; omega
    · exact e.1 ((iN_inj (by omega) (by omega)).mp h)
    · rw [ix2 hk20] at h3; exact h3 e.2.2.1
    · rw [ix0 hk20] at h4; exact h4 e.2.2.2
    · rw [ix2 hk20] at h3
      rw [ix0 hk20] at h4
      have ih := ih trivial
      rw [cnt_t (decide_eq_true ⟨fun e => h (by rw [e]), h2, h3, h4⟩)] at ih
      rw [iN_one, iN_one]
      exact ih
set_option maxRecDepth 20000 in
theorem w168_325 {σ : gS} {K : gK} {t b : Int32} (h : (0 ≤ (9 + 10 * t + (2 : Int32)) ∧ (9 + 10 * t + (2 : Int32)) < 330) ∧ gE 168 14 [some (.ref 325), some (.int t), some (.int b), some (.int 0), some (.int (σ 325 (9 + 10 * t + (2 : Int32)).toNatClampNeg)), some (.int 0)] [] σ K) : gE 168 0 [some (.ref 325), some (.int t), some (.int b), none, none, none] [] σ K :=
  gw_run (cy := 168) (cuts := [14]) (inl := []) (pf := gpfA) gpfA_ok 400 (by decide) h
set_option maxRecDepth 20000 in
theorem v168_325 {σ : gS} {K : gK} {t b n m o : Int32} (h : (0 ≤ (3 : Int32) ∧ (3 : Int32) < 330) ∧ ((¬ o < (σ 325 3) → K (some (.int n)) σ) ∧ (o < (σ 325 3) → ((o = t → gE 168 14 [some (.ref 325), some (.int t), some (.int b), some (.int n), some (.int m), some (.int (o + 1))] [] σ K) ∧ (¬ o = t → ((¬ 0 < m → gE 168 14 [some (.ref 325), some (.int t), some (.int b), some (.int n), some (.int m), some (.int (o + 1))] [] σ K) ∧ (0 < m → (0 ≤ (9 + 10 * o + (2 : Int32)) ∧ (9 + 10 * o + (2 : Int32)) < 330) ∧ ((¬ (σ 325 (9 + 10 * o + (2 : Int32)).toNatClampNeg) = m → gE 168 14 [some (.ref 325), some (.int t), some (.int b), some (.int n), some (.int m), some (.int (o + 1))] [] σ K) ∧ ((σ 325 (9 + 10 * o + (2 : Int32)).toNatClampNeg) = m → (0 ≤ (9 + 10 * o + (0 : Int32)) ∧ (9 + 10 * o + (0 : Int32)) < 330) ∧ ((¬ ((σ 325 (9 + 10 * o + (0 : Int32)).toNatClampNeg) / 8) = b → gE 168 14 [some (.ref 325), some (.int t), some (.int b), some (.int n), some (.int m), some (.int (o + 1))] [] σ K) ∧ (((σ 325 (9 + 10 * o + (0 : Int32)).toNatClampNeg) / 8) = b → gE 168 14 [some (.ref 325), some (.int t), some (.int b), some (.int (n + 1)), some (.int m), some (.int (o + 1))] [] σ K))))))))))) : gE 168 14 [some (.ref 325), some (.int t), some (.int b), some (.int n), some (.int m), some (.int o)] [] σ K :=
  gw_run (cy := 168) (cuts := [14]) (inl := []) (pf := gpfA) gpfA_ok 400 (by decide) h
theorem s168_325 {σ : gS} {K : gK} {t b : Int32} (hc : (0 ≤ t ∧ t < 20) ∧ 0 ≤ σ 325 3 ∧ σ 325 3 ≤ 20) (hK : K (some (.int (kin (σ 325) t.toNatClampNeg b))) σ) : gE 168 0 [some (.ref 325), some (.int t), some (.int b), none, none, none] [] σ K := by
  obtain ⟨ht, hc⟩ := hc
  obtain ⟨e1, e2⟩ := t20 ht
  obtain ⟨m, hm⟩ : ∃ m, t.toNatClampNeg = m := ⟨_, rfl⟩
  rw [hm] at e1 e2 hK
  subst e1
  refine w168_325 ⟨ixb2 e2, ?_⟩
  rw [ix2 e2]
  refine g_forI (nM (σ 325)) (fun k => [some (.ref 325), some (.int (iN m)), some (.int b), some (.int (iN (cnt (kinP (σ 325) m b) k))), some (.int (fld (σ 325) m 2)), some (.int (iN k))]) (fun _ => σ) (fun _ => True) (fun _ => ?_) (fun k hk _ ih => ?_) 0 (Nat.zero_le _) trivial
  · have hn := (nM_of hc).2
    refine v168_325 ⟨by decide, fun _ => hK, fun h => ?_⟩
    rw [nM_lt hc (by omega)] at h; omega
  · have hn := (nM_of hc).2
    have hk20 : k < 20 := by omega
    have no : kinP (σ 325) m b k = false → gE 168 14 [some (.ref 325), some (.int (iN m)), some (.int b), some (.int (iN (cnt (kinP (σ 325) m b) k))), some (.int (fld (σ 325) m 2)), some (.int (iN k + 1))] [] σ K := by
      intro q
      have ih := ih trivial
      rw [cnt_f (by rw [q]; decide)] at ih
      rw [iN_one]
      exact ih
    refine v168_325 ⟨by decide, fun h => ?_, fun _ => ⟨fun h => no (decide_eq_false (fun e => ?_)), fun h => ⟨fun h2 => no (decide_eq_false (fun e => h2 e.2.1)), fun h2 => ⟨ixb2 hk20, fun h3 => no (decide_eq_false (fun e => ?_)), fun h3 => ⟨ixb0 hk20, fun h4 => no (decide_eq_false (fun e => ?_)), fun h4 => ?_⟩⟩⟩⟩⟩
    · rw [nM_lt hc (by omega)] at h; omega
    · exact e.1 ((iN_inj (by omega) (by omega)).mp h)
    · rw [ix2 hk20] at h3; exact h3 e.2.2.1
    · rw [ix0 hk20] at h4; exact h4 e.2.2.2
    · rw [ix2 hk20] at h3
      rw [ix0 hk20] at h4
      have ih := ih trivial
      rw [cnt_t (decide_eq_true ⟨fun e => h (by rw [e]), h2, h3, h4⟩)] at ih
      rw [iN_one, iN_one]
      exact ih
set_option maxRecDepth 20000 in
theorem w168_326 {σ : gS} {K : gK} {t b : Int32} (h : (0 ≤ (9 + 10 * t + (2 : Int32)) ∧ (9 + 10 * t + (2 : Int32)) < 330) ∧ gE 168 14 [some (.ref 326), some (.int t), some (.int b), some (.int 0), some (.int (σ 326 (9 + 10 * t + (2 : Int32)).toNatClampNeg)), some (.int 0)] [] σ K) : gE 168 0 [some (.ref 326), some (.int t), some (.int b), none, none, none] [] σ K :=
  gw_run (cy := 168) (cuts := [14]) (inl := []) (pf := gpfA) gpfA_ok 400 (by decide) h
set_option maxRecDepth 20000 in
theorem v168_326 {σ : gS} {K : gK} {t b n m o : Int32} (h : (0 ≤ (3 : Int32) ∧ (3 : Int32) < 330) ∧ ((¬ o < (σ 326 3) → K (some (.int n)) σ) ∧ (o < (σ 326 3) → ((o = t → gE 168 14 [some (.ref 326), some (.int t), some (.int b), some (.int n), some (.int m), some (.int (o + 1))] [] σ K) ∧ (¬ o = t → ((¬ 0 < m → gE 168 14 [some (.ref 326), some (.int t), some (.int b), some (.int n), some (.int m), some (.int (o + 1))] [] σ K) ∧ (0 < m → (0 ≤ (9 + 10 * o + (2 : Int32)) ∧ (9 + 10 * o + (2 : Int32)) < 330) ∧ ((¬ (σ 326 (9 + 10 * o + (2 : Int32)).toNatClampNeg) = m → gE 168 14 [some (.ref 326), some (.int t), some (.int b), some (.int n), some (.int m), some (.int (o + 1))] [] σ K) ∧ ((σ 326 (9 + 10 * o + (2 : Int32)).toNatClampNeg) = m → (0 ≤ (9 + 10 * o + (0 : Int32)) ∧ (9 + 10 * o + (0 : Int32)) < 330) ∧ ((¬ ((σ 326 (9 + 10 * o + (0 : Int32)).toNatClampNeg) / 8) = b → gE 168 14 [some (.ref 326), some (.int t), some (.int b), some (.int n), some (.int m), some (.int (o + 1))] [] σ K) ∧ (((σ 326 (9 + 10 * o + (0 : Int32)).toNatClampNeg) / 8) = b → gE 168 14 [some (.ref 326), some (.int t), some (.int b), some (.int (n + 1)), some (.int m), some (.int (o + 1))] [] σ K))))))))))) : gE 168 14 [some (.ref 326), some (.int t), some (.int b), some (.int n), some (.int m), some (.int o)] [] σ K :=
  gw_run (cy := 168) (cuts := [14]) (inl := []) (pf := gpfA) gpfA_ok 400 (by decide) h
theorem s168_326 {σ : gS} {K : gK} {t b : Int32} (hc : (0 ≤ t ∧ t < 20) ∧ 0 ≤ σ 326 3 ∧ σ 326 3 ≤ 20) (hK : K (some (.int (kin (σ 326) t.toNatClampNeg b))) σ) : gE 168 0 [some (.ref 326), some (.int t), some (.int b), none, none, none] [] σ K := by
  obtain ⟨ht, hc⟩ := hc
  obtain ⟨e1, e2⟩ := t20 ht
  obtain ⟨m, hm⟩ : ∃ m, t.toNatClampNeg = m := ⟨_, rfl⟩
  rw [hm] at e1 e2 hK
  subst e1
  refine w168_326 ⟨ixb2 e2, ?_⟩
  rw [ix2 e2]
  refine g_forI (nM (σ 326)) (fun k => [some (.ref 326), some (.int (iN m)), some (.int b), some (.int (iN (cnt (kinP (σ 326) m b) k))), some (.int (fld (σ 326) m 2)), some (.int (iN k))]) (fun _ => σ) (fun _ => True) (fun _ => ?_) (fun k hk _ ih => ?_) 0 (Nat.zero_le _) trivial
  · have hn := (nM_of hc).2
    refine v168_326 ⟨by decide, fun _ => hK, fun h => ?_⟩
    rw [nM_lt hc (by omega)] at h; omega
  · have hn := (nM_of hc).2
    have hk20 : k < 20 := by omega
    have no : kinP (σ 326) m b k = false → gE 168 14 [some (.ref 326), some (.int (iN m)), some (.int b), some (.int (iN (cnt (kinP (σ 326) m b) k))), some (.int (fld (σ 326) m 2)), some (.int (iN k + 1))] [] σ K := by
      intro q
      have ih := ih trivial
      rw [cnt_f (by rw [q]; decide)] at ih
      rw [iN_one]
      exact ih
    refine v168_326 ⟨by decide, fun h => ?_, fun _ => ⟨fun h => no (decide_eq_false (fun e => ?_)), fun h => ⟨fun h2 => no (decide_eq_false (fun e => h2 e.2.1)), fun h2 => ⟨ixb2 hk20, fun h3 => no (decide_eq_false (fun e => ?_)), fun h3 => ⟨ixb0 hk20, fun h4 => no (decide_eq_false (fun e => ?_)), fun h4 => ?_⟩⟩⟩⟩⟩
    · rw [nM_lt hc (by omega)] at h; omega
    · exact e.1 ((iN_inj (by omega) (by omega)).mp h)
    · rw [ix2 hk20] at h3; exact h3 e.2.2.1
    · rw [ix0 hk20] at h4; exact h4 e.2.2.2
    · rw [ix2 hk20] at h3
      rw [ix0 hk20] at h4
      have ih := ih trivial
      rw [cnt_t (decide_eq_true ⟨fun e => h (by rw [e]), h2, h3, h4⟩)] at ih
      rw [iN_one, iN_one]
      exact ih
noncomputable def f168 : gD := fun Lv σ => match Lv with
  | [some (.ref p), some (.int t), some (.int b), none, none, none] => cond (Nat.beq p 324 || Nat.beq p 325 || Nat.beq p 326) (some (some ((0 ≤ t ∧ t < 20) ∧ 0 ≤ σ p 3 ∧ σ p 3 ≤ 20), some (.int (kin (σ p) t.toNatClampNeg b)), σ)) none
  | _ => none
theorem ok168 : gFok 168 f168 := by
  intro Lv σ q h hc K hK
  unfold f168 at h
  split at h
  · rename_i p t b
    obtain ⟨hb, h⟩ := c_no h
    have hb0 := hb
    rcases s_or hb0 with hb0 | hb0
    · rcases s_or hb0 with hb0 | hb0
      · have e := b_eq hb0
        subst e
        cases h
        exact s168_324 (hc _ rfl) hK
      · have e := b_eq hb0
        subst e
        cases h
        exact s168_325 (hc _ rfl) hK
    · have e := b_eq hb0
      subst e
      cases h
      exact s168_326 (hc _ rfl) hK
  · cases h
-- text 10
/-! THE REFERENCE: joys, reasons, rises -/
abbrev isWin (x : Int32) : Prop := x - x / 4 * 4 = 0 ∨ x - x / 4 * 4 = 3
abbrev isFwd (x : Int32) : Prop := x - x / 2 * 2 = 1
set_option maxRecDepth 20000 in
theorem w162 {σ : gS} {K : gK} {x : Int32} (h : (4 : Int32) ≠ 0 ∧ (((x - x / 4 * 4) = 0 → ((1 : Int32) = 0 ∨ (1 : Int32) = 1) ∧ K (some (.int 1)) σ) ∧ (¬ (x - x / 4 * 4) = 0 → (4 : Int32) ≠ 0 ∧ ((¬ (x - x / 4 * 4) = 3 → ((0 : Int32) = 0 ∨ (0 : Int32) = 1) ∧ K (some (.int 0)) σ) ∧ ((x - x / 4 * 4) = 3 → ((1 : Int32) = 0 ∨ (1 : Int32) = 1) ∧ K (some (.int 1)) σ))))) : gE 162 0 [some (.int x)] [] σ K :=
  gw_run (cy := 162) (cuts := []) (inl := []) (pf := gpfA) gpfA_ok 400 (by decide) h
theorem s162 {σ : gS} {K : gK} {x : Int32} (hK : K (some (.int (bI (isWin x)))) σ) : gE 162 0 [some (.int x)] [] σ K := by
  refine w162 ?_
  grind [bI]
noncomputable def f162 : gD := fun Lv σ => match Lv with
  | [some (.int x)] => some (none, some (.int (bI (isWin x))), σ)
  | _ => none
theorem ok162 : gFok 162 f162 := by
  intro Lv σ q h hc K hK
  unfold f162 at h
  split at h
  · rename_i x
    cases h
    exact s162 hK
  · cases h
set_option maxRecDepth 20000 in
theorem w163 {σ : gS} {K : gK} {x : Int32} (h : (2 : Int32) ≠ 0 ∧ ((¬ (x - x / 2 * 2) = 1 → ((0 : Int32) = 0 ∨ (0 : Int32) = 1) ∧ K (some (.int 0)) σ) ∧ ((x - x / 2 * 2) = 1 → ((1 : Int32) = 0 ∨ (1 : Int32) = 1) ∧ K (some (.int 1)) σ))) : gE 163 0 [some (.int x)] [] σ K :=
  gw_run (cy := 163) (cuts := []) (inl := []) (pf := gpfA) gpfA_ok 400 (by decide) h
theorem s163 {σ : gS} {K : gK} {x : Int32} (hK : K (some (.int (bI (isFwd x)))) σ) : gE 163 0 [some (.int x)] [] σ K := by
  refine w163 ?_
  grind [bI]
noncomputable def f163 : gD := fun Lv σ => match Lv with
  | [some (.int x)] => some (none, some (.int (bI (isFwd x))), σ)
  | _ => none
theorem ok163 : gFok 163 f163 := by
  intro Lv σ q h hc K hK
  unfold f163 at h
  split at h
  · rename_i x
    cases h
    exact s163 hK
  · cases h
set_option maxRecDepth 20000 in
theorem w164_324 {σ : gS} {K : gK} (h : (0 ≤ (0 : Int32) ∧ (0 : Int32) < 330) ∧ (2 : Int32) ≠ 0 ∧ K (some (.int (((σ 324 0) + 1) / 2))) σ) : gE 164 0 [some (.ref 324)] [] σ K :=
  gw_run (cy := 164) (cuts := []) (inl := []) (pf := gpfA) gpfA_ok 400 (by decide) h
theorem s164_324 {σ : gS} {K : gK} (hK : K (some (.int ((σ 324 0 + 1) / 2))) σ) : gE 164 0 [some (.ref 324)] [] σ K := by
  exact w164_324 ⟨by decide, by decide, hK⟩
set_option maxRecDepth 20000 in
theorem w164_325 {σ : gS} {K : gK} (h : (0 ≤ (0 : Int32) ∧ (0 : Int32) < 330) ∧ (2 : Int32) ≠ 0 ∧ K (some (.int (((σ 325 0) + 1) / 2))) σ) : gE 164 0 [some (.ref 325)] [] σ K :=
  gw_run (cy := 164) (cuts := []) (inl := []) (pf := gpfA) gpfA_ok 400 (by decide) h
theorem s164_325 {σ : gS} {K : gK} (hK : K (some (.int ((σ 325 0 + 1) / 2))) σ) : gE 164 0 [some (.ref 325)] [] σ K := by
  exact w164_325 ⟨by decide, by decide, hK⟩
set_option maxRecDepth 20000 in
theorem w164_326 {σ : gS} {K : gK} (h : (0 ≤ (0 : Int32) ∧ (0 : Int32) < 330) ∧ (2 : Int32) ≠ 0 ∧ K (some (.int (((σ 326 0) + 1) / 2))) σ) : gE 164 0 [some (.ref 326)] [] σ K :=
  gw_run (cy := 164) (cuts := []) (inl := []) (pf := gpfA) gpfA_ok 400 (by decide) h
theorem s164_326 {σ : gS} {K : gK} (hK : K (some (.int ((σ 326 0 + 1) / 2))) σ) : gE 164 0 [some (.ref 326)] [] σ K := by
  exact w164_326 ⟨by decide, by decide, hK⟩
noncomputable def f164 : gD := fun Lv σ => match Lv with
  | [some (.ref p)] => cond (Nat.beq p 324 || Nat.beq p 325 || Nat.beq p 326) (some (none, some (.int ((σ p 0 + 1) / 2)), σ)) none
  | _ => none
theorem ok164 : gFok 164 f164 := by
  intro Lv σ q h hc K hK
  unfold f164 at h
  split at h
  · rename_i p
    obtain ⟨hb, h⟩ := c_no h
    have hb0 := hb
    rcases s_or hb0 with hb0 | hb0
    · rcases s_or hb0 with hb0 | hb0
      · have e := b_eq hb0
        subst e
        cases h
        exact s164_324 hK
      · have e := b_eq hb0
        subst e
        cases h
        exact s164_325 hK
    · have e := b_eq hb0
      subst e
      cases h
      exact s164_326 hK
  · cases h
set_option maxRecDepth 20000 in
theorem w166 {σ : gS} {K : gK} {k x f : Int32} (h : ((k = 1 → ((1 : Int32) = 0 ∨ (1 : Int32) = 1) ∧ K (some (.int 1)) σ) ∧ (¬ k = 1 → (((x / 4) < f → ((0 : Int32) = 0 ∨ (0 : Int32) = 1) ∧ K (some (.int 0)) σ) ∧ (¬ (x / 4) < f → ((1 : Int32) = 0 ∨ (1 : Int32) = 1) ∧ K (some (.int 1)) σ))))) : gE 166 0 [some (.int k), some (.int x), some (.int f)] [] σ K :=
  gw_run (cy := 166) (cuts := []) (inl := []) (pf := gpfA) gpfA_ok 400 (by decide) h
theorem s166 {σ : gS} {K : gK} {k x f : Int32} (hK : K (some (.int (bI (k = 1 ∨ f ≤ x / 4)))) σ) : gE 166 0 [some (.int k), some (.int x), some (.int f)] [] σ K := by
  refine w166 ?_
  grind [bI]
noncomputable def f166 : gD := fun Lv σ => match Lv with
  | [some (.int k), some (.int x), some (.int f)] => some (none, some (.int (bI (k = 1 ∨ f ≤ x / 4))), σ)
  | _ => none
theorem ok166 : gFok 166 f166 := by
  intro Lv σ q h hc K hK
  unfold f166 at h
  split at h
  · rename_i k x f
    cases h
    exact s166 hK
  · cases h
noncomputable def gpfB_l : List (Nat × gD) := (165, f165) :: (168, f168) :: (162, f162) :: (163, f163) :: (164, f164) :: (166, f166) :: gpfA_l
noncomputable def gpfB : gP := gpl0 gpfB_l
theorem gpfB_ok : gPok gpfB := gpl0_cons ok165 (gpl0_cons ok168 (gpl0_cons ok162 (gpl0_cons ok163 (gpl0_cons ok164 (gpl0_cons ok166 (gpfA_ok))))))
abbrev fMay (R : gW) (t : Nat) (x : Int32) : Prop := fld R t 1 = 1 ∨ R 1 ≤ x / 4
def fJoy (R : gW) (t : Nat) (x : Int32) : Int32 := 4 * kin R t (x / 8) + (if isWin x then fld R t 3 else 0) + (if isFwd (x / 4) then fld R t 4 else 0) - fld R t 6 * (if x / 4 - fld R t 5 < 0 then -(x / 4 - fld R t 5) else x / 4 - fld R t 5)
def fJo (R : gW) (t : Nat) : Int32 := fJoy R t (fld R t 0)
set_option maxRecDepth 20000 in
theorem w167_324 {σ : gS} {K : gK} {t x : Int32} (h : (0 ≤ (9 + 10 * t + (1 : Int32)) ∧ (9 + 10 * t + (1 : Int32)) < 330) ∧ (0 ≤ (1 : Int32) ∧ (1 : Int32) < 330) ∧ ((bI ((σ 324 (9 + 10 * t + (1 : Int32)).toNatClampNeg) = 1 ∨ (σ 324 1) ≤ x / 4)) = 0 ∨ (bI ((σ 324 (9 + 10 * t + (1 : Int32)).toNatClampNeg) = 1 ∨ (σ 324 1) ≤ x / 4)) = 1) ∧ K (some (.int (bI ((σ 324 (9 + 10 * t + (1 : Int32)).toNatClampNeg) = 1 ∨ (σ 324 1) ≤ x / 4)))) σ) : gE 167 0 [some (.ref 324), some (.int t), some (.int x)] [] σ K :=
  gw_run (cy := 167) (cuts := []) (inl := []) (pf := gpfB) gpfB_ok 400 (by decide) h
theorem s167_324 {σ : gS} {K : gK} {t x : Int32} (hc : 0 ≤ t ∧ t < 20) (hK : K (some (.int (bI (fMay (σ 324) t.toNatClampNeg x)))) σ) : gE 167 0 [some (.ref 324), some (.int t), some (.int x)] [] σ K := by
  obtain ⟨e1, e2⟩ := t20 hc
  obtain ⟨m, hm⟩ : ∃ m, t.toNatClampNeg = m := ⟨_, rfl⟩
  rw [hm] at e1 e2 hK
  subst e1
  refine w167_324 ⟨ixb1 e2, by decide, ?_⟩
  rw [ix1 e2]
  exact ⟨bI_01, hK⟩
set_option maxRecDepth 20000 in
theorem w167_325 {σ : gS} {K : gK} {t x : Int32} (h : (0 ≤ (9 + 10 * t + (1 : Int32)) ∧ (9 + 10 * t + (1 : Int32)) < 330) ∧ (0 ≤ (1 : Int32) ∧ (1 : Int32) < 330) ∧ ((bI ((σ 325 (9 + 10 * t + (1 : Int32)).toNatClampNeg) = 1 ∨ (σ 325 1) ≤ x / 4)) = 0 ∨ (bI ((σ 325 (9 + 10 * t + (1 : Int32)).toNatClampNeg) = 1 ∨ (σ 325 1) ≤ x / 4)) = 1) ∧ K (some (.int (bI ((σ 325 (9 + 10 * t + (1 : Int32)).toNatClampNeg) = 1 ∨ (σ 325 1) ≤ x / 4)))) σ) : gE 167 0 [some (.ref 325), some (.int t), some (.int x)] [] σ K :=
  gw_run (cy := 167) (cuts := []) (inl := []) (pf := gpfB) gpfB_ok 400 (by decide) h
theorem s167_325 {σ : gS} {K : gK} {t x : Int32} (hc : 0 ≤ t ∧ t < 20) (hK : K (some (.int (bI (fMay (σ 325) t.toNatClampNeg x)))) σ) : gE 167 0 [some (.ref 325), some (.int t), some (.int x)] [] σ K := by
  obtain ⟨e1, e2⟩ := t20 hc
  obtain ⟨m, hm⟩ : ∃ m, t.toNatClampNeg = m := ⟨_, rfl⟩
  rw [hm] at e1 e2 hK
  subst e1
  refine w167_325 ⟨ixb1 e2, by decide, ?_⟩
  rw [ix1 e2]
  exact ⟨bI_01, hK⟩
set_option maxRecDepth 20000 in
theorem w167_326 {σ : gS} {K : gK} {t x : Int32} (h : (0 ≤ (9 + 10 * t + (1 : Int32)) ∧ (9 + 10 * t + (1 : Int32)) < 330) ∧ (0 ≤ (1 : Int32) ∧ (1 : Int32) < 330) ∧ ((bI ((σ 326 (9 + 10 * t + (1 : Int32)).toNatClampNeg) = 1 ∨ (σ 326 1) ≤ x / 4)) = 0 ∨ (bI ((σ 326 (9 + 10 * t + (1 : Int32)).toNatClampNeg) = 1 ∨ (σ 326 1) ≤ x / 4)) = 1) ∧ K (some (.int (bI ((σ 326 (9 + 10 * t + (1 : Int32)).toNatClampNeg) = 1 ∨ (σ 326 1) ≤ x / 4)))) σ) : gE 167 0 [some (.ref 326), some (.int t), some (.int x)] [] σ K :=
  gw_run (cy := 167) (cuts := []) (inl := []) (pf := gpfB) gpfB_ok 400 (by decide) h
theorem s167_326 {σ : gS} {K : gK} {t x : Int32} (hc : 0 ≤ t ∧ t < 20) (hK : K (some (.int (bI (fMay (σ 326) t.toNatClampNeg x)))) σ) : gE 167 0 [some (.ref 326), some (.int t), some (.int x)] [] σ K := by
  obtain ⟨e1, e2⟩ := t20 hc
  obtain ⟨m, hm⟩ : ∃ m, t.toNatClampNeg = m := ⟨_, rfl⟩
  rw [hm] at e1 e2 hK
  subst e1
  refine w167_326 ⟨ixb1 e2, by decide, ?_⟩
  rw [ix1 e2]
  exact ⟨bI_01, hK⟩
noncomputable def f167 : gD := fun Lv σ => match Lv with
  | [some (.ref p), some (.int t), some (.int x)] => cond (Nat.beq p 324 || Nat.beq p 325 || Nat.beq p 326) (some (some (0 ≤ t ∧ t < 20), some (.int (bI (fMay (σ p) t.toNatClampNeg x))), σ)) none
  | _ => none
theorem ok167 : gFok 167 f167 := by
  intro Lv σ q h hc K hK
  unfold f167 at h
  split at h
  · rename_i p t x
    obtain ⟨hb, h⟩ := c_no h
    have hb0 := hb
    rcases s_or hb0 with hb0 | hb0
    · rcases s_or hb0 with hb0 | hb0
      · have e := b_eq hb0
        subst e
        cases h
        exact s167_324 (hc _ rfl) hK
      · have e := b_eq hb0
        subst e
        cases h
        exact s167_325 (hc _ rfl) hK
    · have e := b_eq hb0
      subst e
      cases h
      exact s167_326 (hc _ rfl) hK
  · cases h
set_option maxRecDepth 20000 in
theorem w169_324 {σ : gS} {K : gK} {t x : Int32} (h : ((0 ≤ t ∧ t < 20) ∧ 0 ≤ σ 324 3 ∧ σ 324 3 ≤ 20) ∧ (0 ≤ (9 + 10 * t + (5 : Int32)) ∧ (9 + 10 * t + (5 : Int32)) < 330) ∧ (((bI (isWin x)) = 0 → (((bI (isFwd (x / 4))) = 0 → (0 ≤ (9 + 10 * t + (6 : Int32)) ∧ (9 + 10 * t + (6 : Int32)) < 330) ∧ ((¬ ((x / 4) - (σ 324 (9 + 10 * t + (5 : Int32)).toNatClampNeg)) < 0 → K (some (.int ((4 * (kin (σ 324) t.toNatClampNeg (x / 8))) - ((σ 324 (9 + 10 * t + (6 : Int32)).toNatClampNeg) * ((x / 4) - (σ 324 (9 + 10 * t + (5 : Int32)).toNatClampNeg)))))) σ) ∧ (((x / 4) - (σ 324 (9 + 10 * t + (5 : Int32)).toNatClampNeg)) < 0 → K (some (.int ((4 * (kin (σ 324) t.toNatClampNeg (x / 8))) - ((σ 324 (9 + 10 * t + (6 : Int32)).toNatClampNeg) * (-((x / 4) - (σ 324 (9 + 10 * t + (5 : Int32)).toNatClampNeg))))))) σ))) ∧ (¬ (bI (isFwd (x / 4))) = 0 → (0 ≤ (9 + 10 * t + (4 : Int32)) ∧ (9 + 10 * t + (4 : Int32)) < 330) ∧ (0 ≤ (9 + 10 * t + (6 : Int32)) ∧ (9 + 10 * t + (6 : Int32)) < 330) ∧ ((¬ ((x / 4) - (σ 324 (9 + 10 * t + (5 : Int32)).toNatClampNeg)) < 0 → K (some (.int (((4 * (kin (σ 324) t.toNatClampNeg (x / 8))) + (σ 324 (9 + 10 * t + (4 : Int32)).toNatClampNeg)) - ((σ 324 (9 + 10 * t + (6 : Int32)).toNatClampNeg) * ((x / 4) - (σ 324 (9 + 10 * t + (5 : Int32)).toNatClampNeg)))))) σ) ∧ (((x / 4) - (σ 324 (9 + 10 * t + (5 : Int32)).toNatClampNeg)) < 0 → K (some (.int (((4 * (kin (σ 324) t.toNatClampNeg (x / 8))) + (σ 324 (9 + 10 * t + (4 : Int32)).toNatClampNeg)) - ((σ 324 (9 + 10 * t + (6 : Int32)).toNatClampNeg) * (-((x / 4) - (σ 324 (9 + 10 * t + (5 : Int32)).toNatClampNeg))))))) σ))))) ∧ (¬ (bI (isWin x)) = 0 → (0 ≤ (9 + 10 * t + (3 : Int32)) ∧ (9 + 10 * t + (3 : Int32)) < 330) ∧ (((bI (isFwd (x / 4))) = 0 → (0 ≤ (9 + 10 * t + (6 : Int32)) ∧ (9 + 10 * t + (6 : Int32)) < 330) ∧ ((¬ ((x / 4) - (σ 324 (9 + 10 * t + (5 : Int32)).toNatClampNeg)) < 0 → K (some (.int (((4 * (kin (σ 324) t.toNatClampNeg (x / 8))) + (σ 324 (9 + 10 * t + (3 : Int32)).toNatClampNeg)) - ((σ 324 (9 + 10 * t + (6 : Int32)).toNatClampNeg) * ((x / 4) - (σ 324 (9 + 10 * t + (5 : Int32)).toNatClampNeg)))))) σ) ∧ (((x / 4) - (σ 324 (9 + 10 * t + (5 : Int32)).toNatClampNeg)) < 0 → K (some (.int (((4 * (kin (σ 324) t.toNatClampNeg (x / 8))) + (σ 324 (9 + 10 * t + (3 : Int32)).toNatClampNeg)) - ((σ 324 (9 + 10 * t + (6 : Int32)).toNatClampNeg) * (-((x / 4) - (σ 324 (9 + 10 * t + (5 : Int32)).toNatClampNeg))))))) σ))) ∧ (¬ (bI (isFwd (x / 4))) = 0 → (0 ≤ (9 + 10 * t + (4 : Int32)) ∧ (9 + 10 * t + (4 : Int32)) < 330) ∧ (0 ≤ (9 + 10 * t + (6 : Int32)) ∧ (9 + 10 * t + (6 : Int32)) < 330) ∧ ((¬ ((x / 4) - (σ 324 (9 + 10 * t + (5 : Int32)).toNatClampNeg)) < 0 → K (some (.int ((((4 * (kin (σ 324) t.toNatClampNeg (x / 8))) + (σ 324 (9 + 10 * t + (3 : Int32)).toNatClampNeg)) + (σ 324 (9 + 10 * t + (4 : Int32)).toNatClampNeg)) - ((σ 324 (9 + 10 * t + (6 : Int32)).toNatClampNeg) * ((x / 4) - (σ 324 (9 + 10 * t + (5 : Int32)).toNatClampNeg)))))) σ) ∧ (((x / 4) - (σ 324 (9 + 10 * t + (5 : Int32)).toNatClampNeg)) < 0 → K (some (.int ((((4 * (kin (σ 324) t.toNatClampNeg (x / 8))) + (σ 324 (9 + 10 * t + (3 : Int32)).toNatClampNeg)) + (σ 324 (9 + 10 * t + (4 : Int32)).toNatClampNeg)) - ((σ 324 (9 + 10 * t + (6 : Int32)).toNatClampNeg) * (-((x / 4) - (σ 324 (9 + 10 * t + (5 : Int32)).toNatClampNeg))))))) σ))))))) : gE 169 0 [some (.ref 324), some (.int t), some (.int x), none, none] [] σ K :=
  gw_run (cy := 169) (cuts := []) (inl := []) (pf := gpfB) gpfB_ok 400 (by decide) h
theorem s169_324 {σ : gS} {K : gK} {t x : Int32} (hc : (0 ≤ t ∧ t < 20) ∧ 0 ≤ σ 324 3 ∧ σ 324 3 ≤ 20) (hK : K (some (.int (fJoy (σ 324) t.toNatClampNeg x))) σ) : gE 169 0 [some (.ref 324), some (.int t), some (.int x), none, none] [] σ K := by
  obtain ⟨ht, hc⟩ := hc
  obtain ⟨e1, e2⟩ := t20 ht
  obtain ⟨m, hm⟩ : ∃ m, t.toNatClampNeg = m := ⟨_, rfl⟩
  rw [hm] at e1 e2 hK
  subst e1
  refine w169_324 ?_
  rw [ix3 e2, ix4 e2, ix5 e2, ix6 e2]
  have b3 := ixb3 e2
  have b4 := ixb4 e2
  have b5 := ixb5 e2
  have b6 := ixb6 e2
  have h4 : (4 : Int32) ≠ 0 := by decide
  have hn : (iN m).toNatClampNeg = m := iN_nat (by omega)
  unfold fJoy fld at hK
  rw [hn]
  simp only [bI_0, Int32.zero_add]
  grind
set_option maxRecDepth 20000 in
theorem w169_325 {σ : gS} {K : gK} {t x : Int32} (h : ((0 ≤ t ∧ t < 20) ∧ 0 ≤ σ 325 3 ∧ σ 325 3 ≤ 20) ∧ (0 ≤ (9 + 10 * t + (5 : Int32)) ∧ (9 + 10 * t + (5 : Int32)) < 330) ∧ (((bI (isWin x)) = 0 → (((bI (isFwd (x / 4))) = 0 → (0 ≤ (9 + 10 * t + (6 : Int32)) ∧ (9 + 10 * t + (6 : Int32)) < 330) ∧ ((¬ ((x / 4) - (σ 325 (9 + 10 * t + (5 : Int32)).toNatClampNeg)) < 0 → K (some (.int ((4 * (kin (σ 325) t.toNatClampNeg (x / 8))) - ((σ 325 (9 + 10 * t + (6 : Int32)).toNatClampNeg) * ((x / 4) - (σ 325 (9 + 10 * t + (5 : Int32)).toNatClampNeg)))))) σ) ∧ (((x / 4) - (σ 325 (9 + 10 * t + (5 : Int32)).toNatClampNeg)) < 0 → K (some (.int ((4 * (kin (σ 325) t.toNatClampNeg (x / 8))) - ((σ 325 (9 + 10 * t + (6 : Int32)).toNatClampNeg) * (-((x / 4) - (σ 325 (9 + 10 * t + (5 : Int32)).toNatClampNeg))))))) σ))) ∧ (¬ (bI (isFwd (x / 4))) = 0 → (0 ≤ (9 + 10 * t + (4 : Int32)) ∧ (9 + 10 * t + (4 : Int32)) < 330) ∧ (0 ≤ (9 + 10 * t + (6 : Int32)) ∧ (9 + 10 * t + (6 : Int32)) < 330) ∧ ((¬ ((x / 4) - (σ 325 (9 + 10 * t + (5 : Int32)).toNatClampNeg)) < 0 → K (some (.int (((4 * (kin (σ 325) t.toNatClampNeg (x / 8))) + (σ 325 (9 + 10 * t + (4 : Int32)).toNatClampNeg)) - ((σ 325 (9 + 10 * t + (6 : Int32)).toNatClampNeg) * ((x / 4) - (σ 325 (9 + 10 * t + (5 : Int32)).toNatClampNeg)))))) σ) ∧ (((x / 4) - (σ 325 (9 + 10 * t + (5 : Int32)).toNatClampNeg)) < 0 → K (some (.int (((4 * (kin (σ 325) t.toNatClampNeg (x / 8))) + (σ 325 (9 + 10 * t + (4 : Int32)).toNatClampNeg)) - ((σ 325 (9 + 10 * t + (6 : Int32)).toNatClampNeg) * (-((x / 4) - (σ 325 (9 + 10 * t + (5 : Int32)).toNatClampNeg))))))) σ))))) ∧ (¬ (bI (isWin x)) = 0 → (0 ≤ (9 + 10 * t + (3 : Int32)) ∧ (9 + 10 * t + (3 : Int32)) < 330) ∧ (((bI (isFwd (x / 4))) = 0 → (0 ≤ (9 + 10 * t + (6 : Int32)) ∧ (9 + 10 * t + (6 : Int32)) < 330) ∧ ((¬ ((x / 4) - (σ 325 (9 + 10 * t + (5 : Int32)).toNatClampNeg)) < 0 → K (some (.int (((4 * (kin (σ 325) t.toNatClampNeg (x / 8))) + (σ 325 (9 + 10 * t + (3 : Int32)).toNatClampNeg)) - ((σ 325 (9 + 10 * t + (6 : Int32)).toNatClampNeg) * ((x / 4) - (σ 325 (9 + 10 * t + (5 : Int32)).toNatClampNeg)))))) σ) ∧ (((x / 4) - (σ 325 (9 + 10 * t + (5 : Int32)).toNatClampNeg)) < 0 → K (some (.int (((4 * (kin (σ 325) t.toNatClampNeg (x / 8))) + (σ 325 (9 + 10 * t + (3 : Int32)).toNatClampNeg)) - ((σ 325 (9 + 10 * t + (6 : Int32)).toNatClampNeg) * (-((x / 4) - (σ 325 (9 + 10 * t + (5 : Int32)).toNatClampNeg))))))) σ))) ∧ (¬ (bI (isFwd (x / 4))) = 0 → (0 ≤ (9 + 10 * t + (4 : Int32)) ∧ (9 + 10 * t + (4 : Int32)) < 330) ∧ (0 ≤ (9 + 10 * t + (6 : Int32)) ∧ (9 + 10 * t + (6 : Int32)) < 330) ∧ ((¬ ((x / 4) - (σ 325 (9 + 10 * t + (5 : Int32)).toNatClampNeg)) < 0 → K (some (.int ((((4 * (kin (σ 325) t.toNatClampNeg (x / 8))) + (σ 325 (9 + 10 * t + (3 : Int32)).toNatClampNeg)) + (σ 325 (9 + 10 * t + (4 : Int32)).toNatClampNeg)) - ((σ 325 (9 + 10 * t + (6 : Int32)).toNatClampNeg) * ((x / 4) - (σ 325 (9 + 10 * t + (5 : Int32)).toNatClampNeg)))))) σ) ∧ (((x / 4) - (σ 325 (9 + 10 * t + (5 : Int32)).toNatClampNeg)) < 0 → K (some (.int ((((4 * (kin (σ 325) t.toNatClampNeg (x / 8))) + (σ 325 (9 + 10 * t + (3 : Int32)).toNatClampNeg)) + (σ 325 (9 + 10 * t + (4 : Int32)).toNatClampNeg)) - ((σ 325 (9 + 10 * t + (6 : Int32)).toNatClampNeg) * (-((x / 4) - (σ 325 (9 + 10 * t + (5 : Int32)).toNatClampNeg))))))) σ))))))) : gE 169 0 [some (.ref 325), some (.int t), some (.int x), none, none] [] σ K :=
  gw_run (cy := 169) (cuts := []) (inl := []) (pf := gpfB) gpfB_ok 400 (by decide) h
theorem s169_325 {σ : gS} {K : gK} {t x : Int32} (hc : (0 ≤ t ∧ t < 20) ∧ 0 ≤ σ 325 3 ∧ σ 325 3 ≤ 20) (hK : K (some (.int (fJoy (σ 325) t.toNatClampNeg x))) σ) : gE 169 0 [some (.ref 325), some (.int t), some (.int x), none, none] [] σ K := by
  obtain ⟨ht, hc⟩ := hc
  obtain ⟨e1, e2⟩ := t20 ht
  obtain ⟨m, hm⟩ : ∃ m, t.toNatClampNeg = m := ⟨_, rfl⟩
  rw [hm] at e1 e2 hK
  subst e1
  refine w169_325 ?_
  rw [ix3 e2, ix4 e2, ix5 e2, ix6 e2]
  have b3 := ixb3 e2
  have b4 := ixb4 e2
  have b5 := ixb5 e2
  have b6 := ixb6 e2
  have h4 : (4 : Int32) ≠ 0 := by decide
  have hn : (iN m).toNatClampNeg = m := iN_nat (by omega)
  unfold fJoy fld at hK
  rw [hn]
  simp only [bI_0, Int32.zero_add]
  grind
set_option maxRecDepth 20000 in
theorem w169_326 {σ : gS} {K : gK} {t x : Int32} (h : ((0 ≤ t ∧ t < 20) ∧ 0 ≤ σ 326 3 ∧ σ 326 3 ≤ 20) ∧ (0 ≤ (9 + 10 * t + (5 : Int32)) ∧ (9 + 10 * t + (5 : Int32)) < 330) ∧ (((bI (isWin x)) = 0 → (((bI (isFwd (x / 4))) = 0 → (0 ≤ (9 + 10 * t + (6 : Int32)) ∧ (9 + 10 * t + (6 : Int32)) < 330) ∧ ((¬ ((x / 4) - (σ 326 (9 + 10 * t + (5 : Int32)).toNatClampNeg)) < 0 → K (some (.int ((4 * (kin (σ 326) t.toNatClampNeg (x / 8))) - ((σ 326 (9 + 10 * t + (6 : Int32)).toNatClampNeg) * ((x / 4) - (σ 326 (9 + 10 * t + (5 : Int32)).toNatClampNeg)))))) σ) ∧ (((x / 4) - (σ 326 (9 + 10 * t + (5 : Int32)).toNatClampNeg)) < 0 → K (some (.int ((4 * (kin (σ 326) t.toNatClampNeg (x / 8))) - ((σ 326 (9 + 10 * t + (6 : Int32)).toNatClampNeg) * (-((x / 4) - (σ 326 (9 + 10 * t + (5 : Int32)).toNatClampNeg))))))) σ))) ∧ (¬ (bI (isFwd (x / 4))) = 0 → (0 ≤ (9 + 10 * t + (4 : Int32)) ∧ (9 + 10 * t + (4 : Int32)) < 330) ∧ (0 ≤ (9 + 10 * t + (6 : Int32)) ∧ (9 + 10 * t + (6 : Int32)) < 330) ∧ ((¬ ((x / 4) - (σ 326 (9 + 10 * t + (5 : Int32)).toNatClampNeg)) < 0 → K (some (.int (((4 * (kin (σ 326) t.toNatClampNeg (x / 8))) + (σ 326 (9 + 10 * t + (4 : Int32)).toNatClampNeg)) - ((σ 326 (9 + 10 * t + (6 : Int32)).toNatClampNeg) * ((x / 4) - (σ 326 (9 + 10 * t + (5 : Int32)).toNatClampNeg)))))) σ) ∧ (((x / 4) - (σ 326 (9 + 10 * t + (5 : Int32)).toNatClampNeg)) < 0 → K (some (.int (((4 * (kin (σ 326) t.toNatClampNeg (x / 8))) + (σ 326 (9 + 10 * t + (4 : Int32)).toNatClampNeg)) - ((σ 326 (9 + 10 * t + (6 : Int32)).toNatClampNeg) * (-((x / 4) - (σ 326 (9 + 10 * t + (5 : Int32)).toNatClampNeg))))))) σ))))) ∧ (¬ (bI (isWin x)) = 0 → (0 ≤ (9 + 10 * t + (3 : Int32)) ∧ (9 + 10 * t + (3 : Int32)) < 330) ∧ (((bI (isFwd (x / 4))) = 0 → (0 ≤ (9 + 10 * t + (6 : Int32)) ∧ (9 + 10 * t + (6 : Int32)) < 330) ∧ ((¬ ((x / 4) - (σ 326 (9 + 10 * t + (5 : Int32)).toNatClampNeg)) < 0 → K (some (.int (((4 * (kin (σ 326) t.toNatClampNeg (x / 8))) + (σ 326 (9 + 10 * t + (3 : Int32)).toNatClampNeg)) - ((σ 326 (9 + 10 * t + (6 : Int32)).toNatClampNeg) * ((x / 4) - (σ 326 (9 + 10 * t + (5 : Int32)).toNatClampNeg)))))) σ) ∧ (((x / 4) - (σ 326 (9 + 10 * t + (5 : Int32)).toNatClampNeg)) < 0 → K (some (.int (((4 * (kin (σ 326) t.toNatClampNeg (x / 8))) + (σ 326 (9 + 10 * t + (3 : Int32)).toNatClampNeg)) - ((σ 326 (9 + 10 * t + (6 : Int32)).toNatClampNeg) * (-((x / 4) - (σ 326 (9 + 10 * t + (5 : Int32)).toNatClampNeg))))))) σ))) ∧ (¬ (bI (isFwd (x / 4))) = 0 → (0 ≤ (9 + 10 * t + (4 : Int32)) ∧ (9 + 10 * t + (4 : Int32)) < 330) ∧ (0 ≤ (9 + 10 * t + (6 : Int32)) ∧ (9 + 10 * t + (6 : Int32)) < 330) ∧ ((¬ ((x / 4) - (σ 326 (9 + 10 * t + (5 : Int32)).toNatClampNeg)) < 0 → K (some (.int ((((4 * (kin (σ 326) t.toNatClampNeg (x / 8))) + (σ 326 (9 + 10 * t + (3 : Int32)).toNatClampNeg)) + (σ 326 (9 + 10 * t + (4 : Int32)).toNatClampNeg)) - ((σ 326 (9 + 10 * t + (6 : Int32)).toNatClampNeg) * ((x / 4) - (σ 326 (9 + 10 * t + (5 : Int32)).toNatClampNeg)))))) σ) ∧ (((x / 4) - (σ 326 (9 + 10 * t + (5 : Int32)).toNatClampNeg)) < 0 → K (some (.int ((((4 * (kin (σ 326) t.toNatClampNeg (x / 8))) + (σ 326 (9 + 10 * t + (3 : Int32)).toNatClampNeg)) + (σ 326 (9 + 10 * t + (4 : Int32)).toNatClampNeg)) - ((σ 326 (9 + 10 * t + (6 : Int32)).toNatClampNeg) * (-((x / 4) - (σ 326 (9 + 10 * t + (5 : Int32)).toNatClampNeg))))))) σ))))))) : gE 169 0 [some (.ref 326), some (.int t), some (.int x), none, none] [] σ K :=
  gw_run (cy := 169) (cuts := []) (inl := []) (pf := gpfB) gpfB_ok 400 (by decide) h
theorem s169_326 {σ : gS} {K : gK} {t x : Int32} (hc : (0 ≤ t ∧ t < 20) ∧ 0 ≤ σ 326 3 ∧ σ 326 3 ≤ 20) (hK : K (some (.int (fJoy (σ 326) t.toNatClampNeg x))) σ) : gE 169 0 [some (.ref 326), some (.int t), some (.int x), none, none] [] σ K := by
  obtain ⟨ht, hc⟩ := hc
  obtain ⟨e1, e2⟩ := t20 ht
  obtain ⟨m, hm⟩ : ∃ m, t.toNatClampNeg = m := ⟨_, rfl⟩
  rw [hm] at e1 e2 hK
  subst e1
  refine w169_326 ?_
  rw [ix3 e2, ix4 e2, ix5 e2, ix6 e2]
  have b3 := ixb3 e2
  have b4 := ixb4 e2
  have b5 := ixb5 e2
  have b6 := ixb6 e2
  have h4 : (4 : Int32) ≠ 0 := by decide
  have hn : (iN m).toNatClampNeg = m := iN_nat (by omega)
  unfold fJoy fld at hK
  rw [hn]
  simp only [bI_0, Int32.zero_add]
  grind
noncomputable def f169 : gD := fun Lv σ => match Lv with
  | [some (.ref p), some (.int t), some (.int x), none, none] => cond (Nat.beq p 324 || Nat.beq p 325 || Nat.beq p 326) (some (some ((0 ≤ t ∧ t < 20) ∧ 0 ≤ σ p 3 ∧ σ p 3 ≤ 20), some (.int (fJoy (σ p) t.toNatClampNeg x)), σ)) none
  | _ => none
theorem ok169 : gFok 169 f169 := by
  intro Lv σ q h hc K hK
  unfold f169 at h
  split at h
  · rename_i p t x
    obtain ⟨hb, h⟩ := c_no h
    have hb0 := hb
    rcases s_or hb0 with hb0 | hb0
    · rcases s_or hb0 with hb0 | hb0
      · have e := b_eq hb0
        subst e
        cases h
        exact s169_324 (hc _ rfl) hK
      · have e := b_eq hb0
        subst e
        cases h
        exact s169_325 (hc _ rfl) hK
    · have e := b_eq hb0
      subst e
      cases h
      exact s169_326 (hc _ rfl) hK
  · cases h
end
