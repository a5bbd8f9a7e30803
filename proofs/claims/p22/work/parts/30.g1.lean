-- text 1
/-! THE G MACHINE: what must hold for a piece of code to come to its end with what is asked (a weakest precondition), over a heap whose shape is the loop head's and whose whole numbers are told by place and index -/
abbrev gS : Type := Nat → Nat → Int32
abbrev gK : Type := Option Value → gS → Prop
abbrev gL : Type := List (Option Value)
def gup (σ : gS) (a k : Nat) (x : Int32) : gS := fun b j => if b = a ∧ j = k then x else σ b j
noncomputable def gkd (a : Nat) : Nat := (sh0.1 a).1
noncomputable def gln (a : Nat) : Nat := (sh0.1 a).2.1
noncomputable def gct (a k : Nat) : Nat := (sh0.1 a).2.2 k
/-- the place that a field or an array's cell holds -/
noncomputable def gpl (a k : Nat) : Nat := Nat.mod (gct a k) 4294967296
/-- is it a field of whole numbers? -/
def gfi (c k : Nat) : Bool := match jv_fty c k with
  | .int => true
  | .boolean => true
  | _ => false
def gvl (f : Nat → Int32) (a c k : Nat) (v : Value) : Prop := cond (gfi c k) (v = .int (f k)) (cond (s_isR (gct a k)) (v = .ref (gpl a k)) True)
def gCk (f : Nat → Int32) (a : Nat) (x : jv_E) : Prop := match x with
  | .inl (ty, n, g) => gkd a = ty ∧ ty < 2 ∧ gln a = n ∧ ∀ i, i < n → g i = f i
  | .inr (.inl (ty, n, g)) => gkd a = ty ∧ (ty = 2 ∨ ty = 3) ∧ gln a = n ∧ ∀ i, i < n → g i = some (gpl a i)
  | .inr (.inr (d, fs)) => gkd a = 16 + d ∧ gln a = fs.length ∧ ∀ (i : Nat) (v : Value), fs[i]? = some v → gvl f a d i v
/-- the script's numbers are told as place 1000000's, its length as place 1000001's first -/
def gRel (L : Nat) (xs : Nat → Int32) (σ : gS) (h : jv_H) : Prop := h.2.1 = 332 ∧ h.2.2 = 13058 ∧ (h.1 1000000 = .inl (9, L, xs) ∧ L < 2147483648 ∧ σ 1000001 0 = Int32.ofNat L ∧ ∀ i, i < L → xs i = σ 1000000 i) ∧ ∀ a, a < 332 → gCk (σ a) a (h.1 a)
/-- from here the method comes to its end, with an answer and a heap of which K holds -/
def gE (y pc : Nat) (Lv : gL) (st : List Value) (σ : gS) (K : gK) : Prop := ∀ (L : Nat) (xs : Nat → Int32) (h : jv_H), gRel L xs σ h → ∃ (r : Option Value) (h' : jv_H) (σ' : gS), jv_ev y pc Lv st h (r, h') ∧ gRel L xs σ' h' ∧ K r σ'
/-- calls: of a method with a whole number, with nothing, with a place as its answer -/
def gXi (z : Nat) (Lv : gL) (σ : gS) (K : Int32 → gS → Prop) : Prop := gE z 0 Lv [] σ (fun r σ1 => ∃ x, r = some (.int x) ∧ K x σ1)
def gXv (z : Nat) (Lv : gL) (σ : gS) (K : gS → Prop) : Prop := gE z 0 Lv [] σ (fun r σ1 => r = none ∧ K σ1)
def gXr (z : Nat) (Lv : gL) (σ : gS) (K : Nat → gS → Prop) : Prop := gE z 0 Lv [] σ (fun r σ1 => ∃ p, r = some (.ref p) ∧ K p σ1)
noncomputable def gmem (l : List Nat) (x : Nat) : Bool := List.rec (motive := fun _ => Bool) false (fun a _ ih => cond (Nat.beq a x) true ih) l
noncomputable def gnth (l : gL) : Nat → Option Value := List.rec (motive := fun _ => Nat → Option Value) (fun _ => none) (fun a _ ih i => Nat.rec (motive := fun _ => Option Value) a (fun j _ => ih j) i) l
noncomputable def gset (l : gL) : Nat → Value → gL := List.rec (motive := fun _ => Nat → Value → gL) (fun _ _ => []) (fun a t ih i v => Nat.rec (motive := fun _ => gL) (some v :: t) (fun j _ => a :: ih j v) i) l
/-- a word of a number's code -/
def gnm (a : Nat) : Int32 := cond (Nat.blt a 2147483648) (Int32.ofNat a) (-(Int32.ofNat (4294967296 - a)))
abbrev gC : Type := gL → List Value → gS → Prop
section GOP
variable (a b : Nat) (Lv : gL) (st : List Value) (σ : gS) (k : gC)
def go_const : Prop := k Lv (.int (gnm a) :: st) σ
def go_ref : Prop := k Lv (.ref (a - sREF) :: st) σ
noncomputable def go_iload : Prop := match gnth Lv a with
  | some (.int x) => k Lv (.int x :: st) σ
  | _ => False
noncomputable def go_aload : Prop := match gnth Lv a with
  | some (.ref x) => k Lv (.ref x :: st) σ
  | _ => False
/-- no long word stands before local a -/
noncomputable def gfree : Bool := Nat.blt a Lv.length && (Nat.rec (motive := fun _ => Bool) true (fun j _ => match gnth Lv j with
  | some (.int _) => true
  | some (.ref _) => true
  | none => true
  | _ => false) a)
noncomputable def go_istore : Prop := match st with
  | .int x :: r => cond (gfree a Lv) (k (gset Lv a (.int x)) r σ) False
  | _ => False
noncomputable def go_astore : Prop := match st with
  | .ref x :: r => cond (gfree a Lv) (k (gset Lv a (.ref x)) r σ) False
  | _ => False
noncomputable def go_iinc : Prop := match gnth Lv a with
  | some (.int x) => cond (gfree a Lv) (k (gset Lv a (.int (x + gnm b))) st σ) False
  | _ => False
/-- a Traveller's place -/
def gTv (p : Nat) : Prop := p < 332 ∧ gkd p = 22
/-- the place p is of class c (a Traveller's place may be told by a number that is not known) -/
noncomputable def gcl (c p : Nat) (P : Prop) : Prop := cond (Nat.beq c 6) (gTv p ∧ P) (cond (Nat.blt p 332 && Nat.beq (gkd p) (16 + c)) P False)
noncomputable def go_getf : Prop := match st with
  | .ref p :: r => cond (Nat.blt b (jv_fn a) && Nat.blt a 9) (cond (gfi a b) (gcl a p (k Lv (.int (σ p b) :: r) σ)) (gcl a p (cond (s_isR (gct p b)) (k Lv (.ref (gpl p b) :: r) σ) False))) False
  | _ => False
noncomputable def go_putf : Prop := match st with
  | .int x :: .ref p :: r => cond (Nat.blt b (jv_fn a) && (Nat.blt a 9 && gfi a b)) (gcl a p (k Lv r (gup σ p b x))) False
  | _ => False
noncomputable def go_putz : Prop := match st with
  | .int x :: .ref p :: r => cond (Nat.blt b (jv_fn a) && (Nat.blt a 9 && gfi a b)) ((x = 0 ∨ x = 1) ∧ gcl a p (k Lv r (gup σ p b x))) False
  | _ => False
def go_two (f : Int32 → Int32 → Int32) : Prop := match st with
  | .int v :: .int x :: r => k Lv (.int (f x v) :: r) σ
  | _ => False
def go_div (f : Int32 → Int32 → Int32) : Prop := match st with
  | .int v :: .int x :: r => v ≠ 0 ∧ k Lv (.int (f x v) :: r) σ
  | _ => False
def go_neg : Prop := match st with
  | .int x :: r => k Lv (.int (-x) :: r) σ
  | _ => False
noncomputable def go_iald (kd : Nat) : Prop := match st with
  | .int i :: .ref p :: r => cond (Nat.blt p 332 && Nat.beq (gkd p) kd) ((0 ≤ i ∧ i < Int32.ofNat (gln p)) ∧ k Lv (.int (σ p i.toNatClampNeg) :: r) σ) False
  | _ => False
/-- of the script, in the law alone -/
noncomputable def go_sald (y : Nat) : Prop := match st with
  | .int i :: .ref p :: r => cond (Nat.beq p 1000000 && Nat.beq y 271) ((0 ≤ i ∧ i < σ 1000001 0) ∧ k Lv (.int (σ 1000000 i.toNatClampNeg) :: r) σ) (go_iald Lv st σ k 0)
  | _ => False
noncomputable def go_aald : Prop := match st with
  | .int i :: .ref p :: r => cond (Nat.blt p 332 && (Nat.beq (gkd p) 2 || Nat.beq (gkd p) 3)) ((0 ≤ i ∧ i < Int32.ofNat (gln p)) ∧ k Lv (.ref (gpl p i.toNatClampNeg) :: r) σ) False
  | _ => False
noncomputable def go_iast : Prop := match st with
  | .int x :: .int i :: .ref p :: r => cond (Nat.blt p 332 && Nat.beq (gkd p) 0) ((0 ≤ i ∧ i < Int32.ofNat (gln p)) ∧ k Lv r (gup σ p i.toNatClampNeg x)) False
  | _ => False
noncomputable def go_bast : Prop := match st with
  | .int x :: .int i :: .ref p :: r => cond (Nat.blt p 332 && Nat.beq (gkd p) 1) (((0 ≤ i ∧ i < Int32.ofNat (gln p)) ∧ (x = 0 ∨ x = 1)) ∧ k Lv r (gup σ p i.toNatClampNeg x)) False
  | _ => False
noncomputable def go_alen (y : Nat) : Prop := match st with
  | .ref p :: r => cond (Nat.beq p 1000000 && Nat.beq y 271) (k Lv (.int (σ 1000001 0) :: r) σ) (cond (Nat.blt p 332 && Nat.blt (gkd p) 4) (k Lv (.int (Int32.ofNat (gln p)) :: r) σ) False)
  | _ => False
def go_dup : Prop := match st with
  | .int x :: r => k Lv (.int x :: .int x :: r) σ
  | .ref x :: r => k Lv (.ref x :: .ref x :: r) σ
  | _ => False
def go_dup2 : Prop := match st with
  | .int x :: .ref p :: r => k Lv (.int x :: .ref p :: .int x :: .ref p :: r) σ
  | _ => False
def go_pop : Prop := match st with
  | .int _ :: r => k Lv r σ
  | .ref _ :: r => k Lv r σ
  | _ => False
def g1 (l : List Value) : Bool := match l with
  | [] => true
  | .int _ :: r => g1 r
  | .ref _ :: r => g1 r
  | _ => false
noncomputable def go_slen : Prop := match st with
  | .ref p :: r => cond (g1 r && Nat.ble r.length 8) (match jv_tix p with
    | some i => k Lv (.int (Int32.ofNat (jv_byt.getD i []).length) :: r) σ
    | none => False) False
  | _ => False
noncomputable def go_sat : Prop := match st with
  | .int j :: .ref p :: r => cond (g1 r && Nat.ble r.length 8) (match jv_tix p with
    | some i => (0 ≤ j ∧ j < Int32.ofNat (jv_byt.getD i []).length) ∧ k Lv (.int ((jv_byt.getD i []).getD j.toNatClampNeg 0) :: r) σ
    | none => False) False
  | _ => False
end GOP
abbrev gJ : Type := Nat → gL → List Value → gS → Prop
section GJP
variable (a b : Nat) (Lv : gL) (st : List Value) (σ : gS) (k : gC) (j : gJ)
/-- a branch -/
def gbr (x v : Int32) (A B : Prop) : Prop :=
  cond (Nat.beq a 0) ((x = v → A) ∧ (¬ x = v → B)) (cond (Nat.beq a 1) ((¬ x = v → A) ∧ (x = v → B)) (cond (Nat.beq a 2) ((x < v → A) ∧ (¬ x < v → B)) (cond (Nat.beq a 3) ((¬ x < v → A) ∧ (x < v → B)) (cond (Nat.beq a 4) ((v < x → A) ∧ (¬ v < x → B)) ((¬ v < x → A) ∧ (v < x → B))))))
def go_if : Prop := match st with
  | .int x :: r => gbr a x 0 (j b Lv r σ) (k Lv r σ)
  | _ => False
def go_icmp : Prop := match st with
  | .int v :: .int x :: r => gbr a x v (j b Lv r σ) (k Lv r σ)
  | _ => False
def gsw (x : Int32) (r : List Value) (d : Nat) (ps : List (Int32 × Nat)) : Prop := match ps with
  | [] => j d Lv r σ
  | q :: ps => (x = q.1 → j q.2 Lv r σ) ∧ (¬ x = q.1 → gsw x r d ps)
/-- the table's words and targets -/
def gtabl (pc lo : Int) (offs : List Int) : List (Int32 × Nat) := match offs with
  | [] => []
  | o :: t => (Int32.ofInt lo, (pc + o).toNat) :: gtabl pc (lo + 1) t
def go_tab (y : Nat) : Prop := match st with
  | .int x :: r => match jv_code y a with
    | some (.tableswitch d lo hi offs, _) => lo + offs.toList.length = hi + 1 ∧ gsw Lv σ j x r ((a : Int) + d).toNat (gtabl a lo offs.toList)
    | _ => False
  | _ => False
def go_lsw (y : Nat) : Prop := match st with
  | .int x :: r => match jv_code y a with
    | some (.lookupswitch d ps, _) => gsw Lv σ j x r ((a : Int) + d).toNat (ps.toList.map (fun p => (Int32.ofInt p.1, ((a : Int) + p.2).toNat)))
    | _ => False
  | _ => False
/-- minus, shift to the left, or -/
def go_51 (y pc : Nat) : Prop := match jv_code y pc with
  | some (.ineg, _) => go_neg Lv st σ k
  | some (.ishl, _) => go_two Lv st σ k (fun x v => x <<< (v &&& 31))
  | some (.ior, _) => go_two Lv st σ k (fun x v => x ||| v)
  | _ => False
end GJP
abbrev gR : Type := Nat → Nat → List sI → gL → List Value → gS → gK → Prop
noncomputable def gtk (l : List Value) : Nat → List Value := List.rec (motive := fun _ => Nat → List Value) (fun _ => []) (fun x _ ih n => Nat.rec (motive := fun _ => List Value) [] (fun m _ => x :: ih m) n) l
noncomputable def gdr (l : List Value) : Nat → List Value := List.rec (motive := fun _ => Nat → List Value) (fun _ => []) (fun x t ih n => Nat.rec (motive := fun _ => List Value) (x :: t) (fun m _ => ih m) n) l
noncomputable def grv (l : List Value) : gL → gL := List.rec (motive := fun _ => gL → gL) (fun acc => acc) (fun x _ ih acc => ih (some x :: acc)) l
noncomputable def gno (n : Nat) : gL := Nat.rec (motive := fun _ => gL) [] (fun _ ih => none :: ih) n
noncomputable def gnv (l : List Value) : Nat → Option Value := List.rec (motive := fun _ => Nat → Option Value) (fun _ => none) (fun a _ ih i => Nat.rec (motive := fun _ => Option Value) (some a) (fun j _ => ih j) i) l
def gret (z : Nat) : Nat := match (jv_ym z).2.2 with
  | none => 0
  | some .int => 1
  | some .boolean => 1
  | _ => 2
/-- methods whose meaning is known: what they ask, what they answer, the heap behind them -/
abbrev gP : Type := Nat → gL → gS → Option (Option Prop × Option Value × gS)
def gan (c : Option Prop) (P : Prop) : Prop := match c with
  | none => P
  | some Q => Q ∧ P
def gpf0 : gP := fun _ _ _ => none
section GW
variable (run : gR) (cy : Nat) (cuts inl : List Nat) (pf : gP)
noncomputable def grc (b : Nat) (st : List Value) (P : Prop) : Prop := cond (Nat.beq (b / 1024) 0) P (match gnv st (b % 16 - 1) with
  | some (.ref p) => gcl (b / 1024 - 1) p P
  | _ => False)
noncomputable def go_call (a b : Nat) (Lv : gL) (st : List Value) (σ : gS) (k : gC) : Prop :=
  cond (g1 st && (Nat.ble (b % 16) st.length && (Nat.ble st.length (b % 16 + 8) && Nat.blt (b / 1024) 10))) (grc b st
    (match pf a (grv (gtk st (b % 16)) (gno (b / 16 % 64 - b % 16))) σ with
    | some q => gan q.1 (match q.2.1 with
      | none => k Lv (gdr st (b % 16)) q.2.2
      | some v => k Lv (v :: gdr st (b % 16)) q.2.2)
    | none => cond (gmem inl a) (run a 0 (sc_meth a) (grv (gtk st (b % 16)) (gno (b / 16 % 64 - b % 16))) [] σ (fun r σ1 => match r with
      | none => k Lv (gdr st (b % 16)) σ1
      | some v => k Lv (v :: gdr st (b % 16)) σ1))
      (cond (Nat.beq (gret a) 0) (gXv a (grv (gtk st (b % 16)) (gno (b / 16 % 64 - b % 16))) σ (fun σ1 => k Lv (gdr st (b % 16)) σ1))
      (cond (Nat.beq (gret a) 1) (gXi a (grv (gtk st (b % 16)) (gno (b / 16 % 64 - b % 16))) σ (fun x σ1 => k Lv (.int x :: gdr st (b % 16)) σ1))
      (gXr a (grv (gtk st (b % 16)) (gno (b / 16 % 64 - b % 16))) σ (fun p σ1 => k Lv (.ref p :: gdr st (b % 16)) σ1)))))) False
def go_vret (st : List Value) (σ : gS) (K : gK) : Prop := match st with
  | [] => K none σ
  | _ => False
def go_ret (st : List Value) (σ : gS) (K : gK) : Prop := match st with
  | [.int x] => K (some (.int x)) σ
  | _ => False
def go_zret (st : List Value) (σ : gS) (K : gK) : Prop := match st with
  | [.int x] => (x = 0 ∨ x = 1) ∧ K (some (.int x)) σ
  | _ => False
def go_aret (st : List Value) (σ : gS) (K : gK) : Prop := match st with
  | [.ref x] => K (some (.ref x)) σ
  | _ => False
/-- on, or stop at a cut -/
noncomputable def gon (y pc : Nat) (t : List sI) (Lv : gL) (st : List Value) (σ : gS) (K : gK) : Prop := cond (Nat.beq y cy && gmem cuts pc) (gE y pc Lv st σ K) (run y pc t Lv st σ K)
noncomputable def gjp (y : Nat) (K : gK) : gJ := fun tgt Lv st σ => match s_find (sc_meth y) 0 tgt with
  | some l => gon run cy cuts y tgt l Lv st σ K
  | none => False
noncomputable def gop (y pc : Nat) (op a b : Nat) (Lv : gL) (st : List Value) (σ : gS) (K : gK) (k : gC) (j : gJ) : Prop := (cond (Nat.blt op 26) (cond (Nat.blt op 13) (cond (Nat.blt op 6) (cond (Nat.blt op 3) (cond (Nat.blt op 1) (go_const a Lv st σ k) (cond (Nat.blt op 2) (go_iload a Lv st σ k) (go_aload a Lv st σ k))) (cond (Nat.blt op 4) False (cond (Nat.blt op 5) (go_istore a Lv st σ k) (go_astore a Lv st σ k)))) (cond (Nat.blt op 9) (cond (Nat.blt op 7) False (cond (Nat.blt op 8) (go_iinc a b Lv st σ k) (go_getf a b Lv st σ k))) (cond (Nat.blt op 11) (cond (Nat.blt op 10) (go_putf a b Lv st σ k) (go_putz a b Lv st σ k)) (cond (Nat.blt op 12) False (j a Lv st σ))))) (cond (Nat.blt op 19) (cond (Nat.blt op 16) (cond (Nat.blt op 14) (go_if a b Lv st σ k j) (cond (Nat.blt op 15) (go_icmp a b Lv st σ k j) (go_two Lv st σ k (fun x v => x + v)))) (cond (Nat.blt op 17) (go_two Lv st σ k (fun x v => x - v)) (cond (Nat.blt op 18) (go_two Lv st σ k (fun x v => x * v)) (go_div Lv st σ k (fun x v => x / v))))) (cond (Nat.blt op 22) (cond (Nat.blt op 20) (go_div Lv st σ k (fun x v => x - x / v * v)) (cond (Nat.blt op 21) (go_two Lv st σ k (fun x v => x &&& v)) (go_two Lv st σ k (fun x v => x >>> (v &&& 31))))) (cond (Nat.blt op 24) (cond (Nat.blt op 23) (go_two Lv st σ k (fun x v => x ^^^ v)) (go_sald Lv st σ k y)) (cond (Nat.blt op 25) (go_iald Lv st σ k 1) (go_aald Lv st σ k)))))) (cond (Nat.blt op 39) (cond (Nat.blt op 32) (cond (Nat.blt op 29) (cond (Nat.blt op 27) (go_iast Lv st σ k) (cond (Nat.blt op 28) (go_bast Lv st σ k) False)) (cond (Nat.blt op 30) (go_alen Lv st σ k y) False)) (cond (Nat.blt op 35) (cond (Nat.blt op 33) False (cond (Nat.blt op 34) (go_dup Lv st σ k) (go_dup2 Lv st σ k))) (cond (Nat.blt op 37) (cond (Nat.blt op 36) (go_pop Lv st σ k) (go_call run inl pf a b Lv st σ k)) (cond (Nat.blt op 38) False (go_slen Lv st σ k))))) (cond (Nat.blt op 45) (cond (Nat.blt op 42) (cond (Nat.blt op 40) (go_sat Lv st σ k) (cond (Nat.blt op 41) (go_vret st σ K) (go_ret st σ K))) (cond (Nat.blt op 43) (go_zret st σ K) (cond (Nat.blt op 44) (go_aret st σ K) False))) (cond (Nat.blt op 48) (cond (Nat.blt op 46) False (cond (Nat.blt op 47) (go_tab a Lv st σ j y) False)) (cond (Nat.blt op 50) (cond (Nat.blt op 49) (go_const a Lv st σ k) (go_ref a Lv st σ k)) (cond (Nat.blt op 51) (go_lsw a Lv st σ j y) (go_51 Lv st σ k y pc)))))))
noncomputable def gbody : gR := fun y pc t Lv st σ K => match t with
  | [] => False
  | e :: t => gop run inl pf y pc e.1 e.2.1 e.2.2.1 Lv st σ K (fun Lv st σ => gon run cy cuts y (pc + e.2.2.2) t Lv st σ K) (gjp run cy cuts y K)
end GW
noncomputable def gw (cy : Nat) (cuts inl : List Nat) (pf : gP) (n : Nat) : gR := Nat.rec (motive := fun _ => gR) (fun _ _ _ _ _ _ _ => False) (fun _ ih => gbody ih cy cuts inl pf) n
noncomputable def gwm (cy : Nat) (cuts inl : List Nat) (pf : gP) (n : Nat) (y pc : Nat) (Lv : gL) (st : List Value) (σ : gS) (K : gK) : Prop := match s_find (sc_meth y) 0 pc with
  | some l => gw cy cuts inl pf n y pc l Lv st σ K
  | none => False
-- text 2
/-! THE G MACHINE IS RIGHT -/
theorem gnm_eq {a : Nat} (h : a < sM) : gnm a = Int32.ofNat a := by
  unfold gnm
  have h2 : a < 4294967296 := h
  cases q : Nat.blt a 2147483648 with
  | true => rfl
  | false =>
    have h3 := b_nlt q
    show -(Int32.ofNat (4294967296 - a)) = Int32.ofNat a
    apply Int32.toBitVec.inj
    show -(BitVec.ofNat 32 (4294967296 - a)) = BitVec.ofNat 32 a
    apply BitVec.eq_of_toNat_eq
    simp only [BitVec.toNat_neg, BitVec.toNat_ofNat]
    omega
theorem gnth_ok : ∀ (l : gL) (i : Nat) (v : Value), gnth l i = some v → l[i]? = some (some v)
  | [], i, v, h => by cases h
  | x :: t, 0, v, h => by
    have h2 : x = some v := h
    rw [h2]
    rfl
  | x :: t, i + 1, v, h => by
    rw [List.getElem?_cons_succ]
    exact gnth_ok t i v h
theorem gnth_no : ∀ (l : gL) (i : Nat), gnth l i = none → l[i]? = some none ∨ l[i]? = none
  | [], i, h => Or.inr rfl
  | x :: t, 0, h => by
    have h2 : x = none := h
    rw [h2]
    exact Or.inl rfl
  | x :: t, i + 1, h => by
    rw [List.getElem?_cons_succ]
    exact gnth_no t i h
theorem gset_ok (v : Value) : ∀ (l : gL) (i : Nat), gset l i v = l.set i (some v)
  | [], i => rfl
  | x :: t, 0 => rfl
  | x :: t, i + 1 => by
    show x :: gset t i v = x :: t.set i (some v)
    rw [gset_ok v t i]
theorem gfree_ok {Lv : gL} {a : Nat} (v : Value) (h : gfree a Lv = true) : jv_set1 Lv a v = some (gset Lv a v) := by
  unfold gfree at h
  obtain ⟨h1, h2⟩ := s_and h
  have hlt := b_lt h1
  unfold jv_set1
  rw [if_pos hlt, gset_ok]
  cases a with
  | zero => rfl
  | succ j =>
    have h3 : (match gnth Lv j with
      | some (.int _) => true
      | some (.ref _) => true
      | none => true
      | _ => false) = true := h2
    have h4 : ¬ jv_cat2 Lv j = true := by
      refine jv_cat2_one (fun v hv => ?_)
      split at h3
      · rename_i q
        rw [gnth_ok _ _ _ q] at hv
        cases hv
        rfl
      · rename_i q
        rw [gnth_ok _ _ _ q] at hv
        cases hv
        rfl
      · rename_i q
        rcases gnth_no _ _ q with q | q
        · rw [q] at hv; cases hv
        · rw [q] at hv; cases hv
      · cases h3
    show (if jv_cat2 Lv j = true then none else some (Lv.set (j + 1) (some v))) = _
    rw [if_neg h4]
theorem gkd_far {p : Nat} (h : 332 ≤ p) : gkd p = 0 := by
  unfold gkd sh0
  show (s_at (0, 0, fun _ => 0) (s_at [] sh_all (p / 16)) (p % 16)).1 = 0
  rcases Nat.lt_or_ge p 336 with q | q
  · have : p = 332 ∨ p = 333 ∨ p = 334 ∨ p = 335 := by omega
    rcases this with rfl | rfl | rfl | rfl <;> rfl
  · have e : s_at [] sh_all (p / 16) = [] := by
      obtain ⟨m, hm⟩ : ∃ m, p / 16 = m + 21 := ⟨p / 16 - 21, by omega⟩
      rw [hm]
      rfl
    rw [e]
    rfl
theorem gln_ok : ∀ p, p < 332 → ∀ c, c < 9 → gkd p = 16 + c → gln p = jv_fn c := by decide +kernel
theorem gln_lt : ∀ p, p < 332 → gln p < 100000 := by decide +kernel
section GSND
variable {y pc : Nat} {i : Instr} {len : Nat} {t : List sI} {Lv : gL} {st : List Value} {σ : gS} {K : gK} {k : gC} {j : gJ} {a b : Nat}
theorem gE_step (hy : y < 272) (hcode : jv_code y pc = some (i, len)) (hR : jv_isR i = false) (hC : jv_isC i = none) {pc' : Nat} {Lv' : gL} {st' : List Value} {σ' : gS} (hs : ∀ (L : Nat) (xs : Nat → Int32) (h : jv_H), gRel L xs σ h → ∃ h1, jv_step (sow y) (sini y) i len pc Lv st h = some (pc', Lv', st', h1) ∧ gRel L xs σ' h1) (hg : gE y pc' Lv' st' σ' K) : gE y pc Lv st σ K := by
  intro L xs h hh
  obtain ⟨h1, h2, h3⟩ := hs L xs h hh
  obtain ⟨r, h', σ2, h4, h5, h6⟩ := hg L xs h1 h3
  obtain ⟨ow, kd, na, mL, fr, lo, hinf, e1, e2⟩ := s_inf hy
  rw [e1, e2] at h2
  exact ⟨r, h', σ2, jv_ev_step (fun n => jv_run_step hinf hcode hR hC h2) h4, h5, h6⟩
/-- what each operation's row takes: the method, the instruction there, what holds behind it -/
def gA (y pc : Nat) (i : Instr) (len : Nat) (K : gK) (k : gC) : Prop := y < 272 ∧ jv_code y pc = some (i, len) ∧ ∀ Lv st σ, k Lv st σ → gE y (pc + len) Lv st σ K
theorem gA_go (A : gA y pc i len K k) (hR : jv_isR i = false) (hC : jv_isC i = none) {Lv' : gL} {st' : List Value} {σ' : gS} (hs : ∀ (L : Nat) (xs : Nat → Int32) (h : jv_H), gRel L xs σ h → ∃ h1, jv_step (sow y) (sini y) i len pc Lv st h = some (pc + len, Lv', st', h1) ∧ gRel L xs σ' h1) (hk : k Lv' st' σ') : gE y pc Lv st σ K :=
  gE_step A.1 A.2.1 hR hC hs (A.2.2 _ _ _ hk)
theorem gA_pure (A : gA y pc i len K k) (hR : jv_isR i = false) (hC : jv_isC i = none) {st' : List Value} (hs : jv_pure i st = some st') (hk : k Lv st' σ) : gE y pc Lv st σ K :=
  gA_go A hR hC (fun L xs h hh => ⟨h, st_pure hs, hh⟩) hk
theorem gk_const (A : gA y pc i len K k) (hs : sk_const i a = true) (hr : go_const a Lv st σ k) : gE y pc Lv st σ K := by
  unfold go_const at hr
  unfold sk_const at hs
  split at hs
  · obtain ⟨h1, h2⟩ := of_decide_eq_true hs
    rw [gnm_eq h2, ← h1] at hr
    exact gA_pure A rfl rfl rfl hr
  · obtain ⟨h1, h2⟩ := of_decide_eq_true hs
    rw [gnm_eq h2, ← h1] at hr
    exact gA_pure A rfl rfl rfl hr
  · obtain ⟨h1, h2⟩ := of_decide_eq_true hs
    rw [gnm_eq h2, ← h1] at hr
    exact gA_pure A rfl rfl rfl hr
  · cases hs
theorem gk_ldc {kd : Nat} (A : gA y pc i len K k) (hkd : kd = 0) (hs : sk_ldc y i a kd = true) (hr : go_const a Lv st σ k) : gE y pc Lv st σ K := by
  unfold go_const at hr
  unfold sk_ldc at hs
  split at hs
  · rename_i idx
    split at hs
    · rename_i w hl
      obtain ⟨h1, h2⟩ := of_decide_eq_true hs
      rw [gnm_eq h2, ← h1] at hr
      refine gA_go A rfl rfl (fun L xs h hh => ⟨h, st_heap rfl rfl rfl rfl ?_, hh⟩) hr
      show (match jv_ldc (sow y) idx with
        | some v => some (v :: st, h)
        | none => none) = _
      rw [hl]
    · cases hkd
    · cases hs
  · cases hs
theorem gk_ldr {kd : Nat} (A : gA y pc i len K k) (hkd : kd = 1) (hs : sk_ldc y i a kd = true) (hr : go_ref a Lv st σ k) : gE y pc Lv st σ K := by
  unfold go_ref at hr
  unfold sk_ldc at hs
  split at hs
  · rename_i idx
    split at hs
    · cases hkd
    · rename_i p hl
      obtain ⟨h1, h2⟩ := of_decide_eq_true hs
      have e : a - sREF = p := by rw [h1]; exact Nat.add_sub_cancel_left ..
      rw [e] at hr
      refine gA_go A rfl rfl (fun L xs h hh => ⟨h, st_heap rfl rfl rfl rfl ?_, hh⟩) hr
      show (match jv_ldc (sow y) idx with
        | some v => some (v :: st, h)
        | none => none) = _
      rw [hl]
    · cases hs
  · cases hs
theorem gk_iload (A : gA y pc i len K k) (hs : sk_iload i a = true) (hr : go_iload a Lv st σ k) : gE y pc Lv st σ K := by
  unfold go_iload at hr
  split at hr
  · rename_i x hq
    have hv := gnth_ok _ _ _ hq
    have e : jv_ldI Lv a st = some (.int x :: st) := by unfold jv_ldI; rw [hv]
    unfold sk_iload at hs
    split at hs
    · have h2 := of_decide_eq_true hs
      exact gA_go A rfl rfl (fun L xs h hh => ⟨h, st_ld rfl (by rw [← h2] at e; exact e), hh⟩) hr
    · have h2 := of_decide_eq_true hs
      exact gA_go A rfl rfl (fun L xs h hh => ⟨h, st_ld rfl (by rw [← h2] at e; exact e), hh⟩) hr
    · cases hs
  · exact hr.elim
theorem gk_aload (A : gA y pc i len K k) (hs : sk_aload i a = true) (hr : go_aload a Lv st σ k) : gE y pc Lv st σ K := by
  unfold go_aload at hr
  split at hr
  · rename_i x hq
    have hv := gnth_ok _ _ _ hq
    have e : jv_ldA Lv a st = some (.ref x :: st) := by unfold jv_ldA; rw [hv]
    unfold sk_aload at hs
    split at hs
    · have h2 := of_decide_eq_true hs
      exact gA_go A rfl rfl (fun L xs h hh => ⟨h, st_ld rfl (by rw [← h2] at e; exact e), hh⟩) hr
    · have h2 := of_decide_eq_true hs
      exact gA_go A rfl rfl (fun L xs h hh => ⟨h, st_ld rfl (by rw [← h2] at e; exact e), hh⟩) hr
    · cases hs
  · exact hr.elim
theorem gk_istore (A : gA y pc i len K k) (hs : sk_istore i a = true) (hr : go_istore a Lv st σ k) : gE y pc Lv st σ K := by
  unfold go_istore at hr
  split at hr
  · rename_i x r
    cases hq : gfree a Lv with
    | false => rw [hq] at hr; exact hr.elim
    | true =>
      rw [hq] at hr
      have e : jv_stI Lv a (.int x :: r) = some (gset Lv a (.int x), r) := by unfold jv_stI; simp only [gfree_ok _ hq]
      unfold sk_istore at hs
      split at hs
      · have h2 := of_decide_eq_true hs
        exact gA_go A rfl rfl (fun L xs h hh => ⟨h, st_sto rfl rfl rfl (by rw [← h2] at e; exact e), hh⟩) (by rw [h2]; exact hr)
      · have h2 := of_decide_eq_true hs
        exact gA_go A rfl rfl (fun L xs h hh => ⟨h, st_sto rfl rfl rfl (by rw [← h2] at e; exact e), hh⟩) (by rw [h2]; exact hr)
      · cases hs
  · exact hr.elim
theorem gk_astore (A : gA y pc i len K k) (hs : sk_astore i a = true) (hr : go_astore a Lv st σ k) : gE y pc Lv st σ K := by
  unfold go_astore at hr
  split at hr
  · rename_i x r
    cases hq : gfree a Lv with
    | false => rw [hq] at hr; exact hr.elim
    | true =>
      rw [hq] at hr
      have e : jv_stA Lv a (.ref x :: r) = some (gset Lv a (.ref x), r) := by unfold jv_stA; simp only [gfree_ok _ hq]
      unfold sk_astore at hs
      split at hs
      · have h2 := of_decide_eq_true hs
        exact gA_go A rfl rfl (fun L xs h hh => ⟨h, st_sto rfl rfl rfl (by rw [← h2] at e; exact e), hh⟩) (by rw [h2]; exact hr)
      · have h2 := of_decide_eq_true hs
        exact gA_go A rfl rfl (fun L xs h hh => ⟨h, st_sto rfl rfl rfl (by rw [← h2] at e; exact e), hh⟩) (by rw [h2]; exact hr)
      · cases hs
  · exact hr.elim
theorem gk_iinc (A : gA y pc i len K k) (hs : sk_iinc i a b = true) (hr : go_iinc a b Lv st σ k) : gE y pc Lv st σ K := by
  unfold go_iinc at hr
  split at hr
  · rename_i x hx
    have hv := gnth_ok _ _ _ hx
    cases hq : gfree a Lv with
    | false => rw [hq] at hr; exact hr.elim
    | true =>
      rw [hq] at hr
      unfold sk_iinc at hs
      split at hs
      · rename_i q n
        obtain ⟨rfl, hn, hb⟩ := of_decide_eq_true hs
        have hr : k (gset Lv q (.int (x + gnm b))) st σ := hr
        rw [gnm_eq hb, ← hn] at hr
        refine gA_go A rfl rfl (fun L xs h hh => ⟨h, st_sto rfl rfl rfl ?_, hh⟩) hr
        show (match Lv[q]? with
          | some (some (.int x)) => match jv_set1 Lv q (.int (x + Int32.ofInt n)) with
            | some L' => some (L', st)
            | none => none
          | _ => none) = _
        rw [hv]
        show (match jv_set1 Lv q (.int (x + Int32.ofInt n)) with
            | some L' => some (L', st)
            | none => none) = _
        rw [gfree_ok _ hq]
      · cases hs
  · exact hr.elim
theorem gk_two (A : gA y pc i len K k) {f : Int32 → Int32 → Int32} (hR : jv_isR i = false) (hC : jv_isC i = none) (hp : ∀ (x v : Int32) (r : List Value), jv_pure i (.int v :: .int x :: r) = some (.int (f x v) :: r)) (hr : go_two Lv st σ k f) : gE y pc Lv st σ K := by
  unfold go_two at hr
  split at hr
  · exact gA_pure A hR hC (hp _ _ _) hr
  · exact hr.elim
theorem gk_div (A : gA y pc i len K k) {f : Int32 → Int32 → Int32} (hR : jv_isR i = false) (hC : jv_isC i = none) (hp : ∀ (x v : Int32) (r : List Value), v ≠ 0 → jv_pure i (.int v :: .int x :: r) = some (.int (f x v) :: r)) (hr : go_div Lv st σ k f) : gE y pc Lv st σ K := by
  unfold go_div at hr
  split at hr
  · exact gA_pure A hR hC (hp _ _ _ hr.1) hr.2
  · exact hr.elim
theorem gk_neg (A : gA y pc .ineg len K k) (hr : go_neg Lv st σ k) : gE y pc Lv st σ K := by
  unfold go_neg at hr
  split at hr
  · exact gA_pure A rfl rfl rfl hr
  · exact hr.elim
theorem gk_dup (A : gA y pc i len K k) (hs : i = .dup) (hr : go_dup Lv st σ k) : gE y pc Lv st σ K := by
  subst hs
  unfold go_dup at hr
  split at hr
  · exact gA_pure A rfl rfl rfl hr
  · exact gA_pure A rfl rfl rfl hr
  · exact hr.elim
theorem gk_dup2 (A : gA y pc i len K k) (hs : i = .dup2) (hr : go_dup2 Lv st σ k) : gE y pc Lv st σ K := by
  subst hs
  unfold go_dup2 at hr
  split at hr
  · exact gA_pure A rfl rfl rfl hr
  · exact hr.elim
theorem gk_pop (A : gA y pc i len K k) (hs : i = .pop) (hr : go_pop Lv st σ k) : gE y pc Lv st σ K := by
  subst hs
  unfold go_pop at hr
  split at hr
  · exact gA_pure A rfl rfl rfl hr
  · exact gA_pure A rfl rfl rfl hr
  · exact hr.elim
theorem gcl_of {c p : Nat} {P : Prop} (hc : c < 9) (h : gcl c p P) : (p < 332 ∧ gkd p = 16 + c) ∧ P := by
  unfold gcl at h
  cases q : Nat.beq c 6 with
  | true =>
    rw [q] at h
    obtain ⟨⟨h1, h2⟩, h3⟩ := h
    exact ⟨⟨h1, by rw [b_eq q]; exact h2⟩, h3⟩
  | false =>
    rw [q] at h
    cases q2 : (Nat.blt p 332 && Nat.beq (gkd p) (16 + c)) with
    | true =>
      rw [q2] at h
      obtain ⟨h1, h2⟩ := s_and q2
      exact ⟨⟨b_lt h1, b_eq h2⟩, h⟩
    | false => rw [q2] at h; exact h.elim
theorem gCk_obj {f : Nat → Int32} {p c : Nat} {x : jv_E} (hc : gCk f p x) (hk : gkd p = 16 + c) : ∃ fs, x = .inr (.inr (c, fs)) ∧ gln p = fs.length ∧ ∀ (i : Nat) (v : Value), fs[i]? = some v → gvl f p c i v := by
  match x, hc with
  | .inl (ty, n, g), hc =>
    obtain ⟨e1, e2, -⟩ := hc
    omega
  | .inr (.inl (ty, n, g)), hc =>
    obtain ⟨e1, e2, -⟩ := hc
    omega
  | .inr (.inr (d, fs)), hc =>
    obtain ⟨e1, e2, e3⟩ := hc
    have : d = c := by omega
    subst this
    exact ⟨fs, rfl, e2, e3⟩
theorem gCk_arr {f : Nat → Int32} {p c : Nat} {x : jv_E} (hc : gCk f p x) (hk : gkd p = c) (hc2 : c < 2) : ∃ g, x = .inl (c, gln p, g) ∧ ∀ i, i < gln p → g i = f i := by
  match x, hc with
  | .inl (ty, n, g), hc =>
    obtain ⟨e1, e2, e3, e4⟩ := hc
    have : ty = c := by omega
    subst this
    subst e3
    exact ⟨g, rfl, e4⟩
  | .inr (.inl (ty, n, g)), hc =>
    obtain ⟨e1, e2, -⟩ := hc
    omega
  | .inr (.inr (d, fs)), hc =>
    obtain ⟨e1, e2, e3⟩ := hc
    omega
theorem gCk_rarr {f : Nat → Int32} {p c : Nat} {x : jv_E} (hc : gCk f p x) (hk : gkd p = c) (hc2 : c = 2 ∨ c = 3) : ∃ g, x = .inr (.inl (c, gln p, g)) ∧ ∀ i, i < gln p → g i = some (gpl p i) := by
  match x, hc with
  | .inl (ty, n, g), hc =>
    obtain ⟨e1, e2, e3, e4⟩ := hc
    omega
  | .inr (.inl (ty, n, g)), hc =>
    obtain ⟨e1, e2, e3, e4⟩ := hc
    have : ty = c := by omega
    subst this
    subst e3
    exact ⟨g, rfl, e4⟩
  | .inr (.inr (d, fs)), hc =>
    obtain ⟨e1, e2, e3⟩ := hc
    omega
theorem gRel_put {L : Nat} {xs : Nat → Int32} {h : jv_H} {p m : Nat} {w : Int32} {x : jv_E} (hh : gRel L xs σ h) (hp : p < 332) (hc : gCk (gup σ p m w p) p x) : gRel L xs (gup σ p m w) (jv_put h p x) := by
  obtain ⟨h1, h2, h3, h4⟩ := hh
  have hs : ∀ q, 332 ≤ q → gup σ p m w q = σ q := by
    intro q hq
    funext j
    unfold gup
    rw [if_neg (fun e => by omega)]
  refine ⟨h1, h2, ⟨?_, h3.2.1, by rw [hs _ (by decide)]; exact h3.2.2.1, by rw [hs _ (by decide)]; exact h3.2.2.2⟩, fun a ha => ?_⟩
  · show jv_up h.1 p x 1000000 = _
    unfold jv_up
    rw [if_neg (by omega)]
    exact h3.1
  · show gCk (gup σ p m w a) a (jv_up h.1 p x a)
    unfold jv_up
    by_cases q : a = p
    · rw [if_pos q, q]; exact hc
    · rw [if_neg q]
      have e : gup σ p m w a = σ a := by
        funext j
        unfold gup
        rw [if_neg (fun e => q e.1)]
      rw [e]
      exact h4 a ha
theorem gup_at (p m : Nat) (w : Int32) : gup σ p m w p m = w := by unfold gup; rw [if_pos ⟨rfl, rfl⟩]
theorem gup_ne {p m q n : Nat} {w : Int32} (h : ¬ (q = p ∧ n = m)) : gup σ p m w q n = σ q n := by unfold gup; rw [if_neg h]
end GSND
