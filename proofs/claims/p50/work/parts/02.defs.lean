/-! A plain evaluator of the bytecode over a plain heap: whole numbers for ints, cells by numbers. -/
abbrev pz_V : Type := Int ⊕ (Nat ⊕ (Int ⊕ (UInt32 ⊕ UInt64)))
/-- how many cells are known; of each its kind, its length, its references (0: null, 1: the script, r + 2: the cell r) -/
abbrev pz_S : Type := Nat × (Nat → Nat) × (Nat → Nat) × (Nat → Nat → Nat)
/-- shape, whole numbers, doubles, how many cells and slots were made -/
abbrev pz_H : Type := pz_S × (Nat → Nat → Int) × (Nat → Nat → UInt64) × Nat × Nat
abbrev pz_L : Type := List (Option pz_V)
/-- group, instruction, its length, numbers of its own -/
abbrev pz_Op : Type := Nat × Instr × Nat × Nat × Nat × Nat × Nat
abbrev pz_O : Type := (Option pz_V ⊕ Nat) × pz_H
def pz_w (z : Int) : Int := (Int32.ofInt z).toInt
def pz_wl (z : Int) : Int := (Int64.ofInt z).toInt
def pz_cat : pz_V → Nat
  | .inl _ => 1
  | .inr (.inl _) => 1
  | .inr (.inr (.inl _)) => 2
  | .inr (.inr (.inr (.inl _))) => 1
  | .inr (.inr (.inr (.inr _))) => 2
def pz_kd : pz_V → Nat
  | .inl _ => 0
  | .inr (.inl _) => 1
  | .inr (.inr (.inl _)) => 2
  | .inr (.inr (.inr (.inl _))) => 3
  | .inr (.inr (.inr (.inr _))) => 4
def pz_pure : Instr → List pz_V → Option (List pz_V)
  | .iconst n, st => if -1 ≤ n ∧ n ≤ 5 then some (.inl n :: st) else none
  | .bipush n, st => if -128 ≤ n ∧ n ≤ 127 then some (.inl n :: st) else none
  | .sipush n, st => if -32768 ≤ n ∧ n ≤ 32767 then some (.inl n :: st) else none
  | .lconst n, st => some (.inr (.inr (.inl (n.val : Int))) :: st)
  | .fconst 0, st => some (.inr (.inr (.inr (.inl FP.fconst0))) :: st)
  | .dconst 0, st => some (.inr (.inr (.inr (.inr FP.dconst0))) :: st)
  | .aconst_null, st => some (.inr (.inl 0) :: st)
  | .iadd, .inl y :: .inl x :: st => some (.inl (pz_w (x + y)) :: st)
  | .isub, .inl y :: .inl x :: st => some (.inl (pz_w (x - y)) :: st)
  | .imul, .inl y :: .inl x :: st => some (.inl (pz_w (x * y)) :: st)
  | .idiv, .inl y :: .inl x :: st => if y = 0 then none else some (.inl (pz_w (x.tdiv y)) :: st)
  | .irem, .inl y :: .inl x :: st => if y = 0 then none else some (.inl (x.tmod y) :: st)
  | .ineg, .inl x :: st => some (.inl (pz_w (-x)) :: st)
  | .iand, .inl y :: .inl x :: st => some (.inl (Int32.ofInt x &&& Int32.ofInt y).toInt :: st)
  | .ior, .inl y :: .inl x :: st => some (.inl (Int32.ofInt x ||| Int32.ofInt y).toInt :: st)
  | .ixor, .inl y :: .inl x :: st => some (.inl (Int32.ofInt x ^^^ Int32.ofInt y).toInt :: st)
  | .ishl, .inl y :: .inl x :: st => some (.inl (Int32.ofInt x <<< (Int32.ofInt y &&& 31)).toInt :: st)
  | .ishr, .inl y :: .inl x :: st => some (.inl (Int32.ofInt x >>> (Int32.ofInt y &&& 31)).toInt :: st)
  | .iushr, .inl y :: .inl x :: st => some (.inl ((Int32.ofInt x).toUInt32 >>> (Int32.ofInt y &&& 31).toUInt32).toInt32.toInt :: st)
  | .ladd, .inr (.inr (.inl y)) :: .inr (.inr (.inl x)) :: st => some (.inr (.inr (.inl (pz_wl (x + y)))) :: st)
  | .lmul, .inr (.inr (.inl y)) :: .inr (.inr (.inl x)) :: st => some (.inr (.inr (.inl (pz_wl (x * y)))) :: st)
  | .i2l, .inl x :: st => some (.inr (.inr (.inl x)) :: st)
  | .i2c, .inl x :: st => some (.inl (x % 65536) :: st)
  | .i2f, .inl x :: st => some (.inr (.inr (.inr (.inl (FP.i2f (Int32.ofInt x))))) :: st)
  | .i2d, .inl x :: st => some (.inr (.inr (.inr (.inr (FP.i2d (Int32.ofInt x))))) :: st)
  | .f2d, .inr (.inr (.inr (.inl x))) :: st => if FP.f2d x &&& 0x7fffffffffffffff ≤ 0x7ff0000000000000 then some (.inr (.inr (.inr (.inr (FP.f2d x)))) :: st) else none
  | .fdiv, .inr (.inr (.inr (.inl y))) :: .inr (.inr (.inr (.inl x))) :: st => if FP.fdiv x y &&& 0x7fffffff ≤ 0x7f800000 then some (.inr (.inr (.inr (.inl (FP.fdiv x y)))) :: st) else none
  | .ddiv, .inr (.inr (.inr (.inr y))) :: .inr (.inr (.inr (.inr x))) :: st => if FP.ddiv x y &&& 0x7fffffffffffffff ≤ 0x7ff0000000000000 then some (.inr (.inr (.inr (.inr (FP.ddiv x y)))) :: st) else none
  | .lcmp, .inr (.inr (.inl y)) :: .inr (.inr (.inl x)) :: st => some (.inl (if y < x then 1 else if x = y then 0 else -1) :: st)
  | .fcmp op, .inr (.inr (.inr (.inl y))) :: .inr (.inr (.inr (.inl x))) :: st => some (.inl (Op.cmpValue (FP.fcmp x y) op).toInt :: st)
  | .dcmp op, .inr (.inr (.inr (.inr y))) :: .inr (.inr (.inr (.inr x))) :: st => some (.inl (Op.cmpValue (FP.dcmp x y) op).toInt :: st)
  | .dup, v :: st => if pz_cat v = 1 then some (v :: v :: st) else none
  | .pop, v :: st => if pz_cat v = 1 then some st else none
  | .dup2, v :: u :: st => if pz_cat v = 1 ∧ pz_cat u = 1 then some (v :: u :: v :: u :: st) else none
  | _, _ => none
def pz_ldk : Instr → Option (Nat × Nat)
  | .iload i => some (0, i)
  | .iload_n i => some (0, i.val)
  | .aload i => some (1, i)
  | .aload_n i => some (1, i.val)
  | .lload i => some (2, i)
  | .lload_n i => some (2, i.val)
  | .fload i => some (3, i)
  | .fload_n i => some (3, i.val)
  | .dload i => some (4, i)
  | .dload_n i => some (4, i.val)
  | _ => none
def pz_stk : Instr → Option (Nat × Nat)
  | .istore i => some (0, i)
  | .istore_n i => some (0, i.val)
  | .astore i => some (1, i)
  | .astore_n i => some (1, i.val)
  | .lstore i => some (2, i)
  | .lstore_n i => some (2, i.val)
  | .fstore i => some (3, i)
  | .fstore_n i => some (3, i.val)
  | .dstore i => some (4, i)
  | .dstore_n i => some (4, i.val)
  | _ => none
/-- the place ahead holds nothing of two places -/
def pz_np (ls : pz_L) : Nat → Bool
  | 0 => true
  | j + 1 => match ls[j]? with
    | some (some v) => pz_cat v == 1
    | _ => true
def pz_set (ls : pz_L) (i : Nat) (v : pz_V) : pz_L := if pz_cat v = 2 then (ls.set i (some v)).set (i + 1) none else ls.set i (some v)
def pz_loc (ins : Instr) (ls : pz_L) (st : List pz_V) : Option (pz_L × List pz_V) := match pz_ldk ins with
  | some (k, i) => (match ls[i]? with
    | some (some v) => if pz_kd v = k then some (ls, v :: st) else none
    | _ => none)
  | none => match pz_stk ins with
    | some (k, i) => (match st with
      | v :: st' => if pz_kd v = k ∧ i + (pz_cat v - 1) < ls.length ∧ pz_np ls i = true then some (pz_set ls i v, st') else none
      | _ => none)
    | none => match ins with
      | .iinc i n => (match ls[i]? with
        | some (some (.inl x)) => if pz_np ls i = true then some (ls.set i (some (.inl (pz_w (x + n)))), st) else none
        | _ => none)
      | _ => none
def pz_u2 {α : Type} (f : Nat → Nat → α) (r k : Nat) (x : α) : Nat → Nat → α := fun r' k' => if r' = r ∧ k' = k then x else f r' k'
def pz_u1 {α : Type} (f : Nat → α) (r : Nat) (x : α) : Nat → α := fun r' => if r' = r then x else f r'
/-- r is a known cell of the kind c -/
def pz_is (S : pz_S) (r c : Nat) : Bool := decide (2 ≤ r) && (decide (r < S.1 + 2) && decide (S.2.1 r = c))
/-- ints that can be read: a row of ints, or the script -/
def pz_ia (S : pz_S) (r : Nat) : Bool := pz_is S r 20 || decide (r = 1)
/-- a row of whatever kind -/
def pz_aa (S : pz_S) (r : Nat) : Bool := decide (r = 1) || (decide (2 ≤ r) && (decide (r < S.1 + 2) && (decide (20 ≤ S.2.1 r) && decide (S.2.1 r ≤ 23))))
def pz_new (h : pz_H) (kd ln sl : Nat) : pz_H :=
  ((h.1.1 + 1, pz_u1 h.1.2.1 (h.1.1 + 2) kd, pz_u1 h.1.2.2.1 (h.1.1 + 2) ln, pz_u1 h.1.2.2.2 (h.1.1 + 2) (fun _ => 0)), pz_u1 h.2.1 (h.1.1 + 2) (fun _ => 0), pz_u1 h.2.2.1 (h.1.1 + 2) (fun _ => 0), h.2.2.2.1 + 1, h.2.2.2.2 + sl)
/-- may a value be stored where a type stands (0 int, 1 boolean, 9 a reference) -/
def pz_fit (S : pz_S) (c : Nat) (v : pz_V) : Bool := match v with
  | .inl x => c == 0 || (c == 1 && (x == 0 || x == 1)) || (c == 2 && decide (0 ≤ x ∧ x ≤ 65535))
  | .inr (.inl r) => c == 9 && (r == 0 || (decide (2 ≤ r) && decide (r < S.1 + 2)))
  | _ => false
def pz_mem (ins : Instr) (a b c : Nat) (st : List pz_V) (h : pz_H) : Option (List pz_V × pz_H) := match ins, st with
  | .getfield _, .inr (.inl r) :: st => if pz_is h.1 r a = true then some ((if c = 9 then .inr (.inl (h.1.2.2.2 r b)) else .inl (h.2.1 r b)) :: st, h) else none
  | .putfield _, v :: .inr (.inl r) :: st => if pz_is h.1 r a = true ∧ pz_fit h.1 c v = true then (match v with
    | .inl x => some (st, (h.1, pz_u2 h.2.1 r b x, h.2.2))
    | .inr (.inl q) => some (st, ((h.1.1, h.1.2.1, h.1.2.2.1, pz_u2 h.1.2.2.2 r b q), h.2))
    | _ => none) else none
  | .iaload, .inl i :: .inr (.inl r) :: st => if pz_ia h.1 r = true ∧ 0 ≤ i ∧ i < (h.1.2.2.1 r : Int) then some (.inl (h.2.1 r i.toNat) :: st, h) else none
  | .baload, .inl i :: .inr (.inl r) :: st => if pz_is h.1 r 21 = true ∧ 0 ≤ i ∧ i < (h.1.2.2.1 r : Int) then some (.inl (h.2.1 r i.toNat) :: st, h) else none
  | .caload, .inl i :: .inr (.inl r) :: st => if pz_is h.1 r 22 = true ∧ 0 ≤ i ∧ i < (h.1.2.2.1 r : Int) then some (.inl (h.2.1 r i.toNat) :: st, h) else none
  | .aaload, .inl i :: .inr (.inl r) :: st => if pz_is h.1 r 23 = true ∧ 0 ≤ i ∧ i < (h.1.2.2.1 r : Int) then some (.inr (.inl (h.1.2.2.2 r i.toNat)) :: st, h) else none
  | .iastore, .inl x :: .inl i :: .inr (.inl r) :: st => if pz_is h.1 r 20 = true ∧ 0 ≤ i ∧ i < (h.1.2.2.1 r : Int) then some (st, (h.1, pz_u2 h.2.1 r i.toNat x, h.2.2)) else none
  | .bastore, .inl x :: .inl i :: .inr (.inl r) :: st => if pz_is h.1 r 21 = true ∧ 0 ≤ i ∧ i < (h.1.2.2.1 r : Int) ∧ (x = 0 ∨ x = 1) then some (st, (h.1, pz_u2 h.2.1 r i.toNat x, h.2.2)) else none
  | .castore, .inl x :: .inl i :: .inr (.inl r) :: st => if pz_is h.1 r 22 = true ∧ 0 ≤ i ∧ i < (h.1.2.2.1 r : Int) ∧ 0 ≤ x ∧ x ≤ 65535 then some (st, (h.1, pz_u2 h.2.1 r i.toNat x, h.2.2)) else none
  | .aastore, .inr (.inl q) :: .inl i :: .inr (.inl r) :: st => if pz_is h.1 r 23 = true ∧ 0 ≤ i ∧ i < (h.1.2.2.1 r : Int) ∧ pz_is h.1 q 6 = true then some (st, ((h.1.1, h.1.2.1, h.1.2.2.1, pz_u2 h.1.2.2.2 r i.toNat q), h.2)) else none
  | .arraylength, .inr (.inl r) :: st => if pz_aa h.1 r = true then some (.inl (h.1.2.2.1 r : Int) :: st, h) else none
  | .new _, st => some (.inr (.inl (h.1.1 + 2)) :: st, pz_new h a 0 b)
  | .newarray _, .inl n :: st => if 0 ≤ n ∧ n ≤ 65536 then some (.inr (.inl (h.1.1 + 2)) :: st, pz_new h a n.toNat n.toNat) else none
  | .anewarray _, .inl n :: st => if 0 ≤ n ∧ n ≤ 65536 then some (.inr (.inl (h.1.1 + 2)) :: st, pz_new h 23 n.toNat n.toNat) else none
  | _, _ => none
def pz_cond (c : ClassFile.Cond) (x y : Int) : Bool := match c with
  | .eq => decide (x = y)
  | .ne => decide (x ≠ y)
  | .lt => decide (x < y)
  | .ge => decide (y ≤ x)
  | .gt => decide (y < x)
  | .le => decide (x ≤ y)
/-- System.arraycopy between rows of one kind of ints, chars or booleans, two rows apart -/
def pz_cpy (st : List pz_V) (h : pz_H) : Option (List pz_V × pz_H) := match st with
  | .inl n :: .inl dp :: .inr (.inl d) :: .inl sp :: .inr (.inl s) :: st =>
    if st.length ≤ 4 ∧ pz_is h.1 s (h.1.2.1 d) = true ∧ pz_is h.1 d (h.1.2.1 d) = true ∧ 20 ≤ h.1.2.1 d ∧ h.1.2.1 d ≤ 22 ∧ s ≠ d ∧ 0 ≤ sp ∧ 0 ≤ dp ∧ 0 ≤ n ∧ sp + n ≤ (h.1.2.2.1 s : Int) ∧ dp + n ≤ (h.1.2.2.1 d : Int) then
      some (st, (h.1, pz_u1 h.2.1 d (fun k => if dp.toNat ≤ k ∧ k < dp.toNat + n.toNat then h.2.1 s (sp.toNat + (k - dp.toNat)) else h.2.1 d k), h.2.2))
    else none
  | _ => none
/-- may this value be answered where the method's type is (0 int, 1 boolean, 2 char, 3 long, 4 float, 5 double, 9 a reference) -/
def pz_rok (c : Nat) (v : pz_V) : Bool := match v with
  | .inl x => c == 0 || (c == 1 && (x == 0 || x == 1)) || (c == 2 && decide (0 ≤ x ∧ x ≤ 65535))
  | .inr (.inl _) => c == 9
  | .inr (.inr (.inl _)) => c == 3
  | .inr (.inr (.inr (.inl _))) => c == 4
  | .inr (.inr (.inr (.inr _))) => c == 5
/-- a constant: b tells whether it is below 0 -/
def pz_cst (a b : Nat) : Int := match b with
  | 0 => (a : Int)
  | _ => -(a : Int)
/-- what a handler answers -/
def pz_hv (k : Nat) : Int := -(99991000 + (k : Int))
def pz_lk (hh : List (Nat × Nat)) (E : Nat) : Option Nat := match hh with
  | [] => none
  | (e, c) :: r => if e = E then some c else pz_lk r E
/-- a list of instructions; C: calls, J: going on elsewhere, hh: what the method answers where it catches, nx: what follows the list -/
def pz_ex (C : Nat → List pz_V → pz_H → Option pz_O) (J : Nat → pz_L → List pz_V → pz_H → Option pz_O) (hh : List (Nat × Nat)) (nx : Nat) : List pz_Op → pz_L → List pz_V → pz_H → Option pz_O
  | [], ls, st, h => J nx ls st h
  | (g, ins, _, a, b, c, _) :: ops, ls, st, h => match g with
    | 0 => (match pz_pure ins st with
      | some st' => pz_ex C J hh nx ops ls st' h
      | none => none)
    | 1 => (match pz_loc ins ls st with
      | some (ls', st') => pz_ex C J hh nx ops ls' st' h
      | none => none)
    | 2 => (match pz_mem ins a b c st h with
      | some (st', h') => pz_ex C J hh nx ops ls st' h'
      | none => none)
    | 3 => pz_ex C J hh nx ops ls (.inl (pz_cst a b) :: st) h
    | 4 => -- a call: a the callee, b how many it takes, c the receiver's class (99: none)
      if b ≤ st.length ∧ (st.drop b).length ≤ 4 ∧ (st.take b).all (fun v => pz_cat v == 1) = true ∧ (c = 99 ∨ (match (st.take b).reverse with | .inr (.inl r) :: _ => pz_is h.1 r c | _ => false) = true) then
        (match C a (st.take b).reverse h with
        | some (.inl none, h') => pz_ex C J hh nx ops ls (st.drop b) h'
        | some (.inl (some v), h') => pz_ex C J hh nx ops ls (v :: st.drop b) h'
        | some (.inr E, h') => (match pz_lk hh E with
          | some k => some (.inl (some (.inl (pz_hv k))), h')
          | none => some (.inr E, h'))
        | none => none)
      else none
    | 5 => (match pz_cpy st h with
      | some (st', h') => pz_ex C J hh nx ops ls st' h'
      | none => none)
    | 6 => (match st with -- Object's constructor
      | .inr (.inl r) :: st' => if 2 ≤ r ∧ st'.length ≤ 4 then pz_ex C J hh nx ops ls st' h else none
      | _ => none)
    | 7 => if st.length ≤ 4 then some (.inr a, (h.1, h.2.1, h.2.2.1, h.2.2.2.1 + 1, h.2.2.2.2 + 6)) else none
    | 8 => J a ls st h
    | 9 => (match ins, st with
      | .ifCond cd _, .inl x :: st' => if pz_cond cd x 0 = true then J a ls st' h else pz_ex C J hh nx ops ls st' h
      | .if_icmp cd _, .inl y :: .inl x :: st' => if pz_cond cd x y = true then J a ls st' h else pz_ex C J hh nx ops ls st' h
      | .ifnull _, .inr (.inl r) :: st' => if r = 0 then J a ls st' h else pz_ex C J hh nx ops ls st' h
      | _, _ => none)
    | 10 => (match st with
      | [v] => if pz_rok a v = true then some (.inl (some v), h) else none
      | _ => none)
    | 11 => (match st with
      | [] => some (.inl none, h)
      | _ => none)
    | 12 => (match ins, st with
      | .tableswitch d lo hi offs, .inl x :: st' => if x < lo ∨ hi < x then J ((a : Int) + d).toNat ls st' h else (match offs[(x - lo).toNat]? with
        | some o => J ((a : Int) + o).toNat ls st' h
        | none => none)
      | _, _ => none)
    | 13 => pz_ex C J hh nx ops ls (.inr (.inr (.inl (a : Int))) :: st) h
    | _ => none
