def pz_len : Instr → Nat
  | .bipush _ => 2
  | .sipush _ => 3
  | .iload _ => 2
  | .aload _ => 2
  | .lload _ => 2
  | .fload _ => 2
  | .dload _ => 2
  | .istore _ => 2
  | .astore _ => 2
  | .lstore _ => 2
  | .fstore _ => 2
  | .dstore _ => 2
  | .iinc _ _ => 3
  | .getfield _ => 3
  | .putfield _ => 3
  | .new _ => 3
  | .newarray _ => 2
  | .anewarray _ => 3
  | .ldc _ => 2
  | .ldc_w _ => 3
  | .invokevirtual _ => 3
  | .invokestatic _ => 3
  | .invokespecial _ => 3
  | .goto _ => 3
  | .ifCond _ _ => 3
  | .if_icmp _ _ => 3
  | .ifnull _ => 3
  | _ => 1
/-- a field's type, as a number -/
def pz_tc (ci k : Nat) : Nat := match pz_cls[ci]? with
  | some q => if (q.2.1 k).2.2.1 = "I" then 0 else if (q.2.1 k).2.2.1 = "Z" then 1 else 9
  | none => 9
def pz_cn (ci : Nat) : String := match pz_cls[ci]? with
  | some q => q.1
  | none => ""
def pz_nf (ci : Nat) : Nat := match pz_cls[ci]? with
  | some q => q.2.2
  | none => 0
def pz_fin (ci k : Nat) : Bool := match pz_cls[ci]? with
  | some q => (q.2.1 k).2.2.2
  | none => true
def pz_yy (m : Nat) : MethodName := match pz_mt[m]? with
  | some r => r.1
  | none => ⟨"", "", ""⟩
def pz_bs (m : Nat) : ByteArray := match pz_mt[m]? with
  | some r => r.2.1
  | none => .mk #[]
def pz_rt (m : Nat) : Option FieldType := match pz_mt[m]? with
  | some r => r.2.2.2.1
  | none => none
def pz_fr (m : Nat) : Nat := match pz_mt[m]? with
  | some r => r.2.2.2.2.1
  | none => 0
def pz_lo (m : Nat) : Nat := match pz_mt[m]? with
  | some r => r.2.2.2.2.2.1
  | none => 0
def pz_hh (m : Nat) : List (Nat × Nat × Nat × Nat) := match pz_mt[m]? with
  | some r => r.2.2.2.2.2.2.1
  | none => []
def pz_rc : Option FieldType → Nat
  | some .int => 0
  | some .boolean => 1
  | some .char => 2
  | some .long => 3
  | some .float => 4
  | some .double => 5
  | some (.object _) => 9
  | _ => 77
def pz_rk : Instr → Nat → Bool
  | .ireturn, a => decide (a ≤ 2)
  | .lreturn, a => a == 3
  | .freturn, a => a == 4
  | .dreturn, a => a == 5
  | .areturn, a => a == 9
  | _, _ => false
/-- what an instruction must keep so that the machine does what the evaluator does -/
def pz_ck1 (m g : Nat) (ins : Instr) (len a b c e pc : Nat) : Bool := match g with
  | 0 => len == pz_len ins
  | 1 => len == pz_len ins
  | 2 => len == pz_len ins && (match ins with
    | .getfield i => (match pz_fl[e]? with
      | some (o, i', a', b', _) => decide (o = (pz_yy m).cls) && (i' == i && (a' == a && (b' == b && (c == pz_tc a b && decide (b < pz_nf a)))))
      | none => false)
    | .putfield i => (match pz_fl[e]? with
      | some (o, i', a', b', _) => decide (o = (pz_yy m).cls) && (i' == i && (a' == a && (b' == b && (c == pz_tc a b && (decide (b < pz_nf a) && (!pz_fin a b || (decide ((pz_yy m).name = "<init>") && decide (pz_cn a = o))))))))
      | none => false)
    | .new i => (match pz_nl[e]? with
      | some (o, i', a', _) => decide (o = (pz_yy m).cls) && (i' == i && (a' == a && (b == pz_nf a && decide (a < 11))))
      | none => false)
    | .newarray t => (match t with
      | .int => a == 20
      | .boolean => a == 21
      | .char => a == 22
      | _ => false)
    | .anewarray i => (match pz_nl[e]? with
      | some (o, i', a', _) => decide (o = (pz_yy m).cls) && (i' == i && a' == 6)
      | none => false)
    | _ => true)
  | 3 => len == pz_len ins && (decide (a < 2147483648) && (match ins with
    | .ldc i => decide (lw_tbl[e]? = some (.constant (pz_yy m).cls i (Int32.ofInt (pz_cst a b))))
    | .ldc_w i => decide (lw_tbl[e]? = some (.constant (pz_yy m).cls i (Int32.ofInt (pz_cst a b))))
    | _ => false))
  | 4 => len == 3 && (match pz_cl[e]? with
    | some (o, i, t, k, _) => decide (o = (pz_yy m).cls) && (t == a && ((match ins with
      | .invokevirtual i' => i' == i && (k == 0 && decide (pz_cn c = (pz_yy a).cls ∧ c < 11))
      | .invokestatic i' => i' == i && ((k == 1 || (k == 2 || k == 5)) && c == 99)
      | .invokespecial i' => i' == i && ((k == 3 || k == 4) && decide (pz_cn c = (pz_yy a).cls ∧ c < 11))
      | _ => false) && (decide (pz_fr a + 1 ≤ pz_fr m ∧ 8 + (pz_ml a + 11) + pz_lo a ≤ pz_lo m) && (decide ((parseMethodDescriptor (pz_yy a).desc).map (fun d => d.parameters.length) = some (b - (if c = 99 then 0 else 1)) ∧ (c = 99 ∨ 1 ≤ b)) && ((pz_hh a).isEmpty == !(k == 5))))))
    | none => false)
  | 5 => len == 3 && (match ins with
    | .invokestatic i => decide (lw_tbl[e]? = some (.methodLink (pz_yy m).cls i arraycopyName)) && decide (1 ≤ pz_fr m ∧ 60 ≤ pz_lo m)
    | _ => false)
  | 6 => len == 3 && (match ins with
    | .invokespecial i => decide (lw_tbl[e]? = some (.methodLink (pz_yy m).cls i objectInit)) && decide (1 ≤ pz_fr m ∧ 20 ≤ pz_lo m)
    | _ => false)
  | 7 => (match pz_tl[e]? with
    | some (o, ik, is, ic, E, wd, _) => decide (o = (pz_yy m).cls) && (E == a && (decide (ins = .new ik) && (len == 3 && (decide (6 ≤ pz_fr m ∧ 110 ≤ pz_lo m) && ((pz_hh m).isEmpty && (decide (decode (pz_bs m) (pc + 3) = .ok (.dup, 1)) && (if wd = 0 then decide (decode (pz_bs m) (pc + 4) = .ok (.ldc is, 2)) && (decide (decode (pz_bs m) (pc + 6) = .ok (.invokespecial ic, 3)) && decide (decode (pz_bs m) (pc + 9) = .ok (.athrow, 1))) else decide (decode (pz_bs m) (pc + 4) = .ok (.ldc_w is, 3)) && (decide (decode (pz_bs m) (pc + 7) = .ok (.invokespecial ic, 3)) && decide (decode (pz_bs m) (pc + 10) = .ok (.athrow, 1))))))))))
    | none => false)
  | 8 => len == 3 && (match ins with
    | .goto o => decide ((pc : Int) + o = (a : Int))
    | _ => false)
  | 9 => len == 3 && (match ins with
    | .ifCond _ o => decide ((pc : Int) + o = (a : Int))
    | .if_icmp _ o => decide ((pc : Int) + o = (a : Int))
    | .ifnull o => decide ((pc : Int) + o = (a : Int))
    | _ => false)
  | 10 => len == 1 && (pz_rk ins a && a == pz_rc (pz_rt m))
  | 11 => len == 1 && (decide (ins = .return_) && decide (pz_rt m = none))
  | 12 => a == pc && (match ins with
    | .tableswitch d _ _ offs => decide (0 ≤ (pc : Int) + d) && offs.toList.all (fun o => decide (0 ≤ (pc : Int) + o))
    | _ => false)
  | 13 => len == 3 && (decide (a < 2147483648) && (match ins with
    | .ldc2_w i => decide (lw_tbl[e]? = some (.constantLong (pz_yy m).cls i (Int64.ofInt (a : Int))))
    | _ => false))
  | _ => false
def pz_ck (m nx : Nat) : List pz_Op → Nat → Bool
  | [], pc => pc == nx
  | (g, ins, len, a, b, c, e) :: ops, pc => decide (decode (pz_bs m) pc = .ok (ins, len)) && (pz_ck1 m g ins len a b c e pc && (if g = 7 ∨ g = 8 ∨ g = 10 ∨ g = 11 ∨ g = 12 then true else pz_ck m nx ops (pc + len)))
def pz_ckb (m : Nat) (bl : List (Nat × List pz_Op × Nat)) : Bool := bl.all (fun q => pz_ck m q.2.2 q.2.1 q.1)

theorem pz_k0 : pz_ckb 0 pz_c0 = true := by decide +kernel
theorem pz_k1 : pz_ckb 1 pz_c1 = true := by decide +kernel
theorem pz_k2 : pz_ckb 2 pz_c2 = true := by decide +kernel
theorem pz_k3 : pz_ckb 3 pz_c3 = true := by decide +kernel
theorem pz_k4 : pz_ckb 4 pz_c4 = true := by decide +kernel
theorem pz_k5 : pz_ckb 5 pz_c5 = true := by decide +kernel
theorem pz_k6 : pz_ckb 6 pz_c6 = true := by decide +kernel
theorem pz_k7 : pz_ckb 7 pz_c7 = true := by decide +kernel
theorem pz_k8 : pz_ckb 8 pz_c8 = true := by decide +kernel
theorem pz_k9 : pz_ckb 9 pz_c9 = true := by decide +kernel
theorem pz_k10 : pz_ckb 10 pz_c10 = true := by decide +kernel
theorem pz_k11 : pz_ckb 11 pz_c11 = true := by decide +kernel
theorem pz_k12 : pz_ckb 12 pz_c12 = true := by decide +kernel
theorem pz_k13 : pz_ckb 13 pz_c13 = true := by decide +kernel
theorem pz_k14 : pz_ckb 14 pz_c14 = true := by decide +kernel
theorem pz_k15 : pz_ckb 15 pz_c15 = true := by decide +kernel
theorem pz_k16 : pz_ckb 16 pz_c16 = true := by decide +kernel
theorem pz_k17 : pz_ckb 17 pz_c17 = true := by decide +kernel
theorem pz_k18 : pz_ckb 18 pz_c18 = true := by decide +kernel
theorem pz_k19 : pz_ckb 19 pz_c19 = true := by decide +kernel
theorem pz_k20 : pz_ckb 20 pz_c20 = true := by decide +kernel
theorem pz_k21 : pz_ckb 21 pz_c21 = true := by decide +kernel
theorem pz_k22 : pz_ckb 22 pz_c22 = true := by decide +kernel
theorem pz_k23 : pz_ckb 23 pz_c23 = true := by decide +kernel
theorem pz_k24 : pz_ckb 24 pz_c24 = true := by decide +kernel
theorem pz_k25 : pz_ckb 25 pz_c25 = true := by decide +kernel
theorem pz_k26 : pz_ckb 26 pz_c26 = true := by decide +kernel
theorem pz_k27 : pz_ckb 27 pz_c27 = true := by decide +kernel
theorem pz_k28 : pz_ckb 28 pz_c28 = true := by decide +kernel
theorem pz_k29 : pz_ckb 29 pz_c29 = true := by decide +kernel
theorem pz_k30 : pz_ckb 30 pz_c30 = true := by decide +kernel
theorem pz_k31 : pz_ckb 31 pz_c31 = true := by decide +kernel
theorem pz_k32 : pz_ckb 32 pz_c32 = true := by decide +kernel
theorem pz_k33 : pz_ckb 33 pz_c33 = true := by decide +kernel
theorem pz_k34 : pz_ckb 34 pz_c34 = true := by decide +kernel
theorem pz_k35 : pz_ckb 35 pz_c35 = true := by decide +kernel
theorem pz_k36 : pz_ckb 36 pz_c36 = true := by decide +kernel
theorem pz_k37 : pz_ckb 37 pz_c37 = true := by decide +kernel
theorem pz_k38 : pz_ckb 38 pz_c38 = true := by decide +kernel
theorem pz_k39 : pz_ckb 39 pz_c39 = true := by decide +kernel
theorem pz_k40 : pz_ckb 40 pz_c40 = true := by decide +kernel
theorem pz_k41 : pz_ckb 41 pz_c41 = true := by decide +kernel
theorem pz_k42 : pz_ckb 42 pz_c42 = true := by decide +kernel
theorem pz_k43 : pz_ckb 43 pz_c43 = true := by decide +kernel
theorem pz_k44 : pz_ckb 44 pz_c44 = true := by decide +kernel
theorem pz_k45 : pz_ckb 45 pz_c45 = true := by decide +kernel
theorem pz_k46 : pz_ckb 46 pz_c46 = true := by decide +kernel
theorem pz_k47 : pz_ckb 47 pz_c47 = true := by decide +kernel
theorem pz_k48 : pz_ckb 48 pz_c48 = true := by decide +kernel
theorem pz_k49 : pz_ckb 49 pz_c49 = true := by decide +kernel
theorem pz_k50 : pz_ckb 50 pz_c50 = true := by decide +kernel
theorem pz_k51 : pz_ckb 51 pz_c51 = true := by decide +kernel
theorem pz_k52 : pz_ckb 52 pz_c52 = true := by decide +kernel
theorem pz_k53 : pz_ckb 53 pz_c53 = true := by decide +kernel
theorem pz_k54 : pz_ckb 54 pz_c54 = true := by decide +kernel
theorem pz_k55 : pz_ckb 55 pz_c55 = true := by decide +kernel
theorem pz_k56 : pz_ckb 56 pz_c56 = true := by decide +kernel
theorem pz_k57 : pz_ckb 57 pz_c57 = true := by decide +kernel
theorem pz_k58 : pz_ckb 58 pz_c58 = true := by decide +kernel
theorem pz_k59 : pz_ckb 59 pz_c59 = true := by decide +kernel
theorem pz_k60 : pz_ckb 60 pz_c60 = true := by decide +kernel
theorem pz_k61 : pz_ckb 61 pz_c61 = true := by decide +kernel
theorem pz_k62 : pz_ckb 62 pz_c62 = true := by decide +kernel
theorem pz_k63 : pz_ckb 63 pz_c63 = true := by decide +kernel
theorem pz_k64 : pz_ckb 64 pz_c64 = true := by decide +kernel
theorem pz_k65 : pz_ckb 65 pz_c65 = true := by decide +kernel
theorem pz_k66 : pz_ckb 66 pz_c66 = true := by decide +kernel
theorem pz_k67 : pz_ckb 67 pz_c67 = true := by decide +kernel
theorem pz_k68 : pz_ckb 68 pz_c68 = true := by decide +kernel
theorem pz_k69 : pz_ckb 69 pz_c69 = true := by decide +kernel
theorem pz_k70 : pz_ckb 70 pz_c70 = true := by decide +kernel
theorem pz_k71 : pz_ckb 71 pz_c71 = true := by decide +kernel
theorem pz_k72 : pz_ckb 72 pz_c72 = true := by decide +kernel
theorem pz_k73 : pz_ckb 73 pz_c73 = true := by decide +kernel
theorem pz_k74 : pz_ckb 74 pz_c74 = true := by decide +kernel
theorem pz_k75 : pz_ckb 75 pz_c75 = true := by decide +kernel
theorem pz_k76 : pz_ckb 76 pz_c76 = true := by decide +kernel
theorem pz_k77 : pz_ckb 77 pz_c77 = true := by decide +kernel
theorem pz_k78 : pz_ckb 78 pz_c78 = true := by decide +kernel
theorem pz_k79 : pz_ckb 79 pz_c79 = true := by decide +kernel
theorem pz_k80 : pz_ckb 80 pz_c80 = true := by decide +kernel
theorem pz_k81 : pz_ckb 81 pz_c81 = true := by decide +kernel
theorem pz_k82 : pz_ckb 82 pz_c82 = true := by decide +kernel
theorem pz_k83 : pz_ckb 83 pz_c83 = true := by decide +kernel
theorem pz_k84 : pz_ckb 84 pz_c84 = true := by decide +kernel
theorem pz_k85 : pz_ckb 85 pz_c85 = true := by decide +kernel
theorem pz_k86 : pz_ckb 86 pz_c86 = true := by decide +kernel
theorem pz_k87 : pz_ckb 87 pz_c87 = true := by decide +kernel
theorem pz_k88 : pz_ckb 88 pz_c88 = true := by decide +kernel
theorem pz_k89 : pz_ckb 89 pz_c89 = true := by decide +kernel
theorem pz_k90 : pz_ckb 90 pz_c90 = true := by decide +kernel
theorem pz_k91 : pz_ckb 91 pz_c91 = true := by decide +kernel
theorem pz_k92 : pz_ckb 92 pz_c92 = true := by decide +kernel
theorem pz_k93 : pz_ckb 93 pz_c93 = true := by decide +kernel
theorem pz_k94 : pz_ckb 94 pz_c94 = true := by decide +kernel
theorem pz_k95 : pz_ckb 95 pz_c95 = true := by decide +kernel
theorem pz_k96 : pz_ckb 96 pz_c96 = true := by decide +kernel
theorem pz_k97 : pz_ckb 97 pz_c97 = true := by decide +kernel
theorem pz_k98 : pz_ckb 98 pz_c98 = true := by decide +kernel
theorem pz_k99 : pz_ckb 99 pz_c99 = true := by decide +kernel
theorem pz_k100 : pz_ckb 100 pz_c100 = true := by decide +kernel
theorem pz_k101 : pz_ckb 101 pz_c101 = true := by decide +kernel
theorem pz_k102 : pz_ckb 102 pz_c102 = true := by decide +kernel
theorem pz_k103 : pz_ckb 103 pz_c103 = true := by decide +kernel
theorem pz_k104 : pz_ckb 104 pz_c104 = true := by decide +kernel
theorem pz_k105 : pz_ckb 105 pz_c105 = true := by decide +kernel
theorem pz_k106 : pz_ckb 106 pz_c106 = true := by decide +kernel
theorem pz_k107 : pz_ckb 107 pz_c107 = true := by decide +kernel
theorem pz_k108 : pz_ckb 108 pz_c108 = true := by decide +kernel
theorem pz_k109 : pz_ckb 109 pz_c109 = true := by decide +kernel
theorem pz_k110 : pz_ckb 110 pz_c110 = true := by decide +kernel
theorem pz_k111 : pz_ckb 111 pz_c111 = true := by decide +kernel
theorem pz_k112 : pz_ckb 112 pz_c112 = true := by decide +kernel
theorem pz_k113 : pz_ckb 113 pz_c113 = true := by decide +kernel
theorem pz_k114 : pz_ckb 114 pz_c114 = true := by decide +kernel
theorem pz_k115 : pz_ckb 115 pz_c115 = true := by decide +kernel
theorem pz_k116 : pz_ckb 116 pz_c116 = true := by decide +kernel
theorem pz_k117 : pz_ckb 117 pz_c117 = true := by decide +kernel
theorem pz_k118 : pz_ckb 118 pz_c118 = true := by decide +kernel
theorem pz_k119 : pz_ckb 119 pz_c119 = true := by decide +kernel
theorem pz_k120 : pz_ckb 120 pz_c120 = true := by decide +kernel
theorem pz_k121 : pz_ckb 121 pz_c121 = true := by decide +kernel
theorem pz_k122 : pz_ckb 122 pz_c122 = true := by decide +kernel
theorem pz_k123 : pz_ckb 123 pz_c123 = true := by decide +kernel
theorem pz_k124 : pz_ckb 124 pz_c124 = true := by decide +kernel
theorem pz_k125 : pz_ckb 125 pz_c125 = true := by decide +kernel
theorem pz_k126 : pz_ckb 126 pz_c126 = true := by decide +kernel
theorem pz_k127 : pz_ckb 127 pz_c127 = true := by decide +kernel
theorem pz_k128 : pz_ckb 128 pz_c128 = true := by decide +kernel
theorem pz_k129 : pz_ckb 129 pz_c129 = true := by decide +kernel
theorem pz_k130 : pz_ckb 130 pz_c130 = true := by decide +kernel
theorem pz_k131 : pz_ckb 131 pz_c131 = true := by decide +kernel
theorem pz_k132 : pz_ckb 132 pz_c132 = true := by decide +kernel
theorem pz_k133 : pz_ckb 133 pz_c133 = true := by decide +kernel
theorem pz_k134 : pz_ckb 134 pz_c134 = true := by decide +kernel
theorem pz_k135 : pz_ckb 135 pz_c135 = true := by decide +kernel
theorem pz_k136 : pz_ckb 136 pz_c136 = true := by decide +kernel
theorem pz_k137 : pz_ckb 137 pz_c137 = true := by decide +kernel
theorem pz_k138 : pz_ckb 138 pz_c138 = true := by decide +kernel
theorem pz_k139 : pz_ckb 139 pz_c139 = true := by decide +kernel
theorem pz_k140 : pz_ckb 140 pz_c140 = true := by decide +kernel
theorem pz_k141 : pz_ckb 141 pz_c141 = true := by decide +kernel
theorem pz_k142 : pz_ckb 142 pz_c142 = true := by decide +kernel
theorem pz_k143 : pz_ckb 143 pz_c143 = true := by decide +kernel
theorem pz_k144 : pz_ckb 144 pz_c144 = true := by decide +kernel
theorem pz_k145 : pz_ckb 145 pz_c145 = true := by decide +kernel
theorem pz_k146 : pz_ckb 146 pz_c146 = true := by decide +kernel
theorem pz_k147 : pz_ckb 147 pz_c147 = true := by decide +kernel
theorem pz_k148 : pz_ckb 148 pz_c148 = true := by decide +kernel
theorem pz_k149 : pz_ckb 149 pz_c149 = true := by decide +kernel
theorem pz_k150 : pz_ckb 150 pz_c150 = true := by decide +kernel
theorem pz_k151 : pz_ckb 151 pz_c151 = true := by decide +kernel
theorem pz_k152 : pz_ckb 152 pz_c152 = true := by decide +kernel
theorem pz_k153 : pz_ckb 153 pz_c153 = true := by decide +kernel
theorem pz_k154 : pz_ckb 154 pz_c154 = true := by decide +kernel
theorem pz_k155 : pz_ckb 155 pz_c155 = true := by decide +kernel
theorem pz_k156 : pz_ckb 156 pz_c156 = true := by decide +kernel
theorem pz_k157 : pz_ckb 157 pz_c157 = true := by decide +kernel
theorem pz_k158 : pz_ckb 158 pz_c158 = true := by decide +kernel
theorem pz_k159 : pz_ckb 159 pz_c159 = true := by decide +kernel
theorem pz_k160 : pz_ckb 160 pz_c160 = true := by decide +kernel
theorem pz_k161 : pz_ckb 161 pz_c161 = true := by decide +kernel
theorem pz_k162 : pz_ckb 162 pz_c162 = true := by decide +kernel
theorem pz_k163 : pz_ckb 163 pz_c163 = true := by decide +kernel
theorem pz_k164 : pz_ckb 164 pz_c164 = true := by decide +kernel
theorem pz_k165 : pz_ckb 165 pz_c165 = true := by decide +kernel
theorem pz_k166 : pz_ckb 166 pz_c166 = true := by decide +kernel
theorem pz_k167 : pz_ckb 167 pz_c167 = true := by decide +kernel
theorem pz_k168 : pz_ckb 168 pz_c168 = true := by decide +kernel
theorem pz_k169 : pz_ckb 169 pz_c169 = true := by decide +kernel
theorem pz_k170 : pz_ckb 170 pz_c170 = true := by decide +kernel
theorem pz_k171 : pz_ckb 171 pz_c171 = true := by decide +kernel
theorem pz_k172 : pz_ckb 172 pz_c172 = true := by decide +kernel
theorem pz_k173 : pz_ckb 173 pz_c173 = true := by decide +kernel
theorem pz_k174 : pz_ckb 174 pz_c174 = true := by decide +kernel
theorem pz_k175 : pz_ckb 175 pz_c175 = true := by decide +kernel
theorem pz_k176 : pz_ckb 176 pz_c176 = true := by decide +kernel
theorem pz_k177 : pz_ckb 177 pz_c177 = true := by decide +kernel
theorem pz_k178 : pz_ckb 178 pz_c178 = true := by decide +kernel
theorem pz_k179 : pz_ckb 179 pz_c179 = true := by decide +kernel
theorem pz_k180 : pz_ckb 180 pz_c180 = true := by decide +kernel
theorem pz_k181 : pz_ckb 181 pz_c181 = true := by decide +kernel
theorem pz_k182 : pz_ckb 182 pz_c182 = true := by decide +kernel
theorem pz_k183 : pz_ckb 183 pz_c183 = true := by decide +kernel
theorem pz_k184 : pz_ckb 184 pz_c184 = true := by decide +kernel
theorem pz_k185 : pz_ckb 185 pz_c185 = true := by decide +kernel
theorem pz_k186 : pz_ckb 186 pz_c186 = true := by decide +kernel
theorem pz_k187 : pz_ckb 187 pz_c187 = true := by decide +kernel
theorem pz_k188 : pz_ckb 188 pz_c188 = true := by decide +kernel
theorem pz_k189 : pz_ckb 189 pz_c189 = true := by decide +kernel
theorem pz_k190 : pz_ckb 190 pz_c190 = true := by decide +kernel
theorem pz_k191 : pz_ckb 191 pz_c191 = true := by decide +kernel
theorem pz_k192 : pz_ckb 192 pz_c192 = true := by decide +kernel
theorem pz_k193 : pz_ckb 193 pz_c193 = true := by decide +kernel
theorem pz_k194 : pz_ckb 194 pz_c194 = true := by decide +kernel
theorem pz_k195 : pz_ckb 195 pz_c195 = true := by decide +kernel
theorem pz_k196 : pz_ckb 196 pz_c196 = true := by decide +kernel
theorem pz_k197 : pz_ckb 197 pz_c197 = true := by decide +kernel
theorem pz_k198 : pz_ckb 198 pz_c198 = true := by decide +kernel
theorem pz_k199 : pz_ckb 199 pz_c199 = true := by decide +kernel
theorem pz_k200 : pz_ckb 200 pz_c200 = true := by decide +kernel
theorem pz_k201 : pz_ckb 201 pz_c201 = true := by decide +kernel
theorem pz_k202 : pz_ckb 202 pz_c202 = true := by decide +kernel
theorem pz_k203 : pz_ckb 203 pz_c203 = true := by decide +kernel
theorem pz_k204 : pz_ckb 204 pz_c204 = true := by decide +kernel
theorem pz_k205 : pz_ckb 205 pz_c205 = true := by decide +kernel
theorem pz_k206 : pz_ckb 206 pz_c206 = true := by decide +kernel
theorem pz_k207 : pz_ckb 207 pz_c207 = true := by decide +kernel
theorem pz_k208 : pz_ckb 208 pz_c208 = true := by decide +kernel
theorem pz_k209 : pz_ckb 209 pz_c209 = true := by decide +kernel
theorem pz_k210 : pz_ckb 210 pz_c210 = true := by decide +kernel
theorem pz_k211 : pz_ckb 211 pz_c211 = true := by decide +kernel
theorem pz_k212 : pz_ckb 212 pz_c212 = true := by decide +kernel
theorem pz_k213 : pz_ckb 213 pz_c213 = true := by decide +kernel
theorem pz_k214 : pz_ckb 214 pz_c214 = true := by decide +kernel
theorem pz_k215 : pz_ckb 215 pz_c215 = true := by decide +kernel
theorem pz_k216 : pz_ckb 216 pz_c216 = true := by decide +kernel
theorem pz_k217 : pz_ckb 217 pz_c217 = true := by decide +kernel
theorem pz_k218 : pz_ckb 218 pz_c218 = true := by decide +kernel
theorem pz_k219 : pz_ckb 219 pz_c219 = true := by decide +kernel
theorem pz_k220 : pz_ckb 220 pz_c220 = true := by decide +kernel
theorem pz_k221 : pz_ckb 221 pz_c221 = true := by decide +kernel
theorem pz_k222 : pz_ckb 222 pz_c222 = true := by decide +kernel
theorem pz_k223 : pz_ckb 223 pz_c223 = true := by decide +kernel
theorem pz_k224 : pz_ckb 224 pz_c224 = true := by decide +kernel
theorem pz_k225 : pz_ckb 225 pz_c225 = true := by decide +kernel
theorem pz_k226 : pz_ckb 226 pz_c226 = true := by decide +kernel
theorem pz_k227 : pz_ckb 227 pz_c227 = true := by decide +kernel
theorem pz_k228 : pz_ckb 228 pz_c228 = true := by decide +kernel
theorem pz_k229 : pz_ckb 229 pz_c229 = true := by decide +kernel
theorem pz_k230 : pz_ckb 230 pz_c230 = true := by decide +kernel
