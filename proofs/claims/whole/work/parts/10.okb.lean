/-! WHAT A PROGRAM CHECKS OF THE CODE TABLES: each instruction decodes so, jumps go to their blocks, links are those of the tables -/
def p_tg (pcs : List Nat) (b pc : Nat) (off : Int) : Bool := match pcs[b]? with
  | some t => decide ((pc : Int) + off = (t : Int))
  | none => false
def p_tgs (pcs : List Nat) (pc : Nat) : List Nat → List Int → Bool
  | [], [] => true
  | b :: bs, o :: os => p_tg pcs b pc o && p_tgs pcs pc bs os
  | _, _ => false
def p_isR : FieldType → Bool
  | .object _ => true
  | .array _ => true
  | _ => false
def p_tyg (c f t : Nat) : Bool :=
  if c = 10 then (decide (f = 0) && decide (t = 2)) || (decide (f = 1) && decide (t = 0)) else
  decide (c < 10) && (if t = 0 then decide (p_ty c f = .int) || decide (p_ty c f = .boolean) else if t = 1 then decide (p_ty c f = .long) else decide (t = 2) && p_isR (p_ty c f))
def p_typ (c f t : Nat) : Bool :=
  decide (c < 10) && (if t = 0 then decide (p_ty c f = .int) else if t = 3 then decide (p_ty c f = .boolean) else if t = 1 then decide (p_ty c f = .long) else decide (t = 2) && p_isR (p_ty c f))
def p_cn2 (c : Nat) : String := match pm_cl[c]? with
  | some r => r.1
  | none => "java/lang/String"
def p_par (z n : Nat) : Bool := match parseMethodDescriptor (p_mi z).1.desc with
  | some s => decide (s.parameters.length = n)
  | none => false
def p_nM : Nat := 284
def p_okx (y pc : Nat) (i : Instr) (len : Nat) (ex : List Nat) : Bool :=
  match i with
  | .goto off => decide (len = 3) && (match ex with | [b] => p_tg (p_pcs y) b pc off | _ => false)
  | .if_icmp _ off => decide (len = 3) && (match ex with | [b] => p_tg (p_pcs y) b pc off | _ => false)
  | .ifCond _ off => decide (len = 3) && (match ex with | [b] => p_tg (p_pcs y) b pc off | _ => false)
  | .ifnull off => decide (len = 3) && (match ex with | [b] => p_tg (p_pcs y) b pc off | _ => false)
  | .ifnonnull off => decide (len = 3) && (match ex with | [b] => p_tg (p_pcs y) b pc off | _ => false)
  | .tableswitch d lo hi offs => match ex with
    | b :: bs => p_tg (p_pcs y) b pc d && p_tgs (p_pcs y) pc bs offs.toList && decide (lo + (offs.toList.length : Int) = hi + 1)
    | _ => false
  | .getfield j => decide (len = 3) && (match ex with
    | [e, t, c, f] => decide (p_fl[e]? = some ((p_mi y).1.cls, j, c, f)) && p_tyg c f t
    | _ => false)
  | .putfield j => decide (len = 3) && (match ex with
    | [e, t, c, f, g] => decide (p_fl[e]? = some ((p_mi y).1.cls, j, c, f)) && p_typ c f t && (match pm_cl[c]? with
      | some r => if g = 1 then (r.2.1 f).2.2.2 && decide ((p_mi y).1.name = "<init>") && decide ((r.2.1 f).1 = (p_mi y).1.cls) else !(r.2.1 f).2.2.2
      | none => false)
    | _ => false)
  | .getstatic j => decide (len = 3) && (match ex with
    | [e, t, a, k] => decide (a = 30) && (decide (p_sl[e]? = some ((p_mi y).1.cls, j, k, 0)) || decide (p_sl[e]? = some ((p_mi y).1.cls, j, k, 1))) && ((decide (k = 3) && decide (t = 0)) || (decide (k < 3) && decide (t = 2)))
    | _ => false)
  | .invokevirtual j => decide (len = 3) && (match ex with
    | [e, z, n, c] => decide (p_ml[e]? = some ((p_mi y).1.cls, j, z, 0)) && decide (z < p_nM) && (match n with | n' + 1 => p_par z n' | 0 => false) && decide (c ≤ 10) && decide ((p_mi z).1.cls = p_cn2 c)
    | _ => false)
  | .invokestatic j => decide (len = 3) && (match ex with
    | [e, 9998, _, _] => decide (p_ml[e]? = some ((p_mi y).1.cls, j, 9998, 1))
    | [e, 9997, _, _] => decide (p_ml[e]? = some ((p_mi y).1.cls, j, 9997, 1))
    | [e, 9996, _, _] => decide (p_ml[e]? = some ((p_mi y).1.cls, j, 9996, 1))
    | [e, z, n, _] => decide (p_ml[e]? = some ((p_mi y).1.cls, j, z, 1)) && decide (z < p_nM) && p_par z n
    | _ => false)
  | .invokespecial j => decide (len = 3) && (match ex with
    | [e, 9999, _, _] => decide (p_ml[e]? = some ((p_mi y).1.cls, j, 9999, 0))
    | [e, z, n, _] => (decide (p_ml[e]? = some ((p_mi y).1.cls, j, z, 2)) || decide (p_ml[e]? = some ((p_mi y).1.cls, j, z, 3))) && decide (z < p_nM) && (match n with | n' + 1 => p_par z n' | 0 => false)
    | _ => false)
  | .new j => decide (len = 3) && (match ex with
    | [e, c, n] => decide (p_nl[e]? = some ((p_mi y).1.cls, j, c)) && decide (n = p_N c) && decide (c < 10)
    | _ => false)
  | .anewarray j => decide (len = 3) && (match ex with
    | [e, t] => decide (p_aq[e]? = some ((p_mi y).1.cls, j, t)) && (decide (t = 5) || decide (t = 6))
    | _ => false)
  | .newarray a => decide (len = 2) && (match ex with
    | [t] => (decide (t = 1) && decide (newarray.typeOf a = .int)) || (decide (t = 2) && decide (newarray.typeOf a = .byte)) || (decide (t = 3) && decide (newarray.typeOf a = .boolean)) || (decide (t = 4) && decide (newarray.typeOf a = .long))
    | _ => false)
  | .ldc j => decide (len = 2) && (match ex with
    | [e, 0] => decide (p_cc[e]? = some ((p_mi y).1.cls, j))
    | [e, 1, a] => match p_st[e]? with
      | some q => decide (q.1 = (p_mi y).1.cls) && decide (q.2.1 = j) && decide (q.2.2.2 = a)
      | none => false
    | _ => false)
  | .ldc_w j => decide (len = 3) && (match ex with
    | [e, 0] => decide (p_cc[e]? = some ((p_mi y).1.cls, j))
    | _ => false)
  | .ldc2_w j => decide (len = 3) && (match ex with
    | [e] => decide (p_cc2[e]? = some ((p_mi y).1.cls, j))
    | _ => false)
  | .istore_n k => decide (len = 1) && decide (k.val < (p_mi y).2.2.1)
  | .astore_n k => decide (len = 1) && decide (k.val < (p_mi y).2.2.1)
  | .lstore_n k => decide (len = 1) && decide (k.val + 1 < (p_mi y).2.2.1)
  | .istore k => decide (len = 2) && decide (k < (p_mi y).2.2.1)
  | .astore k => decide (len = 2) && decide (k < (p_mi y).2.2.1)
  | .lstore k => decide (len = 2) && decide (k + 1 < (p_mi y).2.2.1)
  | .iinc k _ => decide (len = 3) && decide (k < (p_mi y).2.2.1)
  | .iload _ => decide (len = 2)
  | .lload _ => decide (len = 2)
  | .aload _ => decide (len = 2)
  | .bipush _ => decide (len = 2)
  | .sipush _ => decide (len = 3)
  | .ireturn => decide (len = 1) && (match ex with
    | [0] => decide ((p_mi y).2.2.2 = some .int)
    | [1] => decide ((p_mi y).2.2.2 = some .boolean)
    | [2] => decide ((p_mi y).2.2.2 = some .char)
    | [3] => decide ((p_mi y).2.2.2 = some .byte)
    | _ => false)
  | .lreturn => decide (len = 1) && decide ((p_mi y).2.2.2 = some .long)
  | .areturn => decide (len = 1) && (match (p_mi y).2.2.2 with | some (.object _) => true | _ => false)
  | .return_ => decide (len = 1) && decide ((p_mi y).2.2.2 = none)
  | .nop => false
  | _ => decide (len = 1)
def p_okb (y : Nat) : Nat → List pI → Bool
  | _, [] => true
  | pc, (i, len, ex) :: rest =>
    if len = 0 then decide (i = .nop) && (match ex with | [b] => decide ((p_pcs y)[b]? = some pc) | _ => false)
    else (match decode (p_mi y).2.1 pc with | .ok (j, n) => decide (j = i) && decide (n = len) | .error _ => false) && p_okx y pc i len ex && p_okb y (pc + len) rest
def p_okm (y : Nat) : Bool := decide ((p_pcs y)[0]? = some 0) && (List.range (p_pcs y).length).all (fun b => match (p_pcs y)[b]? with | some pc => p_okb y pc (p_bk y b) | none => false)
