/-! THE PURE MACHINE: a weakest precondition over a heap of three planes (ints, longs, references) and a list of kinds. Its soundness over the machine itself stands in the parts behind. -/
abbrev pKd : Type := Nat × Nat
abbrev pHp : Type := (Nat → Nat → Int32) × (Nat → Nat → Int64) × (Nat → Nat → Option Nat) × List pKd
abbrev pI : Type := Instr × Nat × List Nat
def p_I (h : pHp) : Nat → Nat → Int32 := h.1
def p_L (h : pHp) : Nat → Nat → Int64 := h.2.1
def p_R (h : pHp) : Nat → Nat → Option Nat := h.2.2.1
def p_X (h : pHp) : List pKd := h.2.2.2
def p_nth : List pKd → Nat → pKd
  | [], _ => (99, 0)
  | q :: _, 0 => q
  | _ :: l, n + 1 => p_nth l n
/-- the kind of a cell: (0, class), or (1 int, 2 byte, 3 boolean, 4 long, 5 Text, 6 Hut; length) -/
def p_kd (h : pHp) (a : Nat) : pKd := p_nth (p_X h) a
def p_fn {α : Type} (f : Nat → Nat → α) (a : Nat) (g : Nat → α) : Nat → Nat → α := fun b => if b = a then g else f b
def p_wI (h : pHp) (a k : Nat) (v : Int32) : pHp := (p_fn h.1 a (upd (h.1 a) k v), h.2)
def p_wL (h : pHp) (a k : Nat) (v : Int64) : pHp := (h.1, p_fn h.2.1 a (vp_updL (h.2.1 a) k v), h.2.2)
def p_wR (h : pHp) (a k : Nat) (v : Option Nat) : pHp := (h.1, h.2.1, p_fn h.2.2.1 a (va_up (h.2.2.1 a) k v), h.2.2.2)
def p_new (h : pHp) (q : pKd) : pHp := (p_fn h.1 h.2.2.2.length (fun _ => 0), p_fn h.2.1 h.2.2.2.length (fun _ => 0), p_fn h.2.2.1 h.2.2.2.length (fun _ => none), h.2.2.2 ++ [q])
/-- locals: a row by index; .retAddr 0: unset -/
def p_at : List Value → Nat → Value
  | [], _ => .retAddr 0
  | v :: _, 0 => v
  | _ :: l, n + 1 => p_at l n
def p_set : List Value → Nat → Value → List Value
  | [], 0, v => [v]
  | [], n + 1, v => .retAddr 0 :: p_set [] n v
  | _ :: l, 0, v => v :: l
  | w :: l, n + 1, v => w :: p_set l n v
/-- the slot ahead of i holds no long -/
def p_ok1 (l : List Value) (i : Nat) : Prop := match i with
  | 0 => True
  | n + 1 => (p_at l n).category = 1
/-- a method's first locals: a long takes two -/
def p_ent : List Value → List Value
  | [] => []
  | .long x :: r => .long x :: .retAddr 0 :: p_ent r
  | .double x :: r => .double x :: .retAddr 0 :: p_ent r
  | v :: r => v :: p_ent r
def p_pop : Nat → List Value → List Value → Option (List Value × List Value)
  | 0, acc, st => some (acc, st)
  | _ + 1, _, [] => none
  | n + 1, acc, v :: st => p_pop n (v :: acc) st
def p_sw (x : Int32) (G : Nat → Prop) : Int → List Nat → Prop
  | _, [] => True
  | lo, b :: bs => (x.toInt = lo → G b) ∧ p_sw x G (lo + 1) bs
/-- a store of an int into an array of a kind t -/
def p_nv (t : Nat) (x : Int32) : Int32 := if t = 2 then vp_nar .byte x else if t = 3 then vp_nar .boolean x else x
abbrev pK : Type := Nat → Nat → List Value → List Value → pHp → Prop
/-- the words that arguments take -/
def p_cats : List Value → Nat
  | [] => 0
  | v :: r => v.category + p_cats r
section PM
variable (cn : Nat → Int32) (cl : Nat → Int64)
/-- one instruction that neither jumps, calls, makes nor returns -/
def p_one (i : Instr) (ex : List Nat) (ls st : List Value) (h : pHp) (k : List Value → List Value → pHp → Prop) : Prop :=
  match i with
  | .iconst n => k ls (.int (Int32.ofInt n) :: st) h
  | .bipush n => k ls (.int (Int8.ofInt n).toInt32 :: st) h
  | .sipush n => k ls (.int (Int16.ofInt n).toInt32 :: st) h
  | .lconst n => k ls (.long (Int64.ofNat n.val) :: st) h
  | .aconst_null => k ls (.null :: st) h
  | .ldc _ => match ex with
    | [e, 0] => k ls (.int (cn e) :: st) h
    | [_, 1, a] => k ls (.ref a :: st) h
    | _ => False
  | .ldc_w _ => match ex with
    | [e, 0] => k ls (.int (cn e) :: st) h
    | _ => False
  | .ldc2_w _ => match ex with
    | [e] => k ls (.long (cl e) :: st) h
    | _ => False
  | .iload_n n => match p_at ls n.val with
    | .int x => k ls (.int x :: st) h
    | _ => False
  | .iload n => match p_at ls n with
    | .int x => k ls (.int x :: st) h
    | _ => False
  | .lload_n n => match p_at ls n.val with
    | .long x => k ls (.long x :: st) h
    | _ => False
  | .lload n => match p_at ls n with
    | .long x => k ls (.long x :: st) h
    | _ => False
  | .aload_n n => match p_at ls n.val with
    | .ref x => k ls (.ref x :: st) h
    | .null => k ls (.null :: st) h
    | _ => False
  | .aload n => match p_at ls n with
    | .ref x => k ls (.ref x :: st) h
    | .null => k ls (.null :: st) h
    | _ => False
  | .istore_n n => match st with
    | .int x :: r => p_ok1 ls n.val ∧ k (p_set ls n.val (.int x)) r h
    | _ => False
  | .istore n => match st with
    | .int x :: r => p_ok1 ls n ∧ k (p_set ls n (.int x)) r h
    | _ => False
  | .astore_n n => match st with
    | .ref x :: r => p_ok1 ls n.val ∧ k (p_set ls n.val (.ref x)) r h
    | .null :: r => p_ok1 ls n.val ∧ k (p_set ls n.val .null) r h
    | _ => False
  | .astore n => match st with
    | .ref x :: r => p_ok1 ls n ∧ k (p_set ls n (.ref x)) r h
    | .null :: r => p_ok1 ls n ∧ k (p_set ls n .null) r h
    | _ => False
  | .lstore_n n => match st with
    | .long x :: r => p_ok1 ls n.val ∧ k (p_set (p_set ls n.val (.long x)) (n.val + 1) (.retAddr 0)) r h
    | _ => False
  | .lstore n => match st with
    | .long x :: r => p_ok1 ls n ∧ k (p_set (p_set ls n (.long x)) (n + 1) (.retAddr 0)) r h
    | _ => False
  | .iinc n d => match p_at ls n with
    | .int x => p_ok1 ls n ∧ k (p_set ls n (.int (x + Int32.ofInt d))) st h
    | _ => False
  | .iadd => match st with
    | .int y :: .int x :: r => k ls (.int (x + y) :: r) h
    | _ => False
  | .isub => match st with
    | .int y :: .int x :: r => k ls (.int (x - y) :: r) h
    | _ => False
  | .imul => match st with
    | .int y :: .int x :: r => k ls (.int (x * y) :: r) h
    | _ => False
  | .iand => match st with
    | .int y :: .int x :: r => k ls (.int (x &&& y) :: r) h
    | _ => False
  | .ior => match st with
    | .int y :: .int x :: r => k ls (.int (x ||| y) :: r) h
    | _ => False
  | .ixor => match st with
    | .int y :: .int x :: r => k ls (.int (x ^^^ y) :: r) h
    | _ => False
  | .ishl => match st with
    | .int y :: .int x :: r => k ls (.int (x <<< (y &&& 31)) :: r) h
    | _ => False
  | .ishr => match st with
    | .int y :: .int x :: r => k ls (.int (x >>> (y &&& 31)) :: r) h
    | _ => False
  | .iushr => match st with
    | .int y :: .int x :: r => k ls (.int (x.toUInt32 >>> (y.toUInt32 &&& Int32.toUInt32 31)).toInt32 :: r) h
    | _ => False
  | .idiv => match st with
    | .int y :: .int x :: r => ¬ y = 0 ∧ k ls (.int (x / y) :: r) h
    | _ => False
  | .irem => match st with
    | .int y :: .int x :: r => ¬ y = 0 ∧ k ls (.int (x - x / y * y) :: r) h
    | _ => False
  | .ineg => match st with
    | .int x :: r => k ls (.int (-x) :: r) h
    | _ => False
  | .i2b => match st with
    | .int x :: r => k ls (.int x.toInt8.toInt32 :: r) h
    | _ => False
  | .i2c => match st with
    | .int x :: r => k ls (.int (x.toUInt32 % 65536).toInt32 :: r) h
    | _ => False
  | .i2l => match st with
    | .int x :: r => k ls (.long x.toInt64 :: r) h
    | _ => False
  | .l2i => match st with
    | .long x :: r => k ls (.int x.toInt32 :: r) h
    | _ => False
  | .ladd => match st with
    | .long y :: .long x :: r => k ls (.long (x + y) :: r) h
    | _ => False
  | .lsub => match st with
    | .long y :: .long x :: r => k ls (.long (x - y) :: r) h
    | _ => False
  | .lmul => match st with
    | .long y :: .long x :: r => k ls (.long (x * y) :: r) h
    | _ => False
  | .land => match st with
    | .long y :: .long x :: r => k ls (.long (x &&& y) :: r) h
    | _ => False
  | .lor => match st with
    | .long y :: .long x :: r => k ls (.long (x ||| y) :: r) h
    | _ => False
  | .lshl => match st with
    | .int y :: .long x :: r => k ls (.long (x <<< (y.toInt64 &&& 63)) :: r) h
    | _ => False
  | .ldiv => match st with
    | .long y :: .long x :: r => ¬ y = 0 ∧ k ls (.long (x / y) :: r) h
    | _ => False
  | .lrem => match st with
    | .long y :: .long x :: r => ¬ y = 0 ∧ k ls (.long (x - x / y * y) :: r) h
    | _ => False
  | .lcmp => match st with
    | .long y :: .long x :: r => k ls (.int (lg_cmp x y) :: r) h
    | _ => False
  | .dup => match st with
    | .int x :: r => k ls (.int x :: .int x :: r) h
    | .ref x :: r => k ls (.ref x :: .ref x :: r) h
    | _ => False
  | .dup2 => match st with
    | .int y :: .ref x :: r => k ls (.int y :: .ref x :: .int y :: .ref x :: r) h
    | .int y :: .int x :: r => k ls (.int y :: .int x :: .int y :: .int x :: r) h
    | _ => False
  | .pop => match st with
    | .int _ :: r => k ls r h
    | .ref _ :: r => k ls r h
    | _ => False
  | .getfield _ => match ex, st with
    | [_, 0, c, f], .ref a :: r => p_kd h a = (0, c) ∧ k ls (.int (p_I h a f) :: r) h
    | [_, 1, c, f], .ref a :: r => p_kd h a = (0, c) ∧ 32 ≤ a ∧ k ls (.long (p_L h a f) :: r) h
    | [_, 2, c, f], .ref a :: r => p_kd h a = (0, c) ∧ k ls (va_rf (p_R h a f) :: r) h
    | _, _ => False
  | .putfield _ => match ex, st with
    | [_, 0, c, f, _], .int x :: .ref a :: r => p_kd h a = (0, c) ∧ 32 ≤ a ∧ k ls r (p_wI h a f x)
    | [_, 3, c, f, _], .int x :: .ref a :: r => p_kd h a = (0, c) ∧ 32 ≤ a ∧ (x = 0 ∨ x = 1) ∧ k ls r (p_wI h a f x)
    | [_, 1, c, f, _], .long x :: .ref a :: r => p_kd h a = (0, c) ∧ 32 ≤ a ∧ k ls r (p_wL h a f x)
    | [_, 2, c, f, _], .ref b :: .ref a :: r => p_kd h a = (0, c) ∧ 32 ≤ a ∧ k ls r (p_wR h a f (some b))
    | [_, 2, c, f, _], .null :: .ref a :: r => p_kd h a = (0, c) ∧ 32 ≤ a ∧ k ls r (p_wR h a f none)
    | _, _ => False
  | .getstatic _ => match ex with
    | [_, 0, a, f] => k ls (.int (p_I h a f) :: st) h
    | [_, 2, a, f] => k ls (va_rf (p_R h a f) :: st) h
    | _ => False
  | .arraylength => match st with
    | .ref a :: r => (1 ≤ (p_kd h a).1 ∧ (p_kd h a).1 ≤ 6) ∧ k ls (.int (Int32.ofNat (p_kd h a).2) :: r) h
    | _ => False
  | .iaload => match st with
    | .int i :: .ref a :: r => (p_kd h a).1 = 1 ∧ vp_in i (p_kd h a).2 ∧ k ls (.int (p_I h a i.toNatClampNeg) :: r) h
    | _ => False
  | .baload => match st with
    | .int i :: .ref a :: r => ((p_kd h a).1 = 2 ∨ (p_kd h a).1 = 3) ∧ vp_in i (p_kd h a).2 ∧ k ls (.int (p_I h a i.toNatClampNeg) :: r) h
    | _ => False
  | .laload => match st with
    | .int i :: .ref a :: r => (p_kd h a).1 = 4 ∧ 32 ≤ a ∧ vp_in i (p_kd h a).2 ∧ k ls (.long (p_L h a i.toNatClampNeg) :: r) h
    | _ => False
  | .aaload => match st with
    | .int i :: .ref a :: r => ((p_kd h a).1 = 5 ∨ (p_kd h a).1 = 6) ∧ 32 ≤ a ∧ vp_in i (p_kd h a).2 ∧ k ls (va_rf (p_R h a i.toNatClampNeg) :: r) h
    | _ => False
  | .iastore => match st with
    | .int x :: .int i :: .ref a :: r => (p_kd h a).1 = 1 ∧ 32 ≤ a ∧ vp_in i (p_kd h a).2 ∧ k ls r (p_wI h a i.toNatClampNeg x)
    | _ => False
  | .bastore => match st with
    | .int x :: .int i :: .ref a :: r => ((p_kd h a).1 = 2 ∨ (p_kd h a).1 = 3) ∧ 32 ≤ a ∧ vp_in i (p_kd h a).2 ∧ k ls r (p_wI h a i.toNatClampNeg (p_nv (p_kd h a).1 x))
    | _ => False
  | .lastore => match st with
    | .long x :: .int i :: .ref a :: r => (p_kd h a).1 = 4 ∧ 32 ≤ a ∧ vp_in i (p_kd h a).2 ∧ k ls r (p_wL h a i.toNatClampNeg x)
    | _ => False
  | .aastore => match st with
    | .ref b :: .int i :: .ref a :: r => (((p_kd h a).1 = 5 ∧ p_kd h b = (0, 7)) ∨ ((p_kd h a).1 = 6 ∧ p_kd h b = (0, 1))) ∧ 32 ≤ a ∧ 32 ≤ b ∧ vp_in i (p_kd h a).2 ∧ k ls r (p_wR h a i.toNatClampNeg (some b))
    | .null :: .int i :: .ref a :: r => ((p_kd h a).1 = 5 ∨ (p_kd h a).1 = 6) ∧ 32 ≤ a ∧ vp_in i (p_kd h a).2 ∧ k ls r (p_wR h a i.toNatClampNeg none)
    | _ => False
  | .invokespecial _ => match ex, st with
    | [_, 9999, _, _], .ref _ :: r => (r.map fun v => v.category).sum ≤ 8 ∧ k ls r h
    | _, _ => False
  | .invokestatic _ => match ex, st with
    | [_, 9998, _, _], .int n :: .int dp :: .ref b :: .int sp :: .ref a :: r => (p_kd h a).1 = 1 ∧ (p_kd h b).1 = 1 ∧ 32 ≤ a ∧ 32 ≤ b ∧ ¬ sp < 0 ∧ ¬ dp < 0 ∧ ¬ n < 0 ∧ sp.toNatClampNeg + n.toNatClampNeg ≤ (p_kd h a).2 ∧ dp.toNatClampNeg + n.toNatClampNeg ≤ (p_kd h b).2 ∧ (r.map fun v => v.category).sum ≤ 8 ∧
        k ls r (p_fn h.1 b (va_cpy (h.1 a) (h.1 b) sp.toNatClampNeg dp.toNatClampNeg n.toNatClampNeg), h.2)
    | [_, 9997, _, _], .int y :: .int x :: r => (r.map fun v => v.category).sum ≤ 8 ∧ k ls (.int (if x < y then y else x) :: r) h
    | [_, 9996, _, _], .int y :: .int x :: r => (r.map fun v => v.category).sum ≤ 8 ∧ k ls (.int (if y < x then y else x) :: r) h
    | _, _ => False
  | _ => False
/-- a block: from an instruction on, till it jumps (G), calls (C) or returns (R) -/
def p_blk (G : Nat → pK) (C : Nat → List Value → List pI → pK) (R : Option Value → pK) : List pI → Nat → Nat → List Value → List Value → pHp → Prop
  | [], _, _, _, _, _ => False
  | (i, _, ex) :: rest, kc, ks, ls, st, h =>
    match i with
    | .nop => match ex with
      | [b] => G b kc ks ls st h
      | _ => False
    | .goto _ => match ex with
      | [b] => G b kc ks ls st h
      | _ => False
    | .if_icmp c _ => match ex, st with
      | [b], .int y :: .int x :: r => match c with
        | .eq => (x = y → G b kc ks ls r h) ∧ (¬ x = y → p_blk G C R rest kc ks ls r h)
        | .ne => (¬ x = y → G b kc ks ls r h) ∧ (x = y → p_blk G C R rest kc ks ls r h)
        | .lt => (x < y → G b kc ks ls r h) ∧ (¬ x < y → p_blk G C R rest kc ks ls r h)
        | .ge => (y ≤ x → G b kc ks ls r h) ∧ (¬ y ≤ x → p_blk G C R rest kc ks ls r h)
        | .gt => (y < x → G b kc ks ls r h) ∧ (¬ y < x → p_blk G C R rest kc ks ls r h)
        | .le => (x ≤ y → G b kc ks ls r h) ∧ (¬ x ≤ y → p_blk G C R rest kc ks ls r h)
      | _, _ => False
    | .ifCond c _ => match ex, st with
      | [b], .int x :: r => match c with
        | .eq => (x = 0 → G b kc ks ls r h) ∧ (¬ x = 0 → p_blk G C R rest kc ks ls r h)
        | .ne => (¬ x = 0 → G b kc ks ls r h) ∧ (x = 0 → p_blk G C R rest kc ks ls r h)
        | .lt => (x < 0 → G b kc ks ls r h) ∧ (¬ x < 0 → p_blk G C R rest kc ks ls r h)
        | .ge => (0 ≤ x → G b kc ks ls r h) ∧ (¬ 0 ≤ x → p_blk G C R rest kc ks ls r h)
        | .gt => (0 < x → G b kc ks ls r h) ∧ (¬ 0 < x → p_blk G C R rest kc ks ls r h)
        | .le => (x ≤ 0 → G b kc ks ls r h) ∧ (¬ x ≤ 0 → p_blk G C R rest kc ks ls r h)
      | _, _ => False
    | .ifnonnull _ => match ex, st with
      | [b], .ref _ :: r => G b kc ks ls r h
      | [_], .null :: r => p_blk G C R rest kc ks ls r h
      | _, _ => False
    | .ifnull _ => match ex, st with
      | [_], .ref _ :: r => p_blk G C R rest kc ks ls r h
      | [b], .null :: r => G b kc ks ls r h
      | _, _ => False
    | .tableswitch _ lo hi _ => match ex, st with
      | b :: bs, .int x :: r => (x.toInt < lo ∨ hi < x.toInt → G b kc ks ls r h) ∧ p_sw x (fun b => G b kc ks ls r h) lo bs
      | _, _ => False
    | .ireturn => match ex, st with
      | [0], [.int x] => R (some (.int x)) kc ks ls [] h
      | [1], [.int x] => (x = 0 ∨ x = 1) ∧ R (some (.int x)) kc ks ls [] h
      | [2], [.int x] => narrow .char (.int x) = .int x ∧ R (some (.int x)) kc ks ls [] h
      | [3], [.int x] => narrow .byte (.int x) = .int x ∧ R (some (.int x)) kc ks ls [] h
      | _, _ => False
    | .lreturn => match st with
      | [.long x] => R (some (.long x)) kc ks ls [] h
      | _ => False
    | .areturn => match st with
      | [.ref x] => R (some (.ref x)) kc ks ls [] h
      | [.null] => R (some .null) kc ks ls [] h
      | _ => False
    | .return_ => match st with
      | [] => R none kc ks ls [] h
      | _ => False
    | .invokevirtual _ => match ex with
      | [_, y, n, c] => match p_pop n [] st with
        | some (.ref a :: vs, st') => p_kd h a = (0, c) ∧ (st'.map fun v => v.category).sum ≤ 8 ∧ C y (.ref a :: vs) rest kc ks ls st' h
        | _ => False
      | _ => False
    | .invokespecial j => match ex with
      | [e, 9999, n, c] => p_one cn cl (.invokespecial j) [e, 9999, n, c] ls st h (fun ls st h => p_blk G C R rest kc ks ls st h)
      | [_, y, n, _] => match p_pop n [] st with
        | some (.ref a :: vs, st') => (st'.map fun v => v.category).sum ≤ 8 ∧ C y (.ref a :: vs) rest kc ks ls st' h
        | _ => False
      | _ => False
    | .invokestatic j => match ex with
      | [e, 9998, n, c] => p_one cn cl (.invokestatic j) [e, 9998, n, c] ls st h (fun ls st h => p_blk G C R rest kc ks ls st h)
      | [e, 9997, n, c] => p_one cn cl (.invokestatic j) [e, 9997, n, c] ls st h (fun ls st h => p_blk G C R rest kc ks ls st h)
      | [e, 9996, n, c] => p_one cn cl (.invokestatic j) [e, 9996, n, c] ls st h (fun ls st h => p_blk G C R rest kc ks ls st h)
      | [_, y, n, _] => match p_pop n [] st with
        | some (vs, st') => (st'.map fun v => v.category).sum ≤ 8 ∧ C y vs rest kc ks ls st' h
        | _ => False
      | _ => False
    | .new _ => match ex, kc with
      | [_, c, n], kc' + 1 => n ≤ ks ∧ p_blk G C R rest kc' (ks - n) ls (.ref h.2.2.2.length :: st) (p_new h (0, c))
      | _, _ => False
    | .newarray _ => match ex, kc, st with
      | [t], kc' + 1, .int n :: r => ¬ n < 0 ∧ n.toNatClampNeg ≤ 65536 ∧ n.toNatClampNeg ≤ ks ∧ p_blk G C R rest kc' (ks - n.toNatClampNeg) ls (.ref h.2.2.2.length :: r) (p_new h (t, n.toNatClampNeg))
      | _, _, _ => False
    | .anewarray _ => match ex, kc, st with
      | [_, t], kc' + 1, .int n :: r => ¬ n < 0 ∧ n.toNatClampNeg ≤ 65536 ∧ n.toNatClampNeg ≤ ks ∧ p_blk G C R rest kc' (ks - n.toNatClampNeg) ls (.ref h.2.2.2.length :: r) (p_new h (t, n.toNatClampNeg))
      | _, _, _ => False
    | i => p_one cn cl i ex ls st h (fun ls st h => p_blk G C R rest kc ks ls st h)
variable (bk : Nat → Nat → List pI)
variable (mx : Nat → Nat)
abbrev pZ : Type := Nat → Nat → List pI → Nat → Nat → List Value → List Value → pHp → (Option Value → pHp → Prop) → Prop
def p_stp (Z : pZ) : pZ := fun d y b kc ks ls st h Q =>
  p_blk cn cl (fun b' kc ks ls st h => Z d y (bk y b') kc ks ls st h Q)
    (fun y' vs rest kc ks ls st h => match d with
      | 0 => False
      | d' + 1 => p_cats vs ≤ mx y' ∧ ∃ (kc' ks' : Nat) (Q' : Option Value → pHp → Prop), kc' ≤ kc ∧ ks' ≤ ks ∧ Z d' y' (bk y' 0) kc' ks' (p_ent vs) [] h Q' ∧
          ∀ v h', Q' v h' → Z (d' + 1) y rest (kc - kc') (ks - ks') ls (v.toList ++ st) h' Q)
    (fun v kc ks _ _ h => kc = 0 ∧ ks = 0 ∧ Q v h) b kc ks ls st h
/-- a run of a method y, from a place b in it: d calls deep at most; kc cells, ks slots are made: it ends with Q (the least such predicate) -/
def p_run : pZ := fun d y b kc ks ls st h Q => ∀ Z : pZ, (∀ d y b kc ks ls st h Q, p_stp cn cl bk mx Z d y b kc ks ls st h Q → Z d y b kc ks ls st h Q) → Z d y b kc ks ls st h Q
end PM
section PMm
variable {cn : Nat → Int32} {cl : Nat → Int64}
theorem p_one_mono {i : Instr} {ex : List Nat} {ls st : List Value} {h : pHp} {k k' : List Value → List Value → pHp → Prop} (hk : ∀ ls st h, k ls st h → k' ls st h) (H : p_one cn cl i ex ls st h k) : p_one cn cl i ex ls st h k' := by
  cases i <;> unfold p_one at H ⊢ <;> first
    | exact H
    | exact hk _ _ _ H
    | (dsimp only at H ⊢; split at H <;> first
        | exact H.elim
        | exact hk _ _ _ H
        | exact ⟨H.1, hk _ _ _ H.2⟩
        | exact ⟨H.1, H.2.1, hk _ _ _ H.2.2⟩
        | exact ⟨H.1, H.2.1, H.2.2.1, hk _ _ _ H.2.2.2⟩
        | exact ⟨H.1, H.2.1, H.2.2.1, H.2.2.2.1, hk _ _ _ H.2.2.2.2⟩
        | exact ⟨H.1, H.2.1, H.2.2.1, H.2.2.2.1, H.2.2.2.2.1, H.2.2.2.2.2.1, H.2.2.2.2.2.2.1, H.2.2.2.2.2.2.2.1, H.2.2.2.2.2.2.2.2.1, H.2.2.2.2.2.2.2.2.2.1, hk _ _ _ H.2.2.2.2.2.2.2.2.2.2⟩)
theorem p_sw_mono {x : Int32} {G G' : Nat → Prop} (hG : ∀ b, G b → G' b) : ∀ (bs : List Nat) (lo : Int), p_sw x G lo bs → p_sw x G' lo bs
  | [], _, _ => trivial
  | _ :: bs, _, H => ⟨fun e => hG _ (H.1 e), p_sw_mono hG bs _ H.2⟩
theorem p_blk_mono {G G' : Nat → pK} {C C' : Nat → List Value → List pI → pK} {R R' : Option Value → pK}
    (hG : ∀ b kc ks ls st h, G b kc ks ls st h → G' b kc ks ls st h) (hC : ∀ y vs r kc ks ls st h, C y vs r kc ks ls st h → C' y vs r kc ks ls st h) (hR : ∀ v kc ks ls st h, R v kc ks ls st h → R' v kc ks ls st h) :
    ∀ (b : List pI) (kc ks : Nat) (ls st : List Value) (h : pHp), p_blk cn cl G C R b kc ks ls st h → p_blk cn cl G' C' R' b kc ks ls st h := by
  intro b
  induction b with
  | nil => intro kc ks ls st h H; exact H
  | cons q rest ih =>
    obtain ⟨i, len, ex⟩ := q
    intro kc ks ls st h H
    cases i <;> unfold p_blk at H ⊢ <;> first
      | exact p_one_mono (fun _ _ _ H => ih _ _ _ _ _ H) H
      | (dsimp only at H ⊢; split at H <;> first
          | exact H.elim
          | exact hG _ _ _ _ _ _ H
          | exact hR _ _ _ _ _ _ H
          | exact ⟨H.1, hR _ _ _ _ _ _ H.2⟩
          | exact ih _ _ _ _ _ H
          | exact ⟨H.1, ih _ _ _ _ _ H.2⟩
          | exact ⟨H.1, H.2.1, H.2.2.1, ih _ _ _ _ _ H.2.2.2⟩
          | exact ⟨fun e => hG _ _ _ _ _ _ (H.1 e), p_sw_mono (fun _ => hG _ _ _ _ _ _) _ _ H.2⟩
          | exact p_one_mono (fun _ _ _ H => ih _ _ _ _ _ H) H
          | (split at H <;> first
              | exact H.elim
              | exact ⟨fun e => hG _ _ _ _ _ _ (H.1 e), fun e => ih _ _ _ _ _ (H.2 e)⟩
              | exact ⟨H.1, H.2.1, hC _ _ _ _ _ _ _ _ H.2.2⟩
              | exact ⟨H.1, hC _ _ _ _ _ _ _ _ H.2⟩))
variable {bk : Nat → Nat → List pI} {mx : Nat → Nat}
theorem p_stp_mono {Z Z' : pZ} (hZ : ∀ d y b kc ks ls st h Q, Z d y b kc ks ls st h Q → Z' d y b kc ks ls st h Q) {d y : Nat} {b : List pI} {kc ks : Nat} {ls st : List Value} {h : pHp} {Q : Option Value → pHp → Prop} (H : p_stp cn cl bk mx Z d y b kc ks ls st h Q) : p_stp cn cl bk mx Z' d y b kc ks ls st h Q := by
  refine p_blk_mono (fun _ _ _ _ _ _ => hZ _ _ _ _ _ _ _ _ _) (fun y' vs r kc ks ls st h C => ?_) (fun _ _ _ _ _ _ r => r) _ _ _ _ _ _ H
  cases d with
  | zero => exact C
  | succ d' =>
    obtain ⟨h0, kc', ks', Q', h1, h2, h3, h4⟩ := C
    exact ⟨h0, kc', ks', Q', h1, h2, hZ _ _ _ _ _ _ _ _ _ h3, fun v h' q => hZ _ _ _ _ _ _ _ _ _ (h4 v h' q)⟩
theorem p_run_of {d y : Nat} {b : List pI} {kc ks : Nat} {ls st : List Value} {h : pHp} {Q : Option Value → pHp → Prop} (H : p_stp cn cl bk mx (p_run cn cl bk mx) d y b kc ks ls st h Q) : p_run cn cl bk mx d y b kc ks ls st h Q :=
  fun Z hZ => hZ _ _ _ _ _ _ _ _ _ (p_stp_mono (fun _ _ _ _ _ _ _ _ _ r => r Z hZ) H)
theorem p_run_ind {Z : pZ} (hZ : ∀ d y b kc ks ls st h Q, p_stp cn cl bk mx Z d y b kc ks ls st h Q → Z d y b kc ks ls st h Q) {d y : Nat} {b : List pI} {kc ks : Nat} {ls st : List Value} {h : pHp} {Q : Option Value → pHp → Prop} (H : p_run cn cl bk mx d y b kc ks ls st h Q) : Z d y b kc ks ls st h Q := H Z hZ
end PMm
