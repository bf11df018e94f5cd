/-! ROWS that run the pure machine: an instruction a row, all by computation -/
abbrev P_run : pZ := p_run p_cn p_clc p_bk p_mx
def P_w (d y : Nat) (Q : Option Value → pHp → Prop) (b : List pI) (kc ks : Nat) (ls st : List Value) (h : pHp) : Prop := p_stp p_cn p_clc p_bk p_mx P_run d y b kc ks ls st h Q
def P_call (d y z : Nat) (vs : List Value) (r : List pI) (kc ks : Nat) (ls st : List Value) (h : pHp) (Q : Option Value → pHp → Prop) : Prop :=
  p_cats vs ≤ p_mx z ∧ ∃ (kc' ks' : Nat) (Q' : Option Value → pHp → Prop), kc' ≤ kc ∧ ks' ≤ ks ∧ P_run d z (p_bk z 0) kc' ks' (p_ent vs) [] h Q' ∧ ∀ v h', Q' v h' → P_run (d + 1) y r (kc - kc') (ks - ks') ls (v.toList ++ st) h' Q
theorem P_go {d y : Nat} {Q : Option Value → pHp → Prop} {b : List pI} {kc ks : Nat} {ls st : List Value} {h : pHp} (H : P_w d y Q b kc ks ls st h) : P_run d y b kc ks ls st h Q := p_run_of H
/-- a method's run that makes nothing -/
def P_m (d z : Nat) (vs : List Value) (h : pHp) (Q : Option Value → pHp → Prop) : Prop := P_run d z (p_bk z 0) 0 0 (p_ent vs) [] h Q
theorem P_c {d y z : Nat} {vs : List Value} {r : List pI} {kc ks : Nat} {ls st : List Value} {h : pHp} {Q Q' : Option Value → pHp → Prop} (hc : P_m d z vs h Q') (hk : ∀ v h', Q' v h' → P_w (d + 1) y Q r kc ks ls (v.toList ++ st) h') (hm : p_cats vs ≤ p_mx z := by exact Nat.le_of_ble_eq_true rfl) : P_call d y z vs r kc ks ls st h Q :=
  ⟨hm, 0, 0, Q', Nat.zero_le _, Nat.zero_le _, hc, fun v h' q => P_go (hk v h' q)⟩
section PWR
variable {d y : Nat} {Q : Option Value → pHp → Prop} {l : Nat} {ex : List Nat} {r : List pI} {kc ks : Nat} {ls st : List Value} {h : pHp}
theorem pw_iconst (n : Int) : P_w d y Q ((.iconst n, l, ex) :: r) kc ks ls st h = P_w d y Q r kc ks ls (.int (Int32.ofInt n) :: st) h := rfl
theorem pw_bipush (n : Int) : P_w d y Q ((.bipush n, l, ex) :: r) kc ks ls st h = P_w d y Q r kc ks ls (.int (Int8.ofInt n).toInt32 :: st) h := rfl
theorem pw_sipush (n : Int) : P_w d y Q ((.sipush n, l, ex) :: r) kc ks ls st h = P_w d y Q r kc ks ls (.int (Int16.ofInt n).toInt32 :: st) h := rfl
theorem pw_lconst (n : Fin 2) : P_w d y Q ((.lconst n, l, ex) :: r) kc ks ls st h = P_w d y Q r kc ks ls (.long (Int64.ofNat n.val) :: st) h := rfl
theorem pw_null : P_w d y Q ((.aconst_null, l, ex) :: r) kc ks ls st h = P_w d y Q r kc ks ls (.null :: st) h := rfl
theorem pw_ldc (j e : Nat) : P_w d y Q ((.ldc j, l, [e, 0]) :: r) kc ks ls st h = P_w d y Q r kc ks ls (.int (p_cn e) :: st) h := rfl
theorem pw_ldcS (j e a : Nat) : P_w d y Q ((.ldc j, l, [e, 1, a]) :: r) kc ks ls st h = P_w d y Q r kc ks ls (.ref a :: st) h := rfl
theorem pw_ldcw (j e : Nat) : P_w d y Q ((.ldc_w j, l, [e, 0]) :: r) kc ks ls st h = P_w d y Q r kc ks ls (.int (p_cn e) :: st) h := rfl
theorem pw_ldc2 (j e : Nat) : P_w d y Q ((.ldc2_w j, l, [e]) :: r) kc ks ls st h = P_w d y Q r kc ks ls (.long (p_clc e) :: st) h := rfl
theorem pw_iload_0 (x : Int32) (q : List Value): P_w d y Q ((.iload 0, l, ex) :: r) kc ks (.int x :: q) st h = P_w d y Q r kc ks (.int x :: q) (.int x :: st) h := rfl
theorem pw_iload_n0 (x : Int32) (q : List Value): P_w d y Q ((.iload_n 0, l, ex) :: r) kc ks (.int x :: q) st h = P_w d y Q r kc ks (.int x :: q) (.int x :: st) h := rfl
theorem pw_lload_0 (x : Int64) (q : List Value): P_w d y Q ((.lload 0, l, ex) :: r) kc ks (.long x :: q) st h = P_w d y Q r kc ks (.long x :: q) (.long x :: st) h := rfl
theorem pw_lload_n0 (x : Int64) (q : List Value): P_w d y Q ((.lload_n 0, l, ex) :: r) kc ks (.long x :: q) st h = P_w d y Q r kc ks (.long x :: q) (.long x :: st) h := rfl
theorem pw_aload_0 (x : Nat) (q : List Value): P_w d y Q ((.aload 0, l, ex) :: r) kc ks (.ref x :: q) st h = P_w d y Q r kc ks (.ref x :: q) (.ref x :: st) h := rfl
theorem pw_aload_n0 (x : Nat) (q : List Value): P_w d y Q ((.aload_n 0, l, ex) :: r) kc ks (.ref x :: q) st h = P_w d y Q r kc ks (.ref x :: q) (.ref x :: st) h := rfl
theorem pw_aloadN_0 (q : List Value): P_w d y Q ((.aload 0, l, ex) :: r) kc ks (.null :: q) st h = P_w d y Q r kc ks (.null :: q) (.null :: st) h := rfl
theorem pw_aloadN_n0 (q : List Value): P_w d y Q ((.aload_n 0, l, ex) :: r) kc ks (.null :: q) st h = P_w d y Q r kc ks (.null :: q) (.null :: st) h := rfl
theorem pw_istore_n0 (x : Int32): P_w d y Q ((.istore_n 0, l, ex) :: r) kc ks ls (.int x :: st) h = (p_ok1 ls 0 ∧ P_w d y Q r kc ks (p_set ls 0 (.int x)) st h) := rfl
theorem pw_astore_n0 (x : Nat): P_w d y Q ((.astore_n 0, l, ex) :: r) kc ks ls (.ref x :: st) h = (p_ok1 ls 0 ∧ P_w d y Q r kc ks (p_set ls 0 (.ref x)) st h) := rfl
theorem pw_astoreN_n0 : P_w d y Q ((.astore_n 0, l, ex) :: r) kc ks ls (.null :: st) h = (p_ok1 ls 0 ∧ P_w d y Q r kc ks (p_set ls 0 .null) st h) := rfl
theorem pw_lstore_n0 (x : Int64): P_w d y Q ((.lstore_n 0, l, ex) :: r) kc ks ls (.long x :: st) h = (p_ok1 ls 0 ∧ P_w d y Q r kc ks (p_set (p_set ls 0 (.long x)) 1 (.retAddr 0)) st h) := rfl
theorem pw_iload_1 (x0 : Value) (x : Int32) (q : List Value): P_w d y Q ((.iload 1, l, ex) :: r) kc ks (x0 :: .int x :: q) st h = P_w d y Q r kc ks (x0 :: .int x :: q) (.int x :: st) h := rfl
theorem pw_iload_n1 (x0 : Value) (x : Int32) (q : List Value): P_w d y Q ((.iload_n 1, l, ex) :: r) kc ks (x0 :: .int x :: q) st h = P_w d y Q r kc ks (x0 :: .int x :: q) (.int x :: st) h := rfl
theorem pw_lload_1 (x0 : Value) (x : Int64) (q : List Value): P_w d y Q ((.lload 1, l, ex) :: r) kc ks (x0 :: .long x :: q) st h = P_w d y Q r kc ks (x0 :: .long x :: q) (.long x :: st) h := rfl
theorem pw_lload_n1 (x0 : Value) (x : Int64) (q : List Value): P_w d y Q ((.lload_n 1, l, ex) :: r) kc ks (x0 :: .long x :: q) st h = P_w d y Q r kc ks (x0 :: .long x :: q) (.long x :: st) h := rfl
theorem pw_aload_1 (x0 : Value) (x : Nat) (q : List Value): P_w d y Q ((.aload 1, l, ex) :: r) kc ks (x0 :: .ref x :: q) st h = P_w d y Q r kc ks (x0 :: .ref x :: q) (.ref x :: st) h := rfl
theorem pw_aload_n1 (x0 : Value) (x : Nat) (q : List Value): P_w d y Q ((.aload_n 1, l, ex) :: r) kc ks (x0 :: .ref x :: q) st h = P_w d y Q r kc ks (x0 :: .ref x :: q) (.ref x :: st) h := rfl
theorem pw_aloadN_1 (x0 : Value) (q : List Value): P_w d y Q ((.aload 1, l, ex) :: r) kc ks (x0 :: .null :: q) st h = P_w d y Q r kc ks (x0 :: .null :: q) (.null :: st) h := rfl
theorem pw_aloadN_n1 (x0 : Value) (q : List Value): P_w d y Q ((.aload_n 1, l, ex) :: r) kc ks (x0 :: .null :: q) st h = P_w d y Q r kc ks (x0 :: .null :: q) (.null :: st) h := rfl
theorem pw_istore_n1 (x : Int32): P_w d y Q ((.istore_n 1, l, ex) :: r) kc ks ls (.int x :: st) h = (p_ok1 ls 1 ∧ P_w d y Q r kc ks (p_set ls 1 (.int x)) st h) := rfl
theorem pw_astore_n1 (x : Nat): P_w d y Q ((.astore_n 1, l, ex) :: r) kc ks ls (.ref x :: st) h = (p_ok1 ls 1 ∧ P_w d y Q r kc ks (p_set ls 1 (.ref x)) st h) := rfl
theorem pw_astoreN_n1 : P_w d y Q ((.astore_n 1, l, ex) :: r) kc ks ls (.null :: st) h = (p_ok1 ls 1 ∧ P_w d y Q r kc ks (p_set ls 1 .null) st h) := rfl
theorem pw_lstore_n1 (x : Int64): P_w d y Q ((.lstore_n 1, l, ex) :: r) kc ks ls (.long x :: st) h = (p_ok1 ls 1 ∧ P_w d y Q r kc ks (p_set (p_set ls 1 (.long x)) 2 (.retAddr 0)) st h) := rfl
theorem pw_iload_2 (x0 x1 : Value) (x : Int32) (q : List Value): P_w d y Q ((.iload 2, l, ex) :: r) kc ks (x0 :: x1 :: .int x :: q) st h = P_w d y Q r kc ks (x0 :: x1 :: .int x :: q) (.int x :: st) h := rfl
theorem pw_iload_n2 (x0 x1 : Value) (x : Int32) (q : List Value): P_w d y Q ((.iload_n 2, l, ex) :: r) kc ks (x0 :: x1 :: .int x :: q) st h = P_w d y Q r kc ks (x0 :: x1 :: .int x :: q) (.int x :: st) h := rfl
theorem pw_lload_2 (x0 x1 : Value) (x : Int64) (q : List Value): P_w d y Q ((.lload 2, l, ex) :: r) kc ks (x0 :: x1 :: .long x :: q) st h = P_w d y Q r kc ks (x0 :: x1 :: .long x :: q) (.long x :: st) h := rfl
theorem pw_lload_n2 (x0 x1 : Value) (x : Int64) (q : List Value): P_w d y Q ((.lload_n 2, l, ex) :: r) kc ks (x0 :: x1 :: .long x :: q) st h = P_w d y Q r kc ks (x0 :: x1 :: .long x :: q) (.long x :: st) h := rfl
theorem pw_aload_2 (x0 x1 : Value) (x : Nat) (q : List Value): P_w d y Q ((.aload 2, l, ex) :: r) kc ks (x0 :: x1 :: .ref x :: q) st h = P_w d y Q r kc ks (x0 :: x1 :: .ref x :: q) (.ref x :: st) h := rfl
theorem pw_aload_n2 (x0 x1 : Value) (x : Nat) (q : List Value): P_w d y Q ((.aload_n 2, l, ex) :: r) kc ks (x0 :: x1 :: .ref x :: q) st h = P_w d y Q r kc ks (x0 :: x1 :: .ref x :: q) (.ref x :: st) h := rfl
theorem pw_aloadN_2 (x0 x1 : Value) (q : List Value): P_w d y Q ((.aload 2, l, ex) :: r) kc ks (x0 :: x1 :: .null :: q) st h = P_w d y Q r kc ks (x0 :: x1 :: .null :: q) (.null :: st) h := rfl
theorem pw_aloadN_n2 (x0 x1 : Value) (q : List Value): P_w d y Q ((.aload_n 2, l, ex) :: r) kc ks (x0 :: x1 :: .null :: q) st h = P_w d y Q r kc ks (x0 :: x1 :: .null :: q) (.null :: st) h := rfl
theorem pw_istore_n2 (x : Int32): P_w d y Q ((.istore_n 2, l, ex) :: r) kc ks ls (.int x :: st) h = (p_ok1 ls 2 ∧ P_w d y Q r kc ks (p_set ls 2 (.int x)) st h) := rfl
theorem pw_astore_n2 (x : Nat): P_w d y Q ((.astore_n 2, l, ex) :: r) kc ks ls (.ref x :: st) h = (p_ok1 ls 2 ∧ P_w d y Q r kc ks (p_set ls 2 (.ref x)) st h) := rfl
theorem pw_astoreN_n2 : P_w d y Q ((.astore_n 2, l, ex) :: r) kc ks ls (.null :: st) h = (p_ok1 ls 2 ∧ P_w d y Q r kc ks (p_set ls 2 .null) st h) := rfl
theorem pw_lstore_n2 (x : Int64): P_w d y Q ((.lstore_n 2, l, ex) :: r) kc ks ls (.long x :: st) h = (p_ok1 ls 2 ∧ P_w d y Q r kc ks (p_set (p_set ls 2 (.long x)) 3 (.retAddr 0)) st h) := rfl
theorem pw_iload_3 (x0 x1 x2 : Value) (x : Int32) (q : List Value): P_w d y Q ((.iload 3, l, ex) :: r) kc ks (x0 :: x1 :: x2 :: .int x :: q) st h = P_w d y Q r kc ks (x0 :: x1 :: x2 :: .int x :: q) (.int x :: st) h := rfl
theorem pw_iload_n3 (x0 x1 x2 : Value) (x : Int32) (q : List Value): P_w d y Q ((.iload_n 3, l, ex) :: r) kc ks (x0 :: x1 :: x2 :: .int x :: q) st h = P_w d y Q r kc ks (x0 :: x1 :: x2 :: .int x :: q) (.int x :: st) h := rfl
theorem pw_lload_3 (x0 x1 x2 : Value) (x : Int64) (q : List Value): P_w d y Q ((.lload 3, l, ex) :: r) kc ks (x0 :: x1 :: x2 :: .long x :: q) st h = P_w d y Q r kc ks (x0 :: x1 :: x2 :: .long x :: q) (.long x :: st) h := rfl
theorem pw_lload_n3 (x0 x1 x2 : Value) (x : Int64) (q : List Value): P_w d y Q ((.lload_n 3, l, ex) :: r) kc ks (x0 :: x1 :: x2 :: .long x :: q) st h = P_w d y Q r kc ks (x0 :: x1 :: x2 :: .long x :: q) (.long x :: st) h := rfl
theorem pw_aload_3 (x0 x1 x2 : Value) (x : Nat) (q : List Value): P_w d y Q ((.aload 3, l, ex) :: r) kc ks (x0 :: x1 :: x2 :: .ref x :: q) st h = P_w d y Q r kc ks (x0 :: x1 :: x2 :: .ref x :: q) (.ref x :: st) h := rfl
theorem pw_aload_n3 (x0 x1 x2 : Value) (x : Nat) (q : List Value): P_w d y Q ((.aload_n 3, l, ex) :: r) kc ks (x0 :: x1 :: x2 :: .ref x :: q) st h = P_w d y Q r kc ks (x0 :: x1 :: x2 :: .ref x :: q) (.ref x :: st) h := rfl
theorem pw_aloadN_3 (x0 x1 x2 : Value) (q : List Value): P_w d y Q ((.aload 3, l, ex) :: r) kc ks (x0 :: x1 :: x2 :: .null :: q) st h = P_w d y Q r kc ks (x0 :: x1 :: x2 :: .null :: q) (.null :: st) h := rfl
theorem pw_aloadN_n3 (x0 x1 x2 : Value) (q : List Value): P_w d y Q ((.aload_n 3, l, ex) :: r) kc ks (x0 :: x1 :: x2 :: .null :: q) st h = P_w d y Q r kc ks (x0 :: x1 :: x2 :: .null :: q) (.null :: st) h := rfl
theorem pw_istore_n3 (x : Int32): P_w d y Q ((.istore_n 3, l, ex) :: r) kc ks ls (.int x :: st) h = (p_ok1 ls 3 ∧ P_w d y Q r kc ks (p_set ls 3 (.int x)) st h) := rfl
theorem pw_astore_n3 (x : Nat): P_w d y Q ((.astore_n 3, l, ex) :: r) kc ks ls (.ref x :: st) h = (p_ok1 ls 3 ∧ P_w d y Q r kc ks (p_set ls 3 (.ref x)) st h) := rfl
theorem pw_astoreN_n3 : P_w d y Q ((.astore_n 3, l, ex) :: r) kc ks ls (.null :: st) h = (p_ok1 ls 3 ∧ P_w d y Q r kc ks (p_set ls 3 .null) st h) := rfl
theorem pw_lstore_n3 (x : Int64): P_w d y Q ((.lstore_n 3, l, ex) :: r) kc ks ls (.long x :: st) h = (p_ok1 ls 3 ∧ P_w d y Q r kc ks (p_set (p_set ls 3 (.long x)) 4 (.retAddr 0)) st h) := rfl
theorem pw_iload_4 (x0 x1 x2 x3 : Value) (x : Int32) (q : List Value): P_w d y Q ((.iload 4, l, ex) :: r) kc ks (x0 :: x1 :: x2 :: x3 :: .int x :: q) st h = P_w d y Q r kc ks (x0 :: x1 :: x2 :: x3 :: .int x :: q) (.int x :: st) h := rfl
theorem pw_lload_4 (x0 x1 x2 x3 : Value) (x : Int64) (q : List Value): P_w d y Q ((.lload 4, l, ex) :: r) kc ks (x0 :: x1 :: x2 :: x3 :: .long x :: q) st h = P_w d y Q r kc ks (x0 :: x1 :: x2 :: x3 :: .long x :: q) (.long x :: st) h := rfl
theorem pw_aload_4 (x0 x1 x2 x3 : Value) (x : Nat) (q : List Value): P_w d y Q ((.aload 4, l, ex) :: r) kc ks (x0 :: x1 :: x2 :: x3 :: .ref x :: q) st h = P_w d y Q r kc ks (x0 :: x1 :: x2 :: x3 :: .ref x :: q) (.ref x :: st) h := rfl
theorem pw_aloadN_4 (x0 x1 x2 x3 : Value) (q : List Value): P_w d y Q ((.aload 4, l, ex) :: r) kc ks (x0 :: x1 :: x2 :: x3 :: .null :: q) st h = P_w d y Q r kc ks (x0 :: x1 :: x2 :: x3 :: .null :: q) (.null :: st) h := rfl
theorem pw_iload_5 (x0 x1 x2 x3 x4 : Value) (x : Int32) (q : List Value): P_w d y Q ((.iload 5, l, ex) :: r) kc ks (x0 :: x1 :: x2 :: x3 :: x4 :: .int x :: q) st h = P_w d y Q r kc ks (x0 :: x1 :: x2 :: x3 :: x4 :: .int x :: q) (.int x :: st) h := rfl
theorem pw_lload_5 (x0 x1 x2 x3 x4 : Value) (x : Int64) (q : List Value): P_w d y Q ((.lload 5, l, ex) :: r) kc ks (x0 :: x1 :: x2 :: x3 :: x4 :: .long x :: q) st h = P_w d y Q r kc ks (x0 :: x1 :: x2 :: x3 :: x4 :: .long x :: q) (.long x :: st) h := rfl
theorem pw_aload_5 (x0 x1 x2 x3 x4 : Value) (x : Nat) (q : List Value): P_w d y Q ((.aload 5, l, ex) :: r) kc ks (x0 :: x1 :: x2 :: x3 :: x4 :: .ref x :: q) st h = P_w d y Q r kc ks (x0 :: x1 :: x2 :: x3 :: x4 :: .ref x :: q) (.ref x :: st) h := rfl
theorem pw_aloadN_5 (x0 x1 x2 x3 x4 : Value) (q : List Value): P_w d y Q ((.aload 5, l, ex) :: r) kc ks (x0 :: x1 :: x2 :: x3 :: x4 :: .null :: q) st h = P_w d y Q r kc ks (x0 :: x1 :: x2 :: x3 :: x4 :: .null :: q) (.null :: st) h := rfl
theorem pw_iload_6 (x0 x1 x2 x3 x4 x5 : Value) (x : Int32) (q : List Value): P_w d y Q ((.iload 6, l, ex) :: r) kc ks (x0 :: x1 :: x2 :: x3 :: x4 :: x5 :: .int x :: q) st h = P_w d y Q r kc ks (x0 :: x1 :: x2 :: x3 :: x4 :: x5 :: .int x :: q) (.int x :: st) h := rfl
theorem pw_lload_6 (x0 x1 x2 x3 x4 x5 : Value) (x : Int64) (q : List Value): P_w d y Q ((.lload 6, l, ex) :: r) kc ks (x0 :: x1 :: x2 :: x3 :: x4 :: x5 :: .long x :: q) st h = P_w d y Q r kc ks (x0 :: x1 :: x2 :: x3 :: x4 :: x5 :: .long x :: q) (.long x :: st) h := rfl
theorem pw_aload_6 (x0 x1 x2 x3 x4 x5 : Value) (x : Nat) (q : List Value): P_w d y Q ((.aload 6, l, ex) :: r) kc ks (x0 :: x1 :: x2 :: x3 :: x4 :: x5 :: .ref x :: q) st h = P_w d y Q r kc ks (x0 :: x1 :: x2 :: x3 :: x4 :: x5 :: .ref x :: q) (.ref x :: st) h := rfl
theorem pw_aloadN_6 (x0 x1 x2 x3 x4 x5 : Value) (q : List Value): P_w d y Q ((.aload 6, l, ex) :: r) kc ks (x0 :: x1 :: x2 :: x3 :: x4 :: x5 :: .null :: q) st h = P_w d y Q r kc ks (x0 :: x1 :: x2 :: x3 :: x4 :: x5 :: .null :: q) (.null :: st) h := rfl
theorem pw_iload_7 (x0 x1 x2 x3 x4 x5 x6 : Value) (x : Int32) (q : List Value): P_w d y Q ((.iload 7, l, ex) :: r) kc ks (x0 :: x1 :: x2 :: x3 :: x4 :: x5 :: x6 :: .int x :: q) st h = P_w d y Q r kc ks (x0 :: x1 :: x2 :: x3 :: x4 :: x5 :: x6 :: .int x :: q) (.int x :: st) h := rfl
theorem pw_lload_7 (x0 x1 x2 x3 x4 x5 x6 : Value) (x : Int64) (q : List Value): P_w d y Q ((.lload 7, l, ex) :: r) kc ks (x0 :: x1 :: x2 :: x3 :: x4 :: x5 :: x6 :: .long x :: q) st h = P_w d y Q r kc ks (x0 :: x1 :: x2 :: x3 :: x4 :: x5 :: x6 :: .long x :: q) (.long x :: st) h := rfl
theorem pw_aload_7 (x0 x1 x2 x3 x4 x5 x6 : Value) (x : Nat) (q : List Value): P_w d y Q ((.aload 7, l, ex) :: r) kc ks (x0 :: x1 :: x2 :: x3 :: x4 :: x5 :: x6 :: .ref x :: q) st h = P_w d y Q r kc ks (x0 :: x1 :: x2 :: x3 :: x4 :: x5 :: x6 :: .ref x :: q) (.ref x :: st) h := rfl
theorem pw_aloadN_7 (x0 x1 x2 x3 x4 x5 x6 : Value) (q : List Value): P_w d y Q ((.aload 7, l, ex) :: r) kc ks (x0 :: x1 :: x2 :: x3 :: x4 :: x5 :: x6 :: .null :: q) st h = P_w d y Q r kc ks (x0 :: x1 :: x2 :: x3 :: x4 :: x5 :: x6 :: .null :: q) (.null :: st) h := rfl
theorem pw_iload_8 (x0 x1 x2 x3 x4 x5 x6 x7 : Value) (x : Int32) (q : List Value): P_w d y Q ((.iload 8, l, ex) :: r) kc ks (x0 :: x1 :: x2 :: x3 :: x4 :: x5 :: x6 :: x7 :: .int x :: q) st h = P_w d y Q r kc ks (x0 :: x1 :: x2 :: x3 :: x4 :: x5 :: x6 :: x7 :: .int x :: q) (.int x :: st) h := rfl
theorem pw_lload_8 (x0 x1 x2 x3 x4 x5 x6 x7 : Value) (x : Int64) (q : List Value): P_w d y Q ((.lload 8, l, ex) :: r) kc ks (x0 :: x1 :: x2 :: x3 :: x4 :: x5 :: x6 :: x7 :: .long x :: q) st h = P_w d y Q r kc ks (x0 :: x1 :: x2 :: x3 :: x4 :: x5 :: x6 :: x7 :: .long x :: q) (.long x :: st) h := rfl
theorem pw_aload_8 (x0 x1 x2 x3 x4 x5 x6 x7 : Value) (x : Nat) (q : List Value): P_w d y Q ((.aload 8, l, ex) :: r) kc ks (x0 :: x1 :: x2 :: x3 :: x4 :: x5 :: x6 :: x7 :: .ref x :: q) st h = P_w d y Q r kc ks (x0 :: x1 :: x2 :: x3 :: x4 :: x5 :: x6 :: x7 :: .ref x :: q) (.ref x :: st) h := rfl
theorem pw_aloadN_8 (x0 x1 x2 x3 x4 x5 x6 x7 : Value) (q : List Value): P_w d y Q ((.aload 8, l, ex) :: r) kc ks (x0 :: x1 :: x2 :: x3 :: x4 :: x5 :: x6 :: x7 :: .null :: q) st h = P_w d y Q r kc ks (x0 :: x1 :: x2 :: x3 :: x4 :: x5 :: x6 :: x7 :: .null :: q) (.null :: st) h := rfl
theorem pw_iload_9 (x0 x1 x2 x3 x4 x5 x6 x7 x8 : Value) (x : Int32) (q : List Value): P_w d y Q ((.iload 9, l, ex) :: r) kc ks (x0 :: x1 :: x2 :: x3 :: x4 :: x5 :: x6 :: x7 :: x8 :: .int x :: q) st h = P_w d y Q r kc ks (x0 :: x1 :: x2 :: x3 :: x4 :: x5 :: x6 :: x7 :: x8 :: .int x :: q) (.int x :: st) h := rfl
theorem pw_lload_9 (x0 x1 x2 x3 x4 x5 x6 x7 x8 : Value) (x : Int64) (q : List Value): P_w d y Q ((.lload 9, l, ex) :: r) kc ks (x0 :: x1 :: x2 :: x3 :: x4 :: x5 :: x6 :: x7 :: x8 :: .long x :: q) st h = P_w d y Q r kc ks (x0 :: x1 :: x2 :: x3 :: x4 :: x5 :: x6 :: x7 :: x8 :: .long x :: q) (.long x :: st) h := rfl
theorem pw_aload_9 (x0 x1 x2 x3 x4 x5 x6 x7 x8 : Value) (x : Nat) (q : List Value): P_w d y Q ((.aload 9, l, ex) :: r) kc ks (x0 :: x1 :: x2 :: x3 :: x4 :: x5 :: x6 :: x7 :: x8 :: .ref x :: q) st h = P_w d y Q r kc ks (x0 :: x1 :: x2 :: x3 :: x4 :: x5 :: x6 :: x7 :: x8 :: .ref x :: q) (.ref x :: st) h := rfl
theorem pw_aloadN_9 (x0 x1 x2 x3 x4 x5 x6 x7 x8 : Value) (q : List Value): P_w d y Q ((.aload 9, l, ex) :: r) kc ks (x0 :: x1 :: x2 :: x3 :: x4 :: x5 :: x6 :: x7 :: x8 :: .null :: q) st h = P_w d y Q r kc ks (x0 :: x1 :: x2 :: x3 :: x4 :: x5 :: x6 :: x7 :: x8 :: .null :: q) (.null :: st) h := rfl
theorem pw_iload_10 (x0 x1 x2 x3 x4 x5 x6 x7 x8 x9 : Value) (x : Int32) (q : List Value): P_w d y Q ((.iload 10, l, ex) :: r) kc ks (x0 :: x1 :: x2 :: x3 :: x4 :: x5 :: x6 :: x7 :: x8 :: x9 :: .int x :: q) st h = P_w d y Q r kc ks (x0 :: x1 :: x2 :: x3 :: x4 :: x5 :: x6 :: x7 :: x8 :: x9 :: .int x :: q) (.int x :: st) h := rfl
theorem pw_lload_10 (x0 x1 x2 x3 x4 x5 x6 x7 x8 x9 : Value) (x : Int64) (q : List Value): P_w d y Q ((.lload 10, l, ex) :: r) kc ks (x0 :: x1 :: x2 :: x3 :: x4 :: x5 :: x6 :: x7 :: x8 :: x9 :: .long x :: q) st h = P_w d y Q r kc ks (x0 :: x1 :: x2 :: x3 :: x4 :: x5 :: x6 :: x7 :: x8 :: x9 :: .long x :: q) (.long x :: st) h := rfl
theorem pw_aload_10 (x0 x1 x2 x3 x4 x5 x6 x7 x8 x9 : Value) (x : Nat) (q : List Value): P_w d y Q ((.aload 10, l, ex) :: r) kc ks (x0 :: x1 :: x2 :: x3 :: x4 :: x5 :: x6 :: x7 :: x8 :: x9 :: .ref x :: q) st h = P_w d y Q r kc ks (x0 :: x1 :: x2 :: x3 :: x4 :: x5 :: x6 :: x7 :: x8 :: x9 :: .ref x :: q) (.ref x :: st) h := rfl
theorem pw_aloadN_10 (x0 x1 x2 x3 x4 x5 x6 x7 x8 x9 : Value) (q : List Value): P_w d y Q ((.aload 10, l, ex) :: r) kc ks (x0 :: x1 :: x2 :: x3 :: x4 :: x5 :: x6 :: x7 :: x8 :: x9 :: .null :: q) st h = P_w d y Q r kc ks (x0 :: x1 :: x2 :: x3 :: x4 :: x5 :: x6 :: x7 :: x8 :: x9 :: .null :: q) (.null :: st) h := rfl
theorem pw_iload_11 (x0 x1 x2 x3 x4 x5 x6 x7 x8 x9 x10 : Value) (x : Int32) (q : List Value): P_w d y Q ((.iload 11, l, ex) :: r) kc ks (x0 :: x1 :: x2 :: x3 :: x4 :: x5 :: x6 :: x7 :: x8 :: x9 :: x10 :: .int x :: q) st h = P_w d y Q r kc ks (x0 :: x1 :: x2 :: x3 :: x4 :: x5 :: x6 :: x7 :: x8 :: x9 :: x10 :: .int x :: q) (.int x :: st) h := rfl
theorem pw_lload_11 (x0 x1 x2 x3 x4 x5 x6 x7 x8 x9 x10 : Value) (x : Int64) (q : List Value): P_w d y Q ((.lload 11, l, ex) :: r) kc ks (x0 :: x1 :: x2 :: x3 :: x4 :: x5 :: x6 :: x7 :: x8 :: x9 :: x10 :: .long x :: q) st h = P_w d y Q r kc ks (x0 :: x1 :: x2 :: x3 :: x4 :: x5 :: x6 :: x7 :: x8 :: x9 :: x10 :: .long x :: q) (.long x :: st) h := rfl
theorem pw_aload_11 (x0 x1 x2 x3 x4 x5 x6 x7 x8 x9 x10 : Value) (x : Nat) (q : List Value): P_w d y Q ((.aload 11, l, ex) :: r) kc ks (x0 :: x1 :: x2 :: x3 :: x4 :: x5 :: x6 :: x7 :: x8 :: x9 :: x10 :: .ref x :: q) st h = P_w d y Q r kc ks (x0 :: x1 :: x2 :: x3 :: x4 :: x5 :: x6 :: x7 :: x8 :: x9 :: x10 :: .ref x :: q) (.ref x :: st) h := rfl
theorem pw_aloadN_11 (x0 x1 x2 x3 x4 x5 x6 x7 x8 x9 x10 : Value) (q : List Value): P_w d y Q ((.aload 11, l, ex) :: r) kc ks (x0 :: x1 :: x2 :: x3 :: x4 :: x5 :: x6 :: x7 :: x8 :: x9 :: x10 :: .null :: q) st h = P_w d y Q r kc ks (x0 :: x1 :: x2 :: x3 :: x4 :: x5 :: x6 :: x7 :: x8 :: x9 :: x10 :: .null :: q) (.null :: st) h := rfl
theorem pw_iload_12 (x0 x1 x2 x3 x4 x5 x6 x7 x8 x9 x10 x11 : Value) (x : Int32) (q : List Value): P_w d y Q ((.iload 12, l, ex) :: r) kc ks (x0 :: x1 :: x2 :: x3 :: x4 :: x5 :: x6 :: x7 :: x8 :: x9 :: x10 :: x11 :: .int x :: q) st h = P_w d y Q r kc ks (x0 :: x1 :: x2 :: x3 :: x4 :: x5 :: x6 :: x7 :: x8 :: x9 :: x10 :: x11 :: .int x :: q) (.int x :: st) h := rfl
theorem pw_lload_12 (x0 x1 x2 x3 x4 x5 x6 x7 x8 x9 x10 x11 : Value) (x : Int64) (q : List Value): P_w d y Q ((.lload 12, l, ex) :: r) kc ks (x0 :: x1 :: x2 :: x3 :: x4 :: x5 :: x6 :: x7 :: x8 :: x9 :: x10 :: x11 :: .long x :: q) st h = P_w d y Q r kc ks (x0 :: x1 :: x2 :: x3 :: x4 :: x5 :: x6 :: x7 :: x8 :: x9 :: x10 :: x11 :: .long x :: q) (.long x :: st) h := rfl
theorem pw_aload_12 (x0 x1 x2 x3 x4 x5 x6 x7 x8 x9 x10 x11 : Value) (x : Nat) (q : List Value): P_w d y Q ((.aload 12, l, ex) :: r) kc ks (x0 :: x1 :: x2 :: x3 :: x4 :: x5 :: x6 :: x7 :: x8 :: x9 :: x10 :: x11 :: .ref x :: q) st h = P_w d y Q r kc ks (x0 :: x1 :: x2 :: x3 :: x4 :: x5 :: x6 :: x7 :: x8 :: x9 :: x10 :: x11 :: .ref x :: q) (.ref x :: st) h := rfl
theorem pw_aloadN_12 (x0 x1 x2 x3 x4 x5 x6 x7 x8 x9 x10 x11 : Value) (q : List Value): P_w d y Q ((.aload 12, l, ex) :: r) kc ks (x0 :: x1 :: x2 :: x3 :: x4 :: x5 :: x6 :: x7 :: x8 :: x9 :: x10 :: x11 :: .null :: q) st h = P_w d y Q r kc ks (x0 :: x1 :: x2 :: x3 :: x4 :: x5 :: x6 :: x7 :: x8 :: x9 :: x10 :: x11 :: .null :: q) (.null :: st) h := rfl
theorem pw_istore (n : Nat) (x : Int32): P_w d y Q ((.istore n, l, ex) :: r) kc ks ls (.int x :: st) h = (p_ok1 ls n ∧ P_w d y Q r kc ks (p_set ls n (.int x)) st h) := rfl
theorem pw_astore (n : Nat) (x : Nat): P_w d y Q ((.astore n, l, ex) :: r) kc ks ls (.ref x :: st) h = (p_ok1 ls n ∧ P_w d y Q r kc ks (p_set ls n (.ref x)) st h) := rfl
theorem pw_astoreN (n : Nat) : P_w d y Q ((.astore n, l, ex) :: r) kc ks ls (.null :: st) h = (p_ok1 ls n ∧ P_w d y Q r kc ks (p_set ls n .null) st h) := rfl
theorem pw_lstore (n : Nat) (x : Int64): P_w d y Q ((.lstore n, l, ex) :: r) kc ks ls (.long x :: st) h = (p_ok1 ls n ∧ P_w d y Q r kc ks (p_set (p_set ls n (.long x)) (n + 1) (.retAddr 0)) st h) := rfl
theorem pw_iinc_0 (x : Int32) (c : Int) (q : List Value): P_w d y Q ((.iinc 0 c, l, ex) :: r) kc ks (.int x :: q) st h = (p_ok1 (.int x :: q) 0 ∧ P_w d y Q r kc ks (.int (x + Int32.ofInt c) :: q) st h) := rfl
theorem ps_0 (x v : Value) (q : List Value) : p_set (x :: q) 0 v = (v :: q) := rfl
theorem pe_0 (v : Value) : p_set [] 0 v = [v] := rfl
theorem pw_iinc_1 (x0 : Value) (x : Int32) (c : Int) (q : List Value): P_w d y Q ((.iinc 1 c, l, ex) :: r) kc ks (x0 :: .int x :: q) st h = (p_ok1 (x0 :: .int x :: q) 1 ∧ P_w d y Q r kc ks (x0 :: .int (x + Int32.ofInt c) :: q) st h) := rfl
theorem ps_1 (x0 x v : Value) (q : List Value) : p_set (x0 :: x :: q) 1 v = (x0 :: v :: q) := rfl
theorem pe_1 (x0 : Value) (v : Value) : p_set [x0] 1 v = [x0, v] := rfl
theorem po_i1 (x : Int32) (q : List Value) : p_ok1 (.int x :: q) 1 = True := eq_true rfl
theorem po_r1 (x : Nat) (q : List Value) : p_ok1 (.ref x :: q) 1 = True := eq_true rfl
theorem po_n1 (q : List Value) : p_ok1 (.null :: q) 1 = True := eq_true rfl
theorem po_u1 (q : List Value) : p_ok1 (.retAddr 0 :: q) 1 = True := eq_true rfl
theorem pw_iinc_2 (x0 x1 : Value) (x : Int32) (c : Int) (q : List Value): P_w d y Q ((.iinc 2 c, l, ex) :: r) kc ks (x0 :: x1 :: .int x :: q) st h = (p_ok1 (x0 :: x1 :: .int x :: q) 2 ∧ P_w d y Q r kc ks (x0 :: x1 :: .int (x + Int32.ofInt c) :: q) st h) := rfl
theorem ps_2 (x0 x1 x v : Value) (q : List Value) : p_set (x0 :: x1 :: x :: q) 2 v = (x0 :: x1 :: v :: q) := rfl
theorem pe_2 (x0 x1 : Value) (v : Value) : p_set [x0, x1] 2 v = [x0, x1, v] := rfl
theorem po_i2 (x0 : Value) (x : Int32) (q : List Value) : p_ok1 (x0 :: .int x :: q) 2 = True := eq_true rfl
theorem po_r2 (x0 : Value) (x : Nat) (q : List Value) : p_ok1 (x0 :: .ref x :: q) 2 = True := eq_true rfl
theorem po_n2 (x0 : Value) (q : List Value) : p_ok1 (x0 :: .null :: q) 2 = True := eq_true rfl
theorem po_u2 (x0 : Value) (q : List Value) : p_ok1 (x0 :: .retAddr 0 :: q) 2 = True := eq_true rfl
theorem pw_iinc_3 (x0 x1 x2 : Value) (x : Int32) (c : Int) (q : List Value): P_w d y Q ((.iinc 3 c, l, ex) :: r) kc ks (x0 :: x1 :: x2 :: .int x :: q) st h = (p_ok1 (x0 :: x1 :: x2 :: .int x :: q) 3 ∧ P_w d y Q r kc ks (x0 :: x1 :: x2 :: .int (x + Int32.ofInt c) :: q) st h) := rfl
theorem ps_3 (x0 x1 x2 x v : Value) (q : List Value) : p_set (x0 :: x1 :: x2 :: x :: q) 3 v = (x0 :: x1 :: x2 :: v :: q) := rfl
theorem pe_3 (x0 x1 x2 : Value) (v : Value) : p_set [x0, x1, x2] 3 v = [x0, x1, x2, v] := rfl
theorem po_i3 (x0 x1 : Value) (x : Int32) (q : List Value) : p_ok1 (x0 :: x1 :: .int x :: q) 3 = True := eq_true rfl
theorem po_r3 (x0 x1 : Value) (x : Nat) (q : List Value) : p_ok1 (x0 :: x1 :: .ref x :: q) 3 = True := eq_true rfl
theorem po_n3 (x0 x1 : Value) (q : List Value) : p_ok1 (x0 :: x1 :: .null :: q) 3 = True := eq_true rfl
theorem po_u3 (x0 x1 : Value) (q : List Value) : p_ok1 (x0 :: x1 :: .retAddr 0 :: q) 3 = True := eq_true rfl
theorem pw_iinc_4 (x0 x1 x2 x3 : Value) (x : Int32) (c : Int) (q : List Value): P_w d y Q ((.iinc 4 c, l, ex) :: r) kc ks (x0 :: x1 :: x2 :: x3 :: .int x :: q) st h = (p_ok1 (x0 :: x1 :: x2 :: x3 :: .int x :: q) 4 ∧ P_w d y Q r kc ks (x0 :: x1 :: x2 :: x3 :: .int (x + Int32.ofInt c) :: q) st h) := rfl
theorem ps_4 (x0 x1 x2 x3 x v : Value) (q : List Value) : p_set (x0 :: x1 :: x2 :: x3 :: x :: q) 4 v = (x0 :: x1 :: x2 :: x3 :: v :: q) := rfl
theorem pe_4 (x0 x1 x2 x3 : Value) (v : Value) : p_set [x0, x1, x2, x3] 4 v = [x0, x1, x2, x3, v] := rfl
theorem po_i4 (x0 x1 x2 : Value) (x : Int32) (q : List Value) : p_ok1 (x0 :: x1 :: x2 :: .int x :: q) 4 = True := eq_true rfl
theorem po_r4 (x0 x1 x2 : Value) (x : Nat) (q : List Value) : p_ok1 (x0 :: x1 :: x2 :: .ref x :: q) 4 = True := eq_true rfl
theorem po_n4 (x0 x1 x2 : Value) (q : List Value) : p_ok1 (x0 :: x1 :: x2 :: .null :: q) 4 = True := eq_true rfl
theorem po_u4 (x0 x1 x2 : Value) (q : List Value) : p_ok1 (x0 :: x1 :: x2 :: .retAddr 0 :: q) 4 = True := eq_true rfl
theorem pw_iinc_5 (x0 x1 x2 x3 x4 : Value) (x : Int32) (c : Int) (q : List Value): P_w d y Q ((.iinc 5 c, l, ex) :: r) kc ks (x0 :: x1 :: x2 :: x3 :: x4 :: .int x :: q) st h = (p_ok1 (x0 :: x1 :: x2 :: x3 :: x4 :: .int x :: q) 5 ∧ P_w d y Q r kc ks (x0 :: x1 :: x2 :: x3 :: x4 :: .int (x + Int32.ofInt c) :: q) st h) := rfl
theorem ps_5 (x0 x1 x2 x3 x4 x v : Value) (q : List Value) : p_set (x0 :: x1 :: x2 :: x3 :: x4 :: x :: q) 5 v = (x0 :: x1 :: x2 :: x3 :: x4 :: v :: q) := rfl
theorem pe_5 (x0 x1 x2 x3 x4 : Value) (v : Value) : p_set [x0, x1, x2, x3, x4] 5 v = [x0, x1, x2, x3, x4, v] := rfl
theorem po_i5 (x0 x1 x2 x3 : Value) (x : Int32) (q : List Value) : p_ok1 (x0 :: x1 :: x2 :: x3 :: .int x :: q) 5 = True := eq_true rfl
theorem po_r5 (x0 x1 x2 x3 : Value) (x : Nat) (q : List Value) : p_ok1 (x0 :: x1 :: x2 :: x3 :: .ref x :: q) 5 = True := eq_true rfl
theorem po_n5 (x0 x1 x2 x3 : Value) (q : List Value) : p_ok1 (x0 :: x1 :: x2 :: x3 :: .null :: q) 5 = True := eq_true rfl
theorem po_u5 (x0 x1 x2 x3 : Value) (q : List Value) : p_ok1 (x0 :: x1 :: x2 :: x3 :: .retAddr 0 :: q) 5 = True := eq_true rfl
theorem pw_iinc_6 (x0 x1 x2 x3 x4 x5 : Value) (x : Int32) (c : Int) (q : List Value): P_w d y Q ((.iinc 6 c, l, ex) :: r) kc ks (x0 :: x1 :: x2 :: x3 :: x4 :: x5 :: .int x :: q) st h = (p_ok1 (x0 :: x1 :: x2 :: x3 :: x4 :: x5 :: .int x :: q) 6 ∧ P_w d y Q r kc ks (x0 :: x1 :: x2 :: x3 :: x4 :: x5 :: .int (x + Int32.ofInt c) :: q) st h) := rfl
theorem ps_6 (x0 x1 x2 x3 x4 x5 x v : Value) (q : List Value) : p_set (x0 :: x1 :: x2 :: x3 :: x4 :: x5 :: x :: q) 6 v = (x0 :: x1 :: x2 :: x3 :: x4 :: x5 :: v :: q) := rfl
theorem pe_6 (x0 x1 x2 x3 x4 x5 : Value) (v : Value) : p_set [x0, x1, x2, x3, x4, x5] 6 v = [x0, x1, x2, x3, x4, x5, v] := rfl
theorem po_i6 (x0 x1 x2 x3 x4 : Value) (x : Int32) (q : List Value) : p_ok1 (x0 :: x1 :: x2 :: x3 :: x4 :: .int x :: q) 6 = True := eq_true rfl
theorem po_r6 (x0 x1 x2 x3 x4 : Value) (x : Nat) (q : List Value) : p_ok1 (x0 :: x1 :: x2 :: x3 :: x4 :: .ref x :: q) 6 = True := eq_true rfl
theorem po_n6 (x0 x1 x2 x3 x4 : Value) (q : List Value) : p_ok1 (x0 :: x1 :: x2 :: x3 :: x4 :: .null :: q) 6 = True := eq_true rfl
theorem po_u6 (x0 x1 x2 x3 x4 : Value) (q : List Value) : p_ok1 (x0 :: x1 :: x2 :: x3 :: x4 :: .retAddr 0 :: q) 6 = True := eq_true rfl
theorem pw_iinc_7 (x0 x1 x2 x3 x4 x5 x6 : Value) (x : Int32) (c : Int) (q : List Value): P_w d y Q ((.iinc 7 c, l, ex) :: r) kc ks (x0 :: x1 :: x2 :: x3 :: x4 :: x5 :: x6 :: .int x :: q) st h = (p_ok1 (x0 :: x1 :: x2 :: x3 :: x4 :: x5 :: x6 :: .int x :: q) 7 ∧ P_w d y Q r kc ks (x0 :: x1 :: x2 :: x3 :: x4 :: x5 :: x6 :: .int (x + Int32.ofInt c) :: q) st h) := rfl
theorem ps_7 (x0 x1 x2 x3 x4 x5 x6 x v : Value) (q : List Value) : p_set (x0 :: x1 :: x2 :: x3 :: x4 :: x5 :: x6 :: x :: q) 7 v = (x0 :: x1 :: x2 :: x3 :: x4 :: x5 :: x6 :: v :: q) := rfl
theorem pe_7 (x0 x1 x2 x3 x4 x5 x6 : Value) (v : Value) : p_set [x0, x1, x2, x3, x4, x5, x6] 7 v = [x0, x1, x2, x3, x4, x5, x6, v] := rfl
theorem po_i7 (x0 x1 x2 x3 x4 x5 : Value) (x : Int32) (q : List Value) : p_ok1 (x0 :: x1 :: x2 :: x3 :: x4 :: x5 :: .int x :: q) 7 = True := eq_true rfl
theorem po_r7 (x0 x1 x2 x3 x4 x5 : Value) (x : Nat) (q : List Value) : p_ok1 (x0 :: x1 :: x2 :: x3 :: x4 :: x5 :: .ref x :: q) 7 = True := eq_true rfl
theorem po_n7 (x0 x1 x2 x3 x4 x5 : Value) (q : List Value) : p_ok1 (x0 :: x1 :: x2 :: x3 :: x4 :: x5 :: .null :: q) 7 = True := eq_true rfl
theorem po_u7 (x0 x1 x2 x3 x4 x5 : Value) (q : List Value) : p_ok1 (x0 :: x1 :: x2 :: x3 :: x4 :: x5 :: .retAddr 0 :: q) 7 = True := eq_true rfl
theorem pw_iinc_8 (x0 x1 x2 x3 x4 x5 x6 x7 : Value) (x : Int32) (c : Int) (q : List Value): P_w d y Q ((.iinc 8 c, l, ex) :: r) kc ks (x0 :: x1 :: x2 :: x3 :: x4 :: x5 :: x6 :: x7 :: .int x :: q) st h = (p_ok1 (x0 :: x1 :: x2 :: x3 :: x4 :: x5 :: x6 :: x7 :: .int x :: q) 8 ∧ P_w d y Q r kc ks (x0 :: x1 :: x2 :: x3 :: x4 :: x5 :: x6 :: x7 :: .int (x + Int32.ofInt c) :: q) st h) := rfl
theorem ps_8 (x0 x1 x2 x3 x4 x5 x6 x7 x v : Value) (q : List Value) : p_set (x0 :: x1 :: x2 :: x3 :: x4 :: x5 :: x6 :: x7 :: x :: q) 8 v = (x0 :: x1 :: x2 :: x3 :: x4 :: x5 :: x6 :: x7 :: v :: q) := rfl
theorem pe_8 (x0 x1 x2 x3 x4 x5 x6 x7 : Value) (v : Value) : p_set [x0, x1, x2, x3, x4, x5, x6, x7] 8 v = [x0, x1, x2, x3, x4, x5, x6, x7, v] := rfl
theorem po_i8 (x0 x1 x2 x3 x4 x5 x6 : Value) (x : Int32) (q : List Value) : p_ok1 (x0 :: x1 :: x2 :: x3 :: x4 :: x5 :: x6 :: .int x :: q) 8 = True := eq_true rfl
theorem po_r8 (x0 x1 x2 x3 x4 x5 x6 : Value) (x : Nat) (q : List Value) : p_ok1 (x0 :: x1 :: x2 :: x3 :: x4 :: x5 :: x6 :: .ref x :: q) 8 = True := eq_true rfl
theorem po_n8 (x0 x1 x2 x3 x4 x5 x6 : Value) (q : List Value) : p_ok1 (x0 :: x1 :: x2 :: x3 :: x4 :: x5 :: x6 :: .null :: q) 8 = True := eq_true rfl
theorem po_u8 (x0 x1 x2 x3 x4 x5 x6 : Value) (q : List Value) : p_ok1 (x0 :: x1 :: x2 :: x3 :: x4 :: x5 :: x6 :: .retAddr 0 :: q) 8 = True := eq_true rfl
theorem pw_iinc_9 (x0 x1 x2 x3 x4 x5 x6 x7 x8 : Value) (x : Int32) (c : Int) (q : List Value): P_w d y Q ((.iinc 9 c, l, ex) :: r) kc ks (x0 :: x1 :: x2 :: x3 :: x4 :: x5 :: x6 :: x7 :: x8 :: .int x :: q) st h = (p_ok1 (x0 :: x1 :: x2 :: x3 :: x4 :: x5 :: x6 :: x7 :: x8 :: .int x :: q) 9 ∧ P_w d y Q r kc ks (x0 :: x1 :: x2 :: x3 :: x4 :: x5 :: x6 :: x7 :: x8 :: .int (x + Int32.ofInt c) :: q) st h) := rfl
theorem ps_9 (x0 x1 x2 x3 x4 x5 x6 x7 x8 x v : Value) (q : List Value) : p_set (x0 :: x1 :: x2 :: x3 :: x4 :: x5 :: x6 :: x7 :: x8 :: x :: q) 9 v = (x0 :: x1 :: x2 :: x3 :: x4 :: x5 :: x6 :: x7 :: x8 :: v :: q) := rfl
theorem pe_9 (x0 x1 x2 x3 x4 x5 x6 x7 x8 : Value) (v : Value) : p_set [x0, x1, x2, x3, x4, x5, x6, x7, x8] 9 v = [x0, x1, x2, x3, x4, x5, x6, x7, x8, v] := rfl
theorem po_i9 (x0 x1 x2 x3 x4 x5 x6 x7 : Value) (x : Int32) (q : List Value) : p_ok1 (x0 :: x1 :: x2 :: x3 :: x4 :: x5 :: x6 :: x7 :: .int x :: q) 9 = True := eq_true rfl
theorem po_r9 (x0 x1 x2 x3 x4 x5 x6 x7 : Value) (x : Nat) (q : List Value) : p_ok1 (x0 :: x1 :: x2 :: x3 :: x4 :: x5 :: x6 :: x7 :: .ref x :: q) 9 = True := eq_true rfl
theorem po_n9 (x0 x1 x2 x3 x4 x5 x6 x7 : Value) (q : List Value) : p_ok1 (x0 :: x1 :: x2 :: x3 :: x4 :: x5 :: x6 :: x7 :: .null :: q) 9 = True := eq_true rfl
theorem po_u9 (x0 x1 x2 x3 x4 x5 x6 x7 : Value) (q : List Value) : p_ok1 (x0 :: x1 :: x2 :: x3 :: x4 :: x5 :: x6 :: x7 :: .retAddr 0 :: q) 9 = True := eq_true rfl
theorem pw_iinc_10 (x0 x1 x2 x3 x4 x5 x6 x7 x8 x9 : Value) (x : Int32) (c : Int) (q : List Value): P_w d y Q ((.iinc 10 c, l, ex) :: r) kc ks (x0 :: x1 :: x2 :: x3 :: x4 :: x5 :: x6 :: x7 :: x8 :: x9 :: .int x :: q) st h = (p_ok1 (x0 :: x1 :: x2 :: x3 :: x4 :: x5 :: x6 :: x7 :: x8 :: x9 :: .int x :: q) 10 ∧ P_w d y Q r kc ks (x0 :: x1 :: x2 :: x3 :: x4 :: x5 :: x6 :: x7 :: x8 :: x9 :: .int (x + Int32.ofInt c) :: q) st h) := rfl
theorem ps_10 (x0 x1 x2 x3 x4 x5 x6 x7 x8 x9 x v : Value) (q : List Value) : p_set (x0 :: x1 :: x2 :: x3 :: x4 :: x5 :: x6 :: x7 :: x8 :: x9 :: x :: q) 10 v = (x0 :: x1 :: x2 :: x3 :: x4 :: x5 :: x6 :: x7 :: x8 :: x9 :: v :: q) := rfl
theorem pe_10 (x0 x1 x2 x3 x4 x5 x6 x7 x8 x9 : Value) (v : Value) : p_set [x0, x1, x2, x3, x4, x5, x6, x7, x8, x9] 10 v = [x0, x1, x2, x3, x4, x5, x6, x7, x8, x9, v] := rfl
theorem po_i10 (x0 x1 x2 x3 x4 x5 x6 x7 x8 : Value) (x : Int32) (q : List Value) : p_ok1 (x0 :: x1 :: x2 :: x3 :: x4 :: x5 :: x6 :: x7 :: x8 :: .int x :: q) 10 = True := eq_true rfl
theorem po_r10 (x0 x1 x2 x3 x4 x5 x6 x7 x8 : Value) (x : Nat) (q : List Value) : p_ok1 (x0 :: x1 :: x2 :: x3 :: x4 :: x5 :: x6 :: x7 :: x8 :: .ref x :: q) 10 = True := eq_true rfl
theorem po_n10 (x0 x1 x2 x3 x4 x5 x6 x7 x8 : Value) (q : List Value) : p_ok1 (x0 :: x1 :: x2 :: x3 :: x4 :: x5 :: x6 :: x7 :: x8 :: .null :: q) 10 = True := eq_true rfl
theorem po_u10 (x0 x1 x2 x3 x4 x5 x6 x7 x8 : Value) (q : List Value) : p_ok1 (x0 :: x1 :: x2 :: x3 :: x4 :: x5 :: x6 :: x7 :: x8 :: .retAddr 0 :: q) 10 = True := eq_true rfl
theorem pw_iinc_11 (x0 x1 x2 x3 x4 x5 x6 x7 x8 x9 x10 : Value) (x : Int32) (c : Int) (q : List Value): P_w d y Q ((.iinc 11 c, l, ex) :: r) kc ks (x0 :: x1 :: x2 :: x3 :: x4 :: x5 :: x6 :: x7 :: x8 :: x9 :: x10 :: .int x :: q) st h = (p_ok1 (x0 :: x1 :: x2 :: x3 :: x4 :: x5 :: x6 :: x7 :: x8 :: x9 :: x10 :: .int x :: q) 11 ∧ P_w d y Q r kc ks (x0 :: x1 :: x2 :: x3 :: x4 :: x5 :: x6 :: x7 :: x8 :: x9 :: x10 :: .int (x + Int32.ofInt c) :: q) st h) := rfl
theorem ps_11 (x0 x1 x2 x3 x4 x5 x6 x7 x8 x9 x10 x v : Value) (q : List Value) : p_set (x0 :: x1 :: x2 :: x3 :: x4 :: x5 :: x6 :: x7 :: x8 :: x9 :: x10 :: x :: q) 11 v = (x0 :: x1 :: x2 :: x3 :: x4 :: x5 :: x6 :: x7 :: x8 :: x9 :: x10 :: v :: q) := rfl
theorem pe_11 (x0 x1 x2 x3 x4 x5 x6 x7 x8 x9 x10 : Value) (v : Value) : p_set [x0, x1, x2, x3, x4, x5, x6, x7, x8, x9, x10] 11 v = [x0, x1, x2, x3, x4, x5, x6, x7, x8, x9, x10, v] := rfl
theorem po_i11 (x0 x1 x2 x3 x4 x5 x6 x7 x8 x9 : Value) (x : Int32) (q : List Value) : p_ok1 (x0 :: x1 :: x2 :: x3 :: x4 :: x5 :: x6 :: x7 :: x8 :: x9 :: .int x :: q) 11 = True := eq_true rfl
theorem po_r11 (x0 x1 x2 x3 x4 x5 x6 x7 x8 x9 : Value) (x : Nat) (q : List Value) : p_ok1 (x0 :: x1 :: x2 :: x3 :: x4 :: x5 :: x6 :: x7 :: x8 :: x9 :: .ref x :: q) 11 = True := eq_true rfl
theorem po_n11 (x0 x1 x2 x3 x4 x5 x6 x7 x8 x9 : Value) (q : List Value) : p_ok1 (x0 :: x1 :: x2 :: x3 :: x4 :: x5 :: x6 :: x7 :: x8 :: x9 :: .null :: q) 11 = True := eq_true rfl
theorem po_u11 (x0 x1 x2 x3 x4 x5 x6 x7 x8 x9 : Value) (q : List Value) : p_ok1 (x0 :: x1 :: x2 :: x3 :: x4 :: x5 :: x6 :: x7 :: x8 :: x9 :: .retAddr 0 :: q) 11 = True := eq_true rfl
theorem pw_iinc_12 (x0 x1 x2 x3 x4 x5 x6 x7 x8 x9 x10 x11 : Value) (x : Int32) (c : Int) (q : List Value): P_w d y Q ((.iinc 12 c, l, ex) :: r) kc ks (x0 :: x1 :: x2 :: x3 :: x4 :: x5 :: x6 :: x7 :: x8 :: x9 :: x10 :: x11 :: .int x :: q) st h = (p_ok1 (x0 :: x1 :: x2 :: x3 :: x4 :: x5 :: x6 :: x7 :: x8 :: x9 :: x10 :: x11 :: .int x :: q) 12 ∧ P_w d y Q r kc ks (x0 :: x1 :: x2 :: x3 :: x4 :: x5 :: x6 :: x7 :: x8 :: x9 :: x10 :: x11 :: .int (x + Int32.ofInt c) :: q) st h) := rfl
theorem ps_12 (x0 x1 x2 x3 x4 x5 x6 x7 x8 x9 x10 x11 x v : Value) (q : List Value) : p_set (x0 :: x1 :: x2 :: x3 :: x4 :: x5 :: x6 :: x7 :: x8 :: x9 :: x10 :: x11 :: x :: q) 12 v = (x0 :: x1 :: x2 :: x3 :: x4 :: x5 :: x6 :: x7 :: x8 :: x9 :: x10 :: x11 :: v :: q) := rfl
theorem pe_12 (x0 x1 x2 x3 x4 x5 x6 x7 x8 x9 x10 x11 : Value) (v : Value) : p_set [x0, x1, x2, x3, x4, x5, x6, x7, x8, x9, x10, x11] 12 v = [x0, x1, x2, x3, x4, x5, x6, x7, x8, x9, x10, x11, v] := rfl
theorem po_i12 (x0 x1 x2 x3 x4 x5 x6 x7 x8 x9 x10 : Value) (x : Int32) (q : List Value) : p_ok1 (x0 :: x1 :: x2 :: x3 :: x4 :: x5 :: x6 :: x7 :: x8 :: x9 :: x10 :: .int x :: q) 12 = True := eq_true rfl
theorem po_r12 (x0 x1 x2 x3 x4 x5 x6 x7 x8 x9 x10 : Value) (x : Nat) (q : List Value) : p_ok1 (x0 :: x1 :: x2 :: x3 :: x4 :: x5 :: x6 :: x7 :: x8 :: x9 :: x10 :: .ref x :: q) 12 = True := eq_true rfl
theorem po_n12 (x0 x1 x2 x3 x4 x5 x6 x7 x8 x9 x10 : Value) (q : List Value) : p_ok1 (x0 :: x1 :: x2 :: x3 :: x4 :: x5 :: x6 :: x7 :: x8 :: x9 :: x10 :: .null :: q) 12 = True := eq_true rfl
theorem po_u12 (x0 x1 x2 x3 x4 x5 x6 x7 x8 x9 x10 : Value) (q : List Value) : p_ok1 (x0 :: x1 :: x2 :: x3 :: x4 :: x5 :: x6 :: x7 :: x8 :: x9 :: x10 :: .retAddr 0 :: q) 12 = True := eq_true rfl
theorem po_0 (q : List Value) : p_ok1 q 0 = True := rfl
theorem pw_iadd (x1 y1 : Int32) : P_w d y Q ((.iadd, l, ex) :: r) kc ks ls (.int y1 :: .int x1 :: st) h = P_w d y Q r kc ks ls (.int (x1 + y1) :: st) h := rfl
theorem pw_isub (x1 y1 : Int32) : P_w d y Q ((.isub, l, ex) :: r) kc ks ls (.int y1 :: .int x1 :: st) h = P_w d y Q r kc ks ls (.int (x1 - y1) :: st) h := rfl
theorem pw_imul (x1 y1 : Int32) : P_w d y Q ((.imul, l, ex) :: r) kc ks ls (.int y1 :: .int x1 :: st) h = P_w d y Q r kc ks ls (.int (x1 * y1) :: st) h := rfl
theorem pw_iand (x1 y1 : Int32) : P_w d y Q ((.iand, l, ex) :: r) kc ks ls (.int y1 :: .int x1 :: st) h = P_w d y Q r kc ks ls (.int (x1 &&& y1) :: st) h := rfl
theorem pw_ior (x1 y1 : Int32) : P_w d y Q ((.ior, l, ex) :: r) kc ks ls (.int y1 :: .int x1 :: st) h = P_w d y Q r kc ks ls (.int (x1 ||| y1) :: st) h := rfl
theorem pw_ixor (x1 y1 : Int32) : P_w d y Q ((.ixor, l, ex) :: r) kc ks ls (.int y1 :: .int x1 :: st) h = P_w d y Q r kc ks ls (.int (x1 ^^^ y1) :: st) h := rfl
theorem pw_ishl (x1 y1 : Int32) : P_w d y Q ((.ishl, l, ex) :: r) kc ks ls (.int y1 :: .int x1 :: st) h = P_w d y Q r kc ks ls (.int (x1 <<< (y1 &&& 31)) :: st) h := rfl
theorem pw_ishr (x1 y1 : Int32) : P_w d y Q ((.ishr, l, ex) :: r) kc ks ls (.int y1 :: .int x1 :: st) h = P_w d y Q r kc ks ls (.int (x1 >>> (y1 &&& 31)) :: st) h := rfl
theorem pw_iushr (x1 y1 : Int32) : P_w d y Q ((.iushr, l, ex) :: r) kc ks ls (.int y1 :: .int x1 :: st) h = P_w d y Q r kc ks ls (.int ((x1.toUInt32 >>> (y1.toUInt32 &&& Int32.toUInt32 31)).toInt32) :: st) h := rfl
theorem pw_idiv (x1 y1 : Int32) : P_w d y Q ((.idiv, l, ex) :: r) kc ks ls (.int y1 :: .int x1 :: st) h = ((¬ y1 = 0) ∧ P_w d y Q r kc ks ls (.int (x1 / y1) :: st) h) := rfl
theorem pw_irem (x1 y1 : Int32) : P_w d y Q ((.irem, l, ex) :: r) kc ks ls (.int y1 :: .int x1 :: st) h = ((¬ y1 = 0) ∧ P_w d y Q r kc ks ls (.int (x1 - x1 / y1 * y1) :: st) h) := rfl
theorem pw_ladd (x1 y1 : Int64) : P_w d y Q ((.ladd, l, ex) :: r) kc ks ls (.long y1 :: .long x1 :: st) h = P_w d y Q r kc ks ls (.long (x1 + y1) :: st) h := rfl
theorem pw_lsub (x1 y1 : Int64) : P_w d y Q ((.lsub, l, ex) :: r) kc ks ls (.long y1 :: .long x1 :: st) h = P_w d y Q r kc ks ls (.long (x1 - y1) :: st) h := rfl
theorem pw_lmul (x1 y1 : Int64) : P_w d y Q ((.lmul, l, ex) :: r) kc ks ls (.long y1 :: .long x1 :: st) h = P_w d y Q r kc ks ls (.long (x1 * y1) :: st) h := rfl
theorem pw_land (x1 y1 : Int64) : P_w d y Q ((.land, l, ex) :: r) kc ks ls (.long y1 :: .long x1 :: st) h = P_w d y Q r kc ks ls (.long (x1 &&& y1) :: st) h := rfl
theorem pw_lor (x1 y1 : Int64) : P_w d y Q ((.lor, l, ex) :: r) kc ks ls (.long y1 :: .long x1 :: st) h = P_w d y Q r kc ks ls (.long (x1 ||| y1) :: st) h := rfl
theorem pw_ldiv (x1 y1 : Int64) : P_w d y Q ((.ldiv, l, ex) :: r) kc ks ls (.long y1 :: .long x1 :: st) h = ((¬ y1 = 0) ∧ P_w d y Q r kc ks ls (.long (x1 / y1) :: st) h) := rfl
theorem pw_lrem (x1 y1 : Int64) : P_w d y Q ((.lrem, l, ex) :: r) kc ks ls (.long y1 :: .long x1 :: st) h = ((¬ y1 = 0) ∧ P_w d y Q r kc ks ls (.long (x1 - x1 / y1 * y1) :: st) h) := rfl
theorem pw_lshl (x1 : Int64) (y1 : Int32) : P_w d y Q ((.lshl, l, ex) :: r) kc ks ls (.int y1 :: .long x1 :: st) h = P_w d y Q r kc ks ls (.long (x1 <<< (y1.toInt64 &&& 63)) :: st) h := rfl
theorem pw_lcmp (x1 y1 : Int64) : P_w d y Q ((.lcmp, l, ex) :: r) kc ks ls (.long y1 :: .long x1 :: st) h = P_w d y Q r kc ks ls (.int (lg_cmp x1 y1) :: st) h := rfl
theorem pw_ineg (x1 : Int32) : P_w d y Q ((.ineg, l, ex) :: r) kc ks ls (.int x1 :: st) h = P_w d y Q r kc ks ls (.int (-x1) :: st) h := rfl
theorem pw_i2b (x1 : Int32) : P_w d y Q ((.i2b, l, ex) :: r) kc ks ls (.int x1 :: st) h = P_w d y Q r kc ks ls (.int (x1.toInt8.toInt32) :: st) h := rfl
theorem pw_i2c (x1 : Int32) : P_w d y Q ((.i2c, l, ex) :: r) kc ks ls (.int x1 :: st) h = P_w d y Q r kc ks ls (.int ((x1.toUInt32 % 65536).toInt32) :: st) h := rfl
theorem pw_i2l (x1 : Int32) : P_w d y Q ((.i2l, l, ex) :: r) kc ks ls (.int x1 :: st) h = P_w d y Q r kc ks ls (.long x1.toInt64 :: st) h := rfl
theorem pw_l2i (x1 : Int64) : P_w d y Q ((.l2i, l, ex) :: r) kc ks ls (.long x1 :: st) h = P_w d y Q r kc ks ls (.int x1.toInt32 :: st) h := rfl
theorem pw_dupi (x1 : Int32) : P_w d y Q ((.dup, l, ex) :: r) kc ks ls (.int x1 :: st) h = P_w d y Q r kc ks ls (.int x1 :: .int x1 :: st) h := rfl
theorem pw_dupr (x1 : Nat) : P_w d y Q ((.dup, l, ex) :: r) kc ks ls (.ref x1 :: st) h = P_w d y Q r kc ks ls (.ref x1 :: .ref x1 :: st) h := rfl
theorem pw_dup2r (x1 : Nat) (y1 : Int32) : P_w d y Q ((.dup2, l, ex) :: r) kc ks ls (.int y1 :: .ref x1 :: st) h = P_w d y Q r kc ks ls (.int y1 :: .ref x1 :: .int y1 :: .ref x1 :: st) h := rfl
theorem pw_popi (x1 : Int32) : P_w d y Q ((.pop, l, ex) :: r) kc ks ls (.int x1 :: st) h = P_w d y Q r kc ks ls st h := rfl
theorem pw_popr (x1 : Nat) : P_w d y Q ((.pop, l, ex) :: r) kc ks ls (.ref x1 :: st) h = P_w d y Q r kc ks ls st h := rfl
theorem pw_getI (j e c f a : Nat) : P_w d y Q ((.getfield j, l, [e, 0, c, f]) :: r) kc ks ls (.ref a :: st) h = (p_kd h a = (0, c) ∧ P_w d y Q r kc ks ls (.int (p_I h a f) :: st) h) := rfl
theorem pw_getR (j e c f a : Nat) : P_w d y Q ((.getfield j, l, [e, 2, c, f]) :: r) kc ks ls (.ref a :: st) h = (p_kd h a = (0, c) ∧ P_w d y Q r kc ks ls (va_rf (p_R h a f) :: st) h) := rfl
theorem pw_getL (j e c f a : Nat) : P_w d y Q ((.getfield j, l, [e, 1, c, f]) :: r) kc ks ls (.ref a :: st) h = (p_kd h a = (0, c) ∧ 32 ≤ a ∧ P_w d y Q r kc ks ls (.long (p_L h a f) :: st) h) := rfl
theorem pw_putI (j e c f g a : Nat) (x : Int32) : P_w d y Q ((.putfield j, l, [e, 0, c, f, g]) :: r) kc ks ls (.int x :: .ref a :: st) h = (p_kd h a = (0, c) ∧ 32 ≤ a ∧ P_w d y Q r kc ks ls st (p_wI h a f x)) := rfl
theorem pw_putZ (j e c f g a : Nat) (x : Int32) : P_w d y Q ((.putfield j, l, [e, 3, c, f, g]) :: r) kc ks ls (.int x :: .ref a :: st) h = (p_kd h a = (0, c) ∧ 32 ≤ a ∧ (x = 0 ∨ x = 1) ∧ P_w d y Q r kc ks ls st (p_wI h a f x)) := rfl
theorem pw_putL (j e c f g a : Nat) (x : Int64) : P_w d y Q ((.putfield j, l, [e, 1, c, f, g]) :: r) kc ks ls (.long x :: .ref a :: st) h = (p_kd h a = (0, c) ∧ 32 ≤ a ∧ P_w d y Q r kc ks ls st (p_wL h a f x)) := rfl
theorem pw_putR (j e c f g a b : Nat) : P_w d y Q ((.putfield j, l, [e, 2, c, f, g]) :: r) kc ks ls (.ref b :: .ref a :: st) h = (p_kd h a = (0, c) ∧ 32 ≤ a ∧ P_w d y Q r kc ks ls st (p_wR h a f (some b))) := rfl
theorem pw_putN (j e c f g a : Nat) : P_w d y Q ((.putfield j, l, [e, 2, c, f, g]) :: r) kc ks ls (.null :: .ref a :: st) h = (p_kd h a = (0, c) ∧ 32 ≤ a ∧ P_w d y Q r kc ks ls st (p_wR h a f none)) := rfl
theorem pw_getsI (j e a f : Nat) : P_w d y Q ((.getstatic j, l, [e, 0, a, f]) :: r) kc ks ls st h = P_w d y Q r kc ks ls (.int (p_I h a f) :: st) h := rfl
theorem pw_getsR (j e a f : Nat) : P_w d y Q ((.getstatic j, l, [e, 2, a, f]) :: r) kc ks ls st h = P_w d y Q r kc ks ls (va_rf (p_R h a f) :: st) h := rfl
theorem pw_alen (a : Nat) : P_w d y Q ((.arraylength, l, ex) :: r) kc ks ls (.ref a :: st) h = ((1 ≤ (p_kd h a).1 ∧ (p_kd h a).1 ≤ 6) ∧ P_w d y Q r kc ks ls (.int (Int32.ofNat (p_kd h a).2) :: st) h) := rfl
theorem pw_iald (a : Nat) (i : Int32) : P_w d y Q ((.iaload, l, ex) :: r) kc ks ls (.int i :: .ref a :: st) h = ((p_kd h a).1 = 1 ∧ vp_in i (p_kd h a).2 ∧ P_w d y Q r kc ks ls (.int (p_I h a i.toNatClampNeg) :: st) h) := rfl
theorem pw_bald (a : Nat) (i : Int32) : P_w d y Q ((.baload, l, ex) :: r) kc ks ls (.int i :: .ref a :: st) h = (((p_kd h a).1 = 2 ∨ (p_kd h a).1 = 3) ∧ vp_in i (p_kd h a).2 ∧ P_w d y Q r kc ks ls (.int (p_I h a i.toNatClampNeg) :: st) h) := rfl
theorem pw_lald (a : Nat) (i : Int32) : P_w d y Q ((.laload, l, ex) :: r) kc ks ls (.int i :: .ref a :: st) h = ((p_kd h a).1 = 4 ∧ 32 ≤ a ∧ vp_in i (p_kd h a).2 ∧ P_w d y Q r kc ks ls (.long (p_L h a i.toNatClampNeg) :: st) h) := rfl
theorem pw_aald (a : Nat) (i : Int32) : P_w d y Q ((.aaload, l, ex) :: r) kc ks ls (.int i :: .ref a :: st) h = (((p_kd h a).1 = 5 ∨ (p_kd h a).1 = 6) ∧ 32 ≤ a ∧ vp_in i (p_kd h a).2 ∧ P_w d y Q r kc ks ls (va_rf (p_R h a i.toNatClampNeg) :: st) h) := rfl
theorem pw_iast (a : Nat) (i x : Int32) : P_w d y Q ((.iastore, l, ex) :: r) kc ks ls (.int x :: .int i :: .ref a :: st) h = ((p_kd h a).1 = 1 ∧ 32 ≤ a ∧ vp_in i (p_kd h a).2 ∧ P_w d y Q r kc ks ls st (p_wI h a i.toNatClampNeg x)) := rfl
theorem pw_bast (a : Nat) (i x : Int32) : P_w d y Q ((.bastore, l, ex) :: r) kc ks ls (.int x :: .int i :: .ref a :: st) h = (((p_kd h a).1 = 2 ∨ (p_kd h a).1 = 3) ∧ 32 ≤ a ∧ vp_in i (p_kd h a).2 ∧ P_w d y Q r kc ks ls st (p_wI h a i.toNatClampNeg (p_nv (p_kd h a).1 x))) := rfl
theorem pw_last (a : Nat) (i : Int32) (x : Int64) : P_w d y Q ((.lastore, l, ex) :: r) kc ks ls (.long x :: .int i :: .ref a :: st) h = ((p_kd h a).1 = 4 ∧ 32 ≤ a ∧ vp_in i (p_kd h a).2 ∧ P_w d y Q r kc ks ls st (p_wL h a i.toNatClampNeg x)) := rfl
theorem pw_aast (a b : Nat) (i : Int32) : P_w d y Q ((.aastore, l, ex) :: r) kc ks ls (.ref b :: .int i :: .ref a :: st) h = ((((p_kd h a).1 = 5 ∧ p_kd h b = (0, 7)) ∨ ((p_kd h a).1 = 6 ∧ p_kd h b = (0, 1))) ∧ 32 ≤ a ∧ 32 ≤ b ∧ vp_in i (p_kd h a).2 ∧ P_w d y Q r kc ks ls st (p_wR h a i.toNatClampNeg (some b))) := rfl
theorem pw_aastN (a : Nat) (i : Int32) : P_w d y Q ((.aastore, l, ex) :: r) kc ks ls (.null :: .int i :: .ref a :: st) h = (((p_kd h a).1 = 5 ∨ (p_kd h a).1 = 6) ∧ 32 ≤ a ∧ vp_in i (p_kd h a).2 ∧ P_w d y Q r kc ks ls st (p_wR h a i.toNatClampNeg none)) := rfl
theorem pw_obj (j e n c a : Nat) : P_w d y Q ((.invokespecial j, l, [e, 9999, n, c]) :: r) kc ks ls (.ref a :: st) h = ((st.map fun v => v.category).sum ≤ 8 ∧ P_w d y Q r kc ks ls st h) := rfl
theorem pw_copy (j e n0 c a b : Nat) (n dp sp : Int32) : P_w d y Q ((.invokestatic j, l, [e, 9998, n0, c]) :: r) kc ks ls (.int n :: .int dp :: .ref b :: .int sp :: .ref a :: st) h = ((p_kd h a).1 = 1 ∧ (p_kd h b).1 = 1 ∧ 32 ≤ a ∧ 32 ≤ b ∧ ¬ sp < 0 ∧ ¬ dp < 0 ∧ ¬ n < 0 ∧ sp.toNatClampNeg + n.toNatClampNeg ≤ (p_kd h a).2 ∧ dp.toNatClampNeg + n.toNatClampNeg ≤ (p_kd h b).2 ∧ (st.map fun v => v.category).sum ≤ 8 ∧ P_w d y Q r kc ks ls st (p_fn h.1 b (va_cpy (h.1 a) (h.1 b) sp.toNatClampNeg dp.toNatClampNeg n.toNatClampNeg), h.2)) := rfl
theorem pw_max (j e n0 c : Nat) (x1 y1 : Int32) : P_w d y Q ((.invokestatic j, l, [e, 9997, n0, c]) :: r) kc ks ls (.int y1 :: .int x1 :: st) h = ((st.map fun v => v.category).sum ≤ 8 ∧ P_w d y Q r kc ks ls (.int (if x1 < y1 then y1 else x1) :: st) h) := rfl
theorem pw_min (j e n0 c : Nat) (x1 y1 : Int32) : P_w d y Q ((.invokestatic j, l, [e, 9996, n0, c]) :: r) kc ks ls (.int y1 :: .int x1 :: st) h = ((st.map fun v => v.category).sum ≤ 8 ∧ P_w d y Q r kc ks ls (.int (if y1 < x1 then y1 else x1) :: st) h) := rfl
theorem pw_new (j e c n : Nat) : P_w d y Q ((.new j, l, [e, c, n]) :: r) (kc + 1) ks ls st h = (n ≤ ks ∧ P_w d y Q r kc (ks - n) ls (.ref h.2.2.2.length :: st) (p_new h (0, c))) := rfl
theorem pw_newa (at_ : ArrayType) (t : Nat) (n : Int32) : P_w d y Q ((.newarray at_, l, [t]) :: r) (kc + 1) ks ls (.int n :: st) h = (¬ n < 0 ∧ n.toNatClampNeg ≤ 65536 ∧ n.toNatClampNeg ≤ ks ∧ P_w d y Q r kc (ks - n.toNatClampNeg) ls (.ref h.2.2.2.length :: st) (p_new h (t, n.toNatClampNeg))) := rfl
theorem pw_newq (j e t : Nat) (n : Int32) : P_w d y Q ((.anewarray j, l, [e, t]) :: r) (kc + 1) ks ls (.int n :: st) h = (¬ n < 0 ∧ n.toNatClampNeg ≤ 65536 ∧ n.toNatClampNeg ≤ ks ∧ P_w d y Q r kc (ks - n.toNatClampNeg) ls (.ref h.2.2.2.length :: st) (p_new h (t, n.toNatClampNeg))) := rfl
theorem pw_nop (b : Nat) : P_w d y Q ((.nop, l, [b]) :: r) kc ks ls st h = P_run d y (p_bk y b) kc ks ls st h Q := rfl
theorem pw_goto (o : Int) (b : Nat) : P_w d y Q ((.goto o, l, [b]) :: r) kc ks ls st h = P_run d y (p_bk y b) kc ks ls st h Q := rfl
theorem pw_ceq (o : Int) (b : Nat) (x1 y1 : Int32) : P_w d y Q ((.if_icmp .eq o, l, [b]) :: r) kc ks ls (.int y1 :: .int x1 :: st) h = ((x1 = y1 → P_run d y (p_bk y b) kc ks ls st h Q) ∧ (¬ x1 = y1 → P_w d y Q r kc ks ls st h)) := rfl
theorem pw_zeq (o : Int) (b : Nat) (x1 : Int32) : P_w d y Q ((.ifCond .eq o, l, [b]) :: r) kc ks ls (.int x1 :: st) h = ((x1 = 0 → P_run d y (p_bk y b) kc ks ls st h Q) ∧ (¬ x1 = 0 → P_w d y Q r kc ks ls st h)) := rfl
theorem pw_cne (o : Int) (b : Nat) (x1 y1 : Int32) : P_w d y Q ((.if_icmp .ne o, l, [b]) :: r) kc ks ls (.int y1 :: .int x1 :: st) h = ((¬ x1 = y1 → P_run d y (p_bk y b) kc ks ls st h Q) ∧ (x1 = y1 → P_w d y Q r kc ks ls st h)) := rfl
theorem pw_zne (o : Int) (b : Nat) (x1 : Int32) : P_w d y Q ((.ifCond .ne o, l, [b]) :: r) kc ks ls (.int x1 :: st) h = ((¬ x1 = 0 → P_run d y (p_bk y b) kc ks ls st h Q) ∧ (x1 = 0 → P_w d y Q r kc ks ls st h)) := rfl
theorem pw_clt (o : Int) (b : Nat) (x1 y1 : Int32) : P_w d y Q ((.if_icmp .lt o, l, [b]) :: r) kc ks ls (.int y1 :: .int x1 :: st) h = ((x1 < y1 → P_run d y (p_bk y b) kc ks ls st h Q) ∧ (¬ x1 < y1 → P_w d y Q r kc ks ls st h)) := rfl
theorem pw_zlt (o : Int) (b : Nat) (x1 : Int32) : P_w d y Q ((.ifCond .lt o, l, [b]) :: r) kc ks ls (.int x1 :: st) h = ((x1 < 0 → P_run d y (p_bk y b) kc ks ls st h Q) ∧ (¬ x1 < 0 → P_w d y Q r kc ks ls st h)) := rfl
theorem pw_cge (o : Int) (b : Nat) (x1 y1 : Int32) : P_w d y Q ((.if_icmp .ge o, l, [b]) :: r) kc ks ls (.int y1 :: .int x1 :: st) h = ((y1 ≤ x1 → P_run d y (p_bk y b) kc ks ls st h Q) ∧ (¬ y1 ≤ x1 → P_w d y Q r kc ks ls st h)) := rfl
theorem pw_zge (o : Int) (b : Nat) (x1 : Int32) : P_w d y Q ((.ifCond .ge o, l, [b]) :: r) kc ks ls (.int x1 :: st) h = ((0 ≤ x1 → P_run d y (p_bk y b) kc ks ls st h Q) ∧ (¬ 0 ≤ x1 → P_w d y Q r kc ks ls st h)) := rfl
theorem pw_cgt (o : Int) (b : Nat) (x1 y1 : Int32) : P_w d y Q ((.if_icmp .gt o, l, [b]) :: r) kc ks ls (.int y1 :: .int x1 :: st) h = ((y1 < x1 → P_run d y (p_bk y b) kc ks ls st h Q) ∧ (¬ y1 < x1 → P_w d y Q r kc ks ls st h)) := rfl
theorem pw_zgt (o : Int) (b : Nat) (x1 : Int32) : P_w d y Q ((.ifCond .gt o, l, [b]) :: r) kc ks ls (.int x1 :: st) h = ((0 < x1 → P_run d y (p_bk y b) kc ks ls st h Q) ∧ (¬ 0 < x1 → P_w d y Q r kc ks ls st h)) := rfl
theorem pw_cle (o : Int) (b : Nat) (x1 y1 : Int32) : P_w d y Q ((.if_icmp .le o, l, [b]) :: r) kc ks ls (.int y1 :: .int x1 :: st) h = ((x1 ≤ y1 → P_run d y (p_bk y b) kc ks ls st h Q) ∧ (¬ x1 ≤ y1 → P_w d y Q r kc ks ls st h)) := rfl
theorem pw_zle (o : Int) (b : Nat) (x1 : Int32) : P_w d y Q ((.ifCond .le o, l, [b]) :: r) kc ks ls (.int x1 :: st) h = ((x1 ≤ 0 → P_run d y (p_bk y b) kc ks ls st h Q) ∧ (¬ x1 ≤ 0 → P_w d y Q r kc ks ls st h)) := rfl
theorem pw_nn (o : Int) (b a : Nat) : P_w d y Q ((.ifnonnull o, l, [b]) :: r) kc ks ls (.ref a :: st) h = P_run d y (p_bk y b) kc ks ls st h Q := rfl
theorem pw_nnN (o : Int) (b : Nat) : P_w d y Q ((.ifnonnull o, l, [b]) :: r) kc ks ls (.null :: st) h = P_w d y Q r kc ks ls st h := rfl
theorem pw_sw (o lo hi : Int) (os : Array Int) (b : Nat) (bs : List Nat) (x : Int32) : P_w d y Q ((.tableswitch o lo hi os, l, b :: bs) :: r) kc ks ls (.int x :: st) h = ((x.toInt < lo ∨ hi < x.toInt → P_run d y (p_bk y b) kc ks ls st h Q) ∧ p_sw x (fun b => P_run d y (p_bk y b) kc ks ls st h Q) lo bs) := rfl
theorem pw_ret0 (x : Int32) : P_w d y Q ((.ireturn, l, [0]) :: r) kc ks ls [.int x] h = (kc = 0 ∧ ks = 0 ∧ Q (some (.int x)) h) := rfl
theorem pw_ret1 (x : Int32) : P_w d y Q ((.ireturn, l, [1]) :: r) kc ks ls [.int x] h = ((x = 0 ∨ x = 1) ∧ kc = 0 ∧ ks = 0 ∧ Q (some (.int x)) h) := rfl
theorem pw_ret2 (x : Int32) : P_w d y Q ((.ireturn, l, [2]) :: r) kc ks ls [.int x] h = (narrow .char (.int x) = .int x ∧ kc = 0 ∧ ks = 0 ∧ Q (some (.int x)) h) := rfl
theorem pw_ret3 (x : Int32) : P_w d y Q ((.ireturn, l, [3]) :: r) kc ks ls [.int x] h = (narrow .byte (.int x) = .int x ∧ kc = 0 ∧ ks = 0 ∧ Q (some (.int x)) h) := rfl
theorem pw_lret (x : Int64) : P_w d y Q ((.lreturn, l, ex) :: r) kc ks ls [.long x] h = (kc = 0 ∧ ks = 0 ∧ Q (some (.long x)) h) := rfl
theorem pw_aret (x : Nat) : P_w d y Q ((.areturn, l, ex) :: r) kc ks ls [.ref x] h = (kc = 0 ∧ ks = 0 ∧ Q (some (.ref x)) h) := rfl
theorem pw_aretN : P_w d y Q ((.areturn, l, ex) :: r) kc ks ls [.null] h = (kc = 0 ∧ ks = 0 ∧ Q (some .null) h) := rfl
theorem pw_vret : P_w d y Q ((.return_, l, ex) :: r) kc ks ls [] h = (kc = 0 ∧ ks = 0 ∧ Q none h) := rfl
theorem pw_iv1 (j e z c a : Nat) : P_w (d + 1) y Q ((.invokevirtual j, l, [e, z, 1, c]) :: r) kc ks ls (.ref a :: st) h = (p_kd h a = (0, c) ∧ (st.map fun v => v.category).sum ≤ 8 ∧ P_call d y z [.ref a] r kc ks ls st h Q) := rfl
theorem pw_ip1 (j e z c a : Nat) (hz : ¬ z = 9999) : P_w (d + 1) y Q ((.invokespecial j, l, [e, z, 1, c]) :: r) kc ks ls (.ref a :: st) h = ((st.map fun v => v.category).sum ≤ 8 ∧ P_call d y z [.ref a] r kc ks ls st h Q) := by
  unfold P_w p_stp p_blk; simp only [p_pop]; rfl
theorem pw_iv2 (j e z c a : Nat) (v1 : Value) : P_w (d + 1) y Q ((.invokevirtual j, l, [e, z, 2, c]) :: r) kc ks ls (v1 :: .ref a :: st) h = (p_kd h a = (0, c) ∧ (st.map fun v => v.category).sum ≤ 8 ∧ P_call d y z (.ref a :: [v1]) r kc ks ls st h Q) := rfl
theorem pw_ip2 (j e z c a : Nat) (v1 : Value) (hz : ¬ z = 9999) : P_w (d + 1) y Q ((.invokespecial j, l, [e, z, 2, c]) :: r) kc ks ls (v1 :: .ref a :: st) h = ((st.map fun v => v.category).sum ≤ 8 ∧ P_call d y z (.ref a :: [v1]) r kc ks ls st h Q) := by
  unfold P_w p_stp p_blk; simp only [p_pop]; rfl
theorem pw_iv3 (j e z c a : Nat) (v1 v2 : Value) : P_w (d + 1) y Q ((.invokevirtual j, l, [e, z, 3, c]) :: r) kc ks ls (v2 :: v1 :: .ref a :: st) h = (p_kd h a = (0, c) ∧ (st.map fun v => v.category).sum ≤ 8 ∧ P_call d y z (.ref a :: [v1, v2]) r kc ks ls st h Q) := rfl
theorem pw_ip3 (j e z c a : Nat) (v1 v2 : Value) (hz : ¬ z = 9999) : P_w (d + 1) y Q ((.invokespecial j, l, [e, z, 3, c]) :: r) kc ks ls (v2 :: v1 :: .ref a :: st) h = ((st.map fun v => v.category).sum ≤ 8 ∧ P_call d y z (.ref a :: [v1, v2]) r kc ks ls st h Q) := by
  unfold P_w p_stp p_blk; simp only [p_pop]; rfl
theorem pw_iv4 (j e z c a : Nat) (v1 v2 v3 : Value) : P_w (d + 1) y Q ((.invokevirtual j, l, [e, z, 4, c]) :: r) kc ks ls (v3 :: v2 :: v1 :: .ref a :: st) h = (p_kd h a = (0, c) ∧ (st.map fun v => v.category).sum ≤ 8 ∧ P_call d y z (.ref a :: [v1, v2, v3]) r kc ks ls st h Q) := rfl
theorem pw_iv5 (j e z c a : Nat) (v1 v2 v3 v4 : Value) : P_w (d + 1) y Q ((.invokevirtual j, l, [e, z, 5, c]) :: r) kc ks ls (v4 :: v3 :: v2 :: v1 :: .ref a :: st) h = (p_kd h a = (0, c) ∧ (st.map fun v => v.category).sum ≤ 8 ∧ P_call d y z (.ref a :: [v1, v2, v3, v4]) r kc ks ls st h Q) := rfl
theorem pw_iv6 (j e z c a : Nat) (v1 v2 v3 v4 v5 : Value) : P_w (d + 1) y Q ((.invokevirtual j, l, [e, z, 6, c]) :: r) kc ks ls (v5 :: v4 :: v3 :: v2 :: v1 :: .ref a :: st) h = (p_kd h a = (0, c) ∧ (st.map fun v => v.category).sum ≤ 8 ∧ P_call d y z (.ref a :: [v1, v2, v3, v4, v5]) r kc ks ls st h Q) := rfl
theorem pw_is1 (j e z c : Nat) (v1 : Value) (hz : ¬ z = 9998) (hz1 : ¬ z = 9997) (hz2 : ¬ z = 9996) : P_w (d + 1) y Q ((.invokestatic j, l, [e, z, 1, c]) :: r) kc ks ls (v1 :: st) h = ((st.map fun v => v.category).sum ≤ 8 ∧ P_call d y z [v1] r kc ks ls st h Q) := by
  unfold P_w p_stp p_blk; simp only [p_pop]; rfl
theorem pw_is2 (j e z c : Nat) (v1 v2 : Value) (hz : ¬ z = 9998) (hz1 : ¬ z = 9997) (hz2 : ¬ z = 9996) : P_w (d + 1) y Q ((.invokestatic j, l, [e, z, 2, c]) :: r) kc ks ls (v2 :: v1 :: st) h = ((st.map fun v => v.category).sum ≤ 8 ∧ P_call d y z [v1, v2] r kc ks ls st h Q) := by
  unfold P_w p_stp p_blk; simp only [p_pop]; rfl
theorem pw_is3 (j e z c : Nat) (v1 v2 v3 : Value) (hz : ¬ z = 9998) (hz1 : ¬ z = 9997) (hz2 : ¬ z = 9996) : P_w (d + 1) y Q ((.invokestatic j, l, [e, z, 3, c]) :: r) kc ks ls (v3 :: v2 :: v1 :: st) h = ((st.map fun v => v.category).sum ≤ 8 ∧ P_call d y z [v1, v2, v3] r kc ks ls st h Q) := by
  unfold P_w p_stp p_blk; simp only [p_pop]; rfl
theorem pw_is4 (j e z c : Nat) (v1 v2 v3 v4 : Value) (hz : ¬ z = 9998) (hz1 : ¬ z = 9997) (hz2 : ¬ z = 9996) : P_w (d + 1) y Q ((.invokestatic j, l, [e, z, 4, c]) :: r) kc ks ls (v4 :: v3 :: v2 :: v1 :: st) h = ((st.map fun v => v.category).sum ≤ 8 ∧ P_call d y z [v1, v2, v3, v4] r kc ks ls st h Q) := by
  unfold P_w p_stp p_blk; simp only [p_pop]; rfl
theorem pw_is5 (j e z c : Nat) (v1 v2 v3 v4 v5 : Value) (hz : ¬ z = 9998) (hz1 : ¬ z = 9997) (hz2 : ¬ z = 9996) : P_w (d + 1) y Q ((.invokestatic j, l, [e, z, 5, c]) :: r) kc ks ls (v5 :: v4 :: v3 :: v2 :: v1 :: st) h = ((st.map fun v => v.category).sum ≤ 8 ∧ P_call d y z [v1, v2, v3, v4, v5] r kc ks ls st h Q) := by
  unfold P_w p_stp p_blk; simp only [p_pop]; rfl
end PWR
