/-! ===== THE SMALL MACHINE: the program's own bytecode, decoded, over places instead of addresses; no cell is made in it ===== -/
/-- what the cells hold: ints (fields and rows), longs, references (places) -/
abbrev sm_M : Type := (Nat → Nat → Int32) × (Nat → Nat → Int64) × (Nat → Nat → Nat)
/-- an instruction, its byte, three numbers that resolve it, a row of them -/
abbrev sm_E : Type := Instr × Nat × Nat × Nat × Nat × List Nat
abbrev sm_L : Type := List (Option Value)
/-- place in the code, locals, operands, cells and slots that may have been made -/
abbrev sm_F : Type := Nat × sm_L × List Value × Nat × Nat
/-- goes on; calls; returns; throws -/
abbrev sm_R : Type := (sm_F × sm_M) ⊕ ((Nat × List Value × sm_F) ⊕ (Option Value ⊕ Nat))
abbrev sm_O : Type := Option (Option Prop × sm_R)
/-- code, cells and slots that it may make, handlers (from, to, what, whither, local), locals -/
abbrev sm_Me : Type := List sm_E × (Nat × Nat) × List (Nat × Nat × Nat × Nat × Nat) × Nat
def sm_in (i : Int32) (n : Nat) : Bool := !(decide (i < 0)) && decide (i.toNatClampNeg < n)
/-- the script's place and the text's place -/
abbrev sm_SCR : Nat := 1000000
abbrev sm_STR : Nat := 1000001
def sm_text : List Nat := "north south neutral soprano alto tenor bass piece every truce aim or and not day sung own other fallen can skill part singer tone ".toList.map Char.toNat
def sm_clr : Option Value → Option Value
  | some (.long _) => none
  | some (.double _) => none
  | v => v
def sm_st1 (L : sm_L) (i : Nat) (v : Option Value) : sm_L := match i with
  | 0 => L.set 0 v
  | j + 1 => (L.modify j sm_clr).set (j + 1) v
def sm_st2 (L : sm_L) (i : Nat) (v : Option Value) : sm_L := (sm_st1 L i v).set (i + 1) none
def sm_go (pc : Nat) (L : sm_L) (st : List Value) (nc ns : Nat) (M : sm_M) : sm_O := some (none, .inl ((pc, L, st, nc, ns), M))
def sm_gd (g : Prop) (pc : Nat) (L : sm_L) (st : List Value) (nc ns : Nat) (M : sm_M) : sm_O := some (some g, .inl ((pc, L, st, nc, ns), M))
def sm_i1 (f : Int32 → Value) (pc : Nat) (L : sm_L) (st : List Value) (nc ns : Nat) (M : sm_M) : sm_O := match st with
  | .int x :: st => sm_go (pc + 1) L (f x :: st) nc ns M
  | _ => none
def sm_i2 (f : Int32 → Int32 → Int32) (pc : Nat) (L : sm_L) (st : List Value) (nc ns : Nat) (M : sm_M) : sm_O := match st with
  | .int y :: .int x :: st => sm_go (pc + 1) L (.int (f x y) :: st) nc ns M
  | _ => none
def sm_i2g (f : Int32 → Int32 → Int32) (pc : Nat) (L : sm_L) (st : List Value) (nc ns : Nat) (M : sm_M) : sm_O := match st with
  | .int y :: .int x :: st => sm_gd (¬ y = 0) (pc + 1) L (.int (f x y) :: st) nc ns M
  | _ => none
def sm_l2 (f : Int64 → Int64 → Value) (pc : Nat) (L : sm_L) (st : List Value) (nc ns : Nat) (M : sm_M) : sm_O := match st with
  | .long y :: .long x :: st => sm_go (pc + 1) L (f x y :: st) nc ns M
  | _ => none
def sm_l2g (f : Int64 → Int64 → Int64) (pc : Nat) (L : sm_L) (st : List Value) (nc ns : Nat) (M : sm_M) : sm_O := match st with
  | .long y :: .long x :: st => sm_gd (¬ y = 0) (pc + 1) L (.long (f x y) :: st) nc ns M
  | _ => none
def sm_b1 (c : Int32 → Bool) (a : Nat) (pc : Nat) (L : sm_L) (st : List Value) (nc ns : Nat) (M : sm_M) : sm_O := match st with
  | .int x :: st => sm_go (if c x = true then a else pc + 1) L st nc ns M
  | _ => none
def sm_b2 (c : Int32 → Int32 → Bool) (a : Nat) (pc : Nat) (L : sm_L) (st : List Value) (nc ns : Nat) (M : sm_M) : sm_O := match st with
  | .int y :: .int x :: st => sm_go (if c x y = true then a else pc + 1) L st nc ns M
  | _ => none
def sm_c1 : ClassFile.Cond → Int32 → Bool
  | .eq, x => decide (x = 0)
  | .ne, x => decide (¬ x = 0)
  | .lt, x => decide (x < 0)
  | .ge, x => decide (0 ≤ x)
  | .gt, x => decide (0 < x)
  | .le, x => decide (x ≤ 0)
def sm_c2 : ClassFile.Cond → Int32 → Int32 → Bool
  | .eq, x, y => decide (x = y)
  | .ne, x, y => decide (¬ x = y)
  | .lt, x, y => decide (x < y)
  | .ge, x, y => decide (y ≤ x)
  | .gt, x, y => decide (y < x)
  | .le, x, y => decide (x ≤ y)
def sm_ldi (i : Nat) (pc : Nat) (L : sm_L) (st : List Value) (nc ns : Nat) (M : sm_M) : sm_O := match L[i]? with
  | some (some (.int x)) => sm_go (pc + 1) L (.int x :: st) nc ns M
  | _ => none
def sm_ldl (i : Nat) (pc : Nat) (L : sm_L) (st : List Value) (nc ns : Nat) (M : sm_M) : sm_O := match L[i]? with
  | some (some (.long x)) => sm_go (pc + 1) L (.long x :: st) nc ns M
  | _ => none
def sm_lda (i : Nat) (pc : Nat) (L : sm_L) (st : List Value) (nc ns : Nat) (M : sm_M) : sm_O := match L[i]? with
  | some (some (.ref x)) => sm_go (pc + 1) L (.ref x :: st) nc ns M
  | _ => none
def sm_sti (i : Nat) (pc : Nat) (L : sm_L) (st : List Value) (nc ns : Nat) (M : sm_M) : sm_O := match st with
  | .int x :: st => bif Nat.blt i L.length then sm_go (pc + 1) (sm_st1 L i (some (.int x))) st nc ns M else none
  | _ => none
def sm_sta (i : Nat) (pc : Nat) (L : sm_L) (st : List Value) (nc ns : Nat) (M : sm_M) : sm_O := match st with
  | .ref x :: st => bif Nat.blt i L.length then sm_go (pc + 1) (sm_st1 L i (some (.ref x))) st nc ns M else none
  | _ => none
def sm_stl (i : Nat) (pc : Nat) (L : sm_L) (st : List Value) (nc ns : Nat) (M : sm_M) : sm_O := match st with
  | .long x :: st => bif Nat.blt (i + 1) L.length then sm_go (pc + 1) (sm_st2 L i (some (.long x))) st nc ns M else none
  | _ => none
def sm_inc (i : Nat) (n : Int) (pc : Nat) (L : sm_L) (st : List Value) (nc ns : Nat) (M : sm_M) : sm_O := match L[i]? with
  | some (some (.int x)) => sm_go (pc + 1) (sm_st1 L i (some (.int (x + Int32.ofInt n)))) st nc ns M
  | _ => none
/-- a field of the object at k: slot a, what it holds b (0 int, 1 boolean, 2 long, 3 reference), class c -/
def sm_gf (sh : List (Nat × Nat)) (a b c : Nat) (pc : Nat) (L : sm_L) (st : List Value) (nc ns : Nat) (M : sm_M) : sm_O := match st with
  | .ref k :: st => match sh[k]? with
    | some (ci, N) => bif Nat.beq ci c && Nat.blt a N then (match b with
      | 0 => sm_go (pc + 1) L (.int (M.1 k a) :: st) nc ns M
      | 1 => sm_go (pc + 1) L (.int (M.1 k a) :: st) nc ns M
      | 2 => sm_go (pc + 1) L (.long (M.2.1 k a) :: st) nc ns M
      | _ => sm_go (pc + 1) L (.ref (M.2.2 k a) :: st) nc ns M) else none
    | none => none
  | _ => none
def sm_pf (sh : List (Nat × Nat)) (a b c : Nat) (pc : Nat) (L : sm_L) (st : List Value) (nc ns : Nat) (M : sm_M) : sm_O := match st with
  | v :: .ref k :: st => match sh[k]? with
    | some (ci, N) => bif Nat.beq ci c && Nat.blt a N then (match b, v with
      | 0, .int x => sm_go (pc + 1) L st nc ns (va_up M.1 k (upd (M.1 k) a x), M.2)
      | 1, .int x => bif x == 0 || x == 1 then sm_go (pc + 1) L st nc ns (va_up M.1 k (upd (M.1 k) a x), M.2) else none
      | 2, .long x => sm_go (pc + 1) L st nc ns (M.1, va_up M.2.1 k (vp_updL (M.2.1 k) a x), M.2.2)
      | 3, .ref q => sm_go (pc + 1) L st nc ns (M.1, M.2.1, va_up M.2.2 k (va_up (M.2.2 k) a q))
      | _, _ => none) else none
    | none => none
  | _ => none
/-- rows: kinds 8 int, 9 boolean, 10 long -/
def sm_ald (sh : List (Nat × Nat)) (X : Nat × (Nat → Int32)) (kind : Nat) (pc : Nat) (L : sm_L) (st : List Value) (nc ns : Nat) (M : sm_M) : sm_O := match st with
  | .int i :: .ref k :: st => bif Nat.beq k sm_SCR then (bif Nat.beq kind 8 then sm_gd (sm_in i X.1 = true) (pc + 1) L (.int (X.2 i.toNatClampNeg) :: st) nc ns M else none)
    else match sh[k]? with
    | some (ci, N) => bif Nat.beq ci kind then (match kind with
      | 10 => sm_gd (sm_in i N = true) (pc + 1) L (.long (M.2.1 k i.toNatClampNeg) :: st) nc ns M
      | _ => sm_gd (sm_in i N = true) (pc + 1) L (.int (M.1 k i.toNatClampNeg) :: st) nc ns M) else none
    | none => none
  | _ => none
def sm_ast (sh : List (Nat × Nat)) (kind : Nat) (pc : Nat) (L : sm_L) (st : List Value) (nc ns : Nat) (M : sm_M) : sm_O := match st with
  | v :: .int i :: .ref k :: st => match sh[k]? with
    | some (ci, N) => bif Nat.beq ci kind then (match kind, v with
      | 8, .int x => sm_gd (sm_in i N = true) (pc + 1) L st nc ns (va_up M.1 k (upd (M.1 k) i.toNatClampNeg x), M.2)
      | 9, .int x => sm_gd (sm_in i N = true) (pc + 1) L st nc ns (va_up M.1 k (upd (M.1 k) i.toNatClampNeg (vp_nar .boolean x)), M.2)
      | 10, .long x => sm_gd (sm_in i N = true) (pc + 1) L st nc ns (M.1, va_up M.2.1 k (vp_updL (M.2.1 k) i.toNatClampNeg x), M.2.2)
      | _, _ => none) else none
    | none => none
  | _ => none
def sm_len (sh : List (Nat × Nat)) (X : Nat × (Nat → Int32)) (pc : Nat) (L : sm_L) (st : List Value) (nc ns : Nat) (M : sm_M) : sm_O := match st with
  | .ref k :: st => bif Nat.beq k sm_SCR then sm_go (pc + 1) L (.int (Int32.ofNat X.1) :: st) nc ns M else match sh[k]? with
    | some (ci, N) => bif Nat.ble 8 ci then sm_go (pc + 1) L (.int (Int32.ofNat N) :: st) nc ns M else none
    | none => none
  | _ => none
def sm_cp (sh : List (Nat × Nat)) (pc : Nat) (L : sm_L) (st : List Value) (nc ns : Nat) (M : sm_M) : sm_O := match st with
  | .int n :: .int dp :: .ref k1 :: .int sp :: .ref k0 :: st => match sh[k0]?, sh[k1]? with
    | some (c0, n0), some (c1, n1) => bif Nat.beq c0 8 && Nat.beq c1 8 && Nat.ble (st.map fun v => v.category).sum 8 then
        sm_gd (¬ sp < 0 ∧ ¬ dp < 0 ∧ ¬ n < 0 ∧ sp.toNatClampNeg + n.toNatClampNeg ≤ n0 ∧ dp.toNatClampNeg + n.toNatClampNeg ≤ n1) (pc + 1) L st nc ns
          (va_up M.1 k1 (va_cpy (M.1 k0) (M.1 k1) sp.toNatClampNeg dp.toNatClampNeg n.toNatClampNeg), M.2) else none
    | _, _ => none
  | _ => none
/-- whom an instance's method is asked of -/
def sm_rcv (sh : List (Nat × Nat)) (c : Nat) (as : List Value) : Bool := match c, as with
  | 0, _ => true
  | c, .ref k :: _ => match sh[k]? with
    | some (ci, _) => Nat.beq (ci + 10) c
    | none => false
  | _, _ => false
/-- a call: whom a, how many operands b, c: 0 a static one, 10 + n one of class n, 1 a text's length, 2 its sign, 3 System.arraycopy -/
def sm_cl (sh : List (Nat × Nat)) (B : Nat × Nat) (a b c : Nat) (t : List Nat) (pc : Nat) (L : sm_L) (st : List Value) (nc ns : Nat) (M : sm_M) : sm_O := match c with
  | 1 => match st with
    | .ref k :: st => bif Nat.beq k sm_STR && Nat.ble (st.map fun v => v.category).sum 8 && Nat.ble nc B.1 && Nat.ble ns B.2 then sm_go (pc + 1) L (.int (Int32.ofNat 130) :: st) nc ns M else none
    | _ => none
  | 2 => match st with
    | .int i :: .ref k :: st => bif Nat.beq k sm_STR && Nat.ble (st.map fun v => v.category).sum 8 && Nat.ble nc B.1 && Nat.ble ns B.2 then sm_gd (sm_in i 130 = true) (pc + 1) L (.int (Int32.ofNat (sm_text.getD i.toNatClampNeg 0)) :: st) nc ns M else none
    | _ => none
  | 3 => sm_cp sh pc L st nc ns M
  | c => bif Nat.ble b st.length && Nat.ble ((st.drop b).map fun v => v.category).sum 8 && Nat.ble (nc + t.getD 0 0) B.1 && Nat.ble (ns + t.getD 1 0) B.2 &&
      sm_rcv sh c (st.take b).reverse
    then some (none, .inr (.inl (a, (st.take b).reverse, (pc + 1, L, st.drop b, nc + t.getD 0 0, ns + t.getD 1 0)))) else none
/-- an int's way at a table of ways -/
def sm_sw (x lo : Int) (t : List Nat) (d : Nat) : Nat := if x < lo then d else t.getD (x - lo).toNat d
def sm_sl (x : Int) (d : Nat) : List (Int × Int) → List Nat → Nat
  | (k, _) :: r, t :: ts => if x = k then t else sm_sl x d r ts
  | _, _ => d
/-- ends: what was made is within what may be -/
def sm_rti (B : Nat × Nat) (a : Nat) (st : List Value) (nc ns : Nat) : sm_O := match st with
  | [.int x] => bif Nat.ble nc B.1 && Nat.ble ns B.2 then some (none, .inr (.inr (.inl (some (.int (bif Nat.beq a 1 then vp_nar .boolean x else x)))))) else none
  | _ => none
def sm_rtl (B : Nat × Nat) (st : List Value) (nc ns : Nat) : sm_O := match st with
  | [.long x] => bif Nat.ble nc B.1 && Nat.ble ns B.2 then some (none, .inr (.inr (.inl (some (.long x))))) else none
  | _ => none
def sm_rtv (B : Nat × Nat) (st : List Value) (nc ns : Nat) : sm_O := match st with
  | [] => bif Nat.ble nc B.1 && Nat.ble ns B.2 then some (none, .inr (.inr (.inl none))) else none
  | _ => none
def sm_do (sh : List (Nat × Nat)) (X : Nat × (Nat → Int32)) (B : Nat × Nat) (e : sm_E) (pc : Nat) (L : sm_L) (st : List Value) (nc ns : Nat) (M : sm_M) : sm_O := match e with
  | (i, _, a, b, c, t) => match i with
    | .iconst n => sm_go (pc + 1) L (.int (Int32.ofInt n) :: st) nc ns M
    | .bipush n => sm_go (pc + 1) L (.int (Int8.ofInt n).toInt32 :: st) nc ns M
    | .sipush n => sm_go (pc + 1) L (.int (Int16.ofInt n).toInt32 :: st) nc ns M
    | .lconst n => sm_go (pc + 1) L (.long (Int64.ofNat n.val) :: st) nc ns M
    | .ldc _ => bif Nat.beq c 0 then sm_go (pc + 1) L (.int (Int32.ofNat a) :: st) nc ns M else sm_go (pc + 1) L (.ref sm_STR :: st) nc ns M
    | .ldc_w _ => sm_go (pc + 1) L (.int (Int32.ofNat a) :: st) nc ns M
    | .ldc2_w _ => sm_go (pc + 1) L (.long (Int64.ofNat a) :: st) nc ns M
    | .iload_n n => sm_ldi n.val pc L st nc ns M
    | .iload n => sm_ldi n pc L st nc ns M
    | .lload_n n => sm_ldl n.val pc L st nc ns M
    | .lload n => sm_ldl n pc L st nc ns M
    | .aload_n n => sm_lda n.val pc L st nc ns M
    | .aload n => sm_lda n pc L st nc ns M
    | .istore_n n => sm_sti n.val pc L st nc ns M
    | .istore n => sm_sti n pc L st nc ns M
    | .lstore_n n => sm_stl n.val pc L st nc ns M
    | .lstore n => sm_stl n pc L st nc ns M
    | .astore_n n => sm_sta n.val pc L st nc ns M
    | .astore n => sm_sta n pc L st nc ns M
    | .iinc n k => sm_inc n k pc L st nc ns M
    | .iadd => sm_i2 (fun x y => x + y) pc L st nc ns M
    | .isub => sm_i2 (fun x y => x - y) pc L st nc ns M
    | .imul => sm_i2 (fun x y => x * y) pc L st nc ns M
    | .iand => sm_i2 (fun x y => x &&& y) pc L st nc ns M
    | .ior => sm_i2 (fun x y => x ||| y) pc L st nc ns M
    | .ixor => sm_i2 (fun x y => x ^^^ y) pc L st nc ns M
    | .ishl => sm_i2 (fun x y => x <<< (y &&& 31)) pc L st nc ns M
    | .ishr => sm_i2 (fun x y => x >>> (y &&& 31)) pc L st nc ns M
    | .iushr => sm_i2 (fun x y => (x.toUInt32 >>> (y.toUInt32 &&& Int32.toUInt32 31)).toInt32) pc L st nc ns M
    | .idiv => sm_i2g (fun x y => x / y) pc L st nc ns M
    | .irem => sm_i2g (fun x y => x - x / y * y) pc L st nc ns M
    | .ineg => sm_i1 (fun x => .int (-x)) pc L st nc ns M
    | .i2l => sm_i1 (fun x => .long x.toInt64) pc L st nc ns M
    | .l2i => match st with
      | .long x :: st => sm_go (pc + 1) L (.int x.toInt32 :: st) nc ns M
      | _ => none
    | .ladd => sm_l2 (fun x y => .long (x + y)) pc L st nc ns M
    | .lsub => sm_l2 (fun x y => .long (x - y)) pc L st nc ns M
    | .lmul => sm_l2 (fun x y => .long (x * y)) pc L st nc ns M
    | .lor => sm_l2 (fun x y => .long (x ||| y)) pc L st nc ns M
    | .lcmp => sm_l2 (fun x y => .int (lg_cmp x y)) pc L st nc ns M
    | .ldiv => sm_l2g (fun x y => x / y) pc L st nc ns M
    | .lrem => sm_l2g (fun x y => x - x / y * y) pc L st nc ns M
    | .lshl => match st with
      | .int y :: .long x :: st => sm_go (pc + 1) L (.long (x <<< (y.toInt64 &&& 63)) :: st) nc ns M
      | _ => none
    | .pop => match st with
      | .int _ :: st => sm_go (pc + 1) L st nc ns M
      | .ref _ :: st => sm_go (pc + 1) L st nc ns M
      | _ => none
    | .dup => match st with
      | .int x :: st => sm_go (pc + 1) L (.int x :: .int x :: st) nc ns M
      | .ref x :: st => sm_go (pc + 1) L (.ref x :: .ref x :: st) nc ns M
      | _ => none
    | .dup2 => match st with
      | .int x :: .ref y :: st => sm_go (pc + 1) L (.int x :: .ref y :: .int x :: .ref y :: st) nc ns M
      | _ => none
    | .goto _ => sm_go a L st nc ns M
    | .ifCond k _ => sm_b1 (sm_c1 k) a pc L st nc ns M
    | .if_icmp k _ => sm_b2 (sm_c2 k) a pc L st nc ns M
    | .tableswitch _ lo _ _ => match st with
      | .int x :: st => sm_go (sm_sw x.toInt lo t a) L st nc ns M
      | _ => none
    | .lookupswitch _ ps => match st with
      | .int x :: st => sm_go (sm_sl x.toInt a ps.toList t) L st nc ns M
      | _ => none
    | .getfield _ => sm_gf sh a b c pc L st nc ns M
    | .putfield _ => sm_pf sh a b c pc L st nc ns M
    | .iaload => sm_ald sh X 8 pc L st nc ns M
    | .baload => sm_ald sh X 9 pc L st nc ns M
    | .laload => sm_ald sh X 10 pc L st nc ns M
    | .iastore => sm_ast sh 8 pc L st nc ns M
    | .bastore => sm_ast sh 9 pc L st nc ns M
    | .lastore => sm_ast sh 10 pc L st nc ns M
    | .arraylength => sm_len sh X pc L st nc ns M
    | .invokestatic _ => sm_cl sh B a b c t pc L st nc ns M
    | .invokevirtual _ => sm_cl sh B a b c t pc L st nc ns M
    | .new _ => bif Nat.ble (nc + 1) B.1 && Nat.ble (ns + 6) B.2 && Nat.ble (st.map fun v => v.category).sum 8 then some (none, .inr (.inr (.inr a))) else none
    | .ireturn => sm_rti B a st nc ns
    | .lreturn => sm_rtl B st nc ns
    | .return_ => sm_rtv B st nc ns
    | _ => none
def sm_step (sh : List (Nat × Nat)) (X : Nat × (Nat → Int32)) (me : sm_Me) (fr : sm_F) (M : sm_M) : sm_O := match fr with
  | (pc, L, st, nc, ns) => match me.1[pc]? with
    | none => none
    | some e => sm_do sh X me.2.1 e pc L st nc ns M
def sm_run (sh : List (Nat × Nat)) (X : Nat × (Nat → Int32)) (me : sm_Me) : Nat → sm_F → sm_M → Option (Prop × sm_F × sm_M)
  | 0, fr, M => some (True, fr, M)
  | n + 1, fr, M => match sm_step sh X me fr M with
    | some (g, .inl (fr', M')) => match sm_run sh X me n fr' M' with
      | some (G, r) => some (match g with | none => G | some p => p ∧ G, r)
      | none => none
    | _ => none
