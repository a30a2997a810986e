/-! ===== rows: numbers, branches, fields, rows of numbers ===== -/
section SZ2
variable {p : Program} {l : Launch} {e : Env} {R : Room} {s : State} {m : MethodId} {args : Array Value} {below : List Frame} {meth : Method} {c : Code} {Qf : State → Prop} {D : va_G} {A : Nat → Prop} {sh : List (Nat × Nat)} {cA : Nat → ClassId} {ρ : Nat → Nat} {nL : Nat}
variable {cc : ByteArray} {bp : Nat} {L : sm_L} {st : List Value} {nc ns : Nat} {M : sm_M}
theorem sz_iadd (hx : p.tables.exec = Jvm.exec) (hb : c.code = cc) {x y : Int32} (hd : decode cc bp = .ok (.iadd, 1)) (k : sm_Z p l e R s m args below meth c Qf D A sh cA ρ nL (bp + 1) L (.int (x + y) :: st) nc ns M) : sm_Z p l e R s m args below meth c Qf D A sh cA ρ nL bp L (.int y :: .int x :: st) nc ns M :=
  fun H locs ls hR hl => lv_iadd hx hb hd (k H locs ls hR hl)
theorem sz_isub (hx : p.tables.exec = Jvm.exec) (hb : c.code = cc) {x y : Int32} (hd : decode cc bp = .ok (.isub, 1)) (k : sm_Z p l e R s m args below meth c Qf D A sh cA ρ nL (bp + 1) L (.int (x - y) :: st) nc ns M) : sm_Z p l e R s m args below meth c Qf D A sh cA ρ nL bp L (.int y :: .int x :: st) nc ns M :=
  fun H locs ls hR hl => lv_isub hx hb hd (k H locs ls hR hl)
theorem sz_imul (hx : p.tables.exec = Jvm.exec) (hb : c.code = cc) {x y : Int32} (hd : decode cc bp = .ok (.imul, 1)) (k : sm_Z p l e R s m args below meth c Qf D A sh cA ρ nL (bp + 1) L (.int (x * y) :: st) nc ns M) : sm_Z p l e R s m args below meth c Qf D A sh cA ρ nL bp L (.int y :: .int x :: st) nc ns M :=
  fun H locs ls hR hl => lv_imul hx hb hd (k H locs ls hR hl)
theorem sz_iand (hx : p.tables.exec = Jvm.exec) (hb : c.code = cc) {x y : Int32} (hd : decode cc bp = .ok (.iand, 1)) (k : sm_Z p l e R s m args below meth c Qf D A sh cA ρ nL (bp + 1) L (.int (x &&& y) :: st) nc ns M) : sm_Z p l e R s m args below meth c Qf D A sh cA ρ nL bp L (.int y :: .int x :: st) nc ns M :=
  fun H locs ls hR hl => lv_iand hx hb hd (k H locs ls hR hl)
theorem sz_ior (hx : p.tables.exec = Jvm.exec) (hb : c.code = cc) {x y : Int32} (hd : decode cc bp = .ok (.ior, 1)) (k : sm_Z p l e R s m args below meth c Qf D A sh cA ρ nL (bp + 1) L (.int (x ||| y) :: st) nc ns M) : sm_Z p l e R s m args below meth c Qf D A sh cA ρ nL bp L (.int y :: .int x :: st) nc ns M :=
  fun H locs ls hR hl => lv_ior hx hb hd (k H locs ls hR hl)
theorem sz_ixor (hx : p.tables.exec = Jvm.exec) (hb : c.code = cc) {x y : Int32} (hd : decode cc bp = .ok (.ixor, 1)) (k : sm_Z p l e R s m args below meth c Qf D A sh cA ρ nL (bp + 1) L (.int (x ^^^ y) :: st) nc ns M) : sm_Z p l e R s m args below meth c Qf D A sh cA ρ nL bp L (.int y :: .int x :: st) nc ns M :=
  fun H locs ls hR hl => lv_ixor hx hb hd (k H locs ls hR hl)
theorem sz_ishl (hx : p.tables.exec = Jvm.exec) (hb : c.code = cc) {x y : Int32} (hd : decode cc bp = .ok (.ishl, 1)) (k : sm_Z p l e R s m args below meth c Qf D A sh cA ρ nL (bp + 1) L (.int (x <<< (y &&& 31)) :: st) nc ns M) : sm_Z p l e R s m args below meth c Qf D A sh cA ρ nL bp L (.int y :: .int x :: st) nc ns M :=
  fun H locs ls hR hl => lv_ishl hx hb hd (k H locs ls hR hl)
theorem sz_ishr (hx : p.tables.exec = Jvm.exec) (hb : c.code = cc) {x y : Int32} (hd : decode cc bp = .ok (.ishr, 1)) (k : sm_Z p l e R s m args below meth c Qf D A sh cA ρ nL (bp + 1) L (.int (x >>> (y &&& 31)) :: st) nc ns M) : sm_Z p l e R s m args below meth c Qf D A sh cA ρ nL bp L (.int y :: .int x :: st) nc ns M :=
  fun H locs ls hR hl => lv_ishr hx hb hd (k H locs ls hR hl)
theorem sz_iushr (hx : p.tables.exec = Jvm.exec) (hb : c.code = cc) {x y : Int32} (hd : decode cc bp = .ok (.iushr, 1)) (k : sm_Z p l e R s m args below meth c Qf D A sh cA ρ nL (bp + 1) L (.int ((x.toUInt32 >>> (y.toUInt32 &&& Int32.toUInt32 31)).toInt32) :: st) nc ns M) : sm_Z p l e R s m args below meth c Qf D A sh cA ρ nL bp L (.int y :: .int x :: st) nc ns M :=
  fun H locs ls hR hl => lv_iushr hx hb hd rfl (k H locs ls hR hl)
theorem sz_idiv (hx : p.tables.exec = Jvm.exec) (hb : c.code = cc) {x y : Int32} (h0 : ¬ y = 0) (hd : decode cc bp = .ok (.idiv, 1)) (k : sm_Z p l e R s m args below meth c Qf D A sh cA ρ nL (bp + 1) L (.int (x / y) :: st) nc ns M) : sm_Z p l e R s m args below meth c Qf D A sh cA ρ nL bp L (.int y :: .int x :: st) nc ns M :=
  fun H locs ls hR hl => lv_idiv hx hb hd h0 (k H locs ls hR hl)
theorem sz_irem (hx : p.tables.exec = Jvm.exec) (hb : c.code = cc) {x y : Int32} (h0 : ¬ y = 0) (hd : decode cc bp = .ok (.irem, 1)) (k : sm_Z p l e R s m args below meth c Qf D A sh cA ρ nL (bp + 1) L (.int (x - x / y * y) :: st) nc ns M) : sm_Z p l e R s m args below meth c Qf D A sh cA ρ nL bp L (.int y :: .int x :: st) nc ns M :=
  fun H locs ls hR hl => lv_irem hx hb hd h0 (k H locs ls hR hl)
theorem sz_ineg (hx : p.tables.exec = Jvm.exec) (hb : c.code = cc) {x : Int32} (hd : decode cc bp = .ok (.ineg, 1)) (k : sm_Z p l e R s m args below meth c Qf D A sh cA ρ nL (bp + 1) L (.int (-x) :: st) nc ns M) : sm_Z p l e R s m args below meth c Qf D A sh cA ρ nL bp L (.int x :: st) nc ns M :=
  fun H locs ls hR hl => lv_ineg hx hb hd (k H locs ls hR hl)
theorem sz_i2l (hx : p.tables.exec = Jvm.exec) (hb : c.code = cc) {x : Int32} (hd : decode cc bp = .ok (.i2l, 1)) (k : sm_Z p l e R s m args below meth c Qf D A sh cA ρ nL (bp + 1) L (.long x.toInt64 :: st) nc ns M) : sm_Z p l e R s m args below meth c Qf D A sh cA ρ nL bp L (.int x :: st) nc ns M :=
  fun H locs ls hR hl => lv_i2l hx hb hd rfl (k H locs ls hR hl)
theorem sz_l2i (hx : p.tables.exec = Jvm.exec) (hb : c.code = cc) {x : Int64} (hd : decode cc bp = .ok (.l2i, 1)) (k : sm_Z p l e R s m args below meth c Qf D A sh cA ρ nL (bp + 1) L (.int x.toInt32 :: st) nc ns M) : sm_Z p l e R s m args below meth c Qf D A sh cA ρ nL bp L (.long x :: st) nc ns M :=
  fun H locs ls hR hl => lv_l2i hx hb hd rfl (k H locs ls hR hl)
theorem sz_ladd (hx : p.tables.exec = Jvm.exec) (hb : c.code = cc) {x y : Int64} (hd : decode cc bp = .ok (.ladd, 1)) (k : sm_Z p l e R s m args below meth c Qf D A sh cA ρ nL (bp + 1) L (.long (x + y) :: st) nc ns M) : sm_Z p l e R s m args below meth c Qf D A sh cA ρ nL bp L (.long y :: .long x :: st) nc ns M :=
  fun H locs ls hR hl => lv_ladd hx hb hd (k H locs ls hR hl)
theorem sz_lsub (hx : p.tables.exec = Jvm.exec) (hb : c.code = cc) {x y : Int64} (hd : decode cc bp = .ok (.lsub, 1)) (k : sm_Z p l e R s m args below meth c Qf D A sh cA ρ nL (bp + 1) L (.long (x - y) :: st) nc ns M) : sm_Z p l e R s m args below meth c Qf D A sh cA ρ nL bp L (.long y :: .long x :: st) nc ns M :=
  fun H locs ls hR hl => lv_lsub hx hb hd (k H locs ls hR hl)
theorem sz_lmul (hx : p.tables.exec = Jvm.exec) (hb : c.code = cc) {x y : Int64} (hd : decode cc bp = .ok (.lmul, 1)) (k : sm_Z p l e R s m args below meth c Qf D A sh cA ρ nL (bp + 1) L (.long (x * y) :: st) nc ns M) : sm_Z p l e R s m args below meth c Qf D A sh cA ρ nL bp L (.long y :: .long x :: st) nc ns M :=
  fun H locs ls hR hl => lv_lmul hx hb hd (k H locs ls hR hl)
theorem sz_lor (hx : p.tables.exec = Jvm.exec) (hb : c.code = cc) {x y : Int64} (hd : decode cc bp = .ok (.lor, 1)) (k : sm_Z p l e R s m args below meth c Qf D A sh cA ρ nL (bp + 1) L (.long (x ||| y) :: st) nc ns M) : sm_Z p l e R s m args below meth c Qf D A sh cA ρ nL bp L (.long y :: .long x :: st) nc ns M :=
  fun H locs ls hR hl => lv_lor hx hb hd (k H locs ls hR hl)
theorem sz_ldiv (hx : p.tables.exec = Jvm.exec) (hb : c.code = cc) {x y : Int64} (h0 : ¬ y = 0) (hd : decode cc bp = .ok (.ldiv, 1)) (k : sm_Z p l e R s m args below meth c Qf D A sh cA ρ nL (bp + 1) L (.long (x / y) :: st) nc ns M) : sm_Z p l e R s m args below meth c Qf D A sh cA ρ nL bp L (.long y :: .long x :: st) nc ns M :=
  fun H locs ls hR hl => lv_ldiv hx hb hd h0 (k H locs ls hR hl)
theorem sz_lrem (hx : p.tables.exec = Jvm.exec) (hb : c.code = cc) {x y : Int64} (h0 : ¬ y = 0) (hd : decode cc bp = .ok (.lrem, 1)) (k : sm_Z p l e R s m args below meth c Qf D A sh cA ρ nL (bp + 1) L (.long (x - x / y * y) :: st) nc ns M) : sm_Z p l e R s m args below meth c Qf D A sh cA ρ nL bp L (.long y :: .long x :: st) nc ns M :=
  fun H locs ls hR hl => lv_lrem hx hb hd h0 (k H locs ls hR hl)
theorem sz_lcmp (hx : p.tables.exec = Jvm.exec) (hb : c.code = cc) {x y : Int64} (hd : decode cc bp = .ok (.lcmp, 1)) (k : sm_Z p l e R s m args below meth c Qf D A sh cA ρ nL (bp + 1) L (.int (lg_cmp x y) :: st) nc ns M) : sm_Z p l e R s m args below meth c Qf D A sh cA ρ nL bp L (.long y :: .long x :: st) nc ns M :=
  fun H locs ls hR hl => W.lcmp hx hb hd (k H locs ls hR hl)
theorem sz_lshl (hx : p.tables.exec = Jvm.exec) (hb : c.code = cc) {x : Int64} {y : Int32} (hd : decode cc bp = .ok (.lshl, 1)) (k : sm_Z p l e R s m args below meth c Qf D A sh cA ρ nL (bp + 1) L (.long (x <<< (y.toInt64 &&& 63)) :: st) nc ns M) : sm_Z p l e R s m args below meth c Qf D A sh cA ρ nL bp L (.int y :: .long x :: st) nc ns M :=
  fun H locs ls hR hl => lv_lshl hx hb hd rfl (k H locs ls hR hl)
theorem sz_popi (hx : p.tables.exec = Jvm.exec) (hb : c.code = cc) {x : Int32} (hd : decode cc bp = .ok (.pop, 1)) (k : sm_Z p l e R s m args below meth c Qf D A sh cA ρ nL (bp + 1) L st nc ns M) : sm_Z p l e R s m args below meth c Qf D A sh cA ρ nL bp L (.int x :: st) nc ns M :=
  fun H locs ls hR hl => lv_pop hx hb hd rfl (k H locs ls hR hl)
theorem sz_dupi (hx : p.tables.exec = Jvm.exec) (hb : c.code = cc) {x : Int32} (hd : decode cc bp = .ok (.dup, 1)) (k : sm_Z p l e R s m args below meth c Qf D A sh cA ρ nL (bp + 1) L (.int x :: .int x :: st) nc ns M) : sm_Z p l e R s m args below meth c Qf D A sh cA ρ nL bp L (.int x :: st) nc ns M :=
  fun H locs ls hR hl => lv_dup hx hb hd rfl (k H locs ls hR hl)
theorem sz_popa (hx : p.tables.exec = Jvm.exec) (hb : c.code = cc) {x : Nat} (hd : decode cc bp = .ok (.pop, 1)) (k : sm_Z p l e R s m args below meth c Qf D A sh cA ρ nL (bp + 1) L st nc ns M) : sm_Z p l e R s m args below meth c Qf D A sh cA ρ nL bp L (.ref x :: st) nc ns M :=
  fun H locs ls hR hl => lv_pop hx hb hd rfl (k H locs ls hR hl)
theorem sz_dupa (hx : p.tables.exec = Jvm.exec) (hb : c.code = cc) {x : Nat} (hd : decode cc bp = .ok (.dup, 1)) (k : sm_Z p l e R s m args below meth c Qf D A sh cA ρ nL (bp + 1) L (.ref x :: .ref x :: st) nc ns M) : sm_Z p l e R s m args below meth c Qf D A sh cA ρ nL bp L (.ref x :: st) nc ns M :=
  fun H locs ls hR hl => lv_dup hx hb hd rfl (k H locs ls hR hl)
theorem sz_dup2 (hx : p.tables.exec = Jvm.exec) (hb : c.code = cc) {x : Int32} {y : Nat} (hd : decode cc bp = .ok (.dup2, 1)) (k : sm_Z p l e R s m args below meth c Qf D A sh cA ρ nL (bp + 1) L (.int x :: .ref y :: .int x :: .ref y :: st) nc ns M) : sm_Z p l e R s m args below meth c Qf D A sh cA ρ nL bp L (.int x :: .ref y :: st) nc ns M :=
  fun H locs ls hR hl => lv_dup2_11 hx hb hd rfl rfl (k H locs ls hR hl)
theorem sz_goto (hx : p.tables.exec = Jvm.exec) (hb : c.code = cc) {off : Int} {tgt : Nat} (ht : (bp : Int) + off = (tgt : Int)) (hd : decode cc bp = .ok (.goto off, 3)) (k : sm_Z p l e R s m args below meth c Qf D A sh cA ρ nL tgt L st nc ns M) : sm_Z p l e R s m args below meth c Qf D A sh cA ρ nL bp L st nc ns M :=
  fun H locs ls hR hl => lv_goto hx hb hd ht (k H locs ls hR hl)
theorem sz_if_eq (hx : p.tables.exec = Jvm.exec) (hb : c.code = cc) {x : Int32} {off : Int} {tgt : Nat} (ht : (bp : Int) + off = (tgt : Int)) (hd : decode cc bp = .ok (.ifCond .eq off, 3)) (kt : x = 0 → sm_Z p l e R s m args below meth c Qf D A sh cA ρ nL tgt L st nc ns M) (kf : ¬ (x = 0) → sm_Z p l e R s m args below meth c Qf D A sh cA ρ nL (bp + 3) L st nc ns M) : sm_Z p l e R s m args below meth c Qf D A sh cA ρ nL bp L (.int x :: st) nc ns M :=
  fun H locs ls hR hl => lv_if_eq hx hb hd ht (fun h => kt h H locs ls hR hl) (fun h => kf h H locs ls hR hl)
theorem sz_icmp_eq (hx : p.tables.exec = Jvm.exec) (hb : c.code = cc) {x y : Int32} {off : Int} {tgt : Nat} (ht : (bp : Int) + off = (tgt : Int)) (hd : decode cc bp = .ok (.if_icmp .eq off, 3)) (kt : x = y → sm_Z p l e R s m args below meth c Qf D A sh cA ρ nL tgt L st nc ns M) (kf : ¬ (x = y) → sm_Z p l e R s m args below meth c Qf D A sh cA ρ nL (bp + 3) L st nc ns M) : sm_Z p l e R s m args below meth c Qf D A sh cA ρ nL bp L (.int y :: .int x :: st) nc ns M :=
  fun H locs ls hR hl => lv_icmp_eq hx hb hd ht (fun h => kt h H locs ls hR hl) (fun h => kf h H locs ls hR hl)
theorem sz_if_ne (hx : p.tables.exec = Jvm.exec) (hb : c.code = cc) {x : Int32} {off : Int} {tgt : Nat} (ht : (bp : Int) + off = (tgt : Int)) (hd : decode cc bp = .ok (.ifCond .ne off, 3)) (kt : ¬ x = 0 → sm_Z p l e R s m args below meth c Qf D A sh cA ρ nL tgt L st nc ns M) (kf : ¬ (¬ x = 0) → sm_Z p l e R s m args below meth c Qf D A sh cA ρ nL (bp + 3) L st nc ns M) : sm_Z p l e R s m args below meth c Qf D A sh cA ρ nL bp L (.int x :: st) nc ns M :=
  fun H locs ls hR hl => lv_if_ne hx hb hd ht (fun h => kt h H locs ls hR hl) (fun h => kf (fun z => z h) H locs ls hR hl)
theorem sz_icmp_ne (hx : p.tables.exec = Jvm.exec) (hb : c.code = cc) {x y : Int32} {off : Int} {tgt : Nat} (ht : (bp : Int) + off = (tgt : Int)) (hd : decode cc bp = .ok (.if_icmp .ne off, 3)) (kt : ¬ x = y → sm_Z p l e R s m args below meth c Qf D A sh cA ρ nL tgt L st nc ns M) (kf : ¬ (¬ x = y) → sm_Z p l e R s m args below meth c Qf D A sh cA ρ nL (bp + 3) L st nc ns M) : sm_Z p l e R s m args below meth c Qf D A sh cA ρ nL bp L (.int y :: .int x :: st) nc ns M :=
  fun H locs ls hR hl => lv_icmp_ne hx hb hd ht (fun h => kt h H locs ls hR hl) (fun h => kf (fun z => z h) H locs ls hR hl)
theorem sz_if_lt (hx : p.tables.exec = Jvm.exec) (hb : c.code = cc) {x : Int32} {off : Int} {tgt : Nat} (ht : (bp : Int) + off = (tgt : Int)) (hd : decode cc bp = .ok (.ifCond .lt off, 3)) (kt : x < 0 → sm_Z p l e R s m args below meth c Qf D A sh cA ρ nL tgt L st nc ns M) (kf : ¬ (x < 0) → sm_Z p l e R s m args below meth c Qf D A sh cA ρ nL (bp + 3) L st nc ns M) : sm_Z p l e R s m args below meth c Qf D A sh cA ρ nL bp L (.int x :: st) nc ns M :=
  fun H locs ls hR hl => lv_if_lt hx hb hd ht (fun h => kt h H locs ls hR hl) (fun h => kf h H locs ls hR hl)
theorem sz_icmp_lt (hx : p.tables.exec = Jvm.exec) (hb : c.code = cc) {x y : Int32} {off : Int} {tgt : Nat} (ht : (bp : Int) + off = (tgt : Int)) (hd : decode cc bp = .ok (.if_icmp .lt off, 3)) (kt : x < y → sm_Z p l e R s m args below meth c Qf D A sh cA ρ nL tgt L st nc ns M) (kf : ¬ (x < y) → sm_Z p l e R s m args below meth c Qf D A sh cA ρ nL (bp + 3) L st nc ns M) : sm_Z p l e R s m args below meth c Qf D A sh cA ρ nL bp L (.int y :: .int x :: st) nc ns M :=
  fun H locs ls hR hl => lv_icmp_lt hx hb hd ht (fun h => kt h H locs ls hR hl) (fun h => kf h H locs ls hR hl)
theorem sz_if_ge (hx : p.tables.exec = Jvm.exec) (hb : c.code = cc) {x : Int32} {off : Int} {tgt : Nat} (ht : (bp : Int) + off = (tgt : Int)) (hd : decode cc bp = .ok (.ifCond .ge off, 3)) (kt : 0 ≤ x → sm_Z p l e R s m args below meth c Qf D A sh cA ρ nL tgt L st nc ns M) (kf : ¬ (0 ≤ x) → sm_Z p l e R s m args below meth c Qf D A sh cA ρ nL (bp + 3) L st nc ns M) : sm_Z p l e R s m args below meth c Qf D A sh cA ρ nL bp L (.int x :: st) nc ns M :=
  fun H locs ls hR hl => lv_if_ge hx hb hd ht (fun h => kt h H locs ls hR hl) (fun h => kf h H locs ls hR hl)
theorem sz_icmp_ge (hx : p.tables.exec = Jvm.exec) (hb : c.code = cc) {x y : Int32} {off : Int} {tgt : Nat} (ht : (bp : Int) + off = (tgt : Int)) (hd : decode cc bp = .ok (.if_icmp .ge off, 3)) (kt : y ≤ x → sm_Z p l e R s m args below meth c Qf D A sh cA ρ nL tgt L st nc ns M) (kf : ¬ (y ≤ x) → sm_Z p l e R s m args below meth c Qf D A sh cA ρ nL (bp + 3) L st nc ns M) : sm_Z p l e R s m args below meth c Qf D A sh cA ρ nL bp L (.int y :: .int x :: st) nc ns M :=
  fun H locs ls hR hl => lv_icmp_ge hx hb hd ht (fun h => kt h H locs ls hR hl) (fun h => kf h H locs ls hR hl)
theorem sz_if_gt (hx : p.tables.exec = Jvm.exec) (hb : c.code = cc) {x : Int32} {off : Int} {tgt : Nat} (ht : (bp : Int) + off = (tgt : Int)) (hd : decode cc bp = .ok (.ifCond .gt off, 3)) (kt : 0 < x → sm_Z p l e R s m args below meth c Qf D A sh cA ρ nL tgt L st nc ns M) (kf : ¬ (0 < x) → sm_Z p l e R s m args below meth c Qf D A sh cA ρ nL (bp + 3) L st nc ns M) : sm_Z p l e R s m args below meth c Qf D A sh cA ρ nL bp L (.int x :: st) nc ns M :=
  fun H locs ls hR hl => lv_if_gt hx hb hd ht (fun h => kt h H locs ls hR hl) (fun h => kf h H locs ls hR hl)
theorem sz_icmp_gt (hx : p.tables.exec = Jvm.exec) (hb : c.code = cc) {x y : Int32} {off : Int} {tgt : Nat} (ht : (bp : Int) + off = (tgt : Int)) (hd : decode cc bp = .ok (.if_icmp .gt off, 3)) (kt : y < x → sm_Z p l e R s m args below meth c Qf D A sh cA ρ nL tgt L st nc ns M) (kf : ¬ (y < x) → sm_Z p l e R s m args below meth c Qf D A sh cA ρ nL (bp + 3) L st nc ns M) : sm_Z p l e R s m args below meth c Qf D A sh cA ρ nL bp L (.int y :: .int x :: st) nc ns M :=
  fun H locs ls hR hl => lv_icmp_gt hx hb hd ht (fun h => kt h H locs ls hR hl) (fun h => kf h H locs ls hR hl)
theorem sz_if_le (hx : p.tables.exec = Jvm.exec) (hb : c.code = cc) {x : Int32} {off : Int} {tgt : Nat} (ht : (bp : Int) + off = (tgt : Int)) (hd : decode cc bp = .ok (.ifCond .le off, 3)) (kt : x ≤ 0 → sm_Z p l e R s m args below meth c Qf D A sh cA ρ nL tgt L st nc ns M) (kf : ¬ (x ≤ 0) → sm_Z p l e R s m args below meth c Qf D A sh cA ρ nL (bp + 3) L st nc ns M) : sm_Z p l e R s m args below meth c Qf D A sh cA ρ nL bp L (.int x :: st) nc ns M :=
  fun H locs ls hR hl => lv_if_le hx hb hd ht (fun h => kt h H locs ls hR hl) (fun h => kf h H locs ls hR hl)
theorem sz_icmp_le (hx : p.tables.exec = Jvm.exec) (hb : c.code = cc) {x y : Int32} {off : Int} {tgt : Nat} (ht : (bp : Int) + off = (tgt : Int)) (hd : decode cc bp = .ok (.if_icmp .le off, 3)) (kt : x ≤ y → sm_Z p l e R s m args below meth c Qf D A sh cA ρ nL tgt L st nc ns M) (kf : ¬ (x ≤ y) → sm_Z p l e R s m args below meth c Qf D A sh cA ρ nL (bp + 3) L st nc ns M) : sm_Z p l e R s m args below meth c Qf D A sh cA ρ nL bp L (.int y :: .int x :: st) nc ns M :=
  fun H locs ls hR hl => lv_icmp_le hx hb hd ht (fun h => kt h H locs ls hR hl) (fun h => kf h H locs ls hR hl)
theorem sm_in_vp {i : Int32} {n : Nat} (h : sm_in i n = true) : vp_in i n := by
  simp only [sm_in, Bool.and_eq_true, Bool.not_eq_true', decide_eq_false_iff_not, decide_eq_true_eq] at h
  intro q
  rcases q with q | q
  · exact h.1 q
  · omega
theorem sz_table (hx : p.tables.exec = Jvm.exec) (hb : c.code = cc) {dflt lo hi : Int} {offs : Array Int} {len : Nat} {x : Int32} {tgt : Nat} (hd : decode cc bp = .ok (.tableswitch dflt lo hi offs, len)) (ht : ((x.toInt < lo ∨ hi < x.toInt) ∧ (bp : Int) + dflt = (tgt : Int)) ∨ (¬ x.toInt < lo ∧ ¬ hi < x.toInt ∧ ∃ off, offs[(x.toInt - lo).toNat]? = some off ∧ (bp : Int) + off = (tgt : Int)))
    (k : sm_Z p l e R s m args below meth c Qf D A sh cA ρ nL tgt L st nc ns M) : sm_Z p l e R s m args below meth c Qf D A sh cA ρ nL bp L (.int x :: st) nc ns M := by
  intro H locs ls hR hl
  rcases ht with ⟨h1, h2⟩ | ⟨h1, h2, off, h3, h4⟩
  · exact lv_tableOut hx hb hd h1 h2 (k H locs ls hR hl)
  · exact lv_tableIn hx hb hd h1 h2 h3 h4 (k H locs ls hR hl)
theorem sz_look (hx : p.tables.exec = Jvm.exec) (hb : c.code = cc) {dflt : Int} {ps : Array (Int × Int)} {len : Nat} {x : Int32} {tgt : Nat} (hd : decode cc bp = .ok (.lookupswitch dflt ps, len)) (hp : (ps.toList.zip (ps.toList.drop 1)).all (fun (a, next) => a.1 < next.1) = true) (ht : (bp : Int) + Op.lookupswitch.offset ps.toList dflt x.toInt = (tgt : Int))
    (k : sm_Z p l e R s m args below meth c Qf D A sh cA ρ nL tgt L st nc ns M) : sm_Z p l e R s m args below meth c Qf D A sh cA ρ nL bp L (.int x :: st) nc ns M :=
  fun H locs ls hR hl => lv_lookup hx hb hd hp rfl ht (k H locs ls hR hl)
/-- what is known of the class of a field -/
def sm_fok (Ts : List Cond) (own : String) (idx ci a b : Nat) (fin : Bool) : Prop :=
  ci < 8 ∧ ∃ (C : String) (T : u_T) (N : Nat), sm_cls[ci]? = some (C, T, N) ∧ a < N ∧ (sm_fk.getD ci [])[a]? = some b ∧ Cond.fieldLink own idx C (T a).2.1 (T a).2.2.1 ∈ Ts ∧ (T a).1 = C ∧ (T a).2.2.2 = fin ∧
    (∀ w ∈ u_ws C T N, w ∈ Ts) ∧ (∀ a, a < N → ∀ b, b < N → a ≠ b → (T a).2.1 ≠ (T b).2.1) ∧ (∀ k, k < N → ∃ ty, parseFieldDescriptor (T k).2.2.1 = some ty) ∧
    (∃ ty, parseFieldDescriptor (T a).2.2.1 = some ty ∧ ((b = 0 ∧ ty = .int) ∨ (b = 1 ∧ ty = .boolean) ∨ (b = 2 ∧ ty = .long) ∨ (b = 3 ∧ ((∃ n, ty = .object n) ∨ ∃ t, ty = .array t))))
theorem sz_getf (hx : p.tables.exec = Jvm.exec) (hb : c.code = cc) {own : String} {Ts : List Cond} {idx ci a b N k0 : Nat} {fin : Bool} (hts : ∀ w ∈ Ts, w.before args s = true) (ho : s.vm.findClass own = some m.cls) (hK : va_K D sm_cls (sm_tys cA) s) (hF : sm_fok Ts own idx ci a b fin) (hs : sh[k0]? = some (ci, N)) (hd : decode cc bp = .ok (.getfield idx, 3))
    (k : ∀ v, sm_v ρ v = sm_f1 ρ M k0 a b → sm_Z p l e R s m args below meth c Qf D A sh cA ρ nL (bp + 3) L (v :: st) nc ns M) {v : Value} (hv : sm_v ρ v = sm_f1 ρ M k0 a b) : sm_Z p l e R s m args below meth c Qf D A sh cA ρ nL bp L (.ref k0 :: st) nc ns M := by
  intro H locs ls hR hl
  obtain ⟨h8, C, T, N', hc, ha, hk, hlk, h1, -, hin, -, -, -⟩ := hF
  have he : (sm_ws sh cA ρ M)[k0]? = some (ρ k0, .inr (ci, sm_fv ρ M k0 (sm_fk.getD ci []))) := by rw [sm_ws_at hs, sm_cell_obj h8]
  have hk2 := k v hv H locs ls hR hl
  rw [List.map_cons, hv] at hk2
  exact va_get (ref := C) hx hb hts hin ho hK hR.1 k0 he hc a ha (hts _ hlk) (fun x hx => by rw [h1] at hx; exact hx) (sm_fv_at hk) hd hk2
theorem sz_putf (hx : p.tables.exec = Jvm.exec) (hb : c.code = cc) {own : String} {Ts : List Cond} {idx ci a b N k0 : Nat} {v : Value} {M' : sm_M} (hts : ∀ w ∈ Ts, w.before args s = true) (ho : s.vm.findClass own = some m.cls) (hK : va_K D sm_cls (sm_tys cA) s) (hF : sm_fok Ts own idx ci a b false) (hs : sh[k0]? = some (ci, N)) (hd : decode cc bp = .ok (.putfield idx, 3))
    (hv : sm_f1 ρ M' k0 a b = sm_v ρ v) (hn : ∀ ty, ((b = 0 ∧ ty = .int) ∨ (b = 1 ∧ ty = .boolean) ∨ (b = 2 ∧ ty = .long) ∨ (b = 3 ∧ ((∃ n, ty = .object n) ∨ ∃ t, ty = .array t))) → narrow ty (sm_v ρ v) = sm_v ρ v ∧ fits ty (sm_v ρ v) = true)
    (hof : ∀ j kd, j ≠ a → sm_f1 ρ M' k0 j kd = sm_f1 ρ M k0 j kd) (h1' : ∀ j, j ≠ k0 → M'.1 j = M.1 j) (h2' : ∀ j, j ≠ k0 → M'.2.1 j = M.2.1 j) (h3' : ∀ j, j ≠ k0 → M'.2.2 j = M.2.2 j)
    (k : sm_Z p l e R s m args below meth c Qf D A sh cA ρ nL (bp + 3) L st nc ns M') : sm_Z p l e R s m args below meth c Qf D A sh cA ρ nL bp L (v :: .ref k0 :: st) nc ns M := by
  intro H locs ls hR hl
  obtain ⟨h8, C, T, N', hc, ha, hk, hlk, h1, hfin, hin, hnm, hty, ty, hp, hkd⟩ := hF
  have he : (sm_ws sh cA ρ M)[k0]? = some (ρ k0, .inr (ci, sm_fv ρ M k0 (sm_fk.getD ci []))) := by rw [sm_ws_at hs, sm_cell_obj h8]
  obtain ⟨ty0, hty0⟩ : ∃ ty0 : Nat → FieldType, ∀ k, k < N' → parseFieldDescriptor (T k).2.2.1 = some (ty0 k) := by
    refine ⟨fun k => (parseFieldDescriptor (T k).2.2.1).getD .int, fun k hk => ?_⟩
    obtain ⟨t, ht⟩ := hty k hk
    simp [ht]
  obtain ⟨n1, n2⟩ := hn ty hkd
  refine va_put (ref := C) hx hb hts hin ty0 hty0 hnm ho hK hR.1 hR.2.1 hR.2.2 k0 he hc a ha (hts _ hlk) (fun x hx => by rw [h1] at hx; exact hx) hfin hp n1 n2 (by rw [sm_fv_len]; exact (List.getElem?_eq_some_iff.mp hk).1) hd (fun H1 locs1 hP1 hD1 hS1 => ?_)
  rw [sm_set_F hs h8 hk hv hof h1' h2' h3'] at hP1 hD1
  exact k H1 locs1 ls ⟨hP1, hD1, hS1⟩ hl
theorem sm_ws_8 {k0 n : Nat} (hs : sh[k0]? = some (8, n)) : (sm_ws sh cA ρ M)[k0]? = some (ρ k0, .inl (cA 0, n, .inl (M.1 k0))) := sm_ws_at hs
theorem sm_ws_9 {k0 n : Nat} (hs : sh[k0]? = some (9, n)) : (sm_ws sh cA ρ M)[k0]? = some (ρ k0, .inl (cA 1, n, .inl (M.1 k0))) := sm_ws_at hs
theorem sm_ws_10 {k0 n : Nat} (hs : sh[k0]? = some (10, n)) : (sm_ws sh cA ρ M)[k0]? = some (ρ k0, .inl (cA 2, n, .inr (.inl (M.2.1 k0)))) := sm_ws_at hs
theorem sz_iald (hx : p.tables.exec = Jvm.exec) (hb : c.code = cc) (hK : va_K D sm_cls (sm_tys cA) s) {k0 n : Nat} {i : Int32} (hs : sh[k0]? = some (8, n)) (hi : sm_in i n = true) (hd : decode cc bp = .ok (.iaload, 1)) (k : sm_Z p l e R s m args below meth c Qf D A sh cA ρ nL (bp + 1) L (.int (M.1 k0 i.toNatClampNeg) :: st) nc ns M) : sm_Z p l e R s m args below meth c Qf D A sh cA ρ nL bp L (.int i :: .ref k0 :: st) nc ns M :=
  fun H locs ls hR hl => va_iald hx hb hK hR.1 k0 0 (sm_ws_8 hs) rfl (sm_in_vp hi) hd (k H locs ls hR hl)
theorem sz_zald (hx : p.tables.exec = Jvm.exec) (hb : c.code = cc) (hK : va_K D sm_cls (sm_tys cA) s) {k0 n : Nat} {i : Int32} (hs : sh[k0]? = some (9, n)) (hi : sm_in i n = true) (hd : decode cc bp = .ok (.baload, 1)) (k : sm_Z p l e R s m args below meth c Qf D A sh cA ρ nL (bp + 1) L (.int (M.1 k0 i.toNatClampNeg) :: st) nc ns M) : sm_Z p l e R s m args below meth c Qf D A sh cA ρ nL bp L (.int i :: .ref k0 :: st) nc ns M :=
  fun H locs ls hR hl => va_zald hx hb hK hR.1 k0 1 (sm_ws_9 hs) rfl (sm_in_vp hi) hd (k H locs ls hR hl)
theorem sz_lald (hx : p.tables.exec = Jvm.exec) (hb : c.code = cc) (hK : va_K D sm_cls (sm_tys cA) s) {k0 n : Nat} {i : Int32} (hs : sh[k0]? = some (10, n)) (hi : sm_in i n = true) (hd : decode cc bp = .ok (.laload, 1)) (k : sm_Z p l e R s m args below meth c Qf D A sh cA ρ nL (bp + 1) L (.long (M.2.1 k0 i.toNatClampNeg) :: st) nc ns M) : sm_Z p l e R s m args below meth c Qf D A sh cA ρ nL bp L (.int i :: .ref k0 :: st) nc ns M :=
  fun H locs ls hR hl => va_lald hx hb hK hR.1 k0 2 (sm_ws_10 hs) rfl (sm_in_vp hi) hd (k H locs ls hR hl)
theorem sz_iast (hx : p.tables.exec = Jvm.exec) (hb : c.code = cc) (hK : va_K D sm_cls (sm_tys cA) s) {k0 n : Nat} {i x : Int32} (hs : sh[k0]? = some (8, n)) (hi : sm_in i n = true) (hd : decode cc bp = .ok (.iastore, 1)) (k : sm_Z p l e R s m args below meth c Qf D A sh cA ρ nL (bp + 1) L st nc ns (va_up M.1 k0 (upd (M.1 k0) i.toNatClampNeg x), M.2)) : sm_Z p l e R s m args below meth c Qf D A sh cA ρ nL bp L (.int x :: .int i :: .ref k0 :: st) nc ns M := by
  intro H locs ls hR hl
  refine va_iast hx hb hK hR.1 hR.2.1 hR.2.2 k0 0 (sm_ws_8 hs) rfl (sm_in_vp hi) hd (fun H1 locs1 hP1 hD1 hS1 => ?_)
  rw [sm_set_I (t := 0) hs (by decide)] at hP1 hD1
  exact k H1 locs1 ls ⟨hP1, hD1, hS1⟩ hl
theorem sz_zast (hx : p.tables.exec = Jvm.exec) (hb : c.code = cc) (hK : va_K D sm_cls (sm_tys cA) s) {k0 n : Nat} {i x : Int32} (hs : sh[k0]? = some (9, n)) (hi : sm_in i n = true) (hd : decode cc bp = .ok (.bastore, 1)) (k : sm_Z p l e R s m args below meth c Qf D A sh cA ρ nL (bp + 1) L st nc ns (va_up M.1 k0 (upd (M.1 k0) i.toNatClampNeg (vp_nar .boolean x)), M.2)) : sm_Z p l e R s m args below meth c Qf D A sh cA ρ nL bp L (.int x :: .int i :: .ref k0 :: st) nc ns M := by
  intro H locs ls hR hl
  refine va_zast hx hb hK hR.1 hR.2.1 hR.2.2 k0 1 (sm_ws_9 hs) rfl (sm_in_vp hi) hd (fun H1 locs1 hP1 hD1 hS1 => ?_)
  rw [sm_set_I (t := 1) hs (by decide)] at hP1 hD1
  exact k H1 locs1 ls ⟨hP1, hD1, hS1⟩ hl
theorem sz_last (hx : p.tables.exec = Jvm.exec) (hb : c.code = cc) (hK : va_K D sm_cls (sm_tys cA) s) {k0 n : Nat} {i : Int32} {x : Int64} (hs : sh[k0]? = some (10, n)) (hi : sm_in i n = true) (hd : decode cc bp = .ok (.lastore, 1)) (k : sm_Z p l e R s m args below meth c Qf D A sh cA ρ nL (bp + 1) L st nc ns (M.1, va_up M.2.1 k0 (vp_updL (M.2.1 k0) i.toNatClampNeg x), M.2.2)) : sm_Z p l e R s m args below meth c Qf D A sh cA ρ nL bp L (.long x :: .int i :: .ref k0 :: st) nc ns M := by
  intro H locs ls hR hl
  refine va_last hx hb hK hR.1 hR.2.1 hR.2.2 k0 2 (sm_ws_10 hs) rfl (sm_in_vp hi) hd (fun H1 locs1 hP1 hD1 hS1 => ?_)
  rw [sm_set_J hs] at hP1 hD1
  exact k H1 locs1 ls ⟨hP1, hD1, hS1⟩ hl
theorem sz_alen (hx : p.tables.exec = Jvm.exec) (hb : c.code = cc) (hK : va_K D sm_cls (sm_tys cA) s) {k0 t n : Nat} (hs : sh[k0]? = some (8 + t, n)) (ht : t < 3) (hd : decode cc bp = .ok (.arraylength, 1)) (k : sm_Z p l e R s m args below meth c Qf D A sh cA ρ nL (bp + 1) L (.int (Int32.ofNat n) :: st) nc ns M) : sm_Z p l e R s m args below meth c Qf D A sh cA ρ nL bp L (.ref k0 :: st) nc ns M := by
  intro H locs ls hR hl
  rcases (show t = 0 ∨ t = 1 ∨ t = 2 by omega) with rfl | rfl | rfl
  · exact va_alen hx hb hK hR.1 k0 0 (sm_ws_8 hs) rfl rfl hd (k H locs ls hR hl)
  · exact va_alen hx hb hK hR.1 k0 1 (sm_ws_9 hs) rfl rfl hd (k H locs ls hR hl)
  · exact va_alen hx hb hK hR.1 k0 2 (sm_ws_10 hs) rfl rfl hd (k H locs ls hR hl)
theorem sz_sald (hx : p.tables.exec = Jvm.exec) (hb : c.code = cc) {X : Nat × (Nat → Int32)} (hX : va_X (ρ sm_SCR) X.1 X.2 s s.heap) (hbl : ρ sm_SCR < s.heap.size) (hbA : ¬ A (ρ sm_SCR)) {i : Int32} (hi : sm_in i X.1 = true) (hd : decode cc bp = .ok (.iaload, 1)) (k : sm_Z p l e R s m args below meth c Qf D A sh cA ρ nL (bp + 1) L (.int (X.2 i.toNatClampNeg) :: st) nc ns M) : sm_Z p l e R s m args below meth c Qf D A sh cA ρ nL bp L (.int i :: .ref sm_SCR :: st) nc ns M :=
  fun H locs ls hR hl => va_sld hx hb hX hbl hbA hR.2.2 (sm_in_vp hi) hd (k H locs ls hR hl)
theorem sz_slen (hx : p.tables.exec = Jvm.exec) (hb : c.code = cc) {X : Nat × (Nat → Int32)} (hX : va_X (ρ sm_SCR) X.1 X.2 s s.heap) (hbl : ρ sm_SCR < s.heap.size) (hbA : ¬ A (ρ sm_SCR)) (hd : decode cc bp = .ok (.arraylength, 1)) (k : sm_Z p l e R s m args below meth c Qf D A sh cA ρ nL (bp + 1) L (.int (Int32.ofNat X.1) :: st) nc ns M) : sm_Z p l e R s m args below meth c Qf D A sh cA ρ nL bp L (.ref sm_SCR :: st) nc ns M :=
  fun H locs ls hR hl => va_slen hx hb hX hbl hbA hR.2.2 hd (k H locs ls hR hl)
theorem sz_copy (hx : p.tables.exec = Jvm.exec) (hb : c.code = cc) (hml : c.maxLocals = nL) {own : String} {Ts : List Cond} {idx : Nat} (hts : ∀ w ∈ Ts, w.before args s = true) (ho : s.vm.findClass own = some m.cls) (hK : va_K D sm_cls (sm_tys cA) s) (hlk : Cond.methodLink own idx arraycopyName ∈ Ts) (hnat : Cond.native arraycopyName ∈ Ts) (hst : Cond.static arraycopyName ∈ Ts) (hin : Cond.initialized "java/lang/System" ∈ Ts)
    {k0 k1 n0 n1 : Nat} {sp dp n : Int32} (hs0 : sh[k0]? = some (8, n0)) (hs1 : sh[k1]? = some (8, n1)) (hg : ¬ sp < 0 ∧ ¬ dp < 0 ∧ ¬ n < 0 ∧ sp.toNatClampNeg + n.toNatClampNeg ≤ n0 ∧ dp.toNatClampNeg + n.toNatClampNeg ≤ n1) (hw : (st.map fun v => v.category).sum ≤ 8) (hfr : 1 ≤ R.frames) (hlo : 200 ≤ R.locals) (hd : decode cc bp = .ok (.invokestatic idx, 3))
    (k : sm_Z p l e R s m args below meth c Qf D A sh cA ρ nL (bp + 3) L st nc ns (va_up M.1 k1 (va_cpy (M.1 k0) (M.1 k1) sp.toNatClampNeg dp.toNatClampNeg n.toNatClampNeg), M.2)) : sm_Z p l e R s m args below meth c Qf D A sh cA ρ nL bp L (.int n :: .int dp :: .ref k1 :: .int sp :: .ref k0 :: st) nc ns M := by
  intro H locs ls hR hl
  have hw2 : ((st.map (sm_v ρ)).map fun v => v.category).sum ≤ 8 := by
    rw [List.map_map, show ((fun v : Value => v.category) ∘ sm_v ρ) = fun v => v.category from funext fun v => sm_v_cat ρ v]
    exact hw
  refine va_copyi hx hb (hml.trans hl.1.symm) ho (hts _ hlk) (hts _ hnat) (hts _ hst) (hts _ hin) hK hR.1 hR.2.1 hR.2.2 k0 k1 0 0 (sm_ws_8 hs0) (sm_ws_8 hs1) rfl rfl rfl hg.1 hg.2.1 hg.2.2.1 hg.2.2.2.1 hg.2.2.2.2 (fun _ _ => rfl) hfr (by
    have : nativeFrameWords "java/lang/System" "arraycopy" 5 + 11 ≤ 192 := by decide
    omega) hd (fun H1 locs1 hP1 hD1 hS1 => ?_)
  rw [sm_set_I (t := 0) hs1 (by decide)] at hP1 hD1
  exact k H1 locs1 ls ⟨hP1, hD1, hS1⟩ hl
end SZ2
