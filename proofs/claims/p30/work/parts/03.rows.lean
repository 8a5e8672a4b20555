section ZR
variable {X : z_X} {E : z_ET} {cc : ByteArray} {nL : Nat} {own : String} {fr lo nn : Nat} {gC gM : z_G} {pc : Nat} {lv : List (Nat × Value)} {rest : List Value}
theorem z_iadd (hE : z_EV X E cc nL own fr lo nn) {x y : Int32} (d : decode cc pc = .ok (.iadd, 1))  (k : z_V X E nL gC gM (pc + 1) lv (.int (x + y) :: rest)) : z_V X E nL gC gM pc lv (.int y :: .int x :: rest) := by
  obtain ⟨p, l, e, R, s, m, args, below, meth, c, cells, slots, Q⟩ := E
  exact fun H locs ls hl hP hS => lv_iadd hE.1 hE.2.1 d (k H locs ls hl hP hS)
theorem z_isub (hE : z_EV X E cc nL own fr lo nn) {x y : Int32} (d : decode cc pc = .ok (.isub, 1))  (k : z_V X E nL gC gM (pc + 1) lv (.int (x - y) :: rest)) : z_V X E nL gC gM pc lv (.int y :: .int x :: rest) := by
  obtain ⟨p, l, e, R, s, m, args, below, meth, c, cells, slots, Q⟩ := E
  exact fun H locs ls hl hP hS => lv_isub hE.1 hE.2.1 d (k H locs ls hl hP hS)
theorem z_imul (hE : z_EV X E cc nL own fr lo nn) {x y : Int32} (d : decode cc pc = .ok (.imul, 1))  (k : z_V X E nL gC gM (pc + 1) lv (.int (x * y) :: rest)) : z_V X E nL gC gM pc lv (.int y :: .int x :: rest) := by
  obtain ⟨p, l, e, R, s, m, args, below, meth, c, cells, slots, Q⟩ := E
  exact fun H locs ls hl hP hS => lv_imul hE.1 hE.2.1 d (k H locs ls hl hP hS)
theorem z_iand (hE : z_EV X E cc nL own fr lo nn) {x y : Int32} (d : decode cc pc = .ok (.iand, 1))  (k : z_V X E nL gC gM (pc + 1) lv (.int (x &&& y) :: rest)) : z_V X E nL gC gM pc lv (.int y :: .int x :: rest) := by
  obtain ⟨p, l, e, R, s, m, args, below, meth, c, cells, slots, Q⟩ := E
  exact fun H locs ls hl hP hS => lv_iand hE.1 hE.2.1 d (k H locs ls hl hP hS)
theorem z_ior (hE : z_EV X E cc nL own fr lo nn) {x y : Int32} (d : decode cc pc = .ok (.ior, 1))  (k : z_V X E nL gC gM (pc + 1) lv (.int (x ||| y) :: rest)) : z_V X E nL gC gM pc lv (.int y :: .int x :: rest) := by
  obtain ⟨p, l, e, R, s, m, args, below, meth, c, cells, slots, Q⟩ := E
  exact fun H locs ls hl hP hS => lv_ior hE.1 hE.2.1 d (k H locs ls hl hP hS)
theorem z_ixor (hE : z_EV X E cc nL own fr lo nn) {x y : Int32} (d : decode cc pc = .ok (.ixor, 1))  (k : z_V X E nL gC gM (pc + 1) lv (.int (x ^^^ y) :: rest)) : z_V X E nL gC gM pc lv (.int y :: .int x :: rest) := by
  obtain ⟨p, l, e, R, s, m, args, below, meth, c, cells, slots, Q⟩ := E
  exact fun H locs ls hl hP hS => lv_ixor hE.1 hE.2.1 d (k H locs ls hl hP hS)
theorem z_ishl (hE : z_EV X E cc nL own fr lo nn) {x y : Int32} (d : decode cc pc = .ok (.ishl, 1))  (k : z_V X E nL gC gM (pc + 1) lv (.int (x <<< (y &&& 31)) :: rest)) : z_V X E nL gC gM pc lv (.int y :: .int x :: rest) := by
  obtain ⟨p, l, e, R, s, m, args, below, meth, c, cells, slots, Q⟩ := E
  exact fun H locs ls hl hP hS => lv_ishl hE.1 hE.2.1 d (k H locs ls hl hP hS)
theorem z_ishr (hE : z_EV X E cc nL own fr lo nn) {x y : Int32} (d : decode cc pc = .ok (.ishr, 1))  (k : z_V X E nL gC gM (pc + 1) lv (.int (x >>> (y &&& 31)) :: rest)) : z_V X E nL gC gM pc lv (.int y :: .int x :: rest) := by
  obtain ⟨p, l, e, R, s, m, args, below, meth, c, cells, slots, Q⟩ := E
  exact fun H locs ls hl hP hS => lv_ishr hE.1 hE.2.1 d (k H locs ls hl hP hS)
theorem z_iushr (hE : z_EV X E cc nL own fr lo nn) {x y : Int32} (d : decode cc pc = .ok (.iushr, 1))  (k : z_V X E nL gC gM (pc + 1) lv (.int ((x.toUInt32 >>> (y.toUInt32 &&& Int32.toUInt32 31)).toInt32) :: rest)) : z_V X E nL gC gM pc lv (.int y :: .int x :: rest) := by
  obtain ⟨p, l, e, R, s, m, args, below, meth, c, cells, slots, Q⟩ := E
  exact fun H locs ls hl hP hS => lv_iushr hE.1 hE.2.1 d rfl (k H locs ls hl hP hS)
theorem z_ladd (hE : z_EV X E cc nL own fr lo nn) {x y : Int64} (d : decode cc pc = .ok (.ladd, 1))  (k : z_V X E nL gC gM (pc + 1) lv (.long (x + y) :: rest)) : z_V X E nL gC gM pc lv (.long y :: .long x :: rest) := by
  obtain ⟨p, l, e, R, s, m, args, below, meth, c, cells, slots, Q⟩ := E
  exact fun H locs ls hl hP hS => lv_ladd hE.1 hE.2.1 d (k H locs ls hl hP hS)
theorem z_lmul (hE : z_EV X E cc nL own fr lo nn) {x y : Int64} (d : decode cc pc = .ok (.lmul, 1))  (k : z_V X E nL gC gM (pc + 1) lv (.long (x * y) :: rest)) : z_V X E nL gC gM pc lv (.long y :: .long x :: rest) := by
  obtain ⟨p, l, e, R, s, m, args, below, meth, c, cells, slots, Q⟩ := E
  exact fun H locs ls hl hP hS => lv_lmul hE.1 hE.2.1 d (k H locs ls hl hP hS)
theorem z_ineg (hE : z_EV X E cc nL own fr lo nn) {x : Int32} (d : decode cc pc = .ok (.ineg, 1))  (k : z_V X E nL gC gM (pc + 1) lv (.int (-x) :: rest)) : z_V X E nL gC gM pc lv (.int x :: rest) := by
  obtain ⟨p, l, e, R, s, m, args, below, meth, c, cells, slots, Q⟩ := E
  exact fun H locs ls hl hP hS => lv_ineg hE.1 hE.2.1 d (k H locs ls hl hP hS)
theorem z_idiv (hE : z_EV X E cc nL own fr lo nn) {x y : Int32} (d : decode cc pc = .ok (.idiv, 1)) (h0 : ¬ y = 0) (k : z_V X E nL gC gM (pc + 1) lv (.int (x / y) :: rest)) : z_V X E nL gC gM pc lv (.int y :: .int x :: rest) := by
  obtain ⟨p, l, e, R, s, m, args, below, meth, c, cells, slots, Q⟩ := E
  exact fun H locs ls hl hP hS => lv_idiv hE.1 hE.2.1 d h0 (k H locs ls hl hP hS)
theorem z_irem (hE : z_EV X E cc nL own fr lo nn) {x y : Int32} (d : decode cc pc = .ok (.irem, 1)) (h0 : ¬ y = 0) (k : z_V X E nL gC gM (pc + 1) lv (.int (z_rem x y) :: rest)) : z_V X E nL gC gM pc lv (.int y :: .int x :: rest) := by
  obtain ⟨p, l, e, R, s, m, args, below, meth, c, cells, slots, Q⟩ := E
  exact fun H locs ls hl hP hS => lv_irem hE.1 hE.2.1 d h0 (k H locs ls hl hP hS)
theorem z_ldiv (hE : z_EV X E cc nL own fr lo nn) {x y : Int64} (d : decode cc pc = .ok (.ldiv, 1)) (h0 : ¬ y = 0) (k : z_V X E nL gC gM (pc + 1) lv (.long (x / y) :: rest)) : z_V X E nL gC gM pc lv (.long y :: .long x :: rest) := by
  obtain ⟨p, l, e, R, s, m, args, below, meth, c, cells, slots, Q⟩ := E
  exact fun H locs ls hl hP hS => lv_ldiv hE.1 hE.2.1 d h0 (k H locs ls hl hP hS)
theorem z_lrem (hE : z_EV X E cc nL own fr lo nn) {x y : Int64} (d : decode cc pc = .ok (.lrem, 1)) (h0 : ¬ y = 0) (k : z_V X E nL gC gM (pc + 1) lv (.long (z_remL x y) :: rest)) : z_V X E nL gC gM pc lv (.long y :: .long x :: rest) := by
  obtain ⟨p, l, e, R, s, m, args, below, meth, c, cells, slots, Q⟩ := E
  exact fun H locs ls hl hP hS => lv_lrem hE.1 hE.2.1 d h0 (k H locs ls hl hP hS)
theorem z_i2l (hE : z_EV X E cc nL own fr lo nn) {x : Int32} (d : decode cc pc = .ok (.i2l, 1))  (k : z_V X E nL gC gM (pc + 1) lv (.long x.toInt64 :: rest)) : z_V X E nL gC gM pc lv (.int x :: rest) := by
  obtain ⟨p, l, e, R, s, m, args, below, meth, c, cells, slots, Q⟩ := E
  exact fun H locs ls hl hP hS => lv_i2l hE.1 hE.2.1 d rfl (k H locs ls hl hP hS)
theorem z_l2i (hE : z_EV X E cc nL own fr lo nn) {x : Int64} (d : decode cc pc = .ok (.l2i, 1))  (k : z_V X E nL gC gM (pc + 1) lv (.int x.toInt32 :: rest)) : z_V X E nL gC gM pc lv (.long x :: rest) := by
  obtain ⟨p, l, e, R, s, m, args, below, meth, c, cells, slots, Q⟩ := E
  exact fun H locs ls hl hP hS => lv_l2i hE.1 hE.2.1 d rfl (k H locs ls hl hP hS)
theorem z_i2b (hE : z_EV X E cc nL own fr lo nn) {x : Int32} (d : decode cc pc = .ok (.i2b, 1))  (k : z_V X E nL gC gM (pc + 1) lv (.int x.toInt8.toInt32 :: rest)) : z_V X E nL gC gM pc lv (.int x :: rest) := by
  obtain ⟨p, l, e, R, s, m, args, below, meth, c, cells, slots, Q⟩ := E
  exact fun H locs ls hl hP hS => lv_i2b hE.1 hE.2.1 d rfl (k H locs ls hl hP hS)
theorem z_i2c (hE : z_EV X E cc nL own fr lo nn) {x : Int32} (d : decode cc pc = .ok (.i2c, 1))  (k : z_V X E nL gC gM (pc + 1) lv (.int (x.toUInt32 % 65536).toInt32 :: rest)) : z_V X E nL gC gM pc lv (.int x :: rest) := by
  obtain ⟨p, l, e, R, s, m, args, below, meth, c, cells, slots, Q⟩ := E
  exact fun H locs ls hl hP hS => lv_i2c hE.1 hE.2.1 d rfl (k H locs ls hl hP hS)
theorem z_lcmp (hE : z_EV X E cc nL own fr lo nn) {x y : Int64} (d : decode cc pc = .ok (.lcmp, 1))  (k : z_V X E nL gC gM (pc + 1) lv (.int (lg_cmp x y) :: rest)) : z_V X E nL gC gM pc lv (.long y :: .long x :: rest) := by
  obtain ⟨p, l, e, R, s, m, args, below, meth, c, cells, slots, Q⟩ := E
  exact fun H locs ls hl hP hS => W.lcmp hE.1 hE.2.1 d (k H locs ls hl hP hS)
theorem z_dup (hE : z_EV X E cc nL own fr lo nn) {va : Value} (d : decode cc pc = .ok (.dup, 1)) (hc : va.category = 1) (k : z_V X E nL gC gM (pc + 1) lv (va :: va :: rest)) : z_V X E nL gC gM pc lv (va :: rest) := by
  obtain ⟨p, l, e, R, s, m, args, below, meth, c, cells, slots, Q⟩ := E
  exact fun H locs ls hl hP hS => lv_dup hE.1 hE.2.1 d hc (k H locs ls hl hP hS)
theorem z_dup2 (hE : z_EV X E cc nL own fr lo nn) {va vb : Value} (d : decode cc pc = .ok (.dup2, 1)) (hc : va.category = 1) (hc2 : vb.category = 1) (k : z_V X E nL gC gM (pc + 1) lv (va :: vb :: va :: vb :: rest)) : z_V X E nL gC gM pc lv (va :: vb :: rest) := by
  obtain ⟨p, l, e, R, s, m, args, below, meth, c, cells, slots, Q⟩ := E
  exact fun H locs ls hl hP hS => lv_dup2_11 hE.1 hE.2.1 d hc hc2 (k H locs ls hl hP hS)
theorem z_dup_x1 (hE : z_EV X E cc nL own fr lo nn) {va vb : Value} (d : decode cc pc = .ok (.dup_x1, 1)) (hc : va.category = 1) (hc2 : vb.category = 1) (k : z_V X E nL gC gM (pc + 1) lv (va :: vb :: va :: rest)) : z_V X E nL gC gM pc lv (va :: vb :: rest) := by
  obtain ⟨p, l, e, R, s, m, args, below, meth, c, cells, slots, Q⟩ := E
  exact fun H locs ls hl hP hS => lv_dup_x1 hE.1 hE.2.1 d hc hc2 (k H locs ls hl hP hS)
theorem z_pop (hE : z_EV X E cc nL own fr lo nn) {va : Value} (d : decode cc pc = .ok (.pop, 1)) (hc : va.category = 1) (k : z_V X E nL gC gM (pc + 1) lv (rest)) : z_V X E nL gC gM pc lv (va :: rest) := by
  obtain ⟨p, l, e, R, s, m, args, below, meth, c, cells, slots, Q⟩ := E
  exact fun H locs ls hl hP hS => lv_pop hE.1 hE.2.1 d hc (k H locs ls hl hP hS)
theorem z_iconst (hE : z_EV X E cc nL own fr lo nn) {n : Int} {v : Int32} (d : decode cc pc = .ok (.iconst n, 1)) (hv : Int32.ofInt n = v) (k : z_V X E nL gC gM (pc + 1) lv (.int v :: rest)) : z_V X E nL gC gM pc lv (rest) := by
  obtain ⟨p, l, e, R, s, m, args, below, meth, c, cells, slots, Q⟩ := E
  exact fun H locs ls hl hP hS => lv_iconst hE.1 hE.2.1 d hv (k H locs ls hl hP hS)
theorem z_bipush (hE : z_EV X E cc nL own fr lo nn) {n : Int} {v : Int32} (d : decode cc pc = .ok (.bipush n, 2)) (hv : (Int8.ofInt n).toInt32 = v) (k : z_V X E nL gC gM (pc + 2) lv (.int v :: rest)) : z_V X E nL gC gM pc lv (rest) := by
  obtain ⟨p, l, e, R, s, m, args, below, meth, c, cells, slots, Q⟩ := E
  exact fun H locs ls hl hP hS => lv_bipush hE.1 hE.2.1 d hv (k H locs ls hl hP hS)
theorem z_sipush (hE : z_EV X E cc nL own fr lo nn) {n : Int} {v : Int32} (d : decode cc pc = .ok (.sipush n, 3)) (hv : (Int16.ofInt n).toInt32 = v) (k : z_V X E nL gC gM (pc + 3) lv (.int v :: rest)) : z_V X E nL gC gM pc lv (rest) := by
  obtain ⟨p, l, e, R, s, m, args, below, meth, c, cells, slots, Q⟩ := E
  exact fun H locs ls hl hP hS => lv_sipush hE.1 hE.2.1 d hv (k H locs ls hl hP hS)
theorem z_lconst (hE : z_EV X E cc nL own fr lo nn) {n : Fin 2} {v : Int64} (d : decode cc pc = .ok (.lconst n, 1)) (hv : Int64.ofNat (n : Nat) = v) (k : z_V X E nL gC gM (pc + 1) lv (.long v :: rest)) : z_V X E nL gC gM pc lv (rest) := by
  obtain ⟨p, l, e, R, s, m, args, below, meth, c, cells, slots, Q⟩ := E
  exact fun H locs ls hl hP hS => lv_lconst hE.1 hE.2.1 d hv (k H locs ls hl hP hS)
theorem z_ldc (hE : z_EV X E cc nL own fr lo nn) {idx : Nat} {v : Int32} (d : decode cc pc = .ok (.ldc idx, 2)) (hw : Cond.constant own idx v ∈ lw_good) (k : z_V X E nL gC gM (pc + 2) lv (.int v :: rest)) : z_V X E nL gC gM pc lv (rest) := by
  obtain ⟨p, l, e, R, s, m, args, below, meth, c, cells, slots, Q⟩ := E
  exact fun H locs ls hl hP hS => lv_ldc hE.1 hE.2.1 hE.2.2.2.1 (hE.2.2.2.2.1 _ hw) d (k H locs ls hl hP hS)
theorem z_ldcw (hE : z_EV X E cc nL own fr lo nn) {idx : Nat} {v : Int32} (d : decode cc pc = .ok (.ldc_w idx, 3)) (hw : Cond.constant own idx v ∈ lw_good) (k : z_V X E nL gC gM (pc + 3) lv (.int v :: rest)) : z_V X E nL gC gM pc lv (rest) := by
  obtain ⟨p, l, e, R, s, m, args, below, meth, c, cells, slots, Q⟩ := E
  exact fun H locs ls hl hP hS => lv_ldcw hE.1 hE.2.1 hE.2.2.2.1 (hE.2.2.2.2.1 _ hw) d (k H locs ls hl hP hS)
theorem z_ldc2 (hE : z_EV X E cc nL own fr lo nn) {idx : Nat} {v : Int64} (d : decode cc pc = .ok (.ldc2_w idx, 3)) (hw : Cond.constantLong own idx v ∈ lw_good) (k : z_V X E nL gC gM (pc + 3) lv (.long v :: rest)) : z_V X E nL gC gM pc lv (rest) := by
  obtain ⟨p, l, e, R, s, m, args, below, meth, c, cells, slots, Q⟩ := E
  exact fun H locs ls hl hP hS => lv_ldc2 hE.1 hE.2.1 hE.2.2.2.1 (hE.2.2.2.2.1 _ hw) d (k H locs ls hl hP hS)
theorem z_iload_n (hE : z_EV X E cc nL own fr lo nn) {q : Fin 4} {x : Int32} (j : Nat) (d : decode cc pc = .ok (.iload_n q, 1)) (hj : lv[j]? = some ((q : Nat), .int x)) (k : z_V X E nL gC gM (pc + 1) lv (.int x :: rest)) : z_V X E nL gC gM pc lv (rest) := by
  obtain ⟨p, l, e, R, s, m, args, below, meth, c, cells, slots, Q⟩ := E
  exact fun H locs ls hl hP hS => lv_iload_n hE.1 hE.2.1 d rfl (lv_at hl j hj) (k H locs ls hl hP hS)
theorem z_iload (hE : z_EV X E cc nL own fr lo nn) {i : Nat} {x : Int32} (j : Nat) (d : decode cc pc = .ok (.iload i, 2)) (hj : lv[j]? = some (i, .int x)) (k : z_V X E nL gC gM (pc + 2) lv (.int x :: rest)) : z_V X E nL gC gM pc lv (rest) := by
  obtain ⟨p, l, e, R, s, m, args, below, meth, c, cells, slots, Q⟩ := E
  exact fun H locs ls hl hP hS => lv_iload hE.1 hE.2.1 d (lv_at hl j hj) (k H locs ls hl hP hS)
theorem z_lload_n (hE : z_EV X E cc nL own fr lo nn) {q : Fin 4} {x : Int64} (j : Nat) (d : decode cc pc = .ok (.lload_n q, 1)) (hj : lv[j]? = some ((q : Nat), .long x)) (k : z_V X E nL gC gM (pc + 1) lv (.long x :: rest)) : z_V X E nL gC gM pc lv (rest) := by
  obtain ⟨p, l, e, R, s, m, args, below, meth, c, cells, slots, Q⟩ := E
  exact fun H locs ls hl hP hS => lv_lload_n hE.1 hE.2.1 d rfl (lv_at hl j hj) (k H locs ls hl hP hS)
theorem z_lload (hE : z_EV X E cc nL own fr lo nn) {i : Nat} {x : Int64} (j : Nat) (d : decode cc pc = .ok (.lload i, 2)) (hj : lv[j]? = some (i, .long x)) (k : z_V X E nL gC gM (pc + 2) lv (.long x :: rest)) : z_V X E nL gC gM pc lv (rest) := by
  obtain ⟨p, l, e, R, s, m, args, below, meth, c, cells, slots, Q⟩ := E
  exact fun H locs ls hl hP hS => lv_lload hE.1 hE.2.1 d (lv_at hl j hj) (k H locs ls hl hP hS)
theorem z_aload_n (hE : z_EV X E cc nL own fr lo nn) {q : Fin 4} {x : Nat} (j : Nat) (d : decode cc pc = .ok (.aload_n q, 1)) (hj : lv[j]? = some ((q : Nat), .ref x)) (k : z_V X E nL gC gM (pc + 1) lv (.ref x :: rest)) : z_V X E nL gC gM pc lv (rest) := by
  obtain ⟨p, l, e, R, s, m, args, below, meth, c, cells, slots, Q⟩ := E
  exact fun H locs ls hl hP hS => lv_aload_n hE.1 hE.2.1 d rfl (lv_at hl j hj) (k H locs ls hl hP hS)
theorem z_aload (hE : z_EV X E cc nL own fr lo nn) {i : Nat} {x : Nat} (j : Nat) (d : decode cc pc = .ok (.aload i, 2)) (hj : lv[j]? = some (i, .ref x)) (k : z_V X E nL gC gM (pc + 2) lv (.ref x :: rest)) : z_V X E nL gC gM pc lv (rest) := by
  obtain ⟨p, l, e, R, s, m, args, below, meth, c, cells, slots, Q⟩ := E
  exact fun H locs ls hl hP hS => lv_aload hE.1 hE.2.1 d (lv_at hl j hj) (k H locs ls hl hP hS)
theorem z_istore_n (hE : z_EV X E cc nL own fr lo nn) {q : Fin 4} {i : Nat} {x : Int32} (lv2 : List (Nat × Value)) (d : decode cc pc = .ok (.istore_n q, 1)) (hi : (q : Nat) = i) (hn : i < nL) (h2 : (i, Value.int x) :: lv.filter (fun q => !(q.1 == i) && !(q.1 + 1 == i && q.2.category == 2)) = lv2) (k : z_V X E nL gC gM (pc + 1) lv2 rest) : z_V X E nL gC gM pc lv (.int x :: rest) := by
  obtain ⟨p, l, e, R, s, m, args, below, meth, c, cells, slots, Q⟩ := E
  exact fun H locs ls hl hP hS => lv_istore_n (lv' := lv2) hE.1 hE.2.1 d hi hl hn h2 (fun ls2 hl2 => k H locs ls2 hl2 hP hS)
theorem z_istore (hE : z_EV X E cc nL own fr lo nn) {i : Nat} {x : Int32} (lv2 : List (Nat × Value)) (d : decode cc pc = .ok (.istore i, 2)) (hn : i < nL) (h2 : (i, Value.int x) :: lv.filter (fun q => !(q.1 == i) && !(q.1 + 1 == i && q.2.category == 2)) = lv2) (k : z_V X E nL gC gM (pc + 2) lv2 rest) : z_V X E nL gC gM pc lv (.int x :: rest) := by
  obtain ⟨p, l, e, R, s, m, args, below, meth, c, cells, slots, Q⟩ := E
  exact fun H locs ls hl hP hS => lv_istore (lv' := lv2) hE.1 hE.2.1 d hl hn h2 (fun ls2 hl2 => k H locs ls2 hl2 hP hS)
theorem z_lstore_n (hE : z_EV X E cc nL own fr lo nn) {q : Fin 4} {i : Nat} {x : Int64} (lv2 : List (Nat × Value)) (d : decode cc pc = .ok (.lstore_n q, 1)) (hi : (q : Nat) = i) (hn : i + 1 < nL) (h2 : (i, Value.long x) :: lv.filter (fun q => !(q.1 == i) && (!(q.1 == i + 1) && !(q.1 + 1 == i && q.2.category == 2))) = lv2) (k : z_V X E nL gC gM (pc + 1) lv2 rest) : z_V X E nL gC gM pc lv (.long x :: rest) := by
  obtain ⟨p, l, e, R, s, m, args, below, meth, c, cells, slots, Q⟩ := E
  exact fun H locs ls hl hP hS => lv_lstore_n (lv' := lv2) hE.1 hE.2.1 d hi hl hn h2 (fun ls2 hl2 => k H locs ls2 hl2 hP hS)
theorem z_lstore (hE : z_EV X E cc nL own fr lo nn) {i : Nat} {x : Int64} (lv2 : List (Nat × Value)) (d : decode cc pc = .ok (.lstore i, 2)) (hn : i + 1 < nL) (h2 : (i, Value.long x) :: lv.filter (fun q => !(q.1 == i) && (!(q.1 == i + 1) && !(q.1 + 1 == i && q.2.category == 2))) = lv2) (k : z_V X E nL gC gM (pc + 2) lv2 rest) : z_V X E nL gC gM pc lv (.long x :: rest) := by
  obtain ⟨p, l, e, R, s, m, args, below, meth, c, cells, slots, Q⟩ := E
  exact fun H locs ls hl hP hS => lv_lstore (lv' := lv2) hE.1 hE.2.1 d hl hn h2 (fun ls2 hl2 => k H locs ls2 hl2 hP hS)
theorem z_astore_n (hE : z_EV X E cc nL own fr lo nn) {q : Fin 4} {i : Nat} {x : Nat} (lv2 : List (Nat × Value)) (d : decode cc pc = .ok (.astore_n q, 1)) (hi : (q : Nat) = i) (hn : i < nL) (h2 : (i, Value.ref x) :: lv.filter (fun q => !(q.1 == i) && !(q.1 + 1 == i && q.2.category == 2)) = lv2) (k : z_V X E nL gC gM (pc + 1) lv2 rest) : z_V X E nL gC gM pc lv (.ref x :: rest) := by
  obtain ⟨p, l, e, R, s, m, args, below, meth, c, cells, slots, Q⟩ := E
  exact fun H locs ls hl hP hS => lv_astore_n (lv' := lv2) hE.1 hE.2.1 d hi hl hn h2 (fun ls2 hl2 => k H locs ls2 hl2 hP hS)
theorem z_astore (hE : z_EV X E cc nL own fr lo nn) {i : Nat} {x : Nat} (lv2 : List (Nat × Value)) (d : decode cc pc = .ok (.astore i, 2)) (hn : i < nL) (h2 : (i, Value.ref x) :: lv.filter (fun q => !(q.1 == i) && !(q.1 + 1 == i && q.2.category == 2)) = lv2) (k : z_V X E nL gC gM (pc + 2) lv2 rest) : z_V X E nL gC gM pc lv (.ref x :: rest) := by
  obtain ⟨p, l, e, R, s, m, args, below, meth, c, cells, slots, Q⟩ := E
  exact fun H locs ls hl hP hS => lv_astore (lv' := lv2) hE.1 hE.2.1 d hl hn h2 (fun ls2 hl2 => k H locs ls2 hl2 hP hS)
theorem z_iinc (hE : z_EV X E cc nL own fr lo nn) {i : Nat} {n : Int} {x v : Int32} (j : Nat) (lv2 : List (Nat × Value)) (d : decode cc pc = .ok (.iinc i n, 3)) (hj : lv[j]? = some (i, .int x)) (hv : x + Int32.ofInt n = v) (hn : i < nL) (h2 : (i, Value.int v) :: lv.filter (fun q => !(q.1 == i) && !(q.1 + 1 == i && q.2.category == 2)) = lv2) (k : z_V X E nL gC gM (pc + 3) lv2 rest) : z_V X E nL gC gM pc lv rest := by
  obtain ⟨p, l, e, R, s, m, args, below, meth, c, cells, slots, Q⟩ := E
  exact fun H locs ls hl hP hS => lv_iinc (lv' := lv2) (k := j) hE.1 hE.2.1 d hl hj hv hn h2 (fun ls2 hl2 => k H locs ls2 hl2 hP hS)
theorem z_sub (lv2 : List (Nat × Value)) {st : List Value} (ks : List Nat) (h : lv_pick lv ks = lv2) (k : z_V X E nL gC gM pc lv2 st) : z_V X E nL gC gM pc lv st := by
  obtain ⟨p, l, e, R, s, m, args, below, meth, c, cells, slots, Q⟩ := E
  exact fun H locs ls hl hP hS => k H locs ls (lv_sub hl ks h) hP hS
theorem z_topi {x y : Int32} (h : y = x) (k : z_V X E nL gC gM pc lv (.int y :: rest)) : z_V X E nL gC gM pc lv (.int x :: rest) := h ▸ k
theorem z_topl {x y : Int64} (h : y = x) (k : z_V X E nL gC gM pc lv (.long y :: rest)) : z_V X E nL gC gM pc lv (.long x :: rest) := h ▸ k
theorem z_goto (hE : z_EV X E cc nL own fr lo nn) {off : Int} (tgt : Nat) (d : decode cc pc = .ok (.goto off, 3)) (ht : (pc : Int) + off = (tgt : Int)) (k : z_V X E nL gC gM tgt lv rest) : z_V X E nL gC gM pc lv rest := by
  obtain ⟨p, l, e, R, s, m, args, below, meth, c, cells, slots, Q⟩ := E
  exact fun H locs ls hl hP hS => lv_goto hE.1 hE.2.1 d ht (k H locs ls hl hP hS)
theorem z_if_eq (hE : z_EV X E cc nL own fr lo nn) {x : Int32} {off : Int} (tgt : Nat) (d : decode cc pc = .ok (.ifCond .eq off, 3)) (ht : (pc : Int) + off = (tgt : Int)) (kt : x = 0 → z_V X E nL gC gM tgt lv rest) (kf : ¬ x = 0 → z_V X E nL gC gM (pc + 3) lv rest) : z_V X E nL gC gM pc lv (.int x :: rest) := by
  obtain ⟨p, l, e, R, s, m, args, below, meth, c, cells, slots, Q⟩ := E
  exact fun H locs ls hl hP hS => lv_if_eq hE.1 hE.2.1 d ht (fun h => kt h H locs ls hl hP hS) (fun h => kf h H locs ls hl hP hS)
theorem z_icmp_eq (hE : z_EV X E cc nL own fr lo nn) {x y : Int32} {off : Int} (tgt : Nat) (d : decode cc pc = .ok (.if_icmp .eq off, 3)) (ht : (pc : Int) + off = (tgt : Int)) (kt : x = y → z_V X E nL gC gM tgt lv rest) (kf : ¬ x = y → z_V X E nL gC gM (pc + 3) lv rest) : z_V X E nL gC gM pc lv (.int y :: .int x :: rest) := by
  obtain ⟨p, l, e, R, s, m, args, below, meth, c, cells, slots, Q⟩ := E
  exact fun H locs ls hl hP hS => lv_icmp_eq hE.1 hE.2.1 d ht (fun h => kt h H locs ls hl hP hS) (fun h => kf h H locs ls hl hP hS)
theorem z_if_ne (hE : z_EV X E cc nL own fr lo nn) {x : Int32} {off : Int} (tgt : Nat) (d : decode cc pc = .ok (.ifCond .ne off, 3)) (ht : (pc : Int) + off = (tgt : Int)) (kt : ¬ x = 0 → z_V X E nL gC gM tgt lv rest) (kf : x = 0 → z_V X E nL gC gM (pc + 3) lv rest) : z_V X E nL gC gM pc lv (.int x :: rest) := by
  obtain ⟨p, l, e, R, s, m, args, below, meth, c, cells, slots, Q⟩ := E
  exact fun H locs ls hl hP hS => lv_if_ne hE.1 hE.2.1 d ht (fun h => kt h H locs ls hl hP hS) (fun h => kf h H locs ls hl hP hS)
theorem z_icmp_ne (hE : z_EV X E cc nL own fr lo nn) {x y : Int32} {off : Int} (tgt : Nat) (d : decode cc pc = .ok (.if_icmp .ne off, 3)) (ht : (pc : Int) + off = (tgt : Int)) (kt : ¬ x = y → z_V X E nL gC gM tgt lv rest) (kf : x = y → z_V X E nL gC gM (pc + 3) lv rest) : z_V X E nL gC gM pc lv (.int y :: .int x :: rest) := by
  obtain ⟨p, l, e, R, s, m, args, below, meth, c, cells, slots, Q⟩ := E
  exact fun H locs ls hl hP hS => lv_icmp_ne hE.1 hE.2.1 d ht (fun h => kt h H locs ls hl hP hS) (fun h => kf h H locs ls hl hP hS)
theorem z_if_lt (hE : z_EV X E cc nL own fr lo nn) {x : Int32} {off : Int} (tgt : Nat) (d : decode cc pc = .ok (.ifCond .lt off, 3)) (ht : (pc : Int) + off = (tgt : Int)) (kt : x < 0 → z_V X E nL gC gM tgt lv rest) (kf : ¬ x < 0 → z_V X E nL gC gM (pc + 3) lv rest) : z_V X E nL gC gM pc lv (.int x :: rest) := by
  obtain ⟨p, l, e, R, s, m, args, below, meth, c, cells, slots, Q⟩ := E
  exact fun H locs ls hl hP hS => lv_if_lt hE.1 hE.2.1 d ht (fun h => kt h H locs ls hl hP hS) (fun h => kf h H locs ls hl hP hS)
theorem z_icmp_lt (hE : z_EV X E cc nL own fr lo nn) {x y : Int32} {off : Int} (tgt : Nat) (d : decode cc pc = .ok (.if_icmp .lt off, 3)) (ht : (pc : Int) + off = (tgt : Int)) (kt : x < y → z_V X E nL gC gM tgt lv rest) (kf : ¬ x < y → z_V X E nL gC gM (pc + 3) lv rest) : z_V X E nL gC gM pc lv (.int y :: .int x :: rest) := by
  obtain ⟨p, l, e, R, s, m, args, below, meth, c, cells, slots, Q⟩ := E
  exact fun H locs ls hl hP hS => lv_icmp_lt hE.1 hE.2.1 d ht (fun h => kt h H locs ls hl hP hS) (fun h => kf h H locs ls hl hP hS)
theorem z_if_ge (hE : z_EV X E cc nL own fr lo nn) {x : Int32} {off : Int} (tgt : Nat) (d : decode cc pc = .ok (.ifCond .ge off, 3)) (ht : (pc : Int) + off = (tgt : Int)) (kt : 0 ≤ x → z_V X E nL gC gM tgt lv rest) (kf : ¬ 0 ≤ x → z_V X E nL gC gM (pc + 3) lv rest) : z_V X E nL gC gM pc lv (.int x :: rest) := by
  obtain ⟨p, l, e, R, s, m, args, below, meth, c, cells, slots, Q⟩ := E
  exact fun H locs ls hl hP hS => lv_if_ge hE.1 hE.2.1 d ht (fun h => kt h H locs ls hl hP hS) (fun h => kf h H locs ls hl hP hS)
theorem z_icmp_ge (hE : z_EV X E cc nL own fr lo nn) {x y : Int32} {off : Int} (tgt : Nat) (d : decode cc pc = .ok (.if_icmp .ge off, 3)) (ht : (pc : Int) + off = (tgt : Int)) (kt : y ≤ x → z_V X E nL gC gM tgt lv rest) (kf : ¬ y ≤ x → z_V X E nL gC gM (pc + 3) lv rest) : z_V X E nL gC gM pc lv (.int y :: .int x :: rest) := by
  obtain ⟨p, l, e, R, s, m, args, below, meth, c, cells, slots, Q⟩ := E
  exact fun H locs ls hl hP hS => lv_icmp_ge hE.1 hE.2.1 d ht (fun h => kt h H locs ls hl hP hS) (fun h => kf h H locs ls hl hP hS)
theorem z_if_gt (hE : z_EV X E cc nL own fr lo nn) {x : Int32} {off : Int} (tgt : Nat) (d : decode cc pc = .ok (.ifCond .gt off, 3)) (ht : (pc : Int) + off = (tgt : Int)) (kt : 0 < x → z_V X E nL gC gM tgt lv rest) (kf : ¬ 0 < x → z_V X E nL gC gM (pc + 3) lv rest) : z_V X E nL gC gM pc lv (.int x :: rest) := by
  obtain ⟨p, l, e, R, s, m, args, below, meth, c, cells, slots, Q⟩ := E
  exact fun H locs ls hl hP hS => lv_if_gt hE.1 hE.2.1 d ht (fun h => kt h H locs ls hl hP hS) (fun h => kf h H locs ls hl hP hS)
theorem z_icmp_gt (hE : z_EV X E cc nL own fr lo nn) {x y : Int32} {off : Int} (tgt : Nat) (d : decode cc pc = .ok (.if_icmp .gt off, 3)) (ht : (pc : Int) + off = (tgt : Int)) (kt : y < x → z_V X E nL gC gM tgt lv rest) (kf : ¬ y < x → z_V X E nL gC gM (pc + 3) lv rest) : z_V X E nL gC gM pc lv (.int y :: .int x :: rest) := by
  obtain ⟨p, l, e, R, s, m, args, below, meth, c, cells, slots, Q⟩ := E
  exact fun H locs ls hl hP hS => lv_icmp_gt hE.1 hE.2.1 d ht (fun h => kt h H locs ls hl hP hS) (fun h => kf h H locs ls hl hP hS)
theorem z_if_le (hE : z_EV X E cc nL own fr lo nn) {x : Int32} {off : Int} (tgt : Nat) (d : decode cc pc = .ok (.ifCond .le off, 3)) (ht : (pc : Int) + off = (tgt : Int)) (kt : x ≤ 0 → z_V X E nL gC gM tgt lv rest) (kf : ¬ x ≤ 0 → z_V X E nL gC gM (pc + 3) lv rest) : z_V X E nL gC gM pc lv (.int x :: rest) := by
  obtain ⟨p, l, e, R, s, m, args, below, meth, c, cells, slots, Q⟩ := E
  exact fun H locs ls hl hP hS => lv_if_le hE.1 hE.2.1 d ht (fun h => kt h H locs ls hl hP hS) (fun h => kf h H locs ls hl hP hS)
theorem z_icmp_le (hE : z_EV X E cc nL own fr lo nn) {x y : Int32} {off : Int} (tgt : Nat) (d : decode cc pc = .ok (.if_icmp .le off, 3)) (ht : (pc : Int) + off = (tgt : Int)) (kt : x ≤ y → z_V X E nL gC gM tgt lv rest) (kf : ¬ x ≤ y → z_V X E nL gC gM (pc + 3) lv rest) : z_V X E nL gC gM pc lv (.int y :: .int x :: rest) := by
  obtain ⟨p, l, e, R, s, m, args, below, meth, c, cells, slots, Q⟩ := E
  exact fun H locs ls hl hP hS => lv_icmp_le hE.1 hE.2.1 d ht (fun h => kt h H locs ls hl hP hS) (fun h => kf h H locs ls hl hP hS)
theorem z_tIn (hE : z_EV X E cc nL own fr lo nn) {dflt lw hi : Int} {offs : Array Int} {len : Nat} {x : Int32} {off : Int} (tgt : Nat) (d : decode cc pc = .ok (.tableswitch dflt lw hi offs, len)) (h1 : ¬ x.toInt < lw) (h2 : ¬ hi < x.toInt) (ho : offs[(x.toInt - lw).toNat]? = some off) (ht : (pc : Int) + off = (tgt : Int)) (k : z_V X E nL gC gM tgt lv rest) : z_V X E nL gC gM pc lv (.int x :: rest) := by
  obtain ⟨p, l, e, R, s, m, args, below, meth, c, cells, slots, Q⟩ := E
  exact fun H locs ls hl hP hS => lv_tableIn hE.1 hE.2.1 d h1 h2 ho ht (k H locs ls hl hP hS)
theorem z_tOut (hE : z_EV X E cc nL own fr lo nn) {dflt lw hi : Int} {offs : Array Int} {len : Nat} {x : Int32} (tgt : Nat) (d : decode cc pc = .ok (.tableswitch dflt lw hi offs, len)) (h : x.toInt < lw ∨ hi < x.toInt) (ht : (pc : Int) + dflt = (tgt : Int)) (k : z_V X E nL gC gM tgt lv rest) : z_V X E nL gC gM pc lv (.int x :: rest) := by
  obtain ⟨p, l, e, R, s, m, args, below, meth, c, cells, slots, Q⟩ := E
  exact fun H locs ls hl hP hS => lv_tableOut hE.1 hE.2.1 d h ht (k H locs ls hl hP hS)
theorem z_look (hE : z_EV X E cc nL own fr lo nn) {dflt : Int} {ps : Array (Int × Int)} {len : Nat} {x : Int32} {off : Int} (tgt : Nat) (d : decode cc pc = .ok (.lookupswitch dflt ps, len)) (hp : (ps.toList.zip (ps.toList.drop 1)).all (fun (a, next) => a.1 < next.1) = true) (ho : Op.lookupswitch.offset ps.toList dflt x.toInt = off) (ht : (pc : Int) + off = (tgt : Int)) (k : z_V X E nL gC gM tgt lv rest) : z_V X E nL gC gM pc lv (.int x :: rest) := by
  obtain ⟨p, l, e, R, s, m, args, below, meth, c, cells, slots, Q⟩ := E
  exact fun H locs ls hl hP hS => lv_lookup hE.1 hE.2.1 d hp ho ht (k H locs ls hl hP hS)
def z_FL (own : String) (idx : Nat) (C : String) (T : u_T) (N ci j : Nat) : Prop := (∀ w ∈ u_ws C T N, w ∈ lw_good) ∧ classes[ci]? = some (C, T, N) ∧ j < N ∧ Cond.fieldLink own idx (T j).1 (T j).2.1 (T j).2.2.1 ∈ lw_good
def z_FT (T : u_T) (N : Nat) (ty0 : Nat → FieldType) : Prop := (∀ k, k < N → parseFieldDescriptor (T k).2.2.1 = some (ty0 k)) ∧ ∀ a, a < N → ∀ b, b < N → a ≠ b → (T a).2.1 ≠ (T b).2.1
theorem z_get (hE : z_EV X E cc nL own fr lo nn) {idx N ci j k : Nat} {C : String} {T : u_T} {fs : List Value} {v : Value} (f : z_FL own idx C T N ci j) (hk : k < nn) (he : z_wf X gC gM k = .inr (ci, fs)) (hv : fs[j]? = some v) (d : decode cc pc = .ok (.getfield idx, 3)) (kk : z_V X E nL gC gM (pc + 3) lv (v :: rest)) : z_V X E nL gC gM pc lv (.ref (z_ad X k) :: rest) := by
  obtain ⟨p, l, e, R, s, m, args, below, meth, c, cells, slots, Q⟩ := E
  exact fun H locs ls hl hP hS => va_get hE.1 hE.2.1 hE.2.2.2.2.1 f.1 hE.2.2.2.1 hE.2.2.2.2.2.1.1 hP k (z_w_e (Nat.lt_of_lt_of_le hk hE.2.2.2.2.2.2.1) he) f.2.1 j f.2.2.1 (hE.2.2.2.2.1 _ f.2.2.2) (fun _ h => h) hv d (kk H locs ls hl hP hS)
theorem z_put (hE : z_EV X E cc nL own fr lo nn) {idx N ci j k : Nat} {C : String} {T : u_T} {ty0 : Nat → FieldType} {fs : List Value} {v : Value} {ty : FieldType} {gC2 gM2 : z_G} (f : z_FL own idx C T N ci j) (ft : z_FT T N ty0) (hk : k < nn) (he : z_wf X gC gM k = .inr (ci, fs)) (hfin : (T j).2.2.2 = false) (hd : parseFieldDescriptor (T j).2.2.1 = some ty) (hn : narrow ty v = v) (hfit : fits ty v = true) (hlen : j < fs.length) (hw : va_up (z_wf X gC gM) k (.inr (ci, fs.set j v)) = z_wf X gC2 gM2) (d : decode cc pc = .ok (.putfield idx, 3)) (kk : z_V X E nL gC2 gM2 (pc + 3) lv rest) : z_V X E nL gC gM pc lv (v :: .ref (z_ad X k) :: rest) := by
  obtain ⟨p, l, e, R, s, m, args, below, meth, c, cells, slots, Q⟩ := E
  intro H locs ls hl hP hS
  refine va_put hE.1 hE.2.1 hE.2.2.2.2.1 f.1 ty0 ft.1 ft.2 hE.2.2.2.1 hE.2.2.2.2.2.1.1 hP (hE.2.2.2.2.2.1.2.2.2.2 _) hS k (z_w_e (Nat.lt_of_lt_of_le hk hE.2.2.2.2.2.2.1) he) f.2.1 j f.2.2.1 (hE.2.2.2.2.1 _ f.2.2.2) (fun _ h => h) hfin hd hn hfit hlen d (fun H1 locs1 hP1 _ hS1 => ?_)
  rw [z_w_set, hw] at hP1
  exact kk H1 locs1 ls hl hP1 hS1
theorem z_iald (hE : z_EV X E cc nL own fr lo nn) {k n : Nat} {f : Nat → Int32} {i : Int32} (hk : k < nn) (he : z_wf X gC gM k = .inl (z_cA X 0, n, .inl f)) (hin : z_inb i n = true) (d : decode cc pc = .ok (.iaload, 1)) (kk : z_V X E nL gC gM (pc + 1) lv (.int (f i.toNatClampNeg) :: rest)) : z_V X E nL gC gM pc lv (.int i :: .ref (z_ad X k) :: rest) := by
  obtain ⟨p, l, e, R, s, m, args, below, meth, c, cells, slots, Q⟩ := E
  exact fun H locs ls hl hP hS => va_iald hE.1 hE.2.1 hE.2.2.2.2.2.1.1 hP k 0 (z_w_e (Nat.lt_of_lt_of_le hk hE.2.2.2.2.2.2.1) he) rfl (z_inb_in hin) d (kk H locs ls hl hP hS)
theorem z_cald (hE : z_EV X E cc nL own fr lo nn) {k n : Nat} {f : Nat → Int32} {i : Int32} (hk : k < nn) (he : z_wf X gC gM k = .inl (z_cA X 1, n, .inl f)) (hin : z_inb i n = true) (d : decode cc pc = .ok (.caload, 1)) (kk : z_V X E nL gC gM (pc + 1) lv (.int (f i.toNatClampNeg) :: rest)) : z_V X E nL gC gM pc lv (.int i :: .ref (z_ad X k) :: rest) := by
  obtain ⟨p, l, e, R, s, m, args, below, meth, c, cells, slots, Q⟩ := E
  exact fun H locs ls hl hP hS => va_cald hE.1 hE.2.1 hE.2.2.2.2.2.1.1 hP k 1 (z_w_e (Nat.lt_of_lt_of_le hk hE.2.2.2.2.2.2.1) he) rfl (z_inb_in hin) d (kk H locs ls hl hP hS)
theorem z_bald (hE : z_EV X E cc nL own fr lo nn) {k n : Nat} {f : Nat → Int32} {i : Int32} (hk : k < nn) (he : z_wf X gC gM k = .inl (z_cA X 2, n, .inl f)) (hin : z_inb i n = true) (d : decode cc pc = .ok (.baload, 1)) (kk : z_V X E nL gC gM (pc + 1) lv (.int (f i.toNatClampNeg) :: rest)) : z_V X E nL gC gM pc lv (.int i :: .ref (z_ad X k) :: rest) := by
  obtain ⟨p, l, e, R, s, m, args, below, meth, c, cells, slots, Q⟩ := E
  exact fun H locs ls hl hP hS => va_bald hE.1 hE.2.1 hE.2.2.2.2.2.1.1 hP k 2 (z_w_e (Nat.lt_of_lt_of_le hk hE.2.2.2.2.2.2.1) he) rfl (z_inb_in hin) d (kk H locs ls hl hP hS)
theorem z_iast (hE : z_EV X E cc nL own fr lo nn) {k n : Nat} {f : Nat → Int32} {i x : Int32} {gC2 gM2 : z_G} (hk : k < nn) (he : z_wf X gC gM k = .inl (z_cA X 0, n, .inl f)) (hin : z_inb i n = true) (hw : va_up (z_wf X gC gM) k (.inl (z_cA X 0, n, .inl (upd f i.toNatClampNeg x))) = z_wf X gC2 gM2) (d : decode cc pc = .ok (.iastore, 1)) (kk : z_V X E nL gC2 gM2 (pc + 1) lv rest) : z_V X E nL gC gM pc lv (.int x :: .int i :: .ref (z_ad X k) :: rest) := by
  obtain ⟨p, l, e, R, s, m, args, below, meth, c, cells, slots, Q⟩ := E
  intro H locs ls hl hP hS
  refine va_iast hE.1 hE.2.1 hE.2.2.2.2.2.1.1 hP (hE.2.2.2.2.2.1.2.2.2.2 _) hS k 0 (z_w_e (Nat.lt_of_lt_of_le hk hE.2.2.2.2.2.2.1) he) rfl (z_inb_in hin) d (fun H1 locs1 hP1 _ hS1 => ?_)
  rw [z_w_set, hw] at hP1
  exact kk H1 locs1 ls hl hP1 hS1
theorem z_cast (hE : z_EV X E cc nL own fr lo nn) {k n : Nat} {f : Nat → Int32} {i x : Int32} {gC2 gM2 : z_G} (hk : k < nn) (he : z_wf X gC gM k = .inl (z_cA X 1, n, .inl f)) (hin : z_inb i n = true) (hw : va_up (z_wf X gC gM) k (.inl (z_cA X 1, n, .inl (upd f i.toNatClampNeg (vp_nar .char x)))) = z_wf X gC2 gM2) (d : decode cc pc = .ok (.castore, 1)) (kk : z_V X E nL gC2 gM2 (pc + 1) lv rest) : z_V X E nL gC gM pc lv (.int x :: .int i :: .ref (z_ad X k) :: rest) := by
  obtain ⟨p, l, e, R, s, m, args, below, meth, c, cells, slots, Q⟩ := E
  intro H locs ls hl hP hS
  refine va_cast hE.1 hE.2.1 hE.2.2.2.2.2.1.1 hP (hE.2.2.2.2.2.1.2.2.2.2 _) hS k 1 (z_w_e (Nat.lt_of_lt_of_le hk hE.2.2.2.2.2.2.1) he) rfl (z_inb_in hin) d (fun H1 locs1 hP1 _ hS1 => ?_)
  rw [z_w_set, hw] at hP1
  exact kk H1 locs1 ls hl hP1 hS1
theorem z_bast (hE : z_EV X E cc nL own fr lo nn) {k n : Nat} {f : Nat → Int32} {i x : Int32} {gC2 gM2 : z_G} (hk : k < nn) (he : z_wf X gC gM k = .inl (z_cA X 2, n, .inl f)) (hin : z_inb i n = true) (hw : va_up (z_wf X gC gM) k (.inl (z_cA X 2, n, .inl (upd f i.toNatClampNeg (vp_nar .byte x)))) = z_wf X gC2 gM2) (d : decode cc pc = .ok (.bastore, 1)) (kk : z_V X E nL gC2 gM2 (pc + 1) lv rest) : z_V X E nL gC gM pc lv (.int x :: .int i :: .ref (z_ad X k) :: rest) := by
  obtain ⟨p, l, e, R, s, m, args, below, meth, c, cells, slots, Q⟩ := E
  intro H locs ls hl hP hS
  refine va_bast hE.1 hE.2.1 hE.2.2.2.2.2.1.1 hP (hE.2.2.2.2.2.1.2.2.2.2 _) hS k 2 (z_w_e (Nat.lt_of_lt_of_le hk hE.2.2.2.2.2.2.1) he) rfl (z_inb_in hin) d (fun H1 locs1 hP1 _ hS1 => ?_)
  rw [z_w_set, hw] at hP1
  exact kk H1 locs1 ls hl hP1 hS1
theorem z_aald (hE : z_EV X E cc nL own fr lo nn) {k n : Nat} {f : Nat → Option Nat} {i : Int32} {a : Nat} (hk : k < nn) (he : z_wf X gC gM k = .inl (z_cA X 3, n, .inr (.inr (.inr (.inr f))))) (hin : z_inb i n = true) (hf : f i.toNatClampNeg = some a) (d : decode cc pc = .ok (.aaload, 1)) (kk : z_V X E nL gC gM (pc + 1) lv (.ref a :: rest)) : z_V X E nL gC gM pc lv (.int i :: .ref (z_ad X k) :: rest) := by
  obtain ⟨p, l, e, R, s, m, args, below, meth, c, cells, slots, Q⟩ := E
  exact fun H locs ls hl hP hS => va_aldq hE.1 hE.2.1 hE.2.2.2.2.2.1.1 hP k 3 (z_w_e (Nat.lt_of_lt_of_le hk hE.2.2.2.2.2.2.1) he) rfl (z_inb_in hin) d (by rw [hf]; exact kk H locs ls hl hP hS)
theorem z_aast (hE : z_EV X E cc nL own fr lo nn) {k n k2 : Nat} {f : Nat → Option Nat} {i : Int32} {vs : List Value} {gC2 gM2 : z_G} (hk : k < nn) (he : z_wf X gC gM k = .inl (z_cA X 3, n, .inr (.inr (.inr (.inr f))))) (hin : z_inb i n = true) (hk2 : k2 < nn) (he2 : z_wf X gC gM k2 = .inr (0, vs)) (hw : va_up (z_wf X gC gM) k (.inl (z_cA X 3, n, .inr (.inr (.inr (.inr (va_up f i.toNatClampNeg (some (z_ad X k2)))))))) = z_wf X gC2 gM2) (d : decode cc pc = .ok (.aastore, 1)) (kk : z_V X E nL gC2 gM2 (pc + 1) lv rest) : z_V X E nL gC gM pc lv (.ref (z_ad X k2) :: .int i :: .ref (z_ad X k) :: rest) := by
  obtain ⟨p, l, e, R, s, m, args, below, meth, c, cells, slots, Q⟩ := E
  intro H locs ls hl hP hS
  refine va_astq hE.1 hE.2.1 hE.2.2.2.2.2.1.1 hP (hE.2.2.2.2.2.1.2.2.2.2 _) hS k 3 k2 0 (r := (RX0, TX0, 4)) (z_w_e (Nat.lt_of_lt_of_le hk hE.2.2.2.2.2.2.1) he) rfl (z_w_e (Nat.lt_of_lt_of_le hk2 hE.2.2.2.2.2.2.1) he2) rfl (z_inb_in hin) d (fun H1 locs1 hP1 _ hS1 => ?_)
  rw [z_w_set, hw] at hP1
  exact kk H1 locs1 ls hl hP1 hS1
theorem z_alen (hE : z_EV X E cc nL own fr lo nn) {k : Nat} {cA : ClassId} {x : vp_A} (t0 : Nat) {ty : FieldType} {v : Int32} (hk : k < nn) (he : z_wf X gC gM k = .inl (cA, x)) (ht : (z_tys X)[t0]? = some (cA, ty)) (hv : Int32.ofNat x.1 = v) (d : decode cc pc = .ok (.arraylength, 1)) (kk : z_V X E nL gC gM (pc + 1) lv (.int v :: rest)) : z_V X E nL gC gM pc lv (.ref (z_ad X k) :: rest) := by
  obtain ⟨p, l, e, R, s, m, args, below, meth, c, cells, slots, Q⟩ := E
  exact fun H locs ls hl hP hS => va_alen hE.1 hE.2.1 hE.2.2.2.2.2.1.1 hP k t0 (z_w_e (Nat.lt_of_lt_of_le hk hE.2.2.2.2.2.2.1) he) ht hv d (kk H locs ls hl hP hS)
theorem z_gst0 (hE : z_EV X E cc nL own fr lo nn) {idx : Nat} (hw : Cond.fieldLink own idx "BootsTurnHome$Ways" "COLUMN_STEP" "[I" ∈ lw_good) (d : decode cc pc = .ok (.getstatic idx, 3)) (kk : z_V X E nL gC gM (pc + 3) lv (.ref (z_t0 X) :: rest)) : z_V X E nL gC gM pc lv rest := by
  obtain ⟨p, l, e, R, s, m, args, below, meth, c, cells, slots, Q⟩ := E
  exact fun H locs ls hl hP hS => va_gets hE.1 hE.2.1 hE.2.2.2.2.2.1.2.2.1.1 hS hE.2.2.2.1 (hE.2.2.2.2.1 _ hw) (fun _ h => h) d (kk H locs ls hl hP hS)
theorem z_tld0 (hE : z_EV X E cc nL own fr lo nn) {i : Int32} (hin : z_inb i 8 = true) (d : decode cc pc = .ok (.iaload, 1)) (kk : z_V X E nL gC gM (pc + 1) lv (.int (z_cs i.toNatClampNeg) :: rest)) : z_V X E nL gC gM pc lv (.int i :: .ref (z_t0 X) :: rest) := by
  obtain ⟨p, l, e, R, s, m, args, below, meth, c, cells, slots, Q⟩ := E
  exact fun H locs ls hl hP hS => va_ti hE.1 hE.2.1 hE.2.2.2.2.2.1.2.2.1.2 hS (z_inb_in hin) rfl d (kk H locs ls hl hP hS)
theorem z_gst1 (hE : z_EV X E cc nL own fr lo nn) {idx : Nat} (hw : Cond.fieldLink own idx "BootsTurnHome$Ways" "ROW_STEP" "[I" ∈ lw_good) (d : decode cc pc = .ok (.getstatic idx, 3)) (kk : z_V X E nL gC gM (pc + 3) lv (.ref (z_t1 X) :: rest)) : z_V X E nL gC gM pc lv rest := by
  obtain ⟨p, l, e, R, s, m, args, below, meth, c, cells, slots, Q⟩ := E
  exact fun H locs ls hl hP hS => va_gets hE.1 hE.2.1 hE.2.2.2.2.2.1.2.2.2.1.1 hS hE.2.2.2.1 (hE.2.2.2.2.1 _ hw) (fun _ h => h) d (kk H locs ls hl hP hS)
theorem z_tld1 (hE : z_EV X E cc nL own fr lo nn) {i : Int32} (hin : z_inb i 8 = true) (d : decode cc pc = .ok (.iaload, 1)) (kk : z_V X E nL gC gM (pc + 1) lv (.int (z_rs i.toNatClampNeg) :: rest)) : z_V X E nL gC gM pc lv (.int i :: .ref (z_t1 X) :: rest) := by
  obtain ⟨p, l, e, R, s, m, args, below, meth, c, cells, slots, Q⟩ := E
  exact fun H locs ls hl hP hS => va_ti hE.1 hE.2.1 hE.2.2.2.2.2.1.2.2.2.1.2 hS (z_inb_in hin) rfl d (kk H locs ls hl hP hS)
theorem z_mmax (hE : z_EV X E cc nL own fr lo nn) {idx : Nat} {x y : Int32} (hw : Cond.methodLink own idx Lib.Math.max.name ∈ lw_good ∧ Cond.static Lib.Math.max.name ∈ lw_good ∧ Cond.initialized "java/lang/Math" ∈ lw_good ∧ Cond.code Lib.Math.max.name Lib.Math.max.code 2 (some .int) ∈ lw_good) (hfr : 1 ≤ fr) (hlo : (rest.map fun v => v.category).sum + 13 ≤ lo) (d : decode cc pc = .ok (.invokestatic idx, 3)) (kk : z_V X E nL gC gM (pc + 3) lv (.int (z_max x y) :: rest)) : z_V X E nL gC gM pc lv (.int y :: .int x :: rest) := by
  obtain ⟨p, l, e, R, s, m, args, below, meth, c, cells, slots, Q⟩ := E
  exact fun H locs ls hl hP hS => va_mmax hE.1 hE.2.1 (hE.2.2.1.trans hl.1.symm) hE.2.2.2.1 (hE.2.2.2.2.1 _ hw.1) (hE.2.2.2.2.1 _ hw.2.1) (hE.2.2.2.2.1 _ hw.2.2.1) (hE.2.2.2.2.1 _ hw.2.2.2) (Nat.le_trans hfr hE.2.2.2.2.2.2.2.1.1) (Nat.le_trans hlo hE.2.2.2.2.2.2.2.1.2) hE.2.2.2.2.2.2.2.2.1 hE.2.2.2.2.2.2.2.2.2 d (kk H locs ls hl hP hS)
theorem z_mmin (hE : z_EV X E cc nL own fr lo nn) {idx : Nat} {x y : Int32} (hw : Cond.methodLink own idx Lib.Math.min.name ∈ lw_good ∧ Cond.static Lib.Math.min.name ∈ lw_good ∧ Cond.initialized "java/lang/Math" ∈ lw_good ∧ Cond.code Lib.Math.min.name Lib.Math.min.code 2 (some .int) ∈ lw_good) (hfr : 1 ≤ fr) (hlo : (rest.map fun v => v.category).sum + 13 ≤ lo) (d : decode cc pc = .ok (.invokestatic idx, 3)) (kk : z_V X E nL gC gM (pc + 3) lv (.int (z_min x y) :: rest)) : z_V X E nL gC gM pc lv (.int y :: .int x :: rest) := by
  obtain ⟨p, l, e, R, s, m, args, below, meth, c, cells, slots, Q⟩ := E
  exact fun H locs ls hl hP hS => va_mmin hE.1 hE.2.1 (hE.2.2.1.trans hl.1.symm) hE.2.2.2.1 (hE.2.2.2.2.1 _ hw.1) (hE.2.2.2.2.1 _ hw.2.1) (hE.2.2.2.2.1 _ hw.2.2.1) (hE.2.2.2.2.1 _ hw.2.2.2) (Nat.le_trans hfr hE.2.2.2.2.2.2.2.1.1) (Nat.le_trans hlo hE.2.2.2.2.2.2.2.1.2) hE.2.2.2.2.2.2.2.2.1 hE.2.2.2.2.2.2.2.2.2 d (kk H locs ls hl hP hS)
theorem z_mabs (hE : z_EV X E cc nL own fr lo nn) {idx : Nat} {x : Int32} (hw : Cond.methodLink own idx Lib.Math.abs.name ∈ lw_good ∧ Cond.static Lib.Math.abs.name ∈ lw_good ∧ Cond.initialized "java/lang/Math" ∈ lw_good ∧ Cond.code Lib.Math.abs.name Lib.Math.abs.code 1 (some .int) ∈ lw_good) (hfr : 1 ≤ fr) (hlo : (rest.map fun v => v.category).sum + 13 ≤ lo) (d : decode cc pc = .ok (.invokestatic idx, 3)) (kk : z_V X E nL gC gM (pc + 3) lv (.int (z_abs x) :: rest)) : z_V X E nL gC gM pc lv (.int x :: rest) := by
  obtain ⟨p, l, e, R, s, m, args, below, meth, c, cells, slots, Q⟩ := E
  exact fun H locs ls hl hP hS => va_mabs hE.1 hE.2.1 (hE.2.2.1.trans hl.1.symm) hE.2.2.2.1 (hE.2.2.2.2.1 _ hw.1) (hE.2.2.2.2.1 _ hw.2.1) (hE.2.2.2.2.1 _ hw.2.2.1) (hE.2.2.2.2.1 _ hw.2.2.2) (Nat.le_trans hfr hE.2.2.2.2.2.2.2.1.1) (Nat.le_trans hlo hE.2.2.2.2.2.2.2.1.2) hE.2.2.2.2.2.2.2.2.1 hE.2.2.2.2.2.2.2.2.2 d (kk H locs ls hl hP hS)
theorem z_copy (hE : z_EV X E cc nL own fr lo nn) {idx k0 k1 n0 n1 : Nat} {f g : Nat → Int32} {sp dp n : Int32} {gC2 gM2 : z_G} (hw : Cond.methodLink own idx arraycopyName ∈ lw_good ∧ Cond.native arraycopyName ∈ lw_good ∧ Cond.static arraycopyName ∈ lw_good ∧ Cond.initialized "java/lang/System" ∈ lw_good) (hk0 : k0 < nn) (hk1 : k1 < nn) (he0 : z_wf X gC gM k0 = .inl (z_cA X 0, n0, .inl f)) (he1 : z_wf X gC gM k1 = .inl (z_cA X 0, n1, .inl g)) (h1 : ¬ sp < 0) (h2 : ¬ dp < 0) (h3 : ¬ n < 0) (h4 : sp.toNatClampNeg + n.toNatClampNeg ≤ n0) (h5 : dp.toNatClampNeg + n.toNatClampNeg ≤ n1) (hfr : 1 ≤ fr) (hlo : (rest.map fun v => v.category).sum + (nativeFrameWords "java/lang/System" "arraycopy" 5 + 11) ≤ lo) (hv : va_up (z_wf X gC gM) k1 (.inl (z_cA X 0, n1, .inl (va_cpy f g sp.toNatClampNeg dp.toNatClampNeg n.toNatClampNeg))) = z_wf X gC2 gM2) (d : decode cc pc = .ok (.invokestatic idx, 3)) (kk : z_V X E nL gC2 gM2 (pc + 3) lv rest) : z_V X E nL gC gM pc lv (.int n :: .int dp :: .ref (z_ad X k1) :: .int sp :: .ref (z_ad X k0) :: rest) := by
  obtain ⟨p, l, e, R, s, m, args, below, meth, c, cells, slots, Q⟩ := E
  intro H locs ls hl hP hS
  refine va_copyi hE.1 hE.2.1 (hE.2.2.1.trans hl.1.symm) hE.2.2.2.1 (hE.2.2.2.2.1 _ hw.1) (hE.2.2.2.2.1 _ hw.2.1) (hE.2.2.2.2.1 _ hw.2.2.1) (hE.2.2.2.2.1 _ hw.2.2.2) hE.2.2.2.2.2.1.1 hP (hE.2.2.2.2.2.1.2.2.2.2 _) hS k0 k1 0 0 (z_w_e (Nat.lt_of_lt_of_le hk0 hE.2.2.2.2.2.2.1) he0) (z_w_e (Nat.lt_of_lt_of_le hk1 hE.2.2.2.2.2.2.1) he1) rfl rfl rfl h1 h2 h3 h4 h5 (fun _ _ => rfl) (Nat.le_trans hfr hE.2.2.2.2.2.2.2.1.1) (Nat.le_trans hlo hE.2.2.2.2.2.2.2.1.2) d (fun H1 locs1 hP1 _ hS1 => ?_)
  rw [z_w_set, hv] at hP1
  exact kk H1 locs1 ls hl hP1 hS1
def z_nm (y : MethodName) (n : Nat) : Prop := y.cls ≠ "java/lang/invoke/MethodHandle" ∧ y.cls ≠ "java/lang/invoke/VarHandle" ∧ (parseMethodDescriptor y.desc).map (fun d => d.parameters.length) = some n
def z_LS (own : String) (idx : Nat) (y : MethodName) (cy : ByteArray) (ny : Nat) (ry : Option FieldType) (n : Nat) : Prop := z_nm y n ∧ Cond.initialized y.cls ∈ lw_good ∧ Cond.code y cy ny ry ∈ lw_good ∧ Cond.static y ∈ lw_good ∧ (Cond.methodLink own idx y ∈ lw_good ∨ ∃ host, Cond.methodLinkNest own idx y host ∈ z_nest)
def z_LV (own : String) (idx : Nat) (y : MethodName) (cy : ByteArray) (ny : Nat) (ry : Option FieldType) (n : Nat) : Prop := z_nm y n ∧ Cond.initialized y.cls ∈ lw_good ∧ Cond.code y cy ny ry ∈ lw_good ∧ Cond.instanceMethod y ∈ lw_good ∧ Cond.selects y.cls y y ∈ lw_good ∧ Cond.methodLink own idx y ∈ lw_good
theorem z_gi {y : MethodName} {cy : ByteArray} {ny : Nat} {ry : Option FieldType} (h : Cond.code y cy ny ry ∈ lw_good) : GoodIn lw_good (Cond.code y cy ny ry :: lw_good) := by
  intro w hw
  rcases List.mem_cons.mp hw with rfl | h2
  · exact ⟨h, z_good h⟩
  · exact ⟨h2, z_good h2⟩
theorem z_blind {X : z_X} {n : Nat} {gC gM : z_G} {av : List Value} : FrameBlind (va_Pc av (fun U => z_WP X n gC gM U)) := by
  intro a U g mk h
  obtain ⟨h1, ⟨h2, h3, ⟨h4, h5⟩, ⟨h6, h7⟩, h8⟩, h9, h10⟩ := h
  exact ⟨h1, ⟨va_K.moved (u := U) (U := U.calling g mk a) (Vm.Alike.refl U.vm) h2, fun w hw => va_Nw.same (u := U) (U := U.calling g mk a) (by
    have key : ∀ w ∈ z_nest, w.onTables = true := by decide +kernel
    exact key w hw) rfl (h3 w hw), ⟨va_Z.moved (u := U) (U := U.calling g mk a) (Vm.Alike.refl U.vm) h4, va_T.moved (u := U) (U := U.calling g mk a) (Vm.Alike.refl U.vm) h5⟩, ⟨va_Z.moved (u := U) (U := U.calling g mk a) (Vm.Alike.refl U.vm) h6, va_T.moved (u := U) (U := U.calling g mk a) (Vm.Alike.refl U.vm) h7⟩, h8⟩, h9, h10⟩
theorem z_iS (hE : z_EV X E cc nL own fr lo nn) {y : MethodName} {cy : ByteArray} {ny : Nat} {ry : Option FieldType} {fr2 lo2 nn2 idx : Nat} {gC2 gM2 : z_G} {av : List Value} {v : Int32} (hM : z_MI X E.2.1 nn2 y cy ny ry fr2 lo2 av gC gM gC2 gM2 v) (L : z_LS own idx y cy ny ry av.length) (hn : nn2 ≤ nn) (hR : fr2 + 1 ≤ fr ∧ 8 + (ny + 11) + lo2 ≤ lo) (d : decode cc pc = .ok (.invokestatic idx, 3)) {st : List Value} (hst : st = av.reverse ++ rest) (hW : (rest.map fun v => v.category).sum ≤ 8) (k : z_V X E nL gC2 gM2 (pc + 3) lv (.int v :: rest)) : z_V X E nL gC gM pc lv st := by
  obtain ⟨p, l, e, R, s, m, args, below, meth, c, cells, slots, Q⟩ := E
  intro H locs ls hl hP hS
  obtain ⟨hx, hb, hml, hown, hts, hC, hN, hRR, hc1, hc2⟩ := hE
  obtain ⟨hd, hini, hcode, hstat, hlink⟩ := L
  subst hst
  have hp : PreS s H (va_Pc av (fun U => z_WP X nn2 gC gM U)) av := ⟨z_blind, fun U hU hW2 => ⟨rfl, by rw [hU]; exact hC.go hS hW2, Nat.le_trans hn hN, by rw [hU]; exact hP⟩⟩
  have hR2 : fr2 + 1 ≤ R.frames ∧ 8 + (ny + 11) + lo2 ≤ R.locals := ⟨Nat.le_trans hR.1 hRR.1, Nat.le_trans hR.2 hRR.2⟩
  have hrun := hlink.elim (fun hlink => va_runS (As := av) (rest := rest) (g := F0 m pc ls (av.reverse ++ rest)) (below := below) (cells := cells) (slots := slots) (locs := locs) (e := e) (meth := meth) ⟨hx, hb, hml, hown, hts⟩ hM ⟨callB_of av.length hts (z_gi hcode) rfl rfl rfl (hts _ hini) (hts _ hlink) hd hR2, hts _ hstat⟩ hp rfl rfl hl.1 rfl (lv_room hW) d ⟨hc1, hc2⟩) (fun ⟨host, hlink⟩ => va_runSN (As := av) (rest := rest) (g := F0 m pc ls (av.reverse ++ rest)) (below := below) (cells := cells) (slots := slots) (locs := locs) (e := e) (meth := meth) ⟨hx, hb, hml, hown, hts⟩ hM ⟨va_cnB av.length hts (z_gi hcode) rfl rfl rfl (hC.2.1 _ hlink) (hts _ hini) hd hR2, hts _ hstat, trivial⟩ hp rfl rfl hl.1 rfl (lv_room hW) d ⟨hc1, hc2⟩)
  refine va_calli hrun hS (fun _ _ h => h) (fun _ h => h) (fun r u t H1 locs1 ht hvm hr hB hz hk2 hS1 => ?_)
  subst hr
  exact k H1 locs1 ls hl (by rw [← ht]; exact hB.2.2) hS1
theorem z_iV (hE : z_EV X E cc nL own fr lo nn) {y : MethodName} {cy : ByteArray} {ny : Nat} {ry : Option FieldType} {fr2 lo2 nn2 idx : Nat} {gC2 gM2 : z_G} {av : List Value} {v : Int32} {k0 ci N : Nat} {T : u_T} {fs : List Value} (hM : z_MI X E.2.1 nn2 y cy ny ry fr2 lo2 (.ref (z_ad X k0) :: av) gC gM gC2 gM2 v) (L : z_LV own idx y cy ny ry av.length) (hn : nn2 ≤ nn) (hk0 : k0 < nn) (he : z_wf X gC gM k0 = .inr (ci, fs)) (hcl : classes[ci]? = some (y.cls, T, N)) (hR : fr2 + 1 ≤ fr ∧ 8 + (ny + 11) + lo2 ≤ lo) (d : decode cc pc = .ok (.invokevirtual idx, 3)) {st : List Value} (hst : st = av.reverse ++ .ref (z_ad X k0) :: rest) (hW : (rest.map fun v => v.category).sum ≤ 8) (k : z_V X E nL gC2 gM2 (pc + 3) lv (.int v :: rest)) : z_V X E nL gC gM pc lv st := by
  obtain ⟨p, l, e, R, s, m, args, below, meth, c, cells, slots, Q⟩ := E
  intro H locs ls hl hP hS
  obtain ⟨hx, hb, hml, hown, hts, hC, hN, hRR, hc1, hc2⟩ := hE
  obtain ⟨hd, hini, hcode, hinst, hsel, hlink⟩ := L
  subst hst
  have hp : PreV s H y.cls (z_ad X k0) (va_Pc (.ref (z_ad X k0) :: av) (fun U => z_WP X nn2 gC gM U)) av := ⟨z_blind, va_recv hC.1 hP hcl (z_w_e (Nat.lt_of_lt_of_le hk0 hN) he), fun U hU hW2 => ⟨rfl, by rw [hU]; exact hC.go hS hW2, Nat.le_trans hn hN, by rw [hU]; exact hP⟩⟩
  have hR2 : fr2 + 1 ≤ R.frames ∧ 8 + (ny + 11) + lo2 ≤ R.locals := ⟨Nat.le_trans hR.1 hRR.1, Nat.le_trans hR.2 hRR.2⟩
  refine va_calli (va_runV (As := av) (rest := rest) (g := F0 m pc ls (av.reverse ++ .ref (z_ad X k0) :: rest)) (below := below) (cells := cells) (slots := slots) (locs := locs) (e := e) (meth := meth) ⟨hx, hb, hml, hown, hts⟩ hM ⟨callB_of av.length hts (z_gi hcode) rfl rfl rfl (hts _ hini) (hts _ hlink) hd hR2, hts _ hinst, hts _ hsel⟩ hp rfl rfl hl.1 rfl (lv_room hW) d ⟨hc1, hc2⟩) hS (fun _ _ h => h) (fun _ h => h) (fun r u t H1 locs1 ht hvm hr hB hz hk2 hS1 => ?_)
  subst hr
  exact k H1 locs1 ls hl (by rw [← ht]; exact hB.2.2) hS1
theorem z_vS (hE : z_EV X E cc nL own fr lo nn) {y : MethodName} {cy : ByteArray} {ny : Nat} {ry : Option FieldType} {fr2 lo2 nn2 idx : Nat} {gC2 gM2 : z_G} {av : List Value} (hM : z_MV X E.2.1 nn2 y cy ny ry fr2 lo2 av gC gM gC2 gM2) (L : z_LS own idx y cy ny ry av.length) (hn : nn2 ≤ nn) (hR : fr2 + 1 ≤ fr ∧ 8 + (ny + 11) + lo2 ≤ lo) (d : decode cc pc = .ok (.invokestatic idx, 3)) {st : List Value} (hst : st = av.reverse ++ rest) (hW : (rest.map fun v => v.category).sum ≤ 8) (k : z_V X E nL gC2 gM2 (pc + 3) lv rest) : z_V X E nL gC gM pc lv st := by
  obtain ⟨p, l, e, R, s, m, args, below, meth, c, cells, slots, Q⟩ := E
  intro H locs ls hl hP hS
  obtain ⟨hx, hb, hml, hown, hts, hC, hN, hRR, hc1, hc2⟩ := hE
  obtain ⟨hd, hini, hcode, hstat, hlink⟩ := L
  subst hst
  have hp : PreS s H (va_Pc av (fun U => z_WP X nn2 gC gM U)) av := ⟨z_blind, fun U hU hW2 => ⟨rfl, by rw [hU]; exact hC.go hS hW2, Nat.le_trans hn hN, by rw [hU]; exact hP⟩⟩
  have hR2 : fr2 + 1 ≤ R.frames ∧ 8 + (ny + 11) + lo2 ≤ R.locals := ⟨Nat.le_trans hR.1 hRR.1, Nat.le_trans hR.2 hRR.2⟩
  have hrun := hlink.elim (fun hlink => va_runS (As := av) (rest := rest) (g := F0 m pc ls (av.reverse ++ rest)) (below := below) (cells := cells) (slots := slots) (locs := locs) (e := e) (meth := meth) ⟨hx, hb, hml, hown, hts⟩ hM ⟨callB_of av.length hts (z_gi hcode) rfl rfl rfl (hts _ hini) (hts _ hlink) hd hR2, hts _ hstat⟩ hp rfl rfl hl.1 rfl (lv_room hW) d ⟨hc1, hc2⟩) (fun ⟨host, hlink⟩ => va_runSN (As := av) (rest := rest) (g := F0 m pc ls (av.reverse ++ rest)) (below := below) (cells := cells) (slots := slots) (locs := locs) (e := e) (meth := meth) ⟨hx, hb, hml, hown, hts⟩ hM ⟨va_cnB av.length hts (z_gi hcode) rfl rfl rfl (hC.2.1 _ hlink) (hts _ hini) hd hR2, hts _ hstat, trivial⟩ hp rfl rfl hl.1 rfl (lv_room hW) d ⟨hc1, hc2⟩)
  refine va_callv hrun hS (fun _ _ h => h) (fun _ h => h) (fun u t H1 locs1 ht hvm hr hB hz hk2 hS1 => ?_)
  skip
  exact k H1 locs1 ls hl (by rw [← ht]; exact hB.2.2) hS1
theorem z_vV (hE : z_EV X E cc nL own fr lo nn) {y : MethodName} {cy : ByteArray} {ny : Nat} {ry : Option FieldType} {fr2 lo2 nn2 idx : Nat} {gC2 gM2 : z_G} {av : List Value} {k0 ci N : Nat} {T : u_T} {fs : List Value} (hM : z_MV X E.2.1 nn2 y cy ny ry fr2 lo2 (.ref (z_ad X k0) :: av) gC gM gC2 gM2) (L : z_LV own idx y cy ny ry av.length) (hn : nn2 ≤ nn) (hk0 : k0 < nn) (he : z_wf X gC gM k0 = .inr (ci, fs)) (hcl : classes[ci]? = some (y.cls, T, N)) (hR : fr2 + 1 ≤ fr ∧ 8 + (ny + 11) + lo2 ≤ lo) (d : decode cc pc = .ok (.invokevirtual idx, 3)) {st : List Value} (hst : st = av.reverse ++ .ref (z_ad X k0) :: rest) (hW : (rest.map fun v => v.category).sum ≤ 8) (k : z_V X E nL gC2 gM2 (pc + 3) lv rest) : z_V X E nL gC gM pc lv st := by
  obtain ⟨p, l, e, R, s, m, args, below, meth, c, cells, slots, Q⟩ := E
  intro H locs ls hl hP hS
  obtain ⟨hx, hb, hml, hown, hts, hC, hN, hRR, hc1, hc2⟩ := hE
  obtain ⟨hd, hini, hcode, hinst, hsel, hlink⟩ := L
  subst hst
  have hp : PreV s H y.cls (z_ad X k0) (va_Pc (.ref (z_ad X k0) :: av) (fun U => z_WP X nn2 gC gM U)) av := ⟨z_blind, va_recv hC.1 hP hcl (z_w_e (Nat.lt_of_lt_of_le hk0 hN) he), fun U hU hW2 => ⟨rfl, by rw [hU]; exact hC.go hS hW2, Nat.le_trans hn hN, by rw [hU]; exact hP⟩⟩
  have hR2 : fr2 + 1 ≤ R.frames ∧ 8 + (ny + 11) + lo2 ≤ R.locals := ⟨Nat.le_trans hR.1 hRR.1, Nat.le_trans hR.2 hRR.2⟩
  refine va_callv (va_runV (As := av) (rest := rest) (g := F0 m pc ls (av.reverse ++ .ref (z_ad X k0) :: rest)) (below := below) (cells := cells) (slots := slots) (locs := locs) (e := e) (meth := meth) ⟨hx, hb, hml, hown, hts⟩ hM ⟨callB_of av.length hts (z_gi hcode) rfl rfl rfl (hts _ hini) (hts _ hlink) hd hR2, hts _ hinst, hts _ hsel⟩ hp rfl rfl hl.1 rfl (lv_room hW) d ⟨hc1, hc2⟩) hS (fun _ _ h => h) (fun _ h => h) (fun u t H1 locs1 ht hvm hr hB hz hk2 hS1 => ?_)
  skip
  exact k H1 locs1 ls hl (by rw [← ht]; exact hB.2.2) hS1
theorem z_meti {l : Launch} {y : MethodName} {ret : Option FieldType} {av : List Value} {gC2 gM2 : z_G} {v : Int32} {ty : FieldType} (hret : ret = some ty) (hnar : narrow ty (.int v) = .int v) (hpl : plainName y.cls = true) (hlen : (lg_sl av).length ≤ nL) (body : ∀ E : z_ET, E.2.1 = l → z_EV X E cc nL y.cls fr lo nn → (∀ (pc : Nat) (lv : List (Nat × Value)), decode cc pc = .ok (.ireturn, 1) → z_V X E nL gC2 gM2 pc lv [.int v]) → z_V X E nL gC gM 0 (lv_args 0 av) []) : z_MI X l nn y cc nL ret fr lo av gC gM gC2 gM2 v := by
  refine Met.ofW (cc := cc) (maxL := nL) (ret := ret) hpl rfl ?_
  intro p e s m args below meth c s₁ B hml hv
  obtain ⟨rfl, hC, hN, hP⟩ := hv
  have hts := atoms_spec (ws := Cond.code y cc nL ret :: lw_good) B.pre
  have hown : s.vm.findClass y.cls = some m.cls := findClass_of_methodNamed B.named
  have hl := lv_entry av (n := nL) hlen
  rw [lg_entry_eq]
  refine body (p, l, e, (headSpec (Cond.code y cc nL ret :: lw_good) ({ frames := fr, cells := 0, slots := 0, locals := lo })).room, s, m, av.toArray, below, meth, c, 0, 0, MQ below (va_Qi (fun (r : Int32) (_ : Unit) => r = v) (fun _ t => z_WP X nn gC2 gM2 t) (z_A X)) av.toArray s 0 0 (z_A X)) rfl ⟨B.exec, B.bytes, hml, hown, fun w hw => hts w (List.mem_cons_of_mem _ hw), hC, hN, ⟨Nat.le_refl _, Nat.le_refl _⟩, Nat.zero_le _, Nat.zero_le _⟩ ?_ s.heap [] _ hl hP va_S.rf
  intro pc lv d H locs ls hl hP hS
  exact W.zret (ty := ty) B.exec B.bytes (B.returns.trans hret) hnar (fun t ht hW => ⟨⟨v, (), rfl, rfl, by rw [ht]; exact hC.go hS hW, hN, by rw [ht]; exact hP⟩, hS.F ht⟩) hS.2.2 d B.notSynchronized
theorem z_metv {l : Launch} {y : MethodName}  {av : List Value} {gC2 gM2 : z_G}  (hpl : plainName y.cls = true) (hlen : (lg_sl av).length ≤ nL) (body : ∀ E : z_ET, E.2.1 = l → z_EV X E cc nL y.cls fr lo nn → (∀ (pc : Nat) (lv : List (Nat × Value)), decode cc pc = .ok (.return_, 1) → z_V X E nL gC2 gM2 pc lv []) → z_V X E nL gC gM 0 (lv_args 0 av) []) : z_MV X l nn y cc nL none fr lo av gC gM gC2 gM2 := by
  refine Met.ofW (cc := cc) (maxL := nL) (ret := none) hpl rfl ?_
  intro p e s m args below meth c s₁ B hml hv
  obtain ⟨rfl, hC, hN, hP⟩ := hv
  have hts := atoms_spec (ws := Cond.code y cc nL none :: lw_good) B.pre
  have hown : s.vm.findClass y.cls = some m.cls := findClass_of_methodNamed B.named
  have hl := lv_entry av (n := nL) hlen
  rw [lg_entry_eq]
  refine body (p, l, e, (headSpec (Cond.code y cc nL none :: lw_good) ({ frames := fr, cells := 0, slots := 0, locals := lo })).room, s, m, av.toArray, below, meth, c, 0, 0, MQ below (va_Qv (fun (_ : Unit) => True) (fun _ t => z_WP X nn gC2 gM2 t) (z_A X)) av.toArray s 0 0 (z_A X)) rfl ⟨B.exec, B.bytes, hml, hown, fun w hw => hts w (List.mem_cons_of_mem _ hw), hC, hN, ⟨Nat.le_refl _, Nat.le_refl _⟩, Nat.zero_le _, Nat.zero_le _⟩ ?_ s.heap [] _ hl hP va_S.rf
  intro pc lv d H locs ls hl hP hS
  exact W.vret B.exec B.bytes B.returns (fun t ht hW => ⟨⟨(), rfl, trivial, by rw [ht]; exact hC.go hS hW, hN, by rw [ht]; exact hP⟩, hS.F ht⟩) hS.2.2 d B.notSynchronized
theorem z_metz {l : Launch} {y : MethodName} {av : List Value} {gC2 gM2 : z_G} {v : Int32} (hpl : plainName y.cls = true) (hlen : (lg_sl av).length ≤ nL) (body : ∀ E : z_ET, E.2.1 = l → z_EV X E cc nL y.cls fr lo nn → (∀ (pc : Nat) (lv : List (Nat × Value)), z_bit v = true → decode cc pc = .ok (.ireturn, 1) → z_V X E nL gC2 gM2 pc lv [.int v]) → z_V X E nL gC gM 0 (lv_args 0 av) []) : z_MI X l nn y cc nL (some .boolean) fr lo av gC gM gC2 gM2 v := by
  refine Met.ofW (cc := cc) (maxL := nL) (ret := some .boolean) hpl rfl ?_
  intro p e s m args below meth c s₁ B hml hv
  obtain ⟨rfl, hC, hN, hP⟩ := hv
  have hts := atoms_spec (ws := Cond.code y cc nL (some .boolean) :: lw_good) B.pre
  have hown : s.vm.findClass y.cls = some m.cls := findClass_of_methodNamed B.named
  have hl := lv_entry av (n := nL) hlen
  rw [lg_entry_eq]
  refine body (p, l, e, (headSpec (Cond.code y cc nL (some .boolean) :: lw_good) ({ frames := fr, cells := 0, slots := 0, locals := lo })).room, s, m, av.toArray, below, meth, c, 0, 0, MQ below (va_Qi (fun (r : Int32) (_ : Unit) => r = v) (fun _ t => z_WP X nn gC2 gM2 t) (z_A X)) av.toArray s 0 0 (z_A X)) rfl ⟨B.exec, B.bytes, hml, hown, fun w hw => hts w (List.mem_cons_of_mem _ hw), hC, hN, ⟨Nat.le_refl _, Nat.le_refl _⟩, Nat.zero_le _, Nat.zero_le _⟩ ?_ s.heap [] _ hl hP va_S.rf
  intro pc lv hbit d H locs ls hl hP hS
  exact W.zret (ty := .boolean) B.exec B.bytes B.returns (z_bit_nar hbit).1 (fun t ht hW => ⟨⟨v, (), rfl, rfl, by rw [ht]; exact hC.go hS hW, hN, by rw [ht]; exact hP⟩, hS.F ht⟩) hS.2.2 d B.notSynchronized
end ZR
