/-! ===== the rules of J: an instruction each ===== -/
theorem J_iconst {G : Gx} {M : Md} {pc : Nat} {L : List (Nat × Value)} {st : List Value} {w : Wd} {g : Bool} {o : Ou} {z : Wd} {h : Bool} {a b : Nat} {n : Int} {v : Int32} (hv : Int32.ofInt n = v) (hd : decode (mC M) pc = .ok (.iconst n, 1)) (kk : J G M (pc + 1) L (.int v :: st) w g o z h a b) : J G M pc L (st) w g o z h a b :=
  fun p e R s m args below meth c C H locs ls cells slots hR hl ha hb => lv_iconst C.1 C.2.1 hd hv (kk p e R s m args below meth c C H locs ls cells slots hR hl ha hb)
theorem J_bipush {G : Gx} {M : Md} {pc : Nat} {L : List (Nat × Value)} {st : List Value} {w : Wd} {g : Bool} {o : Ou} {z : Wd} {h : Bool} {a b : Nat} {n : Int} {v : Int32} (hv : (Int8.ofInt n).toInt32 = v) (hd : decode (mC M) pc = .ok (.bipush n, 2)) (kk : J G M (pc + 2) L (.int v :: st) w g o z h a b) : J G M pc L (st) w g o z h a b :=
  fun p e R s m args below meth c C H locs ls cells slots hR hl ha hb => lv_bipush C.1 C.2.1 hd hv (kk p e R s m args below meth c C H locs ls cells slots hR hl ha hb)
theorem J_sipush {G : Gx} {M : Md} {pc : Nat} {L : List (Nat × Value)} {st : List Value} {w : Wd} {g : Bool} {o : Ou} {z : Wd} {h : Bool} {a b : Nat} {n : Int} {v : Int32} (hv : (Int16.ofInt n).toInt32 = v) (hd : decode (mC M) pc = .ok (.sipush n, 3)) (kk : J G M (pc + 3) L (.int v :: st) w g o z h a b) : J G M pc L (st) w g o z h a b :=
  fun p e R s m args below meth c C H locs ls cells slots hR hl ha hb => lv_sipush C.1 C.2.1 hd hv (kk p e R s m args below meth c C H locs ls cells slots hR hl ha hb)
theorem J_lconst {G : Gx} {M : Md} {pc : Nat} {L : List (Nat × Value)} {st : List Value} {w : Wd} {g : Bool} {o : Ou} {z : Wd} {h : Bool} {a b : Nat} {n : Fin 2} {v : Int64} (hv : Int64.ofNat (n : Nat) = v) (hd : decode (mC M) pc = .ok (.lconst n, 1)) (kk : J G M (pc + 1) L (.long v :: st) w g o z h a b) : J G M pc L (st) w g o z h a b :=
  fun p e R s m args below meth c C H locs ls cells slots hR hl ha hb => lv_lconst C.1 C.2.1 hd hv (kk p e R s m args below meth c C H locs ls cells slots hR hl ha hb)
theorem J_iadd {G : Gx} {M : Md} {pc : Nat} {L : List (Nat × Value)} {st : List Value} {w : Wd} {g : Bool} {o : Ou} {z : Wd} {h : Bool} {a b : Nat} {x y : Int32} (hd : decode (mC M) pc = .ok (.iadd, 1)) (kk : J G M (pc + 1) L (.int (x + y) :: st) w g o z h a b) : J G M pc L (.int y :: .int x :: st) w g o z h a b :=
  fun p e R s m args below meth c C H locs ls cells slots hR hl ha hb => lv_iadd C.1 C.2.1 hd (kk p e R s m args below meth c C H locs ls cells slots hR hl ha hb)
theorem J_isub {G : Gx} {M : Md} {pc : Nat} {L : List (Nat × Value)} {st : List Value} {w : Wd} {g : Bool} {o : Ou} {z : Wd} {h : Bool} {a b : Nat} {x y : Int32} (hd : decode (mC M) pc = .ok (.isub, 1)) (kk : J G M (pc + 1) L (.int (x - y) :: st) w g o z h a b) : J G M pc L (.int y :: .int x :: st) w g o z h a b :=
  fun p e R s m args below meth c C H locs ls cells slots hR hl ha hb => lv_isub C.1 C.2.1 hd (kk p e R s m args below meth c C H locs ls cells slots hR hl ha hb)
theorem J_imul {G : Gx} {M : Md} {pc : Nat} {L : List (Nat × Value)} {st : List Value} {w : Wd} {g : Bool} {o : Ou} {z : Wd} {h : Bool} {a b : Nat} {x y : Int32} (hd : decode (mC M) pc = .ok (.imul, 1)) (kk : J G M (pc + 1) L (.int (x * y) :: st) w g o z h a b) : J G M pc L (.int y :: .int x :: st) w g o z h a b :=
  fun p e R s m args below meth c C H locs ls cells slots hR hl ha hb => lv_imul C.1 C.2.1 hd (kk p e R s m args below meth c C H locs ls cells slots hR hl ha hb)
theorem J_iand {G : Gx} {M : Md} {pc : Nat} {L : List (Nat × Value)} {st : List Value} {w : Wd} {g : Bool} {o : Ou} {z : Wd} {h : Bool} {a b : Nat} {x y : Int32} (hd : decode (mC M) pc = .ok (.iand, 1)) (kk : J G M (pc + 1) L (.int (x &&& y) :: st) w g o z h a b) : J G M pc L (.int y :: .int x :: st) w g o z h a b :=
  fun p e R s m args below meth c C H locs ls cells slots hR hl ha hb => lv_iand C.1 C.2.1 hd (kk p e R s m args below meth c C H locs ls cells slots hR hl ha hb)
theorem J_ior {G : Gx} {M : Md} {pc : Nat} {L : List (Nat × Value)} {st : List Value} {w : Wd} {g : Bool} {o : Ou} {z : Wd} {h : Bool} {a b : Nat} {x y : Int32} (hd : decode (mC M) pc = .ok (.ior, 1)) (kk : J G M (pc + 1) L (.int (x ||| y) :: st) w g o z h a b) : J G M pc L (.int y :: .int x :: st) w g o z h a b :=
  fun p e R s m args below meth c C H locs ls cells slots hR hl ha hb => lv_ior C.1 C.2.1 hd (kk p e R s m args below meth c C H locs ls cells slots hR hl ha hb)
theorem J_ixor {G : Gx} {M : Md} {pc : Nat} {L : List (Nat × Value)} {st : List Value} {w : Wd} {g : Bool} {o : Ou} {z : Wd} {h : Bool} {a b : Nat} {x y : Int32} (hd : decode (mC M) pc = .ok (.ixor, 1)) (kk : J G M (pc + 1) L (.int (x ^^^ y) :: st) w g o z h a b) : J G M pc L (.int y :: .int x :: st) w g o z h a b :=
  fun p e R s m args below meth c C H locs ls cells slots hR hl ha hb => lv_ixor C.1 C.2.1 hd (kk p e R s m args below meth c C H locs ls cells slots hR hl ha hb)
theorem J_ishl {G : Gx} {M : Md} {pc : Nat} {L : List (Nat × Value)} {st : List Value} {w : Wd} {g : Bool} {o : Ou} {z : Wd} {h : Bool} {a b : Nat} {x y : Int32} (hd : decode (mC M) pc = .ok (.ishl, 1)) (kk : J G M (pc + 1) L (.int (x <<< (y &&& 31)) :: st) w g o z h a b) : J G M pc L (.int y :: .int x :: st) w g o z h a b :=
  fun p e R s m args below meth c C H locs ls cells slots hR hl ha hb => lv_ishl C.1 C.2.1 hd (kk p e R s m args below meth c C H locs ls cells slots hR hl ha hb)
theorem J_ishr {G : Gx} {M : Md} {pc : Nat} {L : List (Nat × Value)} {st : List Value} {w : Wd} {g : Bool} {o : Ou} {z : Wd} {h : Bool} {a b : Nat} {x y : Int32} (hd : decode (mC M) pc = .ok (.ishr, 1)) (kk : J G M (pc + 1) L (.int (x >>> (y &&& 31)) :: st) w g o z h a b) : J G M pc L (.int y :: .int x :: st) w g o z h a b :=
  fun p e R s m args below meth c C H locs ls cells slots hR hl ha hb => lv_ishr C.1 C.2.1 hd (kk p e R s m args below meth c C H locs ls cells slots hR hl ha hb)
theorem J_idiv {G : Gx} {M : Md} {pc : Nat} {L : List (Nat × Value)} {st : List Value} {w : Wd} {g : Bool} {o : Ou} {z : Wd} {h : Bool} {a b : Nat} {x y : Int32} (hn : ¬ y = 0) (hd : decode (mC M) pc = .ok (.idiv, 1)) (kk : J G M (pc + 1) L (.int (x / y) :: st) w g o z h a b) : J G M pc L (.int y :: .int x :: st) w g o z h a b :=
  fun p e R s m args below meth c C H locs ls cells slots hR hl ha hb => lv_idiv C.1 C.2.1 hd hn (kk p e R s m args below meth c C H locs ls cells slots hR hl ha hb)
theorem J_irem {G : Gx} {M : Md} {pc : Nat} {L : List (Nat × Value)} {st : List Value} {w : Wd} {g : Bool} {o : Ou} {z : Wd} {h : Bool} {a b : Nat} {x y : Int32} (hn : ¬ y = 0) (hd : decode (mC M) pc = .ok (.irem, 1)) (kk : J G M (pc + 1) L (.int (x - x / y * y) :: st) w g o z h a b) : J G M pc L (.int y :: .int x :: st) w g o z h a b :=
  fun p e R s m args below meth c C H locs ls cells slots hR hl ha hb => lv_irem C.1 C.2.1 hd hn (kk p e R s m args below meth c C H locs ls cells slots hR hl ha hb)
theorem J_iushr {G : Gx} {M : Md} {pc : Nat} {L : List (Nat × Value)} {st : List Value} {w : Wd} {g : Bool} {o : Ou} {z : Wd} {h : Bool} {a b : Nat} {x y : Int32} (hd : decode (mC M) pc = .ok (.iushr, 1)) (kk : J G M (pc + 1) L (.int (x.toUInt32 >>> (y.toUInt32 &&& Int32.toUInt32 31)).toInt32 :: st) w g o z h a b) : J G M pc L (.int y :: .int x :: st) w g o z h a b :=
  fun p e R s m args below meth c C H locs ls cells slots hR hl ha hb => lv_iushr C.1 C.2.1 hd rfl (kk p e R s m args below meth c C H locs ls cells slots hR hl ha hb)
theorem J_ineg {G : Gx} {M : Md} {pc : Nat} {L : List (Nat × Value)} {st : List Value} {w : Wd} {g : Bool} {o : Ou} {z : Wd} {h : Bool} {a b : Nat} {x : Int32} (hd : decode (mC M) pc = .ok (.ineg, 1)) (kk : J G M (pc + 1) L (.int (-x) :: st) w g o z h a b) : J G M pc L (.int x :: st) w g o z h a b :=
  fun p e R s m args below meth c C H locs ls cells slots hR hl ha hb => lv_ineg C.1 C.2.1 hd (kk p e R s m args below meth c C H locs ls cells slots hR hl ha hb)
theorem J_i2l {G : Gx} {M : Md} {pc : Nat} {L : List (Nat × Value)} {st : List Value} {w : Wd} {g : Bool} {o : Ou} {z : Wd} {h : Bool} {a b : Nat} {x : Int32} (hd : decode (mC M) pc = .ok (.i2l, 1)) (kk : J G M (pc + 1) L (.long x.toInt64 :: st) w g o z h a b) : J G M pc L (.int x :: st) w g o z h a b :=
  fun p e R s m args below meth c C H locs ls cells slots hR hl ha hb => lv_i2l C.1 C.2.1 hd rfl (kk p e R s m args below meth c C H locs ls cells slots hR hl ha hb)
theorem J_i2b {G : Gx} {M : Md} {pc : Nat} {L : List (Nat × Value)} {st : List Value} {w : Wd} {g : Bool} {o : Ou} {z : Wd} {h : Bool} {a b : Nat} {x : Int32} (hd : decode (mC M) pc = .ok (.i2b, 1)) (kk : J G M (pc + 1) L (.int x.toInt8.toInt32 :: st) w g o z h a b) : J G M pc L (.int x :: st) w g o z h a b :=
  fun p e R s m args below meth c C H locs ls cells slots hR hl ha hb => lv_i2b C.1 C.2.1 hd rfl (kk p e R s m args below meth c C H locs ls cells slots hR hl ha hb)
theorem J_lcmp {G : Gx} {M : Md} {pc : Nat} {L : List (Nat × Value)} {st : List Value} {w : Wd} {g : Bool} {o : Ou} {z : Wd} {h : Bool} {a b : Nat} {x y : Int64} (hd : decode (mC M) pc = .ok (.lcmp, 1)) (kk : J G M (pc + 1) L (.int (lg_cmp x y) :: st) w g o z h a b) : J G M pc L (.long y :: .long x :: st) w g o z h a b :=
  fun p e R s m args below meth c C H locs ls cells slots hR hl ha hb => W.lcmp C.1 C.2.1 hd (kk p e R s m args below meth c C H locs ls cells slots hR hl ha hb)
theorem J_dupi {G : Gx} {M : Md} {pc : Nat} {L : List (Nat × Value)} {st : List Value} {w : Wd} {g : Bool} {o : Ou} {z : Wd} {h : Bool} {a b : Nat} {x : Int32} (hd : decode (mC M) pc = .ok (.dup, 1)) (kk : J G M (pc + 1) L (.int x :: .int x :: st) w g o z h a b) : J G M pc L (.int x :: st) w g o z h a b :=
  fun p e R s m args below meth c C H locs ls cells slots hR hl ha hb => lv_dup C.1 C.2.1 hd rfl (kk p e R s m args below meth c C H locs ls cells slots hR hl ha hb)
theorem J_dupr {G : Gx} {M : Md} {pc : Nat} {L : List (Nat × Value)} {st : List Value} {w : Wd} {g : Bool} {o : Ou} {z : Wd} {h : Bool} {a b : Nat} {x : Nat} (hd : decode (mC M) pc = .ok (.dup, 1)) (kk : J G M (pc + 1) L (.ref x :: .ref x :: st) w g o z h a b) : J G M pc L (.ref x :: st) w g o z h a b :=
  fun p e R s m args below meth c C H locs ls cells slots hR hl ha hb => lv_dup C.1 C.2.1 hd rfl (kk p e R s m args below meth c C H locs ls cells slots hR hl ha hb)
theorem J_dup2 {G : Gx} {M : Md} {pc : Nat} {L : List (Nat × Value)} {st : List Value} {w : Wd} {g : Bool} {o : Ou} {z : Wd} {h : Bool} {a b : Nat} {x : Int32} {y : Nat} (hd : decode (mC M) pc = .ok (.dup2, 1)) (kk : J G M (pc + 1) L (.int x :: .ref y :: .int x :: .ref y :: st) w g o z h a b) : J G M pc L (.int x :: .ref y :: st) w g o z h a b :=
  fun p e R s m args below meth c C H locs ls cells slots hR hl ha hb => lv_dup2_11 C.1 C.2.1 hd rfl rfl (kk p e R s m args below meth c C H locs ls cells slots hR hl ha hb)
theorem J_iload {G : Gx} {M : Md} {pc : Nat} {L : List (Nat × Value)} {st : List Value} {w : Wd} {g : Bool} {o : Ou} {z : Wd} {h : Bool} {a b : Nat} {i : Nat} {x : Int32} (hx : lk i L = some (.int x)) (hd : decode (mC M) pc = .ok (.iload i, 2)) (kk : J G M (pc + 2) L (.int x :: st) w g o z h a b) : J G M pc L (st) w g o z h a b :=
  fun p e R s m args below meth c C H locs ls cells slots hR hl ha hb => lv_iload C.1 C.2.1 hd (lk_at hl hx) (kk p e R s m args below meth c C H locs ls cells slots hR hl ha hb)
theorem J_iload_n {G : Gx} {M : Md} {pc : Nat} {L : List (Nat × Value)} {st : List Value} {w : Wd} {g : Bool} {o : Ou} {z : Wd} {h : Bool} {a b : Nat} {k : Fin 4} {i : Nat} {x : Int32} (hi : (k : Nat) = i) (hx : lk i L = some (.int x)) (hd : decode (mC M) pc = .ok (.iload_n k, 1)) (kk : J G M (pc + 1) L (.int x :: st) w g o z h a b) : J G M pc L (st) w g o z h a b :=
  fun p e R s m args below meth c C H locs ls cells slots hR hl ha hb => lv_iload_n C.1 C.2.1 hd hi (lk_at hl hx) (kk p e R s m args below meth c C H locs ls cells slots hR hl ha hb)
theorem J_lload {G : Gx} {M : Md} {pc : Nat} {L : List (Nat × Value)} {st : List Value} {w : Wd} {g : Bool} {o : Ou} {z : Wd} {h : Bool} {a b : Nat} {i : Nat} {x : Int64} (hx : lk i L = some (.long x)) (hd : decode (mC M) pc = .ok (.lload i, 2)) (kk : J G M (pc + 2) L (.long x :: st) w g o z h a b) : J G M pc L (st) w g o z h a b :=
  fun p e R s m args below meth c C H locs ls cells slots hR hl ha hb => lv_lload C.1 C.2.1 hd (lk_at hl hx) (kk p e R s m args below meth c C H locs ls cells slots hR hl ha hb)
theorem J_lload_n {G : Gx} {M : Md} {pc : Nat} {L : List (Nat × Value)} {st : List Value} {w : Wd} {g : Bool} {o : Ou} {z : Wd} {h : Bool} {a b : Nat} {k : Fin 4} {i : Nat} {x : Int64} (hi : (k : Nat) = i) (hx : lk i L = some (.long x)) (hd : decode (mC M) pc = .ok (.lload_n k, 1)) (kk : J G M (pc + 1) L (.long x :: st) w g o z h a b) : J G M pc L (st) w g o z h a b :=
  fun p e R s m args below meth c C H locs ls cells slots hR hl ha hb => lv_lload_n C.1 C.2.1 hd hi (lk_at hl hx) (kk p e R s m args below meth c C H locs ls cells slots hR hl ha hb)
theorem J_aload {G : Gx} {M : Md} {pc : Nat} {L : List (Nat × Value)} {st : List Value} {w : Wd} {g : Bool} {o : Ou} {z : Wd} {h : Bool} {a b : Nat} {i : Nat} {x : Nat} (hx : lk i L = some (.ref x)) (hd : decode (mC M) pc = .ok (.aload i, 2)) (kk : J G M (pc + 2) L (.ref x :: st) w g o z h a b) : J G M pc L (st) w g o z h a b :=
  fun p e R s m args below meth c C H locs ls cells slots hR hl ha hb => lv_aload C.1 C.2.1 hd (lk_at hl hx) (kk p e R s m args below meth c C H locs ls cells slots hR hl ha hb)
theorem J_aload_n {G : Gx} {M : Md} {pc : Nat} {L : List (Nat × Value)} {st : List Value} {w : Wd} {g : Bool} {o : Ou} {z : Wd} {h : Bool} {a b : Nat} {k : Fin 4} {i : Nat} {x : Nat} (hi : (k : Nat) = i) (hx : lk i L = some (.ref x)) (hd : decode (mC M) pc = .ok (.aload_n k, 1)) (kk : J G M (pc + 1) L (.ref x :: st) w g o z h a b) : J G M pc L (st) w g o z h a b :=
  fun p e R s m args below meth c C H locs ls cells slots hR hl ha hb => lv_aload_n C.1 C.2.1 hd hi (lk_at hl hx) (kk p e R s m args below meth c C H locs ls cells slots hR hl ha hb)
theorem J_istore {G : Gx} {M : Md} {pc : Nat} {L : List (Nat × Value)} {st : List Value} {w : Wd} {g : Bool} {o : Ou} {z : Wd} {h : Bool} {a b : Nat} (L' : List (Nat × Value)) {i : Nat} {x : Int32} (hn : i < mN M) (hL : lset i (.int x) L = L') (hd : decode (mC M) pc = .ok (.istore i, 2)) (kk : J G M (pc + 2) L' (st) w g o z h a b) : J G M pc L (.int x :: st) w g o z h a b :=
  fun p e R s m args below meth c C H locs ls cells slots hR hl ha hb => lv_istore C.1 C.2.1 hd hl hn (by subst hL; exact lset_c G i (.int x) L) (fun ls hl => kk p e R s m args below meth c C H locs ls cells slots hR hl ha hb)
theorem J_istore_n {G : Gx} {M : Md} {pc : Nat} {L : List (Nat × Value)} {st : List Value} {w : Wd} {g : Bool} {o : Ou} {z : Wd} {h : Bool} {a b : Nat} (L' : List (Nat × Value)) {k : Fin 4} {i : Nat} {x : Int32} (hi : (k : Nat) = i) (hn : i < mN M) (hL : lset i (.int x) L = L') (hd : decode (mC M) pc = .ok (.istore_n k, 1)) (kk : J G M (pc + 1) L' (st) w g o z h a b) : J G M pc L (.int x :: st) w g o z h a b :=
  fun p e R s m args below meth c C H locs ls cells slots hR hl ha hb => lv_istore_n C.1 C.2.1 hd hi hl hn (by subst hL; exact lset_c G i (.int x) L) (fun ls hl => kk p e R s m args below meth c C H locs ls cells slots hR hl ha hb)
theorem J_astore {G : Gx} {M : Md} {pc : Nat} {L : List (Nat × Value)} {st : List Value} {w : Wd} {g : Bool} {o : Ou} {z : Wd} {h : Bool} {a b : Nat} (L' : List (Nat × Value)) {i : Nat} {x : Nat} (hn : i < mN M) (hL : lset i (.ref x) L = L') (hd : decode (mC M) pc = .ok (.astore i, 2)) (kk : J G M (pc + 2) L' (st) w g o z h a b) : J G M pc L (.ref x :: st) w g o z h a b :=
  fun p e R s m args below meth c C H locs ls cells slots hR hl ha hb => lv_astore C.1 C.2.1 hd hl hn (by subst hL; exact lset_c G i (.ref x) L) (fun ls hl => kk p e R s m args below meth c C H locs ls cells slots hR hl ha hb)
theorem J_astore_n {G : Gx} {M : Md} {pc : Nat} {L : List (Nat × Value)} {st : List Value} {w : Wd} {g : Bool} {o : Ou} {z : Wd} {h : Bool} {a b : Nat} (L' : List (Nat × Value)) {k : Fin 4} {i : Nat} {x : Nat} (hi : (k : Nat) = i) (hn : i < mN M) (hL : lset i (.ref x) L = L') (hd : decode (mC M) pc = .ok (.astore_n k, 1)) (kk : J G M (pc + 1) L' (st) w g o z h a b) : J G M pc L (.ref x :: st) w g o z h a b :=
  fun p e R s m args below meth c C H locs ls cells slots hR hl ha hb => lv_astore_n C.1 C.2.1 hd hi hl hn (by subst hL; exact lset_c G i (.ref x) L) (fun ls hl => kk p e R s m args below meth c C H locs ls cells slots hR hl ha hb)
theorem J_iinc {G : Gx} {M : Md} {pc : Nat} {L : List (Nat × Value)} {st : List Value} {w : Wd} {g : Bool} {o : Ou} {z : Wd} {h : Bool} {a b : Nat} (L' : List (Nat × Value)) {i : Nat} {n : Int} {x v : Int32} (hx : lk i L = some (.int x)) (hv : x + Int32.ofInt n = v) (hn : i < mN M) (hL : lset i (.int v) L = L') (hd : decode (mC M) pc = .ok (.iinc i n, 3)) (kk : J G M (pc + 3) L' (st) w g o z h a b) : J G M pc L (st) w g o z h a b :=
  fun p e R s m args below meth c C H locs ls cells slots hR hl ha hb => by
  obtain ⟨k, hk⟩ := List.getElem?_of_mem (lk_in (G := G) hx)
  exact lv_iinc C.1 C.2.1 hd hl hk hv hn (by subst hL; exact lset_c G i (.int v) L) (fun ls hl => kk p e R s m args below meth c C H locs ls cells slots hR hl ha hb)
theorem J_if_eq {G : Gx} {M : Md} {pc : Nat} {L : List (Nat × Value)} {st : List Value} {w : Wd} {g : Bool} {o : Ou} {z : Wd} {h : Bool} {a b : Nat} {x : Int32} {off : Int} {tgt : Nat} (hd : decode (mC M) pc = .ok (.ifCond .eq off, 3)) (ht : (pc : Int) + off = (tgt : Int)) (kt : x = 0 → J G M (tgt) L (st) w g o z h a b) (kf : ¬ x = 0 → J G M (pc + 3) L (st) w g o z h a b) : J G M pc L (.int x :: st) w g o z h a b :=
  fun p e R s m args below meth c C H locs ls cells slots hR hl ha hb => lv_if_eq C.1 C.2.1 hd ht (fun q => kt q p e R s m args below meth c C H locs ls cells slots hR hl ha hb) (fun q => kf q p e R s m args below meth c C H locs ls cells slots hR hl ha hb)
theorem J_icmp_eq {G : Gx} {M : Md} {pc : Nat} {L : List (Nat × Value)} {st : List Value} {w : Wd} {g : Bool} {o : Ou} {z : Wd} {h : Bool} {a b : Nat} {x y : Int32} {off : Int} {tgt : Nat} (hd : decode (mC M) pc = .ok (.if_icmp .eq off, 3)) (ht : (pc : Int) + off = (tgt : Int)) (kt : x = y → J G M (tgt) L (st) w g o z h a b) (kf : ¬ x = y → J G M (pc + 3) L (st) w g o z h a b) : J G M pc L (.int y :: .int x :: st) w g o z h a b :=
  fun p e R s m args below meth c C H locs ls cells slots hR hl ha hb => lv_icmp_eq C.1 C.2.1 hd ht (fun q => kt q p e R s m args below meth c C H locs ls cells slots hR hl ha hb) (fun q => kf q p e R s m args below meth c C H locs ls cells slots hR hl ha hb)
theorem J_if_ne {G : Gx} {M : Md} {pc : Nat} {L : List (Nat × Value)} {st : List Value} {w : Wd} {g : Bool} {o : Ou} {z : Wd} {h : Bool} {a b : Nat} {x : Int32} {off : Int} {tgt : Nat} (hd : decode (mC M) pc = .ok (.ifCond .ne off, 3)) (ht : (pc : Int) + off = (tgt : Int)) (kt : ¬ x = 0 → J G M (tgt) L (st) w g o z h a b) (kf : x = 0 → J G M (pc + 3) L (st) w g o z h a b) : J G M pc L (.int x :: st) w g o z h a b :=
  fun p e R s m args below meth c C H locs ls cells slots hR hl ha hb => lv_if_ne C.1 C.2.1 hd ht (fun q => kt q p e R s m args below meth c C H locs ls cells slots hR hl ha hb) (fun q => kf q p e R s m args below meth c C H locs ls cells slots hR hl ha hb)
theorem J_icmp_ne {G : Gx} {M : Md} {pc : Nat} {L : List (Nat × Value)} {st : List Value} {w : Wd} {g : Bool} {o : Ou} {z : Wd} {h : Bool} {a b : Nat} {x y : Int32} {off : Int} {tgt : Nat} (hd : decode (mC M) pc = .ok (.if_icmp .ne off, 3)) (ht : (pc : Int) + off = (tgt : Int)) (kt : ¬ x = y → J G M (tgt) L (st) w g o z h a b) (kf : x = y → J G M (pc + 3) L (st) w g o z h a b) : J G M pc L (.int y :: .int x :: st) w g o z h a b :=
  fun p e R s m args below meth c C H locs ls cells slots hR hl ha hb => lv_icmp_ne C.1 C.2.1 hd ht (fun q => kt q p e R s m args below meth c C H locs ls cells slots hR hl ha hb) (fun q => kf q p e R s m args below meth c C H locs ls cells slots hR hl ha hb)
theorem J_if_lt {G : Gx} {M : Md} {pc : Nat} {L : List (Nat × Value)} {st : List Value} {w : Wd} {g : Bool} {o : Ou} {z : Wd} {h : Bool} {a b : Nat} {x : Int32} {off : Int} {tgt : Nat} (hd : decode (mC M) pc = .ok (.ifCond .lt off, 3)) (ht : (pc : Int) + off = (tgt : Int)) (kt : x < 0 → J G M (tgt) L (st) w g o z h a b) (kf : ¬ x < 0 → J G M (pc + 3) L (st) w g o z h a b) : J G M pc L (.int x :: st) w g o z h a b :=
  fun p e R s m args below meth c C H locs ls cells slots hR hl ha hb => lv_if_lt C.1 C.2.1 hd ht (fun q => kt q p e R s m args below meth c C H locs ls cells slots hR hl ha hb) (fun q => kf q p e R s m args below meth c C H locs ls cells slots hR hl ha hb)
theorem J_icmp_lt {G : Gx} {M : Md} {pc : Nat} {L : List (Nat × Value)} {st : List Value} {w : Wd} {g : Bool} {o : Ou} {z : Wd} {h : Bool} {a b : Nat} {x y : Int32} {off : Int} {tgt : Nat} (hd : decode (mC M) pc = .ok (.if_icmp .lt off, 3)) (ht : (pc : Int) + off = (tgt : Int)) (kt : x < y → J G M (tgt) L (st) w g o z h a b) (kf : ¬ x < y → J G M (pc + 3) L (st) w g o z h a b) : J G M pc L (.int y :: .int x :: st) w g o z h a b :=
  fun p e R s m args below meth c C H locs ls cells slots hR hl ha hb => lv_icmp_lt C.1 C.2.1 hd ht (fun q => kt q p e R s m args below meth c C H locs ls cells slots hR hl ha hb) (fun q => kf q p e R s m args below meth c C H locs ls cells slots hR hl ha hb)
theorem J_if_ge {G : Gx} {M : Md} {pc : Nat} {L : List (Nat × Value)} {st : List Value} {w : Wd} {g : Bool} {o : Ou} {z : Wd} {h : Bool} {a b : Nat} {x : Int32} {off : Int} {tgt : Nat} (hd : decode (mC M) pc = .ok (.ifCond .ge off, 3)) (ht : (pc : Int) + off = (tgt : Int)) (kt : 0 ≤ x → J G M (tgt) L (st) w g o z h a b) (kf : ¬ 0 ≤ x → J G M (pc + 3) L (st) w g o z h a b) : J G M pc L (.int x :: st) w g o z h a b :=
  fun p e R s m args below meth c C H locs ls cells slots hR hl ha hb => lv_if_ge C.1 C.2.1 hd ht (fun q => kt q p e R s m args below meth c C H locs ls cells slots hR hl ha hb) (fun q => kf q p e R s m args below meth c C H locs ls cells slots hR hl ha hb)
theorem J_icmp_ge {G : Gx} {M : Md} {pc : Nat} {L : List (Nat × Value)} {st : List Value} {w : Wd} {g : Bool} {o : Ou} {z : Wd} {h : Bool} {a b : Nat} {x y : Int32} {off : Int} {tgt : Nat} (hd : decode (mC M) pc = .ok (.if_icmp .ge off, 3)) (ht : (pc : Int) + off = (tgt : Int)) (kt : y ≤ x → J G M (tgt) L (st) w g o z h a b) (kf : ¬ y ≤ x → J G M (pc + 3) L (st) w g o z h a b) : J G M pc L (.int y :: .int x :: st) w g o z h a b :=
  fun p e R s m args below meth c C H locs ls cells slots hR hl ha hb => lv_icmp_ge C.1 C.2.1 hd ht (fun q => kt q p e R s m args below meth c C H locs ls cells slots hR hl ha hb) (fun q => kf q p e R s m args below meth c C H locs ls cells slots hR hl ha hb)
theorem J_if_gt {G : Gx} {M : Md} {pc : Nat} {L : List (Nat × Value)} {st : List Value} {w : Wd} {g : Bool} {o : Ou} {z : Wd} {h : Bool} {a b : Nat} {x : Int32} {off : Int} {tgt : Nat} (hd : decode (mC M) pc = .ok (.ifCond .gt off, 3)) (ht : (pc : Int) + off = (tgt : Int)) (kt : 0 < x → J G M (tgt) L (st) w g o z h a b) (kf : ¬ 0 < x → J G M (pc + 3) L (st) w g o z h a b) : J G M pc L (.int x :: st) w g o z h a b :=
  fun p e R s m args below meth c C H locs ls cells slots hR hl ha hb => lv_if_gt C.1 C.2.1 hd ht (fun q => kt q p e R s m args below meth c C H locs ls cells slots hR hl ha hb) (fun q => kf q p e R s m args below meth c C H locs ls cells slots hR hl ha hb)
theorem J_icmp_gt {G : Gx} {M : Md} {pc : Nat} {L : List (Nat × Value)} {st : List Value} {w : Wd} {g : Bool} {o : Ou} {z : Wd} {h : Bool} {a b : Nat} {x y : Int32} {off : Int} {tgt : Nat} (hd : decode (mC M) pc = .ok (.if_icmp .gt off, 3)) (ht : (pc : Int) + off = (tgt : Int)) (kt : y < x → J G M (tgt) L (st) w g o z h a b) (kf : ¬ y < x → J G M (pc + 3) L (st) w g o z h a b) : J G M pc L (.int y :: .int x :: st) w g o z h a b :=
  fun p e R s m args below meth c C H locs ls cells slots hR hl ha hb => lv_icmp_gt C.1 C.2.1 hd ht (fun q => kt q p e R s m args below meth c C H locs ls cells slots hR hl ha hb) (fun q => kf q p e R s m args below meth c C H locs ls cells slots hR hl ha hb)
theorem J_if_le {G : Gx} {M : Md} {pc : Nat} {L : List (Nat × Value)} {st : List Value} {w : Wd} {g : Bool} {o : Ou} {z : Wd} {h : Bool} {a b : Nat} {x : Int32} {off : Int} {tgt : Nat} (hd : decode (mC M) pc = .ok (.ifCond .le off, 3)) (ht : (pc : Int) + off = (tgt : Int)) (kt : x ≤ 0 → J G M (tgt) L (st) w g o z h a b) (kf : ¬ x ≤ 0 → J G M (pc + 3) L (st) w g o z h a b) : J G M pc L (.int x :: st) w g o z h a b :=
  fun p e R s m args below meth c C H locs ls cells slots hR hl ha hb => lv_if_le C.1 C.2.1 hd ht (fun q => kt q p e R s m args below meth c C H locs ls cells slots hR hl ha hb) (fun q => kf q p e R s m args below meth c C H locs ls cells slots hR hl ha hb)
theorem J_icmp_le {G : Gx} {M : Md} {pc : Nat} {L : List (Nat × Value)} {st : List Value} {w : Wd} {g : Bool} {o : Ou} {z : Wd} {h : Bool} {a b : Nat} {x y : Int32} {off : Int} {tgt : Nat} (hd : decode (mC M) pc = .ok (.if_icmp .le off, 3)) (ht : (pc : Int) + off = (tgt : Int)) (kt : x ≤ y → J G M (tgt) L (st) w g o z h a b) (kf : ¬ x ≤ y → J G M (pc + 3) L (st) w g o z h a b) : J G M pc L (.int y :: .int x :: st) w g o z h a b :=
  fun p e R s m args below meth c C H locs ls cells slots hR hl ha hb => lv_icmp_le C.1 C.2.1 hd ht (fun q => kt q p e R s m args below meth c C H locs ls cells slots hR hl ha hb) (fun q => kf q p e R s m args below meth c C H locs ls cells slots hR hl ha hb)
theorem J_goto {G : Gx} {M : Md} {pc : Nat} {L : List (Nat × Value)} {st : List Value} {w : Wd} {g : Bool} {o : Ou} {z : Wd} {h : Bool} {a b : Nat} {off : Int} {tgt : Nat} (hd : decode (mC M) pc = .ok (.goto off, 3)) (ht : (pc : Int) + off = (tgt : Int)) (kk : J G M (tgt) L (st) w g o z h a b) : J G M pc L (st) w g o z h a b :=
  fun p e R s m args below meth c C H locs ls cells slots hR hl ha hb => lv_goto C.1 C.2.1 hd ht (kk p e R s m args below meth c C H locs ls cells slots hR hl ha hb)
theorem J_tabOut {G : Gx} {M : Md} {pc : Nat} {L : List (Nat × Value)} {st : List Value} {w : Wd} {g : Bool} {o : Ou} {z : Wd} {h : Bool} {a b : Nat} {dflt lo hi : Int} {offs : Array Int} {len : Nat} {x : Int32} {tgt : Nat} (hd : decode (mC M) pc = .ok (.tableswitch dflt lo hi offs, len)) (hx : x.toInt < lo ∨ hi < x.toInt) (ht : (pc : Int) + dflt = (tgt : Int)) (kk : J G M (tgt) L (st) w g o z h a b) : J G M pc L (.int x :: st) w g o z h a b :=
  fun p e R s m args below meth c C H locs ls cells slots hR hl ha hb => lv_tableOut C.1 C.2.1 hd hx ht (kk p e R s m args below meth c C H locs ls cells slots hR hl ha hb)
theorem J_tabIn {G : Gx} {M : Md} {pc : Nat} {L : List (Nat × Value)} {st : List Value} {w : Wd} {g : Bool} {o : Ou} {z : Wd} {h : Bool} {a b : Nat} {dflt lo hi : Int} {offs : Array Int} {len : Nat} {x : Int32} {off : Int} {tgt : Nat} (hd : decode (mC M) pc = .ok (.tableswitch dflt lo hi offs, len)) (h1 : ¬ x.toInt < lo) (h2 : ¬ hi < x.toInt) (ho : offs[(x.toInt - lo).toNat]? = some off) (ht : (pc : Int) + off = (tgt : Int)) (kk : J G M (tgt) L (st) w g o z h a b) : J G M pc L (.int x :: st) w g o z h a b :=
  fun p e R s m args below meth c C H locs ls cells slots hR hl ha hb => lv_tableIn C.1 C.2.1 hd h1 h2 ho ht (kk p e R s m args below meth c C H locs ls cells slots hR hl ha hb)
theorem J_look {G : Gx} {M : Md} {pc : Nat} {L : List (Nat × Value)} {st : List Value} {w : Wd} {g : Bool} {o : Ou} {z : Wd} {h : Bool} {a b : Nat} {dflt : Int} {ps : Array (Int × Int)} {len : Nat} {x : Int32} {off : Int} {tgt : Nat} (hd : decode (mC M) pc = .ok (.lookupswitch dflt ps, len)) (hp : (ps.toList.zip (ps.toList.drop 1)).all (fun (a, next) => a.1 < next.1) = true) (ho : Op.lookupswitch.offset ps.toList dflt x.toInt = off) (ht : (pc : Int) + off = (tgt : Int)) (kk : J G M (tgt) L (st) w g o z h a b) : J G M pc L (.int x :: st) w g o z h a b :=
  fun p e R s m args below meth c C H locs ls cells slots hR hl ha hb => lv_lookup C.1 C.2.1 hd hp ho ht (kk p e R s m args below meth c C H locs ls cells slots hR hl ha hb)
theorem J_ldc {G : Gx} {M : Md} {pc : Nat} {L : List (Nat × Value)} {st : List Value} {w : Wd} {g : Bool} {o : Ou} {z : Wd} {h : Bool} {a b : Nat} {idx : Nat} {v : Int32} (hw : Cond.constant (mY M).cls idx v ∈ gt) (hd : decode (mC M) pc = .ok (.ldc idx, 2)) (kk : J G M (pc + 2) L (.int v :: st) w g o z h a b) : J G M pc L (st) w g o z h a b :=
  fun p e R s m args below meth c C H locs ls cells slots hR hl ha hb => lv_ldc C.1 C.2.1 C.2.2.2.2.2.1 (C.2.2.2.2.2.2.2.1 _ hw) hd (kk p e R s m args below meth c C H locs ls cells slots hR hl ha hb)
theorem J_ldcw {G : Gx} {M : Md} {pc : Nat} {L : List (Nat × Value)} {st : List Value} {w : Wd} {g : Bool} {o : Ou} {z : Wd} {h : Bool} {a b : Nat} {idx : Nat} {v : Int32} (hw : Cond.constant (mY M).cls idx v ∈ gt) (hd : decode (mC M) pc = .ok (.ldc_w idx, 3)) (kk : J G M (pc + 3) L (.int v :: st) w g o z h a b) : J G M pc L (st) w g o z h a b :=
  fun p e R s m args below meth c C H locs ls cells slots hR hl ha hb => lv_ldcw C.1 C.2.1 C.2.2.2.2.2.1 (C.2.2.2.2.2.2.2.1 _ hw) hd (kk p e R s m args below meth c C H locs ls cells slots hR hl ha hb)
theorem J_ldc2 {G : Gx} {M : Md} {pc : Nat} {L : List (Nat × Value)} {st : List Value} {w : Wd} {g : Bool} {o : Ou} {z : Wd} {h : Bool} {a b : Nat} {idx : Nat} {v : Int64} (hw : Cond.constantLong (mY M).cls idx v ∈ gt) (hd : decode (mC M) pc = .ok (.ldc2_w idx, 3)) (kk : J G M (pc + 3) L (.long v :: st) w g o z h a b) : J G M pc L (st) w g o z h a b :=
  fun p e R s m args below meth c C H locs ls cells slots hR hl ha hb => lv_ldc2 C.1 C.2.1 C.2.2.2.2.2.1 (C.2.2.2.2.2.2.2.1 _ hw) hd (kk p e R s m args below meth c C H locs ls cells slots hR hl ha hb)
theorem J_ldcS {G : Gx} {M : Md} {pc : Nat} {L : List (Nat × Value)} {st : List Value} {w : Wd} {g : Bool} {o : Ou} {z : Wd} {h : Bool} {a b : Nat} {idx q : Nat} {tx : String} (hw : ((mY M).cls, idx, tx, q) ∈ strS) (hd : decode (mC M) pc = .ok (.ldc idx, 2)) (kk : J G M (pc + 2) L (.ref q :: st) w g o z h a b) : J G M pc L (st) w g o z h a b :=
  fun p e R s m args below meth c C H locs ls cells slots hR hl ha hb => va_ldcS C.1 C.2.1 C.2.2.2.2.2.1 (C.2.2.2.2.2.2.2.2.2.1.2.1 _ hw) hd (kk p e R s m args below meth c C H locs ls cells slots hR hl ha hb)
/-- a class of the world: its place, its fields and their kinds -/
def Kls (ci : Nat) (C : String) (T : u_T) (N : Nat) (ty : Nat → FieldType) : Prop := vwCl[ci]? = some (C, T, N) ∧ (∀ w ∈ u_ws C T N, w ∈ gt) ∧ (∀ k, k < N → parseFieldDescriptor (T k).2.2.1 = some (ty k)) ∧ (∀ a, a < N → ∀ b, b < N → a ≠ b → (T a).2.1 ≠ (T b).2.1)
theorem J_geti {G : Gx} {M : Md} {pc : Nat} {L : List (Nat × Value)} {st : List Value} {g : Bool} {o : Ou} {z : Wd} {h : Bool} {a b : Nat} {sh : List Sh} {mm : Nat → Nat → Int32} {lm : Nat → Int64} {ci : Nat} {Cn : String} {T : u_T} {N : Nat} {ty : Nat → FieldType} (hK : Kls ci Cn T N ty) {idx q k : Nat} {sl : List (Option (Option Nat))} (hs : sh[q]? = some (.inl (ci, sl))) (hk : k < N) (ho : sl[k]? = some none) (hw : Cond.fieldLink (mY M).cls idx (T k).1 (T k).2.1 (T k).2.2.1 ∈ gt) (hd : decode (mC M) pc = .ok (.getfield idx, 3)) (kk : J G M (pc + 3) L (.int (mm q k) :: st) (sh, mm, lm) g o z h a b) : J G M pc L (.ref q :: st) (sh, mm, lm) g o z h a b :=
  fun p e R s m args below meth c C H locs ls cells slots hR hl ha hb => va_get C.1 C.2.1 C.2.2.2.2.2.2.2.1 hK.2.1 C.2.2.2.2.2.1 C.2.2.2.2.2.2.2.2.1 hR.1 q (cw_at (w := (sh, mm, lm)) hs) hK.1 k hk (C.2.2.2.2.2.2.2.1 _ hw) (fun _ h => h) (by simp [List.getElem?_mapIdx, ho, fv, cv]) hd (kk p e R s m args below meth c C H locs ls cells slots hR hl ha hb)
theorem J_getr {G : Gx} {M : Md} {pc : Nat} {L : List (Nat × Value)} {st : List Value} {g : Bool} {o : Ou} {z : Wd} {h : Bool} {a b : Nat} {sh : List Sh} {mm : Nat → Nat → Int32} {lm : Nat → Int64} {ci : Nat} {Cn : String} {T : u_T} {N : Nat} {ty : Nat → FieldType} (hK : Kls ci Cn T N ty) {idx q k r : Nat} {sl : List (Option (Option Nat))} (hs : sh[q]? = some (.inl (ci, sl))) (hk : k < N) (ho : sl[k]? = some (some (some r))) (hw : Cond.fieldLink (mY M).cls idx (T k).1 (T k).2.1 (T k).2.2.1 ∈ gt) (hd : decode (mC M) pc = .ok (.getfield idx, 3)) (kk : J G M (pc + 3) L (.ref r :: st) (sh, mm, lm) g o z h a b) : J G M pc L (.ref q :: st) (sh, mm, lm) g o z h a b :=
  fun p e R s m args below meth c C H locs ls cells slots hR hl ha hb => va_get C.1 C.2.1 C.2.2.2.2.2.2.2.1 hK.2.1 C.2.2.2.2.2.1 C.2.2.2.2.2.2.2.2.1 hR.1 q (cw_at (w := (sh, mm, lm)) hs) hK.1 k hk (C.2.2.2.2.2.2.2.1 _ hw) (fun _ h => h) (by simp [List.getElem?_mapIdx, ho, fv, rfv, cv]) hd (kk p e R s m args below meth c C H locs ls cells slots hR hl ha hb)
/-- behind a write to the cell q of a world -/
theorem Rl_put {G : Gx} {s : State} {H H1 : Heap} {locs : List Loc} {w w' : Wd} {g : Bool} {q i : Nat} {x x' : Sh} (hR : Rl G s H locs w g) (hx : w.1[q]? = some x) (h1 : w'.1 = w.1.set q x') (h2 : ∀ a y, a ≠ q → w.1[a]? = some y → cc G w' a y = cc G w a y)
    (he : va_at (Gd G) vwCl (adr G q, cc G w' q x') H1) (z1 : H1.size = H.size) (oq : ∀ a : Nat, a ≠ adr G q → H1[a]? = H[a]?) : Rl G s H1 (locs ++ [⟨adr G q, i⟩]) w' g := by
  obtain ⟨hP, hS, hn, hg⟩ := hR
  have hD := cw_D (G := G) hn
  have e := cw_set (G := G) (w' := w') hx h1 h2
  refine ⟨?_, hS.put z1 oq (hD.2 q _ (cw_at hx)), by rw [h1, List.length_set]; exact hn, fun hh => by rw [z1, hg hh, h1, List.length_set]⟩
  rw [← e]
  exact hP.set hD (cw_at hx) he oq
theorem cc_mset {G : Gx} {sh : List Sh} {m : Nat → Nat → Int32} {lm : Nat → Int64} {q j : Nat} {v : Int32} (a : Nat) (y : Sh) (h : a ≠ q) : cc G (sh, mset m q j v, lm) a y = cc G (sh, m, lm) a y := by
  rcases y with ⟨ci, sl⟩ | ⟨t, n⟩ | ⟨t, n, f⟩ <;> simp [cc, mset_ne h]
theorem cc_sh {G : Gx} {sh sh' : List Sh} {m : Nat → Nat → Int32} {lm : Nat → Int64} (a : Nat) (y : Sh) : cc G (sh', m, lm) a y = cc G (sh, m, lm) a y := by
  rcases y with ⟨ci, sl⟩ | ⟨t, n⟩ | ⟨t, n, f⟩ <;> rfl
theorem mapIdx_set {α β : Type} (f f' : Nat → α → β) (l : List α) (k : Nat) (x : α) (h : ∀ j y, j ≠ k → f' j y = f j y) : (l.mapIdx f).set k (f' k x) = (l.set k x).mapIdx f' := by
  apply List.ext_getElem?
  intro j
  by_cases hj : j = k
  · subst hj
    by_cases hl : j < l.length
    · rw [List.getElem?_set_self (by simpa using hl), List.getElem?_mapIdx, List.getElem?_set_self hl]; rfl
    · rw [List.set_eq_of_length_le (by simpa using Nat.not_lt.mp hl), List.set_eq_of_length_le (Nat.not_lt.mp hl)]
      simp [List.getElem?_mapIdx, List.getElem?_eq_none (Nat.not_lt.mp hl)]
  · rw [List.getElem?_set_ne (Ne.symm hj), List.getElem?_mapIdx, List.getElem?_mapIdx, List.getElem?_set_ne (Ne.symm hj)]
    cases l[j]? with
    | none => rfl
    | some y => simp [h j y hj]
theorem set_self {α : Type} {l : List α} {k : Nat} {x : α} (h : l[k]? = some x) : l.set k x = l := by
  obtain ⟨hk, he⟩ := List.getElem?_eq_some_iff.mp h
  subst he
  exact List.set_getElem_self hk
theorem fs_seti {G : Gx} {m : Nat → Nat → Int32} {q k : Nat} {v : Int32} {sl : List (Option (Option Nat))} (ho : sl[k]? = some none) : (sl.mapIdx (fv G (m q))).set k (.int v) = sl.mapIdx (fv G (mset m q k v q)) := by
  have h := mapIdx_set (fv G (m q)) (fv G (mset m q k v q)) sl k none (fun j y hj => by cases y <;> simp [fv, mset, hj])
  rw [set_self ho] at h
  rw [← h]
  simp [fv, mset]
theorem fs_setr {G : Gx} {m : Nat → Int32} {k : Nat} {r : Option Nat} {sl : List (Option (Option Nat))} : (sl.mapIdx (fv G m)).set k (rfv G r) = (sl.set k (some r)).mapIdx (fv G m) :=
  mapIdx_set (fv G m) (fv G m) sl k (some r) (fun _ _ _ => rfl)
section Put
variable {p : Program} {l : Launch} {e : Env} {R : Room} {s : State} {m : MethodId} {args : Array Value} {below : List Frame} {meth : Method} {c : Code} {H : Heap} {locs : List Loc} {cells slots : Nat} {Q : State → Prop}
variable {cc0 : ByteArray} {pc : Nat} {ls : Array Slot} {rest : List Value} {D : va_G} {cl : List vw_C} {a : Nat} {tys : List (ClassId × FieldType)} {ws : va_W} {H0 : Heap}
theorem put_core (hexec : p.tables.exec = Jvm.exec) (hb : c.code = cc0) {own ref C : String} {T : u_T} {N ci index : Nat} {Ts : List Cond} (hts : ∀ w ∈ Ts, w.before args s = true) (hin : ∀ w ∈ u_ws C T N, w ∈ Ts) (ty0 : Nat → FieldType) (hty : ∀ k, k < N → parseFieldDescriptor (T k).2.2.1 = some (ty0 k)) (hnm : ∀ a, a < N → ∀ b, b < N → a ≠ b → (T a).2.1 ≠ (T b).2.1) (hown : s.vm.findClass own = some m.cls) (hK : va_K D cl tys s) (hP : va_P D cl ws H) (q0 : Nat) {fs : List Value} (he : ws[q0]? = some (a, .inr (ci, fs))) (hc : cl[ci]? = some (C, T, N)) (k : Nat) (hk : k < N) (hlink : (Cond.fieldLink own index ref (T k).2.1 (T k).2.2.1).before args s = true) (hsame : ∀ x, s.fieldFound? (T k).1 (T k).2.1 (T k).2.2.1 = some x → s.fieldFound? ref (T k).2.1 (T k).2.2.1 = some x) (hfin : (T k).2.2.2 = false) {ty : FieldType} {v : Value} (hd : parseFieldDescriptor (T k).2.2.1 = some ty) (hn : narrow ty v = v) (hfit : fits ty v = true) (hl : k < fs.length)
    (hdg : decode cc0 pc = .ok (.putfield index, 3)) (kk : ∀ (H1 : Heap) (i : Nat), va_at D cl (a, .inr (ci, fs.set k v)) H1 → H1.size = H.size → (∀ q : Nat, q ≠ a → H1[q]? = H[q]?) → W p l e R s m args below meth c H1 (locs ++ [⟨a, i⟩]) cells slots Q (F0 m (pc + 3) ls rest)) : W p l e R s m args below meth c H locs cells slots Q (F0 m pc ls (v :: .ref a :: rest)) := by
  have hap := va_apart (own := own) hts hin ty0 hty hnm hK hc
  obtain ⟨r, h1, cell, q1, q2, q3, q4⟩ := hP q0 _ he
  have hr : r = (C, T, N) := Option.some.inj (h1.symm.trans hc)
  subst hr
  obtain ⟨hS, hfc, kC, hkC, hkind⟩ := hK.1 ci _ hc
  obtain ⟨cf, kf, fi, f, hi, hsl⟩ := hS k hk
  have hlay := hts _ (hin _ (u_in_lay hk))
  unfold u_lay at hlay
  rw [if_neg (by rw [hfin]; decide)] at hlay
  have hst := (u_facts hfc hkC (u_lays hts hin hk) hi).1
  have h6 := u_store hfc hkC hkind hlay hi hd hn hfit
  refine W.putK hexec hb (f := f) ⟨hown, hlink, ⟨_, _, _, hsame _ hi⟩, hst⟩ (by rw [q2]; exact h6) q1 q3 (by rw [hsl]; exact k2_hasslot (q4 k hk)) rfl rfl hdg fun H' e1 e2 e3 => ?_
  rw [hsl] at e1 ⊢
  exact kk H' _ ⟨_, hc, t_OB.to (V := updV (vp_V fs) k v) ⟨_, e1, q2, q3, t_set q4 hap hk v⟩ (fun j _ => vp_updV_set hl v j)⟩ e2 e3
theorem putF_core (hexec : p.tables.exec = Jvm.exec) (hb : c.code = cc0) {own ref C : String} {T : u_T} {N ci index : Nat} {Ts : List Cond} (hts : ∀ w ∈ Ts, w.before args s = true) (hin : ∀ w ∈ u_ws C T N, w ∈ Ts) (ty0 : Nat → FieldType) (hty : ∀ k, k < N → parseFieldDescriptor (T k).2.2.1 = some (ty0 k)) (hnm : ∀ a, a < N → ∀ b, b < N → a ≠ b → (T a).2.1 ≠ (T b).2.1) (hown : s.vm.findClass own = some m.cls) (hK : va_K D cl tys s) (hP : va_P D cl ws H) (q0 : Nat) {fs : List Value} (he : ws[q0]? = some (a, .inr (ci, fs))) (hc : cl[ci]? = some (C, T, N)) (k : Nat) (hk : k < N) (hlink : (Cond.fieldLink own index ref (T k).2.1 (T k).2.2.1).before args s = true) (hsame : ∀ x, s.fieldFound? (T k).1 (T k).2.1 (T k).2.2.1 = some x → s.fieldFound? ref (T k).2.1 (T k).2.2.1 = some x) (hfin : (T k).2.2.2 = true) (hin2 : meth.name = "<init>") (hdecl : (T k).1 = own) {ty : FieldType} {v : Value} (hd : parseFieldDescriptor (T k).2.2.1 = some ty) (hn : narrow ty v = v) (hfit : fits ty v = true) (hl : k < fs.length)
    (hdg : decode cc0 pc = .ok (.putfield index, 3)) (kk : ∀ (H1 : Heap) (i : Nat), va_at D cl (a, .inr (ci, fs.set k v)) H1 → H1.size = H.size → (∀ q : Nat, q ≠ a → H1[q]? = H[q]?) → W p l e R s m args below meth c H1 (locs ++ [⟨a, i⟩]) cells slots Q (F0 m (pc + 3) ls rest)) : W p l e R s m args below meth c H locs cells slots Q (F0 m pc ls (v :: .ref a :: rest)) := by
  have hap := va_apart (own := own) hts hin ty0 hty hnm hK hc
  obtain ⟨r, h1, cell, q1, q2, q3, q4⟩ := hP q0 _ he
  have hr : r = (C, T, N) := Option.some.inj (h1.symm.trans hc)
  subst hr
  obtain ⟨hS, hfc, kC, hkC, hkind⟩ := hK.1 ci _ hc
  obtain ⟨cf, kf, fi, f, hi, hsl⟩ := hS k hk
  have hlay := hts _ (hin _ (u_in_lay hk))
  unfold u_lay at hlay
  rw [if_pos hfin] at hlay
  have hst := (u_facts hfc hkC (u_lays hts hin hk) hi).1
  have hcf : m.cls = cf := by
    obtain ⟨_, _, c', _, _, _, -, -, hf', -, -, -, hown2, -⟩ := Cond.laysFinal_spec hlay
    have e1 : c' = cf := by have := hi.symm.trans hf'; simp at this; exact this.1.symm
    rw [hdecl] at hown2
    rw [← e1]; exact Option.some.inj (hown.symm.trans hown2)
  have h6 := u_fits hfc hkC hkind (Or.inr hlay) hi hd hn hfit
  refine W.putFinK hexec hb hown hlink (hsame _ hi) hst hcf hin2 (by rw [q2]; exact h6) q1 q3 (by rw [hsl]; exact k2_hasslot (q4 k hk)) rfl rfl hdg fun H' e1 e2 e3 => ?_
  rw [hsl] at e1 ⊢
  exact kk H' _ ⟨_, hc, t_OB.to (V := updV (vp_V fs) k v) ⟨_, e1, q2, q3, t_set q4 hap hk v⟩ (fun j _ => vp_updV_set hl v j)⟩ e2 e3
end Put
theorem J_puti {G : Gx} {M : Md} {pc : Nat} {L : List (Nat × Value)} {st : List Value} {g : Bool} {o : Ou} {z : Wd} {h : Bool} {a b : Nat} {sh : List Sh} {mm : Nat → Nat → Int32} {lm : Nat → Int64} {ci : Nat} {Cn : String} {T : u_T} {N : Nat} {ty : Nat → FieldType} (hK : Kls ci Cn T N ty) {idx q k : Nat} {sl : List (Option (Option Nat))} (hs : sh[q]? = some (.inl (ci, sl))) (hk : k < N) {x : Int32} (ho : sl[k]? = some none) (hfin : (T k).2.2.2 = false) (hn : ∀ y : Nat, narrow (ty k) (.int x) = .int x) (hfit : ∀ y : Nat, fits (ty k) (.int x) = true) (hw : Cond.fieldLink (mY M).cls idx (T k).1 (T k).2.1 (T k).2.2.1 ∈ gt) (hd : decode (mC M) pc = .ok (.putfield idx, 3)) (kk : J G M (pc + 3) L st (sh, mset mm q k x, lm) g o z h a b) : J G M pc L (.int x :: .ref q :: st) (sh, mm, lm) g o z h a b := by
  intro p e R s m args below meth c C H locs ls cells slots hR hl ha hb
  refine put_core C.1 C.2.1 C.2.2.2.2.2.2.2.1 hK.2.1 ty hK.2.2.1 hK.2.2.2 C.2.2.2.2.2.1 C.2.2.2.2.2.2.2.2.1 hR.1 q (fs := sl.mapIdx (fv G (mm q))) (cw_at (G := G) (w := (sh, mm, lm)) hs) hK.1 k hk (C.2.2.2.2.2.2.2.1 _ hw) (fun _ h => h) hfin (v := .int x) (hK.2.2.1 k hk) (hn 0) (hfit 0) (by rw [List.length_mapIdx]; exact (List.getElem?_eq_some_iff.mp ho).1) hd fun H1 i hat hz hq => ?_
  refine kk p e R s m args below meth c C H1 _ ls cells slots (Rl_put (w' := (sh, mset mm q k x, lm)) (x' := .inl (ci, sl)) hR hs (set_self hs).symm (fun a y h _ => cc_mset a y h) ?_ hz hq) hl ha hb
  show va_at (Gd G) vwCl (adr G q, .inr (ci, sl.mapIdx (fv G (mset mm q k x q)))) H1
  rw [← fs_seti ho]
  exact hat
theorem J_putFi {G : Gx} {M : Md} {pc : Nat} {L : List (Nat × Value)} {st : List Value} {g : Bool} {o : Ou} {z : Wd} {h : Bool} {a b : Nat} {sh : List Sh} {mm : Nat → Nat → Int32} {lm : Nat → Int64} {ci : Nat} {Cn : String} {T : u_T} {N : Nat} {ty : Nat → FieldType} (hK : Kls ci Cn T N ty) {idx q k : Nat} {sl : List (Option (Option Nat))} (hs : sh[q]? = some (.inl (ci, sl))) (hk : k < N) {x : Int32} (ho : sl[k]? = some none) (hfin : (T k).2.2.2 = true) (hm : (mY M).name = "<init>") (hdc : (T k).1 = (mY M).cls) (hn : ∀ y : Nat, narrow (ty k) (.int x) = .int x) (hfit : ∀ y : Nat, fits (ty k) (.int x) = true) (hw : Cond.fieldLink (mY M).cls idx (T k).1 (T k).2.1 (T k).2.2.1 ∈ gt) (hd : decode (mC M) pc = .ok (.putfield idx, 3)) (kk : J G M (pc + 3) L st (sh, mset mm q k x, lm) g o z h a b) : J G M pc L (.int x :: .ref q :: st) (sh, mm, lm) g o z h a b := by
  intro p e R s m args below meth c C H locs ls cells slots hR hl ha hb
  refine putF_core C.1 C.2.1 C.2.2.2.2.2.2.2.1 hK.2.1 ty hK.2.2.1 hK.2.2.2 C.2.2.2.2.2.1 C.2.2.2.2.2.2.2.2.1 hR.1 q (fs := sl.mapIdx (fv G (mm q))) (cw_at (G := G) (w := (sh, mm, lm)) hs) hK.1 k hk (C.2.2.2.2.2.2.2.1 _ hw) (fun _ h => h) hfin ((C.2.2.2.2.2.2.1).trans hm) hdc (v := .int x) (hK.2.2.1 k hk) (hn 0) (hfit 0) (by rw [List.length_mapIdx]; exact (List.getElem?_eq_some_iff.mp ho).1) hd fun H1 i hat hz hq => ?_
  refine kk p e R s m args below meth c C H1 _ ls cells slots (Rl_put (w' := (sh, mset mm q k x, lm)) (x' := .inl (ci, sl)) hR hs (set_self hs).symm (fun a y h _ => cc_mset a y h) ?_ hz hq) hl ha hb
  show va_at (Gd G) vwCl (adr G q, .inr (ci, sl.mapIdx (fv G (mset mm q k x q)))) H1
  rw [← fs_seti ho]
  exact hat
theorem J_putr {G : Gx} {M : Md} {pc : Nat} {L : List (Nat × Value)} {st : List Value} {g : Bool} {o : Ou} {z : Wd} {h : Bool} {a b : Nat} {sh : List Sh} {mm : Nat → Nat → Int32} {lm : Nat → Int64} {ci : Nat} {Cn : String} {T : u_T} {N : Nat} {ty : Nat → FieldType} (hK : Kls ci Cn T N ty) {idx q k : Nat} {sl : List (Option (Option Nat))} (hs : sh[q]? = some (.inl (ci, sl))) (hk : k < N) {r : Nat} {y : Option Nat} (ho : sl[k]? = some (some y)) (hfin : (T k).2.2.2 = false) (hn : ∀ y : Nat, narrow (ty k) (.ref y) = .ref y) (hfit : ∀ y : Nat, fits (ty k) (.ref y) = true) (hw : Cond.fieldLink (mY M).cls idx (T k).1 (T k).2.1 (T k).2.2.1 ∈ gt) (hd : decode (mC M) pc = .ok (.putfield idx, 3)) (kk : J G M (pc + 3) L st (sh.set q (.inl (ci, sl.set k (some (some r)))), mm, lm) g o z h a b) : J G M pc L (.ref r :: .ref q :: st) (sh, mm, lm) g o z h a b := by
  intro p e R s m args below meth c C H locs ls cells slots hR hl ha hb
  refine put_core C.1 C.2.1 C.2.2.2.2.2.2.2.1 hK.2.1 ty hK.2.2.1 hK.2.2.2 C.2.2.2.2.2.1 C.2.2.2.2.2.2.2.2.1 hR.1 q (fs := sl.mapIdx (fv G (mm q))) (cw_at (G := G) (w := (sh, mm, lm)) hs) hK.1 k hk (C.2.2.2.2.2.2.2.1 _ hw) (fun _ h => h) hfin (v := .ref (adr G r)) (hK.2.2.1 k hk) (hn (adr G r)) (hfit (adr G r)) (by rw [List.length_mapIdx]; exact (List.getElem?_eq_some_iff.mp ho).1) hd fun H1 i hat hz hq => ?_
  refine kk p e R s m args below meth c C H1 _ ls cells slots (Rl_put (w' := (sh.set q (.inl (ci, sl.set k (some (some r)))), mm, lm)) hR hs rfl (fun a y _ _ => cc_sh a y) ?_ hz hq) hl ha hb
  show va_at (Gd G) vwCl (adr G q, .inr (ci, (sl.set k (some (some r))).mapIdx (fv G (mm q)))) H1
  rw [← fs_setr]
  exact hat
theorem J_putFr {G : Gx} {M : Md} {pc : Nat} {L : List (Nat × Value)} {st : List Value} {g : Bool} {o : Ou} {z : Wd} {h : Bool} {a b : Nat} {sh : List Sh} {mm : Nat → Nat → Int32} {lm : Nat → Int64} {ci : Nat} {Cn : String} {T : u_T} {N : Nat} {ty : Nat → FieldType} (hK : Kls ci Cn T N ty) {idx q k : Nat} {sl : List (Option (Option Nat))} (hs : sh[q]? = some (.inl (ci, sl))) (hk : k < N) {r : Nat} {y : Option Nat} (ho : sl[k]? = some (some y)) (hfin : (T k).2.2.2 = true) (hm : (mY M).name = "<init>") (hdc : (T k).1 = (mY M).cls) (hn : ∀ y : Nat, narrow (ty k) (.ref y) = .ref y) (hfit : ∀ y : Nat, fits (ty k) (.ref y) = true) (hw : Cond.fieldLink (mY M).cls idx (T k).1 (T k).2.1 (T k).2.2.1 ∈ gt) (hd : decode (mC M) pc = .ok (.putfield idx, 3)) (kk : J G M (pc + 3) L st (sh.set q (.inl (ci, sl.set k (some (some r)))), mm, lm) g o z h a b) : J G M pc L (.ref r :: .ref q :: st) (sh, mm, lm) g o z h a b := by
  intro p e R s m args below meth c C H locs ls cells slots hR hl ha hb
  refine putF_core C.1 C.2.1 C.2.2.2.2.2.2.2.1 hK.2.1 ty hK.2.2.1 hK.2.2.2 C.2.2.2.2.2.1 C.2.2.2.2.2.2.2.2.1 hR.1 q (fs := sl.mapIdx (fv G (mm q))) (cw_at (G := G) (w := (sh, mm, lm)) hs) hK.1 k hk (C.2.2.2.2.2.2.2.1 _ hw) (fun _ h => h) hfin ((C.2.2.2.2.2.2.1).trans hm) hdc (v := .ref (adr G r)) (hK.2.2.1 k hk) (hn (adr G r)) (hfit (adr G r)) (by rw [List.length_mapIdx]; exact (List.getElem?_eq_some_iff.mp ho).1) hd fun H1 i hat hz hq => ?_
  refine kk p e R s m args below meth c C H1 _ ls cells slots (Rl_put (w' := (sh.set q (.inl (ci, sl.set k (some (some r)))), mm, lm)) hR hs rfl (fun a y _ _ => cc_sh a y) ?_ hz hq) hl ha hb
  show va_at (Gd G) vwCl (adr G q, .inr (ci, (sl.set k (some (some r))).mapIdx (fv G (mm q)))) H1
  rw [← fs_setr]
  exact hat
theorem vp_inE {i : Int32} {n j : Nat} (hi : i = nI j) (hj : j < n) (hn : n < 2 ^ 31) : vp_in i n ∧ i.toNatClampNeg = j := by subst hi; exact ⟨vp_in_nI hj hn, nI_clamp (by omega)⟩
theorem J_iald {G : Gx} {M : Md} {pc : Nat} {L : List (Nat × Value)} {st : List Value} {g : Bool} {o : Ou} {z : Wd} {h : Bool} {a b : Nat} {sh : List Sh} {mm : Nat → Nat → Int32} {lm : Nat → Int64} {q n j : Nat} {i : Int32} (hs : sh[q]? = some (.inr (.inl (0, n)))) (hi : i = nI j) (hj : j < n) (hn : n < 2 ^ 31) (hd : decode (mC M) pc = .ok (.iaload, 1)) (kk : J G M (pc + 1) L (.int (mm q j) :: st) (sh, mm, lm) g o z h a b) : J G M pc L (.int i :: .ref q :: st) (sh, mm, lm) g o z h a b :=
  fun p e R s m args below meth c C H locs ls cells slots hR hl ha hb => by
  obtain ⟨h1, h2⟩ := vp_inE hi hj hn
  exact va_iald C.1 C.2.1 C.2.2.2.2.2.2.2.2.1 hR.1 q 0 (cA := Gt G 0) (n := n) (f := mm q) (by rw [cw_at (w := (sh, mm, lm)) hs]; rfl) rfl h1 hd (by rw [h2]; exact kk p e R s m args below meth c C H locs ls cells slots hR hl ha hb)
theorem J_bald {G : Gx} {M : Md} {pc : Nat} {L : List (Nat × Value)} {st : List Value} {g : Bool} {o : Ou} {z : Wd} {h : Bool} {a b : Nat} {sh : List Sh} {mm : Nat → Nat → Int32} {lm : Nat → Int64} {q n j : Nat} {i : Int32} (hs : sh[q]? = some (.inr (.inl (1, n)))) (hi : i = nI j) (hj : j < n) (hn : n < 2 ^ 31) (hd : decode (mC M) pc = .ok (.baload, 1)) (kk : J G M (pc + 1) L (.int (mm q j) :: st) (sh, mm, lm) g o z h a b) : J G M pc L (.int i :: .ref q :: st) (sh, mm, lm) g o z h a b :=
  fun p e R s m args below meth c C H locs ls cells slots hR hl ha hb => by
  obtain ⟨h1, h2⟩ := vp_inE hi hj hn
  exact va_bald C.1 C.2.1 C.2.2.2.2.2.2.2.2.1 hR.1 q 1 (cA := Gt G 1) (n := n) (f := mm q) (by rw [cw_at (w := (sh, mm, lm)) hs]; rfl) rfl h1 hd (by rw [h2]; exact kk p e R s m args below meth c C H locs ls cells slots hR hl ha hb)
theorem J_zald {G : Gx} {M : Md} {pc : Nat} {L : List (Nat × Value)} {st : List Value} {g : Bool} {o : Ou} {z : Wd} {h : Bool} {a b : Nat} {sh : List Sh} {mm : Nat → Nat → Int32} {lm : Nat → Int64} {q n j : Nat} {i : Int32} (hs : sh[q]? = some (.inr (.inl (2, n)))) (hi : i = nI j) (hj : j < n) (hn : n < 2 ^ 31) (hd : decode (mC M) pc = .ok (.baload, 1)) (kk : J G M (pc + 1) L (.int (mm q j) :: st) (sh, mm, lm) g o z h a b) : J G M pc L (.int i :: .ref q :: st) (sh, mm, lm) g o z h a b :=
  fun p e R s m args below meth c C H locs ls cells slots hR hl ha hb => by
  obtain ⟨h1, h2⟩ := vp_inE hi hj hn
  exact va_zald C.1 C.2.1 C.2.2.2.2.2.2.2.2.1 hR.1 q 2 (cA := Gt G 2) (n := n) (f := mm q) (by rw [cw_at (w := (sh, mm, lm)) hs]; rfl) rfl h1 hd (by rw [h2]; exact kk p e R s m args below meth c C H locs ls cells slots hR hl ha hb)
theorem J_lald {G : Gx} {M : Md} {pc : Nat} {L : List (Nat × Value)} {st : List Value} {w : Wd} {g : Bool} {o : Ou} {z : Wd} {h : Bool} {a b : Nat} {q n : Nat} {i : Int32} (hs : w.1[q]? = some (.inr (.inl (3, n)))) (hi : vp_in i n) (hd : decode (mC M) pc = .ok (.laload, 1)) (kk : J G M (pc + 1) L (.long (w.2.2 i.toNatClampNeg) :: st) w g o z h a b) : J G M pc L (.int i :: .ref q :: st) w g o z h a b :=
  fun p e R s m args below meth c C H locs ls cells slots hR hl ha hb => va_lald C.1 C.2.1 C.2.2.2.2.2.2.2.2.1 hR.1 q 3 (cA := Gt G 3) (n := n) (f := w.2.2) (by rw [cw_at hs]; rfl) rfl hi hd (kk p e R s m args below meth c C H locs ls cells slots hR hl ha hb)
theorem J_alen {G : Gx} {M : Md} {pc : Nat} {L : List (Nat × Value)} {st : List Value} {w : Wd} {g : Bool} {o : Ou} {z : Wd} {h : Bool} {a b : Nat} {q n t : Nat} {v : Int32} (hs : w.1[q]? = some (.inr (.inl (t, n)))) (ht : t < 4) (hv : Int32.ofNat n = v) (hd : decode (mC M) pc = .ok (.arraylength, 1)) (kk : J G M (pc + 1) L (.int v :: st) w g o z h a b) : J G M pc L (.ref q :: st) w g o z h a b :=
  fun p e R s m args below meth c C H locs ls cells slots hR hl ha hb => by
  obtain ⟨ty, hty⟩ : ∃ ty, (tysG G)[t]? = some (Gt G t, ty) := by
    rcases (show t = 0 ∨ t = 1 ∨ t = 2 ∨ t = 3 by omega) with rfl | rfl | rfl | rfl <;> exact ⟨_, rfl⟩
  exact va_alen C.1 C.2.1 C.2.2.2.2.2.2.2.2.1 hR.1 q t (cw_at hs) hty hv hd (kk p e R s m args below meth c C H locs ls cells slots hR hl ha hb)
theorem J_alenr {G : Gx} {M : Md} {pc : Nat} {L : List (Nat × Value)} {st : List Value} {w : Wd} {g : Bool} {o : Ou} {z : Wd} {h : Bool} {a b : Nat} {q n t : Nat} {f : Nat → Option Nat} {v : Int32} (hs : w.1[q]? = some (.inr (.inr (t, n, f)))) (ht : t = 4) (hv : Int32.ofNat n = v) (hd : decode (mC M) pc = .ok (.arraylength, 1)) (kk : J G M (pc + 1) L (.int v :: st) w g o z h a b) : J G M pc L (.ref q :: st) w g o z h a b :=
  fun p e R s m args below meth c C H locs ls cells slots hR hl ha hb => by
  subst ht
  exact va_alen C.1 C.2.1 C.2.2.2.2.2.2.2.2.1 hR.1 q 4 (cw_at hs) (ty := .object "BellTowerPlanner$BellState") rfl hv hd (kk p e R s m args below meth c C H locs ls cells slots hR hl ha hb)
theorem J_aald {G : Gx} {M : Md} {pc : Nat} {L : List (Nat × Value)} {st : List Value} {g : Bool} {o : Ou} {z : Wd} {h : Bool} {a b : Nat} {sh : List Sh} {mm : Nat → Nat → Int32} {lm : Nat → Int64} {q n r j : Nat} {f : Nat → Option Nat} {i : Int32} (hs : sh[q]? = some (.inr (.inr (4, n, f)))) (hi : i = nI j) (hj : j < n) (hn : n < 2 ^ 31) (hf : f j = some r) (hd : decode (mC M) pc = .ok (.aaload, 1)) (kk : J G M (pc + 1) L (.ref r :: st) (sh, mm, lm) g o z h a b) : J G M pc L (.int i :: .ref q :: st) (sh, mm, lm) g o z h a b :=
  fun p e R s m args below meth c C H locs ls cells slots hR hl ha hb => by
  obtain ⟨h1, h2⟩ := vp_inE hi hj hn
  exact va_aldq C.1 C.2.1 C.2.2.2.2.2.2.2.2.1 hR.1 q 4 (cA := Gt G 4) (C := "BellTowerPlanner$BellState") (n := n) (f := fun j => (f j).map (adr G)) (by rw [cw_at (w := (sh, mm, lm)) hs]; rfl) rfl h1 hd (by rw [h2]; simpa [hf, va_rf, cv] using kk p e R s m args below meth c C H locs ls cells slots hR hl ha hb)
theorem J_iast {G : Gx} {M : Md} {pc : Nat} {L : List (Nat × Value)} {st : List Value} {g : Bool} {o : Ou} {z : Wd} {h : Bool} {a b : Nat} {sh : List Sh} {mm : Nat → Nat → Int32} {lm : Nat → Int64} {q n j : Nat} {i x : Int32} (hs : sh[q]? = some (.inr (.inl (0, n)))) (hi0 : i = nI j) (hj : j < n) (hn : n < 2 ^ 31) (hd : decode (mC M) pc = .ok (.iastore, 1)) (kk : J G M (pc + 1) L st (sh, mset mm q j x, lm) false o z h a b) : J G M pc L (.int x :: .int i :: .ref q :: st) (sh, mm, lm) g o z h a b := by
  intro p e R s m args below meth c C H locs ls cells slots hR hl ha hb
  obtain ⟨hi, h2⟩ := vp_inE hi0 hj hn
  subst h2
  have hD := cw_D (G := G) hR.2.2.1
  refine va_iast C.1 C.2.1 C.2.2.2.2.2.2.2.2.1 hR.1 hD hR.2.1 q 0 (cA := Gt G 0) (n := n) (f := mm q) (by rw [cw_at hs]; rfl) rfl hi hd fun H1 locs1 hP1 _ hS1 => ?_
  refine kk p e R s m args below meth c C H1 locs1 ls cells slots ⟨?_, hS1, hR.2.2.1, fun h => by cases h⟩ hl ha hb
  rw [← cw_set (G := G) (w := (sh, mm, lm)) (w' := (sh, mset mm q i.toNatClampNeg x, lm)) (x' := .inr (.inl (0, n))) hs (set_self hs).symm (fun a y h _ => cc_mset a y h)]
  have e : cc G (sh, mset mm q i.toNatClampNeg x, lm) q (.inr (.inl (0, n))) = .inl (Gt G 0, n, .inl (upd (mm q) i.toNatClampNeg x)) := by simp [cc, mset_at]
  rw [e]
  exact hP1
theorem J_bast {G : Gx} {M : Md} {pc : Nat} {L : List (Nat × Value)} {st : List Value} {g : Bool} {o : Ou} {z : Wd} {h : Bool} {a b : Nat} {sh : List Sh} {mm : Nat → Nat → Int32} {lm : Nat → Int64} {q n j : Nat} {i x : Int32} (hs : sh[q]? = some (.inr (.inl (1, n)))) (hi0 : i = nI j) (hj : j < n) (hn : n < 2 ^ 31) (hd : decode (mC M) pc = .ok (.bastore, 1)) (kk : J G M (pc + 1) L st (sh, mset mm q j (vp_nar .byte x), lm) false o z h a b) : J G M pc L (.int x :: .int i :: .ref q :: st) (sh, mm, lm) g o z h a b := by
  intro p e R s m args below meth c C H locs ls cells slots hR hl ha hb
  obtain ⟨hi, h2⟩ := vp_inE hi0 hj hn
  subst h2
  have hD := cw_D (G := G) hR.2.2.1
  refine va_bast C.1 C.2.1 C.2.2.2.2.2.2.2.2.1 hR.1 hD hR.2.1 q 1 (cA := Gt G 1) (n := n) (f := mm q) (by rw [cw_at hs]; rfl) rfl hi hd fun H1 locs1 hP1 _ hS1 => ?_
  refine kk p e R s m args below meth c C H1 locs1 ls cells slots ⟨?_, hS1, hR.2.2.1, fun h => by cases h⟩ hl ha hb
  rw [← cw_set (G := G) (w := (sh, mm, lm)) (w' := (sh, mset mm q i.toNatClampNeg (vp_nar .byte x), lm)) (x' := .inr (.inl (1, n))) hs (set_self hs).symm (fun a y h _ => cc_mset a y h)]
  have e : cc G (sh, mset mm q i.toNatClampNeg (vp_nar .byte x), lm) q (.inr (.inl (1, n))) = .inl (Gt G 1, n, .inl (upd (mm q) i.toNatClampNeg (vp_nar .byte x))) := by simp [cc, mset_at]
  rw [e]
  exact hP1
theorem J_zast {G : Gx} {M : Md} {pc : Nat} {L : List (Nat × Value)} {st : List Value} {g : Bool} {o : Ou} {z : Wd} {h : Bool} {a b : Nat} {sh : List Sh} {mm : Nat → Nat → Int32} {lm : Nat → Int64} {q n j : Nat} {i x : Int32} (hs : sh[q]? = some (.inr (.inl (2, n)))) (hi0 : i = nI j) (hj : j < n) (hn : n < 2 ^ 31) (hd : decode (mC M) pc = .ok (.bastore, 1)) (kk : J G M (pc + 1) L st (sh, mset mm q j (vp_nar .boolean x), lm) false o z h a b) : J G M pc L (.int x :: .int i :: .ref q :: st) (sh, mm, lm) g o z h a b := by
  intro p e R s m args below meth c C H locs ls cells slots hR hl ha hb
  obtain ⟨hi, h2⟩ := vp_inE hi0 hj hn
  subst h2
  have hD := cw_D (G := G) hR.2.2.1
  refine va_zast C.1 C.2.1 C.2.2.2.2.2.2.2.2.1 hR.1 hD hR.2.1 q 2 (cA := Gt G 2) (n := n) (f := mm q) (by rw [cw_at hs]; rfl) rfl hi hd fun H1 locs1 hP1 _ hS1 => ?_
  refine kk p e R s m args below meth c C H1 locs1 ls cells slots ⟨?_, hS1, hR.2.2.1, fun h => by cases h⟩ hl ha hb
  rw [← cw_set (G := G) (w := (sh, mm, lm)) (w' := (sh, mset mm q i.toNatClampNeg (vp_nar .boolean x), lm)) (x' := .inr (.inl (2, n))) hs (set_self hs).symm (fun a y h _ => cc_mset a y h)]
  have e : cc G (sh, mset mm q i.toNatClampNeg (vp_nar .boolean x), lm) q (.inr (.inl (2, n))) = .inl (Gt G 2, n, .inl (upd (mm q) i.toNatClampNeg (vp_nar .boolean x))) := by simp [cc, mset_at]
  rw [e]
  exact hP1
theorem J_last {G : Gx} {M : Md} {pc : Nat} {L : List (Nat × Value)} {st : List Value} {g : Bool} {o : Ou} {z : Wd} {h : Bool} {a b : Nat} {sh : List Sh} {mm : Nat → Nat → Int32} {lm : Nat → Int64} {q n : Nat} {i : Int32} {x : Int64} (hs : sh[q]? = some (.inr (.inl (3, n)))) (hu : ∀ a m, a ≠ q → sh[a]? ≠ some (.inr (.inl (3, m)))) (hi : vp_in i n) (hd : decode (mC M) pc = .ok (.lastore, 1)) (kk : J G M (pc + 1) L st (sh, mm, vp_updL lm i.toNatClampNeg x) false o z h a b) : J G M pc L (.long x :: .int i :: .ref q :: st) (sh, mm, lm) g o z h a b := by
  intro p e R s m args below meth c C H locs ls cells slots hR hl ha hb
  have hD := cw_D (G := G) hR.2.2.1
  refine va_last C.1 C.2.1 C.2.2.2.2.2.2.2.2.1 hR.1 hD hR.2.1 q 3 (cA := Gt G 3) (n := n) (f := lm) (by rw [cw_at hs]; rfl) rfl hi hd fun H1 locs1 hP1 _ hS1 => ?_
  refine kk p e R s m args below meth c C H1 locs1 ls cells slots ⟨?_, hS1, hR.2.2.1, fun h => by cases h⟩ hl ha hb
  rw [← cw_set (G := G) (w := (sh, mm, lm)) (w' := (sh, mm, vp_updL lm i.toNatClampNeg x)) (x' := .inr (.inl (3, n))) hs (set_self hs).symm (fun a y h hy => by
    rcases y with ⟨ci, sl⟩ | ⟨t, n'⟩ | ⟨t, n', f⟩
    · rfl
    · by_cases ht : t = 3
      · subst ht; exact absurd hy (hu a n' h)
      · simp [cc, ht]
    · rfl)]
  exact hP1
theorem J_gets {G : Gx} {M : Md} {pc : Nat} {L : List (Nat × Value)} {st : List Value} {w : Wd} {g : Bool} {o : Ou} {z : Wd} {h : Bool} {a b : Nat} {idx q : Nat} {Cn nm : String} {l : List Int32} (ht : (Cn, nm, q, l) ∈ tblS) (hw : Cond.fieldLink (mY M).cls idx Cn nm "[I" ∈ gt) (hd : decode (mC M) pc = .ok (.getstatic idx, 3)) (kk : J G M (pc + 3) L (.ref q :: st) w g o z h a b) : J G M pc L (st) w g o z h a b :=
  fun p e R s m args below meth c C H locs ls cells slots hR hl ha hb => va_gets C.1 C.2.1 (C.2.2.2.2.2.2.2.2.2.1.1 _ ht).1 hR.2.1 C.2.2.2.2.2.1 (C.2.2.2.2.2.2.2.1 _ hw) (fun _ h => h) hd (kk p e R s m args below meth c C H locs ls cells slots hR hl ha hb)
theorem J_tab {G : Gx} {M : Md} {pc : Nat} {L : List (Nat × Value)} {st : List Value} {w : Wd} {g : Bool} {o : Ou} {z : Wd} {h : Bool} {a b : Nat} {q j : Nat} {i : Int32} {Cn nm : String} {l : List Int32} (ht : (Cn, nm, q, l) ∈ tblS) (hi : i = nI j) (hj : j < l.length) (hn : l.length < 2 ^ 31) (hd : decode (mC M) pc = .ok (.iaload, 1)) (kk : J G M (pc + 1) L (.int (l.getD j 0) :: st) w g o z h a b) : J G M pc L (.int i :: .ref q :: st) w g o z h a b :=
  fun p e R s m args below meth c C H locs ls cells slots hR hl ha hb => by
  obtain ⟨h1, h2⟩ := vp_inE hi hj hn
  exact va_ti C.1 C.2.1 (C.2.2.2.2.2.2.2.2.2.1.1 _ ht).2 hR.2.1 h1 rfl hd (by rw [h2]; exact kk p e R s m args below meth c C H locs ls cells slots hR hl ha hb)
theorem J_tab3 {G : Gx} {M : Md} {pc : Nat} {L : List (Nat × Value)} {st : List Value} {w : Wd} {g : Bool} {o : Ou} {z : Wd} {h : Bool} {a b : Nat} {dflt hi : Int} {offs : Array Int} {len t0 t1 t2 t3 : Nat} {x : Int32} {f0 f1 f2 : Int} (hd : decode (mC M) pc = .ok (.tableswitch dflt 0 hi offs, len)) (hh : hi = 2) (h0 : offs = #[f0, f1, f2]) (e0 : (pc : Int) + f0 = (t0 : Int)) (e1 : (pc : Int) + f1 = (t1 : Int)) (e2 : (pc : Int) + f2 = (t2 : Int)) (e3 : (pc : Int) + dflt = (t3 : Int)) (k0 : x = 0 → J G M (t0) L (st) w g o z h a b) (k1 : x = 1 → J G M (t1) L (st) w g o z h a b) (k2 : x = 2 → J G M (t2) L (st) w g o z h a b) (k3 : ¬ x = 0 → ¬ x = 1 → ¬ x = 2 → J G M (t3) L (st) w g o z h a b) : J G M pc L (.int x :: st) w g o z h a b :=
  by
  subst hh; subst h0
  have key : ∀ k : Int, x.toInt = k → x = Int32.ofInt k := fun k h => by rw [← h]; exact (Int32.ofInt_toInt x).symm
  by_cases c0 : x.toInt = 0
  · exact J_tabIn (off := f0) hd (by omega) (by omega) (by rw [c0]; rfl) e0 (k0 (key 0 c0))
  by_cases c1 : x.toInt = 1
  · exact J_tabIn (off := f1) hd (by omega) (by omega) (by rw [c1]; rfl) e1 (k1 (key 1 c1))
  by_cases c2 : x.toInt = 2
  · exact J_tabIn (off := f2) hd (by omega) (by omega) (by rw [c2]; rfl) e2 (k2 (key 2 c2))
  · exact J_tabOut hd (by omega) e3 (k3 (fun q => c0 (by rw [q]; rfl)) (fun q => c1 (by rw [q]; rfl)) (fun q => c2 (by rw [q]; rfl)))
