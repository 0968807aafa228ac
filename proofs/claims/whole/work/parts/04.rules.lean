/-! ROWS: an instruction each, over ya_E -/
section
variable {X : ya_X} {Y : ya_Y} {Γ : ya_Γ} {pc : Nat} {L : List (Nat × Value)} {S : List Value} {G : ya_G} {d : ya_D} {k n : Nat}
theorem ya_iconst {z : Int} (v : Int32) (hv : Int32.ofInt z = v) (hd : decode Y.1 pc = .ok (.iconst z, 1)) (kk : ya_E X Y Γ (pc + 1) L (.int v :: S) G d k n) : ya_E X Y Γ pc L (S) G d k n := by
  intro p e s m args below meth c H locs ls hC hH hl
  exact lv_iconst hC.1 hC.2.1 hd hv (kk p e s m args below meth c H locs ls hC hH hl)
theorem ya_bipush {z : Int} (v : Int32) (hv : (Int8.ofInt z).toInt32 = v) (hd : decode Y.1 pc = .ok (.bipush z, 2)) (kk : ya_E X Y Γ (pc + 2) L (.int v :: S) G d k n) : ya_E X Y Γ pc L (S) G d k n := by
  intro p e s m args below meth c H locs ls hC hH hl
  exact lv_bipush hC.1 hC.2.1 hd hv (kk p e s m args below meth c H locs ls hC hH hl)
theorem ya_sipush {z : Int} (v : Int32) (hv : (Int16.ofInt z).toInt32 = v) (hd : decode Y.1 pc = .ok (.sipush z, 3)) (kk : ya_E X Y Γ (pc + 3) L (.int v :: S) G d k n) : ya_E X Y Γ pc L (S) G d k n := by
  intro p e s m args below meth c H locs ls hC hH hl
  exact lv_sipush hC.1 hC.2.1 hd hv (kk p e s m args below meth c H locs ls hC hH hl)
theorem ya_lconst {z : Fin 2} (v : Int64) (hv : Int64.ofNat (z : Nat) = v) (hd : decode Y.1 pc = .ok (.lconst z, 1)) (kk : ya_E X Y Γ (pc + 1) L (.long v :: S) G d k n) : ya_E X Y Γ pc L (S) G d k n := by
  intro p e s m args below meth c H locs ls hC hH hl
  exact lv_lconst hC.1 hC.2.1 hd hv (kk p e s m args below meth c H locs ls hC hH hl)
theorem ya_iload_n {z : Fin 4} {x : Int32} (j : Nat) (hk : L[j]? = some ((z : Nat), .int x)) (hd : decode Y.1 pc = .ok (.iload_n z, 1)) (kk : ya_E X Y Γ (pc + 1) L (.int x :: S) G d k n) : ya_E X Y Γ pc L S G d k n := by
  intro p e s m args below meth c H locs ls hC hH hl
  exact lv_iload_n hC.1 hC.2.1 hd rfl (lv_at hl j hk) (kk p e s m args below meth c H locs ls hC hH hl)
theorem ya_iload {i : Nat} {x : Int32} (j : Nat) (hk : L[j]? = some (i, .int x)) (hd : decode Y.1 pc = .ok (.iload i, 2)) (kk : ya_E X Y Γ (pc + 2) L (.int x :: S) G d k n) : ya_E X Y Γ pc L S G d k n := by
  intro p e s m args below meth c H locs ls hC hH hl
  exact lv_iload hC.1 hC.2.1 hd (lv_at hl j hk) (kk p e s m args below meth c H locs ls hC hH hl)
theorem ya_lload_n {z : Fin 4} {x : Int64} (j : Nat) (hk : L[j]? = some ((z : Nat), .long x)) (hd : decode Y.1 pc = .ok (.lload_n z, 1)) (kk : ya_E X Y Γ (pc + 1) L (.long x :: S) G d k n) : ya_E X Y Γ pc L S G d k n := by
  intro p e s m args below meth c H locs ls hC hH hl
  exact lv_lload_n hC.1 hC.2.1 hd rfl (lv_at hl j hk) (kk p e s m args below meth c H locs ls hC hH hl)
theorem ya_lload {i : Nat} {x : Int64} (j : Nat) (hk : L[j]? = some (i, .long x)) (hd : decode Y.1 pc = .ok (.lload i, 2)) (kk : ya_E X Y Γ (pc + 2) L (.long x :: S) G d k n) : ya_E X Y Γ pc L S G d k n := by
  intro p e s m args below meth c H locs ls hC hH hl
  exact lv_lload hC.1 hC.2.1 hd (lv_at hl j hk) (kk p e s m args below meth c H locs ls hC hH hl)
theorem ya_aload_n {z : Fin 4} {x : Nat} (j : Nat) (hk : L[j]? = some ((z : Nat), .ref x)) (hd : decode Y.1 pc = .ok (.aload_n z, 1)) (kk : ya_E X Y Γ (pc + 1) L (.ref x :: S) G d k n) : ya_E X Y Γ pc L S G d k n := by
  intro p e s m args below meth c H locs ls hC hH hl
  exact lv_aload_n hC.1 hC.2.1 hd rfl (lv_at hl j hk) (kk p e s m args below meth c H locs ls hC hH hl)
theorem ya_aload {i : Nat} {x : Nat} (j : Nat) (hk : L[j]? = some (i, .ref x)) (hd : decode Y.1 pc = .ok (.aload i, 2)) (kk : ya_E X Y Γ (pc + 2) L (.ref x :: S) G d k n) : ya_E X Y Γ pc L S G d k n := by
  intro p e s m args below meth c H locs ls hC hH hl
  exact lv_aload hC.1 hC.2.1 hd (lv_at hl j hk) (kk p e s m args below meth c H locs ls hC hH hl)
theorem ya_istore_n {z : Fin 4} {x : Int32} (L1 : List (Nat × Value)) (hn : (z : Nat) < Y.2.2.1) (hL : ((z : Nat), Value.int x) :: L.filter (fun q => !(q.1 == (z : Nat)) && !(q.1 + 1 == (z : Nat) && q.2.category == 2)) = L1) (hd : decode Y.1 pc = .ok (.istore_n z, 1)) (kk : ya_E X Y Γ (pc + 1) L1 S G d k n) : ya_E X Y Γ pc L (.int x :: S) G d k n := by
  intro p e s m args below meth c H locs ls hC hH hl
  exact lv_istore_n hC.1 hC.2.1 hd rfl hl hn hL (fun ls1 hl1 => kk p e s m args below meth c H locs ls1 hC hH hl1)
theorem ya_istore {i : Nat} {x : Int32} (L1 : List (Nat × Value)) (hn : i < Y.2.2.1) (hL : (i, Value.int x) :: L.filter (fun q => !(q.1 == i) && !(q.1 + 1 == i && q.2.category == 2)) = L1) (hd : decode Y.1 pc = .ok (.istore i, 2)) (kk : ya_E X Y Γ (pc + 2) L1 S G d k n) : ya_E X Y Γ pc L (.int x :: S) G d k n := by
  intro p e s m args below meth c H locs ls hC hH hl
  exact lv_istore hC.1 hC.2.1 hd hl hn hL (fun ls1 hl1 => kk p e s m args below meth c H locs ls1 hC hH hl1)
theorem ya_lstore_n {z : Fin 4} {x : Int64} (L1 : List (Nat × Value)) (hn : (z : Nat) + 1 < Y.2.2.1) (hL : ((z : Nat), Value.long x) :: L.filter (fun q => !(q.1 == (z : Nat)) && (!(q.1 == (z : Nat) + 1) && !(q.1 + 1 == (z : Nat) && q.2.category == 2))) = L1) (hd : decode Y.1 pc = .ok (.lstore_n z, 1)) (kk : ya_E X Y Γ (pc + 1) L1 S G d k n) : ya_E X Y Γ pc L (.long x :: S) G d k n := by
  intro p e s m args below meth c H locs ls hC hH hl
  exact lv_lstore_n hC.1 hC.2.1 hd rfl hl hn hL (fun ls1 hl1 => kk p e s m args below meth c H locs ls1 hC hH hl1)
theorem ya_lstore {i : Nat} {x : Int64} (L1 : List (Nat × Value)) (hn : i + 1 < Y.2.2.1) (hL : (i, Value.long x) :: L.filter (fun q => !(q.1 == i) && (!(q.1 == i + 1) && !(q.1 + 1 == i && q.2.category == 2))) = L1) (hd : decode Y.1 pc = .ok (.lstore i, 2)) (kk : ya_E X Y Γ (pc + 2) L1 S G d k n) : ya_E X Y Γ pc L (.long x :: S) G d k n := by
  intro p e s m args below meth c H locs ls hC hH hl
  exact lv_lstore hC.1 hC.2.1 hd hl hn hL (fun ls1 hl1 => kk p e s m args below meth c H locs ls1 hC hH hl1)
theorem ya_astore_n {z : Fin 4} {x : Nat} (L1 : List (Nat × Value)) (hn : (z : Nat) < Y.2.2.1) (hL : ((z : Nat), Value.ref x) :: L.filter (fun q => !(q.1 == (z : Nat)) && !(q.1 + 1 == (z : Nat) && q.2.category == 2)) = L1) (hd : decode Y.1 pc = .ok (.astore_n z, 1)) (kk : ya_E X Y Γ (pc + 1) L1 S G d k n) : ya_E X Y Γ pc L (.ref x :: S) G d k n := by
  intro p e s m args below meth c H locs ls hC hH hl
  exact lv_astore_n hC.1 hC.2.1 hd rfl hl hn hL (fun ls1 hl1 => kk p e s m args below meth c H locs ls1 hC hH hl1)
theorem ya_astore {i : Nat} {x : Nat} (L1 : List (Nat × Value)) (hn : i < Y.2.2.1) (hL : (i, Value.ref x) :: L.filter (fun q => !(q.1 == i) && !(q.1 + 1 == i && q.2.category == 2)) = L1) (hd : decode Y.1 pc = .ok (.astore i, 2)) (kk : ya_E X Y Γ (pc + 2) L1 S G d k n) : ya_E X Y Γ pc L (.ref x :: S) G d k n := by
  intro p e s m args below meth c H locs ls hC hH hl
  exact lv_astore hC.1 hC.2.1 hd hl hn hL (fun ls1 hl1 => kk p e s m args below meth c H locs ls1 hC hH hl1)
theorem ya_iinc {i : Nat} {z : Int} {x : Int32} (v : Int32) (hv : x + Int32.ofInt z = v) (j : Nat) (hk : L[j]? = some (i, .int x)) (L1 : List (Nat × Value)) (hn : i < Y.2.2.1) (hL : (i, Value.int v) :: L.filter (fun q => !(q.1 == i) && !(q.1 + 1 == i && q.2.category == 2)) = L1) (hd : decode Y.1 pc = .ok (.iinc i z, 3)) (kk : ya_E X Y Γ (pc + 3) L1 S G d k n) : ya_E X Y Γ pc L S G d k n := by
  intro p e s m args below meth c H locs ls hC hH hl
  exact lv_iinc hC.1 hC.2.1 hd hl hk hv hn hL (fun ls1 hl1 => kk p e s m args below meth c H locs ls1 hC hH hl1)
theorem ya_iadd {x y : Int32} (hd : decode Y.1 pc = .ok (.iadd, 1)) (kk : ya_E X Y Γ (pc + 1) L (.int (x + y) :: S) G d k n) : ya_E X Y Γ pc L (.int y :: .int x :: S) G d k n := by
  intro p e s m args below meth c H locs ls hC hH hl
  exact lv_iadd hC.1 hC.2.1 hd  (kk p e s m args below meth c H locs ls hC hH hl)
theorem ya_isub {x y : Int32} (hd : decode Y.1 pc = .ok (.isub, 1)) (kk : ya_E X Y Γ (pc + 1) L (.int (x - y) :: S) G d k n) : ya_E X Y Γ pc L (.int y :: .int x :: S) G d k n := by
  intro p e s m args below meth c H locs ls hC hH hl
  exact lv_isub hC.1 hC.2.1 hd  (kk p e s m args below meth c H locs ls hC hH hl)
theorem ya_imul {x y : Int32} (hd : decode Y.1 pc = .ok (.imul, 1)) (kk : ya_E X Y Γ (pc + 1) L (.int (x * y) :: S) G d k n) : ya_E X Y Γ pc L (.int y :: .int x :: S) G d k n := by
  intro p e s m args below meth c H locs ls hC hH hl
  exact lv_imul hC.1 hC.2.1 hd  (kk p e s m args below meth c H locs ls hC hH hl)
theorem ya_iand {x y : Int32} (hd : decode Y.1 pc = .ok (.iand, 1)) (kk : ya_E X Y Γ (pc + 1) L (.int (x &&& y) :: S) G d k n) : ya_E X Y Γ pc L (.int y :: .int x :: S) G d k n := by
  intro p e s m args below meth c H locs ls hC hH hl
  exact lv_iand hC.1 hC.2.1 hd  (kk p e s m args below meth c H locs ls hC hH hl)
theorem ya_ior {x y : Int32} (hd : decode Y.1 pc = .ok (.ior, 1)) (kk : ya_E X Y Γ (pc + 1) L (.int (x ||| y) :: S) G d k n) : ya_E X Y Γ pc L (.int y :: .int x :: S) G d k n := by
  intro p e s m args below meth c H locs ls hC hH hl
  exact lv_ior hC.1 hC.2.1 hd  (kk p e s m args below meth c H locs ls hC hH hl)
theorem ya_ishl {x y : Int32} (hd : decode Y.1 pc = .ok (.ishl, 1)) (kk : ya_E X Y Γ (pc + 1) L (.int (x <<< (y &&& 31)) :: S) G d k n) : ya_E X Y Γ pc L (.int y :: .int x :: S) G d k n := by
  intro p e s m args below meth c H locs ls hC hH hl
  exact lv_ishl hC.1 hC.2.1 hd  (kk p e s m args below meth c H locs ls hC hH hl)
theorem ya_ishr {x y : Int32} (hd : decode Y.1 pc = .ok (.ishr, 1)) (kk : ya_E X Y Γ (pc + 1) L (.int (x >>> (y &&& 31)) :: S) G d k n) : ya_E X Y Γ pc L (.int y :: .int x :: S) G d k n := by
  intro p e s m args below meth c H locs ls hC hH hl
  exact lv_ishr hC.1 hC.2.1 hd  (kk p e s m args below meth c H locs ls hC hH hl)
theorem ya_ladd {x y : Int64} (hd : decode Y.1 pc = .ok (.ladd, 1)) (kk : ya_E X Y Γ (pc + 1) L (.long (x + y) :: S) G d k n) : ya_E X Y Γ pc L (.long y :: .long x :: S) G d k n := by
  intro p e s m args below meth c H locs ls hC hH hl
  exact lv_ladd hC.1 hC.2.1 hd  (kk p e s m args below meth c H locs ls hC hH hl)
theorem ya_lmul {x y : Int64} (hd : decode Y.1 pc = .ok (.lmul, 1)) (kk : ya_E X Y Γ (pc + 1) L (.long (x * y) :: S) G d k n) : ya_E X Y Γ pc L (.long y :: .long x :: S) G d k n := by
  intro p e s m args below meth c H locs ls hC hH hl
  exact lv_lmul hC.1 hC.2.1 hd  (kk p e s m args below meth c H locs ls hC hH hl)
theorem ya_land {x y : Int64} (hd : decode Y.1 pc = .ok (.land, 1)) (kk : ya_E X Y Γ (pc + 1) L (.long (x &&& y) :: S) G d k n) : ya_E X Y Γ pc L (.long y :: .long x :: S) G d k n := by
  intro p e s m args below meth c H locs ls hC hH hl
  exact lv_land hC.1 hC.2.1 hd  (kk p e s m args below meth c H locs ls hC hH hl)
theorem ya_lor {x y : Int64} (hd : decode Y.1 pc = .ok (.lor, 1)) (kk : ya_E X Y Γ (pc + 1) L (.long (x ||| y) :: S) G d k n) : ya_E X Y Γ pc L (.long y :: .long x :: S) G d k n := by
  intro p e s m args below meth c H locs ls hC hH hl
  exact lv_lor hC.1 hC.2.1 hd  (kk p e s m args below meth c H locs ls hC hH hl)
theorem ya_lsub {x y : Int64} (hd : decode Y.1 pc = .ok (.lsub, 1)) (kk : ya_E X Y Γ (pc + 1) L (.long (x - y) :: S) G d k n) : ya_E X Y Γ pc L (.long y :: .long x :: S) G d k n := by
  intro p e s m args below meth c H locs ls hC hH hl
  exact lv_lsub hC.1 hC.2.1 hd  (kk p e s m args below meth c H locs ls hC hH hl)
theorem ya_iushr {x y : Int32} (hd : decode Y.1 pc = .ok (.iushr, 1)) (kk : ya_E X Y Γ (pc + 1) L (.int ((x.toUInt32 >>> (y.toUInt32 &&& Int32.toUInt32 31)).toInt32) :: S) G d k n) : ya_E X Y Γ pc L (.int y :: .int x :: S) G d k n := by
  intro p e s m args below meth c H locs ls hC hH hl
  exact lv_iushr hC.1 hC.2.1 hd rfl (kk p e s m args below meth c H locs ls hC hH hl)
theorem ya_lshl {x : Int64} {y : Int32} (hd : decode Y.1 pc = .ok (.lshl, 1)) (kk : ya_E X Y Γ (pc + 1) L (.long (x <<< (y.toInt64 &&& 63)) :: S) G d k n) : ya_E X Y Γ pc L (.int y :: .long x :: S) G d k n := by
  intro p e s m args below meth c H locs ls hC hH hl
  exact lv_lshl hC.1 hC.2.1 hd rfl (kk p e s m args below meth c H locs ls hC hH hl)
theorem ya_lshr {x : Int64} {y : Int32} (hd : decode Y.1 pc = .ok (.lshr, 1)) (kk : ya_E X Y Γ (pc + 1) L (.long (x >>> (y.toInt64 &&& 63)) :: S) G d k n) : ya_E X Y Γ pc L (.int y :: .long x :: S) G d k n := by
  intro p e s m args below meth c H locs ls hC hH hl
  exact lv_lshr hC.1 hC.2.1 hd rfl (kk p e s m args below meth c H locs ls hC hH hl)
theorem ya_idiv {x y : Int32} (hne : ¬ y = 0) (hd : decode Y.1 pc = .ok (.idiv, 1)) (kk : ya_E X Y Γ (pc + 1) L (.int (x / y) :: S) G d k n) : ya_E X Y Γ pc L (.int y :: .int x :: S) G d k n := by
  intro p e s m args below meth c H locs ls hC hH hl
  exact lv_idiv hC.1 hC.2.1 hd hne (kk p e s m args below meth c H locs ls hC hH hl)
theorem ya_irem {x y : Int32} (hne : ¬ y = 0) (hd : decode Y.1 pc = .ok (.irem, 1)) (kk : ya_E X Y Γ (pc + 1) L (.int (x - x / y * y) :: S) G d k n) : ya_E X Y Γ pc L (.int y :: .int x :: S) G d k n := by
  intro p e s m args below meth c H locs ls hC hH hl
  exact lv_irem hC.1 hC.2.1 hd hne (kk p e s m args below meth c H locs ls hC hH hl)
theorem ya_ldiv {x y : Int64} (hne : ¬ y = 0) (hd : decode Y.1 pc = .ok (.ldiv, 1)) (kk : ya_E X Y Γ (pc + 1) L (.long (x / y) :: S) G d k n) : ya_E X Y Γ pc L (.long y :: .long x :: S) G d k n := by
  intro p e s m args below meth c H locs ls hC hH hl
  exact lv_ldiv hC.1 hC.2.1 hd hne (kk p e s m args below meth c H locs ls hC hH hl)
theorem ya_lrem {x y : Int64} (hne : ¬ y = 0) (hd : decode Y.1 pc = .ok (.lrem, 1)) (kk : ya_E X Y Γ (pc + 1) L (.long (x - x / y * y) :: S) G d k n) : ya_E X Y Γ pc L (.long y :: .long x :: S) G d k n := by
  intro p e s m args below meth c H locs ls hC hH hl
  exact lv_lrem hC.1 hC.2.1 hd hne (kk p e s m args below meth c H locs ls hC hH hl)
theorem ya_i2l {x : Int32} (hd : decode Y.1 pc = .ok (.i2l, 1)) (kk : ya_E X Y Γ (pc + 1) L (.long x.toInt64 :: S) G d k n) : ya_E X Y Γ pc L (.int x :: S) G d k n := by
  intro p e s m args below meth c H locs ls hC hH hl
  exact lv_i2l hC.1 hC.2.1 hd rfl (kk p e s m args below meth c H locs ls hC hH hl)
theorem ya_l2i {x : Int64} (hd : decode Y.1 pc = .ok (.l2i, 1)) (kk : ya_E X Y Γ (pc + 1) L (.int x.toInt32 :: S) G d k n) : ya_E X Y Γ pc L (.long x :: S) G d k n := by
  intro p e s m args below meth c H locs ls hC hH hl
  exact lv_l2i hC.1 hC.2.1 hd rfl (kk p e s m args below meth c H locs ls hC hH hl)
theorem ya_i2b {x : Int32} (hd : decode Y.1 pc = .ok (.i2b, 1)) (kk : ya_E X Y Γ (pc + 1) L (.int x.toInt8.toInt32 :: S) G d k n) : ya_E X Y Γ pc L (.int x :: S) G d k n := by
  intro p e s m args below meth c H locs ls hC hH hl
  exact lv_i2b hC.1 hC.2.1 hd rfl (kk p e s m args below meth c H locs ls hC hH hl)
theorem ya_i2s {x : Int32} (hd : decode Y.1 pc = .ok (.i2s, 1)) (kk : ya_E X Y Γ (pc + 1) L (.int x.toInt16.toInt32 :: S) G d k n) : ya_E X Y Γ pc L (.int x :: S) G d k n := by
  intro p e s m args below meth c H locs ls hC hH hl
  exact lv_i2s hC.1 hC.2.1 hd rfl (kk p e s m args below meth c H locs ls hC hH hl)
theorem ya_i2c {x : Int32} (hd : decode Y.1 pc = .ok (.i2c, 1)) (kk : ya_E X Y Γ (pc + 1) L (.int (x.toUInt32 % 65536).toInt32 :: S) G d k n) : ya_E X Y Γ pc L (.int x :: S) G d k n := by
  intro p e s m args below meth c H locs ls hC hH hl
  exact lv_i2c hC.1 hC.2.1 hd rfl (kk p e s m args below meth c H locs ls hC hH hl)
theorem ya_lcmp {x y : Int64} (hd : decode Y.1 pc = .ok (.lcmp, 1)) (kk : ya_E X Y Γ (pc + 1) L (.int (lg_cmp x y) :: S) G d k n) : ya_E X Y Γ pc L (.long y :: .long x :: S) G d k n := by
  intro p e s m args below meth c H locs ls hC hH hl
  exact W.lcmp hC.1 hC.2.1 hd  (kk p e s m args below meth c H locs ls hC hH hl)
theorem ya_dup {v : Value} (hv : v.category = 1) (hd : decode Y.1 pc = .ok (.dup, 1)) (kk : ya_E X Y Γ (pc + 1) L (v :: v :: S) G d k n) : ya_E X Y Γ pc L (v :: S) G d k n := by
  intro p e s m args below meth c H locs ls hC hH hl
  exact lv_dup hC.1 hC.2.1 hd hv (kk p e s m args below meth c H locs ls hC hH hl)
theorem ya_pop {v : Value} (hv : v.category = 1) (hd : decode Y.1 pc = .ok (.pop, 1)) (kk : ya_E X Y Γ (pc + 1) L (S) G d k n) : ya_E X Y Γ pc L (v :: S) G d k n := by
  intro p e s m args below meth c H locs ls hC hH hl
  exact lv_pop hC.1 hC.2.1 hd hv (kk p e s m args below meth c H locs ls hC hH hl)
theorem ya_ldc {i : Nat} (v : Int32) (hw : Cond.constant Y.2.1 i v ∈ lw_g) (hd : decode Y.1 pc = .ok (.ldc i, 2)) (kk : ya_E X Y Γ (pc + 2) L (.int v :: S) G d k n) : ya_E X Y Γ pc L S G d k n := by
  intro p e s m args below meth c H locs ls hC hH hl
  exact lv_ldc hC.1 hC.2.1 hC.2.2.2.1 (hC.2.2.2.2.1 _ hw) hd (kk p e s m args below meth c H locs ls hC hH hl)
theorem ya_ldcw {i : Nat} (v : Int32) (hw : Cond.constant Y.2.1 i v ∈ lw_g) (hd : decode Y.1 pc = .ok (.ldc_w i, 3)) (kk : ya_E X Y Γ (pc + 3) L (.int v :: S) G d k n) : ya_E X Y Γ pc L S G d k n := by
  intro p e s m args below meth c H locs ls hC hH hl
  exact lv_ldcw hC.1 hC.2.1 hC.2.2.2.1 (hC.2.2.2.2.1 _ hw) hd (kk p e s m args below meth c H locs ls hC hH hl)
theorem ya_ldc2 {i : Nat} (v : Int64) (hw : Cond.constantLong Y.2.1 i v ∈ lw_g) (hd : decode Y.1 pc = .ok (.ldc2_w i, 3)) (kk : ya_E X Y Γ (pc + 3) L (.long v :: S) G d k n) : ya_E X Y Γ pc L S G d k n := by
  intro p e s m args below meth c H locs ls hC hH hl
  exact lv_ldc2 hC.1 hC.2.1 hC.2.2.2.1 (hC.2.2.2.2.1 _ hw) hd (kk p e s m args below meth c H locs ls hC hH hl)
theorem ya_goto {off : Int} (t : Nat) (ht : (pc : Int) + off = (t : Int)) (hd : decode Y.1 pc = .ok (.goto off, 3)) (kk : ya_E X Y Γ t L S G d k n) : ya_E X Y Γ pc L S G d k n := by
  intro p e s m args below meth c H locs ls hC hH hl
  exact lv_goto hC.1 hC.2.1 hd ht (kk p e s m args below meth c H locs ls hC hH hl)
theorem ya_icmp_eq {x y : Int32} {off : Int} (t : Nat) (ht : (pc : Int) + off = (t : Int)) (hd : decode Y.1 pc = .ok (.if_icmp .eq off, 3)) (kt : x = y → ya_E X Y Γ t L S G d k n) (kf : ¬ (x = y) → ya_E X Y Γ (pc + 3) L S G d k n) : ya_E X Y Γ pc L (.int y :: .int x :: S) G d k n := by
  intro p e s m args below meth c H locs ls hC hH hl
  exact lv_icmp_eq hC.1 hC.2.1 hd ht (fun h => kt (by simpa using h) p e s m args below meth c H locs ls hC hH hl) (fun h => kf (by simpa using h) p e s m args below meth c H locs ls hC hH hl)
theorem ya_ifeq {x : Int32} {off : Int} (t : Nat) (ht : (pc : Int) + off = (t : Int)) (hd : decode Y.1 pc = .ok (.ifCond .eq off, 3)) (kt : x = 0 → ya_E X Y Γ t L S G d k n) (kf : ¬ (x = 0) → ya_E X Y Γ (pc + 3) L S G d k n) : ya_E X Y Γ pc L (.int x :: S) G d k n := by
  intro p e s m args below meth c H locs ls hC hH hl
  exact lv_if_eq hC.1 hC.2.1 hd ht (fun h => kt (by simpa using h) p e s m args below meth c H locs ls hC hH hl) (fun h => kf (by simpa using h) p e s m args below meth c H locs ls hC hH hl)
theorem ya_icmp_ne {x y : Int32} {off : Int} (t : Nat) (ht : (pc : Int) + off = (t : Int)) (hd : decode Y.1 pc = .ok (.if_icmp .ne off, 3)) (kt : ¬ x = y → ya_E X Y Γ t L S G d k n) (kf : x = y → ya_E X Y Γ (pc + 3) L S G d k n) : ya_E X Y Γ pc L (.int y :: .int x :: S) G d k n := by
  intro p e s m args below meth c H locs ls hC hH hl
  exact lv_icmp_ne hC.1 hC.2.1 hd ht (fun h => kt (by simpa using h) p e s m args below meth c H locs ls hC hH hl) (fun h => kf (by simpa using h) p e s m args below meth c H locs ls hC hH hl)
theorem ya_ifne {x : Int32} {off : Int} (t : Nat) (ht : (pc : Int) + off = (t : Int)) (hd : decode Y.1 pc = .ok (.ifCond .ne off, 3)) (kt : ¬ x = 0 → ya_E X Y Γ t L S G d k n) (kf : x = 0 → ya_E X Y Γ (pc + 3) L S G d k n) : ya_E X Y Γ pc L (.int x :: S) G d k n := by
  intro p e s m args below meth c H locs ls hC hH hl
  exact lv_if_ne hC.1 hC.2.1 hd ht (fun h => kt (by simpa using h) p e s m args below meth c H locs ls hC hH hl) (fun h => kf (by simpa using h) p e s m args below meth c H locs ls hC hH hl)
theorem ya_icmp_lt {x y : Int32} {off : Int} (t : Nat) (ht : (pc : Int) + off = (t : Int)) (hd : decode Y.1 pc = .ok (.if_icmp .lt off, 3)) (kt : x < y → ya_E X Y Γ t L S G d k n) (kf : ¬ (x < y) → ya_E X Y Γ (pc + 3) L S G d k n) : ya_E X Y Γ pc L (.int y :: .int x :: S) G d k n := by
  intro p e s m args below meth c H locs ls hC hH hl
  exact lv_icmp_lt hC.1 hC.2.1 hd ht (fun h => kt (by simpa using h) p e s m args below meth c H locs ls hC hH hl) (fun h => kf (by simpa using h) p e s m args below meth c H locs ls hC hH hl)
theorem ya_iflt {x : Int32} {off : Int} (t : Nat) (ht : (pc : Int) + off = (t : Int)) (hd : decode Y.1 pc = .ok (.ifCond .lt off, 3)) (kt : x < 0 → ya_E X Y Γ t L S G d k n) (kf : ¬ (x < 0) → ya_E X Y Γ (pc + 3) L S G d k n) : ya_E X Y Γ pc L (.int x :: S) G d k n := by
  intro p e s m args below meth c H locs ls hC hH hl
  exact lv_if_lt hC.1 hC.2.1 hd ht (fun h => kt (by simpa using h) p e s m args below meth c H locs ls hC hH hl) (fun h => kf (by simpa using h) p e s m args below meth c H locs ls hC hH hl)
theorem ya_icmp_ge {x y : Int32} {off : Int} (t : Nat) (ht : (pc : Int) + off = (t : Int)) (hd : decode Y.1 pc = .ok (.if_icmp .ge off, 3)) (kt : y ≤ x → ya_E X Y Γ t L S G d k n) (kf : ¬ (y ≤ x) → ya_E X Y Γ (pc + 3) L S G d k n) : ya_E X Y Γ pc L (.int y :: .int x :: S) G d k n := by
  intro p e s m args below meth c H locs ls hC hH hl
  exact lv_icmp_ge hC.1 hC.2.1 hd ht (fun h => kt (by simpa using h) p e s m args below meth c H locs ls hC hH hl) (fun h => kf (by simpa using h) p e s m args below meth c H locs ls hC hH hl)
theorem ya_ifge {x : Int32} {off : Int} (t : Nat) (ht : (pc : Int) + off = (t : Int)) (hd : decode Y.1 pc = .ok (.ifCond .ge off, 3)) (kt : 0 ≤ x → ya_E X Y Γ t L S G d k n) (kf : ¬ (0 ≤ x) → ya_E X Y Γ (pc + 3) L S G d k n) : ya_E X Y Γ pc L (.int x :: S) G d k n := by
  intro p e s m args below meth c H locs ls hC hH hl
  exact lv_if_ge hC.1 hC.2.1 hd ht (fun h => kt (by simpa using h) p e s m args below meth c H locs ls hC hH hl) (fun h => kf (by simpa using h) p e s m args below meth c H locs ls hC hH hl)
theorem ya_icmp_gt {x y : Int32} {off : Int} (t : Nat) (ht : (pc : Int) + off = (t : Int)) (hd : decode Y.1 pc = .ok (.if_icmp .gt off, 3)) (kt : y < x → ya_E X Y Γ t L S G d k n) (kf : ¬ (y < x) → ya_E X Y Γ (pc + 3) L S G d k n) : ya_E X Y Γ pc L (.int y :: .int x :: S) G d k n := by
  intro p e s m args below meth c H locs ls hC hH hl
  exact lv_icmp_gt hC.1 hC.2.1 hd ht (fun h => kt (by simpa using h) p e s m args below meth c H locs ls hC hH hl) (fun h => kf (by simpa using h) p e s m args below meth c H locs ls hC hH hl)
theorem ya_ifgt {x : Int32} {off : Int} (t : Nat) (ht : (pc : Int) + off = (t : Int)) (hd : decode Y.1 pc = .ok (.ifCond .gt off, 3)) (kt : 0 < x → ya_E X Y Γ t L S G d k n) (kf : ¬ (0 < x) → ya_E X Y Γ (pc + 3) L S G d k n) : ya_E X Y Γ pc L (.int x :: S) G d k n := by
  intro p e s m args below meth c H locs ls hC hH hl
  exact lv_if_gt hC.1 hC.2.1 hd ht (fun h => kt (by simpa using h) p e s m args below meth c H locs ls hC hH hl) (fun h => kf (by simpa using h) p e s m args below meth c H locs ls hC hH hl)
theorem ya_icmp_le {x y : Int32} {off : Int} (t : Nat) (ht : (pc : Int) + off = (t : Int)) (hd : decode Y.1 pc = .ok (.if_icmp .le off, 3)) (kt : x ≤ y → ya_E X Y Γ t L S G d k n) (kf : ¬ (x ≤ y) → ya_E X Y Γ (pc + 3) L S G d k n) : ya_E X Y Γ pc L (.int y :: .int x :: S) G d k n := by
  intro p e s m args below meth c H locs ls hC hH hl
  exact lv_icmp_le hC.1 hC.2.1 hd ht (fun h => kt (by simpa using h) p e s m args below meth c H locs ls hC hH hl) (fun h => kf (by simpa using h) p e s m args below meth c H locs ls hC hH hl)
theorem ya_ifle {x : Int32} {off : Int} (t : Nat) (ht : (pc : Int) + off = (t : Int)) (hd : decode Y.1 pc = .ok (.ifCond .le off, 3)) (kt : x ≤ 0 → ya_E X Y Γ t L S G d k n) (kf : ¬ (x ≤ 0) → ya_E X Y Γ (pc + 3) L S G d k n) : ya_E X Y Γ pc L (.int x :: S) G d k n := by
  intro p e s m args below meth c H locs ls hC hH hl
  exact lv_if_le hC.1 hC.2.1 hd ht (fun h => kt (by simpa using h) p e s m args below meth c H locs ls hC hH hl) (fun h => kf (by simpa using h) p e s m args below meth c H locs ls hC hH hl)
theorem ya_dup2 {v u : Value} (hv : v.category = 1) (hu : u.category = 1) (hd : decode Y.1 pc = .ok (.dup2, 1)) (kk : ya_E X Y Γ (pc + 1) L (v :: u :: v :: u :: S) G d k n) : ya_E X Y Γ pc L (v :: u :: S) G d k n := by
  intro p e s m args below meth c H locs ls hC hH hl
  exact lv_dup2_11 hC.1 hC.2.1 hd hv hu (kk p e s m args below meth c H locs ls hC hH hl)
theorem ya_aloadN_n {z : Fin 4} (j : Nat) (hk : L[j]? = some (((z : Nat)), .null)) (hd : decode Y.1 pc = .ok (.aload_n z, 1)) (kk : ya_E X Y Γ (pc + 1) L (.null :: S) G d k n) : ya_E X Y Γ pc L S G d k n := by
  intro p e s m args below meth c H locs ls hC hH hl
  exact lv_aload_nN hC.1 hC.2.1 hd rfl (lv_at hl j hk) (kk p e s m args below meth c H locs ls hC hH hl)
theorem ya_astoreN_n {z : Fin 4} (L1 : List (Nat × Value)) (hn : ((z : Nat)) < Y.2.2.1) (hL : (((z : Nat)), Value.null) :: L.filter (fun q => !(q.1 == ((z : Nat))) && !(q.1 + 1 == ((z : Nat)) && q.2.category == 2)) = L1) (hd : decode Y.1 pc = .ok (.astore_n z, 1)) (kk : ya_E X Y Γ (pc + 1) L1 S G d k n) : ya_E X Y Γ pc L (.null :: S) G d k n := by
  intro p e s m args below meth c H locs ls hC hH hl
  exact lv_astore_nN hC.1 hC.2.1 hd rfl hl hn hL (fun ls1 hl1 => kk p e s m args below meth c H locs ls1 hC hH hl1)
theorem ya_aloadN {i : Nat} (j : Nat) (hk : L[j]? = some (i, .null)) (hd : decode Y.1 pc = .ok (.aload i, 2)) (kk : ya_E X Y Γ (pc + 2) L (.null :: S) G d k n) : ya_E X Y Γ pc L S G d k n := by
  intro p e s m args below meth c H locs ls hC hH hl
  exact lv_aloadN hC.1 hC.2.1 hd (lv_at hl j hk) (kk p e s m args below meth c H locs ls hC hH hl)
theorem ya_astoreN {i : Nat} (L1 : List (Nat × Value)) (hn : i < Y.2.2.1) (hL : (i, Value.null) :: L.filter (fun q => !(q.1 == i) && !(q.1 + 1 == i && q.2.category == 2)) = L1) (hd : decode Y.1 pc = .ok (.astore i, 2)) (kk : ya_E X Y Γ (pc + 2) L1 S G d k n) : ya_E X Y Γ pc L (.null :: S) G d k n := by
  intro p e s m args below meth c H locs ls hC hH hl
  exact lv_astoreN hC.1 hC.2.1 hd hl hn hL (fun ls1 hl1 => kk p e s m args below meth c H locs ls1 hC hH hl1)
theorem ya_ifnull {off : Int} {x : Nat} (hd : decode Y.1 pc = .ok (.ifnull off, 3)) (kk : ya_E X Y Γ (pc + 3) L S G d k n) : ya_E X Y Γ pc L (.ref x :: S) G d k n := by
  intro p e s m args below meth c H locs ls hC hH hl
  exact lv_ifnull hC.1 hC.2.1 hd (kk p e s m args below meth c H locs ls hC hH hl)
theorem ya_ifnullN {off : Int} (t : Nat) (ht : (pc : Int) + off = (t : Int)) (hd : decode Y.1 pc = .ok (.ifnull off, 3)) (kk : ya_E X Y Γ t L S G d k n) : ya_E X Y Γ pc L (.null :: S) G d k n := by
  intro p e s m args below meth c H locs ls hC hH hl
  exact lv_ifnullN hC.1 hC.2.1 hd ht (kk p e s m args below meth c H locs ls hC hH hl)
theorem ya_ifnonnullN {off : Int} (hd : decode Y.1 pc = .ok (.ifnonnull off, 3)) (kk : ya_E X Y Γ (pc + 3) L S G d k n) : ya_E X Y Γ pc L (.null :: S) G d k n := by
  intro p e s m args below meth c H locs ls hC hH hl
  exact lv_ifnonnullN hC.1 hC.2.1 hd (kk p e s m args below meth c H locs ls hC hH hl)
theorem ya_ifnonnull {off : Int} {x : Nat} (t : Nat) (ht : (pc : Int) + off = (t : Int)) (hd : decode Y.1 pc = .ok (.ifnonnull off, 3)) (kk : ya_E X Y Γ t L S G d k n) : ya_E X Y Γ pc L (.ref x :: S) G d k n := by
  intro p e s m args below meth c H locs ls hC hH hl
  exact lv_ifnonnull hC.1 hC.2.1 hd ht (kk p e s m args below meth c H locs ls hC hH hl)
theorem ya_out {x : Int32} {lo hi : Int} (cs : List Int32) (h : ∀ c ∈ cs, ¬ x = c) (hc : ∀ j : Nat, j < (hi - lo + 1).toNat → Int32.ofInt (lo + j) ∈ cs) : x.toInt < lo ∨ hi < x.toInt := by
  by_cases h1 : x.toInt < lo
  · exact Or.inl h1
  by_cases h2 : hi < x.toInt
  · exact Or.inr h2
  have h3 := hc (x.toInt - lo).toNat (by omega)
  rw [show lo + ((x.toInt - lo).toNat : Int) = x.toInt by omega, Int32.ofInt_toInt] at h3
  exact absurd rfl (h x h3)
theorem ya_tswIn {dflt lo hi : Int} {offs : Array Int} {len : Nat} {x : Int32} {off : Int} (c0 : Int32) (t : Nat) (hx : x = c0) (h1 : ¬ c0.toInt < lo) (h2 : ¬ hi < c0.toInt) (ho : offs[(c0.toInt - lo).toNat]? = some off) (ht : (pc : Int) + off = (t : Int)) (hd : decode Y.1 pc = .ok (.tableswitch dflt lo hi offs, len)) (kk : ya_E X Y Γ t L S G d k n) : ya_E X Y Γ pc L (.int x :: S) G d k n := by
  intro p e s m args below meth c H locs ls hC hH hl
  subst hx
  exact lv_tableIn hC.1 hC.2.1 hd h1 h2 ho ht (kk p e s m args below meth c H locs ls hC hH hl)
theorem ya_tswOut {dflt lo hi : Int} {offs : Array Int} {len : Nat} {x : Int32} (t : Nat) (h1 : x.toInt < lo ∨ hi < x.toInt) (ht : (pc : Int) + dflt = (t : Int)) (hd : decode Y.1 pc = .ok (.tableswitch dflt lo hi offs, len)) (kk : ya_E X Y Γ t L S G d k n) : ya_E X Y Γ pc L (.int x :: S) G d k n := by
  intro p e s m args below meth c H locs ls hC hH hl
  exact lv_tableOut hC.1 hC.2.1 hd h1 ht (kk p e s m args below meth c H locs ls hC hH hl)
theorem ya_lsOut {z : Int} {dflt : Int} : ∀ (ps : List (Int × Int)), (∀ q ∈ ps, ¬ z = q.1) → Op.lookupswitch.offset ps dflt z = dflt
  | [], _ => rfl
  | (a, o) :: r, h => by
    rw [Op.lookupswitch.offset_cons, if_neg (fun e => h (a, o) List.mem_cons_self e.symm)]
    exact ya_lsOut r (fun q hq => h q (List.mem_cons_of_mem _ hq))
theorem ya_lsw {dflt : Int} {ps : Array (Int × Int)} {len : Nat} {x : Int32} {off : Int} (t : Nat) (hp : (ps.toList.zip (ps.toList.drop 1)).all (fun (a, next) => a.1 < next.1) = true) (ho : Op.lookupswitch.offset ps.toList dflt x.toInt = off) (ht : (pc : Int) + off = (t : Int)) (hd : decode Y.1 pc = .ok (.lookupswitch dflt ps, len)) (kk : ya_E X Y Γ t L S G d k n) : ya_E X Y Γ pc L (.int x :: S) G d k n := by
  intro p e s m args below meth c H locs ls hC hH hl
  exact lv_lookup hC.1 hC.2.1 hd hp ho ht (kk p e s m args below meth c H locs ls hC hH hl)
end
