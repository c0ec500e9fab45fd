section ROWS2
variable {G : SG} {y : MI} {d bc bs pc : Nat} {L st : List Value} {h : AH} {P : Option Value → AH → Prop}
theorem sw_iadd {x z : Int32} (hd : decode y.2.1 pc = .ok (.iadd, 1)) (k : SW G y d bc bs (pc + 1) L (.int (x + z) :: st) h P) : SW G y d bc bs pc L (.int z :: .int x :: st) h P := by
  intro p l e R s m args below meth c H locs ls cells slots mc ms C h1 h2 h3 h4 hI hS hL
  exact lv_iadd C.x C.b hd (k p l e R s m args below meth c H locs ls cells slots mc ms C h1 h2 h3 h4 hI hS hL)
theorem sw_isub {x z : Int32} (hd : decode y.2.1 pc = .ok (.isub, 1)) (k : SW G y d bc bs (pc + 1) L (.int (x - z) :: st) h P) : SW G y d bc bs pc L (.int z :: .int x :: st) h P := by
  intro p l e R s m args below meth c H locs ls cells slots mc ms C h1 h2 h3 h4 hI hS hL
  exact lv_isub C.x C.b hd (k p l e R s m args below meth c H locs ls cells slots mc ms C h1 h2 h3 h4 hI hS hL)
theorem sw_imul {x z : Int32} (hd : decode y.2.1 pc = .ok (.imul, 1)) (k : SW G y d bc bs (pc + 1) L (.int (x * z) :: st) h P) : SW G y d bc bs pc L (.int z :: .int x :: st) h P := by
  intro p l e R s m args below meth c H locs ls cells slots mc ms C h1 h2 h3 h4 hI hS hL
  exact lv_imul C.x C.b hd (k p l e R s m args below meth c H locs ls cells slots mc ms C h1 h2 h3 h4 hI hS hL)
theorem sw_iand {x z : Int32} (hd : decode y.2.1 pc = .ok (.iand, 1)) (k : SW G y d bc bs (pc + 1) L (.int (x &&& z) :: st) h P) : SW G y d bc bs pc L (.int z :: .int x :: st) h P := by
  intro p l e R s m args below meth c H locs ls cells slots mc ms C h1 h2 h3 h4 hI hS hL
  exact lv_iand C.x C.b hd (k p l e R s m args below meth c H locs ls cells slots mc ms C h1 h2 h3 h4 hI hS hL)
theorem sw_ior {x z : Int32} (hd : decode y.2.1 pc = .ok (.ior, 1)) (k : SW G y d bc bs (pc + 1) L (.int (x ||| z) :: st) h P) : SW G y d bc bs pc L (.int z :: .int x :: st) h P := by
  intro p l e R s m args below meth c H locs ls cells slots mc ms C h1 h2 h3 h4 hI hS hL
  exact lv_ior C.x C.b hd (k p l e R s m args below meth c H locs ls cells slots mc ms C h1 h2 h3 h4 hI hS hL)
theorem sw_ixor {x z : Int32} (hd : decode y.2.1 pc = .ok (.ixor, 1)) (k : SW G y d bc bs (pc + 1) L (.int (x ^^^ z) :: st) h P) : SW G y d bc bs pc L (.int z :: .int x :: st) h P := by
  intro p l e R s m args below meth c H locs ls cells slots mc ms C h1 h2 h3 h4 hI hS hL
  exact lv_ixor C.x C.b hd (k p l e R s m args below meth c H locs ls cells slots mc ms C h1 h2 h3 h4 hI hS hL)
theorem sw_irem {x z : Int32} (hd : decode y.2.1 pc = .ok (.irem, 1)) (hne : ¬ z = 0) (k : SW G y d bc bs (pc + 1) L (.int (x - x / z * z) :: st) h P) : SW G y d bc bs pc L (.int z :: .int x :: st) h P := by
  intro p l e R s m args below meth c H locs ls cells slots mc ms C h1 h2 h3 h4 hI hS hL
  exact lv_irem C.x C.b hd hne (k p l e R s m args below meth c H locs ls cells slots mc ms C h1 h2 h3 h4 hI hS hL)
theorem sw_ishl {x z : Int32} (hd : decode y.2.1 pc = .ok (.ishl, 1)) (k : SW G y d bc bs (pc + 1) L (.int (x <<< (z &&& 31)) :: st) h P) : SW G y d bc bs pc L (.int z :: .int x :: st) h P := by
  intro p l e R s m args below meth c H locs ls cells slots mc ms C h1 h2 h3 h4 hI hS hL
  exact lv_ishl C.x C.b hd (k p l e R s m args below meth c H locs ls cells slots mc ms C h1 h2 h3 h4 hI hS hL)
theorem sw_ishr {x z : Int32} (hd : decode y.2.1 pc = .ok (.ishr, 1)) (k : SW G y d bc bs (pc + 1) L (.int (x >>> (z &&& 31)) :: st) h P) : SW G y d bc bs pc L (.int z :: .int x :: st) h P := by
  intro p l e R s m args below meth c H locs ls cells slots mc ms C h1 h2 h3 h4 hI hS hL
  exact lv_ishr C.x C.b hd (k p l e R s m args below meth c H locs ls cells slots mc ms C h1 h2 h3 h4 hI hS hL)
theorem sw_iushr {x z : Int32} (hd : decode y.2.1 pc = .ok (.iushr, 1)) (k : SW G y d bc bs (pc + 1) L (.int (x.toUInt32 >>> (z.toUInt32 &&& Int32.toUInt32 31)).toInt32 :: st) h P) : SW G y d bc bs pc L (.int z :: .int x :: st) h P := by
  intro p l e R s m args below meth c H locs ls cells slots mc ms C h1 h2 h3 h4 hI hS hL
  exact lv_iushr C.x C.b hd rfl (k p l e R s m args below meth c H locs ls cells slots mc ms C h1 h2 h3 h4 hI hS hL)
theorem sw_ladd {x z : Int64} (hd : decode y.2.1 pc = .ok (.ladd, 1)) (k : SW G y d bc bs (pc + 1) L (.long (x + z) :: st) h P) : SW G y d bc bs pc L (.long z :: .long x :: st) h P := by
  intro p l e R s m args below meth c H locs ls cells slots mc ms C h1 h2 h3 h4 hI hS hL
  exact lv_ladd C.x C.b hd (k p l e R s m args below meth c H locs ls cells slots mc ms C h1 h2 h3 h4 hI hS hL)
theorem sw_lsub {x z : Int64} (hd : decode y.2.1 pc = .ok (.lsub, 1)) (k : SW G y d bc bs (pc + 1) L (.long (x - z) :: st) h P) : SW G y d bc bs pc L (.long z :: .long x :: st) h P := by
  intro p l e R s m args below meth c H locs ls cells slots mc ms C h1 h2 h3 h4 hI hS hL
  exact lv_lsub C.x C.b hd (k p l e R s m args below meth c H locs ls cells slots mc ms C h1 h2 h3 h4 hI hS hL)
theorem sw_lmul {x z : Int64} (hd : decode y.2.1 pc = .ok (.lmul, 1)) (k : SW G y d bc bs (pc + 1) L (.long (x * z) :: st) h P) : SW G y d bc bs pc L (.long z :: .long x :: st) h P := by
  intro p l e R s m args below meth c H locs ls cells slots mc ms C h1 h2 h3 h4 hI hS hL
  exact lv_lmul C.x C.b hd (k p l e R s m args below meth c H locs ls cells slots mc ms C h1 h2 h3 h4 hI hS hL)
theorem sw_fdiv {x z : UInt32} (hd : decode y.2.1 pc = .ok (.fdiv, 1)) (hne : vf_n32 (FP.fdiv x z)) (k : SW G y d bc bs (pc + 1) L (.float (FP.fdiv x z) :: st) h P) : SW G y d bc bs pc L (.float z :: .float x :: st) h P := by
  intro p l e R s m args below meth c H locs ls cells slots mc ms C h1 h2 h3 h4 hI hS hL
  exact lv_fdiv C.x C.b hd hne (k p l e R s m args below meth c H locs ls cells slots mc ms C h1 h2 h3 h4 hI hS hL)
theorem sw_fmul {x z : UInt32} (hd : decode y.2.1 pc = .ok (.fmul, 1)) (hne : vf_n32 (FP.fmul x z)) (k : SW G y d bc bs (pc + 1) L (.float (FP.fmul x z) :: st) h P) : SW G y d bc bs pc L (.float z :: .float x :: st) h P := by
  intro p l e R s m args below meth c H locs ls cells slots mc ms C h1 h2 h3 h4 hI hS hL
  exact lv_fmul C.x C.b hd hne (k p l e R s m args below meth c H locs ls cells slots mc ms C h1 h2 h3 h4 hI hS hL)
theorem sw_lcmp {x z : Int64} (hd : decode y.2.1 pc = .ok (.lcmp, 1)) (k : SW G y d bc bs (pc + 1) L (.int (lg_cmp x z) :: st) h P) : SW G y d bc bs pc L (.long z :: .long x :: st) h P := by
  intro p l e R s m args below meth c H locs ls cells slots mc ms C h1 h2 h3 h4 hI hS hL
  exact W.lcmp C.x C.b hd (k p l e R s m args below meth c H locs ls cells slots mc ms C h1 h2 h3 h4 hI hS hL)
theorem sw_fcmp {x z : UInt32} {op : CmpOp} (hd : decode y.2.1 pc = .ok (.fcmp op, 1)) (k : SW G y d bc bs (pc + 1) L (.int (Op.cmpValue (FP.fcmp x z) op) :: st) h P) : SW G y d bc bs pc L (.float z :: .float x :: st) h P := by
  intro p l e R s m args below meth c H locs ls cells slots mc ms C h1 h2 h3 h4 hI hS hL
  exact lv_fcmp C.x C.b hd (k p l e R s m args below meth c H locs ls cells slots mc ms C h1 h2 h3 h4 hI hS hL)
theorem sw_ineg {x : Int32} (hd : decode y.2.1 pc = .ok (.ineg, 1)) (k : SW G y d bc bs (pc + 1) L (.int (-x) :: st) h P) : SW G y d bc bs pc L (.int x :: st) h P := by
  intro p l e R s m args below meth c H locs ls cells slots mc ms C h1 h2 h3 h4 hI hS hL
  exact lv_ineg C.x C.b hd (k p l e R s m args below meth c H locs ls cells slots mc ms C h1 h2 h3 h4 hI hS hL)
theorem sw_i2l {x : Int32} (hd : decode y.2.1 pc = .ok (.i2l, 1)) (k : SW G y d bc bs (pc + 1) L (.long x.toInt64 :: st) h P) : SW G y d bc bs pc L (.int x :: st) h P := by
  intro p l e R s m args below meth c H locs ls cells slots mc ms C h1 h2 h3 h4 hI hS hL
  exact lv_i2l C.x C.b hd rfl (k p l e R s m args below meth c H locs ls cells slots mc ms C h1 h2 h3 h4 hI hS hL)
theorem sw_i2f {x : Int32} (hd : decode y.2.1 pc = .ok (.i2f, 1)) (k : SW G y d bc bs (pc + 1) L (.float (FP.i2f x) :: st) h P) : SW G y d bc bs pc L (.int x :: st) h P := by
  intro p l e R s m args below meth c H locs ls cells slots mc ms C h1 h2 h3 h4 hI hS hL
  exact lv_i2f C.x C.b hd (k p l e R s m args below meth c H locs ls cells slots mc ms C h1 h2 h3 h4 hI hS hL)
theorem sw_f2i {x : UInt32} (hd : decode y.2.1 pc = .ok (.f2i, 1)) (k : SW G y d bc bs (pc + 1) L (.int (FP.f2i x) :: st) h P) : SW G y d bc bs pc L (.float x :: st) h P := by
  intro p l e R s m args below meth c H locs ls cells slots mc ms C h1 h2 h3 h4 hI hS hL
  exact lv_f2i C.x C.b hd (k p l e R s m args below meth c H locs ls cells slots mc ms C h1 h2 h3 h4 hI hS hL)
theorem sw_i2c {x : Int32} (hd : decode y.2.1 pc = .ok (.i2c, 1)) (k : SW G y d bc bs (pc + 1) L (.int (x.toUInt32 % 65536).toInt32 :: st) h P) : SW G y d bc bs pc L (.int x :: st) h P := by
  intro p l e R s m args below meth c H locs ls cells slots mc ms C h1 h2 h3 h4 hI hS hL
  exact lv_i2c C.x C.b hd rfl (k p l e R s m args below meth c H locs ls cells slots mc ms C h1 h2 h3 h4 hI hS hL)
theorem sw_ifeq {x : Int32} {off : Int} {tgt : Nat} (hd : decode y.2.1 pc = .ok (.ifCond .eq off, 3)) (ht : (pc : Int) + off = (tgt : Int)) (kt : x = 0 → SW G y d bc bs tgt L st h P) (kf : ¬ x = 0 → SW G y d bc bs (pc + 3) L st h P) : SW G y d bc bs pc L (.int x :: st) h P := by
  intro p l e R s m args below meth c H locs ls cells slots mc ms C h1 h2 h3 h4 hI hS hL
  exact lv_if_eq C.x C.b hd ht (fun hc => kt hc p l e R s m args below meth c H locs ls cells slots mc ms C h1 h2 h3 h4 hI hS hL) (fun hc => kf hc p l e R s m args below meth c H locs ls cells slots mc ms C h1 h2 h3 h4 hI hS hL)
theorem sw_ifne {x : Int32} {off : Int} {tgt : Nat} (hd : decode y.2.1 pc = .ok (.ifCond .ne off, 3)) (ht : (pc : Int) + off = (tgt : Int)) (kt : ¬ x = 0 → SW G y d bc bs tgt L st h P) (kf : x = 0 → SW G y d bc bs (pc + 3) L st h P) : SW G y d bc bs pc L (.int x :: st) h P := by
  intro p l e R s m args below meth c H locs ls cells slots mc ms C h1 h2 h3 h4 hI hS hL
  exact lv_if_ne C.x C.b hd ht (fun hc => kt hc p l e R s m args below meth c H locs ls cells slots mc ms C h1 h2 h3 h4 hI hS hL) (fun hc => kf hc p l e R s m args below meth c H locs ls cells slots mc ms C h1 h2 h3 h4 hI hS hL)
theorem sw_iflt {x : Int32} {off : Int} {tgt : Nat} (hd : decode y.2.1 pc = .ok (.ifCond .lt off, 3)) (ht : (pc : Int) + off = (tgt : Int)) (kt : x < 0 → SW G y d bc bs tgt L st h P) (kf : ¬ x < 0 → SW G y d bc bs (pc + 3) L st h P) : SW G y d bc bs pc L (.int x :: st) h P := by
  intro p l e R s m args below meth c H locs ls cells slots mc ms C h1 h2 h3 h4 hI hS hL
  exact lv_if_lt C.x C.b hd ht (fun hc => kt hc p l e R s m args below meth c H locs ls cells slots mc ms C h1 h2 h3 h4 hI hS hL) (fun hc => kf hc p l e R s m args below meth c H locs ls cells slots mc ms C h1 h2 h3 h4 hI hS hL)
theorem sw_ifge {x : Int32} {off : Int} {tgt : Nat} (hd : decode y.2.1 pc = .ok (.ifCond .ge off, 3)) (ht : (pc : Int) + off = (tgt : Int)) (kt : 0 ≤ x → SW G y d bc bs tgt L st h P) (kf : ¬ 0 ≤ x → SW G y d bc bs (pc + 3) L st h P) : SW G y d bc bs pc L (.int x :: st) h P := by
  intro p l e R s m args below meth c H locs ls cells slots mc ms C h1 h2 h3 h4 hI hS hL
  exact lv_if_ge C.x C.b hd ht (fun hc => kt hc p l e R s m args below meth c H locs ls cells slots mc ms C h1 h2 h3 h4 hI hS hL) (fun hc => kf hc p l e R s m args below meth c H locs ls cells slots mc ms C h1 h2 h3 h4 hI hS hL)
theorem sw_ifgt {x : Int32} {off : Int} {tgt : Nat} (hd : decode y.2.1 pc = .ok (.ifCond .gt off, 3)) (ht : (pc : Int) + off = (tgt : Int)) (kt : 0 < x → SW G y d bc bs tgt L st h P) (kf : ¬ 0 < x → SW G y d bc bs (pc + 3) L st h P) : SW G y d bc bs pc L (.int x :: st) h P := by
  intro p l e R s m args below meth c H locs ls cells slots mc ms C h1 h2 h3 h4 hI hS hL
  exact lv_if_gt C.x C.b hd ht (fun hc => kt hc p l e R s m args below meth c H locs ls cells slots mc ms C h1 h2 h3 h4 hI hS hL) (fun hc => kf hc p l e R s m args below meth c H locs ls cells slots mc ms C h1 h2 h3 h4 hI hS hL)
theorem sw_ifle {x : Int32} {off : Int} {tgt : Nat} (hd : decode y.2.1 pc = .ok (.ifCond .le off, 3)) (ht : (pc : Int) + off = (tgt : Int)) (kt : x ≤ 0 → SW G y d bc bs tgt L st h P) (kf : ¬ x ≤ 0 → SW G y d bc bs (pc + 3) L st h P) : SW G y d bc bs pc L (.int x :: st) h P := by
  intro p l e R s m args below meth c H locs ls cells slots mc ms C h1 h2 h3 h4 hI hS hL
  exact lv_if_le C.x C.b hd ht (fun hc => kt hc p l e R s m args below meth c H locs ls cells slots mc ms C h1 h2 h3 h4 hI hS hL) (fun hc => kf hc p l e R s m args below meth c H locs ls cells slots mc ms C h1 h2 h3 h4 hI hS hL)
theorem sw_cmpeq {x z : Int32} {off : Int} {tgt : Nat} (hd : decode y.2.1 pc = .ok (.if_icmp .eq off, 3)) (ht : (pc : Int) + off = (tgt : Int)) (kt : x = z → SW G y d bc bs tgt L st h P) (kf : ¬ x = z → SW G y d bc bs (pc + 3) L st h P) : SW G y d bc bs pc L (.int z :: .int x :: st) h P := by
  intro p l e R s m args below meth c H locs ls cells slots mc ms C h1 h2 h3 h4 hI hS hL
  exact lv_icmp_eq C.x C.b hd ht (fun hc => kt hc p l e R s m args below meth c H locs ls cells slots mc ms C h1 h2 h3 h4 hI hS hL) (fun hc => kf hc p l e R s m args below meth c H locs ls cells slots mc ms C h1 h2 h3 h4 hI hS hL)
theorem sw_cmpne {x z : Int32} {off : Int} {tgt : Nat} (hd : decode y.2.1 pc = .ok (.if_icmp .ne off, 3)) (ht : (pc : Int) + off = (tgt : Int)) (kt : ¬ x = z → SW G y d bc bs tgt L st h P) (kf : x = z → SW G y d bc bs (pc + 3) L st h P) : SW G y d bc bs pc L (.int z :: .int x :: st) h P := by
  intro p l e R s m args below meth c H locs ls cells slots mc ms C h1 h2 h3 h4 hI hS hL
  exact lv_icmp_ne C.x C.b hd ht (fun hc => kt hc p l e R s m args below meth c H locs ls cells slots mc ms C h1 h2 h3 h4 hI hS hL) (fun hc => kf hc p l e R s m args below meth c H locs ls cells slots mc ms C h1 h2 h3 h4 hI hS hL)
theorem sw_cmplt {x z : Int32} {off : Int} {tgt : Nat} (hd : decode y.2.1 pc = .ok (.if_icmp .lt off, 3)) (ht : (pc : Int) + off = (tgt : Int)) (kt : x < z → SW G y d bc bs tgt L st h P) (kf : ¬ x < z → SW G y d bc bs (pc + 3) L st h P) : SW G y d bc bs pc L (.int z :: .int x :: st) h P := by
  intro p l e R s m args below meth c H locs ls cells slots mc ms C h1 h2 h3 h4 hI hS hL
  exact lv_icmp_lt C.x C.b hd ht (fun hc => kt hc p l e R s m args below meth c H locs ls cells slots mc ms C h1 h2 h3 h4 hI hS hL) (fun hc => kf hc p l e R s m args below meth c H locs ls cells slots mc ms C h1 h2 h3 h4 hI hS hL)
theorem sw_cmpge {x z : Int32} {off : Int} {tgt : Nat} (hd : decode y.2.1 pc = .ok (.if_icmp .ge off, 3)) (ht : (pc : Int) + off = (tgt : Int)) (kt : z ≤ x → SW G y d bc bs tgt L st h P) (kf : ¬ z ≤ x → SW G y d bc bs (pc + 3) L st h P) : SW G y d bc bs pc L (.int z :: .int x :: st) h P := by
  intro p l e R s m args below meth c H locs ls cells slots mc ms C h1 h2 h3 h4 hI hS hL
  exact lv_icmp_ge C.x C.b hd ht (fun hc => kt hc p l e R s m args below meth c H locs ls cells slots mc ms C h1 h2 h3 h4 hI hS hL) (fun hc => kf hc p l e R s m args below meth c H locs ls cells slots mc ms C h1 h2 h3 h4 hI hS hL)
theorem sw_cmpgt {x z : Int32} {off : Int} {tgt : Nat} (hd : decode y.2.1 pc = .ok (.if_icmp .gt off, 3)) (ht : (pc : Int) + off = (tgt : Int)) (kt : z < x → SW G y d bc bs tgt L st h P) (kf : ¬ z < x → SW G y d bc bs (pc + 3) L st h P) : SW G y d bc bs pc L (.int z :: .int x :: st) h P := by
  intro p l e R s m args below meth c H locs ls cells slots mc ms C h1 h2 h3 h4 hI hS hL
  exact lv_icmp_gt C.x C.b hd ht (fun hc => kt hc p l e R s m args below meth c H locs ls cells slots mc ms C h1 h2 h3 h4 hI hS hL) (fun hc => kf hc p l e R s m args below meth c H locs ls cells slots mc ms C h1 h2 h3 h4 hI hS hL)
theorem sw_cmple {x z : Int32} {off : Int} {tgt : Nat} (hd : decode y.2.1 pc = .ok (.if_icmp .le off, 3)) (ht : (pc : Int) + off = (tgt : Int)) (kt : x ≤ z → SW G y d bc bs tgt L st h P) (kf : ¬ x ≤ z → SW G y d bc bs (pc + 3) L st h P) : SW G y d bc bs pc L (.int z :: .int x :: st) h P := by
  intro p l e R s m args below meth c H locs ls cells slots mc ms C h1 h2 h3 h4 hI hS hL
  exact lv_icmp_le C.x C.b hd ht (fun hc => kt hc p l e R s m args below meth c H locs ls cells slots mc ms C h1 h2 h3 h4 hI hS hL) (fun hc => kf hc p l e R s m args below meth c H locs ls cells slots mc ms C h1 h2 h3 h4 hI hS hL)
theorem sw_goto {off : Int} {tgt : Nat} (hd : decode y.2.1 pc = .ok (.goto off, 3)) (ht : (pc : Int) + off = (tgt : Int)) (k : SW G y d bc bs tgt L st h P) : SW G y d bc bs pc L st h P := by
  intro p l e R s m args below meth c H locs ls cells slots mc ms C h1 h2 h3 h4 hI hS hL
  exact lv_goto C.x C.b hd ht (k p l e R s m args below meth c H locs ls cells slots mc ms C h1 h2 h3 h4 hI hS hL)
theorem sw_tsIn {dflt lo hi : Int} {offs : Array Int} {len : Nat} {x : Int32} {off : Int} {tgt : Nat} (hd : decode y.2.1 pc = .ok (.tableswitch dflt lo hi offs, len)) (g1 : ¬ x.toInt < lo) (g2 : ¬ hi < x.toInt) (ho : offs[(x.toInt - lo).toNat]? = some off) (ht : (pc : Int) + off = (tgt : Int)) (k : SW G y d bc bs tgt L st h P) : SW G y d bc bs pc L (.int x :: st) h P := by
  intro p l e R s m args below meth c H locs ls cells slots mc ms C h1 h2 h3 h4 hI hS hL
  exact lv_tableIn C.x C.b hd g1 g2 ho ht (k p l e R s m args below meth c H locs ls cells slots mc ms C h1 h2 h3 h4 hI hS hL)
theorem sw_tsOut {dflt lo hi : Int} {offs : Array Int} {len : Nat} {x : Int32} {tgt : Nat} (hd : decode y.2.1 pc = .ok (.tableswitch dflt lo hi offs, len)) (g1 : x.toInt < lo ∨ hi < x.toInt) (ht : (pc : Int) + dflt = (tgt : Int)) (k : SW G y d bc bs tgt L st h P) : SW G y d bc bs pc L (.int x :: st) h P := by
  intro p l e R s m args below meth c H locs ls cells slots mc ms C h1 h2 h3 h4 hI hS hL
  exact lv_tableOut C.x C.b hd g1 ht (k p l e R s m args below meth c H locs ls cells slots mc ms C h1 h2 h3 h4 hI hS hL)
theorem sw_dup {v : Value} (hd : decode y.2.1 pc = .ok (.dup, 1)) (hv : v.category = 1) (k : SW G y d bc bs (pc + 1) L (v :: v :: st) h P) : SW G y d bc bs pc L (v :: st) h P := by
  intro p l e R s m args below meth c H locs ls cells slots mc ms C h1 h2 h3 h4 hI hS hL
  exact lv_dup C.x C.b hd (by rw [sg_catT C.E.fc]; exact hv) (k p l e R s m args below meth c H locs ls cells slots mc ms C h1 h2 h3 h4 hI hS hL)
theorem sw_pop {v : Value} (hd : decode y.2.1 pc = .ok (.pop, 1)) (hv : v.category = 1) (k : SW G y d bc bs (pc + 1) L st h P) : SW G y d bc bs pc L (v :: st) h P := by
  intro p l e R s m args below meth c H locs ls cells slots mc ms C h1 h2 h3 h4 hI hS hL
  exact lv_pop C.x C.b hd (by rw [sg_catT C.E.fc]; exact hv) (k p l e R s m args below meth c H locs ls cells slots mc ms C h1 h2 h3 h4 hI hS hL)
theorem sw_dup2 {v w : Value} (hd : decode y.2.1 pc = .ok (.dup2, 1)) (hv : v.category = 1) (hw : w.category = 1) (k : SW G y d bc bs (pc + 1) L (v :: w :: v :: w :: st) h P) : SW G y d bc bs pc L (v :: w :: st) h P := by
  intro p l e R s m args below meth c H locs ls cells slots mc ms C h1 h2 h3 h4 hI hS hL
  exact lv_dup2_11 C.x C.b hd (by rw [sg_catT C.E.fc]; exact hv) (by rw [sg_catT C.E.fc]; exact hw) (k p l e R s m args below meth c H locs ls cells slots mc ms C h1 h2 h3 h4 hI hS hL)
theorem sg_rne {i j : Nat} {s : State} (hE : sg_E G s) (hi : i < 8) (hj : j < 8) : sg_ad G (1000 + i) = sg_ad G (1000 + j) ↔ i = j := by
  unfold sg_ad
  rw [if_neg (by omega), if_neg (by omega)]
  exact ⟨hE.inj i j hi hj, fun q => by rw [q]⟩
theorem sw_acmpne {i j : Nat} {off : Int} {tgt : Nat} (hd : decode y.2.1 pc = .ok (.if_acmp .ne off, 3)) (ht : (pc : Int) + off = (tgt : Int)) (hi : i < 8) (hj : j < 8) (kt : ¬ i = j → SW G y d bc bs tgt L st h P) (kf : i = j → SW G y d bc bs (pc + 3) L st h P) : SW G y d bc bs pc L (.ref (1000 + j) :: .ref (1000 + i) :: st) h P := by
  intro p l e R s m args below meth c H locs ls cells slots mc ms C h1 h2 h3 h4 hI hS hL
  exact lv_acmp_ne (rx := some (sg_ad G (1000 + i))) (ry := some (sg_ad G (1000 + j))) C.x C.b hd ht (fun hc => kt (fun q => hc (by rw [(sg_rne C.E hi hj).mpr q])) p l e R s m args below meth c H locs ls cells slots mc ms C h1 h2 h3 h4 hI hS hL) (fun hc => kf ((sg_rne C.E hi hj).mp (Option.some.inj hc)) p l e R s m args below meth c H locs ls cells slots mc ms C h1 h2 h3 h4 hI hS hL)
theorem sw_ireturn {v : Int32} {ty : FieldType} (hd : decode y.2.1 pc = .ok (.ireturn, 1)) (hr : y.2.2.2 = some ty) (hn : narrow ty (.int v) = .int v) (hP : P (some (.int v)) h) : SW G y d bc bs pc L [.int v] h P := by
  intro p l e R s m args below meth c H locs ls cells slots mc ms C h1 h2 h3 h4 hI hS hL
  refine W.widen (k := mc) (n := ms) (by omega) (by omega) ?_
  exact W.zret C.x C.b (C.rt.trans hr) hn (fun t ht hW => ⟨⟨some (.int v), h, rfl, by rw [ht]; exact hI, hP⟩, hS.F ht⟩) hS.2.2 hd (hlocks := C.lk)
theorem sw_lreturn {v : Int64} (hd : decode y.2.1 pc = .ok (.lreturn, 1)) (hr : y.2.2.2 = some .long) (hP : P (some (.long v)) h) : SW G y d bc bs pc L [.long v] h P := by
  intro p l e R s m args below meth c H locs ls cells slots mc ms C h1 h2 h3 h4 hI hS hL
  refine W.widen (k := mc) (n := ms) (by omega) (by omega) ?_
  exact W.lret C.x C.b (C.rt.trans hr) (fun t ht hW => ⟨⟨some (.long v), h, rfl, by rw [ht]; exact hI, hP⟩, hS.F ht⟩) hS.2.2 hd (hlocks := C.lk)
theorem sw_return (hd : decode y.2.1 pc = .ok (.return_, 1)) (hr : y.2.2.2 = none) (hP : P none h) : SW G y d bc bs pc L [] h P := by
  intro p l e R s m args below meth c H locs ls cells slots mc ms C h1 h2 h3 h4 hI hS hL
  refine W.widen (k := mc) (n := ms) (by omega) (by omega) ?_
  exact W.vret C.x C.b (C.rt.trans hr) (fun t ht hW => ⟨⟨none, h, rfl, by rw [ht]; exact hI, hP⟩, hS.F ht⟩) hS.2.2 hd (hlocks := C.lk)
end ROWS2
