/-! THE X LAYER: arithmetic and branches -/
section q_rules2
variable {k : q_MI} {pc : Nat} {ls : List (Option Value)} {st : List Value} {I : q_Mem} {Q : Option Value → q_Mem → Prop}
theorem q_iadd {x y : Int32} (hd : decode k.2.1 pc = .ok (.iadd, 1)) (kk : q_X k (pc + 1) ls (.int (x + y) :: st) I Q) : q_X k pc ls (.int y :: .int x :: st) I Q := by
  intro ω p l e R s m args below meth c cells slots QZ hC hR H locs LS hL hP hS
  exact lv_iadd hC.1 hC.2.1 hd (kk ω p l e R s m args below meth c cells slots QZ hC hR H locs LS hL hP hS)
theorem q_isub {x y : Int32} (hd : decode k.2.1 pc = .ok (.isub, 1)) (kk : q_X k (pc + 1) ls (.int (x - y) :: st) I Q) : q_X k pc ls (.int y :: .int x :: st) I Q := by
  intro ω p l e R s m args below meth c cells slots QZ hC hR H locs LS hL hP hS
  exact lv_isub hC.1 hC.2.1 hd (kk ω p l e R s m args below meth c cells slots QZ hC hR H locs LS hL hP hS)
theorem q_imul {x y : Int32} (hd : decode k.2.1 pc = .ok (.imul, 1)) (kk : q_X k (pc + 1) ls (.int (x * y) :: st) I Q) : q_X k pc ls (.int y :: .int x :: st) I Q := by
  intro ω p l e R s m args below meth c cells slots QZ hC hR H locs LS hL hP hS
  exact lv_imul hC.1 hC.2.1 hd (kk ω p l e R s m args below meth c cells slots QZ hC hR H locs LS hL hP hS)
theorem q_iand {x y : Int32} (hd : decode k.2.1 pc = .ok (.iand, 1)) (kk : q_X k (pc + 1) ls (.int (x &&& y) :: st) I Q) : q_X k pc ls (.int y :: .int x :: st) I Q := by
  intro ω p l e R s m args below meth c cells slots QZ hC hR H locs LS hL hP hS
  exact lv_iand hC.1 hC.2.1 hd (kk ω p l e R s m args below meth c cells slots QZ hC hR H locs LS hL hP hS)
theorem q_ior {x y : Int32} (hd : decode k.2.1 pc = .ok (.ior, 1)) (kk : q_X k (pc + 1) ls (.int (x ||| y) :: st) I Q) : q_X k pc ls (.int y :: .int x :: st) I Q := by
  intro ω p l e R s m args below meth c cells slots QZ hC hR H locs LS hL hP hS
  exact lv_ior hC.1 hC.2.1 hd (kk ω p l e R s m args below meth c cells slots QZ hC hR H locs LS hL hP hS)
theorem q_ishl {x y : Int32} (hd : decode k.2.1 pc = .ok (.ishl, 1)) (kk : q_X k (pc + 1) ls (.int (x <<< (y &&& 31)) :: st) I Q) : q_X k pc ls (.int y :: .int x :: st) I Q := by
  intro ω p l e R s m args below meth c cells slots QZ hC hR H locs LS hL hP hS
  exact lv_ishl hC.1 hC.2.1 hd (kk ω p l e R s m args below meth c cells slots QZ hC hR H locs LS hL hP hS)
theorem q_ishr {x y : Int32} (hd : decode k.2.1 pc = .ok (.ishr, 1)) (kk : q_X k (pc + 1) ls (.int (x >>> (y &&& 31)) :: st) I Q) : q_X k pc ls (.int y :: .int x :: st) I Q := by
  intro ω p l e R s m args below meth c cells slots QZ hC hR H locs LS hL hP hS
  exact lv_ishr hC.1 hC.2.1 hd (kk ω p l e R s m args below meth c cells slots QZ hC hR H locs LS hL hP hS)
theorem q_iushr {x y v : Int32} (hd : decode k.2.1 pc = .ok (.iushr, 1)) (hv : (x.toUInt32 >>> (y.toUInt32 &&& 31)).toInt32 = v) (kk : q_X k (pc + 1) ls (.int v :: st) I Q) : q_X k pc ls (.int y :: .int x :: st) I Q := by
  intro ω p l e R s m args below meth c cells slots QZ hC hR H locs LS hL hP hS
  exact lv_iushr hC.1 hC.2.1 hd hv (kk ω p l e R s m args below meth c cells slots QZ hC hR H locs LS hL hP hS)
theorem q_idiv {x y : Int32} (hd : decode k.2.1 pc = .ok (.idiv, 1)) (hne : ¬ y = 0) (kk : q_X k (pc + 1) ls (.int (x / y) :: st) I Q) : q_X k pc ls (.int y :: .int x :: st) I Q := by
  intro ω p l e R s m args below meth c cells slots QZ hC hR H locs LS hL hP hS
  exact lv_idiv hC.1 hC.2.1 hd hne (kk ω p l e R s m args below meth c cells slots QZ hC hR H locs LS hL hP hS)
theorem q_irem {x y : Int32} (hd : decode k.2.1 pc = .ok (.irem, 1)) (hne : ¬ y = 0) (kk : q_X k (pc + 1) ls (.int (x - x / y * y) :: st) I Q) : q_X k pc ls (.int y :: .int x :: st) I Q := by
  intro ω p l e R s m args below meth c cells slots QZ hC hR H locs LS hL hP hS
  exact lv_irem hC.1 hC.2.1 hd hne (kk ω p l e R s m args below meth c cells slots QZ hC hR H locs LS hL hP hS)
theorem q_ineg {x : Int32} (hd : decode k.2.1 pc = .ok (.ineg, 1)) (kk : q_X k (pc + 1) ls (.int (-x) :: st) I Q) : q_X k pc ls (.int x :: st) I Q := by
  intro ω p l e R s m args below meth c cells slots QZ hC hR H locs LS hL hP hS
  exact lv_ineg hC.1 hC.2.1 hd (kk ω p l e R s m args below meth c cells slots QZ hC hR H locs LS hL hP hS)
theorem q_i2c {x v : Int32} (hd : decode k.2.1 pc = .ok (.i2c, 1)) (hv : (x.toUInt32 % 65536).toInt32 = v) (kk : q_X k (pc + 1) ls (.int v :: st) I Q) : q_X k pc ls (.int x :: st) I Q := by
  intro ω p l e R s m args below meth c cells slots QZ hC hR H locs LS hL hP hS
  exact lv_i2c hC.1 hC.2.1 hd hv (kk ω p l e R s m args below meth c cells slots QZ hC hR H locs LS hL hP hS)
theorem q_i2f {x : Int32} (hd : decode k.2.1 pc = .ok (.i2f, 1)) (kk : q_X k (pc + 1) ls (.float (FP.i2f x) :: st) I Q) : q_X k pc ls (.int x :: st) I Q := by
  intro ω p l e R s m args below meth c cells slots QZ hC hR H locs LS hL hP hS
  exact lv_i2f hC.1 hC.2.1 hd (kk ω p l e R s m args below meth c cells slots QZ hC hR H locs LS hL hP hS)
theorem q_f2i {x : UInt32} (hd : decode k.2.1 pc = .ok (.f2i, 1)) (kk : q_X k (pc + 1) ls (.int (FP.f2i x) :: st) I Q) : q_X k pc ls (.float x :: st) I Q := by
  intro ω p l e R s m args below meth c cells slots QZ hC hR H locs LS hL hP hS
  exact lv_f2i hC.1 hC.2.1 hd (kk ω p l e R s m args below meth c cells slots QZ hC hR H locs LS hL hP hS)
theorem q_fmul {x y : UInt32} (hd : decode k.2.1 pc = .ok (.fmul, 1)) (hne : vf_n32 (FP.fmul x y)) (kk : q_X k (pc + 1) ls (.float (FP.fmul x y) :: st) I Q) : q_X k pc ls (.float y :: .float x :: st) I Q := by
  intro ω p l e R s m args below meth c cells slots QZ hC hR H locs LS hL hP hS
  exact lv_fmul hC.1 hC.2.1 hd hne (kk ω p l e R s m args below meth c cells slots QZ hC hR H locs LS hL hP hS)
theorem q_fdiv {x y : UInt32} (hd : decode k.2.1 pc = .ok (.fdiv, 1)) (hne : vf_n32 (FP.fdiv x y)) (kk : q_X k (pc + 1) ls (.float (FP.fdiv x y) :: st) I Q) : q_X k pc ls (.float y :: .float x :: st) I Q := by
  intro ω p l e R s m args below meth c cells slots QZ hC hR H locs LS hL hP hS
  exact lv_fdiv hC.1 hC.2.1 hd hne (kk ω p l e R s m args below meth c cells slots QZ hC hR H locs LS hL hP hS)
theorem q_fsub {x y : UInt32} (hd : decode k.2.1 pc = .ok (.fsub, 1)) (hne : vf_n32 (FP.fsub x y)) (kk : q_X k (pc + 1) ls (.float (FP.fsub x y) :: st) I Q) : q_X k pc ls (.float y :: .float x :: st) I Q := by
  intro ω p l e R s m args below meth c cells slots QZ hC hR H locs LS hL hP hS
  exact lv_fsub hC.1 hC.2.1 hd hne (kk ω p l e R s m args below meth c cells slots QZ hC hR H locs LS hL hP hS)
theorem q_fcmp {x y : UInt32} {op : CmpOp} (hd : decode k.2.1 pc = .ok (.fcmp op, 1)) (kk : q_X k (pc + 1) ls (.int (Op.cmpValue (FP.fcmp x y) op) :: st) I Q) : q_X k pc ls (.float y :: .float x :: st) I Q := by
  intro ω p l e R s m args below meth c cells slots QZ hC hR H locs LS hL hP hS
  exact lv_fcmp hC.1 hC.2.1 hd (kk ω p l e R s m args below meth c cells slots QZ hC hR H locs LS hL hP hS)
theorem q_fconst0 (hd : decode k.2.1 pc = .ok (.fconst 0, 1)) (kk : q_X k (pc + 1) ls (.float FP.fconst0 :: st) I Q) : q_X k pc ls st I Q := by
  intro ω p l e R s m args below meth c cells slots QZ hC hR H locs LS hL hP hS
  exact lv_fconst0 hC.1 hC.2.1 hd (kk ω p l e R s m args below meth c cells slots QZ hC hR H locs LS hL hP hS)
theorem q_fconst1 (hd : decode k.2.1 pc = .ok (.fconst 1, 1)) (kk : q_X k (pc + 1) ls (.float FP.fconst1 :: st) I Q) : q_X k pc ls st I Q := by
  intro ω p l e R s m args below meth c cells slots QZ hC hR H locs LS hL hP hS
  exact lv_fconst1 hC.1 hC.2.1 hd (kk ω p l e R s m args below meth c cells slots QZ hC hR H locs LS hL hP hS)
theorem q_fconst2 (hd : decode k.2.1 pc = .ok (.fconst 2, 1)) (kk : q_X k (pc + 1) ls (.float FP.fconst2 :: st) I Q) : q_X k pc ls st I Q := by
  intro ω p l e R s m args below meth c cells slots QZ hC hR H locs LS hL hP hS
  exact lv_fconst2 hC.1 hC.2.1 hd (kk ω p l e R s m args below meth c cells slots QZ hC hR H locs LS hL hP hS)
theorem q_null (hd : decode k.2.1 pc = .ok (.aconst_null, 1)) (kk : q_X k (pc + 1) ls (.null :: st) I Q) : q_X k pc ls st I Q := by
  intro ω p l e R s m args below meth c cells slots QZ hC hR H locs LS hL hP hS
  exact lv_null hC.1 hC.2.1 hd (kk ω p l e R s m args below meth c cells slots QZ hC hR H locs LS hL hP hS)
theorem q_dup {v : Value} (hd : decode k.2.1 pc = .ok (.dup, 1)) (hv : v.category = 1) (kk : q_X k (pc + 1) ls (v :: v :: st) I Q) : q_X k pc ls (v :: st) I Q := by
  intro ω p l e R s m args below meth c cells slots QZ hC hR H locs LS hL hP hS
  exact lv_dup hC.1 hC.2.1 hd ((q_cv_cat ω v).trans hv) (kk ω p l e R s m args below meth c cells slots QZ hC hR H locs LS hL hP hS)
theorem q_pop {v : Value} (hd : decode k.2.1 pc = .ok (.pop, 1)) (hv : v.category = 1) (kk : q_X k (pc + 1) ls st I Q) : q_X k pc ls (v :: st) I Q := by
  intro ω p l e R s m args below meth c cells slots QZ hC hR H locs LS hL hP hS
  exact lv_pop hC.1 hC.2.1 hd ((q_cv_cat ω v).trans hv) (kk ω p l e R s m args below meth c cells slots QZ hC hR H locs LS hL hP hS)
theorem q_dup2 {v w : Value} (hd : decode k.2.1 pc = .ok (.dup2, 1)) (hv : v.category = 1) (hw : w.category = 1) (kk : q_X k (pc + 1) ls (v :: w :: v :: w :: st) I Q) : q_X k pc ls (v :: w :: st) I Q := by
  intro ω p l e R s m args below meth c cells slots QZ hC hR H locs LS hL hP hS
  exact lv_dup2_11 hC.1 hC.2.1 hd ((q_cv_cat ω v).trans hv) ((q_cv_cat ω w).trans hw) (kk ω p l e R s m args below meth c cells slots QZ hC hR H locs LS hL hP hS)
theorem q_goto {off : Int} {tgt : Nat} (hd : decode k.2.1 pc = .ok (.goto off, 3)) (ht : (pc : Int) + off = (tgt : Int)) (kk : q_X k tgt ls st I Q) : q_X k pc ls st I Q := by
  intro ω p l e R s m args below meth c cells slots QZ hC hR H locs LS hL hP hS
  exact lv_goto hC.1 hC.2.1 hd ht (kk ω p l e R s m args below meth c cells slots QZ hC hR H locs LS hL hP hS)
theorem q_ifnull {a : Nat} {off : Int} (hd : decode k.2.1 pc = .ok (.ifnull off, 3)) (kk : q_X k (pc + 3) ls st I Q) : q_X k pc ls (.ref a :: st) I Q := by
  intro ω p l e R s m args below meth c cells slots QZ hC hR H locs LS hL hP hS
  exact lv_ifnull hC.1 hC.2.1 hd (kk ω p l e R s m args below meth c cells slots QZ hC hR H locs LS hL hP hS)
theorem q_ifnullN {off : Int} {tgt : Nat} (hd : decode k.2.1 pc = .ok (.ifnull off, 3)) (ht : (pc : Int) + off = (tgt : Int)) (kk : q_X k tgt ls st I Q) : q_X k pc ls (.null :: st) I Q := by
  intro ω p l e R s m args below meth c cells slots QZ hC hR H locs LS hL hP hS
  exact lv_ifnullN hC.1 hC.2.1 hd ht (kk ω p l e R s m args below meth c cells slots QZ hC hR H locs LS hL hP hS)
theorem q_ifnonnull {a : Nat} {off : Int} {tgt : Nat} (hd : decode k.2.1 pc = .ok (.ifnonnull off, 3)) (ht : (pc : Int) + off = (tgt : Int)) (kk : q_X k tgt ls st I Q) : q_X k pc ls (.ref a :: st) I Q := by
  intro ω p l e R s m args below meth c cells slots QZ hC hR H locs LS hL hP hS
  exact lv_ifnonnull hC.1 hC.2.1 hd ht (kk ω p l e R s m args below meth c cells slots QZ hC hR H locs LS hL hP hS)
theorem q_ifnonnullN {off : Int} (hd : decode k.2.1 pc = .ok (.ifnonnull off, 3)) (kk : q_X k (pc + 3) ls st I Q) : q_X k pc ls (.null :: st) I Q := by
  intro ω p l e R s m args below meth c cells slots QZ hC hR H locs LS hL hP hS
  exact lv_ifnonnullN hC.1 hC.2.1 hd (kk ω p l e R s m args below meth c cells slots QZ hC hR H locs LS hL hP hS)
theorem q_if_eq {x : Int32} {off : Int} {tgt : Nat} (hd : decode k.2.1 pc = .ok (.ifCond .eq off, 3)) (ht : (pc : Int) + off = (tgt : Int)) (kt : x = 0 → q_X k tgt ls st I Q) (kf : ¬ x = 0 → q_X k (pc + 3) ls st I Q) : q_X k pc ls (.int x :: st) I Q := by
  intro ω p l e R s m args below meth c cells slots QZ hC hR H locs LS hL hP hS
  exact lv_if_eq hC.1 hC.2.1 hd ht (fun q => kt q ω p l e R s m args below meth c cells slots QZ hC hR H locs LS hL hP hS) (fun q => kf q ω p l e R s m args below meth c cells slots QZ hC hR H locs LS hL hP hS)
theorem q_icmp_eq {x y : Int32} {off : Int} {tgt : Nat} (hd : decode k.2.1 pc = .ok (.if_icmp .eq off, 3)) (ht : (pc : Int) + off = (tgt : Int)) (kt : x = y → q_X k tgt ls st I Q) (kf : ¬ x = y → q_X k (pc + 3) ls st I Q) : q_X k pc ls (.int y :: .int x :: st) I Q := by
  intro ω p l e R s m args below meth c cells slots QZ hC hR H locs LS hL hP hS
  exact lv_icmp_eq hC.1 hC.2.1 hd ht (fun q => kt q ω p l e R s m args below meth c cells slots QZ hC hR H locs LS hL hP hS) (fun q => kf q ω p l e R s m args below meth c cells slots QZ hC hR H locs LS hL hP hS)
theorem q_if_ne {x : Int32} {off : Int} {tgt : Nat} (hd : decode k.2.1 pc = .ok (.ifCond .ne off, 3)) (ht : (pc : Int) + off = (tgt : Int)) (kt : ¬ x = 0 → q_X k tgt ls st I Q) (kf : x = 0 → q_X k (pc + 3) ls st I Q) : q_X k pc ls (.int x :: st) I Q := by
  intro ω p l e R s m args below meth c cells slots QZ hC hR H locs LS hL hP hS
  exact lv_if_ne hC.1 hC.2.1 hd ht (fun q => kt q ω p l e R s m args below meth c cells slots QZ hC hR H locs LS hL hP hS) (fun q => kf q ω p l e R s m args below meth c cells slots QZ hC hR H locs LS hL hP hS)
theorem q_icmp_ne {x y : Int32} {off : Int} {tgt : Nat} (hd : decode k.2.1 pc = .ok (.if_icmp .ne off, 3)) (ht : (pc : Int) + off = (tgt : Int)) (kt : ¬ x = y → q_X k tgt ls st I Q) (kf : x = y → q_X k (pc + 3) ls st I Q) : q_X k pc ls (.int y :: .int x :: st) I Q := by
  intro ω p l e R s m args below meth c cells slots QZ hC hR H locs LS hL hP hS
  exact lv_icmp_ne hC.1 hC.2.1 hd ht (fun q => kt q ω p l e R s m args below meth c cells slots QZ hC hR H locs LS hL hP hS) (fun q => kf q ω p l e R s m args below meth c cells slots QZ hC hR H locs LS hL hP hS)
theorem q_if_lt {x : Int32} {off : Int} {tgt : Nat} (hd : decode k.2.1 pc = .ok (.ifCond .lt off, 3)) (ht : (pc : Int) + off = (tgt : Int)) (kt : x < 0 → q_X k tgt ls st I Q) (kf : ¬ x < 0 → q_X k (pc + 3) ls st I Q) : q_X k pc ls (.int x :: st) I Q := by
  intro ω p l e R s m args below meth c cells slots QZ hC hR H locs LS hL hP hS
  exact lv_if_lt hC.1 hC.2.1 hd ht (fun q => kt q ω p l e R s m args below meth c cells slots QZ hC hR H locs LS hL hP hS) (fun q => kf q ω p l e R s m args below meth c cells slots QZ hC hR H locs LS hL hP hS)
theorem q_icmp_lt {x y : Int32} {off : Int} {tgt : Nat} (hd : decode k.2.1 pc = .ok (.if_icmp .lt off, 3)) (ht : (pc : Int) + off = (tgt : Int)) (kt : x < y → q_X k tgt ls st I Q) (kf : ¬ x < y → q_X k (pc + 3) ls st I Q) : q_X k pc ls (.int y :: .int x :: st) I Q := by
  intro ω p l e R s m args below meth c cells slots QZ hC hR H locs LS hL hP hS
  exact lv_icmp_lt hC.1 hC.2.1 hd ht (fun q => kt q ω p l e R s m args below meth c cells slots QZ hC hR H locs LS hL hP hS) (fun q => kf q ω p l e R s m args below meth c cells slots QZ hC hR H locs LS hL hP hS)
theorem q_if_ge {x : Int32} {off : Int} {tgt : Nat} (hd : decode k.2.1 pc = .ok (.ifCond .ge off, 3)) (ht : (pc : Int) + off = (tgt : Int)) (kt : 0 ≤ x → q_X k tgt ls st I Q) (kf : ¬ 0 ≤ x → q_X k (pc + 3) ls st I Q) : q_X k pc ls (.int x :: st) I Q := by
  intro ω p l e R s m args below meth c cells slots QZ hC hR H locs LS hL hP hS
  exact lv_if_ge hC.1 hC.2.1 hd ht (fun q => kt q ω p l e R s m args below meth c cells slots QZ hC hR H locs LS hL hP hS) (fun q => kf q ω p l e R s m args below meth c cells slots QZ hC hR H locs LS hL hP hS)
theorem q_icmp_ge {x y : Int32} {off : Int} {tgt : Nat} (hd : decode k.2.1 pc = .ok (.if_icmp .ge off, 3)) (ht : (pc : Int) + off = (tgt : Int)) (kt : y ≤ x → q_X k tgt ls st I Q) (kf : ¬ y ≤ x → q_X k (pc + 3) ls st I Q) : q_X k pc ls (.int y :: .int x :: st) I Q := by
  intro ω p l e R s m args below meth c cells slots QZ hC hR H locs LS hL hP hS
  exact lv_icmp_ge hC.1 hC.2.1 hd ht (fun q => kt q ω p l e R s m args below meth c cells slots QZ hC hR H locs LS hL hP hS) (fun q => kf q ω p l e R s m args below meth c cells slots QZ hC hR H locs LS hL hP hS)
theorem q_if_gt {x : Int32} {off : Int} {tgt : Nat} (hd : decode k.2.1 pc = .ok (.ifCond .gt off, 3)) (ht : (pc : Int) + off = (tgt : Int)) (kt : 0 < x → q_X k tgt ls st I Q) (kf : ¬ 0 < x → q_X k (pc + 3) ls st I Q) : q_X k pc ls (.int x :: st) I Q := by
  intro ω p l e R s m args below meth c cells slots QZ hC hR H locs LS hL hP hS
  exact lv_if_gt hC.1 hC.2.1 hd ht (fun q => kt q ω p l e R s m args below meth c cells slots QZ hC hR H locs LS hL hP hS) (fun q => kf q ω p l e R s m args below meth c cells slots QZ hC hR H locs LS hL hP hS)
theorem q_icmp_gt {x y : Int32} {off : Int} {tgt : Nat} (hd : decode k.2.1 pc = .ok (.if_icmp .gt off, 3)) (ht : (pc : Int) + off = (tgt : Int)) (kt : y < x → q_X k tgt ls st I Q) (kf : ¬ y < x → q_X k (pc + 3) ls st I Q) : q_X k pc ls (.int y :: .int x :: st) I Q := by
  intro ω p l e R s m args below meth c cells slots QZ hC hR H locs LS hL hP hS
  exact lv_icmp_gt hC.1 hC.2.1 hd ht (fun q => kt q ω p l e R s m args below meth c cells slots QZ hC hR H locs LS hL hP hS) (fun q => kf q ω p l e R s m args below meth c cells slots QZ hC hR H locs LS hL hP hS)
theorem q_if_le {x : Int32} {off : Int} {tgt : Nat} (hd : decode k.2.1 pc = .ok (.ifCond .le off, 3)) (ht : (pc : Int) + off = (tgt : Int)) (kt : x ≤ 0 → q_X k tgt ls st I Q) (kf : ¬ x ≤ 0 → q_X k (pc + 3) ls st I Q) : q_X k pc ls (.int x :: st) I Q := by
  intro ω p l e R s m args below meth c cells slots QZ hC hR H locs LS hL hP hS
  exact lv_if_le hC.1 hC.2.1 hd ht (fun q => kt q ω p l e R s m args below meth c cells slots QZ hC hR H locs LS hL hP hS) (fun q => kf q ω p l e R s m args below meth c cells slots QZ hC hR H locs LS hL hP hS)
theorem q_icmp_le {x y : Int32} {off : Int} {tgt : Nat} (hd : decode k.2.1 pc = .ok (.if_icmp .le off, 3)) (ht : (pc : Int) + off = (tgt : Int)) (kt : x ≤ y → q_X k tgt ls st I Q) (kf : ¬ x ≤ y → q_X k (pc + 3) ls st I Q) : q_X k pc ls (.int y :: .int x :: st) I Q := by
  intro ω p l e R s m args below meth c cells slots QZ hC hR H locs LS hL hP hS
  exact lv_icmp_le hC.1 hC.2.1 hd ht (fun q => kt q ω p l e R s m args below meth c cells slots QZ hC hR H locs LS hL hP hS) (fun q => kf q ω p l e R s m args below meth c cells slots QZ hC hR H locs LS hL hP hS)
theorem q_icmp_eqN {a b : Nat} {off : Int} {tgt : Nat} (ha : a < 2 ^ 31) (hb : b < 2 ^ 31) (hd : decode k.2.1 pc = .ok (.if_icmp .eq off, 3)) (ht : (pc : Int) + off = (tgt : Int)) (kt : a = b → q_X k tgt ls st I Q) (kf : ¬ a = b → q_X k (pc + 3) ls st I Q) : q_X k pc ls (.int (nI b) :: .int (nI a) :: st) I Q :=
  q_icmp_eq hd ht (fun q => kt ((nI_eq ha hb).mp q)) (fun q => kf (fun z => q ((nI_eq ha hb).mpr z)))
theorem q_if_eqN {a : Nat} {off : Int} {tgt : Nat} (ha : a < 2 ^ 31) (hd : decode k.2.1 pc = .ok (.ifCond .eq off, 3)) (ht : (pc : Int) + off = (tgt : Int)) (kt : a = 0 → q_X k tgt ls st I Q) (kf : ¬ a = 0 → q_X k (pc + 3) ls st I Q) : q_X k pc ls (.int (nI a) :: st) I Q := by
  have hb : (0 : Nat) < 2 ^ 31 := by decide
  exact q_if_eq hd ht (fun q => kt ((nI_eq ha hb).mp q)) (fun q => kf (fun z => q ((nI_eq ha hb).mpr z)))
theorem q_icmp_neN {a b : Nat} {off : Int} {tgt : Nat} (ha : a < 2 ^ 31) (hb : b < 2 ^ 31) (hd : decode k.2.1 pc = .ok (.if_icmp .ne off, 3)) (ht : (pc : Int) + off = (tgt : Int)) (kt : ¬ a = b → q_X k tgt ls st I Q) (kf : a = b → q_X k (pc + 3) ls st I Q) : q_X k pc ls (.int (nI b) :: .int (nI a) :: st) I Q :=
  q_icmp_ne hd ht (fun q => kt (fun z => q ((nI_eq ha hb).mpr z))) (fun q => kf ((nI_eq ha hb).mp q))
theorem q_if_neN {a : Nat} {off : Int} {tgt : Nat} (ha : a < 2 ^ 31) (hd : decode k.2.1 pc = .ok (.ifCond .ne off, 3)) (ht : (pc : Int) + off = (tgt : Int)) (kt : ¬ a = 0 → q_X k tgt ls st I Q) (kf : a = 0 → q_X k (pc + 3) ls st I Q) : q_X k pc ls (.int (nI a) :: st) I Q := by
  have hb : (0 : Nat) < 2 ^ 31 := by decide
  exact q_if_ne hd ht (fun q => kt (fun z => q ((nI_eq ha hb).mpr z))) (fun q => kf ((nI_eq ha hb).mp q))
theorem q_icmp_ltN {a b : Nat} {off : Int} {tgt : Nat} (ha : a < 2 ^ 31) (hb : b < 2 ^ 31) (hd : decode k.2.1 pc = .ok (.if_icmp .lt off, 3)) (ht : (pc : Int) + off = (tgt : Int)) (kt : a < b → q_X k tgt ls st I Q) (kf : b ≤ a → q_X k (pc + 3) ls st I Q) : q_X k pc ls (.int (nI b) :: .int (nI a) :: st) I Q :=
  q_icmp_lt hd ht (fun q => kt ((nI_ltI ha hb).mp q)) (fun q => kf (Nat.not_lt.mp (fun z => q ((nI_ltI ha hb).mpr z))))
theorem q_if_ltN {a : Nat} {off : Int} {tgt : Nat} (ha : a < 2 ^ 31) (hd : decode k.2.1 pc = .ok (.ifCond .lt off, 3)) (ht : (pc : Int) + off = (tgt : Int)) (kt : a < 0 → q_X k tgt ls st I Q) (kf : 0 ≤ a → q_X k (pc + 3) ls st I Q) : q_X k pc ls (.int (nI a) :: st) I Q := by
  have hb : (0 : Nat) < 2 ^ 31 := by decide
  exact q_if_lt hd ht (fun q => kt ((nI_ltI ha hb).mp q)) (fun q => kf (Nat.not_lt.mp (fun z => q ((nI_ltI ha hb).mpr z))))
theorem q_icmp_geN {a b : Nat} {off : Int} {tgt : Nat} (ha : a < 2 ^ 31) (hb : b < 2 ^ 31) (hd : decode k.2.1 pc = .ok (.if_icmp .ge off, 3)) (ht : (pc : Int) + off = (tgt : Int)) (kt : b ≤ a → q_X k tgt ls st I Q) (kf : a < b → q_X k (pc + 3) ls st I Q) : q_X k pc ls (.int (nI b) :: .int (nI a) :: st) I Q :=
  q_icmp_ge hd ht (fun q => kt ((nI_leI hb ha).mp q)) (fun q => kf (Nat.not_le.mp (fun z => q ((nI_leI hb ha).mpr z))))
theorem q_if_geN {a : Nat} {off : Int} {tgt : Nat} (ha : a < 2 ^ 31) (hd : decode k.2.1 pc = .ok (.ifCond .ge off, 3)) (ht : (pc : Int) + off = (tgt : Int)) (kt : 0 ≤ a → q_X k tgt ls st I Q) (kf : a < 0 → q_X k (pc + 3) ls st I Q) : q_X k pc ls (.int (nI a) :: st) I Q := by
  have hb : (0 : Nat) < 2 ^ 31 := by decide
  exact q_if_ge hd ht (fun q => kt ((nI_leI hb ha).mp q)) (fun q => kf (Nat.not_le.mp (fun z => q ((nI_leI hb ha).mpr z))))
theorem q_icmp_gtN {a b : Nat} {off : Int} {tgt : Nat} (ha : a < 2 ^ 31) (hb : b < 2 ^ 31) (hd : decode k.2.1 pc = .ok (.if_icmp .gt off, 3)) (ht : (pc : Int) + off = (tgt : Int)) (kt : b < a → q_X k tgt ls st I Q) (kf : a ≤ b → q_X k (pc + 3) ls st I Q) : q_X k pc ls (.int (nI b) :: .int (nI a) :: st) I Q :=
  q_icmp_gt hd ht (fun q => kt ((nI_ltI hb ha).mp q)) (fun q => kf (Nat.not_lt.mp (fun z => q ((nI_ltI hb ha).mpr z))))
theorem q_if_gtN {a : Nat} {off : Int} {tgt : Nat} (ha : a < 2 ^ 31) (hd : decode k.2.1 pc = .ok (.ifCond .gt off, 3)) (ht : (pc : Int) + off = (tgt : Int)) (kt : 0 < a → q_X k tgt ls st I Q) (kf : a ≤ 0 → q_X k (pc + 3) ls st I Q) : q_X k pc ls (.int (nI a) :: st) I Q := by
  have hb : (0 : Nat) < 2 ^ 31 := by decide
  exact q_if_gt hd ht (fun q => kt ((nI_ltI hb ha).mp q)) (fun q => kf (Nat.not_lt.mp (fun z => q ((nI_ltI hb ha).mpr z))))
theorem q_icmp_leN {a b : Nat} {off : Int} {tgt : Nat} (ha : a < 2 ^ 31) (hb : b < 2 ^ 31) (hd : decode k.2.1 pc = .ok (.if_icmp .le off, 3)) (ht : (pc : Int) + off = (tgt : Int)) (kt : a ≤ b → q_X k tgt ls st I Q) (kf : b < a → q_X k (pc + 3) ls st I Q) : q_X k pc ls (.int (nI b) :: .int (nI a) :: st) I Q :=
  q_icmp_le hd ht (fun q => kt ((nI_leI ha hb).mp q)) (fun q => kf (Nat.not_le.mp (fun z => q ((nI_leI ha hb).mpr z))))
theorem q_if_leN {a : Nat} {off : Int} {tgt : Nat} (ha : a < 2 ^ 31) (hd : decode k.2.1 pc = .ok (.ifCond .le off, 3)) (ht : (pc : Int) + off = (tgt : Int)) (kt : a ≤ 0 → q_X k tgt ls st I Q) (kf : 0 < a → q_X k (pc + 3) ls st I Q) : q_X k pc ls (.int (nI a) :: st) I Q := by
  have hb : (0 : Nat) < 2 ^ 31 := by decide
  exact q_if_le hd ht (fun q => kt ((nI_leI ha hb).mp q)) (fun q => kf (Nat.not_le.mp (fun z => q ((nI_leI ha hb).mpr z))))
theorem q_tabIn {dflt lo hi : Int} {offs : Array Int} {len : Nat} {x : Int32} {off : Int} {tgt : Nat} (hd : decode k.2.1 pc = .ok (.tableswitch dflt lo hi offs, len)) (h1 : ¬ x.toInt < lo) (h2 : ¬ hi < x.toInt) (ho : offs[(x.toInt - lo).toNat]? = some off) (ht : (pc : Int) + off = (tgt : Int)) (kk : q_X k tgt ls st I Q) : q_X k pc ls (.int x :: st) I Q := by
  intro ω p l e R s m args below meth c cells slots QZ hC hR H locs LS hL hP hS
  exact lv_tableIn hC.1 hC.2.1 hd h1 h2 ho ht (kk ω p l e R s m args below meth c cells slots QZ hC hR H locs LS hL hP hS)
theorem q_tabOut {dflt lo hi : Int} {offs : Array Int} {len : Nat} {x : Int32} {tgt : Nat} (hd : decode k.2.1 pc = .ok (.tableswitch dflt lo hi offs, len)) (h : x.toInt < lo ∨ hi < x.toInt) (ht : (pc : Int) + dflt = (tgt : Int)) (kk : q_X k tgt ls st I Q) : q_X k pc ls (.int x :: st) I Q := by
  intro ω p l e R s m args below meth c cells slots QZ hC hR H locs LS hL hP hS
  exact lv_tableOut hC.1 hC.2.1 hd h ht (kk ω p l e R s m args below meth c cells slots QZ hC hR H locs LS hL hP hS)
theorem q_lookup {dflt : Int} {ps : Array (Int × Int)} {len : Nat} {x : Int32} {off : Int} {tgt : Nat} (hd : decode k.2.1 pc = .ok (.lookupswitch dflt ps, len)) (hp : (ps.toList.zip (ps.toList.drop 1)).all (fun (a, next) => a.1 < next.1) = true) (ho : Op.lookupswitch.offset ps.toList dflt x.toInt = off) (ht : (pc : Int) + off = (tgt : Int)) (kk : q_X k tgt ls st I Q) : q_X k pc ls (.int x :: st) I Q := by
  intro ω p l e R s m args below meth c cells slots QZ hC hR H locs LS hL hP hS
  exact lv_lookup hC.1 hC.2.1 hd hp ho ht (kk ω p l e R s m args below meth c cells slots QZ hC hR H locs LS hL hP hS)
theorem q_iret {x : Int32} {ty : FieldType} (hr : k.2.2.2.1 = some ty) (hn : narrow ty (.int x) = .int x) (hd : decode k.2.1 pc = .ok (.ireturn, 1)) (hQ : Q (some (.int x)) I) : q_X k pc ls [.int x] I Q := by
  intro ω p l e R s m args below meth c cells slots QZ hC hR H locs LS hL hP hS
  exact hR pc LS H locs (some (.int x)) I (Or.inr (Or.inl ⟨x, ty, rfl, hr, hn, hd⟩)) hQ hP hS
theorem q_vret (hr : k.2.2.2.1 = none) (hd : decode k.2.1 pc = .ok (.return_, 1)) (hQ : Q none I) : q_X k pc ls [] I Q := by
  intro ω p l e R s m args below meth c cells slots QZ hC hR H locs LS hL hP hS
  exact hR pc LS H locs none I (Or.inl ⟨rfl, hr, hd⟩) hQ hP hS
theorem q_aret {a : Nat} {n : String} (hr : k.2.2.2.1 = some (.object n)) (hd : decode k.2.1 pc = .ok (.areturn, 1)) (hQ : Q (some (.ref a)) I) : q_X k pc ls [.ref a] I Q := by
  intro ω p l e R s m args below meth c cells slots QZ hC hR H locs LS hL hP hS
  exact hR pc LS H locs (some (.ref a)) I (Or.inr (Or.inr ⟨n, hr, Or.inr ⟨a, rfl⟩, hd⟩)) hQ hP hS
theorem q_aretN {n : String} (hr : k.2.2.2.1 = some (.object n)) (hd : decode k.2.1 pc = .ok (.areturn, 1)) (hQ : Q (some .null) I) : q_X k pc ls [.null] I Q := by
  intro ω p l e R s m args below meth c cells slots QZ hC hR H locs LS hL hP hS
  exact hR pc LS H locs (some .null) I (Or.inr (Or.inr ⟨n, hr, Or.inl rfl, hd⟩)) hQ hP hS
theorem q_X.mono {Q' : Option Value → q_Mem → Prop} (h : q_X k pc ls st I Q) (hq : ∀ v J, Q v J → Q' v J) : q_X k pc ls st I Q' := by
  intro ω p l e R s m args below meth c cells slots QZ hC hR H locs LS hL hP hS
  exact h ω p l e R s m args below meth c cells slots QZ hC (fun pc' LS' H' locs' v J h1 h2 => hR pc' LS' H' locs' v J h1 (hq v J h2)) H locs LS hL hP hS
end q_rules2
