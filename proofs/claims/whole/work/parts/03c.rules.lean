section XR
variable {G : GG} {d : Nat} {z : ZZ} {pc : Nat} {lv : List (Nat × AV)} {st : List AV} {M : Mm} {rc rs : Nat} {Q : Option AV → Mm → Prop}
theorem X_iadd {x y : Int32} (hd : decode z.2.1 pc = .ok (.iadd, 1)) (h : X G d z (pc + 1) lv (vi (x + y) :: st) M rc rs Q) : X G d z pc lv (vi y :: vi x :: st) M rc rs Q :=
  fun p e s m args below meth c H locs ls cells slots hC hH hl => lv_iadd hC.1 hC.2.1 hd (h p e s m args below meth c H locs ls cells slots hC hH hl)
theorem X_isub {x y : Int32} (hd : decode z.2.1 pc = .ok (.isub, 1)) (h : X G d z (pc + 1) lv (vi (x - y) :: st) M rc rs Q) : X G d z pc lv (vi y :: vi x :: st) M rc rs Q :=
  fun p e s m args below meth c H locs ls cells slots hC hH hl => lv_isub hC.1 hC.2.1 hd (h p e s m args below meth c H locs ls cells slots hC hH hl)
theorem X_imul {x y : Int32} (hd : decode z.2.1 pc = .ok (.imul, 1)) (h : X G d z (pc + 1) lv (vi (x * y) :: st) M rc rs Q) : X G d z pc lv (vi y :: vi x :: st) M rc rs Q :=
  fun p e s m args below meth c H locs ls cells slots hC hH hl => lv_imul hC.1 hC.2.1 hd (h p e s m args below meth c H locs ls cells slots hC hH hl)
theorem X_iand {x y : Int32} (hd : decode z.2.1 pc = .ok (.iand, 1)) (h : X G d z (pc + 1) lv (vi (x &&& y) :: st) M rc rs Q) : X G d z pc lv (vi y :: vi x :: st) M rc rs Q :=
  fun p e s m args below meth c H locs ls cells slots hC hH hl => lv_iand hC.1 hC.2.1 hd (h p e s m args below meth c H locs ls cells slots hC hH hl)
theorem X_ior {x y : Int32} (hd : decode z.2.1 pc = .ok (.ior, 1)) (h : X G d z (pc + 1) lv (vi (x ||| y) :: st) M rc rs Q) : X G d z pc lv (vi y :: vi x :: st) M rc rs Q :=
  fun p e s m args below meth c H locs ls cells slots hC hH hl => lv_ior hC.1 hC.2.1 hd (h p e s m args below meth c H locs ls cells slots hC hH hl)
theorem X_ixor {x y : Int32} (hd : decode z.2.1 pc = .ok (.ixor, 1)) (h : X G d z (pc + 1) lv (vi (x ^^^ y) :: st) M rc rs Q) : X G d z pc lv (vi y :: vi x :: st) M rc rs Q :=
  fun p e s m args below meth c H locs ls cells slots hC hH hl => lv_ixor hC.1 hC.2.1 hd (h p e s m args below meth c H locs ls cells slots hC hH hl)
theorem X_ishl {x y : Int32} (hd : decode z.2.1 pc = .ok (.ishl, 1)) (h : X G d z (pc + 1) lv (vi (x <<< (y &&& 31)) :: st) M rc rs Q) : X G d z pc lv (vi y :: vi x :: st) M rc rs Q :=
  fun p e s m args below meth c H locs ls cells slots hC hH hl => lv_ishl hC.1 hC.2.1 hd (h p e s m args below meth c H locs ls cells slots hC hH hl)
theorem X_ishr {x y : Int32} (hd : decode z.2.1 pc = .ok (.ishr, 1)) (h : X G d z (pc + 1) lv (vi (x >>> (y &&& 31)) :: st) M rc rs Q) : X G d z pc lv (vi y :: vi x :: st) M rc rs Q :=
  fun p e s m args below meth c H locs ls cells slots hC hH hl => lv_ishr hC.1 hC.2.1 hd (h p e s m args below meth c H locs ls cells slots hC hH hl)
theorem X_idiv {x y : Int32} (hd : decode z.2.1 pc = .ok (.idiv, 1)) (hne : ¬ y = 0) (h : X G d z (pc + 1) lv (vi (x / y) :: st) M rc rs Q) : X G d z pc lv (vi y :: vi x :: st) M rc rs Q :=
  fun p e s m args below meth c H locs ls cells slots hC hH hl => lv_idiv hC.1 hC.2.1 hd hne (h p e s m args below meth c H locs ls cells slots hC hH hl)
theorem X_irem {x y : Int32} (hd : decode z.2.1 pc = .ok (.irem, 1)) (hne : ¬ y = 0) (h : X G d z (pc + 1) lv (vi (x - x / y * y) :: st) M rc rs Q) : X G d z pc lv (vi y :: vi x :: st) M rc rs Q :=
  fun p e s m args below meth c H locs ls cells slots hC hH hl => lv_irem hC.1 hC.2.1 hd hne (h p e s m args below meth c H locs ls cells slots hC hH hl)
theorem X_iushr {x y v : Int32} (hd : decode z.2.1 pc = .ok (.iushr, 1)) (hv : (x.toUInt32 >>> (y.toUInt32 &&& Int32.toUInt32 31)).toInt32 = v) (h : X G d z (pc + 1) lv (vi v :: st) M rc rs Q) : X G d z pc lv (vi y :: vi x :: st) M rc rs Q :=
  fun p e s m args below meth c H locs ls cells slots hC hH hl => lv_iushr hC.1 hC.2.1 hd hv (h p e s m args below meth c H locs ls cells slots hC hH hl)
theorem X_land {x y : Int64} (hd : decode z.2.1 pc = .ok (.land, 1)) (h : X G d z (pc + 1) lv (vl (x &&& y) :: st) M rc rs Q) : X G d z pc lv (vl y :: vl x :: st) M rc rs Q :=
  fun p e s m args below meth c H locs ls cells slots hC hH hl => lv_land hC.1 hC.2.1 hd (h p e s m args below meth c H locs ls cells slots hC hH hl)
theorem X_lor {x y : Int64} (hd : decode z.2.1 pc = .ok (.lor, 1)) (h : X G d z (pc + 1) lv (vl (x ||| y) :: st) M rc rs Q) : X G d z pc lv (vl y :: vl x :: st) M rc rs Q :=
  fun p e s m args below meth c H locs ls cells slots hC hH hl => lv_lor hC.1 hC.2.1 hd (h p e s m args below meth c H locs ls cells slots hC hH hl)
theorem X_lxor {x y : Int64} (hd : decode z.2.1 pc = .ok (.lxor, 1)) (h : X G d z (pc + 1) lv (vl (x ^^^ y) :: st) M rc rs Q) : X G d z pc lv (vl y :: vl x :: st) M rc rs Q :=
  fun p e s m args below meth c H locs ls cells slots hC hH hl => lv_lxor hC.1 hC.2.1 hd (h p e s m args below meth c H locs ls cells slots hC hH hl)
theorem X_lneg {x : Int64} (hd : decode z.2.1 pc = .ok (.lneg, 1)) (h : X G d z (pc + 1) lv (vl (-x) :: st) M rc rs Q) : X G d z pc lv (vl x :: st) M rc rs Q :=
  fun p e s m args below meth c H locs ls cells slots hC hH hl => lv_lneg hC.1 hC.2.1 hd (h p e s m args below meth c H locs ls cells slots hC hH hl)
theorem X_lushr {x v : Int64} {y : Int32} (hd : decode z.2.1 pc = .ok (.lushr, 1)) (hv : (x.toUInt64 >>> (y.toInt64.toUInt64 &&& Int64.toUInt64 63)).toInt64 = v) (h : X G d z (pc + 1) lv (vl v :: st) M rc rs Q) : X G d z pc lv (vi y :: vl x :: st) M rc rs Q :=
  fun p e s m args below meth c H locs ls cells slots hC hH hl => lv_lushr hC.1 hC.2.1 hd hv (h p e s m args below meth c H locs ls cells slots hC hH hl)
theorem X_i2l {x : Int32} {v : Int64} (hd : decode z.2.1 pc = .ok (.i2l, 1)) (hv : x.toInt64 = v) (h : X G d z (pc + 1) lv (vl v :: st) M rc rs Q) : X G d z pc lv (vi x :: st) M rc rs Q :=
  fun p e s m args below meth c H locs ls cells slots hC hH hl => lv_i2l hC.1 hC.2.1 hd hv (h p e s m args below meth c H locs ls cells slots hC hH hl)
theorem X_lcmp {x y : Int64} (hd : decode z.2.1 pc = .ok (.lcmp, 1)) (h : X G d z (pc + 1) lv (vi (lg_cmp x y) :: st) M rc rs Q) : X G d z pc lv (vl y :: vl x :: st) M rc rs Q :=
  fun p e s m args below meth c H locs ls cells slots hC hH hl => W.lcmp hC.1 hC.2.1 hd (h p e s m args below meth c H locs ls cells slots hC hH hl)
theorem X_dup {v : AV} (hd : decode z.2.1 pc = .ok (.dup, 1)) (hv : isL v = false) (h : X G d z (pc + 1) lv (v :: v :: st) M rc rs Q) : X G d z pc lv (v :: st) M rc rs Q :=
  fun p e s m args below meth c H locs ls cells slots hC hH hl => lv_dup hC.1 hC.2.1 hd (by rw [cat_isL, hv]; rfl) (h p e s m args below meth c H locs ls cells slots hC hH hl)
theorem X_pop {v : AV} (hd : decode z.2.1 pc = .ok (.pop, 1)) (hv : isL v = false) (h : X G d z (pc + 1) lv st M rc rs Q) : X G d z pc lv (v :: st) M rc rs Q :=
  fun p e s m args below meth c H locs ls cells slots hC hH hl => lv_pop hC.1 hC.2.1 hd (by rw [cat_isL, hv]; rfl) (h p e s m args below meth c H locs ls cells slots hC hH hl)
theorem X_dup_x1 {v w : AV} (hd : decode z.2.1 pc = .ok (.dup_x1, 1)) (hv : isL v = false) (hw : isL w = false) (h : X G d z (pc + 1) lv (v :: w :: v :: st) M rc rs Q) : X G d z pc lv (v :: w :: st) M rc rs Q :=
  fun p e s m args below meth c H locs ls cells slots hC hH hl => lv_dup_x1 hC.1 hC.2.1 hd (by rw [cat_isL, hv]; rfl) (by rw [cat_isL, hw]; rfl) (h p e s m args below meth c H locs ls cells slots hC hH hl)
theorem X_dup2 {v w : AV} (hd : decode z.2.1 pc = .ok (.dup2, 1)) (hv : isL v = false) (hw : isL w = false) (h : X G d z (pc + 1) lv (v :: w :: v :: w :: st) M rc rs Q) : X G d z pc lv (v :: w :: st) M rc rs Q :=
  fun p e s m args below meth c H locs ls cells slots hC hH hl => lv_dup2_11 hC.1 hC.2.1 hd (by rw [cat_isL, hv]; rfl) (by rw [cat_isL, hw]; rfl) (h p e s m args below meth c H locs ls cells slots hC hH hl)
theorem X_if_eq {x : Int32} {off : Int} {tgt : Nat} (hd : decode z.2.1 pc = .ok (.ifCond .eq off, 3)) (ht : (pc : Int) + off = (tgt : Int)) (kt : x = 0 → X G d z tgt lv st M rc rs Q) (kf : ¬ x = 0 → X G d z (pc + 3) lv st M rc rs Q) : X G d z pc lv (vi x :: st) M rc rs Q :=
  fun p e s m args below meth c H locs ls cells slots hC hH hl => lv_if_eq hC.1 hC.2.1 hd ht (fun hc => kt hc p e s m args below meth c H locs ls cells slots hC hH hl) (fun hc => kf hc p e s m args below meth c H locs ls cells slots hC hH hl)
theorem X_if_ne {x : Int32} {off : Int} {tgt : Nat} (hd : decode z.2.1 pc = .ok (.ifCond .ne off, 3)) (ht : (pc : Int) + off = (tgt : Int)) (kt : ¬ x = 0 → X G d z tgt lv st M rc rs Q) (kf : x = 0 → X G d z (pc + 3) lv st M rc rs Q) : X G d z pc lv (vi x :: st) M rc rs Q :=
  fun p e s m args below meth c H locs ls cells slots hC hH hl => lv_if_ne hC.1 hC.2.1 hd ht (fun hc => kt hc p e s m args below meth c H locs ls cells slots hC hH hl) (fun hc => kf hc p e s m args below meth c H locs ls cells slots hC hH hl)
theorem X_if_lt {x : Int32} {off : Int} {tgt : Nat} (hd : decode z.2.1 pc = .ok (.ifCond .lt off, 3)) (ht : (pc : Int) + off = (tgt : Int)) (kt : x < 0 → X G d z tgt lv st M rc rs Q) (kf : ¬ x < 0 → X G d z (pc + 3) lv st M rc rs Q) : X G d z pc lv (vi x :: st) M rc rs Q :=
  fun p e s m args below meth c H locs ls cells slots hC hH hl => lv_if_lt hC.1 hC.2.1 hd ht (fun hc => kt hc p e s m args below meth c H locs ls cells slots hC hH hl) (fun hc => kf hc p e s m args below meth c H locs ls cells slots hC hH hl)
theorem X_if_ge {x : Int32} {off : Int} {tgt : Nat} (hd : decode z.2.1 pc = .ok (.ifCond .ge off, 3)) (ht : (pc : Int) + off = (tgt : Int)) (kt : 0 ≤ x → X G d z tgt lv st M rc rs Q) (kf : ¬ 0 ≤ x → X G d z (pc + 3) lv st M rc rs Q) : X G d z pc lv (vi x :: st) M rc rs Q :=
  fun p e s m args below meth c H locs ls cells slots hC hH hl => lv_if_ge hC.1 hC.2.1 hd ht (fun hc => kt hc p e s m args below meth c H locs ls cells slots hC hH hl) (fun hc => kf hc p e s m args below meth c H locs ls cells slots hC hH hl)
theorem X_if_gt {x : Int32} {off : Int} {tgt : Nat} (hd : decode z.2.1 pc = .ok (.ifCond .gt off, 3)) (ht : (pc : Int) + off = (tgt : Int)) (kt : 0 < x → X G d z tgt lv st M rc rs Q) (kf : ¬ 0 < x → X G d z (pc + 3) lv st M rc rs Q) : X G d z pc lv (vi x :: st) M rc rs Q :=
  fun p e s m args below meth c H locs ls cells slots hC hH hl => lv_if_gt hC.1 hC.2.1 hd ht (fun hc => kt hc p e s m args below meth c H locs ls cells slots hC hH hl) (fun hc => kf hc p e s m args below meth c H locs ls cells slots hC hH hl)
theorem X_if_le {x : Int32} {off : Int} {tgt : Nat} (hd : decode z.2.1 pc = .ok (.ifCond .le off, 3)) (ht : (pc : Int) + off = (tgt : Int)) (kt : x ≤ 0 → X G d z tgt lv st M rc rs Q) (kf : ¬ x ≤ 0 → X G d z (pc + 3) lv st M rc rs Q) : X G d z pc lv (vi x :: st) M rc rs Q :=
  fun p e s m args below meth c H locs ls cells slots hC hH hl => lv_if_le hC.1 hC.2.1 hd ht (fun hc => kt hc p e s m args below meth c H locs ls cells slots hC hH hl) (fun hc => kf hc p e s m args below meth c H locs ls cells slots hC hH hl)
theorem X_icmp_eq {x y : Int32} {off : Int} {tgt : Nat} (hd : decode z.2.1 pc = .ok (.if_icmp .eq off, 3)) (ht : (pc : Int) + off = (tgt : Int)) (kt : x = y → X G d z tgt lv st M rc rs Q) (kf : ¬ x = y → X G d z (pc + 3) lv st M rc rs Q) : X G d z pc lv (vi y :: vi x :: st) M rc rs Q :=
  fun p e s m args below meth c H locs ls cells slots hC hH hl => lv_icmp_eq hC.1 hC.2.1 hd ht (fun hc => kt hc p e s m args below meth c H locs ls cells slots hC hH hl) (fun hc => kf hc p e s m args below meth c H locs ls cells slots hC hH hl)
theorem X_icmp_ne {x y : Int32} {off : Int} {tgt : Nat} (hd : decode z.2.1 pc = .ok (.if_icmp .ne off, 3)) (ht : (pc : Int) + off = (tgt : Int)) (kt : ¬ x = y → X G d z tgt lv st M rc rs Q) (kf : x = y → X G d z (pc + 3) lv st M rc rs Q) : X G d z pc lv (vi y :: vi x :: st) M rc rs Q :=
  fun p e s m args below meth c H locs ls cells slots hC hH hl => lv_icmp_ne hC.1 hC.2.1 hd ht (fun hc => kt hc p e s m args below meth c H locs ls cells slots hC hH hl) (fun hc => kf hc p e s m args below meth c H locs ls cells slots hC hH hl)
theorem X_icmp_lt {x y : Int32} {off : Int} {tgt : Nat} (hd : decode z.2.1 pc = .ok (.if_icmp .lt off, 3)) (ht : (pc : Int) + off = (tgt : Int)) (kt : x < y → X G d z tgt lv st M rc rs Q) (kf : ¬ x < y → X G d z (pc + 3) lv st M rc rs Q) : X G d z pc lv (vi y :: vi x :: st) M rc rs Q :=
  fun p e s m args below meth c H locs ls cells slots hC hH hl => lv_icmp_lt hC.1 hC.2.1 hd ht (fun hc => kt hc p e s m args below meth c H locs ls cells slots hC hH hl) (fun hc => kf hc p e s m args below meth c H locs ls cells slots hC hH hl)
theorem X_icmp_ge {x y : Int32} {off : Int} {tgt : Nat} (hd : decode z.2.1 pc = .ok (.if_icmp .ge off, 3)) (ht : (pc : Int) + off = (tgt : Int)) (kt : y ≤ x → X G d z tgt lv st M rc rs Q) (kf : ¬ y ≤ x → X G d z (pc + 3) lv st M rc rs Q) : X G d z pc lv (vi y :: vi x :: st) M rc rs Q :=
  fun p e s m args below meth c H locs ls cells slots hC hH hl => lv_icmp_ge hC.1 hC.2.1 hd ht (fun hc => kt hc p e s m args below meth c H locs ls cells slots hC hH hl) (fun hc => kf hc p e s m args below meth c H locs ls cells slots hC hH hl)
theorem X_icmp_gt {x y : Int32} {off : Int} {tgt : Nat} (hd : decode z.2.1 pc = .ok (.if_icmp .gt off, 3)) (ht : (pc : Int) + off = (tgt : Int)) (kt : y < x → X G d z tgt lv st M rc rs Q) (kf : ¬ y < x → X G d z (pc + 3) lv st M rc rs Q) : X G d z pc lv (vi y :: vi x :: st) M rc rs Q :=
  fun p e s m args below meth c H locs ls cells slots hC hH hl => lv_icmp_gt hC.1 hC.2.1 hd ht (fun hc => kt hc p e s m args below meth c H locs ls cells slots hC hH hl) (fun hc => kf hc p e s m args below meth c H locs ls cells slots hC hH hl)
theorem X_icmp_le {x y : Int32} {off : Int} {tgt : Nat} (hd : decode z.2.1 pc = .ok (.if_icmp .le off, 3)) (ht : (pc : Int) + off = (tgt : Int)) (kt : x ≤ y → X G d z tgt lv st M rc rs Q) (kf : ¬ x ≤ y → X G d z (pc + 3) lv st M rc rs Q) : X G d z pc lv (vi y :: vi x :: st) M rc rs Q :=
  fun p e s m args below meth c H locs ls cells slots hC hH hl => lv_icmp_le hC.1 hC.2.1 hd ht (fun hc => kt hc p e s m args below meth c H locs ls cells slots hC hH hl) (fun hc => kf hc p e s m args below meth c H locs ls cells slots hC hH hl)
theorem X_goto {off : Int} {tgt : Nat} (hd : decode z.2.1 pc = .ok (.goto off, 3)) (ht : (pc : Int) + off = (tgt : Int)) (h : X G d z tgt lv st M rc rs Q) : X G d z pc lv st M rc rs Q :=
  fun p e s m args below meth c H locs ls cells slots hC hH hl => lv_goto hC.1 hC.2.1 hd ht (h p e s m args below meth c H locs ls cells slots hC hH hl)
theorem X_tableIn {dflt lo hi : Int} {offs : Array Int} {len : Nat} {x : Int32} {off : Int} {tgt : Nat} (hd : decode z.2.1 pc = .ok (.tableswitch dflt lo hi offs, len)) (h1 : ¬ x.toInt < lo) (h2 : ¬ hi < x.toInt) (ho : offs[(x.toInt - lo).toNat]? = some off) (ht : (pc : Int) + off = (tgt : Int)) (h : X G d z tgt lv st M rc rs Q) : X G d z pc lv (vi x :: st) M rc rs Q :=
  fun p e s m args below meth c H locs ls cells slots hC hH hl => lv_tableIn hC.1 hC.2.1 hd h1 h2 ho ht (h p e s m args below meth c H locs ls cells slots hC hH hl)
theorem X_tableOut {dflt lo hi : Int} {offs : Array Int} {len : Nat} {x : Int32} {tgt : Nat} (hd : decode z.2.1 pc = .ok (.tableswitch dflt lo hi offs, len)) (h1 : x.toInt < lo ∨ hi < x.toInt) (ht : (pc : Int) + dflt = (tgt : Int)) (h : X G d z tgt lv st M rc rs Q) : X G d z pc lv (vi x :: st) M rc rs Q :=
  fun p e s m args below meth c H locs ls cells slots hC hH hl => lv_tableOut hC.1 hC.2.1 hd h1 ht (h p e s m args below meth c H locs ls cells slots hC hH hl)
theorem X_lookup {dflt : Int} {ps : Array (Int × Int)} {len : Nat} {x : Int32} {off : Int} {tgt : Nat} (hd : decode z.2.1 pc = .ok (.lookupswitch dflt ps, len)) (hp : (ps.toList.zip (ps.toList.drop 1)).all (fun (a, next) => a.1 < next.1) = true) (ho : Op.lookupswitch.offset ps.toList dflt x.toInt = off) (ht : (pc : Int) + off = (tgt : Int)) (h : X G d z tgt lv st M rc rs Q) : X G d z pc lv (vi x :: st) M rc rs Q :=
  fun p e s m args below meth c H locs ls cells slots hC hH hl => lv_lookup hC.1 hC.2.1 hd hp ho ht (h p e s m args below meth c H locs ls cells slots hC hH hl)
theorem X_zret {x : Int32} {ty : FieldType} (hd : decode z.2.1 pc = .ok (.ireturn, 1)) (hr : z.2.2.2.1 = some ty) (hn : narrow ty (.int x) = .int x) (hq : Q (some (vi x)) M) : X G d z pc lv [vi x] M 0 rs Q := by
  intro p e s m args below meth c H locs ls cells slots hC hH hl
  refine W_size hH hC.2.2.2.2.2.2.2.2.2.2.2.2 (fun hz => ?_)
  refine W.widen (k := cells + 0) (n := slots + rs) (Nat.le_refl _) (Nat.le_add_right _ _) ?_
  refine W.zret hC.1 hC.2.1 (hC.2.2.1.trans hr) hn (fun t ht hW => ⟨⟨some (vi x), M, rfl, hq, rfl, ?_, ?_, ?_, hH.2.2.1⟩, hH.2.2.2.F ht⟩) hH.2.2.2.2.2 hd hC.2.2.2.1
  · exact KU_moved hW (by rw [ht]; exact hH.2.2.2.1) (fun q h1 h2 => by rw [ht]; exact hH.2.2.2.2.1 q h1 h2) hC.2.2.2.2.2.2.2.2
  · rw [ht]; exact hH.1
  · rw [ht]; exact hz
theorem X_iret {x : Int32} (hd : decode z.2.1 pc = .ok (.ireturn, 1)) (hr : z.2.2.2.1 = some .int) (hq : Q (some (vi x)) M) : X G d z pc lv [vi x] M 0 rs Q := X_zret hd hr rfl hq
theorem X_lret {x : Int64} (hd : decode z.2.1 pc = .ok (.lreturn, 1)) (hr : z.2.2.2.1 = some .long) (hq : Q (some (vl x)) M) : X G d z pc lv [vl x] M 0 rs Q := by
  intro p e s m args below meth c H locs ls cells slots hC hH hl
  refine W_size hH hC.2.2.2.2.2.2.2.2.2.2.2.2 (fun hz => ?_)
  refine W.widen (k := cells + 0) (n := slots + rs) (Nat.le_refl _) (Nat.le_add_right _ _) ?_
  refine W.lret hC.1 hC.2.1 (hC.2.2.1.trans hr) (fun t ht hW => ⟨⟨some (vl x), M, rfl, hq, rfl, ?_, ?_, ?_, hH.2.2.1⟩, hH.2.2.2.F ht⟩) hH.2.2.2.2.2 hd hC.2.2.2.1
  · exact KU_moved hW (by rw [ht]; exact hH.2.2.2.1) (fun q h1 h2 => by rw [ht]; exact hH.2.2.2.2.1 q h1 h2) hC.2.2.2.2.2.2.2.2
  · rw [ht]; exact hH.1
  · rw [ht]; exact hz
theorem X_vret (hd : decode z.2.1 pc = .ok (.return_, 1)) (hr : z.2.2.2.1 = none) (hq : Q none M) : X G d z pc lv [] M 0 rs Q := by
  intro p e s m args below meth c H locs ls cells slots hC hH hl
  refine W_size hH hC.2.2.2.2.2.2.2.2.2.2.2.2 (fun hz => ?_)
  refine W.widen (k := cells + 0) (n := slots + rs) (Nat.le_refl _) (Nat.le_add_right _ _) ?_
  refine W.vret hC.1 hC.2.1 (hC.2.2.1.trans hr) (fun t ht hW => ⟨⟨none, M, rfl, hq, rfl, ?_, ?_, ?_, hH.2.2.1⟩, hH.2.2.2.F ht⟩) hH.2.2.2.2.2 hd hC.2.2.2.1
  · exact KU_moved hW (by rw [ht]; exact hH.2.2.2.1) (fun q h1 h2 => by rw [ht]; exact hH.2.2.2.2.1 q h1 h2) hC.2.2.2.2.2.2.2.2
  · rw [ht]; exact hH.1
  · rw [ht]; exact hz
/-! entry -/
def lvA (n : Nat) (av : List AV) : List (Nat × AV) := match av with
  | [] => []
  | v :: r => (n, v) :: lvA (if isL v then n + 2 else n + 1) r
theorem lvA_map (av : List AV) : ∀ n, (lvA n av).map (fun q => (q.1, cv G q.2)) = lv_args n (av.map (cv G)) := by
  induction av with
  | nil => intro n; rfl
  | cons v r ih =>
    intro n
    simp only [lvA, List.map_cons, lv_args, cat_isL]
    rw [ih]
    cases isL v <;> rfl
def avW (av : List AV) : Nat := (av.map (fun v => if isL v then 2 else 1)).sum
theorem avW_len (av : List AV) : (lg_sl (av.map (cv G))).length = avW av := by
  induction av with
  | nil => rfl
  | cons v r ih =>
    simp only [lg_sl, List.map_cons, List.flatMap_cons, List.length_append, cat_isL, avW, List.sum_cons] at ih ⊢
    rw [ih]
    cases isL v <;> simp
theorem Y_of {av : List AV} {mc ms : Nat} (hy : plainName z.1.cls = true) (ho : z.2.2.2.2 = z.1.cls) (hw : avW av ≤ z.2.2.1) {lv : List (Nat × AV)} (hlv : lvA 0 av = lv) (h : X G d z 0 lv [] M mc ms Q) : Y G d z av M mc ms Q := by
  unfold Y
  refine Met.ofW (cc := z.2.1) (maxL := z.2.2.1) (ret := z.2.2.2.1) hy rfl ?_
  intro p e s m args below meth c s₁ B hml hv
  obtain ⟨rfl, hKU, hP, hsz, hn⟩ := hv
  have hl : LX G z lv ((lg_sl (av.map (cv G)) ++ List.replicate (z.2.2.1 - (lg_sl (av.map (cv G))).length) Slot.unset).toArray) := by
    have := lv_entry (av.map (cv G)) (n := z.2.2.1) (by rw [avW_len]; exact hw)
    unfold LX
    rw [← hlv, lvA_map]
    exact this
  rw [lg_entry_eq]
  have hC : CX G z p s m (av.map (cv G)).toArray meth c := ⟨B.exec, B.bytes, B.returns, B.notSynchronized, hml, by rw [ho]; exact findClass_of_methodNamed B.named, atoms_spec (ws := wz z) B.pre, (name_of_methodNamed B.named B.method).1, hKU⟩
  have := h p e s m (av.map (cv G)).toArray below meth c s.heap [] _ 0 0 hC ⟨hP, by omega, hn, va_S.rf⟩ hl
  simp only [Nat.zero_add] at this
  exact this
theorem Y_mono {av : List AV} {mc ms : Nat} {Q' : Option AV → Mm → Prop} (hq : ∀ r M', Q' r M' → Q r M') (h : X G d z pc lv st M mc ms Q') : X G d z pc lv st M mc ms Q := by
  intro p e s m args below meth c H locs ls cells slots hC hH hl
  intro T hT Xx
  obtain ⟨t, h1, o, h2, h3, ⟨⟨r, M', a1, a2, a3⟩, h5⟩, h6⟩ := h p e s m args below meth c H locs ls cells slots hC hH hl T hT Xx
  exact ⟨t, h1, o, h2, h3, ⟨⟨r, M', a1, hq _ _ a2, a3⟩, h5⟩, h6⟩
end XR
