/-! the constructors -/
def jbS (f : Nat → Int64) (i : Nat) : Nat → Int64 := up (up (up (up f i (highF i)) (3 + i) (lowF i)) (6 + i) 0) (9 + i) 0
def jbF : Nat → Int64 := jbS (jbS (jbS (fun _ => 0) 0) 1) 2
def T0i (j : Nat) : Nat → Int32 := if j = 13 ∨ j = 45 ∨ j = 76 then filF (fun _ => 0) 5 (nI 1) else if j = 7 ∨ j = 39 ∨ j = 70 then up (fun _ => 0) 5 (nI 15) else if j = 170 then up (up (fun _ => 0) 12 (nI 15)) 13 (nI 1) else if j = 177 then up (up (up (up (fun _ => 0) 0 (nI 1)) 1 (nI 1)) 2 (nI 1)) 3 (nI 1) else fun _ => 0
def T0 (j : Nat) : Cz := (T0i j, if j = 154 then jbF else fun _ => 0, lfz (layL.getD j []))
section MI
variable {G : GG} {d : Nat} {I : Nat → Nat → Int32} {J : Nat → Nat → Int64} {R : Nat → Nat → Option Nat}
set_option maxRecDepth 20000 in
theorem c_X1i {Q : Mm → Prop} {T : Nat → Cz} {k : Nat} (hd : 1 ≤ d) (hk : k < 900) (s0 : sh k = (1, 2)) (s1 : sh (k + 1) = (13, 48)) (t0 : T k = oc [some (k + 1)]) (t1 : T (k + 1) = oc []) (h0 : eqc I J R k (oc [])) (hQ : ∀ I' J' R', Good k (k + 2) T I J R I' J' R' → Q (k + 2, I', J', R')) : Y G d zX1_init [vr k] (k + 1, I, J, R) 1 48 (qv Q) := by
  refine Y_of rfl rfl (Nat.le_of_ble_eq_true rfl) rfl ?_
  refine X_aload_n dX1_init_0 rfl ?_
  refine X_objInit dX1_init_1 oi_X1_3 oi_2 oi_3 (by omega) (Nat.le_of_ble_eq_true rfl) ?_
  refine X_abs (m := (k + 1)) (P := St k (k + 1) T (fun _ => 0) [] I J R) rfl (St_0 h0) (fun I1 J1 R1 h1 => ?_)
  refine X_aload_n dX1_init_4 rfl ?_
  refine X_bipush (v := nI 48) dX1_init_5 (by decide) ?_
  refine X_newI (N := 48) dX1_init_7 aw_int (by first | assumption | rfl) rfl (by decide) (by first | decide | omega) ?_
  refine X_putR dX1_init_9 gf_X1_9 (Or.inr ⟨rfl, rfl⟩) (by first | assumption | rfl) (by first | assumption | exact Nat.le_of_ble_eq_true rfl | omega) rfl rfl ?_
  refine X_abs (m := (k + 2)) (P := St k (k + 2) T (fun _ => 0) [some (k + 1)] I J R) rfl (St_arr h1 t1) (fun I1 J1 R1 h1 => ?_)
  exact X_vret dX1_init_12 rfl ⟨rfl, hQ _ _ _ (St_end h1 (fun _ _ _ => rfl) t0)⟩
set_option maxRecDepth 20000 in
theorem c_X8i {Q : Mm → Prop} {T : Nat → Cz} {k : Nat} (hd : 1 ≤ d) (hk : k < 900) (s0 : sh k = (8, 4)) (s1 : sh (k + 1) = (14, 12)) (t0 : T k = oc [some (k + 1)]) (t1 : T (k + 1) = oc []) (h0 : eqc I J R k (oc [])) (hQ : ∀ I' J' R', Good k (k + 2) T I J R I' J' R' → Q (k + 2, I', J', R')) : Y G d zX8_init [vr k] (k + 1, I, J, R) 1 12 (qv Q) := by
  refine Y_of rfl rfl (Nat.le_of_ble_eq_true rfl) rfl ?_
  refine X_aload_n dX8_init_0 rfl ?_
  refine X_objInit dX8_init_1 oi_X8_3 oi_2 oi_3 (by omega) (Nat.le_of_ble_eq_true rfl) ?_
  refine X_abs (m := (k + 1)) (P := St k (k + 1) T (fun _ => 0) [] I J R) rfl (St_0 h0) (fun I1 J1 R1 h1 => ?_)
  refine X_aload_n dX8_init_4 rfl ?_
  refine X_bipush (v := nI 12) dX8_init_5 (by decide) ?_
  refine X_newJ (N := 12) dX8_init_7 aw_long (by first | assumption | rfl) rfl (by decide) (by first | decide | omega) ?_
  refine X_putR dX8_init_9 gf_X8_11 (Or.inr ⟨rfl, rfl⟩) (by first | assumption | rfl) (by first | assumption | exact Nat.le_of_ble_eq_true rfl | omega) rfl rfl ?_
  refine X_abs (m := (k + 2)) (P := St k (k + 2) T (fun _ => 0) [some (k + 1)] I J R) rfl (St_arr h1 t1) (fun I1 J1 R1 h1 => ?_)
  exact X_vret dX8_init_12 rfl ⟨rfl, hQ _ _ _ (St_end h1 (fun _ _ _ => rfl) t0)⟩
set_option maxRecDepth 20000 in
theorem c_X9i {Q : Mm → Prop} {T : Nat → Cz} {k : Nat} (hd : 2 ≤ d) (hk : k < 800) (s0 : sh k = (9, 4)) (s1 : sh (k + 1) = (1, 2)) (s2 : sh (k + 2) = (13, 48)) (s3 : sh (k + 3) = (1, 2)) (s4 : sh (k + 4) = (13, 48)) (s5 : sh (k + 5) = (13, 4)) (t0 : T k = oc [some (k + 1), some (k + 3), some (k + 5)]) (t1 : T (k + 1) = oc [some (k + 2)]) (t2 : T (k + 2) = oc []) (t3 : T (k + 3) = oc [some (k + 4)]) (t4 : T (k + 4) = oc []) (t5 : T (k + 5) = oc []) (h0 : eqc I J R k (oc [])) (hQ : ∀ I' J' R', Good k (k + 6) T I J R I' J' R' → Q (k + 6, I', J', R')) : Y G d zX9_init [vr k] (k + 1, I, J, R) 5 104 (qv Q) := by
  refine Y_of rfl rfl (Nat.le_of_ble_eq_true rfl) rfl ?_
  refine X_aload_n dX9_init_0 rfl ?_
  refine X_objInit dX9_init_1 oi_X9_3 oi_2 oi_3 (by omega) (Nat.le_of_ble_eq_true rfl) ?_
  refine X_abs (m := (k + 1)) (P := St k (k + 1) T (fun _ => 0) [] I J R) rfl (St_0 h0) (fun I1 J1 R1 h1 => ?_)
  refine X_aload_n dX9_init_4 rfl ?_
  refine X_new (N := 2) dX9_init_5 gn_X9_9 (by first | assumption | rfl) rfl (by first | decide | omega) ?_
  refine X_dup dX9_init_8 rfl ?_
  refine X_cI (mc := 1) (ms := 48) dX9_init_9 ck_X9_11 rfl rfl (by omega) (Nat.le_of_ble_eq_true rfl) (c_X1i (T := T) (k := (k + 1)) (by omega) (by first | decide | omega) s1 s2 t1 t2 eqc_new (fun I2 J2 R2 g => ?_))
  refine X_putR dX9_init_12 gf_X9_12 (Or.inr ⟨rfl, rfl⟩) (by first | assumption | rfl) (by first | assumption | exact Nat.le_of_ble_eq_true rfl | omega) rfl rfl ?_
  refine X_abs (m := (k + 3)) (P := St k (k + 3) T (fun _ => 0) [some (k + 1)] I J R) rfl (St_obj h1 g (by first | decide | omega)) (fun I1 J1 R1 h1 => ?_)
  refine X_aload_n dX9_init_15 rfl ?_
  refine X_new (N := 2) dX9_init_16 gn_X9_9 (by first | assumption | rfl) rfl (by first | decide | omega) ?_
  refine X_dup dX9_init_19 rfl ?_
  refine X_cI (mc := 1) (ms := 48) dX9_init_20 ck_X9_11 rfl rfl (by omega) (Nat.le_of_ble_eq_true rfl) (c_X1i (T := T) (k := (k + 3)) (by omega) (by first | decide | omega) s3 s4 t3 t4 eqc_new (fun I2 J2 R2 g => ?_))
  refine X_putR dX9_init_23 gf_X9_18 (Or.inr ⟨rfl, rfl⟩) (by first | assumption | rfl) (by first | assumption | exact Nat.le_of_ble_eq_true rfl | omega) rfl rfl ?_
  refine X_abs (m := (k + 5)) (P := St k (k + 5) T (fun _ => 0) [some (k + 1), some (k + 3)] I J R) rfl (St_obj h1 g (by first | decide | omega)) (fun I1 J1 R1 h1 => ?_)
  refine X_aload_n dX9_init_26 rfl ?_
  refine X_iconst (v := nI 4) dX9_init_27 (by decide) ?_
  refine X_newI (N := 4) dX9_init_28 aw_int (by first | assumption | rfl) rfl (by decide) (by first | decide | omega) ?_
  refine X_putR dX9_init_30 gf_X9_21 (Or.inr ⟨rfl, rfl⟩) (by first | assumption | rfl) (by first | assumption | exact Nat.le_of_ble_eq_true rfl | omega) rfl rfl ?_
  refine X_abs (m := (k + 6)) (P := St k (k + 6) T (fun _ => 0) [some (k + 1), some (k + 3), some (k + 5)] I J R) rfl (St_arr h1 t5) (fun I1 J1 R1 h1 => ?_)
  exact X_vret dX9_init_33 rfl ⟨rfl, hQ _ _ _ (St_end h1 (fun _ _ _ => rfl) t0)⟩
set_option maxRecDepth 20000 in
theorem c_X3i {Q : Mm → Prop} {T : Nat → Cz} {k : Nat} (hd : 1 ≤ d) (hk : k < 900) (s0 : sh k = (3, 9)) (s1 : sh (k + 1) = (13, 13)) (s2 : sh (k + 2) = (13, 52)) (s3 : sh (k + 3) = (13, 52)) (s4 : sh (k + 4) = (13, 12)) (s5 : sh (k + 5) = (13, 8)) (s6 : sh (k + 6) = (13, 40)) (s7 : sh (k + 7) = (13, 40)) (s8 : sh (k + 8) = (13, 40)) (t0 : T k = oc [some (k + 1), some (k + 2), some (k + 3), some (k + 4), some (k + 5), some (k + 6), some (k + 7), some (k + 8)]) (t1 : T (k + 1) = oc []) (t2 : T (k + 2) = oc []) (t3 : T (k + 3) = oc []) (t4 : T (k + 4) = oc []) (t5 : T (k + 5) = oc []) (t6 : T (k + 6) = oc []) (t7 : T (k + 7) = oc []) (t8 : T (k + 8) = oc []) (h0 : eqc I J R k (oc [])) (hQ : ∀ I' J' R', Good k (k + 9) T I J R I' J' R' → Q (k + 9, I', J', R')) : Y G d zX3_init [vr k] (k + 1, I, J, R) 8 257 (qv Q) := by
  refine Y_of rfl rfl (Nat.le_of_ble_eq_true rfl) rfl ?_
  refine X_aload_n dX3_init_0 rfl ?_
  refine X_objInit dX3_init_1 oi_X3_3 oi_2 oi_3 (by omega) (Nat.le_of_ble_eq_true rfl) ?_
  refine X_abs (m := (k + 1)) (P := St k (k + 1) T (fun _ => 0) [] I J R) rfl (St_0 h0) (fun I1 J1 R1 h1 => ?_)
  refine X_aload_n dX3_init_4 rfl ?_
  refine X_bipush (v := nI 13) dX3_init_5 (by decide) ?_
  refine X_newI (N := 13) dX3_init_7 aw_int (by first | assumption | rfl) rfl (by decide) (by first | decide | omega) ?_
  refine X_putR dX3_init_9 gf_X3_9 (Or.inr ⟨rfl, rfl⟩) (by first | assumption | rfl) (by first | assumption | exact Nat.le_of_ble_eq_true rfl | omega) rfl rfl ?_
  refine X_abs (m := (k + 2)) (P := St k (k + 2) T (fun _ => 0) [some (k + 1)] I J R) rfl (St_arr h1 t1) (fun I1 J1 R1 h1 => ?_)
  refine X_aload_n dX3_init_12 rfl ?_
  refine X_bipush (v := nI 52) dX3_init_13 (by decide) ?_
  refine X_newI (N := 52) dX3_init_15 aw_int (by first | assumption | rfl) rfl (by decide) (by first | decide | omega) ?_
  refine X_putR dX3_init_17 gf_X3_15 (Or.inr ⟨rfl, rfl⟩) (by first | assumption | rfl) (by first | assumption | exact Nat.le_of_ble_eq_true rfl | omega) rfl rfl ?_
  refine X_abs (m := (k + 3)) (P := St k (k + 3) T (fun _ => 0) [some (k + 1), some (k + 2)] I J R) rfl (St_arr h1 t2) (fun I1 J1 R1 h1 => ?_)
  refine X_aload_n dX3_init_20 rfl ?_
  refine X_bipush (v := nI 52) dX3_init_21 (by decide) ?_
  refine X_newI (N := 52) dX3_init_23 aw_int (by first | assumption | rfl) rfl (by decide) (by first | decide | omega) ?_
  refine X_putR dX3_init_25 gf_X3_18 (Or.inr ⟨rfl, rfl⟩) (by first | assumption | rfl) (by first | assumption | exact Nat.le_of_ble_eq_true rfl | omega) rfl rfl ?_
  refine X_abs (m := (k + 4)) (P := St k (k + 4) T (fun _ => 0) [some (k + 1), some (k + 2), some (k + 3)] I J R) rfl (St_arr h1 t3) (fun I1 J1 R1 h1 => ?_)
  refine X_aload_n dX3_init_28 rfl ?_
  refine X_bipush (v := nI 12) dX3_init_29 (by decide) ?_
  refine X_newI (N := 12) dX3_init_31 aw_int (by first | assumption | rfl) rfl (by decide) (by first | decide | omega) ?_
  refine X_putR dX3_init_33 gf_X3_21 (Or.inr ⟨rfl, rfl⟩) (by first | assumption | rfl) (by first | assumption | exact Nat.le_of_ble_eq_true rfl | omega) rfl rfl ?_
  refine X_abs (m := (k + 5)) (P := St k (k + 5) T (fun _ => 0) [some (k + 1), some (k + 2), some (k + 3), some (k + 4)] I J R) rfl (St_arr h1 t4) (fun I1 J1 R1 h1 => ?_)
  refine X_aload_n dX3_init_36 rfl ?_
  refine X_bipush (v := nI 8) dX3_init_37 (by decide) ?_
  refine X_newI (N := 8) dX3_init_39 aw_int (by first | assumption | rfl) rfl (by decide) (by first | decide | omega) ?_
  refine X_putR dX3_init_41 gf_X3_24 (Or.inr ⟨rfl, rfl⟩) (by first | assumption | rfl) (by first | assumption | exact Nat.le_of_ble_eq_true rfl | omega) rfl rfl ?_
  refine X_abs (m := (k + 6)) (P := St k (k + 6) T (fun _ => 0) [some (k + 1), some (k + 2), some (k + 3), some (k + 4), some (k + 5)] I J R) rfl (St_arr h1 t5) (fun I1 J1 R1 h1 => ?_)
  refine X_aload_n dX3_init_44 rfl ?_
  refine X_bipush (v := nI 40) dX3_init_45 (by decide) ?_
  refine X_newI (N := 40) dX3_init_47 aw_int (by first | assumption | rfl) rfl (by decide) (by first | decide | omega) ?_
  refine X_putR dX3_init_49 gf_X3_27 (Or.inr ⟨rfl, rfl⟩) (by first | assumption | rfl) (by first | assumption | exact Nat.le_of_ble_eq_true rfl | omega) rfl rfl ?_
  refine X_abs (m := (k + 7)) (P := St k (k + 7) T (fun _ => 0) [some (k + 1), some (k + 2), some (k + 3), some (k + 4), some (k + 5), some (k + 6)] I J R) rfl (St_arr h1 t6) (fun I1 J1 R1 h1 => ?_)
  refine X_aload_n dX3_init_52 rfl ?_
  refine X_bipush (v := nI 40) dX3_init_53 (by decide) ?_
  refine X_newI (N := 40) dX3_init_55 aw_int (by first | assumption | rfl) rfl (by decide) (by first | decide | omega) ?_
  refine X_putR dX3_init_57 gf_X3_30 (Or.inr ⟨rfl, rfl⟩) (by first | assumption | rfl) (by first | assumption | exact Nat.le_of_ble_eq_true rfl | omega) rfl rfl ?_
  refine X_abs (m := (k + 8)) (P := St k (k + 8) T (fun _ => 0) [some (k + 1), some (k + 2), some (k + 3), some (k + 4), some (k + 5), some (k + 6), some (k + 7)] I J R) rfl (St_arr h1 t7) (fun I1 J1 R1 h1 => ?_)
  refine X_aload_n dX3_init_60 rfl ?_
  refine X_bipush (v := nI 40) dX3_init_61 (by decide) ?_
  refine X_newI (N := 40) dX3_init_63 aw_int (by first | assumption | rfl) rfl (by decide) (by first | decide | omega) ?_
  refine X_putR dX3_init_65 gf_X3_33 (Or.inr ⟨rfl, rfl⟩) (by first | assumption | rfl) (by first | assumption | exact Nat.le_of_ble_eq_true rfl | omega) rfl rfl ?_
  refine X_abs (m := (k + 9)) (P := St k (k + 9) T (fun _ => 0) [some (k + 1), some (k + 2), some (k + 3), some (k + 4), some (k + 5), some (k + 6), some (k + 7), some (k + 8)] I J R) rfl (St_arr h1 t8) (fun I1 J1 R1 h1 => ?_)
  exact X_vret dX3_init_68 rfl ⟨rfl, hQ _ _ _ (St_end h1 (fun _ _ _ => rfl) t0)⟩
end MI
