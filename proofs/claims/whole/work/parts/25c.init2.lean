/-! the constructors that stand at one place -/
section MJ
variable {G : GG} {d : Nat} {I : Nat → Nat → Int32} {J : Nat → Nat → Int64} {R : Nat → Nat → Option Nat}
set_option maxRecDepth 20000 in
theorem c_X7i {Q : Mm → Prop} {T : Nat → Cz} (hd : 2 ≤ d) (ht : ∀ j, 1 ≤ j → j < 7 → T j = T0 j) (h0 : eqc I J R 1 (oc [])) (hQ : ∀ I' J' R', Good 1 7 T I J R I' J' R' → Q (7, I', J', R')) : Y G d zX7_init [vr 1] (2, I, J, R) 5 180 (qv Q) := by
  refine Y_of rfl rfl (Nat.le_of_ble_eq_true rfl) rfl ?_
  refine X_aload_n dX7_init_0 rfl ?_
  refine X_objInit dX7_init_1 oi_X7_3 oi_2 oi_3 (by omega) (Nat.le_of_ble_eq_true rfl) ?_
  refine X_abs (m := 2) (P := St 1 2 T0 (fun _ => 0) [] I J R) rfl (St_0 h0) (fun I1 J1 R1 h1 => ?_)
  refine X_aload_n dX7_init_4 rfl ?_
  refine X_bipush (v := nI 80) dX7_init_5 (by decide) ?_
  refine X_newI (N := 80) dX7_init_7 aw_int (by first | assumption | rfl) rfl (by decide) (by first | decide | omega) ?_
  refine X_putR dX7_init_9 gf_X7_9 (Or.inr ⟨rfl, rfl⟩) (by first | assumption | rfl) (by first | assumption | exact Nat.le_of_ble_eq_true rfl | omega) rfl rfl ?_
  refine X_abs (m := 3) (P := St 1 3 T0 (fun _ => 0) [some 2] I J R) rfl (St_arr h1 rfl) (fun I1 J1 R1 h1 => ?_)
  refine X_aload_n dX7_init_12 rfl ?_
  refine X_new (N := 2) dX7_init_13 gn_X7_15 (by first | assumption | rfl) rfl (by first | decide | omega) ?_
  refine X_dup dX7_init_16 rfl ?_
  refine X_cI (mc := 1) (ms := 48) dX7_init_17 ck_X7_17 rfl rfl (by omega) (Nat.le_of_ble_eq_true rfl) (c_X1i (T := T0) (k := 3) (by omega) (by first | decide | omega) rfl rfl rfl rfl eqc_new (fun I2 J2 R2 g => ?_))
  refine X_putR dX7_init_20 gf_X7_18 (Or.inr ⟨rfl, rfl⟩) (by first | assumption | rfl) (by first | assumption | exact Nat.le_of_ble_eq_true rfl | omega) rfl rfl ?_
  refine X_abs (m := 5) (P := St 1 5 T0 (fun _ => 0) [some 2, some 3] I J R) rfl (St_obj h1 g (by first | decide | omega)) (fun I1 J1 R1 h1 => ?_)
  refine X_aload_n dX7_init_23 rfl ?_
  refine X_new (N := 2) dX7_init_24 gn_X7_15 (by first | assumption | rfl) rfl (by first | decide | omega) ?_
  refine X_dup dX7_init_27 rfl ?_
  refine X_cI (mc := 1) (ms := 48) dX7_init_28 ck_X7_17 rfl rfl (by omega) (Nat.le_of_ble_eq_true rfl) (c_X1i (T := T0) (k := 5) (by omega) (by first | decide | omega) rfl rfl rfl rfl eqc_new (fun I2 J2 R2 g => ?_))
  refine X_putR dX7_init_31 gf_X7_22 (Or.inr ⟨rfl, rfl⟩) (by first | assumption | rfl) (by first | assumption | exact Nat.le_of_ble_eq_true rfl | omega) rfl rfl ?_
  refine X_abs (m := 7) (P := St 1 7 T0 (fun _ => 0) [some 2, some 3, some 5] I J R) rfl (St_obj h1 g (by first | decide | omega)) (fun I1 J1 R1 h1 => ?_)
  have hT : ∀ j, 1 < j → j < 7 → T0 j = T j := fun j a b => (ht j (by omega) b).symm
  exact X_vret dX7_init_34 rfl ⟨rfl, hQ _ _ _ (St_end h1 hT (ht _ (by decide) (by decide)))⟩
set_option maxRecDepth 20000 in
theorem c_X6i {Q : Mm → Prop} {T : Nat → Cz} (hd : 2 ≤ d) (ht : ∀ j, 111 ≤ j → j < 121 → T j = T0 j) (h0 : eqc I J R 111 (oc [])) (hQ : ∀ I' J' R', Good 111 121 T I J R I' J' R' → Q (121, I', J', R')) : Y G d zX6_init [vr 111] (112, I, J, R) 9 266 (qv Q) := by
  refine Y_of rfl rfl (Nat.le_of_ble_eq_true rfl) rfl ?_
  refine X_aload_n dX6_init_0 rfl ?_
  refine X_objInit dX6_init_1 oi_X6_3 oi_2 oi_3 (by omega) (Nat.le_of_ble_eq_true rfl) ?_
  refine X_abs (m := 112) (P := St 111 112 T0 (fun _ => 0) [] I J R) rfl (St_0 h0) (fun I1 J1 R1 h1 => ?_)
  refine X_aload_n dX6_init_4 rfl ?_
  refine X_new (N := 9) dX6_init_5 gn_X6_9 (by first | assumption | rfl) rfl (by first | decide | omega) ?_
  refine X_dup dX6_init_8 rfl ?_
  refine X_cI (mc := 8) (ms := 257) dX6_init_9 ck_X6_11 rfl rfl (by omega) (Nat.le_of_ble_eq_true rfl) (c_X3i (T := T0) (k := 112) (by omega) (by first | decide | omega) rfl rfl rfl rfl rfl rfl rfl rfl rfl rfl rfl rfl rfl rfl rfl rfl rfl rfl eqc_new (fun I2 J2 R2 g => ?_))
  refine X_putR dX6_init_12 gf_X6_12 (Or.inr ⟨rfl, rfl⟩) (by first | assumption | rfl) (by first | assumption | exact Nat.le_of_ble_eq_true rfl | omega) rfl rfl ?_
  refine X_abs (m := 121) (P := St 111 121 T0 (fun _ => 0) [some 112] I J R) rfl (St_obj h1 g (by first | decide | omega)) (fun I1 J1 R1 h1 => ?_)
  have hT : ∀ j, 111 < j → j < 121 → T0 j = T j := fun j a b => (ht j (by omega) b).symm
  exact X_vret dX6_init_15 rfl ⟨rfl, hQ _ _ _ (St_end h1 hT (ht _ (by decide) (by decide)))⟩
set_option maxRecDepth 20000 in
theorem c_X5i {Q : Mm → Prop} {T : Nat → Cz} (hd : 1 ≤ d) (ht : ∀ j, 121 ≤ j → j < 128 → T j = T0 j) (h0 : eqc I J R 121 (oc [])) (hQ : ∀ I' J' R', Good 121 128 T I J R I' J' R' → Q (128, I', J', R')) : Y G d zX5_init [vr 121] (122, I, J, R) 6 132 (qv Q) := by
  refine Y_of rfl rfl (Nat.le_of_ble_eq_true rfl) rfl ?_
  refine X_aload_n dX5_init_0 rfl ?_
  refine X_objInit dX5_init_1 oi_X5_3 oi_2 oi_3 (by omega) (Nat.le_of_ble_eq_true rfl) ?_
  refine X_abs (m := 122) (P := St 121 122 T0 (fun _ => 0) [] I J R) rfl (St_0 h0) (fun I1 J1 R1 h1 => ?_)
  refine X_aload_n dX5_init_4 rfl ?_
  refine X_bipush (v := nI 52) dX5_init_5 (by decide) ?_
  refine X_newI (N := 52) dX5_init_7 aw_int (by first | assumption | rfl) rfl (by decide) (by first | decide | omega) ?_
  refine X_putR dX5_init_9 gf_X5_9 (Or.inr ⟨rfl, rfl⟩) (by first | assumption | rfl) (by first | assumption | exact Nat.le_of_ble_eq_true rfl | omega) rfl rfl ?_
  refine X_abs (m := 123) (P := St 121 123 T0 (fun _ => 0) [some 122] I J R) rfl (St_arr h1 rfl) (fun I1 J1 R1 h1 => ?_)
  refine X_aload_n dX5_init_12 rfl ?_
  refine X_bipush (v := nI 24) dX5_init_13 (by decide) ?_
  refine X_newI (N := 24) dX5_init_15 aw_int (by first | assumption | rfl) rfl (by decide) (by first | decide | omega) ?_
  refine X_putR dX5_init_17 gf_X5_15 (Or.inr ⟨rfl, rfl⟩) (by first | assumption | rfl) (by first | assumption | exact Nat.le_of_ble_eq_true rfl | omega) rfl rfl ?_
  refine X_abs (m := 124) (P := St 121 124 T0 (fun _ => 0) [some 122, some 123] I J R) rfl (St_arr h1 rfl) (fun I1 J1 R1 h1 => ?_)
  refine X_aload_n dX5_init_20 rfl ?_
  refine X_bipush (v := nI 12) dX5_init_21 (by decide) ?_
  refine X_newI (N := 12) dX5_init_23 aw_int (by first | assumption | rfl) rfl (by decide) (by first | decide | omega) ?_
  refine X_putR dX5_init_25 gf_X5_18 (Or.inr ⟨rfl, rfl⟩) (by first | assumption | rfl) (by first | assumption | exact Nat.le_of_ble_eq_true rfl | omega) rfl rfl ?_
  refine X_abs (m := 125) (P := St 121 125 T0 (fun _ => 0) [some 122, some 123, some 124] I J R) rfl (St_arr h1 rfl) (fun I1 J1 R1 h1 => ?_)
  refine X_aload_n dX5_init_28 rfl ?_
  refine X_bipush (v := nI 12) dX5_init_29 (by decide) ?_
  refine X_newI (N := 12) dX5_init_31 aw_int (by first | assumption | rfl) rfl (by decide) (by first | decide | omega) ?_
  refine X_putR dX5_init_33 gf_X5_21 (Or.inr ⟨rfl, rfl⟩) (by first | assumption | rfl) (by first | assumption | exact Nat.le_of_ble_eq_true rfl | omega) rfl rfl ?_
  refine X_abs (m := 126) (P := St 121 126 T0 (fun _ => 0) [some 122, some 123, some 124, some 125] I J R) rfl (St_arr h1 rfl) (fun I1 J1 R1 h1 => ?_)
  refine X_aload_n dX5_init_36 rfl ?_
  refine X_bipush (v := nI 16) dX5_init_37 (by decide) ?_
  refine X_newI (N := 16) dX5_init_39 aw_int (by first | assumption | rfl) rfl (by decide) (by first | decide | omega) ?_
  refine X_putR dX5_init_41 gf_X5_24 (Or.inr ⟨rfl, rfl⟩) (by first | assumption | rfl) (by first | assumption | exact Nat.le_of_ble_eq_true rfl | omega) rfl rfl ?_
  refine X_abs (m := 127) (P := St 121 127 T0 (fun _ => 0) [some 122, some 123, some 124, some 125, some 126] I J R) rfl (St_arr h1 rfl) (fun I1 J1 R1 h1 => ?_)
  refine X_aload_n dX5_init_44 rfl ?_
  refine X_bipush (v := nI 16) dX5_init_45 (by decide) ?_
  refine X_newI (N := 16) dX5_init_47 aw_int (by first | assumption | rfl) rfl (by decide) (by first | decide | omega) ?_
  refine X_putR dX5_init_49 gf_X5_27 (Or.inr ⟨rfl, rfl⟩) (by first | assumption | rfl) (by first | assumption | exact Nat.le_of_ble_eq_true rfl | omega) rfl rfl ?_
  refine X_abs (m := 128) (P := St 121 128 T0 (fun _ => 0) [some 122, some 123, some 124, some 125, some 126, some 127] I J R) rfl (St_arr h1 rfl) (fun I1 J1 R1 h1 => ?_)
  have hT : ∀ j, 121 < j → j < 128 → T0 j = T j := fun j a b => (ht j (by omega) b).symm
  exact X_vret dX5_init_52 rfl ⟨rfl, hQ _ _ _ (St_end h1 hT (ht _ (by decide) (by decide)))⟩
set_option maxRecDepth 20000 in
theorem c_X0i {Q : Mm → Prop} {T : Nat → Cz} (hd : 1 ≤ d) (ht : ∀ j, 128 ≤ j → j < 136 → T j = T0 j) (h0 : eqc I J R 128 (oc [])) (hQ : ∀ I' J' R', Good 128 136 T I J R I' J' R' → Q (136, I', J', R')) : Y G d zX0_init [vr 128] (129, I, J, R) 7 4160 (qv Q) := by
  refine Y_of rfl rfl (Nat.le_of_ble_eq_true rfl) rfl ?_
  refine X_aload_n dX0_init_0 rfl ?_
  refine X_objInit dX0_init_1 oi_X0_3 oi_2 oi_3 (by omega) (Nat.le_of_ble_eq_true rfl) ?_
  refine X_abs (m := 129) (P := St 128 129 T0 (fun _ => 0) [] I J R) rfl (St_0 h0) (fun I1 J1 R1 h1 => ?_)
  refine X_aload_n dX0_init_4 rfl ?_
  refine X_sipush (v := nI 4096) dX0_init_5 (by decide) ?_
  refine X_newI (N := 4096) dX0_init_8 aw_int (by first | assumption | rfl) rfl (by decide) (by first | decide | omega) ?_
  refine X_putR dX0_init_10 gf_X0_9 (Or.inr ⟨rfl, rfl⟩) (by first | assumption | rfl) (by first | assumption | exact Nat.le_of_ble_eq_true rfl | omega) rfl rfl ?_
  refine X_abs (m := 130) (P := St 128 130 T0 (fun _ => 0) [some 129] I J R) rfl (St_arr h1 rfl) (fun I1 J1 R1 h1 => ?_)
  refine X_aload_n dX0_init_13 rfl ?_
  refine X_bipush (v := nI 12) dX0_init_14 (by decide) ?_
  refine X_newI (N := 12) dX0_init_16 aw_int (by first | assumption | rfl) rfl (by decide) (by first | decide | omega) ?_
  refine X_putR dX0_init_18 gf_X0_15 (Or.inr ⟨rfl, rfl⟩) (by first | assumption | rfl) (by first | assumption | exact Nat.le_of_ble_eq_true rfl | omega) rfl rfl ?_
  refine X_abs (m := 131) (P := St 128 131 T0 (fun _ => 0) [some 129, some 130] I J R) rfl (St_arr h1 rfl) (fun I1 J1 R1 h1 => ?_)
  refine X_aload_n dX0_init_21 rfl ?_
  refine X_bipush (v := nI 12) dX0_init_22 (by decide) ?_
  refine X_newI (N := 12) dX0_init_24 aw_int (by first | assumption | rfl) rfl (by decide) (by first | decide | omega) ?_
  refine X_putR dX0_init_26 gf_X0_18 (Or.inr ⟨rfl, rfl⟩) (by first | assumption | rfl) (by first | assumption | exact Nat.le_of_ble_eq_true rfl | omega) rfl rfl ?_
  refine X_abs (m := 132) (P := St 128 132 T0 (fun _ => 0) [some 129, some 130, some 131] I J R) rfl (St_arr h1 rfl) (fun I1 J1 R1 h1 => ?_)
  refine X_aload_n dX0_init_29 rfl ?_
  refine X_bipush (v := nI 12) dX0_init_30 (by decide) ?_
  refine X_newI (N := 12) dX0_init_32 aw_int (by first | assumption | rfl) rfl (by decide) (by first | decide | omega) ?_
  refine X_putR dX0_init_34 gf_X0_21 (Or.inr ⟨rfl, rfl⟩) (by first | assumption | rfl) (by first | assumption | exact Nat.le_of_ble_eq_true rfl | omega) rfl rfl ?_
  refine X_abs (m := 133) (P := St 128 133 T0 (fun _ => 0) [some 129, some 130, some 131, some 132] I J R) rfl (St_arr h1 rfl) (fun I1 J1 R1 h1 => ?_)
  refine X_aload_n dX0_init_37 rfl ?_
  refine X_bipush (v := nI 12) dX0_init_38 (by decide) ?_
  refine X_newI (N := 12) dX0_init_40 aw_int (by first | assumption | rfl) rfl (by decide) (by first | decide | omega) ?_
  refine X_putR dX0_init_42 gf_X0_24 (Or.inr ⟨rfl, rfl⟩) (by first | assumption | rfl) (by first | assumption | exact Nat.le_of_ble_eq_true rfl | omega) rfl rfl ?_
  refine X_abs (m := 134) (P := St 128 134 T0 (fun _ => 0) [some 129, some 130, some 131, some 132, some 133] I J R) rfl (St_arr h1 rfl) (fun I1 J1 R1 h1 => ?_)
  refine X_aload_n dX0_init_45 rfl ?_
  refine X_bipush (v := nI 8) dX0_init_46 (by decide) ?_
  refine X_newI (N := 8) dX0_init_48 aw_int (by first | assumption | rfl) rfl (by decide) (by first | decide | omega) ?_
  refine X_putR dX0_init_50 gf_X0_27 (Or.inr ⟨rfl, rfl⟩) (by first | assumption | rfl) (by first | assumption | exact Nat.le_of_ble_eq_true rfl | omega) rfl rfl ?_
  refine X_abs (m := 135) (P := St 128 135 T0 (fun _ => 0) [some 129, some 130, some 131, some 132, some 133, some 134] I J R) rfl (St_arr h1 rfl) (fun I1 J1 R1 h1 => ?_)
  refine X_aload_n dX0_init_53 rfl ?_
  refine X_bipush (v := nI 8) dX0_init_54 (by decide) ?_
  refine X_newI (N := 8) dX0_init_56 aw_int (by first | assumption | rfl) rfl (by decide) (by first | decide | omega) ?_
  refine X_putR dX0_init_58 gf_X0_30 (Or.inr ⟨rfl, rfl⟩) (by first | assumption | rfl) (by first | assumption | exact Nat.le_of_ble_eq_true rfl | omega) rfl rfl ?_
  refine X_abs (m := 136) (P := St 128 136 T0 (fun _ => 0) [some 129, some 130, some 131, some 132, some 133, some 134, some 135] I J R) rfl (St_arr h1 rfl) (fun I1 J1 R1 h1 => ?_)
  have hT : ∀ j, 128 < j → j < 136 → T0 j = T j := fun j a b => (ht j (by omega) b).symm
  exact X_vret dX0_init_61 rfl ⟨rfl, hQ _ _ _ (St_end h1 hT (ht _ (by decide) (by decide)))⟩
set_option maxRecDepth 20000 in
theorem c_X4i {Q : Mm → Prop} {T : Nat → Cz} (hd : 1 ≤ d) (ht : ∀ j, 136 ≤ j → j < 148 → T j = T0 j) (h0 : eqc I J R 136 (oc [])) (hQ : ∀ I' J' R', Good 136 148 T I J R I' J' R' → Q (148, I', J', R')) : Y G d zX4_init [vr 136] (137, I, J, R) 11 634 (qv Q) := by
  refine Y_of rfl rfl (Nat.le_of_ble_eq_true rfl) rfl ?_
  refine X_aload_n dX4_init_0 rfl ?_
  refine X_objInit dX4_init_1 oi_X4_3 oi_2 oi_3 (by omega) (Nat.le_of_ble_eq_true rfl) ?_
  refine X_abs (m := 137) (P := St 136 137 T0 (fun _ => 0) [] I J R) rfl (St_0 h0) (fun I1 J1 R1 h1 => ?_)
  refine X_aload_n dX4_init_4 rfl ?_
  refine X_bipush (v := nI 12) dX4_init_5 (by decide) ?_
  refine X_newI (N := 12) dX4_init_7 aw_int (by first | assumption | rfl) rfl (by decide) (by first | decide | omega) ?_
  refine X_putR dX4_init_9 gf_X4_9 (Or.inr ⟨rfl, rfl⟩) (by first | assumption | rfl) (by first | assumption | exact Nat.le_of_ble_eq_true rfl | omega) rfl rfl ?_
  refine X_abs (m := 138) (P := St 136 138 T0 (fun _ => 0) [some 137] I J R) rfl (St_arr h1 rfl) (fun I1 J1 R1 h1 => ?_)
  refine X_aload_n dX4_init_12 rfl ?_
  refine X_bipush (v := nI 13) dX4_init_13 (by decide) ?_
  refine X_newI (N := 13) dX4_init_15 aw_int (by first | assumption | rfl) rfl (by decide) (by first | decide | omega) ?_
  refine X_putR dX4_init_17 gf_X4_15 (Or.inr ⟨rfl, rfl⟩) (by first | assumption | rfl) (by first | assumption | exact Nat.le_of_ble_eq_true rfl | omega) rfl rfl ?_
  refine X_abs (m := 139) (P := St 136 139 T0 (fun _ => 0) [some 137, some 138] I J R) rfl (St_arr h1 rfl) (fun I1 J1 R1 h1 => ?_)
  refine X_aload_n dX4_init_20 rfl ?_
  refine X_bipush (v := nI 13) dX4_init_21 (by decide) ?_
  refine X_newI (N := 13) dX4_init_23 aw_int (by first | assumption | rfl) rfl (by decide) (by first | decide | omega) ?_
  refine X_putR dX4_init_25 gf_X4_18 (Or.inr ⟨rfl, rfl⟩) (by first | assumption | rfl) (by first | assumption | exact Nat.le_of_ble_eq_true rfl | omega) rfl rfl ?_
  refine X_abs (m := 140) (P := St 136 140 T0 (fun _ => 0) [some 137, some 138, some 139] I J R) rfl (St_arr h1 rfl) (fun I1 J1 R1 h1 => ?_)
  refine X_aload_n dX4_init_28 rfl ?_
  refine X_bipush (v := nI 16) dX4_init_29 (by decide) ?_
  refine X_newI (N := 16) dX4_init_31 aw_int (by first | assumption | rfl) rfl (by decide) (by first | decide | omega) ?_
  refine X_putR dX4_init_33 gf_X4_21 (Or.inr ⟨rfl, rfl⟩) (by first | assumption | rfl) (by first | assumption | exact Nat.le_of_ble_eq_true rfl | omega) rfl rfl ?_
  refine X_abs (m := 141) (P := St 136 141 T0 (fun _ => 0) [some 137, some 138, some 139, some 140] I J R) rfl (St_arr h1 rfl) (fun I1 J1 R1 h1 => ?_)
  refine X_aload_n dX4_init_36 rfl ?_
  refine X_bipush (v := nI 16) dX4_init_37 (by decide) ?_
  refine X_newI (N := 16) dX4_init_39 aw_int (by first | assumption | rfl) rfl (by decide) (by first | decide | omega) ?_
  refine X_putR dX4_init_41 gf_X4_24 (Or.inr ⟨rfl, rfl⟩) (by first | assumption | rfl) (by first | assumption | exact Nat.le_of_ble_eq_true rfl | omega) rfl rfl ?_
  refine X_abs (m := 142) (P := St 136 142 T0 (fun _ => 0) [some 137, some 138, some 139, some 140, some 141] I J R) rfl (St_arr h1 rfl) (fun I1 J1 R1 h1 => ?_)
  refine X_aload_n dX4_init_44 rfl ?_
  refine X_bipush (v := nI 12) dX4_init_45 (by decide) ?_
  refine X_newI (N := 12) dX4_init_47 aw_int (by first | assumption | rfl) rfl (by decide) (by first | decide | omega) ?_
  refine X_putR dX4_init_49 gf_X4_27 (Or.inr ⟨rfl, rfl⟩) (by first | assumption | rfl) (by first | assumption | exact Nat.le_of_ble_eq_true rfl | omega) rfl rfl ?_
  refine X_abs (m := 143) (P := St 136 143 T0 (fun _ => 0) [some 137, some 138, some 139, some 140, some 141, some 142] I J R) rfl (St_arr h1 rfl) (fun I1 J1 R1 h1 => ?_)
  refine X_aload_n dX4_init_52 rfl ?_
  refine X_sipush (v := nI 256) dX4_init_53 (by decide) ?_
  refine X_newI (N := 256) dX4_init_56 aw_int (by first | assumption | rfl) rfl (by decide) (by first | decide | omega) ?_
  refine X_putR dX4_init_58 gf_X4_30 (Or.inr ⟨rfl, rfl⟩) (by first | assumption | rfl) (by first | assumption | exact Nat.le_of_ble_eq_true rfl | omega) rfl rfl ?_
  refine X_abs (m := 144) (P := St 136 144 T0 (fun _ => 0) [some 137, some 138, some 139, some 140, some 141, some 142, some 143] I J R) rfl (St_arr h1 rfl) (fun I1 J1 R1 h1 => ?_)
  refine X_aload_n dX4_init_61 rfl ?_
  refine X_sipush (v := nI 256) dX4_init_62 (by decide) ?_
  refine X_newI (N := 256) dX4_init_65 aw_int (by first | assumption | rfl) rfl (by decide) (by first | decide | omega) ?_
  refine X_putR dX4_init_67 gf_X4_33 (Or.inr ⟨rfl, rfl⟩) (by first | assumption | rfl) (by first | assumption | exact Nat.le_of_ble_eq_true rfl | omega) rfl rfl ?_
  refine X_abs (m := 145) (P := St 136 145 T0 (fun _ => 0) [some 137, some 138, some 139, some 140, some 141, some 142, some 143, some 144] I J R) rfl (St_arr h1 rfl) (fun I1 J1 R1 h1 => ?_)
  refine X_aload_n dX4_init_70 rfl ?_
  refine X_bipush (v := nI 8) dX4_init_71 (by decide) ?_
  refine X_newI (N := 8) dX4_init_73 aw_int (by first | assumption | rfl) rfl (by decide) (by first | decide | omega) ?_
  refine X_putR dX4_init_75 gf_X4_36 (Or.inr ⟨rfl, rfl⟩) (by first | assumption | rfl) (by first | assumption | exact Nat.le_of_ble_eq_true rfl | omega) rfl rfl ?_
  refine X_abs (m := 146) (P := St 136 146 T0 (fun _ => 0) [some 137, some 138, some 139, some 140, some 141, some 142, some 143, some 144, some 145] I J R) rfl (St_arr h1 rfl) (fun I1 J1 R1 h1 => ?_)
  refine X_aload_n dX4_init_78 rfl ?_
  refine X_bipush (v := nI 16) dX4_init_79 (by decide) ?_
  refine X_newI (N := 16) dX4_init_81 aw_int (by first | assumption | rfl) rfl (by decide) (by first | decide | omega) ?_
  refine X_putR dX4_init_83 gf_X4_39 (Or.inl rfl) (by first | assumption | rfl) (by first | assumption | exact Nat.le_of_ble_eq_true rfl | omega) rfl rfl ?_
  refine X_abs (m := 147) (P := St 136 147 T0 (fun _ => 0) [some 137, some 138, some 139, some 140, some 141, some 142, some 143, some 144, some 145, some 146] I J R) rfl (St_arr h1 rfl) (fun I1 J1 R1 h1 => ?_)
  refine X_aload_n dX4_init_86 rfl ?_
  refine X_bipush (v := nI 16) dX4_init_87 (by decide) ?_
  refine X_newI (N := 16) dX4_init_89 aw_int (by first | assumption | rfl) rfl (by decide) (by first | decide | omega) ?_
  refine X_putR dX4_init_91 gf_X4_42 (Or.inl rfl) (by first | assumption | rfl) (by first | assumption | exact Nat.le_of_ble_eq_true rfl | omega) rfl rfl ?_
  refine X_abs (m := 148) (P := St 136 148 T0 (fun _ => 0) [some 137, some 138, some 139, some 140, some 141, some 142, some 143, some 144, some 145, some 146, some 147] I J R) rfl (St_arr h1 rfl) (fun I1 J1 R1 h1 => ?_)
  have hT : ∀ j, 136 < j → j < 148 → T0 j = T j := fun j a b => (ht j (by omega) b).symm
  exact X_vret dX4_init_94 rfl ⟨rfl, hQ _ _ _ (St_end h1 hT (ht _ (by decide) (by decide)))⟩
set_option maxRecDepth 20000 in
theorem c_X2i_7 {Q : Mm → Prop} {T : Nat → Cz} (hd : 3 ≤ d) (ht : ∀ j, 7 ≤ j → j < 38 → T j = T0 j) (h0 : eqc I J R 7 (oc [])) (hQ : ∀ I' J' R', Good 7 38 T I J R I' J' R' → Q (38, I', J', R')) : Y G d zX2_init [vr 7] (8, I, J, R) 30 541 (qv Q) := by
  refine Y_of rfl rfl (Nat.le_of_ble_eq_true rfl) rfl ?_
  refine X_aload_n dX2_init_0 rfl ?_
  refine X_objInit dX2_init_1 oi_X2_3 oi_2 oi_3 (by omega) (Nat.le_of_ble_eq_true rfl) ?_
  refine X_abs (m := 8) (P := St 7 8 (up (up T0 12 (oc [])) 13 (oc [])) (fun _ => 0) [] I J R) rfl (St_0 h0) (fun I1 J1 R1 h1 => ?_)
  refine X_aload_n dX2_init_4 rfl ?_
  refine X_new (N := 2) dX2_init_5 gn_X2_9 (by first | assumption | rfl) rfl (by first | decide | omega) ?_
  refine X_dup dX2_init_8 rfl ?_
  refine X_cI (mc := 1) (ms := 48) dX2_init_9 ck_X2_11 rfl rfl (by omega) (Nat.le_of_ble_eq_true rfl) (c_X1i (T := (up (up T0 12 (oc [])) 13 (oc []))) (k := 8) (by omega) (by first | decide | omega) rfl rfl rfl rfl eqc_new (fun I2 J2 R2 g => ?_))
  refine X_putR dX2_init_12 gf_X2_12 (Or.inr ⟨rfl, rfl⟩) (by first | assumption | rfl) (by first | assumption | exact Nat.le_of_ble_eq_true rfl | omega) rfl rfl ?_
  refine X_abs (m := 10) (P := St 7 10 (up (up T0 12 (oc [])) 13 (oc [])) (fun _ => 0) [some 8] I J R) rfl (St_obj h1 g (by first | decide | omega)) (fun I1 J1 R1 h1 => ?_)
  refine X_aload_n dX2_init_15 rfl ?_
  refine X_new (N := 2) dX2_init_16 gn_X2_9 (by first | assumption | rfl) rfl (by first | decide | omega) ?_
  refine X_dup dX2_init_19 rfl ?_
  refine X_cI (mc := 1) (ms := 48) dX2_init_20 ck_X2_11 rfl rfl (by omega) (Nat.le_of_ble_eq_true rfl) (c_X1i (T := (up (up T0 12 (oc [])) 13 (oc []))) (k := 10) (by omega) (by first | decide | omega) rfl rfl rfl rfl eqc_new (fun I2 J2 R2 g => ?_))
  refine X_putR dX2_init_23 gf_X2_18 (Or.inr ⟨rfl, rfl⟩) (by first | assumption | rfl) (by first | assumption | exact Nat.le_of_ble_eq_true rfl | omega) rfl rfl ?_
  refine X_abs (m := 12) (P := St 7 12 (up (up T0 12 (oc [])) 13 (oc [])) (fun _ => 0) [some 8, some 10] I J R) rfl (St_obj h1 g (by first | decide | omega)) (fun I1 J1 R1 h1 => ?_)
  refine X_aload_n dX2_init_26 rfl ?_
  refine X_iconst (v := nI 4) dX2_init_27 (by decide) ?_
  refine X_newq (N := 4) dX2_init_28 gq_X2_21 (fun U h => h.2.2.1.2.2) (by first | assumption | rfl) (by decide) rfl rfl (by decide) (by first | decide | omega) ?_
  refine X_putR dX2_init_31 gf_X2_23 (Or.inr ⟨rfl, rfl⟩) (by first | assumption | rfl) (by first | assumption | exact Nat.le_of_ble_eq_true rfl | omega) rfl rfl ?_
  refine X_abs (m := 13) (P := St 7 13 (up (up T0 12 (oc [])) 13 (oc [])) (fun _ => 0) [some 8, some 10, some 12] I J R) rfl (St_arr h1 rfl) (fun I1 J1 R1 h1 => ?_)
  refine X_aload_n dX2_init_34 rfl ?_
  refine X_iconst (v := nI 5) dX2_init_35 (by decide) ?_
  refine X_newI (N := 5) dX2_init_36 aw_int (by first | assumption | rfl) rfl (by decide) (by first | decide | omega) ?_
  refine X_putR dX2_init_38 gf_X2_27 (Or.inr ⟨rfl, rfl⟩) (by first | assumption | rfl) (by first | assumption | exact Nat.le_of_ble_eq_true rfl | omega) rfl rfl ?_
  refine X_abs (m := 14) (P := St 7 14 (up (up T0 12 (oc [])) 13 (oc [])) (fun _ => 0) [some 8, some 10, some 12, some 13] I J R) rfl (St_arr h1 rfl) (fun I1 J1 R1 h1 => ?_)
  refine X_aload_n dX2_init_41 rfl ?_
  refine X_bipush (v := nI 15) dX2_init_42 (by decide) ?_
  refine X_putI dX2_init_44 gf_X2_31 (Or.inl rfl) (by first | assumption | rfl) (by first | assumption | exact Nat.le_of_ble_eq_true rfl | omega) rfl ?_
  refine X_abs (m := 14) (P := St 7 14 (up (up T0 12 (oc [])) 13 (oc [])) (up (fun _ => 0) 5 (nI 15)) [some 8, some 10, some 12, some 13] I J R) rfl (St_int h1) (fun I1 J1 R1 h1 => ?_)
  refine X_iconst (v := nI 0) dX2_init_47 (by decide) ?_
  refine X_istore_n dX2_init_48 rfl rfl ?_
  refine X_iload_n dX2_init_49 rfl ?_
  refine X_iconst (v := nI 4) dX2_init_50 (by decide) ?_
  refine X_icmp_ge (tgt := 73) dX2_init_51 (by decide) (fun b => ?_) (fun b => ?_)
  · exact absurd b (by decide)
  have r1 := St_me (i := 2) (c := some 12) h1 rfl
  refine X_aload_n dX2_init_54 rfl ?_
  refine X_getR dX2_init_55 gf_X2_23 (by first | assumption | rfl) (by first | assumption | exact Nat.le_of_ble_eq_true rfl | omega) rfl (by first | assumption | rfl) ?_
  refine X_iload_n dX2_init_58 rfl ?_
  refine X_new (N := 4) dX2_init_59 gn_X2_21 (by first | assumption | rfl) rfl (by first | decide | omega) ?_
  refine X_dup dX2_init_62 rfl ?_
  refine X_cI (mc := 5) (ms := 104) dX2_init_63 ck_X2_35 rfl rfl (by omega) (Nat.le_of_ble_eq_true rfl) (c_X9i (T := (up (up T0 12 (oc [])) 13 (oc []))) (k := 14) (by omega) (by first | decide | omega) rfl rfl rfl rfl rfl rfl rfl rfl rfl rfl rfl rfl eqc_new (fun I2 J2 R2 g => ?_))
  refine X_aast dX2_init_66 (by first | assumption | rfl) (by decide) rfl (by first | assumption | exact Nat.le_of_ble_eq_true rfl | omega) (by first | assumption | exact Nat.le_of_ble_eq_true rfl | omega) (by first | assumption | rfl) (by decide) rfl rfl (by first | decide | omega) (by decide) ?_
  clear r1
  refine X_abs (m := 20) (P := St 7 20 (up (up (up T0 12 (oc [])) 13 (oc [])) 12 (oc [some 14])) (up (fun _ => 0) 5 (nI 15)) [some 8, some 10, some 12, some 13] I J R) rfl (St_row (q := 12) (lq := []) h1 (by decide) rfl g (by first | decide | omega)) (fun I1 J1 R1 h1 => ?_)
  first | refine X_iinc1 dX2_init_67 rfl rfl rfl ?_ | refine X_iinc dX2_init_67 rfl rfl rfl rfl ?_
  refine X_goto (tgt := 49) dX2_init_70 (by decide) ?_
  refine X_iload_n dX2_init_49 rfl ?_
  refine X_iconst (v := nI 4) dX2_init_50 (by decide) ?_
  refine X_icmp_ge (tgt := 73) dX2_init_51 (by decide) (fun b => ?_) (fun b => ?_)
  · exact absurd b (by decide)
  have r1 := St_me (i := 2) (c := some 12) h1 rfl
  refine X_aload_n dX2_init_54 rfl ?_
  refine X_getR dX2_init_55 gf_X2_23 (by first | assumption | rfl) (by first | assumption | exact Nat.le_of_ble_eq_true rfl | omega) rfl (by first | assumption | rfl) ?_
  refine X_iload_n dX2_init_58 rfl ?_
  refine X_new (N := 4) dX2_init_59 gn_X2_21 (by first | assumption | rfl) rfl (by first | decide | omega) ?_
  refine X_dup dX2_init_62 rfl ?_
  refine X_cI (mc := 5) (ms := 104) dX2_init_63 ck_X2_35 rfl rfl (by omega) (Nat.le_of_ble_eq_true rfl) (c_X9i (T := (up (up (up T0 12 (oc [])) 13 (oc [])) 12 (oc [some 14]))) (k := 20) (by omega) (by first | decide | omega) rfl rfl rfl rfl rfl rfl rfl rfl rfl rfl rfl rfl eqc_new (fun I2 J2 R2 g => ?_))
  refine X_aast dX2_init_66 (by first | assumption | rfl) (by decide) rfl (by first | assumption | exact Nat.le_of_ble_eq_true rfl | omega) (by first | assumption | exact Nat.le_of_ble_eq_true rfl | omega) (by first | assumption | rfl) (by decide) rfl rfl (by first | decide | omega) (by decide) ?_
  clear r1
  refine X_abs (m := 26) (P := St 7 26 (up (up (up (up T0 12 (oc [])) 13 (oc [])) 12 (oc [some 14])) 12 (oc [some 14, some 20])) (up (fun _ => 0) 5 (nI 15)) [some 8, some 10, some 12, some 13] I J R) rfl (St_row (q := 12) (lq := [some 14]) h1 (by decide) rfl g (by first | decide | omega)) (fun I1 J1 R1 h1 => ?_)
  first | refine X_iinc1 dX2_init_67 rfl rfl rfl ?_ | refine X_iinc dX2_init_67 rfl rfl rfl rfl ?_
  refine X_goto (tgt := 49) dX2_init_70 (by decide) ?_
  refine X_iload_n dX2_init_49 rfl ?_
  refine X_iconst (v := nI 4) dX2_init_50 (by decide) ?_
  refine X_icmp_ge (tgt := 73) dX2_init_51 (by decide) (fun b => ?_) (fun b => ?_)
  · exact absurd b (by decide)
  have r1 := St_me (i := 2) (c := some 12) h1 rfl
  refine X_aload_n dX2_init_54 rfl ?_
  refine X_getR dX2_init_55 gf_X2_23 (by first | assumption | rfl) (by first | assumption | exact Nat.le_of_ble_eq_true rfl | omega) rfl (by first | assumption | rfl) ?_
  refine X_iload_n dX2_init_58 rfl ?_
  refine X_new (N := 4) dX2_init_59 gn_X2_21 (by first | assumption | rfl) rfl (by first | decide | omega) ?_
  refine X_dup dX2_init_62 rfl ?_
  refine X_cI (mc := 5) (ms := 104) dX2_init_63 ck_X2_35 rfl rfl (by omega) (Nat.le_of_ble_eq_true rfl) (c_X9i (T := (up (up (up (up T0 12 (oc [])) 13 (oc [])) 12 (oc [some 14])) 12 (oc [some 14, some 20]))) (k := 26) (by omega) (by first | decide | omega) rfl rfl rfl rfl rfl rfl rfl rfl rfl rfl rfl rfl eqc_new (fun I2 J2 R2 g => ?_))
  refine X_aast dX2_init_66 (by first | assumption | rfl) (by decide) rfl (by first | assumption | exact Nat.le_of_ble_eq_true rfl | omega) (by first | assumption | exact Nat.le_of_ble_eq_true rfl | omega) (by first | assumption | rfl) (by decide) rfl rfl (by first | decide | omega) (by decide) ?_
  clear r1
  refine X_abs (m := 32) (P := St 7 32 (up (up (up (up (up T0 12 (oc [])) 13 (oc [])) 12 (oc [some 14])) 12 (oc [some 14, some 20])) 12 (oc [some 14, some 20, some 26])) (up (fun _ => 0) 5 (nI 15)) [some 8, some 10, some 12, some 13] I J R) rfl (St_row (q := 12) (lq := [some 14, some 20]) h1 (by decide) rfl g (by first | decide | omega)) (fun I1 J1 R1 h1 => ?_)
  first | refine X_iinc1 dX2_init_67 rfl rfl rfl ?_ | refine X_iinc dX2_init_67 rfl rfl rfl rfl ?_
  refine X_goto (tgt := 49) dX2_init_70 (by decide) ?_
  refine X_iload_n dX2_init_49 rfl ?_
  refine X_iconst (v := nI 4) dX2_init_50 (by decide) ?_
  refine X_icmp_ge (tgt := 73) dX2_init_51 (by decide) (fun b => ?_) (fun b => ?_)
  · exact absurd b (by decide)
  have r1 := St_me (i := 2) (c := some 12) h1 rfl
  refine X_aload_n dX2_init_54 rfl ?_
  refine X_getR dX2_init_55 gf_X2_23 (by first | assumption | rfl) (by first | assumption | exact Nat.le_of_ble_eq_true rfl | omega) rfl (by first | assumption | rfl) ?_
  refine X_iload_n dX2_init_58 rfl ?_
  refine X_new (N := 4) dX2_init_59 gn_X2_21 (by first | assumption | rfl) rfl (by first | decide | omega) ?_
  refine X_dup dX2_init_62 rfl ?_
  refine X_cI (mc := 5) (ms := 104) dX2_init_63 ck_X2_35 rfl rfl (by omega) (Nat.le_of_ble_eq_true rfl) (c_X9i (T := (up (up (up (up (up T0 12 (oc [])) 13 (oc [])) 12 (oc [some 14])) 12 (oc [some 14, some 20])) 12 (oc [some 14, some 20, some 26]))) (k := 32) (by omega) (by first | decide | omega) rfl rfl rfl rfl rfl rfl rfl rfl rfl rfl rfl rfl eqc_new (fun I2 J2 R2 g => ?_))
  refine X_aast dX2_init_66 (by first | assumption | rfl) (by decide) rfl (by first | assumption | exact Nat.le_of_ble_eq_true rfl | omega) (by first | assumption | exact Nat.le_of_ble_eq_true rfl | omega) (by first | assumption | rfl) (by decide) rfl rfl (by first | decide | omega) (by decide) ?_
  clear r1
  refine X_abs (m := 38) (P := St 7 38 (up (up (up (up (up (up T0 12 (oc [])) 13 (oc [])) 12 (oc [some 14])) 12 (oc [some 14, some 20])) 12 (oc [some 14, some 20, some 26])) 12 (oc [some 14, some 20, some 26, some 32])) (up (fun _ => 0) 5 (nI 15)) [some 8, some 10, some 12, some 13] I J R) rfl (St_row (q := 12) (lq := [some 14, some 20, some 26]) h1 (by decide) rfl g (by first | decide | omega)) (fun I1 J1 R1 h1 => ?_)
  first | refine X_iinc1 dX2_init_67 rfl rfl rfl ?_ | refine X_iinc dX2_init_67 rfl rfl rfl rfl ?_
  refine X_goto (tgt := 49) dX2_init_70 (by decide) ?_
  refine X_iload_n dX2_init_49 rfl ?_
  refine X_iconst (v := nI 4) dX2_init_50 (by decide) ?_
  refine X_icmp_ge (tgt := 73) dX2_init_51 (by decide) (fun b => ?_) (fun b => ?_)
  rotate_left
  · exact absurd (by decide) b
  have r1 := St_me (i := 3) (c := some 13) h1 rfl
  have z1 := (St_at (q := 13) h1 (by decide)).1
  refine X_aload_n dX2_init_73 rfl ?_
  refine X_getR dX2_init_74 gf_X2_27 (by first | assumption | rfl) (by first | assumption | exact Nat.le_of_ble_eq_true rfl | omega) rfl (by first | assumption | rfl) ?_
  refine X_iconst (v := nI 1) dX2_init_77 (by decide) ?_
  refine X_cSv dX2_init_78 ck_X2_36 rfl rfl (by omega) (Nat.le_of_ble_eq_true rfl) (c_fillG rfl (by decide) (by decide) (fun I2 f2 e2 => ?_))
  clear r1
  refine X_abs (m := 38) (P := St 7 38 (up (up (up (up (up (up (up T0 12 (oc [])) 13 (oc [])) 12 (oc [some 14])) 12 (oc [some 14, some 20])) 12 (oc [some 14, some 20, some 26])) 12 (oc [some 14, some 20, some 26, some 32])) 13 (filF (fun _ => 0) 5 (nI 1), ((up (up (up (up (up (up T0 12 (oc [])) 13 (oc [])) 12 (oc [some 14])) 12 (oc [some 14, some 20])) 12 (oc [some 14, some 20, some 26])) 12 (oc [some 14, some 20, some 26, some 32])) 13).2.1, ((up (up (up (up (up (up T0 12 (oc [])) 13 (oc [])) 12 (oc [some 14])) 12 (oc [some 14, some 20])) 12 (oc [some 14, some 20, some 26])) 12 (oc [some 14, some 20, some 26, some 32])) 13).2.2)) (up (fun _ => 0) 5 (nI 15)) [some 8, some 10, some 12, some 13] I J R) rfl (St_ints (q := 13) h1 (by decide) f2 (by rw [e2, z1]; rfl)) (fun I1 J1 R1 h1 => ?_)
  have hT : ∀ j, 7 < j → j < 38 → (up (up (up (up (up (up (up T0 12 (oc [])) 13 (oc [])) 12 (oc [some 14])) 12 (oc [some 14, some 20])) 12 (oc [some 14, some 20, some 26])) 12 (oc [some 14, some 20, some 26, some 32])) 13 (filF (fun _ => 0) 5 (nI 1), ((up (up (up (up (up (up T0 12 (oc [])) 13 (oc [])) 12 (oc [some 14])) 12 (oc [some 14, some 20])) 12 (oc [some 14, some 20, some 26])) 12 (oc [some 14, some 20, some 26, some 32])) 13).2.1, ((up (up (up (up (up (up T0 12 (oc [])) 13 (oc [])) 12 (oc [some 14])) 12 (oc [some 14, some 20])) 12 (oc [some 14, some 20, some 26])) 12 (oc [some 14, some 20, some 26, some 32])) 13).2.2)) j = T j := fun j a b => by
    by_cases h12 : j = 12
    · subst h12
      exact Eq.trans (b := T0 12) rfl (ht 12 (by decide) (by decide)).symm
    by_cases h13 : j = 13
    · subst h13
      exact Eq.trans (b := T0 13) rfl (ht 13 (by decide) (by decide)).symm
    simp only [up_ne h12, up_ne h13]
    exact (ht j (by omega) b).symm
  exact X_vret dX2_init_81 rfl ⟨rfl, hQ _ _ _ (St_end h1 hT (ht _ (by decide) (by decide)))⟩
set_option maxRecDepth 20000 in
theorem c_X2i_39 {Q : Mm → Prop} {T : Nat → Cz} (hd : 3 ≤ d) (ht : ∀ j, 39 ≤ j → j < 70 → T j = T0 j) (h0 : eqc I J R 39 (oc [])) (hQ : ∀ I' J' R', Good 39 70 T I J R I' J' R' → Q (70, I', J', R')) : Y G d zX2_init [vr 39] (40, I, J, R) 30 541 (qv Q) := by
  refine Y_of rfl rfl (Nat.le_of_ble_eq_true rfl) rfl ?_
  refine X_aload_n dX2_init_0 rfl ?_
  refine X_objInit dX2_init_1 oi_X2_3 oi_2 oi_3 (by omega) (Nat.le_of_ble_eq_true rfl) ?_
  refine X_abs (m := 40) (P := St 39 40 (up (up T0 44 (oc [])) 45 (oc [])) (fun _ => 0) [] I J R) rfl (St_0 h0) (fun I1 J1 R1 h1 => ?_)
  refine X_aload_n dX2_init_4 rfl ?_
  refine X_new (N := 2) dX2_init_5 gn_X2_9 (by first | assumption | rfl) rfl (by first | decide | omega) ?_
  refine X_dup dX2_init_8 rfl ?_
  refine X_cI (mc := 1) (ms := 48) dX2_init_9 ck_X2_11 rfl rfl (by omega) (Nat.le_of_ble_eq_true rfl) (c_X1i (T := (up (up T0 44 (oc [])) 45 (oc []))) (k := 40) (by omega) (by first | decide | omega) rfl rfl rfl rfl eqc_new (fun I2 J2 R2 g => ?_))
  refine X_putR dX2_init_12 gf_X2_12 (Or.inr ⟨rfl, rfl⟩) (by first | assumption | rfl) (by first | assumption | exact Nat.le_of_ble_eq_true rfl | omega) rfl rfl ?_
  refine X_abs (m := 42) (P := St 39 42 (up (up T0 44 (oc [])) 45 (oc [])) (fun _ => 0) [some 40] I J R) rfl (St_obj h1 g (by first | decide | omega)) (fun I1 J1 R1 h1 => ?_)
  refine X_aload_n dX2_init_15 rfl ?_
  refine X_new (N := 2) dX2_init_16 gn_X2_9 (by first | assumption | rfl) rfl (by first | decide | omega) ?_
  refine X_dup dX2_init_19 rfl ?_
  refine X_cI (mc := 1) (ms := 48) dX2_init_20 ck_X2_11 rfl rfl (by omega) (Nat.le_of_ble_eq_true rfl) (c_X1i (T := (up (up T0 44 (oc [])) 45 (oc []))) (k := 42) (by omega) (by first | decide | omega) rfl rfl rfl rfl eqc_new (fun I2 J2 R2 g => ?_))
  refine X_putR dX2_init_23 gf_X2_18 (Or.inr ⟨rfl, rfl⟩) (by first | assumption | rfl) (by first | assumption | exact Nat.le_of_ble_eq_true rfl | omega) rfl rfl ?_
  refine X_abs (m := 44) (P := St 39 44 (up (up T0 44 (oc [])) 45 (oc [])) (fun _ => 0) [some 40, some 42] I J R) rfl (St_obj h1 g (by first | decide | omega)) (fun I1 J1 R1 h1 => ?_)
  refine X_aload_n dX2_init_26 rfl ?_
  refine X_iconst (v := nI 4) dX2_init_27 (by decide) ?_
  refine X_newq (N := 4) dX2_init_28 gq_X2_21 (fun U h => h.2.2.1.2.2) (by first | assumption | rfl) (by decide) rfl rfl (by decide) (by first | decide | omega) ?_
  refine X_putR dX2_init_31 gf_X2_23 (Or.inr ⟨rfl, rfl⟩) (by first | assumption | rfl) (by first | assumption | exact Nat.le_of_ble_eq_true rfl | omega) rfl rfl ?_
  refine X_abs (m := 45) (P := St 39 45 (up (up T0 44 (oc [])) 45 (oc [])) (fun _ => 0) [some 40, some 42, some 44] I J R) rfl (St_arr h1 rfl) (fun I1 J1 R1 h1 => ?_)
  refine X_aload_n dX2_init_34 rfl ?_
  refine X_iconst (v := nI 5) dX2_init_35 (by decide) ?_
  refine X_newI (N := 5) dX2_init_36 aw_int (by first | assumption | rfl) rfl (by decide) (by first | decide | omega) ?_
  refine X_putR dX2_init_38 gf_X2_27 (Or.inr ⟨rfl, rfl⟩) (by first | assumption | rfl) (by first | assumption | exact Nat.le_of_ble_eq_true rfl | omega) rfl rfl ?_
  refine X_abs (m := 46) (P := St 39 46 (up (up T0 44 (oc [])) 45 (oc [])) (fun _ => 0) [some 40, some 42, some 44, some 45] I J R) rfl (St_arr h1 rfl) (fun I1 J1 R1 h1 => ?_)
  refine X_aload_n dX2_init_41 rfl ?_
  refine X_bipush (v := nI 15) dX2_init_42 (by decide) ?_
  refine X_putI dX2_init_44 gf_X2_31 (Or.inl rfl) (by first | assumption | rfl) (by first | assumption | exact Nat.le_of_ble_eq_true rfl | omega) rfl ?_
  refine X_abs (m := 46) (P := St 39 46 (up (up T0 44 (oc [])) 45 (oc [])) (up (fun _ => 0) 5 (nI 15)) [some 40, some 42, some 44, some 45] I J R) rfl (St_int h1) (fun I1 J1 R1 h1 => ?_)
  refine X_iconst (v := nI 0) dX2_init_47 (by decide) ?_
  refine X_istore_n dX2_init_48 rfl rfl ?_
  refine X_iload_n dX2_init_49 rfl ?_
  refine X_iconst (v := nI 4) dX2_init_50 (by decide) ?_
  refine X_icmp_ge (tgt := 73) dX2_init_51 (by decide) (fun b => ?_) (fun b => ?_)
  · exact absurd b (by decide)
  have r1 := St_me (i := 2) (c := some 44) h1 rfl
  refine X_aload_n dX2_init_54 rfl ?_
  refine X_getR dX2_init_55 gf_X2_23 (by first | assumption | rfl) (by first | assumption | exact Nat.le_of_ble_eq_true rfl | omega) rfl (by first | assumption | rfl) ?_
  refine X_iload_n dX2_init_58 rfl ?_
  refine X_new (N := 4) dX2_init_59 gn_X2_21 (by first | assumption | rfl) rfl (by first | decide | omega) ?_
  refine X_dup dX2_init_62 rfl ?_
  refine X_cI (mc := 5) (ms := 104) dX2_init_63 ck_X2_35 rfl rfl (by omega) (Nat.le_of_ble_eq_true rfl) (c_X9i (T := (up (up T0 44 (oc [])) 45 (oc []))) (k := 46) (by omega) (by first | decide | omega) rfl rfl rfl rfl rfl rfl rfl rfl rfl rfl rfl rfl eqc_new (fun I2 J2 R2 g => ?_))
  refine X_aast dX2_init_66 (by first | assumption | rfl) (by decide) rfl (by first | assumption | exact Nat.le_of_ble_eq_true rfl | omega) (by first | assumption | exact Nat.le_of_ble_eq_true rfl | omega) (by first | assumption | rfl) (by decide) rfl rfl (by first | decide | omega) (by decide) ?_
  clear r1
  refine X_abs (m := 52) (P := St 39 52 (up (up (up T0 44 (oc [])) 45 (oc [])) 44 (oc [some 46])) (up (fun _ => 0) 5 (nI 15)) [some 40, some 42, some 44, some 45] I J R) rfl (St_row (q := 44) (lq := []) h1 (by decide) rfl g (by first | decide | omega)) (fun I1 J1 R1 h1 => ?_)
  first | refine X_iinc1 dX2_init_67 rfl rfl rfl ?_ | refine X_iinc dX2_init_67 rfl rfl rfl rfl ?_
  refine X_goto (tgt := 49) dX2_init_70 (by decide) ?_
  refine X_iload_n dX2_init_49 rfl ?_
  refine X_iconst (v := nI 4) dX2_init_50 (by decide) ?_
  refine X_icmp_ge (tgt := 73) dX2_init_51 (by decide) (fun b => ?_) (fun b => ?_)
  · exact absurd b (by decide)
  have r1 := St_me (i := 2) (c := some 44) h1 rfl
  refine X_aload_n dX2_init_54 rfl ?_
  refine X_getR dX2_init_55 gf_X2_23 (by first | assumption | rfl) (by first | assumption | exact Nat.le_of_ble_eq_true rfl | omega) rfl (by first | assumption | rfl) ?_
  refine X_iload_n dX2_init_58 rfl ?_
  refine X_new (N := 4) dX2_init_59 gn_X2_21 (by first | assumption | rfl) rfl (by first | decide | omega) ?_
  refine X_dup dX2_init_62 rfl ?_
  refine X_cI (mc := 5) (ms := 104) dX2_init_63 ck_X2_35 rfl rfl (by omega) (Nat.le_of_ble_eq_true rfl) (c_X9i (T := (up (up (up T0 44 (oc [])) 45 (oc [])) 44 (oc [some 46]))) (k := 52) (by omega) (by first | decide | omega) rfl rfl rfl rfl rfl rfl rfl rfl rfl rfl rfl rfl eqc_new (fun I2 J2 R2 g => ?_))
  refine X_aast dX2_init_66 (by first | assumption | rfl) (by decide) rfl (by first | assumption | exact Nat.le_of_ble_eq_true rfl | omega) (by first | assumption | exact Nat.le_of_ble_eq_true rfl | omega) (by first | assumption | rfl) (by decide) rfl rfl (by first | decide | omega) (by decide) ?_
  clear r1
  refine X_abs (m := 58) (P := St 39 58 (up (up (up (up T0 44 (oc [])) 45 (oc [])) 44 (oc [some 46])) 44 (oc [some 46, some 52])) (up (fun _ => 0) 5 (nI 15)) [some 40, some 42, some 44, some 45] I J R) rfl (St_row (q := 44) (lq := [some 46]) h1 (by decide) rfl g (by first | decide | omega)) (fun I1 J1 R1 h1 => ?_)
  first | refine X_iinc1 dX2_init_67 rfl rfl rfl ?_ | refine X_iinc dX2_init_67 rfl rfl rfl rfl ?_
  refine X_goto (tgt := 49) dX2_init_70 (by decide) ?_
  refine X_iload_n dX2_init_49 rfl ?_
  refine X_iconst (v := nI 4) dX2_init_50 (by decide) ?_
  refine X_icmp_ge (tgt := 73) dX2_init_51 (by decide) (fun b => ?_) (fun b => ?_)
  · exact absurd b (by decide)
  have r1 := St_me (i := 2) (c := some 44) h1 rfl
  refine X_aload_n dX2_init_54 rfl ?_
  refine X_getR dX2_init_55 gf_X2_23 (by first | assumption | rfl) (by first | assumption | exact Nat.le_of_ble_eq_true rfl | omega) rfl (by first | assumption | rfl) ?_
  refine X_iload_n dX2_init_58 rfl ?_
  refine X_new (N := 4) dX2_init_59 gn_X2_21 (by first | assumption | rfl) rfl (by first | decide | omega) ?_
  refine X_dup dX2_init_62 rfl ?_
  refine X_cI (mc := 5) (ms := 104) dX2_init_63 ck_X2_35 rfl rfl (by omega) (Nat.le_of_ble_eq_true rfl) (c_X9i (T := (up (up (up (up T0 44 (oc [])) 45 (oc [])) 44 (oc [some 46])) 44 (oc [some 46, some 52]))) (k := 58) (by omega) (by first | decide | omega) rfl rfl rfl rfl rfl rfl rfl rfl rfl rfl rfl rfl eqc_new (fun I2 J2 R2 g => ?_))
  refine X_aast dX2_init_66 (by first | assumption | rfl) (by decide) rfl (by first | assumption | exact Nat.le_of_ble_eq_true rfl | omega) (by first | assumption | exact Nat.le_of_ble_eq_true rfl | omega) (by first | assumption | rfl) (by decide) rfl rfl (by first | decide | omega) (by decide) ?_
  clear r1
  refine X_abs (m := 64) (P := St 39 64 (up (up (up (up (up T0 44 (oc [])) 45 (oc [])) 44 (oc [some 46])) 44 (oc [some 46, some 52])) 44 (oc [some 46, some 52, some 58])) (up (fun _ => 0) 5 (nI 15)) [some 40, some 42, some 44, some 45] I J R) rfl (St_row (q := 44) (lq := [some 46, some 52]) h1 (by decide) rfl g (by first | decide | omega)) (fun I1 J1 R1 h1 => ?_)
  first | refine X_iinc1 dX2_init_67 rfl rfl rfl ?_ | refine X_iinc dX2_init_67 rfl rfl rfl rfl ?_
  refine X_goto (tgt := 49) dX2_init_70 (by decide) ?_
  refine X_iload_n dX2_init_49 rfl ?_
  refine X_iconst (v := nI 4) dX2_init_50 (by decide) ?_
  refine X_icmp_ge (tgt := 73) dX2_init_51 (by decide) (fun b => ?_) (fun b => ?_)
  · exact absurd b (by decide)
  have r1 := St_me (i := 2) (c := some 44) h1 rfl
  refine X_aload_n dX2_init_54 rfl ?_
  refine X_getR dX2_init_55 gf_X2_23 (by first | assumption | rfl) (by first | assumption | exact Nat.le_of_ble_eq_true rfl | omega) rfl (by first | assumption | rfl) ?_
  refine X_iload_n dX2_init_58 rfl ?_
  refine X_new (N := 4) dX2_init_59 gn_X2_21 (by first | assumption | rfl) rfl (by first | decide | omega) ?_
  refine X_dup dX2_init_62 rfl ?_
  refine X_cI (mc := 5) (ms := 104) dX2_init_63 ck_X2_35 rfl rfl (by omega) (Nat.le_of_ble_eq_true rfl) (c_X9i (T := (up (up (up (up (up T0 44 (oc [])) 45 (oc [])) 44 (oc [some 46])) 44 (oc [some 46, some 52])) 44 (oc [some 46, some 52, some 58]))) (k := 64) (by omega) (by first | decide | omega) rfl rfl rfl rfl rfl rfl rfl rfl rfl rfl rfl rfl eqc_new (fun I2 J2 R2 g => ?_))
  refine X_aast dX2_init_66 (by first | assumption | rfl) (by decide) rfl (by first | assumption | exact Nat.le_of_ble_eq_true rfl | omega) (by first | assumption | exact Nat.le_of_ble_eq_true rfl | omega) (by first | assumption | rfl) (by decide) rfl rfl (by first | decide | omega) (by decide) ?_
  clear r1
  refine X_abs (m := 70) (P := St 39 70 (up (up (up (up (up (up T0 44 (oc [])) 45 (oc [])) 44 (oc [some 46])) 44 (oc [some 46, some 52])) 44 (oc [some 46, some 52, some 58])) 44 (oc [some 46, some 52, some 58, some 64])) (up (fun _ => 0) 5 (nI 15)) [some 40, some 42, some 44, some 45] I J R) rfl (St_row (q := 44) (lq := [some 46, some 52, some 58]) h1 (by decide) rfl g (by first | decide | omega)) (fun I1 J1 R1 h1 => ?_)
  first | refine X_iinc1 dX2_init_67 rfl rfl rfl ?_ | refine X_iinc dX2_init_67 rfl rfl rfl rfl ?_
  refine X_goto (tgt := 49) dX2_init_70 (by decide) ?_
  refine X_iload_n dX2_init_49 rfl ?_
  refine X_iconst (v := nI 4) dX2_init_50 (by decide) ?_
  refine X_icmp_ge (tgt := 73) dX2_init_51 (by decide) (fun b => ?_) (fun b => ?_)
  rotate_left
  · exact absurd (by decide) b
  have r1 := St_me (i := 3) (c := some 45) h1 rfl
  have z1 := (St_at (q := 45) h1 (by decide)).1
  refine X_aload_n dX2_init_73 rfl ?_
  refine X_getR dX2_init_74 gf_X2_27 (by first | assumption | rfl) (by first | assumption | exact Nat.le_of_ble_eq_true rfl | omega) rfl (by first | assumption | rfl) ?_
  refine X_iconst (v := nI 1) dX2_init_77 (by decide) ?_
  refine X_cSv dX2_init_78 ck_X2_36 rfl rfl (by omega) (Nat.le_of_ble_eq_true rfl) (c_fillG rfl (by decide) (by decide) (fun I2 f2 e2 => ?_))
  clear r1
  refine X_abs (m := 70) (P := St 39 70 (up (up (up (up (up (up (up T0 44 (oc [])) 45 (oc [])) 44 (oc [some 46])) 44 (oc [some 46, some 52])) 44 (oc [some 46, some 52, some 58])) 44 (oc [some 46, some 52, some 58, some 64])) 45 (filF (fun _ => 0) 5 (nI 1), ((up (up (up (up (up (up T0 44 (oc [])) 45 (oc [])) 44 (oc [some 46])) 44 (oc [some 46, some 52])) 44 (oc [some 46, some 52, some 58])) 44 (oc [some 46, some 52, some 58, some 64])) 45).2.1, ((up (up (up (up (up (up T0 44 (oc [])) 45 (oc [])) 44 (oc [some 46])) 44 (oc [some 46, some 52])) 44 (oc [some 46, some 52, some 58])) 44 (oc [some 46, some 52, some 58, some 64])) 45).2.2)) (up (fun _ => 0) 5 (nI 15)) [some 40, some 42, some 44, some 45] I J R) rfl (St_ints (q := 45) h1 (by decide) f2 (by rw [e2, z1]; rfl)) (fun I1 J1 R1 h1 => ?_)
  have hT : ∀ j, 39 < j → j < 70 → (up (up (up (up (up (up (up T0 44 (oc [])) 45 (oc [])) 44 (oc [some 46])) 44 (oc [some 46, some 52])) 44 (oc [some 46, some 52, some 58])) 44 (oc [some 46, some 52, some 58, some 64])) 45 (filF (fun _ => 0) 5 (nI 1), ((up (up (up (up (up (up T0 44 (oc [])) 45 (oc [])) 44 (oc [some 46])) 44 (oc [some 46, some 52])) 44 (oc [some 46, some 52, some 58])) 44 (oc [some 46, some 52, some 58, some 64])) 45).2.1, ((up (up (up (up (up (up T0 44 (oc [])) 45 (oc [])) 44 (oc [some 46])) 44 (oc [some 46, some 52])) 44 (oc [some 46, some 52, some 58])) 44 (oc [some 46, some 52, some 58, some 64])) 45).2.2)) j = T j := fun j a b => by
    by_cases h44 : j = 44
    · subst h44
      exact Eq.trans (b := T0 44) rfl (ht 44 (by decide) (by decide)).symm
    by_cases h45 : j = 45
    · subst h45
      exact Eq.trans (b := T0 45) rfl (ht 45 (by decide) (by decide)).symm
    simp only [up_ne h44, up_ne h45]
    exact (ht j (by omega) b).symm
  exact X_vret dX2_init_81 rfl ⟨rfl, hQ _ _ _ (St_end h1 hT (ht _ (by decide) (by decide)))⟩
set_option maxRecDepth 20000 in
theorem c_X2i_70 {Q : Mm → Prop} {T : Nat → Cz} (hd : 3 ≤ d) (ht : ∀ j, 70 ≤ j → j < 101 → T j = T0 j) (h0 : eqc I J R 70 (oc [])) (hQ : ∀ I' J' R', Good 70 101 T I J R I' J' R' → Q (101, I', J', R')) : Y G d zX2_init [vr 70] (71, I, J, R) 30 541 (qv Q) := by
  refine Y_of rfl rfl (Nat.le_of_ble_eq_true rfl) rfl ?_
  refine X_aload_n dX2_init_0 rfl ?_
  refine X_objInit dX2_init_1 oi_X2_3 oi_2 oi_3 (by omega) (Nat.le_of_ble_eq_true rfl) ?_
  refine X_abs (m := 71) (P := St 70 71 (up (up T0 75 (oc [])) 76 (oc [])) (fun _ => 0) [] I J R) rfl (St_0 h0) (fun I1 J1 R1 h1 => ?_)
  refine X_aload_n dX2_init_4 rfl ?_
  refine X_new (N := 2) dX2_init_5 gn_X2_9 (by first | assumption | rfl) rfl (by first | decide | omega) ?_
  refine X_dup dX2_init_8 rfl ?_
  refine X_cI (mc := 1) (ms := 48) dX2_init_9 ck_X2_11 rfl rfl (by omega) (Nat.le_of_ble_eq_true rfl) (c_X1i (T := (up (up T0 75 (oc [])) 76 (oc []))) (k := 71) (by omega) (by first | decide | omega) rfl rfl rfl rfl eqc_new (fun I2 J2 R2 g => ?_))
  refine X_putR dX2_init_12 gf_X2_12 (Or.inr ⟨rfl, rfl⟩) (by first | assumption | rfl) (by first | assumption | exact Nat.le_of_ble_eq_true rfl | omega) rfl rfl ?_
  refine X_abs (m := 73) (P := St 70 73 (up (up T0 75 (oc [])) 76 (oc [])) (fun _ => 0) [some 71] I J R) rfl (St_obj h1 g (by first | decide | omega)) (fun I1 J1 R1 h1 => ?_)
  refine X_aload_n dX2_init_15 rfl ?_
  refine X_new (N := 2) dX2_init_16 gn_X2_9 (by first | assumption | rfl) rfl (by first | decide | omega) ?_
  refine X_dup dX2_init_19 rfl ?_
  refine X_cI (mc := 1) (ms := 48) dX2_init_20 ck_X2_11 rfl rfl (by omega) (Nat.le_of_ble_eq_true rfl) (c_X1i (T := (up (up T0 75 (oc [])) 76 (oc []))) (k := 73) (by omega) (by first | decide | omega) rfl rfl rfl rfl eqc_new (fun I2 J2 R2 g => ?_))
  refine X_putR dX2_init_23 gf_X2_18 (Or.inr ⟨rfl, rfl⟩) (by first | assumption | rfl) (by first | assumption | exact Nat.le_of_ble_eq_true rfl | omega) rfl rfl ?_
  refine X_abs (m := 75) (P := St 70 75 (up (up T0 75 (oc [])) 76 (oc [])) (fun _ => 0) [some 71, some 73] I J R) rfl (St_obj h1 g (by first | decide | omega)) (fun I1 J1 R1 h1 => ?_)
  refine X_aload_n dX2_init_26 rfl ?_
  refine X_iconst (v := nI 4) dX2_init_27 (by decide) ?_
  refine X_newq (N := 4) dX2_init_28 gq_X2_21 (fun U h => h.2.2.1.2.2) (by first | assumption | rfl) (by decide) rfl rfl (by decide) (by first | decide | omega) ?_
  refine X_putR dX2_init_31 gf_X2_23 (Or.inr ⟨rfl, rfl⟩) (by first | assumption | rfl) (by first | assumption | exact Nat.le_of_ble_eq_true rfl | omega) rfl rfl ?_
  refine X_abs (m := 76) (P := St 70 76 (up (up T0 75 (oc [])) 76 (oc [])) (fun _ => 0) [some 71, some 73, some 75] I J R) rfl (St_arr h1 rfl) (fun I1 J1 R1 h1 => ?_)
  refine X_aload_n dX2_init_34 rfl ?_
  refine X_iconst (v := nI 5) dX2_init_35 (by decide) ?_
  refine X_newI (N := 5) dX2_init_36 aw_int (by first | assumption | rfl) rfl (by decide) (by first | decide | omega) ?_
  refine X_putR dX2_init_38 gf_X2_27 (Or.inr ⟨rfl, rfl⟩) (by first | assumption | rfl) (by first | assumption | exact Nat.le_of_ble_eq_true rfl | omega) rfl rfl ?_
  refine X_abs (m := 77) (P := St 70 77 (up (up T0 75 (oc [])) 76 (oc [])) (fun _ => 0) [some 71, some 73, some 75, some 76] I J R) rfl (St_arr h1 rfl) (fun I1 J1 R1 h1 => ?_)
  refine X_aload_n dX2_init_41 rfl ?_
  refine X_bipush (v := nI 15) dX2_init_42 (by decide) ?_
  refine X_putI dX2_init_44 gf_X2_31 (Or.inl rfl) (by first | assumption | rfl) (by first | assumption | exact Nat.le_of_ble_eq_true rfl | omega) rfl ?_
  refine X_abs (m := 77) (P := St 70 77 (up (up T0 75 (oc [])) 76 (oc [])) (up (fun _ => 0) 5 (nI 15)) [some 71, some 73, some 75, some 76] I J R) rfl (St_int h1) (fun I1 J1 R1 h1 => ?_)
  refine X_iconst (v := nI 0) dX2_init_47 (by decide) ?_
  refine X_istore_n dX2_init_48 rfl rfl ?_
  refine X_iload_n dX2_init_49 rfl ?_
  refine X_iconst (v := nI 4) dX2_init_50 (by decide) ?_
  refine X_icmp_ge (tgt := 73) dX2_init_51 (by decide) (fun b => ?_) (fun b => ?_)
  · exact absurd b (by decide)
  have r1 := St_me (i := 2) (c := some 75) h1 rfl
  refine X_aload_n dX2_init_54 rfl ?_
  refine X_getR dX2_init_55 gf_X2_23 (by first | assumption | rfl) (by first | assumption | exact Nat.le_of_ble_eq_true rfl | omega) rfl (by first | assumption | rfl) ?_
  refine X_iload_n dX2_init_58 rfl ?_
  refine X_new (N := 4) dX2_init_59 gn_X2_21 (by first | assumption | rfl) rfl (by first | decide | omega) ?_
  refine X_dup dX2_init_62 rfl ?_
  refine X_cI (mc := 5) (ms := 104) dX2_init_63 ck_X2_35 rfl rfl (by omega) (Nat.le_of_ble_eq_true rfl) (c_X9i (T := (up (up T0 75 (oc [])) 76 (oc []))) (k := 77) (by omega) (by first | decide | omega) rfl rfl rfl rfl rfl rfl rfl rfl rfl rfl rfl rfl eqc_new (fun I2 J2 R2 g => ?_))
  refine X_aast dX2_init_66 (by first | assumption | rfl) (by decide) rfl (by first | assumption | exact Nat.le_of_ble_eq_true rfl | omega) (by first | assumption | exact Nat.le_of_ble_eq_true rfl | omega) (by first | assumption | rfl) (by decide) rfl rfl (by first | decide | omega) (by decide) ?_
  clear r1
  refine X_abs (m := 83) (P := St 70 83 (up (up (up T0 75 (oc [])) 76 (oc [])) 75 (oc [some 77])) (up (fun _ => 0) 5 (nI 15)) [some 71, some 73, some 75, some 76] I J R) rfl (St_row (q := 75) (lq := []) h1 (by decide) rfl g (by first | decide | omega)) (fun I1 J1 R1 h1 => ?_)
  first | refine X_iinc1 dX2_init_67 rfl rfl rfl ?_ | refine X_iinc dX2_init_67 rfl rfl rfl rfl ?_
  refine X_goto (tgt := 49) dX2_init_70 (by decide) ?_
  refine X_iload_n dX2_init_49 rfl ?_
  refine X_iconst (v := nI 4) dX2_init_50 (by decide) ?_
  refine X_icmp_ge (tgt := 73) dX2_init_51 (by decide) (fun b => ?_) (fun b => ?_)
  · exact absurd b (by decide)
  have r1 := St_me (i := 2) (c := some 75) h1 rfl
  refine X_aload_n dX2_init_54 rfl ?_
  refine X_getR dX2_init_55 gf_X2_23 (by first | assumption | rfl) (by first | assumption | exact Nat.le_of_ble_eq_true rfl | omega) rfl (by first | assumption | rfl) ?_
  refine X_iload_n dX2_init_58 rfl ?_
  refine X_new (N := 4) dX2_init_59 gn_X2_21 (by first | assumption | rfl) rfl (by first | decide | omega) ?_
  refine X_dup dX2_init_62 rfl ?_
  refine X_cI (mc := 5) (ms := 104) dX2_init_63 ck_X2_35 rfl rfl (by omega) (Nat.le_of_ble_eq_true rfl) (c_X9i (T := (up (up (up T0 75 (oc [])) 76 (oc [])) 75 (oc [some 77]))) (k := 83) (by omega) (by first | decide | omega) rfl rfl rfl rfl rfl rfl rfl rfl rfl rfl rfl rfl eqc_new (fun I2 J2 R2 g => ?_))
  refine X_aast dX2_init_66 (by first | assumption | rfl) (by decide) rfl (by first | assumption | exact Nat.le_of_ble_eq_true rfl | omega) (by first | assumption | exact Nat.le_of_ble_eq_true rfl | omega) (by first | assumption | rfl) (by decide) rfl rfl (by first | decide | omega) (by decide) ?_
  clear r1
  refine X_abs (m := 89) (P := St 70 89 (up (up (up (up T0 75 (oc [])) 76 (oc [])) 75 (oc [some 77])) 75 (oc [some 77, some 83])) (up (fun _ => 0) 5 (nI 15)) [some 71, some 73, some 75, some 76] I J R) rfl (St_row (q := 75) (lq := [some 77]) h1 (by decide) rfl g (by first | decide | omega)) (fun I1 J1 R1 h1 => ?_)
  first | refine X_iinc1 dX2_init_67 rfl rfl rfl ?_ | refine X_iinc dX2_init_67 rfl rfl rfl rfl ?_
  refine X_goto (tgt := 49) dX2_init_70 (by decide) ?_
  refine X_iload_n dX2_init_49 rfl ?_
  refine X_iconst (v := nI 4) dX2_init_50 (by decide) ?_
  refine X_icmp_ge (tgt := 73) dX2_init_51 (by decide) (fun b => ?_) (fun b => ?_)
  · exact absurd b (by decide)
  have r1 := St_me (i := 2) (c := some 75) h1 rfl
  refine X_aload_n dX2_init_54 rfl ?_
  refine X_getR dX2_init_55 gf_X2_23 (by first | assumption | rfl) (by first | assumption | exact Nat.le_of_ble_eq_true rfl | omega) rfl (by first | assumption | rfl) ?_
  refine X_iload_n dX2_init_58 rfl ?_
  refine X_new (N := 4) dX2_init_59 gn_X2_21 (by first | assumption | rfl) rfl (by first | decide | omega) ?_
  refine X_dup dX2_init_62 rfl ?_
  refine X_cI (mc := 5) (ms := 104) dX2_init_63 ck_X2_35 rfl rfl (by omega) (Nat.le_of_ble_eq_true rfl) (c_X9i (T := (up (up (up (up T0 75 (oc [])) 76 (oc [])) 75 (oc [some 77])) 75 (oc [some 77, some 83]))) (k := 89) (by omega) (by first | decide | omega) rfl rfl rfl rfl rfl rfl rfl rfl rfl rfl rfl rfl eqc_new (fun I2 J2 R2 g => ?_))
  refine X_aast dX2_init_66 (by first | assumption | rfl) (by decide) rfl (by first | assumption | exact Nat.le_of_ble_eq_true rfl | omega) (by first | assumption | exact Nat.le_of_ble_eq_true rfl | omega) (by first | assumption | rfl) (by decide) rfl rfl (by first | decide | omega) (by decide) ?_
  clear r1
  refine X_abs (m := 95) (P := St 70 95 (up (up (up (up (up T0 75 (oc [])) 76 (oc [])) 75 (oc [some 77])) 75 (oc [some 77, some 83])) 75 (oc [some 77, some 83, some 89])) (up (fun _ => 0) 5 (nI 15)) [some 71, some 73, some 75, some 76] I J R) rfl (St_row (q := 75) (lq := [some 77, some 83]) h1 (by decide) rfl g (by first | decide | omega)) (fun I1 J1 R1 h1 => ?_)
  first | refine X_iinc1 dX2_init_67 rfl rfl rfl ?_ | refine X_iinc dX2_init_67 rfl rfl rfl rfl ?_
  refine X_goto (tgt := 49) dX2_init_70 (by decide) ?_
  refine X_iload_n dX2_init_49 rfl ?_
  refine X_iconst (v := nI 4) dX2_init_50 (by decide) ?_
  refine X_icmp_ge (tgt := 73) dX2_init_51 (by decide) (fun b => ?_) (fun b => ?_)
  · exact absurd b (by decide)
  have r1 := St_me (i := 2) (c := some 75) h1 rfl
  refine X_aload_n dX2_init_54 rfl ?_
  refine X_getR dX2_init_55 gf_X2_23 (by first | assumption | rfl) (by first | assumption | exact Nat.le_of_ble_eq_true rfl | omega) rfl (by first | assumption | rfl) ?_
  refine X_iload_n dX2_init_58 rfl ?_
  refine X_new (N := 4) dX2_init_59 gn_X2_21 (by first | assumption | rfl) rfl (by first | decide | omega) ?_
  refine X_dup dX2_init_62 rfl ?_
  refine X_cI (mc := 5) (ms := 104) dX2_init_63 ck_X2_35 rfl rfl (by omega) (Nat.le_of_ble_eq_true rfl) (c_X9i (T := (up (up (up (up (up T0 75 (oc [])) 76 (oc [])) 75 (oc [some 77])) 75 (oc [some 77, some 83])) 75 (oc [some 77, some 83, some 89]))) (k := 95) (by omega) (by first | decide | omega) rfl rfl rfl rfl rfl rfl rfl rfl rfl rfl rfl rfl eqc_new (fun I2 J2 R2 g => ?_))
  refine X_aast dX2_init_66 (by first | assumption | rfl) (by decide) rfl (by first | assumption | exact Nat.le_of_ble_eq_true rfl | omega) (by first | assumption | exact Nat.le_of_ble_eq_true rfl | omega) (by first | assumption | rfl) (by decide) rfl rfl (by first | decide | omega) (by decide) ?_
  clear r1
  refine X_abs (m := 101) (P := St 70 101 (up (up (up (up (up (up T0 75 (oc [])) 76 (oc [])) 75 (oc [some 77])) 75 (oc [some 77, some 83])) 75 (oc [some 77, some 83, some 89])) 75 (oc [some 77, some 83, some 89, some 95])) (up (fun _ => 0) 5 (nI 15)) [some 71, some 73, some 75, some 76] I J R) rfl (St_row (q := 75) (lq := [some 77, some 83, some 89]) h1 (by decide) rfl g (by first | decide | omega)) (fun I1 J1 R1 h1 => ?_)
  first | refine X_iinc1 dX2_init_67 rfl rfl rfl ?_ | refine X_iinc dX2_init_67 rfl rfl rfl rfl ?_
  refine X_goto (tgt := 49) dX2_init_70 (by decide) ?_
  refine X_iload_n dX2_init_49 rfl ?_
  refine X_iconst (v := nI 4) dX2_init_50 (by decide) ?_
  refine X_icmp_ge (tgt := 73) dX2_init_51 (by decide) (fun b => ?_) (fun b => ?_)
  rotate_left
  · exact absurd (by decide) b
  have r1 := St_me (i := 3) (c := some 76) h1 rfl
  have z1 := (St_at (q := 76) h1 (by decide)).1
  refine X_aload_n dX2_init_73 rfl ?_
  refine X_getR dX2_init_74 gf_X2_27 (by first | assumption | rfl) (by first | assumption | exact Nat.le_of_ble_eq_true rfl | omega) rfl (by first | assumption | rfl) ?_
  refine X_iconst (v := nI 1) dX2_init_77 (by decide) ?_
  refine X_cSv dX2_init_78 ck_X2_36 rfl rfl (by omega) (Nat.le_of_ble_eq_true rfl) (c_fillG rfl (by decide) (by decide) (fun I2 f2 e2 => ?_))
  clear r1
  refine X_abs (m := 101) (P := St 70 101 (up (up (up (up (up (up (up T0 75 (oc [])) 76 (oc [])) 75 (oc [some 77])) 75 (oc [some 77, some 83])) 75 (oc [some 77, some 83, some 89])) 75 (oc [some 77, some 83, some 89, some 95])) 76 (filF (fun _ => 0) 5 (nI 1), ((up (up (up (up (up (up T0 75 (oc [])) 76 (oc [])) 75 (oc [some 77])) 75 (oc [some 77, some 83])) 75 (oc [some 77, some 83, some 89])) 75 (oc [some 77, some 83, some 89, some 95])) 76).2.1, ((up (up (up (up (up (up T0 75 (oc [])) 76 (oc [])) 75 (oc [some 77])) 75 (oc [some 77, some 83])) 75 (oc [some 77, some 83, some 89])) 75 (oc [some 77, some 83, some 89, some 95])) 76).2.2)) (up (fun _ => 0) 5 (nI 15)) [some 71, some 73, some 75, some 76] I J R) rfl (St_ints (q := 76) h1 (by decide) f2 (by rw [e2, z1]; rfl)) (fun I1 J1 R1 h1 => ?_)
  have hT : ∀ j, 70 < j → j < 101 → (up (up (up (up (up (up (up T0 75 (oc [])) 76 (oc [])) 75 (oc [some 77])) 75 (oc [some 77, some 83])) 75 (oc [some 77, some 83, some 89])) 75 (oc [some 77, some 83, some 89, some 95])) 76 (filF (fun _ => 0) 5 (nI 1), ((up (up (up (up (up (up T0 75 (oc [])) 76 (oc [])) 75 (oc [some 77])) 75 (oc [some 77, some 83])) 75 (oc [some 77, some 83, some 89])) 75 (oc [some 77, some 83, some 89, some 95])) 76).2.1, ((up (up (up (up (up (up T0 75 (oc [])) 76 (oc [])) 75 (oc [some 77])) 75 (oc [some 77, some 83])) 75 (oc [some 77, some 83, some 89])) 75 (oc [some 77, some 83, some 89, some 95])) 76).2.2)) j = T j := fun j a b => by
    by_cases h75 : j = 75
    · subst h75
      exact Eq.trans (b := T0 75) rfl (ht 75 (by decide) (by decide)).symm
    by_cases h76 : j = 76
    · subst h76
      exact Eq.trans (b := T0 76) rfl (ht 76 (by decide) (by decide)).symm
    simp only [up_ne h75, up_ne h76]
    exact (ht j (by omega) b).symm
  exact X_vret dX2_init_81 rfl ⟨rfl, hQ _ _ _ (St_end h1 hT (ht _ (by decide) (by decide)))⟩
set_option maxRecDepth 20000 in
theorem c_beginPairs {Q : Mm → Prop} {n : Nat} (hn : 154 < n) (hr : R 153 0 = some 154) (h0 : J 154 = fun _ => 0) (hQ : ∀ J', (∀ j, j ≠ 154 → J' j = J j) → J' 154 = jbF → Q (n, I, J', R)) : Y G d zX8_beginPairs [vr 153] (n, I, J, R) 0 0 (qv Q) := by
  have hn3 : 153 < n := by omega
  refine Y_of rfl rfl (Nat.le_of_ble_eq_true rfl) rfl ?_
  refine X_iconst (v := nI 0) dX8_beginPairs_0 (by decide) ?_
  refine X_istore_n dX8_beginPairs_1 rfl rfl ?_
  refine X_iload_n dX8_beginPairs_2 rfl ?_
  refine X_iconst (v := nI 3) dX8_beginPairs_3 (by decide) ?_
  refine X_icmp_ge (tgt := 57) dX8_beginPairs_4 (by decide) (fun b => ?_) (fun b => ?_)
  · exact absurd b (by decide)
  refine X_aload_n dX8_beginPairs_7 rfl ?_
  refine X_getR dX8_beginPairs_8 gf_X8_11 (by first | assumption | rfl) (by first | assumption | exact Nat.le_of_ble_eq_true rfl | omega) rfl (by first | assumption | rfl) ?_
  refine X_iload_n dX8_beginPairs_11 rfl ?_
  refine X_gets dX8_beginPairs_12 gs_X8_15 hzH ?_
  refine X_iload_n dX8_beginPairs_15 rfl ?_
  first | refine X_lald dX8_beginPairs_16 (by first | assumption | rfl) (by first | assumption | exact Nat.le_of_ble_eq_true rfl | omega) rfl (by first | decide | omega) (by decide) ?_ | refine X_lldH dX8_beginPairs_16 rfl (by omega) ?_ | refine X_lldL dX8_beginPairs_16 rfl (by omega) ?_
  refine X_last dX8_beginPairs_17 (by first | assumption | rfl) (by first | assumption | exact Nat.le_of_ble_eq_true rfl | omega) rfl (by first | decide | omega) (by decide) ?_
  refine X_aload_n dX8_beginPairs_18 rfl ?_
  refine X_getR dX8_beginPairs_19 gf_X8_11 (by first | assumption | rfl) (by first | assumption | exact Nat.le_of_ble_eq_true rfl | omega) rfl (by first | assumption | rfl) ?_
  refine X_iconst (v := nI 3) dX8_beginPairs_22 (by decide) ?_
  refine X_iload_n dX8_beginPairs_23 rfl ?_
  first | refine X_iaddN dX8_beginPairs_24 ?_ | refine X_iadd dX8_beginPairs_24 ?_
  refine X_gets dX8_beginPairs_25 gs_X8_18 hzL ?_
  refine X_iload_n dX8_beginPairs_28 rfl ?_
  first | refine X_lald dX8_beginPairs_29 (by first | assumption | rfl) (by first | assumption | exact Nat.le_of_ble_eq_true rfl | omega) rfl (by first | decide | omega) (by decide) ?_ | refine X_lldH dX8_beginPairs_29 rfl (by omega) ?_ | refine X_lldL dX8_beginPairs_29 rfl (by omega) ?_
  refine X_last dX8_beginPairs_30 (by first | assumption | rfl) (by first | assumption | exact Nat.le_of_ble_eq_true rfl | omega) rfl (by first | decide | omega) (by decide) ?_
  refine X_aload_n dX8_beginPairs_31 rfl ?_
  refine X_getR dX8_beginPairs_32 gf_X8_11 (by first | assumption | rfl) (by first | assumption | exact Nat.le_of_ble_eq_true rfl | omega) rfl (by first | assumption | rfl) ?_
  refine X_bipush (v := nI 6) dX8_beginPairs_35 (by decide) ?_
  refine X_iload_n dX8_beginPairs_37 rfl ?_
  first | refine X_iaddN dX8_beginPairs_38 ?_ | refine X_iadd dX8_beginPairs_38 ?_
  refine X_lconst (v := 0) dX8_beginPairs_39 (by decide) ?_
  refine X_last dX8_beginPairs_40 (by first | assumption | rfl) (by first | assumption | exact Nat.le_of_ble_eq_true rfl | omega) rfl (by first | decide | omega) (by decide) ?_
  refine X_aload_n dX8_beginPairs_41 rfl ?_
  refine X_getR dX8_beginPairs_42 gf_X8_11 (by first | assumption | rfl) (by first | assumption | exact Nat.le_of_ble_eq_true rfl | omega) rfl (by first | assumption | rfl) ?_
  refine X_bipush (v := nI 9) dX8_beginPairs_45 (by decide) ?_
  refine X_iload_n dX8_beginPairs_47 rfl ?_
  first | refine X_iaddN dX8_beginPairs_48 ?_ | refine X_iadd dX8_beginPairs_48 ?_
  refine X_lconst (v := 0) dX8_beginPairs_49 (by decide) ?_
  refine X_last dX8_beginPairs_50 (by first | assumption | rfl) (by first | assumption | exact Nat.le_of_ble_eq_true rfl | omega) rfl (by first | decide | omega) (by decide) ?_
  first | refine X_iinc1 dX8_beginPairs_51 rfl rfl rfl ?_ | refine X_iinc dX8_beginPairs_51 rfl rfl rfl rfl ?_
  refine X_goto (tgt := 2) dX8_beginPairs_54 (by decide) ?_
  refine X_iload_n dX8_beginPairs_2 rfl ?_
  refine X_iconst (v := nI 3) dX8_beginPairs_3 (by decide) ?_
  refine X_icmp_ge (tgt := 57) dX8_beginPairs_4 (by decide) (fun b => ?_) (fun b => ?_)
  · exact absurd b (by decide)
  refine X_aload_n dX8_beginPairs_7 rfl ?_
  refine X_getR dX8_beginPairs_8 gf_X8_11 (by first | assumption | rfl) (by first | assumption | exact Nat.le_of_ble_eq_true rfl | omega) rfl (by first | assumption | rfl) ?_
  refine X_iload_n dX8_beginPairs_11 rfl ?_
  refine X_gets dX8_beginPairs_12 gs_X8_15 hzH ?_
  refine X_iload_n dX8_beginPairs_15 rfl ?_
  first | refine X_lald dX8_beginPairs_16 (by first | assumption | rfl) (by first | assumption | exact Nat.le_of_ble_eq_true rfl | omega) rfl (by first | decide | omega) (by decide) ?_ | refine X_lldH dX8_beginPairs_16 rfl (by omega) ?_ | refine X_lldL dX8_beginPairs_16 rfl (by omega) ?_
  refine X_last dX8_beginPairs_17 (by first | assumption | rfl) (by first | assumption | exact Nat.le_of_ble_eq_true rfl | omega) rfl (by first | decide | omega) (by decide) ?_
  refine X_aload_n dX8_beginPairs_18 rfl ?_
  refine X_getR dX8_beginPairs_19 gf_X8_11 (by first | assumption | rfl) (by first | assumption | exact Nat.le_of_ble_eq_true rfl | omega) rfl (by first | assumption | rfl) ?_
  refine X_iconst (v := nI 3) dX8_beginPairs_22 (by decide) ?_
  refine X_iload_n dX8_beginPairs_23 rfl ?_
  first | refine X_iaddN dX8_beginPairs_24 ?_ | refine X_iadd dX8_beginPairs_24 ?_
  refine X_gets dX8_beginPairs_25 gs_X8_18 hzL ?_
  refine X_iload_n dX8_beginPairs_28 rfl ?_
  first | refine X_lald dX8_beginPairs_29 (by first | assumption | rfl) (by first | assumption | exact Nat.le_of_ble_eq_true rfl | omega) rfl (by first | decide | omega) (by decide) ?_ | refine X_lldH dX8_beginPairs_29 rfl (by omega) ?_ | refine X_lldL dX8_beginPairs_29 rfl (by omega) ?_
  refine X_last dX8_beginPairs_30 (by first | assumption | rfl) (by first | assumption | exact Nat.le_of_ble_eq_true rfl | omega) rfl (by first | decide | omega) (by decide) ?_
  refine X_aload_n dX8_beginPairs_31 rfl ?_
  refine X_getR dX8_beginPairs_32 gf_X8_11 (by first | assumption | rfl) (by first | assumption | exact Nat.le_of_ble_eq_true rfl | omega) rfl (by first | assumption | rfl) ?_
  refine X_bipush (v := nI 6) dX8_beginPairs_35 (by decide) ?_
  refine X_iload_n dX8_beginPairs_37 rfl ?_
  first | refine X_iaddN dX8_beginPairs_38 ?_ | refine X_iadd dX8_beginPairs_38 ?_
  refine X_lconst (v := 0) dX8_beginPairs_39 (by decide) ?_
  refine X_last dX8_beginPairs_40 (by first | assumption | rfl) (by first | assumption | exact Nat.le_of_ble_eq_true rfl | omega) rfl (by first | decide | omega) (by decide) ?_
  refine X_aload_n dX8_beginPairs_41 rfl ?_
  refine X_getR dX8_beginPairs_42 gf_X8_11 (by first | assumption | rfl) (by first | assumption | exact Nat.le_of_ble_eq_true rfl | omega) rfl (by first | assumption | rfl) ?_
  refine X_bipush (v := nI 9) dX8_beginPairs_45 (by decide) ?_
  refine X_iload_n dX8_beginPairs_47 rfl ?_
  first | refine X_iaddN dX8_beginPairs_48 ?_ | refine X_iadd dX8_beginPairs_48 ?_
  refine X_lconst (v := 0) dX8_beginPairs_49 (by decide) ?_
  refine X_last dX8_beginPairs_50 (by first | assumption | rfl) (by first | assumption | exact Nat.le_of_ble_eq_true rfl | omega) rfl (by first | decide | omega) (by decide) ?_
  first | refine X_iinc1 dX8_beginPairs_51 rfl rfl rfl ?_ | refine X_iinc dX8_beginPairs_51 rfl rfl rfl rfl ?_
  refine X_goto (tgt := 2) dX8_beginPairs_54 (by decide) ?_
  refine X_iload_n dX8_beginPairs_2 rfl ?_
  refine X_iconst (v := nI 3) dX8_beginPairs_3 (by decide) ?_
  refine X_icmp_ge (tgt := 57) dX8_beginPairs_4 (by decide) (fun b => ?_) (fun b => ?_)
  · exact absurd b (by decide)
  refine X_aload_n dX8_beginPairs_7 rfl ?_
  refine X_getR dX8_beginPairs_8 gf_X8_11 (by first | assumption | rfl) (by first | assumption | exact Nat.le_of_ble_eq_true rfl | omega) rfl (by first | assumption | rfl) ?_
  refine X_iload_n dX8_beginPairs_11 rfl ?_
  refine X_gets dX8_beginPairs_12 gs_X8_15 hzH ?_
  refine X_iload_n dX8_beginPairs_15 rfl ?_
  first | refine X_lald dX8_beginPairs_16 (by first | assumption | rfl) (by first | assumption | exact Nat.le_of_ble_eq_true rfl | omega) rfl (by first | decide | omega) (by decide) ?_ | refine X_lldH dX8_beginPairs_16 rfl (by omega) ?_ | refine X_lldL dX8_beginPairs_16 rfl (by omega) ?_
  refine X_last dX8_beginPairs_17 (by first | assumption | rfl) (by first | assumption | exact Nat.le_of_ble_eq_true rfl | omega) rfl (by first | decide | omega) (by decide) ?_
  refine X_aload_n dX8_beginPairs_18 rfl ?_
  refine X_getR dX8_beginPairs_19 gf_X8_11 (by first | assumption | rfl) (by first | assumption | exact Nat.le_of_ble_eq_true rfl | omega) rfl (by first | assumption | rfl) ?_
  refine X_iconst (v := nI 3) dX8_beginPairs_22 (by decide) ?_
  refine X_iload_n dX8_beginPairs_23 rfl ?_
  first | refine X_iaddN dX8_beginPairs_24 ?_ | refine X_iadd dX8_beginPairs_24 ?_
  refine X_gets dX8_beginPairs_25 gs_X8_18 hzL ?_
  refine X_iload_n dX8_beginPairs_28 rfl ?_
  first | refine X_lald dX8_beginPairs_29 (by first | assumption | rfl) (by first | assumption | exact Nat.le_of_ble_eq_true rfl | omega) rfl (by first | decide | omega) (by decide) ?_ | refine X_lldH dX8_beginPairs_29 rfl (by omega) ?_ | refine X_lldL dX8_beginPairs_29 rfl (by omega) ?_
  refine X_last dX8_beginPairs_30 (by first | assumption | rfl) (by first | assumption | exact Nat.le_of_ble_eq_true rfl | omega) rfl (by first | decide | omega) (by decide) ?_
  refine X_aload_n dX8_beginPairs_31 rfl ?_
  refine X_getR dX8_beginPairs_32 gf_X8_11 (by first | assumption | rfl) (by first | assumption | exact Nat.le_of_ble_eq_true rfl | omega) rfl (by first | assumption | rfl) ?_
  refine X_bipush (v := nI 6) dX8_beginPairs_35 (by decide) ?_
  refine X_iload_n dX8_beginPairs_37 rfl ?_
  first | refine X_iaddN dX8_beginPairs_38 ?_ | refine X_iadd dX8_beginPairs_38 ?_
  refine X_lconst (v := 0) dX8_beginPairs_39 (by decide) ?_
  refine X_last dX8_beginPairs_40 (by first | assumption | rfl) (by first | assumption | exact Nat.le_of_ble_eq_true rfl | omega) rfl (by first | decide | omega) (by decide) ?_
  refine X_aload_n dX8_beginPairs_41 rfl ?_
  refine X_getR dX8_beginPairs_42 gf_X8_11 (by first | assumption | rfl) (by first | assumption | exact Nat.le_of_ble_eq_true rfl | omega) rfl (by first | assumption | rfl) ?_
  refine X_bipush (v := nI 9) dX8_beginPairs_45 (by decide) ?_
  refine X_iload_n dX8_beginPairs_47 rfl ?_
  first | refine X_iaddN dX8_beginPairs_48 ?_ | refine X_iadd dX8_beginPairs_48 ?_
  refine X_lconst (v := 0) dX8_beginPairs_49 (by decide) ?_
  refine X_last dX8_beginPairs_50 (by first | assumption | rfl) (by first | assumption | exact Nat.le_of_ble_eq_true rfl | omega) rfl (by first | decide | omega) (by decide) ?_
  first | refine X_iinc1 dX8_beginPairs_51 rfl rfl rfl ?_ | refine X_iinc dX8_beginPairs_51 rfl rfl rfl rfl ?_
  refine X_goto (tgt := 2) dX8_beginPairs_54 (by decide) ?_
  refine X_iload_n dX8_beginPairs_2 rfl ?_
  refine X_iconst (v := nI 3) dX8_beginPairs_3 (by decide) ?_
  refine X_icmp_ge (tgt := 57) dX8_beginPairs_4 (by decide) (fun b => ?_) (fun b => ?_)
  rotate_left
  · exact absurd (by decide) b
  exact X_vret dX8_beginPairs_57 rfl ⟨rfl, hQ _ (fun j hj => by simp only [sr_ne hj]) (by simp only [sr_eq, h0]; rfl)⟩
set_option maxRecDepth 20000 in
theorem c_X10i {Q : Mm → Prop} {T : Nat → Cz} (hd : 2 ≤ d) (ht : ∀ j, 152 ≤ j → j < 167 → T j = T0 j) (h0 : eqc I J R 152 (oc [])) (hQ : ∀ I' J' R', Good 152 167 T I J R I' J' R' → Q (167, I', J', R')) : Y G d zX10_init [vr 152] (153, I, J, R) 14 102 (qv Q) := by
  refine Y_of rfl rfl (Nat.le_of_ble_eq_true rfl) rfl ?_
  refine X_aload_n dX10_init_0 rfl ?_
  refine X_objInit dX10_init_1 oi_X10_3 oi_2 oi_3 (by omega) (Nat.le_of_ble_eq_true rfl) ?_
  refine X_abs (m := 153) (P := St 152 153 (up (up T0 159 (oc [])) 154 (oc [])) (fun _ => 0) [] I J R) rfl (St_0 h0) (fun I1 J1 R1 h1 => ?_)
  refine X_aload_n dX10_init_4 rfl ?_
  refine X_new (N := 4) dX10_init_5 gn_X10_9 (by first | assumption | rfl) rfl (by first | decide | omega) ?_
  refine X_dup dX10_init_8 rfl ?_
  refine X_cI (mc := 1) (ms := 12) dX10_init_9 ck_X10_11 rfl rfl (by omega) (Nat.le_of_ble_eq_true rfl) (c_X8i (T := (up (up T0 159 (oc [])) 154 (oc []))) (k := 153) (by omega) (by first | decide | omega) rfl rfl rfl rfl eqc_new (fun I2 J2 R2 g => ?_))
  refine X_putR dX10_init_12 gf_X10_12 (Or.inr ⟨rfl, rfl⟩) (by first | assumption | rfl) (by first | assumption | exact Nat.le_of_ble_eq_true rfl | omega) rfl rfl ?_
  refine X_abs (m := 155) (P := St 152 155 (up (up T0 159 (oc [])) 154 (oc [])) (fun _ => 0) [some 153] I J R) rfl (St_obj h1 g (by first | decide | omega)) (fun I1 J1 R1 h1 => ?_)
  refine X_aload_n dX10_init_15 rfl ?_
  refine X_new (N := 4) dX10_init_16 gn_X10_9 (by first | assumption | rfl) rfl (by first | decide | omega) ?_
  refine X_dup dX10_init_19 rfl ?_
  refine X_cI (mc := 1) (ms := 12) dX10_init_20 ck_X10_11 rfl rfl (by omega) (Nat.le_of_ble_eq_true rfl) (c_X8i (T := (up (up T0 159 (oc [])) 154 (oc []))) (k := 155) (by omega) (by first | decide | omega) rfl rfl rfl rfl eqc_new (fun I2 J2 R2 g => ?_))
  refine X_putR dX10_init_23 gf_X10_18 (Or.inr ⟨rfl, rfl⟩) (by first | assumption | rfl) (by first | assumption | exact Nat.le_of_ble_eq_true rfl | omega) rfl rfl ?_
  refine X_abs (m := 157) (P := St 152 157 (up (up T0 159 (oc [])) 154 (oc [])) (fun _ => 0) [some 153, some 155] I J R) rfl (St_obj h1 g (by first | decide | omega)) (fun I1 J1 R1 h1 => ?_)
  refine X_aload_n dX10_init_26 rfl ?_
  refine X_new (N := 4) dX10_init_27 gn_X10_9 (by first | assumption | rfl) rfl (by first | decide | omega) ?_
  refine X_dup dX10_init_30 rfl ?_
  refine X_cI (mc := 1) (ms := 12) dX10_init_31 ck_X10_11 rfl rfl (by omega) (Nat.le_of_ble_eq_true rfl) (c_X8i (T := (up (up T0 159 (oc [])) 154 (oc []))) (k := 157) (by omega) (by first | decide | omega) rfl rfl rfl rfl eqc_new (fun I2 J2 R2 g => ?_))
  refine X_putR dX10_init_34 gf_X10_21 (Or.inr ⟨rfl, rfl⟩) (by first | assumption | rfl) (by first | assumption | exact Nat.le_of_ble_eq_true rfl | omega) rfl rfl ?_
  refine X_abs (m := 159) (P := St 152 159 (up (up T0 159 (oc [])) 154 (oc [])) (fun _ => 0) [some 153, some 155, some 157] I J R) rfl (St_obj h1 g (by first | decide | omega)) (fun I1 J1 R1 h1 => ?_)
  refine X_aload_n dX10_init_37 rfl ?_
  refine X_iconst (v := nI 3) dX10_init_38 (by decide) ?_
  refine X_newq (N := 3) dX10_init_39 gq_X10_9 (fun U h => h.2.2.1.2.1) (by first | assumption | rfl) (by decide) rfl rfl (by decide) (by first | decide | omega) ?_
  refine X_putR dX10_init_42 gf_X10_24 (Or.inr ⟨rfl, rfl⟩) (by first | assumption | rfl) (by first | assumption | exact Nat.le_of_ble_eq_true rfl | omega) rfl rfl ?_
  refine X_abs (m := 160) (P := St 152 160 (up (up T0 159 (oc [])) 154 (oc [])) (fun _ => 0) [some 153, some 155, some 157, some 159] I J R) rfl (St_arr h1 rfl) (fun I1 J1 R1 h1 => ?_)
  refine X_aload_n dX10_init_45 rfl ?_
  refine X_iconst (v := nI 3) dX10_init_46 (by decide) ?_
  refine X_newI (N := 3) dX10_init_47 aw_int (by first | assumption | rfl) rfl (by decide) (by first | decide | omega) ?_
  refine X_putR dX10_init_49 gf_X10_28 (Or.inr ⟨rfl, rfl⟩) (by first | assumption | rfl) (by first | assumption | exact Nat.le_of_ble_eq_true rfl | omega) rfl rfl ?_
  refine X_abs (m := 161) (P := St 152 161 (up (up T0 159 (oc [])) 154 (oc [])) (fun _ => 0) [some 153, some 155, some 157, some 159, some 160] I J R) rfl (St_arr h1 rfl) (fun I1 J1 R1 h1 => ?_)
  have r1 := St_me (i := 0) (c := some 153) h1 rfl
  have z1 := (St_at (q := 154) h1 (by decide)).2.1
  have r2 : R1 153 0 = some 154 := by rw [(St_at (q := 153) h1 (by decide)).2.2]; rfl
  refine X_aload_n dX10_init_52 rfl ?_
  refine X_getR dX10_init_53 gf_X10_12 (by first | assumption | rfl) (by first | assumption | exact Nat.le_of_ble_eq_true rfl | omega) rfl (by first | assumption | rfl) ?_
  refine X_cVv dX10_init_56 ck_X10_32 rfl rfl (by first | assumption | rfl) (by first | assumption | exact Nat.le_of_ble_eq_true rfl | omega) (by omega) (Nat.le_of_ble_eq_true rfl) (c_beginPairs (by decide) r2 z1 (fun J2 f2 e2 => ?_))
  clear r1 r2 z1
  refine X_abs (m := 161) (P := St 152 161 (up (up (up T0 159 (oc [])) 154 (oc [])) 154 (((up (up T0 159 (oc [])) 154 (oc [])) 154).1, jbF, ((up (up T0 159 (oc [])) 154 (oc [])) 154).2.2)) (fun _ => 0) [some 153, some 155, some 157, some 159, some 160] I J R) rfl (St_longs (q := 154) h1 (by decide) f2 e2) (fun I1 J1 R1 h1 => ?_)
  refine X_iconst (v := nI 0) dX10_init_59 (by decide) ?_
  refine X_istore_n dX10_init_60 rfl rfl ?_
  refine X_iload_n dX10_init_61 rfl ?_
  refine X_iconst (v := nI 3) dX10_init_62 (by decide) ?_
  refine X_icmp_ge (tgt := 85) dX10_init_63 (by decide) (fun b => ?_) (fun b => ?_)
  · exact absurd b (by decide)
  have r1 := St_me (i := 3) (c := some 159) h1 rfl
  refine X_aload_n dX10_init_66 rfl ?_
  refine X_getR dX10_init_67 gf_X10_24 (by first | assumption | rfl) (by first | assumption | exact Nat.le_of_ble_eq_true rfl | omega) rfl (by first | assumption | rfl) ?_
  refine X_iload_n dX10_init_70 rfl ?_
  refine X_new (N := 4) dX10_init_71 gn_X10_9 (by first | assumption | rfl) rfl (by first | decide | omega) ?_
  refine X_dup dX10_init_74 rfl ?_
  refine X_cI (mc := 1) (ms := 12) dX10_init_75 ck_X10_11 rfl rfl (by omega) (Nat.le_of_ble_eq_true rfl) (c_X8i (T := (up (up (up T0 159 (oc [])) 154 (oc [])) 154 (((up (up T0 159 (oc [])) 154 (oc [])) 154).1, jbF, ((up (up T0 159 (oc [])) 154 (oc [])) 154).2.2))) (k := 161) (by omega) (by first | decide | omega) rfl rfl rfl rfl eqc_new (fun I2 J2 R2 g => ?_))
  refine X_aast dX10_init_78 (by first | assumption | rfl) (by decide) rfl (by first | assumption | exact Nat.le_of_ble_eq_true rfl | omega) (by first | assumption | exact Nat.le_of_ble_eq_true rfl | omega) (by first | assumption | rfl) (by decide) rfl rfl (by first | decide | omega) (by decide) ?_
  clear r1
  refine X_abs (m := 163) (P := St 152 163 (up (up (up (up T0 159 (oc [])) 154 (oc [])) 154 (((up (up T0 159 (oc [])) 154 (oc [])) 154).1, jbF, ((up (up T0 159 (oc [])) 154 (oc [])) 154).2.2)) 159 (oc [some 161])) (fun _ => 0) [some 153, some 155, some 157, some 159, some 160] I J R) rfl (St_row (q := 159) (lq := []) h1 (by decide) rfl g (by first | decide | omega)) (fun I1 J1 R1 h1 => ?_)
  first | refine X_iinc1 dX10_init_79 rfl rfl rfl ?_ | refine X_iinc dX10_init_79 rfl rfl rfl rfl ?_
  refine X_goto (tgt := 61) dX10_init_82 (by decide) ?_
  refine X_iload_n dX10_init_61 rfl ?_
  refine X_iconst (v := nI 3) dX10_init_62 (by decide) ?_
  refine X_icmp_ge (tgt := 85) dX10_init_63 (by decide) (fun b => ?_) (fun b => ?_)
  · exact absurd b (by decide)
  have r1 := St_me (i := 3) (c := some 159) h1 rfl
  refine X_aload_n dX10_init_66 rfl ?_
  refine X_getR dX10_init_67 gf_X10_24 (by first | assumption | rfl) (by first | assumption | exact Nat.le_of_ble_eq_true rfl | omega) rfl (by first | assumption | rfl) ?_
  refine X_iload_n dX10_init_70 rfl ?_
  refine X_new (N := 4) dX10_init_71 gn_X10_9 (by first | assumption | rfl) rfl (by first | decide | omega) ?_
  refine X_dup dX10_init_74 rfl ?_
  refine X_cI (mc := 1) (ms := 12) dX10_init_75 ck_X10_11 rfl rfl (by omega) (Nat.le_of_ble_eq_true rfl) (c_X8i (T := (up (up (up (up T0 159 (oc [])) 154 (oc [])) 154 (((up (up T0 159 (oc [])) 154 (oc [])) 154).1, jbF, ((up (up T0 159 (oc [])) 154 (oc [])) 154).2.2)) 159 (oc [some 161]))) (k := 163) (by omega) (by first | decide | omega) rfl rfl rfl rfl eqc_new (fun I2 J2 R2 g => ?_))
  refine X_aast dX10_init_78 (by first | assumption | rfl) (by decide) rfl (by first | assumption | exact Nat.le_of_ble_eq_true rfl | omega) (by first | assumption | exact Nat.le_of_ble_eq_true rfl | omega) (by first | assumption | rfl) (by decide) rfl rfl (by first | decide | omega) (by decide) ?_
  clear r1
  refine X_abs (m := 165) (P := St 152 165 (up (up (up (up (up T0 159 (oc [])) 154 (oc [])) 154 (((up (up T0 159 (oc [])) 154 (oc [])) 154).1, jbF, ((up (up T0 159 (oc [])) 154 (oc [])) 154).2.2)) 159 (oc [some 161])) 159 (oc [some 161, some 163])) (fun _ => 0) [some 153, some 155, some 157, some 159, some 160] I J R) rfl (St_row (q := 159) (lq := [some 161]) h1 (by decide) rfl g (by first | decide | omega)) (fun I1 J1 R1 h1 => ?_)
  first | refine X_iinc1 dX10_init_79 rfl rfl rfl ?_ | refine X_iinc dX10_init_79 rfl rfl rfl rfl ?_
  refine X_goto (tgt := 61) dX10_init_82 (by decide) ?_
  refine X_iload_n dX10_init_61 rfl ?_
  refine X_iconst (v := nI 3) dX10_init_62 (by decide) ?_
  refine X_icmp_ge (tgt := 85) dX10_init_63 (by decide) (fun b => ?_) (fun b => ?_)
  · exact absurd b (by decide)
  have r1 := St_me (i := 3) (c := some 159) h1 rfl
  refine X_aload_n dX10_init_66 rfl ?_
  refine X_getR dX10_init_67 gf_X10_24 (by first | assumption | rfl) (by first | assumption | exact Nat.le_of_ble_eq_true rfl | omega) rfl (by first | assumption | rfl) ?_
  refine X_iload_n dX10_init_70 rfl ?_
  refine X_new (N := 4) dX10_init_71 gn_X10_9 (by first | assumption | rfl) rfl (by first | decide | omega) ?_
  refine X_dup dX10_init_74 rfl ?_
  refine X_cI (mc := 1) (ms := 12) dX10_init_75 ck_X10_11 rfl rfl (by omega) (Nat.le_of_ble_eq_true rfl) (c_X8i (T := (up (up (up (up (up T0 159 (oc [])) 154 (oc [])) 154 (((up (up T0 159 (oc [])) 154 (oc [])) 154).1, jbF, ((up (up T0 159 (oc [])) 154 (oc [])) 154).2.2)) 159 (oc [some 161])) 159 (oc [some 161, some 163]))) (k := 165) (by omega) (by first | decide | omega) rfl rfl rfl rfl eqc_new (fun I2 J2 R2 g => ?_))
  refine X_aast dX10_init_78 (by first | assumption | rfl) (by decide) rfl (by first | assumption | exact Nat.le_of_ble_eq_true rfl | omega) (by first | assumption | exact Nat.le_of_ble_eq_true rfl | omega) (by first | assumption | rfl) (by decide) rfl rfl (by first | decide | omega) (by decide) ?_
  clear r1
  refine X_abs (m := 167) (P := St 152 167 (up (up (up (up (up (up T0 159 (oc [])) 154 (oc [])) 154 (((up (up T0 159 (oc [])) 154 (oc [])) 154).1, jbF, ((up (up T0 159 (oc [])) 154 (oc [])) 154).2.2)) 159 (oc [some 161])) 159 (oc [some 161, some 163])) 159 (oc [some 161, some 163, some 165])) (fun _ => 0) [some 153, some 155, some 157, some 159, some 160] I J R) rfl (St_row (q := 159) (lq := [some 161, some 163]) h1 (by decide) rfl g (by first | decide | omega)) (fun I1 J1 R1 h1 => ?_)
  first | refine X_iinc1 dX10_init_79 rfl rfl rfl ?_ | refine X_iinc dX10_init_79 rfl rfl rfl rfl ?_
  refine X_goto (tgt := 61) dX10_init_82 (by decide) ?_
  refine X_iload_n dX10_init_61 rfl ?_
  refine X_iconst (v := nI 3) dX10_init_62 (by decide) ?_
  refine X_icmp_ge (tgt := 85) dX10_init_63 (by decide) (fun b => ?_) (fun b => ?_)
  rotate_left
  · exact absurd (by decide) b
  have hT : ∀ j, 152 < j → j < 167 → (up (up (up (up (up (up T0 159 (oc [])) 154 (oc [])) 154 (((up (up T0 159 (oc [])) 154 (oc [])) 154).1, jbF, ((up (up T0 159 (oc [])) 154 (oc [])) 154).2.2)) 159 (oc [some 161])) 159 (oc [some 161, some 163])) 159 (oc [some 161, some 163, some 165])) j = T j := fun j a b => by
    by_cases h159 : j = 159
    · subst h159
      exact Eq.trans (b := T0 159) rfl (ht 159 (by decide) (by decide)).symm
    by_cases h154 : j = 154
    · subst h154
      exact Eq.trans (b := T0 154) rfl (ht 154 (by decide) (by decide)).symm
    simp only [up_ne h159, up_ne h154]
    exact (ht j (by omega) b).symm
  exact X_vret dX10_init_85 rfl ⟨rfl, hQ _ _ _ (St_end h1 hT (ht _ (by decide) (by decide)))⟩
end MJ
