/-! both objects -/
section ML
variable {G : GG} {d : Nat} {I : Nat → Nat → Int32} {J : Nat → Nat → Int64} {R : Nat → Nat → Option Nat}
set_option maxRecDepth 40000 in
set_option maxHeartbeats 4000000 in
theorem c_X11i {Q : Mm → Prop} {T : Nat → Cz} (hd : 4 ≤ d) (ht : ∀ j, 0 ≤ j → j < 170 → T j = T0 j) (h0 : eqc I J R 0 (oc [])) (hQ : ∀ I' J' R', Good 0 170 T I J R I' J' R' → Q (170, I', J', R')) : Y G d zX11_init [vr 0] (1, I, J, R) 169 7519 (qv Q) := by
  refine Y_of rfl rfl (Nat.le_of_ble_eq_true rfl) rfl ?_
  refine X_aload_n dX11_init_0 rfl ?_
  refine X_objInit dX11_init_1 oi_X11_3 oi_2 oi_3 (by omega) (Nat.le_of_ble_eq_true rfl) ?_
  refine X_abs (m := 1) (P := St 0 1 (up T0 38 (oc [])) (fun _ => 0) [] I J R) rfl (St_0 h0) (fun I1 J1 R1 h1 => ?_)
  refine X_aload_n dX11_init_4 rfl ?_
  refine X_new (N := 10) dX11_init_5 gn_X11_9 (by first | assumption | rfl) rfl (by first | decide | omega) ?_
  refine X_dup dX11_init_8 rfl ?_
  refine X_cI (mc := 5) (ms := 180) dX11_init_9 ck_X11_11 rfl rfl (by omega) (Nat.le_of_ble_eq_true rfl) (c_X7i (T := (up T0 38 (oc []))) (by omega) (fun j _ _ => (by simp only [up_ne (show j ≠ 38 by omega)])) eqc_new (fun I2 J2 R2 g => ?_))
  refine X_putR dX11_init_12 gf_X11_12 (Or.inr ⟨rfl, rfl⟩) (by first | assumption | rfl) (by first | assumption | exact Nat.le_of_ble_eq_true rfl | omega) rfl rfl ?_
  refine X_abs (m := 7) (P := St 0 7 (up T0 38 (oc [])) (fun _ => 0) [some 1] I J R) rfl (St_obj h1 g (by first | decide | omega)) (fun I1 J1 R1 h1 => ?_)
  refine X_aload_n dX11_init_15 rfl ?_
  refine X_new (N := 6) dX11_init_16 gn_X11_16 (by first | assumption | rfl) rfl (by first | decide | omega) ?_
  refine X_dup dX11_init_19 rfl ?_
  refine X_cI (mc := 30) (ms := 541) dX11_init_20 ck_X11_18 rfl rfl (by omega) (Nat.le_of_ble_eq_true rfl) (c_X2i_7 (T := (up T0 38 (oc []))) (by omega) (fun j _ _ => (by simp only [up_ne (show j ≠ 38 by omega)])) eqc_new (fun I2 J2 R2 g => ?_))
  refine X_putR dX11_init_23 gf_X11_19 (Or.inr ⟨rfl, rfl⟩) (by first | assumption | rfl) (by first | assumption | exact Nat.le_of_ble_eq_true rfl | omega) rfl rfl ?_
  refine X_abs (m := 38) (P := St 0 38 (up T0 38 (oc [])) (fun _ => 0) [some 1, some 7] I J R) rfl (St_obj h1 g (by first | decide | omega)) (fun I1 J1 R1 h1 => ?_)
  refine X_aload_n dX11_init_26 rfl ?_
  refine X_iconst (v := nI 2) dX11_init_27 (by decide) ?_
  refine X_newq (N := 2) dX11_init_28 gq_X11_16 (fun U h => h.2.2.1.1) (by first | assumption | rfl) (by decide) rfl rfl (by decide) (by first | decide | omega) ?_
  refine X_putR dX11_init_31 gf_X11_23 (Or.inr ⟨rfl, rfl⟩) (by first | assumption | rfl) (by first | assumption | exact Nat.le_of_ble_eq_true rfl | omega) rfl rfl ?_
  refine X_abs (m := 39) (P := St 0 39 (up T0 38 (oc [])) (fun _ => 0) [some 1, some 7, some 38] I J R) rfl (St_arr h1 rfl) (fun I1 J1 R1 h1 => ?_)
  refine X_iconst (v := nI 0) dX11_init_34 (by decide) ?_
  refine X_istore_n dX11_init_35 rfl rfl ?_
  refine X_iload_n dX11_init_36 rfl ?_
  refine X_iconst (v := nI 2) dX11_init_37 (by decide) ?_
  refine X_icmp_ge (tgt := 60) dX11_init_38 (by decide) (fun b => ?_) (fun b => ?_)
  · exact absurd b (by decide)
  have r1 := St_me (i := 2) (c := some 38) h1 rfl
  refine X_aload_n dX11_init_41 rfl ?_
  refine X_getR dX11_init_42 gf_X11_23 (by first | assumption | rfl) (by first | assumption | exact Nat.le_of_ble_eq_true rfl | omega) rfl (by first | assumption | rfl) ?_
  refine X_iload_n dX11_init_45 rfl ?_
  refine X_new (N := 6) dX11_init_46 gn_X11_16 (by first | assumption | rfl) rfl (by first | decide | omega) ?_
  refine X_dup dX11_init_49 rfl ?_
  refine X_cI (mc := 30) (ms := 541) dX11_init_50 ck_X11_18 rfl rfl (by omega) (Nat.le_of_ble_eq_true rfl) (c_X2i_39 (T := (up T0 38 (oc []))) (by omega) (fun j _ _ => (by simp only [up_ne (show j ≠ 38 by omega)])) eqc_new (fun I2 J2 R2 g => ?_))
  refine X_aast dX11_init_53 (by first | assumption | rfl) (by decide) rfl (by first | assumption | exact Nat.le_of_ble_eq_true rfl | omega) (by first | assumption | exact Nat.le_of_ble_eq_true rfl | omega) (by first | assumption | rfl) (by decide) rfl rfl (by first | decide | omega) (by decide) ?_
  clear r1
  refine X_abs (m := 70) (P := St 0 70 (up (up T0 38 (oc [])) 38 (oc [some 39])) (fun _ => 0) [some 1, some 7, some 38] I J R) rfl (St_row (q := 38) (lq := []) h1 (by decide) rfl g (by first | decide | omega)) (fun I1 J1 R1 h1 => ?_)
  first | refine X_iinc1 dX11_init_54 rfl rfl rfl ?_ | refine X_iinc dX11_init_54 rfl rfl rfl rfl ?_
  refine X_goto (tgt := 36) dX11_init_57 (by decide) ?_
  refine X_iload_n dX11_init_36 rfl ?_
  refine X_iconst (v := nI 2) dX11_init_37 (by decide) ?_
  refine X_icmp_ge (tgt := 60) dX11_init_38 (by decide) (fun b => ?_) (fun b => ?_)
  · exact absurd b (by decide)
  have r1 := St_me (i := 2) (c := some 38) h1 rfl
  refine X_aload_n dX11_init_41 rfl ?_
  refine X_getR dX11_init_42 gf_X11_23 (by first | assumption | rfl) (by first | assumption | exact Nat.le_of_ble_eq_true rfl | omega) rfl (by first | assumption | rfl) ?_
  refine X_iload_n dX11_init_45 rfl ?_
  refine X_new (N := 6) dX11_init_46 gn_X11_16 (by first | assumption | rfl) rfl (by first | decide | omega) ?_
  refine X_dup dX11_init_49 rfl ?_
  refine X_cI (mc := 30) (ms := 541) dX11_init_50 ck_X11_18 rfl rfl (by omega) (Nat.le_of_ble_eq_true rfl) (c_X2i_70 (T := (up (up T0 38 (oc [])) 38 (oc [some 39]))) (by omega) (fun j _ _ => (by simp only [up_ne (show j ≠ 38 by omega)])) eqc_new (fun I2 J2 R2 g => ?_))
  refine X_aast dX11_init_53 (by first | assumption | rfl) (by decide) rfl (by first | assumption | exact Nat.le_of_ble_eq_true rfl | omega) (by first | assumption | exact Nat.le_of_ble_eq_true rfl | omega) (by first | assumption | rfl) (by decide) rfl rfl (by first | decide | omega) (by decide) ?_
  clear r1
  refine X_abs (m := 101) (P := St 0 101 (up (up (up T0 38 (oc [])) 38 (oc [some 39])) 38 (oc [some 39, some 70])) (fun _ => 0) [some 1, some 7, some 38] I J R) rfl (St_row (q := 38) (lq := [some 39]) h1 (by decide) rfl g (by first | decide | omega)) (fun I1 J1 R1 h1 => ?_)
  first | refine X_iinc1 dX11_init_54 rfl rfl rfl ?_ | refine X_iinc dX11_init_54 rfl rfl rfl rfl ?_
  refine X_goto (tgt := 36) dX11_init_57 (by decide) ?_
  refine X_iload_n dX11_init_36 rfl ?_
  refine X_iconst (v := nI 2) dX11_init_37 (by decide) ?_
  refine X_icmp_ge (tgt := 60) dX11_init_38 (by decide) (fun b => ?_) (fun b => ?_)
  rotate_left
  · exact absurd (by decide) b
  refine X_aload_n dX11_init_60 rfl ?_
  refine X_iconst (v := nI 2) dX11_init_61 (by decide) ?_
  refine X_newZ (N := 2) dX11_init_62 aw_boolean (by first | assumption | rfl) rfl (by decide) (by first | decide | omega) ?_
  refine X_putR dX11_init_64 gf_X11_27 (Or.inr ⟨rfl, rfl⟩) (by first | assumption | rfl) (by first | assumption | exact Nat.le_of_ble_eq_true rfl | omega) rfl rfl ?_
  refine X_abs (m := 102) (P := St 0 102 (up (up (up T0 38 (oc [])) 38 (oc [some 39])) 38 (oc [some 39, some 70])) (fun _ => 0) [some 1, some 7, some 38, some 101] I J R) rfl (St_arr h1 rfl) (fun I1 J1 R1 h1 => ?_)
  refine X_aload_n dX11_init_67 rfl ?_
  refine X_new (N := 9) dX11_init_68 gn_X11_31 (by first | assumption | rfl) rfl (by first | decide | omega) ?_
  refine X_dup dX11_init_71 rfl ?_
  refine X_cI (mc := 8) (ms := 257) dX11_init_72 ck_X11_33 rfl rfl (by omega) (Nat.le_of_ble_eq_true rfl) (c_X3i (T := (up (up (up T0 38 (oc [])) 38 (oc [some 39])) 38 (oc [some 39, some 70]))) (k := 102) (by omega) (by first | decide | omega) rfl rfl rfl rfl rfl rfl rfl rfl rfl rfl rfl rfl rfl rfl rfl rfl rfl rfl eqc_new (fun I2 J2 R2 g => ?_))
  refine X_putR dX11_init_75 gf_X11_34 (Or.inr ⟨rfl, rfl⟩) (by first | assumption | rfl) (by first | assumption | exact Nat.le_of_ble_eq_true rfl | omega) rfl rfl ?_
  refine X_abs (m := 111) (P := St 0 111 (up (up (up T0 38 (oc [])) 38 (oc [some 39])) 38 (oc [some 39, some 70])) (fun _ => 0) [some 1, some 7, some 38, some 101, some 102] I J R) rfl (St_obj h1 g (by first | decide | omega)) (fun I1 J1 R1 h1 => ?_)
  refine X_aload_n dX11_init_78 rfl ?_
  refine X_new (N := 1) dX11_init_79 gn_X11_38 (by first | assumption | rfl) rfl (by first | decide | omega) ?_
  refine X_dup dX11_init_82 rfl ?_
  refine X_cI (mc := 9) (ms := 266) dX11_init_83 ck_X11_40 rfl rfl (by omega) (Nat.le_of_ble_eq_true rfl) (c_X6i (T := (up (up (up T0 38 (oc [])) 38 (oc [some 39])) 38 (oc [some 39, some 70]))) (by omega) (fun j _ _ => (by simp only [up_ne (show j ≠ 38 by omega)])) eqc_new (fun I2 J2 R2 g => ?_))
  refine X_putR dX11_init_86 gf_X11_41 (Or.inr ⟨rfl, rfl⟩) (by first | assumption | rfl) (by first | assumption | exact Nat.le_of_ble_eq_true rfl | omega) rfl rfl ?_
  refine X_abs (m := 121) (P := St 0 121 (up (up (up T0 38 (oc [])) 38 (oc [some 39])) 38 (oc [some 39, some 70])) (fun _ => 0) [some 1, some 7, some 38, some 101, some 102, some 111] I J R) rfl (St_obj h1 g (by first | decide | omega)) (fun I1 J1 R1 h1 => ?_)
  refine X_aload_n dX11_init_89 rfl ?_
  refine X_new (N := 6) dX11_init_90 gn_X11_45 (by first | assumption | rfl) rfl (by first | decide | omega) ?_
  refine X_dup dX11_init_93 rfl ?_
  refine X_cI (mc := 6) (ms := 132) dX11_init_94 ck_X11_47 rfl rfl (by omega) (Nat.le_of_ble_eq_true rfl) (c_X5i (T := (up (up (up T0 38 (oc [])) 38 (oc [some 39])) 38 (oc [some 39, some 70]))) (by omega) (fun j _ _ => (by simp only [up_ne (show j ≠ 38 by omega)])) eqc_new (fun I2 J2 R2 g => ?_))
  refine X_putR dX11_init_97 gf_X11_48 (Or.inr ⟨rfl, rfl⟩) (by first | assumption | rfl) (by first | assumption | exact Nat.le_of_ble_eq_true rfl | omega) rfl rfl ?_
  refine X_abs (m := 128) (P := St 0 128 (up (up (up T0 38 (oc [])) 38 (oc [some 39])) 38 (oc [some 39, some 70])) (fun _ => 0) [some 1, some 7, some 38, some 101, some 102, some 111, some 121] I J R) rfl (St_obj h1 g (by first | decide | omega)) (fun I1 J1 R1 h1 => ?_)
  refine X_aload_n dX11_init_100 rfl ?_
  refine X_new (N := 10) dX11_init_101 gn_X11_52 (by first | assumption | rfl) rfl (by first | decide | omega) ?_
  refine X_dup dX11_init_104 rfl ?_
  refine X_cI (mc := 7) (ms := 4160) dX11_init_105 ck_X11_54 rfl rfl (by omega) (Nat.le_of_ble_eq_true rfl) (c_X0i (T := (up (up (up T0 38 (oc [])) 38 (oc [some 39])) 38 (oc [some 39, some 70]))) (by omega) (fun j _ _ => (by simp only [up_ne (show j ≠ 38 by omega)])) eqc_new (fun I2 J2 R2 g => ?_))
  refine X_putR dX11_init_108 gf_X11_55 (Or.inr ⟨rfl, rfl⟩) (by first | assumption | rfl) (by first | assumption | exact Nat.le_of_ble_eq_true rfl | omega) rfl rfl ?_
  refine X_abs (m := 136) (P := St 0 136 (up (up (up T0 38 (oc [])) 38 (oc [some 39])) 38 (oc [some 39, some 70])) (fun _ => 0) [some 1, some 7, some 38, some 101, some 102, some 111, some 121, some 128] I J R) rfl (St_obj h1 g (by first | decide | omega)) (fun I1 J1 R1 h1 => ?_)
  refine X_aload_n dX11_init_111 rfl ?_
  refine X_new (N := 14) dX11_init_112 gn_X11_59 (by first | assumption | rfl) rfl (by first | decide | omega) ?_
  refine X_dup dX11_init_115 rfl ?_
  refine X_cI (mc := 11) (ms := 634) dX11_init_116 ck_X11_61 rfl rfl (by omega) (Nat.le_of_ble_eq_true rfl) (c_X4i (T := (up (up (up T0 38 (oc [])) 38 (oc [some 39])) 38 (oc [some 39, some 70]))) (by omega) (fun j _ _ => (by simp only [up_ne (show j ≠ 38 by omega)])) eqc_new (fun I2 J2 R2 g => ?_))
  refine X_putR dX11_init_119 gf_X11_62 (Or.inr ⟨rfl, rfl⟩) (by first | assumption | rfl) (by first | assumption | exact Nat.le_of_ble_eq_true rfl | omega) rfl rfl ?_
  refine X_abs (m := 148) (P := St 0 148 (up (up (up T0 38 (oc [])) 38 (oc [some 39])) 38 (oc [some 39, some 70])) (fun _ => 0) [some 1, some 7, some 38, some 101, some 102, some 111, some 121, some 128, some 136] I J R) rfl (St_obj h1 g (by first | decide | omega)) (fun I1 J1 R1 h1 => ?_)
  refine X_aload_n dX11_init_122 rfl ?_
  refine X_new (N := 4) dX11_init_123 gn_X11_66 (by first | assumption | rfl) rfl (by first | decide | omega) ?_
  refine X_dup dX11_init_126 rfl ?_
  refine X_cI (mc := 1) (ms := 12) dX11_init_127 ck_X11_68 rfl rfl (by omega) (Nat.le_of_ble_eq_true rfl) (c_X8i (T := (up (up (up T0 38 (oc [])) 38 (oc [some 39])) 38 (oc [some 39, some 70]))) (k := 148) (by omega) (by first | decide | omega) rfl rfl rfl rfl eqc_new (fun I2 J2 R2 g => ?_))
  refine X_putR dX11_init_130 gf_X11_69 (Or.inr ⟨rfl, rfl⟩) (by first | assumption | rfl) (by first | assumption | exact Nat.le_of_ble_eq_true rfl | omega) rfl rfl ?_
  refine X_abs (m := 150) (P := St 0 150 (up (up (up T0 38 (oc [])) 38 (oc [some 39])) 38 (oc [some 39, some 70])) (fun _ => 0) [some 1, some 7, some 38, some 101, some 102, some 111, some 121, some 128, some 136, some 148] I J R) rfl (St_obj h1 g (by first | decide | omega)) (fun I1 J1 R1 h1 => ?_)
  refine X_aload_n dX11_init_133 rfl ?_
  refine X_new (N := 4) dX11_init_134 gn_X11_66 (by first | assumption | rfl) rfl (by first | decide | omega) ?_
  refine X_dup dX11_init_137 rfl ?_
  refine X_cI (mc := 1) (ms := 12) dX11_init_138 ck_X11_68 rfl rfl (by omega) (Nat.le_of_ble_eq_true rfl) (c_X8i (T := (up (up (up T0 38 (oc [])) 38 (oc [some 39])) 38 (oc [some 39, some 70]))) (k := 150) (by omega) (by first | decide | omega) rfl rfl rfl rfl eqc_new (fun I2 J2 R2 g => ?_))
  refine X_putR dX11_init_141 gf_X11_73 (Or.inr ⟨rfl, rfl⟩) (by first | assumption | rfl) (by first | assumption | exact Nat.le_of_ble_eq_true rfl | omega) rfl rfl ?_
  refine X_abs (m := 152) (P := St 0 152 (up (up (up T0 38 (oc [])) 38 (oc [some 39])) 38 (oc [some 39, some 70])) (fun _ => 0) [some 1, some 7, some 38, some 101, some 102, some 111, some 121, some 128, some 136, some 148, some 150] I J R) rfl (St_obj h1 g (by first | decide | omega)) (fun I1 J1 R1 h1 => ?_)
  refine X_aload_n dX11_init_144 rfl ?_
  refine X_new (N := 7) dX11_init_145 gn_X11_76 (by first | assumption | rfl) rfl (by first | decide | omega) ?_
  refine X_dup dX11_init_148 rfl ?_
  refine X_cI (mc := 14) (ms := 102) dX11_init_149 ck_X11_78 rfl rfl (by omega) (Nat.le_of_ble_eq_true rfl) (c_X10i (T := (up (up (up T0 38 (oc [])) 38 (oc [some 39])) 38 (oc [some 39, some 70]))) (by omega) (fun j _ _ => (by simp only [up_ne (show j ≠ 38 by omega)])) eqc_new (fun I2 J2 R2 g => ?_))
  refine X_putR dX11_init_152 gf_X11_79 (Or.inr ⟨rfl, rfl⟩) (by first | assumption | rfl) (by first | assumption | exact Nat.le_of_ble_eq_true rfl | omega) rfl rfl ?_
  refine X_abs (m := 167) (P := St 0 167 (up (up (up T0 38 (oc [])) 38 (oc [some 39])) 38 (oc [some 39, some 70])) (fun _ => 0) [some 1, some 7, some 38, some 101, some 102, some 111, some 121, some 128, some 136, some 148, some 150, some 152] I J R) rfl (St_obj h1 g (by first | decide | omega)) (fun I1 J1 R1 h1 => ?_)
  refine X_aload_n dX11_init_155 rfl ?_
  refine X_new (N := 2) dX11_init_156 gn_X11_83 (by first | assumption | rfl) rfl (by first | decide | omega) ?_
  refine X_dup dX11_init_159 rfl ?_
  refine X_cI (mc := 1) (ms := 48) dX11_init_160 ck_X11_85 rfl rfl (by omega) (Nat.le_of_ble_eq_true rfl) (c_X1i (T := (up (up (up T0 38 (oc [])) 38 (oc [some 39])) 38 (oc [some 39, some 70]))) (k := 167) (by omega) (by first | decide | omega) rfl rfl rfl rfl eqc_new (fun I2 J2 R2 g => ?_))
  refine X_putR dX11_init_163 gf_X11_86 (Or.inr ⟨rfl, rfl⟩) (by first | assumption | rfl) (by first | assumption | exact Nat.le_of_ble_eq_true rfl | omega) rfl rfl ?_
  refine X_abs (m := 169) (P := St 0 169 (up (up (up T0 38 (oc [])) 38 (oc [some 39])) 38 (oc [some 39, some 70])) (fun _ => 0) [some 1, some 7, some 38, some 101, some 102, some 111, some 121, some 128, some 136, some 148, some 150, some 152, some 167] I J R) rfl (St_obj h1 g (by first | decide | omega)) (fun I1 J1 R1 h1 => ?_)
  refine X_aload_n dX11_init_166 rfl ?_
  refine X_iconst (v := nI 4) dX11_init_167 (by decide) ?_
  refine X_newI (N := 4) dX11_init_168 aw_int (by first | assumption | rfl) rfl (by decide) (by first | decide | omega) ?_
  refine X_putR dX11_init_170 gf_X11_90 (Or.inr ⟨rfl, rfl⟩) (by first | assumption | rfl) (by first | assumption | exact Nat.le_of_ble_eq_true rfl | omega) rfl rfl ?_
  refine X_abs (m := 170) (P := St 0 170 (up (up (up T0 38 (oc [])) 38 (oc [some 39])) 38 (oc [some 39, some 70])) (fun _ => 0) [some 1, some 7, some 38, some 101, some 102, some 111, some 121, some 128, some 136, some 148, some 150, some 152, some 167, some 169] I J R) rfl (St_arr h1 rfl) (fun I1 J1 R1 h1 => ?_)
  have hT : ∀ j, 0 < j → j < 170 → (up (up (up T0 38 (oc [])) 38 (oc [some 39])) 38 (oc [some 39, some 70])) j = T j := fun j a b => by
    by_cases h38 : j = 38
    · subst h38
      exact Eq.trans (b := T0 38) rfl (ht 38 (by decide) (by decide)).symm
    simp only [up_ne h38]
    exact (ht j (by omega) b).symm
  exact X_vret dX11_init_173 rfl ⟨rfl, hQ _ _ _ (St_end h1 hT (ht _ (by decide) (by decide)))⟩
set_option maxRecDepth 40000 in
set_option maxHeartbeats 4000000 in
theorem c_X12i {Q : Mm → Prop} {T : Nat → Cz} (hd : 1 ≤ d) (ht : ∀ j, 170 ≤ j → j < 206 → T j = T0 j) (h0 : eqc I J R 170 (oc [])) (hQ : ∀ I' J' R', Good 170 206 T I J R I' J' R' → Q (206, I', J', R')) : Y G d zX12_init [vr 170] (171, I, J, R) 35 5542 (qv Q) := by
  refine Y_of rfl rfl (Nat.le_of_ble_eq_true rfl) rfl ?_
  refine X_aload_n dX12_init_0 rfl ?_
  refine X_objInit dX12_init_1 oi_X12_1 oi_2 oi_3 (by omega) (Nat.le_of_ble_eq_true rfl) ?_
  refine X_abs (m := 171) (P := St 170 171 (up T0 177 (oc [])) (fun _ => 0) [] I J R) rfl (St_0 h0) (fun I1 J1 R1 h1 => ?_)
  refine X_aload_n dX12_init_4 rfl ?_
  refine X_bipush (v := nI 80) dX12_init_5 (by decide) ?_
  refine X_newI (N := 80) dX12_init_7 aw_int (by first | assumption | rfl) rfl (by decide) (by first | decide | omega) ?_
  refine X_putR dX12_init_9 gf_X12_7 (Or.inr ⟨rfl, rfl⟩) (by first | assumption | rfl) (by first | assumption | exact Nat.le_of_ble_eq_true rfl | omega) rfl rfl ?_
  refine X_abs (m := 172) (P := St 170 172 (up T0 177 (oc [])) (fun _ => 0) [some 171] I J R) rfl (St_arr h1 rfl) (fun I1 J1 R1 h1 => ?_)
  refine X_aload_n dX12_init_12 rfl ?_
  refine X_bipush (v := nI 12) dX12_init_13 (by decide) ?_
  refine X_newI (N := 12) dX12_init_15 aw_int (by first | assumption | rfl) rfl (by decide) (by first | decide | omega) ?_
  refine X_putR dX12_init_17 gf_X12_13 (Or.inr ⟨rfl, rfl⟩) (by first | assumption | rfl) (by first | assumption | exact Nat.le_of_ble_eq_true rfl | omega) rfl rfl ?_
  refine X_abs (m := 173) (P := St 170 173 (up T0 177 (oc [])) (fun _ => 0) [some 171, none, none, none, none, some 172] I J R) rfl (St_arr h1 rfl) (fun I1 J1 R1 h1 => ?_)
  refine X_aload_n dX12_init_20 rfl ?_
  refine X_bipush (v := nI 12) dX12_init_21 (by decide) ?_
  refine X_newI (N := 12) dX12_init_23 aw_int (by first | assumption | rfl) rfl (by decide) (by first | decide | omega) ?_
  refine X_putR dX12_init_25 gf_X12_16 (Or.inr ⟨rfl, rfl⟩) (by first | assumption | rfl) (by first | assumption | exact Nat.le_of_ble_eq_true rfl | omega) rfl rfl ?_
  refine X_abs (m := 174) (P := St 170 174 (up T0 177 (oc [])) (fun _ => 0) [some 171, none, none, none, none, some 172, some 173] I J R) rfl (St_arr h1 rfl) (fun I1 J1 R1 h1 => ?_)
  refine X_aload_n dX12_init_28 rfl ?_
  refine X_bipush (v := nI 12) dX12_init_29 (by decide) ?_
  refine X_newI (N := 12) dX12_init_31 aw_int (by first | assumption | rfl) rfl (by decide) (by first | decide | omega) ?_
  refine X_putR dX12_init_33 gf_X12_19 (Or.inr ⟨rfl, rfl⟩) (by first | assumption | rfl) (by first | assumption | exact Nat.le_of_ble_eq_true rfl | omega) rfl rfl ?_
  refine X_abs (m := 175) (P := St 170 175 (up T0 177 (oc [])) (fun _ => 0) [some 171, none, none, none, none, some 172, some 173, some 174] I J R) rfl (St_arr h1 rfl) (fun I1 J1 R1 h1 => ?_)
  refine X_aload_n dX12_init_36 rfl ?_
  refine X_bipush (v := nI 12) dX12_init_37 (by decide) ?_
  refine X_newI (N := 12) dX12_init_39 aw_int (by first | assumption | rfl) rfl (by decide) (by first | decide | omega) ?_
  refine X_putR dX12_init_41 gf_X12_22 (Or.inr ⟨rfl, rfl⟩) (by first | assumption | rfl) (by first | assumption | exact Nat.le_of_ble_eq_true rfl | omega) rfl rfl ?_
  refine X_abs (m := 176) (P := St 170 176 (up T0 177 (oc [])) (fun _ => 0) [some 171, none, none, none, none, some 172, some 173, some 174, some 175] I J R) rfl (St_arr h1 rfl) (fun I1 J1 R1 h1 => ?_)
  refine X_aload_n dX12_init_44 rfl ?_
  refine X_bipush (v := nI 48) dX12_init_45 (by decide) ?_
  refine X_newI (N := 48) dX12_init_47 aw_int (by first | assumption | rfl) rfl (by decide) (by first | decide | omega) ?_
  refine X_putR dX12_init_49 gf_X12_25 (Or.inr ⟨rfl, rfl⟩) (by first | assumption | rfl) (by first | assumption | exact Nat.le_of_ble_eq_true rfl | omega) rfl rfl ?_
  refine X_abs (m := 177) (P := St 170 177 (up T0 177 (oc [])) (fun _ => 0) [some 171, none, none, none, none, some 172, some 173, some 174, some 175, none, some 176] I J R) rfl (St_arr h1 rfl) (fun I1 J1 R1 h1 => ?_)
  refine X_aload_n dX12_init_52 rfl ?_
  refine X_iconst (v := nI 4) dX12_init_53 (by decide) ?_
  refine X_newI (N := 4) dX12_init_54 aw_int (by first | assumption | rfl) rfl (by decide) (by first | decide | omega) ?_
  refine X_putR dX12_init_56 gf_X12_28 (Or.inr ⟨rfl, rfl⟩) (by first | assumption | rfl) (by first | assumption | exact Nat.le_of_ble_eq_true rfl | omega) rfl rfl ?_
  refine X_abs (m := 178) (P := St 170 178 (up T0 177 (oc [])) (fun _ => 0) [some 171, none, none, none, none, some 172, some 173, some 174, some 175, none, some 176, none, none, none, some 177] I J R) rfl (St_arr h1 rfl) (fun I1 J1 R1 h1 => ?_)
  refine X_aload_n dX12_init_59 rfl ?_
  refine X_bipush (v := nI 48) dX12_init_60 (by decide) ?_
  refine X_newI (N := 48) dX12_init_62 aw_int (by first | assumption | rfl) rfl (by decide) (by first | decide | omega) ?_
  refine X_putR dX12_init_64 gf_X12_31 (Or.inr ⟨rfl, rfl⟩) (by first | assumption | rfl) (by first | assumption | exact Nat.le_of_ble_eq_true rfl | omega) rfl rfl ?_
  refine X_abs (m := 179) (P := St 170 179 (up T0 177 (oc [])) (fun _ => 0) [some 171, none, none, none, none, some 172, some 173, some 174, some 175, none, some 176, none, none, none, some 177, some 178] I J R) rfl (St_arr h1 rfl) (fun I1 J1 R1 h1 => ?_)
  refine X_aload_n dX12_init_67 rfl ?_
  refine X_iconst (v := nI 4) dX12_init_68 (by decide) ?_
  refine X_newI (N := 4) dX12_init_69 aw_int (by first | assumption | rfl) rfl (by decide) (by first | decide | omega) ?_
  refine X_putR dX12_init_71 gf_X12_34 (Or.inr ⟨rfl, rfl⟩) (by first | assumption | rfl) (by first | assumption | exact Nat.le_of_ble_eq_true rfl | omega) rfl rfl ?_
  refine X_abs (m := 180) (P := St 170 180 (up T0 177 (oc [])) (fun _ => 0) [some 171, none, none, none, none, some 172, some 173, some 174, some 175, none, some 176, none, none, none, some 177, some 178, some 179] I J R) rfl (St_arr h1 rfl) (fun I1 J1 R1 h1 => ?_)
  refine X_aload_n dX12_init_74 rfl ?_
  refine X_iconst (v := nI 4) dX12_init_75 (by decide) ?_
  refine X_newI (N := 4) dX12_init_76 aw_int (by first | assumption | rfl) rfl (by decide) (by first | decide | omega) ?_
  refine X_putR dX12_init_78 gf_X12_37 (Or.inr ⟨rfl, rfl⟩) (by first | assumption | rfl) (by first | assumption | exact Nat.le_of_ble_eq_true rfl | omega) rfl rfl ?_
  refine X_abs (m := 181) (P := St 170 181 (up T0 177 (oc [])) (fun _ => 0) [some 171, none, none, none, none, some 172, some 173, some 174, some 175, none, some 176, none, none, none, some 177, some 178, some 179, some 180] I J R) rfl (St_arr h1 rfl) (fun I1 J1 R1 h1 => ?_)
  refine X_aload_n dX12_init_81 rfl ?_
  refine X_bipush (v := nI 8) dX12_init_82 (by decide) ?_
  refine X_newI (N := 8) dX12_init_84 aw_int (by first | assumption | rfl) rfl (by decide) (by first | decide | omega) ?_
  refine X_putR dX12_init_86 gf_X12_40 (Or.inr ⟨rfl, rfl⟩) (by first | assumption | rfl) (by first | assumption | exact Nat.le_of_ble_eq_true rfl | omega) rfl rfl ?_
  refine X_abs (m := 182) (P := St 170 182 (up T0 177 (oc [])) (fun _ => 0) [some 171, none, none, none, none, some 172, some 173, some 174, some 175, none, some 176, none, none, none, some 177, some 178, some 179, some 180, some 181] I J R) rfl (St_arr h1 rfl) (fun I1 J1 R1 h1 => ?_)
  refine X_aload_n dX12_init_89 rfl ?_
  refine X_bipush (v := nI 12) dX12_init_90 (by decide) ?_
  refine X_newI (N := 12) dX12_init_92 aw_int (by first | assumption | rfl) rfl (by decide) (by first | decide | omega) ?_
  refine X_putR dX12_init_94 gf_X12_43 (Or.inr ⟨rfl, rfl⟩) (by first | assumption | rfl) (by first | assumption | exact Nat.le_of_ble_eq_true rfl | omega) rfl rfl ?_
  refine X_abs (m := 183) (P := St 170 183 (up T0 177 (oc [])) (fun _ => 0) [some 171, none, none, none, none, some 172, some 173, some 174, some 175, none, some 176, none, none, none, some 177, some 178, some 179, some 180, some 181, some 182] I J R) rfl (St_arr h1 rfl) (fun I1 J1 R1 h1 => ?_)
  refine X_aload_n dX12_init_97 rfl ?_
  refine X_bipush (v := nI 12) dX12_init_98 (by decide) ?_
  refine X_newI (N := 12) dX12_init_100 aw_int (by first | assumption | rfl) rfl (by decide) (by first | decide | omega) ?_
  refine X_putR dX12_init_102 gf_X12_46 (Or.inr ⟨rfl, rfl⟩) (by first | assumption | rfl) (by first | assumption | exact Nat.le_of_ble_eq_true rfl | omega) rfl rfl ?_
  refine X_abs (m := 184) (P := St 170 184 (up T0 177 (oc [])) (fun _ => 0) [some 171, none, none, none, none, some 172, some 173, some 174, some 175, none, some 176, none, none, none, some 177, some 178, some 179, some 180, some 181, some 182, some 183] I J R) rfl (St_arr h1 rfl) (fun I1 J1 R1 h1 => ?_)
  refine X_aload_n dX12_init_105 rfl ?_
  refine X_bipush (v := nI 12) dX12_init_106 (by decide) ?_
  refine X_newI (N := 12) dX12_init_108 aw_int (by first | assumption | rfl) rfl (by decide) (by first | decide | omega) ?_
  refine X_putR dX12_init_110 gf_X12_49 (Or.inr ⟨rfl, rfl⟩) (by first | assumption | rfl) (by first | assumption | exact Nat.le_of_ble_eq_true rfl | omega) rfl rfl ?_
  refine X_abs (m := 185) (P := St 170 185 (up T0 177 (oc [])) (fun _ => 0) [some 171, none, none, none, none, some 172, some 173, some 174, some 175, none, some 176, none, none, none, some 177, some 178, some 179, some 180, some 181, some 182, some 183, some 184] I J R) rfl (St_arr h1 rfl) (fun I1 J1 R1 h1 => ?_)
  refine X_aload_n dX12_init_113 rfl ?_
  refine X_bipush (v := nI 12) dX12_init_114 (by decide) ?_
  refine X_newI (N := 12) dX12_init_116 aw_int (by first | assumption | rfl) rfl (by decide) (by first | decide | omega) ?_
  refine X_putR dX12_init_118 gf_X12_52 (Or.inr ⟨rfl, rfl⟩) (by first | assumption | rfl) (by first | assumption | exact Nat.le_of_ble_eq_true rfl | omega) rfl rfl ?_
  refine X_abs (m := 186) (P := St 170 186 (up T0 177 (oc [])) (fun _ => 0) [some 171, none, none, none, none, some 172, some 173, some 174, some 175, none, some 176, none, none, none, some 177, some 178, some 179, some 180, some 181, some 182, some 183, some 184, some 185] I J R) rfl (St_arr h1 rfl) (fun I1 J1 R1 h1 => ?_)
  refine X_aload_n dX12_init_121 rfl ?_
  refine X_bipush (v := nI 12) dX12_init_122 (by decide) ?_
  refine X_newI (N := 12) dX12_init_124 aw_int (by first | assumption | rfl) rfl (by decide) (by first | decide | omega) ?_
  refine X_putR dX12_init_126 gf_X12_55 (Or.inr ⟨rfl, rfl⟩) (by first | assumption | rfl) (by first | assumption | exact Nat.le_of_ble_eq_true rfl | omega) rfl rfl ?_
  refine X_abs (m := 187) (P := St 170 187 (up T0 177 (oc [])) (fun _ => 0) [some 171, none, none, none, none, some 172, some 173, some 174, some 175, none, some 176, none, none, none, some 177, some 178, some 179, some 180, some 181, some 182, some 183, some 184, some 185, none, none, some 186] I J R) rfl (St_arr h1 rfl) (fun I1 J1 R1 h1 => ?_)
  refine X_aload_n dX12_init_129 rfl ?_
  refine X_bipush (v := nI 12) dX12_init_130 (by decide) ?_
  refine X_newI (N := 12) dX12_init_132 aw_int (by first | assumption | rfl) rfl (by decide) (by first | decide | omega) ?_
  refine X_putR dX12_init_134 gf_X12_58 (Or.inr ⟨rfl, rfl⟩) (by first | assumption | rfl) (by first | assumption | exact Nat.le_of_ble_eq_true rfl | omega) rfl rfl ?_
  refine X_abs (m := 188) (P := St 170 188 (up T0 177 (oc [])) (fun _ => 0) [some 171, none, none, none, none, some 172, some 173, some 174, some 175, none, some 176, none, none, none, some 177, some 178, some 179, some 180, some 181, some 182, some 183, some 184, some 185, none, none, some 186, some 187] I J R) rfl (St_arr h1 rfl) (fun I1 J1 R1 h1 => ?_)
  refine X_aload_n dX12_init_137 rfl ?_
  refine X_bipush (v := nI 12) dX12_init_138 (by decide) ?_
  refine X_newZ (N := 12) dX12_init_140 aw_boolean (by first | assumption | rfl) rfl (by decide) (by first | decide | omega) ?_
  refine X_putR dX12_init_142 gf_X12_61 (Or.inr ⟨rfl, rfl⟩) (by first | assumption | rfl) (by first | assumption | exact Nat.le_of_ble_eq_true rfl | omega) rfl rfl ?_
  refine X_abs (m := 189) (P := St 170 189 (up T0 177 (oc [])) (fun _ => 0) [some 171, none, none, none, none, some 172, some 173, some 174, some 175, none, some 176, none, none, none, some 177, some 178, some 179, some 180, some 181, some 182, some 183, some 184, some 185, none, none, some 186, some 187, some 188] I J R) rfl (St_arr h1 rfl) (fun I1 J1 R1 h1 => ?_)
  refine X_aload_n dX12_init_145 rfl ?_
  refine X_bipush (v := nI 12) dX12_init_146 (by decide) ?_
  refine X_newI (N := 12) dX12_init_148 aw_int (by first | assumption | rfl) rfl (by decide) (by first | decide | omega) ?_
  refine X_putR dX12_init_150 gf_X12_65 (Or.inr ⟨rfl, rfl⟩) (by first | assumption | rfl) (by first | assumption | exact Nat.le_of_ble_eq_true rfl | omega) rfl rfl ?_
  refine X_abs (m := 190) (P := St 170 190 (up T0 177 (oc [])) (fun _ => 0) [some 171, none, none, none, none, some 172, some 173, some 174, some 175, none, some 176, none, none, none, some 177, some 178, some 179, some 180, some 181, some 182, some 183, some 184, some 185, none, none, some 186, some 187, some 188, some 189] I J R) rfl (St_arr h1 rfl) (fun I1 J1 R1 h1 => ?_)
  refine X_aload_n dX12_init_153 rfl ?_
  refine X_bipush (v := nI 12) dX12_init_154 (by decide) ?_
  refine X_newI (N := 12) dX12_init_156 aw_int (by first | assumption | rfl) rfl (by decide) (by first | decide | omega) ?_
  refine X_putR dX12_init_158 gf_X12_68 (Or.inr ⟨rfl, rfl⟩) (by first | assumption | rfl) (by first | assumption | exact Nat.le_of_ble_eq_true rfl | omega) rfl rfl ?_
  refine X_abs (m := 191) (P := St 170 191 (up T0 177 (oc [])) (fun _ => 0) [some 171, none, none, none, none, some 172, some 173, some 174, some 175, none, some 176, none, none, none, some 177, some 178, some 179, some 180, some 181, some 182, some 183, some 184, some 185, none, none, some 186, some 187, some 188, some 189, some 190] I J R) rfl (St_arr h1 rfl) (fun I1 J1 R1 h1 => ?_)
  refine X_aload_n dX12_init_161 rfl ?_
  refine X_sipush (v := nI 4096) dX12_init_162 (by decide) ?_
  refine X_newI (N := 4096) dX12_init_165 aw_int (by first | assumption | rfl) rfl (by decide) (by first | decide | omega) ?_
  refine X_putR dX12_init_167 gf_X12_71 (Or.inr ⟨rfl, rfl⟩) (by first | assumption | rfl) (by first | assumption | exact Nat.le_of_ble_eq_true rfl | omega) rfl rfl ?_
  refine X_abs (m := 192) (P := St 170 192 (up T0 177 (oc [])) (fun _ => 0) [some 171, none, none, none, none, some 172, some 173, some 174, some 175, none, some 176, none, none, none, some 177, some 178, some 179, some 180, some 181, some 182, some 183, some 184, some 185, none, none, some 186, some 187, some 188, some 189, some 190, some 191] I J R) rfl (St_arr h1 rfl) (fun I1 J1 R1 h1 => ?_)
  refine X_aload_n dX12_init_170 rfl ?_
  refine X_bipush (v := nI 12) dX12_init_171 (by decide) ?_
  refine X_newI (N := 12) dX12_init_173 aw_int (by first | assumption | rfl) rfl (by decide) (by first | decide | omega) ?_
  refine X_putR dX12_init_175 gf_X12_74 (Or.inr ⟨rfl, rfl⟩) (by first | assumption | rfl) (by first | assumption | exact Nat.le_of_ble_eq_true rfl | omega) rfl rfl ?_
  refine X_abs (m := 193) (P := St 170 193 (up T0 177 (oc [])) (fun _ => 0) [some 171, none, none, none, none, some 172, some 173, some 174, some 175, none, some 176, none, none, none, some 177, some 178, some 179, some 180, some 181, some 182, some 183, some 184, some 185, none, none, some 186, some 187, some 188, some 189, some 190, some 191, some 192] I J R) rfl (St_arr h1 rfl) (fun I1 J1 R1 h1 => ?_)
  refine X_aload_n dX12_init_178 rfl ?_
  refine X_bipush (v := nI 12) dX12_init_179 (by decide) ?_
  refine X_newI (N := 12) dX12_init_181 aw_int (by first | assumption | rfl) rfl (by decide) (by first | decide | omega) ?_
  refine X_putR dX12_init_183 gf_X12_77 (Or.inr ⟨rfl, rfl⟩) (by first | assumption | rfl) (by first | assumption | exact Nat.le_of_ble_eq_true rfl | omega) rfl rfl ?_
  refine X_abs (m := 194) (P := St 170 194 (up T0 177 (oc [])) (fun _ => 0) [some 171, none, none, none, none, some 172, some 173, some 174, some 175, none, some 176, none, none, none, some 177, some 178, some 179, some 180, some 181, some 182, some 183, some 184, some 185, none, none, some 186, some 187, some 188, some 189, some 190, some 191, some 192, some 193] I J R) rfl (St_arr h1 rfl) (fun I1 J1 R1 h1 => ?_)
  refine X_aload_n dX12_init_186 rfl ?_
  refine X_bipush (v := nI 12) dX12_init_187 (by decide) ?_
  refine X_newI (N := 12) dX12_init_189 aw_int (by first | assumption | rfl) rfl (by decide) (by first | decide | omega) ?_
  refine X_putR dX12_init_191 gf_X12_80 (Or.inr ⟨rfl, rfl⟩) (by first | assumption | rfl) (by first | assumption | exact Nat.le_of_ble_eq_true rfl | omega) rfl rfl ?_
  refine X_abs (m := 195) (P := St 170 195 (up T0 177 (oc [])) (fun _ => 0) [some 171, none, none, none, none, some 172, some 173, some 174, some 175, none, some 176, none, none, none, some 177, some 178, some 179, some 180, some 181, some 182, some 183, some 184, some 185, none, none, some 186, some 187, some 188, some 189, some 190, some 191, some 192, some 193, some 194] I J R) rfl (St_arr h1 rfl) (fun I1 J1 R1 h1 => ?_)
  refine X_aload_n dX12_init_194 rfl ?_
  refine X_bipush (v := nI 13) dX12_init_195 (by decide) ?_
  refine X_newI (N := 13) dX12_init_197 aw_int (by first | assumption | rfl) rfl (by decide) (by first | decide | omega) ?_
  refine X_putR dX12_init_199 gf_X12_83 (Or.inr ⟨rfl, rfl⟩) (by first | assumption | rfl) (by first | assumption | exact Nat.le_of_ble_eq_true rfl | omega) rfl rfl ?_
  refine X_abs (m := 196) (P := St 170 196 (up T0 177 (oc [])) (fun _ => 0) [some 171, none, none, none, none, some 172, some 173, some 174, some 175, none, some 176, none, none, none, some 177, some 178, some 179, some 180, some 181, some 182, some 183, some 184, some 185, none, none, some 186, some 187, some 188, some 189, some 190, some 191, some 192, some 193, some 194, some 195] I J R) rfl (St_arr h1 rfl) (fun I1 J1 R1 h1 => ?_)
  refine X_aload_n dX12_init_202 rfl ?_
  refine X_bipush (v := nI 12) dX12_init_203 (by decide) ?_
  refine X_newI (N := 12) dX12_init_205 aw_int (by first | assumption | rfl) rfl (by decide) (by first | decide | omega) ?_
  refine X_putR dX12_init_207 gf_X12_86 (Or.inr ⟨rfl, rfl⟩) (by first | assumption | rfl) (by first | assumption | exact Nat.le_of_ble_eq_true rfl | omega) rfl rfl ?_
  refine X_abs (m := 197) (P := St 170 197 (up T0 177 (oc [])) (fun _ => 0) [some 171, none, none, none, none, some 172, some 173, some 174, some 175, none, some 176, none, none, none, some 177, some 178, some 179, some 180, some 181, some 182, some 183, some 184, some 185, none, none, some 186, some 187, some 188, some 189, some 190, some 191, some 192, some 193, some 194, some 195, some 196] I J R) rfl (St_arr h1 rfl) (fun I1 J1 R1 h1 => ?_)
  refine X_aload_n dX12_init_210 rfl ?_
  refine X_bipush (v := nI 96) dX12_init_211 (by decide) ?_
  refine X_newI (N := 96) dX12_init_213 aw_int (by first | assumption | rfl) rfl (by decide) (by first | decide | omega) ?_
  refine X_putR dX12_init_215 gf_X12_89 (Or.inr ⟨rfl, rfl⟩) (by first | assumption | rfl) (by first | assumption | exact Nat.le_of_ble_eq_true rfl | omega) rfl rfl ?_
  refine X_abs (m := 198) (P := St 170 198 (up T0 177 (oc [])) (fun _ => 0) [some 171, none, none, none, none, some 172, some 173, some 174, some 175, none, some 176, none, none, none, some 177, some 178, some 179, some 180, some 181, some 182, some 183, some 184, some 185, none, none, some 186, some 187, some 188, some 189, some 190, some 191, some 192, some 193, some 194, some 195, some 196, some 197] I J R) rfl (St_arr h1 rfl) (fun I1 J1 R1 h1 => ?_)
  refine X_aload_n dX12_init_218 rfl ?_
  refine X_iconst (v := nI 4) dX12_init_219 (by decide) ?_
  refine X_newI (N := 4) dX12_init_220 aw_int (by first | assumption | rfl) rfl (by decide) (by first | decide | omega) ?_
  refine X_putR dX12_init_222 gf_X12_92 (Or.inr ⟨rfl, rfl⟩) (by first | assumption | rfl) (by first | assumption | exact Nat.le_of_ble_eq_true rfl | omega) rfl rfl ?_
  refine X_abs (m := 199) (P := St 170 199 (up T0 177 (oc [])) (fun _ => 0) [some 171, none, none, none, none, some 172, some 173, some 174, some 175, none, some 176, none, none, none, some 177, some 178, some 179, some 180, some 181, some 182, some 183, some 184, some 185, none, none, some 186, some 187, some 188, some 189, some 190, some 191, some 192, some 193, some 194, some 195, some 196, some 197, some 198] I J R) rfl (St_arr h1 rfl) (fun I1 J1 R1 h1 => ?_)
  refine X_aload_n dX12_init_225 rfl ?_
  refine X_iconst (v := nI 4) dX12_init_226 (by decide) ?_
  refine X_newI (N := 4) dX12_init_227 aw_int (by first | assumption | rfl) rfl (by decide) (by first | decide | omega) ?_
  refine X_putR dX12_init_229 gf_X12_95 (Or.inr ⟨rfl, rfl⟩) (by first | assumption | rfl) (by first | assumption | exact Nat.le_of_ble_eq_true rfl | omega) rfl rfl ?_
  refine X_abs (m := 200) (P := St 170 200 (up T0 177 (oc [])) (fun _ => 0) [some 171, none, none, none, none, some 172, some 173, some 174, some 175, none, some 176, none, none, none, some 177, some 178, some 179, some 180, some 181, some 182, some 183, some 184, some 185, none, none, some 186, some 187, some 188, some 189, some 190, some 191, some 192, some 193, some 194, some 195, some 196, some 197, some 198, some 199] I J R) rfl (St_arr h1 rfl) (fun I1 J1 R1 h1 => ?_)
  refine X_aload_n dX12_init_232 rfl ?_
  refine X_iconst (v := nI 4) dX12_init_233 (by decide) ?_
  refine X_newI (N := 4) dX12_init_234 aw_int (by first | assumption | rfl) rfl (by decide) (by first | decide | omega) ?_
  refine X_putR dX12_init_236 gf_X12_98 (Or.inr ⟨rfl, rfl⟩) (by first | assumption | rfl) (by first | assumption | exact Nat.le_of_ble_eq_true rfl | omega) rfl rfl ?_
  refine X_abs (m := 201) (P := St 170 201 (up T0 177 (oc [])) (fun _ => 0) [some 171, none, none, none, none, some 172, some 173, some 174, some 175, none, some 176, none, none, none, some 177, some 178, some 179, some 180, some 181, some 182, some 183, some 184, some 185, none, none, some 186, some 187, some 188, some 189, some 190, some 191, some 192, some 193, some 194, some 195, some 196, some 197, some 198, some 199, none, some 200] I J R) rfl (St_arr h1 rfl) (fun I1 J1 R1 h1 => ?_)
  refine X_aload_n dX12_init_239 rfl ?_
  refine X_bipush (v := nI 64) dX12_init_240 (by decide) ?_
  refine X_newI (N := 64) dX12_init_242 aw_int (by first | assumption | rfl) rfl (by decide) (by first | decide | omega) ?_
  refine X_putR dX12_init_244 gf_X12_101 (Or.inr ⟨rfl, rfl⟩) (by first | assumption | rfl) (by first | assumption | exact Nat.le_of_ble_eq_true rfl | omega) rfl rfl ?_
  refine X_abs (m := 202) (P := St 170 202 (up T0 177 (oc [])) (fun _ => 0) [some 171, none, none, none, none, some 172, some 173, some 174, some 175, none, some 176, none, none, none, some 177, some 178, some 179, some 180, some 181, some 182, some 183, some 184, some 185, none, none, some 186, some 187, some 188, some 189, some 190, some 191, some 192, some 193, some 194, some 195, some 196, some 197, some 198, some 199, none, some 200, some 201] I J R) rfl (St_arr h1 rfl) (fun I1 J1 R1 h1 => ?_)
  refine X_aload_n dX12_init_247 rfl ?_
  refine X_sipush (v := nI 256) dX12_init_248 (by decide) ?_
  refine X_newI (N := 256) dX12_init_251 aw_int (by first | assumption | rfl) rfl (by decide) (by first | decide | omega) ?_
  refine X_putR dX12_init_253 gf_X12_104 (Or.inr ⟨rfl, rfl⟩) (by first | assumption | rfl) (by first | assumption | exact Nat.le_of_ble_eq_true rfl | omega) rfl rfl ?_
  refine X_abs (m := 203) (P := St 170 203 (up T0 177 (oc [])) (fun _ => 0) [some 171, none, none, none, none, some 172, some 173, some 174, some 175, none, some 176, none, none, none, some 177, some 178, some 179, some 180, some 181, some 182, some 183, some 184, some 185, none, none, some 186, some 187, some 188, some 189, some 190, some 191, some 192, some 193, some 194, some 195, some 196, some 197, some 198, some 199, none, some 200, some 201, some 202] I J R) rfl (St_arr h1 rfl) (fun I1 J1 R1 h1 => ?_)
  refine X_aload_n dX12_init_256 rfl ?_
  refine X_iconst (v := nI 3) dX12_init_257 (by decide) ?_
  refine X_newI (N := 3) dX12_init_258 aw_int (by first | assumption | rfl) rfl (by decide) (by first | decide | omega) ?_
  refine X_putR dX12_init_260 gf_X12_107 (Or.inr ⟨rfl, rfl⟩) (by first | assumption | rfl) (by first | assumption | exact Nat.le_of_ble_eq_true rfl | omega) rfl rfl ?_
  refine X_abs (m := 204) (P := St 170 204 (up T0 177 (oc [])) (fun _ => 0) [some 171, none, none, none, none, some 172, some 173, some 174, some 175, none, some 176, none, none, none, some 177, some 178, some 179, some 180, some 181, some 182, some 183, some 184, some 185, none, none, some 186, some 187, some 188, some 189, some 190, some 191, some 192, some 193, some 194, some 195, some 196, some 197, some 198, some 199, none, some 200, some 201, some 202, some 203] I J R) rfl (St_arr h1 rfl) (fun I1 J1 R1 h1 => ?_)
  refine X_aload_n dX12_init_263 rfl ?_
  refine X_sipush (v := nI 600) dX12_init_264 (by decide) ?_
  refine X_newI (N := 600) dX12_init_267 aw_int (by first | assumption | rfl) rfl (by decide) (by first | decide | omega) ?_
  refine X_putR dX12_init_269 gf_X12_110 (Or.inr ⟨rfl, rfl⟩) (by first | assumption | rfl) (by first | assumption | exact Nat.le_of_ble_eq_true rfl | omega) rfl rfl ?_
  refine X_abs (m := 205) (P := St 170 205 (up T0 177 (oc [])) (fun _ => 0) [some 171, none, none, none, none, some 172, some 173, some 174, some 175, none, some 176, none, none, none, some 177, some 178, some 179, some 180, some 181, some 182, some 183, some 184, some 185, none, none, some 186, some 187, some 188, some 189, some 190, some 191, some 192, some 193, some 194, some 195, some 196, some 197, some 198, some 199, none, some 200, some 201, some 202, some 203, some 204] I J R) rfl (St_arr h1 rfl) (fun I1 J1 R1 h1 => ?_)
  refine X_aload_n dX12_init_272 rfl ?_
  refine X_iconst (v := nI 2) dX12_init_273 (by decide) ?_
  refine X_newZ (N := 2) dX12_init_274 aw_boolean (by first | assumption | rfl) rfl (by decide) (by first | decide | omega) ?_
  refine X_putR dX12_init_276 gf_X12_113 (Or.inr ⟨rfl, rfl⟩) (by first | assumption | rfl) (by first | assumption | exact Nat.le_of_ble_eq_true rfl | omega) rfl rfl ?_
  refine X_abs (m := 206) (P := St 170 206 (up T0 177 (oc [])) (fun _ => 0) [some 171, none, none, none, none, some 172, some 173, some 174, some 175, none, some 176, none, none, none, some 177, some 178, some 179, some 180, some 181, some 182, some 183, some 184, some 185, none, none, some 186, some 187, some 188, some 189, some 190, some 191, some 192, some 193, some 194, some 195, some 196, some 197, some 198, some 199, none, some 200, some 201, some 202, some 203, some 204, some 205] I J R) rfl (St_arr h1 rfl) (fun I1 J1 R1 h1 => ?_)
  refine X_aload_n dX12_init_279 rfl ?_
  refine X_bipush (v := nI 15) dX12_init_280 (by decide) ?_
  refine X_putI dX12_init_282 gf_X12_116 (Or.inl rfl) (by first | assumption | rfl) (by first | assumption | exact Nat.le_of_ble_eq_true rfl | omega) rfl ?_
  refine X_abs (m := 206) (P := St 170 206 (up T0 177 (oc [])) (up (fun _ => 0) 12 (nI 15)) [some 171, none, none, none, none, some 172, some 173, some 174, some 175, none, some 176, none, none, none, some 177, some 178, some 179, some 180, some 181, some 182, some 183, some 184, some 185, none, none, some 186, some 187, some 188, some 189, some 190, some 191, some 192, some 193, some 194, some 195, some 196, some 197, some 198, some 199, none, some 200, some 201, some 202, some 203, some 204, some 205] I J R) rfl (St_int h1) (fun I1 J1 R1 h1 => ?_)
  refine X_aload_n dX12_init_285 rfl ?_
  refine X_iconst (v := nI 1) dX12_init_286 (by decide) ?_
  refine X_putI dX12_init_287 gf_X12_120 (Or.inl rfl) (by first | assumption | rfl) (by first | assumption | exact Nat.le_of_ble_eq_true rfl | omega) rfl ?_
  refine X_abs (m := 206) (P := St 170 206 (up T0 177 (oc [])) (up (up (fun _ => 0) 12 (nI 15)) 13 (nI 1)) [some 171, none, none, none, none, some 172, some 173, some 174, some 175, none, some 176, none, none, none, some 177, some 178, some 179, some 180, some 181, some 182, some 183, some 184, some 185, none, none, some 186, some 187, some 188, some 189, some 190, some 191, some 192, some 193, some 194, some 195, some 196, some 197, some 198, some 199, none, some 200, some 201, some 202, some 203, some 204, some 205] I J R) rfl (St_int h1) (fun I1 J1 R1 h1 => ?_)
  refine X_iconst (v := nI 0) dX12_init_290 (by decide) ?_
  refine X_istore_n dX12_init_291 rfl rfl ?_
  refine X_iload_n dX12_init_292 rfl ?_
  refine X_iconst (v := nI 4) dX12_init_293 (by decide) ?_
  refine X_icmp_ge (tgt := 310) dX12_init_294 (by decide) (fun b => ?_) (fun b => ?_)
  · exact absurd b (by decide)
  have r1 := St_me (i := 14) (c := some 177) h1 rfl
  have z1 := (St_at (q := 177) h1 (by decide)).1
  refine X_aload_n dX12_init_297 rfl ?_
  refine X_getR dX12_init_298 gf_X12_28 (by first | assumption | rfl) (by first | assumption | exact Nat.le_of_ble_eq_true rfl | omega) rfl (by first | assumption | rfl) ?_
  refine X_iload_n dX12_init_301 rfl ?_
  refine X_iconst (v := nI 1) dX12_init_302 (by decide) ?_
  refine X_iast dX12_init_303 (by first | assumption | rfl) (by first | assumption | exact Nat.le_of_ble_eq_true rfl | omega) rfl (by first | decide | omega) (by decide) ?_
  clear r1
  refine X_abs (m := 206) (P := St 170 206 (up (up T0 177 (oc [])) 177 ((up (fun _ => 0) 0 (nI 1)), ((up T0 177 (oc [])) 177).2.1, ((up T0 177 (oc [])) 177).2.2)) (up (up (fun _ => 0) 12 (nI 15)) 13 (nI 1)) [some 171, none, none, none, none, some 172, some 173, some 174, some 175, none, some 176, none, none, none, some 177, some 178, some 179, some 180, some 181, some 182, some 183, some 184, some 185, none, none, some 186, some 187, some 188, some 189, some 190, some 191, some 192, some 193, some 194, some 195, some 196, some 197, some 198, some 199, none, some 200, some 201, some 202, some 203, some 204, some 205] I J R) rfl (St_ints (q := 177) h1 (by decide) (fun j hj => sr_ne hj) (by rw [sr_eq, z1]; rfl)) (fun I1 J1 R1 h1 => ?_)
  clear z1
  first | refine X_iinc1 dX12_init_304 rfl rfl rfl ?_ | refine X_iinc dX12_init_304 rfl rfl rfl rfl ?_
  refine X_goto (tgt := 292) dX12_init_307 (by decide) ?_
  refine X_iload_n dX12_init_292 rfl ?_
  refine X_iconst (v := nI 4) dX12_init_293 (by decide) ?_
  refine X_icmp_ge (tgt := 310) dX12_init_294 (by decide) (fun b => ?_) (fun b => ?_)
  · exact absurd b (by decide)
  have r1 := St_me (i := 14) (c := some 177) h1 rfl
  have z1 := (St_at (q := 177) h1 (by decide)).1
  refine X_aload_n dX12_init_297 rfl ?_
  refine X_getR dX12_init_298 gf_X12_28 (by first | assumption | rfl) (by first | assumption | exact Nat.le_of_ble_eq_true rfl | omega) rfl (by first | assumption | rfl) ?_
  refine X_iload_n dX12_init_301 rfl ?_
  refine X_iconst (v := nI 1) dX12_init_302 (by decide) ?_
  refine X_iast dX12_init_303 (by first | assumption | rfl) (by first | assumption | exact Nat.le_of_ble_eq_true rfl | omega) rfl (by first | decide | omega) (by decide) ?_
  clear r1
  refine X_abs (m := 206) (P := St 170 206 (up (up (up T0 177 (oc [])) 177 ((up (fun _ => 0) 0 (nI 1)), ((up T0 177 (oc [])) 177).2.1, ((up T0 177 (oc [])) 177).2.2)) 177 ((up (up (fun _ => 0) 0 (nI 1)) 1 (nI 1)), ((up (up T0 177 (oc [])) 177 ((up (fun _ => 0) 0 (nI 1)), ((up T0 177 (oc [])) 177).2.1, ((up T0 177 (oc [])) 177).2.2)) 177).2.1, ((up (up T0 177 (oc [])) 177 ((up (fun _ => 0) 0 (nI 1)), ((up T0 177 (oc [])) 177).2.1, ((up T0 177 (oc [])) 177).2.2)) 177).2.2)) (up (up (fun _ => 0) 12 (nI 15)) 13 (nI 1)) [some 171, none, none, none, none, some 172, some 173, some 174, some 175, none, some 176, none, none, none, some 177, some 178, some 179, some 180, some 181, some 182, some 183, some 184, some 185, none, none, some 186, some 187, some 188, some 189, some 190, some 191, some 192, some 193, some 194, some 195, some 196, some 197, some 198, some 199, none, some 200, some 201, some 202, some 203, some 204, some 205] I J R) rfl (St_ints (q := 177) h1 (by decide) (fun j hj => sr_ne hj) (by rw [sr_eq, z1]; rfl)) (fun I1 J1 R1 h1 => ?_)
  clear z1
  first | refine X_iinc1 dX12_init_304 rfl rfl rfl ?_ | refine X_iinc dX12_init_304 rfl rfl rfl rfl ?_
  refine X_goto (tgt := 292) dX12_init_307 (by decide) ?_
  refine X_iload_n dX12_init_292 rfl ?_
  refine X_iconst (v := nI 4) dX12_init_293 (by decide) ?_
  refine X_icmp_ge (tgt := 310) dX12_init_294 (by decide) (fun b => ?_) (fun b => ?_)
  · exact absurd b (by decide)
  have r1 := St_me (i := 14) (c := some 177) h1 rfl
  have z1 := (St_at (q := 177) h1 (by decide)).1
  refine X_aload_n dX12_init_297 rfl ?_
  refine X_getR dX12_init_298 gf_X12_28 (by first | assumption | rfl) (by first | assumption | exact Nat.le_of_ble_eq_true rfl | omega) rfl (by first | assumption | rfl) ?_
  refine X_iload_n dX12_init_301 rfl ?_
  refine X_iconst (v := nI 1) dX12_init_302 (by decide) ?_
  refine X_iast dX12_init_303 (by first | assumption | rfl) (by first | assumption | exact Nat.le_of_ble_eq_true rfl | omega) rfl (by first | decide | omega) (by decide) ?_
  clear r1
  refine X_abs (m := 206) (P := St 170 206 (up (up (up (up T0 177 (oc [])) 177 ((up (fun _ => 0) 0 (nI 1)), ((up T0 177 (oc [])) 177).2.1, ((up T0 177 (oc [])) 177).2.2)) 177 ((up (up (fun _ => 0) 0 (nI 1)) 1 (nI 1)), ((up (up T0 177 (oc [])) 177 ((up (fun _ => 0) 0 (nI 1)), ((up T0 177 (oc [])) 177).2.1, ((up T0 177 (oc [])) 177).2.2)) 177).2.1, ((up (up T0 177 (oc [])) 177 ((up (fun _ => 0) 0 (nI 1)), ((up T0 177 (oc [])) 177).2.1, ((up T0 177 (oc [])) 177).2.2)) 177).2.2)) 177 ((up (up (up (fun _ => 0) 0 (nI 1)) 1 (nI 1)) 2 (nI 1)), ((up (up (up T0 177 (oc [])) 177 ((up (fun _ => 0) 0 (nI 1)), ((up T0 177 (oc [])) 177).2.1, ((up T0 177 (oc [])) 177).2.2)) 177 ((up (up (fun _ => 0) 0 (nI 1)) 1 (nI 1)), ((up (up T0 177 (oc [])) 177 ((up (fun _ => 0) 0 (nI 1)), ((up T0 177 (oc [])) 177).2.1, ((up T0 177 (oc [])) 177).2.2)) 177).2.1, ((up (up T0 177 (oc [])) 177 ((up (fun _ => 0) 0 (nI 1)), ((up T0 177 (oc [])) 177).2.1, ((up T0 177 (oc [])) 177).2.2)) 177).2.2)) 177).2.1, ((up (up (up T0 177 (oc [])) 177 ((up (fun _ => 0) 0 (nI 1)), ((up T0 177 (oc [])) 177).2.1, ((up T0 177 (oc [])) 177).2.2)) 177 ((up (up (fun _ => 0) 0 (nI 1)) 1 (nI 1)), ((up (up T0 177 (oc [])) 177 ((up (fun _ => 0) 0 (nI 1)), ((up T0 177 (oc [])) 177).2.1, ((up T0 177 (oc [])) 177).2.2)) 177).2.1, ((up (up T0 177 (oc [])) 177 ((up (fun _ => 0) 0 (nI 1)), ((up T0 177 (oc [])) 177).2.1, ((up T0 177 (oc [])) 177).2.2)) 177).2.2)) 177).2.2)) (up (up (fun _ => 0) 12 (nI 15)) 13 (nI 1)) [some 171, none, none, none, none, some 172, some 173, some 174, some 175, none, some 176, none, none, none, some 177, some 178, some 179, some 180, some 181, some 182, some 183, some 184, some 185, none, none, some 186, some 187, some 188, some 189, some 190, some 191, some 192, some 193, some 194, some 195, some 196, some 197, some 198, some 199, none, some 200, some 201, some 202, some 203, some 204, some 205] I J R) rfl (St_ints (q := 177) h1 (by decide) (fun j hj => sr_ne hj) (by rw [sr_eq, z1]; rfl)) (fun I1 J1 R1 h1 => ?_)
  clear z1
  first | refine X_iinc1 dX12_init_304 rfl rfl rfl ?_ | refine X_iinc dX12_init_304 rfl rfl rfl rfl ?_
  refine X_goto (tgt := 292) dX12_init_307 (by decide) ?_
  refine X_iload_n dX12_init_292 rfl ?_
  refine X_iconst (v := nI 4) dX12_init_293 (by decide) ?_
  refine X_icmp_ge (tgt := 310) dX12_init_294 (by decide) (fun b => ?_) (fun b => ?_)
  · exact absurd b (by decide)
  have r1 := St_me (i := 14) (c := some 177) h1 rfl
  have z1 := (St_at (q := 177) h1 (by decide)).1
  refine X_aload_n dX12_init_297 rfl ?_
  refine X_getR dX12_init_298 gf_X12_28 (by first | assumption | rfl) (by first | assumption | exact Nat.le_of_ble_eq_true rfl | omega) rfl (by first | assumption | rfl) ?_
  refine X_iload_n dX12_init_301 rfl ?_
  refine X_iconst (v := nI 1) dX12_init_302 (by decide) ?_
  refine X_iast dX12_init_303 (by first | assumption | rfl) (by first | assumption | exact Nat.le_of_ble_eq_true rfl | omega) rfl (by first | decide | omega) (by decide) ?_
  clear r1
  refine X_abs (m := 206) (P := St 170 206 (up (up (up (up (up T0 177 (oc [])) 177 ((up (fun _ => 0) 0 (nI 1)), ((up T0 177 (oc [])) 177).2.1, ((up T0 177 (oc [])) 177).2.2)) 177 ((up (up (fun _ => 0) 0 (nI 1)) 1 (nI 1)), ((up (up T0 177 (oc [])) 177 ((up (fun _ => 0) 0 (nI 1)), ((up T0 177 (oc [])) 177).2.1, ((up T0 177 (oc [])) 177).2.2)) 177).2.1, ((up (up T0 177 (oc [])) 177 ((up (fun _ => 0) 0 (nI 1)), ((up T0 177 (oc [])) 177).2.1, ((up T0 177 (oc [])) 177).2.2)) 177).2.2)) 177 ((up (up (up (fun _ => 0) 0 (nI 1)) 1 (nI 1)) 2 (nI 1)), ((up (up (up T0 177 (oc [])) 177 ((up (fun _ => 0) 0 (nI 1)), ((up T0 177 (oc [])) 177).2.1, ((up T0 177 (oc [])) 177).2.2)) 177 ((up (up (fun _ => 0) 0 (nI 1)) 1 (nI 1)), ((up (up T0 177 (oc [])) 177 ((up (fun _ => 0) 0 (nI 1)), ((up T0 177 (oc [])) 177).2.1, ((up T0 177 (oc [])) 177).2.2)) 177).2.1, ((up (up T0 177 (oc [])) 177 ((up (fun _ => 0) 0 (nI 1)), ((up T0 177 (oc [])) 177).2.1, ((up T0 177 (oc [])) 177).2.2)) 177).2.2)) 177).2.1, ((up (up (up T0 177 (oc [])) 177 ((up (fun _ => 0) 0 (nI 1)), ((up T0 177 (oc [])) 177).2.1, ((up T0 177 (oc [])) 177).2.2)) 177 ((up (up (fun _ => 0) 0 (nI 1)) 1 (nI 1)), ((up (up T0 177 (oc [])) 177 ((up (fun _ => 0) 0 (nI 1)), ((up T0 177 (oc [])) 177).2.1, ((up T0 177 (oc [])) 177).2.2)) 177).2.1, ((up (up T0 177 (oc [])) 177 ((up (fun _ => 0) 0 (nI 1)), ((up T0 177 (oc [])) 177).2.1, ((up T0 177 (oc [])) 177).2.2)) 177).2.2)) 177).2.2)) 177 ((up (up (up (up (fun _ => 0) 0 (nI 1)) 1 (nI 1)) 2 (nI 1)) 3 (nI 1)), ((up (up (up (up T0 177 (oc [])) 177 ((up (fun _ => 0) 0 (nI 1)), ((up T0 177 (oc [])) 177).2.1, ((up T0 177 (oc [])) 177).2.2)) 177 ((up (up (fun _ => 0) 0 (nI 1)) 1 (nI 1)), ((up (up T0 177 (oc [])) 177 ((up (fun _ => 0) 0 (nI 1)), ((up T0 177 (oc [])) 177).2.1, ((up T0 177 (oc [])) 177).2.2)) 177).2.1, ((up (up T0 177 (oc [])) 177 ((up (fun _ => 0) 0 (nI 1)), ((up T0 177 (oc [])) 177).2.1, ((up T0 177 (oc [])) 177).2.2)) 177).2.2)) 177 ((up (up (up (fun _ => 0) 0 (nI 1)) 1 (nI 1)) 2 (nI 1)), ((up (up (up T0 177 (oc [])) 177 ((up (fun _ => 0) 0 (nI 1)), ((up T0 177 (oc [])) 177).2.1, ((up T0 177 (oc [])) 177).2.2)) 177 ((up (up (fun _ => 0) 0 (nI 1)) 1 (nI 1)), ((up (up T0 177 (oc [])) 177 ((up (fun _ => 0) 0 (nI 1)), ((up T0 177 (oc [])) 177).2.1, ((up T0 177 (oc [])) 177).2.2)) 177).2.1, ((up (up T0 177 (oc [])) 177 ((up (fun _ => 0) 0 (nI 1)), ((up T0 177 (oc [])) 177).2.1, ((up T0 177 (oc [])) 177).2.2)) 177).2.2)) 177).2.1, ((up (up (up T0 177 (oc [])) 177 ((up (fun _ => 0) 0 (nI 1)), ((up T0 177 (oc [])) 177).2.1, ((up T0 177 (oc [])) 177).2.2)) 177 ((up (up (fun _ => 0) 0 (nI 1)) 1 (nI 1)), ((up (up T0 177 (oc [])) 177 ((up (fun _ => 0) 0 (nI 1)), ((up T0 177 (oc [])) 177).2.1, ((up T0 177 (oc [])) 177).2.2)) 177).2.1, ((up (up T0 177 (oc [])) 177 ((up (fun _ => 0) 0 (nI 1)), ((up T0 177 (oc [])) 177).2.1, ((up T0 177 (oc [])) 177).2.2)) 177).2.2)) 177).2.2)) 177).2.1, ((up (up (up (up T0 177 (oc [])) 177 ((up (fun _ => 0) 0 (nI 1)), ((up T0 177 (oc [])) 177).2.1, ((up T0 177 (oc [])) 177).2.2)) 177 ((up (up (fun _ => 0) 0 (nI 1)) 1 (nI 1)), ((up (up T0 177 (oc [])) 177 ((up (fun _ => 0) 0 (nI 1)), ((up T0 177 (oc [])) 177).2.1, ((up T0 177 (oc [])) 177).2.2)) 177).2.1, ((up (up T0 177 (oc [])) 177 ((up (fun _ => 0) 0 (nI 1)), ((up T0 177 (oc [])) 177).2.1, ((up T0 177 (oc [])) 177).2.2)) 177).2.2)) 177 ((up (up (up (fun _ => 0) 0 (nI 1)) 1 (nI 1)) 2 (nI 1)), ((up (up (up T0 177 (oc [])) 177 ((up (fun _ => 0) 0 (nI 1)), ((up T0 177 (oc [])) 177).2.1, ((up T0 177 (oc [])) 177).2.2)) 177 ((up (up (fun _ => 0) 0 (nI 1)) 1 (nI 1)), ((up (up T0 177 (oc [])) 177 ((up (fun _ => 0) 0 (nI 1)), ((up T0 177 (oc [])) 177).2.1, ((up T0 177 (oc [])) 177).2.2)) 177).2.1, ((up (up T0 177 (oc [])) 177 ((up (fun _ => 0) 0 (nI 1)), ((up T0 177 (oc [])) 177).2.1, ((up T0 177 (oc [])) 177).2.2)) 177).2.2)) 177).2.1, ((up (up (up T0 177 (oc [])) 177 ((up (fun _ => 0) 0 (nI 1)), ((up T0 177 (oc [])) 177).2.1, ((up T0 177 (oc [])) 177).2.2)) 177 ((up (up (fun _ => 0) 0 (nI 1)) 1 (nI 1)), ((up (up T0 177 (oc [])) 177 ((up (fun _ => 0) 0 (nI 1)), ((up T0 177 (oc [])) 177).2.1, ((up T0 177 (oc [])) 177).2.2)) 177).2.1, ((up (up T0 177 (oc [])) 177 ((up (fun _ => 0) 0 (nI 1)), ((up T0 177 (oc [])) 177).2.1, ((up T0 177 (oc [])) 177).2.2)) 177).2.2)) 177).2.2)) 177).2.2)) (up (up (fun _ => 0) 12 (nI 15)) 13 (nI 1)) [some 171, none, none, none, none, some 172, some 173, some 174, some 175, none, some 176, none, none, none, some 177, some 178, some 179, some 180, some 181, some 182, some 183, some 184, some 185, none, none, some 186, some 187, some 188, some 189, some 190, some 191, some 192, some 193, some 194, some 195, some 196, some 197, some 198, some 199, none, some 200, some 201, some 202, some 203, some 204, some 205] I J R) rfl (St_ints (q := 177) h1 (by decide) (fun j hj => sr_ne hj) (by rw [sr_eq, z1]; rfl)) (fun I1 J1 R1 h1 => ?_)
  clear z1
  first | refine X_iinc1 dX12_init_304 rfl rfl rfl ?_ | refine X_iinc dX12_init_304 rfl rfl rfl rfl ?_
  refine X_goto (tgt := 292) dX12_init_307 (by decide) ?_
  refine X_iload_n dX12_init_292 rfl ?_
  refine X_iconst (v := nI 4) dX12_init_293 (by decide) ?_
  refine X_icmp_ge (tgt := 310) dX12_init_294 (by decide) (fun b => ?_) (fun b => ?_)
  rotate_left
  · exact absurd (by decide) b
  have hT : ∀ j, 170 < j → j < 206 → (up (up (up (up (up T0 177 (oc [])) 177 ((up (fun _ => 0) 0 (nI 1)), ((up T0 177 (oc [])) 177).2.1, ((up T0 177 (oc [])) 177).2.2)) 177 ((up (up (fun _ => 0) 0 (nI 1)) 1 (nI 1)), ((up (up T0 177 (oc [])) 177 ((up (fun _ => 0) 0 (nI 1)), ((up T0 177 (oc [])) 177).2.1, ((up T0 177 (oc [])) 177).2.2)) 177).2.1, ((up (up T0 177 (oc [])) 177 ((up (fun _ => 0) 0 (nI 1)), ((up T0 177 (oc [])) 177).2.1, ((up T0 177 (oc [])) 177).2.2)) 177).2.2)) 177 ((up (up (up (fun _ => 0) 0 (nI 1)) 1 (nI 1)) 2 (nI 1)), ((up (up (up T0 177 (oc [])) 177 ((up (fun _ => 0) 0 (nI 1)), ((up T0 177 (oc [])) 177).2.1, ((up T0 177 (oc [])) 177).2.2)) 177 ((up (up (fun _ => 0) 0 (nI 1)) 1 (nI 1)), ((up (up T0 177 (oc [])) 177 ((up (fun _ => 0) 0 (nI 1)), ((up T0 177 (oc [])) 177).2.1, ((up T0 177 (oc [])) 177).2.2)) 177).2.1, ((up (up T0 177 (oc [])) 177 ((up (fun _ => 0) 0 (nI 1)), ((up T0 177 (oc [])) 177).2.1, ((up T0 177 (oc [])) 177).2.2)) 177).2.2)) 177).2.1, ((up (up (up T0 177 (oc [])) 177 ((up (fun _ => 0) 0 (nI 1)), ((up T0 177 (oc [])) 177).2.1, ((up T0 177 (oc [])) 177).2.2)) 177 ((up (up (fun _ => 0) 0 (nI 1)) 1 (nI 1)), ((up (up T0 177 (oc [])) 177 ((up (fun _ => 0) 0 (nI 1)), ((up T0 177 (oc [])) 177).2.1, ((up T0 177 (oc [])) 177).2.2)) 177).2.1, ((up (up T0 177 (oc [])) 177 ((up (fun _ => 0) 0 (nI 1)), ((up T0 177 (oc [])) 177).2.1, ((up T0 177 (oc [])) 177).2.2)) 177).2.2)) 177).2.2)) 177 ((up (up (up (up (fun _ => 0) 0 (nI 1)) 1 (nI 1)) 2 (nI 1)) 3 (nI 1)), ((up (up (up (up T0 177 (oc [])) 177 ((up (fun _ => 0) 0 (nI 1)), ((up T0 177 (oc [])) 177).2.1, ((up T0 177 (oc [])) 177).2.2)) 177 ((up (up (fun _ => 0) 0 (nI 1)) 1 (nI 1)), ((up (up T0 177 (oc [])) 177 ((up (fun _ => 0) 0 (nI 1)), ((up T0 177 (oc [])) 177).2.1, ((up T0 177 (oc [])) 177).2.2)) 177).2.1, ((up (up T0 177 (oc [])) 177 ((up (fun _ => 0) 0 (nI 1)), ((up T0 177 (oc [])) 177).2.1, ((up T0 177 (oc [])) 177).2.2)) 177).2.2)) 177 ((up (up (up (fun _ => 0) 0 (nI 1)) 1 (nI 1)) 2 (nI 1)), ((up (up (up T0 177 (oc [])) 177 ((up (fun _ => 0) 0 (nI 1)), ((up T0 177 (oc [])) 177).2.1, ((up T0 177 (oc [])) 177).2.2)) 177 ((up (up (fun _ => 0) 0 (nI 1)) 1 (nI 1)), ((up (up T0 177 (oc [])) 177 ((up (fun _ => 0) 0 (nI 1)), ((up T0 177 (oc [])) 177).2.1, ((up T0 177 (oc [])) 177).2.2)) 177).2.1, ((up (up T0 177 (oc [])) 177 ((up (fun _ => 0) 0 (nI 1)), ((up T0 177 (oc [])) 177).2.1, ((up T0 177 (oc [])) 177).2.2)) 177).2.2)) 177).2.1, ((up (up (up T0 177 (oc [])) 177 ((up (fun _ => 0) 0 (nI 1)), ((up T0 177 (oc [])) 177).2.1, ((up T0 177 (oc [])) 177).2.2)) 177 ((up (up (fun _ => 0) 0 (nI 1)) 1 (nI 1)), ((up (up T0 177 (oc [])) 177 ((up (fun _ => 0) 0 (nI 1)), ((up T0 177 (oc [])) 177).2.1, ((up T0 177 (oc [])) 177).2.2)) 177).2.1, ((up (up T0 177 (oc [])) 177 ((up (fun _ => 0) 0 (nI 1)), ((up T0 177 (oc [])) 177).2.1, ((up T0 177 (oc [])) 177).2.2)) 177).2.2)) 177).2.2)) 177).2.1, ((up (up (up (up T0 177 (oc [])) 177 ((up (fun _ => 0) 0 (nI 1)), ((up T0 177 (oc [])) 177).2.1, ((up T0 177 (oc [])) 177).2.2)) 177 ((up (up (fun _ => 0) 0 (nI 1)) 1 (nI 1)), ((up (up T0 177 (oc [])) 177 ((up (fun _ => 0) 0 (nI 1)), ((up T0 177 (oc [])) 177).2.1, ((up T0 177 (oc [])) 177).2.2)) 177).2.1, ((up (up T0 177 (oc [])) 177 ((up (fun _ => 0) 0 (nI 1)), ((up T0 177 (oc [])) 177).2.1, ((up T0 177 (oc [])) 177).2.2)) 177).2.2)) 177 ((up (up (up (fun _ => 0) 0 (nI 1)) 1 (nI 1)) 2 (nI 1)), ((up (up (up T0 177 (oc [])) 177 ((up (fun _ => 0) 0 (nI 1)), ((up T0 177 (oc [])) 177).2.1, ((up T0 177 (oc [])) 177).2.2)) 177 ((up (up (fun _ => 0) 0 (nI 1)) 1 (nI 1)), ((up (up T0 177 (oc [])) 177 ((up (fun _ => 0) 0 (nI 1)), ((up T0 177 (oc [])) 177).2.1, ((up T0 177 (oc [])) 177).2.2)) 177).2.1, ((up (up T0 177 (oc [])) 177 ((up (fun _ => 0) 0 (nI 1)), ((up T0 177 (oc [])) 177).2.1, ((up T0 177 (oc [])) 177).2.2)) 177).2.2)) 177).2.1, ((up (up (up T0 177 (oc [])) 177 ((up (fun _ => 0) 0 (nI 1)), ((up T0 177 (oc [])) 177).2.1, ((up T0 177 (oc [])) 177).2.2)) 177 ((up (up (fun _ => 0) 0 (nI 1)) 1 (nI 1)), ((up (up T0 177 (oc [])) 177 ((up (fun _ => 0) 0 (nI 1)), ((up T0 177 (oc [])) 177).2.1, ((up T0 177 (oc [])) 177).2.2)) 177).2.1, ((up (up T0 177 (oc [])) 177 ((up (fun _ => 0) 0 (nI 1)), ((up T0 177 (oc [])) 177).2.1, ((up T0 177 (oc [])) 177).2.2)) 177).2.2)) 177).2.2)) 177).2.2)) j = T j := fun j a b => by
    by_cases h177 : j = 177
    · subst h177
      exact Eq.trans (b := T0 177) rfl (ht 177 (by decide) (by decide)).symm
    simp only [up_ne h177]
    exact (ht j (by omega) b).symm
  exact X_vret dX12_init_310 rfl ⟨rfl, hQ _ _ _ (St_end h1 hT (ht _ (by decide) (by decide)))⟩
end ML
