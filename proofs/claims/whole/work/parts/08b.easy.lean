/-! the class's easy calls -/
def sp_say (s : SS) (x : Int32) : Int32 × SS := if x < nI 33 ∨ nI 126 < x then (-2, s) else if 80 ≤ s.1.1 then (-4, s) else (nI (s.1.1 + 1), ((s.1.1 + 1, up s.1.2 s.1.1 x), s.2))
def sp_wipe (s : SS) : Int32 × SS := (nI s.1.1, ((0, s.1.2), s.2))
def setW (s : SS) (w : Nat) : SS := (s.1, (s.2.1.1, s.2.1.2.1, w, s.2.1.2.2.2), s.2.2)
def sp_want (s : SS) (x : Int32) : Int32 × SS := if x < nI 1 ∨ nI 15 < x then (-2, s) else (nI (dW s.2.1), setW s x.toNatClampNeg)
section CE
variable {G : GG} {d : Nat} {sw : Bool} {I : Nat → Nat → Int32} {J : Nat → Nat → Int64} {s : SS}
set_option maxRecDepth 20000 in
theorem c_write {Q : Int32 → Mm → Prop} {x : Int32} {n : Nat} (hn : I 1 3 = nI n) (hn2 : n ≤ 80) (hF : 80 ≤ n → Q (-4) (NC, I, J, layR sw)) (hQ : n < 80 → Q (nI (n + 1)) (NC, sr (sr I 2 (up (I 2) n x)) 1 (up (I 1) 3 (nI (n + 1))), J, layR sw)) : Y G d zX7_write [vr 1, vi x] (NC, I, J, layR sw) 0 0 (qi Q) := by
  refine Y_of rfl rfl (Nat.le_of_ble_eq_true rfl) rfl ?_
  refine X_aload_n dX7_write_0 rfl ?_
  refine X_getI dX7_write_1 gf_X7_25 (by first | assumption | rfl) (by first | assumption | exact Nat.le_of_ble_eq_true rfl | omega) rfl ?_
  refine X_bipush (v := nI 80) dX7_write_4 (by decide) ?_
  rw [hn]
  refine X_icmp_lt (tgt := 12) dX7_write_6 (by decide) (fun h6 => ?_) (fun h6 => ?_)
  · have h6 := (nlt (by omega) (by omega)).mp h6
    refine X_aload_n dX7_write_12 rfl ?_
    refine X_getR dX7_write_13 gf_X7_9 (by first | assumption | rfl) (by first | assumption | exact Nat.le_of_ble_eq_true rfl | omega) rfl (by first | assumption | rfl) ?_
    refine X_aload_n dX7_write_16 rfl ?_
    refine X_getI dX7_write_17 gf_X7_25 (by first | assumption | rfl) (by first | assumption | exact Nat.le_of_ble_eq_true rfl | omega) rfl ?_
    rw [hn]
    refine X_iload_n dX7_write_20 rfl ?_
    refine X_iast dX7_write_21 (by first | assumption | rfl) (by first | assumption | exact Nat.le_of_ble_eq_true rfl | omega) rfl (by first | decide | omega) (by decide) ?_
    refine X_aload_n dX7_write_22 rfl ?_
    refine X_dup dX7_write_23 rfl ?_
    refine X_getI dX7_write_24 gf_X7_25 (by first | assumption | rfl) (by first | assumption | exact Nat.le_of_ble_eq_true rfl | omega) rfl ?_
    rw [sr_ne (show 1 ≠ 2 by decide), hn]
    refine X_iconst (v := nI 1) dX7_write_27 (by decide) ?_
    first | refine X_iaddN dX7_write_28 ?_ | refine X_iadd dX7_write_28 ?_
    refine X_putI dX7_write_29 gf_X7_25 (Or.inl rfl) (by first | assumption | rfl) (by first | assumption | exact Nat.le_of_ble_eq_true rfl | omega) rfl ?_
    refine X_aload_n dX7_write_32 rfl ?_
    refine X_getI dX7_write_33 gf_X7_25 (by first | assumption | rfl) (by first | assumption | exact Nat.le_of_ble_eq_true rfl | omega) rfl ?_
    rw [sr_eq, up_eq, sr_ne (show 1 ≠ 2 by decide)]
    exact X_iret dX7_write_36 rfl ⟨_, rfl, hQ h6⟩
  · have h6 : ¬ n < 80 := fun q => h6 ((nlt (by omega) (by omega)).mpr q)
    refine X_bipush (v := (-4)) dX7_write_9 (by decide) ?_
    exact X_iret dX7_write_11 rfl ⟨_, rfl, hF (by omega)⟩
set_option maxRecDepth 20000 in
theorem C_say {x : Int32} (hd : 1 ≤ d) (hv : VSt s) (hi : CInv I s) : Y G d zX11_say [vr 0, vi x] (NC, I, J, layR sw) 0 0 (qi (PC (sp_say s x).2 (sp_say s x).1 I J)) := by
  refine Y_of rfl rfl (Nat.le_of_ble_eq_true rfl) rfl ?_
  unfold sp_say
  refine X_iload_n dX11_say_0 rfl ?_
  refine X_bipush (v := nI 33) dX11_say_1 (by decide) ?_
  refine X_icmp_lt (tgt := 12) dX11_say_3 (by decide) (fun h3 => ?_) (fun h3 => ?_)
  · rw [if_pos (Or.inl h3)]
    refine X_bipush (v := (-2)) dX11_say_12 (by decide) ?_
    exact X_iret dX11_say_14 rfl ⟨_, rfl, PC_same hi⟩
  refine X_iload_n dX11_say_6 rfl ?_
  refine X_bipush (v := nI 126) dX11_say_7 (by decide) ?_
  refine X_icmp_le (tgt := 15) dX11_say_9 (by decide) (fun h9 => ?_) (fun h9 => ?_)
  · rw [if_neg (fun q => q.elim h3 (fun q => absurd h9 (Int32.not_le.mpr q)))]
    refine X_aload_n dX11_say_15 rfl ?_
    refine X_getR dX11_say_16 gf_X11_12 (by first | assumption | rfl) (by first | assumption | exact Nat.le_of_ble_eq_true rfl | omega) rfl (by first | assumption | rfl) ?_
    refine X_iload_n dX11_say_19 rfl ?_
    refine X_cVi dX11_say_20 ck_X11_94 rfl rfl (by first | assumption | rfl) (by first | assumption | exact Nat.le_of_ble_eq_true rfl | omega) (by omega) (Nat.le_of_ble_eq_true rfl) (c_write hi.1.1 hv.1 (fun h => ?_) (fun h => ?_))
    · rw [if_pos h]
      exact X_iret dX11_say_23 rfl ⟨_, rfl, PC_same hi⟩
    · rw [if_neg (by omega)]
      refine X_iret dX11_say_23 rfl ⟨_, rfl, PC_mk ⟨⟨?_, fun i hi2 => ?_⟩, ?_, ?_⟩ [2, 1] ((Fr.sr (by decide)).tr (Fr.sr (by decide))) (by decide)⟩
      · rw [sr_eq, up_eq]
      · rw [sr_ne (by decide), sr_eq]
        by_cases hj : i = s.1.1
        · subst hj; dsimp only; rw [up_eq, up_eq]
        · dsimp only; rw [up_ne hj, up_ne hj]
          exact hi.1.2 i (by dsimp only at hi2; omega)
      · exact hi.2.1.fr hv.2.1.2.2.2.2.1 (fun j a b => by rw [sr_ne (by omega), sr_ne (by omega)])
      · exact hi.2.2.fr hv (fun j a b => by rw [sr_ne (by omega), sr_ne (by omega)])
  · rw [if_pos (Or.inr (Int32.not_le.mp h9))]
    refine X_bipush (v := (-2)) dX11_say_12 (by decide) ?_
    exact X_iret dX11_say_14 rfl ⟨_, rfl, PC_same hi⟩
set_option maxRecDepth 20000 in
theorem c_empty {Q : Int32 → Mm → Prop} (hQ : Q (I 1 3) (NC, sr I 1 (up (I 1) 3 (nI 0)), J, layR sw)) : Y G d zX7_empty [vr 1] (NC, I, J, layR sw) 0 0 (qi Q) := by
  refine Y_of rfl rfl (Nat.le_of_ble_eq_true rfl) rfl ?_
  refine X_aload_n dX7_empty_0 rfl ?_
  refine X_getI dX7_empty_1 gf_X7_25 (by first | assumption | rfl) (by first | assumption | exact Nat.le_of_ble_eq_true rfl | omega) rfl ?_
  refine X_istore_n dX7_empty_4 rfl rfl ?_
  refine X_aload_n dX7_empty_5 rfl ?_
  refine X_iconst (v := nI 0) dX7_empty_6 (by decide) ?_
  refine X_putI dX7_empty_7 gf_X7_25 (Or.inl rfl) (by first | assumption | rfl) (by first | assumption | exact Nat.le_of_ble_eq_true rfl | omega) rfl ?_
  refine X_iload_n dX7_empty_10 rfl ?_
  exact X_iret dX7_empty_11 rfl ⟨_, rfl, hQ⟩
theorem C_wipe (hd : 1 ≤ d) (hv : VSt s) (hi : CInv I s) : Y G d zX11_wipe [vr 0] (NC, I, J, layR sw) 0 0 (qi (PC (sp_wipe s).2 (sp_wipe s).1 I J)) := by
  refine Y_of rfl rfl (Nat.le_of_ble_eq_true rfl) rfl ?_
  refine X_aload_n dX11_wipe_0 rfl ?_
  refine X_getR dX11_wipe_1 gf_X11_12 (by first | assumption | rfl) (by first | assumption | exact Nat.le_of_ble_eq_true rfl | omega) rfl (by first | assumption | rfl) ?_
  refine X_cVi dX11_wipe_4 ck_X11_98 rfl rfl (by first | assumption | rfl) (by first | assumption | exact Nat.le_of_ble_eq_true rfl | omega) (by omega) (Nat.le_of_ble_eq_true rfl) (c_empty ?_)
  rw [hi.1.1]
  refine X_iret dX11_wipe_7 rfl ⟨_, rfl, PC_mk ⟨⟨?_, fun i hi2 => absurd hi2 (Nat.not_lt_zero i)⟩, ?_, ?_⟩ [1] (Fr.sr (by decide)) (by decide)⟩
  · rw [sr_eq, up_eq]; rfl
  · exact hi.2.1.fr hv.2.1.2.2.2.2.1 (fun j a b => by rw [sr_ne (by omega)])
  · exact hi.2.2.fr hv (fun j a b => by rw [sr_ne (by omega)])
set_option maxRecDepth 20000 in
theorem C_want {x : Int32} (hv : VSt s) (hi : CInv I s) : Y G d zX11_want [vr 0, vi x] (NC, I, J, layR sw) 0 0 (qi (PC (sp_want s x).2 (sp_want s x).1 I J)) := by
  refine Y_of rfl rfl (Nat.le_of_ble_eq_true rfl) rfl ?_
  unfold sp_want
  refine X_iload_n dX11_want_0 rfl ?_
  refine X_iconst (v := nI 1) dX11_want_1 (by decide) ?_
  refine X_icmp_lt (tgt := 11) dX11_want_2 (by decide) (fun h2 => ?_) (fun h2 => ?_)
  · rw [if_pos (Or.inl h2)]
    refine X_bipush (v := (-2)) dX11_want_11 (by decide) ?_
    exact X_iret dX11_want_13 rfl ⟨_, rfl, PC_same hi⟩
  refine X_iload_n dX11_want_5 rfl ?_
  refine X_bipush (v := nI 15) dX11_want_6 (by decide) ?_
  refine X_icmp_le (tgt := 14) dX11_want_8 (by decide) (fun h8 => ?_) (fun h8 => ?_)
  · rw [if_neg (fun q => q.elim h2 (fun q => absurd h8 (Int32.not_le.mpr q)))]
    refine X_aload_n dX11_want_14 rfl ?_
    refine X_getR dX11_want_15 gf_X11_19 (by first | assumption | rfl) (by first | assumption | exact Nat.le_of_ble_eq_true rfl | omega) rfl (by first | assumption | rfl) ?_
    refine X_getI dX11_want_18 gf_X11_120 (by first | assumption | rfl) (by first | assumption | exact Nat.le_of_ble_eq_true rfl | omega) rfl ?_
    rw [hi.2.1.2.2.1]
    refine X_istore_n dX11_want_21 rfl rfl ?_
    refine X_aload_n dX11_want_22 rfl ?_
    refine X_getR dX11_want_23 gf_X11_19 (by first | assumption | rfl) (by first | assumption | exact Nat.le_of_ble_eq_true rfl | omega) rfl (by first | assumption | rfl) ?_
    refine X_iload_n dX11_want_26 rfl ?_
    refine X_putI dX11_want_27 gf_X11_120 (Or.inl rfl) (by first | assumption | rfl) (by first | assumption | exact Nat.le_of_ble_eq_true rfl | omega) rfl ?_
    refine X_iload_n dX11_want_30 rfl ?_
    obtain ⟨a, ha, rfl⟩ : ∃ a, a < 16 ∧ x = nI a := by
      rcases icase x 16 (by decide) with h | h | h
      · exact absurd (show x < nI 1 from Int32.lt_trans h (by decide)) h2
      · exact h
      · exact absurd (Int32.lt_of_le_of_lt h8 (show nI 15 < nI 16 by decide)) (Int32.not_lt.mpr h.2)
    rw [nI_clamp (by omega)]
    refine X_iret dX11_want_31 rfl ⟨_, rfl, PC_mk ⟨?_, ?_, ?_⟩ [7] (Fr.sr (by decide)) (by decide)⟩
    · exact hi.1.fr (by rw [sr_ne (by decide)]) (by rw [sr_ne (by decide)])
    · obtain ⟨h1, h2, h3, h4, h5, h6⟩ := hi.2.1
      refine ⟨h1.fr (by rw [sr_ne (by decide)]) (by rw [sr_ne (by decide)]), h2.fr (by rw [sr_ne (by decide)]) (by rw [sr_ne (by decide)]), by rw [sr_eq, up_eq]; rfl, fun j hj => by rw [sr_ne (by decide)]; exact h4 j hj, by rw [sr_eq, up_ne (by decide)]; exact h5, fun j hj => ⟨(h6 j hj).1.fr (by rw [sr_ne (by omega)]) (by rw [sr_ne (by omega)]), (h6 j hj).2.fr (by rw [sr_ne (by omega)]) (by rw [sr_ne (by omega)])⟩⟩
    · exact hi.2.2.fr hv (fun j a b => by rw [sr_ne (by omega)])
  · rw [if_pos (Or.inr (Int32.not_le.mp h8))]
    refine X_bipush (v := (-2)) dX11_want_11 (by decide) ?_
    exact X_iret dX11_want_13 rfl ⟨_, rfl, PC_same hi⟩
end CE
