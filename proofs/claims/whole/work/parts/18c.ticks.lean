section CT
variable {G : GG} {d : Nat} {sw : Bool} {I : Nat → Nat → Int32} {J : Nat → Nat → Int64} {s : SS} {n W : Nat} {c : Nat → Nat → Nat} {dl : Nat → Nat} {u : Nat}
theorem CKk_fr {I' : Nat → Nat → Int32} {l : List Nat} (h : CKk I n c dl u) (hF : Fr l I I') (hl : ∀ k, (k = 128 ∨ k = 130 ∨ k = 131 ∨ k = 132) → k ∉ l) : CKk I' n c dl u := by
  unfold CKk
  rw [hF 128 (hl _ (by omega)), hF 130 (hl _ (by omega)), hF 131 (hl _ (by omega)), hF 132 (hl _ (by omega))]
  exact h
set_option maxRecDepth 20000 in
theorem c_layAsWritten {Q : Int32 → Mm → Prop} (hd : 2 ≤ d) (hn : n ≤ 12) (hC : CKk I n c dl u) (hdl : ∀ j, dl j ≤ 5) (hu1 : 1 ≤ u) (hu : u ≤ 3) (hQ : ∀ I', Fr [133] I I' → (∀ j, j < n → I' 133 j = nI ((trn c dl u (fun k => k) n).1 j)) → Q (nI (trn c dl u (fun k => k) n).2.2.2) (NC, I', J, layR sw)) : Y G d zX0_layAsWritten [vr 128] (NC, I, J, layR sw) 0 0 (qi Q) := by
  have loop : ∀ (m i : Nat) (I' : Nat → Nat → Int32), m = n - i → i ≤ n → Fr [133] I I' → (∀ j, j < i → I' 133 j = nI ((trn c dl u (fun k => k) i).1 j)) → X G d zX0_layAsWritten 9 [(0, vr 128), (1, vi (nI (trn c dl u (fun k => k) i).2.1)), (2, vi (nI (trn c dl u (fun k => k) i).2.2.1)), (3, vi (nI (trn c dl u (fun k => k) i).2.2.2)), (4, vi (nI i))] [] (NC, I', J, layR sw) 0 0 (qi Q) := by
    intro m
    induction m with
    | zero =>
      intro i I' hm hi hF hj
      have hC' := CKk_fr hC hF (fun k h => by simp; omega)
      obtain rfl : i = n := by omega
      refine X_iload dX0_layAsWritten_9 rfl ?_
      refine X_aload_n dX0_layAsWritten_11 rfl ?_
      refine X_getI dX0_layAsWritten_12 gf_X0_51 (by first | assumption | rfl) (by first | assumption | exact Nat.le_of_ble_eq_true rfl | omega) rfl ?_
      rw [hC'.1]
      refine X_icmp_ge (tgt := 75) dX0_layAsWritten_15 (by decide) (fun b => ?_) (fun b => ?_)
      · refine X_iload_n dX0_layAsWritten_75 rfl ?_
        exact X_iret dX0_layAsWritten_76 rfl ⟨_, rfl, hQ I' hF hj⟩
      · exact absurd (Int32.le_refl _) b
    | succ m ih =>
      intro i I' hm hi hF hj
      have hC' := CKk_fr hC hF (fun k h => by simp; omega)
      have hin : i < n := by omega
      have hB := TB_trn (c := c) (o := fun k => k) hu1 hdl i
      obtain ⟨hB2, hx⟩ := TB_stp (c := c) (i := i) hu1 hdl hB
      have ih := fun I' => ih (i + 1) I' (by omega) (by omega)
      change ∀ I', Fr [133] I I' → (∀ j, j < i + 1 → I' 133 j = nI ((tstp c dl u (trn c dl u (fun k => k) i) i).1 j)) → X G d zX0_layAsWritten 9 [(0, vr 128), (1, vi (nI (tstp c dl u (trn c dl u (fun k => k) i) i).2.1)), (2, vi (nI (tstp c dl u (trn c dl u (fun k => k) i) i).2.2.1)), (3, vi (nI (tstp c dl u (trn c dl u (fun k => k) i) i).2.2.2)), (4, vi (nI (i + 1)))] [] (NC, I', J, layR sw) 0 0 (qi Q) at ih
      generalize trn c dl u (fun k => k) i = t at *
      obtain ⟨t1, t2, t3, t4⟩ := hB
      have hdi := hdl i
      refine X_iload dX0_layAsWritten_9 rfl ?_
      refine X_aload_n dX0_layAsWritten_11 rfl ?_
      refine X_getI dX0_layAsWritten_12 gf_X0_51 (by first | assumption | rfl) (by first | assumption | exact Nat.le_of_ble_eq_true rfl | omega) rfl ?_
      rw [hC'.1]
      refine X_icmp_ge (tgt := 75) dX0_layAsWritten_15 (by decide) (fun b => ?_) (fun b => ?_)
      · exact absurd ((nle (by omega) (by omega)).mp b) (by omega)
      refine X_aload_n dX0_layAsWritten_18 rfl ?_
      refine X_iload dX0_layAsWritten_19 rfl ?_
      refine X_iload_n dX0_layAsWritten_21 rfl ?_
      refine X_iload_n dX0_layAsWritten_22 rfl ?_
      refine X_cVi dX0_layAsWritten_23 ck_X0_68 rfl rfl (by first | assumption | rfl) (by first | assumption | exact Nat.le_of_ble_eq_true rfl | omega) (by omega) (Nat.le_of_ble_eq_true rfl) (c_firstTick (k := i) (by omega) hn hin hC' hdl hu (by omega) ⟨t1, t2, t3, t4⟩ (fun j h _ => hj j h) ?_)
      have tail : ∀ y : Nat, y = (if ftk c dl u t i = t.2.1 then t.2.2.1 + 1 else 1) → X G d zX0_layAsWritten 41 [(0, vr 128), (1, vi (nI t.2.1)), (2, vi (nI t.2.2.1)), (3, vi (nI t.2.2.2)), (4, vi (nI i)), (5, vi (nI (ftk c dl u t i)))] [vi (nI y)] (NC, I', J, layR sw) 0 0 (qi Q) := by
        intro y hy
        refine X_istore_n dX0_layAsWritten_41 rfl rfl ?_
        refine X_iload dX0_layAsWritten_42 rfl ?_
        refine X_istore_n dX0_layAsWritten_44 rfl rfl ?_
        refine X_aload_n dX0_layAsWritten_45 rfl ?_
        refine X_getR dX0_layAsWritten_46 gf_X0_24 (by first | assumption | rfl) (by first | assumption | exact Nat.le_of_ble_eq_true rfl | omega) rfl (by first | assumption | rfl) ?_
        refine X_iload dX0_layAsWritten_49 rfl ?_
        refine X_iload dX0_layAsWritten_51 rfl ?_
        refine X_iast dX0_layAsWritten_53 (by first | assumption | rfl) (by first | assumption | exact Nat.le_of_ble_eq_true rfl | omega) rfl (by first | decide | omega) (by decide) ?_
        refine X_iload_n dX0_layAsWritten_54 rfl ?_
        refine X_iload dX0_layAsWritten_55 rfl ?_
        refine X_aload_n dX0_layAsWritten_57 rfl ?_
        refine X_getR dX0_layAsWritten_58 gf_X0_15 (by first | assumption | rfl) (by first | assumption | exact Nat.le_of_ble_eq_true rfl | omega) rfl (by first | assumption | rfl) ?_
        refine X_iload dX0_layAsWritten_61 rfl ?_
        first | refine X_iald dX0_layAsWritten_63 (by first | assumption | rfl) (by first | assumption | exact Nat.le_of_ble_eq_true rfl | omega) rfl (by first | decide | omega) (by decide) ?_ | refine X_ildA dX0_layAsWritten_63 rfl (by omega) ?_ | refine X_ildM dX0_layAsWritten_63 rfl (by omega) ?_ | refine X_sld dX0_layAsWritten_63 rfl (by omega) (by omega) ?_
        rw [sr_ne (show 130 ≠ 133 by decide), (hC'.2.2 i hin).1]
        first | refine X_iaddN dX0_layAsWritten_64 ?_ | refine X_iadd dX0_layAsWritten_64 ?_
        refine X_cSi dX0_layAsWritten_65 ck_X0_72 rfl rfl (by omega) (Nat.le_of_ble_eq_true rfl) (c_max (by omega) (by omega) ?_)
        refine X_istore_n dX0_layAsWritten_68 rfl rfl ?_
        first | refine X_iinc1 dX0_layAsWritten_69 rfl rfl rfl ?_ | refine X_iinc dX0_layAsWritten_69 rfl rfl rfl rfl ?_
        refine X_goto (tgt := 9) dX0_layAsWritten_72 (by decide) ?_
        refine weak (lv' := [(0, vr 128), (1, vi (nI (ftk c dl u t i))), (2, vi (nI y)), (3, vi (nI (max t.2.2.2 (ftk c dl u t i + dl i)))), (4, vi (nI (i + 1)))]) (fun q hq => List.mem_append_left _ hq) ?_
        rw [hy]
        refine ih _ (hF.tr (Fr.sr (by simp))) (fun j h => ?_)
        rw [sr_eq]
        show _ = nI (up t.1 i (ftk c dl u t i) j)
        by_cases hji : j = i
        · rw [hji, up_eq, up_eq]
        · rw [up_ne hji, up_ne hji]; exact hj j (by omega)
      refine X_istore dX0_layAsWritten_26 rfl rfl ?_
      refine X_iload dX0_layAsWritten_28 rfl ?_
      refine X_iload_n dX0_layAsWritten_30 rfl ?_
      refine X_icmp_ne (tgt := 40) dX0_layAsWritten_31 (by decide) (fun b31 => ?_) (fun b31 => ?_)
      · refine X_iconst (v := nI 1) dX0_layAsWritten_40 (by decide) ?_
        exact tail _ (by rw [if_neg (fun q => b31 (by rw [q]))])
      · refine X_iload_n dX0_layAsWritten_34 rfl ?_
        refine X_iconst (v := nI 1) dX0_layAsWritten_35 (by decide) ?_
        first | refine X_iaddN dX0_layAsWritten_36 ?_ | refine X_iadd dX0_layAsWritten_36 ?_
        refine X_goto (tgt := 41) dX0_layAsWritten_37 (by decide) ?_
        exact tail _ (by rw [if_pos ((neq (by omega) (by omega)).mp b31)])
  refine Y_of rfl rfl (Nat.le_of_ble_eq_true rfl) rfl ?_
  refine X_iconst (v := nI 0) dX0_layAsWritten_0 (by decide) ?_
  refine X_istore_n dX0_layAsWritten_1 rfl rfl ?_
  refine X_iconst (v := nI 0) dX0_layAsWritten_2 (by decide) ?_
  refine X_istore_n dX0_layAsWritten_3 rfl rfl ?_
  refine X_iconst (v := nI 0) dX0_layAsWritten_4 (by decide) ?_
  refine X_istore_n dX0_layAsWritten_5 rfl rfl ?_
  refine X_iconst (v := nI 0) dX0_layAsWritten_6 (by decide) ?_
  refine X_istore dX0_layAsWritten_7 rfl rfl ?_
  exact loop n 0 I rfl (Nat.zero_le n) Fr.rf (fun j h => absurd h (Nat.not_lt_zero j))
set_option maxRecDepth 20000 in
theorem c_windClock {Q : Mm → Prop} (hd : 5 ≤ d) (hv : VSt s) (hi : CInv I s) (hQ : ∀ I', Fr [122, 123, 124, 125, 126, 127, 128, 130, 131, 132] I I' → CKk I' (dC s.2.1).1 (dC s.2.1).2 (dly (dC s.2.1).2 (dS s.2.1)) (dS s.2.1 0) → Q (NC, I', J, layR sw)) : Y G d zX11_windClock [vr 0] (NC, I, J, layR sw) 0 0 (qv Q) := by
  refine Y_of rfl rfl (Nat.le_of_ble_eq_true rfl) rfl ?_
  refine X_aload_n dX11_windClock_0 rfl ?_
  refine X_getR dX11_windClock_1 gf_X11_48 (by first | assumption | rfl) (by first | assumption | exact Nat.le_of_ble_eq_true rfl | omega) rfl (by first | assumption | rfl) ?_
  refine X_aload_n dX11_windClock_4 rfl ?_
  refine X_getR dX11_windClock_5 gf_X11_19 (by first | assumption | rfl) (by first | assumption | exact Nat.le_of_ble_eq_true rfl | omega) rfl (by first | assumption | rfl) ?_
  refine X_getR dX11_windClock_8 gf_X11_106 (by first | assumption | rfl) (by first | assumption | exact Nat.le_of_ble_eq_true rfl | omega) rfl (by first | assumption | rfl) ?_
  refine X_cVv dX11_windClock_11 ck_X11_184 rfl rfl (by first | assumption | rfl) (by first | assumption | exact Nat.le_of_ble_eq_true rfl | omega) (by omega) (Nat.le_of_ble_eq_true rfl) (c_follow (by omega) hi.2.1.1 hv.2.1.1 (fun I1 f1 hL => ?_))
  have hc1 : CR I1 8 (dC s.2.1).1 (dC s.2.1).2 := CR_fr hi.2.1.1 f1 (by simp) (by simp)
  refine X_aload_n dX11_windClock_14 rfl ?_
  refine X_getR dX11_windClock_15 gf_X11_55 (by first | assumption | rfl) (by first | assumption | exact Nat.le_of_ble_eq_true rfl | omega) rfl (by first | assumption | rfl) ?_
  refine X_aload_n dX11_windClock_18 rfl ?_
  refine X_getR dX11_windClock_19 gf_X11_19 (by first | assumption | rfl) (by first | assumption | exact Nat.le_of_ble_eq_true rfl | omega) rfl (by first | assumption | rfl) ?_
  refine X_getR dX11_windClock_22 gf_X11_106 (by first | assumption | rfl) (by first | assumption | exact Nat.le_of_ble_eq_true rfl | omega) rfl (by first | assumption | rfl) ?_
  refine X_aload_n dX11_windClock_25 rfl ?_
  refine X_getR dX11_windClock_26 gf_X11_48 (by first | assumption | rfl) (by first | assumption | exact Nat.le_of_ble_eq_true rfl | omega) rfl (by first | assumption | rfl) ?_
  refine X_aload_n dX11_windClock_29 rfl ?_
  refine X_getR dX11_windClock_30 gf_X11_19 (by first | assumption | rfl) (by first | assumption | exact Nat.le_of_ble_eq_true rfl | omega) rfl (by first | assumption | rfl) ?_
  refine X_getR dX11_windClock_33 gf_X11_194 (by first | assumption | rfl) (by first | assumption | exact Nat.le_of_ble_eq_true rfl | omega) rfl (by first | assumption | rfl) ?_
  refine X_cVv dX11_windClock_36 ck_X11_311 rfl rfl (by first | assumption | rfl) (by first | assumption | exact Nat.le_of_ble_eq_true rfl | omega) (by omega) (Nat.le_of_ble_eq_true rfl) (c_wind (by omega) hc1 hv.2.1.1 hL (fun j h => by rw [f1 13 (by simp)]; exact hi.2.1.2.2.2.1 j h) (fun I2 f2 hC => ?_))
  exact X_vret dX11_windClock_39 rfl ⟨rfl, hQ I2 ((f1.sub (by simp)).tr (f2.sub (by simp))) hC⟩
set_option maxRecDepth 20000 in
theorem C_tick {x : Int32} (hd : 6 ≤ d) (hv : VSt s) (hi : CInv I s) : Y G d zX11_tick [vr 0, vi x] (NC, I, J, layR sw) 0 0 (qi (PC s (sp_tick s x) I J)) := by
  have hn := hv.2.1.1.1
  have hu := hv.2.1.2.2.2.1
  refine Y_of rfl rfl (Nat.le_of_ble_eq_true rfl) rfl ?_
  unfold sp_tick
  rcases scase hn x with h | ⟨a, ha, rfl⟩
  · rw [if_pos h]
    refine X_aload_n dX11_tick_0 rfl ?_
    refine X_iload_n dX11_tick_1 rfl ?_
    refine X_cVi dX11_tick_2 ck_X11_123 rfl rfl (by first | assumption | rfl) (by first | assumption | exact Nat.le_of_ble_eq_true rfl | omega) (by omega) (Nat.le_of_ble_eq_true rfl) (c_isNoStep_t hi.2.1.1.1 h ?_)
    refine X_if_eq (tgt := 10) dX11_tick_5 (by decide) (fun b => ?_) (fun b => ?_)
    · exact absurd b (by decide)
    · refine X_iconst (v := (-1)) dX11_tick_8 (by decide) ?_
      exact X_iret dX11_tick_9 rfl ⟨_, rfl, PC_same hi⟩
  · rw [if_neg (scase_n hn ha), nI_clamp (by omega)]
    refine X_aload_n dX11_tick_0 rfl ?_
    refine X_iload_n dX11_tick_1 rfl ?_
    refine X_cVi dX11_tick_2 ck_X11_123 rfl rfl (by first | assumption | rfl) (by first | assumption | exact Nat.le_of_ble_eq_true rfl | omega) (by omega) (Nat.le_of_ble_eq_true rfl) (c_isNoStep_f hi.2.1.1.1 hn ha ?_)
    refine X_if_eq (tgt := 10) dX11_tick_5 (by decide) (fun b => ?_) (fun b => ?_)
    · refine X_aload_n dX11_tick_10 rfl ?_
      refine X_cVv dX11_tick_11 ck_X11_197 rfl rfl (by first | assumption | rfl) (by first | assumption | exact Nat.le_of_ble_eq_true rfl | omega) (by omega) (Nat.le_of_ble_eq_true rfl) (c_windClock (by omega) hv hi (fun I1 f1 hC => ?_))
      refine X_aload_n dX11_tick_14 rfl ?_
      refine X_getR dX11_tick_15 gf_X11_55 (by first | assumption | rfl) (by first | assumption | exact Nat.le_of_ble_eq_true rfl | omega) rfl (by first | assumption | rfl) ?_
      refine X_cVi dX11_tick_18 ck_X11_200 rfl rfl (by first | assumption | rfl) (by first | assumption | exact Nat.le_of_ble_eq_true rfl | omega) (by omega) (Nat.le_of_ble_eq_true rfl) (c_layAsWritten (by omega) hn hC (fun j => (dly_ok hv.2.1 j).2) hu.1 hu.2.1 (fun I2 f2 hT => ?_))
      refine X_pop dX11_tick_21 rfl ?_
      refine X_aload_n dX11_tick_22 rfl ?_
      refine X_getR dX11_tick_23 gf_X11_55 (by first | assumption | rfl) (by first | assumption | exact Nat.le_of_ble_eq_true rfl | omega) rfl (by first | assumption | rfl) ?_
      refine X_getR dX11_tick_26 gf_X11_203 (by first | assumption | rfl) (by first | assumption | exact Nat.le_of_ble_eq_true rfl | omega) rfl (by first | assumption | rfl) ?_
      refine X_iload_n dX11_tick_29 rfl ?_
      first | refine X_iald dX11_tick_30 (by first | assumption | rfl) (by first | assumption | exact Nat.le_of_ble_eq_true rfl | omega) rfl (by first | decide | omega) (by decide) ?_ | refine X_ildA dX11_tick_30 rfl (by omega) ?_ | refine X_ildM dX11_tick_30 rfl (by omega) ?_ | refine X_sld dX11_tick_30 rfl (by omega) (by omega) ?_
      rw [hT a ha]
      exact X_iret dX11_tick_31 rfl ⟨_, rfl, PC_scr hi hv [122, 123, 124, 125, 126, 127, 128, 130, 131, 132, 133] ((f1.sub (by simp)).tr (f2.sub (by simp))) (by decide)⟩
    · exact absurd rfl b
set_option maxRecDepth 20000 in
theorem C_time (hd : 6 ≤ d) (hv : VSt s) (hi : CInv I s) : Y G d zX11_time [vr 0] (NC, I, J, layR sw) 0 0 (qi (PC s (sp_time s) I J)) := by
  have hn := hv.2.1.1.1
  have hu := hv.2.1.2.2.2.1
  refine Y_of rfl rfl (Nat.le_of_ble_eq_true rfl) rfl ?_
  refine X_aload_n dX11_time_0 rfl ?_
  refine X_cVv dX11_time_1 ck_X11_197 rfl rfl (by first | assumption | rfl) (by first | assumption | exact Nat.le_of_ble_eq_true rfl | omega) (by omega) (Nat.le_of_ble_eq_true rfl) (c_windClock (by omega) hv hi (fun I1 f1 hC => ?_))
  refine X_aload_n dX11_time_4 rfl ?_
  refine X_getR dX11_time_5 gf_X11_55 (by first | assumption | rfl) (by first | assumption | exact Nat.le_of_ble_eq_true rfl | omega) rfl (by first | assumption | rfl) ?_
  refine X_cVi dX11_time_8 ck_X11_200 rfl rfl (by first | assumption | rfl) (by first | assumption | exact Nat.le_of_ble_eq_true rfl | omega) (by omega) (Nat.le_of_ble_eq_true rfl) (c_layAsWritten (by omega) hn hC (fun j => (dly_ok hv.2.1 j).2) hu.1 hu.2.1 (fun I2 f2 hT => ?_))
  exact X_iret dX11_time_11 rfl ⟨_, rfl, PC_scr hi hv [122, 123, 124, 125, 126, 127, 128, 130, 131, 132, 133] ((f1.sub (by simp)).tr (f2.sub (by simp))) (by decide)⟩
/-! the reference's ticks -/
/-- every step of the order finds those that it must follow ahead of it -/
def Lwf (A : Nat → Nat) (o : Nat → Nat) (n : Nat) : Prop := ∀ k, k < n → ∀ j, (A (o k)).testBit j = true → ∃ k', k' < k ∧ o k' = j
set_option maxRecDepth 20000 in
theorem m_delayOf {Q : Int32 → Mm → Prop} {i : Nat} {S : Nat → Nat} (hc : RC I n c) (hv : VC n c) (hi : i < n) (hS : ∀ j, j < 4 → I 177 j = nI (S (j + 1))) (hQ : Q (nI (dly c S i)) (NC, I, J, layR sw)) : Y G d zX12_delayOf [vr 170, vi (nI i)] (NC, I, J, layR sw) 0 0 (qi Q) := by
  have hn := hv.1
  unfold dly at hQ
  refine Y_of rfl rfl (Nat.le_of_ble_eq_true rfl) rfl ?_
  refine X_aload_n dX12_delayOf_0 rfl ?_
  refine X_getR dX12_delayOf_1 gf_X12_16 (by first | assumption | rfl) (by first | assumption | exact Nat.le_of_ble_eq_true rfl | omega) rfl (by first | assumption | rfl) ?_
  refine X_iload_n dX12_delayOf_4 rfl ?_
  first | refine X_iald dX12_delayOf_5 (by first | assumption | rfl) (by first | assumption | exact Nat.le_of_ble_eq_true rfl | omega) rfl (by first | decide | omega) (by decide) ?_ | refine X_ildA dX12_delayOf_5 rfl (by omega) ?_ | refine X_ildM dX12_delayOf_5 rfl (by omega) ?_ | refine X_sld dX12_delayOf_5 rfl (by omega) (by omega) ?_
  rw [(hc.2 i hi).2.1]
  rcases (hv.2 i hi).2.2 with ⟨e, _⟩ | ⟨e | e | e | e, _⟩
  · rw [e] at hQ ⊢
    refine X_lookup (off := 70) (tgt := 76) dX12_delayOf_6 (by decide) (by decide) (by decide) ?_
    refine X_iconst (v := nI 1) dX12_delayOf_76 (by decide) ?_
    exact X_iret dX12_delayOf_77 rfl ⟨_, rfl, hQ⟩
  · rw [e] at hQ ⊢
    refine X_lookup (off := 42) (tgt := 48) dX12_delayOf_6 (by decide) (by decide) (by decide) ?_
    refine X_aload_n dX12_delayOf_48 rfl ?_
    refine X_getR dX12_delayOf_49 gf_X12_28 (by first | assumption | rfl) (by first | assumption | exact Nat.le_of_ble_eq_true rfl | omega) rfl (by first | assumption | rfl) ?_
    refine X_iconst (v := nI 0) dX12_delayOf_52 (by decide) ?_
    first | refine X_iald dX12_delayOf_53 (by first | assumption | rfl) (by first | assumption | exact Nat.le_of_ble_eq_true rfl | omega) rfl (by first | decide | omega) (by decide) ?_ | refine X_ildA dX12_delayOf_53 rfl (by omega) ?_ | refine X_ildM dX12_delayOf_53 rfl (by omega) ?_ | refine X_sld dX12_delayOf_53 rfl (by omega) (by omega) ?_
    rw [hS 0 (by decide)]
    exact X_iret dX12_delayOf_54 rfl ⟨_, rfl, hQ⟩
  · rw [e] at hQ ⊢
    refine X_lookup (off := 49) (tgt := 55) dX12_delayOf_6 (by decide) (by decide) (by decide) ?_
    refine X_aload_n dX12_delayOf_55 rfl ?_
    refine X_getR dX12_delayOf_56 gf_X12_28 (by first | assumption | rfl) (by first | assumption | exact Nat.le_of_ble_eq_true rfl | omega) rfl (by first | assumption | rfl) ?_
    refine X_iconst (v := nI 1) dX12_delayOf_59 (by decide) ?_
    first | refine X_iald dX12_delayOf_60 (by first | assumption | rfl) (by first | assumption | exact Nat.le_of_ble_eq_true rfl | omega) rfl (by first | decide | omega) (by decide) ?_ | refine X_ildA dX12_delayOf_60 rfl (by omega) ?_ | refine X_ildM dX12_delayOf_60 rfl (by omega) ?_ | refine X_sld dX12_delayOf_60 rfl (by omega) (by omega) ?_
    rw [hS 1 (by decide)]
    exact X_iret dX12_delayOf_61 rfl ⟨_, rfl, hQ⟩
  · rw [e] at hQ ⊢
    refine X_lookup (off := 56) (tgt := 62) dX12_delayOf_6 (by decide) (by decide) (by decide) ?_
    refine X_aload_n dX12_delayOf_62 rfl ?_
    refine X_getR dX12_delayOf_63 gf_X12_28 (by first | assumption | rfl) (by first | assumption | exact Nat.le_of_ble_eq_true rfl | omega) rfl (by first | assumption | rfl) ?_
    refine X_iconst (v := nI 2) dX12_delayOf_66 (by decide) ?_
    first | refine X_iald dX12_delayOf_67 (by first | assumption | rfl) (by first | assumption | exact Nat.le_of_ble_eq_true rfl | omega) rfl (by first | decide | omega) (by decide) ?_ | refine X_ildA dX12_delayOf_67 rfl (by omega) ?_ | refine X_ildM dX12_delayOf_67 rfl (by omega) ?_ | refine X_sld dX12_delayOf_67 rfl (by omega) (by omega) ?_
    rw [hS 2 (by decide)]
    exact X_iret dX12_delayOf_68 rfl ⟨_, rfl, hQ⟩
  · rw [e] at hQ ⊢
    refine X_lookup (off := 63) (tgt := 69) dX12_delayOf_6 (by decide) (by decide) (by decide) ?_
    refine X_aload_n dX12_delayOf_69 rfl ?_
    refine X_getR dX12_delayOf_70 gf_X12_28 (by first | assumption | rfl) (by first | assumption | exact Nat.le_of_ble_eq_true rfl | omega) rfl (by first | assumption | rfl) ?_
    refine X_iconst (v := nI 3) dX12_delayOf_73 (by decide) ?_
    first | refine X_iald dX12_delayOf_74 (by first | assumption | rfl) (by first | assumption | exact Nat.le_of_ble_eq_true rfl | omega) rfl (by first | decide | omega) (by decide) ?_ | refine X_ildA dX12_delayOf_74 rfl (by omega) ?_ | refine X_ildM dX12_delayOf_74 rfl (by omega) ?_ | refine X_sld dX12_delayOf_74 rfl (by omega) (by omega) ?_
    rw [hS 3 (by decide)]
    exact X_iret dX12_delayOf_75 rfl ⟨_, rfl, hQ⟩
set_option maxRecDepth 20000 in
theorem m_layOrder {Q : Mm → Prop} (hn0 : I 170 9 = nI n) (hn : n ≤ 12) (hQ : ∀ I', FrM [192] [] I I' → (∀ k, k < n → I' 192 k = nI k) → Q (NC, I', J, layR sw)) : Y G d zX12_layOrder [vr 170] (NC, I, J, layR sw) 0 0 (qv Q) := by
  have loop : ∀ (m i : Nat) (I' : Nat → Nat → Int32), m = n - i → i ≤ n → FrM [192] [] I I' → (∀ j, j < i → I' 192 j = nI j) → X G d zX12_layOrder 2 [(0, vr 170), (1, vi (nI i))] [] (NC, I', J, layR sw) 0 0 (qv Q) := by
    intro m
    induction m with
    | zero =>
      intro i I' hm hi hF hj
      obtain rfl : i = n := by omega
      refine X_iload_n dX12_layOrder_2 rfl ?_
      refine X_aload_n dX12_layOrder_3 rfl ?_
      refine X_getI dX12_layOrder_4 gf_X12_181 (by first | assumption | rfl) (by first | assumption | exact Nat.le_of_ble_eq_true rfl | omega) rfl ?_
      rw [hF.2 9 (by simp), hn0]
      refine X_icmp_ge (tgt := 23) dX12_layOrder_7 (by decide) (fun b => ?_) (fun b => ?_)
      · exact X_vret dX12_layOrder_23 rfl ⟨rfl, hQ I' hF hj⟩
      · exact absurd (Int32.le_refl _) b
    | succ m ih =>
      intro i I' hm hi hF hj
      refine X_iload_n dX12_layOrder_2 rfl ?_
      refine X_aload_n dX12_layOrder_3 rfl ?_
      refine X_getI dX12_layOrder_4 gf_X12_181 (by first | assumption | rfl) (by first | assumption | exact Nat.le_of_ble_eq_true rfl | omega) rfl ?_
      rw [hF.2 9 (by simp), hn0]
      refine X_icmp_ge (tgt := 23) dX12_layOrder_7 (by decide) (fun b => ?_) (fun b => ?_)
      · exact absurd ((nle (by omega) (by omega)).mp b) (by omega)
      refine X_aload_n dX12_layOrder_10 rfl ?_
      refine X_getR dX12_layOrder_11 gf_X12_74 (by first | assumption | rfl) (by first | assumption | exact Nat.le_of_ble_eq_true rfl | omega) rfl (by first | assumption | rfl) ?_
      refine X_iload_n dX12_layOrder_14 rfl ?_
      refine X_iload_n dX12_layOrder_15 rfl ?_
      refine X_iast dX12_layOrder_16 (by first | assumption | rfl) (by first | assumption | exact Nat.le_of_ble_eq_true rfl | omega) rfl (by first | decide | omega) (by decide) ?_
      first | refine X_iinc1 dX12_layOrder_17 rfl rfl rfl ?_ | refine X_iinc dX12_layOrder_17 rfl rfl rfl rfl ?_
      refine X_goto (tgt := 2) dX12_layOrder_20 (by decide) ?_
      refine ih (i + 1) _ (by omega) (by omega) (hF.tr (FrM.c (by simp) (by decide))) (fun j h => ?_)
      rw [sr_eq]
      by_cases hji : j = i
      · rw [hji, up_eq]
      · rw [up_ne hji]; exact hj j (by omega)
  refine Y_of rfl rfl (Nat.le_of_ble_eq_true rfl) rfl ?_
  refine X_iconst (v := nI 0) dX12_layOrder_0 (by decide) ?_
  refine X_istore_n dX12_layOrder_1 rfl rfl ?_
  exact loop n 0 I rfl (Nat.zero_le n) FrM.rf (fun j h => absurd h (Nat.not_lt_zero j))
set_option maxRecDepth 20000 in
set_option maxHeartbeats 2000000 in
theorem m_findTicks {Q : Int32 → Mm → Prop} {S o : Nat → Nat} (hd : 1 ≤ d) (hc : RC I n c) (hv : VC n c) (hB : ∀ i, i < n → I 189 i = nI (ned c i) ∧ I 190 i = nI (awt c i)) (hS : ∀ j, j < 4 → I 177 j = nI (S (j + 1))) (hu : I 170 13 = nI (S 0)) (hu1 : 1 ≤ S 0) (hu3 : S 0 ≤ 3) (hdl : ∀ j, dly c S j ≤ 5) (ho : ∀ k, k < n → I 192 k = nI (o k)) (hon : ∀ k, k < n → o k < n) (hl : Lwf (fun i => ned c i ||| awt c i) o n)
    (hQ : ∀ I', FrM [193] [] I I' → (∀ k, k < n → I' 193 (o k) = nI ((trn c (dly c S) (S 0) o n).1 (o k))) → Q (nI (trn c (dly c S) (S 0) o n).2.2.2) (NC, I', J, layR sw)) : Y G d zX12_findTicks [vr 170] (NC, I, J, layR sw) 0 0 (qi Q) := by
  have hn := hv.1
  have loop : ∀ (m k : Nat) (I' : Nat → Nat → Int32), m = n - k → k ≤ n → FrM [193] [] I I' → (∀ j, j < k → I' 193 (o j) = nI ((trn c (dly c S) (S 0) o k).1 (o j))) → X G d zX12_findTicks 9 [(0, vr 170), (1, vi (nI (trn c (dly c S) (S 0) o k).2.1)), (2, vi (nI (trn c (dly c S) (S 0) o k).2.2.1)), (3, vi (nI (trn c (dly c S) (S 0) o k).2.2.2)), (4, vi (nI k))] [] (NC, I', J, layR sw) 0 0 (qi Q) := by
    intro m
    induction m with
    | zero =>
      intro k I' hm hk hF hj
      have hc' := RC_fm hc hF (by decide) (by decide)
      obtain rfl : k = n := by omega
      refine X_iload dX12_findTicks_9 rfl ?_
      refine X_aload_n dX12_findTicks_11 rfl ?_
      refine X_getI dX12_findTicks_12 gf_X12_181 (by first | assumption | rfl) (by first | assumption | exact Nat.le_of_ble_eq_true rfl | omega) rfl ?_
      rw [hc'.1]
      refine X_icmp_ge (tgt := 213) dX12_findTicks_15 (by decide) (fun b => ?_) (fun b => ?_)
      · refine X_iload_n dX12_findTicks_213 rfl ?_
        exact X_iret dX12_findTicks_214 rfl ⟨_, rfl, hQ I' hF hj⟩
      · exact absurd (Int32.le_refl _) b
    | succ m ih =>
      intro k I' hm hk hF hj
      have hc' := RC_fm hc hF (by decide) (by decide)
      have hkn : k < n := by omega
      have hin := hon k hkn
      have hBt := TB_trn (c := c) (o := o) hu1 hdl k
      obtain ⟨hB2, hx⟩ := TB_stp (c := c) (i := o k) hu1 hdl hBt
      have ih := fun I' => ih (k + 1) I' (by omega) (by omega)
      change ∀ I', FrM [193] [] I I' → (∀ j, j < k + 1 → I' 193 (o j) = nI ((tstp c (dly c S) (S 0) (trn c (dly c S) (S 0) o k) (o k)).1 (o j))) → X G d zX12_findTicks 9 [(0, vr 170), (1, vi (nI (tstp c (dly c S) (S 0) (trn c (dly c S) (S 0) o k) (o k)).2.1)), (2, vi (nI (tstp c (dly c S) (S 0) (trn c (dly c S) (S 0) o k) (o k)).2.2.1)), (3, vi (nI (tstp c (dly c S) (S 0) (trn c (dly c S) (S 0) o k) (o k)).2.2.2)), (4, vi (nI (k + 1)))] [] (NC, I', J, layR sw) 0 0 (qi Q) at ih
      have hlk := hl k hkn
      generalize trn c (dly c S) (S 0) o k = t at *
      have hok : I' 192 k = nI (o k) := by rw [hF.1 192 (by decide) (by decide)]; exact ho k hkn
      have h189 : I' 189 (o k) = nI (ned c (o k)) := by rw [hF.1 189 (by decide) (by decide)]; exact (hB (o k) hin).1
      have h190 : I' 190 (o k) = nI (awt c (o k)) := by rw [hF.1 190 (by decide) (by decide)]; exact (hB (o k) hin).2
      have h177 : ∀ (I2 : Nat → Nat → Int32), FrM [193] [] I I2 → ∀ j, j < 4 → I2 177 j = nI (S (j + 1)) := fun I2 f j h => by rw [f.1 177 (by decide) (by decide)]; exact hS j h
      have h13 : I' 170 13 = nI (S 0) := by rw [hF.2 13 (by simp)]; exact hu
      generalize hi : o k = i at *
      obtain ⟨t1, t2, t3, t4⟩ := hBt
      have hdi := hdl i
      have hnl : ned c i < 4096 := Nat.lt_of_lt_of_le (ned_lt c i) (pow4096 (by omega))
      have hal : awt c i < 4096 := Nat.lt_of_lt_of_le (awt_lt c i) (pow4096 (by omega))
      have hT : ∀ j, ((ned c i).testBit j = true ∨ (awt c i).testBit j = true) → I' 193 j = nI (t.1 j) := fun j h => by
        obtain ⟨k', h1, h2⟩ := hlk j (by rw [Nat.testBit_or, Bool.or_eq_true]; exact h)
        rw [← h2]; exact hj k' h1
      have hdp := dpm_max (A := ned c i) (E := awt c i) (dl := dly c S) (tk := t.1) (b := t.2.1) i
      have hdp1 := dpm_max (A := ned c i) (E := awt c i) (dl := dly c S) (tk := t.1) (b := t.2.1 + 1) i
      have hall : dpm (ned c i) (awt c i) (dly c S) t.1 t.2.1 n = dpm (ned c i) (awt c i) (dly c S) t.1 t.2.1 i := by
        have := dpm_hi (dl := dly c S) (tk := t.1) (b := t.2.1) (ned_lt c i) (awt_lt c i) (n - i)
        rwa [show i + (n - i) = n by omega] at this
      have hfin : (if dpm (ned c i) (awt c i) (dly c S) t.1 t.2.1 n = t.2.1 ∧ t.2.2.1 = S 0 then dpm (ned c i) (awt c i) (dly c S) t.1 t.2.1 n + 1 else dpm (ned c i) (awt c i) (dly c S) t.1 t.2.1 n) = ftk c (dly c S) (S 0) t i := by
        rw [hall]
        unfold ftk
        by_cases hb : t.2.2.1 < S 0
        · rw [if_pos hb, if_neg (by omega)]
        · rw [if_neg hb]
          by_cases he : dpm (ned c i) (awt c i) (dly c S) t.1 t.2.1 i = t.2.1
          · rw [if_pos ⟨he, by omega⟩]; omega
          · rw [if_neg (fun q => he q.1)]; omega
      have fin3 : ∀ (y x e : Nat), x = ftk c (dly c S) (S 0) t i → y = (if ftk c (dly c S) (S 0) t i = t.2.1 then t.2.2.1 + 1 else 1) → e = max t.2.2.2 (x + dly c S i) → ∀ (I2 : Nat → Nat → Int32), I2 = sr I' 193 (up (I' 193) i (nI x)) → X G d zX12_findTicks 206 [(0, vr 170), (1, vi (nI x)), (2, vi (nI y)), (3, vi (nI t.2.2.2)), (4, vi (nI k)), (5, vi (nI i)), (6, vi (nI x)), (7, vi (nI n))] [vi (nI e)] (NC, I2, J, layR sw) 0 0 (qi Q) := by
        intro y x e hxe hy he I2 hI2
        refine X_istore_n dX12_findTicks_206 rfl rfl ?_
        first | refine X_iinc1 dX12_findTicks_207 rfl rfl rfl ?_ | refine X_iinc dX12_findTicks_207 rfl rfl rfl rfl ?_
        refine X_goto (tgt := 9) dX12_findTicks_210 (by decide) ?_
        refine weak (lv' := [(0, vr 170), (1, vi (nI x)), (2, vi (nI y)), (3, vi (nI e)), (4, vi (nI (k + 1)))]) (fun q hq => List.mem_append_left _ hq) ?_
        rw [he, hy, hxe]
        refine ih I2 (by rw [hI2]; exact hF.tr (FrM.c (by simp) (by decide))) (fun j h => ?_)
        rw [hI2, sr_eq, hxe]
        show _ = nI (up t.1 i (ftk c (dly c S) (S 0) t i) (o j))
        by_cases hji : o j = i
        · rw [hji, up_eq, up_eq]
        · have hjk : j < k := by
            have : j ≠ k := fun q => hji (by rw [q, hi])
            omega
          rw [up_ne hji, up_ne hji]; exact hj j hjk
      have fin2 : ∀ (y x : Nat), x = ftk c (dly c S) (S 0) t i → y = (if ftk c (dly c S) (S 0) t i = t.2.1 then t.2.2.1 + 1 else 1) → X G d zX12_findTicks 170 [(0, vr 170), (1, vi (nI t.2.1)), (2, vi (nI t.2.2.1)), (3, vi (nI t.2.2.2)), (4, vi (nI k)), (5, vi (nI i)), (6, vi (nI x)), (7, vi (nI n))] [vi (nI y)] (NC, I', J, layR sw) 0 0 (qi Q) := by
        intro y x hxe hy
        refine X_istore_n dX12_findTicks_170 rfl rfl ?_
        refine X_iload dX12_findTicks_171 rfl ?_
        refine X_istore_n dX12_findTicks_173 rfl rfl ?_
        refine X_aload_n dX12_findTicks_174 rfl ?_
        refine X_getR dX12_findTicks_175 gf_X12_77 (by first | assumption | rfl) (by first | assumption | exact Nat.le_of_ble_eq_true rfl | omega) rfl (by first | assumption | rfl) ?_
        refine X_iload dX12_findTicks_178 rfl ?_
        refine X_iload_n dX12_findTicks_180 rfl ?_
        refine X_iast dX12_findTicks_181 (by first | assumption | rfl) (by first | assumption | exact Nat.le_of_ble_eq_true rfl | omega) rfl (by first | decide | omega) (by decide) ?_
        refine X_iload_n dX12_findTicks_182 rfl ?_
        refine X_aload_n dX12_findTicks_183 rfl ?_
        refine X_iload dX12_findTicks_184 rfl ?_
        have hF2 : FrM [193] [] I (sr I' 193 (up (I' 193) i (nI x))) := hF.tr (FrM.c (by simp) (by decide))
        have hc2 := RC_fm hc hF2 (by decide) (by decide)
        refine X_cVi dX12_findTicks_186 ck_X12_300 rfl rfl (by first | assumption | rfl) (by first | assumption | exact Nat.le_of_ble_eq_true rfl | omega) (by omega) (Nat.le_of_ble_eq_true rfl) (m_delayOf hc2 hv hin (h177 _ hF2) ?_)
        first | refine X_iaddN dX12_findTicks_189 ?_ | refine X_iadd dX12_findTicks_189 ?_
        refine X_iload_n dX12_findTicks_190 rfl ?_
        refine X_icmp_le (tgt := 205) dX12_findTicks_191 (by decide) (fun b191 => ?_) (fun b191 => ?_)
        · have := (nle (by omega) (by omega)).mp b191
          refine X_iload_n dX12_findTicks_205 rfl ?_
          exact fin3 y x _ hxe hy (by omega) _ rfl
        · have : ¬ x + dly c S i ≤ t.2.2.2 := fun q => b191 ((nle (by omega) (by omega)).mpr q)
          refine X_iload_n dX12_findTicks_194 rfl ?_
          refine X_aload_n dX12_findTicks_195 rfl ?_
          refine X_iload dX12_findTicks_196 rfl ?_
          refine X_cVi dX12_findTicks_198 ck_X12_300 rfl rfl (by first | assumption | rfl) (by first | assumption | exact Nat.le_of_ble_eq_true rfl | omega) (by omega) (Nat.le_of_ble_eq_true rfl) (m_delayOf hc2 hv hin (h177 _ hF2) ?_)
          first | refine X_iaddN dX12_findTicks_201 ?_ | refine X_iadd dX12_findTicks_201 ?_
          refine X_goto (tgt := 206) dX12_findTicks_202 (by decide) ?_
          exact fin3 y x _ hxe hy (by omega) _ rfl
      have fin1 : ∀ x : Nat, x = ftk c (dly c S) (S 0) t i → X G d zX12_findTicks 157 [(0, vr 170), (1, vi (nI t.2.1)), (2, vi (nI t.2.2.1)), (3, vi (nI t.2.2.2)), (4, vi (nI k)), (5, vi (nI i)), (6, vi (nI x)), (7, vi (nI n))] [] (NC, I', J, layR sw) 0 0 (qi Q) := by
        intro x hxe
        refine X_iload dX12_findTicks_157 rfl ?_
        refine X_iload_n dX12_findTicks_159 rfl ?_
        refine X_icmp_ne (tgt := 169) dX12_findTicks_160 (by decide) (fun b160 => ?_) (fun b160 => ?_)
        · refine X_iconst (v := nI 1) dX12_findTicks_169 (by decide) ?_
          exact fin2 _ x hxe (by rw [if_neg (fun q => b160 (by rw [hxe, q]))])
        · have := (neq (by omega) (by omega)).mp b160
          refine X_iload_n dX12_findTicks_163 rfl ?_
          refine X_iconst (v := nI 1) dX12_findTicks_164 (by decide) ?_
          first | refine X_iaddN dX12_findTicks_165 ?_ | refine X_iadd dX12_findTicks_165 ?_
          refine X_goto (tgt := 170) dX12_findTicks_166 (by decide) ?_
          exact fin2 _ x hxe (by rw [if_pos (by omega)])
      have inner : ∀ (m j : Nat), m = n - j → j ≤ n → X G d zX12_findTicks 33 [(0, vr 170), (1, vi (nI t.2.1)), (2, vi (nI t.2.2.1)), (3, vi (nI t.2.2.2)), (4, vi (nI k)), (5, vi (nI i)), (6, vi (nI (dpm (ned c i) (awt c i) (dly c S) t.1 t.2.1 j))), (7, vi (nI j))] [] (NC, I', J, layR sw) 0 0 (qi Q) := by
        intro m
        induction m with
        | zero =>
          intro j hm hjn
          obtain rfl : j = n := by omega
          have hle := dpm_le (A := ned c i) (E := awt c i) (dl := dly c S) (tk := t.1) (b := t.2.1) (B := 6 * k) (by omega) hdl j t1
          refine X_iload dX12_findTicks_33 rfl ?_
          refine X_aload_n dX12_findTicks_35 rfl ?_
          refine X_getI dX12_findTicks_36 gf_X12_181 (by first | assumption | rfl) (by first | assumption | exact Nat.le_of_ble_eq_true rfl | omega) rfl ?_
          rw [hc'.1]
          refine X_icmp_ge (tgt := 140) dX12_findTicks_39 (by decide) (fun b => ?_) (fun b => ?_)
          · refine X_iload dX12_findTicks_140 rfl ?_
            refine X_iload_n dX12_findTicks_142 rfl ?_
            refine X_icmp_ne (tgt := 157) dX12_findTicks_143 (by decide) (fun b143 => ?_) (fun b143 => ?_)
            · refine fin1 _ ?_
              rw [← hfin, if_neg (fun q => b143 (by rw [q.1]))]
            · have he := (neq (by omega) (by omega)).mp b143
              refine X_iload_n dX12_findTicks_146 rfl ?_
              refine X_aload_n dX12_findTicks_147 rfl ?_
              refine X_getI dX12_findTicks_148 gf_X12_120 (by first | assumption | rfl) (by first | assumption | exact Nat.le_of_ble_eq_true rfl | omega) rfl ?_
              rw [h13]
              refine X_icmp_ne (tgt := 157) dX12_findTicks_151 (by decide) (fun b151 => ?_) (fun b151 => ?_)
              · refine fin1 _ ?_
                rw [← hfin, if_neg (fun q => b151 (by rw [q.2]))]
              · have hb := (neq (by omega) (by omega)).mp b151
                first | refine X_iinc1 dX12_findTicks_154 rfl rfl rfl ?_ | refine X_iinc dX12_findTicks_154 rfl rfl rfl rfl ?_
                refine fin1 _ ?_
                rw [← hfin, if_pos ⟨he, hb⟩]
          · exact absurd (Int32.le_refl _) b
        | succ m ih2 =>
          intro j hm hjn
          have hjn2 : j < n := by omega
          have ih2 := ih2 (j + 1) (by omega) (by omega)
          have hle := dpm_le (A := ned c i) (E := awt c i) (dl := dly c S) (tk := t.1) (b := t.2.1) (B := 6 * k) (by omega) hdl j t1
          have htj := t1 j
          have hdj := hdl j
          unfold dpm at ih2
          have half : ∀ x : Nat, x ≤ 6 * k + 10 → X G d zX12_findTicks 33 [(0, vr 170), (1, vi (nI t.2.1)), (2, vi (nI t.2.2.1)), (3, vi (nI t.2.2.2)), (4, vi (nI k)), (5, vi (nI i)), (6, vi (nI (if (awt c i).testBit j = true then max x (t.1 j + 1) else x))), (7, vi (nI (j + 1)))] [] (NC, I', J, layR sw) 0 0 (qi Q) → X G d zX12_findTicks 93 [(0, vr 170), (1, vi (nI t.2.1)), (2, vi (nI t.2.2.1)), (3, vi (nI t.2.2.2)), (4, vi (nI k)), (5, vi (nI i)), (6, vi (nI x)), (7, vi (nI j))] [] (NC, I', J, layR sw) 0 0 (qi Q) := by
            intro x hx2 go
            refine X_aload_n dX12_findTicks_93 rfl ?_
            refine X_getR dX12_findTicks_94 gf_X12_68 (by first | assumption | rfl) (by first | assumption | exact Nat.le_of_ble_eq_true rfl | omega) rfl (by first | assumption | rfl) ?_
            refine X_iload dX12_findTicks_97 rfl ?_
            first | refine X_iald dX12_findTicks_99 (by first | assumption | rfl) (by first | assumption | exact Nat.le_of_ble_eq_true rfl | omega) rfl (by first | decide | omega) (by decide) ?_ | refine X_ildA dX12_findTicks_99 rfl (by omega) ?_ | refine X_ildM dX12_findTicks_99 rfl (by omega) ?_ | refine X_sld dX12_findTicks_99 rfl (by omega) (by omega) ?_
            rw [h190]
            refine X_iload dX12_findTicks_100 rfl ?_
            first | refine X_ishrN dX12_findTicks_102 (by omega) (by omega) ?_ | refine X_ishr dX12_findTicks_102 ?_
            refine X_iconst (v := nI 1) dX12_findTicks_103 (by decide) ?_
            first | refine X_iandN dX12_findTicks_104 ?_ | refine X_iandC dX12_findTicks_104 ?_ | refine X_iand dX12_findTicks_104 ?_
            rw [Nat.and_one_is_mod, bit_mod]
            refine X_iconst (v := nI 1) dX12_findTicks_105 (by decide) ?_
            by_cases h2 : (awt c i).testBit j = true
            · rw [if_pos h2] at go ⊢
              refine X_icmp_ne (tgt := 134) dX12_findTicks_106 (by decide) (fun b106 => ?_) (fun b106 => ?_)
              · exact absurd rfl b106
              refine X_aload_n dX12_findTicks_109 rfl ?_
              refine X_getR dX12_findTicks_110 gf_X12_77 (by first | assumption | rfl) (by first | assumption | exact Nat.le_of_ble_eq_true rfl | omega) rfl (by first | assumption | rfl) ?_
              refine X_iload dX12_findTicks_113 rfl ?_
              first | refine X_iald dX12_findTicks_115 (by first | assumption | rfl) (by first | assumption | exact Nat.le_of_ble_eq_true rfl | omega) rfl (by first | decide | omega) (by decide) ?_ | refine X_ildA dX12_findTicks_115 rfl (by omega) ?_ | refine X_ildM dX12_findTicks_115 rfl (by omega) ?_ | refine X_sld dX12_findTicks_115 rfl (by omega) (by omega) ?_
              rw [hT j (Or.inr h2)]
              refine X_iconst (v := nI 1) dX12_findTicks_116 (by decide) ?_
              first | refine X_iaddN dX12_findTicks_117 ?_ | refine X_iadd dX12_findTicks_117 ?_
              refine X_iload dX12_findTicks_118 rfl ?_
              refine X_icmp_le (tgt := 134) dX12_findTicks_120 (by decide) (fun b120 => ?_) (fun b120 => ?_)
              · have := (nle (by omega) (by omega)).mp b120
                rw [Nat.max_eq_left this] at go
                first | refine X_iinc1 dX12_findTicks_134 rfl rfl rfl ?_ | refine X_iinc dX12_findTicks_134 rfl rfl rfl rfl ?_
                refine X_goto (tgt := 33) dX12_findTicks_137 (by decide) ?_
                exact go
              · have : ¬ t.1 j + 1 ≤ x := fun q => b120 ((nle (by omega) (by omega)).mpr q)
                rw [Nat.max_eq_right (by omega)] at go
                refine X_aload_n dX12_findTicks_123 rfl ?_
                refine X_getR dX12_findTicks_124 gf_X12_77 (by first | assumption | rfl) (by first | assumption | exact Nat.le_of_ble_eq_true rfl | omega) rfl (by first | assumption | rfl) ?_
                refine X_iload dX12_findTicks_127 rfl ?_
                first | refine X_iald dX12_findTicks_129 (by first | assumption | rfl) (by first | assumption | exact Nat.le_of_ble_eq_true rfl | omega) rfl (by first | decide | omega) (by decide) ?_ | refine X_ildA dX12_findTicks_129 rfl (by omega) ?_ | refine X_ildM dX12_findTicks_129 rfl (by omega) ?_ | refine X_sld dX12_findTicks_129 rfl (by omega) (by omega) ?_
                rw [hT j (Or.inr h2)]
                refine X_iconst (v := nI 1) dX12_findTicks_130 (by decide) ?_
                first | refine X_iaddN dX12_findTicks_131 ?_ | refine X_iadd dX12_findTicks_131 ?_
                refine X_istore dX12_findTicks_132 rfl rfl ?_
                first | refine X_iinc1 dX12_findTicks_134 rfl rfl rfl ?_ | refine X_iinc dX12_findTicks_134 rfl rfl rfl rfl ?_
                refine X_goto (tgt := 33) dX12_findTicks_137 (by decide) ?_
                exact go
            · rw [if_neg h2] at go ⊢
              refine X_icmp_ne (tgt := 134) dX12_findTicks_106 (by decide) (fun b106 => ?_) (fun b106 => ?_)
              · first | refine X_iinc1 dX12_findTicks_134 rfl rfl rfl ?_ | refine X_iinc dX12_findTicks_134 rfl rfl rfl rfl ?_
                refine X_goto (tgt := 33) dX12_findTicks_137 (by decide) ?_
                exact go
              · exact absurd b106 (by decide)
          refine X_iload dX12_findTicks_33 rfl ?_
          refine X_aload_n dX12_findTicks_35 rfl ?_
          refine X_getI dX12_findTicks_36 gf_X12_181 (by first | assumption | rfl) (by first | assumption | exact Nat.le_of_ble_eq_true rfl | omega) rfl ?_
          rw [hc'.1]
          refine X_icmp_ge (tgt := 140) dX12_findTicks_39 (by decide) (fun b => ?_) (fun b => ?_)
          · exact absurd ((nle (by omega) (by omega)).mp b) (by omega)
          refine X_aload_n dX12_findTicks_42 rfl ?_
          refine X_getR dX12_findTicks_43 gf_X12_65 (by first | assumption | rfl) (by first | assumption | exact Nat.le_of_ble_eq_true rfl | omega) rfl (by first | assumption | rfl) ?_
          refine X_iload dX12_findTicks_46 rfl ?_
          first | refine X_iald dX12_findTicks_48 (by first | assumption | rfl) (by first | assumption | exact Nat.le_of_ble_eq_true rfl | omega) rfl (by first | decide | omega) (by decide) ?_ | refine X_ildA dX12_findTicks_48 rfl (by omega) ?_ | refine X_ildM dX12_findTicks_48 rfl (by omega) ?_ | refine X_sld dX12_findTicks_48 rfl (by omega) (by omega) ?_
          rw [h189]
          refine X_iload dX12_findTicks_49 rfl ?_
          first | refine X_ishrN dX12_findTicks_51 (by omega) (by omega) ?_ | refine X_ishr dX12_findTicks_51 ?_
          refine X_iconst (v := nI 1) dX12_findTicks_52 (by decide) ?_
          first | refine X_iandN dX12_findTicks_53 ?_ | refine X_iandC dX12_findTicks_53 ?_ | refine X_iand dX12_findTicks_53 ?_
          rw [Nat.and_one_is_mod, bit_mod]
          refine X_iconst (v := nI 1) dX12_findTicks_54 (by decide) ?_
          by_cases h1 : (ned c i).testBit j = true
          · rw [if_pos h1] at ih2 ⊢
            refine X_icmp_ne (tgt := 93) dX12_findTicks_55 (by decide) (fun b55 => ?_) (fun b55 => ?_)
            · exact absurd rfl b55
            refine X_aload_n dX12_findTicks_58 rfl ?_
            refine X_getR dX12_findTicks_59 gf_X12_77 (by first | assumption | rfl) (by first | assumption | exact Nat.le_of_ble_eq_true rfl | omega) rfl (by first | assumption | rfl) ?_
            refine X_iload dX12_findTicks_62 rfl ?_
            first | refine X_iald dX12_findTicks_64 (by first | assumption | rfl) (by first | assumption | exact Nat.le_of_ble_eq_true rfl | omega) rfl (by first | decide | omega) (by decide) ?_ | refine X_ildA dX12_findTicks_64 rfl (by omega) ?_ | refine X_ildM dX12_findTicks_64 rfl (by omega) ?_ | refine X_sld dX12_findTicks_64 rfl (by omega) (by omega) ?_
            rw [hT j (Or.inl h1)]
            refine X_aload_n dX12_findTicks_65 rfl ?_
            refine X_iload dX12_findTicks_66 rfl ?_
            refine X_cVi dX12_findTicks_68 ck_X12_300 rfl rfl (by first | assumption | rfl) (by first | assumption | exact Nat.le_of_ble_eq_true rfl | omega) (by omega) (Nat.le_of_ble_eq_true rfl) (m_delayOf hc' hv hjn2 (h177 _ hF) ?_)
            first | refine X_iaddN dX12_findTicks_71 ?_ | refine X_iadd dX12_findTicks_71 ?_
            refine X_iload dX12_findTicks_72 rfl ?_
            refine X_icmp_le (tgt := 93) dX12_findTicks_74 (by decide) (fun b74 => ?_) (fun b74 => ?_)
            · have := (nle (by omega) (by omega)).mp b74
              rw [Nat.max_eq_left this] at ih2
              exact half _ (by omega) ih2
            · have : ¬ t.1 j + dly c S j ≤ dpm (ned c i) (awt c i) (dly c S) t.1 t.2.1 j := fun q => b74 ((nle (by omega) (by omega)).mpr q)
              have e : max (dpm (ned c i) (awt c i) (dly c S) t.1 t.2.1 j) (t.1 j + dly c S j) = t.1 j + dly c S j := by omega
              rw [e] at ih2
              refine X_aload_n dX12_findTicks_77 rfl ?_
              refine X_getR dX12_findTicks_78 gf_X12_77 (by first | assumption | rfl) (by first | assumption | exact Nat.le_of_ble_eq_true rfl | omega) rfl (by first | assumption | rfl) ?_
              refine X_iload dX12_findTicks_81 rfl ?_
              first | refine X_iald dX12_findTicks_83 (by first | assumption | rfl) (by first | assumption | exact Nat.le_of_ble_eq_true rfl | omega) rfl (by first | decide | omega) (by decide) ?_ | refine X_ildA dX12_findTicks_83 rfl (by omega) ?_ | refine X_ildM dX12_findTicks_83 rfl (by omega) ?_ | refine X_sld dX12_findTicks_83 rfl (by omega) (by omega) ?_
              rw [hT j (Or.inl h1)]
              refine X_aload_n dX12_findTicks_84 rfl ?_
              refine X_iload dX12_findTicks_85 rfl ?_
              refine X_cVi dX12_findTicks_87 ck_X12_300 rfl rfl (by first | assumption | rfl) (by first | assumption | exact Nat.le_of_ble_eq_true rfl | omega) (by omega) (Nat.le_of_ble_eq_true rfl) (m_delayOf hc' hv hjn2 (h177 _ hF) ?_)
              first | refine X_iaddN dX12_findTicks_90 ?_ | refine X_iadd dX12_findTicks_90 ?_
              refine X_istore dX12_findTicks_91 rfl rfl ?_
              exact half _ (by omega) ih2
          · rw [if_neg h1] at ih2 ⊢
            refine X_icmp_ne (tgt := 93) dX12_findTicks_55 (by decide) (fun b55 => ?_) (fun b55 => ?_)
            · exact half _ (by omega) ih2
            · exact absurd b55 (by decide)
      refine X_iload dX12_findTicks_9 rfl ?_
      refine X_aload_n dX12_findTicks_11 rfl ?_
      refine X_getI dX12_findTicks_12 gf_X12_181 (by first | assumption | rfl) (by first | assumption | exact Nat.le_of_ble_eq_true rfl | omega) rfl ?_
      rw [hc'.1]
      refine X_icmp_ge (tgt := 213) dX12_findTicks_15 (by decide) (fun b => ?_) (fun b => ?_)
      · exact absurd ((nle (by omega) (by omega)).mp b) (by omega)
      refine X_aload_n dX12_findTicks_18 rfl ?_
      refine X_getR dX12_findTicks_19 gf_X12_74 (by first | assumption | rfl) (by first | assumption | exact Nat.le_of_ble_eq_true rfl | omega) rfl (by first | assumption | rfl) ?_
      refine X_iload dX12_findTicks_22 rfl ?_
      first | refine X_iald dX12_findTicks_24 (by first | assumption | rfl) (by first | assumption | exact Nat.le_of_ble_eq_true rfl | omega) rfl (by first | decide | omega) (by decide) ?_ | refine X_ildA dX12_findTicks_24 rfl (by omega) ?_ | refine X_ildM dX12_findTicks_24 rfl (by omega) ?_ | refine X_sld dX12_findTicks_24 rfl (by omega) (by omega) ?_
      rw [hok]
      refine X_istore dX12_findTicks_25 rfl rfl ?_
      refine X_iload_n dX12_findTicks_27 rfl ?_
      refine X_istore dX12_findTicks_28 rfl rfl ?_
      refine X_iconst (v := nI 0) dX12_findTicks_30 (by decide) ?_
      refine X_istore dX12_findTicks_31 rfl rfl ?_
      exact inner n 0 rfl (Nat.zero_le n)
  refine Y_of rfl rfl (Nat.le_of_ble_eq_true rfl) rfl ?_
  refine X_iconst (v := nI 0) dX12_findTicks_0 (by decide) ?_
  refine X_istore_n dX12_findTicks_1 rfl rfl ?_
  refine X_iconst (v := nI 0) dX12_findTicks_2 (by decide) ?_
  refine X_istore_n dX12_findTicks_3 rfl rfl ?_
  refine X_iconst (v := nI 0) dX12_findTicks_4 (by decide) ?_
  refine X_istore_n dX12_findTicks_5 rfl rfl ?_
  refine X_iconst (v := nI 0) dX12_findTicks_6 (by decide) ?_
  refine X_istore dX12_findTicks_7 rfl rfl ?_
  exact loop n 0 I rfl (Nat.zero_le n) FrM.rf (fun j h => absurd h (Nat.not_lt_zero j))
theorem Lwf_id : Lwf (fun i => ned c i ||| awt c i) (fun k => k) n := fun k hk j hj => by
  refine ⟨j, ?_, rfl⟩
  rcases Nat.lt_or_ge j k with h | h
  · exact h
  · have := Nat.testBit_lt_two_pow (Nat.lt_of_lt_of_le (Nat.or_lt_two_pow (ned_lt c k) (awt_lt c k)) (Nat.pow_le_pow_right (n := 2) (by decide) h))
    rw [this] at hj
    exact absurd hj (by decide)
set_option maxRecDepth 20000 in
theorem M_tick {x : Int32} (hd : 5 ≤ d) (hv : VSt s) (hi : RInv I s) : Y G d zX12_tick [vr 170, vi x] (NC, I, J, layR sw) 0 0 (qi (PM s (sp_tick s x) I J sw)) := by
  have hn := hv.2.1.1.1
  have hu := hv.2.1.2.2.2.1
  refine Y_of rfl rfl (Nat.le_of_ble_eq_true rfl) rfl ?_
  unfold sp_tick
  rcases scase hn x with h | ⟨a, ha, rfl⟩
  · rw [if_pos h]
    refine X_aload_n dX12_tick_0 rfl ?_
    refine X_iload_n dX12_tick_1 rfl ?_
    refine X_cVi dX12_tick_2 ck_X12_186 rfl rfl (by first | assumption | rfl) (by first | assumption | exact Nat.le_of_ble_eq_true rfl | omega) (by omega) (Nat.le_of_ble_eq_true rfl) (c_isStep_f (by omega) hi.2.1.1 hn h ?_)
    refine X_if_ne (tgt := 10) dX12_tick_5 (by decide) (fun b => ?_) (fun b => ?_)
    · exact absurd rfl b
    · refine X_iconst (v := (-1)) dX12_tick_8 (by decide) ?_
      exact X_iret dX12_tick_9 rfl ⟨_, rfl, PM_same hi⟩
  · rw [if_neg (scase_n hn ha), nI_clamp (by omega)]
    refine X_aload_n dX12_tick_0 rfl ?_
    refine X_iload_n dX12_tick_1 rfl ?_
    refine X_cVi dX12_tick_2 ck_X12_186 rfl rfl (by first | assumption | rfl) (by first | assumption | exact Nat.le_of_ble_eq_true rfl | omega) (by omega) (Nat.le_of_ble_eq_true rfl) (c_isStep_t (by omega) hi.2.1.1 hn ha ?_)
    refine X_if_ne (tgt := 10) dX12_tick_5 (by decide) (fun b => ?_) (fun b => ?_)
    · refine X_aload_n dX12_tick_10 rfl ?_
      refine X_cVv dX12_tick_11 ck_X12_295 rfl rfl (by first | assumption | rfl) (by first | assumption | exact Nat.le_of_ble_eq_true rfl | omega) (by omega) (Nat.le_of_ble_eq_true rfl) (m_findBehind (by omega) hi.2.1.rc hv.2.1.1 (fun I1 f1 hB => ?_))
      have hi1 := RInv_fm hi f1 (by decide) (by decide)
      refine X_aload_n dX12_tick_14 rfl ?_
      refine X_cVv dX12_tick_15 ck_X12_303 rfl rfl (by first | assumption | rfl) (by first | assumption | exact Nat.le_of_ble_eq_true rfl | omega) (by omega) (Nat.le_of_ble_eq_true rfl) (m_layOrder hi1.2.1.1 hn (fun I2 f2 ho => ?_))
      have hi2 := RInv_fm hi1 f2 (by decide) (by decide)
      refine X_aload_n dX12_tick_18 rfl ?_
      refine X_cVi dX12_tick_19 ck_X12_306 rfl rfl (by first | assumption | rfl) (by first | assumption | exact Nat.le_of_ble_eq_true rfl | omega) (by omega) (Nat.le_of_ble_eq_true rfl) (m_findTicks (S := dS s.2.1) (o := fun k => k) (by omega) hi2.2.1.rc hv.2.1.1 (fun i h => by rw [f2.1 189 (by decide) (by decide), f2.1 190 (by decide) (by decide)]; exact hB i h) hi2.2.1.2.2.2.2.2.2.1 hi2.2.1.2.2.2.2.2.1 hu.1 hu.2.1 (fun j => (dly_ok hv.2.1 j).2) ho (fun k h => h) Lwf_id (fun I3 f3 hT => ?_))
      refine X_pop dX12_tick_22 rfl ?_
      refine X_aload_n dX12_tick_23 rfl ?_
      refine X_getR dX12_tick_24 gf_X12_77 (by first | assumption | rfl) (by first | assumption | exact Nat.le_of_ble_eq_true rfl | omega) rfl (by first | assumption | rfl) ?_
      refine X_iload_n dX12_tick_27 rfl ?_
      first | refine X_iald dX12_tick_28 (by first | assumption | rfl) (by first | assumption | exact Nat.le_of_ble_eq_true rfl | omega) rfl (by first | decide | omega) (by decide) ?_ | refine X_ildA dX12_tick_28 rfl (by omega) ?_ | refine X_ildM dX12_tick_28 rfl (by omega) ?_ | refine X_sld dX12_tick_28 rfl (by omega) (by omega) ?_
      rw [hT a ha]
      exact X_iret dX12_tick_29 rfl ⟨_, rfl, PM_fm hi [189, 190, 192, 193] [] (((f1.sub (by simp) (by simp)).tr (f2.sub (by simp) (by simp))).tr (f3.sub (by simp) (by simp))) (by decide) (by decide)⟩
    · exact absurd b (by decide)
set_option maxRecDepth 20000 in
theorem M_time (hd : 5 ≤ d) (hv : VSt s) (hi : RInv I s) : Y G d zX12_time [vr 170] (NC, I, J, layR sw) 0 0 (qi (PM s (sp_time s) I J sw)) := by
  have hn := hv.2.1.1.1
  have hu := hv.2.1.2.2.2.1
  refine Y_of rfl rfl (Nat.le_of_ble_eq_true rfl) rfl ?_
  refine X_aload_n dX12_time_0 rfl ?_
  refine X_cVv dX12_time_1 ck_X12_295 rfl rfl (by first | assumption | rfl) (by first | assumption | exact Nat.le_of_ble_eq_true rfl | omega) (by omega) (Nat.le_of_ble_eq_true rfl) (m_findBehind (by omega) hi.2.1.rc hv.2.1.1 (fun I1 f1 hB => ?_))
  have hi1 := RInv_fm hi f1 (by decide) (by decide)
  refine X_aload_n dX12_time_4 rfl ?_
  refine X_cVv dX12_time_5 ck_X12_303 rfl rfl (by first | assumption | rfl) (by first | assumption | exact Nat.le_of_ble_eq_true rfl | omega) (by omega) (Nat.le_of_ble_eq_true rfl) (m_layOrder hi1.2.1.1 hn (fun I2 f2 ho => ?_))
  have hi2 := RInv_fm hi1 f2 (by decide) (by decide)
  refine X_aload_n dX12_time_8 rfl ?_
  refine X_cVi dX12_time_9 ck_X12_306 rfl rfl (by first | assumption | rfl) (by first | assumption | exact Nat.le_of_ble_eq_true rfl | omega) (by omega) (Nat.le_of_ble_eq_true rfl) (m_findTicks (S := dS s.2.1) (o := fun k => k) (by omega) hi2.2.1.rc hv.2.1.1 (fun i h => by rw [f2.1 189 (by decide) (by decide), f2.1 190 (by decide) (by decide)]; exact hB i h) hi2.2.1.2.2.2.2.2.2.1 hi2.2.1.2.2.2.2.2.1 hu.1 hu.2.1 (fun j => (dly_ok hv.2.1 j).2) ho (fun k h => h) Lwf_id (fun I3 f3 hT => ?_))
  exact X_iret dX12_time_12 rfl ⟨_, rfl, PM_fm hi [189, 190, 192, 193] [] (((f1.sub (by simp) (by simp)).tr (f2.sub (by simp) (by simp))).tr (f3.sub (by simp) (by simp))) (by decide) (by decide)⟩
end CT
