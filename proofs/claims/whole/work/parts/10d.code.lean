def sp_fault (s : SS) (x : Int32) : Int32 := if x = 0 then flt false s else if x = nI 1 then flt true s else -2
def sp_code (s : SS) : Int32 × SS := if flt false s ≠ -6 then (-5, s) else match fin false s.1.2 s.1.1 p0 0 with
  | none => (-5, s)
  | some p => (nI (pL p).1, ((0, s.1.2), (pL p, s.2.1.2), s.2.2))
def sp_rule (s : SS) : Int32 × SS := if flt true s ≠ -6 then (-5, s) else if 4 ≤ dN s.2.1 then (-4, s) else match fin true s.1.2 s.1.1 p0 0 with
  | none => (-5, s)
  | some p => (nI (dN s.2.1), ((0, s.1.2), (s.2.1.1, s.2.1.2.1, s.2.1.2.2.1, s.2.1.2.2.2.1, dN s.2.1 + 1, up (dR s.2.1) (dN s.2.1) (pL p, pG p)), s.2.2))
section PA
variable {G : GG} {d : Nat} {sw : Bool} {I : Nat → Nat → Int32} {J : Nat → Nat → Int64} {s : SS}
theorem CInv.FP {I' : Nat → Nat → Int32} (hi : CInv I s) (hv : VSt s) (h : FP I I') : CInv I' s := hi.fr hv h.1 (h.2 2 (by decide)) (fun j a b => h.2 j (by simp; omega))
theorem PC_FP {I' : Nat → Nat → Int32} {a : Int32} (hi : CInv I s) (hv : VSt s) (h : FP I I') : PC s a I J a (NC, I', J, layR sw) := PC_mkR (hi.FP hv h) (fun k hk => h.2 k (by unfold keepC at hk; simp; omega))
set_option maxRecDepth 20000 in
theorem C_fault {x : Int32} (hd : 7 ≤ d) (hv : VSt s) (hi : CInv I s) : Y G d zX11_fault [vr 0, vi x] (NC, I, J, layR sw) 0 0 (qi (PC s (sp_fault s x) I J)) := by
  have h0 : x = 0 → X G d zX11_fault 12 [(0, vr 0), (1, vi x)] [] (NC, I, J, layR sw) 0 0 (qi (PC s (sp_fault s x) I J)) := by
    intro h
    subst h
    have e : sp_fault s 0 = flt false s := by unfold sp_fault; rw [if_pos rfl]
    rw [e]
    refine X_aload_n dX11_fault_12 rfl ?_
    refine X_getR dX11_fault_13 gf_X11_12 (by first | assumption | rfl) (by first | assumption | exact Nat.le_of_ble_eq_true rfl | omega) rfl (by first | assumption | rfl) ?_
    refine X_iload_n dX11_fault_16 rfl ?_
    refine X_iconst (v := nI 1) dX11_fault_17 (by decide) ?_
    refine X_icmp_ne (tgt := 25) dX11_fault_18 (by decide) (fun h18 => ?_) (fun h18 => ?_)
    · refine X_iconst (v := nI 0) dX11_fault_25 (by decide) ?_
      refine X_cVi dX11_fault_26 ck_X11_102 rfl rfl (by first | assumption | rfl) (by first | assumption | exact Nat.le_of_ble_eq_true rfl | omega) (by omega) (Nat.le_of_ble_eq_true rfl) (c_parse (rule := false) (by omega) hi.1.1 hv.1 hi.1.2 (fun _ I' f => ?_) (fun p q1 q2 q3 q4 I' c f => ?_))
      · exact X_iret dX11_fault_29 rfl ⟨_, rfl, PC_FP hi hv f⟩
      · rw [show flt false s = -6 from q3]
        exact X_iret dX11_fault_29 rfl ⟨_, rfl, PC_FP hi hv f⟩
    · exact absurd h18 (by decide)
  have h1 : x = nI 1 → X G d zX11_fault 12 [(0, vr 0), (1, vi x)] [] (NC, I, J, layR sw) 0 0 (qi (PC s (sp_fault s x) I J)) := by
    intro h
    subst h
    have e : sp_fault s (nI 1) = flt true s := by unfold sp_fault; rw [if_neg (by decide), if_pos rfl]
    rw [e]
    refine X_aload_n dX11_fault_12 rfl ?_
    refine X_getR dX11_fault_13 gf_X11_12 (by first | assumption | rfl) (by first | assumption | exact Nat.le_of_ble_eq_true rfl | omega) rfl (by first | assumption | rfl) ?_
    refine X_iload_n dX11_fault_16 rfl ?_
    refine X_iconst (v := nI 1) dX11_fault_17 (by decide) ?_
    refine X_icmp_ne (tgt := 25) dX11_fault_18 (by decide) (fun h18 => ?_) (fun h18 => ?_)
    · exact absurd rfl h18
    refine X_iconst (v := nI 1) dX11_fault_21 (by decide) ?_
    refine X_goto (tgt := 26) dX11_fault_22 (by decide) ?_
    refine X_cVi dX11_fault_26 ck_X11_102 rfl rfl (by first | assumption | rfl) (by first | assumption | exact Nat.le_of_ble_eq_true rfl | omega) (by omega) (Nat.le_of_ble_eq_true rfl) (c_parse (rule := true) (by omega) hi.1.1 hv.1 hi.1.2 (fun _ I' f => ?_) (fun p q1 q2 q3 q4 I' c f => ?_))
    · exact X_iret dX11_fault_29 rfl ⟨_, rfl, PC_FP hi hv f⟩
    · rw [show flt true s = -6 from q3]
      exact X_iret dX11_fault_29 rfl ⟨_, rfl, PC_FP hi hv f⟩
  refine Y_of rfl rfl (Nat.le_of_ble_eq_true rfl) rfl ?_
  refine X_iload_n dX11_fault_0 rfl ?_
  refine X_if_eq (tgt := 12) dX11_fault_1 (by decide) (fun b1 => ?_) (fun b1 => ?_)
  · exact h0 b1
  refine X_iload_n dX11_fault_4 rfl ?_
  refine X_iconst (v := nI 1) dX11_fault_5 (by decide) ?_
  refine X_icmp_eq (tgt := 12) dX11_fault_6 (by decide) (fun b6 => ?_) (fun b6 => ?_)
  · exact h1 b6
  · have e : sp_fault s x = -2 := by unfold sp_fault; rw [if_neg b1, if_neg b6]
    rw [e]
    refine X_bipush (v := (-2)) dX11_fault_9 (by decide) ?_
    exact X_iret dX11_fault_11 rfl ⟨_, rfl, PC_same hi⟩
set_option maxRecDepth 20000 in
theorem C_code (hd : 7 ≤ d) (hv : VSt s) (hi : CInv I s) : Y G d zX11_code [vr 0] (NC, I, J, layR sw) 0 0 (qi (PC (sp_code s).2 (sp_code s).1 I J)) := by
  refine Y_of rfl rfl (Nat.le_of_ble_eq_true rfl) rfl ?_
  refine X_aload_n dX11_code_0 rfl ?_
  refine X_getR dX11_code_1 gf_X11_12 (by first | assumption | rfl) (by first | assumption | exact Nat.le_of_ble_eq_true rfl | omega) rfl (by first | assumption | rfl) ?_
  refine X_iconst (v := nI 0) dX11_code_4 (by decide) ?_
  refine X_cVi dX11_code_5 ck_X11_102 rfl rfl (by first | assumption | rfl) (by first | assumption | exact Nat.le_of_ble_eq_true rfl | omega) (by omega) (Nat.le_of_ble_eq_true rfl) (c_parse (rule := false) (by omega) hi.1.1 hv.1 hi.1.2 (fun q I' f => ?_) (fun p q1 q2 q3 q4 I' c f => ?_))
  · have e : sp_code s = (-5, s) := by unfold sp_code; exact if_pos q
    rw [e]
    refine X_bipush (v := (-6)) dX11_code_8 (by decide) ?_
    refine X_icmp_eq (tgt := 16) dX11_code_10 (by decide) (fun h10 => ?_) (fun h10 => ?_)
    · exact absurd h10 q
    refine X_bipush (v := (-5)) dX11_code_13 (by decide) ?_
    exact X_iret dX11_code_15 rfl ⟨_, rfl, PC_FP hi hv f⟩
  · have e : sp_code s = (nI (pL p).1, ((0, s.1.2), (pL p, s.2.1.2), s.2.2)) := by unfold sp_code; rw [if_neg (fun h => h q3), q1]
    rw [e]
    have hi2 := hi.FP hv f
    refine X_bipush (v := (-6)) dX11_code_8 (by decide) ?_
    refine X_icmp_eq (tgt := 16) dX11_code_10 (by decide) (fun h10 => ?_) (fun h10 => ?_)
    · refine X_aload_n dX11_code_16 rfl ?_
      refine X_getR dX11_code_17 gf_X11_19 (by first | assumption | rfl) (by first | assumption | exact Nat.le_of_ble_eq_true rfl | omega) rfl (by first | assumption | rfl) ?_
      refine X_getR dX11_code_20 gf_X11_106 (by first | assumption | rfl) (by first | assumption | exact Nat.le_of_ble_eq_true rfl | omega) rfl (by first | assumption | rfl) ?_
      refine X_aload_n dX11_code_23 rfl ?_
      refine X_getR dX11_code_24 gf_X11_12 (by first | assumption | rfl) (by first | assumption | exact Nat.le_of_ble_eq_true rfl | omega) rfl (by first | assumption | rfl) ?_
      refine X_getR dX11_code_27 gf_X11_109 (by first | assumption | rfl) (by first | assumption | exact Nat.le_of_ble_eq_true rfl | omega) rfl (by first | assumption | rfl) ?_
      refine X_cVv dX11_code_30 ck_X11_112 rfl rfl (by first | assumption | rfl) (by first | assumption | exact Nat.le_of_ble_eq_true rfl | omega) (by omega) (Nat.le_of_ble_eq_true rfl) (c_copy0 (by omega) cd8 cd3 (by decide) (fun I2 f2 g1 g2 => ?_))
      refine X_aload_n dX11_code_33 rfl ?_
      refine X_getR dX11_code_34 gf_X11_12 (by first | assumption | rfl) (by first | assumption | exact Nat.le_of_ble_eq_true rfl | omega) rfl (by first | assumption | rfl) ?_
      refine X_cVi dX11_code_37 ck_X11_98 rfl rfl (by first | assumption | rfl) (by first | assumption | exact Nat.le_of_ble_eq_true rfl | omega) (by omega) (Nat.le_of_ble_eq_true rfl) (c_empty ?_)
      refine X_pop dX11_code_40 rfl ?_
      refine X_aload_n dX11_code_41 rfl ?_
      refine X_getR dX11_code_42 gf_X11_19 (by first | assumption | rfl) (by first | assumption | exact Nat.le_of_ble_eq_true rfl | omega) rfl (by first | assumption | rfl) ?_
      refine X_getR dX11_code_45 gf_X11_106 (by first | assumption | rfl) (by first | assumption | exact Nat.le_of_ble_eq_true rfl | omega) rfl (by first | assumption | rfl) ?_
      refine X_getI dX11_code_48 gf_X11_116 (by first | assumption | rfl) (by first | assumption | exact Nat.le_of_ble_eq_true rfl | omega) rfl ?_
      rw [sr_ne (show 8 ≠ 1 by decide), g1, c.2.2.2.2.2.2.1.1]
      refine X_iret dX11_code_51 rfl ⟨_, rfl, PC_mkR ⟨⟨?_, fun i hi3 => absurd hi3 (Nat.not_lt_zero i)⟩, ?_, ?_⟩ (fun k hk => ?_)⟩
      · rw [sr_eq, up_eq]
      · obtain ⟨k1, k2, k3, k4, k5, k6⟩ := hi2.2.1
        have hN := hv.2.1.2.2.2.2.1
        refine ⟨(CR_copy c.2.2.2.2.2.2.1 q4.2.1.1 g1 g2).fr (by rw [sr_ne (by decide)]) (by rw [sr_ne (by decide)]), k2.fr (by rw [sr_ne (by decide), f2 _ (by decide)]) (by rw [sr_ne (by decide), f2 _ (by decide)]), by rw [sr_ne (by decide), f2 _ (by decide)]; exact k3, fun j hj => by rw [sr_ne (by decide), f2 _ (by decide)]; exact k4 j hj, by rw [sr_ne (by decide), f2 _ (by decide)]; exact k5, fun j hj => ⟨(k6 j hj).1.fr (by rw [sr_ne (by omega), f2 _ (by simp; omega)]) (by rw [sr_ne (by omega), f2 _ (by simp; omega)]), (k6 j hj).2.fr (by rw [sr_ne (by omega), f2 _ (by simp; omega)]) (by rw [sr_ne (by omega), f2 _ (by simp; omega)])⟩⟩
      · exact hi2.2.2.fr hv (fun j a b => by rw [sr_ne (by omega), f2 j (by simp; omega)])
      · unfold keepC at hk
        rw [sr_ne (by omega), f2 k (by simp; omega), f.2 k (by simp; omega)]
    · exact absurd rfl h10
theorem ru7 {j : Nat} (hj : j < 4) : IsRu (14 + 6 * j) := dk7.2.2.2.2.2.2.2.2.2.2.1 j hj
set_option maxRecDepth 20000 in
set_option maxHeartbeats 4000000 in
theorem C_rule (hd : 7 ≤ d) (hv : VSt s) (hi : CInv I s) : Y G d zX11_rule [vr 0] (NC, I, J, layR sw) 0 0 (qi (PC (sp_rule s).2 (sp_rule s).1 I J)) := by
  refine Y_of rfl rfl (Nat.le_of_ble_eq_true rfl) rfl ?_
  refine X_aload_n dX11_rule_0 rfl ?_
  refine X_getR dX11_rule_1 gf_X11_12 (by first | assumption | rfl) (by first | assumption | exact Nat.le_of_ble_eq_true rfl | omega) rfl (by first | assumption | rfl) ?_
  refine X_iconst (v := nI 1) dX11_rule_4 (by decide) ?_
  refine X_cVi dX11_rule_5 ck_X11_102 rfl rfl (by first | assumption | rfl) (by first | assumption | exact Nat.le_of_ble_eq_true rfl | omega) (by omega) (Nat.le_of_ble_eq_true rfl) (c_parse (rule := true) (by omega) hi.1.1 hv.1 hi.1.2 (fun q I' f => ?_) (fun p q1 q2 q3 q4 I' c f => ?_))
  · have e : sp_rule s = (-5, s) := by unfold sp_rule; exact if_pos q
    rw [e]
    refine X_bipush (v := (-6)) dX11_rule_8 (by decide) ?_
    refine X_icmp_eq (tgt := 16) dX11_rule_10 (by decide) (fun h10 => ?_) (fun h10 => ?_)
    · exact absurd h10 q
    refine X_bipush (v := (-5)) dX11_rule_13 (by decide) ?_
    exact X_iret dX11_rule_15 rfl ⟨_, rfl, PC_FP hi hv f⟩
  · have hi2 := hi.FP hv f
    have hN := hv.2.1.2.2.2.2.1
    obtain ⟨k1, k2, k3, k4, k5, k6⟩ := hi2.2.1
    refine X_bipush (v := (-6)) dX11_rule_8 (by decide) ?_
    refine X_icmp_eq (tgt := 16) dX11_rule_10 (by decide) (fun h10 => ?_) (fun h10 => ?_)
    · refine X_aload_n dX11_rule_16 rfl ?_
      refine X_getR dX11_rule_17 gf_X11_19 (by first | assumption | rfl) (by first | assumption | exact Nat.le_of_ble_eq_true rfl | omega) rfl (by first | assumption | rfl) ?_
      refine X_getI dX11_rule_20 gf_X11_237 (by first | assumption | rfl) (by first | assumption | exact Nat.le_of_ble_eq_true rfl | omega) rfl ?_
      rw [k5]
      refine X_iconst (v := nI 4) dX11_rule_23 (by decide) ?_
      refine X_icmp_lt (tgt := 30) dX11_rule_24 (by decide) (fun h24 => ?_) (fun h24 => ?_)
      · have h24 : dN s.2.1 < 4 := (nlt (by omega) (by omega)).mp h24
        have e : sp_rule s = (nI (dN s.2.1), ((0, s.1.2), (s.2.1.1, s.2.1.2.1, s.2.1.2.2.1, s.2.1.2.2.2.1, dN s.2.1 + 1, up (dR s.2.1) (dN s.2.1) (pL p, pG p)), s.2.2)) := by unfold sp_rule; rw [if_neg (fun h => h q3), if_neg (by omega), q1]
        rw [e]
        have hl := dk7.2.2.2.2.2.2.2.1 sw (dN s.2.1) h24
        have hl : layR sw 12 (dN s.2.1) = some (14 + 6 * dN s.2.1) := hl
        have hr := ru7 h24
        have hs := hr.1
        have hkN : 14 + 6 * dN s.2.1 < NC := show 14 + 6 * dN s.2.1 < 206 by omega
        refine X_aload_n dX11_rule_30 rfl ?_
        refine X_getR dX11_rule_31 gf_X11_19 (by first | assumption | rfl) (by first | assumption | exact Nat.le_of_ble_eq_true rfl | omega) rfl (by first | assumption | rfl) ?_
        refine X_getR dX11_rule_34 gf_X11_240 (by first | assumption | rfl) (by first | assumption | exact Nat.le_of_ble_eq_true rfl | omega) rfl (by first | assumption | rfl) ?_
        refine X_aload_n dX11_rule_37 rfl ?_
        refine X_getR dX11_rule_38 gf_X11_19 (by first | assumption | rfl) (by first | assumption | exact Nat.le_of_ble_eq_true rfl | omega) rfl (by first | assumption | rfl) ?_
        refine X_getI dX11_rule_41 gf_X11_237 (by first | assumption | rfl) (by first | assumption | exact Nat.le_of_ble_eq_true rfl | omega) rfl ?_
        rw [k5]
        refine X_aald dX11_rule_44 (by first | assumption | rfl) (by decide) (by first | assumption | exact Nat.le_of_ble_eq_true rfl | omega) rfl (by first | decide | omega) (by decide) (by first | assumption | rfl) ?_
        refine X_aload_n dX11_rule_45 rfl ?_
        refine X_getR dX11_rule_46 gf_X11_12 (by first | assumption | rfl) (by first | assumption | exact Nat.le_of_ble_eq_true rfl | omega) rfl (by first | assumption | rfl) ?_
        refine X_getR dX11_rule_49 gf_X11_109 (by first | assumption | rfl) (by first | assumption | exact Nat.le_of_ble_eq_true rfl | omega) rfl (by first | assumption | rfl) ?_
        refine X_aload_n dX11_rule_52 rfl ?_
        refine X_getR dX11_rule_53 gf_X11_12 (by first | assumption | rfl) (by first | assumption | exact Nat.le_of_ble_eq_true rfl | omega) rfl (by first | assumption | rfl) ?_
        refine X_getR dX11_rule_56 gf_X11_244 (by first | assumption | rfl) (by first | assumption | exact Nat.le_of_ble_eq_true rfl | omega) rfl (by first | assumption | rfl) ?_
        refine X_cVv dX11_rule_59 ck_X11_247 rfl rfl (by first | assumption | rfl) (by first | assumption | exact Nat.le_of_ble_eq_true rfl | omega) (by omega) (Nat.le_of_ble_eq_true rfl) (c_copySides (by omega) hr cd3 cd5 (by omega) (by omega) (fun I2 f2 g1 g2 => ?_))
        refine X_aload_n dX11_rule_62 rfl ?_
        refine X_getR dX11_rule_63 gf_X11_12 (by first | assumption | rfl) (by first | assumption | exact Nat.le_of_ble_eq_true rfl | omega) rfl (by first | assumption | rfl) ?_
        refine X_cVi dX11_rule_66 ck_X11_98 rfl rfl (by first | assumption | rfl) (by first | assumption | exact Nat.le_of_ble_eq_true rfl | omega) (by omega) (Nat.le_of_ble_eq_true rfl) (c_empty ?_)
        refine X_pop dX11_rule_69 rfl ?_
        refine X_aload_n dX11_rule_70 rfl ?_
        refine X_getR dX11_rule_71 gf_X11_19 (by first | assumption | rfl) (by first | assumption | exact Nat.le_of_ble_eq_true rfl | omega) rfl (by first | assumption | rfl) ?_
        refine X_dup dX11_rule_74 rfl ?_
        refine X_getI dX11_rule_75 gf_X11_237 (by first | assumption | rfl) (by first | assumption | exact Nat.le_of_ble_eq_true rfl | omega) rfl ?_
        rw [sr_ne (show 7 ≠ 1 by decide), f2 7 (by simp; omega), k5]
        refine X_dup_x1 dX11_rule_78 rfl rfl ?_
        refine X_iconst (v := nI 1) dX11_rule_79 (by decide) ?_
        first | refine X_iaddN dX11_rule_80 ?_ | refine X_iadd dX11_rule_80 ?_
        refine X_putI dX11_rule_81 gf_X11_237 (Or.inl rfl) (by first | assumption | rfl) (by first | assumption | exact Nat.le_of_ble_eq_true rfl | omega) rfl ?_
        refine X_iret dX11_rule_84 rfl ⟨_, rfl, PC_mkR ⟨⟨?_, fun i hi3 => absurd hi3 (Nat.not_lt_zero i)⟩, ?_, ?_⟩ (fun k hk => ?_)⟩
        · rw [sr_ne (by decide), sr_eq, up_eq]
        · refine ⟨k1.fr (by rw [sr_ne (by decide), sr_ne (by decide), f2 _ (by simp; omega)]) (by rw [sr_ne (by decide), sr_ne (by decide), f2 _ (by simp; omega)]), k2.fr (by rw [sr_ne (by decide), sr_ne (by decide), f2 _ (by simp; omega)]) (by rw [sr_ne (by decide), sr_ne (by decide), f2 _ (by simp; omega)]), by rw [sr_eq, up_ne (by decide), sr_ne (by decide), f2 7 (by simp; omega)]; exact k3, fun j hj => by rw [sr_ne (by decide), sr_ne (by decide), f2 _ (by simp; omega)]; exact k4 j hj, by rw [sr_eq, up_eq], fun j hj => ?_⟩
          show CR _ (15 + 6 * j) (up (dR s.2.1) (dN s.2.1) (pL p, pG p) j).1.1 (up (dR s.2.1) (dN s.2.1) (pL p, pG p) j).1.2 ∧ CR _ (17 + 6 * j) (up (dR s.2.1) (dN s.2.1) (pL p, pG p) j).2.1 (up (dR s.2.1) (dN s.2.1) (pL p, pG p) j).2.2
          by_cases hje : j = dN s.2.1
          · subst hje
            rw [up_eq]
            have c1 := CR_copy c.2.2.2.2.2.2.1 q4.2.1.1 g1.1 g1.2
            have c2 := CR_copy c.2.2.2.2.2.2.2 q4.2.2.1.1 g2.1 g2.2
            rw [show 15 + 6 * dN s.2.1 = 14 + 6 * dN s.2.1 + 1 by omega, show 17 + 6 * dN s.2.1 = 14 + 6 * dN s.2.1 + 3 by omega]
            exact ⟨c1.fr (by rw [sr_ne (by omega), sr_ne (by omega)]) (by rw [sr_ne (by omega), sr_ne (by omega)]), c2.fr (by rw [sr_ne (by omega), sr_ne (by omega)]) (by rw [sr_ne (by omega), sr_ne (by omega)])⟩
          · rw [up_ne hje]
            have hj2 : j < dN s.2.1 := by
              have : j < dN s.2.1 + 1 := hj
              omega
            obtain ⟨z1, z2⟩ := k6 j hj2
            exact ⟨z1.fr (by rw [sr_ne (by omega), sr_ne (by omega), f2 _ (by simp; omega)]) (by rw [sr_ne (by omega), sr_ne (by omega), f2 _ (by simp; omega)]), z2.fr (by rw [sr_ne (by omega), sr_ne (by omega), f2 _ (by simp; omega)]) (by rw [sr_ne (by omega), sr_ne (by omega), f2 _ (by simp; omega)])⟩
        · exact hi2.2.2.fr hv (fun j a b => by rw [sr_ne (by omega), sr_ne (by omega), f2 j (by simp; omega)])
        · unfold keepC at hk
          rw [sr_ne (by omega), sr_ne (by omega), f2 k (by simp; omega), f.2 k (by simp; omega)]
      · have h24 : 4 ≤ dN s.2.1 := by
          rcases Nat.lt_or_ge (dN s.2.1) 4 with z | z
          · exact absurd ((nlt (by omega) (by omega)).mpr z) h24
          · exact z
        have e : sp_rule s = (-4, s) := by unfold sp_rule; rw [if_neg (fun h => h q3), if_pos h24]
        rw [e]
        refine X_bipush (v := (-4)) dX11_rule_27 (by decide) ?_
        exact X_iret dX11_rule_29 rfl ⟨_, rfl, PC_FP hi hv f⟩
    · exact absurd rfl h10
end PA
