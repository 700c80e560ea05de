/-! the search itself -/
def SF (o : Nat → Nat) (dep : Nat) : Nat → Nat := fun n => lay o dep (n % 64)
theorem SF_lt (o : Nat → Nat) (dep n : Nat) : SF o dep n < 64 := lay_lt (Nat.mod_lt _ (by decide)) dep
theorem SF_at {o : Nat → Nat} {dep n : Nat} (h : n < 64) : SF o dep n = lay o dep n := by unfold SF; rw [Nat.mod_eq_of_lt h]
theorem f1o_opd {to m : Nat} (ht : to < 2) (hm : m < 17) : opd (f1o to (mvN m)) ∧ opd (f2o (mvN m)) := by
  obtain ⟨a, b⟩ := mv_3 to ht m hm
  unfold opd
  omega
section CR
variable {G : GG} {d : Nat} {sw : Bool} {I : Nat → Nat → Int32} {J : Nat → Nat → Int64} {s : SS} {W : Nat} {V : Nat → Nat → Nat}
set_option maxRecDepth 20000 in
set_option maxHeartbeats 1000000 in
theorem c_rbHead {Q : Int32 → Mm → Prop} {dep most to m : Nat} {o : Nat → Nat} (hd : 4 ≤ d) (hdep : dep < 3) (ht : to < 2) (hm : m < 17) (hB : BR J (161 + 2 * dep) (fun n => vec (SF o dep n))) (go : ∀ I1 J1, FI dep I I1 → I1 160 dep = nI (Tn (26 * to + rsM m)) → Fr [161 + 2 * dep] J J1 → BV (J1 (161 + 2 * dep) 1) (J1 (161 + 2 * dep) 2) (J1 (161 + 2 * dep) 3) (fun n => kval (26 * to + rsM m) (SF o dep n)) → ∀ x6 x7 x8 : Int32, X G d zX10_reachesBy 126 [(0, vr 152), (1, vi (nI dep)), (2, vi (nI most)), (3, vi (nI to)), (4, vi (nI (mvN m))), (5, vr (161 + 2 * dep)), (6, vi x6), (7, vi x7), (8, vi x8)] [] (NC, I1, J1, layR sw) 0 0 (qi Q)) : Y G d zX10_reachesBy [vr 152, vi (nI dep), vi (nI most), vi (nI to), vi (nI (mvN m))] (NC, I, J, layR sw) 0 0 (qi Q) := by
  have hl := lay159 (sw := sw) hdep
  have hrw := rw161 hdep
  obtain ⟨hs, hs', hr', hkn⟩ := hrw
  have hrw := rw161 hdep
  have hk0 : 161 + 2 * dep < NC := by omega
  obtain ⟨q1, q2, q3, q4⟩ := mv_1 to ht m hm
  have qT := mv_2 to ht m hm
  obtain ⟨o1, o2⟩ := f1o_opd ht hm
  have hmv := (mvN_is m hm).2
  have hval := mv_val to ht m hm
  have hac := mv_5 m hm
  generalize 26 * to + rsM m = K at go q1 q2 q3 qT hval
  generalize hmvE : mvN m = mv at *
  have hf1 : f1o to mv ≠ 99 ∧ f1o to mv < 200 := by unfold opd at o1; omega
  have hf2 : f2o mv ≠ 99 ∧ f2o mv < 200 := by unfold opd at o2; omega
  have t124 : ∀ (J1 : Nat → Nat → Int64), Fr [161 + 2 * dep] J J1 → BV (J1 (161 + 2 * dep) 1) (J1 (161 + 2 * dep) 2) (J1 (161 + 2 * dep) 3) (fun n => kval K (SF o dep n)) → ∀ e, e = (if mv / 100 = 1 then 10 * f1o to mv else 0) → X G d zX10_reachesBy 124 [(0, vr 152), (1, vi (nI dep)), (2, vi (nI most)), (3, vi (nI to)), (4, vi (nI mv)), (5, vr (161 + 2 * dep)), (6, vi (nI (mv / 100))), (7, vi (nI (f1o to mv))), (8, vi (nI (f2o mv)))] [vi (nI e), vi (nI (1000 * to + mv)), vi (nI dep), vr 160] (NC, I, J1, layR sw) 0 0 (qi Q) := by
    intro J1 f1 b1 e he
    first | refine X_iaddN dX10_reachesBy_124 ?_ | refine X_iadd dX10_reachesBy_124 ?_
    refine X_iast dX10_reachesBy_125 (by first | assumption | rfl) (by first | assumption | exact Nat.le_of_ble_eq_true rfl | omega) rfl (by first | decide | omega) (by decide) ?_
    rw [he, ← qT]
    exact go _ J1 ⟨Fr.sr (by simp), fun j hj => by rw [sr_eq, up_ne (by omega)]⟩ (by rw [sr_eq, up_eq]) f1 b1 _ _ _
  have t89 : ∀ a, a = sgo mv → X G d zX10_reachesBy 89 [(0, vr 152), (1, vi (nI dep)), (2, vi (nI most)), (3, vi (nI to)), (4, vi (nI mv)), (5, vr (161 + 2 * dep)), (6, vi (nI (mv / 100))), (7, vi (nI (f1o to mv))), (8, vi (nI (f2o mv)))] [vi (enc a), vr (161 + 2 * dep)] (NC, I, J, layR sw) 0 0 (qi Q) := by
    intro a ha
    have haa : a = 99 ∨ iact a := by
      rw [ha]
      unfold sgo
      split
      · exact Or.inl rfl
      · right
        unfold sgn iact
        split
        · exact Or.inl rfl
        · split
          · exact Or.inr (Or.inl rfl)
          · split
            · exact Or.inr (Or.inr (Or.inl rfl))
            · exact Or.inr (Or.inr (Or.inr rfl))
    refine X_iload dX10_reachesBy_89 rfl ?_
    refine X_iload dX10_reachesBy_91 rfl ?_
    rw [← enc_n hf1.1, ← enc_n hf2.1]
    refine X_cVv dX10_reachesBy_93 ck_X10_72 rfl rfl (by first | assumption | rfl) (by first | assumption | exact Nat.le_of_ble_eq_true rfl | omega) (by omega) (Nat.le_of_ble_eq_true rfl) (c_make (by omega) haa hrw (Or.inl o1) (Or.inl o2) hB (fun j => vec8 (SF_lt o dep j)) (fun J1 f1 b1 => ?_))
    have b2 : BV (J1 (161 + 2 * dep) 1) (J1 (161 + 2 * dep) 2) (J1 (161 + 2 * dep) 3) (fun n => kval K (SF o dep n)) := fun j hj => by
      have := b1 j hj
      dsimp only at this
      rw [ha, hval _ (SF_lt o dep j)] at this
      exact this
    rw [enc_n hf1.1, enc_n hf2.1]
    refine X_aload_n dX10_reachesBy_96 rfl ?_
    refine X_getR dX10_reachesBy_97 gf_X10_28 (by first | assumption | rfl) (by first | assumption | exact Nat.le_of_ble_eq_true rfl | omega) rfl (by first | assumption | rfl) ?_
    refine X_iload_n dX10_reachesBy_100 rfl ?_
    refine X_sipush (v := nI 1000) dX10_reachesBy_101 (by decide) ?_
    refine X_iload_n dX10_reachesBy_104 rfl ?_
    first | refine X_imulN dX10_reachesBy_105 ?_ | refine X_imul dX10_reachesBy_105 ?_
    refine X_iload dX10_reachesBy_106 rfl ?_
    first | refine X_iaddN dX10_reachesBy_108 ?_ | refine X_iadd dX10_reachesBy_108 ?_
    refine X_iload dX10_reachesBy_109 rfl ?_
    refine X_iconst (v := nI 1) dX10_reachesBy_111 (by decide) ?_
    by_cases h1 : mv / 100 = 1
    · refine X_icmp_ne (tgt := 123) dX10_reachesBy_112 (by decide) (fun b112 => ?_) (fun b112 => ?_)
      · exact absurd (by rw [h1]) b112
      refine X_bipush (v := nI 10) dX10_reachesBy_115 (by decide) ?_
      refine X_iload dX10_reachesBy_117 rfl ?_
      first | refine X_imulN dX10_reachesBy_119 ?_ | refine X_imul dX10_reachesBy_119 ?_
      refine X_goto (tgt := 124) dX10_reachesBy_120 (by decide) ?_
      exact t124 J1 f1 b2 _ (if_pos h1).symm
    · refine X_icmp_ne (tgt := 123) dX10_reachesBy_112 (by decide) (fun b112 => ?_) (fun b112 => ?_)
      · refine X_iconst (v := nI 0) dX10_reachesBy_123 (by decide) ?_
        exact t124 J1 f1 b2 0 (if_neg h1).symm
      · exact absurd ((neq (by omega) (by omega)).mp b112) h1
  have t66 : X G d zX10_reachesBy 66 [(0, vr 152), (1, vi (nI dep)), (2, vi (nI most)), (3, vi (nI to)), (4, vi (nI mv)), (5, vr (161 + 2 * dep)), (6, vi (nI (mv / 100))), (7, vi (nI (f1o to mv)))] [vi (nI (f2o mv))] (NC, I, J, layR sw) 0 0 (qi Q) := by
    refine X_istore dX10_reachesBy_66 rfl rfl ?_
    refine X_aload dX10_reachesBy_68 rfl ?_
    refine X_iload dX10_reachesBy_70 rfl ?_
    refine X_iconst (v := nI 2) dX10_reachesBy_72 (by decide) ?_
    by_cases h2 : mv / 100 < 2
    · refine X_icmp_ge (tgt := 81) dX10_reachesBy_73 (by decide) (fun b73 => ?_) (fun b73 => ?_)
      · exact absurd ((nle (by omega) (by omega)).mp b73) (by omega)
      refine X_bipush (v := (-6)) dX10_reachesBy_76 (by decide) ?_
      refine X_goto (tgt := 89) dX10_reachesBy_78 (by decide) ?_
      exact t89 99 (if_pos h2).symm
    · refine X_icmp_ge (tgt := 81) dX10_reachesBy_73 (by decide) (fun b73 => ?_) (fun b73 => ?_)
      · refine X_gets dX10_reachesBy_81 gs_X10_69 hzA ?_
        refine X_iload dX10_reachesBy_84 rfl ?_
        refine X_iconst (v := nI 2) dX10_reachesBy_86 (by decide) ?_
        first | refine X_isubN dX10_reachesBy_87 (by omega) ?_ | refine X_isub dX10_reachesBy_87 ?_
        refine X_ildA dX10_reachesBy_88 rfl (by omega) ?_
        rw [hac.resolve_left h2]
        exact t89 _ (if_neg h2).symm
      · exact absurd ((nle (by omega) (by omega)).mpr (by omega)) b73
  have t45 : X G d zX10_reachesBy 45 [(0, vr 152), (1, vi (nI dep)), (2, vi (nI most)), (3, vi (nI to)), (4, vi (nI mv)), (5, vr (161 + 2 * dep)), (6, vi (nI (mv / 100)))] [vi (nI (f1o to mv))] (NC, I, J, layR sw) 0 0 (qi Q) := by
    refine X_istore dX10_reachesBy_45 rfl rfl ?_
    refine X_iload dX10_reachesBy_47 rfl ?_
    refine X_bipush (v := nI 10) dX10_reachesBy_49 (by decide) ?_
    refine X_irem dX10_reachesBy_51 (by decide) ?_
    rw [pk_rem (by omega) (by decide) (by decide)]
    refine X_iconst (v := nI 2) dX10_reachesBy_52 (by decide) ?_
    by_cases h2 : mv % 10 = 2
    · rw [show f2o mv = 11 from if_pos h2] at t66
      refine X_icmp_ne (tgt := 61) dX10_reachesBy_53 (by decide) (fun b53 => ?_) (fun b53 => ?_)
      · exact absurd (by rw [h2]) b53
      refine X_bipush (v := nI 11) dX10_reachesBy_56 (by decide) ?_
      refine X_goto (tgt := 66) dX10_reachesBy_58 (by decide) ?_
      exact t66
    · rw [show f2o mv = mv % 10 from if_neg h2] at t66
      refine X_icmp_ne (tgt := 61) dX10_reachesBy_53 (by decide) (fun b53 => ?_) (fun b53 => ?_)
      · refine X_iload dX10_reachesBy_61 rfl ?_
        refine X_bipush (v := nI 10) dX10_reachesBy_63 (by decide) ?_
        refine X_irem dX10_reachesBy_65 (by decide) ?_
        rw [pk_rem (by omega) (by decide) (by decide)]
        exact t66
      · exact absurd ((neq (by omega) (by omega)).mp b53) h2
  refine Y_of rfl rfl (Nat.le_of_ble_eq_true rfl) rfl ?_
  refine X_aload_n dX10_reachesBy_0 rfl ?_
  refine X_getR dX10_reachesBy_1 gf_X10_24 (by first | assumption | rfl) (by first | assumption | exact Nat.le_of_ble_eq_true rfl | omega) rfl (by first | assumption | rfl) ?_
  refine X_iload_n dX10_reachesBy_4 rfl ?_
  refine X_aald dX10_reachesBy_5 (by first | assumption | rfl) (by decide) (by first | assumption | exact Nat.le_of_ble_eq_true rfl | omega) rfl (by first | decide | omega) (by decide) (by first | assumption | rfl) ?_
  refine X_astore dX10_reachesBy_6 rfl rfl ?_
  refine X_iload dX10_reachesBy_8 rfl ?_
  refine X_bipush (v := nI 100) dX10_reachesBy_10 (by decide) ?_
  refine X_idiv dX10_reachesBy_12 (by decide) ?_
  rw [pk_div (by omega) (by decide) (by decide)]
  refine X_istore dX10_reachesBy_13 rfl rfl ?_
  refine X_iload dX10_reachesBy_15 rfl ?_
  by_cases h0 : mv / 100 = 0
  · rw [show f1o to mv = 10 from if_pos h0] at t45
    refine X_if_ne (tgt := 25) dX10_reachesBy_17 (by decide) (fun b17 => ?_) (fun b17 => ?_)
    · exact absurd (by rw [h0]; rfl) b17
    refine X_bipush (v := nI 10) dX10_reachesBy_20 (by decide) ?_
    refine X_goto (tgt := 45) dX10_reachesBy_22 (by decide) ?_
    exact t45
  · refine X_if_ne (tgt := 25) dX10_reachesBy_17 (by decide) (fun b17 => ?_) (fun b17 => ?_)
    · refine X_iload dX10_reachesBy_25 rfl ?_
      refine X_iconst (v := nI 1) dX10_reachesBy_27 (by decide) ?_
      by_cases h1 : mv / 100 = 1
      · rw [show f1o to mv = 1 - to by unfold f1o; rw [if_neg h0, if_pos h1]] at t45
        refine X_icmp_ne (tgt := 37) dX10_reachesBy_28 (by decide) (fun b28 => ?_) (fun b28 => ?_)
        · exact absurd (by rw [h1]) b28
        refine X_iconst (v := nI 1) dX10_reachesBy_31 (by decide) ?_
        refine X_iload_n dX10_reachesBy_32 rfl ?_
        first | refine X_isubN dX10_reachesBy_33 (by omega) ?_ | refine X_isub dX10_reachesBy_33 ?_
        refine X_goto (tgt := 45) dX10_reachesBy_34 (by decide) ?_
        exact t45
      · rw [show f1o to mv = mv / 10 % 10 by unfold f1o; rw [if_neg h0, if_neg h1]] at t45
        refine X_icmp_ne (tgt := 37) dX10_reachesBy_28 (by decide) (fun b28 => ?_) (fun b28 => ?_)
        · refine X_iload dX10_reachesBy_37 rfl ?_
          refine X_bipush (v := nI 10) dX10_reachesBy_39 (by decide) ?_
          refine X_idiv dX10_reachesBy_41 (by decide) ?_
          rw [pk_div (by omega) (by decide) (by decide)]
          refine X_bipush (v := nI 10) dX10_reachesBy_42 (by decide) ?_
          refine X_irem dX10_reachesBy_44 (by decide) ?_
          rw [pk_rem (by omega) (by decide) (by decide)]
          exact t45
        · exact absurd ((neq (by omega) (by omega)).mp b28) h1
    · exact absurd ((neq (b := 0) (by omega) (by decide)).mp b17) h0
theorem FJ_own {J1 : Nat → Nat → Int64} {dep : Nat} (hdep : dep < 3) (h : Fr [161 + 2 * dep] J J1) : FJ dep J J1 := ⟨fun j hj => h j (by simp; omega), fun i hi => h _ (by simp; omega)⟩
set_option maxRecDepth 20000 in
theorem c_rbLast {Q : Int32 → Mm → Prop} {dep to m : Nat} {o : Nat → Nat} (hd : 4 ≤ d) (hdep : dep < 3) (ht : to < 2) (hm : m < 17) (hW : W < 4) (h8 : ∀ n, R8 (V n)) (hC : SC I J W V) (hB : BR J (161 + 2 * dep) (fun n => vec (SF o dep n))) (hWt : W.testBit to = true) (hot : W.testBit (1 - to) = false ∨ ∀ v, v < 64 → dg (SF o dep v) (1 - to) = dg (duV V v) (1 - to)) (hS : ∀ I' J' x, srK W (duV V) 0 o dep (26 * to + rsM m) = some x → FI dep I I' → FJ dep J J' → (∀ j, dep ≤ j → j < dep + 1 → I' 160 j = nI (Tn (x j))) → Q (nI 1) (NC, I', J', layR sw)) (hF : ∀ I' J', srK W (duV V) 0 o dep (26 * to + rsM m) = none → FI dep I I' → FJ dep J J' → Q (nI 0) (NC, I', J', layR sw)) : Y G d zX10_reachesBy [vr 152, vi (nI dep), vi (nI (dep + 1)), vi (nI to), vi (nI (mvN m))] (NC, I, J, layR sw) 0 0 (qi Q) := by
  have hrw := rw161 hdep
  obtain ⟨hs, hs', hr', hkn⟩ := hrw
  have hrw := rw161 hdep
  have hk0 : 161 + 2 * dep < NC := by omega
  obtain ⟨q1, q2, q3, q4⟩ := mv_1 to ht m hm
  refine c_rbHead (o := o) hd hdep ht hm hB (fun I1 J1 fi e1 fj b1 x6 x7 x8 => ?_)
  have fJ := FJ_own hdep fj
  have hC1 := hC.fr fi fJ
  have lst : lst1 W (duV V) o dep (26 * to + rsM m) = true ↔ ∀ v, v < 64 → kval (26 * to + rsM m) (SF o dep v) = V v to := by
    rw [lst1_ex, q2]
    constructor
    · rintro ⟨_, _, h⟩ v hv
      rw [SF_at hv, h v hv, duV_dg h8 ht]
    · intro h
      refine ⟨hWt, hot.elim Or.inl (fun z => Or.inr (fun v hv => by rw [← SF_at hv]; exact z v hv)), fun v hv => ?_⟩
      rw [← SF_at hv, h v hv, duV_dg h8 ht]
  generalize 26 * to + rsM m = K at *
  refine X_iload_n dX10_reachesBy_126 rfl ?_
  refine X_iload_n dX10_reachesBy_127 rfl ?_
  refine X_iconst (v := nI 1) dX10_reachesBy_128 (by decide) ?_
  first | refine X_isubN dX10_reachesBy_129 (by omega) ?_ | refine X_isub dX10_reachesBy_129 ?_
  refine X_icmp_ne (tgt := 144) dX10_reachesBy_130 (by decide) (fun b130 => ?_) (fun b130 => ?_)
  · exact absurd (by rw [Nat.add_sub_cancel]) b130
  refine X_aload dX10_reachesBy_133 rfl ?_
  refine X_iload_n dX10_reachesBy_135 rfl ?_
  refine X_aload_n dX10_reachesBy_136 rfl ?_
  refine X_getR dX10_reachesBy_137 gf_X10_18 (by first | assumption | rfl) (by first | assumption | exact Nat.le_of_ble_eq_true rfl | omega) rfl (by first | assumption | rfl) ?_
  refine X_cVi dX10_reachesBy_140 ck_X10_76 rfl rfl (by first | assumption | rfl) (by first | assumption | exact Nat.le_of_ble_eq_true rfl | omega) (by omega) (Nat.le_of_ble_eq_true rfl) (c_hasMade hrw (by omega) hC1.2 h8 b1 (fun v _ => kval_lt (SF_lt o dep v)) (fun h => ?_) (fun h => ?_))
  · refine X_zret dX10_reachesBy_143 rfl (by first | rfl | decide) ⟨_, rfl, hS I1 J1 (up o dep K) (if_pos (lst.mpr h)) fi fJ (fun j a b => ?_)⟩
    obtain rfl : j = dep := by omega
    rw [up_eq]; exact e1
  · refine X_zret dX10_reachesBy_143 rfl (by first | rfl | decide) ⟨_, rfl, hF I1 J1 (if_neg (fun z => h (lst.mp z))) fi fJ⟩
/-- what a call of reaches does -/
def RchC (G : GG) (sw : Bool) (W : Nat) (V : Nat → Nat → Nat) (r : Nat) : Prop := ∀ (d : Nat) (I : Nat → Nat → Int32) (J : Nat → Nat → Int64) (o : Nat → Nat) (dep : Nat) (Q : Int32 → Mm → Prop), 2 * r + 6 ≤ d → dep + (r + 1) ≤ 3 → SC I J W V → BR J (161 + 2 * dep) (fun n => vec (SF o dep n)) → (∀ I' J' x, srch W (duV V) r o dep = some x → FI dep I I' → FJ dep J J' → (∀ j, dep ≤ j → j < dep + (r + 1) → I' 160 j = nI (Tn (x j))) → Q (nI 1) (NC, I', J', layR sw)) → (∀ I' J', srch W (duV V) r o dep = none → FI dep I I' → FJ dep J J' → Q (nI 0) (NC, I', J', layR sw)) → Y G d zX10_reaches [vr 152, vi (nI dep), vi (nI (dep + (r + 1)))] (NC, I, J, layR sw) 0 0 (qi Q)
set_option maxRecDepth 20000 in
set_option maxHeartbeats 1000000 in
theorem c_rbIn {Q : Int32 → Mm → Prop} {dep to m r : Nat} {o : Nat → Nat} (hrec : RchC G sw W V r) (hd : 2 * r + 7 ≤ d) (hdep : dep + (r + 2) ≤ 3) (ht : to < 2) (hm : m < 17) (hC : SC I J W V) (hB : BR J (161 + 2 * dep) (fun n => vec (SF o dep n))) (hS : ∀ I' J' x, srK W (duV V) (r + 1) o dep (26 * to + rsM m) = some x → FI dep I I' → FJ dep J J' → (∀ j, dep ≤ j → j < dep + (r + 2) → I' 160 j = nI (Tn (x j))) → Q (nI 1) (NC, I', J', layR sw)) (hF : ∀ I' J', srK W (duV V) (r + 1) o dep (26 * to + rsM m) = none → FI dep I I' → FJ dep J J' → Q (nI 0) (NC, I', J', layR sw)) : Y G d zX10_reachesBy [vr 152, vi (nI dep), vi (nI (dep + (r + 2))), vi (nI to), vi (nI (mvN m))] (NC, I, J, layR sw) 0 0 (qi Q) := by
  have hdep3 : dep < 3 := by omega
  have hrw := rw161 hdep3
  have hrw2 := rw161 (show dep + 1 < 3 by omega)
  obtain ⟨hs, hs', hr', hkn⟩ := rw161 hdep3
  obtain ⟨ps, ps', pr', pkn⟩ := rw161 (show dep + 1 < 3 by omega)
  have hk0 : 161 + 2 * dep < NC := by omega
  have pk0 : 161 + 2 * (dep + 1) < NC := by omega
  have hl2 := lay159 (sw := sw) (show dep + 1 < 3 by omega)
  obtain ⟨q1, q2, q3, q4⟩ := mv_1 to ht m hm
  refine c_rbHead (o := o) (by omega) hdep3 ht hm hB (fun I1 J1 fi e1 fj b1 x6 x7 x8 => ?_)
  generalize 26 * to + rsM m = K at *
  have fJ := FJ_own hdep3 fj
  have hC1 := hC.fr fi fJ
  have hB1 := BR_st hB fJ (Nat.le_refl dep)
  refine X_iload_n dX10_reachesBy_126 rfl ?_
  refine X_iload_n dX10_reachesBy_127 rfl ?_
  refine X_iconst (v := nI 1) dX10_reachesBy_128 (by decide) ?_
  first | refine X_isubN dX10_reachesBy_129 (by omega) ?_ | refine X_isub dX10_reachesBy_129 ?_
  refine X_icmp_ne (tgt := 144) dX10_reachesBy_130 (by decide) (fun b130 => ?_) (fun b130 => ?_)
  · refine X_iload_n dX10_reachesBy_144 rfl ?_
    refine X_iconst (v := nI 1) dX10_reachesBy_145 (by decide) ?_
    first | refine X_iaddN dX10_reachesBy_146 ?_ | refine X_iadd dX10_reachesBy_146 ?_
    refine X_iconst (v := nI 3) dX10_reachesBy_147 (by decide) ?_
    refine X_icmp_lt (tgt := 153) dX10_reachesBy_148 (by decide) (fun b148 => ?_) (fun b148 => ?_)
    · refine X_aload_n dX10_reachesBy_153 rfl ?_
      refine X_getR dX10_reachesBy_154 gf_X10_24 (by first | assumption | rfl) (by first | assumption | exact Nat.le_of_ble_eq_true rfl | omega) rfl (by first | assumption | rfl) ?_
      refine X_iload_n dX10_reachesBy_157 rfl ?_
      refine X_iconst (v := nI 1) dX10_reachesBy_158 (by decide) ?_
      first | refine X_iaddN dX10_reachesBy_159 ?_ | refine X_iadd dX10_reachesBy_159 ?_
      refine X_aald dX10_reachesBy_160 (by first | assumption | rfl) (by decide) (by first | assumption | exact Nat.le_of_ble_eq_true rfl | omega) rfl (by first | decide | omega) (by decide) (by first | assumption | rfl) ?_
      refine X_aload dX10_reachesBy_161 rfl ?_
      refine X_cVv dX10_reachesBy_163 ck_X10_35 rfl rfl (by first | assumption | rfl) (by first | assumption | exact Nat.le_of_ble_eq_true rfl | omega) (by omega) (Nat.le_of_ble_eq_true rfl) (c_copyRows (by omega) hrw2 hrw (fun J2 f2 c2 => ?_))
      have fJ2 : FJ dep J1 J2 := ⟨fun j hj => f2 j (by simp; omega), fun i hi => f2 _ (by simp; omega)⟩
      have hB2 : BR J2 (161 + 2 * (dep + 1)) (fun n => vec (SF o dep n)) := BR_cp hB1 c2
      have b2 : BV (J2 (161 + 2 * dep) 1) (J2 (161 + 2 * dep) 2) (J2 (161 + 2 * dep) 3) (fun n => kval K (SF o dep n)) := by
        rw [f2 (161 + 2 * dep) (by simp; omega)]; exact b1
      refine X_aload dX10_reachesBy_166 rfl ?_
      refine X_iload_n dX10_reachesBy_168 rfl ?_
      refine X_aload_n dX10_reachesBy_169 rfl ?_
      refine X_getR dX10_reachesBy_170 gf_X10_24 (by first | assumption | rfl) (by first | assumption | exact Nat.le_of_ble_eq_true rfl | omega) rfl (by first | assumption | rfl) ?_
      refine X_iload_n dX10_reachesBy_173 rfl ?_
      refine X_iconst (v := nI 1) dX10_reachesBy_174 (by decide) ?_
      first | refine X_iaddN dX10_reachesBy_175 ?_ | refine X_iadd dX10_reachesBy_175 ?_
      refine X_aald dX10_reachesBy_176 (by first | assumption | rfl) (by decide) (by first | assumption | exact Nat.le_of_ble_eq_true rfl | omega) rfl (by first | decide | omega) (by decide) (by first | assumption | rfl) ?_
      refine X_cVv dX10_reachesBy_177 ck_X10_80 rfl rfl (by first | assumption | rfl) (by first | assumption | exact Nat.le_of_ble_eq_true rfl | omega) (by omega) (Nat.le_of_ble_eq_true rfl) (c_storeMade hrw hrw2 (by omega) (show to < 4 by omega) hB2 b2 (fun J3 f3 hB3 => ?_))
      have fJ3 : FJ dep J2 J3 := ⟨fun j hj => f3 j (by simp; omega), fun i hi => f3 _ (by simp; omega)⟩
      have hB4 : BR J3 (161 + 2 * (dep + 1)) (fun n => vec (SF (up o dep K) (dep + 1) n)) := BR_cg hB3 (fun j hj q hq => by
        have e : SF (up o dep K) (dep + 1) j = dsm K (SF o dep j) := by
          show dsm (up o dep K dep) (lay (up o dep K) dep (j % 64)) = _
          rw [up_eq, lay_cg dep (fun i hi => up_ne (by omega))]
          rfl
        rw [e]
        have hlt := SF_lt o dep j
        have hkl := kval_lt (k := K) hlt
        obtain ⟨t1, t2⟩ := dsm_t hlt q1
        rw [q2] at t1 t2
        by_cases z : q = to
        · rw [z, up_eq, vec_dg ht, t1]
        · rw [up_ne z]
          by_cases y : q < 2
          · rw [vec_dg y, vec_dg y, show q = 1 - to by omega]; exact t2
          · unfold vec
            rw [if_neg (by omega), if_neg (by omega), if_neg (by omega), if_neg (by omega)])
      have fA := (fJ.tr fJ2).tr fJ3
      have hC3 := hC1.fr (FI.rf (dep := dep)) (fJ2.tr fJ3)
      have hrec2 := hrec (d - 1) I1 J3 (up o dep K) (dep + 1) (fun x M' => X G d zX10_reachesBy 188 [(0, vr 152), (1, vi (nI dep)), (2, vi (nI (dep + (r + 2)))), (3, vi (nI to)), (4, vi (nI (mvN m))), (5, vr (161 + 2 * dep)), (6, vi x6), (7, vi x7), (8, vi x8)] [vi x] M' 0 0 (qi Q)) (by omega) (by omega) hC3 hB4 (fun I4 J4 x hx fi4 fj4 e4 => by
          refine X_zret dX10_reachesBy_188 rfl (by first | rfl | decide) ⟨_, rfl, hS I4 J4 x hx (fi.tr (fi4.mono (by omega))) (fA.tr (fj4.mono (by omega))) (fun j a b => ?_)⟩
          by_cases z : j = dep
          · rw [z, fi4.2 dep (by omega), e1]
            have xa := ((srch_is (W := W) (du := duV V) r (dep + 1) (up o dep K)).1 x hx).1 dep (by omega)
            rw [xa, up_eq]
          · exact e4 j (by omega) (by omega)) (fun I4 J4 hx fi4 fj4 => X_zret dX10_reachesBy_188 rfl (by first | rfl | decide) ⟨_, rfl, hF I4 J4 hx (fi.tr (fi4.mono (by omega))) (fA.tr (fj4.mono (by omega)))⟩)
      rw [show dep + 1 + (r + 1) = dep + (r + 2) by omega] at hrec2
      refine X_aload_n dX10_reachesBy_180 rfl ?_
      refine X_iload_n dX10_reachesBy_181 rfl ?_
      refine X_iconst (v := nI 1) dX10_reachesBy_182 (by decide) ?_
      first | refine X_iaddN dX10_reachesBy_183 ?_ | refine X_iadd dX10_reachesBy_183 ?_
      refine X_iload_n dX10_reachesBy_184 rfl ?_
      refine X_cVi dX10_reachesBy_185 ck_X10_58 rfl rfl (by first | assumption | rfl) (by first | assumption | exact Nat.le_of_ble_eq_true rfl | omega) (by omega) (Nat.le_of_ble_eq_true rfl) (hrec2)
    · exact absurd ((nlt (by omega) (by omega)).mpr (by omega)) b148
  · exact absurd ((neq (by omega) (by omega)).mp b130) (by omega)
set_option maxRecDepth 20000 in
set_option maxHeartbeats 1000000 in
theorem c_reaches (hW : W < 4) (h8 : ∀ n, R8 (V n)) : ∀ r, RchC G sw W V r := by
  intro r
  induction r with
  | zero =>
    intro d I J o dep Q hd hdep hC hB hS hF
    have hdep3 : dep < 3 := by omega
    have hl := lay159 (sw := sw) hdep3
    obtain ⟨hs, hs', hr', hkn⟩ := rw161 hdep3
    have hk0 : 161 + 2 * dep < NC := by omega
    rw [srch_fo] at hS hF
    have loopT : ∀ (z to : Nat) (I' : Nat → Nat → Int32) (J' : Nat → Nat → Int64), z = 2 - to → to ≤ 2 → FI dep I I' → FJ dep J J' → fo (fun k => if kept k = true then srK W (duV V) 0 o dep k else none) (26 * to) = none → ∀ L2, X G d zX10_reaches 14 ([(0, vr 152), (1, vi (nI dep)), (2, vi (nI (dep + 1))), (3, vi (nI to))] ++ L2) [] (NC, I', J', layR sw) 0 0 (qi Q) := by
      intro z
      induction z with
      | zero =>
        intro to I' J' hz hto fi fj h0 L2
        obtain rfl : to = 2 := by omega
        refine weak (lv' := [(0, vr 152), (1, vi (nI dep)), (2, vi (nI (dep + 1))), (3, vi (nI 2))]) (fun q hq => List.mem_append_left _ hq) ?_
        refine X_iload_n dX10_reaches_14 rfl ?_
        refine X_iconst (v := nI 2) dX10_reaches_15 (by decide) ?_
        refine X_icmp_ge (tgt := 107) dX10_reaches_16 (by decide) (fun b => ?_) (fun b => ?_)
        · refine X_iconst (v := nI 0) dX10_reaches_107 (by decide) ?_
          exact X_zret dX10_reaches_108 rfl (by first | rfl | (simp; done) | decide) ⟨_, rfl, hF I' J' h0 fi fj⟩
        · exact absurd (by decide) b
      | succ z ih =>
        intro to I' J' hz hto fi fj h0 L2
        have ht : to < 2 := by omega
        have hC' := hC.fr fi fj
        have hB' := BR_st hB fj (Nat.le_refl dep)
        have next : ∀ I2 J2 L2, FI dep I I2 → FJ dep J J2 → fo (fun k => if kept k = true then srK W (duV V) 0 o dep k else none) (26 * (to + 1)) = none → X G d zX10_reaches 101 ([(0, vr 152), (1, vi (nI dep)), (2, vi (nI (dep + 1))), (3, vi (nI to))] ++ L2) [] (NC, I2, J2, layR sw) 0 0 (qi Q) := by
          intro I2 J2 L2 f2 g2 h2
          refine weak (lv' := [(0, vr 152), (1, vi (nI dep)), (2, vi (nI (dep + 1))), (3, vi (nI to))]) (fun q hq => List.mem_append_left _ hq) ?_
          first | refine X_iinc1 dX10_reaches_101 rfl rfl rfl ?_ | refine X_iinc dX10_reaches_101 rfl rfl rfl rfl ?_
          refine X_goto (tgt := 14) dX10_reaches_104 (by decide) ?_
          exact ih (to + 1) I2 J2 (by omega) (by omega) f2 g2 h2 []
        have useless : (W.testBit to = false ∨ (W.testBit (1 - to) = true ∧ ¬ ∀ v, v < 64 → dg (SF o dep v) (1 - to) = dg (duV V v) (1 - to))) → X G d zX10_reaches 53 [(0, vr 152), (1, vi (nI dep)), (2, vi (nI (dep + 1))), (3, vi (nI to))] [] (NC, I', J', layR sw) 0 0 (qi Q) := by
          intro h
          refine X_iconst (v := nI 1) dX10_reaches_53 (by decide) ?_
          refine X_goto (tgt := 58) dX10_reaches_54 (by decide) ?_
          refine X_istore dX10_reaches_58 rfl rfl ?_
          refine X_iconst (v := nI 0) dX10_reaches_60 (by decide) ?_
          refine X_istore dX10_reaches_61 rfl rfl ?_
          refine X_iload dX10_reaches_63 rfl ?_
          refine X_gets dX10_reaches_65 gs_X10_62 hzM ?_
          refine X_alenM dX10_reaches_68 ?_
          refine X_icmp_ge (tgt := 101) dX10_reaches_69 (by decide) (fun b69 => ?_) (fun b69 => ?_)
          · exact absurd b69 (by decide)
          refine X_iload dX10_reaches_72 rfl ?_
          refine X_if_ne (tgt := 101) dX10_reaches_74 (by decide) (fun b74 => ?_) (fun b74 => ?_)
          · refine next I' J' [(4, vi (nI 1)), (5, vi (nI 0))] fi fj ?_
            have := fo_n h0 26 (fun k a b => by
              have hk52 : k < 52 := by omega
              have hkt : kto k = to := by unfold kto; omega
              have : lst1 W (duV V) o dep k = false := by
                cases y : lst1 W (duV V) o dep k
                · rfl
                · obtain ⟨y1, y2, _⟩ := lst1_ex.mp y
                  rw [hkt] at y1 y2
                  rcases h with h | ⟨h, h'⟩
                  · rw [h] at y1; exact absurd y1 (by decide)
                  · refine absurd (fun v hv => ?_) h'
                    rw [SF_at hv]
                    exact (y2.resolve_left (by rw [h]; decide)) v hv
              show (if kept k = true then (if lst1 W (duV V) o dep k = true then some (up o dep k) else none) else none) = none
              rw [this]
              split <;> rfl)
            rw [show 26 * (to + 1) = 26 * to + 26 by omega]
            exact this
          · exact absurd b74 (by decide)
        have useful : W.testBit to = true → (W.testBit (1 - to) = false ∨ ∀ v, v < 64 → dg (SF o dep v) (1 - to) = dg (duV V v) (1 - to)) → X G d zX10_reaches 57 [(0, vr 152), (1, vi (nI dep)), (2, vi (nI (dep + 1))), (3, vi (nI to))] [] (NC, I', J', layR sw) 0 0 (qi Q) := by
          intro hWt hot
          have loopM : ∀ (w m : Nat) (I2 : Nat → Nat → Int32) (J2 : Nat → Nat → Int64), w = 17 - m → m ≤ 17 → FI dep I I2 → FJ dep J J2 → fo (fun k => if kept k = true then srK W (duV V) 0 o dep k else none) (26 * to + rsM m) = none → X G d zX10_reaches 63 [(0, vr 152), (1, vi (nI dep)), (2, vi (nI (dep + 1))), (3, vi (nI to)), (4, vi (nI 0)), (5, vi (nI m))] [] (NC, I2, J2, layR sw) 0 0 (qi Q) := by
            intro w
            induction w with
            | zero =>
              intro m I2 J2 hw hm f2 g2 h2
              obtain rfl : m = 17 := by omega
              refine X_iload dX10_reaches_63 rfl ?_
              refine X_gets dX10_reaches_65 gs_X10_62 hzM ?_
              refine X_alenM dX10_reaches_68 ?_
              refine X_icmp_ge (tgt := 101) dX10_reaches_69 (by decide) (fun b69 => ?_) (fun b69 => ?_)
              · exact next I2 J2 [(4, vi (nI 0)), (5, vi (nI 17))] f2 g2 h2
              · exact absurd (by decide) b69
            | succ w ih2 =>
              intro m I2 J2 hw hm f2 g2 h2
              have hm17 : m < 17 := by omega
              obtain ⟨q1, q2, q3, q4⟩ := mv_1 to ht m hm17
              refine X_iload dX10_reaches_63 rfl ?_
              refine X_gets dX10_reaches_65 gs_X10_62 hzM ?_
              refine X_alenM dX10_reaches_68 ?_
              refine X_icmp_ge (tgt := 101) dX10_reaches_69 (by decide) (fun b69 => ?_) (fun b69 => ?_)
              · exact absurd ((nle (by omega) (by omega)).mp b69) (by omega)
              refine X_iload dX10_reaches_72 rfl ?_
              refine X_if_ne (tgt := 101) dX10_reaches_74 (by decide) (fun b74 => ?_) (fun b74 => ?_)
              · exact absurd rfl b74
              refine X_aload_n dX10_reaches_77 rfl ?_
              refine X_iload_n dX10_reaches_78 rfl ?_
              refine X_iload_n dX10_reaches_79 rfl ?_
              refine X_iload_n dX10_reaches_80 rfl ?_
              refine X_gets dX10_reaches_81 gs_X10_62 hzM ?_
              refine X_iload dX10_reaches_84 rfl ?_
              refine X_ildM dX10_reaches_86 rfl (by omega) ?_
              rw [(mvN_is m hm17).1]
              refine X_cVi dX10_reaches_87 ck_X10_65 rfl rfl (by first | assumption | rfl) (by first | assumption | exact Nat.le_of_ble_eq_true rfl | omega) (by omega) (Nat.le_of_ble_eq_true rfl) (c_rbLast (by omega) hdep3 ht hm17 hW h8 (hC.fr f2 g2) (BR_st hB g2 (Nat.le_refl dep)) hWt hot (fun I3 J3 x hx f3 g3 e3 => ?_) (fun I3 J3 hx f3 g3 => ?_))
              · refine X_if_eq (tgt := 95) dX10_reaches_90 (by decide) (fun b90 => ?_) (fun b90 => ?_)
                · exact absurd b90 (by decide)
                refine X_iconst (v := nI 1) dX10_reaches_93 (by decide) ?_
                have hh := fo_hit (x := x) h2 (by rw [if_pos q3]; exact hx) (52 - (26 * to + rsM m + 1))
                rw [show 26 * to + rsM m + 1 + (52 - (26 * to + rsM m + 1)) = 52 by omega] at hh
                exact X_zret dX10_reaches_94 rfl (by first | rfl | (simp; done) | decide) ⟨_, rfl, hS I3 J3 x hh (f2.tr f3) (g2.tr g3) e3⟩
              · refine X_if_eq (tgt := 95) dX10_reaches_90 (by decide) (fun b90 => ?_) (fun b90 => ?_)
                · first | refine X_iinc1 dX10_reaches_95 rfl rfl rfl ?_ | refine X_iinc dX10_reaches_95 rfl rfl rfl rfl ?_
                  refine X_goto (tgt := 63) dX10_reaches_98 (by decide) ?_
                  refine ih2 (m + 1) I3 J3 (by omega) (by omega) (f2.tr f3) (g2.tr g3) ?_
                  have hle : 26 * to + rsM m ≤ 26 * to + rsM (m + 1) := by
                    have : ∀ m, m < 17 → rsM m ≤ rsM (m + 1) := by decide +kernel
                    have := this m hm17
                    omega
                  have hlt : ∀ m, m < 17 → rsM (m + 1) ≤ 26 := by decide +kernel
                  have := hlt m hm17
                  have hh := fo_n h2 (26 * to + rsM (m + 1) - (26 * to + rsM m)) (fun k a b => by
                    by_cases y : k = 26 * to + rsM m
                    · rw [y, if_pos q3]; exact hx
                    · have := mv_4 to ht m hm17 k (by omega)
                      rw [if_neg (fun z => by
                        rw [decide_eq_false (by omega), decide_eq_false (by omega), z] at this
                        exact absurd this (by decide))])
                  rw [show 26 * to + rsM m + (26 * to + rsM (m + 1) - (26 * to + rsM m)) = 26 * to + rsM (m + 1) by omega] at hh
                  exact hh
                · exact absurd rfl b90
          refine X_iconst (v := nI 0) dX10_reaches_57 (by decide) ?_
          refine X_istore dX10_reaches_58 rfl rfl ?_
          refine X_iconst (v := nI 0) dX10_reaches_60 (by decide) ?_
          refine X_istore dX10_reaches_61 rfl rfl ?_
          exact loopM 17 0 I' J' rfl (Nat.zero_le _) fi fj (by rw [show 26 * to + rsM 0 = 26 * to from rfl]; exact h0)
        refine weak (lv' := [(0, vr 152), (1, vi (nI dep)), (2, vi (nI (dep + 1))), (3, vi (nI to))]) (fun q hq => List.mem_append_left _ hq) ?_
        refine X_iload_n dX10_reaches_14 rfl ?_
        refine X_iconst (v := nI 2) dX10_reaches_15 (by decide) ?_
        refine X_icmp_ge (tgt := 107) dX10_reaches_16 (by decide) (fun b => ?_) (fun b => ?_)
        · exact absurd ((nle (by omega) (by omega)).mp b) (by omega)
        refine X_iload_n dX10_reaches_19 rfl ?_
        refine X_iload_n dX10_reaches_20 rfl ?_
        refine X_iconst (v := nI 1) dX10_reaches_21 (by decide) ?_
        first | refine X_isubN dX10_reaches_22 (by omega) ?_ | refine X_isub dX10_reaches_22 ?_
        refine X_icmp_ne (tgt := 57) dX10_reaches_23 (by decide) (fun b23 => ?_) (fun b23 => ?_)
        · exact absurd (by rw [Nat.add_sub_cancel]) b23
        refine X_aload_n dX10_reaches_26 rfl ?_
        refine X_aload_n dX10_reaches_27 rfl ?_
        refine X_getR dX10_reaches_28 gf_X10_24 (by first | assumption | rfl) (by first | assumption | exact Nat.le_of_ble_eq_true rfl | omega) rfl (by first | assumption | rfl) ?_
        refine X_iload_n dX10_reaches_31 rfl ?_
        refine X_aald dX10_reaches_32 (by first | assumption | rfl) (by decide) (by first | assumption | exact Nat.le_of_ble_eq_true rfl | omega) rfl (by first | decide | omega) (by decide) (by first | assumption | rfl) ?_
        refine X_iconst (v := nI 1) dX10_reaches_33 (by decide) ?_
        refine X_iload_n dX10_reaches_34 rfl ?_
        first | refine X_isubN dX10_reaches_35 (by omega) ?_ | refine X_isub dX10_reaches_35 ?_
        refine X_cVi dX10_reaches_36 ck_X10_51 rfl rfl (by first | assumption | rfl) (by first | assumption | exact Nat.le_of_ble_eq_true rfl | omega) (by omega) (Nat.le_of_ble_eq_true rfl) (c_differs (by omega) (rw161 hdep3) (show 1 - to < 2 by omega) hC'.1 hW hB' (SF_lt o dep) hC'.2 h8 (fun h1 h2 => ?_) (fun h1 => ?_))
        · refine X_if_ne (tgt := 53) dX10_reaches_39 (by decide) (fun b39 => ?_) (fun b39 => ?_)
          · exact useless (Or.inr ⟨h1, h2⟩)
          · exact absurd b39 (by decide)
        · refine X_if_ne (tgt := 53) dX10_reaches_39 (by decide) (fun b39 => ?_) (fun b39 => ?_)
          · exact absurd rfl b39
          refine X_aload_n dX10_reaches_42 rfl ?_
          refine X_getI dX10_reaches_43 gf_X10_43 (by first | assumption | rfl) (by first | assumption | exact Nat.le_of_ble_eq_true rfl | omega) rfl ?_
          rw [hC'.1]
          refine X_iload_n dX10_reaches_46 rfl ?_
          first | refine X_ishrN dX10_reaches_47 (by omega) (by omega) ?_ | refine X_ishr dX10_reaches_47 ?_
          refine X_iconst (v := nI 1) dX10_reaches_48 (by decide) ?_
          first | refine X_iandN dX10_reaches_49 ?_ | refine X_iandC dX10_reaches_49 ?_ | refine X_iand dX10_reaches_49 ?_
          rw [Nat.and_one_is_mod, bit_mod]
          cases hWt : W.testBit to
          · rw [if_neg (by decide)]
            refine X_if_ne (tgt := 57) dX10_reaches_50 (by decide) (fun b50 => ?_) (fun b50 => ?_)
            · exact absurd rfl b50
            exact useless (Or.inl hWt)
          · rw [if_pos rfl]
            refine X_if_ne (tgt := 57) dX10_reaches_50 (by decide) (fun b50 => ?_) (fun b50 => ?_)
            · exact useful hWt h1
            · exact absurd b50 (by decide)
    refine Y_of rfl rfl (Nat.le_of_ble_eq_true rfl) rfl ?_
    refine X_iload_n dX10_reaches_0 rfl ?_
    refine X_iload_n dX10_reaches_1 rfl ?_
    refine X_icmp_ge (tgt := 10) dX10_reaches_2 (by decide) (fun b2 => ?_) (fun b2 => ?_)
    · exact absurd ((nle (by omega) (by omega)).mp b2) (by omega)
    refine X_iload_n dX10_reaches_5 rfl ?_
    refine X_iconst (v := nI 3) dX10_reaches_6 (by decide) ?_
    refine X_icmp_lt (tgt := 12) dX10_reaches_7 (by decide) (fun b7 => ?_) (fun b7 => ?_)
    · refine X_iconst (v := nI 0) dX10_reaches_12 (by decide) ?_
      refine X_istore_n dX10_reaches_13 rfl rfl ?_
      exact loopT 2 0 I J rfl (Nat.zero_le _) FI.rf FJ.rf rfl []
    · exact absurd ((nlt (by omega) (by omega)).mpr hdep3) b7
  | succ r ihr =>
    intro d I J o dep Q hd hdep hC hB hS hF
    have hdep3 : dep < 3 := by omega
    rw [srch_fo] at hS hF
    have loopT : ∀ (z to : Nat) (I' : Nat → Nat → Int32) (J' : Nat → Nat → Int64), z = 2 - to → to ≤ 2 → FI dep I I' → FJ dep J J' → fo (fun k => if kept k = true then srK W (duV V) (r + 1) o dep k else none) (26 * to) = none → ∀ L2, X G d zX10_reaches 14 ([(0, vr 152), (1, vi (nI dep)), (2, vi (nI (dep + (r + 1 + 1)))), (3, vi (nI to))] ++ L2) [] (NC, I', J', layR sw) 0 0 (qi Q) := by
      intro z
      induction z with
      | zero =>
        intro to I' J' hz hto fi fj h0 L2
        obtain rfl : to = 2 := by omega
        refine weak (lv' := [(0, vr 152), (1, vi (nI dep)), (2, vi (nI (dep + (r + 1 + 1)))), (3, vi (nI 2))]) (fun q hq => List.mem_append_left _ hq) ?_
        refine X_iload_n dX10_reaches_14 rfl ?_
        refine X_iconst (v := nI 2) dX10_reaches_15 (by decide) ?_
        refine X_icmp_ge (tgt := 107) dX10_reaches_16 (by decide) (fun b => ?_) (fun b => ?_)
        · refine X_iconst (v := nI 0) dX10_reaches_107 (by decide) ?_
          exact X_zret dX10_reaches_108 rfl (by first | rfl | (simp; done) | decide) ⟨_, rfl, hF I' J' h0 fi fj⟩
        · exact absurd (by decide) b
      | succ z ih =>
        intro to I' J' hz hto fi fj h0 L2
        have ht : to < 2 := by omega
        have loopM : ∀ (w m : Nat) (I2 : Nat → Nat → Int32) (J2 : Nat → Nat → Int64), w = 17 - m → m ≤ 17 → FI dep I I2 → FJ dep J J2 → fo (fun k => if kept k = true then srK W (duV V) (r + 1) o dep k else none) (26 * to + rsM m) = none → X G d zX10_reaches 63 [(0, vr 152), (1, vi (nI dep)), (2, vi (nI (dep + (r + 1 + 1)))), (3, vi (nI to)), (4, vi (nI 0)), (5, vi (nI m))] [] (NC, I2, J2, layR sw) 0 0 (qi Q) := by
          intro w
          induction w with
          | zero =>
            intro m I2 J2 hw hm f2 g2 h2
            obtain rfl : m = 17 := by omega
            refine X_iload dX10_reaches_63 rfl ?_
            refine X_gets dX10_reaches_65 gs_X10_62 hzM ?_
            refine X_alenM dX10_reaches_68 ?_
            refine X_icmp_ge (tgt := 101) dX10_reaches_69 (by decide) (fun b69 => ?_) (fun b69 => ?_)
            · first | refine X_iinc1 dX10_reaches_101 rfl rfl rfl ?_ | refine X_iinc dX10_reaches_101 rfl rfl rfl rfl ?_
              refine X_goto (tgt := 14) dX10_reaches_104 (by decide) ?_
              exact ih (to + 1) I2 J2 (by omega) (by omega) f2 g2 h2 [(4, vi (nI 0)), (5, vi (nI 17))]
            · exact absurd (by decide) b69
          | succ w ih2 =>
            intro m I2 J2 hw hm f2 g2 h2
            have hm17 : m < 17 := by omega
            obtain ⟨q1, q2, q3, q4⟩ := mv_1 to ht m hm17
            refine X_iload dX10_reaches_63 rfl ?_
            refine X_gets dX10_reaches_65 gs_X10_62 hzM ?_
            refine X_alenM dX10_reaches_68 ?_
            refine X_icmp_ge (tgt := 101) dX10_reaches_69 (by decide) (fun b69 => ?_) (fun b69 => ?_)
            · exact absurd ((nle (by omega) (by omega)).mp b69) (by omega)
            refine X_iload dX10_reaches_72 rfl ?_
            refine X_if_ne (tgt := 101) dX10_reaches_74 (by decide) (fun b74 => ?_) (fun b74 => ?_)
            · exact absurd rfl b74
            refine X_aload_n dX10_reaches_77 rfl ?_
            refine X_iload_n dX10_reaches_78 rfl ?_
            refine X_iload_n dX10_reaches_79 rfl ?_
            refine X_iload_n dX10_reaches_80 rfl ?_
            refine X_gets dX10_reaches_81 gs_X10_62 hzM ?_
            refine X_iload dX10_reaches_84 rfl ?_
            refine X_ildM dX10_reaches_86 rfl (by omega) ?_
            rw [(mvN_is m hm17).1]
            refine X_cVi dX10_reaches_87 ck_X10_65 rfl rfl (by first | assumption | rfl) (by first | assumption | exact Nat.le_of_ble_eq_true rfl | omega) (by omega) (Nat.le_of_ble_eq_true rfl) (c_rbIn ihr (by omega) (by omega) ht hm17 (hC.fr f2 g2) (BR_st hB g2 (Nat.le_refl dep)) (fun I3 J3 x hx f3 g3 e3 => ?_) (fun I3 J3 hx f3 g3 => ?_))
            · refine X_if_eq (tgt := 95) dX10_reaches_90 (by decide) (fun b90 => ?_) (fun b90 => ?_)
              · exact absurd b90 (by decide)
              refine X_iconst (v := nI 1) dX10_reaches_93 (by decide) ?_
              have hh := fo_hit (x := x) h2 (by rw [if_pos q3]; exact hx) (52 - (26 * to + rsM m + 1))
              rw [show 26 * to + rsM m + 1 + (52 - (26 * to + rsM m + 1)) = 52 by omega] at hh
              exact X_zret dX10_reaches_94 rfl (by first | rfl | (simp; done) | decide) ⟨_, rfl, hS I3 J3 x hh (f2.tr f3) (g2.tr g3) e3⟩
            · refine X_if_eq (tgt := 95) dX10_reaches_90 (by decide) (fun b90 => ?_) (fun b90 => ?_)
              · first | refine X_iinc1 dX10_reaches_95 rfl rfl rfl ?_ | refine X_iinc dX10_reaches_95 rfl rfl rfl rfl ?_
                refine X_goto (tgt := 63) dX10_reaches_98 (by decide) ?_
                refine ih2 (m + 1) I3 J3 (by omega) (by omega) (f2.tr f3) (g2.tr g3) ?_
                have hle : 26 * to + rsM m ≤ 26 * to + rsM (m + 1) := by
                  have : ∀ m, m < 17 → rsM m ≤ rsM (m + 1) := by decide +kernel
                  have := this m hm17
                  omega
                have hlt : ∀ m, m < 17 → rsM (m + 1) ≤ 26 := by decide +kernel
                have := hlt m hm17
                have hh := fo_n h2 (26 * to + rsM (m + 1) - (26 * to + rsM m)) (fun k a b => by
                  by_cases y : k = 26 * to + rsM m
                  · rw [y, if_pos q3]; exact hx
                  · have := mv_4 to ht m hm17 k (by omega)
                    rw [if_neg (fun z => by
                      rw [decide_eq_false (by omega), decide_eq_false (by omega), z] at this
                      exact absurd this (by decide))])
                rw [show 26 * to + rsM m + (26 * to + rsM (m + 1) - (26 * to + rsM m)) = 26 * to + rsM (m + 1) by omega] at hh
                exact hh
              · exact absurd rfl b90
        refine weak (lv' := [(0, vr 152), (1, vi (nI dep)), (2, vi (nI (dep + (r + 1 + 1)))), (3, vi (nI to))]) (fun q hq => List.mem_append_left _ hq) ?_
        refine X_iload_n dX10_reaches_14 rfl ?_
        refine X_iconst (v := nI 2) dX10_reaches_15 (by decide) ?_
        refine X_icmp_ge (tgt := 107) dX10_reaches_16 (by decide) (fun b => ?_) (fun b => ?_)
        · exact absurd ((nle (by omega) (by omega)).mp b) (by omega)
        refine X_iload_n dX10_reaches_19 rfl ?_
        refine X_iload_n dX10_reaches_20 rfl ?_
        refine X_iconst (v := nI 1) dX10_reaches_21 (by decide) ?_
        first | refine X_isubN dX10_reaches_22 (by omega) ?_ | refine X_isub dX10_reaches_22 ?_
        refine X_icmp_ne (tgt := 57) dX10_reaches_23 (by decide) (fun b23 => ?_) (fun b23 => ?_)
        · refine X_iconst (v := nI 0) dX10_reaches_57 (by decide) ?_
          refine X_istore dX10_reaches_58 rfl rfl ?_
          refine X_iconst (v := nI 0) dX10_reaches_60 (by decide) ?_
          refine X_istore dX10_reaches_61 rfl rfl ?_
          exact loopM 17 0 I' J' rfl (Nat.zero_le _) fi fj (by rw [show 26 * to + rsM 0 = 26 * to from rfl]; exact h0)
        · exact absurd ((neq (by omega) (by omega)).mp b23) (by omega)
    refine Y_of rfl rfl (Nat.le_of_ble_eq_true rfl) rfl ?_
    refine X_iload_n dX10_reaches_0 rfl ?_
    refine X_iload_n dX10_reaches_1 rfl ?_
    refine X_icmp_ge (tgt := 10) dX10_reaches_2 (by decide) (fun b2 => ?_) (fun b2 => ?_)
    · exact absurd ((nle (by omega) (by omega)).mp b2) (by omega)
    refine X_iload_n dX10_reaches_5 rfl ?_
    refine X_iconst (v := nI 3) dX10_reaches_6 (by decide) ?_
    refine X_icmp_lt (tgt := 12) dX10_reaches_7 (by decide) (fun b7 => ?_) (fun b7 => ?_)
    · refine X_iconst (v := nI 0) dX10_reaches_12 (by decide) ?_
      refine X_istore_n dX10_reaches_13 rfl rfl ?_
      exact loopT 2 0 I J rfl (Nat.zero_le _) FI.rf FJ.rf rfl []
    · exact absurd ((nlt (by omega) (by omega)).mpr hdep3) b7
end CR
