/-! rows: what is in the registers -/
def opv (y : Nat → Nat) (v : Nat) : Nat := if v < 4 then y v else if v = 99 then 0 else v - 10
def stp (c : Nat → Nat → Nat) (i : Nat) (y : Nat → Nat) : Nat → Nat := up y (c i 0) (av (c i 1) (opv y (c i 2)) (opv y (c i 3)))
def rn (c : Nat → Nat → Nat) (y : Nat → Nat) : Nat → Nat → Nat
  | 0 => y
  | k + 1 => stp c k (rn c y k)
def R8 (y : Nat → Nat) : Prop := ∀ r, r < 4 → y r < 8
def pkR (y : Nat → Nat) : Nat := ((y 0 * 8 + y 1) * 8 + y 2) * 8 + y 3
def upk (R : Nat) : Nat → Nat := fun r => R / 2 ^ (3 * (3 - r)) % 8
theorem upk8 (R : Nat) : R8 (upk R) := fun _ _ => Nat.mod_lt _ (by decide)
theorem pkR_lt {y : Nat → Nat} (h : R8 y) : pkR y < 4096 := by
  have h0 := h 0 (by decide)
  have h1 := h 1 (by decide)
  have h2 := h 2 (by decide)
  have h3 := h 3 (by decide)
  unfold pkR
  omega
theorem pkR_upk {R : Nat} (h : R < 4096) : pkR (upk R) = R := by
  show ((R / 512 % 8 * 8 + R / 64 % 8) * 8 + R / 8 % 8) * 8 + R / 1 % 8 = R
  omega
theorem pkR_at {y : Nat → Nat} (h : R8 y) {r : Nat} (hr : r < 4) : pkR y / 2 ^ (3 * (3 - r)) % 8 = y r := by
  have h0 := h 0 (by decide)
  have h1 := h 1 (by decide)
  have h2 := h 2 (by decide)
  have h3 := h 3 (by decide)
  unfold pkR
  rcases (by omega : r = 0 ∨ r = 1 ∨ r = 2 ∨ r = 3) with rfl | rfl | rfl | rfl
  · show _ / 512 % 8 = _; omega
  · show _ / 64 % 8 = _; omega
  · show _ / 8 % 8 = _; omega
  · show _ / 1 % 8 = _; omega
theorem opv_lt {y : Nat → Nat} {v : Nat} (h : R8 y) (hv : opd v ∨ v = 99) : opv y v < 8 := by
  unfold opv
  split
  · exact h v (by assumption)
  · unfold opd at hv
    split <;> omega
theorem VS_o2 {s : Nat → Nat} (h : VS s) : opd (s 2) ∨ s 2 = 99 := Or.inl h.2.1
theorem VS_o3 {s : Nat → Nat} (h : VS s) : opd (s 3) ∨ s 3 = 99 := h.2.2.elim (fun q => Or.inr q.2) (fun q => Or.inl q.2)
theorem stp8 {n : Nat} {c : Nat → Nat → Nat} (hv : VC n c) {i : Nat} (hi : i < n) {y : Nat → Nat} (h : R8 y) : R8 (stp c i y) := by
  intro r hr
  unfold stp
  by_cases q : r = c i 0
  · rw [q, up_eq]; exact av_lt (opv_lt h (VS_o2 (hv.2 i hi)))
  · rw [up_ne q]; exact h r hr
theorem rn8 {n : Nat} {c : Nat → Nat → Nat} (hv : VC n c) {y : Nat → Nat} (h : R8 y) : ∀ k, k ≤ n → R8 (rn c y k)
  | 0, _ => h
  | k + 1, hk => stp8 hv (by omega) (rn8 hv h k (by omega))
def pkP (y : Nat → Nat) : Nat → Nat
  | 0 => 0
  | k + 1 => pkP y k * 8 + y k
theorem pkP_lt {y : Nat → Nat} (h : R8 y) : ∀ k, k ≤ 4 → pkP y k < 8 ^ k
  | 0, _ => by
    show 0 < 1
    decide
  | k + 1, hk => by
    have := pkP_lt h k (by omega)
    have := h k (by omega)
    show pkP y k * 8 + y k < 8 ^ k * 8
    omega
theorem pkP_4 (y : Nat → Nat) : pkP y 4 = pkR y := by
  show (((0 * 8 + y 0) * 8 + y 1) * 8 + y 2) * 8 + y 3 = ((y 0 * 8 + y 1) * 8 + y 2) * 8 + y 3
  rw [Nat.zero_mul, Nat.zero_add]
def sp_run (s : SS) (x k : Int32) : Int32 := if (x < 0 ∨ nI 4096 ≤ x) ∨ (k < 0 ∨ nI (dC s.2.1).1 < k) then -2 else nI (pkR (rn (dC s.2.1).2 (upk x.toNatClampNeg) k.toNatClampNeg))
theorem dn_eq {R v o t R' : Nat} (h : R + v * t = R' + o * t) : nI R + (nI v - nI o) * nI t = nI R' := by
  have e := congrArg nI h
  rw [← nI_add, ← nI_add, ← pk_mul, ← pk_mul] at e
  rw [Int32.sub_mul, Int32.sub_eq_add_neg, ← Int32.add_assoc, e, Int32.add_assoc, Int32.add_right_neg, Int32.add_zero]
theorem pk_up {y : Nat → Nat} {t v : Nat} (ht : t < 4) : pkR y + v * 2 ^ (3 * (3 - t)) = pkR (up y t v) + y t * 2 ^ (3 * (3 - t)) := by
  rcases (by omega : t = 0 ∨ t = 1 ∨ t = 2 ∨ t = 3) with rfl | rfl | rfl | rfl
  · show ((y 0 * 8 + y 1) * 8 + y 2) * 8 + y 3 + v * 512 = ((v * 8 + y 1) * 8 + y 2) * 8 + y 3 + y 0 * 512
    omega
  · show ((y 0 * 8 + y 1) * 8 + y 2) * 8 + y 3 + v * 64 = ((y 0 * 8 + v) * 8 + y 2) * 8 + y 3 + y 1 * 64
    omega
  · show ((y 0 * 8 + y 1) * 8 + y 2) * 8 + y 3 + v * 8 = ((y 0 * 8 + y 1) * 8 + v) * 8 + y 3 + y 2 * 8
    omega
  · show ((y 0 * 8 + y 1) * 8 + y 2) * 8 + y 3 + v * 1 = ((y 0 * 8 + y 1) * 8 + y 2) * 8 + v + y 3 * 1
    omega
section RU
variable {G : GG} {d : Nat} {sw : Bool} {I : Nat → Nat → Int32} {J : Nat → Nat → Int64} {s : SS} {n W : Nat} {c : Nat → Nat → Nat}
set_option maxRecDepth 20000 in
theorem c_numberOf {Q : Int32 → Mm → Prop} {v : Nat} {y : Nat → Nat} (hd : 1 ≤ d) (hv : opd v ∨ v = 99) (hy : ∀ r, r < 4 → I 169 r = nI (y r)) (hQ : Q (nI (opv y v)) (NC, I, J, layR sw)) : Y G d zX11_numberOf [vr 0, vi (enc v)] (NC, I, J, layR sw) 0 0 (qi Q) := by
  unfold opd at hv
  unfold opv at hQ
  refine Y_of rfl rfl (Nat.le_of_ble_eq_true rfl) rfl ?_
  refine X_iload_n dX11_numberOf_0 rfl ?_
  by_cases h4 : v < 4
  · rw [if_pos h4] at hQ
    rw [enc_n (by omega)]
    refine X_cSi dX11_numberOf_1 ck_X11_165 rfl rfl (by omega) (Nat.le_of_ble_eq_true rfl) (c_isNoReg_f h4 ?_)
    refine X_if_eq (tgt := 22) dX11_numberOf_4 (by decide) (fun b => ?_) (fun b => ?_)
    · refine X_aload_n dX11_numberOf_22 rfl ?_
      refine X_getR dX11_numberOf_23 gf_X11_90 (by first | assumption | rfl) (by first | assumption | exact Nat.le_of_ble_eq_true rfl | omega) rfl (by first | assumption | rfl) ?_
      refine X_iload_n dX11_numberOf_26 rfl ?_
      first | refine X_iald dX11_numberOf_27 (by first | assumption | rfl) (by first | assumption | exact Nat.le_of_ble_eq_true rfl | omega) rfl (by first | decide | omega) (by decide) ?_ | refine X_ildA dX11_numberOf_27 rfl (by omega) ?_ | refine X_ildM dX11_numberOf_27 rfl (by omega) ?_ | refine X_sld dX11_numberOf_27 rfl (by omega) (by omega) ?_
      rw [hy v h4]
      exact X_iret dX11_numberOf_28 rfl ⟨_, rfl, hQ⟩
    · exact absurd rfl b
  · rw [if_neg h4] at hQ
    refine X_cSi dX11_numberOf_1 ck_X11_165 rfl rfl (by omega) (Nat.le_of_ble_eq_true rfl) (c_isNoReg_t (enc_big h4 (by omega)) ?_)
    refine X_if_eq (tgt := 22) dX11_numberOf_4 (by decide) (fun b => ?_) (fun b => ?_)
    · exact absurd b (by decide)
    refine X_iload_n dX11_numberOf_7 rfl ?_
    refine X_bipush (v := nI 10) dX11_numberOf_8 (by decide) ?_
    by_cases h9 : v = 99
    · rw [if_pos h9] at hQ
      rw [h9, enc_99]
      refine X_icmp_lt (tgt := 20) dX11_numberOf_10 (by decide) (fun b10 => ?_) (fun b10 => ?_)
      · refine X_iconst (v := nI 0) dX11_numberOf_20 (by decide) ?_
        exact X_iret dX11_numberOf_21 rfl ⟨_, rfl, hQ⟩
      · exact absurd (by decide) b10
    · rw [if_neg h9] at hQ
      rw [enc_n h9]
      refine X_icmp_lt (tgt := 20) dX11_numberOf_10 (by decide) (fun b10 => ?_) (fun b10 => ?_)
      · exact absurd ((nlt (by omega) (by omega)).mp b10) (by omega)
      refine X_iload_n dX11_numberOf_13 rfl ?_
      refine X_bipush (v := nI 10) dX11_numberOf_14 (by decide) ?_
      first | refine X_isubN dX11_numberOf_16 (by omega) ?_ | refine X_isub dX11_numberOf_16 ?_
      refine X_goto (tgt := 21) dX11_numberOf_17 (by decide) ?_
      exact X_iret dX11_numberOf_21 rfl ⟨_, rfl, hQ⟩
theorem c_madeBy {Q : Int32 → Mm → Prop} {i : Nat} {y : Nat → Nat} (hd : 2 ≤ d) (hc : CR I 8 n c) (hv : VC n c) (hi : i < n) (h8 : R8 y) (hy : ∀ r, r < 4 → I 169 r = nI (y r)) (hQ : Q (nI (av (c i 1) (opv y (c i 2)) (opv y (c i 3)))) (NC, I, J, layR sw)) : Y G d zX11_madeBy [vr 0, vr 8, vi (nI i)] (NC, I, J, layR sw) 0 0 (qi Q) := by
  have hvs := hv.2 i hi
  refine Y_of rfl rfl (Nat.le_of_ble_eq_true rfl) rfl ?_
  refine X_aload_n dX11_madeBy_0 rfl ?_
  refine X_aload_n dX11_madeBy_1 rfl ?_
  refine X_iload_n dX11_madeBy_2 rfl ?_
  refine X_iconst (v := nI 2) dX11_madeBy_3 (by decide) ?_
  refine X_cVi dX11_madeBy_4 ck_X11_127 rfl rfl (by first | assumption | rfl) (by first | assumption | exact Nat.le_of_ble_eq_true rfl | omega) (by omega) (Nat.le_of_ble_eq_true rfl) (c_part cd8 hc.1 hv.1 hi (by decide) ?_)
  rw [hc.2 i hi 2 (by decide)]
  refine X_cVi dX11_madeBy_7 ck_X11_289 rfl rfl (by first | assumption | rfl) (by first | assumption | exact Nat.le_of_ble_eq_true rfl | omega) (by omega) (Nat.le_of_ble_eq_true rfl) (c_numberOf (by omega) (VS_o2 hvs) hy ?_)
  refine X_istore_n dX11_madeBy_10 rfl rfl ?_
  refine X_aload_n dX11_madeBy_11 rfl ?_
  refine X_aload_n dX11_madeBy_12 rfl ?_
  refine X_iload_n dX11_madeBy_13 rfl ?_
  refine X_iconst (v := nI 3) dX11_madeBy_14 (by decide) ?_
  refine X_cVi dX11_madeBy_15 ck_X11_127 rfl rfl (by first | assumption | rfl) (by first | assumption | exact Nat.le_of_ble_eq_true rfl | omega) (by omega) (Nat.le_of_ble_eq_true rfl) (c_part cd8 hc.1 hv.1 hi (by decide) ?_)
  rw [hc.2 i hi 3 (by decide)]
  refine X_cVi dX11_madeBy_18 ck_X11_289 rfl rfl (by first | assumption | rfl) (by first | assumption | exact Nat.le_of_ble_eq_true rfl | omega) (by omega) (Nat.le_of_ble_eq_true rfl) (c_numberOf (by omega) (VS_o3 hvs) hy ?_)
  refine X_istore dX11_madeBy_21 rfl rfl ?_
  refine X_aload_n dX11_madeBy_23 rfl ?_
  refine X_iload_n dX11_madeBy_24 rfl ?_
  refine X_iconst (v := nI 1) dX11_madeBy_25 (by decide) ?_
  refine X_cVi dX11_madeBy_26 ck_X11_127 rfl rfl (by first | assumption | rfl) (by first | assumption | exact Nat.le_of_ble_eq_true rfl | omega) (by omega) (Nat.le_of_ble_eq_true rfl) (c_part cd8 hc.1 hv.1 hi (by decide) ?_)
  rw [hc.2 i hi 1 (by decide)]
  refine X_iload_n dX11_madeBy_29 rfl ?_
  refine X_iload dX11_madeBy_30 rfl ?_
  refine X_cSi dX11_madeBy_32 ck_X11_292 rfl rfl (by omega) (Nat.le_of_ble_eq_true rfl) (c_act (by omega) (hvs.2.2.elim (fun q => Or.inl q.1) (fun q => Or.inr q.1)) (opv_lt h8 (VS_o2 hvs)) (opv_lt h8 (VS_o3 hvs)) ?_)
  exact X_iret dX11_madeBy_35 rfl ⟨_, rfl, hQ⟩
set_option maxRecDepth 20000 in
set_option maxHeartbeats 1000000 in
theorem C_run {x k : Int32} (hd : 3 ≤ d) (hv : VSt s) (hi : CInv I s) : Y G d zX11_run [vr 0, vi x, vi k] (NC, I, J, layR sw) 0 0 (qi (PC s (sp_run s x k) I J)) := by
  obtain ⟨n, hne⟩ : ∃ n, n = (dC s.2.1).1 := ⟨_, rfl⟩
  obtain ⟨c, hce⟩ : ∃ c, c = (dC s.2.1).2 := ⟨_, rfl⟩
  have hvc : VC n c := by rw [hne, hce]; exact hv.2.1.1
  have hc : CR I 8 n c := by rw [hne, hce]; exact hi.2.1.1
  have hn := hvc.1
  unfold sp_run
  rw [← hne, ← hce]
  have no : ((x < 0 ∨ nI 4096 ≤ x) ∨ (k < 0 ∨ nI n < k)) → X G d zX11_run 29 [(0, vr 0), (1, vi x), (2, vi k)] [] (NC, I, J, layR sw) 0 0 (qi (PC s (if (x < 0 ∨ nI 4096 ≤ x) ∨ (k < 0 ∨ nI n < k) then -2 else nI (pkR (rn c (upk x.toNatClampNeg) k.toNatClampNeg))) I J)) := by
    intro h
    rw [if_pos h]
    refine X_bipush (v := (-2)) dX11_run_29 (by decide) ?_
    exact X_iret dX11_run_31 rfl ⟨_, rfl, PC_same hi⟩
  refine Y_of rfl rfl (Nat.le_of_ble_eq_true rfl) rfl ?_
  refine X_iload_n dX11_run_0 rfl ?_
  refine X_if_lt (tgt := 29) dX11_run_1 (by decide) (fun b1 => ?_) (fun b1 => ?_)
  · exact no (Or.inl (Or.inl b1))
  refine X_iload_n dX11_run_4 rfl ?_
  refine X_sipush (v := nI 4096) dX11_run_5 (by decide) ?_
  refine X_icmp_ge (tgt := 29) dX11_run_8 (by decide) (fun b8 => ?_) (fun b8 => ?_)
  · exact no (Or.inl (Or.inr b8))
  refine X_iload_n dX11_run_11 rfl ?_
  refine X_if_lt (tgt := 29) dX11_run_12 (by decide) (fun b12 => ?_) (fun b12 => ?_)
  · exact no (Or.inr (Or.inl b12))
  refine X_iload_n dX11_run_15 rfl ?_
  refine X_aload_n dX11_run_16 rfl ?_
  refine X_getR dX11_run_17 gf_X11_19 (by first | assumption | rfl) (by first | assumption | exact Nat.le_of_ble_eq_true rfl | omega) rfl (by first | assumption | rfl) ?_
  refine X_getR dX11_run_20 gf_X11_106 (by first | assumption | rfl) (by first | assumption | exact Nat.le_of_ble_eq_true rfl | omega) rfl (by first | assumption | rfl) ?_
  refine X_getI dX11_run_23 gf_X11_116 (by first | assumption | rfl) (by first | assumption | exact Nat.le_of_ble_eq_true rfl | omega) rfl ?_
  rw [hc.1]
  refine X_icmp_le (tgt := 32) dX11_run_26 (by decide) (fun b26 => ?_) (fun b26 => ?_)
  · obtain ⟨R, hR, rfl⟩ : ∃ R, R < 4096 ∧ x = nI R := by
      rcases icase x 4096 (by decide) with h | h | h
      · exact absurd h b1
      · exact h
      · exact absurd h.2 b8
    obtain ⟨m, hm, rfl⟩ : ∃ m, m ≤ n ∧ k = nI m := by
      rcases pcase hn k with h | h
      · exact absurd h (fun q => q.elim b12 (fun q => absurd b26 (Int32.not_le.mpr q)))
      · exact h
    rw [if_neg (fun q => q.elim (fun q => q.elim b1 b8) (fun q => q.elim b12 (fun q => absurd b26 (Int32.not_le.mpr q)))), nI_clamp (by omega), nI_clamp (by omega)]
    have loop3 : ∀ (I' : Nat → Nat → Int32), Fr [169] I I' → (∀ r, r < 4 → I' 169 r = nI (rn c (upk R) m r)) → ∀ (q r : Nat), q = 4 - r → r ≤ 4 → X G d zX11_run 107 [(0, vr 0), (1, vi (nI R)), (2, vi (nI m)), (3, vi (nI (pkP (rn c (upk R) m) r))), (4, vi (nI r))] [] (NC, I', J, layR sw) 0 0 (qi (PC s (nI (pkR (rn c (upk R) m))) I J)) := by
      intro I' hF hy q
      induction q with
      | zero =>
        intro r hq hr
        obtain rfl : r = 4 := by omega
        refine X_iload dX11_run_107 rfl ?_
        refine X_iconst (v := nI 4) dX11_run_109 (by decide) ?_
        refine X_icmp_ge (tgt := 132) dX11_run_110 (by decide) (fun b => ?_) (fun b => ?_)
        · refine X_iload_n dX11_run_132 rfl ?_
          rw [pkP_4]
          exact X_iret dX11_run_133 rfl ⟨_, rfl, PC_scr hi hv [169] hF (by decide)⟩
        · exact absurd (by decide) b
      | succ q ih =>
        intro r hq hr
        refine X_iload dX11_run_107 rfl ?_
        refine X_iconst (v := nI 4) dX11_run_109 (by decide) ?_
        refine X_icmp_ge (tgt := 132) dX11_run_110 (by decide) (fun b => ?_) (fun b => ?_)
        · exact absurd ((nle (by omega) (by omega)).mp b) (by omega)
        refine X_iload_n dX11_run_113 rfl ?_
        refine X_bipush (v := nI 8) dX11_run_114 (by decide) ?_
        first | refine X_imulN dX11_run_116 ?_ | refine X_imul dX11_run_116 ?_
        refine X_aload_n dX11_run_117 rfl ?_
        refine X_getR dX11_run_118 gf_X11_90 (by first | assumption | rfl) (by first | assumption | exact Nat.le_of_ble_eq_true rfl | omega) rfl (by first | assumption | rfl) ?_
        refine X_iload dX11_run_121 rfl ?_
        first | refine X_iald dX11_run_123 (by first | assumption | rfl) (by first | assumption | exact Nat.le_of_ble_eq_true rfl | omega) rfl (by first | decide | omega) (by decide) ?_ | refine X_ildA dX11_run_123 rfl (by omega) ?_ | refine X_ildM dX11_run_123 rfl (by omega) ?_ | refine X_sld dX11_run_123 rfl (by omega) (by omega) ?_
        rw [hy r (by omega)]
        first | refine X_iaddN dX11_run_124 ?_ | refine X_iadd dX11_run_124 ?_
        refine X_istore_n dX11_run_125 rfl rfl ?_
        first | refine X_iinc1 dX11_run_126 rfl rfl rfl ?_ | refine X_iinc dX11_run_126 rfl rfl rfl rfl ?_
        refine X_goto (tgt := 107) dX11_run_129 (by decide) ?_
        exact ih (r + 1) (by omega) (by omega)
    have loop2 : ∀ (q i : Nat) (I' : Nat → Nat → Int32), q = m - i → i ≤ m → Fr [169] I I' → (∀ r, r < 4 → I' 169 r = nI (rn c (upk R) i r)) → X G d zX11_run 63 [(0, vr 0), (1, vi (nI R)), (2, vi (nI m)), (3, vi (nI i))] [] (NC, I', J, layR sw) 0 0 (qi (PC s (nI (pkR (rn c (upk R) m))) I J)) := by
      intro q
      induction q with
      | zero =>
        intro i I' hq hi2 hF hy
        obtain rfl : i = m := by omega
        refine X_iload_n dX11_run_63 rfl ?_
        refine X_iload_n dX11_run_64 rfl ?_
        refine X_icmp_ge (tgt := 102) dX11_run_65 (by decide) (fun b => ?_) (fun b => ?_)
        · refine X_iconst (v := nI 0) dX11_run_102 (by decide) ?_
          refine X_istore_n dX11_run_103 rfl rfl ?_
          refine X_iconst (v := nI 0) dX11_run_104 (by decide) ?_
          refine X_istore dX11_run_105 rfl rfl ?_
          exact loop3 I' hF hy 4 0 rfl (Nat.zero_le _)
        · exact absurd (Int32.le_refl _) b
      | succ q ih =>
        intro i I' hq hi2 hF hy
        have hin : i < n := by omega
        have hc' : CR I' 8 n c := CR_fr hc hF (by simp) (by simp)
        have ht := (hvc.2 i hin).1
        refine X_iload_n dX11_run_63 rfl ?_
        refine X_iload_n dX11_run_64 rfl ?_
        refine X_icmp_ge (tgt := 102) dX11_run_65 (by decide) (fun b => ?_) (fun b => ?_)
        · exact absurd ((nle (by omega) (by omega)).mp b) (by omega)
        refine X_aload_n dX11_run_68 rfl ?_
        refine X_getR dX11_run_69 gf_X11_90 (by first | assumption | rfl) (by first | assumption | exact Nat.le_of_ble_eq_true rfl | omega) rfl (by first | assumption | rfl) ?_
        refine X_aload_n dX11_run_72 rfl ?_
        refine X_getR dX11_run_73 gf_X11_19 (by first | assumption | rfl) (by first | assumption | exact Nat.le_of_ble_eq_true rfl | omega) rfl (by first | assumption | rfl) ?_
        refine X_getR dX11_run_76 gf_X11_106 (by first | assumption | rfl) (by first | assumption | exact Nat.le_of_ble_eq_true rfl | omega) rfl (by first | assumption | rfl) ?_
        refine X_iload_n dX11_run_79 rfl ?_
        refine X_cVi dX11_run_80 ck_X11_131 rfl rfl (by first | assumption | rfl) (by first | assumption | exact Nat.le_of_ble_eq_true rfl | omega) (by omega) (Nat.le_of_ble_eq_true rfl) (c_tgt (by omega) cd8 hc' hvc hin ?_)
        refine X_aload_n dX11_run_83 rfl ?_
        refine X_aload_n dX11_run_84 rfl ?_
        refine X_getR dX11_run_85 gf_X11_19 (by first | assumption | rfl) (by first | assumption | exact Nat.le_of_ble_eq_true rfl | omega) rfl (by first | assumption | rfl) ?_
        refine X_getR dX11_run_88 gf_X11_106 (by first | assumption | rfl) (by first | assumption | exact Nat.le_of_ble_eq_true rfl | omega) rfl (by first | assumption | rfl) ?_
        refine X_iload_n dX11_run_91 rfl ?_
        refine X_cVi dX11_run_92 ck_X11_134 rfl rfl (by first | assumption | rfl) (by first | assumption | exact Nat.le_of_ble_eq_true rfl | omega) (by omega) (Nat.le_of_ble_eq_true rfl) (c_madeBy (by omega) hc' hvc hin (rn8 hvc (upk8 R) i (by omega)) hy ?_)
        refine X_iast dX11_run_95 (by first | assumption | rfl) (by first | assumption | exact Nat.le_of_ble_eq_true rfl | omega) rfl (by first | decide | omega) (by decide) ?_
        first | refine X_iinc1 dX11_run_96 rfl rfl rfl ?_ | refine X_iinc dX11_run_96 rfl rfl rfl rfl ?_
        refine X_goto (tgt := 63) dX11_run_99 (by decide) ?_
        refine ih (i + 1) _ (by omega) (by omega) (hF.tr (Fr.sr (by simp))) (fun r hr => ?_)
        rw [sr_eq]
        show _ = nI (stp c i (rn c (upk R) i) r)
        unfold stp
        by_cases h : r = c i 0
        · rw [h, up_eq, up_eq]
        · rw [up_ne h, up_ne h]; exact hy r hr
    have loop1 : ∀ (q r : Nat) (I' : Nat → Nat → Int32), q = 4 - r → r ≤ 4 → Fr [169] I I' → (∀ j, j < r → I' 169 j = nI (upk R j)) → X G d zX11_run 34 [(0, vr 0), (1, vi (nI R)), (2, vi (nI m)), (3, vi (nI r))] [] (NC, I', J, layR sw) 0 0 (qi (PC s (nI (pkR (rn c (upk R) m))) I J)) := by
      intro q
      induction q with
      | zero =>
        intro r I' hq hr hF hy
        obtain rfl : r = 4 := by omega
        refine X_iload_n dX11_run_34 rfl ?_
        refine X_iconst (v := nI 4) dX11_run_35 (by decide) ?_
        refine X_icmp_ge (tgt := 61) dX11_run_36 (by decide) (fun b => ?_) (fun b => ?_)
        · refine X_iconst (v := nI 0) dX11_run_61 (by decide) ?_
          refine X_istore_n dX11_run_62 rfl rfl ?_
          exact loop2 m 0 I' rfl (Nat.zero_le _) hF hy
        · exact absurd (by decide) b
      | succ q ih =>
        intro r I' hq hr hF hy
        refine X_iload_n dX11_run_34 rfl ?_
        refine X_iconst (v := nI 4) dX11_run_35 (by decide) ?_
        refine X_icmp_ge (tgt := 61) dX11_run_36 (by decide) (fun b => ?_) (fun b => ?_)
        · exact absurd ((nle (by omega) (by omega)).mp b) (by omega)
        refine X_aload_n dX11_run_39 rfl ?_
        refine X_getR dX11_run_40 gf_X11_90 (by first | assumption | rfl) (by first | assumption | exact Nat.le_of_ble_eq_true rfl | omega) rfl (by first | assumption | rfl) ?_
        refine X_iload_n dX11_run_43 rfl ?_
        refine X_iload_n dX11_run_44 rfl ?_
        refine X_iconst (v := nI 3) dX11_run_45 (by decide) ?_
        refine X_iconst (v := nI 3) dX11_run_46 (by decide) ?_
        refine X_iload_n dX11_run_47 rfl ?_
        first | refine X_isubN dX11_run_48 (by omega) ?_ | refine X_isub dX11_run_48 ?_
        first | refine X_imulN dX11_run_49 ?_ | refine X_imul dX11_run_49 ?_
        first | refine X_ishrN dX11_run_50 (by omega) (by omega) ?_ | refine X_ishr dX11_run_50 ?_
        refine X_bipush (v := nI 7) dX11_run_51 (by decide) ?_
        first | refine X_iandN dX11_run_53 ?_ | refine X_iandC dX11_run_53 ?_ | refine X_iand dX11_run_53 ?_
        rw [and7]
        refine X_iast dX11_run_54 (by first | assumption | rfl) (by first | assumption | exact Nat.le_of_ble_eq_true rfl | omega) rfl (by first | decide | omega) (by decide) ?_
        first | refine X_iinc1 dX11_run_55 rfl rfl rfl ?_ | refine X_iinc dX11_run_55 rfl rfl rfl rfl ?_
        refine X_goto (tgt := 34) dX11_run_58 (by decide) ?_
        refine ih (r + 1) _ (by omega) (by omega) (hF.tr (Fr.sr (by simp))) (fun j hj => ?_)
        rw [sr_eq]
        by_cases h : j = r
        · rw [h, up_eq]; rfl
        · rw [up_ne h]; exact hy j (by omega)
    refine X_iconst (v := nI 0) dX11_run_32 (by decide) ?_
    refine X_istore_n dX11_run_33 rfl rfl ?_
    exact loop1 4 0 I rfl (Nat.zero_le _) Fr.rf (fun j h => absurd h (Nat.not_lt_zero j))
  · exact no (Or.inr (Or.inr (Int32.not_le.mp b26)))
/-! the reference -/
theorem m_scale {Q : Int32 → Mm → Prop} {M : Mm} {r : Nat} (hr : r < 4) (hQ : Q (nI (2 ^ (3 * (3 - r)))) M) : Y G d zX12_scale [vi (nI r)] M 0 0 (qi Q) := by
  refine Y_of rfl rfl (Nat.le_of_ble_eq_true rfl) rfl ?_
  refine X_iconst (v := nI 1) dX12_scale_0 (by decide) ?_
  refine X_iconst (v := nI 3) dX12_scale_1 (by decide) ?_
  refine X_iconst (v := nI 3) dX12_scale_2 (by decide) ?_
  refine X_iload_n dX12_scale_3 rfl ?_
  first | refine X_isubN dX12_scale_4 (by omega) ?_ | refine X_isub dX12_scale_4 ?_
  first | refine X_imulN dX12_scale_5 ?_ | refine X_imul dX12_scale_5 ?_
  first | refine X_ishl1 dX12_scale_6 (by omega) ?_ | refine X_ishl dX12_scale_6 ?_
  exact X_iret dX12_scale_7 rfl ⟨_, rfl, hQ⟩
set_option maxRecDepth 20000 in
theorem m_valueOf {Q : Int32 → Mm → Prop} {M : Mm} {v : Nat} {y : Nat → Nat} (hd : 1 ≤ d) (hv : opd v) (h8 : R8 y) (hQ : Q (nI (opv y v)) M) : Y G d zX12_valueOf [vi (nI v), vi (nI (pkR y))] M 0 0 (qi Q) := by
  unfold opd at hv
  have hl := pkR_lt h8
  unfold opv at hQ
  refine Y_of rfl rfl (Nat.le_of_ble_eq_true rfl) rfl ?_
  refine X_iload_n dX12_valueOf_0 rfl ?_
  refine X_bipush (v := nI 10) dX12_valueOf_1 (by decide) ?_
  by_cases h4 : v < 4
  · rw [if_pos h4] at hQ
    refine X_icmp_lt (tgt := 13) dX12_valueOf_3 (by decide) (fun b => ?_) (fun b => ?_)
    · refine X_iload_n dX12_valueOf_13 rfl ?_
      refine X_iload_n dX12_valueOf_14 rfl ?_
      refine X_cSi dX12_valueOf_15 ck_X12_189 rfl rfl (by omega) (Nat.le_of_ble_eq_true rfl) (m_scale h4 ?_)
      have hp : 2 ^ (3 * (3 - v)) < 2 ^ 31 := Nat.pow_lt_pow_right (by decide) (by omega)
      have hp0 := Nat.two_pow_pos (3 * (3 - v))
      refine X_idiv dX12_valueOf_18 (fun q => absurd ((neq (b := 0) hp (by decide)).mp q) (by omega)) ?_
      rw [pk_div (by omega) hp0 hp]
      refine X_bipush (v := nI 8) dX12_valueOf_19 (by decide) ?_
      refine X_irem dX12_valueOf_21 (by decide) ?_
      have hle := Nat.div_le_self (pkR y) (2 ^ (3 * (3 - v)))
      rw [pk_rem (by omega) (by decide) (by decide), pkR_at h8 h4]
      exact X_iret dX12_valueOf_22 rfl ⟨_, rfl, hQ⟩
    · exact absurd ((nlt (by omega) (by omega)).mpr (by omega)) b
  · rw [if_neg h4, if_neg (by omega)] at hQ
    refine X_icmp_lt (tgt := 13) dX12_valueOf_3 (by decide) (fun b => ?_) (fun b => ?_)
    · exact absurd ((nlt (by omega) (by omega)).mp b) (by omega)
    refine X_iload_n dX12_valueOf_6 rfl ?_
    refine X_bipush (v := nI 10) dX12_valueOf_7 (by decide) ?_
    first | refine X_isubN dX12_valueOf_9 (by omega) ?_ | refine X_isub dX12_valueOf_9 ?_
    refine X_goto (tgt := 22) dX12_valueOf_10 (by decide) ?_
    exact X_iret dX12_valueOf_22 rfl ⟨_, rfl, hQ⟩
set_option maxRecDepth 20000 in
theorem m_done {Q : Int32 → Mm → Prop} {M : Mm} {st : Nat → Nat} {y : Nat → Nat} (hd : 2 ≤ d) (hv : VS st) (h8 : R8 y) (hQ : Q (nI (pkR (up y (st 0) (av (st 1) (opv y (st 2)) (opv y (st 3)))))) M) : Y G d zX12_done [vi (nI (pkR y)), vi (nI (st 0)), vi (enc (st 1)), vi (enc (st 2)), vi (enc (st 3))] M 0 0 (qi Q) := by
  obtain ⟨v0, v2, v3⟩ := hv
  have e2 : enc (st 2) = nI (st 2) := enc_n (by unfold opd at v2; omega)
  have o0 : opv y (st 0) = y (st 0) := if_pos v0
  have tail : ∀ v, v = av (st 1) (opv y (st 2)) (opv y (st 3)) → ∀ x5 : Int32, X G d zX12_done 30 [(0, vi (nI (pkR y))), (1, vi (nI (st 0))), (2, vi (enc (st 1))), (3, vi (nI (st 2))), (4, vi (enc (st 3))), (5, vi x5)] [vi (nI v)] M 0 0 (qi Q) := by
    intro v hv x5
    rw [← hv] at hQ
    refine X_istore dX12_done_30 rfl rfl ?_
    refine X_iload_n dX12_done_32 rfl ?_
    refine X_iload dX12_done_33 rfl ?_
    refine X_iload_n dX12_done_35 rfl ?_
    refine X_iload_n dX12_done_36 rfl ?_
    refine X_cSi dX12_done_37 ck_X12_192 rfl rfl (by omega) (Nat.le_of_ble_eq_true rfl) (m_valueOf (by omega) (Or.inl v0) h8 ?_)
    refine X_isub dX12_done_40 ?_
    refine X_iload_n dX12_done_41 rfl ?_
    refine X_cSi dX12_done_42 ck_X12_189 rfl rfl (by omega) (Nat.le_of_ble_eq_true rfl) (m_scale v0 ?_)
    refine X_imul dX12_done_45 ?_
    refine X_iadd dX12_done_46 ?_
    rw [o0, dn_eq (pk_up (y := y) (v := v) v0)]
    exact X_iret dX12_done_47 rfl ⟨_, rfl, hQ⟩
  rw [e2]
  refine Y_of rfl rfl (Nat.le_of_ble_eq_true rfl) rfl ?_
  refine X_iload_n dX12_done_0 rfl ?_
  refine X_iload_n dX12_done_1 rfl ?_
  refine X_cSi dX12_done_2 ck_X12_192 rfl rfl (by omega) (Nat.le_of_ble_eq_true rfl) (m_valueOf (by omega) v2 h8 ?_)
  refine X_istore dX12_done_5 rfl rfl ?_
  refine X_iload_n dX12_done_7 rfl ?_
  refine X_bipush (v := (-6)) dX12_done_8 (by decide) ?_
  rcases v3 with ⟨h1, h3⟩ | ⟨h1, h3⟩
  · rw [h1] at tail ⊢
    refine X_icmp_ne (tgt := 18) dX12_done_10 (by decide) (fun b10 => ?_) (fun b10 => ?_)
    · exact absurd rfl b10
    refine X_iload dX12_done_13 rfl ?_
    refine X_goto (tgt := 30) dX12_done_15 (by decide) ?_
    exact tail _ rfl _
  · have h9 : st 1 ≠ 99 := by unfold iact at h1; omega
    have e3 : enc (st 3) = nI (st 3) := enc_n (by unfold opd at h3; omega)
    rw [e3] at tail ⊢
    refine X_icmp_ne (tgt := 18) dX12_done_10 (by decide) (fun b10 => ?_) (fun b10 => ?_)
    · refine X_iload_n dX12_done_18 rfl ?_
      refine X_iload dX12_done_19 rfl ?_
      refine X_iload dX12_done_21 rfl ?_
      refine X_iload_n dX12_done_23 rfl ?_
      refine X_cSi dX12_done_24 ck_X12_192 rfl rfl (by omega) (Nat.le_of_ble_eq_true rfl) (m_valueOf (by omega) h3 h8 ?_)
      refine X_cSi dX12_done_27 ck_X12_195 rfl rfl (by omega) (Nat.le_of_ble_eq_true rfl) (m_acted h1 (opv_lt h8 (Or.inl v2)) (opv_lt h8 (Or.inl h3)) ?_)
      exact tail _ rfl _
    · rw [enc_n h9] at b10
      exact absurd (by rw [b10]; decide) (nneg (a := st 1) (by unfold iact at h1; omega))
set_option maxRecDepth 20000 in
theorem m_runOf {Q : Int32 → Mm → Prop} {y : Nat → Nat} {k : Nat} (hd : 3 ≤ d) (hc : RC I n c) (hv : VC n c) (h8 : R8 y) (hk : k ≤ n) (hQ : Q (nI (pkR (rn c y k))) (NC, I, J, layR sw)) : Y G d zX12_runOf [vr 170, vi (nI (pkR y)), vi (nI k)] (NC, I, J, layR sw) 0 0 (qi Q) := by
  have hn := hv.1
  have loop : ∀ (m i : Nat), m = k - i → i ≤ k → X G d zX12_runOf 5 [(0, vr 170), (1, vi (nI (pkR y))), (2, vi (nI k)), (3, vi (nI (pkR (rn c y i)))), (4, vi (nI i))] [] (NC, I, J, layR sw) 0 0 (qi Q) := by
    intro m
    induction m with
    | zero =>
      intro i hm hi
      obtain rfl : i = k := by omega
      refine X_iload dX12_runOf_5 rfl ?_
      refine X_iload_n dX12_runOf_7 rfl ?_
      refine X_icmp_ge (tgt := 50) dX12_runOf_8 (by decide) (fun b => ?_) (fun b => ?_)
      · refine X_iload_n dX12_runOf_50 rfl ?_
        exact X_iret dX12_runOf_51 rfl ⟨_, rfl, hQ⟩
      · exact absurd (Int32.le_refl _) b
    | succ m ih =>
      intro i hm hi
      have hin : i < n := by omega
      obtain ⟨c0, c1, c2, c3⟩ := hc.2 i hin
      refine X_iload dX12_runOf_5 rfl ?_
      refine X_iload_n dX12_runOf_7 rfl ?_
      refine X_icmp_ge (tgt := 50) dX12_runOf_8 (by decide) (fun b => ?_) (fun b => ?_)
      · exact absurd ((nle (by omega) (by omega)).mp b) (by omega)
      refine X_iload_n dX12_runOf_11 rfl ?_
      refine X_aload_n dX12_runOf_12 rfl ?_
      refine X_getR dX12_runOf_13 gf_X12_13 (by first | assumption | rfl) (by first | assumption | exact Nat.le_of_ble_eq_true rfl | omega) rfl (by first | assumption | rfl) ?_
      refine X_iload dX12_runOf_16 rfl ?_
      first | refine X_iald dX12_runOf_18 (by first | assumption | rfl) (by first | assumption | exact Nat.le_of_ble_eq_true rfl | omega) rfl (by first | decide | omega) (by decide) ?_ | refine X_ildA dX12_runOf_18 rfl (by omega) ?_ | refine X_ildM dX12_runOf_18 rfl (by omega) ?_ | refine X_sld dX12_runOf_18 rfl (by omega) (by omega) ?_
      rw [hc.t hv hin]
      refine X_aload_n dX12_runOf_19 rfl ?_
      refine X_getR dX12_runOf_20 gf_X12_16 (by first | assumption | rfl) (by first | assumption | exact Nat.le_of_ble_eq_true rfl | omega) rfl (by first | assumption | rfl) ?_
      refine X_iload dX12_runOf_23 rfl ?_
      first | refine X_iald dX12_runOf_25 (by first | assumption | rfl) (by first | assumption | exact Nat.le_of_ble_eq_true rfl | omega) rfl (by first | decide | omega) (by decide) ?_ | refine X_ildA dX12_runOf_25 rfl (by omega) ?_ | refine X_ildM dX12_runOf_25 rfl (by omega) ?_ | refine X_sld dX12_runOf_25 rfl (by omega) (by omega) ?_
      rw [c1]
      refine X_aload_n dX12_runOf_26 rfl ?_
      refine X_getR dX12_runOf_27 gf_X12_19 (by first | assumption | rfl) (by first | assumption | exact Nat.le_of_ble_eq_true rfl | omega) rfl (by first | assumption | rfl) ?_
      refine X_iload dX12_runOf_30 rfl ?_
      first | refine X_iald dX12_runOf_32 (by first | assumption | rfl) (by first | assumption | exact Nat.le_of_ble_eq_true rfl | omega) rfl (by first | decide | omega) (by decide) ?_ | refine X_ildA dX12_runOf_32 rfl (by omega) ?_ | refine X_ildM dX12_runOf_32 rfl (by omega) ?_ | refine X_sld dX12_runOf_32 rfl (by omega) (by omega) ?_
      rw [c2]
      refine X_aload_n dX12_runOf_33 rfl ?_
      refine X_getR dX12_runOf_34 gf_X12_22 (by first | assumption | rfl) (by first | assumption | exact Nat.le_of_ble_eq_true rfl | omega) rfl (by first | assumption | rfl) ?_
      refine X_iload dX12_runOf_37 rfl ?_
      first | refine X_iald dX12_runOf_39 (by first | assumption | rfl) (by first | assumption | exact Nat.le_of_ble_eq_true rfl | omega) rfl (by first | decide | omega) (by decide) ?_ | refine X_ildA dX12_runOf_39 rfl (by omega) ?_ | refine X_ildM dX12_runOf_39 rfl (by omega) ?_ | refine X_sld dX12_runOf_39 rfl (by omega) (by omega) ?_
      rw [c3]
      refine X_cSi dX12_runOf_40 ck_X12_199 rfl rfl (by omega) (Nat.le_of_ble_eq_true rfl) (m_done (st := c i) (by omega) (hv.2 i hin) (rn8 hv h8 i (by omega)) ?_)
      refine X_istore_n dX12_runOf_43 rfl rfl ?_
      first | refine X_iinc1 dX12_runOf_44 rfl rfl rfl ?_ | refine X_iinc dX12_runOf_44 rfl rfl rfl rfl ?_
      refine X_goto (tgt := 5) dX12_runOf_47 (by decide) ?_
      exact ih (i + 1) (by omega) (by omega)
  refine Y_of rfl rfl (Nat.le_of_ble_eq_true rfl) rfl ?_
  refine X_iload_n dX12_runOf_0 rfl ?_
  refine X_istore_n dX12_runOf_1 rfl rfl ?_
  refine X_iconst (v := nI 0) dX12_runOf_2 (by decide) ?_
  refine X_istore dX12_runOf_3 rfl rfl ?_
  exact loop k 0 rfl (Nat.zero_le _)
theorem M_run {x k : Int32} (hd : 4 ≤ d) (hv : VSt s) (hi : RInv I s) : Y G d zX12_run [vr 170, vi x, vi k] (NC, I, J, layR sw) 0 0 (qi (PM s (sp_run s x k) I J sw)) := by
  have hn := hv.2.1.1.1
  unfold sp_run
  refine Y_of rfl rfl (Nat.le_of_ble_eq_true rfl) rfl ?_
  refine X_iload_n dX12_run_0 rfl ?_
  refine X_i2l dX12_run_1 rfl ?_
  refine X_lconst (v := 0) dX12_run_2 (by decide) ?_
  refine X_ldc2 dX12_run_3 kc_X12_203 ?_
  by_cases h1 : x < 0 ∨ nI 4096 ≤ x
  · rw [if_pos (Or.inl h1)]
    refine X_cSi dX12_run_6 ck_X12_125 rfl rfl (by omega) (Nat.le_of_ble_eq_true rfl) (c_in_f (lo := nI 0) (hi := nI 4095) (by decide) (by decide) (fun q => h1.elim (le_0.mp q.1) (fun z => absurd (Int32.lt_of_le_of_lt q.2 (show nI 4095 < nI 4096 by decide)) (Int32.not_lt.mpr z))) ?_)
    refine X_if_eq (tgt := 29) dX12_run_9 (by decide) (fun b9 => ?_) (fun b9 => ?_)
    · refine X_bipush (v := (-2)) dX12_run_29 (by decide) ?_
      exact X_iret dX12_run_31 rfl ⟨_, rfl, PM_same hi⟩
    · exact absurd rfl b9
  obtain ⟨R, hR, rfl⟩ : ∃ R, R < 4096 ∧ x = nI R := by
    rcases icase x 4096 (by decide) with h | h | h
    · exact absurd (Or.inl h) h1
    · exact h
    · exact absurd (Or.inr h.2) h1
  refine X_cSi dX12_run_6 ck_X12_125 rfl rfl (by omega) (Nat.le_of_ble_eq_true rfl) (c_in_t (lo := nI 0) (hi := nI 4095) (by decide) (by decide) (le_0.mpr (nneg (by omega))) ((nle (by decide) (by omega)).mpr (by omega)) ?_)
  refine X_if_eq (tgt := 29) dX12_run_9 (by decide) (fun b9 => ?_) (fun b9 => ?_)
  · exact absurd b9 (by decide)
  refine X_aload_n dX12_run_12 rfl ?_
  refine X_iload_n dX12_run_13 rfl ?_
  rcases pcase hn k with h | ⟨a, ha, rfl⟩
  · rw [if_pos (Or.inr h)]
    refine X_cVi dX12_run_14 ck_X12_205 rfl rfl (by first | assumption | rfl) (by first | assumption | exact Nat.le_of_ble_eq_true rfl | omega) (by omega) (Nat.le_of_ble_eq_true rfl) (c_isPlace_f (by omega) hi.2.1.1 h ?_)
    refine X_if_eq (tgt := 29) dX12_run_17 (by decide) (fun b17 => ?_) (fun b17 => ?_)
    · refine X_bipush (v := (-2)) dX12_run_29 (by decide) ?_
      exact X_iret dX12_run_31 rfl ⟨_, rfl, PM_same hi⟩
    · exact absurd rfl b17
  · rw [if_neg (fun q => q.elim h1 (pcase_n hn ha)), nI_clamp (by omega), nI_clamp (by omega)]
    refine X_cVi dX12_run_14 ck_X12_205 rfl rfl (by first | assumption | rfl) (by first | assumption | exact Nat.le_of_ble_eq_true rfl | omega) (by omega) (Nat.le_of_ble_eq_true rfl) (c_isPlace_t (by omega) hi.2.1.1 hn ha ?_)
    refine X_if_eq (tgt := 29) dX12_run_17 (by decide) (fun b17 => ?_) (fun b17 => ?_)
    · exact absurd b17 (by decide)
    refine X_aload_n dX12_run_20 rfl ?_
    refine X_iload_n dX12_run_21 rfl ?_
    refine X_iload_n dX12_run_22 rfl ?_
    rw [show nI R = nI (pkR (upk R)) by rw [pkR_upk hR]]
    refine X_cVi dX12_run_23 ck_X12_208 rfl rfl (by first | assumption | rfl) (by first | assumption | exact Nat.le_of_ble_eq_true rfl | omega) (by omega) (Nat.le_of_ble_eq_true rfl) (m_runOf (by omega) hi.2.1.rc hv.2.1.1 (upk8 R) ha ?_)
    refine X_goto (tgt := 31) dX12_run_26 (by decide) ?_
    exact X_iret dX12_run_31 rfl ⟨_, rfl, PM_same hi⟩
end RU
