/-! the class's easy calls, 2: set, told, free, step, keep -/
def setS (s : SS) (j v : Nat) : SS := (s.1, (s.2.1.1, s.2.1.2.1, s.2.1.2.2.1, up s.2.1.2.2.2.1 j v, s.2.1.2.2.2.2), s.2.2)
def sp_set (s : SS) (x v : Int32) : Int32 × SS := if x < 0 ∨ nI 5 ≤ x then (-2, s) else if v < nI 1 ∨ (if x = 0 then nI 3 else nI 5) < v then (-2, s) else (nI (dS s.2.1 x.toNatClampNeg), setS s x.toNatClampNeg v.toNatClampNeg)
def sp_free (s : SS) : Int32 × SS := (nI (dN s.2.1), (s.1, (s.2.1.1, s.2.1.2.1, s.2.1.2.2.1, s.2.1.2.2.2.1, 0, s.2.1.2.2.2.2.2), s.2.2))
def sp_step (s : SS) (x w : Int32) : Int32 := if x < 0 ∨ nI (dC s.2.1).1 ≤ x then -1 else if w < 0 ∨ nI 3 < w then -2 else enc ((dC s.2.1).2 x.toNatClampNeg w.toNatClampNeg)
def sp_keep (s : SS) : Int32 × SS := (nI (dC s.2.1).1, (s.1, (s.2.1.1, s.2.1.1, s.2.1.2.2), s.2.2))
def sp_told (s : SS) (x : Int32) : Int32 := if x < 0 ∨ nI 10 ≤ x then -2 else match x.toNatClampNeg with
  | 0 => nI (dC s.2.1).1
  | 1 => nI s.1.1
  | 2 => nI (dW s.2.1)
  | 3 => nI (dN s.2.1)
  | 9 => nI (dO s.2.1).1
  | k => nI (dS s.2.1 (k - 4))
theorem ige {x : Int32} {a b : Nat} (h : nI a ≤ x) (hb : b ≤ a) (ha : a < 2 ^ 31) : nI b ≤ x := Int32.le_trans ((nle ha (by omega)).mpr hb) h
theorem ipos {x : Int32} {a : Nat} (h : nI a ≤ x) (ha : a < 2 ^ 31) : ¬ x < 0 := Int32.not_lt.mpr (Int32.le_trans (nge0 ha) h)
section CE
variable {G : GG} {d : Nat} {sw : Bool} {I : Nat → Nat → Int32} {J : Nat → Nat → Int64} {s : SS}
/-- a number between 1 and b -/
theorem in1 {v : Int32} {b : Nat} (hb : b < 1000) (h1 : ¬ v < nI 1) (h2 : v ≤ nI b) : ∃ a, 1 ≤ a ∧ a ≤ b ∧ v = nI a := by
  rcases icase v (b + 1) (by omega) with h | ⟨a, ha, rfl⟩ | h
  · exact absurd (show v < nI 1 from Int32.lt_trans h (by decide)) h1
  · refine ⟨a, ?_, by omega, rfl⟩
    rcases Nat.eq_zero_or_pos a with rfl | q
    · exact absurd (by decide) h1
    · exact q
  · exact absurd (Int32.lt_of_le_of_lt h2 ((nlt (by omega) (by omega)).mpr (Nat.lt_succ_self b))) (Int32.not_lt.mpr h.2)
theorem dk_set {j v : Nat} (hv : VSt s) (h : dk I 7 s.2.1) : dk (sr I 13 (up (I 13) j (nI v))) 7 (setS s j v).2.1 := by
  obtain ⟨h1, h2, h3, h4, h5, h6⟩ := h
  have := hv.2.1.2.2.2.2.1
  refine ⟨h1.fr (by rw [sr_ne (by decide)]) (by rw [sr_ne (by decide)]), h2.fr (by rw [sr_ne (by decide)]) (by rw [sr_ne (by decide)]), by rw [sr_ne (by decide)]; exact h3, fun q hq => ?_, by rw [sr_ne (by decide)]; exact h5, fun q hq => ⟨(h6 q hq).1.fr (by rw [sr_ne (by omega)]) (by rw [sr_ne (by omega)]), (h6 q hq).2.fr (by rw [sr_ne (by omega)]) (by rw [sr_ne (by omega)])⟩⟩
  rw [sr_eq]
  show up (I 13) j (nI v) q = nI (up (dS s.2.1) j v q)
  by_cases hj : q = j
  · subst hj; rw [up_eq, up_eq]
  · rw [up_ne hj, up_ne hj]; exact h4 q hq
set_option maxRecDepth 20000 in
theorem c_set_tail {x v : Int32} {lv : List (Nat × AV)} {a b m : Nat} (hv : VSt s) (hi : CInv I s) (ha : a < 5) (hx : x = nI a) (hm : m < 1000) :
    (v < nI 1 ∨ nI m < v → X G d zX11_set 32 [(0, vr 0), (1, vi x), (2, vi v), (3, vi (nI m))] [] (NC, I, J, layR sw) 0 0 (qi (PC s (-2) I J))) ∧
    (¬ (v < nI 1 ∨ nI m < v) → X G d zX11_set 35 [(0, vr 0), (1, vi x), (2, vi v), (3, vi (nI m))] [] (NC, I, J, layR sw) 0 0 (qi (PC (setS s a v.toNatClampNeg) (nI (dS s.2.1 a)) I J))) := by
  subst hx
  refine ⟨fun h => ?_, fun h => ?_⟩
  · refine X_bipush (v := (-2)) dX11_set_32 (by decide) ?_
    exact X_iret dX11_set_34 rfl ⟨_, rfl, PC_same hi⟩
  · obtain ⟨c, hc1, hc2, rfl⟩ := in1 hm (fun q => h (Or.inl q)) (Int32.not_lt.mp (fun q => h (Or.inr q)))
    rw [nI_clamp (by omega)]
    refine X_aload_n dX11_set_35 rfl ?_
    refine X_getR dX11_set_36 gf_X11_19 (by first | assumption | rfl) (by first | assumption | exact Nat.le_of_ble_eq_true rfl | omega) rfl (by first | assumption | rfl) ?_
    refine X_getR dX11_set_39 gf_X11_194 (by first | assumption | rfl) (by first | assumption | exact Nat.le_of_ble_eq_true rfl | omega) rfl (by first | assumption | rfl) ?_
    refine X_iload_n dX11_set_42 rfl ?_
    first | refine X_iald dX11_set_43 (by first | assumption | rfl) (by first | assumption | exact Nat.le_of_ble_eq_true rfl | omega) rfl (by first | decide | omega) (by decide) ?_ | refine X_ildA dX11_set_43 rfl (by omega) ?_ | refine X_ildM dX11_set_43 rfl (by omega) ?_ | refine X_sld dX11_set_43 rfl (by omega) (by omega) ?_
    rw [hi.2.1.2.2.2.1 a ha]
    refine X_istore dX11_set_44 rfl rfl ?_
    refine X_aload_n dX11_set_46 rfl ?_
    refine X_getR dX11_set_47 gf_X11_19 (by first | assumption | rfl) (by first | assumption | exact Nat.le_of_ble_eq_true rfl | omega) rfl (by first | assumption | rfl) ?_
    refine X_getR dX11_set_50 gf_X11_194 (by first | assumption | rfl) (by first | assumption | exact Nat.le_of_ble_eq_true rfl | omega) rfl (by first | assumption | rfl) ?_
    refine X_iload_n dX11_set_53 rfl ?_
    refine X_iload_n dX11_set_54 rfl ?_
    refine X_iast dX11_set_55 (by first | assumption | rfl) (by first | assumption | exact Nat.le_of_ble_eq_true rfl | omega) rfl (by first | decide | omega) (by decide) ?_
    refine X_iload dX11_set_56 rfl ?_
    refine X_iret dX11_set_58 rfl ⟨_, rfl, PC_mk ⟨?_, dk_set hv hi.2.1, ?_⟩ [13] (Fr.sr (by decide)) (by decide)⟩
    · exact hi.1.fr (by rw [sr_ne (by decide)]) (by rw [sr_ne (by decide)])
    · exact hi.2.2.fr hv (fun j a b => by rw [sr_ne (by omega)])
set_option maxRecDepth 20000 in
theorem C_set {x v : Int32} (hv : VSt s) (hi : CInv I s) : Y G d zX11_set [vr 0, vi x, vi v] (NC, I, J, layR sw) 0 0 (qi (PC (sp_set s x v).2 (sp_set s x v).1 I J)) := by
  refine Y_of rfl rfl (Nat.le_of_ble_eq_true rfl) rfl ?_
  unfold sp_set
  rcases icase x 5 (by decide) with h | ⟨a, ha, hx⟩ | h
  · rw [if_pos (Or.inl h)]
    refine X_iload_n dX11_set_0 rfl ?_
    refine X_if_lt (tgt := 9) dX11_set_1 (by decide) (fun h1 => ?_) (fun h1 => ?_)
    · refine X_bipush (v := (-2)) dX11_set_9 (by decide) ?_
      exact X_iret dX11_set_11 rfl ⟨_, rfl, PC_same hi⟩
    · exact absurd h h1
  · have hx0 : ¬ x < 0 := by rw [hx]; exact nneg (by omega)
    have hx5 : x < nI 5 := by rw [hx]; exact (nlt (by decide) (by omega)).mpr ha
    rw [if_neg (fun q => q.elim hx0 (fun q => absurd hx5 (Int32.not_lt.mpr q)))]
    have hcl : x.toNatClampNeg = a := by rw [hx]; exact nI_clamp (by omega)
    refine X_iload_n dX11_set_0 rfl ?_
    refine X_if_lt (tgt := 9) dX11_set_1 (by decide) (fun h1 => ?_) (fun h1 => ?_)
    · exact absurd h1 hx0
    refine X_iload_n dX11_set_4 rfl ?_
    refine X_iconst (v := nI 5) dX11_set_5 (by decide) ?_
    refine X_icmp_lt (tgt := 12) dX11_set_6 (by decide) (fun h6 => ?_) (fun h6 => ?_)
    · refine X_iload_n dX11_set_12 rfl ?_
      refine X_if_ne (tgt := 20) dX11_set_13 (by decide) (fun h13 => ?_) (fun h13 => ?_)
      · rw [if_neg h13]
        refine X_iconst (v := nI 5) dX11_set_20 (by decide) ?_
        refine X_istore_n dX11_set_21 rfl rfl ?_
        refine X_iload_n dX11_set_22 rfl ?_
        refine X_iconst (v := nI 1) dX11_set_23 (by decide) ?_
        obtain ⟨t1, t2⟩ := c_set_tail (G := G) (d := d) (J := J) (sw := sw) (v := v) (lv := []) (b := 0) hv hi ha hx (show 5 < 1000 by decide)
        refine X_icmp_lt (tgt := 32) dX11_set_24 (by decide) (fun h24 => ?_) (fun h24 => ?_)
        · rw [if_pos (Or.inl h24)]
          exact t1 (Or.inl h24)
        refine X_iload_n dX11_set_27 rfl ?_
        refine X_iload_n dX11_set_28 rfl ?_
        refine X_icmp_le (tgt := 35) dX11_set_29 (by decide) (fun h29 => ?_) (fun h29 => ?_)
        · rw [if_neg (fun q => q.elim h24 (fun q => absurd h29 (Int32.not_le.mpr q))), hcl]
          exact t2 (fun q => q.elim h24 (fun q => absurd h29 (Int32.not_le.mpr q)))
        · rw [if_pos (Or.inr (Int32.not_le.mp h29))]
          exact t1 (Or.inr (Int32.not_le.mp h29))
      · rw [if_pos h13]
        refine X_iconst (v := nI 3) dX11_set_16 (by decide) ?_
        refine X_goto (tgt := 21) dX11_set_17 (by decide) ?_
        refine X_istore_n dX11_set_21 rfl rfl ?_
        refine X_iload_n dX11_set_22 rfl ?_
        refine X_iconst (v := nI 1) dX11_set_23 (by decide) ?_
        obtain ⟨t1, t2⟩ := c_set_tail (G := G) (d := d) (J := J) (sw := sw) (v := v) (lv := []) (b := 0) hv hi ha hx (show 3 < 1000 by decide)
        refine X_icmp_lt (tgt := 32) dX11_set_24 (by decide) (fun h24 => ?_) (fun h24 => ?_)
        · rw [if_pos (Or.inl h24)]
          exact t1 (Or.inl h24)
        refine X_iload_n dX11_set_27 rfl ?_
        refine X_iload_n dX11_set_28 rfl ?_
        refine X_icmp_le (tgt := 35) dX11_set_29 (by decide) (fun h29 => ?_) (fun h29 => ?_)
        · rw [if_neg (fun q => q.elim h24 (fun q => absurd h29 (Int32.not_le.mpr q))), hcl]
          exact t2 (fun q => q.elim h24 (fun q => absurd h29 (Int32.not_le.mpr q)))
        · rw [if_pos (Or.inr (Int32.not_le.mp h29))]
          exact t1 (Or.inr (Int32.not_le.mp h29))
    · exact absurd hx5 h6
  · rw [if_pos (Or.inr h.2)]
    refine X_iload_n dX11_set_0 rfl ?_
    refine X_if_lt (tgt := 9) dX11_set_1 (by decide) (fun h1 => ?_) (fun h1 => ?_)
    · exact absurd h1 h.1
    refine X_iload_n dX11_set_4 rfl ?_
    refine X_iconst (v := nI 5) dX11_set_5 (by decide) ?_
    refine X_icmp_lt (tgt := 12) dX11_set_6 (by decide) (fun h6 => ?_) (fun h6 => ?_)
    · exact absurd h6 (Int32.not_lt.mpr h.2)
    · refine X_bipush (v := (-2)) dX11_set_9 (by decide) ?_
      exact X_iret dX11_set_11 rfl ⟨_, rfl, PC_same hi⟩
set_option maxRecDepth 20000 in
theorem C_free (hv : VSt s) (hi : CInv I s) : Y G d zX11_free [vr 0] (NC, I, J, layR sw) 0 0 (qi (PC (sp_free s).2 (sp_free s).1 I J)) := by
  refine Y_of rfl rfl (Nat.le_of_ble_eq_true rfl) rfl ?_
  refine X_aload_n dX11_free_0 rfl ?_
  refine X_getR dX11_free_1 gf_X11_19 (by first | assumption | rfl) (by first | assumption | exact Nat.le_of_ble_eq_true rfl | omega) rfl (by first | assumption | rfl) ?_
  refine X_getI dX11_free_4 gf_X11_237 (by first | assumption | rfl) (by first | assumption | exact Nat.le_of_ble_eq_true rfl | omega) rfl ?_
  rw [hi.2.1.2.2.2.2.1]
  refine X_istore_n dX11_free_7 rfl rfl ?_
  refine X_aload_n dX11_free_8 rfl ?_
  refine X_getR dX11_free_9 gf_X11_19 (by first | assumption | rfl) (by first | assumption | exact Nat.le_of_ble_eq_true rfl | omega) rfl (by first | assumption | rfl) ?_
  refine X_iconst (v := nI 0) dX11_free_12 (by decide) ?_
  refine X_putI dX11_free_13 gf_X11_237 (Or.inl rfl) (by first | assumption | rfl) (by first | assumption | exact Nat.le_of_ble_eq_true rfl | omega) rfl ?_
  refine X_iload_n dX11_free_16 rfl ?_
  refine X_iret dX11_free_17 rfl ⟨_, rfl, PC_mk ⟨?_, ?_, ?_⟩ [7] (Fr.sr (by decide)) (by decide)⟩
  · exact hi.1.fr (by rw [sr_ne (by decide)]) (by rw [sr_ne (by decide)])
  · obtain ⟨h1, h2, h3, h4, h5, h6⟩ := hi.2.1
    exact ⟨h1.fr (by rw [sr_ne (by decide)]) (by rw [sr_ne (by decide)]), h2.fr (by rw [sr_ne (by decide)]) (by rw [sr_ne (by decide)]), by rw [sr_eq, up_ne (by decide)]; exact h3, fun j hj => by rw [sr_ne (by decide)]; exact h4 j hj, by rw [sr_eq, up_eq]; rfl, fun j hj => absurd hj (Nat.not_lt_zero j)⟩
  · exact hi.2.2.fr hv (fun j a b => by rw [sr_ne (by omega)])
/-- isNoStep, isNoPlace, isNoRule -/
theorem c_isNoStep_f {Q : Int32 → Mm → Prop} {n a : Nat} (hn : I 8 1 = nI n) (hn2 : n ≤ 12) (ha : a < n) (hQ : Q (nI 0) (NC, I, J, layR sw)) : Y G d zX11_isNoStep [vr 0, vi (nI a)] (NC, I, J, layR sw) 0 0 (qi Q) := by
  refine Y_of rfl rfl (Nat.le_of_ble_eq_true rfl) rfl ?_
  refine X_iload_n dX11_isNoStep_0 rfl ?_
  refine X_if_lt (tgt := 18) dX11_isNoStep_1 (by decide) (fun h1 => ?_) (fun h1 => ?_)
  · exact absurd h1 (nneg (by omega))
  refine X_iload_n dX11_isNoStep_4 rfl ?_
  refine X_aload_n dX11_isNoStep_5 rfl ?_
  refine X_getR dX11_isNoStep_6 gf_X11_19 (by first | assumption | rfl) (by first | assumption | exact Nat.le_of_ble_eq_true rfl | omega) rfl (by first | assumption | rfl) ?_
  refine X_getR dX11_isNoStep_9 gf_X11_106 (by first | assumption | rfl) (by first | assumption | exact Nat.le_of_ble_eq_true rfl | omega) rfl (by first | assumption | rfl) ?_
  refine X_getI dX11_isNoStep_12 gf_X11_116 (by first | assumption | rfl) (by first | assumption | exact Nat.le_of_ble_eq_true rfl | omega) rfl ?_
  rw [hn]
  refine X_icmp_lt (tgt := 22) dX11_isNoStep_15 (by decide) (fun h15 => ?_) (fun h15 => ?_)
  · refine X_iconst (v := nI 0) dX11_isNoStep_22 (by decide) ?_
    exact X_zret dX11_isNoStep_23 rfl (by first | rfl | (simp; done) | decide) ⟨_, rfl, hQ⟩
  · exact absurd ((nlt (by omega) (by omega)).mpr ha) h15
theorem c_isNoStep_t {Q : Int32 → Mm → Prop} {n : Nat} {x : Int32} (hn : I 8 1 = nI n) (hx : x < 0 ∨ nI n ≤ x) (hQ : Q (nI 1) (NC, I, J, layR sw)) : Y G d zX11_isNoStep [vr 0, vi x] (NC, I, J, layR sw) 0 0 (qi Q) := by
  refine Y_of rfl rfl (Nat.le_of_ble_eq_true rfl) rfl ?_
  refine X_iload_n dX11_isNoStep_0 rfl ?_
  refine X_if_lt (tgt := 18) dX11_isNoStep_1 (by decide) (fun h1 => ?_) (fun h1 => ?_)
  · refine X_iconst (v := nI 1) dX11_isNoStep_18 (by decide) ?_
    refine X_goto (tgt := 23) dX11_isNoStep_19 (by decide) ?_
    exact X_zret dX11_isNoStep_23 rfl (by first | rfl | (simp; done) | decide) ⟨_, rfl, hQ⟩
  refine X_iload_n dX11_isNoStep_4 rfl ?_
  refine X_aload_n dX11_isNoStep_5 rfl ?_
  refine X_getR dX11_isNoStep_6 gf_X11_19 (by first | assumption | rfl) (by first | assumption | exact Nat.le_of_ble_eq_true rfl | omega) rfl (by first | assumption | rfl) ?_
  refine X_getR dX11_isNoStep_9 gf_X11_106 (by first | assumption | rfl) (by first | assumption | exact Nat.le_of_ble_eq_true rfl | omega) rfl (by first | assumption | rfl) ?_
  refine X_getI dX11_isNoStep_12 gf_X11_116 (by first | assumption | rfl) (by first | assumption | exact Nat.le_of_ble_eq_true rfl | omega) rfl ?_
  rw [hn]
  refine X_icmp_lt (tgt := 22) dX11_isNoStep_15 (by decide) (fun h15 => ?_) (fun h15 => ?_)
  · exact absurd h15 (hx.elim (fun h => absurd h h1) (fun h => Int32.not_lt.mpr h))
  · refine X_iconst (v := nI 1) dX11_isNoStep_18 (by decide) ?_
    refine X_goto (tgt := 23) dX11_isNoStep_19 (by decide) ?_
    exact X_zret dX11_isNoStep_23 rfl (by first | rfl | (simp; done) | decide) ⟨_, rfl, hQ⟩
theorem c_isNoPlace_f {Q : Int32 → Mm → Prop} {n a : Nat} (hn : I 8 1 = nI n) (hn2 : n ≤ 12) (ha : a ≤ n) (hQ : Q (nI 0) (NC, I, J, layR sw)) : Y G d zX11_isNoPlace [vr 0, vi (nI a)] (NC, I, J, layR sw) 0 0 (qi Q) := by
  refine Y_of rfl rfl (Nat.le_of_ble_eq_true rfl) rfl ?_
  refine X_iload_n dX11_isNoPlace_0 rfl ?_
  refine X_if_lt (tgt := 18) dX11_isNoPlace_1 (by decide) (fun h1 => ?_) (fun h1 => ?_)
  · exact absurd h1 (nneg (by omega))
  refine X_iload_n dX11_isNoPlace_4 rfl ?_
  refine X_aload_n dX11_isNoPlace_5 rfl ?_
  refine X_getR dX11_isNoPlace_6 gf_X11_19 (by first | assumption | rfl) (by first | assumption | exact Nat.le_of_ble_eq_true rfl | omega) rfl (by first | assumption | rfl) ?_
  refine X_getR dX11_isNoPlace_9 gf_X11_106 (by first | assumption | rfl) (by first | assumption | exact Nat.le_of_ble_eq_true rfl | omega) rfl (by first | assumption | rfl) ?_
  refine X_getI dX11_isNoPlace_12 gf_X11_116 (by first | assumption | rfl) (by first | assumption | exact Nat.le_of_ble_eq_true rfl | omega) rfl ?_
  rw [hn]
  refine X_icmp_le (tgt := 22) dX11_isNoPlace_15 (by decide) (fun h15 => ?_) (fun h15 => ?_)
  · refine X_iconst (v := nI 0) dX11_isNoPlace_22 (by decide) ?_
    exact X_zret dX11_isNoPlace_23 rfl (by first | rfl | (simp; done) | decide) ⟨_, rfl, hQ⟩
  · exact absurd ((nle (by omega) (by omega)).mpr ha) h15
theorem c_isNoPlace_t {Q : Int32 → Mm → Prop} {n : Nat} {x : Int32} (hn : I 8 1 = nI n) (hx : x < 0 ∨ nI n < x) (hQ : Q (nI 1) (NC, I, J, layR sw)) : Y G d zX11_isNoPlace [vr 0, vi x] (NC, I, J, layR sw) 0 0 (qi Q) := by
  refine Y_of rfl rfl (Nat.le_of_ble_eq_true rfl) rfl ?_
  refine X_iload_n dX11_isNoPlace_0 rfl ?_
  refine X_if_lt (tgt := 18) dX11_isNoPlace_1 (by decide) (fun h1 => ?_) (fun h1 => ?_)
  · refine X_iconst (v := nI 1) dX11_isNoPlace_18 (by decide) ?_
    refine X_goto (tgt := 23) dX11_isNoPlace_19 (by decide) ?_
    exact X_zret dX11_isNoPlace_23 rfl (by first | rfl | (simp; done) | decide) ⟨_, rfl, hQ⟩
  refine X_iload_n dX11_isNoPlace_4 rfl ?_
  refine X_aload_n dX11_isNoPlace_5 rfl ?_
  refine X_getR dX11_isNoPlace_6 gf_X11_19 (by first | assumption | rfl) (by first | assumption | exact Nat.le_of_ble_eq_true rfl | omega) rfl (by first | assumption | rfl) ?_
  refine X_getR dX11_isNoPlace_9 gf_X11_106 (by first | assumption | rfl) (by first | assumption | exact Nat.le_of_ble_eq_true rfl | omega) rfl (by first | assumption | rfl) ?_
  refine X_getI dX11_isNoPlace_12 gf_X11_116 (by first | assumption | rfl) (by first | assumption | exact Nat.le_of_ble_eq_true rfl | omega) rfl ?_
  rw [hn]
  refine X_icmp_le (tgt := 22) dX11_isNoPlace_15 (by decide) (fun h15 => ?_) (fun h15 => ?_)
  · exact absurd h15 (hx.elim (fun h => absurd h h1) (fun h => Int32.not_le.mpr h))
  · refine X_iconst (v := nI 1) dX11_isNoPlace_18 (by decide) ?_
    refine X_goto (tgt := 23) dX11_isNoPlace_19 (by decide) ?_
    exact X_zret dX11_isNoPlace_23 rfl (by first | rfl | (simp; done) | decide) ⟨_, rfl, hQ⟩
theorem c_isNoRule_f {Q : Int32 → Mm → Prop} {n a : Nat} (hn : I 7 4 = nI n) (hn2 : n ≤ 4) (ha : a < n) (hQ : Q (nI 0) (NC, I, J, layR sw)) : Y G d zX11_isNoRule [vr 0, vi (nI a)] (NC, I, J, layR sw) 0 0 (qi Q) := by
  refine Y_of rfl rfl (Nat.le_of_ble_eq_true rfl) rfl ?_
  refine X_iload_n dX11_isNoRule_0 rfl ?_
  refine X_if_lt (tgt := 15) dX11_isNoRule_1 (by decide) (fun h1 => ?_) (fun h1 => ?_)
  · exact absurd h1 (nneg (by omega))
  refine X_iload_n dX11_isNoRule_4 rfl ?_
  refine X_aload_n dX11_isNoRule_5 rfl ?_
  refine X_getR dX11_isNoRule_6 gf_X11_19 (by first | assumption | rfl) (by first | assumption | exact Nat.le_of_ble_eq_true rfl | omega) rfl (by first | assumption | rfl) ?_
  refine X_getI dX11_isNoRule_9 gf_X11_237 (by first | assumption | rfl) (by first | assumption | exact Nat.le_of_ble_eq_true rfl | omega) rfl ?_
  rw [hn]
  refine X_icmp_lt (tgt := 19) dX11_isNoRule_12 (by decide) (fun h15 => ?_) (fun h15 => ?_)
  · refine X_iconst (v := nI 0) dX11_isNoRule_19 (by decide) ?_
    exact X_zret dX11_isNoRule_20 rfl (by first | rfl | (simp; done) | decide) ⟨_, rfl, hQ⟩
  · exact absurd ((nlt (by omega) (by omega)).mpr ha) h15
theorem c_isNoRule_t {Q : Int32 → Mm → Prop} {n : Nat} {x : Int32} (hn : I 7 4 = nI n) (hx : x < 0 ∨ nI n ≤ x) (hQ : Q (nI 1) (NC, I, J, layR sw)) : Y G d zX11_isNoRule [vr 0, vi x] (NC, I, J, layR sw) 0 0 (qi Q) := by
  refine Y_of rfl rfl (Nat.le_of_ble_eq_true rfl) rfl ?_
  refine X_iload_n dX11_isNoRule_0 rfl ?_
  refine X_if_lt (tgt := 15) dX11_isNoRule_1 (by decide) (fun h1 => ?_) (fun h1 => ?_)
  · refine X_iconst (v := nI 1) dX11_isNoRule_15 (by decide) ?_
    refine X_goto (tgt := 20) dX11_isNoRule_16 (by decide) ?_
    exact X_zret dX11_isNoRule_20 rfl (by first | rfl | (simp; done) | decide) ⟨_, rfl, hQ⟩
  refine X_iload_n dX11_isNoRule_4 rfl ?_
  refine X_aload_n dX11_isNoRule_5 rfl ?_
  refine X_getR dX11_isNoRule_6 gf_X11_19 (by first | assumption | rfl) (by first | assumption | exact Nat.le_of_ble_eq_true rfl | omega) rfl (by first | assumption | rfl) ?_
  refine X_getI dX11_isNoRule_9 gf_X11_237 (by first | assumption | rfl) (by first | assumption | exact Nat.le_of_ble_eq_true rfl | omega) rfl ?_
  rw [hn]
  refine X_icmp_lt (tgt := 19) dX11_isNoRule_12 (by decide) (fun h15 => ?_) (fun h15 => ?_)
  · exact absurd h15 (hx.elim (fun h => absurd h h1) (fun h => Int32.not_lt.mpr h))
  · refine X_iconst (v := nI 1) dX11_isNoRule_15 (by decide) ?_
    refine X_goto (tgt := 20) dX11_isNoRule_16 (by decide) ?_
    exact X_zret dX11_isNoRule_20 rfl (by first | rfl | (simp; done) | decide) ⟨_, rfl, hQ⟩
theorem cd8 : IsCd 8 := ⟨rfl, rfl, fun _ => rfl, by decide⟩
theorem cd10 : IsCd 10 := ⟨rfl, rfl, fun _ => rfl, by decide⟩
set_option maxRecDepth 20000 in
theorem C_step {x w : Int32} (hd : 1 ≤ d) (hv : VSt s) (hi : CInv I s) : Y G d zX11_step [vr 0, vi x, vi w] (NC, I, J, layR sw) 0 0 (qi (PC s (sp_step s x w) I J)) := by
  have hn := hi.2.1.1.1
  have hn2 := hv.2.1.1.1
  refine Y_of rfl rfl (Nat.le_of_ble_eq_true rfl) rfl ?_
  unfold sp_step
  refine X_aload_n dX11_step_0 rfl ?_
  refine X_iload_n dX11_step_1 rfl ?_
  rcases icase x (dC s.2.1).1 (by omega) with h | ⟨a, ha, rfl⟩ | h
  · rw [if_pos (Or.inl h)]
    refine X_cVi dX11_step_2 ck_X11_123 rfl rfl (by first | assumption | rfl) (by first | assumption | exact Nat.le_of_ble_eq_true rfl | omega) (by omega) (Nat.le_of_ble_eq_true rfl) (c_isNoStep_t hn (Or.inl h) ?_)
    refine X_if_eq (tgt := 10) dX11_step_5 (by decide) (fun h5 => ?_) (fun h5 => ?_)
    · exact absurd h5 (by decide)
    · refine X_iconst (v := (-1)) dX11_step_8 (by decide) ?_
      exact X_iret dX11_step_9 rfl ⟨_, rfl, PC_same hi⟩
  · rw [if_neg (fun q => q.elim (nneg (by omega)) (fun q => absurd ((nle (by omega) (by omega)).mp q) (by omega))), nI_clamp (by omega)]
    refine X_cVi dX11_step_2 ck_X11_123 rfl rfl (by first | assumption | rfl) (by first | assumption | exact Nat.le_of_ble_eq_true rfl | omega) (by omega) (Nat.le_of_ble_eq_true rfl) (c_isNoStep_f hn hn2 ha ?_)
    refine X_if_eq (tgt := 10) dX11_step_5 (by decide) (fun h5 => ?_) (fun h5 => ?_)
    · refine X_iload_n dX11_step_10 rfl ?_
      refine X_if_lt (tgt := 19) dX11_step_11 (by decide) (fun h11 => ?_) (fun h11 => ?_)
      · rw [if_pos (Or.inl h11)]
        refine X_bipush (v := (-2)) dX11_step_19 (by decide) ?_
        exact X_iret dX11_step_21 rfl ⟨_, rfl, PC_same hi⟩
      refine X_iload_n dX11_step_14 rfl ?_
      refine X_iconst (v := nI 3) dX11_step_15 (by decide) ?_
      refine X_icmp_le (tgt := 22) dX11_step_16 (by decide) (fun h16 => ?_) (fun h16 => ?_)
      · rw [if_neg (fun q => q.elim h11 (fun q => absurd h16 (Int32.not_le.mpr q)))]
        obtain ⟨b, hb, rfl⟩ : ∃ b, b < 4 ∧ w = nI b := by
          rcases icase w 4 (by decide) with h | h | h
          · exact absurd h h11
          · exact h
          · exact absurd (Int32.lt_of_le_of_lt h16 (show nI 3 < nI 4 by decide)) (Int32.not_lt.mpr h.2)
        rw [nI_clamp (by omega)]
        refine X_aload_n dX11_step_22 rfl ?_
        refine X_getR dX11_step_23 gf_X11_19 (by first | assumption | rfl) (by first | assumption | exact Nat.le_of_ble_eq_true rfl | omega) rfl (by first | assumption | rfl) ?_
        refine X_getR dX11_step_26 gf_X11_106 (by first | assumption | rfl) (by first | assumption | exact Nat.le_of_ble_eq_true rfl | omega) rfl (by first | assumption | rfl) ?_
        refine X_iload_n dX11_step_29 rfl ?_
        refine X_iload_n dX11_step_30 rfl ?_
        refine X_cVi dX11_step_31 ck_X11_127 rfl rfl (by first | assumption | rfl) (by first | assumption | exact Nat.le_of_ble_eq_true rfl | omega) (by omega) (Nat.le_of_ble_eq_true rfl) (c_part cd8 hn hn2 ha hb ?_)
        rw [hi.2.1.1.2 a ha b hb]
        exact X_iret dX11_step_34 rfl ⟨_, rfl, PC_same hi⟩
      · rw [if_pos (Or.inr (Int32.not_le.mp h16))]
        refine X_bipush (v := (-2)) dX11_step_19 (by decide) ?_
        exact X_iret dX11_step_21 rfl ⟨_, rfl, PC_same hi⟩
    · exact absurd rfl h5
  · rw [if_pos (Or.inr h.2)]
    refine X_cVi dX11_step_2 ck_X11_123 rfl rfl (by first | assumption | rfl) (by first | assumption | exact Nat.le_of_ble_eq_true rfl | omega) (by omega) (Nat.le_of_ble_eq_true rfl) (c_isNoStep_t hn (Or.inr h.2) ?_)
    refine X_if_eq (tgt := 10) dX11_step_5 (by decide) (fun h5 => ?_) (fun h5 => ?_)
    · exact absurd h5 (by decide)
    · refine X_iconst (v := (-1)) dX11_step_8 (by decide) ?_
      exact X_iret dX11_step_9 rfl ⟨_, rfl, PC_same hi⟩
set_option maxRecDepth 20000 in
theorem C_keep (hd : 3 ≤ d) (hv : VSt s) (hi : CInv I s) : Y G d zX11_keep [vr 0] (NC, I, J, layR sw) 0 0 (qi (PC (sp_keep s).2 (sp_keep s).1 I J)) := by
  refine Y_of rfl rfl (Nat.le_of_ble_eq_true rfl) rfl ?_
  refine X_aload_n dX11_keep_0 rfl ?_
  refine X_getR dX11_keep_1 gf_X11_19 (by first | assumption | rfl) (by first | assumption | exact Nat.le_of_ble_eq_true rfl | omega) rfl (by first | assumption | rfl) ?_
  refine X_getR dX11_keep_4 gf_X11_138 (by first | assumption | rfl) (by first | assumption | exact Nat.le_of_ble_eq_true rfl | omega) rfl (by first | assumption | rfl) ?_
  refine X_aload_n dX11_keep_7 rfl ?_
  refine X_getR dX11_keep_8 gf_X11_19 (by first | assumption | rfl) (by first | assumption | exact Nat.le_of_ble_eq_true rfl | omega) rfl (by first | assumption | rfl) ?_
  refine X_getR dX11_keep_11 gf_X11_106 (by first | assumption | rfl) (by first | assumption | exact Nat.le_of_ble_eq_true rfl | omega) rfl (by first | assumption | rfl) ?_
  refine X_cVv dX11_keep_14 ck_X11_112 rfl rfl (by first | assumption | rfl) (by first | assumption | exact Nat.le_of_ble_eq_true rfl | omega) (by omega) (Nat.le_of_ble_eq_true rfl) (c_copy0 (by omega) cd10 cd8 (by decide) (fun I' hf h1 h2 => ?_))
  refine X_aload_n dX11_keep_17 rfl ?_
  refine X_getR dX11_keep_18 gf_X11_19 (by first | assumption | rfl) (by first | assumption | exact Nat.le_of_ble_eq_true rfl | omega) rfl (by first | assumption | rfl) ?_
  refine X_getR dX11_keep_21 gf_X11_138 (by first | assumption | rfl) (by first | assumption | exact Nat.le_of_ble_eq_true rfl | omega) rfl (by first | assumption | rfl) ?_
  refine X_getI dX11_keep_24 gf_X11_116 (by first | assumption | rfl) (by first | assumption | exact Nat.le_of_ble_eq_true rfl | omega) rfl ?_
  rw [h1, hi.2.1.1.1]
  refine X_iret dX11_keep_27 rfl ⟨_, rfl, PC_mk ⟨?_, ?_, ?_⟩ [10, 11] hf (by decide)⟩
  · exact hi.1.fr (by rw [hf 1 (by decide)]) (hf 2 (by decide))
  · obtain ⟨g1, g2, g3, g4, g5, g6⟩ := hi.2.1
    have := hv.2.1.2.2.2.2.1
    exact ⟨g1.fr (by rw [hf _ (by decide)]) (hf _ (by decide)), CR_copy g1 hv.2.1.1.1 h1 h2, by rw [hf _ (by decide)]; exact g3, fun j hj => by rw [hf _ (by decide)]; exact g4 j hj, by rw [hf _ (by decide)]; exact g5, fun j hj => ⟨(g6 j hj).1.fr (by rw [hf _ (by simp; omega)]) (hf _ (by simp; omega)), (g6 j hj).2.fr (by rw [hf _ (by simp; omega)]) (hf _ (by simp; omega))⟩⟩
  · exact hi.2.2.fr hv (fun j a b => hf j (by simp; omega))
set_option maxRecDepth 20000 in
theorem C_told {x : Int32} (hv : VSt s) (hi : CInv I s) : Y G d zX11_told [vr 0, vi x] (NC, I, J, layR sw) 0 0 (qi (PC s (sp_told s x) I J)) := by
  refine Y_of rfl rfl (Nat.le_of_ble_eq_true rfl) rfl ?_
  unfold sp_told
  refine X_iload_n dX11_told_0 rfl ?_
  rcases icase x 10 (by decide) with h | ⟨a, ha, rfl⟩ | h
  · rw [if_pos (Or.inl h)]
    refine X_tableOut (tgt := 102) dX11_told_1 (Or.inl (Int32.lt_iff_toInt_lt.mp h)) (by decide) ?_
    refine X_iload_n dX11_told_102 rfl ?_
    refine X_iconst (v := nI 4) dX11_told_103 (by decide) ?_
    refine X_icmp_lt (tgt := 127) dX11_told_104 (by decide) (fun h104 => ?_) (fun h104 => ?_)
    · refine X_bipush (v := (-2)) dX11_told_127 (by decide) ?_
      exact X_iret dX11_told_129 rfl ⟨_, rfl, PC_same hi⟩
    · exact absurd (Int32.lt_trans h (by decide)) h104
  · rw [if_neg (fun q => q.elim (nneg (by omega)) (fun q => absurd ((nle (by omega) (by omega)).mp q) (by omega))), nI_clamp (by omega)]
    have tail : ∀ k, 4 ≤ k → k < 9 → X G d zX11_told 102 [(0, vr 0), (1, vi (nI k))] [] (NC, I, J, layR sw) 0 0 (qi (PC s (nI (dS s.2.1 (k - 4))) I J)) := by
      intro k h4 h9
      refine X_iload_n dX11_told_102 rfl ?_
      refine X_iconst (v := nI 4) dX11_told_103 (by decide) ?_
      refine X_icmp_lt (tgt := 127) dX11_told_104 (by decide) (fun h104 => ?_) (fun h104 => ?_)
      · exact absurd ((nlt (by omega) (by omega)).mp h104) (by omega)
      refine X_iload_n dX11_told_107 rfl ?_
      refine X_bipush (v := nI 9) dX11_told_108 (by decide) ?_
      refine X_icmp_ge (tgt := 127) dX11_told_110 (by decide) (fun h110 => ?_) (fun h110 => ?_)
      · exact absurd ((nle (by omega) (by omega)).mp h110) (by omega)
      refine X_aload_n dX11_told_113 rfl ?_
      refine X_getR dX11_told_114 gf_X11_19 (by first | assumption | rfl) (by first | assumption | exact Nat.le_of_ble_eq_true rfl | omega) rfl (by first | assumption | rfl) ?_
      refine X_getR dX11_told_117 gf_X11_194 (by first | assumption | rfl) (by first | assumption | exact Nat.le_of_ble_eq_true rfl | omega) rfl (by first | assumption | rfl) ?_
      refine X_iload_n dX11_told_120 rfl ?_
      refine X_iconst (v := nI 4) dX11_told_121 (by decide) ?_
      first | refine X_isubN dX11_told_122 (by omega) ?_ | refine X_isub dX11_told_122 ?_
      first | refine X_iald dX11_told_123 (by first | assumption | rfl) (by first | assumption | exact Nat.le_of_ble_eq_true rfl | omega) rfl (by first | decide | omega) (by decide) ?_ | refine X_ildA dX11_told_123 rfl (by omega) ?_ | refine X_ildM dX11_told_123 rfl (by omega) ?_ | refine X_sld dX11_told_123 rfl (by omega) (by omega) ?_
      rw [hi.2.1.2.2.2.1 (k - 4) (by omega)]
      refine X_goto (tgt := 129) dX11_told_124 (by decide) ?_
      exact X_iret dX11_told_129 rfl ⟨_, rfl, PC_same hi⟩
    rcases (by omega : a = 0 ∨ a = 1 ∨ a = 2 ∨ a = 3 ∨ a = 4 ∨ a = 5 ∨ a = 6 ∨ a = 7 ∨ a = 8 ∨ a = 9) with rfl | rfl | rfl | rfl | rfl | rfl | rfl | rfl | rfl | rfl
    · refine X_tableIn (off := 55) (tgt := 56) dX11_told_1 (by decide) (by decide) (by decide) (by decide) ?_
      refine X_aload_n dX11_told_56 rfl ?_
      refine X_getR dX11_told_57 gf_X11_19 (by first | assumption | rfl) (by first | assumption | exact Nat.le_of_ble_eq_true rfl | omega) rfl (by first | assumption | rfl) ?_
      refine X_getR dX11_told_60 gf_X11_106 (by first | assumption | rfl) (by first | assumption | exact Nat.le_of_ble_eq_true rfl | omega) rfl (by first | assumption | rfl) ?_
      refine X_getI dX11_told_63 gf_X11_116 (by first | assumption | rfl) (by first | assumption | exact Nat.le_of_ble_eq_true rfl | omega) rfl ?_
      rw [hi.2.1.1.1]
      exact X_iret dX11_told_66 rfl ⟨_, rfl, PC_same hi⟩
    · refine X_tableIn (off := 66) (tgt := 67) dX11_told_1 (by decide) (by decide) (by decide) (by decide) ?_
      refine X_aload_n dX11_told_67 rfl ?_
      refine X_getR dX11_told_68 gf_X11_12 (by first | assumption | rfl) (by first | assumption | exact Nat.le_of_ble_eq_true rfl | omega) rfl (by first | assumption | rfl) ?_
      refine X_getI dX11_told_71 gf_X11_288 (by first | assumption | rfl) (by first | assumption | exact Nat.le_of_ble_eq_true rfl | omega) rfl ?_
      rw [hi.1.1]
      exact X_iret dX11_told_74 rfl ⟨_, rfl, PC_same hi⟩
    · refine X_tableIn (off := 74) (tgt := 75) dX11_told_1 (by decide) (by decide) (by decide) (by decide) ?_
      refine X_aload_n dX11_told_75 rfl ?_
      refine X_getR dX11_told_76 gf_X11_19 (by first | assumption | rfl) (by first | assumption | exact Nat.le_of_ble_eq_true rfl | omega) rfl (by first | assumption | rfl) ?_
      refine X_getI dX11_told_79 gf_X11_120 (by first | assumption | rfl) (by first | assumption | exact Nat.le_of_ble_eq_true rfl | omega) rfl ?_
      rw [hi.2.1.2.2.1]
      exact X_iret dX11_told_82 rfl ⟨_, rfl, PC_same hi⟩
    · refine X_tableIn (off := 82) (tgt := 83) dX11_told_1 (by decide) (by decide) (by decide) (by decide) ?_
      refine X_aload_n dX11_told_83 rfl ?_
      refine X_getR dX11_told_84 gf_X11_19 (by first | assumption | rfl) (by first | assumption | exact Nat.le_of_ble_eq_true rfl | omega) rfl (by first | assumption | rfl) ?_
      refine X_getI dX11_told_87 gf_X11_237 (by first | assumption | rfl) (by first | assumption | exact Nat.le_of_ble_eq_true rfl | omega) rfl ?_
      rw [hi.2.1.2.2.2.2.1]
      exact X_iret dX11_told_90 rfl ⟨_, rfl, PC_same hi⟩
    · refine X_tableIn (off := 101) (tgt := 102) dX11_told_1 (by decide) (by decide) (by decide) (by decide) ?_
      exact tail 4 (by decide) (by decide)
    · refine X_tableIn (off := 101) (tgt := 102) dX11_told_1 (by decide) (by decide) (by decide) (by decide) ?_
      exact tail 5 (by decide) (by decide)
    · refine X_tableIn (off := 101) (tgt := 102) dX11_told_1 (by decide) (by decide) (by decide) (by decide) ?_
      exact tail 6 (by decide) (by decide)
    · refine X_tableIn (off := 101) (tgt := 102) dX11_told_1 (by decide) (by decide) (by decide) (by decide) ?_
      exact tail 7 (by decide) (by decide)
    · refine X_tableIn (off := 101) (tgt := 102) dX11_told_1 (by decide) (by decide) (by decide) (by decide) ?_
      exact tail 8 (by decide) (by decide)
    · refine X_tableIn (off := 90) (tgt := 91) dX11_told_1 (by decide) (by decide) (by decide) (by decide) ?_
      refine X_aload_n dX11_told_91 rfl ?_
      refine X_getR dX11_told_92 gf_X11_19 (by first | assumption | rfl) (by first | assumption | exact Nat.le_of_ble_eq_true rfl | omega) rfl (by first | assumption | rfl) ?_
      refine X_getR dX11_told_95 gf_X11_138 (by first | assumption | rfl) (by first | assumption | exact Nat.le_of_ble_eq_true rfl | omega) rfl (by first | assumption | rfl) ?_
      refine X_getI dX11_told_98 gf_X11_116 (by first | assumption | rfl) (by first | assumption | exact Nat.le_of_ble_eq_true rfl | omega) rfl ?_
      rw [hi.2.1.2.1.1]
      exact X_iret dX11_told_101 rfl ⟨_, rfl, PC_same hi⟩
  · rw [if_pos (Or.inr h.2)]
    refine X_tableOut (tgt := 102) dX11_told_1 (Or.inr (Int.lt_of_lt_of_le (by decide) (Int32.le_iff_toInt_le.mp h.2))) (by decide) ?_
    refine X_iload_n dX11_told_102 rfl ?_
    refine X_iconst (v := nI 4) dX11_told_103 (by decide) ?_
    refine X_icmp_lt (tgt := 127) dX11_told_104 (by decide) (fun h104 => ?_) (fun h104 => ?_)
    · exact absurd h104 (Int32.not_lt.mpr (ige h.2 (by decide) (by decide)))
    refine X_iload_n dX11_told_107 rfl ?_
    refine X_bipush (v := nI 9) dX11_told_108 (by decide) ?_
    refine X_icmp_ge (tgt := 127) dX11_told_110 (by decide) (fun h110 => ?_) (fun h110 => ?_)
    · refine X_bipush (v := (-2)) dX11_told_127 (by decide) ?_
      exact X_iret dX11_told_129 rfl ⟨_, rfl, PC_same hi⟩
    · exact absurd (ige h.2 (by decide) (by decide)) h110
end CE
