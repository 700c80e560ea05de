/-! ticks -/
def dly (c : Nat → Nat → Nat) (S : Nat → Nat) (i : Nat) : Nat := if c i 1 = 43 then S 1 else if c i 1 = 45 then S 2 else if c i 1 = 42 then S 3 else if c i 1 = 109 then S 4 else 1
def dpm (A E : Nat) (dl tk : Nat → Nat) (b : Nat) : Nat → Nat
  | 0 => b
  | j + 1 => if E.testBit j = true then max (if A.testBit j = true then max (dpm A E dl tk b j) (tk j + dl j) else dpm A E dl tk b j) (tk j + 1) else (if A.testBit j = true then max (dpm A E dl tk b j) (tk j + dl j) else dpm A E dl tk b j)
theorem dpm_max {A E : Nat} {dl tk : Nat → Nat} {b : Nat} : ∀ j, dpm A E dl tk b j = max b (dpm A E dl tk 0 j)
  | 0 => by unfold dpm; omega
  | j + 1 => by
    have ih := dpm_max (A := A) (E := E) (dl := dl) (tk := tk) (b := b) j
    unfold dpm
    rw [ih]
    by_cases h1 : A.testBit j = true <;> by_cases h2 : E.testBit j = true
    · rw [if_pos h1, if_pos h2, if_pos h1, if_pos h2]; omega
    · rw [if_pos h1, if_neg h2, if_pos h1, if_neg h2]; omega
    · rw [if_neg h1, if_pos h2, if_neg h1, if_pos h2]; omega
    · rw [if_neg h1, if_neg h2, if_neg h1, if_neg h2]
theorem dpm_cg {A E : Nat} {dl tk tk' : Nat → Nat} {b : Nat} : ∀ j, (∀ k, k < j → (A.testBit k = true ∨ E.testBit k = true) → tk k = tk' k) → dpm A E dl tk b j = dpm A E dl tk' b j
  | 0, _ => rfl
  | j + 1, h => by
    have ih := dpm_cg (b := b) (dl := dl) j (fun k hk => h k (by omega))
    unfold dpm
    rw [ih]
    by_cases h1 : A.testBit j = true
    · rw [h j (Nat.lt_succ_self j) (Or.inl h1)]
    · rw [if_neg h1, if_neg h1]
      by_cases h2 : E.testBit j = true
      · rw [h j (Nat.lt_succ_self j) (Or.inr h2)]
      · rw [if_neg h2, if_neg h2]
theorem dpm_hi {A E : Nat} {dl tk : Nat → Nat} {b i : Nat} (hA : A < 2 ^ i) (hE : E < 2 ^ i) : ∀ k, dpm A E dl tk b (i + k) = dpm A E dl tk b i
  | 0 => rfl
  | k + 1 => by
    have h1 : A.testBit (i + k) = false := Nat.testBit_lt_two_pow (Nat.lt_of_lt_of_le hA (Nat.pow_le_pow_right (by decide) (by omega)))
    have h2 : E.testBit (i + k) = false := Nat.testBit_lt_two_pow (Nat.lt_of_lt_of_le hE (Nat.pow_le_pow_right (by decide) (by omega)))
    have ih := dpm_hi (dl := dl) (tk := tk) (b := b) hA hE k
    rw [← Nat.add_assoc]
    show (if E.testBit (i + k) = true then max (if A.testBit (i + k) = true then max (dpm A E dl tk b (i + k)) (tk (i + k) + dl (i + k)) else dpm A E dl tk b (i + k)) (tk (i + k) + 1) else (if A.testBit (i + k) = true then max (dpm A E dl tk b (i + k)) (tk (i + k) + dl (i + k)) else dpm A E dl tk b (i + k))) = _
    rw [h1, h2, if_neg (by decide), if_neg (by decide)]
    exact ih
theorem dpm_le {A E : Nat} {dl tk : Nat → Nat} {b B : Nat} (hb : b ≤ B + 5) (hd : ∀ j, dl j ≤ 5) : ∀ j, (∀ k, tk k ≤ B) → dpm A E dl tk b j ≤ B + 5
  | 0, _ => hb
  | j + 1, h => by
    have ih := dpm_le (A := A) (E := E) hb hd j h
    have := h j
    have := hd j
    unfold dpm
    split <;> split <;> omega
/-- ticks, now, begun, end -/
abbrev TS : Type := (Nat → Nat) × Nat × Nat × Nat
def ftk (c : Nat → Nat → Nat) (dl : Nat → Nat) (u : Nat) (t : TS) (i : Nat) : Nat := dpm (ned c i) (awt c i) dl t.1 (if t.2.2.1 < u then t.2.1 else t.2.1 + 1) i
def tstp (c : Nat → Nat → Nat) (dl : Nat → Nat) (u : Nat) (t : TS) (i : Nat) : TS := (up t.1 i (ftk c dl u t i), ftk c dl u t i, if ftk c dl u t i = t.2.1 then t.2.2.1 + 1 else 1, max t.2.2.2 (ftk c dl u t i + dl i))
def trn (c : Nat → Nat → Nat) (dl : Nat → Nat) (u : Nat) (o : Nat → Nat) : Nat → TS
  | 0 => (fun _ => 0, 0, 0, 0)
  | k + 1 => tstp c dl u (trn c dl u o k) (o k)
def TB (u k : Nat) (t : TS) : Prop := (∀ j, t.1 j ≤ 6 * k) ∧ t.2.1 ≤ 6 * k ∧ t.2.2.1 ≤ u ∧ t.2.2.2 ≤ 6 * k + 5
theorem ftk_ge {c : Nat → Nat → Nat} {dl : Nat → Nat} {u i : Nat} {t : TS} : (if t.2.2.1 < u then t.2.1 else t.2.1 + 1) ≤ ftk c dl u t i := by
  unfold ftk
  rw [dpm_max]
  exact Nat.le_max_left _ _
theorem TB_stp {c : Nat → Nat → Nat} {dl : Nat → Nat} {u k i : Nat} {t : TS} (hu : 1 ≤ u) (hd : ∀ j, dl j ≤ 5) (h : TB u k t) : TB u (k + 1) (tstp c dl u t i) ∧ ftk c dl u t i ≤ 6 * k + 5 := by
  obtain ⟨h1, h2, h3, h4⟩ := h
  have hx : ftk c dl u t i ≤ 6 * k + 5 := dpm_le (by split <;> omega) hd i h1
  have hg := ftk_ge (c := c) (dl := dl) (u := u) (i := i) (t := t)
  have hdi := hd i
  refine ⟨⟨fun j => ?_, ?_, ?_, ?_⟩, hx⟩
  · show up t.1 i (ftk c dl u t i) j ≤ _
    by_cases hj : j = i
    · rw [hj, up_eq]; omega
    · rw [up_ne hj]; have := h1 j; omega
  · show ftk c dl u t i ≤ _; omega
  · show (if ftk c dl u t i = t.2.1 then t.2.2.1 + 1 else 1) ≤ u
    by_cases he : ftk c dl u t i = t.2.1
    · rw [if_pos he]
      by_cases hb : t.2.2.1 < u
      · omega
      · rw [if_neg hb] at hg; omega
    · rw [if_neg he]; exact hu
  · show max t.2.2.2 (ftk c dl u t i + dl i) ≤ _; omega
theorem TB_trn {c : Nat → Nat → Nat} {dl : Nat → Nat} {u : Nat} {o : Nat → Nat} (hu : 1 ≤ u) (hd : ∀ j, dl j ≤ 5) : ∀ k, TB u k (trn c dl u o k)
  | 0 => ⟨fun _ => Nat.le_refl 0, Nat.le_refl 0, Nat.zero_le u, Nat.zero_le _⟩
  | k + 1 => (TB_stp hu hd (TB_trn hu hd k)).1
theorem dly_ok {D : DD} (hv : VD D) (i : Nat) : 1 ≤ dly (dC D).2 (dS D) i ∧ dly (dC D).2 (dS D) i ≤ 5 := by
  obtain ⟨_, _, _, ⟨_, _, h⟩, _⟩ := hv
  have h1 := h 1 (by decide) (by decide)
  have h2 := h 2 (by decide) (by decide)
  have h3 := h 3 (by decide) (by decide)
  have h4 := h 4 (by decide) (by decide)
  unfold dly
  split
  · exact h1
  · split
    · exact h2
    · split
      · exact h3
      · split
        · exact h4
        · omega
/-- what the clock has been wound with -/
def CKk (I : Nat → Nat → Int32) (n : Nat) (c : Nat → Nat → Nat) (dl : Nat → Nat) (u : Nat) : Prop := I 128 7 = nI n ∧ I 128 8 = nI u ∧ ∀ i, i < n → I 130 i = nI (dl i) ∧ I 131 i = nI (ned c i) ∧ I 132 i = nI (awt c i)
def sp_tick (s : SS) (x : Int32) : Int32 := if x < 0 ∨ nI (dC s.2.1).1 ≤ x then -1 else nI ((trn (dC s.2.1).2 (dly (dC s.2.1).2 (dS s.2.1)) (dS s.2.1 0) (fun k => k) (dC s.2.1).1).1 x.toNatClampNeg)
def sp_time (s : SS) : Int32 := nI (trn (dC s.2.1).2 (dly (dC s.2.1).2 (dS s.2.1)) (dS s.2.1 0) (fun k => k) (dC s.2.1).1).2.2.2
section CT
variable {G : GG} {d : Nat} {sw : Bool} {I : Nat → Nat → Int32} {J : Nat → Nat → Int64} {s : SS} {n W : Nat} {c : Nat → Nat → Nat} {dl : Nat → Nat} {u : Nat}
theorem c_max {Q : Int32 → Mm → Prop} {M : Mm} {a b : Nat} (ha : a < 2 ^ 31) (hb : b < 2 ^ 31) (hQ : Q (nI (max a b)) M) : Y G d zJ9_max_7cf53 [vi (nI a), vi (nI b)] M 0 0 (qi Q) := by
  refine Y_ofF (by decide +kernel) rfl (Nat.le_of_ble_eq_true rfl) rfl ?_
  refine X_iload_n dJ9_max_7cf53_0 rfl ?_
  refine X_iload_n dJ9_max_7cf53_1 rfl ?_
  refine X_icmp_lt (tgt := 9) dJ9_max_7cf53_2 (by decide) (fun h => ?_) (fun h => ?_)
  · have h := (nlt hb ha).mp h
    refine X_iload_n dJ9_max_7cf53_9 rfl ?_
    exact X_iret dJ9_max_7cf53_10 rfl ⟨_, rfl, (by rwa [Nat.max_eq_right (by omega)] at hQ)⟩
  · have h : ¬ a < b := fun q => h ((nlt hb ha).mpr q)
    refine X_iload_n dJ9_max_7cf53_5 rfl ?_
    refine X_goto (tgt := 10) dJ9_max_7cf53_6 (by decide) ?_
    exact X_iret dJ9_max_7cf53_10 rfl ⟨_, rfl, (by rwa [Nat.max_eq_left (by omega)] at hQ)⟩
set_option maxRecDepth 20000 in
theorem c_delayOf {Q : Int32 → Mm → Prop} {i : Nat} {S : Nat → Nat} (ha : c i 1 = 99 ∨ iact (c i 1)) (hS : ∀ j, j < 5 → I 13 j = nI (S j)) (hQ : Q (nI (dly c S i)) (NC, I, J, layR sw)) : Y G d zX0_delayOf [vi (enc (c i 1)), vr 13] (NC, I, J, layR sw) 0 0 (qi Q) := by
  have step : ∀ k, k < 4 → (enc (c i 1) = actsF k → Q (nI (S (k + 1))) (NC, I, J, layR sw)) → (enc (c i 1) ≠ actsF k → X G d zX0_delayOf 2 [(0, vi (enc (c i 1))), (1, vr 13), (2, vi (nI (k + 1)))] [] (NC, I, J, layR sw) 0 0 (qi Q)) → X G d zX0_delayOf 2 [(0, vi (enc (c i 1))), (1, vr 13), (2, vi (nI k))] [] (NC, I, J, layR sw) 0 0 (qi Q) := by
    intro k hk h1 h2
    refine X_iload_n dX0_delayOf_2 rfl ?_
    refine X_gets dX0_delayOf_3 gs_X0_65 hzA ?_
    first | refine X_alen dX0_delayOf_6 (by first | assumption | rfl) (by decide) (by first | assumption | exact Nat.le_of_ble_eq_true rfl | omega) ?_ | refine X_alenA dX0_delayOf_6 ?_ | refine X_alenM dX0_delayOf_6 ?_ | refine X_slen dX0_delayOf_6 ?_
    refine X_icmp_ge (tgt := 31) dX0_delayOf_7 (by decide) (fun b => ?_) (fun b => ?_)
    · exact absurd ((nle (by omega) (by omega)).mp b) (by omega)
    refine X_gets dX0_delayOf_10 gs_X0_65 hzA ?_
    refine X_iload_n dX0_delayOf_13 rfl ?_
    first | refine X_iald dX0_delayOf_14 (by first | assumption | rfl) (by first | assumption | exact Nat.le_of_ble_eq_true rfl | omega) rfl (by first | decide | omega) (by decide) ?_ | refine X_ildA dX0_delayOf_14 rfl (by omega) ?_ | refine X_ildM dX0_delayOf_14 rfl (by omega) ?_ | refine X_sld dX0_delayOf_14 rfl (by omega) (by omega) ?_
    refine X_iload_n dX0_delayOf_15 rfl ?_
    refine X_icmp_ne (tgt := 25) dX0_delayOf_16 (by decide) (fun b16 => ?_) (fun b16 => ?_)
    · first | refine X_iinc1 dX0_delayOf_25 rfl rfl rfl ?_ | refine X_iinc dX0_delayOf_25 rfl rfl rfl rfl ?_
      refine X_goto (tgt := 2) dX0_delayOf_28 (by decide) ?_
      exact h2 (fun q => b16 q.symm)
    · refine X_aload_n dX0_delayOf_19 rfl ?_
      refine X_iload_n dX0_delayOf_20 rfl ?_
      refine X_iconst (v := nI 1) dX0_delayOf_21 (by decide) ?_
      first | refine X_iaddN dX0_delayOf_22 ?_ | refine X_iadd dX0_delayOf_22 ?_
      first | refine X_iald dX0_delayOf_23 (by first | assumption | rfl) (by first | assumption | exact Nat.le_of_ble_eq_true rfl | omega) rfl (by first | decide | omega) (by decide) ?_ | refine X_ildA dX0_delayOf_23 rfl (by omega) ?_ | refine X_ildM dX0_delayOf_23 rfl (by omega) ?_ | refine X_sld dX0_delayOf_23 rfl (by omega) (by omega) ?_
      rw [hS (k + 1) (by omega)]
      exact X_iret dX0_delayOf_24 rfl ⟨_, rfl, h1 b16.symm⟩
  have ne : ∀ a b : Nat, a < 200 → b < 200 → a ≠ b → enc a ≠ enc b := fun a b h1 h2 h3 q => h3 ((enc_inj h1 h2).mp q)
  refine Y_of rfl rfl (Nat.le_of_ble_eq_true rfl) rfl ?_
  refine X_iconst (v := nI 0) dX0_delayOf_0 (by decide) ?_
  refine X_istore_n dX0_delayOf_1 rfl rfl ?_
  unfold dly at hQ
  have ha2 : c i 1 < 200 := by unfold iact at ha; omega
  refine step 0 (by decide) (fun e => ?_) (fun e0 => step 1 (by decide) (fun e => ?_) (fun e1 => step 2 (by decide) (fun e => ?_) (fun e2 => step 3 (by decide) (fun e => ?_) (fun e3 => ?_))))
  · have : c i 1 = 43 := (enc_inj ha2 (show 43 < 200 by decide)).mp e
    rwa [if_pos this] at hQ
  · have : c i 1 = 45 := (enc_inj ha2 (show 45 < 200 by decide)).mp e
    rwa [if_neg (by omega), if_pos this] at hQ
  · have : c i 1 = 42 := (enc_inj ha2 (show 42 < 200 by decide)).mp e
    rwa [if_neg (by omega), if_neg (by omega), if_pos this] at hQ
  · have : c i 1 = 109 := (enc_inj ha2 (show 109 < 200 by decide)).mp e
    rwa [if_neg (by omega), if_neg (by omega), if_neg (by omega), if_pos this] at hQ
  · have n0 : c i 1 ≠ 43 := fun q => e0 (by rw [q]; rfl)
    have n1 : c i 1 ≠ 45 := fun q => e1 (by rw [q]; rfl)
    have n2 : c i 1 ≠ 42 := fun q => e2 (by rw [q]; rfl)
    have n3 : c i 1 ≠ 109 := fun q => e3 (by rw [q]; rfl)
    rw [if_neg n0, if_neg n1, if_neg n2, if_neg n3] at hQ
    refine X_iload_n dX0_delayOf_2 rfl ?_
    refine X_gets dX0_delayOf_3 gs_X0_65 hzA ?_
    first | refine X_alen dX0_delayOf_6 (by first | assumption | rfl) (by decide) (by first | assumption | exact Nat.le_of_ble_eq_true rfl | omega) ?_ | refine X_alenA dX0_delayOf_6 ?_ | refine X_alenM dX0_delayOf_6 ?_ | refine X_slen dX0_delayOf_6 ?_
    refine X_icmp_ge (tgt := 31) dX0_delayOf_7 (by decide) (fun b => ?_) (fun b => ?_)
    · refine X_iconst (v := nI 1) dX0_delayOf_31 (by decide) ?_
      exact X_iret dX0_delayOf_32 rfl ⟨_, rfl, hQ⟩
    · exact absurd (by decide) b
set_option maxRecDepth 20000 in
theorem c_wind {Q : Mm → Prop} {S : Nat → Nat} (hd : 1 ≤ d) (hc : CR I 8 n c) (hv : VC n c) (hL : LK I n c) (hS : ∀ j, j < 5 → I 13 j = nI (S j)) (hQ : ∀ I', Fr [128, 130, 131, 132] I I' → CKk I' n c (dly c S) (S 0) → Q (NC, I', J, layR sw)) : Y G d zX0_wind [vr 128, vr 8, vr 121, vr 13] (NC, I, J, layR sw) 0 0 (qv Q) := by
  have hn := hv.1
  have loop : ∀ (m i : Nat) (I' : Nat → Nat → Int32), m = n - i → i ≤ n → Fr [128, 130, 131, 132] I I' → I' 128 7 = nI n → I' 128 8 = nI (S 0) → (∀ j, j < i → I' 130 j = nI (dly c S j) ∧ I' 131 j = nI (ned c j) ∧ I' 132 j = nI (awt c j)) → X G d zX0_wind 18 [(0, vr 128), (1, vr 8), (2, vr 121), (3, vr 13), (4, vi (nI i))] [] (NC, I', J, layR sw) 0 0 (qv Q) := by
    intro m
    induction m with
    | zero =>
      intro i I' hm hi hF h7 h8 hj
      obtain rfl : i = n := by omega
      refine X_iload dX0_wind_18 rfl ?_
      refine X_aload_n dX0_wind_20 rfl ?_
      refine X_getI dX0_wind_21 gf_X0_51 (by first | assumption | rfl) (by first | assumption | exact Nat.le_of_ble_eq_true rfl | omega) rfl ?_
      rw [h7]
      refine X_icmp_ge (tgt := 79) dX0_wind_24 (by decide) (fun b => ?_) (fun b => ?_)
      · exact X_vret dX0_wind_79 rfl ⟨rfl, hQ I' hF ⟨h7, h8, hj⟩⟩
      · exact absurd (Int32.le_refl _) b
    | succ m ih =>
      intro i I' hm hi hF h7 h8 hj
      have hin : i < n := by omega
      have hc' : CR I' 8 n c := CR_fr hc hF (by simp) (by simp)
      have hL' := LK_fr hL hF (fun k a b => by simp; omega)
      obtain ⟨b1, b2, b3, b4⟩ := hL'.2.1 i hin
      refine X_iload dX0_wind_18 rfl ?_
      refine X_aload_n dX0_wind_20 rfl ?_
      refine X_getI dX0_wind_21 gf_X0_51 (by first | assumption | rfl) (by first | assumption | exact Nat.le_of_ble_eq_true rfl | omega) rfl ?_
      rw [h7]
      refine X_icmp_ge (tgt := 79) dX0_wind_24 (by decide) (fun b => ?_) (fun b => ?_)
      · exact absurd ((nle (by omega) (by omega)).mp b) (by omega)
      refine X_aload_n dX0_wind_27 rfl ?_
      refine X_getR dX0_wind_28 gf_X0_15 (by first | assumption | rfl) (by first | assumption | exact Nat.le_of_ble_eq_true rfl | omega) rfl (by first | assumption | rfl) ?_
      refine X_iload dX0_wind_31 rfl ?_
      refine X_aload_n dX0_wind_33 rfl ?_
      refine X_iload dX0_wind_34 rfl ?_
      refine X_iconst (v := nI 1) dX0_wind_36 (by decide) ?_
      refine X_cVi dX0_wind_37 ck_X0_55 rfl rfl (by first | assumption | rfl) (by first | assumption | exact Nat.le_of_ble_eq_true rfl | omega) (by omega) (Nat.le_of_ble_eq_true rfl) (c_part cd8 hc'.1 hn hin (by decide) ?_)
      rw [show I' (8 + 1) (i * 4 + 1) = enc (c i 1) from hc'.2 i hin 1 (by decide)]
      refine X_aload_n dX0_wind_40 rfl ?_
      refine X_cSi dX0_wind_41 ck_X0_59 rfl rfl (by omega) (Nat.le_of_ble_eq_true rfl) (c_delayOf ((hv.2 i hin).2.2.elim (fun q => Or.inl q.1) (fun q => Or.inr q.1)) (fun j h => by rw [hF 13 (by simp)]; exact hS j h) ?_)
      refine X_iast dX0_wind_44 (by first | assumption | rfl) (by first | assumption | exact Nat.le_of_ble_eq_true rfl | omega) rfl (by first | decide | omega) (by decide) ?_
      refine X_aload_n dX0_wind_45 rfl ?_
      refine X_getR dX0_wind_46 gf_X0_18 (by first | assumption | rfl) (by first | assumption | exact Nat.le_of_ble_eq_true rfl | omega) rfl (by first | assumption | rfl) ?_
      refine X_iload dX0_wind_49 rfl ?_
      refine X_aload_n dX0_wind_51 rfl ?_
      refine X_getR dX0_wind_52 gf_X0_63 (by first | assumption | rfl) (by first | assumption | exact Nat.le_of_ble_eq_true rfl | omega) rfl (by first | assumption | rfl) ?_
      refine X_iload dX0_wind_55 rfl ?_
      first | refine X_iald dX0_wind_57 (by first | assumption | rfl) (by first | assumption | exact Nat.le_of_ble_eq_true rfl | omega) rfl (by first | decide | omega) (by decide) ?_ | refine X_ildA dX0_wind_57 rfl (by omega) ?_ | refine X_ildM dX0_wind_57 rfl (by omega) ?_ | refine X_sld dX0_wind_57 rfl (by omega) (by omega) ?_
      rw [sr_ne (show 124 ≠ 130 by decide), b3]
      refine X_iast dX0_wind_58 (by first | assumption | rfl) (by first | assumption | exact Nat.le_of_ble_eq_true rfl | omega) rfl (by first | decide | omega) (by decide) ?_
      refine X_aload_n dX0_wind_59 rfl ?_
      refine X_getR dX0_wind_60 gf_X0_21 (by first | assumption | rfl) (by first | assumption | exact Nat.le_of_ble_eq_true rfl | omega) rfl (by first | assumption | rfl) ?_
      refine X_iload dX0_wind_63 rfl ?_
      refine X_aload_n dX0_wind_65 rfl ?_
      refine X_getR dX0_wind_66 gf_X0_64 (by first | assumption | rfl) (by first | assumption | exact Nat.le_of_ble_eq_true rfl | omega) rfl (by first | assumption | rfl) ?_
      refine X_iload dX0_wind_69 rfl ?_
      first | refine X_iald dX0_wind_71 (by first | assumption | rfl) (by first | assumption | exact Nat.le_of_ble_eq_true rfl | omega) rfl (by first | decide | omega) (by decide) ?_ | refine X_ildA dX0_wind_71 rfl (by omega) ?_ | refine X_ildM dX0_wind_71 rfl (by omega) ?_ | refine X_sld dX0_wind_71 rfl (by omega) (by omega) ?_
      rw [sr_ne (show 125 ≠ 131 by decide), sr_ne (show 125 ≠ 130 by decide), b4]
      refine X_iast dX0_wind_72 (by first | assumption | rfl) (by first | assumption | exact Nat.le_of_ble_eq_true rfl | omega) rfl (by first | decide | omega) (by decide) ?_
      first | refine X_iinc1 dX0_wind_73 rfl rfl rfl ?_ | refine X_iinc dX0_wind_73 rfl rfl rfl rfl ?_
      refine X_goto (tgt := 18) dX0_wind_76 (by decide) ?_
      refine ih (i + 1) _ (by omega) (by omega) (hF.tr (((Fr.sr (by simp)).tr (Fr.sr (by simp))).tr (Fr.sr (by simp)))) ?_ ?_ (fun j h => ?_)
      · rw [sr_ne (by decide), sr_ne (by decide), sr_ne (by decide)]; exact h7
      · rw [sr_ne (by decide), sr_ne (by decide), sr_ne (by decide)]; exact h8
      · rw [sr_ne (show 130 ≠ 132 by decide), sr_ne (show 130 ≠ 131 by decide), sr_eq, sr_ne (show 131 ≠ 132 by decide), sr_eq, sr_eq, sr_ne (show 131 ≠ 130 by decide), sr_ne (show 132 ≠ 131 by decide), sr_ne (show 132 ≠ 130 by decide)]
        by_cases hji : j = i
        · subst hji
          rw [up_eq, up_eq, up_eq]
          exact ⟨rfl, rfl, rfl⟩
        · rw [up_ne hji, up_ne hji, up_ne hji]
          exact hj j (by omega)
  refine Y_of rfl rfl (Nat.le_of_ble_eq_true rfl) rfl ?_
  refine X_aload_n dX0_wind_0 rfl ?_
  refine X_aload_n dX0_wind_1 rfl ?_
  refine X_getI dX0_wind_2 gf_X0_45 (by first | assumption | rfl) (by first | assumption | exact Nat.le_of_ble_eq_true rfl | omega) rfl ?_
  rw [hc.1]
  refine X_putI dX0_wind_5 gf_X0_51 (Or.inl rfl) (by first | assumption | rfl) (by first | assumption | exact Nat.le_of_ble_eq_true rfl | omega) rfl ?_
  refine X_aload_n dX0_wind_8 rfl ?_
  refine X_aload_n dX0_wind_9 rfl ?_
  refine X_iconst (v := nI 0) dX0_wind_10 (by decide) ?_
  first | refine X_iald dX0_wind_11 (by first | assumption | rfl) (by first | assumption | exact Nat.le_of_ble_eq_true rfl | omega) rfl (by first | decide | omega) (by decide) ?_ | refine X_ildA dX0_wind_11 rfl (by omega) ?_ | refine X_ildM dX0_wind_11 rfl (by omega) ?_ | refine X_sld dX0_wind_11 rfl (by omega) (by omega) ?_
  rw [sr_ne (show 13 ≠ 128 by decide), hS 0 (by decide)]
  refine X_putI dX0_wind_12 gf_X0_52 (Or.inl rfl) (by first | assumption | rfl) (by first | assumption | exact Nat.le_of_ble_eq_true rfl | omega) rfl ?_
  refine X_iconst (v := nI 0) dX0_wind_15 (by decide) ?_
  refine X_istore dX0_wind_16 rfl rfl ?_
  refine loop n 0 _ rfl (Nat.zero_le n) ((Fr.sr (by simp)).tr (Fr.sr (by simp))) ?_ ?_ (fun j h => absurd h (Nat.not_lt_zero j))
  · rw [sr_eq, up_ne (by decide), sr_eq, up_eq]
  · rw [sr_eq, up_eq]
set_option maxRecDepth 20000 in
theorem c_firstTick {Q : Int32 → Mm → Prop} {i k : Nat} {t : TS} (hd : 1 ≤ d) (hn : n ≤ 12) (hi : i < n) (hC : CKk I n c dl u) (hdl : ∀ j, dl j ≤ 5) (hu : u ≤ 3) (hk : k ≤ 12) (hB : TB u k t) (hT : ∀ j, j < i → ((ned c i).testBit j = true ∨ (awt c i).testBit j = true) → I 133 j = nI (t.1 j)) (hQ : Q (nI (ftk c dl u t i)) (NC, I, J, layR sw)) : Y G d zX0_firstTick [vr 128, vi (nI i), vi (nI t.2.1), vi (nI t.2.2.1)] (NC, I, J, layR sw) 0 0 (qi Q) := by
  obtain ⟨k1, k2, k3⟩ := hC
  obtain ⟨t1, t2, t3, t4⟩ := hB
  obtain ⟨_, k4, k5⟩ := k3 i hi
  have hnl : ned c i < 4096 := Nat.lt_of_lt_of_le (ned_lt c i) (pow4096 (by omega))
  have hal : awt c i < 4096 := Nat.lt_of_lt_of_le (awt_lt c i) (pow4096 (by omega))
  have loop : ∀ (b : Nat), b ≤ 6 * k + 5 → Q (nI (dpm (ned c i) (awt c i) dl t.1 b i)) (NC, I, J, layR sw) → ∀ (m j : Nat), m = i - j → j ≤ i → X G d zX0_firstTick 20 [(0, vr 128), (1, vi (nI i)), (2, vi (nI t.2.1)), (3, vi (nI t.2.2.1)), (4, vi (nI (dpm (ned c i) (awt c i) dl t.1 b j))), (5, vi (nI j))] [] (NC, I, J, layR sw) 0 0 (qi Q) := by
    intro b hb hQ m
    induction m with
    | zero =>
      intro j hm hj
      obtain rfl : j = i := by omega
      refine X_iload dX0_firstTick_20 rfl ?_
      refine X_iload_n dX0_firstTick_22 rfl ?_
      refine X_icmp_ge (tgt := 100) dX0_firstTick_23 (by decide) (fun b23 => ?_) (fun b23 => ?_)
      · refine X_iload dX0_firstTick_100 rfl ?_
        exact X_iret dX0_firstTick_102 rfl ⟨_, rfl, hQ⟩
      · exact absurd (Int32.le_refl _) b23
    | succ m ih =>
      intro j hm hj
      have hji : j < i := by omega
      have ih := ih (j + 1) (by omega) (by omega)
      have hle := dpm_le (A := ned c i) (E := awt c i) hb hdl j t1
      have htj := t1 j
      have hdj := hdl j
      obtain ⟨k6, _, _⟩ := k3 j (by omega)
      unfold dpm at ih
      have half : ∀ x : Nat, x ≤ 6 * k + 10 → X G d zX0_firstTick 20 [(0, vr 128), (1, vi (nI i)), (2, vi (nI t.2.1)), (3, vi (nI t.2.2.1)), (4, vi (nI (if (awt c i).testBit j = true then max x (t.1 j + 1) else x))), (5, vi (nI (j + 1)))] [] (NC, I, J, layR sw) 0 0 (qi Q) → X G d zX0_firstTick 63 [(0, vr 128), (1, vi (nI i)), (2, vi (nI t.2.1)), (3, vi (nI t.2.2.1)), (4, vi (nI x)), (5, vi (nI j))] [] (NC, I, J, layR sw) 0 0 (qi Q) := by
        intro x hx ih
        refine X_aload_n dX0_firstTick_63 rfl ?_
        refine X_getR dX0_firstTick_64 gf_X0_21 (by first | assumption | rfl) (by first | assumption | exact Nat.le_of_ble_eq_true rfl | omega) rfl (by first | assumption | rfl) ?_
        refine X_iload_n dX0_firstTick_67 rfl ?_
        first | refine X_iald dX0_firstTick_68 (by first | assumption | rfl) (by first | assumption | exact Nat.le_of_ble_eq_true rfl | omega) rfl (by first | decide | omega) (by decide) ?_ | refine X_ildA dX0_firstTick_68 rfl (by omega) ?_ | refine X_ildM dX0_firstTick_68 rfl (by omega) ?_ | refine X_sld dX0_firstTick_68 rfl (by omega) (by omega) ?_
        rw [k5]
        refine X_iload dX0_firstTick_69 rfl ?_
        first | refine X_ishrN dX0_firstTick_71 (by omega) (by omega) ?_ | refine X_ishr dX0_firstTick_71 ?_
        refine X_iconst (v := nI 1) dX0_firstTick_72 (by decide) ?_
        first | refine X_iandN dX0_firstTick_73 ?_ | refine X_iandC dX0_firstTick_73 ?_ | refine X_iand dX0_firstTick_73 ?_
        rw [Nat.and_one_is_mod, bit_mod]
        refine X_iconst (v := nI 1) dX0_firstTick_74 (by decide) ?_
        by_cases h2 : (awt c i).testBit j = true
        · rw [if_pos h2] at ih ⊢
          refine X_icmp_ne (tgt := 94) dX0_firstTick_75 (by decide) (fun b75 => ?_) (fun b75 => ?_)
          · exact absurd rfl b75
          refine X_iload dX0_firstTick_78 rfl ?_
          refine X_aload_n dX0_firstTick_80 rfl ?_
          refine X_getR dX0_firstTick_81 gf_X0_24 (by first | assumption | rfl) (by first | assumption | exact Nat.le_of_ble_eq_true rfl | omega) rfl (by first | assumption | rfl) ?_
          refine X_iload dX0_firstTick_84 rfl ?_
          first | refine X_iald dX0_firstTick_86 (by first | assumption | rfl) (by first | assumption | exact Nat.le_of_ble_eq_true rfl | omega) rfl (by first | decide | omega) (by decide) ?_ | refine X_ildA dX0_firstTick_86 rfl (by omega) ?_ | refine X_ildM dX0_firstTick_86 rfl (by omega) ?_ | refine X_sld dX0_firstTick_86 rfl (by omega) (by omega) ?_
          rw [hT j hji (Or.inr h2)]
          refine X_iconst (v := nI 1) dX0_firstTick_87 (by decide) ?_
          first | refine X_iaddN dX0_firstTick_88 ?_ | refine X_iadd dX0_firstTick_88 ?_
          refine X_cSi dX0_firstTick_89 ck_X0_72 rfl rfl (by omega) (Nat.le_of_ble_eq_true rfl) (c_max (by omega) (by omega) ?_)
          refine X_istore dX0_firstTick_92 rfl rfl ?_
          first | refine X_iinc1 dX0_firstTick_94 rfl rfl rfl ?_ | refine X_iinc dX0_firstTick_94 rfl rfl rfl rfl ?_
          refine X_goto (tgt := 20) dX0_firstTick_97 (by decide) ?_
          exact ih
        · rw [if_neg h2] at ih ⊢
          refine X_icmp_ne (tgt := 94) dX0_firstTick_75 (by decide) (fun b75 => ?_) (fun b75 => ?_)
          · first | refine X_iinc1 dX0_firstTick_94 rfl rfl rfl ?_ | refine X_iinc dX0_firstTick_94 rfl rfl rfl rfl ?_
            refine X_goto (tgt := 20) dX0_firstTick_97 (by decide) ?_
            exact ih
          · exact absurd b75 (by decide)
      refine X_iload dX0_firstTick_20 rfl ?_
      refine X_iload_n dX0_firstTick_22 rfl ?_
      refine X_icmp_ge (tgt := 100) dX0_firstTick_23 (by decide) (fun b23 => ?_) (fun b23 => ?_)
      · exact absurd ((nle (by omega) (by omega)).mp b23) (by omega)
      refine X_aload_n dX0_firstTick_26 rfl ?_
      refine X_getR dX0_firstTick_27 gf_X0_18 (by first | assumption | rfl) (by first | assumption | exact Nat.le_of_ble_eq_true rfl | omega) rfl (by first | assumption | rfl) ?_
      refine X_iload_n dX0_firstTick_30 rfl ?_
      first | refine X_iald dX0_firstTick_31 (by first | assumption | rfl) (by first | assumption | exact Nat.le_of_ble_eq_true rfl | omega) rfl (by first | decide | omega) (by decide) ?_ | refine X_ildA dX0_firstTick_31 rfl (by omega) ?_ | refine X_ildM dX0_firstTick_31 rfl (by omega) ?_ | refine X_sld dX0_firstTick_31 rfl (by omega) (by omega) ?_
      rw [k4]
      refine X_iload dX0_firstTick_32 rfl ?_
      first | refine X_ishrN dX0_firstTick_34 (by omega) (by omega) ?_ | refine X_ishr dX0_firstTick_34 ?_
      refine X_iconst (v := nI 1) dX0_firstTick_35 (by decide) ?_
      first | refine X_iandN dX0_firstTick_36 ?_ | refine X_iandC dX0_firstTick_36 ?_ | refine X_iand dX0_firstTick_36 ?_
      rw [Nat.and_one_is_mod, bit_mod]
      refine X_iconst (v := nI 1) dX0_firstTick_37 (by decide) ?_
      by_cases h1 : (ned c i).testBit j = true
      · rw [if_pos h1] at ih ⊢
        refine X_icmp_ne (tgt := 63) dX0_firstTick_38 (by decide) (fun b38 => ?_) (fun b38 => ?_)
        · exact absurd rfl b38
        refine X_iload dX0_firstTick_41 rfl ?_
        refine X_aload_n dX0_firstTick_43 rfl ?_
        refine X_getR dX0_firstTick_44 gf_X0_24 (by first | assumption | rfl) (by first | assumption | exact Nat.le_of_ble_eq_true rfl | omega) rfl (by first | assumption | rfl) ?_
        refine X_iload dX0_firstTick_47 rfl ?_
        first | refine X_iald dX0_firstTick_49 (by first | assumption | rfl) (by first | assumption | exact Nat.le_of_ble_eq_true rfl | omega) rfl (by first | decide | omega) (by decide) ?_ | refine X_ildA dX0_firstTick_49 rfl (by omega) ?_ | refine X_ildM dX0_firstTick_49 rfl (by omega) ?_ | refine X_sld dX0_firstTick_49 rfl (by omega) (by omega) ?_
        rw [hT j hji (Or.inl h1)]
        refine X_aload_n dX0_firstTick_50 rfl ?_
        refine X_getR dX0_firstTick_51 gf_X0_15 (by first | assumption | rfl) (by first | assumption | exact Nat.le_of_ble_eq_true rfl | omega) rfl (by first | assumption | rfl) ?_
        refine X_iload dX0_firstTick_54 rfl ?_
        first | refine X_iald dX0_firstTick_56 (by first | assumption | rfl) (by first | assumption | exact Nat.le_of_ble_eq_true rfl | omega) rfl (by first | decide | omega) (by decide) ?_ | refine X_ildA dX0_firstTick_56 rfl (by omega) ?_ | refine X_ildM dX0_firstTick_56 rfl (by omega) ?_ | refine X_sld dX0_firstTick_56 rfl (by omega) (by omega) ?_
        rw [k6]
        first | refine X_iaddN dX0_firstTick_57 ?_ | refine X_iadd dX0_firstTick_57 ?_
        refine X_cSi dX0_firstTick_58 ck_X0_72 rfl rfl (by omega) (Nat.le_of_ble_eq_true rfl) (c_max (by omega) (by omega) ?_)
        refine X_istore dX0_firstTick_61 rfl rfl ?_
        exact half _ (by omega) ih
      · rw [if_neg h1] at ih ⊢
        refine X_icmp_ne (tgt := 63) dX0_firstTick_38 (by decide) (fun b38 => ?_) (fun b38 => ?_)
        · exact half _ (by omega) ih
        · exact absurd b38 (by decide)
  unfold ftk at hQ
  refine Y_of rfl rfl (Nat.le_of_ble_eq_true rfl) rfl ?_
  refine X_iload_n dX0_firstTick_0 rfl ?_
  refine X_aload_n dX0_firstTick_1 rfl ?_
  refine X_getI dX0_firstTick_2 gf_X0_52 (by first | assumption | rfl) (by first | assumption | exact Nat.le_of_ble_eq_true rfl | omega) rfl ?_
  rw [k2]
  refine X_icmp_ge (tgt := 12) dX0_firstTick_5 (by decide) (fun b5 => ?_) (fun b5 => ?_)
  · rw [if_neg (fun q => absurd ((nle (by omega) (by omega)).mp b5) (by omega))] at hQ
    refine X_iload_n dX0_firstTick_12 rfl ?_
    refine X_iconst (v := nI 1) dX0_firstTick_13 (by decide) ?_
    first | refine X_iaddN dX0_firstTick_14 ?_ | refine X_iadd dX0_firstTick_14 ?_
    refine X_istore dX0_firstTick_15 rfl rfl ?_
    refine X_iconst (v := nI 0) dX0_firstTick_17 (by decide) ?_
    refine X_istore dX0_firstTick_18 rfl rfl ?_
    exact loop _ (by omega) hQ i 0 rfl (Nat.zero_le i)
  · rw [if_pos (by
      have : ¬ u ≤ t.2.2.1 := fun q => b5 ((nle (by omega) (by omega)).mpr q)
      omega)] at hQ
    refine X_iload_n dX0_firstTick_8 rfl ?_
    refine X_goto (tgt := 15) dX0_firstTick_9 (by decide) ?_
    refine X_istore dX0_firstTick_15 rfl rfl ?_
    refine X_iconst (v := nI 0) dX0_firstTick_17 (by decide) ?_
    refine X_istore dX0_firstTick_18 rfl rfl ?_
    exact loop _ (by omega) hQ i 0 rfl (Nat.zero_le i)
end CT
