/-- entry of a method of a class that has entries of its own in the machine -/
theorem Y_ofF {G : GG} {d : Nat} {z : ZZ} {M : Mm} {Q : Option AV → Mm → Prop} {av : List AV} {mc ms : Nat} (hy : plainFor z.1 = true) (ho : z.2.2.2.2 = z.1.cls) (hw : avW av ≤ z.2.2.1) {lv : List (Nat × AV)} (hlv : lvA 0 av = lv) (h : X G d z 0 lv [] M mc ms Q) : Y G d z av M mc ms Q := by
  unfold Y
  refine va_MetF (cc := z.2.1) (maxL := z.2.2.1) (ret := z.2.2.2.1) hy rfl ?_
  intro p e s m args below meth c s₁ B hml hv
  obtain ⟨rfl, hKU, hP, hsz, hn⟩ := hv
  have hl : LX G z lv ((lg_sl (av.map (cv G)) ++ List.replicate (z.2.2.1 - (lg_sl (av.map (cv G))).length) Slot.unset).toArray) := by
    have := lv_entry (av.map (cv G)) (n := z.2.2.1) (by rw [avW_len]; exact hw)
    unfold LX
    rw [← hlv, lvA_map]
    exact this
  rw [lg_entry_eq]
  have hC : CX G z p s m (av.map (cv G)).toArray meth c := ⟨B.exec, B.bytes, B.returns, B.notSynchronized, hml, by rw [ho]; exact findClass_of_methodNamed B.named, atoms_spec (ws := wz z) B.pre, (name_of_methodNamed B.named B.method).1, hKU⟩
  have := h p e s m (av.map (cv G)).toArray below meth c s.heap [] _ 0 0 hC ⟨hP, by omega, hn, va_S.rf⟩ hl
  simp only [Nat.zero_add] at this
  exact this
/-! what acts make; what is known -/
def av (a x y : Nat) : Nat := if a = 43 then (x + y) % 8 else if a = 45 then (x + 8 - y) % 8 else if a = 42 then x * y % 8 else if a = 109 then min x y else x
theorem av_lt {a x y : Nat} (hx : x < 8) : av a x y < 8 := by
  unfold av
  split
  · omega
  · split
    · omega
    · split
      · omega
      · split
        · omega
        · exact hx
theorem and7 (x : Nat) : x &&& 7 = x % 8 := Nat.and_two_pow_sub_one_eq_mod x 3
theorem sub7 : ∀ x, x < 8 → ∀ y, y < 8 → (nI x - nI y) &&& nI 7 = nI ((x + 8 - y) % 8) := by decide +kernel
def kop (k : Nat → Nat) (v : Nat) : Nat := if v < 4 then k v else if 10 ≤ v ∧ v < 18 then v - 10 else 99
def kst (k : Nat → Nat) (s : Nat → Nat) : Nat := if kop k (s 2) = 99 ∨ (if s 1 = 99 then 0 else kop k (s 3)) = 99 then 99 else av (s 1) (kop k (s 2)) (if s 1 = 99 then 0 else kop k (s 3))
def kn (c : Nat → Nat → Nat) : Nat → Nat → Nat
  | 0 => fun _ => 99
  | p + 1 => up (kn c p) (c p 0) (kst (kn c p) (c p))
def kok (v : Nat) : Prop := v < 8 ∨ v = 99
theorem kop_ok {k : Nat → Nat} (hk : ∀ r, kok (k r)) (v : Nat) : kok (kop k v) := by
  unfold kop
  split
  · exact hk v
  · split
    · left; omega
    · exact Or.inr rfl
theorem kst_ok {k : Nat → Nat} (hk : ∀ r, kok (k r)) (s : Nat → Nat) : kok (kst k s) := by
  unfold kst
  generalize (if s 1 = 99 then 0 else kop k (s 3)) = y
  by_cases h : kop k (s 2) = 99 ∨ y = 99
  · rw [if_pos h]; exact Or.inr rfl
  · rw [if_neg h]
    refine Or.inl (av_lt ?_)
    rcases kop_ok hk (s 2) with h2 | h2
    · exact h2
    · exact absurd (Or.inl h2) h
theorem kn_ok (c : Nat → Nat → Nat) : ∀ p r, kok (kn c p r)
  | 0, _ => Or.inr rfl
  | p + 1, r => by
    show kok (up (kn c p) (c p 0) (kst (kn c p) (c p)) r)
    by_cases h : r = c p 0
    · rw [h, up_eq]; exact kst_ok (kn_ok c p) _
    · rw [up_ne h]; exact kn_ok c p r
theorem kok_enc {v : Nat} (h : kok v) : (v < 8 ∧ enc v = nI v) ∨ (v = 99 ∧ enc v = -6) := by
  rcases h with h | rfl
  · exact Or.inl ⟨h, enc_n (by omega)⟩
  · exact Or.inr ⟨rfl, rfl⟩
theorem kok_eq {v : Nat} (h : kok v) : enc v = -6 ↔ v = 99 := by
  rcases kok_enc h with ⟨h1, h2⟩ | ⟨h1, h2⟩
  · refine ⟨fun q => ?_, fun q => by omega⟩
    rw [h2] at q
    exact absurd (show nI v < 0 by rw [q]; decide) (nneg (by omega))
  · exact ⟨fun _ => h1, fun _ => h2⟩
theorem enc_act {a : Nat} (h : iact a) : a ≠ 99 ∧ enc a ≠ -6 := by
  rcases h with rfl | rfl | rfl | rfl <;> exact ⟨by decide, by decide⟩
section CK
variable {G : GG} {d : Nat} {sw : Bool} {I : Nat → Nat → Int32} {J : Nat → Nat → Int64} {s : SS} {n W : Nat} {c : Nat → Nat → Nat}
theorem c_min {Q : Int32 → Mm → Prop} {M : Mm} {a b : Nat} (ha : a < 2 ^ 31) (hb : b < 2 ^ 31) (hQ : Q (nI (min a b)) M) : Y G d zJ9_min_7cf53 [vi (nI a), vi (nI b)] M 0 0 (qi Q) := by
  refine Y_ofF (by decide +kernel) rfl (Nat.le_of_ble_eq_true rfl) rfl ?_
  refine X_iload_n dJ9_min_7cf53_0 rfl ?_
  refine X_iload_n dJ9_min_7cf53_1 rfl ?_
  refine X_icmp_gt (tgt := 9) dJ9_min_7cf53_2 (by decide) (fun h => ?_) (fun h => ?_)
  · have h := (nlt ha hb).mp h
    refine X_iload_n dJ9_min_7cf53_9 rfl ?_
    exact X_iret dJ9_min_7cf53_10 rfl ⟨_, rfl, (by rwa [Nat.min_eq_right (by omega)] at hQ)⟩
  · have h : ¬ b < a := fun q => h ((nlt ha hb).mpr q)
    refine X_iload_n dJ9_min_7cf53_5 rfl ?_
    refine X_goto (tgt := 10) dJ9_min_7cf53_6 (by decide) ?_
    exact X_iret dJ9_min_7cf53_10 rfl ⟨_, rfl, (by rwa [Nat.min_eq_left (by omega)] at hQ)⟩
theorem c_isDigit {Q : Int32 → Mm → Prop} {M : Mm} {v : Nat} (hv : v < 200) (hQ : Q (nI (if 10 ≤ v ∧ v < 18 then 1 else 0)) M) : Y G d zX11_isDigit [vi (enc v)] M 0 0 (qi Q) := by
  by_cases h99 : v = 99
  · subst h99
    refine Y_of rfl rfl (Nat.le_of_ble_eq_true rfl) rfl ?_
    refine X_iload_n dX11_isDigit_0 rfl ?_
    refine X_bipush (v := nI 10) dX11_isDigit_1 (by decide) ?_
    refine X_icmp_lt (tgt := 16) dX11_isDigit_3 (by decide) (fun h => ?_) (fun h => ?_)
    · refine X_iconst (v := nI 0) dX11_isDigit_16 (by decide) ?_
      exact X_zret dX11_isDigit_17 rfl (by first | rfl | (simp; done) | decide) ⟨_, rfl, hQ⟩
    · exact absurd (by decide) h
  · rw [enc_n h99]
    refine Y_of rfl rfl (Nat.le_of_ble_eq_true rfl) rfl ?_
    refine X_iload_n dX11_isDigit_0 rfl ?_
    refine X_bipush (v := nI 10) dX11_isDigit_1 (by decide) ?_
    refine X_icmp_lt (tgt := 16) dX11_isDigit_3 (by decide) (fun h => ?_) (fun h => ?_)
    · have h := (nlt (by omega) (by omega)).mp h
      rw [if_neg (by omega)] at hQ
      refine X_iconst (v := nI 0) dX11_isDigit_16 (by decide) ?_
      exact X_zret dX11_isDigit_17 rfl (by first | rfl | (simp; done) | decide) ⟨_, rfl, hQ⟩
    · have h : ¬ v < 10 := fun q => h ((nlt (by omega) (by omega)).mpr q)
      refine X_iload_n dX11_isDigit_6 rfl ?_
      refine X_bipush (v := nI 18) dX11_isDigit_7 (by decide) ?_
      refine X_icmp_ge (tgt := 16) dX11_isDigit_9 (by decide) (fun h9 => ?_) (fun h9 => ?_)
      · have h9 := (nle (by omega) (by omega)).mp h9
        rw [if_neg (by omega)] at hQ
        refine X_iconst (v := nI 0) dX11_isDigit_16 (by decide) ?_
        exact X_zret dX11_isDigit_17 rfl (by first | rfl | (simp; done) | decide) ⟨_, rfl, hQ⟩
      · have h9 : ¬ 18 ≤ v := fun q => h9 ((nle (by omega) (by omega)).mpr q)
        rw [if_pos (by omega)] at hQ
        refine X_iconst (v := nI 1) dX11_isDigit_12 (by decide) ?_
        refine X_goto (tgt := 17) dX11_isDigit_13 (by decide) ?_
        exact X_zret dX11_isDigit_17 rfl (by first | rfl | (simp; done) | decide) ⟨_, rfl, hQ⟩
theorem c_act {Q : Int32 → Mm → Prop} {M : Mm} {a x y : Nat} (hd : 1 ≤ d) (ha : a = 99 ∨ iact a) (hx : x < 8) (hy : y < 8) (hQ : Q (nI (av a x y)) M) : Y G d zX11_act [vi (enc a), vi (nI x), vi (nI y)] M 0 0 (qi Q) := by
  refine Y_of rfl rfl (Nat.le_of_ble_eq_true rfl) rfl ?_
  refine X_iload_n dX11_act_0 rfl ?_
  rcases ha with rfl | rfl | rfl | rfl | rfl
  · refine X_lookup (off := 70) (tgt := 71) dX11_act_1 (by decide) (by decide) (by decide) ?_
    refine X_iload_n dX11_act_71 rfl ?_
    exact X_iret dX11_act_72 rfl ⟨_, rfl, hQ⟩
  · refine X_lookup (off := 43) (tgt := 44) dX11_act_1 (by decide) (by decide) (by decide) ?_
    refine X_iload_n dX11_act_44 rfl ?_
    refine X_iload_n dX11_act_45 rfl ?_
    first | refine X_iaddN dX11_act_46 ?_ | refine X_iadd dX11_act_46 ?_
    refine X_bipush (v := nI 7) dX11_act_47 (by decide) ?_
    first | refine X_iandN dX11_act_49 ?_ | refine X_iandC dX11_act_49 ?_ | refine X_iand dX11_act_49 ?_
    rw [and7]
    exact X_iret dX11_act_50 rfl ⟨_, rfl, hQ⟩
  · refine X_lookup (off := 50) (tgt := 51) dX11_act_1 (by decide) (by decide) (by decide) ?_
    refine X_iload_n dX11_act_51 rfl ?_
    refine X_iload_n dX11_act_52 rfl ?_
    refine X_isub dX11_act_53 ?_
    refine X_bipush (v := nI 7) dX11_act_54 (by decide) ?_
    refine X_iand dX11_act_56 ?_
    rw [sub7 x hx y hy]
    exact X_iret dX11_act_57 rfl ⟨_, rfl, hQ⟩
  · refine X_lookup (off := 57) (tgt := 58) dX11_act_1 (by decide) (by decide) (by decide) ?_
    refine X_iload_n dX11_act_58 rfl ?_
    refine X_iload_n dX11_act_59 rfl ?_
    first | refine X_imulN dX11_act_60 ?_ | refine X_imul dX11_act_60 ?_
    refine X_bipush (v := nI 7) dX11_act_61 (by decide) ?_
    first | refine X_iandN dX11_act_63 ?_ | refine X_iandC dX11_act_63 ?_ | refine X_iand dX11_act_63 ?_
    rw [and7]
    exact X_iret dX11_act_64 rfl ⟨_, rfl, hQ⟩
  · refine X_lookup (off := 64) (tgt := 65) dX11_act_1 (by decide) (by decide) (by decide) ?_
    refine X_iload_n dX11_act_65 rfl ?_
    refine X_iload_n dX11_act_66 rfl ?_
    refine X_cSi dX11_act_67 ck_X11_319 rfl rfl (by omega) (Nat.le_of_ble_eq_true rfl) (c_min (by omega) (by omega) ?_)
    exact X_iret dX11_act_70 rfl ⟨_, rfl, hQ⟩
set_option maxRecDepth 20000 in
theorem c_knownOperand {Q : Int32 → Mm → Prop} {f p v : Nat} {k : Nat → Nat} (hd : 1 ≤ d) (hf : IsFa f) (hp : p ≤ 12) (hv : opd v) (hk : ∀ r, r < 4 → I (f + 2) (p * 4 + r) = enc (k r)) (hQ : Q (enc (kop k v)) (NC, I, J, layR sw)) : Y G d zX3_knownOperand [vr f, vi (nI p), vi (enc v)] (NC, I, J, layR sw) 0 0 (qi Q) := by
  obtain ⟨s0, ⟨s1, s2, s3, s4, s5, s6, s7, s8⟩, hr, hb1, hb2⟩ := hf
  obtain ⟨r0, r1, r2, r3, r4, r5, r6, r7⟩ := hr sw
  have k0 : f < NC := by show f < 206; omega
  have k2 : f + 2 < NC := by show f + 2 < 206; omega
  refine Y_of rfl rfl (Nat.le_of_ble_eq_true rfl) rfl ?_
  refine X_iload_n dX3_knownOperand_0 rfl ?_
  refine X_cSi dX3_knownOperand_1 ck_X3_70 rfl rfl (by omega) (Nat.le_of_ble_eq_true rfl) (c_isDigit (by unfold opd at hv; omega) ?_)
  rcases hv with hv | hv
  · rw [if_neg (by omega)]
    refine X_if_eq (tgt := 12) dX3_knownOperand_4 (by decide) (fun b => ?_) (fun b => ?_)
    · refine X_iload_n dX3_knownOperand_12 rfl ?_
      rw [enc_n (by omega)]
      refine X_cSi dX3_knownOperand_13 ck_X3_74 rfl rfl (by omega) (Nat.le_of_ble_eq_true rfl) (c_isNoReg_f hv ?_)
      refine X_if_eq (tgt := 24) dX3_knownOperand_16 (by decide) (fun b16 => ?_) (fun b16 => ?_)
      · refine X_aload_n dX3_knownOperand_24 rfl ?_
        refine X_getR dX3_knownOperand_25 gf_X3_15 (by first | assumption | rfl) (by first | assumption | exact Nat.le_of_ble_eq_true rfl | omega) rfl (by first | assumption | rfl) ?_
        refine X_iload_n dX3_knownOperand_28 rfl ?_
        refine X_iconst (v := nI 4) dX3_knownOperand_29 (by decide) ?_
        first | refine X_imulN dX3_knownOperand_30 ?_ | refine X_imul dX3_knownOperand_30 ?_
        refine X_iload_n dX3_knownOperand_31 rfl ?_
        first | refine X_iaddN dX3_knownOperand_32 ?_ | refine X_iadd dX3_knownOperand_32 ?_
        first | refine X_iald dX3_knownOperand_33 (by first | assumption | rfl) (by first | assumption | exact Nat.le_of_ble_eq_true rfl | omega) rfl (by first | decide | omega) (by decide) ?_ | refine X_ildA dX3_knownOperand_33 rfl (by omega) ?_ | refine X_ildM dX3_knownOperand_33 rfl (by omega) ?_ | refine X_sld dX3_knownOperand_33 rfl (by omega) (by omega) ?_
        rw [hk v hv]
        unfold kop at hQ
        rw [if_pos hv] at hQ
        exact X_iret dX3_knownOperand_34 rfl ⟨_, rfl, hQ⟩
      · exact absurd rfl b16
    · exact absurd rfl b
  · rw [if_pos hv]
    refine X_if_eq (tgt := 12) dX3_knownOperand_4 (by decide) (fun b => ?_) (fun b => ?_)
    · exact absurd b (by decide)
    · refine X_iload_n dX3_knownOperand_7 rfl ?_
      rw [enc_n (by omega)]
      refine X_bipush (v := nI 10) dX3_knownOperand_8 (by decide) ?_
      first | refine X_isubN dX3_knownOperand_10 (by omega) ?_ | refine X_isub dX3_knownOperand_10 ?_
      unfold kop at hQ
      rw [if_neg (by omega), if_pos hv, enc_n (by omega)] at hQ
      exact X_iret dX3_knownOperand_11 rfl ⟨_, rfl, hQ⟩
set_option maxRecDepth 20000 in
theorem c_knownMade {Q : Int32 → Mm → Prop} {f i : Nat} {k : Nat → Nat} (hd : 2 ≤ d) (hf : IsFa f) (hc : CR I 8 n c) (hv : VC n c) (hi : i < n) (hok : ∀ r, kok (k r)) (hk : ∀ r, r < 4 → I (f + 2) (i * 4 + r) = enc (k r)) (hQ : Q (enc (kst k (c i))) (NC, I, J, layR sw)) : Y G d zX3_knownMade [vr f, vr 8, vi (nI i)] (NC, I, J, layR sw) 0 0 (qi Q) := by
  have hff := hf
  obtain ⟨s0, ⟨s1, s2, s3, s4, s5, s6, s7, s8⟩, hr, hb1, hb2⟩ := hff
  have k0 : f < NC := by show f < 206; omega
  have hn := hv.1
  obtain ⟨v0, v2, v3⟩ := hv.2 i hi
  unfold kst at hQ
  refine Y_of rfl rfl (Nat.le_of_ble_eq_true rfl) rfl ?_
  refine X_aload_n dX3_knownMade_0 rfl ?_
  refine X_iload_n dX3_knownMade_1 rfl ?_
  refine X_iconst (v := nI 1) dX3_knownMade_2 (by decide) ?_
  refine X_cVi dX3_knownMade_3 ck_X3_59 rfl rfl (by first | assumption | rfl) (by first | assumption | exact Nat.le_of_ble_eq_true rfl | omega) (by omega) (Nat.le_of_ble_eq_true rfl) (c_part cd8 hc.1 hv.1 hi (by decide) ?_)
  rw [hc.2 i hi 1 (by decide)]
  refine X_istore_n dX3_knownMade_6 rfl rfl ?_
  refine X_aload_n dX3_knownMade_7 rfl ?_
  refine X_iload_n dX3_knownMade_8 rfl ?_
  refine X_aload_n dX3_knownMade_9 rfl ?_
  refine X_iload_n dX3_knownMade_10 rfl ?_
  refine X_iconst (v := nI 2) dX3_knownMade_11 (by decide) ?_
  refine X_cVi dX3_knownMade_12 ck_X3_59 rfl rfl (by first | assumption | rfl) (by first | assumption | exact Nat.le_of_ble_eq_true rfl | omega) (by omega) (Nat.le_of_ble_eq_true rfl) (c_part cd8 hc.1 hv.1 hi (by decide) ?_)
  rw [hc.2 i hi 2 (by decide)]
  refine X_cVi dX3_knownMade_15 ck_X3_63 rfl rfl (by first | assumption | rfl) (by first | assumption | exact Nat.le_of_ble_eq_true rfl | omega) (by omega) (Nat.le_of_ble_eq_true rfl) (c_knownOperand (by omega) hf (by omega) v2 hk ?_)
  have o2 := kop_ok hok (c i 2)
  generalize kop k (c i 2) = x at hQ o2
  refine X_istore dX3_knownMade_18 rfl rfl ?_
  refine X_iload_n dX3_knownMade_20 rfl ?_
  refine X_bipush (v := (-6)) dX3_knownMade_21 (by decide) ?_
  rcases v3 with ⟨e1, e3⟩ | ⟨e1, e3⟩
  · rw [e1] at hQ ⊢
    rw [if_pos rfl] at hQ
    refine X_icmp_ne (tgt := 30) dX3_knownMade_23 (by decide) (fun b => ?_) (fun b => ?_)
    · exact absurd rfl b
    refine X_iconst (v := nI 0) dX3_knownMade_26 (by decide) ?_
    refine X_goto (tgt := 41) dX3_knownMade_27 (by decide) ?_
    refine X_istore dX3_knownMade_41 rfl rfl ?_
    refine X_iload dX3_knownMade_43 rfl ?_
    refine X_bipush (v := (-6)) dX3_knownMade_45 (by decide) ?_
    refine X_icmp_eq (tgt := 57) dX3_knownMade_47 (by decide) (fun b47 => ?_) (fun b47 => ?_)
    · rw [if_pos (Or.inl ((kok_eq o2).mp b47))] at hQ
      refine X_bipush (v := (-6)) dX3_knownMade_57 (by decide) ?_
      refine X_goto (tgt := 70) dX3_knownMade_59 (by decide) ?_
      exact X_iret dX3_knownMade_70 rfl ⟨_, rfl, hQ⟩
    · have hx : x ≠ 99 := fun q => b47 ((kok_eq o2).mpr q)
      rw [if_neg (by omega)] at hQ
      rcases kok_enc o2 with ⟨l2, l3⟩ | ⟨l2, _⟩
      · refine X_iload dX3_knownMade_50 rfl ?_
        refine X_bipush (v := (-6)) dX3_knownMade_52 (by decide) ?_
        refine X_icmp_ne (tgt := 62) dX3_knownMade_54 (by decide) (fun b54 => ?_) (fun b54 => ?_)
        · rw [l3]
          refine X_iload_n dX3_knownMade_62 rfl ?_
          refine X_iload dX3_knownMade_63 rfl ?_
          refine X_iload dX3_knownMade_65 rfl ?_
          refine X_cSi dX3_knownMade_67 ck_X3_66 rfl rfl (by omega) (Nat.le_of_ble_eq_true rfl) (c_act (by omega) (Or.inl rfl) l2 (by decide) ?_)
          rw [enc_n (by have := av_lt (a := 99) (y := 0) l2; omega)] at hQ
          exact X_iret dX3_knownMade_70 rfl ⟨_, rfl, hQ⟩
        · exact absurd b54 (by decide)
      · exact absurd l2 hx
  · obtain ⟨n1, n2⟩ := enc_act e1
    rw [if_neg n1] at hQ
    refine X_icmp_ne (tgt := 30) dX3_knownMade_23 (by decide) (fun b => ?_) (fun b => ?_)
    · refine X_aload_n dX3_knownMade_30 rfl ?_
      refine X_iload_n dX3_knownMade_31 rfl ?_
      refine X_aload_n dX3_knownMade_32 rfl ?_
      refine X_iload_n dX3_knownMade_33 rfl ?_
      refine X_iconst (v := nI 3) dX3_knownMade_34 (by decide) ?_
      refine X_cVi dX3_knownMade_35 ck_X3_59 rfl rfl (by first | assumption | rfl) (by first | assumption | exact Nat.le_of_ble_eq_true rfl | omega) (by omega) (Nat.le_of_ble_eq_true rfl) (c_part cd8 hc.1 hv.1 hi (by decide) ?_)
      rw [hc.2 i hi 3 (by decide)]
      refine X_cVi dX3_knownMade_38 ck_X3_63 rfl rfl (by first | assumption | rfl) (by first | assumption | exact Nat.le_of_ble_eq_true rfl | omega) (by omega) (Nat.le_of_ble_eq_true rfl) (c_knownOperand (by omega) hf (by omega) e3 hk ?_)
      have o3 := kop_ok hok (c i 3)
      generalize kop k (c i 3) = y at hQ o3
      refine X_istore dX3_knownMade_41 rfl rfl ?_
      refine X_iload dX3_knownMade_43 rfl ?_
      refine X_bipush (v := (-6)) dX3_knownMade_45 (by decide) ?_
      refine X_icmp_eq (tgt := 57) dX3_knownMade_47 (by decide) (fun b47 => ?_) (fun b47 => ?_)
      · rw [if_pos (Or.inl ((kok_eq o2).mp b47))] at hQ
        refine X_bipush (v := (-6)) dX3_knownMade_57 (by decide) ?_
        refine X_goto (tgt := 70) dX3_knownMade_59 (by decide) ?_
        exact X_iret dX3_knownMade_70 rfl ⟨_, rfl, hQ⟩
      · have hx : x ≠ 99 := fun q => b47 ((kok_eq o2).mpr q)
        refine X_iload dX3_knownMade_50 rfl ?_
        refine X_bipush (v := (-6)) dX3_knownMade_52 (by decide) ?_
        refine X_icmp_ne (tgt := 62) dX3_knownMade_54 (by decide) (fun b54 => ?_) (fun b54 => ?_)
        · have hy : y ≠ 99 := fun q => b54 ((kok_eq o3).mpr q)
          rw [if_neg (by omega)] at hQ
          rcases kok_enc o2 with ⟨l2, l3⟩ | ⟨l2, _⟩
          · rcases kok_enc o3 with ⟨m2, m3⟩ | ⟨m2, _⟩
            · rw [l3, m3]
              refine X_iload_n dX3_knownMade_62 rfl ?_
              refine X_iload dX3_knownMade_63 rfl ?_
              refine X_iload dX3_knownMade_65 rfl ?_
              refine X_cSi dX3_knownMade_67 ck_X3_66 rfl rfl (by omega) (Nat.le_of_ble_eq_true rfl) (c_act (by omega) (Or.inr e1) l2 m2 ?_)
              rw [enc_n (by have := av_lt (a := c i 1) (y := y) l2; omega)] at hQ
              exact X_iret dX3_knownMade_70 rfl ⟨_, rfl, hQ⟩
            · exact absurd m2 hy
          · exact absurd l2 hx
        · rw [if_pos (Or.inr ((kok_eq o3).mp b54))] at hQ
          refine X_bipush (v := (-6)) dX3_knownMade_57 (by decide) ?_
          refine X_goto (tgt := 70) dX3_knownMade_59 (by decide) ?_
          exact X_iret dX3_knownMade_70 rfl ⟨_, rfl, hQ⟩
    · exact absurd b n2
set_option maxRecDepth 20000 in
theorem c_followKnown {Q : Mm → Prop} {f : Nat} (hd : 3 ≤ d) (hf : IsFa f) (hc : CR I 8 n c) (hv : VC n c) (hQ : ∀ I', Fr [f + 2] I I' → (∀ p, p ≤ n → ∀ r, r < 4 → I' (f + 2) (p * 4 + r) = enc (kn c p r)) → Q (NC, I', J, layR sw)) : Y G d zX3_followKnown [vr f, vr 8] (NC, I, J, layR sw) 0 0 (qv Q) := by
  have hff := hf
  obtain ⟨s0, ⟨s1, s2, s3, s4, s5, s6, s7, s8⟩, hr, hb1, hb2⟩ := hff
  obtain ⟨r0, r1, r2, r3, r4, r5, r6, r7⟩ := hr sw
  have k0 : f < NC := by show f < 206; omega
  have k2 : f + 2 < NC := by show f + 2 < 206; omega
  have hn := hv.1
  refine Y_of rfl rfl (Nat.le_of_ble_eq_true rfl) rfl ?_
  have loop2 : ∀ (m i : Nat) (I' : Nat → Nat → Int32), m = n - i → i ≤ n → Fr [f + 2] I I' → (∀ p, p ≤ i → ∀ r, r < 4 → I' (f + 2) (p * 4 + r) = enc (kn c p r)) → X G d zX3_followKnown 23 [(0, vr f), (1, vr 8), (2, vi (nI i))] [] (NC, I', J, layR sw) 0 0 (qv Q) := by
    intro m
    induction m with
    | zero =>
      intro i I' hm him hF hp
      have hc' : CR I' 8 n c := CR_fr hc hF (by simp; omega) (by simp; omega)
      refine X_iload_n dX3_followKnown_23 rfl ?_
      refine X_aload_n dX3_followKnown_24 rfl ?_
      refine X_getI dX3_followKnown_25 gf_X3_36 (by first | assumption | rfl) (by first | assumption | exact Nat.le_of_ble_eq_true rfl | omega) rfl ?_
      rw [hc'.1]
      refine X_icmp_ge (tgt := 77) dX3_followKnown_28 (by decide) (fun b => ?_) (fun b => ?_)
      · obtain rfl : i = n := by omega
        exact X_vret dX3_followKnown_77 rfl ⟨rfl, hQ I' hF hp⟩
      · exact absurd ((nle (by omega) (by omega)).mpr (by omega)) b
    | succ m ih =>
      intro i I' hm him hF hp
      have hc' : CR I' 8 n c := CR_fr hc hF (by simp; omega) (by simp; omega)
      have ht := (hv.2 i (by omega)).1
      refine X_iload_n dX3_followKnown_23 rfl ?_
      refine X_aload_n dX3_followKnown_24 rfl ?_
      refine X_getI dX3_followKnown_25 gf_X3_36 (by first | assumption | rfl) (by first | assumption | exact Nat.le_of_ble_eq_true rfl | omega) rfl ?_
      rw [hc'.1]
      refine X_icmp_ge (tgt := 77) dX3_followKnown_28 (by decide) (fun b => ?_) (fun b => ?_)
      · exact absurd ((nle (by omega) (by omega)).mp b) (by omega)
      refine X_iload_n dX3_followKnown_31 rfl ?_
      refine X_iconst (v := nI 4) dX3_followKnown_32 (by decide) ?_
      first | refine X_imulN dX3_followKnown_33 ?_ | refine X_imul dX3_followKnown_33 ?_
      refine X_istore_n dX3_followKnown_34 rfl rfl ?_
      refine X_aload_n dX3_followKnown_35 rfl ?_
      refine X_getR dX3_followKnown_36 gf_X3_15 (by first | assumption | rfl) (by first | assumption | exact Nat.le_of_ble_eq_true rfl | omega) rfl (by first | assumption | rfl) ?_
      refine X_iload_n dX3_followKnown_39 rfl ?_
      refine X_aload_n dX3_followKnown_40 rfl ?_
      refine X_getR dX3_followKnown_41 gf_X3_15 (by first | assumption | rfl) (by first | assumption | exact Nat.le_of_ble_eq_true rfl | omega) rfl (by first | assumption | rfl) ?_
      refine X_iload_n dX3_followKnown_44 rfl ?_
      refine X_iconst (v := nI 4) dX3_followKnown_45 (by decide) ?_
      first | refine X_iaddN dX3_followKnown_46 ?_ | refine X_iadd dX3_followKnown_46 ?_
      refine X_iconst (v := nI 4) dX3_followKnown_47 (by decide) ?_
      first | refine X_copyI dX3_followKnown_48 ac_X3_49 ac_2 ac_3 ac_4 (by first | assumption | rfl) (by first | assumption | rfl) (by first | assumption | exact Nat.le_of_ble_eq_true rfl | omega) (by first | assumption | exact Nat.le_of_ble_eq_true rfl | omega) rfl rfl rfl (by omega) (by omega) (by decide) (by decide) (by omega) (Nat.le_of_ble_eq_true rfl) ?_ | refine X_copyL dX3_followKnown_48 ac_X3_49 ac_2 ac_3 ac_4 (by first | assumption | rfl) (by first | assumption | rfl) (by first | assumption | exact Nat.le_of_ble_eq_true rfl | omega) (by first | assumption | exact Nat.le_of_ble_eq_true rfl | omega) rfl rfl rfl (by omega) (by omega) (by decide) (by decide) (by omega) (Nat.le_of_ble_eq_true rfl) ?_
      refine X_aload_n dX3_followKnown_51 rfl ?_
      refine X_getR dX3_followKnown_52 gf_X3_15 (by first | assumption | rfl) (by first | assumption | exact Nat.le_of_ble_eq_true rfl | omega) rfl (by first | assumption | rfl) ?_
      refine X_iload_n dX3_followKnown_55 rfl ?_
      refine X_iconst (v := nI 4) dX3_followKnown_56 (by decide) ?_
      first | refine X_iaddN dX3_followKnown_57 ?_ | refine X_iadd dX3_followKnown_57 ?_
      refine X_aload_n dX3_followKnown_58 rfl ?_
      refine X_iload_n dX3_followKnown_59 rfl ?_
      have hF2 : Fr [f + 2] I (sr I' (f + 2) (va_cpy (I' (f + 2)) (I' (f + 2)) (i * 4) (i * 4 + 4) 4)) := hF.tr (Fr.sr (by simp))
      generalize hI2 : sr I' (f + 2) (va_cpy (I' (f + 2)) (I' (f + 2)) (i * 4) (i * 4 + 4) 4) = I2 at hF2
      have hc2 : CR I2 8 n c := CR_fr hc hF2 (by simp; omega) (by simp; omega)
      have e2 : ∀ p, p ≤ i → ∀ r, r < 4 → I2 (f + 2) (p * 4 + r) = enc (kn c p r) := fun p h1 r h2 => by
        rw [← hI2, sr_eq]
        unfold va_cpy
        rw [if_neg (by omega)]
        exact hp p h1 r h2
      have e3 : ∀ r, r < 4 → I2 (f + 2) ((i + 1) * 4 + r) = enc (kn c i r) := fun r h2 => by
        rw [← hI2, sr_eq]
        unfold va_cpy
        rw [if_pos (by omega), show i * 4 + ((i + 1) * 4 + r - (i * 4 + 4)) = i * 4 + r by omega]
        exact hp i (Nat.le_refl i) r h2
      refine X_cVi dX3_followKnown_60 ck_X3_42 rfl rfl (by first | assumption | rfl) (by first | assumption | exact Nat.le_of_ble_eq_true rfl | omega) (by omega) (Nat.le_of_ble_eq_true rfl) (c_tgt (by omega) cd8 hc2 hv (by omega) ?_)
      first | refine X_iaddN dX3_followKnown_63 ?_ | refine X_iadd dX3_followKnown_63 ?_
      refine X_aload_n dX3_followKnown_64 rfl ?_
      refine X_aload_n dX3_followKnown_65 rfl ?_
      refine X_iload_n dX3_followKnown_66 rfl ?_
      refine X_cVi dX3_followKnown_67 ck_X3_55 rfl rfl (by first | assumption | rfl) (by first | assumption | exact Nat.le_of_ble_eq_true rfl | omega) (by omega) (Nat.le_of_ble_eq_true rfl) (c_knownMade (by omega) hf hc2 hv (by omega) (kn_ok c i) (e2 i (Nat.le_refl i)) ?_)
      refine X_iast dX3_followKnown_70 (by first | assumption | rfl) (by first | assumption | exact Nat.le_of_ble_eq_true rfl | omega) rfl (by first | decide | omega) (by decide) ?_
      first | refine X_iinc1 dX3_followKnown_71 rfl rfl rfl ?_ | refine X_iinc dX3_followKnown_71 rfl rfl rfl rfl ?_
      refine X_goto (tgt := 23) dX3_followKnown_74 (by decide) ?_
      refine weak (lv' := [(0, vr f), (1, vr 8), (2, vi (nI (i + 1)))]) (fun q hq => List.mem_append_left _ hq) ?_
      refine ih (i + 1) _ (by omega) (by omega) (hF2.tr (Fr.sr (by simp))) (fun p h1 r h2 => ?_)
      rw [sr_eq]
      by_cases hpi : p = i + 1
      · subst hpi
        show _ = enc (up (kn c i) (c i 0) (kst (kn c i) (c i)) r)
        by_cases hrt : r = c i 0
        · rw [hrt, show (i + 1) * 4 + c i 0 = i * 4 + 4 + c i 0 by omega, up_eq, up_eq]
        · rw [up_ne (by omega), up_ne hrt]
          exact e3 r h2
      · rw [up_ne (by omega)]
        exact e2 p (by omega) r h2
  have loop1 : ∀ (m i : Nat) (I' : Nat → Nat → Int32), m = 4 - i → i ≤ 4 → Fr [f + 2] I I' → (∀ r, r < i → I' (f + 2) r = -6) → X G d zX3_followKnown 2 [(0, vr f), (1, vr 8), (2, vi (nI i))] [] (NC, I', J, layR sw) 0 0 (qv Q) := by
    intro m
    induction m with
    | zero =>
      intro i I' hm him hF hp
      obtain rfl : i = 4 := by omega
      refine X_iload_n dX3_followKnown_2 rfl ?_
      refine X_iconst (v := nI 4) dX3_followKnown_3 (by decide) ?_
      refine X_icmp_ge (tgt := 21) dX3_followKnown_4 (by decide) (fun b => ?_) (fun b => ?_)
      · refine X_iconst (v := nI 0) dX3_followKnown_21 (by decide) ?_
        refine X_istore_n dX3_followKnown_22 rfl rfl ?_
        refine loop2 n 0 I' rfl (Nat.zero_le n) hF (fun p h1 r h2 => ?_)
        obtain rfl : p = 0 := by omega
        rw [Nat.zero_mul, Nat.zero_add]
        exact hp r h2
      · exact absurd (by decide) b
    | succ m ih =>
      intro i I' hm him hF hp
      refine X_iload_n dX3_followKnown_2 rfl ?_
      refine X_iconst (v := nI 4) dX3_followKnown_3 (by decide) ?_
      refine X_icmp_ge (tgt := 21) dX3_followKnown_4 (by decide) (fun b => ?_) (fun b => ?_)
      · exact absurd ((nle (by omega) (by omega)).mp b) (by omega)
      refine X_aload_n dX3_followKnown_7 rfl ?_
      refine X_getR dX3_followKnown_8 gf_X3_15 (by first | assumption | rfl) (by first | assumption | exact Nat.le_of_ble_eq_true rfl | omega) rfl (by first | assumption | rfl) ?_
      refine X_iload_n dX3_followKnown_11 rfl ?_
      refine X_bipush (v := (-6)) dX3_followKnown_12 (by decide) ?_
      refine X_iast dX3_followKnown_14 (by first | assumption | rfl) (by first | assumption | exact Nat.le_of_ble_eq_true rfl | omega) rfl (by first | decide | omega) (by decide) ?_
      first | refine X_iinc1 dX3_followKnown_15 rfl rfl rfl ?_ | refine X_iinc dX3_followKnown_15 rfl rfl rfl rfl ?_
      refine X_goto (tgt := 2) dX3_followKnown_18 (by decide) ?_
      refine ih (i + 1) _ (by omega) (by omega) (hF.tr (Fr.sr (by simp))) (fun r h => ?_)
      rw [sr_eq]
      by_cases hri : r = i
      · rw [hri, up_eq]
      · rw [up_ne hri]; exact hp r (by omega)
  refine X_iconst (v := nI 0) dX3_followKnown_0 (by decide) ?_
  refine X_istore_n dX3_followKnown_1 rfl rfl ?_
  exact loop1 4 0 I rfl (by decide) Fr.rf (fun r h => absurd h (Nat.not_lt_zero r))
def sp_known (s : SS) (x y : Int32) : Int32 := if (x < 0 ∨ nI (dC s.2.1).1 < x) ∨ (y < 0 ∨ nI 4 ≤ y) then -1 else enc (kn (dC s.2.1).2 x.toNatClampNeg y.toNatClampNeg)
set_option maxRecDepth 20000 in
theorem C_known {x y : Int32} (hd : 4 ≤ d) (hv : VSt s) (hi : CInv I s) : Y G d zX11_known [vr 0, vi x, vi y] (NC, I, J, layR sw) 0 0 (qi (PC s (sp_known s x y) I J)) := by
  have hn := hv.2.1.1.1
  refine Y_of rfl rfl (Nat.le_of_ble_eq_true rfl) rfl ?_
  unfold sp_known
  rcases pcase hn x with h | ⟨a, ha, rfl⟩
  · rw [if_pos (Or.inl h)]
    refine X_aload_n dX11_known_0 rfl ?_
    refine X_iload_n dX11_known_1 rfl ?_
    refine X_cVi dX11_known_2 ck_X11_145 rfl rfl (by first | assumption | rfl) (by first | assumption | exact Nat.le_of_ble_eq_true rfl | omega) (by omega) (Nat.le_of_ble_eq_true rfl) (c_isNoPlace_t hi.2.1.1.1 h ?_)
    refine X_if_ne (tgt := 15) dX11_known_5 (by decide) (fun b => ?_) (fun b => ?_)
    · refine X_iconst (v := (-1)) dX11_known_15 (by decide) ?_
      exact X_iret dX11_known_16 rfl ⟨_, rfl, PC_same hi⟩
    · exact absurd b (by decide)
  · refine X_aload_n dX11_known_0 rfl ?_
    refine X_iload_n dX11_known_1 rfl ?_
    refine X_cVi dX11_known_2 ck_X11_145 rfl rfl (by first | assumption | rfl) (by first | assumption | exact Nat.le_of_ble_eq_true rfl | omega) (by omega) (Nat.le_of_ble_eq_true rfl) (c_isNoPlace_f hi.2.1.1.1 hn ha ?_)
    refine X_if_ne (tgt := 15) dX11_known_5 (by decide) (fun b => ?_) (fun b => ?_)
    · exact absurd rfl b
    refine X_iload_n dX11_known_8 rfl ?_
    rcases scase (n := 4) (by decide) y with h | ⟨t, ht, rfl⟩
    · rw [if_pos (Or.inr h)]
      refine X_cSi dX11_known_9 ck_X11_165 rfl rfl (by omega) (Nat.le_of_ble_eq_true rfl) (c_isNoReg_t h ?_)
      refine X_if_eq (tgt := 17) dX11_known_12 (by decide) (fun b12 => ?_) (fun b12 => ?_)
      · exact absurd b12 (by decide)
      · refine X_iconst (v := (-1)) dX11_known_15 (by decide) ?_
        exact X_iret dX11_known_16 rfl ⟨_, rfl, PC_same hi⟩
    · rw [if_neg (fun q => q.elim (pcase_n hn ha) (scase_n (by decide) ht)), nI_clamp (by omega), nI_clamp (by omega)]
      refine X_cSi dX11_known_9 ck_X11_165 rfl rfl (by omega) (Nat.le_of_ble_eq_true rfl) (c_isNoReg_f ht ?_)
      refine X_if_eq (tgt := 17) dX11_known_12 (by decide) (fun b12 => ?_) (fun b12 => ?_)
      · refine X_aload_n dX11_known_17 rfl ?_
        refine X_getR dX11_known_18 gf_X11_34 (by first | assumption | rfl) (by first | assumption | exact Nat.le_of_ble_eq_true rfl | omega) rfl (by first | assumption | rfl) ?_
        refine X_aload_n dX11_known_21 rfl ?_
        refine X_getR dX11_known_22 gf_X11_19 (by first | assumption | rfl) (by first | assumption | exact Nat.le_of_ble_eq_true rfl | omega) rfl (by first | assumption | rfl) ?_
        refine X_getR dX11_known_25 gf_X11_106 (by first | assumption | rfl) (by first | assumption | exact Nat.le_of_ble_eq_true rfl | omega) rfl (by first | assumption | rfl) ?_
        refine X_cVv dX11_known_28 ck_X11_168 rfl rfl (by first | assumption | rfl) (by first | assumption | exact Nat.le_of_ble_eq_true rfl | omega) (by omega) (Nat.le_of_ble_eq_true rfl) (c_followKnown (by omega) fa102 hi.2.1.1 hv.2.1.1 (fun I' hF hl => ?_))
        refine X_aload_n dX11_known_31 rfl ?_
        refine X_getR dX11_known_32 gf_X11_34 (by first | assumption | rfl) (by first | assumption | exact Nat.le_of_ble_eq_true rfl | omega) rfl (by first | assumption | rfl) ?_
        refine X_getR dX11_known_35 gf_X11_171 (by first | assumption | rfl) (by first | assumption | exact Nat.le_of_ble_eq_true rfl | omega) rfl (by first | assumption | rfl) ?_
        refine X_iload_n dX11_known_38 rfl ?_
        refine X_iconst (v := nI 4) dX11_known_39 (by decide) ?_
        first | refine X_imulN dX11_known_40 ?_ | refine X_imul dX11_known_40 ?_
        refine X_iload_n dX11_known_41 rfl ?_
        first | refine X_iaddN dX11_known_42 ?_ | refine X_iadd dX11_known_42 ?_
        first | refine X_iald dX11_known_43 (by first | assumption | rfl) (by first | assumption | exact Nat.le_of_ble_eq_true rfl | omega) rfl (by first | decide | omega) (by decide) ?_ | refine X_ildA dX11_known_43 rfl (by omega) ?_ | refine X_ildM dX11_known_43 rfl (by omega) ?_ | refine X_sld dX11_known_43 rfl (by omega) (by omega) ?_
        rw [hl a ha t ht]
        exact X_iret dX11_known_44 rfl ⟨_, rfl, PC_scr hi hv _ hF (by decide)⟩
      · exact absurd rfl b12
end CK
