/-! rules: the class -/
def RuN (I : Nat → Nat → Int32) (r : Nat) (N : Nat → Nat) : Prop := (∀ q, q < 4 → I (r + 5) q = enc (N q)) ∧ I r 3 = nI (tkb N)
def nmd (g : Nat → Nat → Nat) : Nat → Nat
  | 0 => 0
  | k + 1 => nmd g k ||| ((rb (g k 2) ||| rb (g k 3)) ||| 2 ^ g k 0)
theorem nmd_bit {g : Nat → Nat → Nat} {q : Nat} (hq : q < 4) : ∀ k, (nmd g k).testBit q = inG g q k
  | 0 => Nat.zero_testBit q
  | k + 1 => by
    apply Bool.eq_iff_iff.mpr
    unfold nmd inG
    rw [Nat.testBit_or, Nat.testBit_or, nmd_bit hq k, Bool.or_eq_true, Bool.or_eq_true, Bool.or_eq_true, rb2_bit hq, Nat.testBit_two_pow, decide_eq_true_iff, decide_eq_true_iff]
    constructor
    · rintro (h | (h | h) | h)
      · exact Or.inl h
      · exact Or.inr (Or.inr (Or.inl h))
      · exact Or.inr (Or.inr (Or.inr h))
      · exact Or.inr (Or.inl h)
    · rintro (h | h | h | h)
      · exact Or.inl h
      · exact Or.inr (Or.inr h)
      · exact Or.inr (Or.inl (Or.inl h))
      · exact Or.inr (Or.inl (Or.inr h))
theorem nmd_lt {g : Nat → Nat → Nat} {n : Nat} (hv : VC n g) : ∀ k, k ≤ n → nmd g k < 16
  | 0, _ => by unfold nmd; decide
  | k + 1, h => or16 (nmd_lt hv k (by omega)) (or16 (or16 (rb_lt _) (rb_lt _)) (pow4 (hv.2 k (by omega)).1))
section CG
variable {G : GG} {d : Nat} {sw : Bool} {I : Nat → Nat → Int32} {J : Nat → Nat → Int64} {s : SS} {n : Nat} {c : Nat → Nat → Nat} {r : Nat}
set_option maxRecDepth 20000 in
theorem c_giveName {Q : Mm → Prop} {m v : Nat} {N : Nat → Nat} (hr : IsRu r) (hN : RuN I r N) (hm : m < 4) (hv : v < 4) (h9 : N m = 99) (hQ : ∀ I', Fr [r, r + 5] I I' → RuN I' r (up N m v) → Q (NC, I', J, layR sw)) : Y G d zX9_giveName [vr r, vi (nI m), vi (nI v)] (NC, I, J, layR sw) 0 0 (qv Q) := by
  obtain ⟨u1, u2, u3, u4, u5, u6, u7, u8⟩ := hr
  have u4 := u4 sw
  have hr0 : r < NC := by omega
  refine Y_of rfl rfl (Nat.le_of_ble_eq_true rfl) rfl ?_
  refine X_aload_n dX9_giveName_0 rfl ?_
  refine X_getR dX9_giveName_1 gf_X9_21 (by first | assumption | rfl) (by first | assumption | exact Nat.le_of_ble_eq_true rfl | omega) rfl (by first | assumption | rfl) ?_
  refine X_iload_n dX9_giveName_4 rfl ?_
  refine X_iload_n dX9_giveName_5 rfl ?_
  refine X_iast dX9_giveName_6 (by first | assumption | rfl) (by first | assumption | exact Nat.le_of_ble_eq_true rfl | omega) rfl (by first | decide | omega) (by decide) ?_
  refine X_aload_n dX9_giveName_7 rfl ?_
  refine X_dup dX9_giveName_8 rfl ?_
  refine X_getI dX9_giveName_9 gf_X9_43 (by first | assumption | rfl) (by first | assumption | exact Nat.le_of_ble_eq_true rfl | omega) rfl ?_
  rw [sr_ne (show r ≠ r + 5 by omega), hN.2]
  refine X_iconst (v := nI 1) dX9_giveName_12 (by decide) ?_
  refine X_iload_n dX9_giveName_13 rfl ?_
  first | refine X_ishl1 dX9_giveName_14 (by omega) ?_ | refine X_ishl dX9_giveName_14 ?_
  first | refine X_iorN dX9_giveName_15 ?_ | refine X_ior dX9_giveName_15 ?_
  refine X_putI dX9_giveName_16 gf_X9_43 (Or.inl rfl) (by first | assumption | rfl) (by first | assumption | exact Nat.le_of_ble_eq_true rfl | omega) rfl ?_
  refine X_vret dX9_giveName_19 rfl ⟨rfl, hQ _ ((Fr.sr (by simp)).tr (Fr.sr (by simp))) ⟨fun q hq => ?_, ?_⟩⟩
  · rw [sr_ne (by omega), sr_eq]
    by_cases e : q = m
    · rw [e, up_eq, up_eq, enc_n (by omega)]
    · rw [up_ne e, up_ne e]; exact hN.1 q hq
  · rw [sr_eq, up_eq, tkb_up hm h9 hv]
set_option maxRecDepth 20000 in
theorem c_mayBeCalled {Q : Int32 → Mm → Prop} {m v : Nat} {N : Nat → Nat} (hd : 1 ≤ d) (hr : IsRu r) (hN : RuN I r N) (hNV : NV N) (hm : opd m ∨ m = 99) (hv : opd v ∨ v = 99) (hS : ∀ I' N', nm1 N m v = some N' → Fr [r, r + 5] I I' → RuN I' r N' → Q (nI 1) (NC, I', J, layR sw)) (hF : ∀ I', nm1 N m v = none → Fr [r, r + 5] I I' → Q (nI 0) (NC, I', J, layR sw)) : Y G d zX9_mayBeCalled [vr r, vi (enc m), vi (enc v)] (NC, I, J, layR sw) 0 0 (qi Q) := by
  have hru := hr
  obtain ⟨u1, u2, u3, u4, u5, u6, u7, u8⟩ := hru
  have u4 := u4 sw
  have hr0 : r < NC := by omega
  unfold opd at hm hv
  refine Y_of rfl rfl (Nat.le_of_ble_eq_true rfl) rfl ?_
  refine X_iload_n dX9_mayBeCalled_0 rfl ?_
  by_cases hm4 : m < 4
  · rw [enc_n (v := m) (by omega)]
    refine X_cSi dX9_mayBeCalled_1 ck_X9_54 rfl rfl (by omega) (Nat.le_of_ble_eq_true rfl) (c_isNoReg_f hm4 ?_)
    refine X_if_eq (tgt := 18) dX9_mayBeCalled_4 (by decide) (fun b4 => ?_) (fun b4 => ?_)
    · refine X_iload_n dX9_mayBeCalled_18 rfl ?_
      by_cases hv4 : v < 4
      · rw [enc_n (v := v) (by omega)]
        refine X_cSi dX9_mayBeCalled_19 ck_X9_54 rfl rfl (by omega) (Nat.le_of_ble_eq_true rfl) (c_isNoReg_f hv4 ?_)
        refine X_if_eq (tgt := 27) dX9_mayBeCalled_22 (by decide) (fun b22 => ?_) (fun b22 => ?_)
        · have e1 : nm1 N m v = if nmU N m v m = v then some (nmU N m v) else none := if_pos ⟨hm4, hv4⟩
          have fin : ∀ (I' : Nat → Nat → Int32) (N' : Nat → Nat), N' = nmU N m v → NV N' → Fr [r, r + 5] I I' → RuN I' r N' → X G d zX9_mayBeCalled 55 [(0, vr r), (1, vi (nI m)), (2, vi (nI v))] [] (NC, I', J, layR sw) 0 0 (qi Q) := by
            intro I' N' hN' hNV' f' hR'
            rw [← hN'] at e1
            have hnm := hNV' m hm4
            refine X_aload_n dX9_mayBeCalled_55 rfl ?_
            refine X_getR dX9_mayBeCalled_56 gf_X9_21 (by first | assumption | rfl) (by first | assumption | exact Nat.le_of_ble_eq_true rfl | omega) rfl (by first | assumption | rfl) ?_
            refine X_iload_n dX9_mayBeCalled_59 rfl ?_
            first | refine X_iald dX9_mayBeCalled_60 (by first | assumption | rfl) (by first | assumption | exact Nat.le_of_ble_eq_true rfl | omega) rfl (by first | decide | omega) (by decide) ?_ | refine X_ildA dX9_mayBeCalled_60 rfl (by omega) ?_ | refine X_ildM dX9_mayBeCalled_60 rfl (by omega) ?_ | refine X_sld dX9_mayBeCalled_60 rfl (by omega) (by omega) ?_
            rw [hR'.1 m hm4, ← enc_n (v := v) (by omega)]
            refine X_iload_n dX9_mayBeCalled_61 rfl ?_
            have ei := enc_inj (a := N' m) (b := v) (by omega) (by omega)
            by_cases q : N' m = v
            · rw [if_pos q] at e1
              refine X_icmp_ne (tgt := 69) dX9_mayBeCalled_62 (by decide) (fun b62 => ?_) (fun b62 => ?_)
              · exact absurd (ei.mpr q) b62
              refine X_iconst (v := nI 1) dX9_mayBeCalled_65 (by decide) ?_
              refine X_goto (tgt := 70) dX9_mayBeCalled_66 (by decide) ?_
              exact X_zret dX9_mayBeCalled_70 rfl (by first | rfl | (simp; done) | decide) ⟨_, rfl, hS I' N' e1 f' hR'⟩
            · rw [if_neg q] at e1
              refine X_icmp_ne (tgt := 69) dX9_mayBeCalled_62 (by decide) (fun b62 => ?_) (fun b62 => ?_)
              · refine X_iconst (v := nI 0) dX9_mayBeCalled_69 (by decide) ?_
                exact X_zret dX9_mayBeCalled_70 rfl (by first | rfl | (simp; done) | decide) ⟨_, rfl, hF I' e1 f'⟩
              · exact absurd (ei.mp b62) q
          refine X_aload_n dX9_mayBeCalled_27 rfl ?_
          refine X_getR dX9_mayBeCalled_28 gf_X9_21 (by first | assumption | rfl) (by first | assumption | exact Nat.le_of_ble_eq_true rfl | omega) rfl (by first | assumption | rfl) ?_
          refine X_iload_n dX9_mayBeCalled_31 rfl ?_
          first | refine X_iald dX9_mayBeCalled_32 (by first | assumption | rfl) (by first | assumption | exact Nat.le_of_ble_eq_true rfl | omega) rfl (by first | decide | omega) (by decide) ?_ | refine X_ildA dX9_mayBeCalled_32 rfl (by omega) ?_ | refine X_ildM dX9_mayBeCalled_32 rfl (by omega) ?_ | refine X_sld dX9_mayBeCalled_32 rfl (by omega) (by omega) ?_
          rw [hN.1 m hm4]
          refine X_bipush (v := (-6)) dX9_mayBeCalled_33 (by decide) ?_
          have hnm := hNV m hm4
          by_cases h9 : N m = 99
          · rw [h9, enc_99]
            refine X_icmp_ne (tgt := 55) dX9_mayBeCalled_35 (by decide) (fun b35 => ?_) (fun b35 => ?_)
            · exact absurd rfl b35
            refine X_aload_n dX9_mayBeCalled_38 rfl ?_
            refine X_getI dX9_mayBeCalled_39 gf_X9_43 (by first | assumption | rfl) (by first | assumption | exact Nat.le_of_ble_eq_true rfl | omega) rfl ?_
            rw [hN.2]
            have htk := tkb_lt N
            refine X_iload_n dX9_mayBeCalled_42 rfl ?_
            first | refine X_ishrN dX9_mayBeCalled_43 (by omega) (by omega) ?_ | refine X_ishr dX9_mayBeCalled_43 ?_
            refine X_iconst (v := nI 1) dX9_mayBeCalled_44 (by decide) ?_
            first | refine X_iandN dX9_mayBeCalled_45 ?_ | refine X_iandC dX9_mayBeCalled_45 ?_ | refine X_iand dX9_mayBeCalled_45 ?_
            rw [Nat.and_one_is_mod, bit_mod, tkb_bit hv4]
            cases ht : tkn N v
            · rw [if_neg (by decide)]
              refine X_if_ne (tgt := 55) dX9_mayBeCalled_46 (by decide) (fun b46 => ?_) (fun b46 => ?_)
              · exact absurd rfl b46
              refine X_aload_n dX9_mayBeCalled_49 rfl ?_
              refine X_iload_n dX9_mayBeCalled_50 rfl ?_
              refine X_iload_n dX9_mayBeCalled_51 rfl ?_
              refine X_cVv dX9_mayBeCalled_52 ck_X9_58 rfl rfl (by first | assumption | rfl) (by first | assumption | exact Nat.le_of_ble_eq_true rfl | omega) (by omega) (Nat.le_of_ble_eq_true rfl) (c_giveName hr hN hm4 hv4 h9 (fun I' f' hR' => ?_))
              refine fin I' (up N m v) (if_pos ⟨h9, ht⟩).symm (fun q hq => ?_) f' hR'
              by_cases e : q = m
              · rw [e, up_eq]; exact Or.inr hv4
              · rw [up_ne e]; exact hNV q hq
            · rw [if_pos rfl]
              refine X_if_ne (tgt := 55) dX9_mayBeCalled_46 (by decide) (fun b46 => ?_) (fun b46 => ?_)
              · exact fin I N (if_neg (fun q => by rw [ht] at q; exact absurd q.2 (by decide))).symm hNV Fr.rf hN
              · exact absurd b46 (by decide)
          · refine X_icmp_ne (tgt := 55) dX9_mayBeCalled_35 (by decide) (fun b35 => ?_) (fun b35 => ?_)
            · exact fin I N (if_neg (fun q => h9 q.1)).symm hNV Fr.rf hN
            · rw [enc_n h9] at b35
              exact absurd (by rw [b35]; decide) (nneg (a := N m) (by omega))
        · exact absurd rfl b22
      · have e1 : nm1 N m v = none := by
          unfold nm1
          rw [if_neg (fun q => hv4 q.2), if_neg (by omega)]
        refine X_cSi dX9_mayBeCalled_19 ck_X9_54 rfl rfl (by omega) (Nat.le_of_ble_eq_true rfl) (c_isNoReg_t (enc_big hv4 (by omega)) ?_)
        refine X_if_eq (tgt := 27) dX9_mayBeCalled_22 (by decide) (fun b22 => ?_) (fun b22 => ?_)
        · exact absurd b22 (by decide)
        refine X_iconst (v := nI 0) dX9_mayBeCalled_25 (by decide) ?_
        exact X_zret dX9_mayBeCalled_26 rfl (by first | rfl | (simp; done) | decide) ⟨_, rfl, hF I e1 Fr.rf⟩
    · exact absurd rfl b4
  · have e1 : nm1 N m v = if m = v then some N else none := if_neg (fun q => hm4 q.1)
    have ei := enc_inj (a := m) (b := v) (by omega) (by omega)
    refine X_cSi dX9_mayBeCalled_1 ck_X9_54 rfl rfl (by omega) (Nat.le_of_ble_eq_true rfl) (c_isNoReg_t (enc_big hm4 (by omega)) ?_)
    refine X_if_eq (tgt := 18) dX9_mayBeCalled_4 (by decide) (fun b4 => ?_) (fun b4 => ?_)
    · exact absurd b4 (by decide)
    refine X_iload_n dX9_mayBeCalled_7 rfl ?_
    refine X_iload_n dX9_mayBeCalled_8 rfl ?_
    by_cases q : m = v
    · rw [if_pos q] at e1
      refine X_icmp_ne (tgt := 16) dX9_mayBeCalled_9 (by decide) (fun b9 => ?_) (fun b9 => ?_)
      · exact absurd (ei.mpr q) b9
      refine X_iconst (v := nI 1) dX9_mayBeCalled_12 (by decide) ?_
      refine X_goto (tgt := 17) dX9_mayBeCalled_13 (by decide) ?_
      exact X_zret dX9_mayBeCalled_17 rfl (by first | rfl | (simp; done) | decide) ⟨_, rfl, hS I N e1 Fr.rf hN⟩
    · rw [if_neg q] at e1
      refine X_icmp_ne (tgt := 16) dX9_mayBeCalled_9 (by decide) (fun b9 => ?_) (fun b9 => ?_)
      · refine X_iconst (v := nI 0) dX9_mayBeCalled_16 (by decide) ?_
        exact X_zret dX9_mayBeCalled_17 rfl (by first | rfl | (simp; done) | decide) ⟨_, rfl, hF I e1 Fr.rf⟩
      · exact absurd (ei.mp b9) q
theorem opd_w {n : Nat} {c : Nat → Nat → Nat} (hv : VC n c) {i : Nat} (hi : i < n) {w : Nat} (hw : w = 0 ∨ w = 2 ∨ w = 3) : opd (c i w) ∨ c i w = 99 := by
  rcases hw with rfl | rfl | rfl
  · exact Or.inl (Or.inl (hv.2 i hi).1)
  · exact VS_o2 (hv.2 i hi)
  · exact VS_o3 (hv.2 i hi)
set_option maxRecDepth 20000 in
set_option maxHeartbeats 1000000 in
theorem c_fitsAt {Q : Int32 → Mm → Prop} {a ln : Nat} {l : Nat → Nat → Nat} (hd : 2 ≤ d) (hr : IsRu r) (h1 : 14 ≤ r) (hc : CR I 8 n c) (hv : VC n c) (hl : CR I (r + 1) ln l) (hlv : VC ln l) (ha : a + ln ≤ n) (hS : ∀ I' N, mat l c a ln = some N → Fr [r, r + 5] I I' → RuN I' r N → Q (nI 1) (NC, I', J, layR sw)) (hF : ∀ I', mat l c a ln = none → Fr [r, r + 5] I I' → Q (nI 0) (NC, I', J, layR sw)) : Y G d zX9_fitsAt [vr r, vr 8, vi (nI a)] (NC, I, J, layR sw) 0 0 (qi Q) := by
  have hru := hr
  obtain ⟨u1, u2, u3, u4, u5, u6, u7, u8⟩ := hru
  have u2 := u2 sw
  have u4 := u4 sw
  have hr0 : r < NC := by omega
  have hr1 : r + 1 < NC := by omega
  have u51 := u5.1
  have hn := hv.1
  have fc : ∀ I', Fr [r, r + 5] I I' → CR I' 8 n c := fun I' f => CR_fr hc f (by simp <;> omega) (by simp <;> omega)
  have fl : ∀ I', Fr [r, r + 5] I I' → CR I' (r + 1) ln l := fun I' f => CR_fr hl f (by simp <;> omega) (by simp <;> omega)
  have loop : ∀ (m k : Nat) (I' : Nat → Nat → Int32) (N : Nat → Nat), m = ln - k → k ≤ ln → Fr [r, r + 5] I I' → RuN I' r N → NV N → mat l c a k = some N → ∀ L2, X G d zX9_fitsAt 16 ([(0, vr r), (1, vr 8), (2, vi (nI a)), (3, vi (nI k))] ++ L2) [] (NC, I', J, layR sw) 0 0 (qi Q) := by
    intro m
    induction m with
    | zero =>
      intro k I' N hm hk hF' hN hNV hmat L2
      obtain rfl : k = ln := by omega
      refine weak (lv' := [(0, vr r), (1, vr 8), (2, vi (nI a)), (3, vi (nI k))]) (fun q hq => List.mem_append_left _ hq) ?_
      refine X_iload_n dX9_fitsAt_16 rfl ?_
      refine X_aload_n dX9_fitsAt_17 rfl ?_
      refine X_getR dX9_fitsAt_18 gf_X9_12 (by first | assumption | rfl) (by first | assumption | exact Nat.le_of_ble_eq_true rfl | omega) rfl (by first | assumption | rfl) ?_
      refine X_getI dX9_fitsAt_21 gf_X9_29 (by first | assumption | rfl) (by first | assumption | exact Nat.le_of_ble_eq_true rfl | omega) rfl ?_
      rw [(fl I' hF').1]
      refine X_icmp_ge (tgt := 109) dX9_fitsAt_24 (by decide) (fun b => ?_) (fun b => ?_)
      · refine X_iconst (v := nI 1) dX9_fitsAt_109 (by decide) ?_
        exact X_zret dX9_fitsAt_110 rfl (by first | rfl | (simp; done) | decide) ⟨_, rfl, hS I' N hmat hF' hN⟩
      · exact absurd (Int32.le_refl _) b
    | succ m ih =>
      intro k I' N hm hk hF' hN hNV hmat L2
      have hkl : k < ln := by omega
      have hln := hlv.1
      have e0 := mat_s hmat
      have bad : ∀ (I2 : Nat → Nat → Int32) (w : Nat) (x5 x6 : Int32), mat l c a (k + 1) = none → Fr [r, r + 5] I I2 → X G d zX9_fitsAt 88 [(0, vr r), (1, vr 8), (2, vi (nI a)), (3, vi (nI k)), (4, vi (nI w)), (5, vi x5), (6, vi x6)] [vi (nI 0)] (NC, I2, J, layR sw) 0 0 (qi Q) := by
        intro I2 w x5 x6 h f2
        have h2 := mat_n h (ln - (k + 1))
        rw [show k + 1 + (ln - (k + 1)) = ln by omega] at h2
        refine X_istore dX9_fitsAt_88 rfl rfl ?_
        refine X_iload dX9_fitsAt_90 rfl ?_
        refine X_if_ne (tgt := 97) dX9_fitsAt_92 (by decide) (fun b92 => ?_) (fun b92 => ?_)
        · exact absurd rfl b92
        refine X_iconst (v := nI 0) dX9_fitsAt_95 (by decide) ?_
        exact X_zret dX9_fitsAt_96 rfl (by first | rfl | (simp; done) | decide) ⟨_, rfl, hF I2 h2 f2⟩
      have good : ∀ (I2 : Nat → Nat → Int32) (w : Nat) (x5 x6 : Int32), (∀ L2, X G d zX9_fitsAt 30 ([(0, vr r), (1, vr 8), (2, vi (nI a)), (3, vi (nI k)), (4, vi (nI (w + 1)))] ++ L2) [] (NC, I2, J, layR sw) 0 0 (qi Q)) → X G d zX9_fitsAt 88 [(0, vr r), (1, vr 8), (2, vi (nI a)), (3, vi (nI k)), (4, vi (nI w)), (5, vi x5), (6, vi x6)] [vi (nI 1)] (NC, I2, J, layR sw) 0 0 (qi Q) := by
        intro I2 w x5 x6 go
        refine X_istore dX9_fitsAt_88 rfl rfl ?_
        refine X_iload dX9_fitsAt_90 rfl ?_
        refine X_if_ne (tgt := 97) dX9_fitsAt_92 (by decide) (fun b92 => ?_) (fun b92 => ?_)
        · first | refine X_iinc1 dX9_fitsAt_97 rfl rfl rfl ?_ | refine X_iinc dX9_fitsAt_97 rfl rfl rfl rfl ?_
          refine X_goto (tgt := 30) dX9_fitsAt_100 (by decide) ?_
          exact go [(5, vi x5), (6, vi x6), (7, vi (nI 1))]
        · exact absurd b92 (by decide)
      have top : ∀ (w : Nat), w < 4 → ∀ (I2 : Nat → Nat → Int32), Fr [r, r + 5] I I2 → X G d zX9_fitsAt 59 [(0, vr r), (1, vr 8), (2, vi (nI a)), (3, vi (nI k)), (4, vi (nI w)), (5, vi (enc (l k w))), (6, vi (enc (c (a + k) w)))] [] (NC, I2, J, layR sw) 0 0 (qi Q) → ∀ L2, X G d zX9_fitsAt 30 ([(0, vr r), (1, vr 8), (2, vi (nI a)), (3, vi (nI k)), (4, vi (nI w))] ++ L2) [] (NC, I2, J, layR sw) 0 0 (qi Q) := by
        intro w hw I2 f2 go L2
        refine weak (lv' := [(0, vr r), (1, vr 8), (2, vi (nI a)), (3, vi (nI k)), (4, vi (nI w))]) (fun q hq => List.mem_append_left _ hq) ?_
        refine X_iload dX9_fitsAt_30 rfl ?_
        refine X_iconst (v := nI 3) dX9_fitsAt_32 (by decide) ?_
        refine X_icmp_gt (tgt := 103) dX9_fitsAt_33 (by decide) (fun b33 => ?_) (fun b33 => ?_)
        · exact absurd ((nlt (by omega) (by omega)).mp b33) (by omega)
        refine X_aload_n dX9_fitsAt_36 rfl ?_
        refine X_getR dX9_fitsAt_37 gf_X9_12 (by first | assumption | rfl) (by first | assumption | exact Nat.le_of_ble_eq_true rfl | omega) rfl (by first | assumption | rfl) ?_
        refine X_iload_n dX9_fitsAt_40 rfl ?_
        refine X_iload dX9_fitsAt_41 rfl ?_
        refine X_cVi dX9_fitsAt_43 ck_X9_46 rfl rfl (by first | assumption | rfl) (by first | assumption | exact Nat.le_of_ble_eq_true rfl | omega) (by omega) (Nat.le_of_ble_eq_true rfl) (c_part u5 (fl I2 f2).1 hln hkl hw ?_)
        rw [(fl I2 f2).2 k hkl w hw]
        refine X_istore dX9_fitsAt_46 rfl rfl ?_
        refine X_aload_n dX9_fitsAt_48 rfl ?_
        refine X_iload_n dX9_fitsAt_49 rfl ?_
        refine X_iload_n dX9_fitsAt_50 rfl ?_
        first | refine X_iaddN dX9_fitsAt_51 ?_ | refine X_iadd dX9_fitsAt_51 ?_
        refine X_iload dX9_fitsAt_52 rfl ?_
        refine X_cVi dX9_fitsAt_54 ck_X9_46 rfl rfl (by first | assumption | rfl) (by first | assumption | exact Nat.le_of_ble_eq_true rfl | omega) (by omega) (Nat.le_of_ble_eq_true rfl) (c_part cd8 (fc I2 f2).1 hn (show a + k < n by omega) hw ?_)
        rw [show I2 (8 + 1) ((a + k) * 4 + w) = enc (c (a + k) w) from (fc I2 f2).2 (a + k) (by omega) w hw]
        refine X_istore dX9_fitsAt_57 rfl rfl ?_
        exact go
      have stepW : ∀ (w : Nat), (w = 0 ∨ w = 2 ∨ w = 3) → ∀ (I2 : Nat → Nat → Int32) (N2 : Nat → Nat), Fr [r, r + 5] I I2 → RuN I2 r N2 → NV N2 → (nm1 N2 (l k w) (c (a + k) w) = none → mat l c a (k + 1) = none) → (∀ I3 N3, nm1 N2 (l k w) (c (a + k) w) = some N3 → Fr [r, r + 5] I I3 → RuN I3 r N3 → ∀ L2, X G d zX9_fitsAt 30 ([(0, vr r), (1, vr 8), (2, vi (nI a)), (3, vi (nI k)), (4, vi (nI (w + 1)))] ++ L2) [] (NC, I3, J, layR sw) 0 0 (qi Q)) → ∀ L2, X G d zX9_fitsAt 30 ([(0, vr r), (1, vr 8), (2, vi (nI a)), (3, vi (nI k)), (4, vi (nI w))] ++ L2) [] (NC, I2, J, layR sw) 0 0 (qi Q) := by
        intro w hw I2 N2 f2 hN2 hNV2 hno go
        refine top w (by omega) I2 f2 ?_
        refine X_iload dX9_fitsAt_59 rfl ?_
        refine X_iconst (v := nI 1) dX9_fitsAt_61 (by decide) ?_
        refine X_icmp_ne (tgt := 80) dX9_fitsAt_62 (by decide) (fun b62 => ?_) (fun b62 => ?_)
        · refine X_aload_n dX9_fitsAt_80 rfl ?_
          refine X_iload dX9_fitsAt_81 rfl ?_
          refine X_iload dX9_fitsAt_83 rfl ?_
          refine X_cVi dX9_fitsAt_85 ck_X9_50 rfl rfl (by first | assumption | rfl) (by first | assumption | exact Nat.le_of_ble_eq_true rfl | omega) (by omega) (Nat.le_of_ble_eq_true rfl) (c_mayBeCalled (by omega) hr hN2 hNV2 (opd_w hlv hkl hw) (opd_w hv (show a + k < n by omega) hw) (fun I3 N3 h3 f3 hR3 => ?_) (fun I3 h3 f3 => ?_))
          · exact good I3 w _ _ (go I3 N3 h3 (f2.tr f3) hR3)
          · exact bad I3 w _ _ (hno h3) (f2.tr f3)
        · exact absurd ((neq (by omega) (by omega)).mp b62) (by omega)
      refine weak (lv' := [(0, vr r), (1, vr 8), (2, vi (nI a)), (3, vi (nI k))]) (fun q hq => List.mem_append_left _ hq) ?_
      refine X_iload_n dX9_fitsAt_16 rfl ?_
      refine X_aload_n dX9_fitsAt_17 rfl ?_
      refine X_getR dX9_fitsAt_18 gf_X9_12 (by first | assumption | rfl) (by first | assumption | exact Nat.le_of_ble_eq_true rfl | omega) rfl (by first | assumption | rfl) ?_
      refine X_getI dX9_fitsAt_21 gf_X9_29 (by first | assumption | rfl) (by first | assumption | exact Nat.le_of_ble_eq_true rfl | omega) rfl ?_
      rw [(fl I' hF').1]
      refine X_icmp_ge (tgt := 109) dX9_fitsAt_24 (by decide) (fun b => ?_) (fun b => ?_)
      · exact absurd ((nle (by omega) (by omega)).mp b) (by omega)
      refine X_iconst (v := nI 0) dX9_fitsAt_27 (by decide) ?_
      refine X_istore dX9_fitsAt_28 rfl rfl ?_
      unfold mstN at e0
      refine stepW 0 (Or.inl rfl) I' N hF' hN hNV (fun h => ?_) (fun I1 N1 h1' f1 hR1 => ?_) []
      · rw [e0, h]
        split <;> rfl
      rw [h1'] at e0
      dsimp only at e0
      refine top 1 (by decide) I1 f1 ?_
      refine X_iload dX9_fitsAt_59 rfl ?_
      refine X_iconst (v := nI 1) dX9_fitsAt_61 (by decide) ?_
      refine X_icmp_ne (tgt := 80) dX9_fitsAt_62 (by decide) (fun b62 => ?_) (fun b62 => ?_)
      · exact absurd rfl b62
      refine X_iload dX9_fitsAt_65 rfl ?_
      refine X_iload dX9_fitsAt_67 rfl ?_
      have ei := enc_inj (a := l k 1) (b := c (a + k) 1) (VS_lt (hlv.2 k hkl) 1 (by decide)) (VS_lt (hv.2 (a + k) (by omega)) 1 (by decide))
      by_cases h11 : l k 1 = c (a + k) 1
      · rw [if_pos h11] at e0
        refine X_icmp_ne (tgt := 76) dX9_fitsAt_69 (by decide) (fun b69 => ?_) (fun b69 => ?_)
        · exact absurd (ei.mpr h11) b69
        refine X_iconst (v := nI 1) dX9_fitsAt_72 (by decide) ?_
        refine X_goto (tgt := 88) dX9_fitsAt_73 (by decide) ?_
        refine good I1 1 _ _ (stepW 2 (Or.inr (Or.inl rfl)) I1 N1 f1 hR1 (nm1_v hNV h1') (fun h => ?_) (fun I2 N2 h2' f2 hR2 => ?_))
        · rw [e0, h]
        rw [h2'] at e0
        dsimp only at e0
        refine stepW 3 (Or.inr (Or.inr rfl)) I2 N2 f2 hR2 (nm1_v (nm1_v hNV h1') h2') (fun h => ?_) (fun I3 N3 h3' f3 hR3 => ?_)
        · rw [e0, h]
        intro L3
        refine weak (lv' := [(0, vr r), (1, vr 8), (2, vi (nI a)), (3, vi (nI k)), (4, vi (nI 4))]) (fun q hq => List.mem_append_left _ hq) ?_
        refine X_iload dX9_fitsAt_30 rfl ?_
        refine X_iconst (v := nI 3) dX9_fitsAt_32 (by decide) ?_
        refine X_icmp_gt (tgt := 103) dX9_fitsAt_33 (by decide) (fun b33 => ?_) (fun b33 => ?_)
        · first | refine X_iinc1 dX9_fitsAt_103 rfl rfl rfl ?_ | refine X_iinc dX9_fitsAt_103 rfl rfl rfl rfl ?_
          refine X_goto (tgt := 16) dX9_fitsAt_106 (by decide) ?_
          exact ih (k + 1) I3 N3 (by omega) (by omega) f3 hR3 (nm1_v (nm1_v (nm1_v hNV h1') h2') h3') (by rw [e0]; exact h3') [(4, vi (nI 4))]
        · exact absurd (by decide) b33
      · rw [if_neg h11] at e0
        refine X_icmp_ne (tgt := 76) dX9_fitsAt_69 (by decide) (fun b69 => ?_) (fun b69 => ?_)
        · refine X_iconst (v := nI 0) dX9_fitsAt_76 (by decide) ?_
          refine X_goto (tgt := 88) dX9_fitsAt_77 (by decide) ?_
          exact bad I1 1 _ _ e0 f1
        · exact absurd (ei.mp b69) h11
  refine Y_of rfl rfl (Nat.le_of_ble_eq_true rfl) rfl ?_
  refine X_aload_n dX9_fitsAt_0 rfl ?_
  refine X_getR dX9_fitsAt_1 gf_X9_21 (by first | assumption | rfl) (by first | assumption | exact Nat.le_of_ble_eq_true rfl | omega) rfl (by first | assumption | rfl) ?_
  refine X_bipush (v := (-6)) dX9_fitsAt_4 (by decide) ?_
  refine X_cSv dX9_fitsAt_6 ck_X9_37 rfl rfl (by omega) (Nat.le_of_ble_eq_true rfl) (c_fill u7 (by decide) u8 (fun I1 f1 g1 => ?_))
  refine X_aload_n dX9_fitsAt_9 rfl ?_
  refine X_iconst (v := nI 0) dX9_fitsAt_10 (by decide) ?_
  refine X_putI dX9_fitsAt_11 gf_X9_43 (Or.inl rfl) (by first | assumption | rfl) (by first | assumption | exact Nat.le_of_ble_eq_true rfl | omega) rfl ?_
  refine X_iconst (v := nI 0) dX9_fitsAt_14 (by decide) ?_
  refine X_istore_n dX9_fitsAt_15 rfl rfl ?_
  refine loop ln 0 _ (fun _ => 99) rfl (Nat.zero_le _) ((f1.sub (by simp)).tr (Fr.sr (by simp))) ⟨fun q hq => ?_, ?_⟩ (fun q _ => Or.inl rfl) rfl []
  · rw [sr_ne (by omega), g1 q hq, enc_99]
  · rw [sr_eq, up_eq, show tkb (fun _ => 99) = 0 by decide]
set_option maxRecDepth 20000 in
theorem c_firstFit {Q : Int32 → Mm → Prop} {R : CC × CC} (hd : 3 ≤ d) (hr : IsRu r) (h1 : 14 ≤ r) (hc : CR I 8 n c) (hv : VC n c) (hl : CR I (r + 1) R.1.1 R.1.2) (hlv : VC R.1.1 R.1.2) (hl1 : 1 ≤ R.1.1) (hQ : ∀ I', Fr [r, r + 5] I I' → Q (fuI (ffit c n R)) (NC, I', J, layR sw)) : Y G d zX9_firstFit [vr r, vr 8] (NC, I, J, layR sw) 0 0 (qi Q) := by
  have hru := hr
  obtain ⟨u1, u2, u3, u4, u5, u6, u7, u8⟩ := hru
  have u2 := u2 sw
  have hr0 : r < NC := by omega
  have hr1 : r + 1 < NC := by omega
  have u51 := u5.1
  have hn := hv.1
  have hln := hlv.1
  obtain ⟨⟨ln, l⟩, gg⟩ := R
  dsimp only at hl hlv hl1 hln
  have fc : ∀ I', Fr [r, r + 5] I I' → CR I' 8 n c := fun I' f => CR_fr hc f (by simp <;> omega) (by simp <;> omega)
  have fl : ∀ I', Fr [r, r + 5] I I' → CR I' (r + 1) ln l := fun I' f => CR_fr hl f (by simp <;> omega) (by simp <;> omega)
  have loop : ∀ (m a : Nat) (I' : Nat → Nat → Int32), m = n - a → a ≤ n → Fr [r, r + 5] I I' → (∀ q, q < a → fitP c n l ln q = false) → X G d zX9_firstFit 2 [(0, vr r), (1, vr 8), (2, vi (nI a))] [] (NC, I', J, layR sw) 0 0 (qi Q) := by
    intro m
    induction m with
    | zero =>
      intro a I' hm ha hF h0
      obtain rfl : a = n := by omega
      have hQ := hQ I' hF
      rw [show ffit c a ((ln, l), gg) = ffR (fitP c a l ln) a from rfl, ffR_none a h0] at hQ
      refine X_iload_n dX9_firstFit_2 rfl ?_
      refine X_aload_n dX9_firstFit_3 rfl ?_
      refine X_getR dX9_firstFit_4 gf_X9_12 (by first | assumption | rfl) (by first | assumption | exact Nat.le_of_ble_eq_true rfl | omega) rfl (by first | assumption | rfl) ?_
      refine X_getI dX9_firstFit_7 gf_X9_29 (by first | assumption | rfl) (by first | assumption | exact Nat.le_of_ble_eq_true rfl | omega) rfl ?_
      rw [(fl I' hF).1]
      first | refine X_iaddN dX9_firstFit_10 ?_ | refine X_iadd dX9_firstFit_10 ?_
      refine X_aload_n dX9_firstFit_11 rfl ?_
      refine X_getI dX9_firstFit_12 gf_X9_29 (by first | assumption | rfl) (by first | assumption | exact Nat.le_of_ble_eq_true rfl | omega) rfl ?_
      rw [(fc I' hF).1]
      refine X_icmp_gt (tgt := 35) dX9_firstFit_15 (by decide) (fun b => ?_) (fun b => ?_)
      · refine X_bipush (v := (-6)) dX9_firstFit_35 (by decide) ?_
        exact X_iret dX9_firstFit_37 rfl ⟨_, rfl, hQ⟩
      · exact absurd ((nlt (by omega) (by omega)).mpr (by omega)) b
    | succ m ih =>
      intro a I' hm ha hF h0
      refine X_iload_n dX9_firstFit_2 rfl ?_
      refine X_aload_n dX9_firstFit_3 rfl ?_
      refine X_getR dX9_firstFit_4 gf_X9_12 (by first | assumption | rfl) (by first | assumption | exact Nat.le_of_ble_eq_true rfl | omega) rfl (by first | assumption | rfl) ?_
      refine X_getI dX9_firstFit_7 gf_X9_29 (by first | assumption | rfl) (by first | assumption | exact Nat.le_of_ble_eq_true rfl | omega) rfl ?_
      rw [(fl I' hF).1]
      first | refine X_iaddN dX9_firstFit_10 ?_ | refine X_iadd dX9_firstFit_10 ?_
      refine X_aload_n dX9_firstFit_11 rfl ?_
      refine X_getI dX9_firstFit_12 gf_X9_29 (by first | assumption | rfl) (by first | assumption | exact Nat.le_of_ble_eq_true rfl | omega) rfl ?_
      rw [(fc I' hF).1]
      refine X_icmp_gt (tgt := 35) dX9_firstFit_15 (by decide) (fun b => ?_) (fun b => ?_)
      · have hb := (nlt (by omega) (by omega)).mp b
        have hQ := hQ I' hF
        rw [show ffit c n ((ln, l), gg) = ffR (fitP c n l ln) n from rfl, ffR_none n (fun q hq => by
          by_cases z : q < a
          · exact h0 q z
          · unfold fitP
            rw [decide_eq_false (by omega), Bool.false_and])] at hQ
        refine X_bipush (v := (-6)) dX9_firstFit_35 (by decide) ?_
        exact X_iret dX9_firstFit_37 rfl ⟨_, rfl, hQ⟩
      · have hb : ¬ n < a + ln := fun q => b ((nlt (by omega) (by omega)).mpr q)
        refine X_aload_n dX9_firstFit_18 rfl ?_
        refine X_aload_n dX9_firstFit_19 rfl ?_
        refine X_iload_n dX9_firstFit_20 rfl ?_
        refine X_cVi dX9_firstFit_21 ck_X9_33 rfl rfl (by first | assumption | rfl) (by first | assumption | exact Nat.le_of_ble_eq_true rfl | omega) (by omega) (Nat.le_of_ble_eq_true rfl) (c_fitsAt (by omega) hr h1 (fc I' hF) hv (fl I' hF) hlv (show a + ln ≤ n by omega) (fun I2 N h2 f2 _ => ?_) (fun I2 h2 f2 => ?_))
        · refine X_if_eq (tgt := 29) dX9_firstFit_24 (by decide) (fun b24 => ?_) (fun b24 => ?_)
          · exact absurd b24 (by decide)
          have hQ := hQ I2 (hF.tr f2)
          rw [show ffit c n ((ln, l), gg) = ffR (fitP c n l ln) n from rfl, ffR_some (r := a) (by unfold fitP; rw [decide_eq_true (show a + ln ≤ n by omega), h2]; rfl) h0 n (by omega)] at hQ
          refine X_iload_n dX9_firstFit_27 rfl ?_
          exact X_iret dX9_firstFit_28 rfl ⟨_, rfl, hQ⟩
        · refine X_if_eq (tgt := 29) dX9_firstFit_24 (by decide) (fun b24 => ?_) (fun b24 => ?_)
          · first | refine X_iinc1 dX9_firstFit_29 rfl rfl rfl ?_ | refine X_iinc dX9_firstFit_29 rfl rfl rfl rfl ?_
            refine X_goto (tgt := 2) dX9_firstFit_32 (by decide) ?_
            refine ih (a + 1) I2 (by omega) (by omega) (hF.tr f2) (fun q hq => ?_)
            by_cases z : q = a
            · unfold fitP
              rw [z, h2, show (none : Option (Nat → Nat)).isSome = false from rfl, Bool.and_false]
            · exact h0 q (by omega)
          · exact absurd rfl b24
  refine Y_of rfl rfl (Nat.le_of_ble_eq_true rfl) rfl ?_
  refine X_iconst (v := nI 0) dX9_firstFit_0 (by decide) ?_
  refine X_istore_n dX9_firstFit_1 rfl rfl ?_
  exact loop n 0 I rfl (Nat.zero_le _) Fr.rf (fun q h => absurd h (Nat.not_lt_zero q))
end CG
