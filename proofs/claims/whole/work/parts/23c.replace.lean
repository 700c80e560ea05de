/-! rules: what is put in their place -/
section CG
variable {G : GG} {d : Nat} {sw : Bool} {I : Nat → Nat → Int32} {J : Nat → Nat → Int64} {s : SS} {n : Nat} {c : Nat → Nat → Nat} {r : Nat}
set_option maxRecDepth 20000 in
theorem c_named {Q : Int32 → Mm → Prop} {p : Nat} (hd : 3 ≤ d) (hp : IsCd p) (hc : CR I p n c) (hv : VC n c) (hQ : Q (nI (nmd c n)) (NC, I, J, layR sw)) : Y G d zX1_named [vr p] (NC, I, J, layR sw) 0 0 (qi Q) := by
  have hpp := hp
  obtain ⟨ps, ps', pr, pkn⟩ := hpp
  have hp0 : p < NC := by omega
  have hn := hv.1
  have loop : ∀ (m i : Nat), m = n - i → i ≤ n → X G d zX1_named 4 [(0, vr p), (1, vi (nI (nmd c i))), (2, vi (nI i))] [] (NC, I, J, layR sw) 0 0 (qi Q) := by
    intro m
    induction m with
    | zero =>
      intro i hm hi
      obtain rfl : i = n := by omega
      refine X_iload_n dX1_named_4 rfl ?_
      refine X_aload_n dX1_named_5 rfl ?_
      refine X_getI dX1_named_6 gf_X1_21 (by first | assumption | rfl) (by first | assumption | exact Nat.le_of_ble_eq_true rfl | omega) rfl ?_
      rw [hc.1]
      refine X_icmp_ge (tgt := 34) dX1_named_9 (by decide) (fun b => ?_) (fun b => ?_)
      · refine X_iload_n dX1_named_34 rfl ?_
        exact X_iret dX1_named_35 rfl ⟨_, rfl, hQ⟩
      · exact absurd (Int32.le_refl _) b
    | succ m ih =>
      intro i hm hi
      have hin : i < n := by omega
      have ht := (hv.2 i hin).1
      refine X_iload_n dX1_named_4 rfl ?_
      refine X_aload_n dX1_named_5 rfl ?_
      refine X_getI dX1_named_6 gf_X1_21 (by first | assumption | rfl) (by first | assumption | exact Nat.le_of_ble_eq_true rfl | omega) rfl ?_
      rw [hc.1]
      refine X_icmp_ge (tgt := 34) dX1_named_9 (by decide) (fun b => ?_) (fun b => ?_)
      · exact absurd ((nle (by omega) (by omega)).mp b) (by omega)
      refine X_iload_n dX1_named_12 rfl ?_
      refine X_aload_n dX1_named_13 rfl ?_
      refine X_iload_n dX1_named_14 rfl ?_
      refine X_cVi dX1_named_15 ck_X1_51 rfl rfl (by first | assumption | rfl) (by first | assumption | exact Nat.le_of_ble_eq_true rfl | omega) (by omega) (Nat.le_of_ble_eq_true rfl) (c_readBits (by omega) hp hc hv hin ?_)
      refine X_iconst (v := nI 1) dX1_named_18 (by decide) ?_
      refine X_aload_n dX1_named_19 rfl ?_
      refine X_iload_n dX1_named_20 rfl ?_
      refine X_cVi dX1_named_21 ck_X1_41 rfl rfl (by first | assumption | rfl) (by first | assumption | exact Nat.le_of_ble_eq_true rfl | omega) (by omega) (Nat.le_of_ble_eq_true rfl) (c_tgt (by omega) hp hc hv hin ?_)
      first | refine X_ishl1 dX1_named_24 (by omega) ?_ | refine X_ishl dX1_named_24 ?_
      first | refine X_iorN dX1_named_25 ?_ | refine X_ior dX1_named_25 ?_
      first | refine X_iorN dX1_named_26 ?_ | refine X_ior dX1_named_26 ?_
      refine X_istore_n dX1_named_27 rfl rfl ?_
      first | refine X_iinc1 dX1_named_28 rfl rfl rfl ?_ | refine X_iinc dX1_named_28 rfl rfl rfl rfl ?_
      refine X_goto (tgt := 4) dX1_named_31 (by decide) ?_
      exact ih (i + 1) (by omega) (by omega)
  refine Y_of rfl rfl (Nat.le_of_ble_eq_true rfl) rfl ?_
  refine X_iconst (v := nI 0) dX1_named_0 (by decide) ?_
  refine X_istore_n dX1_named_1 rfl rfl ?_
  refine X_iconst (v := nI 0) dX1_named_2 (by decide) ?_
  refine X_istore_n dX1_named_3 rfl rfl ?_
  exact loop n 0 rfl (Nat.zero_le _)
set_option maxRecDepth 20000 in
theorem c_nameTheRest {Q : Mm → Prop} {gn : Nat} {g : Nat → Nat → Nat} {N : Nat → Nat} (hd : 4 ≤ d) (hr : IsRu r) (hg : CR I (r + 3) gn g) (hgv : VC gn g) (hN : RuN I r N) (hNV : NV N) (hQ : ∀ I', Fr [r, r + 5] I I' → RuN I' r (rsN g gn N 4) → Q (NC, I', J, layR sw)) : Y G d zX9_nameTheRest [vr r] (NC, I, J, layR sw) 0 0 (qv Q) := by
  have hru := hr
  obtain ⟨u1, u2, u3, u4, u5, u6, u7, u8⟩ := hru
  have u3 := u3 sw
  have u4 := u4 sw
  have hr0 : r < NC := by omega
  have hr3 : r + 3 < NC := by omega
  have u61 := u6.1
  have hlt := nmd_lt hgv gn (Nat.le_refl _)
  have loop : ∀ (m q : Nat) (I' : Nat → Nat → Int32), m = 4 - q → q ≤ 4 → Fr [r, r + 5] I I' → RuN I' r (rsN g gn N q) → ∀ L2, X G d zX9_nameTheRest 10 ([(0, vr r), (1, vi (nI (nmd g gn))), (2, vi (nI q))] ++ L2) [] (NC, I', J, layR sw) 0 0 (qv Q) := by
    intro m
    induction m with
    | zero =>
      intro q I' hm hq hF hR L2
      obtain rfl : q = 4 := by omega
      refine weak (lv' := [(0, vr r), (1, vi (nI (nmd g gn))), (2, vi (nI 4))]) (fun q hq => List.mem_append_left _ hq) ?_
      refine X_iload_n dX9_nameTheRest_10 rfl ?_
      refine X_iconst (v := nI 4) dX9_nameTheRest_11 (by decide) ?_
      refine X_icmp_ge (tgt := 72) dX9_nameTheRest_12 (by decide) (fun b => ?_) (fun b => ?_)
      · exact X_vret dX9_nameTheRest_72 rfl ⟨rfl, hQ I' hF hR⟩
      · exact absurd (by decide) b
    | succ m ih =>
      intro q I' hm hq hF hR L2
      have hq4 : q < 4 := by omega
      have hnv := rsN_v (g := g) (gn := gn) hNV q
      have skip : ∀ I2 L2, rsN g gn N (q + 1) = rsN g gn N (q + 1) → Fr [r, r + 5] I I2 → RuN I2 r (rsN g gn N (q + 1)) → X G d zX9_nameTheRest 66 ([(0, vr r), (1, vi (nI (nmd g gn))), (2, vi (nI q))] ++ L2) [] (NC, I2, J, layR sw) 0 0 (qv Q) := by
        intro I2 L2 _ f2 h2
        refine weak (lv' := [(0, vr r), (1, vi (nI (nmd g gn))), (2, vi (nI q))]) (fun q hq => List.mem_append_left _ hq) ?_
        first | refine X_iinc1 dX9_nameTheRest_66 rfl rfl rfl ?_ | refine X_iinc dX9_nameTheRest_66 rfl rfl rfl rfl ?_
        refine X_goto (tgt := 10) dX9_nameTheRest_69 (by decide) ?_
        exact ih (q + 1) I2 (by omega) (by omega) f2 h2 []
      refine weak (lv' := [(0, vr r), (1, vi (nI (nmd g gn))), (2, vi (nI q))]) (fun q hq => List.mem_append_left _ hq) ?_
      refine X_iload_n dX9_nameTheRest_10 rfl ?_
      refine X_iconst (v := nI 4) dX9_nameTheRest_11 (by decide) ?_
      refine X_icmp_ge (tgt := 72) dX9_nameTheRest_12 (by decide) (fun b => ?_) (fun b => ?_)
      · exact absurd ((nle (by omega) (by omega)).mp b) (by omega)
      refine X_iload_n dX9_nameTheRest_15 rfl ?_
      refine X_iload_n dX9_nameTheRest_16 rfl ?_
      first | refine X_ishrN dX9_nameTheRest_17 (by omega) (by omega) ?_ | refine X_ishr dX9_nameTheRest_17 ?_
      refine X_iconst (v := nI 1) dX9_nameTheRest_18 (by decide) ?_
      first | refine X_iandN dX9_nameTheRest_19 ?_ | refine X_iandC dX9_nameTheRest_19 ?_ | refine X_iand dX9_nameTheRest_19 ?_
      rw [Nat.and_one_is_mod, bit_mod, nmd_bit hq4]
      refine X_iconst (v := nI 1) dX9_nameTheRest_20 (by decide) ?_
      cases hin : inG g q gn
      · have e : rsN g gn N (q + 1) = rsN g gn N q := if_neg (fun z => by rw [hin] at z; exact absurd z.1 (by decide))
        rw [if_neg (by decide)]
        refine X_icmp_ne (tgt := 66) dX9_nameTheRest_21 (by decide) (fun b21 => ?_) (fun b21 => ?_)
        · exact skip I' [] rfl hF (by rw [e]; exact hR)
        · exact absurd b21 (by decide)
      · rw [if_pos rfl]
        refine X_icmp_ne (tgt := 66) dX9_nameTheRest_21 (by decide) (fun b21 => ?_) (fun b21 => ?_)
        · exact absurd rfl b21
        refine X_aload_n dX9_nameTheRest_24 rfl ?_
        refine X_getR dX9_nameTheRest_25 gf_X9_21 (by first | assumption | rfl) (by first | assumption | exact Nat.le_of_ble_eq_true rfl | omega) rfl (by first | assumption | rfl) ?_
        refine X_iload_n dX9_nameTheRest_28 rfl ?_
        first | refine X_iald dX9_nameTheRest_29 (by first | assumption | rfl) (by first | assumption | exact Nat.le_of_ble_eq_true rfl | omega) rfl (by first | decide | omega) (by decide) ?_ | refine X_ildA dX9_nameTheRest_29 rfl (by omega) ?_ | refine X_ildM dX9_nameTheRest_29 rfl (by omega) ?_ | refine X_sld dX9_nameTheRest_29 rfl (by omega) (by omega) ?_
        rw [hR.1 q hq4]
        refine X_bipush (v := (-6)) dX9_nameTheRest_30 (by decide) ?_
        have hnq := hnv q hq4
        by_cases h9 : rsN g gn N q q = 99
        · have e : rsN g gn N (q + 1) = up (rsN g gn N q) q (frn (rsN g gn N q)) := if_pos ⟨hin, h9⟩
          rw [h9, enc_99]
          refine X_icmp_ne (tgt := 66) dX9_nameTheRest_32 (by decide) (fun b32 => ?_) (fun b32 => ?_)
          · exact absurd rfl b32
          have hfl := frn_lt (rsN g gn N q)
          have htk := tkb_lt (rsN g gn N q)
          have out : X G d zX9_nameTheRest 60 [(0, vr r), (1, vi (nI (nmd g gn))), (2, vi (nI q)), (3, vi (nI (frn (rsN g gn N q))))] [] (NC, I', J, layR sw) 0 0 (qv Q) := by
            refine X_aload_n dX9_nameTheRest_60 rfl ?_
            refine X_iload_n dX9_nameTheRest_61 rfl ?_
            refine X_iload_n dX9_nameTheRest_62 rfl ?_
            refine X_cVv dX9_nameTheRest_63 ck_X9_58 rfl rfl (by first | assumption | rfl) (by first | assumption | exact Nat.le_of_ble_eq_true rfl | omega) (by omega) (Nat.le_of_ble_eq_true rfl) (c_giveName hr hR hq4 hfl h9 (fun I2 f2 h2 => ?_))
            exact skip I2 [(3, vi (nI (frn (rsN g gn N q))))] rfl (hF.tr f2) (by rw [e]; exact h2)
          have inner : ∀ (m j : Nat), m = frn (rsN g gn N q) - j → j ≤ frn (rsN g gn N q) → X G d zX9_nameTheRest 37 [(0, vr r), (1, vi (nI (nmd g gn))), (2, vi (nI q)), (3, vi (nI j))] [] (NC, I', J, layR sw) 0 0 (qv Q) := by
            intro m
            induction m with
            | zero =>
              intro j hm2 hj
              obtain rfl : j = frn (rsN g gn N q) := by omega
              refine X_iload_n dX9_nameTheRest_37 rfl ?_
              refine X_iconst (v := nI 3) dX9_nameTheRest_38 (by decide) ?_
              refine X_icmp_ge (tgt := 60) dX9_nameTheRest_39 (by decide) (fun b39 => ?_) (fun b39 => ?_)
              · exact out
              refine X_aload_n dX9_nameTheRest_42 rfl ?_
              refine X_getI dX9_nameTheRest_43 gf_X9_43 (by first | assumption | rfl) (by first | assumption | exact Nat.le_of_ble_eq_true rfl | omega) rfl ?_
              rw [hR.2]
              refine X_iload_n dX9_nameTheRest_46 rfl ?_
              first | refine X_ishrN dX9_nameTheRest_47 (by omega) (by omega) ?_ | refine X_ishr dX9_nameTheRest_47 ?_
              refine X_iconst (v := nI 1) dX9_nameTheRest_48 (by decide) ?_
              first | refine X_iandN dX9_nameTheRest_49 ?_ | refine X_iandC dX9_nameTheRest_49 ?_ | refine X_iand dX9_nameTheRest_49 ?_
              rw [Nat.and_one_is_mod, bit_mod, tkb_bit hfl, frn_free hq4 h9, if_neg (by decide)]
              refine X_iconst (v := nI 1) dX9_nameTheRest_50 (by decide) ?_
              refine X_icmp_ne (tgt := 60) dX9_nameTheRest_51 (by decide) (fun b51 => ?_) (fun b51 => ?_)
              · exact out
              · exact absurd b51 (by decide)
            | succ m ih2 =>
              intro j hm2 hj
              have hjl : j < frn (rsN g gn N q) := by omega
              refine X_iload_n dX9_nameTheRest_37 rfl ?_
              refine X_iconst (v := nI 3) dX9_nameTheRest_38 (by decide) ?_
              refine X_icmp_ge (tgt := 60) dX9_nameTheRest_39 (by decide) (fun b39 => ?_) (fun b39 => ?_)
              · exact absurd ((nle (by omega) (by omega)).mp b39) (by omega)
              refine X_aload_n dX9_nameTheRest_42 rfl ?_
              refine X_getI dX9_nameTheRest_43 gf_X9_43 (by first | assumption | rfl) (by first | assumption | exact Nat.le_of_ble_eq_true rfl | omega) rfl ?_
              rw [hR.2]
              refine X_iload_n dX9_nameTheRest_46 rfl ?_
              first | refine X_ishrN dX9_nameTheRest_47 (by omega) (by omega) ?_ | refine X_ishr dX9_nameTheRest_47 ?_
              refine X_iconst (v := nI 1) dX9_nameTheRest_48 (by decide) ?_
              first | refine X_iandN dX9_nameTheRest_49 ?_ | refine X_iandC dX9_nameTheRest_49 ?_ | refine X_iand dX9_nameTheRest_49 ?_
              rw [Nat.and_one_is_mod, bit_mod, tkb_bit (by omega), frn_below hjl, if_pos rfl]
              refine X_iconst (v := nI 1) dX9_nameTheRest_50 (by decide) ?_
              refine X_icmp_ne (tgt := 60) dX9_nameTheRest_51 (by decide) (fun b51 => ?_) (fun b51 => ?_)
              · exact absurd rfl b51
              first | refine X_iinc1 dX9_nameTheRest_54 rfl rfl rfl ?_ | refine X_iinc dX9_nameTheRest_54 rfl rfl rfl rfl ?_
              refine X_goto (tgt := 37) dX9_nameTheRest_57 (by decide) ?_
              exact ih2 (j + 1) (by omega) (by omega)
          refine X_iconst (v := nI 0) dX9_nameTheRest_35 (by decide) ?_
          refine X_istore_n dX9_nameTheRest_36 rfl rfl ?_
          exact inner _ 0 rfl (Nat.zero_le _)
        · have e : rsN g gn N (q + 1) = rsN g gn N q := if_neg (fun z => h9 z.2)
          refine X_icmp_ne (tgt := 66) dX9_nameTheRest_32 (by decide) (fun b32 => ?_) (fun b32 => ?_)
          · exact skip I' [] rfl hF (by rw [e]; exact hR)
          · rw [enc_n h9] at b32
            exact absurd (by rw [b32]; decide) (nneg (a := rsN g gn N q q) (by omega))
  refine Y_of rfl rfl (Nat.le_of_ble_eq_true rfl) rfl ?_
  refine X_aload_n dX9_nameTheRest_0 rfl ?_
  refine X_getR dX9_nameTheRest_1 gf_X9_18 (by first | assumption | rfl) (by first | assumption | exact Nat.le_of_ble_eq_true rfl | omega) rfl (by first | assumption | rfl) ?_
  refine X_cVi dX9_nameTheRest_4 ck_X9_77 rfl rfl (by first | assumption | rfl) (by first | assumption | exact Nat.le_of_ble_eq_true rfl | omega) (by omega) (Nat.le_of_ble_eq_true rfl) (c_named (by omega) u6 hg hgv ?_)
  refine X_istore_n dX9_nameTheRest_7 rfl rfl ?_
  refine X_iconst (v := nI 0) dX9_nameTheRest_8 (by decide) ?_
  refine X_istore_n dX9_nameTheRest_9 rfl rfl ?_
  exact loop 4 0 I rfl (Nat.zero_le _) Fr.rf hN []
theorem c_called {Q : Int32 → Mm → Prop} {v : Nat} {N : Nat → Nat} (hd : 1 ≤ d) (hr : IsRu r) (hN : RuN I r N) (hv : v < 200) (hQ : Q (enc (cld N v)) (NC, I, J, layR sw)) : Y G d zX9_called [vr r, vi (enc v)] (NC, I, J, layR sw) 0 0 (qi Q) := by
  obtain ⟨u1, u2, u3, u4, u5, u6, u7, u8⟩ := hr
  have u4 := u4 sw
  have hr0 : r < NC := by omega
  unfold cld at hQ
  refine Y_of rfl rfl (Nat.le_of_ble_eq_true rfl) rfl ?_
  refine X_iload_n dX9_called_0 rfl ?_
  by_cases h4 : v < 4
  · rw [if_pos h4] at hQ
    rw [enc_n (by omega)]
    refine X_cSi dX9_called_1 ck_X9_54 rfl rfl (by omega) (Nat.le_of_ble_eq_true rfl) (c_isNoReg_f h4 ?_)
    refine X_if_eq (tgt := 11) dX9_called_4 (by decide) (fun b => ?_) (fun b => ?_)
    · refine X_aload_n dX9_called_11 rfl ?_
      refine X_getR dX9_called_12 gf_X9_21 (by first | assumption | rfl) (by first | assumption | exact Nat.le_of_ble_eq_true rfl | omega) rfl (by first | assumption | rfl) ?_
      refine X_iload_n dX9_called_15 rfl ?_
      first | refine X_iald dX9_called_16 (by first | assumption | rfl) (by first | assumption | exact Nat.le_of_ble_eq_true rfl | omega) rfl (by first | decide | omega) (by decide) ?_ | refine X_ildA dX9_called_16 rfl (by omega) ?_ | refine X_ildM dX9_called_16 rfl (by omega) ?_ | refine X_sld dX9_called_16 rfl (by omega) (by omega) ?_
      rw [hN.1 v h4]
      exact X_iret dX9_called_17 rfl ⟨_, rfl, hQ⟩
    · exact absurd rfl b
  · rw [if_neg h4] at hQ
    refine X_cSi dX9_called_1 ck_X9_54 rfl rfl (by omega) (Nat.le_of_ble_eq_true rfl) (c_isNoReg_t (enc_big h4 hv) ?_)
    refine X_if_eq (tgt := 11) dX9_called_4 (by decide) (fun b => ?_) (fun b => ?_)
    · exact absurd b (by decide)
    refine X_iload_n dX9_called_7 rfl ?_
    refine X_goto (tgt := 17) dX9_called_8 (by decide) ?_
    exact X_iret dX9_called_17 rfl ⟨_, rfl, hQ⟩
theorem c_addFrom {Q : Mm → Prop} {k p m i : Nat} {cc : Nat → Nat → Nat} (hd : 3 ≤ d) (hk : IsCd k) (hp : IsCd p) (hkc : CR I k m cc) (hm : m < 12) (hc : CR I p n c) (hv : VC n c) (hi : i < n) (hQ : ∀ I', CR I' k (m + 1) (ext m cc (c i)) → Fr [k, k + 1] I I' → Q (NC, I', J, layR sw)) : Y G d zX1_addFrom [vr k, vr p, vi (nI i)] (NC, I, J, layR sw) 0 0 (qv Q) := by
  have hkk := hk
  obtain ⟨ks, ks', kr, kkn⟩ := hkk
  have hpp := hp
  obtain ⟨ps, ps', pr, pkn⟩ := hpp
  have hp0 : p < NC := by omega
  have hk0 : k < NC := by omega
  refine Y_of rfl rfl (Nat.le_of_ble_eq_true rfl) rfl ?_
  refine X_aload_n dX1_addFrom_0 rfl ?_
  refine X_aload_n dX1_addFrom_1 rfl ?_
  refine X_iload_n dX1_addFrom_2 rfl ?_
  refine X_cVi dX1_addFrom_3 ck_X1_41 rfl rfl (by first | assumption | rfl) (by first | assumption | exact Nat.le_of_ble_eq_true rfl | omega) (by omega) (Nat.le_of_ble_eq_true rfl) (c_tgt (by omega) hp hc hv hi ?_)
  rw [← enc_n (v := c i 0) (by have := (hv.2 i hi).1; omega)]
  refine X_aload_n dX1_addFrom_6 rfl ?_
  refine X_iload_n dX1_addFrom_7 rfl ?_
  refine X_iconst (v := nI 1) dX1_addFrom_8 (by decide) ?_
  refine X_cVi dX1_addFrom_9 ck_X1_25 rfl rfl (by first | assumption | rfl) (by first | assumption | exact Nat.le_of_ble_eq_true rfl | omega) (by omega) (Nat.le_of_ble_eq_true rfl) (c_part hp hc.1 hv.1 hi (by decide) ?_)
  rw [hc.2 i hi 1 (by decide)]
  refine X_aload_n dX1_addFrom_12 rfl ?_
  refine X_iload_n dX1_addFrom_13 rfl ?_
  refine X_iconst (v := nI 2) dX1_addFrom_14 (by decide) ?_
  refine X_cVi dX1_addFrom_15 ck_X1_25 rfl rfl (by first | assumption | rfl) (by first | assumption | exact Nat.le_of_ble_eq_true rfl | omega) (by omega) (Nat.le_of_ble_eq_true rfl) (c_part hp hc.1 hv.1 hi (by decide) ?_)
  rw [hc.2 i hi 2 (by decide)]
  refine X_aload_n dX1_addFrom_18 rfl ?_
  refine X_iload_n dX1_addFrom_19 rfl ?_
  refine X_iconst (v := nI 3) dX1_addFrom_20 (by decide) ?_
  refine X_cVi dX1_addFrom_21 ck_X1_25 rfl rfl (by first | assumption | rfl) (by first | assumption | exact Nat.le_of_ble_eq_true rfl | omega) (by omega) (Nat.le_of_ble_eq_true rfl) (c_part hp hc.1 hv.1 hi (by decide) ?_)
  rw [hc.2 i hi 3 (by decide)]
  refine X_cVv dX1_addFrom_24 ck_X1_45 rfl rfl (by first | assumption | rfl) (by first | assumption | exact Nat.le_of_ble_eq_true rfl | omega) (by omega) (Nat.le_of_ble_eq_true rfl) (c_add (s := c i) (by omega) hk hkc hm (fun I' h f => ?_))
  exact X_vret dX1_addFrom_27 rfl ⟨rfl, hQ I' h f⟩
theorem cd167 : IsCd 167 := cdk 167 rfl rfl (fun _ => rfl) (by decide)
set_option maxRecDepth 20000 in
set_option maxHeartbeats 1000000 in
theorem c_replaceAt {Q : Mm → Prop} {a ln gn : Nat} {l g : Nat → Nat → Nat} {N : Nat → Nat} (hd : 6 ≤ d) (hr : IsRu r) (h1 : 14 ≤ r) (h2 : r < 40) (hc : CR I 8 n c) (hv : VC n c) (hl : CR I (r + 1) ln l) (hlv : VC ln l) (hg : CR I (r + 3) gn g) (hgv : VC gn g) (ha : a + ln ≤ n) (h12 : n - ln + gn ≤ 12) (hmat : mat l c a ln = some N) (hQ : ∀ I', Fr [8, 9, r, r + 5, 167, 168] I I' → CR I' 8 (n - ln + gn) (rpl c g a ln gn (rsN g gn N 4)) → Q (NC, I', J, layR sw)) : Y G d zX9_replaceAt [vr r, vr 8, vi (nI a), vr 167] (NC, I, J, layR sw) 0 0 (qv Q) := by
  have hru := hr
  obtain ⟨u1, u2, u3, u4, u5, u6, u7, u8⟩ := hru
  have u2 := u2 sw
  have u3 := u3 sw
  have u4 := u4 sw
  have hr0 : r < NC := by omega
  have hr1 : r + 1 < NC := by omega
  have hr3 : r + 3 < NC := by omega
  have u51 := u5.1
  have u61 := u6.1
  have hn := hv.1
  refine Y_of rfl rfl (Nat.le_of_ble_eq_true rfl) rfl ?_
  refine X_aload_n dX9_replaceAt_0 rfl ?_
  refine X_aload_n dX9_replaceAt_1 rfl ?_
  refine X_iload_n dX9_replaceAt_2 rfl ?_
  refine X_cVi dX9_replaceAt_3 ck_X9_33 rfl rfl (by first | assumption | rfl) (by first | assumption | exact Nat.le_of_ble_eq_true rfl | omega) (by omega) (Nat.le_of_ble_eq_true rfl) (c_fitsAt (by omega) hr h1 hc hv hl hlv ha (fun I1 N1 e1 f1 R1 => ?_) (fun I1 e1 f1 => ?_))
  · rw [hmat] at e1
    obtain rfl := Option.some.inj e1
    have hNV := mat_v ln N hmat
    refine X_if_ne (tgt := 10) dX9_replaceAt_6 (by decide) (fun b6 => ?_) (fun b6 => ?_)
    · refine X_aload_n dX9_replaceAt_10 rfl ?_
      refine X_cVv dX9_replaceAt_11 ck_X9_62 rfl rfl (by first | assumption | rfl) (by first | assumption | exact Nat.le_of_ble_eq_true rfl | omega) (by omega) (Nat.le_of_ble_eq_true rfl) (c_nameTheRest (by omega) hr (CR_fr hg f1 (by simp <;> omega) (by simp <;> omega)) hgv R1 hNV (fun I2 f2 R2 => ?_))
      have hc2 : CR I2 8 n c := CR_fr (CR_fr hc f1 (by simp <;> omega) (by simp <;> omega)) f2 (by simp <;> omega) (by simp <;> omega)
      have hg2 : CR I2 (r + 3) gn g := CR_fr (CR_fr hg f1 (by simp <;> omega) (by simp <;> omega)) f2 (by simp <;> omega) (by simp <;> omega)
      have hl2 : CR I2 (r + 1) ln l := CR_fr (CR_fr hl f1 (by simp <;> omega) (by simp <;> omega)) f2 (by simp <;> omega) (by simp <;> omega)
      have hRv : ∀ k, k < gn → VS (rcs (rsN g gn N 4) (g k)) := fun k hk => rcs_v hNV hgv hk
      generalize rsN g gn N 4 = N' at R2 hQ hRv
      have fr2 : Fr [8, 9, r, r + 5, 167, 168] I I2 := (f1.sub (by simp)).tr (f2.sub (by simp))
      refine X_aload_n dX9_replaceAt_14 rfl ?_
      refine X_aload_n dX9_replaceAt_15 rfl ?_
      refine X_cVv dX9_replaceAt_16 ck_X9_25 rfl rfl (by first | assumption | rfl) (by first | assumption | exact Nat.le_of_ble_eq_true rfl | omega) (by omega) (Nat.le_of_ble_eq_true rfl) (c_copy0 (by omega) cd167 cd8 (Or.inr ⟨by decide, by decide⟩) (fun I3 f3 e3 e4 => ?_))
      have hs3 : CR I3 167 n c := CR_copy hc2 hn e3 e4
      have hc3 : CR I3 8 n c := CR_fr hc2 f3 (by decide) (by decide)
      have hg3 : CR I3 (r + 3) gn g := CR_fr hg2 f3 (by simp <;> omega) (by simp <;> omega)
      have hl3 : CR I3 (r + 1) ln l := CR_fr hl2 f3 (by simp <;> omega) (by simp <;> omega)
      have R3 : RuN I3 r N' := ⟨fun q hq => by rw [f3 (r + 5) (by simp <;> omega)]; exact R2.1 q hq, by rw [f3 r (by simp <;> omega)]; exact R2.2⟩
      have fr3 : Fr [8, 9, r, r + 5, 167, 168] I I3 := fr2.tr (f3.sub (by simp))
      refine X_aload_n dX9_replaceAt_19 rfl ?_
      refine X_iload_n dX9_replaceAt_20 rfl ?_
      refine X_putI dX9_replaceAt_21 gf_X9_29 (Or.inl rfl) (by first | assumption | rfl) (by first | assumption | exact Nat.le_of_ble_eq_true rfl | omega) rfl ?_
      refine X_iconst (v := nI 0) dX9_replaceAt_24 (by decide) ?_
      refine X_istore dX9_replaceAt_25 rfl rfl ?_
      have loop2 : ∀ (m i : Nat) (I' : Nat → Nat → Int32), m = n - i → a + ln ≤ i → i ≤ n → Fr [8, 9, r, r + 5, 167, 168] I I' → CR I' 167 n c → CR I' 8 (i - ln + gn) (rpl c g a ln gn N') → X G d zX9_replaceAt 112 [(0, vr r), (1, vr 8), (2, vi (nI a)), (3, vr 167), (4, vi (nI i))] [] (NC, I', J, layR sw) 0 0 (qv Q) := by
        intro m
        induction m with
        | zero =>
          intro i I' hm hi1 hi2 hF hs hcc
          obtain rfl : i = n := by omega
          refine X_iload dX9_replaceAt_112 rfl ?_
          refine X_aload_n dX9_replaceAt_114 rfl ?_
          refine X_getI dX9_replaceAt_115 gf_X9_29 (by first | assumption | rfl) (by first | assumption | exact Nat.le_of_ble_eq_true rfl | omega) rfl ?_
          rw [hs.1]
          refine X_icmp_ge (tgt := 134) dX9_replaceAt_118 (by decide) (fun b => ?_) (fun b => ?_)
          · exact X_vret dX9_replaceAt_134 rfl ⟨rfl, hQ I' hF hcc⟩
          · exact absurd (Int32.le_refl _) b
        | succ m ih =>
          intro i I' hm hi1 hi2 hF hs hcc
          refine X_iload dX9_replaceAt_112 rfl ?_
          refine X_aload_n dX9_replaceAt_114 rfl ?_
          refine X_getI dX9_replaceAt_115 gf_X9_29 (by first | assumption | rfl) (by first | assumption | exact Nat.le_of_ble_eq_true rfl | omega) rfl ?_
          rw [hs.1]
          refine X_icmp_ge (tgt := 134) dX9_replaceAt_118 (by decide) (fun b => ?_) (fun b => ?_)
          · exact absurd ((nle (by omega) (by omega)).mp b) (by omega)
          refine X_aload_n dX9_replaceAt_121 rfl ?_
          refine X_aload_n dX9_replaceAt_122 rfl ?_
          refine X_iload dX9_replaceAt_123 rfl ?_
          refine X_cVv dX9_replaceAt_125 ck_X9_73 rfl rfl (by first | assumption | rfl) (by first | assumption | exact Nat.le_of_ble_eq_true rfl | omega) (by omega) (Nat.le_of_ble_eq_true rfl) (c_addFrom (by omega) cd8 cd167 hcc (by omega) hs hv (show i < n by omega) (fun I'' h f => ?_))
          first | refine X_iinc1 dX9_replaceAt_128 rfl rfl rfl ?_ | refine X_iinc dX9_replaceAt_128 rfl rfl rfl rfl ?_
          refine X_goto (tgt := 112) dX9_replaceAt_131 (by decide) ?_
          refine ih (i + 1) I'' (by omega) (by omega) (by omega) (hF.tr (f.sub (by simp))) (CR_fr hs f (by decide) (by decide)) ?_
          rw [show i + 1 - ln + gn = i - ln + gn + 1 by omega]
          refine h.cg (fun j hj w hw => ?_)
          unfold ext
          by_cases z : j = i - ln + gn
          · rw [if_pos z]
            unfold rpl
            rw [if_neg (by omega), if_neg (by omega), show j - gn + ln = i by omega]
          · rw [if_neg z]
      have loop1 : ∀ (m k : Nat) (I' : Nat → Nat → Int32), m = gn - k → k ≤ gn → Fr [8, 9, r, r + 5, 167, 168] I I' → CR I' 167 n c → CR I' (r + 3) gn g → CR I' (r + 1) ln l → RuN I' r N' → CR I' 8 (a + k) (rpl c g a ln gn N') → X G d zX9_replaceAt 27 [(0, vr r), (1, vr 8), (2, vi (nI a)), (3, vr 167), (4, vi (nI k))] [] (NC, I', J, layR sw) 0 0 (qv Q) := by
        intro m
        induction m with
        | zero =>
          intro k I' hm hk hF hs hg' hl' hR hcc
          obtain rfl : k = gn := by omega
          refine X_iload dX9_replaceAt_27 rfl ?_
          refine X_aload_n dX9_replaceAt_29 rfl ?_
          refine X_getR dX9_replaceAt_30 gf_X9_18 (by first | assumption | rfl) (by first | assumption | exact Nat.le_of_ble_eq_true rfl | omega) rfl (by first | assumption | rfl) ?_
          refine X_getI dX9_replaceAt_33 gf_X9_29 (by first | assumption | rfl) (by first | assumption | exact Nat.le_of_ble_eq_true rfl | omega) rfl ?_
          rw [hg'.1]
          refine X_icmp_ge (tgt := 101) dX9_replaceAt_36 (by decide) (fun b => ?_) (fun b => ?_)
          · refine X_iload_n dX9_replaceAt_101 rfl ?_
            refine X_aload_n dX9_replaceAt_102 rfl ?_
            refine X_getR dX9_replaceAt_103 gf_X9_12 (by first | assumption | rfl) (by first | assumption | exact Nat.le_of_ble_eq_true rfl | omega) rfl (by first | assumption | rfl) ?_
            refine X_getI dX9_replaceAt_106 gf_X9_29 (by first | assumption | rfl) (by first | assumption | exact Nat.le_of_ble_eq_true rfl | omega) rfl ?_
            rw [hl'.1]
            first | refine X_iaddN dX9_replaceAt_109 ?_ | refine X_iadd dX9_replaceAt_109 ?_
            refine X_istore dX9_replaceAt_110 rfl rfl ?_
            exact loop2 (n - (a + ln)) (a + ln) I' rfl (Nat.le_refl _) ha hF hs (by rw [show a + ln - ln + k = a + k by omega]; exact hcc)
          · exact absurd (Int32.le_refl _) b
        | succ m ih =>
          intro k I' hm hk hF hs hg' hl' hR hcc
          have hkg : k < gn := by omega
          have hgs := hgv.2 k hkg
          have hgn := hgv.1
          refine X_iload dX9_replaceAt_27 rfl ?_
          refine X_aload_n dX9_replaceAt_29 rfl ?_
          refine X_getR dX9_replaceAt_30 gf_X9_18 (by first | assumption | rfl) (by first | assumption | exact Nat.le_of_ble_eq_true rfl | omega) rfl (by first | assumption | rfl) ?_
          refine X_getI dX9_replaceAt_33 gf_X9_29 (by first | assumption | rfl) (by first | assumption | exact Nat.le_of_ble_eq_true rfl | omega) rfl ?_
          rw [hg'.1]
          refine X_icmp_ge (tgt := 101) dX9_replaceAt_36 (by decide) (fun b => ?_) (fun b => ?_)
          · exact absurd ((nle (by omega) (by omega)).mp b) (by omega)
          refine X_aload_n dX9_replaceAt_39 rfl ?_
          refine X_aload_n dX9_replaceAt_40 rfl ?_
          refine X_aload_n dX9_replaceAt_41 rfl ?_
          refine X_getR dX9_replaceAt_42 gf_X9_18 (by first | assumption | rfl) (by first | assumption | exact Nat.le_of_ble_eq_true rfl | omega) rfl (by first | assumption | rfl) ?_
          refine X_iload dX9_replaceAt_45 rfl ?_
          refine X_iconst (v := nI 0) dX9_replaceAt_47 (by decide) ?_
          refine X_cVi dX9_replaceAt_48 ck_X9_46 rfl rfl (by first | assumption | rfl) (by first | assumption | exact Nat.le_of_ble_eq_true rfl | omega) (by omega) (Nat.le_of_ble_eq_true rfl) (c_part u6 hg'.1 hgn hkg (by decide) ?_)
          rw [hg'.2 k hkg 0 (by decide)]
          refine X_cVi dX9_replaceAt_51 ck_X9_65 rfl rfl (by first | assumption | rfl) (by first | assumption | exact Nat.le_of_ble_eq_true rfl | omega) (by omega) (Nat.le_of_ble_eq_true rfl) (c_called (by omega) hr hR (VS_lt hgs 0 (by decide)) ?_)
          refine X_aload_n dX9_replaceAt_54 rfl ?_
          refine X_getR dX9_replaceAt_55 gf_X9_18 (by first | assumption | rfl) (by first | assumption | exact Nat.le_of_ble_eq_true rfl | omega) rfl (by first | assumption | rfl) ?_
          refine X_iload dX9_replaceAt_58 rfl ?_
          refine X_iconst (v := nI 1) dX9_replaceAt_60 (by decide) ?_
          refine X_cVi dX9_replaceAt_61 ck_X9_46 rfl rfl (by first | assumption | rfl) (by first | assumption | exact Nat.le_of_ble_eq_true rfl | omega) (by omega) (Nat.le_of_ble_eq_true rfl) (c_part u6 hg'.1 hgn hkg (by decide) ?_)
          rw [hg'.2 k hkg 1 (by decide)]
          refine X_aload_n dX9_replaceAt_64 rfl ?_
          refine X_aload_n dX9_replaceAt_65 rfl ?_
          refine X_getR dX9_replaceAt_66 gf_X9_18 (by first | assumption | rfl) (by first | assumption | exact Nat.le_of_ble_eq_true rfl | omega) rfl (by first | assumption | rfl) ?_
          refine X_iload dX9_replaceAt_69 rfl ?_
          refine X_iconst (v := nI 2) dX9_replaceAt_71 (by decide) ?_
          refine X_cVi dX9_replaceAt_72 ck_X9_46 rfl rfl (by first | assumption | rfl) (by first | assumption | exact Nat.le_of_ble_eq_true rfl | omega) (by omega) (Nat.le_of_ble_eq_true rfl) (c_part u6 hg'.1 hgn hkg (by decide) ?_)
          rw [hg'.2 k hkg 2 (by decide)]
          refine X_cVi dX9_replaceAt_75 ck_X9_65 rfl rfl (by first | assumption | rfl) (by first | assumption | exact Nat.le_of_ble_eq_true rfl | omega) (by omega) (Nat.le_of_ble_eq_true rfl) (c_called (by omega) hr hR (VS_lt hgs 2 (by decide)) ?_)
          refine X_aload_n dX9_replaceAt_78 rfl ?_
          refine X_aload_n dX9_replaceAt_79 rfl ?_
          refine X_getR dX9_replaceAt_80 gf_X9_18 (by first | assumption | rfl) (by first | assumption | exact Nat.le_of_ble_eq_true rfl | omega) rfl (by first | assumption | rfl) ?_
          refine X_iload dX9_replaceAt_83 rfl ?_
          refine X_iconst (v := nI 3) dX9_replaceAt_85 (by decide) ?_
          refine X_cVi dX9_replaceAt_86 ck_X9_46 rfl rfl (by first | assumption | rfl) (by first | assumption | exact Nat.le_of_ble_eq_true rfl | omega) (by omega) (Nat.le_of_ble_eq_true rfl) (c_part u6 hg'.1 hgn hkg (by decide) ?_)
          rw [hg'.2 k hkg 3 (by decide)]
          refine X_cVi dX9_replaceAt_89 ck_X9_65 rfl rfl (by first | assumption | rfl) (by first | assumption | exact Nat.le_of_ble_eq_true rfl | omega) (by omega) (Nat.le_of_ble_eq_true rfl) (c_called (by omega) hr hR (VS_lt hgs 3 (by decide)) ?_)
          refine X_cVv dX9_replaceAt_92 ck_X9_69 rfl rfl (by first | assumption | rfl) (by first | assumption | exact Nat.le_of_ble_eq_true rfl | omega) (by omega) (Nat.le_of_ble_eq_true rfl) (c_add (s := rcs N' (g k)) (by omega) cd8 hcc (by omega) (fun I'' h f => ?_))
          first | refine X_iinc1 dX9_replaceAt_95 rfl rfl rfl ?_ | refine X_iinc dX9_replaceAt_95 rfl rfl rfl rfl ?_
          refine X_goto (tgt := 27) dX9_replaceAt_98 (by decide) ?_
          refine ih (k + 1) I'' (by omega) (by omega) (hF.tr (f.sub (by simp))) (CR_fr hs f (by decide) (by decide)) (CR_fr hg' f (by simp <;> omega) (by simp <;> omega)) (CR_fr hl' f (by simp <;> omega) (by simp <;> omega)) ⟨fun q hq => by rw [f (r + 5) (by simp <;> omega)]; exact hR.1 q hq, by rw [f r (by simp <;> omega)]; exact hR.2⟩ ?_
          refine h.cg (fun j hj w hw => ?_)
          unfold ext
          by_cases z : j = a + k
          · rw [if_pos z]
            unfold rpl
            rw [if_neg (by omega), if_pos (by omega), show j - a = k by omega]
          · rw [if_neg z]
      refine loop1 gn 0 _ rfl (Nat.zero_le _) (fr3.tr (Fr.sr (by simp))) (hs3.fr (by rw [sr_ne (by decide)]) (by rw [sr_ne (by decide)])) (hg3.fr (by rw [sr_ne (by omega)]) (by rw [sr_ne (by omega)])) (hl3.fr (by rw [sr_ne (by omega)]) (by rw [sr_ne (by omega)])) ⟨fun q hq => by rw [sr_ne (by omega)]; exact R3.1 q hq, by rw [sr_ne (by omega)]; exact R3.2⟩ ⟨by rw [sr_eq, up_eq]; rfl, fun i hi w hw => ?_⟩
      rw [sr_ne (by decide), hc3.2 i (by omega) w hw]
      unfold rpl
      rw [if_pos (by omega)]
    · exact absurd b6 (by decide)
  · rw [hmat] at e1
    exact absurd e1 (by simp)
end CG
