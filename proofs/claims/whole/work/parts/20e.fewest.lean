/-! fewest: the class, the reference -/
def HF (I : Nat → Nat → Int32) (n W : Nat) (c : Nat → Nat → Nat) (F : Nat → Nat) (lo : Nat) : Prop := ∀ S, lo ≤ S → S < 2 ^ n → I 143 S = nI (hbc c n W S) ∧ I 144 S = nI (F S)
section CW
variable {G : GG} {d : Nat} {sw : Bool} {I : Nat → Nat → Int32} {J : Nat → Nat → Int64} {s : SS} {n W : Nat} {c : Nat → Nat → Nat}
theorem HK_fr {I' : Nat → Nat → Int32} {l : List Nat} (h : HK I n W c) (hF : Fr l I I') (hl : ∀ k, 136 ≤ k → k ≤ 142 → k ∉ l) : HK I' n W c := by
  unfold HK
  rw [hF 136 (hl _ (by omega) (by omega)), hF 137 (hl _ (by omega) (by omega)), hF 138 (hl _ (by omega) (by omega)), hF 139 (hl _ (by omega) (by omega)), hF 140 (hl _ (by omega) (by omega)), hF 141 (hl _ (by omega) (by omega)), hF 142 (hl _ (by omega) (by omega))]
  exact h
theorem pow256 {n : Nat} (h : n ≤ 8) : 2 ^ n ≤ 256 := Nat.pow_le_pow_right (n := 2) (by decide) h
set_option maxRecDepth 20000 in
theorem c_heldBehind {Q : Int32 → Mm → Prop} {S : Nat} (hn : n ≤ 12) (hS : S < 4096) (hK : HK I n W c) (hQ : Q (nI (hbc c n W S)) (NC, I, J, layR sw)) : Y G d zX4_heldBehind [vr 136, vi (nI S)] (NC, I, J, layR sw) 0 0 (qi Q) := by
  have hvl : vin c W n < 65536 := vin_lt hn
  have loop : ∀ (m v : Nat), m = 4 + n - v → v ≤ 4 + n → X G d zX4_heldBehind 4 [(0, vr 136), (1, vi (nI S)), (2, vi (nI (cnt (hbF c n W S) v))), (3, vi (nI v))] [] (NC, I, J, layR sw) 0 0 (qi Q) := by
    intro m
    induction m with
    | zero =>
      intro v hm hv
      obtain rfl : v = 4 + n := by omega
      refine X_iload_n dX4_heldBehind_4 rfl ?_
      refine X_iconst (v := nI 4) dX4_heldBehind_5 (by decide) ?_
      refine X_aload_n dX4_heldBehind_6 rfl ?_
      refine X_getI dX4_heldBehind_7 gf_X4_51 (by first | assumption | rfl) (by first | assumption | exact Nat.le_of_ble_eq_true rfl | omega) rfl ?_
      rw [hK.1]
      first | refine X_iaddN dX4_heldBehind_10 ?_ | refine X_iadd dX4_heldBehind_10 ?_
      refine X_icmp_ge (tgt := 88) dX4_heldBehind_11 (by decide) (fun b => ?_) (fun b => ?_)
      · refine X_iload_n dX4_heldBehind_88 rfl ?_
        exact X_iret dX4_heldBehind_89 rfl ⟨_, rfl, hQ⟩
      · exact absurd (Int32.le_refl _) b
    | succ m ih =>
      intro v hm hv
      have hvn : v < 4 + n := by omega
      have ih := ih (v + 1) (by omega) (by omega)
      have hrl : rdr c n v < 4096 := Nat.lt_of_lt_of_le (rdr_lt c n v) (pow4096 hn)
      have fin : ∀ (a b : Nat) , (a = 0 ∨ a = 1) → (b = 0 ∨ b = 1) → (hbF c n W S v = true ↔ (a = 1 ∧ b = 1)) → X G d zX4_heldBehind 69 [(0, vr 136), (1, vi (nI S)), (2, vi (nI (cnt (hbF c n W S) v))), (3, vi (nI v)), (4, vi (nI a)), (5, vi (nI b))] [] (NC, I, J, layR sw) 0 0 (qi Q) := by
        intro a b ha hb hab
        have skip : ¬ hbF c n W S v = true → X G d zX4_heldBehind 82 [(0, vr 136), (1, vi (nI S)), (2, vi (nI (cnt (hbF c n W S) v))), (3, vi (nI v)), (4, vi (nI a)), (5, vi (nI b))] [] (NC, I, J, layR sw) 0 0 (qi Q) := by
          intro h
          rw [cnt_f h] at ih
          first | refine X_iinc1 dX4_heldBehind_82 rfl rfl rfl ?_ | refine X_iinc dX4_heldBehind_82 rfl rfl rfl rfl ?_
          refine X_goto (tgt := 4) dX4_heldBehind_85 (by decide) ?_
          refine weak (lv' := [(0, vr 136), (1, vi (nI S)), (2, vi (nI (cnt (hbF c n W S) v))), (3, vi (nI (v + 1)))]) (fun q hq => List.mem_append_left _ hq) ?_
          exact ih
        refine X_iload dX4_heldBehind_69 rfl ?_
        refine X_if_eq (tgt := 82) dX4_heldBehind_71 (by decide) (fun b71 => ?_) (fun b71 => ?_)
        · exact skip (fun q => by have := (hab.mp q).1; rw [this] at b71; exact absurd b71 (by decide))
        refine X_iload dX4_heldBehind_74 rfl ?_
        refine X_if_eq (tgt := 82) dX4_heldBehind_76 (by decide) (fun b76 => ?_) (fun b76 => ?_)
        · exact skip (fun q => by have := (hab.mp q).2; rw [this] at b76; exact absurd b76 (by decide))
        have h : hbF c n W S v = true := hab.mpr ⟨ha.resolve_left (fun q => b71 (by rw [q]; rfl)), hb.resolve_left (fun q => b76 (by rw [q]; rfl))⟩
        rw [cnt_t h] at ih
        first | refine X_iinc1 dX4_heldBehind_79 rfl rfl rfl ?_ | refine X_iinc dX4_heldBehind_79 rfl rfl rfl rfl ?_
        first | refine X_iinc1 dX4_heldBehind_82 rfl rfl rfl ?_ | refine X_iinc dX4_heldBehind_82 rfl rfl rfl rfl ?_
        refine X_goto (tgt := 4) dX4_heldBehind_85 (by decide) ?_
        refine weak (lv' := [(0, vr 136), (1, vi (nI S)), (2, vi (nI (cnt (hbF c n W S) v + 1))), (3, vi (nI (v + 1)))]) (fun q hq => List.mem_append_left _ hq) ?_
        exact ih
      have t35 : ∀ a, (a = 0 ∨ a = 1) → ((v < 4 ∨ S.testBit (v - 4) = true) ↔ a = 1) → X G d zX4_heldBehind 35 [(0, vr 136), (1, vi (nI S)), (2, vi (nI (cnt (hbF c n W S) v))), (3, vi (nI v))] [vi (nI a)] (NC, I, J, layR sw) 0 0 (qi Q) := by
        intro a ha hab
        have hh : ∀ b, (ndd c n W S v = true ↔ b = 1) → (hbF c n W S v = true ↔ (a = 1 ∧ b = 1)) := fun b hb => by
          unfold hbF
          rw [Bool.and_eq_true, Bool.or_eq_true, decide_eq_true_iff, hab, hb]
        have yes : ndd c n W S v = true → X G d zX4_heldBehind 62 [(0, vr 136), (1, vi (nI S)), (2, vi (nI (cnt (hbF c n W S) v))), (3, vi (nI v)), (4, vi (nI a))] [] (NC, I, J, layR sw) 0 0 (qi Q) := by
          intro h
          refine X_iconst (v := nI 1) dX4_heldBehind_62 (by decide) ?_
          refine X_goto (tgt := 67) dX4_heldBehind_63 (by decide) ?_
          refine X_istore dX4_heldBehind_67 rfl rfl ?_
          exact fin a 1 ha (Or.inr rfl) (hh 1 (by simp [h]))
        refine X_istore dX4_heldBehind_35 rfl rfl ?_
        refine X_aload_n dX4_heldBehind_37 rfl ?_
        refine X_getI dX4_heldBehind_38 gf_X4_74 (by first | assumption | rfl) (by first | assumption | exact Nat.le_of_ble_eq_true rfl | omega) rfl ?_
        rw [hK.2.2.2.2]
        refine X_iload_n dX4_heldBehind_41 rfl ?_
        first | refine X_ishrN dX4_heldBehind_42 (by omega) (by omega) ?_ | refine X_ishr dX4_heldBehind_42 ?_
        refine X_iconst (v := nI 1) dX4_heldBehind_43 (by decide) ?_
        first | refine X_iandN dX4_heldBehind_44 ?_ | refine X_iandC dX4_heldBehind_44 ?_ | refine X_iand dX4_heldBehind_44 ?_
        rw [Nat.and_one_is_mod, bit_mod]
        refine X_iconst (v := nI 1) dX4_heldBehind_45 (by decide) ?_
        by_cases hl : (vin c W n).testBit v = true
        · rw [if_pos hl]
          refine X_icmp_eq (tgt := 62) dX4_heldBehind_46 (by decide) (fun b46 => ?_) (fun b46 => ?_)
          · exact yes (by unfold ndd; rw [hl]; rfl)
          · exact absurd rfl b46
        · rw [if_neg hl]
          refine X_icmp_eq (tgt := 62) dX4_heldBehind_46 (by decide) (fun b46 => ?_) (fun b46 => ?_)
          · exact absurd b46 (by decide)
          refine X_aload_n dX4_heldBehind_49 rfl ?_
          refine X_getR dX4_heldBehind_50 gf_X4_24 (by first | assumption | rfl) (by first | assumption | exact Nat.le_of_ble_eq_true rfl | omega) rfl (by first | assumption | rfl) ?_
          refine X_iload_n dX4_heldBehind_53 rfl ?_
          first | refine X_iald dX4_heldBehind_54 (by first | assumption | rfl) (by first | assumption | exact Nat.le_of_ble_eq_true rfl | omega) rfl (by first | decide | omega) (by decide) ?_ | refine X_ildA dX4_heldBehind_54 rfl (by omega) ?_ | refine X_ildM dX4_heldBehind_54 rfl (by omega) ?_ | refine X_sld dX4_heldBehind_54 rfl (by omega) (by omega) ?_
          rw [(hK.2.1 v (by omega)).1]
          refine X_iload_n dX4_heldBehind_55 rfl ?_
          refine X_iconst (v := (-1)) dX4_heldBehind_56 (by decide) ?_
          refine X_ixor dX4_heldBehind_57 ?_
          first | refine X_iandN dX4_heldBehind_58 ?_ | refine X_iandC dX4_heldBehind_58 ?_ | refine X_iand dX4_heldBehind_58 ?_
          refine X_if_eq (tgt := 66) dX4_heldBehind_59 (by decide) (fun b59 => ?_) (fun b59 => ?_)
          · have h0 := (sdf0 hrl).mp b59
            refine X_iconst (v := nI 0) dX4_heldBehind_66 (by decide) ?_
            refine X_istore dX4_heldBehind_67 rfl rfl ?_
            refine fin a 0 ha (Or.inl rfl) (hh 0 ?_)
            unfold ndd
            rw [h0]
            simp at hl
            simp [hl]
          · refine yes ?_
            unfold ndd
            rw [Bool.or_eq_true, decide_eq_true_iff]
            exact Or.inr (fun q => b59 ((sdf0 hrl).mpr q))
      refine X_iload_n dX4_heldBehind_4 rfl ?_
      refine X_iconst (v := nI 4) dX4_heldBehind_5 (by decide) ?_
      refine X_aload_n dX4_heldBehind_6 rfl ?_
      refine X_getI dX4_heldBehind_7 gf_X4_51 (by first | assumption | rfl) (by first | assumption | exact Nat.le_of_ble_eq_true rfl | omega) rfl ?_
      rw [hK.1]
      first | refine X_iaddN dX4_heldBehind_10 ?_ | refine X_iadd dX4_heldBehind_10 ?_
      refine X_icmp_ge (tgt := 88) dX4_heldBehind_11 (by decide) (fun b => ?_) (fun b => ?_)
      · exact absurd ((nle (by omega) (by omega)).mp b) (by omega)
      refine X_iload_n dX4_heldBehind_14 rfl ?_
      refine X_iconst (v := nI 4) dX4_heldBehind_15 (by decide) ?_
      by_cases h4 : v < 4
      · refine X_icmp_lt (tgt := 30) dX4_heldBehind_16 (by decide) (fun b16 => ?_) (fun b16 => ?_)
        · refine X_iconst (v := nI 1) dX4_heldBehind_30 (by decide) ?_
          refine X_goto (tgt := 35) dX4_heldBehind_31 (by decide) ?_
          exact t35 1 (Or.inr rfl) ⟨fun _ => rfl, fun _ => Or.inl h4⟩
        · exact absurd ((nlt (by omega) (by omega)).mpr h4) b16
      · refine X_icmp_lt (tgt := 30) dX4_heldBehind_16 (by decide) (fun b16 => ?_) (fun b16 => ?_)
        · exact absurd ((nlt (by omega) (by omega)).mp b16) h4
        refine X_iload_n dX4_heldBehind_19 rfl ?_
        refine X_iload_n dX4_heldBehind_20 rfl ?_
        refine X_iconst (v := nI 4) dX4_heldBehind_21 (by decide) ?_
        first | refine X_isubN dX4_heldBehind_22 (by omega) ?_ | refine X_isub dX4_heldBehind_22 ?_
        first | refine X_ishrN dX4_heldBehind_23 (by omega) (by omega) ?_ | refine X_ishr dX4_heldBehind_23 ?_
        refine X_iconst (v := nI 1) dX4_heldBehind_24 (by decide) ?_
        first | refine X_iandN dX4_heldBehind_25 ?_ | refine X_iandC dX4_heldBehind_25 ?_ | refine X_iand dX4_heldBehind_25 ?_
        rw [Nat.and_one_is_mod, bit_mod]
        refine X_iconst (v := nI 1) dX4_heldBehind_26 (by decide) ?_
        by_cases hb : S.testBit (v - 4) = true
        · rw [if_pos hb]
          refine X_icmp_ne (tgt := 34) dX4_heldBehind_27 (by decide) (fun b27 => ?_) (fun b27 => ?_)
          · exact absurd rfl b27
          refine X_iconst (v := nI 1) dX4_heldBehind_30 (by decide) ?_
          refine X_goto (tgt := 35) dX4_heldBehind_31 (by decide) ?_
          exact t35 1 (Or.inr rfl) ⟨fun _ => rfl, fun _ => Or.inr hb⟩
        · rw [if_neg hb]
          refine X_icmp_ne (tgt := 34) dX4_heldBehind_27 (by decide) (fun b27 => ?_) (fun b27 => ?_)
          · refine X_iconst (v := nI 0) dX4_heldBehind_34 (by decide) ?_
            exact t35 0 (Or.inl rfl) ⟨fun q => q.elim (fun q => absurd q h4) (fun q => absurd q hb), fun q => absurd q (by decide)⟩
          · exact absurd b27 (by decide)
  refine Y_of rfl rfl (Nat.le_of_ble_eq_true rfl) rfl ?_
  refine X_iconst (v := nI 0) dX4_heldBehind_0 (by decide) ?_
  refine X_istore_n dX4_heldBehind_1 rfl rfl ?_
  refine X_iconst (v := nI 0) dX4_heldBehind_2 (by decide) ?_
  refine X_istore_n dX4_heldBehind_3 rfl rfl ?_
  exact loop (4 + n) 0 rfl (Nat.zero_le _)
set_option maxRecDepth 20000 in
theorem c_widthBy {Q : Int32 → Mm → Prop} {S i : Nat} {F : Nat → Nat} (hd : 1 ≤ d) (hn : n ≤ 8) (hS : S < 2 ^ n) (hi : i < n) (hK : HK I n W c) (hF : HF I n W c F (S + 1)) (hFt : ∀ S, S < 2 ^ n → F S ≤ 536870912) (hQ : Q (nI (wBy c n W F S i)) (NC, I, J, layR sw)) : Y G d zX4_widthBy [vr 136, vi (nI S), vi (nI i)] (NC, I, J, layR sw) 0 0 (qi Q) := by
  have hvl : vin c W n < 65536 := vin_lt (by omega)
  have h256 := pow256 hn
  have hnl : ned c i < 4096 := Nat.lt_of_lt_of_le (ned_lt c i) (pow4096 (by omega))
  have hrl : rdr c n (4 + i) < 4096 := Nat.lt_of_lt_of_le (rdr_lt c n _) (pow4096 (by omega))
  have e1 : (536870912 : Int32) = nI 536870912 := by decide
  have no : (S.testBit i = true ∨ sdf (ned c i) S ≠ 0) → X G d zX4_widthBy 22 [(0, vr 136), (1, vi (nI S)), (2, vi (nI i))] [] (NC, I, J, layR sw) 0 0 (qi Q) := by
    intro h
    rw [show wBy c n W F S i = 536870912 from if_pos h] at hQ
    refine X_ldc dX4_widthBy_22 kc_X4_94 ?_
    rw [e1]
    exact X_iret dX4_widthBy_24 rfl ⟨_, rfl, hQ⟩
  refine Y_of rfl rfl (Nat.le_of_ble_eq_true rfl) rfl ?_
  refine X_iload_n dX4_widthBy_0 rfl ?_
  refine X_iload_n dX4_widthBy_1 rfl ?_
  first | refine X_ishrN dX4_widthBy_2 (by omega) (by omega) ?_ | refine X_ishr dX4_widthBy_2 ?_
  refine X_iconst (v := nI 1) dX4_widthBy_3 (by decide) ?_
  first | refine X_iandN dX4_widthBy_4 ?_ | refine X_iandC dX4_widthBy_4 ?_ | refine X_iand dX4_widthBy_4 ?_
  rw [Nat.and_one_is_mod, bit_mod]
  refine X_iconst (v := nI 1) dX4_widthBy_5 (by decide) ?_
  by_cases hb : S.testBit i = true
  · rw [if_pos hb]
    refine X_icmp_eq (tgt := 22) dX4_widthBy_6 (by decide) (fun b6 => ?_) (fun b6 => ?_)
    · exact no (Or.inl hb)
    · exact absurd rfl b6
  rw [if_neg hb]
  refine X_icmp_eq (tgt := 22) dX4_widthBy_6 (by decide) (fun b6 => ?_) (fun b6 => ?_)
  · exact absurd b6 (by decide)
  refine X_aload_n dX4_widthBy_9 rfl ?_
  refine X_getR dX4_widthBy_10 gf_X4_27 (by first | assumption | rfl) (by first | assumption | exact Nat.le_of_ble_eq_true rfl | omega) rfl (by first | assumption | rfl) ?_
  refine X_iload_n dX4_widthBy_13 rfl ?_
  first | refine X_iald dX4_widthBy_14 (by first | assumption | rfl) (by first | assumption | exact Nat.le_of_ble_eq_true rfl | omega) rfl (by first | decide | omega) (by decide) ?_ | refine X_ildA dX4_widthBy_14 rfl (by omega) ?_ | refine X_ildM dX4_widthBy_14 rfl (by omega) ?_ | refine X_sld dX4_widthBy_14 rfl (by omega) (by omega) ?_
  rw [(hK.2.2.1 i hi).2]
  refine X_iload_n dX4_widthBy_15 rfl ?_
  refine X_iconst (v := (-1)) dX4_widthBy_16 (by decide) ?_
  refine X_ixor dX4_widthBy_17 ?_
  first | refine X_iandN dX4_widthBy_18 ?_ | refine X_iandC dX4_widthBy_18 ?_ | refine X_iand dX4_widthBy_18 ?_
  by_cases hs : sdf (ned c i) S = 0
  · refine X_if_eq (tgt := 25) dX4_widthBy_19 (by decide) (fun b19 => ?_) (fun b19 => ?_)
    · rw [show wBy c n W F S i = max (hbc c n W (S ||| 2 ^ i) + unn c n W i) (F (S ||| 2 ^ i)) from if_neg (fun q => q.elim hb (fun q => q hs))] at hQ
      have g1 := or_gt (show S.testBit i = false by simpa using hb)
      have g2 := or_ltp hS hi
      obtain ⟨f1, f2⟩ := hF (S ||| 2 ^ i) (by omega) g2
      have hbl := hbc_le c n W (S ||| 2 ^ i)
      have hul := unn_le c n W i
      have hfl := hFt _ g2
      have t80 : ∀ u, u = unn c n W i → ∀ x, X G d zX4_widthBy 80 [(0, vr 136), (1, vi (nI S)), (2, vi (nI i)), (3, vi (nI (4 + i))), (4, x), (5, vi (nI (S ||| 2 ^ i)))] [vi (nI u), vi (nI (hbc c n W (S ||| 2 ^ i)))] (NC, I, J, layR sw) 0 0 (qi Q) := by
        intro u hu x
        first | refine X_iaddN dX4_widthBy_80 ?_ | refine X_iadd dX4_widthBy_80 ?_
        refine X_aload_n dX4_widthBy_81 rfl ?_
        refine X_getR dX4_widthBy_82 gf_X4_33 (by first | assumption | rfl) (by first | assumption | exact Nat.le_of_ble_eq_true rfl | omega) rfl (by first | assumption | rfl) ?_
        refine X_iload dX4_widthBy_85 rfl ?_
        first | refine X_iald dX4_widthBy_87 (by first | assumption | rfl) (by first | assumption | exact Nat.le_of_ble_eq_true rfl | omega) rfl (by first | decide | omega) (by decide) ?_ | refine X_ildA dX4_widthBy_87 rfl (by omega) ?_ | refine X_ildM dX4_widthBy_87 rfl (by omega) ?_ | refine X_sld dX4_widthBy_87 rfl (by omega) (by omega) ?_
        rw [f2]
        refine X_cSi dX4_widthBy_88 ck_X4_85 rfl rfl (by omega) (Nat.le_of_ble_eq_true rfl) (c_max (by omega) (by omega) ?_)
        rw [hu]
        exact X_iret dX4_widthBy_91 rfl ⟨_, rfl, hQ⟩
      have t53 : unn c n W i = 0 → X G d zX4_widthBy 53 [(0, vr 136), (1, vi (nI S)), (2, vi (nI i)), (3, vi (nI (4 + i)))] [] (NC, I, J, layR sw) 0 0 (qi Q) := by
        intro hu
        refine X_iconst (v := nI 0) dX4_widthBy_53 (by decide) ?_
        refine X_istore dX4_widthBy_54 rfl rfl ?_
        refine X_iload_n dX4_widthBy_56 rfl ?_
        refine X_iconst (v := nI 1) dX4_widthBy_57 (by decide) ?_
        refine X_iload_n dX4_widthBy_58 rfl ?_
        first | refine X_ishl1 dX4_widthBy_59 (by omega) ?_ | refine X_ishl dX4_widthBy_59 ?_
        first | refine X_iorN dX4_widthBy_60 ?_ | refine X_ior dX4_widthBy_60 ?_
        refine X_istore dX4_widthBy_61 rfl rfl ?_
        refine X_aload_n dX4_widthBy_63 rfl ?_
        refine X_getR dX4_widthBy_64 gf_X4_30 (by first | assumption | rfl) (by first | assumption | exact Nat.le_of_ble_eq_true rfl | omega) rfl (by first | assumption | rfl) ?_
        refine X_iload dX4_widthBy_67 rfl ?_
        first | refine X_iald dX4_widthBy_69 (by first | assumption | rfl) (by first | assumption | exact Nat.le_of_ble_eq_true rfl | omega) rfl (by first | decide | omega) (by decide) ?_ | refine X_ildA dX4_widthBy_69 rfl (by omega) ?_ | refine X_ildM dX4_widthBy_69 rfl (by omega) ?_ | refine X_sld dX4_widthBy_69 rfl (by omega) (by omega) ?_
        rw [f1]
        refine X_iload dX4_widthBy_70 rfl ?_
        refine X_if_eq (tgt := 79) dX4_widthBy_72 (by decide) (fun b72 => ?_) (fun b72 => ?_)
        · refine X_iconst (v := nI 0) dX4_widthBy_79 (by decide) ?_
          exact t80 0 hu.symm _
        · exact absurd rfl b72
      refine X_iconst (v := nI 4) dX4_widthBy_25 (by decide) ?_
      refine X_iload_n dX4_widthBy_26 rfl ?_
      first | refine X_iaddN dX4_widthBy_27 ?_ | refine X_iadd dX4_widthBy_27 ?_
      refine X_istore_n dX4_widthBy_28 rfl rfl ?_
      refine X_aload_n dX4_widthBy_29 rfl ?_
      refine X_getR dX4_widthBy_30 gf_X4_24 (by first | assumption | rfl) (by first | assumption | exact Nat.le_of_ble_eq_true rfl | omega) rfl (by first | assumption | rfl) ?_
      refine X_iload_n dX4_widthBy_33 rfl ?_
      first | refine X_iald dX4_widthBy_34 (by first | assumption | rfl) (by first | assumption | exact Nat.le_of_ble_eq_true rfl | omega) rfl (by first | decide | omega) (by decide) ?_ | refine X_ildA dX4_widthBy_34 rfl (by omega) ?_ | refine X_ildM dX4_widthBy_34 rfl (by omega) ?_ | refine X_sld dX4_widthBy_34 rfl (by omega) (by omega) ?_
      rw [(hK.2.1 (4 + i) (by omega)).1]
      by_cases hr : rdr c n (4 + i) = 0
      · refine X_if_ne (tgt := 53) dX4_widthBy_35 (by decide) (fun b35 => ?_) (fun b35 => ?_)
        · exact absurd (by rw [hr]; rfl) b35
        refine X_aload_n dX4_widthBy_38 rfl ?_
        refine X_getI dX4_widthBy_39 gf_X4_74 (by first | assumption | rfl) (by first | assumption | exact Nat.le_of_ble_eq_true rfl | omega) rfl ?_
        rw [hK.2.2.2.2]
        refine X_iload_n dX4_widthBy_42 rfl ?_
        first | refine X_ishrN dX4_widthBy_43 (by omega) (by omega) ?_ | refine X_ishr dX4_widthBy_43 ?_
        refine X_iconst (v := nI 1) dX4_widthBy_44 (by decide) ?_
        first | refine X_iandN dX4_widthBy_45 ?_ | refine X_iandC dX4_widthBy_45 ?_ | refine X_iand dX4_widthBy_45 ?_
        rw [Nat.and_one_is_mod, bit_mod]
        by_cases hl : (vin c W n).testBit (4 + i) = true
        · rw [if_pos hl]
          refine X_if_ne (tgt := 53) dX4_widthBy_46 (by decide) (fun b46 => ?_) (fun b46 => ?_)
          · exact t53 (if_neg (fun q => by rw [hl] at q; exact absurd q.2 (by decide)))
          · exact absurd b46 (by decide)
        · rw [if_neg hl]
          refine X_if_ne (tgt := 53) dX4_widthBy_46 (by decide) (fun b46 => ?_) (fun b46 => ?_)
          · exact absurd rfl b46
          refine X_iconst (v := nI 1) dX4_widthBy_49 (by decide) ?_
          refine X_goto (tgt := 54) dX4_widthBy_50 (by decide) ?_
          refine X_istore dX4_widthBy_54 rfl rfl ?_
          refine X_iload_n dX4_widthBy_56 rfl ?_
          refine X_iconst (v := nI 1) dX4_widthBy_57 (by decide) ?_
          refine X_iload_n dX4_widthBy_58 rfl ?_
          first | refine X_ishl1 dX4_widthBy_59 (by omega) ?_ | refine X_ishl dX4_widthBy_59 ?_
          first | refine X_iorN dX4_widthBy_60 ?_ | refine X_ior dX4_widthBy_60 ?_
          refine X_istore dX4_widthBy_61 rfl rfl ?_
          refine X_aload_n dX4_widthBy_63 rfl ?_
          refine X_getR dX4_widthBy_64 gf_X4_30 (by first | assumption | rfl) (by first | assumption | exact Nat.le_of_ble_eq_true rfl | omega) rfl (by first | assumption | rfl) ?_
          refine X_iload dX4_widthBy_67 rfl ?_
          first | refine X_iald dX4_widthBy_69 (by first | assumption | rfl) (by first | assumption | exact Nat.le_of_ble_eq_true rfl | omega) rfl (by first | decide | omega) (by decide) ?_ | refine X_ildA dX4_widthBy_69 rfl (by omega) ?_ | refine X_ildM dX4_widthBy_69 rfl (by omega) ?_ | refine X_sld dX4_widthBy_69 rfl (by omega) (by omega) ?_
          rw [f1]
          refine X_iload dX4_widthBy_70 rfl ?_
          refine X_if_eq (tgt := 79) dX4_widthBy_72 (by decide) (fun b72 => ?_) (fun b72 => ?_)
          · exact absurd b72 (by decide)
          refine X_iconst (v := nI 1) dX4_widthBy_75 (by decide) ?_
          refine X_goto (tgt := 80) dX4_widthBy_76 (by decide) ?_
          exact t80 1 (if_pos ⟨hr, by simpa using hl⟩).symm _
      · refine X_if_ne (tgt := 53) dX4_widthBy_35 (by decide) (fun b35 => ?_) (fun b35 => ?_)
        · exact t53 (if_neg (fun q => hr q.1))
        · exact absurd ((neq (b := 0) (by omega) (by decide)).mp b35) hr
    · exact absurd ((sdf0 hnl).mpr hs) b19
  · refine X_if_eq (tgt := 25) dX4_widthBy_19 (by decide) (fun b19 => ?_) (fun b19 => ?_)
    · exact absurd ((sdf0 hnl).mp b19) hs
    · exact no (Or.inr hs)
set_option maxRecDepth 20000 in
theorem c_tellFirstOrder {Q : Mm → Prop} {T : Nat} {x : Nat → Nat} (hd : 2 ≤ d) (hn : n ≤ 8) (hK : HK I n W c) (hF : HF I n W c (Wf c n W) 0) (hT : I 136 13 = nI T) (hT2 : T < 536870912) (hG : GP c n W T x 0) (hQ : ∀ I', Fr [145] I I' → (∀ k, k < n → I' 145 k = nI (x k)) → Q (NC, I', J, layR sw)) : Y G d zX4_tellFirstOrder [vr 136] (NC, I, J, layR sw) 0 0 (qv Q) := by
  have h256 := pow256 hn
  have loop : ∀ (m k : Nat) (I' : Nat → Nat → Int32), m = n - k → k ≤ n → Fr [145] I I' → (∀ j, j < k → I' 145 j = nI (x j)) → X G d zX4_tellFirstOrder 4 [(0, vr 136), (1, vi (nI (pbt x k))), (2, vi (nI k))] [] (NC, I', J, layR sw) 0 0 (qv Q) := by
    intro m
    induction m with
    | zero =>
      intro k I' hm hk hf ho
      obtain rfl : k = n := by omega
      have hK' := HK_fr hK hf (fun k a b => by simp; omega)
      refine X_iload_n dX4_tellFirstOrder_4 rfl ?_
      refine X_aload_n dX4_tellFirstOrder_5 rfl ?_
      refine X_getI dX4_tellFirstOrder_6 gf_X4_51 (by first | assumption | rfl) (by first | assumption | exact Nat.le_of_ble_eq_true rfl | omega) rfl ?_
      rw [hK'.1]
      refine X_icmp_ge (tgt := 68) dX4_tellFirstOrder_9 (by decide) (fun b => ?_) (fun b => ?_)
      · exact X_vret dX4_tellFirstOrder_68 rfl ⟨rfl, hQ I' hf ho⟩
      · exact absurd (Int32.le_refl _) b
    | succ m ih =>
      intro k I' hm hk hf ho
      have hkn : k < n := by omega
      have hK' := HK_fr hK hf (fun k a b => by simp; omega)
      have hF' : HF I' n W c (Wf c n W) (pbt x k + 1) := fun S _ h => by rw [hf 143 (by simp), hf 144 (by simp)]; exact hF S (Nat.zero_le S) h
      have hT' : I' 136 13 = nI T := by rw [hf 136 (by simp)]; exact hT
      obtain ⟨g1, g2, g3⟩ := hG k (Nat.zero_le k) hkn
      have hP : pbt x k < 2 ^ n := pbt_lt k (fun j hj => (hG j (Nat.zero_le j) (by omega)).1)
      have out : X G d zX4_tellFirstOrder 49 [(0, vr 136), (1, vi (nI (pbt x k))), (2, vi (nI k)), (3, vi (nI (x k)))] [] (NC, I', J, layR sw) 0 0 (qv Q) := by
        refine X_aload_n dX4_tellFirstOrder_49 rfl ?_
        refine X_getR dX4_tellFirstOrder_50 gf_X4_36 (by first | assumption | rfl) (by first | assumption | exact Nat.le_of_ble_eq_true rfl | omega) rfl (by first | assumption | rfl) ?_
        refine X_iload_n dX4_tellFirstOrder_53 rfl ?_
        refine X_iload_n dX4_tellFirstOrder_54 rfl ?_
        refine X_iast dX4_tellFirstOrder_55 (by first | assumption | rfl) (by first | assumption | exact Nat.le_of_ble_eq_true rfl | omega) rfl (by first | decide | omega) (by decide) ?_
        refine X_iload_n dX4_tellFirstOrder_56 rfl ?_
        refine X_iconst (v := nI 1) dX4_tellFirstOrder_57 (by decide) ?_
        refine X_iload_n dX4_tellFirstOrder_58 rfl ?_
        first | refine X_ishl1 dX4_tellFirstOrder_59 (by omega) ?_ | refine X_ishl dX4_tellFirstOrder_59 ?_
        first | refine X_iorN dX4_tellFirstOrder_60 ?_ | refine X_ior dX4_tellFirstOrder_60 ?_
        refine X_istore_n dX4_tellFirstOrder_61 rfl rfl ?_
        first | refine X_iinc1 dX4_tellFirstOrder_62 rfl rfl rfl ?_ | refine X_iinc dX4_tellFirstOrder_62 rfl rfl rfl rfl ?_
        refine X_goto (tgt := 4) dX4_tellFirstOrder_65 (by decide) ?_
        refine weak (lv' := [(0, vr 136), (1, vi (nI (pbt x k ||| 2 ^ x k))), (2, vi (nI (k + 1)))]) (fun q hq => List.mem_append_left _ hq) ?_
        refine ih (k + 1) _ (by omega) (by omega) (hf.tr (Fr.sr (by simp))) (fun j hj => ?_)
        rw [sr_eq]
        by_cases hjk : j = k
        · rw [hjk, up_eq]
        · rw [up_ne hjk]; exact ho j (by omega)
      have inner : ∀ (m j : Nat), m = x k - j → j ≤ x k → X G d zX4_tellFirstOrder 20 [(0, vr 136), (1, vi (nI (pbt x k))), (2, vi (nI k)), (3, vi (nI j))] [] (NC, I', J, layR sw) 0 0 (qv Q) := by
        intro m
        induction m with
        | zero =>
          intro j hm2 hj
          obtain rfl : j = x k := by omega
          refine X_iload_n dX4_tellFirstOrder_20 rfl ?_
          refine X_aload_n dX4_tellFirstOrder_21 rfl ?_
          refine X_getI dX4_tellFirstOrder_22 gf_X4_51 (by first | assumption | rfl) (by first | assumption | exact Nat.le_of_ble_eq_true rfl | omega) rfl ?_
          rw [hK'.1]
          refine X_iconst (v := nI 1) dX4_tellFirstOrder_25 (by decide) ?_
          first | refine X_isubN dX4_tellFirstOrder_26 (by omega) ?_ | refine X_isub dX4_tellFirstOrder_26 ?_
          refine X_icmp_ge (tgt := 49) dX4_tellFirstOrder_27 (by decide) (fun b27 => ?_) (fun b27 => ?_)
          · exact out
          refine X_aload_n dX4_tellFirstOrder_30 rfl ?_
          refine X_iload_n dX4_tellFirstOrder_31 rfl ?_
          refine X_iload_n dX4_tellFirstOrder_32 rfl ?_
          have hwt := wBy_top (c := c) (W := W) (show n ≤ 12 by omega) hP g1
          refine X_cVi dX4_tellFirstOrder_33 ck_X4_95 rfl rfl (by first | assumption | rfl) (by first | assumption | exact Nat.le_of_ble_eq_true rfl | omega) (by omega) (Nat.le_of_ble_eq_true rfl) (c_widthBy (F := Wf c n W) (by omega) hn hP g1 hK' hF' (fun S h => Wf_top h) ?_)
          refine X_aload_n dX4_tellFirstOrder_36 rfl ?_
          refine X_getI dX4_tellFirstOrder_37 gf_X4_101 (by first | assumption | rfl) (by first | assumption | exact Nat.le_of_ble_eq_true rfl | omega) rfl ?_
          rw [hT']
          refine X_icmp_le (tgt := 49) dX4_tellFirstOrder_40 (by decide) (fun b40 => ?_) (fun b40 => ?_)
          · exact out
          · exact absurd ((nle (by omega) (by omega)).mpr g2) b40
        | succ m ih2 =>
          intro j hm2 hj
          have hjn : j < n := by omega
          have hlt : j < x k := by omega
          refine X_iload_n dX4_tellFirstOrder_20 rfl ?_
          refine X_aload_n dX4_tellFirstOrder_21 rfl ?_
          refine X_getI dX4_tellFirstOrder_22 gf_X4_51 (by first | assumption | rfl) (by first | assumption | exact Nat.le_of_ble_eq_true rfl | omega) rfl ?_
          rw [hK'.1]
          refine X_iconst (v := nI 1) dX4_tellFirstOrder_25 (by decide) ?_
          first | refine X_isubN dX4_tellFirstOrder_26 (by omega) ?_ | refine X_isub dX4_tellFirstOrder_26 ?_
          refine X_icmp_ge (tgt := 49) dX4_tellFirstOrder_27 (by decide) (fun b27 => ?_) (fun b27 => ?_)
          · have := (nle (by omega) (by omega)).mp b27
            omega
          refine X_aload_n dX4_tellFirstOrder_30 rfl ?_
          refine X_iload_n dX4_tellFirstOrder_31 rfl ?_
          refine X_iload_n dX4_tellFirstOrder_32 rfl ?_
          have hwt := wBy_top (c := c) (W := W) (show n ≤ 12 by omega) hP hjn
          refine X_cVi dX4_tellFirstOrder_33 ck_X4_95 rfl rfl (by first | assumption | rfl) (by first | assumption | exact Nat.le_of_ble_eq_true rfl | omega) (by omega) (Nat.le_of_ble_eq_true rfl) (c_widthBy (F := Wf c n W) (by omega) hn hP hjn hK' hF' (fun S h => Wf_top h) ?_)
          refine X_aload_n dX4_tellFirstOrder_36 rfl ?_
          refine X_getI dX4_tellFirstOrder_37 gf_X4_101 (by first | assumption | rfl) (by first | assumption | exact Nat.le_of_ble_eq_true rfl | omega) rfl ?_
          rw [hT']
          refine X_icmp_le (tgt := 49) dX4_tellFirstOrder_40 (by decide) (fun b40 => ?_) (fun b40 => ?_)
          · have := (nle (by omega) (by omega)).mp b40
            have := g3 j hlt
            omega
          first | refine X_iinc1 dX4_tellFirstOrder_43 rfl rfl rfl ?_ | refine X_iinc dX4_tellFirstOrder_43 rfl rfl rfl rfl ?_
          refine X_goto (tgt := 20) dX4_tellFirstOrder_46 (by decide) ?_
          exact ih2 (j + 1) (by omega) (by omega)
      refine X_iload_n dX4_tellFirstOrder_4 rfl ?_
      refine X_aload_n dX4_tellFirstOrder_5 rfl ?_
      refine X_getI dX4_tellFirstOrder_6 gf_X4_51 (by first | assumption | rfl) (by first | assumption | exact Nat.le_of_ble_eq_true rfl | omega) rfl ?_
      rw [hK'.1]
      refine X_icmp_ge (tgt := 68) dX4_tellFirstOrder_9 (by decide) (fun b => ?_) (fun b => ?_)
      · exact absurd ((nle (by omega) (by omega)).mp b) (by omega)
      refine X_iload_n dX4_tellFirstOrder_12 rfl ?_
      refine X_bipush (v := nI 8) dX4_tellFirstOrder_13 (by decide) ?_
      refine X_icmp_ge (tgt := 68) dX4_tellFirstOrder_15 (by decide) (fun b15 => ?_) (fun b15 => ?_)
      · exact absurd ((nle (by omega) (by omega)).mp b15) (by omega)
      refine X_iconst (v := nI 0) dX4_tellFirstOrder_18 (by decide) ?_
      refine X_istore_n dX4_tellFirstOrder_19 rfl rfl ?_
      exact inner (x k) 0 rfl (Nat.zero_le _)
  refine Y_of rfl rfl (Nat.le_of_ble_eq_true rfl) rfl ?_
  refine X_iconst (v := nI 0) dX4_tellFirstOrder_0 (by decide) ?_
  refine X_istore_n dX4_tellFirstOrder_1 rfl rfl ?_
  refine X_iconst (v := nI 0) dX4_tellFirstOrder_2 (by decide) ?_
  refine X_istore_n dX4_tellFirstOrder_3 rfl rfl ?_
  exact loop n 0 I rfl (Nat.zero_le n) Fr.rf (fun j h => absurd h (Nat.not_lt_zero j))
set_option maxRecDepth 20000 in
set_option maxHeartbeats 1000000 in
theorem c_findFewest {Q : Mm → Prop} {x : Nat → Nat} (hd : 3 ≤ d) (hn : n ≤ 8) (hK : HK I n W c) (hT2 : max (hbc c n W 0) (Wf c n W 0) < 536870912) (hG : GP c n W (max (hbc c n W 0) (Wf c n W 0)) x 0) (hQ : ∀ I', Fr [136, 143, 144, 145] I I' → I' 136 13 = nI (max (hbc c n W 0) (Wf c n W 0)) → (∀ k, k < n → I' 145 k = nI (x k)) → Q (NC, I', J, layR sw)) : Y G d zX4_findFewest [vr 136] (NC, I, J, layR sw) 0 0 (qv Q) := by
  have h256 := pow256 hn
  have hpos := Nat.two_pow_pos n
  have e1 : (536870912 : Int32) = nI 536870912 := by decide
  have fin : ∀ (I' : Nat → Nat → Int32) (L2), Fr [143, 144] I I' → HF I' n W c (Wf c n W) 0 → X G d zX4_findFewest 107 ([(0, vr 136), (1, vi (nI (2 ^ n - 1)))] ++ L2) [] (NC, I', J, layR sw) 0 0 (qv Q) := by
    intro I' L2 hf hF
    obtain ⟨f1, f2⟩ := hF 0 (Nat.le_refl 0) hpos
    have hK' := HK_fr hK hf (fun k a b => by simp; omega)
    have b1 := hbc_le c n W 0
    have b2 := Wf_top (c := c) (W := W) hpos
    refine weak (lv' := [(0, vr 136), (1, vi (nI (2 ^ n - 1)))]) (fun q hq => List.mem_append_left _ hq) ?_
    refine X_aload_n dX4_findFewest_107 rfl ?_
    refine X_aload_n dX4_findFewest_108 rfl ?_
    refine X_getR dX4_findFewest_109 gf_X4_30 (by first | assumption | rfl) (by first | assumption | exact Nat.le_of_ble_eq_true rfl | omega) rfl (by first | assumption | rfl) ?_
    refine X_iconst (v := nI 0) dX4_findFewest_112 (by decide) ?_
    first | refine X_iald dX4_findFewest_113 (by first | assumption | rfl) (by first | assumption | exact Nat.le_of_ble_eq_true rfl | omega) rfl (by first | decide | omega) (by decide) ?_ | refine X_ildA dX4_findFewest_113 rfl (by omega) ?_ | refine X_ildM dX4_findFewest_113 rfl (by omega) ?_ | refine X_sld dX4_findFewest_113 rfl (by omega) (by omega) ?_
    rw [f1]
    refine X_aload_n dX4_findFewest_114 rfl ?_
    refine X_getR dX4_findFewest_115 gf_X4_33 (by first | assumption | rfl) (by first | assumption | exact Nat.le_of_ble_eq_true rfl | omega) rfl (by first | assumption | rfl) ?_
    refine X_iconst (v := nI 0) dX4_findFewest_118 (by decide) ?_
    first | refine X_iald dX4_findFewest_119 (by first | assumption | rfl) (by first | assumption | exact Nat.le_of_ble_eq_true rfl | omega) rfl (by first | decide | omega) (by decide) ?_ | refine X_ildA dX4_findFewest_119 rfl (by omega) ?_ | refine X_ildM dX4_findFewest_119 rfl (by omega) ?_ | refine X_sld dX4_findFewest_119 rfl (by omega) (by omega) ?_
    rw [f2]
    refine X_cSi dX4_findFewest_120 ck_X4_85 rfl rfl (by omega) (Nat.le_of_ble_eq_true rfl) (c_max (by omega) (by omega) ?_)
    refine X_putI dX4_findFewest_123 gf_X4_101 (Or.inl rfl) (by first | assumption | rfl) (by first | assumption | exact Nat.le_of_ble_eq_true rfl | omega) rfl ?_
    refine X_aload_n dX4_findFewest_126 rfl ?_
    have hK2 : HK (sr I' 136 (up (I' 136) 13 (nI (max (hbc c n W 0) (Wf c n W 0))))) n W c := by
      unfold HK
      rw [sr_eq, up_ne (by decide), up_ne (by decide), sr_ne (by decide), sr_ne (by decide), sr_ne (by decide), sr_ne (by decide), sr_ne (by decide), sr_ne (by decide)]
      exact hK'
    refine X_cVv dX4_findFewest_127 ck_X4_104 rfl rfl (by first | assumption | rfl) (by first | assumption | exact Nat.le_of_ble_eq_true rfl | omega) (by omega) (Nat.le_of_ble_eq_true rfl) (c_tellFirstOrder (by omega) hn hK2 (fun S h1 h2 => by rw [sr_ne (by decide), sr_ne (by decide)]; exact hF S h1 h2) (by rw [sr_eq, up_eq]) hT2 hG (fun I2 g2 ho => ?_))
    exact X_vret dX4_findFewest_130 rfl ⟨rfl, hQ I2 (((hf.sub (by simp)).tr (Fr.sr (by simp))).tr (g2.sub (by simp))) (by rw [g2 136 (by simp), sr_eq, up_eq]) ho⟩
  have inner : ∀ (S : Nat), S < 2 ^ n - 1 → (∀ I' L2, Fr [143, 144] I I' → HF I' n W c (Wf c n W) S → X G d zX4_findFewest 41 ([(0, vr 136), (1, vi (nI (2 ^ n - 1))), (2, vi (nI S + Int32.ofInt (-1)))] ++ L2) [] (NC, I', J, layR sw) 0 0 (qv Q)) → ∀ (m i : Nat) (I' : Nat → Nat → Int32), m = n - i → i ≤ n → Fr [143, 144] I I' → HF I' n W c (Wf c n W) (S + 1) → I' 143 S = nI (hbc c n W S) → I' 144 S = nI (mn (wBy c n W (Wf c n W) S) i) → X G d zX4_findFewest 66 [(0, vr 136), (1, vi (nI (2 ^ n - 1))), (2, vi (nI S)), (3, vi (nI i))] [] (NC, I', J, layR sw) 0 0 (qv Q) := by
    intro S hS go m
    induction m with
    | zero =>
      intro i I' hm hi hf hF h1 h2
      obtain rfl : i = n := by omega
      have hK' := HK_fr hK hf (fun k a b => by simp; omega)
      refine X_iload_n dX4_findFewest_66 rfl ?_
      refine X_aload_n dX4_findFewest_67 rfl ?_
      refine X_getI dX4_findFewest_68 gf_X4_51 (by first | assumption | rfl) (by first | assumption | exact Nat.le_of_ble_eq_true rfl | omega) rfl ?_
      rw [hK'.1]
      refine X_icmp_ge (tgt := 101) dX4_findFewest_71 (by decide) (fun b => ?_) (fun b => ?_)
      · first | refine X_iincd dX4_findFewest_101 rfl (by omega) rfl rfl ?_ | refine X_iinc dX4_findFewest_101 rfl rfl rfl rfl ?_
        refine X_goto (tgt := 41) dX4_findFewest_104 (by decide) ?_
        refine go I' [(3, vi (nI i))] hf (fun S' a1 a2 => ?_)
        by_cases q : S' = S
        · rw [q, Wf_at hS]; exact ⟨h1, h2⟩
        · exact hF S' (by omega) a2
      · exact absurd (Int32.le_refl _) b
    | succ m ih =>
      intro i I' hm hi hf hF h1 h2
      have hin : i < n := by omega
      have hK' := HK_fr hK hf (fun k a b => by simp; omega)
      have b1 := mn_top (f := wBy c n W (Wf c n W) S) i
      have b2 := wBy_top (c := c) (W := W) (show n ≤ 12 by omega) (show S < 2 ^ n by omega) hin
      refine X_iload_n dX4_findFewest_66 rfl ?_
      refine X_aload_n dX4_findFewest_67 rfl ?_
      refine X_getI dX4_findFewest_68 gf_X4_51 (by first | assumption | rfl) (by first | assumption | exact Nat.le_of_ble_eq_true rfl | omega) rfl ?_
      rw [hK'.1]
      refine X_icmp_ge (tgt := 101) dX4_findFewest_71 (by decide) (fun b => ?_) (fun b => ?_)
      · exact absurd ((nle (by omega) (by omega)).mp b) (by omega)
      refine X_aload_n dX4_findFewest_74 rfl ?_
      refine X_getR dX4_findFewest_75 gf_X4_33 (by first | assumption | rfl) (by first | assumption | exact Nat.le_of_ble_eq_true rfl | omega) rfl (by first | assumption | rfl) ?_
      refine X_iload_n dX4_findFewest_78 rfl ?_
      refine X_aload_n dX4_findFewest_79 rfl ?_
      refine X_getR dX4_findFewest_80 gf_X4_33 (by first | assumption | rfl) (by first | assumption | exact Nat.le_of_ble_eq_true rfl | omega) rfl (by first | assumption | rfl) ?_
      refine X_iload_n dX4_findFewest_83 rfl ?_
      first | refine X_iald dX4_findFewest_84 (by first | assumption | rfl) (by first | assumption | exact Nat.le_of_ble_eq_true rfl | omega) rfl (by first | decide | omega) (by decide) ?_ | refine X_ildA dX4_findFewest_84 rfl (by omega) ?_ | refine X_ildM dX4_findFewest_84 rfl (by omega) ?_ | refine X_sld dX4_findFewest_84 rfl (by omega) (by omega) ?_
      rw [h2]
      refine X_aload_n dX4_findFewest_85 rfl ?_
      refine X_iload_n dX4_findFewest_86 rfl ?_
      refine X_iload_n dX4_findFewest_87 rfl ?_
      refine X_cVi dX4_findFewest_88 ck_X4_95 rfl rfl (by first | assumption | rfl) (by first | assumption | exact Nat.le_of_ble_eq_true rfl | omega) (by omega) (Nat.le_of_ble_eq_true rfl) (c_widthBy (F := Wf c n W) (by omega) hn (by omega) hin hK' hF (fun S h => Wf_top h) ?_)
      refine X_cSi dX4_findFewest_91 ck_X4_98 rfl rfl (by omega) (Nat.le_of_ble_eq_true rfl) (c_min (by omega) (by omega) ?_)
      refine X_iast dX4_findFewest_94 (by first | assumption | rfl) (by first | assumption | exact Nat.le_of_ble_eq_true rfl | omega) rfl (by first | decide | omega) (by decide) ?_
      first | refine X_iinc1 dX4_findFewest_95 rfl rfl rfl ?_ | refine X_iinc dX4_findFewest_95 rfl rfl rfl rfl ?_
      refine X_goto (tgt := 66) dX4_findFewest_98 (by decide) ?_
      refine ih (i + 1) _ (by omega) (by omega) (hf.tr (Fr.sr (by simp))) (fun S' a1 a2 => ?_) (by rw [sr_ne (by decide)]; exact h1) (by rw [sr_eq, up_eq]; rfl)
      rw [sr_ne (show 143 ≠ 144 by decide), sr_eq, up_ne (by omega)]
      exact hF S' a1 a2
  have loop : ∀ (S : Nat) (I' : Nat → Nat → Int32) (L2), S ≤ 2 ^ n - 1 → Fr [143, 144] I I' → HF I' n W c (Wf c n W) S → X G d zX4_findFewest 41 ([(0, vr 136), (1, vi (nI (2 ^ n - 1))), (2, vi (nI S + Int32.ofInt (-1)))] ++ L2) [] (NC, I', J, layR sw) 0 0 (qv Q) := by
    intro S
    induction S with
    | zero =>
      intro I' L2 hS hf hF
      refine weak (lv' := [(0, vr 136), (1, vi (nI (2 ^ n - 1))), (2, vi (nI 0 + Int32.ofInt (-1)))]) (fun q hq => List.mem_append_left _ hq) ?_
      refine X_iload_n dX4_findFewest_41 rfl ?_
      refine X_if_lt (tgt := 107) dX4_findFewest_42 (by decide) (fun b => ?_) (fun b => ?_)
      · exact fin I' [(2, vi (nI 0 + Int32.ofInt (-1)))] hf hF
      · exact absurd pm_0 b
    | succ S ih =>
      intro I' L2 hS hf hF
      have hK' := HK_fr hK hf (fun k a b => by simp; omega)
      rw [pm_s]
      refine weak (lv' := [(0, vr 136), (1, vi (nI (2 ^ n - 1))), (2, vi (nI S))]) (fun q hq => List.mem_append_left _ hq) ?_
      refine X_iload_n dX4_findFewest_41 rfl ?_
      refine X_if_lt (tgt := 107) dX4_findFewest_42 (by decide) (fun b => ?_) (fun b => ?_)
      · exact absurd b (nneg (by omega))
      refine X_aload_n dX4_findFewest_45 rfl ?_
      refine X_getR dX4_findFewest_46 gf_X4_30 (by first | assumption | rfl) (by first | assumption | exact Nat.le_of_ble_eq_true rfl | omega) rfl (by first | assumption | rfl) ?_
      refine X_iload_n dX4_findFewest_49 rfl ?_
      refine X_aload_n dX4_findFewest_50 rfl ?_
      refine X_iload_n dX4_findFewest_51 rfl ?_
      refine X_cVi dX4_findFewest_52 ck_X4_91 rfl rfl (by first | assumption | rfl) (by first | assumption | exact Nat.le_of_ble_eq_true rfl | omega) (by omega) (Nat.le_of_ble_eq_true rfl) (c_heldBehind (by omega) (by omega) hK' ?_)
      refine X_iast dX4_findFewest_55 (by first | assumption | rfl) (by first | assumption | exact Nat.le_of_ble_eq_true rfl | omega) rfl (by first | decide | omega) (by decide) ?_
      refine X_aload_n dX4_findFewest_56 rfl ?_
      refine X_getR dX4_findFewest_57 gf_X4_33 (by first | assumption | rfl) (by first | assumption | exact Nat.le_of_ble_eq_true rfl | omega) rfl (by first | assumption | rfl) ?_
      refine X_iload_n dX4_findFewest_60 rfl ?_
      refine X_ldc dX4_findFewest_61 kc_X4_94 ?_
      rw [e1]
      refine X_iast dX4_findFewest_63 (by first | assumption | rfl) (by first | assumption | exact Nat.le_of_ble_eq_true rfl | omega) rfl (by first | decide | omega) (by decide) ?_
      refine X_iconst (v := nI 0) dX4_findFewest_64 (by decide) ?_
      refine X_istore_n dX4_findFewest_65 rfl rfl ?_
      refine inner S (by omega) (fun I2 L3 g1 g2 => ih I2 L3 (by omega) g1 g2) n 0 _ rfl (Nat.zero_le n) ((hf.tr (Fr.sr (by simp))).tr (Fr.sr (by simp))) (fun S' a1 a2 => ?_) ?_ ?_
      · rw [sr_ne (show 143 ≠ 144 by decide), sr_eq, sr_eq, up_ne (by omega), up_ne (by omega), sr_ne (show 144 ≠ 143 by decide)]
        exact hF S' a1 a2
      · rw [sr_ne (show 143 ≠ 144 by decide), sr_eq, up_eq]
      · rw [sr_eq, up_eq]; rfl
  refine Y_of rfl rfl (Nat.le_of_ble_eq_true rfl) rfl ?_
  refine X_aload_n dX4_findFewest_0 rfl ?_
  refine X_getI dX4_findFewest_1 gf_X4_51 (by first | assumption | rfl) (by first | assumption | exact Nat.le_of_ble_eq_true rfl | omega) rfl ?_
  refine X_bipush (v := nI 8) dX4_findFewest_4 (by decide) ?_
  rw [hK.1]
  refine X_icmp_le (tgt := 10) dX4_findFewest_6 (by decide) (fun b6 => ?_) (fun b6 => ?_)
  · refine X_iconst (v := nI 1) dX4_findFewest_10 (by decide) ?_
    refine X_aload_n dX4_findFewest_11 rfl ?_
    refine X_getI dX4_findFewest_12 gf_X4_51 (by first | assumption | rfl) (by first | assumption | exact Nat.le_of_ble_eq_true rfl | omega) rfl ?_
    rw [hK.1]
    first | refine X_ishl1 dX4_findFewest_15 (by omega) ?_ | refine X_ishl dX4_findFewest_15 ?_
    refine X_iconst (v := nI 1) dX4_findFewest_16 (by decide) ?_
    first | refine X_isubN dX4_findFewest_17 (by omega) ?_ | refine X_isub dX4_findFewest_17 ?_
    refine X_istore_n dX4_findFewest_18 rfl rfl ?_
    refine X_aload_n dX4_findFewest_19 rfl ?_
    refine X_getR dX4_findFewest_20 gf_X4_33 (by first | assumption | rfl) (by first | assumption | exact Nat.le_of_ble_eq_true rfl | omega) rfl (by first | assumption | rfl) ?_
    refine X_iload_n dX4_findFewest_23 rfl ?_
    refine X_iconst (v := nI 0) dX4_findFewest_24 (by decide) ?_
    refine X_iast dX4_findFewest_25 (by first | assumption | rfl) (by first | assumption | exact Nat.le_of_ble_eq_true rfl | omega) rfl (by first | decide | omega) (by decide) ?_
    refine X_aload_n dX4_findFewest_26 rfl ?_
    refine X_getR dX4_findFewest_27 gf_X4_30 (by first | assumption | rfl) (by first | assumption | exact Nat.le_of_ble_eq_true rfl | omega) rfl (by first | assumption | rfl) ?_
    refine X_iload_n dX4_findFewest_30 rfl ?_
    refine X_aload_n dX4_findFewest_31 rfl ?_
    refine X_iload_n dX4_findFewest_32 rfl ?_
    have hf1 : Fr [143, 144] I (sr I 144 (up (I 144) (2 ^ n - 1) (nI 0))) := Fr.sr (by simp)
    refine X_cVi dX4_findFewest_33 ck_X4_91 rfl rfl (by first | assumption | rfl) (by first | assumption | exact Nat.le_of_ble_eq_true rfl | omega) (by omega) (Nat.le_of_ble_eq_true rfl) (c_heldBehind (n := n) (c := c) (W := W) (by omega) (by omega) (HK_fr hK hf1 (fun k a b => by simp; omega)) ?_)
    refine X_iast dX4_findFewest_36 (by first | assumption | rfl) (by first | assumption | exact Nat.le_of_ble_eq_true rfl | omega) rfl (by first | decide | omega) (by decide) ?_
    refine X_iload_n dX4_findFewest_37 rfl ?_
    refine X_iconst (v := nI 1) dX4_findFewest_38 (by decide) ?_
    refine X_isub dX4_findFewest_39 ?_
    rw [sub_pm]
    refine X_istore_n dX4_findFewest_40 rfl rfl ?_
    refine loop (2 ^ n - 1) _ [] (Nat.le_refl _) (hf1.tr (Fr.sr (by simp))) (fun S a1 a2 => ?_)
    obtain rfl : S = 2 ^ n - 1 := by omega
    rw [sr_eq, up_eq, sr_ne (show 144 ≠ 143 by decide), sr_eq, up_eq, Wf_all]
    exact ⟨rfl, rfl⟩
  · exact absurd ((nle (by omega) (by omega)).mpr hn) b6
set_option maxRecDepth 20000 in
theorem C_fewest {x : Int32} (hd : 8 ≤ d) (hv : VSt s) (hi : CInv I s) : Y G d zX11_fewest [vr 0, vi x] (NC, I, J, layR sw) 0 0 (qi (PC s (sp_fewest s x) I J)) := by
  have hn := hv.2.1.1.1
  have h81 : I 8 1 = nI (dC s.2.1).1 := hi.2.1.1.1
  refine Y_of rfl rfl (Nat.le_of_ble_eq_true rfl) rfl ?_
  refine X_aload_n dX11_fewest_0 rfl ?_
  refine X_getR dX11_fewest_1 gf_X11_19 (by first | assumption | rfl) (by first | assumption | exact Nat.le_of_ble_eq_true rfl | omega) rfl (by first | assumption | rfl) ?_
  refine X_getR dX11_fewest_4 gf_X11_106 (by first | assumption | rfl) (by first | assumption | exact Nat.le_of_ble_eq_true rfl | omega) rfl (by first | assumption | rfl) ?_
  refine X_getI dX11_fewest_7 gf_X11_116 (by first | assumption | rfl) (by first | assumption | exact Nat.le_of_ble_eq_true rfl | omega) rfl ?_
  rw [h81]
  refine X_bipush (v := nI 8) dX11_fewest_10 (by decide) ?_
  refine X_icmp_le (tgt := 18) dX11_fewest_12 (by decide) (fun b12 => ?_) (fun b12 => ?_)
  · have h8 := (nle (by omega) (by omega)).mp b12
    obtain ⟨o, hp, hG, hT⟩ := bstW_is (c := (dC s.2.1).2) (n := (dC s.2.1).1) (W := dW s.2.1) hn
    have hsp : sp_fewest s x = sp_at (dC s.2.1).1 (some (max (hbc (dC s.2.1).2 (dC s.2.1).1 (dW s.2.1) 0) (Wf (dC s.2.1).2 (dC s.2.1).1 (dW s.2.1) 0), o)) x := by
      unfold sp_fewest bstW
      rw [hp]
    rw [hsp]
    refine X_iload_n dX11_fewest_18 rfl ?_
    refine X_iconst (v := (-1)) dX11_fewest_19 (by decide) ?_
    refine X_icmp_lt (tgt := 37) dX11_fewest_20 (by decide) (fun b20 => ?_) (fun b20 => ?_)
    · rw [sp_at_n (by omega) (fun q => by rw [q] at b20; exact absurd b20 (by decide)) (Or.inl (Int32.lt_trans b20 (by decide)))]
      refine X_bipush (v := (-6)) dX11_fewest_37 (by decide) ?_
      exact X_iret dX11_fewest_39 rfl ⟨_, rfl, PC_same hi⟩
    refine X_iload_n dX11_fewest_23 rfl ?_
    refine X_aload_n dX11_fewest_24 rfl ?_
    refine X_getR dX11_fewest_25 gf_X11_19 (by first | assumption | rfl) (by first | assumption | exact Nat.le_of_ble_eq_true rfl | omega) rfl (by first | assumption | rfl) ?_
    refine X_getR dX11_fewest_28 gf_X11_106 (by first | assumption | rfl) (by first | assumption | exact Nat.le_of_ble_eq_true rfl | omega) rfl (by first | assumption | rfl) ?_
    refine X_getI dX11_fewest_31 gf_X11_116 (by first | assumption | rfl) (by first | assumption | exact Nat.le_of_ble_eq_true rfl | omega) rfl ?_
    rw [h81]
    refine X_icmp_lt (tgt := 40) dX11_fewest_34 (by decide) (fun b34 => ?_) (fun b34 => ?_)
    · rcases scase hn x with h | ⟨a, ha, rfl⟩
      · have hx1 : x = -1 := by
          have h0 : x < 0 := h.elim (fun q => q) (fun q => absurd b34 (Int32.not_lt.mpr q))
          have := Int32.not_lt.mp b20
          rw [Int32.le_iff_toInt_le] at this
          rw [Int32.lt_iff_toInt_lt] at h0
          have e1 : (-1 : Int32).toInt = -1 := by decide
          have e0 : (0 : Int32).toInt = 0 := by decide
          apply Int32.toInt_inj.mp
          omega
        rw [hx1, sp_at_1 (by omega)]
        refine X_aload_n dX11_fewest_40 rfl ?_
        refine X_cVv dX11_fewest_41 ck_X11_218 rfl rfl (by first | assumption | rfl) (by first | assumption | exact Nat.le_of_ble_eq_true rfl | omega) (by omega) (Nat.le_of_ble_eq_true rfl) (c_weighValues (by omega) hv hi (fun I1 f1 hK => ?_))
        refine X_aload_n dX11_fewest_44 rfl ?_
        refine X_getR dX11_fewest_45 gf_X11_62 (by first | assumption | rfl) (by first | assumption | exact Nat.le_of_ble_eq_true rfl | omega) rfl (by first | assumption | rfl) ?_
        refine X_cVv dX11_fewest_48 ck_X11_227 rfl rfl (by first | assumption | rfl) (by first | assumption | exact Nat.le_of_ble_eq_true rfl | omega) (by omega) (Nat.le_of_ble_eq_true rfl) (c_findFewest (by omega) h8 hK hT hG (fun I2 f2 h2 h3 => ?_))
        refine X_iload_n dX11_fewest_51 rfl ?_
        refine X_iconst (v := (-1)) dX11_fewest_52 (by decide) ?_
        refine X_icmp_ne (tgt := 66) dX11_fewest_53 (by decide) (fun b53 => ?_) (fun b53 => ?_)
        · exact absurd rfl b53
        refine X_aload_n dX11_fewest_56 rfl ?_
        refine X_getR dX11_fewest_57 gf_X11_62 (by first | assumption | rfl) (by first | assumption | exact Nat.le_of_ble_eq_true rfl | omega) rfl (by first | assumption | rfl) ?_
        refine X_getI dX11_fewest_60 gf_X11_230 (by first | assumption | rfl) (by first | assumption | exact Nat.le_of_ble_eq_true rfl | omega) rfl ?_
        rw [h2]
        refine X_goto (tgt := 75) dX11_fewest_63 (by decide) ?_
        exact X_iret dX11_fewest_75 rfl ⟨_, rfl, PC_scr hi hv [103, 122, 123, 124, 125, 126, 127, 136, 137, 138, 139, 140, 141, 142, 143, 144, 145] ((f1.sub (by simp)).tr (f2.sub (by simp))) (by decide)⟩
      · rw [sp_at_a (by omega) ha]
        refine X_aload_n dX11_fewest_40 rfl ?_
        refine X_cVv dX11_fewest_41 ck_X11_218 rfl rfl (by first | assumption | rfl) (by first | assumption | exact Nat.le_of_ble_eq_true rfl | omega) (by omega) (Nat.le_of_ble_eq_true rfl) (c_weighValues (by omega) hv hi (fun I1 f1 hK => ?_))
        refine X_aload_n dX11_fewest_44 rfl ?_
        refine X_getR dX11_fewest_45 gf_X11_62 (by first | assumption | rfl) (by first | assumption | exact Nat.le_of_ble_eq_true rfl | omega) rfl (by first | assumption | rfl) ?_
        refine X_cVv dX11_fewest_48 ck_X11_227 rfl rfl (by first | assumption | rfl) (by first | assumption | exact Nat.le_of_ble_eq_true rfl | omega) (by omega) (Nat.le_of_ble_eq_true rfl) (c_findFewest (by omega) h8 hK hT hG (fun I2 f2 h2 h3 => ?_))
        refine X_iload_n dX11_fewest_51 rfl ?_
        refine X_iconst (v := (-1)) dX11_fewest_52 (by decide) ?_
        refine X_icmp_ne (tgt := 66) dX11_fewest_53 (by decide) (fun b53 => ?_) (fun b53 => ?_)
        · refine X_aload_n dX11_fewest_66 rfl ?_
          refine X_getR dX11_fewest_67 gf_X11_62 (by first | assumption | rfl) (by first | assumption | exact Nat.le_of_ble_eq_true rfl | omega) rfl (by first | assumption | rfl) ?_
          refine X_getR dX11_fewest_70 gf_X11_233 (by first | assumption | rfl) (by first | assumption | exact Nat.le_of_ble_eq_true rfl | omega) rfl (by first | assumption | rfl) ?_
          refine X_iload_n dX11_fewest_73 rfl ?_
          first | refine X_iald dX11_fewest_74 (by first | assumption | rfl) (by first | assumption | exact Nat.le_of_ble_eq_true rfl | omega) rfl (by first | decide | omega) (by decide) ?_ | refine X_ildA dX11_fewest_74 rfl (by omega) ?_ | refine X_ildM dX11_fewest_74 rfl (by omega) ?_ | refine X_sld dX11_fewest_74 rfl (by omega) (by omega) ?_
          rw [h3 a ha]
          exact X_iret dX11_fewest_75 rfl ⟨_, rfl, PC_scr hi hv [103, 122, 123, 124, 125, 126, 127, 136, 137, 138, 139, 140, 141, 142, 143, 144, 145] ((f1.sub (by simp)).tr (f2.sub (by simp))) (by decide)⟩
        · exact absurd b53 (nI_nm1 (by omega))
    · rw [sp_at_n (by omega) (fun q => by rw [q] at b34; exact b34 (Int32.lt_of_lt_of_le (show (-1 : Int32) < 0 by decide) (nge0 (by omega)))) (Or.inr (Int32.not_lt.mp b34))]
      refine X_bipush (v := (-6)) dX11_fewest_37 (by decide) ?_
      exact X_iret dX11_fewest_39 rfl ⟨_, rfl, PC_same hi⟩
  · have h8 : ¬ (dC s.2.1).1 ≤ 8 := fun q => b12 ((nle (by omega) (by omega)).mpr q)
    have hsp : sp_fewest s x = -3 := if_pos (by omega)
    rw [hsp]
    refine X_bipush (v := (-3)) dX11_fewest_15 (by decide) ?_
    exact X_iret dX11_fewest_17 rfl ⟨_, rfl, PC_same hi⟩
set_option maxRecDepth 20000 in
theorem M_fewest {x : Int32} (hd : 10 ≤ d) (hv : VSt s) (hi : RInv I s) : Y G d zX12_fewest [vr 170, vi x] (NC, I, J, layR sw) 0 0 (qi (PM s (sp_fewest s x) I J sw)) := by
  have hn := hv.2.1.1.1
  have hW : dW s.2.1 < 16 := by have := hv.2.1.2.2.1; omega
  refine Y_of rfl rfl (Nat.le_of_ble_eq_true rfl) rfl ?_
  refine X_aload_n dX12_fewest_0 rfl ?_
  refine X_iload_n dX12_fewest_1 rfl ?_
  refine X_iconst (v := nI 0) dX12_fewest_2 (by decide) ?_
  refine X_cVi dX12_fewest_3 ck_X12_323 rfl rfl (by first | assumption | rfl) (by first | assumption | exact Nat.le_of_ble_eq_true rfl | omega) (by omega) (Nat.le_of_ble_eq_true rfl) (m_bestAt (b := 0) (L := [195, 196]) (cost := cWd (dC s.2.1).2 (dC s.2.1).1 (dW s.2.1)) (by decide) (by decide) (by omega) (by decide) hv hi (fun x => ?_) (fun Q I' o best hF hB ho hon hinj hlw go => ?_) (fun I' hF => ?_))
  · have := wdB_le (c := (dC s.2.1).2) (n := (dC s.2.1).1) (W := dW s.2.1) (pl := fun i => ivs x i (dC s.2.1).1) ((dC s.2.1).1 + 1)
    unfold cWd
    omega
  · have hi' := RInv_fm hi hF (by decide) (by decide)
    refine X_iload_n dX12_findBest_25 rfl ?_
    refine X_if_eq (tgt := 36) dX12_findBest_26 (by decide) (fun b26 => ?_) (fun b26 => ?_)
    · refine X_aload_n dX12_findBest_36 rfl ?_
      refine X_cVi dX12_findBest_37 ck_X12_313 rfl rfl (by first | assumption | rfl) (by first | assumption | exact Nat.le_of_ble_eq_true rfl | omega) (by omega) (Nat.le_of_ble_eq_true rfl) (m_widthOf (W := dW s.2.1) (o := o) (pl := fun i => ivs o i (dC s.2.1).1) (by omega) hi'.2.1.rc hv.2.1.1 hi'.2.1.2.2.2.2.1 hW ho hon (fun k hk => ivs_at _ k hk rfl hinj) (inj_surj _ o hon hinj) (fun I3 f3 => ?_))
      exact go I3 f3
    · exact absurd rfl b26
  · exact X_iret dX12_fewest_6 rfl ⟨_, rfl, PM_fm hi _ [] hF (by decide) (by decide)⟩
end CW
