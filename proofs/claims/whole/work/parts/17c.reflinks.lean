/-! values and links, by the reference -/
def mkr (c : Nat → Nat → Nat) : Nat → Nat → Nat
  | 0 => fun _ => 99
  | p + 1 => fun r => if c p 0 = r then p else mkr c p r
theorem mkr_ok (c : Nat → Nat → Nat) : ∀ p r, mkr c p r = 99 ∨ mkr c p r < p
  | 0, r => Or.inl rfl
  | p + 1, r => by
    show (if c p 0 = r then p else mkr c p r) = 99 ∨ (if c p 0 = r then p else mkr c p r) < p + 1
    by_cases h : c p 0 = r
    · rw [if_pos h]; right; omega
    · rw [if_neg h]; exact (mkr_ok c p r).imp_right (fun q => by omega)
theorem vlu_mkr (c : Nat → Nat → Nat) (r : Nat) : ∀ p, p ≤ 12 → vlu c p r = if mkr c p r = 99 then r else 4 + mkr c p r
  | 0, _ => rfl
  | p + 1, hp => by
    show up (vlu c p) (c p 0) (4 + p) r = if (if c p 0 = r then p else mkr c p r) = 99 then r else 4 + (if c p 0 = r then p else mkr c p r)
    by_cases h : c p 0 = r
    · rw [← h, up_eq]
      simp
      omega
    · rw [up_ne (Ne.symm h), if_neg h]
      exact vlu_mkr c r p (by omega)
theorem nb_mkr {c : Nat → Nat → Nat} {p r : Nat} (hp : p ≤ 12) (hr : r < 4) : nb (vlu c p r) = if mkr c p r = 99 then 0 else 2 ^ mkr c p r := by
  rw [vlu_mkr c r p hp]
  unfold nb
  by_cases h : mkr c p r = 99
  · rw [if_pos h, if_pos h, if_neg (by omega)]
  · have := (mkr_ok c p r).resolve_left h
    rw [if_neg h, if_neg h, if_pos (by omega)]
    congr 1
    omega
section RL
variable {G : GG} {d : Nat} {sw : Bool} {I : Nat → Nat → Int32} {J : Nat → Nat → Int64} {s : SS} {n W : Nat} {c : Nat → Nat → Nat}
set_option maxRecDepth 20000 in
theorem m_makerOf {Q : Int32 → Mm → Prop} {r p : Nat} (hc : RC I n c) (hv : VC n c) (hp : p ≤ n) (hr : r < 4) (hQ : Q (enc (mkr c p r)) (NC, I, J, layR sw)) : Y G d zX12_makerOf [vr 170, vi (nI r), vi (nI p)] (NC, I, J, layR sw) 0 0 (qi Q) := by
  have hn := hv.1
  have loop : ∀ (m k : Nat), m = p - k → k ≤ p → X G d zX12_makerOf 6 [(0, vr 170), (1, vi (nI r)), (2, vi (nI p)), (3, vi (enc (mkr c k r))), (4, vi (nI k))] [] (NC, I, J, layR sw) 0 0 (qi Q) := by
    intro m
    induction m with
    | zero =>
      intro k hm hk
      obtain rfl : k = p := by omega
      refine X_iload dX12_makerOf_6 rfl ?_
      refine X_iload_n dX12_makerOf_8 rfl ?_
      refine X_icmp_ge (tgt := 36) dX12_makerOf_9 (by decide) (fun b => ?_) (fun b => ?_)
      · refine X_iload_n dX12_makerOf_36 rfl ?_
        exact X_iret dX12_makerOf_37 rfl ⟨_, rfl, hQ⟩
      · exact absurd (Int32.le_refl _) b
    | succ m ih =>
      intro k hm hk
      have ht := (hv.2 k (by omega)).1
      have ih := ih (k + 1) (by omega) (by omega)
      refine X_iload dX12_makerOf_6 rfl ?_
      refine X_iload_n dX12_makerOf_8 rfl ?_
      refine X_icmp_ge (tgt := 36) dX12_makerOf_9 (by decide) (fun b => ?_) (fun b => ?_)
      · exact absurd ((nle (by omega) (by omega)).mp b) (by omega)
      refine X_aload_n dX12_makerOf_12 rfl ?_
      refine X_getR dX12_makerOf_13 gf_X12_13 (by first | assumption | rfl) (by first | assumption | exact Nat.le_of_ble_eq_true rfl | omega) rfl (by first | assumption | rfl) ?_
      refine X_iload dX12_makerOf_16 rfl ?_
      first | refine X_iald dX12_makerOf_18 (by first | assumption | rfl) (by first | assumption | exact Nat.le_of_ble_eq_true rfl | omega) rfl (by first | decide | omega) (by decide) ?_ | refine X_ildA dX12_makerOf_18 rfl (by omega) ?_ | refine X_ildM dX12_makerOf_18 rfl (by omega) ?_ | refine X_sld dX12_makerOf_18 rfl (by omega) (by omega) ?_
      rw [hc.t hv (by omega)]
      refine X_iload_n dX12_makerOf_19 rfl ?_
      refine X_icmp_ne (tgt := 28) dX12_makerOf_20 (by decide) (fun b20 => ?_) (fun b20 => ?_)
      · rw [show mkr c (k + 1) r = mkr c k r from if_neg (fun q => b20 (by rw [q]))] at ih
        refine X_iload_n dX12_makerOf_28 rfl ?_
        refine X_istore_n dX12_makerOf_29 rfl rfl ?_
        first | refine X_iinc1 dX12_makerOf_30 rfl rfl rfl ?_ | refine X_iinc dX12_makerOf_30 rfl rfl rfl rfl ?_
        refine X_goto (tgt := 6) dX12_makerOf_33 (by decide) ?_
        exact ih
      · rw [show mkr c (k + 1) r = k from if_pos ((neq (by omega) (by omega)).mp b20), enc_n (by omega)] at ih
        refine X_iload dX12_makerOf_23 rfl ?_
        refine X_goto (tgt := 29) dX12_makerOf_25 (by decide) ?_
        refine X_istore_n dX12_makerOf_29 rfl rfl ?_
        first | refine X_iinc1 dX12_makerOf_30 rfl rfl rfl ?_ | refine X_iinc dX12_makerOf_30 rfl rfl rfl rfl ?_
        refine X_goto (tgt := 6) dX12_makerOf_33 (by decide) ?_
        exact ih
  refine Y_of rfl rfl (Nat.le_of_ble_eq_true rfl) rfl ?_
  refine X_bipush (v := (-6)) dX12_makerOf_0 (by decide) ?_
  refine X_istore_n dX12_makerOf_2 rfl rfl ?_
  refine X_iconst (v := nI 0) dX12_makerOf_3 (by decide) ?_
  refine X_istore dX12_makerOf_4 rfl rfl ?_
  exact loop p 0 rfl (Nat.zero_le p)
theorem enc_neg {v : Nat} (h : v = 99 ∨ v < 99) : enc v < 0 ↔ v = 99 := by
  rcases h with rfl | h
  · exact ⟨fun _ => rfl, fun _ => by decide⟩
  · refine ⟨fun q => ?_, fun q => by omega⟩
    rw [enc_n (by omega)] at q
    exact absurd q (nneg (by omega))
theorem m_valueIn {Q : Int32 → Mm → Prop} {r p : Nat} (hd : 1 ≤ d) (hc : RC I n c) (hv : VC n c) (hp : p ≤ n) (hr : r < 4) (hQ : Q (nI (vlu c p r)) (NC, I, J, layR sw)) : Y G d zX12_valueIn [vr 170, vi (nI r), vi (nI p)] (NC, I, J, layR sw) 0 0 (qi Q) := by
  have hn := hv.1
  have ok := mkr_ok c p r
  rw [vlu_mkr c r p (by omega)] at hQ
  refine Y_of rfl rfl (Nat.le_of_ble_eq_true rfl) rfl ?_
  refine X_aload_n dX12_valueIn_0 rfl ?_
  refine X_iload_n dX12_valueIn_1 rfl ?_
  refine X_iload_n dX12_valueIn_2 rfl ?_
  refine X_cVi dX12_valueIn_3 ck_X12_282 rfl rfl (by first | assumption | rfl) (by first | assumption | exact Nat.le_of_ble_eq_true rfl | omega) (by omega) (Nat.le_of_ble_eq_true rfl) (m_makerOf hc hv hp hr ?_)
  refine X_istore_n dX12_valueIn_6 rfl rfl ?_
  refine X_iload_n dX12_valueIn_7 rfl ?_
  refine X_if_ge (tgt := 15) dX12_valueIn_8 (by decide) (fun b => ?_) (fun b => ?_)
  · have h9 : mkr c p r ≠ 99 := fun q => absurd ((enc_neg (by omega)).mpr q) (Int32.not_lt.mpr b)
    rw [if_neg h9] at hQ
    rw [enc_n h9]
    refine X_iconst (v := nI 4) dX12_valueIn_15 (by decide) ?_
    refine X_iload_n dX12_valueIn_16 rfl ?_
    first | refine X_iaddN dX12_valueIn_17 ?_ | refine X_iadd dX12_valueIn_17 ?_
    exact X_iret dX12_valueIn_18 rfl ⟨_, rfl, hQ⟩
  · rw [if_pos ((enc_neg (by omega)).mp (Int32.not_le.mp b))] at hQ
    refine X_iload_n dX12_valueIn_11 rfl ?_
    refine X_goto (tgt := 18) dX12_valueIn_12 (by decide) ?_
    exact X_iret dX12_valueIn_18 rfl ⟨_, rfl, hQ⟩
/-- the second part of sourcesOf: one operand's maker -/
theorem srcv_nb {i v : Nat} : nb (srcv c i v) = if v < 4 then nb (vlu c i v) else 0 := by
  unfold srcv
  by_cases h : v < 4
  · rw [if_pos h, if_pos h]
  · rw [if_neg h, if_neg h]; rfl
set_option maxRecDepth 20000 in
theorem m_sourcesOf {Q : Int32 → Mm → Prop} {i : Nat} (hd : 2 ≤ d) (hc : RC I n c) (hv : VC n c) (hi : i < n) (hQ : Q (nI (ned c i)) (NC, I, J, layR sw)) : Y G d zX12_sourcesOf [vr 170, vi (nI i)] (NC, I, J, layR sw) 0 0 (qi Q) := by
  have hn := hv.1
  obtain ⟨c0, c1, c2, c3⟩ := hc.2 i hi
  have tail : ∀ (b k v : Nat), v < 200 → (X G d zX12_sourcesOf 4 [(0, vr 170), (1, vi (nI i)), (2, vi (nI (b ||| nb (srcv c i v)))), (3, vi (nI (k + 1)))] [] (NC, I, J, layR sw) 0 0 (qi Q)) → ∀ L2, X G d zX12_sourcesOf 28 ([(0, vr 170), (1, vi (nI i)), (2, vi (nI b)), (3, vi (nI k))] ++ L2) [vi (enc v)] (NC, I, J, layR sw) 0 0 (qi Q) := by
    intro b k v hv200 go L2
    refine weak (lv' := [(0, vr 170), (1, vi (nI i)), (2, vi (nI b)), (3, vi (nI k))]) (fun q hq => List.mem_append_left _ hq) ?_
    rw [srcv_nb] at go
    refine X_istore dX12_sourcesOf_28 rfl rfl ?_
    refine X_iload dX12_sourcesOf_30 rfl ?_
    by_cases h4 : v < 4
    · rw [if_pos h4, nb_mkr (by omega) h4] at go
      have ok := mkr_ok c i v
      rw [enc_n (v := v) (by omega)]
      refine X_cSi dX12_sourcesOf_32 ck_X12_218 rfl rfl (by omega) (Nat.le_of_ble_eq_true rfl) (c_isReg_t (by omega) h4 ?_)
      refine X_if_eq (tgt := 48) dX12_sourcesOf_35 (by decide) (fun b35 => ?_) (fun b35 => ?_)
      · exact absurd b35 (by decide)
      refine X_aload_n dX12_sourcesOf_38 rfl ?_
      refine X_iload dX12_sourcesOf_39 rfl ?_
      refine X_iload_n dX12_sourcesOf_41 rfl ?_
      refine X_cVi dX12_sourcesOf_42 ck_X12_282 rfl rfl (by first | assumption | rfl) (by first | assumption | exact Nat.le_of_ble_eq_true rfl | omega) (by omega) (Nat.le_of_ble_eq_true rfl) (m_makerOf hc hv (by omega) h4 ?_)
      refine X_goto (tgt := 50) dX12_sourcesOf_45 (by decide) ?_
      refine X_istore dX12_sourcesOf_50 rfl rfl ?_
      refine X_iload_n dX12_sourcesOf_52 rfl ?_
      refine X_iload dX12_sourcesOf_53 rfl ?_
      refine X_if_ge (tgt := 62) dX12_sourcesOf_55 (by decide) (fun b55 => ?_) (fun b55 => ?_)
      · have h9 : mkr c i v ≠ 99 := fun q => absurd ((enc_neg (by omega)).mpr q) (Int32.not_lt.mpr b55)
        rw [if_neg h9] at go
        rw [enc_n h9]
        refine X_iconst (v := nI 1) dX12_sourcesOf_62 (by decide) ?_
        refine X_iload dX12_sourcesOf_63 rfl ?_
        first | refine X_ishl1 dX12_sourcesOf_65 (by omega) ?_ | refine X_ishl dX12_sourcesOf_65 ?_
        first | refine X_iorN dX12_sourcesOf_66 ?_ | refine X_ior dX12_sourcesOf_66 ?_
        refine X_istore_n dX12_sourcesOf_67 rfl rfl ?_
        first | refine X_iinc1 dX12_sourcesOf_68 rfl rfl rfl ?_ | refine X_iinc dX12_sourcesOf_68 rfl rfl rfl rfl ?_
        refine X_goto (tgt := 4) dX12_sourcesOf_71 (by decide) ?_
        refine weak (lv' := [(0, vr 170), (1, vi (nI i)), (2, vi (nI (b ||| 2 ^ mkr c i v))), (3, vi (nI (k + 1)))]) (fun q hq => List.mem_append_left _ hq) ?_
        exact go
      · rw [if_pos ((enc_neg (by omega)).mp (Int32.not_le.mp b55))] at go
        refine X_iconst (v := nI 0) dX12_sourcesOf_58 (by decide) ?_
        refine X_goto (tgt := 66) dX12_sourcesOf_59 (by decide) ?_
        first | refine X_iorN dX12_sourcesOf_66 ?_ | refine X_ior dX12_sourcesOf_66 ?_
        refine X_istore_n dX12_sourcesOf_67 rfl rfl ?_
        first | refine X_iinc1 dX12_sourcesOf_68 rfl rfl rfl ?_ | refine X_iinc dX12_sourcesOf_68 rfl rfl rfl rfl ?_
        refine X_goto (tgt := 4) dX12_sourcesOf_71 (by decide) ?_
        refine weak (lv' := [(0, vr 170), (1, vi (nI i)), (2, vi (nI (b ||| 0))), (3, vi (nI (k + 1)))]) (fun q hq => List.mem_append_left _ hq) ?_
        exact go
    · rw [if_neg h4] at go
      refine X_cSi dX12_sourcesOf_32 ck_X12_218 rfl rfl (by omega) (Nat.le_of_ble_eq_true rfl) (c_isReg_f (by omega) (enc_big h4 hv200) ?_)
      refine X_if_eq (tgt := 48) dX12_sourcesOf_35 (by decide) (fun b35 => ?_) (fun b35 => ?_)
      · refine X_bipush (v := (-6)) dX12_sourcesOf_48 (by decide) ?_
        refine X_istore dX12_sourcesOf_50 rfl rfl ?_
        refine X_iload_n dX12_sourcesOf_52 rfl ?_
        refine X_iload dX12_sourcesOf_53 rfl ?_
        refine X_if_ge (tgt := 62) dX12_sourcesOf_55 (by decide) (fun b55 => ?_) (fun b55 => ?_)
        · exact absurd b55 (by decide)
        refine X_iconst (v := nI 0) dX12_sourcesOf_58 (by decide) ?_
        refine X_goto (tgt := 66) dX12_sourcesOf_59 (by decide) ?_
        first | refine X_iorN dX12_sourcesOf_66 ?_ | refine X_ior dX12_sourcesOf_66 ?_
        refine X_istore_n dX12_sourcesOf_67 rfl rfl ?_
        first | refine X_iinc1 dX12_sourcesOf_68 rfl rfl rfl ?_ | refine X_iinc dX12_sourcesOf_68 rfl rfl rfl rfl ?_
        refine X_goto (tgt := 4) dX12_sourcesOf_71 (by decide) ?_
        refine weak (lv' := [(0, vr 170), (1, vi (nI i)), (2, vi (nI (b ||| 0))), (3, vi (nI (k + 1)))]) (fun q hq => List.mem_append_left _ hq) ?_
        exact go
      · exact absurd rfl b35
  refine Y_of rfl rfl (Nat.le_of_ble_eq_true rfl) rfl ?_
  refine X_iconst (v := nI 0) dX12_sourcesOf_0 (by decide) ?_
  refine X_istore_n dX12_sourcesOf_1 rfl rfl ?_
  refine X_iconst (v := nI 0) dX12_sourcesOf_2 (by decide) ?_
  refine X_istore_n dX12_sourcesOf_3 rfl rfl ?_
  refine X_iload_n dX12_sourcesOf_4 rfl ?_
  refine X_iconst (v := nI 2) dX12_sourcesOf_5 (by decide) ?_
  refine X_icmp_ge (tgt := 74) dX12_sourcesOf_6 (by decide) (fun b6 => ?_) (fun b6 => ?_)
  · exact absurd b6 (by decide)
  refine X_iload_n dX12_sourcesOf_9 rfl ?_
  refine X_if_ne (tgt := 22) dX12_sourcesOf_10 (by decide) (fun b10 => ?_) (fun b10 => ?_)
  · exact absurd rfl b10
  refine X_aload_n dX12_sourcesOf_13 rfl ?_
  refine X_getR dX12_sourcesOf_14 gf_X12_19 (by first | assumption | rfl) (by first | assumption | exact Nat.le_of_ble_eq_true rfl | omega) rfl (by first | assumption | rfl) ?_
  refine X_iload_n dX12_sourcesOf_17 rfl ?_
  first | refine X_iald dX12_sourcesOf_18 (by first | assumption | rfl) (by first | assumption | exact Nat.le_of_ble_eq_true rfl | omega) rfl (by first | decide | omega) (by decide) ?_ | refine X_ildA dX12_sourcesOf_18 rfl (by omega) ?_ | refine X_ildM dX12_sourcesOf_18 rfl (by omega) ?_ | refine X_sld dX12_sourcesOf_18 rfl (by omega) (by omega) ?_
  rw [c2]
  refine X_goto (tgt := 28) dX12_sourcesOf_19 (by decide) ?_
  refine tail 0 0 (c i 2) (VS_lt (hv.2 i hi) 2 (by decide)) ?_ []
  refine X_iload_n dX12_sourcesOf_4 rfl ?_
  refine X_iconst (v := nI 2) dX12_sourcesOf_5 (by decide) ?_
  refine X_icmp_ge (tgt := 74) dX12_sourcesOf_6 (by decide) (fun b6 => ?_) (fun b6 => ?_)
  · exact absurd b6 (by decide)
  refine X_iload_n dX12_sourcesOf_9 rfl ?_
  refine X_if_ne (tgt := 22) dX12_sourcesOf_10 (by decide) (fun b10 => ?_) (fun b10 => ?_)
  · refine X_aload_n dX12_sourcesOf_22 rfl ?_
    refine X_getR dX12_sourcesOf_23 gf_X12_22 (by first | assumption | rfl) (by first | assumption | exact Nat.le_of_ble_eq_true rfl | omega) rfl (by first | assumption | rfl) ?_
    refine X_iload_n dX12_sourcesOf_26 rfl ?_
    first | refine X_iald dX12_sourcesOf_27 (by first | assumption | rfl) (by first | assumption | exact Nat.le_of_ble_eq_true rfl | omega) rfl (by first | decide | omega) (by decide) ?_ | refine X_ildA dX12_sourcesOf_27 rfl (by omega) ?_ | refine X_ildM dX12_sourcesOf_27 rfl (by omega) ?_ | refine X_sld dX12_sourcesOf_27 rfl (by omega) (by omega) ?_
    rw [c3]
    refine tail _ 1 (c i 3) (VS_lt (hv.2 i hi) 3 (by decide)) ?_ []
    refine X_iload_n dX12_sourcesOf_4 rfl ?_
    refine X_iconst (v := nI 2) dX12_sourcesOf_5 (by decide) ?_
    refine X_icmp_ge (tgt := 74) dX12_sourcesOf_6 (by decide) (fun b6 => ?_) (fun b6 => ?_)
    · refine X_iload_n dX12_sourcesOf_74 rfl ?_
      rw [Nat.zero_or]
      exact X_iret dX12_sourcesOf_75 rfl ⟨_, rfl, hQ⟩
    · exact absurd (by decide) b6
  · exact absurd b10 (by decide)
theorem m_doesRead {Q : Int32 → Mm → Prop} {i r : Nat} (hc : RC I n c) (hv : VC n c) (hi : i < n) (hr : r < 4) (hQ : Q (nI (if c i 2 = r ∨ c i 3 = r then 1 else 0)) (NC, I, J, layR sw)) : Y G d zX12_doesRead [vr 170, vi (nI i), vi (nI r)] (NC, I, J, layR sw) 0 0 (qi Q) := by
  have hn := hv.1
  obtain ⟨c0, c1, c2, c3⟩ := hc.2 i hi
  have e2 := enc_inj (VS_lt (hv.2 i hi) 2 (by decide)) (show r < 200 by omega)
  have e3 := enc_inj (VS_lt (hv.2 i hi) 3 (by decide)) (show r < 200 by omega)
  rw [enc_n (v := r) (by omega)] at e2 e3
  refine Y_of rfl rfl (Nat.le_of_ble_eq_true rfl) rfl ?_
  refine X_aload_n dX12_doesRead_0 rfl ?_
  refine X_getR dX12_doesRead_1 gf_X12_19 (by first | assumption | rfl) (by first | assumption | exact Nat.le_of_ble_eq_true rfl | omega) rfl (by first | assumption | rfl) ?_
  refine X_iload_n dX12_doesRead_4 rfl ?_
  first | refine X_iald dX12_doesRead_5 (by first | assumption | rfl) (by first | assumption | exact Nat.le_of_ble_eq_true rfl | omega) rfl (by first | decide | omega) (by decide) ?_ | refine X_ildA dX12_doesRead_5 rfl (by omega) ?_ | refine X_ildM dX12_doesRead_5 rfl (by omega) ?_ | refine X_sld dX12_doesRead_5 rfl (by omega) (by omega) ?_
  rw [c2]
  refine X_iload_n dX12_doesRead_6 rfl ?_
  refine X_icmp_eq (tgt := 20) dX12_doesRead_7 (by decide) (fun b7 => ?_) (fun b7 => ?_)
  · rw [if_pos (Or.inl (e2.mp b7))] at hQ
    refine X_iconst (v := nI 1) dX12_doesRead_20 (by decide) ?_
    refine X_goto (tgt := 25) dX12_doesRead_21 (by decide) ?_
    exact X_zret dX12_doesRead_25 rfl (by first | rfl | (simp; done) | decide) ⟨_, rfl, hQ⟩
  refine X_aload_n dX12_doesRead_10 rfl ?_
  refine X_getR dX12_doesRead_11 gf_X12_22 (by first | assumption | rfl) (by first | assumption | exact Nat.le_of_ble_eq_true rfl | omega) rfl (by first | assumption | rfl) ?_
  refine X_iload_n dX12_doesRead_14 rfl ?_
  first | refine X_iald dX12_doesRead_15 (by first | assumption | rfl) (by first | assumption | exact Nat.le_of_ble_eq_true rfl | omega) rfl (by first | decide | omega) (by decide) ?_ | refine X_ildA dX12_doesRead_15 rfl (by omega) ?_ | refine X_ildM dX12_doesRead_15 rfl (by omega) ?_ | refine X_sld dX12_doesRead_15 rfl (by omega) (by omega) ?_
  rw [c3]
  refine X_iload_n dX12_doesRead_16 rfl ?_
  refine X_icmp_ne (tgt := 24) dX12_doesRead_17 (by decide) (fun b17 => ?_) (fun b17 => ?_)
  · rw [if_neg (fun q => q.elim (fun q => b7 (e2.mpr q)) (fun q => b17 (e3.mpr q)))] at hQ
    refine X_iconst (v := nI 0) dX12_doesRead_24 (by decide) ?_
    exact X_zret dX12_doesRead_25 rfl (by first | rfl | (simp; done) | decide) ⟨_, rfl, hQ⟩
  · rw [if_pos (Or.inr (e3.mp b17))] at hQ
    refine X_iconst (v := nI 1) dX12_doesRead_20 (by decide) ?_
    refine X_goto (tgt := 25) dX12_doesRead_21 (by decide) ?_
    exact X_zret dX12_doesRead_25 rfl (by first | rfl | (simp; done) | decide) ⟨_, rfl, hQ⟩
set_option maxRecDepth 20000 in
theorem m_clashesOf {Q : Int32 → Mm → Prop} {i : Nat} (hd : 1 ≤ d) (hc : RC I n c) (hv : VC n c) (hi : i < n) (hQ : Q (nI (awt c i)) (NC, I, J, layR sw)) : Y G d zX12_clashesOf [vr 170, vi (nI i)] (NC, I, J, layR sw) 0 0 (qi Q) := by
  have hn := hv.1
  have ht := (hv.2 i hi).1
  have loop : ∀ (m j : Nat), m = i - j → j ≤ i → X G d zX12_clashesOf 4 [(0, vr 170), (1, vi (nI i)), (2, vi (nI (bts (fun j => decide (c j 0 = c i 0 ∨ c j 2 = c i 0 ∨ c j 3 = c i 0)) j))), (3, vi (nI j))] [] (NC, I, J, layR sw) 0 0 (qi Q) := by
    intro m
    induction m with
    | zero =>
      intro j hm hj
      obtain rfl : j = i := by omega
      refine X_iload_n dX12_clashesOf_4 rfl ?_
      refine X_iload_n dX12_clashesOf_5 rfl ?_
      refine X_icmp_ge (tgt := 54) dX12_clashesOf_6 (by decide) (fun b => ?_) (fun b => ?_)
      · refine X_iload_n dX12_clashesOf_54 rfl ?_
        exact X_iret dX12_clashesOf_55 rfl ⟨_, rfl, hQ⟩
      · exact absurd (Int32.le_refl _) b
    | succ m ih =>
      intro j hm hj
      have hjn : j < n := by omega
      have htj := (hv.2 j hjn).1
      have ih := ih (j + 1) (by omega) (by omega)
      have hit : (c j 0 = c i 0 ∨ c j 2 = c i 0 ∨ c j 3 = c i 0) → X G d zX12_clashesOf 39 [(0, vr 170), (1, vi (nI i)), (2, vi (nI (bts (fun j => decide (c j 0 = c i 0 ∨ c j 2 = c i 0 ∨ c j 3 = c i 0)) j))), (3, vi (nI j))] [vi (nI (bts (fun j => decide (c j 0 = c i 0 ∨ c j 2 = c i 0 ∨ c j 3 = c i 0)) j))] (NC, I, J, layR sw) 0 0 (qi Q) := by
        intro h
        rw [bts_t (by simpa using h)] at ih
        refine X_iconst (v := nI 1) dX12_clashesOf_39 (by decide) ?_
        refine X_iload_n dX12_clashesOf_40 rfl ?_
        first | refine X_ishl1 dX12_clashesOf_41 (by omega) ?_ | refine X_ishl dX12_clashesOf_41 ?_
        refine X_goto (tgt := 46) dX12_clashesOf_42 (by decide) ?_
        first | refine X_iorN dX12_clashesOf_46 ?_ | refine X_ior dX12_clashesOf_46 ?_
        refine X_istore_n dX12_clashesOf_47 rfl rfl ?_
        first | refine X_iinc1 dX12_clashesOf_48 rfl rfl rfl ?_ | refine X_iinc dX12_clashesOf_48 rfl rfl rfl rfl ?_
        refine X_goto (tgt := 4) dX12_clashesOf_51 (by decide) ?_
        exact ih
      refine X_iload_n dX12_clashesOf_4 rfl ?_
      refine X_iload_n dX12_clashesOf_5 rfl ?_
      refine X_icmp_ge (tgt := 54) dX12_clashesOf_6 (by decide) (fun b => ?_) (fun b => ?_)
      · exact absurd ((nle (by omega) (by omega)).mp b) (by omega)
      refine X_iload_n dX12_clashesOf_9 rfl ?_
      refine X_aload_n dX12_clashesOf_10 rfl ?_
      refine X_getR dX12_clashesOf_11 gf_X12_13 (by first | assumption | rfl) (by first | assumption | exact Nat.le_of_ble_eq_true rfl | omega) rfl (by first | assumption | rfl) ?_
      refine X_iload_n dX12_clashesOf_14 rfl ?_
      first | refine X_iald dX12_clashesOf_15 (by first | assumption | rfl) (by first | assumption | exact Nat.le_of_ble_eq_true rfl | omega) rfl (by first | decide | omega) (by decide) ?_ | refine X_ildA dX12_clashesOf_15 rfl (by omega) ?_ | refine X_ildM dX12_clashesOf_15 rfl (by omega) ?_ | refine X_sld dX12_clashesOf_15 rfl (by omega) (by omega) ?_
      rw [hc.t hv hjn]
      refine X_aload_n dX12_clashesOf_16 rfl ?_
      refine X_getR dX12_clashesOf_17 gf_X12_13 (by first | assumption | rfl) (by first | assumption | exact Nat.le_of_ble_eq_true rfl | omega) rfl (by first | assumption | rfl) ?_
      refine X_iload_n dX12_clashesOf_20 rfl ?_
      first | refine X_iald dX12_clashesOf_21 (by first | assumption | rfl) (by first | assumption | exact Nat.le_of_ble_eq_true rfl | omega) rfl (by first | decide | omega) (by decide) ?_ | refine X_ildA dX12_clashesOf_21 rfl (by omega) ?_ | refine X_ildM dX12_clashesOf_21 rfl (by omega) ?_ | refine X_sld dX12_clashesOf_21 rfl (by omega) (by omega) ?_
      rw [hc.t hv hi]
      refine X_icmp_eq (tgt := 39) dX12_clashesOf_22 (by decide) (fun b22 => ?_) (fun b22 => ?_)
      · exact hit (Or.inl ((neq (by omega) (by omega)).mp b22))
      have h0 : c j 0 ≠ c i 0 := fun q => b22 (by rw [q])
      refine X_aload_n dX12_clashesOf_25 rfl ?_
      refine X_iload_n dX12_clashesOf_26 rfl ?_
      refine X_aload_n dX12_clashesOf_27 rfl ?_
      refine X_getR dX12_clashesOf_28 gf_X12_13 (by first | assumption | rfl) (by first | assumption | exact Nat.le_of_ble_eq_true rfl | omega) rfl (by first | assumption | rfl) ?_
      refine X_iload_n dX12_clashesOf_31 rfl ?_
      first | refine X_iald dX12_clashesOf_32 (by first | assumption | rfl) (by first | assumption | exact Nat.le_of_ble_eq_true rfl | omega) rfl (by first | decide | omega) (by decide) ?_ | refine X_ildA dX12_clashesOf_32 rfl (by omega) ?_ | refine X_ildM dX12_clashesOf_32 rfl (by omega) ?_ | refine X_sld dX12_clashesOf_32 rfl (by omega) (by omega) ?_
      rw [hc.t hv hi]
      refine X_cVi dX12_clashesOf_33 ck_X12_285 rfl rfl (by first | assumption | rfl) (by first | assumption | exact Nat.le_of_ble_eq_true rfl | omega) (by omega) (Nat.le_of_ble_eq_true rfl) (m_doesRead hc hv hjn ht ?_)
      by_cases hb : c j 2 = c i 0 ∨ c j 3 = c i 0
      · rw [if_pos hb]
        refine X_if_eq (tgt := 45) dX12_clashesOf_36 (by decide) (fun b36 => ?_) (fun b36 => ?_)
        · exact absurd b36 (by decide)
        · exact hit (Or.inr hb)
      · rw [if_neg hb]
        rw [bts_f (by simp [h0]; omega)] at ih
        refine X_if_eq (tgt := 45) dX12_clashesOf_36 (by decide) (fun b36 => ?_) (fun b36 => ?_)
        · refine X_iconst (v := nI 0) dX12_clashesOf_45 (by decide) ?_
          first | refine X_iorN dX12_clashesOf_46 ?_ | refine X_ior dX12_clashesOf_46 ?_
          refine X_istore_n dX12_clashesOf_47 rfl rfl ?_
          first | refine X_iinc1 dX12_clashesOf_48 rfl rfl rfl ?_ | refine X_iinc dX12_clashesOf_48 rfl rfl rfl rfl ?_
          refine X_goto (tgt := 4) dX12_clashesOf_51 (by decide) ?_
          rw [Nat.or_zero]
          exact ih
        · exact absurd rfl b36
  refine Y_of rfl rfl (Nat.le_of_ble_eq_true rfl) rfl ?_
  refine X_iconst (v := nI 0) dX12_clashesOf_0 (by decide) ?_
  refine X_istore_n dX12_clashesOf_1 rfl rfl ?_
  refine X_iconst (v := nI 0) dX12_clashesOf_2 (by decide) ?_
  refine X_istore_n dX12_clashesOf_3 rfl rfl ?_
  exact loop i 0 rfl (Nat.zero_le i)
theorem m_reads {Q : Int32 → Mm → Prop} {i k : Nat} (hd : 3 ≤ d) (hc : RC I n c) (hv : VC n c) (hi : i < n) (hk : k < 2) (hQ : Q (enc (srcv c i (c i (2 + k)))) (NC, I, J, layR sw)) : Y G d zX12_reads [vr 170, vi (nI i), vi (nI k)] (NC, I, J, layR sw) 0 0 (qi Q) := by
  have hn := hv.1
  obtain ⟨c0, c1, c2, c3⟩ := hc.2 i hi
  have tail : ∀ v, v < 200 → Q (enc (srcv c i v)) (NC, I, J, layR sw) → X G d zX12_reads 42 [(0, vr 170), (1, vi (nI i)), (2, vi (nI k))] [vi (enc v)] (NC, I, J, layR sw) 0 0 (qi Q) := by
    intro v hv2 hQ
    refine X_istore_n dX12_reads_42 rfl rfl ?_
    refine X_iload_n dX12_reads_43 rfl ?_
    unfold srcv at hQ
    by_cases h4 : v < 4
    · rw [if_pos h4, enc_n (by have := vlu_lt c i v h4; omega)] at hQ
      rw [enc_n (v := v) (by omega)]
      refine X_cSi dX12_reads_44 ck_X12_218 rfl rfl (by omega) (Nat.le_of_ble_eq_true rfl) (c_isReg_t (by omega) h4 ?_)
      refine X_if_eq (tgt := 59) dX12_reads_47 (by decide) (fun b47 => ?_) (fun b47 => ?_)
      · exact absurd b47 (by decide)
      refine X_aload_n dX12_reads_50 rfl ?_
      refine X_iload_n dX12_reads_51 rfl ?_
      refine X_iload_n dX12_reads_52 rfl ?_
      refine X_cVi dX12_reads_53 ck_X12_327 rfl rfl (by first | assumption | rfl) (by first | assumption | exact Nat.le_of_ble_eq_true rfl | omega) (by omega) (Nat.le_of_ble_eq_true rfl) (m_valueIn (by omega) hc hv (by omega) h4 ?_)
      refine X_goto (tgt := 61) dX12_reads_56 (by decide) ?_
      exact X_iret dX12_reads_61 rfl ⟨_, rfl, hQ⟩
    · rw [if_neg h4] at hQ
      refine X_cSi dX12_reads_44 ck_X12_218 rfl rfl (by omega) (Nat.le_of_ble_eq_true rfl) (c_isReg_f (by omega) (enc_big h4 hv2) ?_)
      refine X_if_eq (tgt := 59) dX12_reads_47 (by decide) (fun b47 => ?_) (fun b47 => ?_)
      · refine X_bipush (v := (-6)) dX12_reads_59 (by decide) ?_
        exact X_iret dX12_reads_61 rfl ⟨_, rfl, hQ⟩
      · exact absurd rfl b47
  refine Y_of rfl rfl (Nat.le_of_ble_eq_true rfl) rfl ?_
  refine X_aload_n dX12_reads_0 rfl ?_
  refine X_iload_n dX12_reads_1 rfl ?_
  refine X_cVi dX12_reads_2 ck_X12_186 rfl rfl (by first | assumption | rfl) (by first | assumption | exact Nat.le_of_ble_eq_true rfl | omega) (by omega) (Nat.le_of_ble_eq_true rfl) (c_isStep_t (by omega) hc.1 hn hi ?_)
  refine X_if_ne (tgt := 10) dX12_reads_5 (by decide) (fun b5 => ?_) (fun b5 => ?_)
  · refine X_iload_n dX12_reads_10 rfl ?_
    refine X_i2l dX12_reads_11 rfl ?_
    refine X_lconst (v := 0) dX12_reads_12 (by decide) ?_
    refine X_lconst (v := 1) dX12_reads_13 (by decide) ?_
    rcases (by omega : k = 0 ∨ k = 1) with rfl | rfl
    · refine X_cSi dX12_reads_14 ck_X12_125 rfl rfl (by omega) (Nat.le_of_ble_eq_true rfl) (c_in_t (lo := nI 0) (hi := nI 1) (by decide) (by decide) (by decide) (by decide) ?_)
      refine X_if_ne (tgt := 23) dX12_reads_17 (by decide) (fun b17 => ?_) (fun b17 => ?_)
      · refine X_iload_n dX12_reads_23 rfl ?_
        refine X_if_ne (tgt := 36) dX12_reads_24 (by decide) (fun b24 => ?_) (fun b24 => ?_)
        · exact absurd rfl b24
        refine X_aload_n dX12_reads_27 rfl ?_
        refine X_getR dX12_reads_28 gf_X12_19 (by first | assumption | rfl) (by first | assumption | exact Nat.le_of_ble_eq_true rfl | omega) rfl (by first | assumption | rfl) ?_
        refine X_iload_n dX12_reads_31 rfl ?_
        first | refine X_iald dX12_reads_32 (by first | assumption | rfl) (by first | assumption | exact Nat.le_of_ble_eq_true rfl | omega) rfl (by first | decide | omega) (by decide) ?_ | refine X_ildA dX12_reads_32 rfl (by omega) ?_ | refine X_ildM dX12_reads_32 rfl (by omega) ?_ | refine X_sld dX12_reads_32 rfl (by omega) (by omega) ?_
        rw [c2]
        refine X_goto (tgt := 42) dX12_reads_33 (by decide) ?_
        exact tail (c i 2) (VS_lt (hv.2 i hi) 2 (by decide)) hQ
      · exact absurd b17 (by decide)
    · refine X_cSi dX12_reads_14 ck_X12_125 rfl rfl (by omega) (Nat.le_of_ble_eq_true rfl) (c_in_t (lo := nI 0) (hi := nI 1) (by decide) (by decide) (by decide) (by decide) ?_)
      refine X_if_ne (tgt := 23) dX12_reads_17 (by decide) (fun b17 => ?_) (fun b17 => ?_)
      · refine X_iload_n dX12_reads_23 rfl ?_
        refine X_if_ne (tgt := 36) dX12_reads_24 (by decide) (fun b24 => ?_) (fun b24 => ?_)
        · refine X_aload_n dX12_reads_36 rfl ?_
          refine X_getR dX12_reads_37 gf_X12_22 (by first | assumption | rfl) (by first | assumption | exact Nat.le_of_ble_eq_true rfl | omega) rfl (by first | assumption | rfl) ?_
          refine X_iload_n dX12_reads_40 rfl ?_
          first | refine X_iald dX12_reads_41 (by first | assumption | rfl) (by first | assumption | exact Nat.le_of_ble_eq_true rfl | omega) rfl (by first | decide | omega) (by decide) ?_ | refine X_ildA dX12_reads_41 rfl (by omega) ?_ | refine X_ildM dX12_reads_41 rfl (by omega) ?_ | refine X_sld dX12_reads_41 rfl (by omega) (by omega) ?_
          rw [c3]
          exact tail (c i 3) (VS_lt (hv.2 i hi) 3 (by decide)) hQ
        · exact absurd b24 (by decide)
      · exact absurd b17 (by decide)
  · exact absurd b5 (by decide)
theorem M_reads {x k : Int32} (hd : 4 ≤ d) (hv : VSt s) (hi : RInv I s) : Y G d zX12_reads [vr 170, vi x, vi k] (NC, I, J, layR sw) 0 0 (qi (PM s (sp_reads s x k) I J sw)) := by
  have hn := hv.2.1.1.1
  unfold sp_reads
  rcases scase hn x with h | ⟨a, ha, rfl⟩
  · rw [if_pos h]
    refine Y_of rfl rfl (Nat.le_of_ble_eq_true rfl) rfl ?_
    refine X_aload_n dX12_reads_0 rfl ?_
    refine X_iload_n dX12_reads_1 rfl ?_
    refine X_cVi dX12_reads_2 ck_X12_186 rfl rfl (by first | assumption | rfl) (by first | assumption | exact Nat.le_of_ble_eq_true rfl | omega) (by omega) (Nat.le_of_ble_eq_true rfl) (c_isStep_f (by omega) hi.2.1.1 hn h ?_)
    refine X_if_ne (tgt := 10) dX12_reads_5 (by decide) (fun b => ?_) (fun b => ?_)
    · exact absurd rfl b
    · refine X_iconst (v := (-1)) dX12_reads_8 (by decide) ?_
      exact X_iret dX12_reads_9 rfl ⟨_, rfl, PM_same hi⟩
  · rw [if_neg (scase_n hn ha), nI_clamp (by omega)]
    by_cases h0 : k = nI 0
    · rw [if_pos h0]
      subst h0
      exact m_reads (k := 0) (by omega) hi.2.1.rc hv.2.1.1 ha (by decide) (PM_same hi)
    · rw [if_neg h0]
      by_cases h1 : k = nI 1
      · rw [if_pos h1]
        subst h1
        exact m_reads (k := 1) (by omega) hi.2.1.rc hv.2.1.1 ha (by decide) (PM_same hi)
      · rw [if_neg h1]
        refine Y_of rfl rfl (Nat.le_of_ble_eq_true rfl) rfl ?_
        refine X_aload_n dX12_reads_0 rfl ?_
        refine X_iload_n dX12_reads_1 rfl ?_
        refine X_cVi dX12_reads_2 ck_X12_186 rfl rfl (by first | assumption | rfl) (by first | assumption | exact Nat.le_of_ble_eq_true rfl | omega) (by omega) (Nat.le_of_ble_eq_true rfl) (c_isStep_t (by omega) hi.2.1.1 hn ha ?_)
        refine X_if_ne (tgt := 10) dX12_reads_5 (by decide) (fun b => ?_) (fun b => ?_)
        · refine X_iload_n dX12_reads_10 rfl ?_
          refine X_i2l dX12_reads_11 rfl ?_
          refine X_lconst (v := 0) dX12_reads_12 (by decide) ?_
          refine X_lconst (v := 1) dX12_reads_13 (by decide) ?_
          refine X_cSi dX12_reads_14 ck_X12_125 rfl rfl (by omega) (Nat.le_of_ble_eq_true rfl) (c_in_f (lo := nI 0) (hi := nI 1) (by decide) (by decide) (fun q => ?_) ?_)
          · rcases icase k 2 (by decide) with h | ⟨b, hb, rfl⟩ | h
            · exact absurd h (le_0.mp q.1)
            · rcases (by omega : b = 0 ∨ b = 1) with rfl | rfl
              · exact h0 rfl
              · exact h1 rfl
            · exact absurd (Int32.lt_of_le_of_lt q.2 (show nI 1 < nI 2 by decide)) (Int32.not_lt.mpr h.2)
          refine X_if_ne (tgt := 23) dX12_reads_17 (by decide) (fun b17 => ?_) (fun b17 => ?_)
          · exact absurd rfl b17
          refine X_bipush (v := (-2)) dX12_reads_20 (by decide) ?_
          exact X_iret dX12_reads_22 rfl ⟨_, rfl, PM_same hi⟩
        · exact absurd b (by decide)
theorem M_behind {x : Int32} (hd : 4 ≤ d) (hv : VSt s) (hi : RInv I s) : Y G d zX12_behind [vr 170, vi x] (NC, I, J, layR sw) 0 0 (qi (PM s (sp_behind s x) I J sw)) := by
  have hn := hv.2.1.1.1
  refine Y_of rfl rfl (Nat.le_of_ble_eq_true rfl) rfl ?_
  unfold sp_behind
  rcases scase hn x with h | ⟨a, ha, rfl⟩
  · rw [if_pos h]
    refine X_aload_n dX12_behind_0 rfl ?_
    refine X_iload_n dX12_behind_1 rfl ?_
    refine X_cVi dX12_behind_2 ck_X12_186 rfl rfl (by first | assumption | rfl) (by first | assumption | exact Nat.le_of_ble_eq_true rfl | omega) (by omega) (Nat.le_of_ble_eq_true rfl) (c_isStep_f (by omega) hi.2.1.1 hn h ?_)
    refine X_if_eq (tgt := 22) dX12_behind_5 (by decide) (fun b => ?_) (fun b => ?_)
    · refine X_iconst (v := (-1)) dX12_behind_22 (by decide) ?_
      exact X_iret dX12_behind_23 rfl ⟨_, rfl, PM_same hi⟩
    · exact absurd rfl b
  · rw [if_neg (scase_n hn ha), nI_clamp (by omega)]
    refine X_aload_n dX12_behind_0 rfl ?_
    refine X_iload_n dX12_behind_1 rfl ?_
    refine X_cVi dX12_behind_2 ck_X12_186 rfl rfl (by first | assumption | rfl) (by first | assumption | exact Nat.le_of_ble_eq_true rfl | omega) (by omega) (Nat.le_of_ble_eq_true rfl) (c_isStep_t (by omega) hi.2.1.1 hn ha ?_)
    refine X_if_eq (tgt := 22) dX12_behind_5 (by decide) (fun b => ?_) (fun b => ?_)
    · exact absurd b (by decide)
    · refine X_aload_n dX12_behind_8 rfl ?_
      refine X_iload_n dX12_behind_9 rfl ?_
      refine X_cVi dX12_behind_10 ck_X12_289 rfl rfl (by first | assumption | rfl) (by first | assumption | exact Nat.le_of_ble_eq_true rfl | omega) (by omega) (Nat.le_of_ble_eq_true rfl) (m_sourcesOf (by omega) hi.2.1.rc hv.2.1.1 ha ?_)
      refine X_aload_n dX12_behind_13 rfl ?_
      refine X_iload_n dX12_behind_14 rfl ?_
      refine X_cVi dX12_behind_15 ck_X12_292 rfl rfl (by first | assumption | rfl) (by first | assumption | exact Nat.le_of_ble_eq_true rfl | omega) (by omega) (Nat.le_of_ble_eq_true rfl) (m_clashesOf (by omega) hi.2.1.rc hv.2.1.1 ha ?_)
      first | refine X_iorN dX12_behind_18 ?_ | refine X_ior dX12_behind_18 ?_
      refine X_goto (tgt := 23) dX12_behind_19 (by decide) ?_
      exact X_iret dX12_behind_23 rfl ⟨_, rfl, PM_same hi⟩
set_option maxRecDepth 20000 in
theorem m_findBehind {Q : Mm → Prop} (hd : 3 ≤ d) (hc : RC I n c) (hv : VC n c) (hQ : ∀ I', FrM [189, 190] [] I I' → (∀ i, i < n → I' 189 i = nI (ned c i) ∧ I' 190 i = nI (awt c i)) → Q (NC, I', J, layR sw)) : Y G d zX12_findBehind [vr 170] (NC, I, J, layR sw) 0 0 (qv Q) := by
  have hn := hv.1
  have loop : ∀ (m i : Nat) (I' : Nat → Nat → Int32), m = n - i → i ≤ n → FrM [189, 190] [] I I' → (∀ j, j < i → I' 189 j = nI (ned c j) ∧ I' 190 j = nI (awt c j)) → X G d zX12_findBehind 2 [(0, vr 170), (1, vi (nI i))] [] (NC, I', J, layR sw) 0 0 (qv Q) := by
    intro m
    induction m with
    | zero =>
      intro i I' hm him hF hj
      have hc' := RC_fm hc hF (by decide) (by decide)
      obtain rfl : i = n := by omega
      refine X_iload_n dX12_findBehind_2 rfl ?_
      refine X_aload_n dX12_findBehind_3 rfl ?_
      refine X_getI dX12_findBehind_4 gf_X12_181 (by first | assumption | rfl) (by first | assumption | exact Nat.le_of_ble_eq_true rfl | omega) rfl ?_
      rw [hc'.1]
      refine X_icmp_ge (tgt := 38) dX12_findBehind_7 (by decide) (fun b => ?_) (fun b => ?_)
      · exact X_vret dX12_findBehind_38 rfl ⟨rfl, hQ I' hF hj⟩
      · exact absurd (Int32.le_refl _) b
    | succ m ih =>
      intro i I' hm him hF hj
      have hc' := RC_fm hc hF (by decide) (by decide)
      have hin : i < n := by omega
      refine X_iload_n dX12_findBehind_2 rfl ?_
      refine X_aload_n dX12_findBehind_3 rfl ?_
      refine X_getI dX12_findBehind_4 gf_X12_181 (by first | assumption | rfl) (by first | assumption | exact Nat.le_of_ble_eq_true rfl | omega) rfl ?_
      rw [hc'.1]
      refine X_icmp_ge (tgt := 38) dX12_findBehind_7 (by decide) (fun b => ?_) (fun b => ?_)
      · exact absurd ((nle (by omega) (by omega)).mp b) (by omega)
      refine X_aload_n dX12_findBehind_10 rfl ?_
      refine X_getR dX12_findBehind_11 gf_X12_65 (by first | assumption | rfl) (by first | assumption | exact Nat.le_of_ble_eq_true rfl | omega) rfl (by first | assumption | rfl) ?_
      refine X_iload_n dX12_findBehind_14 rfl ?_
      refine X_aload_n dX12_findBehind_15 rfl ?_
      refine X_iload_n dX12_findBehind_16 rfl ?_
      refine X_cVi dX12_findBehind_17 ck_X12_289 rfl rfl (by first | assumption | rfl) (by first | assumption | exact Nat.le_of_ble_eq_true rfl | omega) (by omega) (Nat.le_of_ble_eq_true rfl) (m_sourcesOf (by omega) hc' hv hin ?_)
      refine X_iast dX12_findBehind_20 (by first | assumption | rfl) (by first | assumption | exact Nat.le_of_ble_eq_true rfl | omega) rfl (by first | decide | omega) (by decide) ?_
      refine X_aload_n dX12_findBehind_21 rfl ?_
      refine X_getR dX12_findBehind_22 gf_X12_68 (by first | assumption | rfl) (by first | assumption | exact Nat.le_of_ble_eq_true rfl | omega) rfl (by first | assumption | rfl) ?_
      refine X_iload_n dX12_findBehind_25 rfl ?_
      refine X_aload_n dX12_findBehind_26 rfl ?_
      refine X_iload_n dX12_findBehind_27 rfl ?_
      have hc2 : RC (sr I' 189 (up (I' 189) i (nI (ned c i)))) n c := RC_fm (l := [189]) (fl := []) hc' (FrM.c (by simp) (by decide)) (by decide) (by decide)
      refine X_cVi dX12_findBehind_28 ck_X12_292 rfl rfl (by first | assumption | rfl) (by first | assumption | exact Nat.le_of_ble_eq_true rfl | omega) (by omega) (Nat.le_of_ble_eq_true rfl) (m_clashesOf (by omega) hc2 hv hin ?_)
      refine X_iast dX12_findBehind_31 (by first | assumption | rfl) (by first | assumption | exact Nat.le_of_ble_eq_true rfl | omega) rfl (by first | decide | omega) (by decide) ?_
      first | refine X_iinc1 dX12_findBehind_32 rfl rfl rfl ?_ | refine X_iinc dX12_findBehind_32 rfl rfl rfl rfl ?_
      refine X_goto (tgt := 2) dX12_findBehind_35 (by decide) ?_
      refine ih (i + 1) _ (by omega) (by omega) (hF.tr ((FrM.c (by simp) (by decide)).tr (FrM.c (by simp) (by decide)))) (fun j h => ?_)
      rw [sr_ne (show 189 ≠ 190 by decide), sr_eq, sr_eq, sr_ne (show 190 ≠ 189 by decide)]
      by_cases hji : j = i
      · subst hji
        rw [up_eq, up_eq]
        exact ⟨rfl, rfl⟩
      · rw [up_ne hji, up_ne hji]
        exact hj j (by omega)
  refine Y_of rfl rfl (Nat.le_of_ble_eq_true rfl) rfl ?_
  refine X_iconst (v := nI 0) dX12_findBehind_0 (by decide) ?_
  refine X_istore_n dX12_findBehind_1 rfl rfl ?_
  exact loop n 0 I rfl (Nat.zero_le n) FrM.rf (fun j h => absurd h (Nat.not_lt_zero j))
end RL
