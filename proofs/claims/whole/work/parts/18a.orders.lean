/-! how many orders -/
def mayS (c : Nat → Nat → Nat) (S i : Nat) : Bool := !S.testBit i && decide (sdf (ned c i ||| awt c i) S = 0)
def oin (c : Nat → Nat → Nat) (S : Nat) (w : Nat → Int32) : Nat → Nat → Int32
  | 0 => w
  | i + 1 => if 0 < oin c S w i S ∧ mayS c S i = true then up (oin c S w i) (S ||| 2 ^ i) (oin c S w i (S ||| 2 ^ i) + oin c S w i S) else oin c S w i
def owt (c : Nat → Nat → Nat) (n : Nat) : Nat → Nat → Int32
  | 0 => fun S => if S = 0 then 1 else 0
  | S + 1 => oin c S (owt c n S) n
theorem oin_t {c : Nat → Nat → Nat} {S i : Nat} {w : Nat → Int32} (h : 0 < oin c S w i S) (h2 : mayS c S i = true) : oin c S w (i + 1) = up (oin c S w i) (S ||| 2 ^ i) (oin c S w i (S ||| 2 ^ i) + oin c S w i S) := if_pos ⟨h, h2⟩
theorem oin_f {c : Nat → Nat → Nat} {S i : Nat} {w : Nat → Int32} (h : ¬ mayS c S i = true) : oin c S w (i + 1) = oin c S w i := if_neg (fun q => h q.2)
theorem oin_z {c : Nat → Nat → Nat} {S i : Nat} {w : Nat → Int32} (h : ¬ 0 < oin c S w i S) : ∀ k, oin c S w (i + k) = oin c S w i
  | 0 => rfl
  | k + 1 => by
    have ih := oin_z h k
    show (if 0 < oin c S w (i + k) S ∧ mayS c S (i + k) = true then _ else oin c S w (i + k)) = _
    rw [if_neg (by rw [ih]; exact fun q => h q.1), ih]
theorem oin_full {c : Nat → Nat → Nat} {S : Nat} {w : Nat → Int32} : ∀ n, (∀ i, i < n → S.testBit i = true) → oin c S w n = w
  | 0, _ => rfl
  | n + 1, h => by
    rw [oin_f (by simp [mayS, h n (Nat.lt_succ_self n)])]
    exact oin_full n (fun i hi => h i (by omega))
theorem full_bit {n i : Nat} (h : i < n) : (2 ^ n - 1).testBit i = true := by
  rw [Nat.testBit_two_pow_sub_one]; simpa using h
theorem mayS_iff {c : Nat → Nat → Nat} {S i : Nat} : mayS c S i = true ↔ (S.testBit i = false ∧ sdf (ned c i ||| awt c i) S = 0) := by
  unfold mayS
  rw [Bool.and_eq_true, decide_eq_true_iff]
  cases S.testBit i <;> simp
def sp_orders (s : SS) : Int32 := owt (dC s.2.1).2 (dC s.2.1).1 (2 ^ (dC s.2.1).1 - 1) (2 ^ (dC s.2.1).1 - 1)
section CO
variable {G : GG} {d : Nat} {sw : Bool} {I : Nat → Nat → Int32} {J : Nat → Nat → Int64} {s : SS} {n W : Nat} {c : Nat → Nat → Nat}
theorem LK_fr {I' : Nat → Nat → Int32} {l : List Nat} (h : LK I n c) (hF : Fr l I I') (hl : ∀ k, 122 ≤ k → k ≤ 127 → k ∉ l) : LK I' n c := by
  unfold LK
  rw [hF 122 (hl _ (by omega) (by omega)), hF 123 (hl _ (by omega) (by omega)), hF 124 (hl _ (by omega) (by omega)), hF 125 (hl _ (by omega) (by omega)), hF 126 (hl _ (by omega) (by omega)), hF 127 (hl _ (by omega) (by omega))]
  exact h
theorem pow4096 {n : Nat} (h : n ≤ 12) : 2 ^ n ≤ 4096 := Nat.pow_le_pow_right (n := 2) (by decide) h
theorem sdf0 {a b : Nat} (h : a < 4096) : nI (sdf a b) = 0 ↔ sdf a b = 0 := neq (b := 0) (by have := sdf_le a b; omega) (by decide)
theorem na_lt (c : Nat → Nat → Nat) {i : Nat} (h : i < 12) : ned c i ||| awt c i < 4096 := Nat.lt_of_lt_of_le (Nat.or_lt_two_pow (ned_lt c i) (awt_lt c i)) (pow4096 (by omega))
set_option maxRecDepth 20000 in
theorem c_countOrders {Q : Int32 → Mm → Prop} (hd : 1 ≤ d) (hn : n ≤ 12) (hL : LK I n c) (hQ : ∀ I', Fr [129] I I' → Q (owt c n (2 ^ n - 1) (2 ^ n - 1)) (NC, I', J, layR sw)) : Y G d zX0_countOrders [vr 128, vr 121, vi (nI n)] (NC, I, J, layR sw) 0 0 (qi Q) := by
  have hp := Nat.two_pow_pos n
  have hp2 := pow4096 hn
  have inner : ∀ (S : Nat), S < 2 ^ n - 1 → (∀ I', Fr [129] I I' → (∀ q, q < 2 ^ n → I' 129 q = owt c n (S + 1) q) → X G d zX0_countOrders 24 [(0, vr 128), (1, vr 121), (2, vi (nI n)), (3, vi (nI (2 ^ n - 1))), (4, vi (nI (S + 1)))] [] (NC, I', J, layR sw) 0 0 (qi Q)) → ∀ (m i : Nat) (I' : Nat → Nat → Int32), m = n - i → i ≤ n → Fr [129] I I' → (∀ q, q < 2 ^ n → I' 129 q = oin c S (owt c n S) i q) → X G d zX0_countOrders 33 [(0, vr 128), (1, vr 121), (2, vi (nI n)), (3, vi (nI (2 ^ n - 1))), (4, vi (nI S)), (5, vi (nI i))] [] (NC, I', J, layR sw) 0 0 (qi Q) := by
    intro S hS go m
    have out : ∀ (i : Nat) (I' : Nat → Nat → Int32) (L2), Fr [129] I I' → (∀ q, q < 2 ^ n → I' 129 q = owt c n (S + 1) q) → X G d zX0_countOrders 113 ([(0, vr 128), (1, vr 121), (2, vi (nI n)), (3, vi (nI (2 ^ n - 1))), (4, vi (nI S))] ++ L2) [] (NC, I', J, layR sw) 0 0 (qi Q) := by
      intro i I' L2 hF hw
      refine weak (lv' := [(0, vr 128), (1, vr 121), (2, vi (nI n)), (3, vi (nI (2 ^ n - 1))), (4, vi (nI S))]) (fun q hq => List.mem_append_left _ hq) ?_
      first | refine X_iinc1 dX0_countOrders_113 rfl rfl rfl ?_ | refine X_iinc dX0_countOrders_113 rfl rfl rfl rfl ?_
      refine X_goto (tgt := 24) dX0_countOrders_116 (by decide) ?_
      exact go I' hF hw
    induction m with
    | zero =>
      intro i I' hm hi hF hw
      obtain rfl : i = n := by omega
      refine X_iload dX0_countOrders_33 rfl ?_
      refine X_iload_n dX0_countOrders_35 rfl ?_
      refine X_icmp_ge (tgt := 113) dX0_countOrders_36 (by decide) (fun b => ?_) (fun b => ?_)
      · exact out i I' [(5, vi (nI i))] hF hw
      · exact absurd (Int32.le_refl _) b
    | succ m ih =>
      intro i I' hm hi hF hw
      have hin : i < n := by omega
      have hL' := LK_fr hL hF (fun k a b => by simp; omega)
      refine X_iload dX0_countOrders_33 rfl ?_
      refine X_iload_n dX0_countOrders_35 rfl ?_
      refine X_icmp_ge (tgt := 113) dX0_countOrders_36 (by decide) (fun b => ?_) (fun b => ?_)
      · exact absurd ((nle (by omega) (by omega)).mp b) (by omega)
      refine X_aload_n dX0_countOrders_39 rfl ?_
      refine X_getR dX0_countOrders_40 gf_X0_9 (by first | assumption | rfl) (by first | assumption | exact Nat.le_of_ble_eq_true rfl | omega) rfl (by first | assumption | rfl) ?_
      refine X_iload dX0_countOrders_43 rfl ?_
      first | refine X_iald dX0_countOrders_45 (by first | assumption | rfl) (by first | assumption | exact Nat.le_of_ble_eq_true rfl | omega) rfl (by first | decide | omega) (by decide) ?_ | refine X_ildA dX0_countOrders_45 rfl (by omega) ?_ | refine X_ildM dX0_countOrders_45 rfl (by omega) ?_ | refine X_sld dX0_countOrders_45 rfl (by omega) (by omega) ?_
      rw [hw S (by omega)]
      refine X_if_le (tgt := 113) dX0_countOrders_46 (by decide) (fun b46 => ?_) (fun b46 => ?_)
      · have hz : ¬ 0 < oin c S (owt c n S) i S := Int32.not_lt.mpr b46
        refine out i I' [(5, vi (nI i))] hF (fun q hq => ?_)
        rw [hw q hq]
        show _ = oin c S (owt c n S) n q
        rw [show n = i + (n - i) by omega, oin_z (by rw [show i + (n - i) = n by omega]; exact hz), show i + (n - i) = n by omega]
      have hpos : 0 < oin c S (owt c n S) i S := Int32.not_le.mp b46
      have no : ¬ mayS c S i = true → ∀ x, X G d zX0_countOrders 107 [(0, vr 128), (1, vr 121), (2, vi (nI n)), (3, vi (nI (2 ^ n - 1))), (4, vi (nI S)), (5, vi (nI i)), (6, x)] [] (NC, I', J, layR sw) 0 0 (qi Q) := by
        intro hm2 x
        first | refine X_iinc1 dX0_countOrders_107 rfl rfl rfl ?_ | refine X_iinc dX0_countOrders_107 rfl rfl rfl rfl ?_
        refine X_goto (tgt := 33) dX0_countOrders_110 (by decide) ?_
        refine weak (lv' := [(0, vr 128), (1, vr 121), (2, vi (nI n)), (3, vi (nI (2 ^ n - 1))), (4, vi (nI S)), (5, vi (nI (i + 1)))]) (fun q hq => List.mem_append_left _ hq) ?_
        exact ih (i + 1) I' (by omega) (by omega) hF (fun q hq => by rw [oin_f hm2]; exact hw q hq)
      refine X_iload dX0_countOrders_49 rfl ?_
      refine X_iload dX0_countOrders_51 rfl ?_
      first | refine X_ishrN dX0_countOrders_53 (by omega) (by omega) ?_ | refine X_ishr dX0_countOrders_53 ?_
      refine X_iconst (v := nI 1) dX0_countOrders_54 (by decide) ?_
      first | refine X_iandN dX0_countOrders_55 ?_ | refine X_iandC dX0_countOrders_55 ?_ | refine X_iand dX0_countOrders_55 ?_
      rw [Nat.and_one_is_mod, bit_mod]
      by_cases hb : S.testBit i = true
      · rw [if_pos hb]
        refine X_if_ne (tgt := 77) dX0_countOrders_56 (by decide) (fun b56 => ?_) (fun b56 => ?_)
        · refine X_iconst (v := nI 0) dX0_countOrders_77 (by decide) ?_
          refine X_istore dX0_countOrders_78 rfl rfl ?_
          refine X_iload dX0_countOrders_80 rfl ?_
          refine X_if_eq (tgt := 107) dX0_countOrders_82 (by decide) (fun b82 => ?_) (fun b82 => ?_)
          · exact no (fun q => by rw [(mayS_iff.mp q).1] at hb; exact absurd hb (by decide)) _
          · exact absurd rfl b82
        · exact absurd b56 (by decide)
      · rw [if_neg hb]
        refine X_if_ne (tgt := 77) dX0_countOrders_56 (by decide) (fun b56 => ?_) (fun b56 => ?_)
        · exact absurd rfl b56
        refine X_aload_n dX0_countOrders_59 rfl ?_
        refine X_iload dX0_countOrders_60 rfl ?_
        refine X_cVi dX0_countOrders_62 ck_X0_39 rfl rfl (by first | assumption | rfl) (by first | assumption | exact Nat.le_of_ble_eq_true rfl | omega) (by omega) (Nat.le_of_ble_eq_true rfl) (c_mustFollow hn hin hL' ?_)
        refine X_iload dX0_countOrders_65 rfl ?_
        refine X_iconst (v := (-1)) dX0_countOrders_67 (by decide) ?_
        refine X_ixor dX0_countOrders_68 ?_
        first | refine X_iandN dX0_countOrders_69 ?_ | refine X_iandC dX0_countOrders_69 ?_ | refine X_iand dX0_countOrders_69 ?_
        have hna := na_lt c (show i < 12 by omega)
        by_cases hz : sdf (ned c i ||| awt c i) S = 0
        · have hm2 : mayS c S i = true := mayS_iff.mpr ⟨by simpa using hb, hz⟩
          refine X_if_ne (tgt := 77) dX0_countOrders_70 (by decide) (fun b70 => ?_) (fun b70 => ?_)
          · exact absurd ((sdf0 hna).mpr hz) b70
          refine X_iconst (v := nI 1) dX0_countOrders_73 (by decide) ?_
          refine X_goto (tgt := 78) dX0_countOrders_74 (by decide) ?_
          refine X_istore dX0_countOrders_78 rfl rfl ?_
          refine X_iload dX0_countOrders_80 rfl ?_
          refine X_if_eq (tgt := 107) dX0_countOrders_82 (by decide) (fun b82 => ?_) (fun b82 => ?_)
          · exact absurd b82 (by decide)
          have hlt : S ||| 2 ^ i < 2 ^ n := Nat.or_lt_two_pow (by omega) (Nat.pow_lt_pow_right (by decide) hin)
          have hlt2 : S ||| 2 ^ i < 4096 := by omega
          refine X_aload_n dX0_countOrders_85 rfl ?_
          refine X_getR dX0_countOrders_86 gf_X0_9 (by first | assumption | rfl) (by first | assumption | exact Nat.le_of_ble_eq_true rfl | omega) rfl (by first | assumption | rfl) ?_
          refine X_iload dX0_countOrders_89 rfl ?_
          refine X_iconst (v := nI 1) dX0_countOrders_91 (by decide) ?_
          refine X_iload dX0_countOrders_92 rfl ?_
          first | refine X_ishl1 dX0_countOrders_94 (by omega) ?_ | refine X_ishl dX0_countOrders_94 ?_
          first | refine X_iorN dX0_countOrders_95 ?_ | refine X_ior dX0_countOrders_95 ?_
          refine X_dup2 dX0_countOrders_96 rfl rfl ?_
          first | refine X_iald dX0_countOrders_97 (by first | assumption | rfl) (by first | assumption | exact Nat.le_of_ble_eq_true rfl | omega) rfl (by first | decide | omega) (by decide) ?_ | refine X_ildA dX0_countOrders_97 rfl (by omega) ?_ | refine X_ildM dX0_countOrders_97 rfl (by omega) ?_ | refine X_sld dX0_countOrders_97 rfl (by omega) (by omega) ?_
          rw [hw _ hlt]
          refine X_aload_n dX0_countOrders_98 rfl ?_
          refine X_getR dX0_countOrders_99 gf_X0_9 (by first | assumption | rfl) (by first | assumption | exact Nat.le_of_ble_eq_true rfl | omega) rfl (by first | assumption | rfl) ?_
          refine X_iload dX0_countOrders_102 rfl ?_
          first | refine X_iald dX0_countOrders_104 (by first | assumption | rfl) (by first | assumption | exact Nat.le_of_ble_eq_true rfl | omega) rfl (by first | decide | omega) (by decide) ?_ | refine X_ildA dX0_countOrders_104 rfl (by omega) ?_ | refine X_ildM dX0_countOrders_104 rfl (by omega) ?_ | refine X_sld dX0_countOrders_104 rfl (by omega) (by omega) ?_
          rw [hw S (by omega)]
          refine X_iadd dX0_countOrders_105 ?_
          refine X_iast dX0_countOrders_106 (by first | assumption | rfl) (by first | assumption | exact Nat.le_of_ble_eq_true rfl | omega) rfl (by first | decide | omega) (by decide) ?_
          first | refine X_iinc1 dX0_countOrders_107 rfl rfl rfl ?_ | refine X_iinc dX0_countOrders_107 rfl rfl rfl rfl ?_
          refine X_goto (tgt := 33) dX0_countOrders_110 (by decide) ?_
          refine weak (lv' := [(0, vr 128), (1, vr 121), (2, vi (nI n)), (3, vi (nI (2 ^ n - 1))), (4, vi (nI S)), (5, vi (nI (i + 1)))]) (fun q hq => List.mem_append_left _ hq) ?_
          refine ih (i + 1) _ (by omega) (by omega) (hF.tr (Fr.sr (by simp))) (fun q hq => ?_)
          rw [sr_eq, oin_t hpos hm2]
          by_cases hqs : q = S ||| 2 ^ i
          · rw [hqs, up_eq, up_eq]
          · rw [up_ne hqs, up_ne hqs]; exact hw q hq
        · refine X_if_ne (tgt := 77) dX0_countOrders_70 (by decide) (fun b70 => ?_) (fun b70 => ?_)
          · refine X_iconst (v := nI 0) dX0_countOrders_77 (by decide) ?_
            refine X_istore dX0_countOrders_78 rfl rfl ?_
            refine X_iload dX0_countOrders_80 rfl ?_
            refine X_if_eq (tgt := 107) dX0_countOrders_82 (by decide) (fun b82 => ?_) (fun b82 => ?_)
            · exact no (fun q => hz (mayS_iff.mp q).2) _
            · exact absurd rfl b82
          · exact absurd ((sdf0 hna).mp b70) hz
  have loop : ∀ (m S : Nat) (I' : Nat → Nat → Int32), m = 2 ^ n - 1 - S → S ≤ 2 ^ n - 1 → Fr [129] I I' → (∀ q, q < 2 ^ n → I' 129 q = owt c n S q) → X G d zX0_countOrders 24 [(0, vr 128), (1, vr 121), (2, vi (nI n)), (3, vi (nI (2 ^ n - 1))), (4, vi (nI S))] [] (NC, I', J, layR sw) 0 0 (qi Q) := by
    intro m
    induction m with
    | zero =>
      intro S I' hm hS hF hw
      obtain rfl : S = 2 ^ n - 1 := by omega
      refine X_iload dX0_countOrders_24 rfl ?_
      refine X_iload_n dX0_countOrders_26 rfl ?_
      refine X_icmp_ge (tgt := 119) dX0_countOrders_27 (by decide) (fun b => ?_) (fun b => ?_)
      · refine X_aload_n dX0_countOrders_119 rfl ?_
        refine X_getR dX0_countOrders_120 gf_X0_9 (by first | assumption | rfl) (by first | assumption | exact Nat.le_of_ble_eq_true rfl | omega) rfl (by first | assumption | rfl) ?_
        refine X_iload_n dX0_countOrders_123 rfl ?_
        first | refine X_iald dX0_countOrders_124 (by first | assumption | rfl) (by first | assumption | exact Nat.le_of_ble_eq_true rfl | omega) rfl (by first | decide | omega) (by decide) ?_ | refine X_ildA dX0_countOrders_124 rfl (by omega) ?_ | refine X_ildM dX0_countOrders_124 rfl (by omega) ?_ | refine X_sld dX0_countOrders_124 rfl (by omega) (by omega) ?_
        rw [hw _ (by omega)]
        exact X_iret dX0_countOrders_125 rfl ⟨_, rfl, hQ I' hF⟩
      · exact absurd (Int32.le_refl _) b
    | succ m ih =>
      intro S I' hm hS hF hw
      refine X_iload dX0_countOrders_24 rfl ?_
      refine X_iload_n dX0_countOrders_26 rfl ?_
      refine X_icmp_ge (tgt := 119) dX0_countOrders_27 (by decide) (fun b => ?_) (fun b => ?_)
      · exact absurd ((nle (by omega) (by omega)).mp b) (by omega)
      refine X_iconst (v := nI 0) dX0_countOrders_30 (by decide) ?_
      refine X_istore dX0_countOrders_31 rfl rfl ?_
      exact inner S (by omega) (fun I2 f2 w2 => ih (S + 1) I2 (by omega) (by omega) f2 w2) n 0 I' rfl (Nat.zero_le n) hF hw
  refine Y_of rfl rfl (Nat.le_of_ble_eq_true rfl) rfl ?_
  refine X_iconst (v := nI 1) dX0_countOrders_0 (by decide) ?_
  refine X_iload_n dX0_countOrders_1 rfl ?_
  refine X_ishl1 dX0_countOrders_2 (by omega) ?_
  refine X_iconst (v := nI 1) dX0_countOrders_3 (by decide) ?_
  first | refine X_isubN dX0_countOrders_4 (by omega) ?_ | refine X_isub dX0_countOrders_4 ?_
  refine X_istore_n dX0_countOrders_5 rfl rfl ?_
  refine X_aload_n dX0_countOrders_6 rfl ?_
  refine X_getR dX0_countOrders_7 gf_X0_9 (by first | assumption | rfl) (by first | assumption | exact Nat.le_of_ble_eq_true rfl | omega) rfl (by first | assumption | rfl) ?_
  refine X_iconst (v := nI 0) dX0_countOrders_10 (by decide) ?_
  refine X_cSv dX0_countOrders_11 ck_X0_33 rfl rfl (by omega) (Nat.le_of_ble_eq_true rfl) (c_fill rfl (by decide) (by decide) (fun I1 f1 e1 => ?_))
  refine X_aload_n dX0_countOrders_14 rfl ?_
  refine X_getR dX0_countOrders_15 gf_X0_9 (by first | assumption | rfl) (by first | assumption | exact Nat.le_of_ble_eq_true rfl | omega) rfl (by first | assumption | rfl) ?_
  refine X_iconst (v := nI 0) dX0_countOrders_18 (by decide) ?_
  refine X_iconst (v := nI 1) dX0_countOrders_19 (by decide) ?_
  refine X_iast dX0_countOrders_20 (by first | assumption | rfl) (by first | assumption | exact Nat.le_of_ble_eq_true rfl | omega) rfl (by first | decide | omega) (by decide) ?_
  refine X_iconst (v := nI 0) dX0_countOrders_21 (by decide) ?_
  refine X_istore dX0_countOrders_22 rfl rfl ?_
  refine loop (2 ^ n - 1) 0 _ rfl (Nat.zero_le _) (f1.tr (Fr.sr (by simp))) (fun q hq => ?_)
  rw [sr_eq]
  show _ = if q = 0 then 1 else 0
  by_cases h : q = 0
  · rw [h, up_eq]; rfl
  · rw [up_ne h, if_neg h, e1 q (by omega)]; rfl
set_option maxRecDepth 20000 in
theorem C_orders (hd : 5 ≤ d) (hv : VSt s) (hi : CInv I s) : Y G d zX11_orders [vr 0] (NC, I, J, layR sw) 0 0 (qi (PC s (sp_orders s) I J)) := by
  have hn := hv.2.1.1.1
  refine Y_of rfl rfl (Nat.le_of_ble_eq_true rfl) rfl ?_
  refine X_aload_n dX11_orders_0 rfl ?_
  refine X_getR dX11_orders_1 gf_X11_48 (by first | assumption | rfl) (by first | assumption | exact Nat.le_of_ble_eq_true rfl | omega) rfl (by first | assumption | rfl) ?_
  refine X_aload_n dX11_orders_4 rfl ?_
  refine X_getR dX11_orders_5 gf_X11_19 (by first | assumption | rfl) (by first | assumption | exact Nat.le_of_ble_eq_true rfl | omega) rfl (by first | assumption | rfl) ?_
  refine X_getR dX11_orders_8 gf_X11_106 (by first | assumption | rfl) (by first | assumption | exact Nat.le_of_ble_eq_true rfl | omega) rfl (by first | assumption | rfl) ?_
  refine X_cVv dX11_orders_11 ck_X11_184 rfl rfl (by first | assumption | rfl) (by first | assumption | exact Nat.le_of_ble_eq_true rfl | omega) (by omega) (Nat.le_of_ble_eq_true rfl) (c_follow (by omega) hi.2.1.1 hv.2.1.1 (fun I1 f1 hL => ?_))
  refine X_aload_n dX11_orders_14 rfl ?_
  refine X_getR dX11_orders_15 gf_X11_55 (by first | assumption | rfl) (by first | assumption | exact Nat.le_of_ble_eq_true rfl | omega) rfl (by first | assumption | rfl) ?_
  refine X_aload_n dX11_orders_18 rfl ?_
  refine X_getR dX11_orders_19 gf_X11_48 (by first | assumption | rfl) (by first | assumption | exact Nat.le_of_ble_eq_true rfl | omega) rfl (by first | assumption | rfl) ?_
  refine X_aload_n dX11_orders_22 rfl ?_
  refine X_getR dX11_orders_23 gf_X11_19 (by first | assumption | rfl) (by first | assumption | exact Nat.le_of_ble_eq_true rfl | omega) rfl (by first | assumption | rfl) ?_
  refine X_getR dX11_orders_26 gf_X11_106 (by first | assumption | rfl) (by first | assumption | exact Nat.le_of_ble_eq_true rfl | omega) rfl (by first | assumption | rfl) ?_
  refine X_getI dX11_orders_29 gf_X11_116 (by first | assumption | rfl) (by first | assumption | exact Nat.le_of_ble_eq_true rfl | omega) rfl ?_
  rw [show I1 8 1 = nI (dC s.2.1).1 by rw [f1 8 (by simp)]; exact hi.2.1.1.1]
  refine X_cVi dX11_orders_32 ck_X11_190 rfl rfl (by first | assumption | rfl) (by first | assumption | exact Nat.le_of_ble_eq_true rfl | omega) (by omega) (Nat.le_of_ble_eq_true rfl) (c_countOrders (by omega) hn hL (fun I2 f2 => ?_))
  exact X_iret dX11_orders_35 rfl ⟨_, rfl, PC_scr hi hv [122, 123, 124, 125, 126, 127, 129] ((f1.sub (by simp)).tr (f2.sub (by simp))) (by decide)⟩
set_option maxRecDepth 20000 in
theorem M_orders (hd : 4 ≤ d) (hv : VSt s) (hi : RInv I s) : Y G d zX12_orders [vr 170] (NC, I, J, layR sw) 0 0 (qi (PM s (sp_orders s) I J sw)) := by
  obtain ⟨n, hne⟩ : ∃ n, n = (dC s.2.1).1 := ⟨_, rfl⟩
  obtain ⟨c, hce⟩ : ∃ c, c = (dC s.2.1).2 := ⟨_, rfl⟩
  have hvc : VC n c := by rw [hne, hce]; exact hv.2.1.1
  have hc : RC I n c := by rw [hne, hce]; exact hi.2.1.rc
  have hn := hvc.1
  unfold sp_orders
  rw [← hne, ← hce]
  have hp := Nat.two_pow_pos n
  have hp2 := pow4096 hn
  refine Y_of rfl rfl (Nat.le_of_ble_eq_true rfl) rfl ?_
  refine X_aload_n dX12_orders_0 rfl ?_
  refine X_cVv dX12_orders_1 ck_X12_295 rfl rfl (by first | assumption | rfl) (by first | assumption | exact Nat.le_of_ble_eq_true rfl | omega) (by omega) (Nat.le_of_ble_eq_true rfl) (m_findBehind (by omega) hc hvc (fun I1 f1 hB => ?_))
  have hc1 := RC_fm hc f1 (by decide) (by decide)
  refine X_iconst (v := nI 1) dX12_orders_4 (by decide) ?_
  refine X_aload_n dX12_orders_5 rfl ?_
  refine X_getI dX12_orders_6 gf_X12_181 (by first | assumption | rfl) (by first | assumption | exact Nat.le_of_ble_eq_true rfl | omega) rfl ?_
  rw [hc1.1]
  refine X_ishl1 dX12_orders_9 (by omega) ?_
  refine X_istore_n dX12_orders_10 rfl rfl ?_
  refine X_iconst (v := nI 0) dX12_orders_11 (by decide) ?_
  refine X_istore_n dX12_orders_12 rfl rfl ?_
  have inner : ∀ (S : Nat), S < 2 ^ n → (∀ I', FrM [191] [] I1 I' → (∀ q, q < 2 ^ n → I' 191 q = owt c n (S + 1) q) → X G d zX12_orders 41 [(0, vr 170), (1, vi (nI (2 ^ n))), (2, vi (nI (S + 1)))] [] (NC, I', J, layR sw) 0 0 (qi (PM s (owt c n (2 ^ n - 1) (2 ^ n - 1)) I J sw))) → ∀ (m i : Nat) (I' : Nat → Nat → Int32), m = n - i → i ≤ n → FrM [191] [] I1 I' → (∀ q, q < 2 ^ n → I' 191 q = oin c S (owt c n S) i q) → X G d zX12_orders 48 [(0, vr 170), (1, vi (nI (2 ^ n))), (2, vi (nI S)), (3, vi (nI i))] [] (NC, I', J, layR sw) 0 0 (qi (PM s (owt c n (2 ^ n - 1) (2 ^ n - 1)) I J sw)) := by
    intro S hS go m
    have out : ∀ (i : Nat) (I' : Nat → Nat → Int32), FrM [191] [] I1 I' → (∀ q, q < 2 ^ n → I' 191 q = owt c n (S + 1) q) → X G d zX12_orders 134 [(0, vr 170), (1, vi (nI (2 ^ n))), (2, vi (nI S)), (3, vi (nI i))] [] (NC, I', J, layR sw) 0 0 (qi (PM s (owt c n (2 ^ n - 1) (2 ^ n - 1)) I J sw)) := by
      intro i I' hF hw
      first | refine X_iinc1 dX12_orders_134 rfl rfl rfl ?_ | refine X_iinc dX12_orders_134 rfl rfl rfl rfl ?_
      refine X_goto (tgt := 41) dX12_orders_137 (by decide) ?_
      refine weak (lv' := [(0, vr 170), (1, vi (nI (2 ^ n))), (2, vi (nI (S + 1)))]) (fun q hq => List.mem_append_left _ hq) ?_
      exact go I' hF hw
    induction m with
    | zero =>
      intro i I' hm hi2 hF hw
      have hc' := RC_fm hc1 hF (by decide) (by decide)
      obtain rfl : i = n := by omega
      refine X_iload_n dX12_orders_48 rfl ?_
      refine X_aload_n dX12_orders_49 rfl ?_
      refine X_getI dX12_orders_50 gf_X12_181 (by first | assumption | rfl) (by first | assumption | exact Nat.le_of_ble_eq_true rfl | omega) rfl ?_
      rw [hc'.1]
      refine X_icmp_ge (tgt := 134) dX12_orders_53 (by decide) (fun b => ?_) (fun b => ?_)
      · exact out i I' hF hw
      · exact absurd (Int32.le_refl _) b
    | succ m ih =>
      intro i I' hm hi2 hF hw
      have hc' := RC_fm hc1 hF (by decide) (by decide)
      have hin : i < n := by omega
      have b1 : I' 189 i = nI (ned c i) := by rw [hF.1 189 (by decide) (by decide)]; exact (hB i hin).1
      have b2 : I' 190 i = nI (awt c i) := by rw [hF.1 190 (by decide) (by decide)]; exact (hB i hin).2
      have hlt : S ||| 2 ^ i < 2 ^ n := Nat.or_lt_two_pow (by omega) (Nat.pow_lt_pow_right (by decide) hin)
      have hlt2 : S ||| 2 ^ i < 4096 := by omega
      refine X_iload_n dX12_orders_48 rfl ?_
      refine X_aload_n dX12_orders_49 rfl ?_
      refine X_getI dX12_orders_50 gf_X12_181 (by first | assumption | rfl) (by first | assumption | exact Nat.le_of_ble_eq_true rfl | omega) rfl ?_
      rw [hc'.1]
      refine X_icmp_ge (tgt := 134) dX12_orders_53 (by decide) (fun b => ?_) (fun b => ?_)
      · exact absurd ((nle (by omega) (by omega)).mp b) (by omega)
      refine X_aload_n dX12_orders_56 rfl ?_
      refine X_getR dX12_orders_57 gf_X12_71 (by first | assumption | rfl) (by first | assumption | exact Nat.le_of_ble_eq_true rfl | omega) rfl (by first | assumption | rfl) ?_
      refine X_iload_n dX12_orders_60 rfl ?_
      first | refine X_iald dX12_orders_61 (by first | assumption | rfl) (by first | assumption | exact Nat.le_of_ble_eq_true rfl | omega) rfl (by first | decide | omega) (by decide) ?_ | refine X_ildA dX12_orders_61 rfl (by omega) ?_ | refine X_ildM dX12_orders_61 rfl (by omega) ?_ | refine X_sld dX12_orders_61 rfl (by omega) (by omega) ?_
      rw [hw S (by omega)]
      refine X_if_le (tgt := 134) dX12_orders_62 (by decide) (fun b62 => ?_) (fun b62 => ?_)
      · have hz : ¬ 0 < oin c S (owt c n S) i S := Int32.not_lt.mpr b62
        refine out i I' hF (fun q hq => ?_)
        rw [hw q hq]
        show _ = oin c S (owt c n S) n q
        rw [show n = i + (n - i) by omega, oin_z (by rw [show i + (n - i) = n by omega]; exact hz), show i + (n - i) = n by omega]
      have hpos : 0 < oin c S (owt c n S) i S := Int32.not_le.mp b62
      have no : ¬ mayS c S i = true → X G d zX12_orders 98 [(0, vr 170), (1, vi (nI (2 ^ n))), (2, vi (nI S)), (3, vi (nI i))] [vi (nI 0)] (NC, I', J, layR sw) 0 0 (qi (PM s (owt c n (2 ^ n - 1) (2 ^ n - 1)) I J sw)) := by
        intro hm2
        refine X_istore dX12_orders_98 rfl rfl ?_
        refine X_aload_n dX12_orders_100 rfl ?_
        refine X_getR dX12_orders_101 gf_X12_71 (by first | assumption | rfl) (by first | assumption | exact Nat.le_of_ble_eq_true rfl | omega) rfl (by first | assumption | rfl) ?_
        refine X_iload_n dX12_orders_104 rfl ?_
        refine X_iconst (v := nI 1) dX12_orders_105 (by decide) ?_
        refine X_iload_n dX12_orders_106 rfl ?_
        first | refine X_ishl1 dX12_orders_107 (by omega) ?_ | refine X_ishl dX12_orders_107 ?_
        first | refine X_iorN dX12_orders_108 ?_ | refine X_ior dX12_orders_108 ?_
        refine X_dup2 dX12_orders_109 rfl rfl ?_
        first | refine X_iald dX12_orders_110 (by first | assumption | rfl) (by first | assumption | exact Nat.le_of_ble_eq_true rfl | omega) rfl (by first | decide | omega) (by decide) ?_ | refine X_ildA dX12_orders_110 rfl (by omega) ?_ | refine X_ildM dX12_orders_110 rfl (by omega) ?_ | refine X_sld dX12_orders_110 rfl (by omega) (by omega) ?_
        rw [hw _ hlt]
        refine X_iload dX12_orders_111 rfl ?_
        refine X_if_eq (tgt := 125) dX12_orders_113 (by decide) (fun b113 => ?_) (fun b113 => ?_)
        · refine X_iconst (v := nI 0) dX12_orders_125 (by decide) ?_
          refine X_iadd dX12_orders_126 ?_
          refine X_iast dX12_orders_127 (by first | assumption | rfl) (by first | assumption | exact Nat.le_of_ble_eq_true rfl | omega) rfl (by first | decide | omega) (by decide) ?_
          first | refine X_iinc1 dX12_orders_128 rfl rfl rfl ?_ | refine X_iinc dX12_orders_128 rfl rfl rfl rfl ?_
          refine X_goto (tgt := 48) dX12_orders_131 (by decide) ?_
          refine weak (lv' := [(0, vr 170), (1, vi (nI (2 ^ n))), (2, vi (nI S)), (3, vi (nI (i + 1)))]) (fun q hq => List.mem_append_left _ hq) ?_
          refine ih (i + 1) _ (by omega) (by omega) (hF.tr (FrM.c (by simp) (by decide))) (fun q hq => ?_)
          rw [sr_eq, oin_f hm2]
          by_cases hqs : q = S ||| 2 ^ i
          · rw [hqs, up_eq]; exact Int32.add_zero _
          · rw [up_ne hqs]; exact hw q hq
        · exact absurd rfl b113
      refine X_iload_n dX12_orders_65 rfl ?_
      refine X_iload_n dX12_orders_66 rfl ?_
      first | refine X_ishrN dX12_orders_67 (by omega) (by omega) ?_ | refine X_ishr dX12_orders_67 ?_
      refine X_iconst (v := nI 1) dX12_orders_68 (by decide) ?_
      first | refine X_iandN dX12_orders_69 ?_ | refine X_iandC dX12_orders_69 ?_ | refine X_iand dX12_orders_69 ?_
      rw [Nat.and_one_is_mod, bit_mod]
      by_cases hb : S.testBit i = true
      · rw [if_pos hb]
        refine X_if_ne (tgt := 97) dX12_orders_70 (by decide) (fun b70 => ?_) (fun b70 => ?_)
        · refine X_iconst (v := nI 0) dX12_orders_97 (by decide) ?_
          exact no (fun q => by rw [(mayS_iff.mp q).1] at hb; exact absurd hb (by decide))
        · exact absurd b70 (by decide)
      · rw [if_neg hb]
        refine X_if_ne (tgt := 97) dX12_orders_70 (by decide) (fun b70 => ?_) (fun b70 => ?_)
        · exact absurd rfl b70
        refine X_aload_n dX12_orders_73 rfl ?_
        refine X_getR dX12_orders_74 gf_X12_65 (by first | assumption | rfl) (by first | assumption | exact Nat.le_of_ble_eq_true rfl | omega) rfl (by first | assumption | rfl) ?_
        refine X_iload_n dX12_orders_77 rfl ?_
        first | refine X_iald dX12_orders_78 (by first | assumption | rfl) (by first | assumption | exact Nat.le_of_ble_eq_true rfl | omega) rfl (by first | decide | omega) (by decide) ?_ | refine X_ildA dX12_orders_78 rfl (by omega) ?_ | refine X_ildM dX12_orders_78 rfl (by omega) ?_ | refine X_sld dX12_orders_78 rfl (by omega) (by omega) ?_
        rw [b1]
        refine X_aload_n dX12_orders_79 rfl ?_
        refine X_getR dX12_orders_80 gf_X12_68 (by first | assumption | rfl) (by first | assumption | exact Nat.le_of_ble_eq_true rfl | omega) rfl (by first | assumption | rfl) ?_
        refine X_iload_n dX12_orders_83 rfl ?_
        first | refine X_iald dX12_orders_84 (by first | assumption | rfl) (by first | assumption | exact Nat.le_of_ble_eq_true rfl | omega) rfl (by first | decide | omega) (by decide) ?_ | refine X_ildA dX12_orders_84 rfl (by omega) ?_ | refine X_ildM dX12_orders_84 rfl (by omega) ?_ | refine X_sld dX12_orders_84 rfl (by omega) (by omega) ?_
        rw [b2]
        first | refine X_iorN dX12_orders_85 ?_ | refine X_ior dX12_orders_85 ?_
        refine X_iload_n dX12_orders_86 rfl ?_
        refine X_iconst (v := (-1)) dX12_orders_87 (by decide) ?_
        refine X_ixor dX12_orders_88 ?_
        first | refine X_iandN dX12_orders_89 ?_ | refine X_iandC dX12_orders_89 ?_ | refine X_iand dX12_orders_89 ?_
        have hna := na_lt c (show i < 12 by omega)
        by_cases hz : sdf (ned c i ||| awt c i) S = 0
        · have hm2 : mayS c S i = true := mayS_iff.mpr ⟨by simpa using hb, hz⟩
          refine X_if_ne (tgt := 97) dX12_orders_90 (by decide) (fun b90 => ?_) (fun b90 => ?_)
          · exact absurd ((sdf0 hna).mpr hz) b90
          refine X_iconst (v := nI 1) dX12_orders_93 (by decide) ?_
          refine X_goto (tgt := 98) dX12_orders_94 (by decide) ?_
          refine X_istore dX12_orders_98 rfl rfl ?_
          refine X_aload_n dX12_orders_100 rfl ?_
          refine X_getR dX12_orders_101 gf_X12_71 (by first | assumption | rfl) (by first | assumption | exact Nat.le_of_ble_eq_true rfl | omega) rfl (by first | assumption | rfl) ?_
          refine X_iload_n dX12_orders_104 rfl ?_
          refine X_iconst (v := nI 1) dX12_orders_105 (by decide) ?_
          refine X_iload_n dX12_orders_106 rfl ?_
          first | refine X_ishl1 dX12_orders_107 (by omega) ?_ | refine X_ishl dX12_orders_107 ?_
          first | refine X_iorN dX12_orders_108 ?_ | refine X_ior dX12_orders_108 ?_
          refine X_dup2 dX12_orders_109 rfl rfl ?_
          first | refine X_iald dX12_orders_110 (by first | assumption | rfl) (by first | assumption | exact Nat.le_of_ble_eq_true rfl | omega) rfl (by first | decide | omega) (by decide) ?_ | refine X_ildA dX12_orders_110 rfl (by omega) ?_ | refine X_ildM dX12_orders_110 rfl (by omega) ?_ | refine X_sld dX12_orders_110 rfl (by omega) (by omega) ?_
          rw [hw _ hlt]
          refine X_iload dX12_orders_111 rfl ?_
          refine X_if_eq (tgt := 125) dX12_orders_113 (by decide) (fun b113 => ?_) (fun b113 => ?_)
          · exact absurd b113 (by decide)
          refine X_aload_n dX12_orders_116 rfl ?_
          refine X_getR dX12_orders_117 gf_X12_71 (by first | assumption | rfl) (by first | assumption | exact Nat.le_of_ble_eq_true rfl | omega) rfl (by first | assumption | rfl) ?_
          refine X_iload_n dX12_orders_120 rfl ?_
          first | refine X_iald dX12_orders_121 (by first | assumption | rfl) (by first | assumption | exact Nat.le_of_ble_eq_true rfl | omega) rfl (by first | decide | omega) (by decide) ?_ | refine X_ildA dX12_orders_121 rfl (by omega) ?_ | refine X_ildM dX12_orders_121 rfl (by omega) ?_ | refine X_sld dX12_orders_121 rfl (by omega) (by omega) ?_
          rw [hw S (by omega)]
          refine X_goto (tgt := 126) dX12_orders_122 (by decide) ?_
          refine X_iadd dX12_orders_126 ?_
          refine X_iast dX12_orders_127 (by first | assumption | rfl) (by first | assumption | exact Nat.le_of_ble_eq_true rfl | omega) rfl (by first | decide | omega) (by decide) ?_
          first | refine X_iinc1 dX12_orders_128 rfl rfl rfl ?_ | refine X_iinc dX12_orders_128 rfl rfl rfl rfl ?_
          refine X_goto (tgt := 48) dX12_orders_131 (by decide) ?_
          refine weak (lv' := [(0, vr 170), (1, vi (nI (2 ^ n))), (2, vi (nI S)), (3, vi (nI (i + 1)))]) (fun q hq => List.mem_append_left _ hq) ?_
          refine ih (i + 1) _ (by omega) (by omega) (hF.tr (FrM.c (by simp) (by decide))) (fun q hq => ?_)
          rw [sr_eq, oin_t hpos hm2]
          by_cases hqs : q = S ||| 2 ^ i
          · rw [hqs, up_eq, up_eq]
          · rw [up_ne hqs, up_ne hqs]; exact hw q hq
        · refine X_if_ne (tgt := 97) dX12_orders_90 (by decide) (fun b90 => ?_) (fun b90 => ?_)
          · refine X_iconst (v := nI 0) dX12_orders_97 (by decide) ?_
            exact no (fun q => hz (mayS_iff.mp q).2)
          · exact absurd ((sdf0 hna).mp b90) hz
  have loop : ∀ (m S : Nat) (I' : Nat → Nat → Int32), m = 2 ^ n - S → S ≤ 2 ^ n → FrM [191] [] I1 I' → (∀ q, q < 2 ^ n → I' 191 q = owt c n S q) → X G d zX12_orders 41 [(0, vr 170), (1, vi (nI (2 ^ n))), (2, vi (nI S))] [] (NC, I', J, layR sw) 0 0 (qi (PM s (owt c n (2 ^ n - 1) (2 ^ n - 1)) I J sw)) := by
    intro m
    induction m with
    | zero =>
      intro S I' hm hS hF hw
      obtain rfl : S = 2 ^ n := by omega
      have e : owt c n (2 ^ n) = owt c n (2 ^ n - 1) := by
        obtain ⟨T, hT⟩ : ∃ T, 2 ^ n = T + 1 := ⟨2 ^ n - 1, by omega⟩
        rw [hT, Nat.add_sub_cancel]
        exact oin_full n (fun i hi => by rw [show T = 2 ^ n - 1 by omega]; exact full_bit hi)
      refine X_iload_n dX12_orders_41 rfl ?_
      refine X_iload_n dX12_orders_42 rfl ?_
      refine X_icmp_ge (tgt := 140) dX12_orders_43 (by decide) (fun b => ?_) (fun b => ?_)
      · refine X_aload_n dX12_orders_140 rfl ?_
        refine X_getR dX12_orders_141 gf_X12_71 (by first | assumption | rfl) (by first | assumption | exact Nat.le_of_ble_eq_true rfl | omega) rfl (by first | assumption | rfl) ?_
        refine X_iload_n dX12_orders_144 rfl ?_
        refine X_iconst (v := nI 1) dX12_orders_145 (by decide) ?_
        first | refine X_isubN dX12_orders_146 (by omega) ?_ | refine X_isub dX12_orders_146 ?_
        first | refine X_iald dX12_orders_147 (by first | assumption | rfl) (by first | assumption | exact Nat.le_of_ble_eq_true rfl | omega) rfl (by first | decide | omega) (by decide) ?_ | refine X_ildA dX12_orders_147 rfl (by omega) ?_ | refine X_ildM dX12_orders_147 rfl (by omega) ?_ | refine X_sld dX12_orders_147 rfl (by omega) (by omega) ?_
        rw [hw _ (by omega), e]
        refine X_iret dX12_orders_148 rfl ⟨_, rfl, PM_fm hi [189, 190, 191] [] ((f1.sub (by simp) (by simp)).tr (hF.sub (by simp) (by simp))) (by decide) (by decide)⟩
      · exact absurd (Int32.le_refl _) b
    | succ m ih =>
      intro S I' hm hS hF hw
      refine X_iload_n dX12_orders_41 rfl ?_
      refine X_iload_n dX12_orders_42 rfl ?_
      refine X_icmp_ge (tgt := 140) dX12_orders_43 (by decide) (fun b => ?_) (fun b => ?_)
      · exact absurd ((nle (by omega) (by omega)).mp b) (by omega)
      refine X_iconst (v := nI 0) dX12_orders_46 (by decide) ?_
      refine X_istore_n dX12_orders_47 rfl rfl ?_
      exact inner S (by omega) (fun I2 f2 w2 => ih (S + 1) I2 (by omega) (by omega) f2 w2) n 0 I' rfl (Nat.zero_le n) hF hw
  have loop0 : ∀ (m S : Nat) (I' : Nat → Nat → Int32), m = 2 ^ n - S → S ≤ 2 ^ n → FrM [191] [] I1 I' → (∀ q, q < S → I' 191 q = if q = 0 then 1 else 0) → X G d zX12_orders 13 [(0, vr 170), (1, vi (nI (2 ^ n))), (2, vi (nI S))] [] (NC, I', J, layR sw) 0 0 (qi (PM s (owt c n (2 ^ n - 1) (2 ^ n - 1)) I J sw)) := by
    intro m
    induction m with
    | zero =>
      intro S I' hm hS hF hw
      obtain rfl : S = 2 ^ n := by omega
      refine X_iload_n dX12_orders_13 rfl ?_
      refine X_iload_n dX12_orders_14 rfl ?_
      refine X_icmp_ge (tgt := 39) dX12_orders_15 (by decide) (fun b => ?_) (fun b => ?_)
      · refine X_iconst (v := nI 0) dX12_orders_39 (by decide) ?_
        refine X_istore_n dX12_orders_40 rfl rfl ?_
        exact loop (2 ^ n) 0 I' rfl (Nat.zero_le _) hF hw
      · exact absurd (Int32.le_refl _) b
    | succ m ih =>
      intro S I' hm hS hF hw
      have tail : ∀ x : Int32, x = (if S = 0 then 1 else 0) → X G d zX12_orders 32 [(0, vr 170), (1, vi (nI (2 ^ n))), (2, vi (nI S))] [vi x, vi (nI S), vr 191] (NC, I', J, layR sw) 0 0 (qi (PM s (owt c n (2 ^ n - 1) (2 ^ n - 1)) I J sw)) := by
        intro x hx
        refine X_iast dX12_orders_32 (by first | assumption | rfl) (by first | assumption | exact Nat.le_of_ble_eq_true rfl | omega) rfl (by first | decide | omega) (by decide) ?_
        first | refine X_iinc1 dX12_orders_33 rfl rfl rfl ?_ | refine X_iinc dX12_orders_33 rfl rfl rfl rfl ?_
        refine X_goto (tgt := 13) dX12_orders_36 (by decide) ?_
        refine ih (S + 1) _ (by omega) (by omega) (hF.tr (FrM.c (by simp) (by decide))) (fun q hq => ?_)
        rw [sr_eq]
        by_cases hqs : q = S
        · rw [hqs, up_eq, hx]
        · rw [up_ne hqs]; exact hw q (by omega)
      refine X_iload_n dX12_orders_13 rfl ?_
      refine X_iload_n dX12_orders_14 rfl ?_
      refine X_icmp_ge (tgt := 39) dX12_orders_15 (by decide) (fun b => ?_) (fun b => ?_)
      · exact absurd ((nle (by omega) (by omega)).mp b) (by omega)
      refine X_aload_n dX12_orders_18 rfl ?_
      refine X_getR dX12_orders_19 gf_X12_71 (by first | assumption | rfl) (by first | assumption | exact Nat.le_of_ble_eq_true rfl | omega) rfl (by first | assumption | rfl) ?_
      refine X_iload_n dX12_orders_22 rfl ?_
      refine X_iload_n dX12_orders_23 rfl ?_
      by_cases h0 : S = 0
      · refine X_if_ne (tgt := 31) dX12_orders_24 (by decide) (fun b24 => ?_) (fun b24 => ?_)
        · exact absurd (by rw [h0]; rfl) b24
        refine X_iconst (v := nI 1) dX12_orders_27 (by decide) ?_
        refine X_goto (tgt := 32) dX12_orders_28 (by decide) ?_
        exact tail _ (by rw [if_pos h0]; rfl)
      · refine X_if_ne (tgt := 31) dX12_orders_24 (by decide) (fun b24 => ?_) (fun b24 => ?_)
        · refine X_iconst (v := nI 0) dX12_orders_31 (by decide) ?_
          exact tail _ (by rw [if_neg h0]; rfl)
        · exact absurd ((neq (b := 0) (by omega) (by decide)).mp b24) h0
  exact loop0 (2 ^ n) 0 I1 rfl (Nat.zero_le _) FrM.rf (fun q hq => absurd hq (Nat.not_lt_zero q))
end CO
