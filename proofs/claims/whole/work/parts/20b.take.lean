/-! holding: what it takes of a code -/
theorem su32 : ∀ n, n < 32 → (((nI n).toUInt32 &&& Int32.toUInt32 31).toBitVec % 32).toNat = n := by decide +kernel
section XZ
variable {G : GG} {d : Nat} {z : ZZ} {pc : Nat} {lv : List (Nat × AV)} {st : List AV} {M : Mm} {rc rs : Nat} {Q : Option AV → Mm → Prop}
theorem X_iushrN {a b : Nat} (hd : decode z.2.1 pc = .ok (.iushr, 1)) (ha : a < 2147483648) (hb : b < 32) (h : X G d z (pc + 1) lv (vi (nI (a / 2 ^ b)) :: st) M rc rs Q) : X G d z pc lv (vi (nI b) :: vi (nI a) :: st) M rc rs Q :=
  X_iushr hd (pk_ushrN (by omega) _ b (su32 b hb)) h
end XZ
theorem vinr_t {c : Nat → Nat → Nat} {R p r : Nat} (h : R.testBit r = true) : vinr c R p (r + 1) = vinr c R p r ||| 2 ^ vlu c p r := if_pos h
theorem vinr_f {c : Nat → Nat → Nat} {R p r : Nat} (h : ¬ R.testBit r = true) : vinr c R p (r + 1) = vinr c R p r := if_neg h
def cst (c : Nat → Nat → Nat) (n v : Nat) : Nat := 2097152 + rdg c n v * 65536 + 2 ^ v
/-- what the holding knows of a code -/
def HK (I : Nat → Nat → Int32) (n W : Nat) (c : Nat → Nat → Nat) : Prop := I 136 11 = nI n ∧ (∀ v, v < 16 → I 141 v = nI (rdr c n v) ∧ I 140 v = nI (cst c n v)) ∧ (∀ i, i < n → I 137 i = nI (c i 0) ∧ I 142 i = nI (ned c i)) ∧ (∀ p, p < n + 1 → I 139 p = nI (hrg c W n p) ∧ I 138 p = nI (vin c (hrg c W n p) p)) ∧ I 136 12 = nI (vin c W n)
section HO
variable {G : GG} {d : Nat} {sw : Bool} {I : Nat → Nat → Int32} {J : Nat → Nat → Int64} {s : SS} {n W : Nat} {c : Nat → Nat → Nat}
theorem c_bitCount {Q : Int32 → Mm → Prop} {M : Mm} {a : Nat} (ha : a < 65536) (hQ : Q (nI (on a 16)) M) : Y G d zJ6_bitCount_0f7a4 [vi (nI a)] M 0 0 (qi Q) := by
  have e1 : (1431655765 : Int32) = nI 1431655765 := by decide
  have e2 : (858993459 : Int32) = nI 858993459 := by decide
  have e3 : (252645135 : Int32) = nI 252645135 := by decide
  have b1 : a / 2 ^ 1 &&& 1431655765 ≤ a := Nat.le_trans Nat.and_le_left (Nat.div_le_self a _)
  have hA : bcA a ≤ a := Nat.sub_le _ _
  have hB : bcB (bcA a) ≤ bcA a + bcA a / 4 := Nat.add_le_add Nat.and_le_left Nat.and_le_left
  have hC : bcC (bcB (bcA a)) ≤ 252645135 := Nat.and_le_right
  have hD : bcD (bcC (bcB (bcA a))) = bcC (bcB (bcA a)) + bcC (bcB (bcA a)) / 256 := rfl
  refine Y_ofF (by decide +kernel) rfl (Nat.le_of_ble_eq_true rfl) rfl ?_
  refine X_iload_n dJ6_bitCount_0f7a4_0 rfl ?_
  refine X_iload_n dJ6_bitCount_0f7a4_1 rfl ?_
  refine X_iconst (v := nI 1) dJ6_bitCount_0f7a4_2 (by decide) ?_
  refine X_iushrN dJ6_bitCount_0f7a4_3 (by omega) (by omega) ?_
  refine X_ldcw dJ6_bitCount_0f7a4_4 kc_J6_265 ?_
  rw [e1]
  first | refine X_iandN dJ6_bitCount_0f7a4_7 ?_ | refine X_iandC dJ6_bitCount_0f7a4_7 ?_ | refine X_iand dJ6_bitCount_0f7a4_7 ?_
  refine X_isubN dJ6_bitCount_0f7a4_8 b1 ?_
  rw [show a - (a / 2 ^ 1 &&& 1431655765) = bcA a from rfl]
  refine X_istore_n dJ6_bitCount_0f7a4_9 rfl rfl ?_
  refine X_iload_n dJ6_bitCount_0f7a4_10 rfl ?_
  refine X_ldcw dJ6_bitCount_0f7a4_11 kc_J6_266 ?_
  rw [e2]
  first | refine X_iandN dJ6_bitCount_0f7a4_14 ?_ | refine X_iandC dJ6_bitCount_0f7a4_14 ?_ | refine X_iand dJ6_bitCount_0f7a4_14 ?_
  refine X_iload_n dJ6_bitCount_0f7a4_15 rfl ?_
  refine X_iconst (v := nI 2) dJ6_bitCount_0f7a4_16 (by decide) ?_
  refine X_iushrN dJ6_bitCount_0f7a4_17 (by omega) (by omega) ?_
  refine X_ldcw dJ6_bitCount_0f7a4_18 kc_J6_266 ?_
  rw [e2]
  first | refine X_iandN dJ6_bitCount_0f7a4_21 ?_ | refine X_iandC dJ6_bitCount_0f7a4_21 ?_ | refine X_iand dJ6_bitCount_0f7a4_21 ?_
  first | refine X_iaddN dJ6_bitCount_0f7a4_22 ?_ | refine X_iadd dJ6_bitCount_0f7a4_22 ?_
  rw [show (bcA a &&& 858993459) + (bcA a / 2 ^ 2 &&& 858993459) = bcB (bcA a) from rfl]
  refine X_istore_n dJ6_bitCount_0f7a4_23 rfl rfl ?_
  refine X_iload_n dJ6_bitCount_0f7a4_24 rfl ?_
  refine X_iload_n dJ6_bitCount_0f7a4_25 rfl ?_
  refine X_iconst (v := nI 4) dJ6_bitCount_0f7a4_26 (by decide) ?_
  refine X_iushrN dJ6_bitCount_0f7a4_27 (by omega) (by omega) ?_
  first | refine X_iaddN dJ6_bitCount_0f7a4_28 ?_ | refine X_iadd dJ6_bitCount_0f7a4_28 ?_
  refine X_ldcw dJ6_bitCount_0f7a4_29 kc_J6_267 ?_
  rw [e3]
  first | refine X_iandN dJ6_bitCount_0f7a4_32 ?_ | refine X_iandC dJ6_bitCount_0f7a4_32 ?_ | refine X_iand dJ6_bitCount_0f7a4_32 ?_
  rw [show (bcB (bcA a) + bcB (bcA a) / 2 ^ 4) &&& 252645135 = bcC (bcB (bcA a)) from rfl]
  refine X_istore_n dJ6_bitCount_0f7a4_33 rfl rfl ?_
  refine X_iload_n dJ6_bitCount_0f7a4_34 rfl ?_
  refine X_iload_n dJ6_bitCount_0f7a4_35 rfl ?_
  refine X_bipush (v := nI 8) dJ6_bitCount_0f7a4_36 (by decide) ?_
  refine X_iushrN dJ6_bitCount_0f7a4_38 (by omega) (by omega) ?_
  first | refine X_iaddN dJ6_bitCount_0f7a4_39 ?_ | refine X_iadd dJ6_bitCount_0f7a4_39 ?_
  rw [show bcC (bcB (bcA a)) + bcC (bcB (bcA a)) / 2 ^ 8 = bcD (bcC (bcB (bcA a))) from rfl]
  refine X_istore_n dJ6_bitCount_0f7a4_40 rfl rfl ?_
  refine X_iload_n dJ6_bitCount_0f7a4_41 rfl ?_
  refine X_iload_n dJ6_bitCount_0f7a4_42 rfl ?_
  refine X_bipush (v := nI 16) dJ6_bitCount_0f7a4_43 (by decide) ?_
  refine X_iushrN dJ6_bitCount_0f7a4_45 (by omega) (by omega) ?_
  first | refine X_iaddN dJ6_bitCount_0f7a4_46 ?_ | refine X_iadd dJ6_bitCount_0f7a4_46 ?_
  refine X_istore_n dJ6_bitCount_0f7a4_47 rfl rfl ?_
  refine X_iload_n dJ6_bitCount_0f7a4_48 rfl ?_
  refine X_bipush (v := nI 63) dJ6_bitCount_0f7a4_49 (by decide) ?_
  first | refine X_iandN dJ6_bitCount_0f7a4_51 ?_ | refine X_iandC dJ6_bitCount_0f7a4_51 ?_ | refine X_iand dJ6_bitCount_0f7a4_51 ?_
  rw [show (bcD (bcC (bcB (bcA a))) + bcD (bcC (bcB (bcA a))) / 2 ^ 16) &&& 63 = bcE (bcD (bcC (bcB (bcA a)))) from rfl, bc_on ha]
  exact X_iret dJ6_bitCount_0f7a4_52 rfl ⟨_, rfl, hQ⟩
set_option maxRecDepth 20000 in
theorem c_valuesIn {Q : Int32 → Mm → Prop} {R p : Nat} (hn : n ≤ 12) (hp : p ≤ n) (hR : R < 16) (hL : LK I n c) (hQ : Q (nI (vin c R p)) (NC, I, J, layR sw)) : Y G d zX4_valuesIn [vi (nI R), vi (nI p), vr 121] (NC, I, J, layR sw) 0 0 (qi Q) := by
  have loop : ∀ (m r : Nat), m = 4 - r → r ≤ 4 → X G d zX4_valuesIn 5 [(0, vi (nI R)), (1, vi (nI p)), (2, vr 121), (3, vi (nI (vinr c R p r))), (4, vi (nI r))] [] (NC, I, J, layR sw) 0 0 (qi Q) := by
    intro m
    induction m with
    | zero =>
      intro r hm hr
      obtain rfl : r = 4 := by omega
      refine X_iload dX4_valuesIn_5 rfl ?_
      refine X_iconst (v := nI 4) dX4_valuesIn_7 (by decide) ?_
      refine X_icmp_ge (tgt := 43) dX4_valuesIn_8 (by decide) (fun b => ?_) (fun b => ?_)
      · refine X_iload_n dX4_valuesIn_43 rfl ?_
        exact X_iret dX4_valuesIn_44 rfl ⟨_, rfl, hQ⟩
      · exact absurd (by decide) b
    | succ m ih =>
      intro r hm hr
      have ih := ih (r + 1) (by omega) (by omega)
      have hlv := vlu_lt c p r (by omega)
      refine X_iload dX4_valuesIn_5 rfl ?_
      refine X_iconst (v := nI 4) dX4_valuesIn_7 (by decide) ?_
      refine X_icmp_ge (tgt := 43) dX4_valuesIn_8 (by decide) (fun b => ?_) (fun b => ?_)
      · exact absurd ((nle (by omega) (by omega)).mp b) (by omega)
      refine X_iload_n dX4_valuesIn_11 rfl ?_
      refine X_iload dX4_valuesIn_12 rfl ?_
      first | refine X_ishrN dX4_valuesIn_14 (by omega) (by omega) ?_ | refine X_ishr dX4_valuesIn_14 ?_
      refine X_iconst (v := nI 1) dX4_valuesIn_15 (by decide) ?_
      first | refine X_iandN dX4_valuesIn_16 ?_ | refine X_iandC dX4_valuesIn_16 ?_ | refine X_iand dX4_valuesIn_16 ?_
      rw [Nat.and_one_is_mod, bit_mod]
      refine X_iconst (v := nI 1) dX4_valuesIn_17 (by decide) ?_
      by_cases hb : R.testBit r = true
      · rw [if_pos hb]
        rw [vinr_t hb] at ih
        refine X_icmp_ne (tgt := 37) dX4_valuesIn_18 (by decide) (fun b18 => ?_) (fun b18 => ?_)
        · exact absurd rfl b18
        refine X_iload_n dX4_valuesIn_21 rfl ?_
        refine X_iconst (v := nI 1) dX4_valuesIn_22 (by decide) ?_
        refine X_aload_n dX4_valuesIn_23 rfl ?_
        refine X_getR dX4_valuesIn_24 gf_X4_77 (by first | assumption | rfl) (by first | assumption | exact Nat.le_of_ble_eq_true rfl | omega) rfl (by first | assumption | rfl) ?_
        refine X_iload_n dX4_valuesIn_27 rfl ?_
        refine X_iconst (v := nI 4) dX4_valuesIn_28 (by decide) ?_
        first | refine X_imulN dX4_valuesIn_29 ?_ | refine X_imul dX4_valuesIn_29 ?_
        refine X_iload dX4_valuesIn_30 rfl ?_
        first | refine X_iaddN dX4_valuesIn_32 ?_ | refine X_iadd dX4_valuesIn_32 ?_
        first | refine X_iald dX4_valuesIn_33 (by first | assumption | rfl) (by first | assumption | exact Nat.le_of_ble_eq_true rfl | omega) rfl (by first | decide | omega) (by decide) ?_ | refine X_ildA dX4_valuesIn_33 rfl (by omega) ?_ | refine X_ildM dX4_valuesIn_33 rfl (by omega) ?_ | refine X_sld dX4_valuesIn_33 rfl (by omega) (by omega) ?_
        rw [hL.1 p hp r (by omega)]
        first | refine X_ishl1 dX4_valuesIn_34 (by omega) ?_ | refine X_ishl dX4_valuesIn_34 ?_
        first | refine X_iorN dX4_valuesIn_35 ?_ | refine X_ior dX4_valuesIn_35 ?_
        refine X_istore_n dX4_valuesIn_36 rfl rfl ?_
        first | refine X_iinc1 dX4_valuesIn_37 rfl rfl rfl ?_ | refine X_iinc dX4_valuesIn_37 rfl rfl rfl rfl ?_
        refine X_goto (tgt := 5) dX4_valuesIn_40 (by decide) ?_
        exact ih
      · rw [if_neg hb]
        rw [vinr_f hb] at ih
        refine X_icmp_ne (tgt := 37) dX4_valuesIn_18 (by decide) (fun b18 => ?_) (fun b18 => ?_)
        · first | refine X_iinc1 dX4_valuesIn_37 rfl rfl rfl ?_ | refine X_iinc dX4_valuesIn_37 rfl rfl rfl rfl ?_
          refine X_goto (tgt := 5) dX4_valuesIn_40 (by decide) ?_
          exact ih
        · exact absurd b18 (by decide)
  refine Y_of rfl rfl (Nat.le_of_ble_eq_true rfl) rfl ?_
  refine X_iconst (v := nI 0) dX4_valuesIn_0 (by decide) ?_
  refine X_istore_n dX4_valuesIn_1 rfl rfl ?_
  refine X_iconst (v := nI 0) dX4_valuesIn_2 (by decide) ?_
  refine X_istore dX4_valuesIn_3 rfl rfl ?_
  exact loop 4 0 rfl (Nat.zero_le 4)
set_option maxRecDepth 20000 in
set_option maxHeartbeats 1000000 in
theorem c_take {Q : Mm → Prop} (hd : 2 ≤ d) (hc : CR I 8 n c) (hv : VC n c) (hW : W < 16) (hL : LK I n c) (hl : ∀ p, p ≤ n → I 103 p = nI (liv c W n p)) (hQ : ∀ I', Fr [136, 137, 138, 139, 140, 141, 142] I I' → HK I' n W c → Q (NC, I', J, layR sw)) : Y G d zX4_take [vr 136, vr 8, vr 121, vr 102] (NC, I, J, layR sw) 0 0 (qv Q) := by
  have hn := hv.1
  have e1 : (2097152 : Int32) = nI 2097152 := by decide
  have e2 : (65536 : Int32) = nI 65536 := by decide
  have fL : ∀ I', Fr [136, 137, 138, 139, 140, 141, 142] I I' → LK I' n c := fun I' f => LK_fr hL f (fun k a b => by simp; omega)
  have fl : ∀ I', Fr [136, 137, 138, 139, 140, 141, 142] I I' → ∀ p, p ≤ n → I' 103 p = nI (liv c W n p) := fun I' f p hp => by rw [f 103 (by simp)]; exact hl p hp
  have loop3 : ∀ (m p : Nat) (I' : Nat → Nat → Int32), m = n + 1 - p → p ≤ n + 1 → Fr [136, 137, 138, 139, 140, 141, 142] I I' → I' 136 11 = nI n → (∀ v, v < 16 → I' 141 v = nI (rdr c n v) ∧ I' 140 v = nI (cst c n v)) → (∀ i, i < n → I' 137 i = nI (c i 0) ∧ I' 142 i = nI (ned c i)) → (∀ q, q < p → I' 139 q = nI (hrg c W n q) ∧ I' 138 q = nI (vin c (hrg c W n q) q)) → X G d zX4_take 111 [(0, vr 136), (1, vr 8), (2, vr 121), (3, vr 102), (4, vi (nI p))] [] (NC, I', J, layR sw) 0 0 (qv Q) := by
    intro m
    induction m with
    | zero =>
      intro p I' hm hp hF h11 h1 h2 h3
      obtain rfl : p = n + 1 := by omega
      refine X_iload dX4_take_111 rfl ?_
      refine X_aload_n dX4_take_113 rfl ?_
      refine X_getI dX4_take_114 gf_X4_51 (by first | assumption | rfl) (by first | assumption | exact Nat.le_of_ble_eq_true rfl | omega) rfl ?_
      rw [h11]
      refine X_icmp_gt (tgt := 181) dX4_take_117 (by decide) (fun b => ?_) (fun b => ?_)
      · refine X_aload_n dX4_take_181 rfl ?_
        refine X_aload_n dX4_take_182 rfl ?_
        refine X_getR dX4_take_183 gf_X4_65 (by first | assumption | rfl) (by first | assumption | exact Nat.le_of_ble_eq_true rfl | omega) rfl (by first | assumption | rfl) ?_
        refine X_aload_n dX4_take_186 rfl ?_
        refine X_getI dX4_take_187 gf_X4_51 (by first | assumption | rfl) (by first | assumption | exact Nat.le_of_ble_eq_true rfl | omega) rfl ?_
        rw [h11]
        first | refine X_iald dX4_take_190 (by first | assumption | rfl) (by first | assumption | exact Nat.le_of_ble_eq_true rfl | omega) rfl (by first | decide | omega) (by decide) ?_ | refine X_ildA dX4_take_190 rfl (by omega) ?_ | refine X_ildM dX4_take_190 rfl (by omega) ?_ | refine X_sld dX4_take_190 rfl (by omega) (by omega) ?_
        rw [fl I' hF n (Nat.le_refl n), liv_n]
        refine X_aload_n dX4_take_191 rfl ?_
        refine X_getI dX4_take_192 gf_X4_51 (by first | assumption | rfl) (by first | assumption | exact Nat.le_of_ble_eq_true rfl | omega) rfl ?_
        rw [h11]
        refine X_aload_n dX4_take_195 rfl ?_
        refine X_cSi dX4_take_196 ck_X4_70 rfl rfl (by omega) (Nat.le_of_ble_eq_true rfl) (c_valuesIn hn (Nat.le_refl n) hW (fL I' hF) ?_)
        refine X_putI dX4_take_199 gf_X4_74 (Or.inl rfl) (by first | assumption | rfl) (by first | assumption | exact Nat.le_of_ble_eq_true rfl | omega) rfl ?_
        exact X_vret dX4_take_202 rfl ⟨rfl, hQ _ (hF.tr (Fr.sr (by simp))) ⟨by rw [sr_eq, up_ne (by decide)]; exact h11, fun v h => by rw [sr_ne (by decide), sr_ne (by decide)]; exact h1 v h, fun i h => by rw [sr_ne (by decide), sr_ne (by decide)]; exact h2 i h, fun q h => by rw [sr_ne (by decide), sr_ne (by decide)]; exact h3 q h, by rw [sr_eq, up_eq]⟩⟩
      · exact absurd ((nlt (by omega) (by omega)).mpr (Nat.lt_succ_self n)) b
    | succ m ih =>
      intro p I' hm hp hF h11 h1 h2 h3
      have hpn : p ≤ n := by omega
      have hlt := hrg_lt hv hW hpn
      have tail : ∀ x, hrg c W n p = liv c W n p ||| x → X G d zX4_take 153 [(0, vr 136), (1, vr 8), (2, vr 121), (3, vr 102), (4, vi (nI p))] [vi (nI x), vi (nI (liv c W n p)), vi (nI p), vr 139] (NC, I', J, layR sw) 0 0 (qv Q) := by
        intro x hx
        first | refine X_iorN dX4_take_153 ?_ | refine X_ior dX4_take_153 ?_
        refine X_iast dX4_take_154 (by first | assumption | rfl) (by first | assumption | exact Nat.le_of_ble_eq_true rfl | omega) rfl (by first | decide | omega) (by decide) ?_
        refine X_aload_n dX4_take_155 rfl ?_
        refine X_getR dX4_take_156 gf_X4_15 (by first | assumption | rfl) (by first | assumption | exact Nat.le_of_ble_eq_true rfl | omega) rfl (by first | assumption | rfl) ?_
        refine X_iload dX4_take_159 rfl ?_
        refine X_aload_n dX4_take_161 rfl ?_
        refine X_getR dX4_take_162 gf_X4_18 (by first | assumption | rfl) (by first | assumption | exact Nat.le_of_ble_eq_true rfl | omega) rfl (by first | assumption | rfl) ?_
        refine X_iload dX4_take_165 rfl ?_
        first | refine X_iald dX4_take_167 (by first | assumption | rfl) (by first | assumption | exact Nat.le_of_ble_eq_true rfl | omega) rfl (by first | decide | omega) (by decide) ?_ | refine X_ildA dX4_take_167 rfl (by omega) ?_ | refine X_ildM dX4_take_167 rfl (by omega) ?_ | refine X_sld dX4_take_167 rfl (by omega) (by omega) ?_
        rw [sr_eq, up_eq, ← hx]
        refine X_iload dX4_take_168 rfl ?_
        refine X_aload_n dX4_take_170 rfl ?_
        have hF2 : Fr [136, 137, 138, 139, 140, 141, 142] I (sr I' 139 (up (I' 139) p (nI (hrg c W n p)))) := hF.tr (Fr.sr (by simp))
        refine X_cSi dX4_take_171 ck_X4_70 rfl rfl (by omega) (Nat.le_of_ble_eq_true rfl) (c_valuesIn hn hpn hlt (fL _ hF2) ?_)
        refine X_iast dX4_take_174 (by first | assumption | rfl) (by first | assumption | exact Nat.le_of_ble_eq_true rfl | omega) rfl (by first | decide | omega) (by decide) ?_
        first | refine X_iinc1 dX4_take_175 rfl rfl rfl ?_ | refine X_iinc dX4_take_175 rfl rfl rfl rfl ?_
        refine X_goto (tgt := 111) dX4_take_178 (by decide) ?_
        refine ih (p + 1) _ (by omega) (by omega) (hF2.tr (Fr.sr (by simp))) (by rw [sr_ne (by decide), sr_ne (by decide)]; exact h11) (fun v h => by rw [sr_ne (by decide), sr_ne (by decide), sr_ne (by decide), sr_ne (by decide)]; exact h1 v h) (fun i h => by rw [sr_ne (by decide), sr_ne (by decide), sr_ne (by decide), sr_ne (by decide)]; exact h2 i h) (fun q h => ?_)
        rw [sr_ne (show 139 ≠ 138 by decide), sr_eq, sr_eq, sr_ne (show 138 ≠ 139 by decide)]
        by_cases hqp : q = p
        · rw [hqp, up_eq, up_eq]; exact ⟨rfl, rfl⟩
        · rw [up_ne hqp, up_ne hqp]; exact h3 q (by omega)
      refine X_iload dX4_take_111 rfl ?_
      refine X_aload_n dX4_take_113 rfl ?_
      refine X_getI dX4_take_114 gf_X4_51 (by first | assumption | rfl) (by first | assumption | exact Nat.le_of_ble_eq_true rfl | omega) rfl ?_
      rw [h11]
      refine X_icmp_gt (tgt := 181) dX4_take_117 (by decide) (fun b => ?_) (fun b => ?_)
      · exact absurd ((nlt (by omega) (by omega)).mp b) (by omega)
      refine X_aload_n dX4_take_120 rfl ?_
      refine X_getR dX4_take_121 gf_X4_18 (by first | assumption | rfl) (by first | assumption | exact Nat.le_of_ble_eq_true rfl | omega) rfl (by first | assumption | rfl) ?_
      refine X_iload dX4_take_124 rfl ?_
      refine X_aload_n dX4_take_126 rfl ?_
      refine X_getR dX4_take_127 gf_X4_65 (by first | assumption | rfl) (by first | assumption | exact Nat.le_of_ble_eq_true rfl | omega) rfl (by first | assumption | rfl) ?_
      refine X_iload dX4_take_130 rfl ?_
      first | refine X_iald dX4_take_132 (by first | assumption | rfl) (by first | assumption | exact Nat.le_of_ble_eq_true rfl | omega) rfl (by first | decide | omega) (by decide) ?_ | refine X_ildA dX4_take_132 rfl (by omega) ?_ | refine X_ildM dX4_take_132 rfl (by omega) ?_ | refine X_sld dX4_take_132 rfl (by omega) (by omega) ?_
      rw [fl I' hF p hpn]
      refine X_iload dX4_take_133 rfl ?_
      by_cases h0 : p = 0
      · refine X_if_ne (tgt := 142) dX4_take_135 (by decide) (fun b135 => ?_) (fun b135 => ?_)
        · exact absurd (by rw [h0]; rfl) b135
        refine X_iconst (v := nI 0) dX4_take_138 (by decide) ?_
        refine X_goto (tgt := 153) dX4_take_139 (by decide) ?_
        refine tail 0 ?_
        unfold hrg
        rw [if_pos h0]
      · refine X_if_ne (tgt := 142) dX4_take_135 (by decide) (fun b135 => ?_) (fun b135 => ?_)
        · refine X_iconst (v := nI 1) dX4_take_142 (by decide) ?_
          refine X_aload_n dX4_take_143 rfl ?_
          refine X_getR dX4_take_144 gf_X4_9 (by first | assumption | rfl) (by first | assumption | exact Nat.le_of_ble_eq_true rfl | omega) rfl (by first | assumption | rfl) ?_
          refine X_iload dX4_take_147 rfl ?_
          refine X_iconst (v := nI 1) dX4_take_149 (by decide) ?_
          first | refine X_isubN dX4_take_150 (by omega) ?_ | refine X_isub dX4_take_150 ?_
          first | refine X_iald dX4_take_151 (by first | assumption | rfl) (by first | assumption | exact Nat.le_of_ble_eq_true rfl | omega) rfl (by first | decide | omega) (by decide) ?_ | refine X_ildA dX4_take_151 rfl (by omega) ?_ | refine X_ildM dX4_take_151 rfl (by omega) ?_ | refine X_sld dX4_take_151 rfl (by omega) (by omega) ?_
          have ht := (hv.2 (p - 1) (by omega)).1
          rw [(h2 (p - 1) (by omega)).1]
          first | refine X_ishl1 dX4_take_152 (by omega) ?_ | refine X_ishl dX4_take_152 ?_
          refine tail _ ?_
          unfold hrg
          rw [if_neg h0]
        · exact absurd ((neq (b := 0) (by omega) (by decide)).mp b135) h0
  have loop2 : ∀ (m i : Nat) (I' : Nat → Nat → Int32), m = n - i → i ≤ n → Fr [136, 137, 138, 139, 140, 141, 142] I I' → I' 136 11 = nI n → (∀ v, v < 16 → I' 141 v = nI (rdr c n v) ∧ I' 140 v = nI (cst c n v)) → (∀ k, k < i → I' 137 k = nI (c k 0) ∧ I' 142 k = nI (ned c k)) → X G d zX4_take 66 [(0, vr 136), (1, vr 8), (2, vr 121), (3, vr 102), (4, vi (nI i))] [] (NC, I', J, layR sw) 0 0 (qv Q) := by
    intro m
    induction m with
    | zero =>
      intro i I' hm hi hF h11 h1 h2
      obtain rfl : i = n := by omega
      refine X_iload dX4_take_66 rfl ?_
      refine X_aload_n dX4_take_68 rfl ?_
      refine X_getI dX4_take_69 gf_X4_51 (by first | assumption | rfl) (by first | assumption | exact Nat.le_of_ble_eq_true rfl | omega) rfl ?_
      rw [h11]
      refine X_icmp_ge (tgt := 108) dX4_take_72 (by decide) (fun b => ?_) (fun b => ?_)
      · refine X_iconst (v := nI 0) dX4_take_108 (by decide) ?_
        refine X_istore dX4_take_109 rfl rfl ?_
        exact loop3 (i + 1) 0 I' rfl (Nat.zero_le _) hF h11 h1 h2 (fun q h => absurd h (Nat.not_lt_zero q))
      · exact absurd (Int32.le_refl _) b
    | succ m ih =>
      intro i I' hm hi hF h11 h1 h2
      have hin : i < n := by omega
      have hc' : CR I' 8 n c := CR_fr hc hF (by simp) (by simp)
      refine X_iload dX4_take_66 rfl ?_
      refine X_aload_n dX4_take_68 rfl ?_
      refine X_getI dX4_take_69 gf_X4_51 (by first | assumption | rfl) (by first | assumption | exact Nat.le_of_ble_eq_true rfl | omega) rfl ?_
      rw [h11]
      refine X_icmp_ge (tgt := 108) dX4_take_72 (by decide) (fun b => ?_) (fun b => ?_)
      · exact absurd ((nle (by omega) (by omega)).mp b) (by omega)
      refine X_aload_n dX4_take_75 rfl ?_
      refine X_getR dX4_take_76 gf_X4_9 (by first | assumption | rfl) (by first | assumption | exact Nat.le_of_ble_eq_true rfl | omega) rfl (by first | assumption | rfl) ?_
      refine X_iload dX4_take_79 rfl ?_
      refine X_aload_n dX4_take_81 rfl ?_
      refine X_iload dX4_take_82 rfl ?_
      refine X_cVi dX4_take_84 ck_X4_60 rfl rfl (by first | assumption | rfl) (by first | assumption | exact Nat.le_of_ble_eq_true rfl | omega) (by omega) (Nat.le_of_ble_eq_true rfl) (c_tgt (by omega) cd8 hc' hv hin ?_)
      refine X_iast dX4_take_87 (by first | assumption | rfl) (by first | assumption | exact Nat.le_of_ble_eq_true rfl | omega) rfl (by first | decide | omega) (by decide) ?_
      refine X_aload_n dX4_take_88 rfl ?_
      refine X_getR dX4_take_89 gf_X4_27 (by first | assumption | rfl) (by first | assumption | exact Nat.le_of_ble_eq_true rfl | omega) rfl (by first | assumption | rfl) ?_
      refine X_iload dX4_take_92 rfl ?_
      refine X_aload_n dX4_take_94 rfl ?_
      refine X_getR dX4_take_95 gf_X4_64 (by first | assumption | rfl) (by first | assumption | exact Nat.le_of_ble_eq_true rfl | omega) rfl (by first | assumption | rfl) ?_
      refine X_iload dX4_take_98 rfl ?_
      first | refine X_iald dX4_take_100 (by first | assumption | rfl) (by first | assumption | exact Nat.le_of_ble_eq_true rfl | omega) rfl (by first | decide | omega) (by decide) ?_ | refine X_ildA dX4_take_100 rfl (by omega) ?_ | refine X_ildM dX4_take_100 rfl (by omega) ?_ | refine X_sld dX4_take_100 rfl (by omega) (by omega) ?_
      rw [sr_ne (show 124 ≠ 137 by decide), ((fL I' hF).2.1 i hin).2.2.1]
      refine X_iast dX4_take_101 (by first | assumption | rfl) (by first | assumption | exact Nat.le_of_ble_eq_true rfl | omega) rfl (by first | decide | omega) (by decide) ?_
      first | refine X_iinc1 dX4_take_102 rfl rfl rfl ?_ | refine X_iinc dX4_take_102 rfl rfl rfl rfl ?_
      refine X_goto (tgt := 66) dX4_take_105 (by decide) ?_
      refine ih (i + 1) _ (by omega) (by omega) ((hF.tr (Fr.sr (by simp))).tr (Fr.sr (by simp))) (by rw [sr_ne (by decide), sr_ne (by decide)]; exact h11) (fun v h => by rw [sr_ne (by decide), sr_ne (by decide), sr_ne (by decide), sr_ne (by decide)]; exact h1 v h) (fun k h => ?_)
      rw [sr_ne (show 137 ≠ 142 by decide), sr_eq, sr_eq, sr_ne (show 142 ≠ 137 by decide)]
      by_cases hki : k = i
      · rw [hki, up_eq, up_eq]; exact ⟨rfl, rfl⟩
      · rw [up_ne hki, up_ne hki]; exact h2 k (by omega)
  have loop1 : ∀ (m v : Nat) (I' : Nat → Nat → Int32), m = 16 - v → v ≤ 16 → Fr [136, 137, 138, 139, 140, 141, 142] I I' → I' 136 11 = nI n → (∀ k, k < v → I' 141 k = nI (rdr c n k) ∧ I' 140 k = nI (cst c n k)) → X G d zX4_take 11 [(0, vr 136), (1, vr 8), (2, vr 121), (3, vr 102), (4, vi (nI v))] [] (NC, I', J, layR sw) 0 0 (qv Q) := by
    intro m
    induction m with
    | zero =>
      intro v I' hm hi hF h11 h1
      obtain rfl : v = 16 := by omega
      refine X_iload dX4_take_11 rfl ?_
      refine X_bipush (v := nI 16) dX4_take_13 (by decide) ?_
      refine X_icmp_ge (tgt := 63) dX4_take_15 (by decide) (fun b => ?_) (fun b => ?_)
      · refine X_iconst (v := nI 0) dX4_take_63 (by decide) ?_
        refine X_istore dX4_take_64 rfl rfl ?_
        exact loop2 n 0 I' rfl (Nat.zero_le _) hF h11 h1 (fun q h => absurd h (Nat.not_lt_zero q))
      · exact absurd (by decide) b
    | succ m ih =>
      intro v I' hm hi hF h11 h1
      have hin : v < 16 := by omega
      obtain ⟨r1, r2⟩ := (fL I' hF).2.2 v hin
      refine X_iload dX4_take_11 rfl ?_
      refine X_bipush (v := nI 16) dX4_take_13 (by decide) ?_
      refine X_icmp_ge (tgt := 63) dX4_take_15 (by decide) (fun b => ?_) (fun b => ?_)
      · exact absurd ((nle (by omega) (by omega)).mp b) (by omega)
      refine X_aload_n dX4_take_18 rfl ?_
      refine X_getR dX4_take_19 gf_X4_24 (by first | assumption | rfl) (by first | assumption | exact Nat.le_of_ble_eq_true rfl | omega) rfl (by first | assumption | rfl) ?_
      refine X_iload dX4_take_22 rfl ?_
      refine X_aload_n dX4_take_24 rfl ?_
      refine X_getR dX4_take_25 gf_X4_52 (by first | assumption | rfl) (by first | assumption | exact Nat.le_of_ble_eq_true rfl | omega) rfl (by first | assumption | rfl) ?_
      refine X_iload dX4_take_28 rfl ?_
      first | refine X_iald dX4_take_30 (by first | assumption | rfl) (by first | assumption | exact Nat.le_of_ble_eq_true rfl | omega) rfl (by first | decide | omega) (by decide) ?_ | refine X_ildA dX4_take_30 rfl (by omega) ?_ | refine X_ildM dX4_take_30 rfl (by omega) ?_ | refine X_sld dX4_take_30 rfl (by omega) (by omega) ?_
      rw [r1]
      refine X_iast dX4_take_31 (by first | assumption | rfl) (by first | assumption | exact Nat.le_of_ble_eq_true rfl | omega) rfl (by first | decide | omega) (by decide) ?_
      refine X_aload_n dX4_take_32 rfl ?_
      refine X_getR dX4_take_33 gf_X4_21 (by first | assumption | rfl) (by first | assumption | exact Nat.le_of_ble_eq_true rfl | omega) rfl (by first | assumption | rfl) ?_
      refine X_iload dX4_take_36 rfl ?_
      refine X_ldc dX4_take_38 kc_X4_55 ?_
      rw [e1]
      refine X_aload_n dX4_take_40 rfl ?_
      refine X_getR dX4_take_41 gf_X4_56 (by first | assumption | rfl) (by first | assumption | exact Nat.le_of_ble_eq_true rfl | omega) rfl (by first | assumption | rfl) ?_
      refine X_iload dX4_take_44 rfl ?_
      first | refine X_iald dX4_take_46 (by first | assumption | rfl) (by first | assumption | exact Nat.le_of_ble_eq_true rfl | omega) rfl (by first | decide | omega) (by decide) ?_ | refine X_ildA dX4_take_46 rfl (by omega) ?_ | refine X_ildM dX4_take_46 rfl (by omega) ?_ | refine X_sld dX4_take_46 rfl (by omega) (by omega) ?_
      rw [sr_ne (show 127 ≠ 141 by decide), r2]
      refine X_ldc dX4_take_47 kc_X4_59 ?_
      rw [e2]
      first | refine X_imulN dX4_take_49 ?_ | refine X_imul dX4_take_49 ?_
      first | refine X_iaddN dX4_take_50 ?_ | refine X_iadd dX4_take_50 ?_
      refine X_iconst (v := nI 1) dX4_take_51 (by decide) ?_
      refine X_iload dX4_take_52 rfl ?_
      first | refine X_ishl1 dX4_take_54 (by omega) ?_ | refine X_ishl dX4_take_54 ?_
      first | refine X_iaddN dX4_take_55 ?_ | refine X_iadd dX4_take_55 ?_
      refine X_iast dX4_take_56 (by first | assumption | rfl) (by first | assumption | exact Nat.le_of_ble_eq_true rfl | omega) rfl (by first | decide | omega) (by decide) ?_
      first | refine X_iinc1 dX4_take_57 rfl rfl rfl ?_ | refine X_iinc dX4_take_57 rfl rfl rfl rfl ?_
      refine X_goto (tgt := 11) dX4_take_60 (by decide) ?_
      refine ih (v + 1) _ (by omega) (by omega) ((hF.tr (Fr.sr (by simp))).tr (Fr.sr (by simp))) (by rw [sr_ne (by decide), sr_ne (by decide)]; exact h11) (fun k h => ?_)
      rw [sr_ne (show 141 ≠ 140 by decide), sr_eq, sr_eq, sr_ne (show 140 ≠ 141 by decide)]
      by_cases hki : k = v
      · rw [hki, up_eq, up_eq]; exact ⟨rfl, rfl⟩
      · rw [up_ne hki, up_ne hki]; exact h1 k (by omega)
  refine Y_of rfl rfl (Nat.le_of_ble_eq_true rfl) rfl ?_
  refine X_aload_n dX4_take_0 rfl ?_
  refine X_aload_n dX4_take_1 rfl ?_
  refine X_getI dX4_take_2 gf_X4_45 (by first | assumption | rfl) (by first | assumption | exact Nat.le_of_ble_eq_true rfl | omega) rfl ?_
  rw [hc.1]
  refine X_putI dX4_take_5 gf_X4_51 (Or.inl rfl) (by first | assumption | rfl) (by first | assumption | exact Nat.le_of_ble_eq_true rfl | omega) rfl ?_
  refine X_iconst (v := nI 0) dX4_take_8 (by decide) ?_
  refine X_istore dX4_take_9 rfl rfl ?_
  exact loop1 16 0 _ rfl (Nat.zero_le _) (Fr.sr (by simp)) (by rw [sr_eq, up_eq]) (fun q h => absurd h (Nat.not_lt_zero q))
theorem c_weighValues {Q : Mm → Prop} (hd : 5 ≤ d) (hv : VSt s) (hi : CInv I s) (hQ : ∀ I', Fr [103, 122, 123, 124, 125, 126, 127, 136, 137, 138, 139, 140, 141, 142] I I' → HK I' (dC s.2.1).1 (dW s.2.1) (dC s.2.1).2 → Q (NC, I', J, layR sw)) : Y G d zX11_weighValues [vr 0] (NC, I, J, layR sw) 0 0 (qv Q) := by
  have hn := hv.2.1.1.1
  have hW : dW s.2.1 < 16 := by have := hv.2.1.2.2.1; omega
  refine Y_of rfl rfl (Nat.le_of_ble_eq_true rfl) rfl ?_
  refine X_aload_n dX11_weighValues_0 rfl ?_
  refine X_getR dX11_weighValues_1 gf_X11_48 (by first | assumption | rfl) (by first | assumption | exact Nat.le_of_ble_eq_true rfl | omega) rfl (by first | assumption | rfl) ?_
  refine X_aload_n dX11_weighValues_4 rfl ?_
  refine X_getR dX11_weighValues_5 gf_X11_19 (by first | assumption | rfl) (by first | assumption | exact Nat.le_of_ble_eq_true rfl | omega) rfl (by first | assumption | rfl) ?_
  refine X_getR dX11_weighValues_8 gf_X11_106 (by first | assumption | rfl) (by first | assumption | exact Nat.le_of_ble_eq_true rfl | omega) rfl (by first | assumption | rfl) ?_
  refine X_cVv dX11_weighValues_11 ck_X11_184 rfl rfl (by first | assumption | rfl) (by first | assumption | exact Nat.le_of_ble_eq_true rfl | omega) (by omega) (Nat.le_of_ble_eq_true rfl) (c_follow (by omega) hi.2.1.1 hv.2.1.1 (fun I1 f1 hL => ?_))
  refine X_aload_n dX11_weighValues_14 rfl ?_
  refine X_getR dX11_weighValues_15 gf_X11_34 (by first | assumption | rfl) (by first | assumption | exact Nat.le_of_ble_eq_true rfl | omega) rfl (by first | assumption | rfl) ?_
  refine X_aload_n dX11_weighValues_18 rfl ?_
  refine X_getR dX11_weighValues_19 gf_X11_19 (by first | assumption | rfl) (by first | assumption | exact Nat.le_of_ble_eq_true rfl | omega) rfl (by first | assumption | rfl) ?_
  refine X_getR dX11_weighValues_22 gf_X11_106 (by first | assumption | rfl) (by first | assumption | exact Nat.le_of_ble_eq_true rfl | omega) rfl (by first | assumption | rfl) ?_
  refine X_aload_n dX11_weighValues_25 rfl ?_
  refine X_getR dX11_weighValues_26 gf_X11_19 (by first | assumption | rfl) (by first | assumption | exact Nat.le_of_ble_eq_true rfl | omega) rfl (by first | assumption | rfl) ?_
  refine X_getI dX11_weighValues_29 gf_X11_120 (by first | assumption | rfl) (by first | assumption | exact Nat.le_of_ble_eq_true rfl | omega) rfl ?_
  rw [show I1 7 5 = nI (dW s.2.1) by rw [f1 7 (by simp)]; exact hi.2.1.2.2.1]
  refine X_cVv dX11_weighValues_32 ck_X11_148 rfl rfl (by first | assumption | rfl) (by first | assumption | exact Nat.le_of_ble_eq_true rfl | omega) (by omega) (Nat.le_of_ble_eq_true rfl) (c_followLive (f := 102) (by omega) fa102 (CR_fr hi.2.1.1 f1 (by simp) (by simp)) hv.2.1.1 hW (fun I2 f2 hl => ?_))
  refine X_aload_n dX11_weighValues_35 rfl ?_
  refine X_getR dX11_weighValues_36 gf_X11_62 (by first | assumption | rfl) (by first | assumption | exact Nat.le_of_ble_eq_true rfl | omega) rfl (by first | assumption | rfl) ?_
  refine X_aload_n dX11_weighValues_39 rfl ?_
  refine X_getR dX11_weighValues_40 gf_X11_19 (by first | assumption | rfl) (by first | assumption | exact Nat.le_of_ble_eq_true rfl | omega) rfl (by first | assumption | rfl) ?_
  refine X_getR dX11_weighValues_43 gf_X11_106 (by first | assumption | rfl) (by first | assumption | exact Nat.le_of_ble_eq_true rfl | omega) rfl (by first | assumption | rfl) ?_
  refine X_aload_n dX11_weighValues_46 rfl ?_
  refine X_getR dX11_weighValues_47 gf_X11_48 (by first | assumption | rfl) (by first | assumption | exact Nat.le_of_ble_eq_true rfl | omega) rfl (by first | assumption | rfl) ?_
  refine X_aload_n dX11_weighValues_50 rfl ?_
  refine X_getR dX11_weighValues_51 gf_X11_34 (by first | assumption | rfl) (by first | assumption | exact Nat.le_of_ble_eq_true rfl | omega) rfl (by first | assumption | rfl) ?_
  refine X_cVv dX11_weighValues_54 ck_X11_315 rfl rfl (by first | assumption | rfl) (by first | assumption | exact Nat.le_of_ble_eq_true rfl | omega) (by omega) (Nat.le_of_ble_eq_true rfl) (c_take (by omega) (CR_fr (CR_fr hi.2.1.1 f1 (by simp) (by simp)) f2 (by simp) (by simp)) hv.2.1.1 hW (LK_fr hL f2 (fun k a b => by simp; omega)) hl (fun I3 f3 hK => ?_))
  exact X_vret dX11_weighValues_57 rfl ⟨rfl, hQ I3 (((f1.sub (by simp)).tr (f2.sub (by simp))).tr (f3.sub (by simp))) hK⟩
def sp_held (s : SS) (x : Int32) : Int32 := if x < 0 ∨ nI (dC s.2.1).1 < x then -1 else nI (hlB (dC s.2.1).2 (dC s.2.1).1 (dW s.2.1) (fun i => i) x.toNatClampNeg)
def sp_width (s : SS) : Int32 := nI (wdB (dC s.2.1).2 (dC s.2.1).1 (dW s.2.1) (fun i => i) ((dC s.2.1).1 + 1))
theorem c_heldAt {Q : Int32 → Mm → Prop} {a : Nat} (hn : n ≤ 12) (ha : a ≤ n) (hK : HK I n W c) (hQ : Q (nI (vin c (hrg c W n a) a)) (NC, I, J, layR sw)) : Y G d zX4_heldAt [vr 136, vi (nI a)] (NC, I, J, layR sw) 0 0 (qi Q) := by
  refine Y_of rfl rfl (Nat.le_of_ble_eq_true rfl) rfl ?_
  refine X_iload_n dX4_heldAt_0 rfl ?_
  refine X_if_lt (tgt := 12) dX4_heldAt_1 (by decide) (fun b1 => ?_) (fun b1 => ?_)
  · exact absurd b1 (nneg (by omega))
  refine X_iload_n dX4_heldAt_4 rfl ?_
  refine X_aload_n dX4_heldAt_5 rfl ?_
  refine X_getI dX4_heldAt_6 gf_X4_51 (by first | assumption | rfl) (by first | assumption | exact Nat.le_of_ble_eq_true rfl | omega) rfl ?_
  rw [hK.1]
  refine X_icmp_le (tgt := 16) dX4_heldAt_9 (by decide) (fun b9 => ?_) (fun b9 => ?_)
  · refine X_aload_n dX4_heldAt_16 rfl ?_
    refine X_getR dX4_heldAt_17 gf_X4_15 (by first | assumption | rfl) (by first | assumption | exact Nat.le_of_ble_eq_true rfl | omega) rfl (by first | assumption | rfl) ?_
    refine X_iload_n dX4_heldAt_20 rfl ?_
    first | refine X_iald dX4_heldAt_21 (by first | assumption | rfl) (by first | assumption | exact Nat.le_of_ble_eq_true rfl | omega) rfl (by first | decide | omega) (by decide) ?_ | refine X_ildA dX4_heldAt_21 rfl (by omega) ?_ | refine X_ildM dX4_heldAt_21 rfl (by omega) ?_ | refine X_sld dX4_heldAt_21 rfl (by omega) (by omega) ?_
    rw [(hK.2.2.2.1 a (by omega)).2]
    exact X_iret dX4_heldAt_22 rfl ⟨_, rfl, hQ⟩
  · exact absurd ((nle (by omega) (by omega)).mpr ha) b9
set_option maxRecDepth 20000 in
theorem c_widest {Q : Int32 → Mm → Prop} (hd : 1 ≤ d) (hv : VC n c) (hW : W < 16) (hK : HK I n W c) (hQ : Q (nI (wdB c n W (fun i => i) (n + 1))) (NC, I, J, layR sw)) : Y G d zX4_widest [vr 136] (NC, I, J, layR sw) 0 0 (qi Q) := by
  have hn := hv.1
  have loop : ∀ (m p : Nat), m = n + 1 - p → p ≤ n + 1 → X G d zX4_widest 4 [(0, vr 136), (1, vi (nI (wdB c n W (fun i => i) p))), (2, vi (nI p))] [] (NC, I, J, layR sw) 0 0 (qi Q) := by
    intro m
    induction m with
    | zero =>
      intro p hm hp
      obtain rfl : p = n + 1 := by omega
      refine X_iload_n dX4_widest_4 rfl ?_
      refine X_aload_n dX4_widest_5 rfl ?_
      refine X_getI dX4_widest_6 gf_X4_51 (by first | assumption | rfl) (by first | assumption | exact Nat.le_of_ble_eq_true rfl | omega) rfl ?_
      rw [hK.1]
      refine X_icmp_gt (tgt := 32) dX4_widest_9 (by decide) (fun b => ?_) (fun b => ?_)
      · refine X_iload_n dX4_widest_32 rfl ?_
        exact X_iret dX4_widest_33 rfl ⟨_, rfl, hQ⟩
      · exact absurd ((nlt (by omega) (by omega)).mpr (Nat.lt_succ_self n)) b
    | succ m ih =>
      intro p hm hp
      have hpn : p ≤ n := by omega
      have b1 := wdB_le (c := c) (n := n) (W := W) (pl := fun i => i) p
      have b2 := on_le (hlB c n W (fun i => i) p) 16
      refine X_iload_n dX4_widest_4 rfl ?_
      refine X_aload_n dX4_widest_5 rfl ?_
      refine X_getI dX4_widest_6 gf_X4_51 (by first | assumption | rfl) (by first | assumption | exact Nat.le_of_ble_eq_true rfl | omega) rfl ?_
      rw [hK.1]
      refine X_icmp_gt (tgt := 32) dX4_widest_9 (by decide) (fun b => ?_) (fun b => ?_)
      · exact absurd ((nlt (by omega) (by omega)).mp b) (by omega)
      refine X_iload_n dX4_widest_12 rfl ?_
      refine X_aload_n dX4_widest_13 rfl ?_
      refine X_getR dX4_widest_14 gf_X4_15 (by first | assumption | rfl) (by first | assumption | exact Nat.le_of_ble_eq_true rfl | omega) rfl (by first | assumption | rfl) ?_
      refine X_iload_n dX4_widest_17 rfl ?_
      first | refine X_iald dX4_widest_18 (by first | assumption | rfl) (by first | assumption | exact Nat.le_of_ble_eq_true rfl | omega) rfl (by first | decide | omega) (by decide) ?_ | refine X_ildA dX4_widest_18 rfl (by omega) ?_ | refine X_ildM dX4_widest_18 rfl (by omega) ?_ | refine X_sld dX4_widest_18 rfl (by omega) (by omega) ?_
      rw [(hK.2.2.2.1 p (by omega)).2, held_eq hW hv hpn (fun _ _ => rfl)]
      refine X_cSi dX4_widest_19 ck_X4_80 rfl rfl (by omega) (Nat.le_of_ble_eq_true rfl) (c_bitCount (hlB_lt hn) ?_)
      refine X_cSi dX4_widest_22 ck_X4_85 rfl rfl (by omega) (Nat.le_of_ble_eq_true rfl) (c_max (by omega) (by omega) ?_)
      refine X_istore_n dX4_widest_25 rfl rfl ?_
      first | refine X_iinc1 dX4_widest_26 rfl rfl rfl ?_ | refine X_iinc dX4_widest_26 rfl rfl rfl rfl ?_
      refine X_goto (tgt := 4) dX4_widest_29 (by decide) ?_
      exact ih (p + 1) (by omega) (by omega)
  refine Y_of rfl rfl (Nat.le_of_ble_eq_true rfl) rfl ?_
  refine X_iconst (v := nI 0) dX4_widest_0 (by decide) ?_
  refine X_istore_n dX4_widest_1 rfl rfl ?_
  refine X_iconst (v := nI 0) dX4_widest_2 (by decide) ?_
  refine X_istore_n dX4_widest_3 rfl rfl ?_
  exact loop (n + 1) 0 rfl (Nat.zero_le _)
set_option maxRecDepth 20000 in
theorem C_held {x : Int32} (hd : 6 ≤ d) (hv : VSt s) (hi : CInv I s) : Y G d zX11_held [vr 0, vi x] (NC, I, J, layR sw) 0 0 (qi (PC s (sp_held s x) I J)) := by
  have hn := hv.2.1.1.1
  have hW : dW s.2.1 < 16 := by have := hv.2.1.2.2.1; omega
  have h81 : I 8 1 = nI (dC s.2.1).1 := hi.2.1.1.1
  refine Y_of rfl rfl (Nat.le_of_ble_eq_true rfl) rfl ?_
  unfold sp_held
  rcases pcase hn x with h | ⟨a, ha, rfl⟩
  · rw [if_pos h]
    refine X_aload_n dX11_held_0 rfl ?_
    refine X_iload_n dX11_held_1 rfl ?_
    refine X_cVi dX11_held_2 ck_X11_145 rfl rfl (by first | assumption | rfl) (by first | assumption | exact Nat.le_of_ble_eq_true rfl | omega) (by omega) (Nat.le_of_ble_eq_true rfl) (c_isNoPlace_t h81 h ?_)
    refine X_if_eq (tgt := 10) dX11_held_5 (by decide) (fun b => ?_) (fun b => ?_)
    · exact absurd b (by decide)
    · refine X_iconst (v := (-1)) dX11_held_8 (by decide) ?_
      exact X_iret dX11_held_9 rfl ⟨_, rfl, PC_same hi⟩
  · rw [if_neg (pcase_n hn ha), nI_clamp (by omega)]
    refine X_aload_n dX11_held_0 rfl ?_
    refine X_iload_n dX11_held_1 rfl ?_
    refine X_cVi dX11_held_2 ck_X11_145 rfl rfl (by first | assumption | rfl) (by first | assumption | exact Nat.le_of_ble_eq_true rfl | omega) (by omega) (Nat.le_of_ble_eq_true rfl) (c_isNoPlace_f h81 hn ha ?_)
    refine X_if_eq (tgt := 10) dX11_held_5 (by decide) (fun b => ?_) (fun b => ?_)
    · refine X_aload_n dX11_held_10 rfl ?_
      refine X_cVv dX11_held_11 ck_X11_218 rfl rfl (by first | assumption | rfl) (by first | assumption | exact Nat.le_of_ble_eq_true rfl | omega) (by omega) (Nat.le_of_ble_eq_true rfl) (c_weighValues (by omega) hv hi (fun I1 f1 hK => ?_))
      refine X_aload_n dX11_held_14 rfl ?_
      refine X_getR dX11_held_15 gf_X11_62 (by first | assumption | rfl) (by first | assumption | exact Nat.le_of_ble_eq_true rfl | omega) rfl (by first | assumption | rfl) ?_
      refine X_iload_n dX11_held_18 rfl ?_
      refine X_cVi dX11_held_19 ck_X11_221 rfl rfl (by first | assumption | rfl) (by first | assumption | exact Nat.le_of_ble_eq_true rfl | omega) (by omega) (Nat.le_of_ble_eq_true rfl) (c_heldAt hn ha hK ?_)
      rw [held_eq hW hv.2.1.1 ha (fun _ _ => rfl)]
      exact X_iret dX11_held_22 rfl ⟨_, rfl, PC_scr hi hv [103, 122, 123, 124, 125, 126, 127, 136, 137, 138, 139, 140, 141, 142] f1 (by decide)⟩
    · exact absurd rfl b
set_option maxRecDepth 20000 in
theorem C_width (hd : 6 ≤ d) (hv : VSt s) (hi : CInv I s) : Y G d zX11_width [vr 0] (NC, I, J, layR sw) 0 0 (qi (PC s (sp_width s) I J)) := by
  have hn := hv.2.1.1.1
  have hW : dW s.2.1 < 16 := by have := hv.2.1.2.2.1; omega
  refine Y_of rfl rfl (Nat.le_of_ble_eq_true rfl) rfl ?_
  refine X_aload_n dX11_width_0 rfl ?_
  refine X_cVv dX11_width_1 ck_X11_218 rfl rfl (by first | assumption | rfl) (by first | assumption | exact Nat.le_of_ble_eq_true rfl | omega) (by omega) (Nat.le_of_ble_eq_true rfl) (c_weighValues (by omega) hv hi (fun I1 f1 hK => ?_))
  refine X_aload_n dX11_width_4 rfl ?_
  refine X_getR dX11_width_5 gf_X11_62 (by first | assumption | rfl) (by first | assumption | exact Nat.le_of_ble_eq_true rfl | omega) rfl (by first | assumption | rfl) ?_
  refine X_cVi dX11_width_8 ck_X11_224 rfl rfl (by first | assumption | rfl) (by first | assumption | exact Nat.le_of_ble_eq_true rfl | omega) (by omega) (Nat.le_of_ble_eq_true rfl) (c_widest (by omega) hv.2.1.1 hW hK ?_)
  exact X_iret dX11_width_11 rfl ⟨_, rfl, PC_scr hi hv [103, 122, 123, 124, 125, 126, 127, 136, 137, 138, 139, 140, 141, 142] f1 (by decide)⟩
end HO
