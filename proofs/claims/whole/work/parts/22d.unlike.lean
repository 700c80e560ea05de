/-! the first row that is unlike -/
def nal (S : Nat) (y z : Nat → Nat) : Nat → Bool
  | 0 => false
  | r + 1 => nal S y z r || (S.testBit r && decide (y r ≠ z r))
def ffR (p : Nat → Bool) : Nat → Option Nat
  | 0 => none
  | m + 1 => match ffR p m with
    | some r => some r
    | none => if p m = true then some m else none
theorem ffR_none {p : Nat → Bool} : ∀ m, (∀ q, q < m → p q = false) → ffR p m = none
  | 0, _ => rfl
  | m + 1, h => by
    show (match ffR p m with | some r => some r | none => if p m = true then some m else none) = none
    rw [ffR_none m (fun q hq => h q (by omega))]
    dsimp only
    rw [if_neg (by rw [h m (Nat.lt_succ_self m)]; decide)]
theorem ffR_some {p : Nat → Bool} {r : Nat} (hp : p r = true) (hb : ∀ q, q < r → p q = false) : ∀ m, r < m → ffR p m = some r
  | 0, h => absurd h (Nat.not_lt_zero r)
  | m + 1, h => by
    show (match ffR p m with | some r => some r | none => if p m = true then some m else none) = some r
    by_cases q : r = m
    · subst q
      rw [ffR_none r hb]
      dsimp only
      rw [if_pos hp]
    · rw [ffR_some hp hb m (by omega)]
theorem ffR_lt {p : Nat → Bool} {r : Nat} : ∀ m, ffR p m = some r → r < m
  | 0, h => absurd h (by simp [ffR])
  | m + 1, h => by
    have e : ffR p (m + 1) = (match ffR p m with | some r => some r | none => if p m = true then some m else none) := rfl
    rw [e] at h
    rcases q : ffR p m with _ | z
    · rw [q] at h
      dsimp only at h
      by_cases w : p m = true
      · rw [if_pos w] at h
        rw [← Option.some.inj h]; exact Nat.lt_succ_self m
      · rw [if_neg w] at h
        exact absurd h (by simp)
    · rw [q] at h
      dsimp only at h
      have := ffR_lt m (q.trans h)
      omega
def fuI (b : Option Nat) : Int32 := match b with
  | none => -6
  | some r => nI r
theorem least {f : Nat → Bool} : ∀ n, (∃ j, j < n ∧ f j = true) → ∃ j, j < n ∧ f j = true ∧ ∀ i, i < j → f i = false
  | 0, ⟨j, h, _⟩ => absurd h (Nat.not_lt_zero j)
  | n + 1, ⟨j, h1, h2⟩ => by
    by_cases q : ∃ j, j < n ∧ f j = true
    · obtain ⟨j, a, b, c⟩ := least n q
      exact ⟨j, by omega, b, c⟩
    · have hj : j = n := by
        rcases Nat.lt_or_ge j n with z | z
        · exact absurd ⟨j, z, h2⟩ q
        · omega
      subst hj
      refine ⟨j, h1, h2, fun i hi => ?_⟩
      cases z : f i
      · rfl
      · exact absurd ⟨i, hi, z⟩ q
def pUn (S n1 : Nat) (c1 : Nat → Nat → Nat) (n2 : Nat) (c2 : Nat → Nat → Nat) (R : Nat) : Bool := nal S (rn c1 (upk R) n1) (rn c2 (upk R) n2) 4
def df (a b : Nat) : Nat → Bool
  | 0 => false
  | i + 1 => df a b i || Bool.xor (a.testBit i) (b.testBit i)
theorem df_3 : ∀ a, a < 8 → ∀ b, b < 8 → df a b 3 = decide (a ≠ b) := by decide +kernel
theorem hiT : ∀ m, m < 3 → ∀ j, j < 64 → lb (highF m) j = (j / 8).testBit m := by decide +kernel
theorem loT : ∀ m, m < 3 → ∀ j, j < 64 → lb (lowF m) j = (j % 8).testBit m := by decide +kernel
theorem bkA : ∀ b, b < 64 → ∀ m, m < 3 → b.testBit (3 + m) = (b / 8).testBit m ∧ b.testBit m = (b % 8).testBit m := by decide +kernel
theorem upkB {b j : Nat} (hb : b < 64) (hj : j < 64) : upk (64 * b + j) 0 = b / 8 ∧ upk (64 * b + j) 1 = b % 8 ∧ upk (64 * b + j) 2 = j / 8 ∧ upk (64 * b + j) 3 = j % 8 := by
  refine ⟨?_, ?_, ?_, ?_⟩
  · show (64 * b + j) / 512 % 8 = b / 8; omega
  · show (64 * b + j) / 64 % 8 = b % 8; omega
  · show (64 * b + j) / 8 % 8 = j / 8; omega
  · show (64 * b + j) / 1 % 8 = j % 8; omega
section CU
variable {G : GG} {d : Nat} {sw : Bool} {I : Nat → Nat → Int32} {J : Nat → Nat → Int64} {s : SS} {n W : Nat} {c : Nat → Nat → Nat}
theorem rw148 : IsRw 148 := ⟨rfl, rfl, fun _ => rfl, by decide⟩
theorem rw150 : IsRw 150 := ⟨rfl, rfl, fun _ => rfl, by decide⟩
set_option maxRecDepth 20000 in
theorem c_beginBlock {Q : Mm → Prop} {k b : Nat} (hk : IsRw k) (hb : b < 64) (hQ : ∀ J', Fr [k + 1] J J' → BR J' k (fun j => upk (64 * b + j)) → Q (NC, I, J', layR sw)) : Y G d zX8_beginBlock [vr k, vi (nI b)] (NC, I, J, layR sw) 0 0 (qv Q) := by
  obtain ⟨hs, hs', hr, hkn⟩ := hk
  have hr := hr sw
  have hk0 : k < NC := by omega
  have loop : ∀ (q m : Nat) (J' : Nat → Nat → Int64), q = 3 - m → m ≤ 3 → Fr [k + 1] J J' → (∀ i, i < m → ∀ r, r < 4 → ∀ j, j < 64 → lb (J' (k + 1) (r * 3 + i)) j = (upk (64 * b + j) r).testBit i) → X G d zX8_beginBlock 2 [(0, vr k), (1, vi (nI b)), (2, vi (nI m))] [] (NC, I, J', layR sw) 0 0 (qv Q) := by
    intro q
    induction q with
    | zero =>
      intro m J' hq hm hF hB
      obtain rfl : m = 3 := by omega
      refine X_iload_n dX8_beginBlock_2 rfl ?_
      refine X_iconst (v := nI 3) dX8_beginBlock_3 (by decide) ?_
      refine X_icmp_ge (tgt := 71) dX8_beginBlock_4 (by decide) (fun b4 => ?_) (fun b4 => ?_)
      · exact X_vret dX8_beginBlock_71 rfl ⟨rfl, hQ J' hF (fun r hr m hm j hj => hB m hm r hr j hj)⟩
      · exact absurd (by decide) b4
    | succ q ih =>
      intro m J' hq hm hF hB
      have hm3 : m < 3 := by omega
      refine X_iload_n dX8_beginBlock_2 rfl ?_
      refine X_iconst (v := nI 3) dX8_beginBlock_3 (by decide) ?_
      refine X_icmp_ge (tgt := 71) dX8_beginBlock_4 (by decide) (fun b4 => ?_) (fun b4 => ?_)
      · exact absurd ((nle (by omega) (by omega)).mp b4) (by omega)
      refine X_aload_n dX8_beginBlock_7 rfl ?_
      refine X_getR dX8_beginBlock_8 gf_X8_11 (by first | assumption | rfl) (by first | assumption | exact Nat.le_of_ble_eq_true rfl | omega) rfl (by first | assumption | rfl) ?_
      refine X_iload_n dX8_beginBlock_11 rfl ?_
      refine X_iload_n dX8_beginBlock_12 rfl ?_
      refine X_iconst (v := nI 3) dX8_beginBlock_13 (by decide) ?_
      refine X_iload_n dX8_beginBlock_14 rfl ?_
      first | refine X_iaddN dX8_beginBlock_15 ?_ | refine X_iadd dX8_beginBlock_15 ?_
      first | refine X_ishrN dX8_beginBlock_16 (by omega) (by omega) ?_ | refine X_ishr dX8_beginBlock_16 ?_
      refine X_iconst (v := nI 1) dX8_beginBlock_17 (by decide) ?_
      first | refine X_iandN dX8_beginBlock_18 ?_ | refine X_iandC dX8_beginBlock_18 ?_ | refine X_iand dX8_beginBlock_18 ?_
      rw [Nat.and_one_is_mod, bit_mod]
      refine X_i2l dX8_beginBlock_19 rfl ?_
      refine X_lneg dX8_beginBlock_20 ?_
      refine X_last dX8_beginBlock_21 (by first | assumption | rfl) (by first | assumption | exact Nat.le_of_ble_eq_true rfl | omega) rfl (by first | decide | omega) (by decide) ?_
      refine X_aload_n dX8_beginBlock_22 rfl ?_
      refine X_getR dX8_beginBlock_23 gf_X8_11 (by first | assumption | rfl) (by first | assumption | exact Nat.le_of_ble_eq_true rfl | omega) rfl (by first | assumption | rfl) ?_
      refine X_iconst (v := nI 3) dX8_beginBlock_26 (by decide) ?_
      refine X_iload_n dX8_beginBlock_27 rfl ?_
      first | refine X_iaddN dX8_beginBlock_28 ?_ | refine X_iadd dX8_beginBlock_28 ?_
      refine X_iload_n dX8_beginBlock_29 rfl ?_
      refine X_iload_n dX8_beginBlock_30 rfl ?_
      first | refine X_ishrN dX8_beginBlock_31 (by omega) (by omega) ?_ | refine X_ishr dX8_beginBlock_31 ?_
      refine X_iconst (v := nI 1) dX8_beginBlock_32 (by decide) ?_
      first | refine X_iandN dX8_beginBlock_33 ?_ | refine X_iandC dX8_beginBlock_33 ?_ | refine X_iand dX8_beginBlock_33 ?_
      rw [Nat.and_one_is_mod, bit_mod]
      refine X_i2l dX8_beginBlock_34 rfl ?_
      refine X_lneg dX8_beginBlock_35 ?_
      refine X_last dX8_beginBlock_36 (by first | assumption | rfl) (by first | assumption | exact Nat.le_of_ble_eq_true rfl | omega) rfl (by first | decide | omega) (by decide) ?_
      refine X_aload_n dX8_beginBlock_37 rfl ?_
      refine X_getR dX8_beginBlock_38 gf_X8_11 (by first | assumption | rfl) (by first | assumption | exact Nat.le_of_ble_eq_true rfl | omega) rfl (by first | assumption | rfl) ?_
      refine X_bipush (v := nI 6) dX8_beginBlock_41 (by decide) ?_
      refine X_iload_n dX8_beginBlock_43 rfl ?_
      first | refine X_iaddN dX8_beginBlock_44 ?_ | refine X_iadd dX8_beginBlock_44 ?_
      refine X_gets dX8_beginBlock_45 gs_X8_15 hzH ?_
      refine X_iload_n dX8_beginBlock_48 rfl ?_
      first | refine X_lald dX8_beginBlock_49 (by first | assumption | rfl) (by first | assumption | exact Nat.le_of_ble_eq_true rfl | omega) rfl (by first | decide | omega) (by decide) ?_ | refine X_lldH dX8_beginBlock_49 rfl (by omega) ?_ | refine X_lldL dX8_beginBlock_49 rfl (by omega) ?_
      refine X_last dX8_beginBlock_50 (by first | assumption | rfl) (by first | assumption | exact Nat.le_of_ble_eq_true rfl | omega) rfl (by first | decide | omega) (by decide) ?_
      refine X_aload_n dX8_beginBlock_51 rfl ?_
      refine X_getR dX8_beginBlock_52 gf_X8_11 (by first | assumption | rfl) (by first | assumption | exact Nat.le_of_ble_eq_true rfl | omega) rfl (by first | assumption | rfl) ?_
      refine X_bipush (v := nI 9) dX8_beginBlock_55 (by decide) ?_
      refine X_iload_n dX8_beginBlock_57 rfl ?_
      first | refine X_iaddN dX8_beginBlock_58 ?_ | refine X_iadd dX8_beginBlock_58 ?_
      refine X_gets dX8_beginBlock_59 gs_X8_18 hzL ?_
      refine X_iload_n dX8_beginBlock_62 rfl ?_
      first | refine X_lald dX8_beginBlock_63 (by first | assumption | rfl) (by first | assumption | exact Nat.le_of_ble_eq_true rfl | omega) rfl (by first | decide | omega) (by decide) ?_ | refine X_lldH dX8_beginBlock_63 rfl (by omega) ?_ | refine X_lldL dX8_beginBlock_63 rfl (by omega) ?_
      refine X_last dX8_beginBlock_64 (by first | assumption | rfl) (by first | assumption | exact Nat.le_of_ble_eq_true rfl | omega) rfl (by first | decide | omega) (by decide) ?_
      first | refine X_iinc1 dX8_beginBlock_65 rfl rfl rfl ?_ | refine X_iinc dX8_beginBlock_65 rfl rfl rfl rfl ?_
      refine X_goto (tgt := 2) dX8_beginBlock_68 (by decide) ?_
      refine ih (m + 1) _ (by omega) (by omega) (hF.tr (((( Fr.sr (by simp)).tr (Fr.sr (by simp))).tr (Fr.sr (by simp))).tr (Fr.sr (by simp)))) (fun i hi r hr j hj => ?_)
      rw [sr_eq, sr_eq, sr_eq, sr_eq]
      obtain ⟨u0, u1, u2, u3⟩ := upkB hb hj
      obtain ⟨k1, k2⟩ := bkA b hb m hm3
      by_cases him : i = m
      · subst him
        rcases (by omega : r = 0 ∨ r = 1 ∨ r = 2 ∨ r = 3) with rfl | rfl | rfl | rfl
        · rw [up_ne (by omega), up_ne (by omega), up_ne (by omega), show 0 * 3 + i = i by omega, up_eq, u0, ← k1]
          exact lb_neg hj
        · rw [up_ne (by omega), up_ne (by omega), show 1 * 3 + i = 3 + i by omega, up_eq, u1, ← k2]
          exact lb_neg hj
        · rw [up_ne (by omega), show 2 * 3 + i = 6 + i by omega, up_eq, u2]
          exact hiT i hm3 j hj
        · rw [show 3 * 3 + i = 9 + i by omega, up_eq, u3]
          exact loT i hm3 j hj
      · rw [up_ne (by omega), up_ne (by omega), up_ne (by omega), up_ne (by omega)]
        exact hB i (by omega) r hr j hj
  refine Y_of rfl rfl (Nat.le_of_ble_eq_true rfl) rfl ?_
  refine X_iconst (v := nI 0) dX8_beginBlock_0 (by decide) ?_
  refine X_istore_n dX8_beginBlock_1 rfl rfl ?_
  exact loop 3 0 J rfl (Nat.zero_le _) Fr.rf (fun i h => absurd h (Nat.not_lt_zero i))
set_option maxRecDepth 20000 in
theorem c_unlikeIn {Q : Int64 → Mm → Prop} {k q r : Nat} {T V : Nat → Nat → Nat} (hk : IsRw k) (hq : IsRw q) (hr : r < 4) (hT : BR J k T) (hV : BR J q V) (h8 : ∀ j, R8 (T j)) (g8 : ∀ j, R8 (V j)) (hQ : ∀ x, (∀ j, j < 64 → lb x j = decide (T j r ≠ V j r)) → Q x (NC, I, J, layR sw)) : Y G d zX8_unlikeIn [vr k, vi (nI r), vr q] (NC, I, J, layR sw) 0 0 (ql Q) := by
  obtain ⟨hs, hs', hr', hkn⟩ := hk
  obtain ⟨ps, ps', pr, pkn⟩ := hq
  have hr' := hr' sw
  have pr := pr sw
  have hk0 : k < NC := by omega
  have pk0 : q < NC := by omega
  have loop : ∀ (m i : Nat) (x : Int64), m = 3 - i → i ≤ 3 → (∀ j, j < 64 → lb x j = df (T j r) (V j r) i) → X G d zX8_unlikeIn 7 [(0, vr k), (1, vi (nI r)), (2, vr q), (3, vl x), (5, vi (nI (r * 3 + i)))] [] (NC, I, J, layR sw) 0 0 (ql Q) := by
    intro m
    induction m with
    | zero =>
      intro i x hm hi hx
      obtain rfl : i = 3 := by omega
      refine X_iload dX8_unlikeIn_7 rfl ?_
      refine X_iload_n dX8_unlikeIn_9 rfl ?_
      refine X_iconst (v := nI 3) dX8_unlikeIn_10 (by decide) ?_
      first | refine X_imulN dX8_unlikeIn_11 ?_ | refine X_imul dX8_unlikeIn_11 ?_
      refine X_iconst (v := nI 3) dX8_unlikeIn_12 (by decide) ?_
      first | refine X_iaddN dX8_unlikeIn_13 ?_ | refine X_iadd dX8_unlikeIn_13 ?_
      refine X_icmp_ge (tgt := 41) dX8_unlikeIn_14 (by decide) (fun b => ?_) (fun b => ?_)
      · refine X_lload_n dX8_unlikeIn_41 rfl ?_
        exact X_lret dX8_unlikeIn_42 rfl ⟨_, rfl, hQ x (fun j hj => by rw [hx j hj]; exact df_3 _ (h8 j r hr) _ (g8 j r hr))⟩
      · exact absurd (Int32.le_refl _) b
    | succ m ih =>
      intro i x hm hi hx
      refine X_iload dX8_unlikeIn_7 rfl ?_
      refine X_iload_n dX8_unlikeIn_9 rfl ?_
      refine X_iconst (v := nI 3) dX8_unlikeIn_10 (by decide) ?_
      first | refine X_imulN dX8_unlikeIn_11 ?_ | refine X_imul dX8_unlikeIn_11 ?_
      refine X_iconst (v := nI 3) dX8_unlikeIn_12 (by decide) ?_
      first | refine X_iaddN dX8_unlikeIn_13 ?_ | refine X_iadd dX8_unlikeIn_13 ?_
      refine X_icmp_ge (tgt := 41) dX8_unlikeIn_14 (by decide) (fun b => ?_) (fun b => ?_)
      · exact absurd ((nle (by omega) (by omega)).mp b) (by omega)
      refine X_lload_n dX8_unlikeIn_17 rfl ?_
      refine X_aload_n dX8_unlikeIn_18 rfl ?_
      refine X_getR dX8_unlikeIn_19 gf_X8_11 (by first | assumption | rfl) (by first | assumption | exact Nat.le_of_ble_eq_true rfl | omega) rfl (by first | assumption | rfl) ?_
      refine X_iload dX8_unlikeIn_22 rfl ?_
      first | refine X_lald dX8_unlikeIn_24 (by first | assumption | rfl) (by first | assumption | exact Nat.le_of_ble_eq_true rfl | omega) rfl (by first | decide | omega) (by decide) ?_ | refine X_lldH dX8_unlikeIn_24 rfl (by omega) ?_ | refine X_lldL dX8_unlikeIn_24 rfl (by omega) ?_
      refine X_aload_n dX8_unlikeIn_25 rfl ?_
      refine X_getR dX8_unlikeIn_26 gf_X8_11 (by first | assumption | rfl) (by first | assumption | exact Nat.le_of_ble_eq_true rfl | omega) rfl (by first | assumption | rfl) ?_
      refine X_iload dX8_unlikeIn_29 rfl ?_
      first | refine X_lald dX8_unlikeIn_31 (by first | assumption | rfl) (by first | assumption | exact Nat.le_of_ble_eq_true rfl | omega) rfl (by first | decide | omega) (by decide) ?_ | refine X_lldH dX8_unlikeIn_31 rfl (by omega) ?_ | refine X_lldL dX8_unlikeIn_31 rfl (by omega) ?_
      refine X_lxor dX8_unlikeIn_32 ?_
      refine X_lor dX8_unlikeIn_33 ?_
      refine X_lstore_n dX8_unlikeIn_34 rfl rfl ?_
      first | refine X_iinc1 dX8_unlikeIn_35 rfl rfl rfl ?_ | refine X_iinc dX8_unlikeIn_35 rfl rfl rfl rfl ?_
      refine X_goto (tgt := 7) dX8_unlikeIn_38 (by decide) ?_
      refine ih (i + 1) _ (by omega) (by omega) (fun j hj => ?_)
      rw [lb_or, lb_xor, hx j hj, hT r hr i (by omega) j hj, hV r hr i (by omega) j hj]
      rfl
  refine Y_of rfl rfl (Nat.le_of_ble_eq_true rfl) rfl ?_
  refine X_lconst (v := 0) dX8_unlikeIn_0 (by decide) ?_
  refine X_lstore_n dX8_unlikeIn_1 rfl rfl ?_
  refine X_iload_n dX8_unlikeIn_2 rfl ?_
  refine X_iconst (v := nI 3) dX8_unlikeIn_3 (by decide) ?_
  first | refine X_imulN dX8_unlikeIn_4 ?_ | refine X_imul dX8_unlikeIn_4 ?_
  refine X_istore dX8_unlikeIn_5 rfl rfl ?_
  exact loop 3 0 0 rfl (Nat.zero_le _) (fun j _ => lb_0 j)
set_option maxRecDepth 20000 in
theorem c_lowestBit {Q : Int32 → Mm → Prop} {M : Mm} {x : Int64} {a : Nat} (ha : a < 64) (h1 : lb x a = true) (h0 : ∀ i, i < a → lb x i = false) (hQ : Q (nI a) M) : Y G d zX11_lowestBit [vl x] M 0 0 (qi Q) := by
  have loop : ∀ (m i : Nat), m = a - i → i ≤ a → X G d zX11_lowestBit 2 [(0, vl x), (2, vi (nI i))] [] M 0 0 (qi Q) := by
    intro m
    induction m with
    | zero =>
      intro i hm hi
      obtain rfl : i = a := by omega
      refine X_iload_n dX11_lowestBit_2 rfl ?_
      refine X_bipush (v := nI 63) dX11_lowestBit_3 (by decide) ?_
      refine X_icmp_ge (tgt := 24) dX11_lowestBit_5 (by decide) (fun b => ?_) (fun b => ?_)
      · refine X_iload_n dX11_lowestBit_24 rfl ?_
        exact X_iret dX11_lowestBit_25 rfl ⟨_, rfl, hQ⟩
      refine X_lload_n dX11_lowestBit_8 rfl ?_
      refine X_iload_n dX11_lowestBit_9 rfl ?_
      refine X_lushr dX11_lowestBit_10 rfl ?_
      refine X_lconst (v := 1) dX11_lowestBit_11 (by decide) ?_
      refine X_land dX11_lowestBit_12 ?_
      refine X_lconst (v := 0) dX11_lowestBit_13 (by decide) ?_
      refine X_lcmp dX11_lowestBit_14 ?_
      refine X_if_ne (tgt := 24) dX11_lowestBit_15 (by decide) (fun b15 => ?_) (fun b15 => ?_)
      · refine X_iload_n dX11_lowestBit_24 rfl ?_
        exact X_iret dX11_lowestBit_25 rfl ⟨_, rfl, hQ⟩
      · have := (lb_shr (w := x) ha).mp ((lg_cmp_eq _ _).mp b15)
        rw [h1] at this
        exact absurd this (by decide)
    | succ m ih =>
      intro i hm hi
      refine X_iload_n dX11_lowestBit_2 rfl ?_
      refine X_bipush (v := nI 63) dX11_lowestBit_3 (by decide) ?_
      refine X_icmp_ge (tgt := 24) dX11_lowestBit_5 (by decide) (fun b => ?_) (fun b => ?_)
      · exact absurd ((nle (by omega) (by omega)).mp b) (by omega)
      refine X_lload_n dX11_lowestBit_8 rfl ?_
      refine X_iload_n dX11_lowestBit_9 rfl ?_
      refine X_lushr dX11_lowestBit_10 rfl ?_
      refine X_lconst (v := 1) dX11_lowestBit_11 (by decide) ?_
      refine X_land dX11_lowestBit_12 ?_
      refine X_lconst (v := 0) dX11_lowestBit_13 (by decide) ?_
      refine X_lcmp dX11_lowestBit_14 ?_
      refine X_if_ne (tgt := 24) dX11_lowestBit_15 (by decide) (fun b15 => ?_) (fun b15 => ?_)
      · exact absurd ((lg_cmp_eq _ _).mpr ((lb_shr (w := x) (by omega)).mpr (h0 i (by omega)))) b15
      first | refine X_iinc1 dX11_lowestBit_18 rfl rfl rfl ?_ | refine X_iinc dX11_lowestBit_18 rfl rfl rfl rfl ?_
      refine X_goto (tgt := 2) dX11_lowestBit_21 (by decide) ?_
      exact ih (i + 1) (by omega) (by omega)
  refine Y_of rfl rfl (Nat.le_of_ble_eq_true rfl) rfl ?_
  refine X_iconst (v := nI 0) dX11_lowestBit_0 (by decide) ?_
  refine X_istore_n dX11_lowestBit_1 rfl rfl ?_
  exact loop a 0 rfl (Nat.zero_le _)
set_option maxRecDepth 20000 in
set_option maxHeartbeats 1000000 in
theorem c_firstUnlike {Q : Int32 → Mm → Prop} {p q n1 n2 S : Nat} {c1 c2 : Nat → Nat → Nat} (hd : 5 ≤ d) (hp : IsCd p) (hq : IsCd q) (hc1 : CR I p n1 c1) (hc2 : CR I q n2 c2) (hv1 : VC n1 c1) (hv2 : VC n2 c2) (hS : S < 16) (hQ : ∀ J', Fr [148, 149, 150, 151] J J' → Q (fuI (ffR (pUn S n1 c1 n2 c2) 4096)) (NC, I, J', layR sw)) : Y G d zX11_firstUnlike [vr 0, vr p, vr q, vi (nI S)] (NC, I, J, layR sw) 0 0 (qi Q) := by
  have loop : ∀ (m b : Nat) (J' : Nat → Nat → Int64), m = 64 - b → b ≤ 64 → Fr [148, 149, 150, 151] J J' → (∀ R, R < 64 * b → pUn S n1 c1 n2 c2 R = false) → ∀ L2, X G d zX11_firstUnlike 3 ([(0, vr 0), (1, vr p), (2, vr q), (3, vi (nI S)), (4, vi (nI b))] ++ L2) [] (NC, I, J', layR sw) 0 0 (qi Q) := by
    intro m
    induction m with
    | zero =>
      intro b J' hm hb hF h0 L2
      obtain rfl : b = 64 := by omega
      refine weak (lv' := [(0, vr 0), (1, vr p), (2, vr q), (3, vi (nI S)), (4, vi (nI 64))]) (fun q hq => List.mem_append_left _ hq) ?_
      refine X_iload dX11_firstUnlike_3 rfl ?_
      refine X_bipush (v := nI 64) dX11_firstUnlike_5 (by decide) ?_
      refine X_icmp_ge (tgt := 115) dX11_firstUnlike_7 (by decide) (fun b7 => ?_) (fun b7 => ?_)
      · have hQ := hQ J' hF
        rw [ffR_none 4096 h0] at hQ
        refine X_bipush (v := (-6)) dX11_firstUnlike_115 (by decide) ?_
        exact X_iret dX11_firstUnlike_117 rfl ⟨_, rfl, hQ⟩
      · exact absurd (by decide) b7
    | succ m ih =>
      intro b J' hm hb hF h0 L2
      have hb64 : b < 64 := by omega
      refine weak (lv' := [(0, vr 0), (1, vr p), (2, vr q), (3, vi (nI S)), (4, vi (nI b))]) (fun q hq => List.mem_append_left _ hq) ?_
      refine X_iload dX11_firstUnlike_3 rfl ?_
      refine X_bipush (v := nI 64) dX11_firstUnlike_5 (by decide) ?_
      refine X_icmp_ge (tgt := 115) dX11_firstUnlike_7 (by decide) (fun b7 => ?_) (fun b7 => ?_)
      · exact absurd ((nle (by omega) (by omega)).mp b7) (by omega)
      refine X_aload_n dX11_firstUnlike_10 rfl ?_
      refine X_getR dX11_firstUnlike_11 gf_X11_69 (by first | assumption | rfl) (by first | assumption | exact Nat.le_of_ble_eq_true rfl | omega) rfl (by first | assumption | rfl) ?_
      refine X_iload dX11_firstUnlike_14 rfl ?_
      refine X_cVv dX11_firstUnlike_16 ck_X11_296 rfl rfl (by first | assumption | rfl) (by first | assumption | exact Nat.le_of_ble_eq_true rfl | omega) (by omega) (Nat.le_of_ble_eq_true rfl) (c_beginBlock rw148 hb64 (fun J1 f1 r1 => ?_))
      refine X_aload_n dX11_firstUnlike_19 rfl ?_
      refine X_getR dX11_firstUnlike_20 gf_X11_69 (by first | assumption | rfl) (by first | assumption | exact Nat.le_of_ble_eq_true rfl | omega) rfl (by first | assumption | rfl) ?_
      refine X_aload_n dX11_firstUnlike_23 rfl ?_
      refine X_cVv dX11_firstUnlike_24 ck_X11_300 rfl rfl (by first | assumption | rfl) (by first | assumption | exact Nat.le_of_ble_eq_true rfl | omega) (by omega) (Nat.le_of_ble_eq_true rfl) (c_perform (by omega) rw148 hp hc1 hv1 r1 (fun j => upk8 _) (fun J2 f2 r2 => ?_))
      refine X_aload_n dX11_firstUnlike_27 rfl ?_
      refine X_getR dX11_firstUnlike_28 gf_X11_73 (by first | assumption | rfl) (by first | assumption | exact Nat.le_of_ble_eq_true rfl | omega) rfl (by first | assumption | rfl) ?_
      refine X_iload dX11_firstUnlike_31 rfl ?_
      refine X_cVv dX11_firstUnlike_33 ck_X11_296 rfl rfl (by first | assumption | rfl) (by first | assumption | exact Nat.le_of_ble_eq_true rfl | omega) (by omega) (Nat.le_of_ble_eq_true rfl) (c_beginBlock rw150 hb64 (fun J3 f3 r3 => ?_))
      refine X_aload_n dX11_firstUnlike_36 rfl ?_
      refine X_getR dX11_firstUnlike_37 gf_X11_73 (by first | assumption | rfl) (by first | assumption | exact Nat.le_of_ble_eq_true rfl | omega) rfl (by first | assumption | rfl) ?_
      refine X_aload_n dX11_firstUnlike_40 rfl ?_
      refine X_cVv dX11_firstUnlike_41 ck_X11_300 rfl rfl (by first | assumption | rfl) (by first | assumption | exact Nat.le_of_ble_eq_true rfl | omega) (by omega) (Nat.le_of_ble_eq_true rfl) (c_perform (by omega) rw150 hq hc2 hv2 r3 (fun j => upk8 _) (fun J4 f4 r4 => ?_))
      have r2' : BR J4 148 (fun j => rn c1 (upk (64 * b + j)) n1) := fun r hr m hm j hj => by
        rw [f4 149 (by decide), f3 149 (by decide)]; exact r2 r hr m hm j hj
      have hF4 : Fr [148, 149, 150, 151] J J4 := (((hF.tr (f1.sub (by simp))).tr (f2.sub (by simp))).tr (f3.sub (by simp))).tr (f4.sub (by simp))
      refine X_lconst (v := 0) dX11_firstUnlike_44 (by decide) ?_
      refine X_lstore dX11_firstUnlike_45 rfl rfl ?_
      refine X_iconst (v := nI 0) dX11_firstUnlike_47 (by decide) ?_
      refine X_istore dX11_firstUnlike_48 rfl rfl ?_
      have fin : ∀ (x : Int64), (∀ j, j < 64 → lb x j = pUn S n1 c1 n2 c2 (64 * b + j)) → ∀ x7 : Int32, X G d zX11_firstUnlike 90 [(0, vr 0), (1, vr p), (2, vr q), (3, vi (nI S)), (4, vi (nI b)), (5, vl x), (7, vi x7)] [] (NC, I, J4, layR sw) 0 0 (qi Q) := by
        intro x hx x7
        refine X_lload dX11_firstUnlike_90 rfl ?_
        refine X_lconst (v := 0) dX11_firstUnlike_92 (by decide) ?_
        refine X_lcmp dX11_firstUnlike_93 ?_
        refine X_if_eq (tgt := 109) dX11_firstUnlike_94 (by decide) (fun b94 => ?_) (fun b94 => ?_)
        · have hx0 := (lg_cmp_eq _ _).mp b94
          first | refine X_iinc1 dX11_firstUnlike_109 rfl rfl rfl ?_ | refine X_iinc dX11_firstUnlike_109 rfl rfl rfl rfl ?_
          refine X_goto (tgt := 3) dX11_firstUnlike_112 (by decide) ?_
          refine ih (b + 1) J4 (by omega) (by omega) hF4 (fun R hR => ?_) [(5, vl x), (7, vi x7)]
          by_cases z : R < 64 * b
          · exact h0 R z
          · have := hx (R - 64 * b) (by omega)
            rw [hx0, lb_0, show 64 * b + (R - 64 * b) = R by omega] at this
            exact this.symm
        · obtain ⟨a, a1, a2, a3⟩ := least 64 (lb_ne (fun z => b94 ((lg_cmp_eq _ _).mpr z)))
          have hQ := hQ J4 hF4
          rw [ffR_some (r := 64 * b + a) (by rw [← hx a a1]; exact a2) (fun R hR => by
            by_cases z : R < 64 * b
            · exact h0 R z
            · have := hx (R - 64 * b) (by omega)
              rw [a3 (R - 64 * b) (by omega), show 64 * b + (R - 64 * b) = R by omega] at this
              exact this.symm) 4096 (by omega), Nat.mul_comm 64 b] at hQ
          refine X_iload dX11_firstUnlike_97 rfl ?_
          refine X_bipush (v := nI 64) dX11_firstUnlike_99 (by decide) ?_
          first | refine X_imulN dX11_firstUnlike_101 ?_ | refine X_imul dX11_firstUnlike_101 ?_
          refine X_lload dX11_firstUnlike_102 rfl ?_
          refine X_cSi dX11_firstUnlike_104 ck_X11_307 rfl rfl (by omega) (Nat.le_of_ble_eq_true rfl) (c_lowestBit a1 a2 a3 ?_)
          first | refine X_iaddN dX11_firstUnlike_107 ?_ | refine X_iadd dX11_firstUnlike_107 ?_
          exact X_iret dX11_firstUnlike_108 rfl ⟨_, rfl, hQ⟩
      have inner : ∀ (m r : Nat) (x : Int64), m = 4 - r → r ≤ 4 → (∀ j, j < 64 → lb x j = nal S (rn c1 (upk (64 * b + j)) n1) (rn c2 (upk (64 * b + j)) n2) r) → X G d zX11_firstUnlike 50 [(0, vr 0), (1, vr p), (2, vr q), (3, vi (nI S)), (4, vi (nI b)), (5, vl x), (7, vi (nI r))] [] (NC, I, J4, layR sw) 0 0 (qi Q) := by
        intro m
        induction m with
        | zero =>
          intro r x hm hr hx
          obtain rfl : r = 4 := by omega
          refine X_iload dX11_firstUnlike_50 rfl ?_
          refine X_iconst (v := nI 4) dX11_firstUnlike_52 (by decide) ?_
          refine X_icmp_ge (tgt := 90) dX11_firstUnlike_53 (by decide) (fun b53 => ?_) (fun b53 => ?_)
          · exact fin x hx _
          · exact absurd (by decide) b53
        | succ m ih2 =>
          intro r x hm hr hx
          refine X_iload dX11_firstUnlike_50 rfl ?_
          refine X_iconst (v := nI 4) dX11_firstUnlike_52 (by decide) ?_
          refine X_icmp_ge (tgt := 90) dX11_firstUnlike_53 (by decide) (fun b53 => ?_) (fun b53 => ?_)
          · exact absurd ((nle (by omega) (by omega)).mp b53) (by omega)
          refine X_iload_n dX11_firstUnlike_56 rfl ?_
          refine X_iload dX11_firstUnlike_57 rfl ?_
          first | refine X_ishrN dX11_firstUnlike_59 (by omega) (by omega) ?_ | refine X_ishr dX11_firstUnlike_59 ?_
          refine X_iconst (v := nI 1) dX11_firstUnlike_60 (by decide) ?_
          first | refine X_iandN dX11_firstUnlike_61 ?_ | refine X_iandC dX11_firstUnlike_61 ?_ | refine X_iand dX11_firstUnlike_61 ?_
          rw [Nat.and_one_is_mod, bit_mod]
          refine X_iconst (v := nI 1) dX11_firstUnlike_62 (by decide) ?_
          by_cases hSr : S.testBit r = true
          · rw [if_pos hSr]
            refine X_icmp_ne (tgt := 84) dX11_firstUnlike_63 (by decide) (fun b63 => ?_) (fun b63 => ?_)
            · exact absurd rfl b63
            refine X_lload dX11_firstUnlike_66 rfl ?_
            refine X_aload_n dX11_firstUnlike_68 rfl ?_
            refine X_getR dX11_firstUnlike_69 gf_X11_69 (by first | assumption | rfl) (by first | assumption | exact Nat.le_of_ble_eq_true rfl | omega) rfl (by first | assumption | rfl) ?_
            refine X_iload dX11_firstUnlike_72 rfl ?_
            refine X_aload_n dX11_firstUnlike_74 rfl ?_
            refine X_getR dX11_firstUnlike_75 gf_X11_73 (by first | assumption | rfl) (by first | assumption | exact Nat.le_of_ble_eq_true rfl | omega) rfl (by first | assumption | rfl) ?_
            refine X_cVl dX11_firstUnlike_78 ck_X11_303 rfl rfl (by first | assumption | rfl) (by first | assumption | exact Nat.le_of_ble_eq_true rfl | omega) (by omega) (Nat.le_of_ble_eq_true rfl) (c_unlikeIn rw148 rw150 (by omega) r2' r4 (fun j => rn8 hv1 (upk8 _) n1 (Nat.le_refl _)) (fun j => rn8 hv2 (upk8 _) n2 (Nat.le_refl _)) (fun u hu => ?_))
            refine X_lor dX11_firstUnlike_81 ?_
            refine X_lstore dX11_firstUnlike_82 rfl rfl ?_
            first | refine X_iinc1 dX11_firstUnlike_84 rfl rfl rfl ?_ | refine X_iinc dX11_firstUnlike_84 rfl rfl rfl rfl ?_
            refine X_goto (tgt := 50) dX11_firstUnlike_87 (by decide) ?_
            refine ih2 (r + 1) _ (by omega) (by omega) (fun j hj => ?_)
            rw [lb_or, hx j hj, hu j hj]
            show _ = (nal S _ _ r || (S.testBit r && _))
            rw [hSr, Bool.true_and]
          · rw [if_neg hSr]
            refine X_icmp_ne (tgt := 84) dX11_firstUnlike_63 (by decide) (fun b63 => ?_) (fun b63 => ?_)
            · first | refine X_iinc1 dX11_firstUnlike_84 rfl rfl rfl ?_ | refine X_iinc dX11_firstUnlike_84 rfl rfl rfl rfl ?_
              refine X_goto (tgt := 50) dX11_firstUnlike_87 (by decide) ?_
              refine ih2 (r + 1) x (by omega) (by omega) (fun j hj => ?_)
              rw [hx j hj]
              show _ = (nal S _ _ r || (S.testBit r && _))
              rw [show S.testBit r = false by simpa using hSr, Bool.false_and, Bool.or_false]
            · exact absurd b63 (by decide)
      exact inner 4 0 0 rfl (Nat.zero_le _) (fun j _ => lb_0 j)
  refine Y_of rfl rfl (Nat.le_of_ble_eq_true rfl) rfl ?_
  refine X_iconst (v := nI 0) dX11_firstUnlike_0 (by decide) ?_
  refine X_istore dX11_firstUnlike_1 rfl rfl ?_
  exact loop 64 0 J rfl (Nat.zero_le _) Fr.rf (fun R h => absurd h (by omega)) []
def sp_unlike (s : SS) : Int32 := fuI (ffR (pUn (dW s.2.1) (dC s.2.1).1 (dC s.2.1).2 (dO s.2.1).1 (dO s.2.1).2) 4096)
def sp_holds (s : SS) (x : Int32) : Int32 := if x < 0 ∨ nI (dN s.2.1) ≤ x then -1 else match ffR (pUn 15 (dR s.2.1 x.toNatClampNeg).1.1 (dR s.2.1 x.toNatClampNeg).1.2 (dR s.2.1 x.toNatClampNeg).2.1 (dR s.2.1 x.toNatClampNeg).2.2) 4096 with
  | none => nI 1
  | some _ => nI 0
theorem PC_J {J' : Nat → Nat → Int64} {a : Int32} (hi : CInv I s) (hf : Fr [148, 149, 150, 151] J J') : PC s a I J a (NC, I, J', layR sw) :=
  ⟨rfl, I, J', sw, rfl, hi, fun _ _ => rfl, fun k hk => hf k (by unfold keepC at hk; simp; omega)⟩
theorem C_unlike (hd : 6 ≤ d) (hv : VSt s) (hi : CInv I s) : Y G d zX11_unlike [vr 0] (NC, I, J, layR sw) 0 0 (qi (PC s (sp_unlike s) I J)) := by
  have hW : dW s.2.1 < 16 := by have := hv.2.1.2.2.1; omega
  refine Y_of rfl rfl (Nat.le_of_ble_eq_true rfl) rfl ?_
  refine X_aload_n dX11_unlike_0 rfl ?_
  refine X_aload_n dX11_unlike_1 rfl ?_
  refine X_getR dX11_unlike_2 gf_X11_19 (by first | assumption | rfl) (by first | assumption | exact Nat.le_of_ble_eq_true rfl | omega) rfl (by first | assumption | rfl) ?_
  refine X_getR dX11_unlike_5 gf_X11_106 (by first | assumption | rfl) (by first | assumption | exact Nat.le_of_ble_eq_true rfl | omega) rfl (by first | assumption | rfl) ?_
  refine X_aload_n dX11_unlike_8 rfl ?_
  refine X_getR dX11_unlike_9 gf_X11_19 (by first | assumption | rfl) (by first | assumption | exact Nat.le_of_ble_eq_true rfl | omega) rfl (by first | assumption | rfl) ?_
  refine X_getR dX11_unlike_12 gf_X11_138 (by first | assumption | rfl) (by first | assumption | exact Nat.le_of_ble_eq_true rfl | omega) rfl (by first | assumption | rfl) ?_
  refine X_aload_n dX11_unlike_15 rfl ?_
  refine X_getR dX11_unlike_16 gf_X11_19 (by first | assumption | rfl) (by first | assumption | exact Nat.le_of_ble_eq_true rfl | omega) rfl (by first | assumption | rfl) ?_
  refine X_getI dX11_unlike_19 gf_X11_120 (by first | assumption | rfl) (by first | assumption | exact Nat.le_of_ble_eq_true rfl | omega) rfl ?_
  rw [hi.2.1.2.2.1]
  refine X_cVi dX11_unlike_22 ck_X11_141 rfl rfl (by first | assumption | rfl) (by first | assumption | exact Nat.le_of_ble_eq_true rfl | omega) (by omega) (Nat.le_of_ble_eq_true rfl) (c_firstUnlike (by omega) cd8 cd10 hi.2.1.1 hi.2.1.2.1 hv.2.1.1 hv.2.1.2.1 hW (fun J' f => ?_))
  exact X_iret dX11_unlike_25 rfl ⟨_, rfl, PC_J hi f⟩
theorem rcase {n : Nat} (hn : n ≤ 4) (x : Int32) : (x < 0 ∨ nI n ≤ x) ∨ ∃ a, a < n ∧ x = nI a := scase (by omega) x
theorem lay12 {a : Nat} (ha : a < 4) : layR sw 12 a = some (14 + 6 * a) := dk7.2.2.2.2.2.2.2.1 sw a ha
set_option maxRecDepth 20000 in
theorem C_holds {x : Int32} (hd : 6 ≤ d) (hv : VSt s) (hi : CInv I s) : Y G d zX11_holds [vr 0, vi x] (NC, I, J, layR sw) 0 0 (qi (PC s (sp_holds s x) I J)) := by
  have hN := hv.2.1.2.2.2.2.1
  have h74 : I 7 4 = nI (dN s.2.1) := hi.2.1.2.2.2.2.1
  refine Y_of rfl rfl (Nat.le_of_ble_eq_true rfl) rfl ?_
  unfold sp_holds
  refine X_aload_n dX11_holds_0 rfl ?_
  refine X_iload_n dX11_holds_1 rfl ?_
  rcases rcase hN x with h | ⟨a, ha, rfl⟩
  · rw [if_pos h]
    refine X_cVi dX11_holds_2 ck_X11_253 rfl rfl (by first | assumption | rfl) (by first | assumption | exact Nat.le_of_ble_eq_true rfl | omega) (by omega) (Nat.le_of_ble_eq_true rfl) (c_isNoRule_t h74 h ?_)
    refine X_if_eq (tgt := 10) dX11_holds_5 (by decide) (fun b => ?_) (fun b => ?_)
    · exact absurd b (by decide)
    · refine X_iconst (v := (-1)) dX11_holds_8 (by decide) ?_
      exact X_iret dX11_holds_9 rfl ⟨_, rfl, PC_same hi⟩
  · rw [if_neg (scase_n (by omega) ha), nI_clamp (by omega)]
    have ha4 : a < 4 := by omega
    obtain ⟨u1, u2, u3, u4, u5, u6, u7, u8⟩ := ru7 ha4
    have hl12 := lay12 (sw := sw) ha4
    have u2 := u2 sw
    have u3 := u3 sw
    have u9 : 14 + 6 * a < NC := by show 14 + 6 * a < 206; omega
    obtain ⟨hr1, hr2⟩ := hi.2.1.2.2.2.2.2 a ha
    obtain ⟨⟨v1, v2, v3⟩, v4, v5⟩ := hv.2.1.2.2.2.2.2 a ha
    refine X_cVi dX11_holds_2 ck_X11_253 rfl rfl (by first | assumption | rfl) (by first | assumption | exact Nat.le_of_ble_eq_true rfl | omega) (by omega) (Nat.le_of_ble_eq_true rfl) (c_isNoRule_f h74 hN ha ?_)
    refine X_if_eq (tgt := 10) dX11_holds_5 (by decide) (fun b => ?_) (fun b => ?_)
    · refine X_aload_n dX11_holds_10 rfl ?_
      refine X_getR dX11_holds_11 gf_X11_19 (by first | assumption | rfl) (by first | assumption | exact Nat.le_of_ble_eq_true rfl | omega) rfl (by first | assumption | rfl) ?_
      refine X_getR dX11_holds_14 gf_X11_240 (by first | assumption | rfl) (by first | assumption | exact Nat.le_of_ble_eq_true rfl | omega) rfl (by first | assumption | rfl) ?_
      refine X_iload_n dX11_holds_17 rfl ?_
      refine X_aald dX11_holds_18 (by first | assumption | rfl) (by decide) (by first | assumption | exact Nat.le_of_ble_eq_true rfl | omega) rfl (by first | decide | omega) (by decide) (by first | assumption | rfl) ?_
      refine X_astore_n dX11_holds_19 rfl rfl ?_
      refine X_aload_n dX11_holds_20 rfl ?_
      refine X_aload_n dX11_holds_21 rfl ?_
      refine X_getR dX11_holds_22 gf_X11_256 (by first | assumption | rfl) (by first | assumption | exact Nat.le_of_ble_eq_true rfl | omega) rfl (by first | assumption | rfl) ?_
      refine X_aload_n dX11_holds_25 rfl ?_
      refine X_getR dX11_holds_26 gf_X11_257 (by first | assumption | rfl) (by first | assumption | exact Nat.le_of_ble_eq_true rfl | omega) rfl (by first | assumption | rfl) ?_
      refine X_bipush (v := nI 15) dX11_holds_29 (by decide) ?_
      refine X_cVi dX11_holds_31 ck_X11_141 rfl rfl (by first | assumption | rfl) (by first | assumption | exact Nat.le_of_ble_eq_true rfl | omega) (by omega) (Nat.le_of_ble_eq_true rfl) (c_firstUnlike (by omega) u5 u6 (show CR I (14 + 6 * a + 1) _ _ by rw [show 14 + 6 * a + 1 = 7 + 8 + 6 * a by omega]; exact hr1) (show CR I (14 + 6 * a + 3) _ _ by rw [show 14 + 6 * a + 3 = 7 + 10 + 6 * a by omega]; exact hr2) v3 v5 (by decide) (fun J' f => ?_))
      refine X_bipush (v := (-6)) dX11_holds_34 (by decide) ?_
      rcases hf : ffR (pUn 15 (dR s.2.1 a).1.1 (dR s.2.1 a).1.2 (dR s.2.1 a).2.1 (dR s.2.1 a).2.2) 4096 with _ | r
      · rw [show fuI none = -6 from rfl]
        refine X_icmp_ne (tgt := 43) dX11_holds_36 (by decide) (fun b36 => ?_) (fun b36 => ?_)
        · exact absurd rfl b36
        refine X_iconst (v := nI 1) dX11_holds_39 (by decide) ?_
        refine X_goto (tgt := 44) dX11_holds_40 (by decide) ?_
        exact X_iret dX11_holds_44 rfl ⟨_, rfl, PC_J hi f⟩
      · rw [show fuI (some r) = nI r from rfl]
        refine X_icmp_ne (tgt := 43) dX11_holds_36 (by decide) (fun b36 => ?_) (fun b36 => ?_)
        · refine X_iconst (v := nI 0) dX11_holds_43 (by decide) ?_
          exact X_iret dX11_holds_44 rfl ⟨_, rfl, PC_J hi f⟩
        · exact absurd (by rw [b36]; decide) (nneg (a := r) (by have := ffR_lt 4096 hf; omega))
    · exact absurd rfl b
end CU
