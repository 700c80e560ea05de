/-! copies of desks -/
def IsRu (r : Nat) : Prop := sh r = (9, 4) ∧ (∀ sw, layR sw r 0 = some (r + 1)) ∧ (∀ sw, layR sw r 1 = some (r + 3)) ∧ (∀ sw, layR sw r 2 = some (r + 5)) ∧ IsCd (r + 1) ∧ IsCd (r + 3) ∧ sh (r + 5) = (13, 4) ∧ r + 5 < NC
def IsDk (k : Nat) : Prop := sh k = (2, 6) ∧ (∀ sw, layR sw k 0 = some (k + 1)) ∧ (∀ sw, layR sw k 1 = some (k + 3)) ∧ (∀ sw, layR sw k 2 = some (k + 5)) ∧ (∀ sw, layR sw k 3 = some (k + 6)) ∧ sh (k + 5) = (18, 4) ∧ sh (k + 6) = (13, 5) ∧ (∀ sw j, j < 4 → layR sw (k + 5) j = some (k + 7 + 6 * j)) ∧ IsCd (k + 1) ∧ IsCd (k + 3) ∧ (∀ j, j < 4 → IsRu (k + 7 + 6 * j)) ∧ k + 31 ≤ NC
theorem cdk (k : Nat) (h1 : sh k = (1, 2)) (h2 : sh (k + 1) = (13, 48)) (h3 : ∀ sw, layR sw k 0 = some (k + 1)) (h4 : k + 1 < NC) : IsCd k := ⟨h1, h2, h3, h4⟩
theorem j4 {P : Nat → Prop} (h0 : P 0) (h1 : P 1) (h2 : P 2) (h3 : P 3) : ∀ j, j < 4 → P j := by
  intro j hj
  rcases (by omega : j = 0 ∨ j = 1 ∨ j = 2 ∨ j = 3) with rfl | rfl | rfl | rfl <;> assumption
theorem ru (r : Nat) (h1 : sh r = (9, 4)) (h2 : ∀ sw, layR sw r 0 = some (r + 1)) (h3 : ∀ sw, layR sw r 1 = some (r + 3)) (h4 : ∀ sw, layR sw r 2 = some (r + 5)) (h5 : IsCd (r + 1)) (h6 : IsCd (r + 3)) (h7 : sh (r + 5) = (13, 4)) (h8 : r + 5 < NC) : IsRu r := ⟨h1, h2, h3, h4, h5, h6, h7, h8⟩
theorem dk7 : IsDk 7 := ⟨rfl, fun _ => rfl, fun _ => rfl, fun _ => rfl, fun _ => rfl, rfl, rfl, fun sw => j4 rfl rfl rfl rfl, cdk 8 rfl rfl (fun _ => rfl) (by decide), cdk 10 rfl rfl (fun _ => rfl) (by decide),
  j4 (ru 14 rfl (fun _ => rfl) (fun _ => rfl) (fun _ => rfl) (cdk 15 rfl rfl (fun _ => rfl) (by decide)) (cdk 17 rfl rfl (fun _ => rfl) (by decide)) rfl (by decide))
    (ru 20 rfl (fun _ => rfl) (fun _ => rfl) (fun _ => rfl) (cdk 21 rfl rfl (fun _ => rfl) (by decide)) (cdk 23 rfl rfl (fun _ => rfl) (by decide)) rfl (by decide))
    (ru 26 rfl (fun _ => rfl) (fun _ => rfl) (fun _ => rfl) (cdk 27 rfl rfl (fun _ => rfl) (by decide)) (cdk 29 rfl rfl (fun _ => rfl) (by decide)) rfl (by decide))
    (ru 32 rfl (fun _ => rfl) (fun _ => rfl) (fun _ => rfl) (cdk 33 rfl rfl (fun _ => rfl) (by decide)) (cdk 35 rfl rfl (fun _ => rfl) (by decide)) rfl (by decide)), by decide⟩
theorem dk39 : IsDk 39 := ⟨rfl, fun _ => rfl, fun _ => rfl, fun _ => rfl, fun _ => rfl, rfl, rfl, fun sw => j4 rfl rfl rfl rfl, cdk 40 rfl rfl (fun _ => rfl) (by decide), cdk 42 rfl rfl (fun _ => rfl) (by decide),
  j4 (ru 46 rfl (fun _ => rfl) (fun _ => rfl) (fun _ => rfl) (cdk 47 rfl rfl (fun _ => rfl) (by decide)) (cdk 49 rfl rfl (fun _ => rfl) (by decide)) rfl (by decide))
    (ru 52 rfl (fun _ => rfl) (fun _ => rfl) (fun _ => rfl) (cdk 53 rfl rfl (fun _ => rfl) (by decide)) (cdk 55 rfl rfl (fun _ => rfl) (by decide)) rfl (by decide))
    (ru 58 rfl (fun _ => rfl) (fun _ => rfl) (fun _ => rfl) (cdk 59 rfl rfl (fun _ => rfl) (by decide)) (cdk 61 rfl rfl (fun _ => rfl) (by decide)) rfl (by decide))
    (ru 64 rfl (fun _ => rfl) (fun _ => rfl) (fun _ => rfl) (cdk 65 rfl rfl (fun _ => rfl) (by decide)) (cdk 67 rfl rfl (fun _ => rfl) (by decide)) rfl (by decide)), by decide⟩
theorem dk70 : IsDk 70 := ⟨rfl, fun _ => rfl, fun _ => rfl, fun _ => rfl, fun _ => rfl, rfl, rfl, fun sw => j4 rfl rfl rfl rfl, cdk 71 rfl rfl (fun _ => rfl) (by decide), cdk 73 rfl rfl (fun _ => rfl) (by decide),
  j4 (ru 77 rfl (fun _ => rfl) (fun _ => rfl) (fun _ => rfl) (cdk 78 rfl rfl (fun _ => rfl) (by decide)) (cdk 80 rfl rfl (fun _ => rfl) (by decide)) rfl (by decide))
    (ru 83 rfl (fun _ => rfl) (fun _ => rfl) (fun _ => rfl) (cdk 84 rfl rfl (fun _ => rfl) (by decide)) (cdk 86 rfl rfl (fun _ => rfl) (by decide)) rfl (by decide))
    (ru 89 rfl (fun _ => rfl) (fun _ => rfl) (fun _ => rfl) (cdk 90 rfl rfl (fun _ => rfl) (by decide)) (cdk 92 rfl rfl (fun _ => rfl) (by decide)) rfl (by decide))
    (ru 95 rfl (fun _ => rfl) (fun _ => rfl) (fun _ => rfl) (cdk 96 rfl rfl (fun _ => rfl) (by decide)) (cdk 98 rfl rfl (fun _ => rfl) (by decide)) rfl (by decide)), by decide⟩
section CE
variable {G : GG} {d : Nat} {sw : Bool} {I : Nat → Nat → Int32} {J : Nat → Nat → Int64} {s : SS}
/-- cell k holds what j held (its count, or all its places) -/
def Cpy (I I' : Nat → Nat → Int32) (k j : Nat) : Prop := I' k 1 = I j 1 ∧ ∀ q, q < 48 → I' (k + 1) q = I (j + 1) q
set_option maxRecDepth 20000 in
theorem c_copySides {Q : Mm → Prop} {r l m : Nat} (hd : 3 ≤ d) (hr : IsRu r) (hl : IsCd l) (hm : IsCd m) (h1 : l ≠ r + 1 ∧ l ≠ r + 2 ∧ l + 1 ≠ r + 1 ∧ l ≠ r + 3 ∧ l ≠ r + 4 ∧ l + 1 ≠ r + 3) (h2 : m ≠ r + 1 ∧ m ≠ r + 2 ∧ m + 1 ≠ r + 1 ∧ m ≠ r + 3 ∧ m ≠ r + 4 ∧ m + 1 ≠ r + 3)
    (hQ : ∀ I', Fr [r + 1, r + 2, r + 3, r + 4] I I' → Cpy I I' (r + 1) l → Cpy I I' (r + 3) m → Q (NC, I', J, layR sw)) : Y G d zX9_copySides [vr r, vr l, vr m] (NC, I, J, layR sw) 0 0 (qv Q) := by
  obtain ⟨a1, a2, a3, a4, a5, a6, a7, a8⟩ := hr
  have a2 := a2 sw
  have a3 := a3 sw
  have k0 : r < NC := by omega
  have k1 : r + 1 < NC := by omega
  have k3 : r + 3 < NC := by omega
  have s1 := a5.1
  have s3 := a6.1
  refine Y_of rfl rfl (Nat.le_of_ble_eq_true rfl) rfl ?_
  refine X_aload_n dX9_copySides_0 rfl ?_
  refine X_getR dX9_copySides_1 gf_X9_12 (by first | assumption | rfl) (by first | assumption | exact Nat.le_of_ble_eq_true rfl | omega) rfl (by first | assumption | rfl) ?_
  refine X_aload_n dX9_copySides_4 rfl ?_
  refine X_cVv dX9_copySides_5 ck_X9_25 rfl rfl (by first | assumption | rfl) (by first | assumption | exact Nat.le_of_ble_eq_true rfl | omega) (by omega) (Nat.le_of_ble_eq_true rfl) (c_copy0 (by omega) a5 hl (Or.inr ⟨by omega, by omega⟩) (fun I1 f1 e1 e2 => ?_))
  refine X_aload_n dX9_copySides_8 rfl ?_
  refine X_getR dX9_copySides_9 gf_X9_18 (by first | assumption | rfl) (by first | assumption | exact Nat.le_of_ble_eq_true rfl | omega) rfl (by first | assumption | rfl) ?_
  refine X_aload_n dX9_copySides_12 rfl ?_
  refine X_cVv dX9_copySides_13 ck_X9_25 rfl rfl (by first | assumption | rfl) (by first | assumption | exact Nat.le_of_ble_eq_true rfl | omega) (by omega) (Nat.le_of_ble_eq_true rfl) (c_copy0 (by omega) a6 hm (Or.inr ⟨by omega, by omega⟩) (fun I2 f2 e3 e4 => ?_))
  refine X_vret dX9_copySides_16 rfl ⟨rfl, hQ I2 ?_ ⟨?_, fun q hq => ?_⟩ ⟨?_, fun q hq => ?_⟩⟩
  · exact (f1.sub (by simp)).tr (f2.sub (by simp))
  · rw [f2 (r + 1) (by simp)]; exact e1
  · rw [f2 (r + 1 + 1) (by simp)]; exact e2 q hq
  · rw [e3, f1 m (by simp; omega)]
  · rw [e4 q hq, f1 (m + 1) (by simp; omega)]
/-- nothing but the cells from a up to b has changed -/
def FrR {α : Type} (a b : Nat) (I I' : Nat → Nat → α) : Prop := ∀ j, (j < a ∨ b ≤ j) → I' j = I j
set_option maxRecDepth 20000 in
set_option maxHeartbeats 4000000 in
theorem c_deskCopy {Q : Mm → Prop} {k j : Nat} {D : DD} (hd : 4 ≤ d) (hk : IsDk k) (hj : IsDk j) (hjk : j + 31 ≤ k ∨ k + 31 ≤ j) (hD : dk I j D) (hv : VD D) (hQ : ∀ I', dk I' k D → FrR k (k + 31) I I' → Q (NC, I', J, layR sw)) : Y G d zX2_copyFrom [vr k, vr j] (NC, I, J, layR sw) 0 0 (qv Q) := by
  obtain ⟨a1, a2, a3, a4, a5, a6, a7, a8, a9, a10, a11, a12⟩ := hk
  obtain ⟨b1, b2, b3, b4, b5, b6, b7, b8, b9, b10, b11, b12⟩ := hj
  have a2 := a2 sw
  have a3 := a3 sw
  have a4 := a4 sw
  have a5 := a5 sw
  have b2 := b2 sw
  have b3 := b3 sw
  have b4 := b4 sw
  have b5 := b5 sw
  have ka : k < NC := by omega
  have ka1 : k + 1 < NC := by omega
  have ka3 : k + 3 < NC := by omega
  have ka5 : k + 5 < NC := by omega
  have ka6 : k + 6 < NC := by omega
  have ja : j < NC := by omega
  have ja5 : j + 5 < NC := by omega
  have ja6 : j + 6 < NC := by omega
  have s1 := a9.1
  have s3 := a10.1
  refine Y_of rfl rfl (Nat.le_of_ble_eq_true rfl) rfl ?_
  refine X_aload_n dX2_copyFrom_0 rfl ?_
  refine X_getR dX2_copyFrom_1 gf_X2_12 (by first | assumption | rfl) (by first | assumption | exact Nat.le_of_ble_eq_true rfl | omega) rfl (by first | assumption | rfl) ?_
  refine X_aload_n dX2_copyFrom_4 rfl ?_
  refine X_getR dX2_copyFrom_5 gf_X2_12 (by first | assumption | rfl) (by first | assumption | exact Nat.le_of_ble_eq_true rfl | omega) rfl (by first | assumption | rfl) ?_
  refine X_cVv dX2_copyFrom_8 ck_X2_42 rfl rfl (by first | assumption | rfl) (by first | assumption | exact Nat.le_of_ble_eq_true rfl | omega) (by omega) (Nat.le_of_ble_eq_true rfl) (c_copy0 (by omega) a9 b9 (Or.inr ⟨by omega, by omega⟩) (fun I1 f1 e1 e2 => ?_))
  refine X_aload_n dX2_copyFrom_11 rfl ?_
  refine X_getR dX2_copyFrom_12 gf_X2_18 (by first | assumption | rfl) (by first | assumption | exact Nat.le_of_ble_eq_true rfl | omega) rfl (by first | assumption | rfl) ?_
  refine X_aload_n dX2_copyFrom_15 rfl ?_
  refine X_getR dX2_copyFrom_16 gf_X2_18 (by first | assumption | rfl) (by first | assumption | exact Nat.le_of_ble_eq_true rfl | omega) rfl (by first | assumption | rfl) ?_
  refine X_cVv dX2_copyFrom_19 ck_X2_42 rfl rfl (by first | assumption | rfl) (by first | assumption | exact Nat.le_of_ble_eq_true rfl | omega) (by omega) (Nat.le_of_ble_eq_true rfl) (c_copy0 (by omega) a10 b10 (Or.inr ⟨by omega, by omega⟩) (fun I2 f2 e3 e4 => ?_))
  refine X_iconst (v := nI 0) dX2_copyFrom_22 (by decide) ?_
  refine X_istore_n dX2_copyFrom_23 rfl rfl ?_
  have q1 : Cpy I I2 (k + 1) (j + 1) := ⟨by rw [f2 (k + 1) (by simp)]; exact e1, fun q hq => by rw [f2 (k + 1 + 1) (by simp)]; exact e2 q hq⟩
  have q2 : Cpy I I2 (k + 3) (j + 3) := ⟨by rw [e3, f1 (j + 3) (by simp; omega)], fun q hq => by rw [e4 q hq, f1 (j + 3 + 1) (by simp; omega)]⟩
  have q3 : FrR (k + 1) (k + 5) I I2 := fun q hq => by rw [f2 q (by simp; omega), f1 q (by simp; omega)]
  have loop : ∀ (m i : Nat) (I3 : Nat → Nat → Int32), m = 4 - i → i ≤ 4 → Cpy I I3 (k + 1) (j + 1) → Cpy I I3 (k + 3) (j + 3) → (∀ q, q < i → Cpy I I3 (k + 8 + 6 * q) (j + 8 + 6 * q) ∧ Cpy I I3 (k + 10 + 6 * q) (j + 10 + 6 * q)) → FrR k (k + 31) I I3 → (I3 k = I k ∧ I3 (k + 6) = I (k + 6)) → X G d zX2_copyFrom 24 [(0, vr k), (1, vr j), (2, vi (nI i))] [] (NC, I3, J, layR sw) 0 0 (qv Q) := by
    intro m
    induction m with
    | zero =>
      intro i I3 hm hi c1 c2 c3 c4 c5
      obtain rfl : i = 4 := by omega
      refine X_iload_n dX2_copyFrom_24 rfl ?_
      refine X_iconst (v := nI 4) dX2_copyFrom_25 (by decide) ?_
      refine X_icmp_ge (tgt := 62) dX2_copyFrom_26 (by decide) (fun h26 => ?_) (fun h26 => ?_)
      · have e5 : I3 (j + 6) = I (j + 6) := c4 _ (by omega)
        have e6 : I3 j = I j := c4 _ (by omega)
        refine X_aload_n dX2_copyFrom_62 rfl ?_
        refine X_getR dX2_copyFrom_63 gf_X2_27 (by first | assumption | rfl) (by first | assumption | exact Nat.le_of_ble_eq_true rfl | omega) rfl (by first | assumption | rfl) ?_
        refine X_iconst (v := nI 0) dX2_copyFrom_66 (by decide) ?_
        refine X_aload_n dX2_copyFrom_67 rfl ?_
        refine X_getR dX2_copyFrom_68 gf_X2_27 (by first | assumption | rfl) (by first | assumption | exact Nat.le_of_ble_eq_true rfl | omega) rfl (by first | assumption | rfl) ?_
        refine X_iconst (v := nI 0) dX2_copyFrom_71 (by decide) ?_
        refine X_iconst (v := nI 5) dX2_copyFrom_72 (by decide) ?_
        first | refine X_copyI dX2_copyFrom_73 ac_X2_56 ac_2 ac_3 ac_4 (by first | assumption | rfl) (by first | assumption | rfl) (by first | assumption | exact Nat.le_of_ble_eq_true rfl | omega) (by first | assumption | exact Nat.le_of_ble_eq_true rfl | omega) rfl rfl rfl (by omega) (by omega) (by decide) (by decide) (by omega) (Nat.le_of_ble_eq_true rfl) ?_ | refine X_copyL dX2_copyFrom_73 ac_X2_56 ac_2 ac_3 ac_4 (by first | assumption | rfl) (by first | assumption | rfl) (by first | assumption | exact Nat.le_of_ble_eq_true rfl | omega) (by first | assumption | exact Nat.le_of_ble_eq_true rfl | omega) rfl rfl rfl (by omega) (by omega) (by decide) (by decide) (by omega) (Nat.le_of_ble_eq_true rfl) ?_
        refine X_aload_n dX2_copyFrom_76 rfl ?_
        refine X_aload_n dX2_copyFrom_77 rfl ?_
        refine X_getI dX2_copyFrom_78 gf_X2_62 (by first | assumption | rfl) (by first | assumption | exact Nat.le_of_ble_eq_true rfl | omega) rfl ?_
        refine X_putI dX2_copyFrom_81 gf_X2_62 (Or.inl rfl) (by first | assumption | rfl) (by first | assumption | exact Nat.le_of_ble_eq_true rfl | omega) rfl ?_
        refine X_aload_n dX2_copyFrom_84 rfl ?_
        refine X_aload_n dX2_copyFrom_85 rfl ?_
        refine X_getI dX2_copyFrom_86 gf_X2_31 (by first | assumption | rfl) (by first | assumption | exact Nat.le_of_ble_eq_true rfl | omega) rfl ?_
        refine X_putI dX2_copyFrom_89 gf_X2_31 (Or.inl rfl) (by first | assumption | rfl) (by first | assumption | exact Nat.le_of_ble_eq_true rfl | omega) rfl ?_
        refine X_vret dX2_copyFrom_92 rfl ⟨rfl, hQ _ ⟨?_, ?_, ?_, fun q hq => ?_, ?_, fun q hq => ⟨?_, ?_⟩⟩ ?_⟩
        · exact CR_copy hD.1 hv.1.1 (by rw [sr_ne (by omega), sr_ne (by omega), sr_ne (by omega)]; exact c1.1) (fun q hq => by rw [sr_ne (by omega), sr_ne (by omega), sr_ne (by omega)]; exact c1.2 q hq)
        · exact CR_copy hD.2.1 hv.2.1.1 (by rw [sr_ne (by omega), sr_ne (by omega), sr_ne (by omega)]; exact c2.1) (fun q hq => by rw [sr_ne (by omega), sr_ne (by omega), sr_ne (by omega)]; exact c2.2 q hq)
        · rw [sr_eq, up_eq, sr_ne (by omega), sr_ne (by omega), e6]; exact hD.2.2.1
        · rw [sr_ne (by omega), sr_ne (by omega), sr_eq]
          unfold va_cpy
          rw [if_pos (by omega), e5, show 0 + (q - 0) = q by omega]
          exact hD.2.2.2.1 q hq
        · rw [sr_eq, up_ne (by decide), sr_eq, up_eq, sr_ne (by omega), e6]; exact hD.2.2.2.2.1
        · have := hv.2.2.2.2.1
          have c6 := (c3 q (by omega)).1
          exact CR_copy (hD.2.2.2.2.2 q hq).1 (hv.2.2.2.2.2 q hq).1.2.2.1 (by rw [sr_ne (by omega), sr_ne (by omega), sr_ne (by omega)]; exact c6.1) (fun q2 hq2 => by rw [sr_ne (by omega), sr_ne (by omega), sr_ne (by omega)]; exact c6.2 q2 hq2)
        · have := hv.2.2.2.2.1
          have c6 := (c3 q (by omega)).2
          exact CR_copy (hD.2.2.2.2.2 q hq).2 (hv.2.2.2.2.2 q hq).2.2.1 (by rw [sr_ne (by omega), sr_ne (by omega), sr_ne (by omega)]; exact c6.1) (fun q2 hq2 => by rw [sr_ne (by omega), sr_ne (by omega), sr_ne (by omega)]; exact c6.2 q2 hq2)
        · intro q hq
          rw [sr_ne (by omega), sr_ne (by omega), sr_ne (by omega)]
          exact c4 q hq
      · exact absurd (Int32.le_refl _) h26
    | succ m ih =>
      intro i I3 hm hi c1 c2 c3 c4 c5
      have hi4 : i < 4 := by omega
      have r1 := a8 sw i hi4
      have r2 := b8 sw i hi4
      obtain ⟨u1, u2, u3, u4, u5, u6, u7, u8⟩ := b11 i hi4
      have u2 := u2 sw
      have u3 := u3 sw
      have w1 := (a11 i hi4).1
      have k9 : k + 7 + 6 * i < NC := by omega
      have j9 : j + 7 + 6 * i < NC := by omega
      refine X_iload_n dX2_copyFrom_24 rfl ?_
      refine X_iconst (v := nI 4) dX2_copyFrom_25 (by decide) ?_
      refine X_icmp_ge (tgt := 62) dX2_copyFrom_26 (by decide) (fun h26 => ?_) (fun h26 => ?_)
      · exact absurd ((nle (by omega) (by omega)).mp h26) (by omega)
      refine X_aload_n dX2_copyFrom_29 rfl ?_
      refine X_getR dX2_copyFrom_30 gf_X2_23 (by first | assumption | rfl) (by first | assumption | exact Nat.le_of_ble_eq_true rfl | omega) rfl (by first | assumption | rfl) ?_
      refine X_iload_n dX2_copyFrom_33 rfl ?_
      refine X_aald dX2_copyFrom_34 (by first | assumption | rfl) (by decide) (by first | assumption | exact Nat.le_of_ble_eq_true rfl | omega) rfl (by first | decide | omega) (by decide) (by first | assumption | rfl) ?_
      refine X_aload_n dX2_copyFrom_35 rfl ?_
      refine X_getR dX2_copyFrom_36 gf_X2_23 (by first | assumption | rfl) (by first | assumption | exact Nat.le_of_ble_eq_true rfl | omega) rfl (by first | assumption | rfl) ?_
      refine X_iload_n dX2_copyFrom_39 rfl ?_
      refine X_aald dX2_copyFrom_40 (by first | assumption | rfl) (by decide) (by first | assumption | exact Nat.le_of_ble_eq_true rfl | omega) rfl (by first | decide | omega) (by decide) (by first | assumption | rfl) ?_
      refine X_getR dX2_copyFrom_41 gf_X2_46 (by first | assumption | rfl) (by first | assumption | exact Nat.le_of_ble_eq_true rfl | omega) rfl (by first | assumption | rfl) ?_
      refine X_aload_n dX2_copyFrom_44 rfl ?_
      refine X_getR dX2_copyFrom_45 gf_X2_23 (by first | assumption | rfl) (by first | assumption | exact Nat.le_of_ble_eq_true rfl | omega) rfl (by first | assumption | rfl) ?_
      refine X_iload_n dX2_copyFrom_48 rfl ?_
      refine X_aald dX2_copyFrom_49 (by first | assumption | rfl) (by decide) (by first | assumption | exact Nat.le_of_ble_eq_true rfl | omega) rfl (by first | decide | omega) (by decide) (by first | assumption | rfl) ?_
      refine X_getR dX2_copyFrom_50 gf_X2_49 (by first | assumption | rfl) (by first | assumption | exact Nat.le_of_ble_eq_true rfl | omega) rfl (by first | assumption | rfl) ?_
      refine X_cVv dX2_copyFrom_53 ck_X2_52 rfl rfl (by first | assumption | rfl) (by first | assumption | exact Nat.le_of_ble_eq_true rfl | omega) (by omega) (Nat.le_of_ble_eq_true rfl) (c_copySides (by omega) (a11 i hi4) u5 u6 (by omega) (by omega) (fun I4 f4 g1 g2 => ?_))
      first | refine X_iinc1 dX2_copyFrom_56 rfl rfl rfl ?_ | refine X_iinc dX2_copyFrom_56 rfl rfl rfl rfl ?_
      refine X_goto (tgt := 24) dX2_copyFrom_59 (by decide) ?_
      refine ih (i + 1) I4 (by omega) (by omega) ?_ ?_ (fun q hq => ?_) (fun q hq => ?_) ?_
      · exact ⟨by rw [f4 _ (by simp; omega)]; exact c1.1, fun q hq => by rw [f4 _ (by simp; omega)]; exact c1.2 q hq⟩
      · exact ⟨by rw [f4 _ (by simp; omega)]; exact c2.1, fun q hq => by rw [f4 _ (by simp; omega)]; exact c2.2 q hq⟩
      · rcases Nat.lt_succ_iff_lt_or_eq.mp hq with h | h
        · obtain ⟨p1, p2⟩ := c3 q h
          exact ⟨⟨by rw [f4 _ (by simp; omega)]; exact p1.1, fun q hq => by rw [f4 _ (by simp; omega)]; exact p1.2 q hq⟩, ⟨by rw [f4 _ (by simp; omega)]; exact p2.1, fun q hq => by rw [f4 _ (by simp; omega)]; exact p2.2 q hq⟩⟩
        · subst h
          have z1 : I3 (j + 7 + 6 * q + 1) = I (j + 7 + 6 * q + 1) := c4 _ (by omega)
          have z2 : I3 (j + 7 + 6 * q + 1 + 1) = I (j + 7 + 6 * q + 1 + 1) := c4 _ (by omega)
          have z3 : I3 (j + 7 + 6 * q + 3) = I (j + 7 + 6 * q + 3) := c4 _ (by omega)
          have z4 : I3 (j + 7 + 6 * q + 3 + 1) = I (j + 7 + 6 * q + 3 + 1) := c4 _ (by omega)
          rw [show k + 8 + 6 * q = k + 7 + 6 * q + 1 by omega, show k + 10 + 6 * q = k + 7 + 6 * q + 3 by omega, show j + 8 + 6 * q = j + 7 + 6 * q + 1 by omega, show j + 10 + 6 * q = j + 7 + 6 * q + 3 by omega]
          exact ⟨⟨by rw [g1.1, z1], fun p hp => by rw [g1.2 p hp, z2]⟩, ⟨by rw [g2.1, z3], fun p hp => by rw [g2.2 p hp, z4]⟩⟩
      · rw [f4 q (by simp; omega)]; exact c4 q hq
      · exact ⟨by rw [f4 k (by simp; omega)]; exact c5.1, by rw [f4 (k + 6) (by simp; omega)]; exact c5.2⟩
  exact loop 4 0 I2 rfl (by decide) q1 q2 (fun q hq => absurd hq (Nat.not_lt_zero q)) (fun q hq => q3 q (by omega)) ⟨q3 k (by omega), q3 (k + 6) (by omega)⟩
end CE
