/-! the reference: the best of all lawful orders -/
section RB
variable {G : GG} {d : Nat} {sw : Bool} {I : Nat → Nat → Int32} {J : Nat → Nat → Int64} {s : SS} {n : Nat} {c : Nat → Nat → Nat}
def lwA (c : Nat → Nat → Nat) (b : Nat) (i : Nat) : Nat := if b = 1 then ned c i ||| awt c i else ned c i
theorem lwA_lt (c : Nat → Nat → Nat) (b i : Nat) : lwA c b i < 2 ^ i := by
  unfold lwA
  split
  · exact Nat.or_lt_two_pow (ned_lt c i) (awt_lt c i)
  · exact ned_lt c i
set_option maxRecDepth 20000 in
theorem m_isLawful {Q : Int32 → Mm → Prop} {o : Nat → Nat} {b : Nat} (hb : b < 2) (hn0 : I 170 9 = nI n) (hn : n ≤ 12) (hB : ∀ i, i < n → I 189 i = nI (ned c i) ∧ I 190 i = nI (awt c i)) (ho : ∀ k, k < n → I 192 k = nI (o k)) (hon : ∀ k, k < n → o k < n) (hQ : Q (nI (if lwb (lwA c b) o n = true then 1 else 0)) (NC, I, J, layR sw)) : Y G d zX12_isLawful [vr 170, vi (nI b)] (NC, I, J, layR sw) 0 0 (qi Q) := by
  have loop : ∀ (m k : Nat), m = n - k → k ≤ n → X G d zX12_isLawful 7 [(0, vr 170), (1, vi (nI b)), (2, vi (nI (pbt o k))), (3, vi (nI (if lwb (lwA c b) o k = true then 1 else 0))), (4, vi (nI k))] [] (NC, I, J, layR sw) 0 0 (qi Q) := by
    intro m
    induction m with
    | zero =>
      intro k hm hk
      obtain rfl : k = n := by omega
      refine X_iload dX12_isLawful_7 rfl ?_
      refine X_aload_n dX12_isLawful_9 rfl ?_
      refine X_getI dX12_isLawful_10 gf_X12_181 (by first | assumption | rfl) (by first | assumption | exact Nat.le_of_ble_eq_true rfl | omega) rfl ?_
      rw [hn0]
      refine X_icmp_ge (tgt := 84) dX12_isLawful_13 (by decide) (fun b13 => ?_) (fun b13 => ?_)
      · refine X_iload_n dX12_isLawful_84 rfl ?_
        refine X_zret dX12_isLawful_85 rfl (by split <;> decide) ⟨_, rfl, hQ⟩
      · exact absurd (Int32.le_refl _) b13
    | succ m ih =>
      intro k hm hk
      have hkn : k < n := by omega
      have hok := hon k hkn
      have ih := ih (k + 1) (by omega) (by omega)
      refine X_iload dX12_isLawful_7 rfl ?_
      refine X_aload_n dX12_isLawful_9 rfl ?_
      refine X_getI dX12_isLawful_10 gf_X12_181 (by first | assumption | rfl) (by first | assumption | exact Nat.le_of_ble_eq_true rfl | omega) rfl ?_
      rw [hn0]
      refine X_icmp_ge (tgt := 84) dX12_isLawful_13 (by decide) (fun b13 => ?_) (fun b13 => ?_)
      · exact absurd ((nle (by omega) (by omega)).mp b13) (by omega)
      refine X_iload_n dX12_isLawful_16 rfl ?_
      by_cases hw : lwb (lwA c b) o k = true
      · rw [if_pos hw]
        refine X_if_eq (tgt := 84) dX12_isLawful_17 (by decide) (fun b17 => ?_) (fun b17 => ?_)
        · exact absurd b17 (by decide)
        refine X_aload_n dX12_isLawful_20 rfl ?_
        refine X_getR dX12_isLawful_21 gf_X12_74 (by first | assumption | rfl) (by first | assumption | exact Nat.le_of_ble_eq_true rfl | omega) rfl (by first | assumption | rfl) ?_
        refine X_iload dX12_isLawful_24 rfl ?_
        first | refine X_iald dX12_isLawful_26 (by first | assumption | rfl) (by first | assumption | exact Nat.le_of_ble_eq_true rfl | omega) rfl (by first | decide | omega) (by decide) ?_ | refine X_ildA dX12_isLawful_26 rfl (by omega) ?_ | refine X_ildM dX12_isLawful_26 rfl (by omega) ?_ | refine X_sld dX12_isLawful_26 rfl (by omega) (by omega) ?_
        rw [ho k hkn]
        obtain ⟨h189, h190⟩ := hB (o k) hok
        have fin : X G d zX12_isLawful 58 [(0, vr 170), (1, vi (nI b)), (2, vi (nI (pbt o k))), (3, vi (nI 1)), (4, vi (nI k)), (5, vi (nI (o k)))] [vi (nI (lwA c b (o k)))] (NC, I, J, layR sw) 0 0 (qi Q) := by
          have tail : ∀ v : Nat, v = (if lwb (lwA c b) o (k + 1) = true then 1 else 0) → X G d zX12_isLawful 70 [(0, vr 170), (1, vi (nI b)), (2, vi (nI (pbt o k))), (3, vi (nI 1)), (4, vi (nI k)), (5, vi (nI (o k)))] [vi (nI v)] (NC, I, J, layR sw) 0 0 (qi Q) := by
            intro v he
            refine X_istore_n dX12_isLawful_70 rfl rfl ?_
            refine X_iload_n dX12_isLawful_71 rfl ?_
            refine X_iconst (v := nI 1) dX12_isLawful_72 (by decide) ?_
            refine X_iload dX12_isLawful_73 rfl ?_
            first | refine X_ishl1 dX12_isLawful_75 (by omega) ?_ | refine X_ishl dX12_isLawful_75 ?_
            first | refine X_iorN dX12_isLawful_76 ?_ | refine X_ior dX12_isLawful_76 ?_
            refine X_istore_n dX12_isLawful_77 rfl rfl ?_
            first | refine X_iinc1 dX12_isLawful_78 rfl rfl rfl ?_ | refine X_iinc dX12_isLawful_78 rfl rfl rfl rfl ?_
            refine X_goto (tgt := 7) dX12_isLawful_81 (by decide) ?_
            refine weak (lv' := [(0, vr 170), (1, vi (nI b)), (2, vi (nI (pbt o k ||| 2 ^ o k))), (3, vi (nI v)), (4, vi (nI (k + 1)))]) (fun q hq => List.mem_append_left _ hq) ?_
            rw [he]
            exact ih
          have hlt : lwA c b (o k) < 4096 := Nat.lt_of_lt_of_le (lwA_lt c b (o k)) (pow4096 (by omega))
          have hsl := sdf_le (lwA c b (o k)) (pbt o k)
          have hdf : lwb (lwA c b) o (k + 1) = (lwb (lwA c b) o k && decide (sdf (lwA c b (o k)) (pbt o k) = 0)) := rfl
          refine X_iload_n dX12_isLawful_58 rfl ?_
          refine X_iconst (v := (-1)) dX12_isLawful_59 (by decide) ?_
          refine X_ixor dX12_isLawful_60 ?_
          refine X_iandC dX12_isLawful_61 ?_
          refine X_if_ne (tgt := 69) dX12_isLawful_62 (by decide) (fun b62 => ?_) (fun b62 => ?_)
          · refine X_iconst (v := nI 0) dX12_isLawful_69 (by decide) ?_
            refine tail 0 ?_
            rw [hdf, hw, Bool.true_and, if_neg]
            rw [decide_eq_true_iff]
            exact fun q => b62 (by rw [q]; rfl)
          · refine X_iconst (v := nI 1) dX12_isLawful_65 (by decide) ?_
            refine X_goto (tgt := 70) dX12_isLawful_66 (by decide) ?_
            refine tail 1 ?_
            rw [hdf, hw, Bool.true_and, if_pos]
            rw [decide_eq_true_iff]
            exact (neq (b := 0) (by omega) (by decide)).mp b62
        refine X_istore dX12_isLawful_27 rfl rfl ?_
        refine X_iload_n dX12_isLawful_29 rfl ?_
        rcases (by omega : b = 0 ∨ b = 1) with rfl | rfl
        · refine X_if_eq (tgt := 51) dX12_isLawful_30 (by decide) (fun b30 => ?_) (fun b30 => ?_)
          · refine X_aload_n dX12_isLawful_51 rfl ?_
            refine X_getR dX12_isLawful_52 gf_X12_65 (by first | assumption | rfl) (by first | assumption | exact Nat.le_of_ble_eq_true rfl | omega) rfl (by first | assumption | rfl) ?_
            refine X_iload dX12_isLawful_55 rfl ?_
            first | refine X_iald dX12_isLawful_57 (by first | assumption | rfl) (by first | assumption | exact Nat.le_of_ble_eq_true rfl | omega) rfl (by first | decide | omega) (by decide) ?_ | refine X_ildA dX12_isLawful_57 rfl (by omega) ?_ | refine X_ildM dX12_isLawful_57 rfl (by omega) ?_ | refine X_sld dX12_isLawful_57 rfl (by omega) (by omega) ?_
            rw [h189]
            exact fin
          · exact absurd rfl b30
        · refine X_if_eq (tgt := 51) dX12_isLawful_30 (by decide) (fun b30 => ?_) (fun b30 => ?_)
          · exact absurd b30 (by decide)
          refine X_aload_n dX12_isLawful_33 rfl ?_
          refine X_getR dX12_isLawful_34 gf_X12_65 (by first | assumption | rfl) (by first | assumption | exact Nat.le_of_ble_eq_true rfl | omega) rfl (by first | assumption | rfl) ?_
          refine X_iload dX12_isLawful_37 rfl ?_
          first | refine X_iald dX12_isLawful_39 (by first | assumption | rfl) (by first | assumption | exact Nat.le_of_ble_eq_true rfl | omega) rfl (by first | decide | omega) (by decide) ?_ | refine X_ildA dX12_isLawful_39 rfl (by omega) ?_ | refine X_ildM dX12_isLawful_39 rfl (by omega) ?_ | refine X_sld dX12_isLawful_39 rfl (by omega) (by omega) ?_
          rw [h189]
          refine X_aload_n dX12_isLawful_40 rfl ?_
          refine X_getR dX12_isLawful_41 gf_X12_68 (by first | assumption | rfl) (by first | assumption | exact Nat.le_of_ble_eq_true rfl | omega) rfl (by first | assumption | rfl) ?_
          refine X_iload dX12_isLawful_44 rfl ?_
          first | refine X_iald dX12_isLawful_46 (by first | assumption | rfl) (by first | assumption | exact Nat.le_of_ble_eq_true rfl | omega) rfl (by first | decide | omega) (by decide) ?_ | refine X_ildA dX12_isLawful_46 rfl (by omega) ?_ | refine X_ildM dX12_isLawful_46 rfl (by omega) ?_ | refine X_sld dX12_isLawful_46 rfl (by omega) (by omega) ?_
          rw [h190]
          first | refine X_iorN dX12_isLawful_47 ?_ | refine X_ior dX12_isLawful_47 ?_
          refine X_goto (tgt := 58) dX12_isLawful_48 (by decide) ?_
          exact fin
      · rw [if_neg hw]
        have hz : ¬ lwb (lwA c b) o n = true := fun q => hw (lwb_le (n - k) (by rw [show k + (n - k) = n by omega]; exact q))
        rw [if_neg hz] at hQ
        refine X_if_eq (tgt := 84) dX12_isLawful_17 (by decide) (fun b17 => ?_) (fun b17 => ?_)
        · refine X_iload_n dX12_isLawful_84 rfl ?_
          exact X_zret dX12_isLawful_85 rfl (by decide) ⟨_, rfl, hQ⟩
        · exact absurd rfl b17
  refine Y_of rfl rfl (Nat.le_of_ble_eq_true rfl) rfl ?_
  refine X_iconst (v := nI 0) dX12_isLawful_0 (by decide) ?_
  refine X_istore_n dX12_isLawful_1 rfl rfl ?_
  refine X_iconst (v := nI 1) dX12_isLawful_2 (by decide) ?_
  refine X_istore_n dX12_isLawful_3 rfl rfl ?_
  refine X_iconst (v := nI 0) dX12_isLawful_4 (by decide) ?_
  refine X_istore dX12_isLawful_5 rfl rfl ?_
  exact loop n 0 rfl (Nat.zero_le n)
/-- how the best one is held: its cost on the stack, its order in a row -/
def bsI (acc : BO) : Int32 := match acc with
  | none => -6
  | some p => nI p.1
def bsR (I : Nat → Nat → Int32) (n : Nat) (acc : BO) : Prop := match acc with
  | none => True
  | some p => p.1 < 1000000 ∧ ∀ k, k < n → I 194 k = nI (p.2 k)
set_option maxRecDepth 20000 in
set_option maxHeartbeats 1000000 in
theorem m_findBest {Q : Int32 → Mm → Prop} {b : Nat} {cost : (Nat → Nat) → Nat} {L : List Nat} (hL : ∀ k, k ∈ [189, 190, 192, 194] → k ∉ L) (hL2 : L.all (fun k => decide (175 < k)) = true) (hd : 4 ≤ d) (hb : b < 2) (hc : RC I n c) (hv : VC n c) (hcl : ∀ x, cost x < 1000000)
    (hcost : ∀ (I' : Nat → Nat → Int32) (o : Nat → Nat) (best : Int32), FrM (192 :: 194 :: 189 :: 190 :: L) [] I I' → (∀ i, i < n → I' 189 i = nI (ned c i) ∧ I' 190 i = nI (awt c i)) → (∀ k, k < n → I' 192 k = nI (o k)) → (∀ k, k < n → o k < n) → (∀ q q', q < n → q' < n → o q = o q' → q = q') → lwb (lwA c b) o n = true →
      (∀ I2, FrM L [] I' I2 → X G d zX12_findBest 40 [(0, vr 170), (1, vi (nI b)), (2, vi best), (3, vi (nI 1))] [vi (nI (cost o))] (NC, I2, J, layR sw) 0 0 (qi Q)) → X G d zX12_findBest 25 [(0, vr 170), (1, vi (nI b)), (2, vi best), (3, vi (nI 1))] [] (NC, I', J, layR sw) 0 0 (qi Q))
    (hQ : ∀ I' p, fq (lf (lwA c b) cost n) n 0 (fun _ => 0) (fun q => q) none = some p → FrM (192 :: 194 :: 189 :: 190 :: L) [] I I' → bsR I' n (some p) → Q (nI p.1) (NC, I', J, layR sw)) : Y G d zX12_findBest [vr 170, vi (nI b)] (NC, I, J, layR sw) 0 0 (qi Q) := by
  have hn := hv.1
  have hF0 : ∀ {k : Nat} {I1 I2 : Nat → Nat → Int32}, k ∈ 192 :: 194 :: 189 :: 190 :: L → FrM [k] [] I1 I2 → FrM (192 :: 194 :: 189 :: 190 :: L) [] I1 I2 := fun hk h => h.sub (by simpa using hk) (by simp)
  have hall : (192 :: 194 :: 189 :: 190 :: L).all (fun k => decide (175 < k)) = true := by
    rw [List.all_cons, List.all_cons, List.all_cons, List.all_cons, hL2]; rfl
  let P : (Nat → Nat → Int32) → (Nat → Nat) → BO → Prop := fun I' x acc => FrM (192 :: 194 :: 189 :: 190 :: L) [] I I' ∧ (∀ i, i < n → I' 189 i = nI (ned c i) ∧ I' 190 i = nI (awt c i)) ∧ (∀ k, k < n → I' 192 k = nI (x k)) ∧ bsR I' n acc
  let H : (Nat → Nat) → BO → Prop := fun x acc => ∀ I' L2, P I' x acc → X G d zX12_findBest 17 ([(0, vr 170), (1, vi (nI b)), (2, vi (bsI acc)), (3, vi (nI 1))] ++ L2) [] (NC, I', J, layR sw) 0 0 (qi Q)
  let N : (Nat → Nat) → BO → Prop := fun x acc => ∀ I' L2, P I' x acc → X G d zX12_findBest 87 ([(0, vr 170), (1, vi (nI b)), (2, vi (bsI acc)), (3, vi (nI 1))] ++ L2) [] (NC, I', J, layR sw) 0 0 (qi Q)
  have h1 : ∀ x acc, (∀ q, q < n → x q < n) → (∀ q q', q < n → q' < n → x q = x q' → q = q') → N x (lf (lwA c b) cost n x acc) → H x acc := by
    intro x acc hx hinj hN I' L2 ⟨hF, hB, ho, hbs⟩
    have hc' := RC_fm hc hF hall (by decide)
    refine weak (lv' := [(0, vr 170), (1, vi (nI b)), (2, vi (bsI acc)), (3, vi (nI 1))]) (fun q hq => List.mem_append_left _ hq) ?_
    refine X_aload_n dX12_findBest_17 rfl ?_
    refine X_iload_n dX12_findBest_18 rfl ?_
    refine X_cVi dX12_findBest_19 ck_X12_309 rfl rfl (by first | assumption | rfl) (by first | assumption | exact Nat.le_of_ble_eq_true rfl | omega) (by omega) (Nat.le_of_ble_eq_true rfl) (m_isLawful (c := c) hb hc'.1 hn hB ho hx ?_)
    by_cases hw : lwb (lwA c b) x n = true
    · rw [if_pos hw]
      refine X_if_eq (tgt := 87) dX12_findBest_22 (by decide) (fun b22 => ?_) (fun b22 => ?_)
      · exact absurd b22 (by decide)
      refine hcost I' x _ hF hB ho hx hinj hw (fun I2 f2 => ?_)
      have hF2 : FrM (192 :: 194 :: 189 :: 190 :: L) [] I I2 := hF.tr (f2.sub (fun j hj => by simp [hj]) (by simp))
      have hc2 := RC_fm hc hF2 hall (by decide)
      have hB2 : ∀ i, i < n → I2 189 i = nI (ned c i) ∧ I2 190 i = nI (awt c i) := fun i h => by rw [f2.1 189 (by decide) (hL 189 (by decide)), f2.1 190 (by decide) (hL 190 (by decide))]; exact hB i h
      have ho2 : ∀ k, k < n → I2 192 k = nI (x k) := fun k h => by rw [f2.1 192 (by decide) (hL 192 (by decide))]; exact ho k h
      have better : lf (lwA c b) cost n x acc = some (cost x, x) → X G d zX12_findBest 52 [(0, vr 170), (1, vi (nI b)), (2, vi (bsI acc)), (3, vi (nI 1)), (4, vi (nI (cost x)))] [] (NC, I2, J, layR sw) 0 0 (qi Q) := by
        intro he
        rw [he] at hN
        have loop : ∀ (m k : Nat) (I3 : Nat → Nat → Int32), m = n - k → k ≤ n → FrM [194] [] I2 I3 → (∀ j, j < k → I3 194 j = nI (x j)) → X G d zX12_findBest 58 [(0, vr 170), (1, vi (nI b)), (2, vi (nI (cost x))), (3, vi (nI 1)), (4, vi (nI (cost x))), (5, vi (nI k))] [] (NC, I3, J, layR sw) 0 0 (qi Q) := by
          intro m
          induction m with
          | zero =>
            intro k I3 hm hk f3 hj
            obtain rfl : k = n := by omega
            refine X_iload dX12_findBest_58 rfl ?_
            refine X_aload_n dX12_findBest_60 rfl ?_
            refine X_getI dX12_findBest_61 gf_X12_181 (by first | assumption | rfl) (by first | assumption | exact Nat.le_of_ble_eq_true rfl | omega) rfl ?_
            rw [f3.2 9 (by simp), hc2.1]
            refine X_icmp_ge (tgt := 87) dX12_findBest_64 (by decide) (fun b64 => ?_) (fun b64 => ?_)
            · refine hN I3 [(4, vi (nI (cost x))), (5, vi (nI k))] ⟨hF2.tr (hF0 (by simp) f3), fun i h => ?_, fun j h => ?_, hcl x, hj⟩
              · rw [f3.1 189 (by decide) (by decide), f3.1 190 (by decide) (by decide)]; exact hB2 i h
              · rw [f3.1 192 (by decide) (by decide)]; exact ho2 j h
            · exact absurd (Int32.le_refl _) b64
          | succ m ih =>
            intro k I3 hm hk f3 hj
            refine X_iload dX12_findBest_58 rfl ?_
            refine X_aload_n dX12_findBest_60 rfl ?_
            refine X_getI dX12_findBest_61 gf_X12_181 (by first | assumption | rfl) (by first | assumption | exact Nat.le_of_ble_eq_true rfl | omega) rfl ?_
            rw [f3.2 9 (by simp), hc2.1]
            refine X_icmp_ge (tgt := 87) dX12_findBest_64 (by decide) (fun b64 => ?_) (fun b64 => ?_)
            · exact absurd ((nle (by omega) (by omega)).mp b64) (by omega)
            refine X_aload_n dX12_findBest_67 rfl ?_
            refine X_getR dX12_findBest_68 gf_X12_80 (by first | assumption | rfl) (by first | assumption | exact Nat.le_of_ble_eq_true rfl | omega) rfl (by first | assumption | rfl) ?_
            refine X_iload dX12_findBest_71 rfl ?_
            refine X_aload_n dX12_findBest_73 rfl ?_
            refine X_getR dX12_findBest_74 gf_X12_74 (by first | assumption | rfl) (by first | assumption | exact Nat.le_of_ble_eq_true rfl | omega) rfl (by first | assumption | rfl) ?_
            refine X_iload dX12_findBest_77 rfl ?_
            first | refine X_iald dX12_findBest_79 (by first | assumption | rfl) (by first | assumption | exact Nat.le_of_ble_eq_true rfl | omega) rfl (by first | decide | omega) (by decide) ?_ | refine X_ildA dX12_findBest_79 rfl (by omega) ?_ | refine X_ildM dX12_findBest_79 rfl (by omega) ?_ | refine X_sld dX12_findBest_79 rfl (by omega) (by omega) ?_
            rw [f3.1 192 (by decide) (by decide), ho2 k (by omega)]
            refine X_iast dX12_findBest_80 (by first | assumption | rfl) (by first | assumption | exact Nat.le_of_ble_eq_true rfl | omega) rfl (by first | decide | omega) (by decide) ?_
            first | refine X_iinc1 dX12_findBest_81 rfl rfl rfl ?_ | refine X_iinc dX12_findBest_81 rfl rfl rfl rfl ?_
            refine X_goto (tgt := 58) dX12_findBest_84 (by decide) ?_
            refine ih (k + 1) _ (by omega) (by omega) (f3.tr (FrM.c (by simp) (by decide))) (fun j h => ?_)
            rw [sr_eq]
            by_cases hjk : j = k
            · rw [hjk, up_eq]
            · rw [up_ne hjk]; exact hj j (by omega)
        refine X_iload dX12_findBest_52 rfl ?_
        refine X_istore_n dX12_findBest_54 rfl rfl ?_
        refine X_iconst (v := nI 0) dX12_findBest_55 (by decide) ?_
        refine X_istore dX12_findBest_56 rfl rfl ?_
        exact loop n 0 I2 rfl (Nat.zero_le n) FrM.rf (fun j h => absurd h (Nat.not_lt_zero j))
      refine X_istore dX12_findBest_40 rfl rfl ?_
      refine X_iload_n dX12_findBest_42 rfl ?_
      have hcx := hcl x
      cases acc with
      | none =>
        refine X_if_lt (tgt := 52) dX12_findBest_43 (by decide) (fun b43 => ?_) (fun b43 => ?_)
        · exact better (lf_none hw)
        · exact absurd (by decide) b43
      | some p =>
        obtain ⟨hp1, hp2⟩ := hbs
        refine X_if_lt (tgt := 52) dX12_findBest_43 (by decide) (fun b43 => ?_) (fun b43 => ?_)
        · exact absurd b43 (nneg (by omega))
        refine X_iload dX12_findBest_46 rfl ?_
        refine X_iload_n dX12_findBest_48 rfl ?_
        refine X_icmp_ge (tgt := 87) dX12_findBest_49 (by decide) (fun b49 => ?_) (fun b49 => ?_)
        · have hge := (nle (by omega) (by omega)).mp b49
          rw [lf_ge (by omega)] at hN
          refine hN I2 [(4, vi (nI (cost x)))] ⟨hF2, hB2, ho2, hp1, fun k h => ?_⟩
          rw [f2.1 194 (by decide) (hL 194 (by decide))]; exact hp2 k h
        · have hlt : cost x < p.1 := by
            have : ¬ p.1 ≤ cost x := fun q => b49 ((nle (by omega) (by omega)).mpr q)
            omega
          exact better (lf_lt hw hlt)
    · rw [if_neg hw]
      rw [lf_no hw] at hN
      refine X_if_eq (tgt := 87) dX12_findBest_22 (by decide) (fun b22 => ?_) (fun b22 => ?_)
      · exact hN I' [] ⟨hF, hB, ho, hbs⟩
      · exact absurd rfl b22
  have h2 : ∀ o dep r m a acc, dep + 1 + m = n → a < m → SI r (m + 1) → (∀ q, q < dep → o q < n) → (∀ k, k < m + 1 → r k < n) → H (OA (up o dep (r (a + 1))) (dep + 1) (eR r (a + 1)) m) acc → N (OD (up o dep (r a)) (dep + 1) (eR r a) m) acc := by
    intro o dep r m a acc hdm ham hr ho' hrn hH I' L2 ⟨hF, hB, ho, hbs⟩
    have hc' := RC_fm hc hF hall (by decide)
    refine weak (lv' := [(0, vr 170), (1, vi (nI b)), (2, vi (bsI acc)), (3, vi (nI 1))]) (fun q hq => List.mem_append_left _ hq) ?_
    refine X_aload_n dX12_findBest_87 rfl ?_
    refine X_cVi dX12_findBest_88 ck_X12_316 rfl rfl (by first | assumption | rfl) (by first | assumption | exact Nat.le_of_ble_eq_true rfl | omega) (by omega) (Nat.le_of_ble_eq_true rfl) (m_next_t (n := n) hc'.1 hn hdm ham hr hrn ho (fun I2 f2 h2 => ?_))
    refine X_istore_n dX12_findBest_91 rfl rfl ?_
    refine X_goto (tgt := 13) dX12_findBest_92 (by decide) ?_
    refine X_iload_n dX12_findBest_13 rfl ?_
    refine X_if_eq (tgt := 95) dX12_findBest_14 (by decide) (fun b14 => ?_) (fun b14 => ?_)
    · exact absurd b14 (by decide)
    refine hH I2 [] ⟨hF.tr (hF0 (by simp) f2), fun i h => ?_, h2, ?_⟩
    · rw [f2.1 189 (by decide) (by decide), f2.1 190 (by decide) (by decide)]; exact hB i h
    · cases acc with
      | none => exact hbs
      | some p => exact ⟨hbs.1, fun k h => by rw [f2.1 194 (by decide) (by decide)]; exact hbs.2 k h⟩
  have fin : N (OD (fun _ => 0) 0 (fun q => q) n) (fq (lf (lwA c b) cost n) n 0 (fun _ => 0) (fun q => q) none) := by
    intro I' L2 ⟨hF, hB, ho, hbs⟩
    have hc' := RC_fm hc hF hall (by decide)
    refine weak (lv' := [(0, vr 170), (1, vi (nI b)), (2, vi (bsI (fq (lf (lwA c b) cost n) n 0 (fun _ => 0) (fun q => q) none))), (3, vi (nI 1))]) (fun q hq => List.mem_append_left _ hq) ?_
    refine X_aload_n dX12_findBest_87 rfl ?_
    have e : ∀ q, q < n → OD (fun _ => 0) 0 (fun q => q) n q = n - 1 - q := fun q hq => by
      unfold OD
      rw [if_neg (Nat.not_lt_zero q), if_pos (by omega), Nat.sub_zero]
    refine X_cVi dX12_findBest_88 ck_X12_316 rfl rfl (by first | assumption | rfl) (by first | assumption | exact Nat.le_of_ble_eq_true rfl | omega) (by omega) (Nat.le_of_ble_eq_true rfl) (m_next_f (n := n) hc'.1 hn ho (fun q h => by rw [e q h]; omega) (fun q h => by rw [e q (by omega), e (q + 1) h]; omega) ?_)
    refine X_istore_n dX12_findBest_91 rfl rfl ?_
    refine X_goto (tgt := 13) dX12_findBest_92 (by decide) ?_
    refine X_iload_n dX12_findBest_13 rfl ?_
    refine X_if_eq (tgt := 95) dX12_findBest_14 (by decide) (fun b14 => ?_) (fun b14 => ?_)
    · obtain ⟨p, hp⟩ := fq_first (A := lwA c b) (cost := cost) n 0 (fun _ => 0) (fun q => q) none (lwb_id (lwA_lt c b) (n := n) (by omega) n (Nat.le_refl n))
      rw [hp] at hbs ⊢
      refine X_iload_n dX12_findBest_95 rfl ?_
      exact X_iret dX12_findBest_96 rfl ⟨_, rfl, hQ I' p hp hF hbs⟩
    · exact absurd rfl b14
  have main := enum (leaf := lf (lwA c b) cost n) (n := n) (H := H) (N := N) h1 h2 n 0 (fun _ => 0) (fun q => q) none (Nat.zero_add n) (fun i j h _ => h) ⟨fun q _ h => absurd h (Nat.not_lt_zero q), fun q _ h => absurd h (Nat.not_lt_zero q)⟩ (fun q h => absurd h (Nat.not_lt_zero q)) (fun k h => h) fin
  refine Y_of rfl rfl (Nat.le_of_ble_eq_true rfl) rfl ?_
  refine X_aload_n dX12_findBest_0 rfl ?_
  refine X_cVv dX12_findBest_1 ck_X12_295 rfl rfl (by first | assumption | rfl) (by first | assumption | exact Nat.le_of_ble_eq_true rfl | omega) (by omega) (Nat.le_of_ble_eq_true rfl) (m_findBehind (by omega) hc hv (fun I1 f1 hB => ?_))
  have hc1 := RC_fm hc f1 (by decide) (by decide)
  refine X_aload_n dX12_findBest_4 rfl ?_
  refine X_cVv dX12_findBest_5 ck_X12_303 rfl rfl (by first | assumption | rfl) (by first | assumption | exact Nat.le_of_ble_eq_true rfl | omega) (by omega) (Nat.le_of_ble_eq_true rfl) (m_layOrder hc1.1 hn (fun I2 f2 ho => ?_))
  refine X_bipush (v := (-6)) dX12_findBest_8 (by decide) ?_
  refine X_istore_n dX12_findBest_10 rfl rfl ?_
  refine X_iconst (v := nI 1) dX12_findBest_11 (by decide) ?_
  refine X_istore_n dX12_findBest_12 rfl rfl ?_
  refine X_iload_n dX12_findBest_13 rfl ?_
  refine X_if_eq (tgt := 95) dX12_findBest_14 (by decide) (fun b14 => ?_) (fun b14 => ?_)
  · exact absurd b14 (by decide)
  refine main I2 [] ⟨(f1.sub (by simp) (by simp)).tr (f2.sub (by simp) (by simp)), fun i h => ?_, fun k h => ?_, trivial⟩
  · rw [f2.1 189 (by decide) (by decide), f2.1 190 (by decide) (by decide)]; exact hB i h
  · rw [ho k h]
    unfold OA
    rw [if_neg (Nat.not_lt_zero k), if_pos (by omega)]
    rfl
end RB
