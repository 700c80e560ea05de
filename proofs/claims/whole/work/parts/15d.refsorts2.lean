section RS
variable {G : GG} {d : Nat} {sw : Bool} {I : Nat → Nat → Int32} {J : Nat → Nat → Int64} {s : SS} {n W : Nat} {c : Nat → Nat → Nat}
set_option maxRecDepth 20000 in
theorem m_sortMade {Q : Int32 → Mm → Prop} {i B mm : Nat} {S : SO} {rg : Nat → Nat} {L : Nat → Nat × Nat × Nat × Nat} (hd : 1 ≤ d) (hc : RC I n c) (hv : VC n c) (hi : i < n) (hS : RS I S mm L) (hmm : mm < 12) (hB : SOk S B) (hB2 : B < 38) (hrg : ∀ r, r < 4 → rg r < S.1) (hr : ∀ r, r < 4 → I 180 r = nI (rg r))
    (hQ : ∀ I' mm' L', mm' ≤ mm + 1 → FrM [181, 182, 183, 184, 185] [23, 24] I I' → RS I' (sSt S rg (c i)).2 mm' L' → Q (nI (sSt S rg (c i)).1) (NC, I', J, layR sw)) : Y G d zX12_sortMade [vr 170, vi (nI i)] (NC, I, J, layR sw) 0 0 (qi Q) := by
  have hn := hv.1
  obtain ⟨v0, v2, v3⟩ := hv.2 i hi
  obtain ⟨c0, c1, c2, c3⟩ := hc.2 i hi
  unfold sSt at hQ
  refine Y_of rfl rfl (Nat.le_of_ble_eq_true rfl) rfl ?_
  refine X_aload_n dX12_sortMade_0 rfl ?_
  refine X_aload_n dX12_sortMade_1 rfl ?_
  refine X_getR dX12_sortMade_2 gf_X12_19 (by first | assumption | rfl) (by first | assumption | exact Nat.le_of_ble_eq_true rfl | omega) rfl (by first | assumption | rfl) ?_
  refine X_iload_n dX12_sortMade_5 rfl ?_
  first | refine X_iald dX12_sortMade_6 (by first | assumption | rfl) (by first | assumption | exact Nat.le_of_ble_eq_true rfl | omega) rfl (by first | decide | omega) (by decide) ?_ | refine X_ildA dX12_sortMade_6 rfl (by omega) ?_ | refine X_ildM dX12_sortMade_6 rfl (by omega) ?_ | refine X_sld dX12_sortMade_6 rfl (by omega) (by omega) ?_
  rw [c2]
  refine X_cVi dX12_sortMade_7 ck_X12_239 rfl rfl (by first | assumption | rfl) (by first | assumption | exact Nat.le_of_ble_eq_true rfl | omega) (by omega) (Nat.le_of_ble_eq_true rfl) (m_sortOf v2 hS hB (by omega) hr (fun I1 f1 S1 => ?_))
  obtain ⟨a1, a2, a3, a4⟩ := sOp_ok (v := c i 2) hB hrg
  have hc1 := RC_fm hc f1 (by decide) (by decide)
  obtain ⟨d0, d1, d2, d3⟩ := hc1.2 i hi
  refine X_istore_n dX12_sortMade_10 rfl rfl ?_
  refine X_aload_n dX12_sortMade_11 rfl ?_
  refine X_getR dX12_sortMade_12 gf_X12_16 (by first | assumption | rfl) (by first | assumption | exact Nat.le_of_ble_eq_true rfl | omega) rfl (by first | assumption | rfl) ?_
  refine X_iload_n dX12_sortMade_15 rfl ?_
  first | refine X_iald dX12_sortMade_16 (by first | assumption | rfl) (by first | assumption | exact Nat.le_of_ble_eq_true rfl | omega) rfl (by first | decide | omega) (by decide) ?_ | refine X_ildA dX12_sortMade_16 rfl (by omega) ?_ | refine X_ildM dX12_sortMade_16 rfl (by omega) ?_ | refine X_sld dX12_sortMade_16 rfl (by omega) (by omega) ?_
  rw [d1]
  refine X_bipush (v := (-6)) dX12_sortMade_17 (by decide) ?_
  rcases v3 with ⟨e1, e3⟩ | ⟨e1, e3⟩
  · rw [e1] at hQ ⊢
    rw [if_pos rfl] at hQ
    refine X_icmp_ne (tgt := 24) dX12_sortMade_19 (by decide) (fun b => ?_) (fun b => ?_)
    · exact absurd rfl b
    refine X_iload_n dX12_sortMade_22 rfl ?_
    exact X_iret dX12_sortMade_23 rfl ⟨_, rfl, hQ I1 mm L (Nat.le_succ mm) (f1.sub (by simp) (by simp)) S1⟩
  · obtain ⟨n1, n2⟩ := enc_act e1
    rw [if_neg n1] at hQ
    refine X_icmp_ne (tgt := 24) dX12_sortMade_19 (by decide) (fun b => ?_) (fun b => ?_)
    · refine X_aload_n dX12_sortMade_24 rfl ?_
      refine X_aload_n dX12_sortMade_25 rfl ?_
      refine X_getR dX12_sortMade_26 gf_X12_22 (by first | assumption | rfl) (by first | assumption | exact Nat.le_of_ble_eq_true rfl | omega) rfl (by first | assumption | rfl) ?_
      refine X_iload_n dX12_sortMade_29 rfl ?_
      first | refine X_iald dX12_sortMade_30 (by first | assumption | rfl) (by first | assumption | exact Nat.le_of_ble_eq_true rfl | omega) rfl (by first | decide | omega) (by decide) ?_ | refine X_ildA dX12_sortMade_30 rfl (by omega) ?_ | refine X_ildM dX12_sortMade_30 rfl (by omega) ?_ | refine X_sld dX12_sortMade_30 rfl (by omega) (by omega) ?_
      rw [d3]
      refine X_cVi dX12_sortMade_31 ck_X12_239 rfl rfl (by first | assumption | rfl) (by first | assumption | exact Nat.le_of_ble_eq_true rfl | omega) (by omega) (Nat.le_of_ble_eq_true rfl) (m_sortOf e3 S1 a1 (by omega) (fun r h => by rw [f1.1 180 (by decide) (by decide)]; exact hr r h) (fun I2 f2 S2 => ?_))
      obtain ⟨b1, b2, b3, b4⟩ := sOp_ok (v := c i 3) a1 a4
      have hc2 := RC_fm hc1 f2 (by decide) (by decide)
      refine X_istore_n dX12_sortMade_34 rfl rfl ?_
      refine X_aload_n dX12_sortMade_35 rfl ?_
      refine X_aload_n dX12_sortMade_36 rfl ?_
      refine X_getR dX12_sortMade_37 gf_X12_16 (by first | assumption | rfl) (by first | assumption | exact Nat.le_of_ble_eq_true rfl | omega) rfl (by first | assumption | rfl) ?_
      refine X_iload_n dX12_sortMade_40 rfl ?_
      first | refine X_iald dX12_sortMade_41 (by first | assumption | rfl) (by first | assumption | exact Nat.le_of_ble_eq_true rfl | omega) rfl (by first | decide | omega) (by decide) ?_ | refine X_ildA dX12_sortMade_41 rfl (by omega) ?_ | refine X_ildM dX12_sortMade_41 rfl (by omega) ?_ | refine X_sld dX12_sortMade_41 rfl (by omega) (by omega) ?_
      rw [(hc2.2 i hi).2.1]
      refine X_iload_n dX12_sortMade_42 rfl ?_
      refine X_iload_n dX12_sortMade_43 rfl ?_
      have hl1 := b1.1.2
      refine X_cVi dX12_sortMade_44 ck_X12_242 rfl rfl (by first | assumption | rfl) (by first | assumption | exact Nat.le_of_ble_eq_true rfl | omega) (by omega) (Nat.le_of_ble_eq_true rfl) (m_madeOf e1 S2 hmm b1 (by omega) (by omega) (by omega) (fun I3 mm' L' hm3 f3 S3 => ?_))
      exact X_iret dX12_sortMade_47 rfl ⟨_, rfl, hQ I3 mm' L' hm3 (((f1.sub (by simp) (by simp)).tr (f2.sub (by simp) (by simp))).tr (f3.sub (by simp) (by simp))) S3⟩
    · exact absurd b n2
set_option maxRecDepth 20000 in
theorem m_beginSorts {Q : Mm → Prop} (hQ : ∀ I', FrM [180, 181] [23, 24] I I' → RS I' (so c 0).1 0 (fun _ => (0, 0, 0, 0)) → (∀ r, r < 4 → I' 180 r = nI r) → Q (NC, I', J, layR sw)) : Y G d zX12_beginSorts [vr 170] (NC, I, J, layR sw) 0 0 (qv Q) := by
  have loop2 : ∀ (m i : Nat) (I' : Nat → Nat → Int32), m = 8 - i → i ≤ 8 → FrM [180, 181] [23, 24] I I' → (∀ r, r < 4 → I' 180 r = nI r) → (∀ g, g < i → I' 181 g = -6) → X G d zX12_beginSorts 22 [(0, vr 170), (1, vi (nI i))] [] (NC, I', J, layR sw) 0 0 (qv Q) := by
    intro m
    induction m with
    | zero =>
      intro i I' hm hi8 hF hr hg
      obtain rfl : i = 8 := by omega
      refine X_iload_n dX12_beginSorts_22 rfl ?_
      refine X_bipush (v := nI 8) dX12_beginSorts_23 (by decide) ?_
      refine X_icmp_ge (tgt := 42) dX12_beginSorts_25 (by decide) (fun b => ?_) (fun b => ?_)
      · refine X_aload_n dX12_beginSorts_42 rfl ?_
        refine X_iconst (v := nI 0) dX12_beginSorts_43 (by decide) ?_
        refine X_putI dX12_beginSorts_44 gf_X12_236 (Or.inl rfl) (by first | assumption | rfl) (by first | assumption | exact Nat.le_of_ble_eq_true rfl | omega) rfl ?_
        refine X_aload_n dX12_beginSorts_47 rfl ?_
        refine X_iconst (v := nI 4) dX12_beginSorts_48 (by decide) ?_
        refine X_putI dX12_beginSorts_49 gf_X12_233 (Or.inl rfl) (by first | assumption | rfl) (by first | assumption | exact Nat.le_of_ble_eq_true rfl | omega) rfl ?_
        refine X_vret dX12_beginSorts_52 rfl ⟨rfl, hQ _ ((hF.tr (FrM.f (by simp))).tr (FrM.f (by simp))) ⟨?_, ?_, fun g h => ?_, fun k h => absurd h (Nat.not_lt_zero k), fun k h => absurd h (Nat.not_lt_zero k), fun q h => absurd rfl h, fun k k' _ h => absurd h (Nat.not_lt_zero k')⟩ (fun r h => ?_)⟩
        · rw [sr_eq, up_eq]; rfl
        · rw [sr_eq, up_ne (by decide), sr_eq, up_eq]
        · rw [sr_ne (by decide), sr_ne (by decide), hg g h]; rfl
        · rw [sr_ne (by decide), sr_ne (by decide)]; exact hr r h
      · exact absurd (by decide) b
    | succ m ih =>
      intro i I' hm hi8 hF hr hg
      refine X_iload_n dX12_beginSorts_22 rfl ?_
      refine X_bipush (v := nI 8) dX12_beginSorts_23 (by decide) ?_
      refine X_icmp_ge (tgt := 42) dX12_beginSorts_25 (by decide) (fun b => ?_) (fun b => ?_)
      · exact absurd ((nle (by omega) (by omega)).mp b) (by omega)
      refine X_aload_n dX12_beginSorts_28 rfl ?_
      refine X_getR dX12_beginSorts_29 gf_X12_40 (by first | assumption | rfl) (by first | assumption | exact Nat.le_of_ble_eq_true rfl | omega) rfl (by first | assumption | rfl) ?_
      refine X_iload_n dX12_beginSorts_32 rfl ?_
      refine X_bipush (v := (-6)) dX12_beginSorts_33 (by decide) ?_
      refine X_iast dX12_beginSorts_35 (by first | assumption | rfl) (by first | assumption | exact Nat.le_of_ble_eq_true rfl | omega) rfl (by first | decide | omega) (by decide) ?_
      first | refine X_iinc1 dX12_beginSorts_36 rfl rfl rfl ?_ | refine X_iinc dX12_beginSorts_36 rfl rfl rfl rfl ?_
      refine X_goto (tgt := 22) dX12_beginSorts_39 (by decide) ?_
      refine ih (i + 1) _ (by omega) (by omega) (hF.tr (FrM.c (by simp) (by decide))) (fun r h => by rw [sr_ne (by decide)]; exact hr r h) (fun g h => ?_)
      rw [sr_eq]
      by_cases hgi : g = i
      · rw [hgi, up_eq]
      · rw [up_ne hgi]; exact hg g (by omega)
  have loop1 : ∀ (m i : Nat) (I' : Nat → Nat → Int32), m = 4 - i → i ≤ 4 → FrM [180, 181] [23, 24] I I' → (∀ r, r < i → I' 180 r = nI r) → X G d zX12_beginSorts 2 [(0, vr 170), (1, vi (nI i))] [] (NC, I', J, layR sw) 0 0 (qv Q) := by
    intro m
    induction m with
    | zero =>
      intro i I' hm hi8 hF hr
      obtain rfl : i = 4 := by omega
      refine X_iload_n dX12_beginSorts_2 rfl ?_
      refine X_iconst (v := nI 4) dX12_beginSorts_3 (by decide) ?_
      refine X_icmp_ge (tgt := 20) dX12_beginSorts_4 (by decide) (fun b => ?_) (fun b => ?_)
      · refine X_iconst (v := nI 0) dX12_beginSorts_20 (by decide) ?_
        refine X_istore_n dX12_beginSorts_21 rfl rfl ?_
        exact loop2 8 0 I' rfl (by decide) hF hr (fun g h => absurd h (Nat.not_lt_zero g))
      · exact absurd (by decide) b
    | succ m ih =>
      intro i I' hm hi8 hF hr
      refine X_iload_n dX12_beginSorts_2 rfl ?_
      refine X_iconst (v := nI 4) dX12_beginSorts_3 (by decide) ?_
      refine X_icmp_ge (tgt := 20) dX12_beginSorts_4 (by decide) (fun b => ?_) (fun b => ?_)
      · exact absurd ((nle (by omega) (by omega)).mp b) (by omega)
      refine X_aload_n dX12_beginSorts_7 rfl ?_
      refine X_getR dX12_beginSorts_8 gf_X12_37 (by first | assumption | rfl) (by first | assumption | exact Nat.le_of_ble_eq_true rfl | omega) rfl (by first | assumption | rfl) ?_
      refine X_iload_n dX12_beginSorts_11 rfl ?_
      refine X_iload_n dX12_beginSorts_12 rfl ?_
      refine X_iast dX12_beginSorts_13 (by first | assumption | rfl) (by first | assumption | exact Nat.le_of_ble_eq_true rfl | omega) rfl (by first | decide | omega) (by decide) ?_
      first | refine X_iinc1 dX12_beginSorts_14 rfl rfl rfl ?_ | refine X_iinc dX12_beginSorts_14 rfl rfl rfl rfl ?_
      refine X_goto (tgt := 2) dX12_beginSorts_17 (by decide) ?_
      refine ih (i + 1) _ (by omega) (by omega) (hF.tr (FrM.c (by simp) (by decide))) (fun r h => ?_)
      rw [sr_eq]
      by_cases hri : r = i
      · rw [hri, up_eq]
      · rw [up_ne hri]; exact hr r (by omega)
  refine Y_of rfl rfl (Nat.le_of_ble_eq_true rfl) rfl ?_
  refine X_iconst (v := nI 0) dX12_beginSorts_0 (by decide) ?_
  refine X_istore_n dX12_beginSorts_1 rfl rfl ?_
  exact loop1 4 0 I rfl (by decide) FrM.rf (fun r h => absurd h (Nat.not_lt_zero r))
set_option maxRecDepth 20000 in
theorem m_laySorts {Q : Mm → Prop} {p : Nat} (hd : 2 ≤ d) (hc : RC I n c) (hv : VC n c) (hp : p ≤ n) (hQ : ∀ I' mm L, mm ≤ p → FrM [180, 181, 182, 183, 184, 185] [23, 24] I I' → RS I' (so c p).1 mm L → (∀ r, r < 4 → I' 180 r = nI ((so c p).2 r)) → Q (NC, I', J, layR sw)) : Y G d zX12_laySorts [vr 170, vi (nI p)] (NC, I, J, layR sw) 0 0 (qv Q) := by
  have hn := hv.1
  have loop : ∀ (m i : Nat) (I' : Nat → Nat → Int32) (mm : Nat) (L : Nat → Nat × Nat × Nat × Nat), m = p - i → i ≤ p → mm ≤ i → FrM [180, 181, 182, 183, 184, 185] [23, 24] I I' → RS I' (so c i).1 mm L → (∀ r, r < 4 → I' 180 r = nI ((so c i).2 r)) → X G d zX12_laySorts 6 [(0, vr 170), (1, vi (nI p)), (2, vi (nI i))] [] (NC, I', J, layR sw) 0 0 (qv Q) := by
    intro m
    induction m with
    | zero =>
      intro i I' mm L hm hip hmm hF hS hr
      obtain rfl : i = p := by omega
      refine X_iload_n dX12_laySorts_6 rfl ?_
      refine X_iload_n dX12_laySorts_7 rfl ?_
      refine X_icmp_ge (tgt := 33) dX12_laySorts_8 (by decide) (fun b => ?_) (fun b => ?_)
      · exact X_vret dX12_laySorts_33 rfl ⟨rfl, hQ I' mm L hmm hF hS hr⟩
      · exact absurd (Int32.le_refl _) b
    | succ m ih =>
      intro i I' mm L hm hip hmm hF hS hr
      have hc' := RC_fm hc hF (by decide) (by decide)
      have hin : i < n := by omega
      obtain ⟨o1, o2⟩ := so_ok hv.2 i (by omega)
      have ht := (hv.2 i hin).1
      refine X_iload_n dX12_laySorts_6 rfl ?_
      refine X_iload_n dX12_laySorts_7 rfl ?_
      refine X_icmp_ge (tgt := 33) dX12_laySorts_8 (by decide) (fun b => ?_) (fun b => ?_)
      · exact absurd ((nle (by omega) (by omega)).mp b) (by omega)
      refine X_aload_n dX12_laySorts_11 rfl ?_
      refine X_getR dX12_laySorts_12 gf_X12_37 (by first | assumption | rfl) (by first | assumption | exact Nat.le_of_ble_eq_true rfl | omega) rfl (by first | assumption | rfl) ?_
      refine X_aload_n dX12_laySorts_15 rfl ?_
      refine X_getR dX12_laySorts_16 gf_X12_13 (by first | assumption | rfl) (by first | assumption | exact Nat.le_of_ble_eq_true rfl | omega) rfl (by first | assumption | rfl) ?_
      refine X_iload_n dX12_laySorts_19 rfl ?_
      first | refine X_iald dX12_laySorts_20 (by first | assumption | rfl) (by first | assumption | exact Nat.le_of_ble_eq_true rfl | omega) rfl (by first | decide | omega) (by decide) ?_ | refine X_ildA dX12_laySorts_20 rfl (by omega) ?_ | refine X_ildM dX12_laySorts_20 rfl (by omega) ?_ | refine X_sld dX12_laySorts_20 rfl (by omega) (by omega) ?_
      rw [hc'.t hv hin]
      refine X_aload_n dX12_laySorts_21 rfl ?_
      refine X_iload_n dX12_laySorts_22 rfl ?_
      refine X_cVi dX12_laySorts_23 ck_X12_248 rfl rfl (by first | assumption | rfl) (by first | assumption | exact Nat.le_of_ble_eq_true rfl | omega) (by omega) (Nat.le_of_ble_eq_true rfl) (m_sortMade (by omega) hc' hv hin hS (by omega) o1 (by omega) o2 hr (fun I1 mm1 L1 hm1 f1 S1 => ?_))
      refine X_iast dX12_laySorts_26 (by first | assumption | rfl) (by first | assumption | exact Nat.le_of_ble_eq_true rfl | omega) rfl (by first | decide | omega) (by decide) ?_
      first | refine X_iinc1 dX12_laySorts_27 rfl rfl rfl ?_ | refine X_iinc dX12_laySorts_27 rfl rfl rfl rfl ?_
      refine X_goto (tgt := 6) dX12_laySorts_30 (by decide) ?_
      refine ih (i + 1) _ mm1 L1 (by omega) (by omega) (by omega) ((hF.tr (f1.sub (by simp) (by simp))).tr (FrM.c (by simp) (by decide))) ?_ (fun r h => ?_)
      · exact RS_fr S1 (FrM.c (l := [180]) (fl := []) (by simp) (by decide)) (fun k a b => by simp; omega) (by simp) (by simp)
      · rw [sr_eq]
        show _ = nI (up (so c i).2 (c i 0) (sSt (so c i).1 (so c i).2 (c i)).1 r)
        by_cases hrt : r = c i 0
        · rw [hrt, up_eq, up_eq]
        · rw [up_ne hrt, up_ne hrt, f1.1 180 (by decide) (by decide)]; exact hr r h
  refine Y_of rfl rfl (Nat.le_of_ble_eq_true rfl) rfl ?_
  refine X_aload_n dX12_laySorts_0 rfl ?_
  refine X_cVv dX12_laySorts_1 ck_X12_245 rfl rfl (by first | assumption | rfl) (by first | assumption | exact Nat.le_of_ble_eq_true rfl | omega) (by omega) (Nat.le_of_ble_eq_true rfl) (m_beginSorts (c := c) (fun I1 f1 S1 hr => ?_))
  refine X_iconst (v := nI 0) dX12_laySorts_4 (by decide) ?_
  refine X_istore_n dX12_laySorts_5 rfl rfl ?_
  exact loop p 0 I1 0 _ rfl (Nat.zero_le p) (Nat.le_refl 0) (f1.sub (by simp) (by simp)) S1 hr
/-- the last that passes a test, going down, is the first -/
theorem frs_down {p : Nat → Bool} {i m : Nat} : frs p i (m + 1) = if p i = true then i else frs p (i + 1) m := rfl
set_option maxRecDepth 20000 in
theorem m_holderOf {Q : Int32 → Mm → Prop} {i : Nat} (hd : 3 ≤ d) (hc : RC I n c) (hv : VC n c) (hi : i < n) (hQ : ∀ I', FrM [180, 181, 182, 183, 184, 185] [23, 24] I I' → Q (if hld c i < 4 then nI (hld c i) else -6) (NC, I', J, layR sw)) : Y G d zX12_holderOf [vr 170, vi (nI i)] (NC, I, J, layR sw) 0 0 (qi Q) := by
  have hn := hv.1
  obtain ⟨o1, o2⟩ := so_ok hv.2 i (by omega)
  obtain ⟨l1, l2⟩ := smd_lt hv hi
  refine Y_of rfl rfl (Nat.le_of_ble_eq_true rfl) rfl ?_
  refine X_aload_n dX12_holderOf_0 rfl ?_
  refine X_iload_n dX12_holderOf_1 rfl ?_
  refine X_cVv dX12_holderOf_2 ck_X12_251 rfl rfl (by first | assumption | rfl) (by first | assumption | exact Nat.le_of_ble_eq_true rfl | omega) (by omega) (Nat.le_of_ble_eq_true rfl) (m_laySorts (by omega) hc hv (by omega) (fun I1 mm L hmm f1 S1 hr => ?_))
  have hc1 := RC_fm hc f1 (by decide) (by decide)
  refine X_aload_n dX12_holderOf_5 rfl ?_
  refine X_iload_n dX12_holderOf_6 rfl ?_
  refine X_cVi dX12_holderOf_7 ck_X12_248 rfl rfl (by first | assumption | rfl) (by first | assumption | exact Nat.le_of_ble_eq_true rfl | omega) (by omega) (Nat.le_of_ble_eq_true rfl) (m_sortMade (by omega) hc1 hv hi S1 (by omega) o1 (by omega) o2 hr (fun I2 mm2 L2 hm2 f2 S2 => ?_))
  have hr2 : ∀ r, r < 4 → I2 180 r = nI ((so c i).2 r) := fun r h => by rw [f2.1 180 (by decide) (by decide)]; exact hr r h
  have hF : FrM [180, 181, 182, 183, 184, 185] [23, 24] I I2 := f1.tr (f2.sub (by simp) (by simp))
  change X G d zX12_holderOf 10 [(0, vr 170), (1, vi (nI i))] [vi (nI (smd c i))] (NC, I2, J, layR sw) 0 0 (qi Q)
  have loop : ∀ (m q : Nat) (e : Int32), m ≤ 4 → q = frs (fun r => decide ((so c i).2 r = smd c i)) m (4 - m) → e = (if q < 4 then nI q else -6) → X G d zX12_holderOf 17 [(0, vr 170), (1, vi (nI i)), (2, vi (nI (smd c i))), (3, vi e), (4, vi (nI m + Int32.ofInt (-1)))] [] (NC, I2, J, layR sw) 0 0 (qi Q) := by
    intro m
    induction m with
    | zero =>
      intro q e hm hq he
      refine X_iload dX12_holderOf_17 rfl ?_
      refine X_if_lt (tgt := 46) dX12_holderOf_19 (by decide) (fun b => ?_) (fun b => ?_)
      · refine X_iload_n dX12_holderOf_46 rfl ?_
        rw [he, hq]
        exact X_iret dX12_holderOf_47 rfl ⟨_, rfl, hQ I2 hF⟩
      · exact absurd pm_0 b
    | succ m ih =>
      intro q e hm hq he
      have hlr := l2 m (by omega)
      rw [pm_s]
      refine X_iload dX12_holderOf_17 rfl ?_
      refine X_if_lt (tgt := 46) dX12_holderOf_19 (by decide) (fun b => ?_) (fun b => ?_)
      · exact absurd b (nneg (by omega))
      refine X_aload_n dX12_holderOf_22 rfl ?_
      refine X_getR dX12_holderOf_23 gf_X12_37 (by first | assumption | rfl) (by first | assumption | exact Nat.le_of_ble_eq_true rfl | omega) rfl (by first | assumption | rfl) ?_
      refine X_iload dX12_holderOf_26 rfl ?_
      first | refine X_iald dX12_holderOf_28 (by first | assumption | rfl) (by first | assumption | exact Nat.le_of_ble_eq_true rfl | omega) rfl (by first | decide | omega) (by decide) ?_ | refine X_ildA dX12_holderOf_28 rfl (by omega) ?_ | refine X_ildM dX12_holderOf_28 rfl (by omega) ?_ | refine X_sld dX12_holderOf_28 rfl (by omega) (by omega) ?_
      rw [hr2 m (by omega)]
      refine X_iload_n dX12_holderOf_29 rfl ?_
      refine X_icmp_ne (tgt := 38) dX12_holderOf_30 (by decide) (fun b30 => ?_) (fun b30 => ?_)
      · have hne : ¬ (so c i).2 m = smd c i := fun q => b30 (by rw [q])
        refine X_iload_n dX12_holderOf_38 rfl ?_
        refine X_istore_n dX12_holderOf_39 rfl rfl ?_
        first | refine X_iincd dX12_holderOf_40 rfl (by omega) rfl rfl ?_ | refine X_iinc dX12_holderOf_40 rfl rfl rfl rfl ?_
        refine X_goto (tgt := 17) dX12_holderOf_43 (by decide) ?_
        refine ih q e (by omega) ?_ he
        rw [hq, show 4 - m = 4 - (m + 1) + 1 by omega, frs_down, if_neg (by simpa using hne)]
      · have heq := (neq (by omega) (by omega)).mp b30
        refine X_iload dX12_holderOf_33 rfl ?_
        refine X_goto (tgt := 39) dX12_holderOf_35 (by decide) ?_
        refine X_istore_n dX12_holderOf_39 rfl rfl ?_
        first | refine X_iincd dX12_holderOf_40 rfl (by omega) rfl rfl ?_ | refine X_iinc dX12_holderOf_40 rfl rfl rfl rfl ?_
        refine X_goto (tgt := 17) dX12_holderOf_43 (by decide) ?_
        refine ih m (nI m) (by omega) ?_ (by rw [if_pos (by omega)])
        rw [show 4 - m = 4 - (m + 1) + 1 by omega, frs_down, if_pos (by simpa using heq)]
  refine X_istore_n dX12_holderOf_10 rfl rfl ?_
  refine X_bipush (v := (-6)) dX12_holderOf_11 (by decide) ?_
  refine X_istore_n dX12_holderOf_13 rfl rfl ?_
  refine X_iconst (v := nI 3) dX12_holderOf_14 (by decide) ?_
  refine X_istore dX12_holderOf_15 rfl rfl ?_
  exact loop 4 4 (-6) (Nat.le_refl 4) rfl rfl
theorem M_sort {x y : Int32} (hd : 4 ≤ d) (hv : VSt s) (hi : RInv I s) : Y G d zX12_sort [vr 170, vi x, vi y] (NC, I, J, layR sw) 0 0 (qi (PM s (sp_sort s x y) I J sw)) := by
  have hn := hv.2.1.1.1
  refine Y_of rfl rfl (Nat.le_of_ble_eq_true rfl) rfl ?_
  unfold sp_sort
  rcases pcase hn x with h | ⟨a, ha, rfl⟩
  · rw [if_pos (Or.inl h)]
    refine X_aload_n dX12_sort_0 rfl ?_
    refine X_iload_n dX12_sort_1 rfl ?_
    refine X_cVi dX12_sort_2 ck_X12_205 rfl rfl (by first | assumption | rfl) (by first | assumption | exact Nat.le_of_ble_eq_true rfl | omega) (by omega) (Nat.le_of_ble_eq_true rfl) (c_isPlace_f (by omega) hi.2.1.1 h ?_)
    refine X_if_eq (tgt := 15) dX12_sort_5 (by decide) (fun b => ?_) (fun b => ?_)
    · refine X_iconst (v := (-1)) dX12_sort_15 (by decide) ?_
      exact X_iret dX12_sort_16 rfl ⟨_, rfl, PM_same hi⟩
    · exact absurd rfl b
  · refine X_aload_n dX12_sort_0 rfl ?_
    refine X_iload_n dX12_sort_1 rfl ?_
    refine X_cVi dX12_sort_2 ck_X12_205 rfl rfl (by first | assumption | rfl) (by first | assumption | exact Nat.le_of_ble_eq_true rfl | omega) (by omega) (Nat.le_of_ble_eq_true rfl) (c_isPlace_t (by omega) hi.2.1.1 hn ha ?_)
    refine X_if_eq (tgt := 15) dX12_sort_5 (by decide) (fun b => ?_) (fun b => ?_)
    · exact absurd b (by decide)
    refine X_iload_n dX12_sort_8 rfl ?_
    rcases scase (n := 4) (by decide) y with h | ⟨t, ht, rfl⟩
    · rw [if_pos (Or.inr h)]
      refine X_cSi dX12_sort_9 ck_X12_218 rfl rfl (by omega) (Nat.le_of_ble_eq_true rfl) (c_isReg_f (by omega) h ?_)
      refine X_if_ne (tgt := 17) dX12_sort_12 (by decide) (fun b12 => ?_) (fun b12 => ?_)
      · exact absurd rfl b12
      · refine X_iconst (v := (-1)) dX12_sort_15 (by decide) ?_
        exact X_iret dX12_sort_16 rfl ⟨_, rfl, PM_same hi⟩
    · rw [if_neg (fun q => q.elim (pcase_n hn ha) (scase_n (by decide) ht)), nI_clamp (by omega), nI_clamp (by omega)]
      refine X_cSi dX12_sort_9 ck_X12_218 rfl rfl (by omega) (Nat.le_of_ble_eq_true rfl) (c_isReg_t (by omega) ht ?_)
      refine X_if_ne (tgt := 17) dX12_sort_12 (by decide) (fun b12 => ?_) (fun b12 => ?_)
      · refine X_aload_n dX12_sort_17 rfl ?_
        refine X_iload_n dX12_sort_18 rfl ?_
        refine X_cVv dX12_sort_19 ck_X12_251 rfl rfl (by first | assumption | rfl) (by first | assumption | exact Nat.le_of_ble_eq_true rfl | omega) (by omega) (Nat.le_of_ble_eq_true rfl) (m_laySorts (by omega) hi.2.1.rc hv.2.1.1 ha (fun I' mm L hmm hF hS hr => ?_))
        refine X_aload_n dX12_sort_22 rfl ?_
        refine X_getR dX12_sort_23 gf_X12_37 (by first | assumption | rfl) (by first | assumption | exact Nat.le_of_ble_eq_true rfl | omega) rfl (by first | assumption | rfl) ?_
        refine X_iload_n dX12_sort_26 rfl ?_
        first | refine X_iald dX12_sort_27 (by first | assumption | rfl) (by first | assumption | exact Nat.le_of_ble_eq_true rfl | omega) rfl (by first | decide | omega) (by decide) ?_ | refine X_ildA dX12_sort_27 rfl (by omega) ?_ | refine X_ildM dX12_sort_27 rfl (by omega) ?_ | refine X_sld dX12_sort_27 rfl (by omega) (by omega) ?_
        rw [hr t ht]
        exact X_iret dX12_sort_28 rfl ⟨_, rfl, PM_fm hi _ _ hF (by decide) (by decide)⟩
      · exact absurd b12 (by decide)
set_option maxRecDepth 20000 in
theorem M_bad {x : Int32} (hd : 6 ≤ d) (hv : VSt s) (hi : RInv I s) : Y G d zX12_bad [vr 170, vi x] (NC, I, J, layR sw) 0 0 (qi (PM s (sp_bad s x) I J sw)) := by
  have hn := hv.2.1.1.1
  have hW := hv.2.1.2.2.1.2
  have hc := hi.2.1.rc
  have hvc := hv.2.1.1
  have hw := hi.2.1.2.2.2.2.1
  unfold sp_bad
  by_cases h0 : x = nI 0
  · rw [if_pos h0]
    subst h0
    refine Y_of rfl rfl (Nat.le_of_ble_eq_true rfl) rfl ?_
    refine X_iload_n dX12_bad_0 rfl ?_
    refine X_i2l dX12_bad_1 rfl ?_
    refine X_lconst (v := 0) dX12_bad_2 (by decide) ?_
    refine X_lconst (v := 1) dX12_bad_3 (by decide) ?_
    refine X_cSi dX12_bad_4 ck_X12_125 rfl rfl (by omega) (Nat.le_of_ble_eq_true rfl) (c_in_t (lo := nI 0) (hi := nI 1) (by decide) (by decide) (by decide) (by decide) ?_)
    refine X_if_ne (tgt := 13) dX12_bad_7 (by decide) (fun b => ?_) (fun b => ?_)
    · refine X_iconst (v := nI 0) dX12_bad_13 (by decide) ?_
      refine X_istore_n dX12_bad_14 rfl rfl ?_
      refine X_iconst (v := nI 0) dX12_bad_15 (by decide) ?_
      refine X_istore_n dX12_bad_16 rfl rfl ?_
      have loop : ∀ (m i : Nat), m = (dC s.2.1).1 - i → i ≤ (dC s.2.1).1 → X G d zX12_bad 17 [(0, vr 170), (1, vi (nI 0)), (2, vi (nI (bts (fun i => !(liv (dC s.2.1).2 (dW s.2.1) (dC s.2.1).1 (i + 1)).testBit ((dC s.2.1).2 i 0)) i))), (3, vi (nI i))] [] (NC, I, J, layR sw) 0 0 (qi (PM s (nI (bts (fun i => !(liv (dC s.2.1).2 (dW s.2.1) (dC s.2.1).1 (i + 1)).testBit ((dC s.2.1).2 i 0)) (dC s.2.1).1)) I J sw)) := by
        intro m
        induction m with
        | zero =>
          intro i hm him
          obtain rfl : i = (dC s.2.1).1 := by omega
          refine X_iload_n dX12_bad_17 rfl ?_
          refine X_aload_n dX12_bad_18 rfl ?_
          refine X_getI dX12_bad_19 gf_X12_181 (by first | assumption | rfl) (by first | assumption | exact Nat.le_of_ble_eq_true rfl | omega) rfl ?_
          rw [hc.1]
          refine X_icmp_ge (tgt := 64) dX12_bad_22 (by decide) (fun b22 => ?_) (fun b22 => ?_)
          · refine X_iload_n dX12_bad_64 rfl ?_
            exact X_iret dX12_bad_65 rfl ⟨_, rfl, PM_same hi⟩
          · exact absurd (Int32.le_refl _) b22
        | succ m ih =>
          intro i hm him
          have ih := ih (i + 1) (by omega) (by omega)
          refine X_iload_n dX12_bad_17 rfl ?_
          refine X_aload_n dX12_bad_18 rfl ?_
          refine X_getI dX12_bad_19 gf_X12_181 (by first | assumption | rfl) (by first | assumption | exact Nat.le_of_ble_eq_true rfl | omega) rfl ?_
          rw [hc.1]
          refine X_icmp_ge (tgt := 64) dX12_bad_22 (by decide) (fun b22 => ?_) (fun b22 => ?_)
          · exact absurd ((nle (by omega) (by omega)).mp b22) (by omega)
          refine X_iload_n dX12_bad_25 rfl ?_
          refine X_iload_n dX12_bad_26 rfl ?_
          refine X_if_ne (tgt := 41) dX12_bad_27 (by decide) (fun b27 => ?_) (fun b27 => ?_)
          · exact absurd rfl b27
          refine X_aload_n dX12_bad_30 rfl ?_
          refine X_iload_n dX12_bad_31 rfl ?_
          refine X_cVi dX12_bad_32 ck_X12_255 rfl rfl (by first | assumption | rfl) (by first | assumption | exact Nat.le_of_ble_eq_true rfl | omega) (by omega) (Nat.le_of_ble_eq_true rfl) (m_isDead (by omega) hc hvc hw (by omega) (by omega) ?_)
          by_cases ht : (liv (dC s.2.1).2 (dW s.2.1) (dC s.2.1).1 (i + 1)).testBit ((dC s.2.1).2 i 0) = true
          · rw [if_pos ht]
            rw [bts_f (by simp [ht])] at ih
            refine X_if_eq (tgt := 55) dX12_bad_35 (by decide) (fun b35 => ?_) (fun b35 => ?_)
            · refine X_iconst (v := nI 0) dX12_bad_55 (by decide) ?_
              first | refine X_iorN dX12_bad_56 ?_ | refine X_ior dX12_bad_56 ?_
              refine X_istore_n dX12_bad_57 rfl rfl ?_
              first | refine X_iinc1 dX12_bad_58 rfl rfl rfl ?_ | refine X_iinc dX12_bad_58 rfl rfl rfl rfl ?_
              refine X_goto (tgt := 17) dX12_bad_61 (by decide) ?_
              rw [Nat.or_zero]
              exact ih
            · exact absurd rfl b35
          · rw [if_neg ht]
            rw [bts_t (by simp [ht])] at ih
            refine X_if_eq (tgt := 55) dX12_bad_35 (by decide) (fun b35 => ?_) (fun b35 => ?_)
            · exact absurd b35 (by decide)
            · refine X_goto (tgt := 49) dX12_bad_38 (by decide) ?_
              refine X_iconst (v := nI 1) dX12_bad_49 (by decide) ?_
              refine X_iload_n dX12_bad_50 rfl ?_
              first | refine X_ishl1 dX12_bad_51 (by omega) ?_ | refine X_ishl dX12_bad_51 ?_
              refine X_goto (tgt := 56) dX12_bad_52 (by decide) ?_
              first | refine X_iorN dX12_bad_56 ?_ | refine X_ior dX12_bad_56 ?_
              refine X_istore_n dX12_bad_57 rfl rfl ?_
              first | refine X_iinc1 dX12_bad_58 rfl rfl rfl ?_ | refine X_iinc dX12_bad_58 rfl rfl rfl rfl ?_
              refine X_goto (tgt := 17) dX12_bad_61 (by decide) ?_
              exact ih
      exact loop (dC s.2.1).1 0 rfl (Nat.zero_le _)
    · exact absurd b (by decide)
  · rw [if_neg h0]
    by_cases h1 : x = nI 1
    · rw [if_pos h1]
      subst h1
      refine Y_of rfl rfl (Nat.le_of_ble_eq_true rfl) rfl ?_
      refine X_iload_n dX12_bad_0 rfl ?_
      refine X_i2l dX12_bad_1 rfl ?_
      refine X_lconst (v := 0) dX12_bad_2 (by decide) ?_
      refine X_lconst (v := 1) dX12_bad_3 (by decide) ?_
      refine X_cSi dX12_bad_4 ck_X12_125 rfl rfl (by omega) (Nat.le_of_ble_eq_true rfl) (c_in_t (lo := nI 0) (hi := nI 1) (by decide) (by decide) (by decide) (by decide) ?_)
      refine X_if_ne (tgt := 13) dX12_bad_7 (by decide) (fun b => ?_) (fun b => ?_)
      · refine X_iconst (v := nI 0) dX12_bad_13 (by decide) ?_
        refine X_istore_n dX12_bad_14 rfl rfl ?_
        refine X_iconst (v := nI 0) dX12_bad_15 (by decide) ?_
        refine X_istore_n dX12_bad_16 rfl rfl ?_
        have loop : ∀ (m i : Nat) (I' : Nat → Nat → Int32), m = (dC s.2.1).1 - i → i ≤ (dC s.2.1).1 → FrM [180, 181, 182, 183, 184, 185] [23, 24] I I' → X G d zX12_bad 17 [(0, vr 170), (1, vi (nI 1)), (2, vi (nI (bts (fun i => decide (hld (dC s.2.1).2 i < 4)) i))), (3, vi (nI i))] [] (NC, I', J, layR sw) 0 0 (qi (PM s (nI (bts (fun i => decide (hld (dC s.2.1).2 i < 4)) (dC s.2.1).1)) I J sw)) := by
          intro m
          induction m with
          | zero =>
            intro i I' hm him hF
            have hc' := RC_fm hc hF (by decide) (by decide)
            obtain rfl : i = (dC s.2.1).1 := by omega
            refine X_iload_n dX12_bad_17 rfl ?_
            refine X_aload_n dX12_bad_18 rfl ?_
            refine X_getI dX12_bad_19 gf_X12_181 (by first | assumption | rfl) (by first | assumption | exact Nat.le_of_ble_eq_true rfl | omega) rfl ?_
            rw [hc'.1]
            refine X_icmp_ge (tgt := 64) dX12_bad_22 (by decide) (fun b22 => ?_) (fun b22 => ?_)
            · refine X_iload_n dX12_bad_64 rfl ?_
              exact X_iret dX12_bad_65 rfl ⟨_, rfl, PM_fm hi _ _ hF (by decide) (by decide)⟩
            · exact absurd (Int32.le_refl _) b22
          | succ m ih =>
            intro i I' hm him hF
            have hc' := RC_fm hc hF (by decide) (by decide)
            refine X_iload_n dX12_bad_17 rfl ?_
            refine X_aload_n dX12_bad_18 rfl ?_
            refine X_getI dX12_bad_19 gf_X12_181 (by first | assumption | rfl) (by first | assumption | exact Nat.le_of_ble_eq_true rfl | omega) rfl ?_
            rw [hc'.1]
            refine X_icmp_ge (tgt := 64) dX12_bad_22 (by decide) (fun b22 => ?_) (fun b22 => ?_)
            · exact absurd ((nle (by omega) (by omega)).mp b22) (by omega)
            refine X_iload_n dX12_bad_25 rfl ?_
            refine X_iload_n dX12_bad_26 rfl ?_
            refine X_if_ne (tgt := 41) dX12_bad_27 (by decide) (fun b27 => ?_) (fun b27 => ?_)
            · refine X_aload_n dX12_bad_41 rfl ?_
              refine X_iload_n dX12_bad_42 rfl ?_
              refine X_cVi dX12_bad_43 ck_X12_258 rfl rfl (by first | assumption | rfl) (by first | assumption | exact Nat.le_of_ble_eq_true rfl | omega) (by omega) (Nat.le_of_ble_eq_true rfl) (m_holderOf (by omega) hc' hvc (i := i) (by omega) (fun I2 f2 => ?_))
              have ih := ih (i + 1) I2 (by omega) (by omega) (hF.tr f2)
              by_cases ht : hld (dC s.2.1).2 i < 4
              · rw [if_pos ht]
                rw [bts_t (by simp [ht])] at ih
                refine X_if_lt (tgt := 55) dX12_bad_46 (by decide) (fun b46 => ?_) (fun b46 => ?_)
                · exact absurd b46 (nneg (by omega))
                · refine X_iconst (v := nI 1) dX12_bad_49 (by decide) ?_
                  refine X_iload_n dX12_bad_50 rfl ?_
                  first | refine X_ishl1 dX12_bad_51 (by omega) ?_ | refine X_ishl dX12_bad_51 ?_
                  refine X_goto (tgt := 56) dX12_bad_52 (by decide) ?_
                  first | refine X_iorN dX12_bad_56 ?_ | refine X_ior dX12_bad_56 ?_
                  refine X_istore_n dX12_bad_57 rfl rfl ?_
                  first | refine X_iinc1 dX12_bad_58 rfl rfl rfl ?_ | refine X_iinc dX12_bad_58 rfl rfl rfl rfl ?_
                  refine X_goto (tgt := 17) dX12_bad_61 (by decide) ?_
                  exact ih
              · rw [if_neg ht]
                rw [bts_f (by simp [ht])] at ih
                refine X_if_lt (tgt := 55) dX12_bad_46 (by decide) (fun b46 => ?_) (fun b46 => ?_)
                · refine X_iconst (v := nI 0) dX12_bad_55 (by decide) ?_
                  first | refine X_iorN dX12_bad_56 ?_ | refine X_ior dX12_bad_56 ?_
                  refine X_istore_n dX12_bad_57 rfl rfl ?_
                  first | refine X_iinc1 dX12_bad_58 rfl rfl rfl ?_ | refine X_iinc dX12_bad_58 rfl rfl rfl rfl ?_
                  refine X_goto (tgt := 17) dX12_bad_61 (by decide) ?_
                  rw [Nat.or_zero]
                  exact ih
                · exact absurd (by decide) b46
            · exact absurd b27 (by decide)
        exact loop (dC s.2.1).1 0 I rfl (Nat.zero_le _) FrM.rf
      · exact absurd b (by decide)
    · rw [if_neg h1]
      refine Y_of rfl rfl (Nat.le_of_ble_eq_true rfl) rfl ?_
      refine X_iload_n dX12_bad_0 rfl ?_
      refine X_i2l dX12_bad_1 rfl ?_
      refine X_lconst (v := 0) dX12_bad_2 (by decide) ?_
      refine X_lconst (v := 1) dX12_bad_3 (by decide) ?_
      refine X_cSi dX12_bad_4 ck_X12_125 rfl rfl (by omega) (Nat.le_of_ble_eq_true rfl) (c_in_f (lo := nI 0) (hi := nI 1) (by decide) (by decide) (fun q => ?_) ?_)
      · rcases icase x 2 (by decide) with h | ⟨a, ha, rfl⟩ | h
        · exact absurd h (le_0.mp q.1)
        · rcases (by omega : a = 0 ∨ a = 1) with rfl | rfl
          · exact h0 rfl
          · exact h1 rfl
        · exact absurd (Int32.lt_of_le_of_lt q.2 (show nI 1 < nI 2 by decide)) (Int32.not_lt.mpr h.2)
      refine X_if_ne (tgt := 13) dX12_bad_7 (by decide) (fun b => ?_) (fun b => ?_)
      · exact absurd rfl b
      refine X_bipush (v := (-2)) dX12_bad_10 (by decide) ?_
      exact X_iret dX12_bad_12 rfl ⟨_, rfl, PM_same hi⟩
end RS
