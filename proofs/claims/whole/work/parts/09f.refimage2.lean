section RI
variable {G : GG} {d : Nat} {sw : Bool} {I : Nat → Nat → Int32} {J : Nat → Nat → Int64} {s : SS}
/-- the target values of a write: what is live -/
def lvt (I : Nat → Nat → Int32) (p : Nat) : Int32 :=
  if p = 0 then I 170 9 else if p = 1 then I 170 11 else if p = 2 then I 170 12 else if p = 3 then I 170 13 else if p = 4 then I 170 39
  else if p < 17 then (if (p - 5) % 3 = 0 then I 177 ((p - 5) / 3) else if (p - 5) % 3 = 1 then I 198 ((p - 5) / 3) else I 199 ((p - 5) / 3))
  else if p < 65 then (if (p - 17) % 4 = 0 then I 172 ((p - 17) / 4) else if (p - 17) % 4 = 1 then I 173 ((p - 17) / 4) else if (p - 17) % 4 = 2 then I 174 ((p - 17) / 4) else I 175 ((p - 17) / 4))
  else if p < 113 then I 176 (p - 65) else I 197 (p - 113)
theorem lvt_ok : LvT I (lvt I) := by
  refine ⟨⟨rfl, rfl, rfl, rfl, rfl⟩, fun q hq => ?_, fun q hq => ?_, fun q hq => ?_, fun q hq => ?_⟩
  · rcases (by omega : q = 0 ∨ q = 1 ∨ q = 2 ∨ q = 3) with rfl | rfl | rfl | rfl <;> exact ⟨rfl, rfl, rfl⟩
  · unfold lvt
    refine ⟨?_, ?_, ?_, ?_⟩
    · rw [if_neg (by omega), if_neg (by omega), if_neg (by omega), if_neg (by omega), if_neg (by omega), if_neg (by omega), if_pos (by omega), if_pos (by omega)]
      congr 1; omega
    · rw [if_neg (by omega), if_neg (by omega), if_neg (by omega), if_neg (by omega), if_neg (by omega), if_neg (by omega), if_pos (by omega), if_neg (by omega), if_pos (by omega)]
      congr 1; omega
    · rw [if_neg (by omega), if_neg (by omega), if_neg (by omega), if_neg (by omega), if_neg (by omega), if_neg (by omega), if_pos (by omega), if_neg (by omega), if_neg (by omega), if_pos (by omega)]
      congr 1; omega
    · rw [if_neg (by omega), if_neg (by omega), if_neg (by omega), if_neg (by omega), if_neg (by omega), if_neg (by omega), if_pos (by omega), if_neg (by omega), if_neg (by omega), if_neg (by omega)]
      congr 1; omega
  · unfold lvt
    rw [if_neg (by omega), if_neg (by omega), if_neg (by omega), if_neg (by omega), if_neg (by omega), if_neg (by omega), if_neg (by omega), if_pos (by omega)]
    congr 1; omega
  · unfold lvt
    rw [if_neg (by omega), if_neg (by omega), if_neg (by omega), if_neg (by omega), if_neg (by omega), if_neg (by omega), if_neg (by omega), if_neg (by omega)]
    congr 1; omega
theorem LvT.cg {I I' : Nat → Nat → Int32} {T : Nat → Int32} (h : LvT I T) (h1 : ∀ f, f ≠ 46 → f ≠ 47 → I' 170 f = I 170 f) (h2 : ∀ k, 172 ≤ k → k < 200 → I' k = I k) : LvT I' T := by
  obtain ⟨⟨a1, a2, a3, a4, a5⟩, b1, b2, b3, b4⟩ := h
  refine ⟨⟨by rw [h1 9 (by decide) (by decide)]; exact a1, by rw [h1 11 (by decide) (by decide)]; exact a2, by rw [h1 12 (by decide) (by decide)]; exact a3, by rw [h1 13 (by decide) (by decide)]; exact a4, by rw [h1 39 (by decide) (by decide)]; exact a5⟩, ?_, ?_, ?_, ?_⟩
  · rw [h2 177 (by decide) (by decide), h2 198 (by decide) (by decide), h2 199 (by decide) (by decide)]; exact b1
  · rw [h2 172 (by decide) (by decide), h2 173 (by decide) (by decide), h2 174 (by decide) (by decide), h2 175 (by decide) (by decide)]; exact b2
  · rw [h2 176 (by decide) (by decide)]; exact b3
  · rw [h2 197 (by decide) (by decide)]; exact b4
/-- the same live rows, the same desk -/
theorem rd_LvT {I I' : Nat → Nat → Int32} {T : Nat → Int32} {D : DD} (hv : VD D) (h : LvT I T) (h' : LvT I' T) (hr : rd I D) : rd I' D :=
  rd_of (K := T) (b := 0) hv h' (fun q _ => by rw [Nat.zero_add]) (rim_of (K := T) (b := 0) hv h (fun q _ => by rw [Nat.zero_add]) hr)
theorem rim_fr {K K' : Nat → Int32} {b : Nat} {D : DD} (hv : VD D) (h : rim K b D) (he : ∀ q, q < 209 → K' (b + q) = K (b + q)) : rim K' b D := by
  obtain ⟨a1, a2, a3, a4, a5, a6, a7, a8, a9, a10⟩ := h
  obtain ⟨⟨v1, _⟩, ⟨v2, _⟩, _, _, v5, v6⟩ := hv
  refine ⟨(he 0 (by decide)).trans a1, by rw [he 1 (by decide)]; exact a2, by rw [he 2 (by decide)]; exact a3, by rw [he 3 (by decide)]; exact a4, by rw [he 4 (by decide)]; exact a5, fun j hj => by rw [he _ (by omega)]; exact a6 j hj, fun j hj => by rw [he _ (by omega), he _ (by omega)]; exact a7 j hj, fun i hi w hw => by rw [he _ (by omega)]; exact a8 i hi w hw, fun i hi w hw => by rw [he _ (by omega)]; exact a9 i hi w hw, fun j hj => ⟨fun i hi w hw => ?_, fun i hi w hw => ?_⟩⟩
  · have := (v6 j hj).1.2.1
    rw [he _ (by omega)]; exact (a10 j hj).1 i hi w hw
  · have := (v6 j hj).2.1
    rw [he _ (by omega)]; exact (a10 j hj).2 i hi w hw
set_option maxRecDepth 20000 in
theorem M_image {x : Int32} (hd : 2 ≤ d) (hv : VSt s) (hi : RInv I s) : Y G d zX12_image [vr 170, vi x] (NC, I, J, layR sw) 0 0 (qi (PM (sp_image s x).2 (sp_image s x).1 I J sw)) := by
  refine Y_of rfl rfl (Nat.le_of_ble_eq_true rfl) rfl ?_
  unfold sp_image
  refine X_iload_n dX12_image_0 rfl ?_
  refine X_i2l dX12_image_1 rfl ?_
  refine X_lconst (v := 0) dX12_image_2 (by decide) ?_
  refine X_lconst (v := 1) dX12_image_3 (by decide) ?_
  by_cases h : x < 0 ∨ nI 2 ≤ x
  · rw [if_pos h]
    refine X_cSi dX12_image_4 ck_X12_125 rfl rfl (by omega) (Nat.le_of_ble_eq_true rfl) (c_in_f (lo := nI 0) (hi := nI 1) (by decide) (by decide) (fun q => h.elim (le_0.mp q.1) (fun h => absurd (Int32.lt_of_le_of_lt q.2 (show nI 1 < nI 2 by decide)) (Int32.not_lt.mpr h))) ?_)
    refine X_if_ne (tgt := 13) dX12_image_7 (by decide) (fun h7 => ?_) (fun h7 => ?_)
    · exact absurd rfl h7
    · refine X_bipush (v := (-2)) dX12_image_10 (by decide) ?_
      exact X_iret dX12_image_12 rfl ⟨_, rfl, PM_same hi⟩
  · rw [if_neg h]
    obtain ⟨a, ha, rfl⟩ : ∃ a, a < 2 ∧ x = nI a := by
      rcases icase x 2 (by decide) with q | q | q
      · exact absurd (Or.inl q) h
      · exact q
      · exact absurd (Or.inr q.2) h
    rw [nI_clamp (by omega)]
    refine X_cSi dX12_image_4 ck_X12_125 rfl rfl (by omega) (Nat.le_of_ble_eq_true rfl) (c_in_t (lo := nI 0) (hi := nI 1) (by decide) (by decide) (le_0.mpr (nneg (by omega))) ((nle (by decide) (by omega)).mpr (by omega)) ?_)
    refine X_if_ne (tgt := 13) dX12_image_7 (by decide) (fun h7 => ?_) (fun h7 => ?_)
    · refine X_aload_n dX12_image_13 rfl ?_
      refine X_sipush (v := nI 300) dX12_image_14 (by decide) ?_
      refine X_iload_n dX12_image_17 rfl ?_
      first | refine X_imulN dX12_image_18 ?_ | refine X_imul dX12_image_18 ?_
      refine X_putI dX12_image_19 gf_X12_419 (Or.inl rfl) (by first | assumption | rfl) (by first | assumption | exact Nat.le_of_ble_eq_true rfl | omega) rfl ?_
      refine X_aload_n dX12_image_22 rfl ?_
      refine X_iconst (v := nI 1) dX12_image_23 (by decide) ?_
      refine X_putZ dX12_image_24 gf_X12_416 (Or.inl rfl) (by first | assumption | rfl) (by first | assumption | exact Nat.le_of_ble_eq_true rfl | omega) rfl (by first | exact Or.inl rfl | exact Or.inr rfl | assumption | decide) ?_
      refine X_aload_n dX12_image_27 rfl ?_
      rw [sr_eq, sr_sr]
      generalize hI1 : sr I 170 (up (up (I 170) 46 (nI (300 * a))) 47 (nI 1)) = I1
      have e1 : ∀ k, k ≠ 170 → I1 k = I k := fun k hk => by rw [← hI1, sr_ne hk]
      have e2 : ∀ f, f ≠ 46 → f ≠ 47 → I1 170 f = I 170 f := fun f h1 h2 => by rw [← hI1, sr_eq, up_ne h2, up_ne h1]
      have hL1 : LvT I1 (lvt I) := lvt_ok.cg e2 (fun k h1 h2 => e1 k (by omega))
      have hm : Md I1 (lvt I) (300 * a) true := by
        unfold Md
        rw [if_pos rfl]
        exact ⟨by rw [← hI1, sr_eq, up_eq], hL1⟩
      refine X_cVv dX12_image_28 ck_X12_425 rfl rfl (by first | assumption | rfl) (by first | assumption | exact Nat.le_of_ble_eq_true rfl | omega) (by omega) (Nat.le_of_ble_eq_true rfl) (c_passAll (by omega) hm (by omega) (by rw [← hI1, sr_eq, up_ne (by decide), up_eq]) (fun I2 p2 l2 => ?_))
      obtain ⟨b1, b2, b3, b4, b5, b6, b7, b8⟩ := p2
      refine X_aload_n dX12_image_31 rfl ?_
      refine X_getR dX12_image_32 gf_X12_113 (by first | assumption | rfl) (by first | assumption | exact Nat.le_of_ble_eq_true rfl | omega) rfl (by first | assumption | rfl) ?_
      refine X_iload_n dX12_image_35 rfl ?_
      refine X_iconst (v := nI 1) dX12_image_36 (by decide) ?_
      refine X_zast dX12_image_37 (by first | assumption | rfl) (by first | assumption | exact Nat.le_of_ble_eq_true rfl | omega) rfl (by first | decide | omega) (by decide) (by first | exact Or.inl rfl | exact Or.inr rfl | assumption | decide) ?_
      refine X_iconst (v := nI 1) dX12_image_38 (by decide) ?_
      refine X_iret dX12_image_39 rfl ⟨_, rfl, PM_mk ⟨⟨?_, fun i hi2 => ?_⟩, ?_, fun n hn => ?_⟩ (fun k hk => by rw [sr_ne (by omega), b8 k hk, e1 k (by omega)])⟩
      · rw [sr_ne (by decide), b3, e2 1 (by decide) (by decide)]; exact hi.1.1
      · rw [sr_ne (by decide), b7, e1 171 (by decide)]; exact hi.1.2 i hi2
      · exact rd_LvT hv.2.1 lvt_ok (l2.cg (fun f _ _ => by rw [sr_ne (by decide)]) (fun k h1 h2 => by rw [sr_ne (by omega)])) hi.2.1
      · rw [sr_eq, sr_ne (show 204 ≠ 205 by decide)]
        by_cases hna : n = a
        · subst hna
          refine ⟨?_, fun D hD => ?_⟩
          · rw [up_eq]
            simp only [up_eq]
            rfl
          · dsimp only at hD
            rw [up_eq] at hD
            cases hD
            exact rim_of hv.2.1 lvt_ok b4 hi.2.1
        · obtain ⟨g1, g2⟩ := hi.2.2 n hn
          refine ⟨?_, fun D hD => ?_⟩
          · rw [up_ne hna, b6, e1 205 (by decide)]
            simp only [up_ne hna]
            exact g1
          · dsimp only at hD
            rw [up_ne hna] at hD
            exact rim_fr (hv.2.2 n D hD) (g2 D hD) (fun q hq => by rw [b5 _ (by omega), e1 204 (by decide)])
    · exact absurd h7 (by decide)
set_option maxRecDepth 20000 in
theorem M_restore {x : Int32} (hd : 2 ≤ d) (hv : VSt s) (hi : RInv I s) : Y G d zX12_restore [vr 170, vi x] (NC, I, J, layR sw) 0 0 (qi (PM (sp_restore s x).2 (sp_restore s x).1 I J sw)) := by
  refine Y_of rfl rfl (Nat.le_of_ble_eq_true rfl) rfl ?_
  unfold sp_restore
  refine X_iload_n dX12_restore_0 rfl ?_
  refine X_i2l dX12_restore_1 rfl ?_
  refine X_lconst (v := 0) dX12_restore_2 (by decide) ?_
  refine X_lconst (v := 1) dX12_restore_3 (by decide) ?_
  by_cases h : x < 0 ∨ nI 2 ≤ x
  · rw [if_pos h]
    refine X_cSi dX12_restore_4 ck_X12_125 rfl rfl (by omega) (Nat.le_of_ble_eq_true rfl) (c_in_f (lo := nI 0) (hi := nI 1) (by decide) (by decide) (fun q => h.elim (le_0.mp q.1) (fun h => absurd (Int32.lt_of_le_of_lt q.2 (show nI 1 < nI 2 by decide)) (Int32.not_lt.mpr h))) ?_)
    refine X_if_ne (tgt := 13) dX12_restore_7 (by decide) (fun h7 => ?_) (fun h7 => ?_)
    · exact absurd rfl h7
    · refine X_bipush (v := (-2)) dX12_restore_10 (by decide) ?_
      exact X_iret dX12_restore_12 rfl ⟨_, rfl, PM_same hi⟩
  · rw [if_neg h]
    obtain ⟨a, ha, rfl⟩ : ∃ a, a < 2 ∧ x = nI a := by
      rcases icase x 2 (by decide) with q | q | q
      · exact absurd (Or.inl q) h
      · exact q
      · exact absurd (Or.inr q.2) h
    rw [nI_clamp (by omega)]
    refine X_cSi dX12_restore_4 ck_X12_125 rfl rfl (by omega) (Nat.le_of_ble_eq_true rfl) (c_in_t (lo := nI 0) (hi := nI 1) (by decide) (by decide) (le_0.mpr (nneg (by omega))) ((nle (by decide) (by omega)).mpr (by omega)) ?_)
    obtain ⟨g1, g2⟩ := hi.2.2 a ha
    refine X_if_ne (tgt := 13) dX12_restore_7 (by decide) (fun h7 => ?_) (fun h7 => ?_)
    · refine X_aload_n dX12_restore_13 rfl ?_
      refine X_getR dX12_restore_14 gf_X12_113 (by first | assumption | rfl) (by first | assumption | exact Nat.le_of_ble_eq_true rfl | omega) rfl (by first | assumption | rfl) ?_
      refine X_iload_n dX12_restore_17 rfl ?_
      refine X_zald dX12_restore_18 (by first | assumption | rfl) (by first | assumption | exact Nat.le_of_ble_eq_true rfl | omega) rfl (by first | decide | omega) (by decide) ?_
      rw [g1]
      cases hD : s.2.2 a with
      | none =>
        refine X_if_ne (tgt := 25) dX12_restore_19 (by decide) (fun h19 => ?_) (fun h19 => ?_)
        · exact absurd (by decide) h19
        · refine X_bipush (v := (-3)) dX12_restore_22 (by decide) ?_
          exact X_iret dX12_restore_24 rfl ⟨_, rfl, PM_same hi⟩
      | some D =>
        have hvD := hv.2.2 a D hD
        have hrim := g2 D hD
        refine X_if_ne (tgt := 25) dX12_restore_19 (by decide) (fun h19 => ?_) (fun h19 => ?_)
        · refine X_aload_n dX12_restore_25 rfl ?_
          refine X_sipush (v := nI 300) dX12_restore_26 (by decide) ?_
          refine X_iload_n dX12_restore_29 rfl ?_
          first | refine X_imulN dX12_restore_30 ?_ | refine X_imul dX12_restore_30 ?_
          refine X_putI dX12_restore_31 gf_X12_419 (Or.inl rfl) (by first | assumption | rfl) (by first | assumption | exact Nat.le_of_ble_eq_true rfl | omega) rfl ?_
          refine X_aload_n dX12_restore_34 rfl ?_
          refine X_iconst (v := nI 0) dX12_restore_35 (by decide) ?_
          refine X_putZ dX12_restore_36 gf_X12_416 (Or.inl rfl) (by first | assumption | rfl) (by first | assumption | exact Nat.le_of_ble_eq_true rfl | omega) rfl (by first | exact Or.inl rfl | exact Or.inr rfl | assumption | decide) ?_
          refine X_aload_n dX12_restore_39 rfl ?_
          rw [sr_eq, sr_sr]
          generalize hI1 : sr I 170 (up (up (I 170) 46 (nI (300 * a))) 47 (nI 0)) = I1
          have e1 : ∀ k, k ≠ 170 → I1 k = I k := fun k hk => by rw [← hI1, sr_ne hk]
          have e2 : ∀ f, f ≠ 46 → f ≠ 47 → I1 170 f = I 170 f := fun f h1 h2 => by rw [← hI1, sr_eq, up_ne h2, up_ne h1]
          have hm : Md I1 (fun q => I 204 (300 * a + q)) (300 * a) false := by
            unfold Md
            rw [if_neg (by decide)]
            exact ⟨by rw [← hI1, sr_eq, up_eq], fun q _ => by rw [e1 204 (by decide)]⟩
          refine X_cVv dX12_restore_40 ck_X12_425 rfl rfl (by first | assumption | rfl) (by first | assumption | exact Nat.le_of_ble_eq_true rfl | omega) (by omega) (Nat.le_of_ble_eq_true rfl) (c_passAll (by omega) hm (by omega) (by rw [← hI1, sr_eq, up_ne (by decide), up_eq]) (fun I2 p2 l2 => ?_))
          obtain ⟨b1, b2, b3, b4, b5, b6, b7, b8⟩ := p2
          refine X_iconst (v := nI 1) dX12_restore_43 (by decide) ?_
          have hk : ∀ q, I2 204 q = I 204 q := by
            intro q
            by_cases hq : 300 * a ≤ q ∧ q < 300 * a + 209
            · have := b4 (q - 300 * a) (by omega)
              dsimp only at this
              rw [show 300 * a + (q - 300 * a) = q by omega] at this
              exact this
            · rw [b5 q (by omega), e1 204 (by decide)]
          refine X_iret dX12_restore_44 rfl ⟨_, rfl, PM_mk ⟨⟨?_, fun i hi2 => ?_⟩, ?_, fun n hn => ?_⟩ (fun k hk => by rw [b8 k hk, e1 k (by omega)])⟩
          · rw [b3, e2 1 (by decide) (by decide)]; exact hi.1.1
          · rw [b7, e1 171 (by decide)]; exact hi.1.2 i hi2
          · exact rd_of (K := I 204) (b := 300 * a) hvD l2 (fun q _ => rfl) hrim
          · rw [b6, e1 205 (by decide)]
            refine ⟨(hi.2.2 n hn).1, fun D2 hD2 => ?_⟩
            exact rim_fr (hv.2.2 n D2 hD2) ((hi.2.2 n hn).2 D2 hD2) (fun q _ => hk _)
        · exact absurd (show nI 1 = 0 from h19) (by decide)
    · exact absurd h7 (by decide)
end RI
