/-! the mendings, by the reference -/
theorem enc_inj {a b : Nat} (ha : a < 200) (hb : b < 200) : enc a = enc b ↔ a = b := by
  refine ⟨fun h => ?_, fun h => by rw [h]⟩
  by_cases h1 : a = 99
  · by_cases h2 : b = 99
    · rw [h1, h2]
    · rw [h1, enc_n h2] at h
      exact absurd (show nI b < 0 by rw [← h]; decide) (nneg (by omega))
  · by_cases h2 : b = 99
    · rw [h2, enc_n h1] at h
      exact absurd (show nI a < 0 by rw [h]; decide) (nneg (by omega))
    · rw [enc_n h1, enc_n h2] at h
      exact (neq (by omega) (by omega)).mp h
section RM
variable {G : GG} {d : Nat} {sw : Bool} {I : Nat → Nat → Int32} {J : Nat → Nat → Int64} {s : SS} {n W : Nat} {c : Nat → Nat → Nat}
theorem RC.cg {e e' : Nat → Nat → Nat} (h : RC I n e) (he : ∀ i, i < n → ∀ w, w < 4 → e' i w = e i w) : RC I n e' := ⟨h.1, fun i hi => by rw [he i hi 0 (by decide), he i hi 1 (by decide), he i hi 2 (by decide), he i hi 3 (by decide)]; exact h.2 i hi⟩
theorem RInv_code {I' : Nat → Nat → Int32} {l fl : List Nat} {C : CC} (hi : RInv I s) (hf : FrM l fl I I') (hl : l.all (fun k => (decide (171 < k) && decide (k < 176)) || (decide (177 < k) && (decide (k < 197) || (decide (199 < k) && decide (k < 204))))) = true) (hl2 : fl.all (fun k => decide (k ∉ [1, 11, 12, 13, 39])) = true) (hc : RC I' C.1 C.2) : RInv I' (setC s C) := by
  have hh : ∀ j, (j = 171 ∨ j = 176 ∨ j = 177 ∨ j = 197 ∨ j = 198 ∨ j = 199 ∨ j = 204 ∨ j = 205) → I' j = I j := fun j hj => hf.1 j (by omega) (fun q => by
    have := List.all_eq_true.mp hl j q
    simp only [Bool.and_eq_true, Bool.or_eq_true, decide_eq_true_eq] at this
    omega)
  have hg : ∀ f, f ∈ [1, 11, 12, 13, 39] → I' 170 f = I 170 f := fun f h => hf.2 f (fun q => by
    have := List.all_eq_true.mp hl2 f q
    rw [decide_eq_true_eq] at this
    exact this h)
  obtain ⟨⟨a1, a2⟩, ⟨b1, b2, b3, b4, b5, b6, b7, b8, b9⟩, a4⟩ := hi
  refine ⟨⟨by rw [hg 1 (by decide)]; exact a1, fun i h => by rw [hh 171 (by omega)]; exact a2 i h⟩, ⟨hc.1, hc.2, by rw [hg 11 (by decide)]; exact b3, fun i h w hw => by rw [hh 176 (by omega)]; exact b4 i h w hw, by rw [hg 12 (by decide)]; exact b5, by rw [hg 13 (by decide)]; exact b6, fun j h => by rw [hh 177 (by omega)]; exact b7 j h, by rw [hg 39 (by decide)]; exact b8, fun j h => by rw [hh 197 (by omega), hh 198 (by omega), hh 199 (by omega)]; exact b9 j h⟩, fun m hm => ?_⟩
  rw [hh 204 (by omega), hh 205 (by omega)]
  exact a4 m hm
theorem FrM.lo {I' : Nat → Nat → Int32} {l fl : List Nat} (hf : FrM l fl I I') (hl : l.all (fun k => decide (170 < k)) = true) : ∀ k, k < 170 → I' k = I k := fun k hk => hf.1 k (by omega) (fun q => by
  have := List.all_eq_true.mp hl k q
  simp only [decide_eq_true_eq] at this
  omega)
theorem m_knownAs {Q : Int32 → Mm → Prop} {p v : Nat} (hd : 2 ≤ d) (hc : RC I n c) (hv : VC n c) (hp : p ≤ n) (hvv : opd v ∨ v = 99) (hQ : ∀ I', FrM [179] [] I I' → Q (enc (kas (kn c p) v)) (NC, I', J, layR sw)) : Y G d zX12_knownAs [vr 170, vi (enc v), vi (nI p)] (NC, I, J, layR sw) 0 0 (qi Q) := by
  refine Y_of rfl rfl (Nat.le_of_ble_eq_true rfl) rfl ?_
  refine X_iload_n dX12_knownAs_0 rfl ?_
  refine X_bipush (v := (-6)) dX12_knownAs_1 (by decide) ?_
  rcases hvv with hvv | rfl
  · refine X_icmp_ne (tgt := 11) dX12_knownAs_3 (by decide) (fun b => ?_) (fun b => ?_)
    · refine X_aload_n dX12_knownAs_11 rfl ?_
      refine X_iload_n dX12_knownAs_12 rfl ?_
      refine X_iload_n dX12_knownAs_13 rfl ?_
      refine X_cVi dX12_knownAs_14 ck_X12_230 rfl rfl (by first | assumption | rfl) (by first | assumption | exact Nat.le_of_ble_eq_true rfl | omega) (by omega) (Nat.le_of_ble_eq_true rfl) (m_knownOf (by omega) hc hv hp hvv (fun I' hF => ?_))
      have ok := kop_ok (kn_ok c p) v
      have hF' : FrM [179] [] I I' := FrM.of hF (by decide)
      have hka : enc (kas (kn c p) v) = if kop (kn c p) v = 99 then enc v else nI (10 + kop (kn c p) v) := by
        rcases hvv with h | h
        · rw [show kop (kn c p) v = kn c p v from if_pos h]
          unfold kas
          by_cases h9 : kn c p v = 99
          · rw [if_pos h9, if_neg (fun q => q.2 h9)]
          · have := (kn_ok c p v).resolve_right h9
            rw [if_neg h9, if_pos ⟨h, h9⟩, enc_n (by omega)]
        · rw [show kop (kn c p) v = v - 10 by unfold kop; rw [if_neg (by omega), if_pos h], if_neg (show ¬ v - 10 = 99 by omega), show 10 + (v - 10) = v by omega, show kas (kn c p) v = v from if_neg (by omega), enc_n (by omega)]
      rcases kok_enc ok with ⟨l2, l3⟩ | ⟨l2, l3⟩
      · rw [l3]
        refine X_istore_n dX12_knownAs_17 rfl rfl ?_
        refine X_iload_n dX12_knownAs_18 rfl ?_
        refine X_if_ge (tgt := 26) dX12_knownAs_19 (by decide) (fun b19 => ?_) (fun b19 => ?_)
        · refine X_bipush (v := nI 10) dX12_knownAs_26 (by decide) ?_
          refine X_iload_n dX12_knownAs_28 rfl ?_
          first | refine X_iaddN dX12_knownAs_29 ?_ | refine X_iadd dX12_knownAs_29 ?_
          have := hQ I' hF'
          rw [hka, if_neg (by omega)] at this
          exact X_iret dX12_knownAs_30 rfl ⟨_, rfl, this⟩
        · exact absurd (nge0 (by omega)) b19
      · rw [l3]
        refine X_istore_n dX12_knownAs_17 rfl rfl ?_
        refine X_iload_n dX12_knownAs_18 rfl ?_
        refine X_if_ge (tgt := 26) dX12_knownAs_19 (by decide) (fun b19 => ?_) (fun b19 => ?_)
        · exact absurd b19 (by decide)
        · refine X_iload_n dX12_knownAs_22 rfl ?_
          refine X_goto (tgt := 30) dX12_knownAs_23 (by decide) ?_
          have := hQ I' hF'
          rw [hka, if_pos l2] at this
          exact X_iret dX12_knownAs_30 rfl ⟨_, rfl, this⟩
    · exact absurd b (by
        have : v ≠ 99 := by unfold opd at hvv; omega
        rw [enc_n this]
        intro q
        exact absurd (show nI v < 0 by rw [q]; decide) (nneg (by unfold opd at hvv; omega)))
  · refine X_icmp_ne (tgt := 11) dX12_knownAs_3 (by decide) (fun b => ?_) (fun b => ?_)
    · exact absurd rfl b
    refine X_bipush (v := (-6)) dX12_knownAs_6 (by decide) ?_
    refine X_goto (tgt := 17) dX12_knownAs_8 (by decide) ?_
    refine X_istore_n dX12_knownAs_17 rfl rfl ?_
    refine X_iload_n dX12_knownAs_18 rfl ?_
    refine X_if_ge (tgt := 26) dX12_knownAs_19 (by decide) (fun b19 => ?_) (fun b19 => ?_)
    · exact absurd b19 (by decide)
    refine X_iload_n dX12_knownAs_22 rfl ?_
    refine X_goto (tgt := 30) dX12_knownAs_23 (by decide) ?_
    exact X_iret dX12_knownAs_30 rfl ⟨_, rfl, hQ I FrM.rf⟩
theorem kas_ne {k : Nat → Nat} {v : Nat} : kas k v ≠ v ↔ (v < 4 ∧ k v ≠ 99) := by
  unfold kas
  by_cases h : v < 4 ∧ k v ≠ 99
  · rw [if_pos h]; exact ⟨fun _ => h, fun _ => by omega⟩
  · rw [if_neg h]; exact ⟨fun q => absurd rfl q, fun q => absurd q h⟩
set_option maxRecDepth 20000 in
set_option maxHeartbeats 1000000 in
theorem m_mendKnown {Q : Int32 → Mm → Prop} (hd : 3 ≤ d) (hc : RC I n c) (hv : VC n c) (hQ : ∀ I', FrM [174, 175, 179, 186, 187] [] I I' → RC I' n (md1 c) → Q (nI (cnt (mp1 c) n)) (NC, I', J, layR sw)) : Y G d zX12_mendKnown [vr 170] (NC, I, J, layR sw) 0 0 (qi Q) := by
  have hn := hv.1
  have hv1 := VS_md1 hv
  have loop2 : ∀ (m i : Nat) (I' : Nat → Nat → Int32), m = n - i → i ≤ n → FrM [174, 175, 179, 186, 187] [] I I' → RC I' n (mix (md1 c) c i) → (∀ j, j < n → I' 186 j = enc (md1 c j 2) ∧ I' 187 j = enc (md1 c j 3)) → X G d zX12_mendKnown 54 [(0, vr 170), (1, vi (nI (cnt (mp1 c) i))), (2, vi (nI i))] [] (NC, I', J, layR sw) 0 0 (qi Q) := by
    intro m
    induction m with
    | zero =>
      intro i I' hm him hF hc' hnew
      obtain rfl : i = n := by omega
      refine X_iload_n dX12_mendKnown_54 rfl ?_
      refine X_aload_n dX12_mendKnown_55 rfl ?_
      refine X_getI dX12_mendKnown_56 gf_X12_181 (by first | assumption | rfl) (by first | assumption | exact Nat.le_of_ble_eq_true rfl | omega) rfl ?_
      rw [hc'.1]
      refine X_icmp_ge (tgt := 130) dX12_mendKnown_59 (by decide) (fun b => ?_) (fun b => ?_)
      · refine X_iload_n dX12_mendKnown_130 rfl ?_
        exact X_iret dX12_mendKnown_131 rfl ⟨_, rfl, hQ I' hF (hc'.cg (fun j hj w _ => by rw [mix_lo hj]))⟩
      · exact absurd (Int32.le_refl _) b
    | succ m ih =>
      intro i I' hm him hF hc' hnew
      have hin : i < n := by omega
      have mi : mix (md1 c) c i i = c i := mix_hi (Nat.le_refl i)
      obtain ⟨c0, c1, c2, c3⟩ := hc'.2 i hin
      rw [mi] at c2 c3
      obtain ⟨n2, n3⟩ := hnew i hin
      have q2 := enc_inj (VS_lt (hv1.2 i hin) 2 (by decide)) (VS_lt (hv.2 i hin) 2 (by decide))
      have q3 := enc_inj (VS_lt (hv1.2 i hin) 3 (by decide)) (VS_lt (hv.2 i hin) 3 (by decide))
      have hp : mp1 c i = true ↔ (md1 c i 2 ≠ c i 2 ∨ md1 c i 3 ≠ c i 3) := by
        show _ ↔ (kas (kn c i) (c i 2) ≠ c i 2 ∨ kas (kn c i) (c i 3) ≠ c i 3)
        rw [kas_ne, kas_ne]
        unfold mp1
        exact decide_eq_true_iff
      have tail : ∀ x : Nat, x = cnt (mp1 c) (i + 1) → X G d zX12_mendKnown 99 [(0, vr 170), (1, vi (nI (cnt (mp1 c) i))), (2, vi (nI i))] [vi (nI x)] (NC, I', J, layR sw) 0 0 (qi Q) := by
        intro x hx
        refine X_istore_n dX12_mendKnown_99 rfl rfl ?_
        refine X_aload_n dX12_mendKnown_100 rfl ?_
        refine X_getR dX12_mendKnown_101 gf_X12_19 (by first | assumption | rfl) (by first | assumption | exact Nat.le_of_ble_eq_true rfl | omega) rfl (by first | assumption | rfl) ?_
        refine X_iload_n dX12_mendKnown_104 rfl ?_
        refine X_aload_n dX12_mendKnown_105 rfl ?_
        refine X_getR dX12_mendKnown_106 gf_X12_55 (by first | assumption | rfl) (by first | assumption | exact Nat.le_of_ble_eq_true rfl | omega) rfl (by first | assumption | rfl) ?_
        refine X_iload_n dX12_mendKnown_109 rfl ?_
        first | refine X_iald dX12_mendKnown_110 (by first | assumption | rfl) (by first | assumption | exact Nat.le_of_ble_eq_true rfl | omega) rfl (by first | decide | omega) (by decide) ?_ | refine X_ildA dX12_mendKnown_110 rfl (by omega) ?_ | refine X_ildM dX12_mendKnown_110 rfl (by omega) ?_ | refine X_sld dX12_mendKnown_110 rfl (by omega) (by omega) ?_
        rw [n2]
        refine X_iast dX12_mendKnown_111 (by first | assumption | rfl) (by first | assumption | exact Nat.le_of_ble_eq_true rfl | omega) rfl (by first | decide | omega) (by decide) ?_
        refine X_aload_n dX12_mendKnown_112 rfl ?_
        refine X_getR dX12_mendKnown_113 gf_X12_22 (by first | assumption | rfl) (by first | assumption | exact Nat.le_of_ble_eq_true rfl | omega) rfl (by first | assumption | rfl) ?_
        refine X_iload_n dX12_mendKnown_116 rfl ?_
        refine X_aload_n dX12_mendKnown_117 rfl ?_
        refine X_getR dX12_mendKnown_118 gf_X12_58 (by first | assumption | rfl) (by first | assumption | exact Nat.le_of_ble_eq_true rfl | omega) rfl (by first | assumption | rfl) ?_
        refine X_iload_n dX12_mendKnown_121 rfl ?_
        first | refine X_iald dX12_mendKnown_122 (by first | assumption | rfl) (by first | assumption | exact Nat.le_of_ble_eq_true rfl | omega) rfl (by first | decide | omega) (by decide) ?_ | refine X_ildA dX12_mendKnown_122 rfl (by omega) ?_ | refine X_ildM dX12_mendKnown_122 rfl (by omega) ?_ | refine X_sld dX12_mendKnown_122 rfl (by omega) (by omega) ?_
        rw [sr_ne (show 187 ≠ 174 by decide), n3]
        refine X_iast dX12_mendKnown_123 (by first | assumption | rfl) (by first | assumption | exact Nat.le_of_ble_eq_true rfl | omega) rfl (by first | decide | omega) (by decide) ?_
        first | refine X_iinc1 dX12_mendKnown_124 rfl rfl rfl ?_ | refine X_iinc dX12_mendKnown_124 rfl rfl rfl rfl ?_
        refine X_goto (tgt := 54) dX12_mendKnown_127 (by decide) ?_
        rw [hx]
        refine ih (i + 1) _ (by omega) (by omega) (hF.tr ((FrM.c (by simp) (by decide)).tr (FrM.c (by simp) (by decide)))) ⟨?_, fun j hj => ?_⟩ (fun j hj => ?_)
        · rw [sr_ne (by decide), sr_ne (by decide)]; exact hc'.1
        · rw [sr_ne (show 172 ≠ 175 by decide), sr_ne (show 172 ≠ 174 by decide), sr_ne (show 173 ≠ 175 by decide), sr_ne (show 173 ≠ 174 by decide), sr_ne (show 174 ≠ 175 by decide), sr_eq, sr_eq, sr_ne (show 175 ≠ 174 by decide), mix_s]
          by_cases hji : j = i
          · subst hji
            rw [if_pos rfl, up_eq, up_eq, c0, c1, mi]
            exact ⟨rfl, rfl, rfl, rfl⟩
          · rw [if_neg hji, up_ne hji, up_ne hji]
            exact hc'.2 j hj
        · rw [sr_ne (by decide), sr_ne (by decide), sr_ne (by decide), sr_ne (by decide)]
          exact hnew j hj
      refine X_iload_n dX12_mendKnown_54 rfl ?_
      refine X_aload_n dX12_mendKnown_55 rfl ?_
      refine X_getI dX12_mendKnown_56 gf_X12_181 (by first | assumption | rfl) (by first | assumption | exact Nat.le_of_ble_eq_true rfl | omega) rfl ?_
      rw [hc'.1]
      refine X_icmp_ge (tgt := 130) dX12_mendKnown_59 (by decide) (fun b => ?_) (fun b => ?_)
      · exact absurd ((nle (by omega) (by omega)).mp b) (by omega)
      refine X_iload_n dX12_mendKnown_62 rfl ?_
      refine X_aload_n dX12_mendKnown_63 rfl ?_
      refine X_getR dX12_mendKnown_64 gf_X12_55 (by first | assumption | rfl) (by first | assumption | exact Nat.le_of_ble_eq_true rfl | omega) rfl (by first | assumption | rfl) ?_
      refine X_iload_n dX12_mendKnown_67 rfl ?_
      first | refine X_iald dX12_mendKnown_68 (by first | assumption | rfl) (by first | assumption | exact Nat.le_of_ble_eq_true rfl | omega) rfl (by first | decide | omega) (by decide) ?_ | refine X_ildA dX12_mendKnown_68 rfl (by omega) ?_ | refine X_ildM dX12_mendKnown_68 rfl (by omega) ?_ | refine X_sld dX12_mendKnown_68 rfl (by omega) (by omega) ?_
      rw [n2]
      refine X_aload_n dX12_mendKnown_69 rfl ?_
      refine X_getR dX12_mendKnown_70 gf_X12_19 (by first | assumption | rfl) (by first | assumption | exact Nat.le_of_ble_eq_true rfl | omega) rfl (by first | assumption | rfl) ?_
      refine X_iload_n dX12_mendKnown_73 rfl ?_
      first | refine X_iald dX12_mendKnown_74 (by first | assumption | rfl) (by first | assumption | exact Nat.le_of_ble_eq_true rfl | omega) rfl (by first | decide | omega) (by decide) ?_ | refine X_ildA dX12_mendKnown_74 rfl (by omega) ?_ | refine X_ildM dX12_mendKnown_74 rfl (by omega) ?_ | refine X_sld dX12_mendKnown_74 rfl (by omega) (by omega) ?_
      rw [c2]
      refine X_icmp_ne (tgt := 93) dX12_mendKnown_75 (by decide) (fun b75 => ?_) (fun b75 => ?_)
      · refine X_iconst (v := nI 1) dX12_mendKnown_93 (by decide) ?_
        refine X_goto (tgt := 98) dX12_mendKnown_94 (by decide) ?_
        first | refine X_iaddN dX12_mendKnown_98 ?_ | refine X_iadd dX12_mendKnown_98 ?_
        exact tail _ (cnt_t (hp.mpr (Or.inl (fun q => b75 (q2.mpr q))))).symm
      have h2 := q2.mp b75
      refine X_aload_n dX12_mendKnown_78 rfl ?_
      refine X_getR dX12_mendKnown_79 gf_X12_58 (by first | assumption | rfl) (by first | assumption | exact Nat.le_of_ble_eq_true rfl | omega) rfl (by first | assumption | rfl) ?_
      refine X_iload_n dX12_mendKnown_82 rfl ?_
      first | refine X_iald dX12_mendKnown_83 (by first | assumption | rfl) (by first | assumption | exact Nat.le_of_ble_eq_true rfl | omega) rfl (by first | decide | omega) (by decide) ?_ | refine X_ildA dX12_mendKnown_83 rfl (by omega) ?_ | refine X_ildM dX12_mendKnown_83 rfl (by omega) ?_ | refine X_sld dX12_mendKnown_83 rfl (by omega) (by omega) ?_
      rw [n3]
      refine X_aload_n dX12_mendKnown_84 rfl ?_
      refine X_getR dX12_mendKnown_85 gf_X12_22 (by first | assumption | rfl) (by first | assumption | exact Nat.le_of_ble_eq_true rfl | omega) rfl (by first | assumption | rfl) ?_
      refine X_iload_n dX12_mendKnown_88 rfl ?_
      first | refine X_iald dX12_mendKnown_89 (by first | assumption | rfl) (by first | assumption | exact Nat.le_of_ble_eq_true rfl | omega) rfl (by first | decide | omega) (by decide) ?_ | refine X_ildA dX12_mendKnown_89 rfl (by omega) ?_ | refine X_ildM dX12_mendKnown_89 rfl (by omega) ?_ | refine X_sld dX12_mendKnown_89 rfl (by omega) (by omega) ?_
      rw [c3]
      refine X_icmp_eq (tgt := 97) dX12_mendKnown_90 (by decide) (fun b90 => ?_) (fun b90 => ?_)
      · have h3 := q3.mp b90
        refine X_iconst (v := nI 0) dX12_mendKnown_97 (by decide) ?_
        first | refine X_iaddN dX12_mendKnown_98 ?_ | refine X_iadd dX12_mendKnown_98 ?_
        exact tail _ (cnt_f (fun q => (hp.mp q).elim (fun q => q h2) (fun q => q h3))).symm
      · refine X_iconst (v := nI 1) dX12_mendKnown_93 (by decide) ?_
        refine X_goto (tgt := 98) dX12_mendKnown_94 (by decide) ?_
        first | refine X_iaddN dX12_mendKnown_98 ?_ | refine X_iadd dX12_mendKnown_98 ?_
        exact tail _ (cnt_t (hp.mpr (Or.inr (fun q => b90 (q3.mpr q))))).symm
  have loop1 : ∀ (m i : Nat) (I' : Nat → Nat → Int32), m = n - i → i ≤ n → FrM [179, 186, 187] [] I I' → (∀ j, j < i → I' 186 j = enc (md1 c j 2) ∧ I' 187 j = enc (md1 c j 3)) → X G d zX12_mendKnown 4 [(0, vr 170), (1, vi (nI 0)), (2, vi (nI i))] [] (NC, I', J, layR sw) 0 0 (qi Q) := by
    intro m
    induction m with
    | zero =>
      intro i I' hm him hF hnew
      have hc' := RC_fm hc hF (by decide) (by decide)
      obtain rfl : i = n := by omega
      refine X_iload_n dX12_mendKnown_4 rfl ?_
      refine X_aload_n dX12_mendKnown_5 rfl ?_
      refine X_getI dX12_mendKnown_6 gf_X12_181 (by first | assumption | rfl) (by first | assumption | exact Nat.le_of_ble_eq_true rfl | omega) rfl ?_
      rw [hc'.1]
      refine X_icmp_ge (tgt := 52) dX12_mendKnown_9 (by decide) (fun b => ?_) (fun b => ?_)
      · refine X_iconst (v := nI 0) dX12_mendKnown_52 (by decide) ?_
        refine X_istore_n dX12_mendKnown_53 rfl rfl ?_
        exact loop2 i 0 I' rfl (Nat.zero_le i) (hF.sub (by simp) (by simp)) (hc'.cg (fun j hj w _ => by rw [mix_hi (Nat.zero_le j)])) hnew
      · exact absurd (Int32.le_refl _) b
    | succ m ih =>
      intro i I' hm him hF hnew
      have hc' := RC_fm hc hF (by decide) (by decide)
      have hin : i < n := by omega
      obtain ⟨v0, v2, v3⟩ := hv.2 i hin
      refine X_iload_n dX12_mendKnown_4 rfl ?_
      refine X_aload_n dX12_mendKnown_5 rfl ?_
      refine X_getI dX12_mendKnown_6 gf_X12_181 (by first | assumption | rfl) (by first | assumption | exact Nat.le_of_ble_eq_true rfl | omega) rfl ?_
      rw [hc'.1]
      refine X_icmp_ge (tgt := 52) dX12_mendKnown_9 (by decide) (fun b => ?_) (fun b => ?_)
      · exact absurd ((nle (by omega) (by omega)).mp b) (by omega)
      refine X_aload_n dX12_mendKnown_12 rfl ?_
      refine X_getR dX12_mendKnown_13 gf_X12_55 (by first | assumption | rfl) (by first | assumption | exact Nat.le_of_ble_eq_true rfl | omega) rfl (by first | assumption | rfl) ?_
      refine X_iload_n dX12_mendKnown_16 rfl ?_
      refine X_aload_n dX12_mendKnown_17 rfl ?_
      refine X_aload_n dX12_mendKnown_18 rfl ?_
      refine X_getR dX12_mendKnown_19 gf_X12_19 (by first | assumption | rfl) (by first | assumption | exact Nat.le_of_ble_eq_true rfl | omega) rfl (by first | assumption | rfl) ?_
      refine X_iload_n dX12_mendKnown_22 rfl ?_
      first | refine X_iald dX12_mendKnown_23 (by first | assumption | rfl) (by first | assumption | exact Nat.le_of_ble_eq_true rfl | omega) rfl (by first | decide | omega) (by decide) ?_ | refine X_ildA dX12_mendKnown_23 rfl (by omega) ?_ | refine X_ildM dX12_mendKnown_23 rfl (by omega) ?_ | refine X_sld dX12_mendKnown_23 rfl (by omega) (by omega) ?_
      rw [(hc'.2 i hin).2.2.1]
      refine X_iload_n dX12_mendKnown_24 rfl ?_
      refine X_cVi dX12_mendKnown_25 ck_X12_261 rfl rfl (by first | assumption | rfl) (by first | assumption | exact Nat.le_of_ble_eq_true rfl | omega) (by omega) (Nat.le_of_ble_eq_true rfl) (m_knownAs (by omega) hc' hv (by omega) (Or.inl v2) (fun I2 f2 => ?_))
      have hc2 := RC_fm hc' f2 (by decide) (by decide)
      refine X_iast dX12_mendKnown_28 (by first | assumption | rfl) (by first | assumption | exact Nat.le_of_ble_eq_true rfl | omega) rfl (by first | decide | omega) (by decide) ?_
      refine X_aload_n dX12_mendKnown_29 rfl ?_
      refine X_getR dX12_mendKnown_30 gf_X12_58 (by first | assumption | rfl) (by first | assumption | exact Nat.le_of_ble_eq_true rfl | omega) rfl (by first | assumption | rfl) ?_
      refine X_iload_n dX12_mendKnown_33 rfl ?_
      refine X_aload_n dX12_mendKnown_34 rfl ?_
      refine X_aload_n dX12_mendKnown_35 rfl ?_
      refine X_getR dX12_mendKnown_36 gf_X12_22 (by first | assumption | rfl) (by first | assumption | exact Nat.le_of_ble_eq_true rfl | omega) rfl (by first | assumption | rfl) ?_
      refine X_iload_n dX12_mendKnown_39 rfl ?_
      first | refine X_iald dX12_mendKnown_40 (by first | assumption | rfl) (by first | assumption | exact Nat.le_of_ble_eq_true rfl | omega) rfl (by first | decide | omega) (by decide) ?_ | refine X_ildA dX12_mendKnown_40 rfl (by omega) ?_ | refine X_ildM dX12_mendKnown_40 rfl (by omega) ?_ | refine X_sld dX12_mendKnown_40 rfl (by omega) (by omega) ?_
      have hc3 : RC (sr I2 186 (up (I2 186) i (enc (kas (kn c i) (c i 2))))) n c := RC_fm (l := [186]) (fl := []) hc2 (FrM.c (by simp) (by decide)) (by decide) (by decide)
      rw [(hc3.2 i hin).2.2.2]
      refine X_iload_n dX12_mendKnown_41 rfl ?_
      refine X_cVi dX12_mendKnown_42 ck_X12_261 rfl rfl (by first | assumption | rfl) (by first | assumption | exact Nat.le_of_ble_eq_true rfl | omega) (by omega) (Nat.le_of_ble_eq_true rfl) (m_knownAs (by omega) hc3 hv (by omega) (v3.elim (fun q => Or.inr q.2) (fun q => Or.inl q.2)) (fun I4 f4 => ?_))
      refine X_iast dX12_mendKnown_45 (by first | assumption | rfl) (by first | assumption | exact Nat.le_of_ble_eq_true rfl | omega) rfl (by first | decide | omega) (by decide) ?_
      first | refine X_iinc1 dX12_mendKnown_46 rfl rfl rfl ?_ | refine X_iinc dX12_mendKnown_46 rfl rfl rfl rfl ?_
      refine X_goto (tgt := 4) dX12_mendKnown_49 (by decide) ?_
      refine ih (i + 1) _ (by omega) (by omega) (((hF.tr (f2.sub (by simp) (by simp))).tr ((FrM.c (by simp) (by decide)).tr (f4.sub (by simp) (by simp)))).tr (FrM.c (by simp) (by decide))) (fun j hj => ?_)
      rw [sr_ne (show 186 ≠ 187 by decide), sr_eq, f4.1 186 (by decide) (by decide), f4.1 187 (by decide) (by decide), sr_eq, sr_ne (show 187 ≠ 186 by decide), f2.1 186 (by decide) (by decide), f2.1 187 (by decide) (by decide)]
      by_cases hji : j = i
      · subst hji
        rw [up_eq, up_eq]
        exact ⟨rfl, rfl⟩
      · rw [up_ne hji, up_ne hji]
        exact hnew j (by omega)
  refine Y_of rfl rfl (Nat.le_of_ble_eq_true rfl) rfl ?_
  refine X_iconst (v := nI 0) dX12_mendKnown_0 (by decide) ?_
  refine X_istore_n dX12_mendKnown_1 rfl rfl ?_
  refine X_iconst (v := nI 0) dX12_mendKnown_2 (by decide) ?_
  refine X_istore_n dX12_mendKnown_3 rfl rfl ?_
  exact loop1 n 0 I rfl (Nat.zero_le n) FrM.rf (fun j hj => absurd hj (Nat.not_lt_zero j))
set_option maxRecDepth 20000 in
theorem m_mendDigits {Q : Int32 → Mm → Prop} (hd : 1 ≤ d) (hc : RC I n c) (hv : VC n c) (hQ : ∀ I', FrM [173, 174, 175] [] I I' → RC I' n (md2 c) → Q (nI (cnt (mp2 c) n)) (NC, I', J, layR sw)) : Y G d zX12_mendDigits [vr 170] (NC, I, J, layR sw) 0 0 (qi Q) := by
  have hn := hv.1
  have loop : ∀ (m i : Nat) (I' : Nat → Nat → Int32), m = n - i → i ≤ n → FrM [173, 174, 175] [] I I' → RC I' n (mix (md2 c) c i) → X G d zX12_mendDigits 4 [(0, vr 170), (1, vi (nI (cnt (mp2 c) i))), (2, vi (nI i))] [] (NC, I', J, layR sw) 0 0 (qi Q) := by
    intro m
    induction m with
    | zero =>
      intro i I' hm him hF hc'
      obtain rfl : i = n := by omega
      refine X_iload_n dX12_mendDigits_4 rfl ?_
      refine X_aload_n dX12_mendDigits_5 rfl ?_
      refine X_getI dX12_mendDigits_6 gf_X12_181 (by first | assumption | rfl) (by first | assumption | exact Nat.le_of_ble_eq_true rfl | omega) rfl ?_
      rw [hc'.1]
      refine X_icmp_ge (tgt := 106) dX12_mendDigits_9 (by decide) (fun b => ?_) (fun b => ?_)
      · refine X_iload_n dX12_mendDigits_106 rfl ?_
        exact X_iret dX12_mendDigits_107 rfl ⟨_, rfl, hQ I' hF (hc'.cg (fun j hj w _ => by rw [mix_lo hj]))⟩
      · exact absurd (Int32.le_refl _) b
    | succ m ih =>
      intro i I' hm him hF hc'
      have hin : i < n := by omega
      obtain ⟨v0, v2, v3⟩ := hv.2 i hin
      have mi : mix (md2 c) c i i = c i := mix_hi (Nat.le_refl i)
      obtain ⟨c0, c1, c2, c3⟩ := hc'.2 i hin
      rw [mi] at c0 c1 c2 c3
      have no : ¬ mp2 c i = true → X G d zX12_mendDigits 100 [(0, vr 170), (1, vi (nI (cnt (mp2 c) i))), (2, vi (nI i))] [] (NC, I', J, layR sw) 0 0 (qi Q) := by
        intro hp
        first | refine X_iinc1 dX12_mendDigits_100 rfl rfl rfl ?_ | refine X_iinc dX12_mendDigits_100 rfl rfl rfl rfl ?_
        refine X_goto (tgt := 4) dX12_mendDigits_103 (by decide) ?_
        have ih := ih (i + 1) I' (by omega) (by omega) hF (hc'.cg (fun j hj w hw => by
          rw [mix_s]
          by_cases hji : j = i
          · rw [if_pos hji, hji, mi]; exact if_neg hp
          · rw [if_neg hji]))
        rw [cnt_f hp] at ih
        exact ih
      refine X_iload_n dX12_mendDigits_4 rfl ?_
      refine X_aload_n dX12_mendDigits_5 rfl ?_
      refine X_getI dX12_mendDigits_6 gf_X12_181 (by first | assumption | rfl) (by first | assumption | exact Nat.le_of_ble_eq_true rfl | omega) rfl ?_
      rw [hc'.1]
      refine X_icmp_ge (tgt := 106) dX12_mendDigits_9 (by decide) (fun b => ?_) (fun b => ?_)
      · exact absurd ((nle (by omega) (by omega)).mp b) (by omega)
      refine X_aload_n dX12_mendDigits_12 rfl ?_
      refine X_getR dX12_mendDigits_13 gf_X12_16 (by first | assumption | rfl) (by first | assumption | exact Nat.le_of_ble_eq_true rfl | omega) rfl (by first | assumption | rfl) ?_
      refine X_iload_n dX12_mendDigits_16 rfl ?_
      first | refine X_iald dX12_mendDigits_17 (by first | assumption | rfl) (by first | assumption | exact Nat.le_of_ble_eq_true rfl | omega) rfl (by first | decide | omega) (by decide) ?_ | refine X_ildA dX12_mendDigits_17 rfl (by omega) ?_ | refine X_ildM dX12_mendDigits_17 rfl (by omega) ?_ | refine X_sld dX12_mendDigits_17 rfl (by omega) (by omega) ?_
      rw [c1]
      refine X_bipush (v := (-6)) dX12_mendDigits_18 (by decide) ?_
      rcases v3 with ⟨e1, e3⟩ | ⟨e1, e3⟩
      · refine X_icmp_eq (tgt := 100) dX12_mendDigits_20 (by decide) (fun b20 => ?_) (fun b20 => ?_)
        · exact no (by simp [mp2, e1])
        · exact absurd (by rw [e1]; rfl) b20
      · obtain ⟨n1, n2⟩ := enc_act e1
        refine X_icmp_eq (tgt := 100) dX12_mendDigits_20 (by decide) (fun b20 => ?_) (fun b20 => ?_)
        · exact absurd b20 n2
        have k2 : c i 2 ≠ 99 := by unfold opd at v2; omega
        have k3 : c i 3 ≠ 99 := by unfold opd at e3; omega
        rw [enc_n k2] at c2
        rw [enc_n k3] at c3
        refine X_aload_n dX12_mendDigits_23 rfl ?_
        refine X_getR dX12_mendDigits_24 gf_X12_19 (by first | assumption | rfl) (by first | assumption | exact Nat.le_of_ble_eq_true rfl | omega) rfl (by first | assumption | rfl) ?_
        refine X_iload_n dX12_mendDigits_27 rfl ?_
        first | refine X_iald dX12_mendDigits_28 (by first | assumption | rfl) (by first | assumption | exact Nat.le_of_ble_eq_true rfl | omega) rfl (by first | decide | omega) (by decide) ?_ | refine X_ildA dX12_mendDigits_28 rfl (by omega) ?_ | refine X_ildM dX12_mendDigits_28 rfl (by omega) ?_ | refine X_sld dX12_mendDigits_28 rfl (by omega) (by omega) ?_
        rw [c2]
        refine X_bipush (v := nI 10) dX12_mendDigits_29 (by decide) ?_
        refine X_icmp_lt (tgt := 100) dX12_mendDigits_31 (by decide) (fun b31 => ?_) (fun b31 => ?_)
        · have := (nlt (by decide) (by unfold opd at v2; omega)).mp b31
          exact no (by simp [mp2]; omega)
        have g2 : 10 ≤ c i 2 := by
          have : ¬ c i 2 < 10 := fun q => b31 ((nlt (by decide) (by omega)).mpr q)
          omega
        refine X_aload_n dX12_mendDigits_34 rfl ?_
        refine X_getR dX12_mendDigits_35 gf_X12_22 (by first | assumption | rfl) (by first | assumption | exact Nat.le_of_ble_eq_true rfl | omega) rfl (by first | assumption | rfl) ?_
        refine X_iload_n dX12_mendDigits_38 rfl ?_
        first | refine X_iald dX12_mendDigits_39 (by first | assumption | rfl) (by first | assumption | exact Nat.le_of_ble_eq_true rfl | omega) rfl (by first | decide | omega) (by decide) ?_ | refine X_ildA dX12_mendDigits_39 rfl (by omega) ?_ | refine X_ildM dX12_mendDigits_39 rfl (by omega) ?_ | refine X_sld dX12_mendDigits_39 rfl (by omega) (by omega) ?_
        rw [c3]
        refine X_bipush (v := nI 10) dX12_mendDigits_40 (by decide) ?_
        refine X_icmp_lt (tgt := 100) dX12_mendDigits_42 (by decide) (fun b42 => ?_) (fun b42 => ?_)
        · have := (nlt (by decide) (by unfold opd at e3; omega)).mp b42
          exact no (by simp [mp2]; omega)
        have g3 : 10 ≤ c i 3 := by
          have : ¬ c i 3 < 10 := fun q => b42 ((nlt (by decide) (by omega)).mpr q)
          omega
        have hp : mp2 c i = true := by simp [mp2, n1, g2, g3]
        refine X_aload_n dX12_mendDigits_45 rfl ?_
        refine X_getR dX12_mendDigits_46 gf_X12_19 (by first | assumption | rfl) (by first | assumption | exact Nat.le_of_ble_eq_true rfl | omega) rfl (by first | assumption | rfl) ?_
        refine X_iload_n dX12_mendDigits_49 rfl ?_
        refine X_bipush (v := nI 10) dX12_mendDigits_50 (by decide) ?_
        refine X_aload_n dX12_mendDigits_52 rfl ?_
        refine X_getR dX12_mendDigits_53 gf_X12_16 (by first | assumption | rfl) (by first | assumption | exact Nat.le_of_ble_eq_true rfl | omega) rfl (by first | assumption | rfl) ?_
        refine X_iload_n dX12_mendDigits_56 rfl ?_
        first | refine X_iald dX12_mendDigits_57 (by first | assumption | rfl) (by first | assumption | exact Nat.le_of_ble_eq_true rfl | omega) rfl (by first | decide | omega) (by decide) ?_ | refine X_ildA dX12_mendDigits_57 rfl (by omega) ?_ | refine X_ildM dX12_mendDigits_57 rfl (by omega) ?_ | refine X_sld dX12_mendDigits_57 rfl (by omega) (by omega) ?_
        rw [c1]
        refine X_aload_n dX12_mendDigits_58 rfl ?_
        refine X_getR dX12_mendDigits_59 gf_X12_19 (by first | assumption | rfl) (by first | assumption | exact Nat.le_of_ble_eq_true rfl | omega) rfl (by first | assumption | rfl) ?_
        refine X_iload_n dX12_mendDigits_62 rfl ?_
        first | refine X_iald dX12_mendDigits_63 (by first | assumption | rfl) (by first | assumption | exact Nat.le_of_ble_eq_true rfl | omega) rfl (by first | decide | omega) (by decide) ?_ | refine X_ildA dX12_mendDigits_63 rfl (by omega) ?_ | refine X_ildM dX12_mendDigits_63 rfl (by omega) ?_ | refine X_sld dX12_mendDigits_63 rfl (by omega) (by omega) ?_
        rw [c2]
        refine X_bipush (v := nI 10) dX12_mendDigits_64 (by decide) ?_
        first | refine X_isubN dX12_mendDigits_66 (by omega) ?_ | refine X_isub dX12_mendDigits_66 ?_
        refine X_aload_n dX12_mendDigits_67 rfl ?_
        refine X_getR dX12_mendDigits_68 gf_X12_22 (by first | assumption | rfl) (by first | assumption | exact Nat.le_of_ble_eq_true rfl | omega) rfl (by first | assumption | rfl) ?_
        refine X_iload_n dX12_mendDigits_71 rfl ?_
        first | refine X_iald dX12_mendDigits_72 (by first | assumption | rfl) (by first | assumption | exact Nat.le_of_ble_eq_true rfl | omega) rfl (by first | decide | omega) (by decide) ?_ | refine X_ildA dX12_mendDigits_72 rfl (by omega) ?_ | refine X_ildM dX12_mendDigits_72 rfl (by omega) ?_ | refine X_sld dX12_mendDigits_72 rfl (by omega) (by omega) ?_
        rw [c3]
        refine X_bipush (v := nI 10) dX12_mendDigits_73 (by decide) ?_
        first | refine X_isubN dX12_mendDigits_75 (by omega) ?_ | refine X_isub dX12_mendDigits_75 ?_
        refine X_cSi dX12_mendDigits_76 ck_X12_195 rfl rfl (by omega) (Nat.le_of_ble_eq_true rfl) (m_acted e1 (by unfold opd at v2; omega) (by unfold opd at e3; omega) ?_)
        have ha := av_lt (a := c i 1) (y := c i 3 - 10) (show c i 2 - 10 < 8 by unfold opd at v2; omega)
        first | refine X_iaddN dX12_mendDigits_79 ?_ | refine X_iadd dX12_mendDigits_79 ?_
        refine X_iast dX12_mendDigits_80 (by first | assumption | rfl) (by first | assumption | exact Nat.le_of_ble_eq_true rfl | omega) rfl (by first | decide | omega) (by decide) ?_
        refine X_aload_n dX12_mendDigits_81 rfl ?_
        refine X_getR dX12_mendDigits_82 gf_X12_16 (by first | assumption | rfl) (by first | assumption | exact Nat.le_of_ble_eq_true rfl | omega) rfl (by first | assumption | rfl) ?_
        refine X_iload_n dX12_mendDigits_85 rfl ?_
        refine X_bipush (v := (-6)) dX12_mendDigits_86 (by decide) ?_
        refine X_iast dX12_mendDigits_88 (by first | assumption | rfl) (by first | assumption | exact Nat.le_of_ble_eq_true rfl | omega) rfl (by first | decide | omega) (by decide) ?_
        refine X_aload_n dX12_mendDigits_89 rfl ?_
        refine X_getR dX12_mendDigits_90 gf_X12_22 (by first | assumption | rfl) (by first | assumption | exact Nat.le_of_ble_eq_true rfl | omega) rfl (by first | assumption | rfl) ?_
        refine X_iload_n dX12_mendDigits_93 rfl ?_
        refine X_bipush (v := (-6)) dX12_mendDigits_94 (by decide) ?_
        refine X_iast dX12_mendDigits_96 (by first | assumption | rfl) (by first | assumption | exact Nat.le_of_ble_eq_true rfl | omega) rfl (by first | decide | omega) (by decide) ?_
        first | refine X_iinc1 dX12_mendDigits_97 rfl rfl rfl ?_ | refine X_iinc dX12_mendDigits_97 rfl rfl rfl rfl ?_
        first | refine X_iinc1 dX12_mendDigits_100 rfl rfl rfl ?_ | refine X_iinc dX12_mendDigits_100 rfl rfl rfl rfl ?_
        refine X_goto (tgt := 4) dX12_mendDigits_103 (by decide) ?_
        have ih := ih (i + 1) _ (by omega) (by omega) (hF.tr (((FrM.c (k := 174) (f := up (I' 174) i (nI (10 + av (c i 1) (c i 2 - 10) (c i 3 - 10)))) (by simp) (by decide)).tr (FrM.c (k := 173) (f := up (I' 173) i (-6)) (by simp) (by decide))).tr (FrM.c (k := 175) (f := up (I' 175) i (-6)) (by simp) (by decide)))) ⟨?_, fun j hj => ?_⟩
        · rw [cnt_t hp] at ih
          rw [sr_ne (show 173 ≠ 174 by decide), sr_ne (show 175 ≠ 173 by decide), sr_ne (show 175 ≠ 174 by decide)]
          exact ih
        · rw [sr_ne (by decide), sr_ne (by decide), sr_ne (by decide)]; exact hc'.1
        · rw [sr_ne (show 172 ≠ 175 by decide), sr_ne (show 172 ≠ 173 by decide), sr_ne (show 172 ≠ 174 by decide), sr_ne (show 173 ≠ 175 by decide), sr_eq, sr_ne (show 174 ≠ 175 by decide), sr_ne (show 174 ≠ 173 by decide), sr_eq, sr_eq, mix_s]
          by_cases hji : j = i
          · subst hji
            rw [if_pos rfl, up_eq, up_eq, up_eq, c0]
            unfold md2
            rw [if_pos hp, if_pos hp, if_pos hp, if_pos hp]
            exact ⟨rfl, rfl, (enc_n (by omega)).symm, rfl⟩
          · rw [if_neg hji, up_ne hji, up_ne hji, up_ne hji]
            exact hc'.2 j hj
  refine Y_of rfl rfl (Nat.le_of_ble_eq_true rfl) rfl ?_
  refine X_iconst (v := nI 0) dX12_mendDigits_0 (by decide) ?_
  refine X_istore_n dX12_mendDigits_1 rfl rfl ?_
  refine X_iconst (v := nI 0) dX12_mendDigits_2 (by decide) ?_
  refine X_istore_n dX12_mendDigits_3 rfl rfl ?_
  exact loop n 0 I rfl (Nat.zero_le n) FrM.rf (hc.cg (fun j hj w _ => by rw [mix_hi (Nat.zero_le j)]))
end RM
