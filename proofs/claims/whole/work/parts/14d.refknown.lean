/-! what is known, by the reference -/
theorem RC_fr {I I' : Nat → Nat → Int32} {l : List Nat} {n : Nat} {c : Nat → Nat → Nat} (h : RC I n c) (hf : Fr l I I') (hl : l.all (fun k => decide (175 < k)) = true) : RC I' n c := by
  have hh : ∀ j, j ≤ 175 → I' j = I j := fun j hj => hf j (fun q => by
    have := List.all_eq_true.mp hl j q
    simp only [decide_eq_true_eq] at this
    omega)
  unfold RC
  rw [hh 170 (by decide), hh 172 (by decide), hh 173 (by decide), hh 174 (by decide), hh 175 (by decide)]
  exact h
theorem RInv_fr {I I' : Nat → Nat → Int32} {s : SS} {l : List Nat} (hi : RInv I s) (hf : Fr l I I') (hl : l.all (fun k => decide (177 < k) && (decide (k < 197) || (decide (199 < k) && decide (k < 204)))) = true) : RInv I' s := by
  have hh : ∀ j, (j ≤ 177 ∨ j = 197 ∨ j = 198 ∨ j = 199 ∨ j = 204 ∨ j = 205) → I' j = I j := fun j hj => hf j (fun q => by
    have := List.all_eq_true.mp hl j q
    simp only [Bool.and_eq_true, Bool.or_eq_true, decide_eq_true_eq] at this
    omega)
  exact hi.fr (fun f _ => by rw [hh 170 (by omega)]) (fun k hk => hh k (by simp at hk; omega))
theorem PM_scr {I I' : Nat → Nat → Int32} {J : Nat → Nat → Int64} {sw : Bool} {s : SS} {a : Int32} (hi : RInv I s) (l : List Nat) (hf : Fr l I I') (hl : l.all (fun k => decide (177 < k) && (decide (k < 197) || (decide (199 < k) && decide (k < 204)))) = true) : PM s a I J sw a (NC, I', J, layR sw) := by
  refine PM_mk (RInv_fr hi hf hl) (fun k hk => hf k (fun q => ?_))
  have := List.all_eq_true.mp hl k q
  simp only [Bool.and_eq_true, Bool.or_eq_true, decide_eq_true_eq] at this
  omega
section RK
variable {G : GG} {d : Nat} {sw : Bool} {I : Nat → Nat → Int32} {J : Nat → Nat → Int64} {s : SS} {n W : Nat} {c : Nat → Nat → Nat}
theorem m_acted {Q : Int32 → Mm → Prop} {M : Mm} {a x y : Nat} (ha : iact a) (hx : x < 8) (hy : y < 8) (hQ : Q (nI (av a x y)) M) : Y G d zX12_acted [vi (enc a), vi (nI x), vi (nI y)] M 0 0 (qi Q) := by
  refine Y_of rfl rfl (Nat.le_of_ble_eq_true rfl) rfl ?_
  refine X_iload_n dX12_acted_0 rfl ?_
  refine X_bipush (v := nI 43) dX12_acted_1 (by decide) ?_
  rcases ha with rfl | rfl | rfl | rfl
  · refine X_icmp_ne (tgt := 15) dX12_acted_3 (by decide) (fun b => ?_) (fun b => ?_)
    · exact absurd (by decide) b
    refine X_iload_n dX12_acted_6 rfl ?_
    refine X_iload_n dX12_acted_7 rfl ?_
    first | refine X_iaddN dX12_acted_8 ?_ | refine X_iadd dX12_acted_8 ?_
    refine X_bipush (v := nI 7) dX12_acted_9 (by decide) ?_
    first | refine X_iandN dX12_acted_11 ?_ | refine X_iandC dX12_acted_11 ?_ | refine X_iand dX12_acted_11 ?_
    refine X_goto (tgt := 55) dX12_acted_12 (by decide) ?_
    rw [and7]
    exact X_iret dX12_acted_55 rfl ⟨_, rfl, hQ⟩
  · refine X_icmp_ne (tgt := 15) dX12_acted_3 (by decide) (fun b => ?_) (fun b => ?_)
    · refine X_iload_n dX12_acted_15 rfl ?_
      refine X_bipush (v := nI 45) dX12_acted_16 (by decide) ?_
      refine X_icmp_ne (tgt := 30) dX12_acted_18 (by decide) (fun b18 => ?_) (fun b18 => ?_)
      · exact absurd (by decide) b18
      refine X_iload_n dX12_acted_21 rfl ?_
      refine X_iload_n dX12_acted_22 rfl ?_
      refine X_isub dX12_acted_23 ?_
      refine X_bipush (v := nI 7) dX12_acted_24 (by decide) ?_
      refine X_iand dX12_acted_26 ?_
      rw [sub7 x hx y hy]
      refine X_goto (tgt := 55) dX12_acted_27 (by decide) ?_
      exact X_iret dX12_acted_55 rfl ⟨_, rfl, hQ⟩
    · exact absurd b (by decide)
  · refine X_icmp_ne (tgt := 15) dX12_acted_3 (by decide) (fun b => ?_) (fun b => ?_)
    · refine X_iload_n dX12_acted_15 rfl ?_
      refine X_bipush (v := nI 45) dX12_acted_16 (by decide) ?_
      refine X_icmp_ne (tgt := 30) dX12_acted_18 (by decide) (fun b18 => ?_) (fun b18 => ?_)
      · refine X_iload_n dX12_acted_30 rfl ?_
        refine X_bipush (v := nI 42) dX12_acted_31 (by decide) ?_
        refine X_icmp_ne (tgt := 45) dX12_acted_33 (by decide) (fun b33 => ?_) (fun b33 => ?_)
        · exact absurd (by decide) b33
        refine X_iload_n dX12_acted_36 rfl ?_
        refine X_iload_n dX12_acted_37 rfl ?_
        first | refine X_imulN dX12_acted_38 ?_ | refine X_imul dX12_acted_38 ?_
        refine X_bipush (v := nI 7) dX12_acted_39 (by decide) ?_
        first | refine X_iandN dX12_acted_41 ?_ | refine X_iandC dX12_acted_41 ?_ | refine X_iand dX12_acted_41 ?_
        refine X_goto (tgt := 55) dX12_acted_42 (by decide) ?_
        rw [and7]
        exact X_iret dX12_acted_55 rfl ⟨_, rfl, hQ⟩
      · exact absurd b18 (by decide)
    · exact absurd b (by decide)
  · refine X_icmp_ne (tgt := 15) dX12_acted_3 (by decide) (fun b => ?_) (fun b => ?_)
    · refine X_iload_n dX12_acted_15 rfl ?_
      refine X_bipush (v := nI 45) dX12_acted_16 (by decide) ?_
      refine X_icmp_ne (tgt := 30) dX12_acted_18 (by decide) (fun b18 => ?_) (fun b18 => ?_)
      · refine X_iload_n dX12_acted_30 rfl ?_
        refine X_bipush (v := nI 42) dX12_acted_31 (by decide) ?_
        refine X_icmp_ne (tgt := 45) dX12_acted_33 (by decide) (fun b33 => ?_) (fun b33 => ?_)
        · refine X_iload_n dX12_acted_45 rfl ?_
          refine X_iload_n dX12_acted_46 rfl ?_
          refine X_icmp_ge (tgt := 54) dX12_acted_47 (by decide) (fun b47 => ?_) (fun b47 => ?_)
          · have h := (nle (by omega) (by omega)).mp b47
            refine X_iload_n dX12_acted_54 rfl ?_
            exact X_iret dX12_acted_55 rfl ⟨_, rfl, (by rwa [show av 109 x y = min x y from rfl, Nat.min_eq_right h] at hQ)⟩
          · have h : ¬ y ≤ x := fun q => b47 ((nle (by omega) (by omega)).mpr q)
            refine X_iload_n dX12_acted_50 rfl ?_
            refine X_goto (tgt := 55) dX12_acted_51 (by decide) ?_
            exact X_iret dX12_acted_55 rfl ⟨_, rfl, (by rwa [show av 109 x y = min x y from rfl, Nat.min_eq_left (by omega)] at hQ)⟩
        · exact absurd b33 (by decide)
      · exact absurd b18 (by decide)
    · exact absurd b (by decide)
theorem m_knownHere {Q : Int32 → Mm → Prop} {v : Nat} {k : Nat → Nat} (hv : opd v) (hk : ∀ r, r < 4 → I 179 r = enc (k r)) (hQ : Q (enc (kop k v)) (NC, I, J, layR sw)) : Y G d zX12_knownHere [vr 170, vi (enc v)] (NC, I, J, layR sw) 0 0 (qi Q) := by
  have h99 : v ≠ 99 := by unfold opd at hv; omega
  rw [enc_n h99]
  unfold kop at hQ
  refine Y_of rfl rfl (Nat.le_of_ble_eq_true rfl) rfl ?_
  refine X_iload_n dX12_knownHere_0 rfl ?_
  refine X_bipush (v := nI 10) dX12_knownHere_1 (by decide) ?_
  rcases hv with hv | hv
  · refine X_icmp_lt (tgt := 13) dX12_knownHere_3 (by decide) (fun b => ?_) (fun b => ?_)
    · refine X_aload_n dX12_knownHere_13 rfl ?_
      refine X_getR dX12_knownHere_14 gf_X12_34 (by first | assumption | rfl) (by first | assumption | exact Nat.le_of_ble_eq_true rfl | omega) rfl (by first | assumption | rfl) ?_
      refine X_iload_n dX12_knownHere_17 rfl ?_
      first | refine X_iald dX12_knownHere_18 (by first | assumption | rfl) (by first | assumption | exact Nat.le_of_ble_eq_true rfl | omega) rfl (by first | decide | omega) (by decide) ?_ | refine X_ildA dX12_knownHere_18 rfl (by omega) ?_ | refine X_ildM dX12_knownHere_18 rfl (by omega) ?_ | refine X_sld dX12_knownHere_18 rfl (by omega) (by omega) ?_
      rw [hk v hv]
      rw [if_pos hv] at hQ
      exact X_iret dX12_knownHere_19 rfl ⟨_, rfl, hQ⟩
    · exact absurd ((nlt (by omega) (by omega)).mpr (by omega)) b
  · refine X_icmp_lt (tgt := 13) dX12_knownHere_3 (by decide) (fun b => ?_) (fun b => ?_)
    · exact absurd ((nlt (by omega) (by omega)).mp b) (by omega)
    · refine X_iload_n dX12_knownHere_6 rfl ?_
      refine X_bipush (v := nI 10) dX12_knownHere_7 (by decide) ?_
      first | refine X_isubN dX12_knownHere_9 (by omega) ?_ | refine X_isub dX12_knownHere_9 ?_
      refine X_goto (tgt := 19) dX12_knownHere_10 (by decide) ?_
      rw [if_neg (by omega), if_pos hv, enc_n (by omega)] at hQ
      exact X_iret dX12_knownHere_19 rfl ⟨_, rfl, hQ⟩
theorem kok_neg {v : Nat} (h : kok v) : enc v < 0 ↔ v = 99 := by
  rcases kok_enc h with ⟨h1, h2⟩ | ⟨h1, h2⟩
  · refine ⟨fun q => ?_, fun q => by omega⟩
    rw [h2] at q
    exact absurd q (nneg (by omega))
  · exact ⟨fun _ => h1, fun _ => by rw [h2]; decide⟩
set_option maxRecDepth 20000 in
theorem m_knownOf {Q : Int32 → Mm → Prop} {p v : Nat} (hd : 1 ≤ d) (hc : RC I n c) (hv : VC n c) (hp : p ≤ n) (hvv : opd v) (hQ : ∀ I', Fr [179] I I' → Q (enc (kop (kn c p) v)) (NC, I', J, layR sw)) : Y G d zX12_knownOf [vr 170, vi (enc v), vi (nI p)] (NC, I, J, layR sw) 0 0 (qi Q) := by
  have hn := hv.1
  have h99 : v ≠ 99 := by unfold opd at hvv; omega
  rw [enc_n h99]
  unfold kop at hQ
  refine Y_of rfl rfl (Nat.le_of_ble_eq_true rfl) rfl ?_
  refine X_iload_n dX12_knownOf_0 rfl ?_
  refine X_bipush (v := nI 10) dX12_knownOf_1 (by decide) ?_
  rcases hvv with hvv | hvv
  · rw [if_pos hvv] at hQ
    refine X_icmp_lt (tgt := 11) dX12_knownOf_3 (by decide) (fun b => ?_) (fun b => ?_)
    · have loop2 : ∀ (m i : Nat) (I' : Nat → Nat → Int32), m = p - i → i ≤ p → Fr [179] I I' → (∀ r, r < 4 → I' 179 r = enc (kn c i r)) → X G d zX12_knownOf 34 [(0, vr 170), (1, vi (nI v)), (2, vi (nI p)), (3, vi (nI i))] [] (NC, I', J, layR sw) 0 0 (qi Q) := by
        intro m
        induction m with
        | zero =>
          intro i I' hm him hF hk
          obtain rfl : i = p := by omega
          refine X_iload_n dX12_knownOf_34 rfl ?_
          refine X_iload_n dX12_knownOf_35 rfl ?_
          refine X_icmp_ge (tgt := 139) dX12_knownOf_36 (by decide) (fun b36 => ?_) (fun b36 => ?_)
          · refine X_aload_n dX12_knownOf_139 rfl ?_
            refine X_getR dX12_knownOf_140 gf_X12_34 (by first | assumption | rfl) (by first | assumption | exact Nat.le_of_ble_eq_true rfl | omega) rfl (by first | assumption | rfl) ?_
            refine X_iload_n dX12_knownOf_143 rfl ?_
            first | refine X_iald dX12_knownOf_144 (by first | assumption | rfl) (by first | assumption | exact Nat.le_of_ble_eq_true rfl | omega) rfl (by first | decide | omega) (by decide) ?_ | refine X_ildA dX12_knownOf_144 rfl (by omega) ?_ | refine X_ildM dX12_knownOf_144 rfl (by omega) ?_ | refine X_sld dX12_knownOf_144 rfl (by omega) (by omega) ?_
            rw [hk v hvv]
            exact X_iret dX12_knownOf_145 rfl ⟨_, rfl, hQ I' hF⟩
          · exact absurd (Int32.le_refl _) b36
        | succ m ih =>
          intro i I' hm him hF hk
          have hc' := RC_fr hc hF (by decide)
          have hin : i < n := by omega
          obtain ⟨v0, v2, v3⟩ := hv.2 i hin
          obtain ⟨c0, c1, c2, c3⟩ := hc'.2 i hin
          refine X_iload_n dX12_knownOf_34 rfl ?_
          refine X_iload_n dX12_knownOf_35 rfl ?_
          refine X_icmp_ge (tgt := 139) dX12_knownOf_36 (by decide) (fun b36 => ?_) (fun b36 => ?_)
          · exact absurd ((nle (by omega) (by omega)).mp b36) (by omega)
          refine X_aload_n dX12_knownOf_39 rfl ?_
          refine X_aload_n dX12_knownOf_40 rfl ?_
          refine X_getR dX12_knownOf_41 gf_X12_19 (by first | assumption | rfl) (by first | assumption | exact Nat.le_of_ble_eq_true rfl | omega) rfl (by first | assumption | rfl) ?_
          refine X_iload_n dX12_knownOf_44 rfl ?_
          first | refine X_iald dX12_knownOf_45 (by first | assumption | rfl) (by first | assumption | exact Nat.le_of_ble_eq_true rfl | omega) rfl (by first | decide | omega) (by decide) ?_ | refine X_ildA dX12_knownOf_45 rfl (by omega) ?_ | refine X_ildM dX12_knownOf_45 rfl (by omega) ?_ | refine X_sld dX12_knownOf_45 rfl (by omega) (by omega) ?_
          rw [c2]
          refine X_cVi dX12_knownOf_46 ck_X12_227 rfl rfl (by first | assumption | rfl) (by first | assumption | exact Nat.le_of_ble_eq_true rfl | omega) (by omega) (Nat.le_of_ble_eq_true rfl) (m_knownHere v2 hk ?_)
          have o2 := kop_ok (kn_ok c i) (c i 2)
          have hst : kn c (i + 1) = up (kn c i) (c i 0) (kst (kn c i) (c i)) := rfl
          unfold kst at hst
          generalize kop (kn c i) (c i 2) = x at o2 hst
          refine X_istore dX12_knownOf_49 rfl rfl ?_
          refine X_aload_n dX12_knownOf_51 rfl ?_
          refine X_getR dX12_knownOf_52 gf_X12_16 (by first | assumption | rfl) (by first | assumption | exact Nat.le_of_ble_eq_true rfl | omega) rfl (by first | assumption | rfl) ?_
          refine X_iload_n dX12_knownOf_55 rfl ?_
          first | refine X_iald dX12_knownOf_56 (by first | assumption | rfl) (by first | assumption | exact Nat.le_of_ble_eq_true rfl | omega) rfl (by first | decide | omega) (by decide) ?_ | refine X_ildA dX12_knownOf_56 rfl (by omega) ?_ | refine X_ildM dX12_knownOf_56 rfl (by omega) ?_ | refine X_sld dX12_knownOf_56 rfl (by omega) (by omega) ?_
          rw [c1]
          refine X_bipush (v := (-6)) dX12_knownOf_57 (by decide) ?_
          rcases v3 with ⟨e1, e3⟩ | ⟨e1, e3⟩
          · rw [e1, if_pos rfl] at hst
            rw [e1]
            refine X_icmp_ne (tgt := 66) dX12_knownOf_59 (by decide) (fun b59 => ?_) (fun b59 => ?_)
            · exact absurd rfl b59
            refine X_iconst (v := nI 0) dX12_knownOf_62 (by decide) ?_
            refine X_goto (tgt := 76) dX12_knownOf_63 (by decide) ?_
            refine X_istore dX12_knownOf_76 rfl rfl ?_
            refine X_aload_n dX12_knownOf_78 rfl ?_
            refine X_getR dX12_knownOf_79 gf_X12_34 (by first | assumption | rfl) (by first | assumption | exact Nat.le_of_ble_eq_true rfl | omega) rfl (by first | assumption | rfl) ?_
            refine X_aload_n dX12_knownOf_82 rfl ?_
            refine X_getR dX12_knownOf_83 gf_X12_13 (by first | assumption | rfl) (by first | assumption | exact Nat.le_of_ble_eq_true rfl | omega) rfl (by first | assumption | rfl) ?_
            refine X_iload_n dX12_knownOf_86 rfl ?_
            first | refine X_iald dX12_knownOf_87 (by first | assumption | rfl) (by first | assumption | exact Nat.le_of_ble_eq_true rfl | omega) rfl (by first | decide | omega) (by decide) ?_ | refine X_ildA dX12_knownOf_87 rfl (by omega) ?_ | refine X_ildM dX12_knownOf_87 rfl (by omega) ?_ | refine X_sld dX12_knownOf_87 rfl (by omega) (by omega) ?_
            rw [hc'.t hv hin]
            refine X_iload dX12_knownOf_88 rfl ?_
            refine X_if_lt (tgt := 98) dX12_knownOf_90 (by decide) (fun b90 => ?_) (fun b90 => ?_)
            · have hx := (kok_neg o2).mp b90
              refine X_bipush (v := (-6)) dX12_knownOf_98 (by decide) ?_
              refine X_goto (tgt := 132) dX12_knownOf_100 (by decide) ?_
              refine X_iast dX12_knownOf_132 (by first | assumption | rfl) (by first | assumption | exact Nat.le_of_ble_eq_true rfl | omega) rfl (by first | decide | omega) (by decide) ?_
              first | refine X_iinc1 dX12_knownOf_133 rfl rfl rfl ?_ | refine X_iinc dX12_knownOf_133 rfl rfl rfl rfl ?_
              refine X_goto (tgt := 34) dX12_knownOf_136 (by decide) ?_
              refine weak (lv' := [(0, vr 170), (1, vi (nI v)), (2, vi (nI p)), (3, vi (nI (i + 1)))]) (fun q hq => List.mem_append_left _ hq) ?_
              refine ih (i + 1) _ (by omega) (by omega) (hF.tr (Fr.sr (by simp))) (fun r hr => ?_)
              rw [hst, if_pos (Or.inl hx), sr_eq]
              by_cases hrt : r = c i 0
              · rw [hrt, up_eq, up_eq]; rfl
              · rw [up_ne hrt, up_ne hrt]; exact hk r hr
            · have hx : x ≠ 99 := fun q => b90 ((kok_neg o2).mpr q)
              refine X_iload dX12_knownOf_93 rfl ?_
              refine X_if_ge (tgt := 103) dX12_knownOf_95 (by decide) (fun b95 => ?_) (fun b95 => ?_)
              · refine X_aload_n dX12_knownOf_103 rfl ?_
                refine X_getR dX12_knownOf_104 gf_X12_16 (by first | assumption | rfl) (by first | assumption | exact Nat.le_of_ble_eq_true rfl | omega) rfl (by first | assumption | rfl) ?_
                refine X_iload_n dX12_knownOf_107 rfl ?_
                first | refine X_iald dX12_knownOf_108 (by first | assumption | rfl) (by first | assumption | exact Nat.le_of_ble_eq_true rfl | omega) rfl (by first | decide | omega) (by decide) ?_ | refine X_ildA dX12_knownOf_108 rfl (by omega) ?_ | refine X_ildM dX12_knownOf_108 rfl (by omega) ?_ | refine X_sld dX12_knownOf_108 rfl (by omega) (by omega) ?_
                rw [c1, e1]
                refine X_bipush (v := (-6)) dX12_knownOf_109 (by decide) ?_
                refine X_icmp_ne (tgt := 119) dX12_knownOf_111 (by decide) (fun b111 => ?_) (fun b111 => ?_)
                · exact absurd rfl b111
                refine X_iload dX12_knownOf_114 rfl ?_
                refine X_goto (tgt := 132) dX12_knownOf_116 (by decide) ?_
                refine X_iast dX12_knownOf_132 (by first | assumption | rfl) (by first | assumption | exact Nat.le_of_ble_eq_true rfl | omega) rfl (by first | decide | omega) (by decide) ?_
                first | refine X_iinc1 dX12_knownOf_133 rfl rfl rfl ?_ | refine X_iinc dX12_knownOf_133 rfl rfl rfl rfl ?_
                refine X_goto (tgt := 34) dX12_knownOf_136 (by decide) ?_
                refine weak (lv' := [(0, vr 170), (1, vi (nI v)), (2, vi (nI p)), (3, vi (nI (i + 1)))]) (fun q hq => List.mem_append_left _ hq) ?_
                refine ih (i + 1) _ (by omega) (by omega) (hF.tr (Fr.sr (by simp))) (fun r hr => ?_)
                rw [hst, if_neg (by omega), sr_eq]
                by_cases hrt : r = c i 0
                · rw [hrt, up_eq, up_eq]; rfl
                · rw [up_ne hrt, up_ne hrt]; exact hk r hr
              · exact absurd (by decide) b95
          · obtain ⟨n1, n2⟩ := enc_act e1
            rw [if_neg n1] at hst
            refine X_icmp_ne (tgt := 66) dX12_knownOf_59 (by decide) (fun b59 => ?_) (fun b59 => ?_)
            · refine X_aload_n dX12_knownOf_66 rfl ?_
              refine X_aload_n dX12_knownOf_67 rfl ?_
              refine X_getR dX12_knownOf_68 gf_X12_22 (by first | assumption | rfl) (by first | assumption | exact Nat.le_of_ble_eq_true rfl | omega) rfl (by first | assumption | rfl) ?_
              refine X_iload_n dX12_knownOf_71 rfl ?_
              first | refine X_iald dX12_knownOf_72 (by first | assumption | rfl) (by first | assumption | exact Nat.le_of_ble_eq_true rfl | omega) rfl (by first | decide | omega) (by decide) ?_ | refine X_ildA dX12_knownOf_72 rfl (by omega) ?_ | refine X_ildM dX12_knownOf_72 rfl (by omega) ?_ | refine X_sld dX12_knownOf_72 rfl (by omega) (by omega) ?_
              rw [c3]
              refine X_cVi dX12_knownOf_73 ck_X12_227 rfl rfl (by first | assumption | rfl) (by first | assumption | exact Nat.le_of_ble_eq_true rfl | omega) (by omega) (Nat.le_of_ble_eq_true rfl) (m_knownHere e3 hk ?_)
              have o3 := kop_ok (kn_ok c i) (c i 3)
              generalize kop (kn c i) (c i 3) = y at o3 hst
              refine X_istore dX12_knownOf_76 rfl rfl ?_
              refine X_aload_n dX12_knownOf_78 rfl ?_
              refine X_getR dX12_knownOf_79 gf_X12_34 (by first | assumption | rfl) (by first | assumption | exact Nat.le_of_ble_eq_true rfl | omega) rfl (by first | assumption | rfl) ?_
              refine X_aload_n dX12_knownOf_82 rfl ?_
              refine X_getR dX12_knownOf_83 gf_X12_13 (by first | assumption | rfl) (by first | assumption | exact Nat.le_of_ble_eq_true rfl | omega) rfl (by first | assumption | rfl) ?_
              refine X_iload_n dX12_knownOf_86 rfl ?_
              first | refine X_iald dX12_knownOf_87 (by first | assumption | rfl) (by first | assumption | exact Nat.le_of_ble_eq_true rfl | omega) rfl (by first | decide | omega) (by decide) ?_ | refine X_ildA dX12_knownOf_87 rfl (by omega) ?_ | refine X_ildM dX12_knownOf_87 rfl (by omega) ?_ | refine X_sld dX12_knownOf_87 rfl (by omega) (by omega) ?_
              rw [hc'.t hv hin]
              refine X_iload dX12_knownOf_88 rfl ?_
              refine X_if_lt (tgt := 98) dX12_knownOf_90 (by decide) (fun b90 => ?_) (fun b90 => ?_)
              · have hx := (kok_neg o2).mp b90
                refine X_bipush (v := (-6)) dX12_knownOf_98 (by decide) ?_
                refine X_goto (tgt := 132) dX12_knownOf_100 (by decide) ?_
                refine X_iast dX12_knownOf_132 (by first | assumption | rfl) (by first | assumption | exact Nat.le_of_ble_eq_true rfl | omega) rfl (by first | decide | omega) (by decide) ?_
                first | refine X_iinc1 dX12_knownOf_133 rfl rfl rfl ?_ | refine X_iinc dX12_knownOf_133 rfl rfl rfl rfl ?_
                refine X_goto (tgt := 34) dX12_knownOf_136 (by decide) ?_
                refine weak (lv' := [(0, vr 170), (1, vi (nI v)), (2, vi (nI p)), (3, vi (nI (i + 1)))]) (fun q hq => List.mem_append_left _ hq) ?_
                refine ih (i + 1) _ (by omega) (by omega) (hF.tr (Fr.sr (by simp))) (fun r hr => ?_)
                rw [hst, if_pos (Or.inl hx), sr_eq]
                by_cases hrt : r = c i 0
                · rw [hrt, up_eq, up_eq]; rfl
                · rw [up_ne hrt, up_ne hrt]; exact hk r hr
              · have hx : x ≠ 99 := fun q => b90 ((kok_neg o2).mpr q)
                refine X_iload dX12_knownOf_93 rfl ?_
                refine X_if_ge (tgt := 103) dX12_knownOf_95 (by decide) (fun b95 => ?_) (fun b95 => ?_)
                · have hy : y ≠ 99 := fun q => absurd ((kok_neg o3).mpr q) (Int32.not_lt.mpr b95)
                  refine X_aload_n dX12_knownOf_103 rfl ?_
                  refine X_getR dX12_knownOf_104 gf_X12_16 (by first | assumption | rfl) (by first | assumption | exact Nat.le_of_ble_eq_true rfl | omega) rfl (by first | assumption | rfl) ?_
                  refine X_iload_n dX12_knownOf_107 rfl ?_
                  first | refine X_iald dX12_knownOf_108 (by first | assumption | rfl) (by first | assumption | exact Nat.le_of_ble_eq_true rfl | omega) rfl (by first | decide | omega) (by decide) ?_ | refine X_ildA dX12_knownOf_108 rfl (by omega) ?_ | refine X_ildM dX12_knownOf_108 rfl (by omega) ?_ | refine X_sld dX12_knownOf_108 rfl (by omega) (by omega) ?_
                  rw [c1]
                  refine X_bipush (v := (-6)) dX12_knownOf_109 (by decide) ?_
                  refine X_icmp_ne (tgt := 119) dX12_knownOf_111 (by decide) (fun b111 => ?_) (fun b111 => ?_)
                  · refine X_aload_n dX12_knownOf_119 rfl ?_
                    refine X_getR dX12_knownOf_120 gf_X12_16 (by first | assumption | rfl) (by first | assumption | exact Nat.le_of_ble_eq_true rfl | omega) rfl (by first | assumption | rfl) ?_
                    refine X_iload_n dX12_knownOf_123 rfl ?_
                    first | refine X_iald dX12_knownOf_124 (by first | assumption | rfl) (by first | assumption | exact Nat.le_of_ble_eq_true rfl | omega) rfl (by first | decide | omega) (by decide) ?_ | refine X_ildA dX12_knownOf_124 rfl (by omega) ?_ | refine X_ildM dX12_knownOf_124 rfl (by omega) ?_ | refine X_sld dX12_knownOf_124 rfl (by omega) (by omega) ?_
                    rw [c1]
                    rcases kok_enc o2 with ⟨l2, l3⟩ | ⟨l2, _⟩
                    · rcases kok_enc o3 with ⟨m2, m3⟩ | ⟨m2, _⟩
                      · rw [l3, m3]
                        refine X_iload dX12_knownOf_125 rfl ?_
                        refine X_iload dX12_knownOf_127 rfl ?_
                        refine X_cSi dX12_knownOf_129 ck_X12_195 rfl rfl (by omega) (Nat.le_of_ble_eq_true rfl) (m_acted e1 l2 m2 ?_)
                        refine X_iast dX12_knownOf_132 (by first | assumption | rfl) (by first | assumption | exact Nat.le_of_ble_eq_true rfl | omega) rfl (by first | decide | omega) (by decide) ?_
                        first | refine X_iinc1 dX12_knownOf_133 rfl rfl rfl ?_ | refine X_iinc dX12_knownOf_133 rfl rfl rfl rfl ?_
                        refine X_goto (tgt := 34) dX12_knownOf_136 (by decide) ?_
                        refine weak (lv' := [(0, vr 170), (1, vi (nI v)), (2, vi (nI p)), (3, vi (nI (i + 1)))]) (fun q hq => List.mem_append_left _ hq) ?_
                        refine ih (i + 1) _ (by omega) (by omega) (hF.tr (Fr.sr (by simp))) (fun r hr => ?_)
                        rw [hst, if_neg (by omega), sr_eq]
                        by_cases hrt : r = c i 0
                        · rw [hrt, up_eq, up_eq, enc_n (by have := av_lt (a := c i 1) (y := y) l2; omega)]
                        · rw [up_ne hrt, up_ne hrt]; exact hk r hr
                      · exact absurd m2 hy
                    · exact absurd l2 hx
                  · exact absurd b111 n2
                · have hy := (kok_neg o3).mp (Int32.not_le.mp b95)
                  refine X_bipush (v := (-6)) dX12_knownOf_98 (by decide) ?_
                  refine X_goto (tgt := 132) dX12_knownOf_100 (by decide) ?_
                  refine X_iast dX12_knownOf_132 (by first | assumption | rfl) (by first | assumption | exact Nat.le_of_ble_eq_true rfl | omega) rfl (by first | decide | omega) (by decide) ?_
                  first | refine X_iinc1 dX12_knownOf_133 rfl rfl rfl ?_ | refine X_iinc dX12_knownOf_133 rfl rfl rfl rfl ?_
                  refine X_goto (tgt := 34) dX12_knownOf_136 (by decide) ?_
                  refine weak (lv' := [(0, vr 170), (1, vi (nI v)), (2, vi (nI p)), (3, vi (nI (i + 1)))]) (fun q hq => List.mem_append_left _ hq) ?_
                  refine ih (i + 1) _ (by omega) (by omega) (hF.tr (Fr.sr (by simp))) (fun r hr => ?_)
                  rw [hst, if_pos (Or.inr hy), sr_eq]
                  by_cases hrt : r = c i 0
                  · rw [hrt, up_eq, up_eq]; rfl
                  · rw [up_ne hrt, up_ne hrt]; exact hk r hr
            · exact absurd b59 n2
      have loop1 : ∀ (m i : Nat) (I' : Nat → Nat → Int32), m = 4 - i → i ≤ 4 → Fr [179] I I' → (∀ r, r < i → I' 179 r = -6) → X G d zX12_knownOf 13 [(0, vr 170), (1, vi (nI v)), (2, vi (nI p)), (3, vi (nI i))] [] (NC, I', J, layR sw) 0 0 (qi Q) := by
        intro m
        induction m with
        | zero =>
          intro i I' hm him hF hk
          obtain rfl : i = 4 := by omega
          refine X_iload_n dX12_knownOf_13 rfl ?_
          refine X_iconst (v := nI 4) dX12_knownOf_14 (by decide) ?_
          refine X_icmp_ge (tgt := 32) dX12_knownOf_15 (by decide) (fun b15 => ?_) (fun b15 => ?_)
          · refine X_iconst (v := nI 0) dX12_knownOf_32 (by decide) ?_
            refine X_istore_n dX12_knownOf_33 rfl rfl ?_
            exact loop2 p 0 I' rfl (Nat.zero_le p) hF hk
          · exact absurd (by decide) b15
        | succ m ih =>
          intro i I' hm him hF hk
          refine X_iload_n dX12_knownOf_13 rfl ?_
          refine X_iconst (v := nI 4) dX12_knownOf_14 (by decide) ?_
          refine X_icmp_ge (tgt := 32) dX12_knownOf_15 (by decide) (fun b15 => ?_) (fun b15 => ?_)
          · exact absurd ((nle (by omega) (by omega)).mp b15) (by omega)
          refine X_aload_n dX12_knownOf_18 rfl ?_
          refine X_getR dX12_knownOf_19 gf_X12_34 (by first | assumption | rfl) (by first | assumption | exact Nat.le_of_ble_eq_true rfl | omega) rfl (by first | assumption | rfl) ?_
          refine X_iload_n dX12_knownOf_22 rfl ?_
          refine X_bipush (v := (-6)) dX12_knownOf_23 (by decide) ?_
          refine X_iast dX12_knownOf_25 (by first | assumption | rfl) (by first | assumption | exact Nat.le_of_ble_eq_true rfl | omega) rfl (by first | decide | omega) (by decide) ?_
          first | refine X_iinc1 dX12_knownOf_26 rfl rfl rfl ?_ | refine X_iinc dX12_knownOf_26 rfl rfl rfl rfl ?_
          refine X_goto (tgt := 13) dX12_knownOf_29 (by decide) ?_
          refine ih (i + 1) _ (by omega) (by omega) (hF.tr (Fr.sr (by simp))) (fun r hr => ?_)
          rw [sr_eq]
          by_cases hri : r = i
          · rw [hri, up_eq]
          · rw [up_ne hri]; exact hk r (by omega)
      refine X_iconst (v := nI 0) dX12_knownOf_11 (by decide) ?_
      refine X_istore_n dX12_knownOf_12 rfl rfl ?_
      exact loop1 4 0 I rfl (by decide) Fr.rf (fun r h => absurd h (Nat.not_lt_zero r))
    · exact absurd ((nlt (by omega) (by omega)).mpr (by omega)) b
  · refine X_icmp_lt (tgt := 11) dX12_knownOf_3 (by decide) (fun b => ?_) (fun b => ?_)
    · exact absurd ((nlt (by omega) (by omega)).mp b) (by omega)
    · refine X_iload_n dX12_knownOf_6 rfl ?_
      refine X_bipush (v := nI 10) dX12_knownOf_7 (by decide) ?_
      first | refine X_isubN dX12_knownOf_9 (by omega) ?_ | refine X_isub dX12_knownOf_9 ?_
      have := hQ I Fr.rf
      rw [if_neg (by omega), if_pos hvv, enc_n (by omega)] at this
      exact X_iret dX12_knownOf_10 rfl ⟨_, rfl, this⟩
theorem M_known {x y : Int32} (hd : 4 ≤ d) (hv : VSt s) (hi : RInv I s) : Y G d zX12_known [vr 170, vi x, vi y] (NC, I, J, layR sw) 0 0 (qi (PM s (sp_known s x y) I J sw)) := by
  have hn := hv.2.1.1.1
  refine Y_of rfl rfl (Nat.le_of_ble_eq_true rfl) rfl ?_
  unfold sp_known
  rcases pcase hn x with h | ⟨a, ha, rfl⟩
  · rw [if_pos (Or.inl h)]
    refine X_aload_n dX12_known_0 rfl ?_
    refine X_iload_n dX12_known_1 rfl ?_
    refine X_cVi dX12_known_2 ck_X12_205 rfl rfl (by first | assumption | rfl) (by first | assumption | exact Nat.le_of_ble_eq_true rfl | omega) (by omega) (Nat.le_of_ble_eq_true rfl) (c_isPlace_f (by omega) hi.2.1.1 h ?_)
    refine X_if_eq (tgt := 24) dX12_known_5 (by decide) (fun b => ?_) (fun b => ?_)
    · refine X_iconst (v := (-1)) dX12_known_24 (by decide) ?_
      exact X_iret dX12_known_25 rfl ⟨_, rfl, PM_same hi⟩
    · exact absurd rfl b
  · refine X_aload_n dX12_known_0 rfl ?_
    refine X_iload_n dX12_known_1 rfl ?_
    refine X_cVi dX12_known_2 ck_X12_205 rfl rfl (by first | assumption | rfl) (by first | assumption | exact Nat.le_of_ble_eq_true rfl | omega) (by omega) (Nat.le_of_ble_eq_true rfl) (c_isPlace_t (by omega) hi.2.1.1 hn ha ?_)
    refine X_if_eq (tgt := 24) dX12_known_5 (by decide) (fun b => ?_) (fun b => ?_)
    · exact absurd b (by decide)
    refine X_iload_n dX12_known_8 rfl ?_
    rcases scase (n := 4) (by decide) y with h | ⟨t, ht, rfl⟩
    · rw [if_pos (Or.inr h)]
      refine X_cSi dX12_known_9 ck_X12_218 rfl rfl (by omega) (Nat.le_of_ble_eq_true rfl) (c_isReg_f (by omega) h ?_)
      refine X_if_eq (tgt := 24) dX12_known_12 (by decide) (fun b12 => ?_) (fun b12 => ?_)
      · refine X_iconst (v := (-1)) dX12_known_24 (by decide) ?_
        exact X_iret dX12_known_25 rfl ⟨_, rfl, PM_same hi⟩
      · exact absurd rfl b12
    · rw [if_neg (fun q => q.elim (pcase_n hn ha) (scase_n (by decide) ht)), nI_clamp (by omega), nI_clamp (by omega)]
      refine X_cSi dX12_known_9 ck_X12_218 rfl rfl (by omega) (Nat.le_of_ble_eq_true rfl) (c_isReg_t (by omega) ht ?_)
      refine X_if_eq (tgt := 24) dX12_known_12 (by decide) (fun b12 => ?_) (fun b12 => ?_)
      · exact absurd b12 (by decide)
      · rw [← enc_n (v := t) (by omega)]
        refine X_aload_n dX12_known_15 rfl ?_
        refine X_iload_n dX12_known_16 rfl ?_
        refine X_iload_n dX12_known_17 rfl ?_
        refine X_cVi dX12_known_18 ck_X12_230 rfl rfl (by first | assumption | rfl) (by first | assumption | exact Nat.le_of_ble_eq_true rfl | omega) (by omega) (Nat.le_of_ble_eq_true rfl) (m_knownOf (by omega) hi.2.1.rc hv.2.1.1 ha (Or.inl ht) (fun I' hF => ?_))
        refine X_goto (tgt := 25) dX12_known_21 (by decide) ?_
        rw [show kop (kn (dC s.2.1).2 a) t = kn (dC s.2.1).2 a t from if_pos ht]
        exact X_iret dX12_known_25 rfl ⟨_, rfl, PM_scr hi _ hF (by decide)⟩
end RK
