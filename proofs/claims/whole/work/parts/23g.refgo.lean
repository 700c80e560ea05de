/-! replace, go: the reference -/
theorem frl_nn {D : DD} : ∀ n, (∀ j, j < n → ffit (dC D).2 (dC D).1 (dR D j) = none) → frl D n = none
  | 0, _ => rfl
  | n + 1, h => frl_none (frl_nn n (fun j hj => h j (by omega))) (h n (Nat.lt_succ_self n))
section RO
variable {G : GG} {d : Nat} {sw : Bool} {I : Nat → Nat → Int32} {J : Nat → Nat → Int64} {s : SS} {n : Nat} {c : Nat → Nat → Nat}
theorem m_hasRoom {Q : Int32 → Mm → Prop} {a : Nat} {R : CC × CC} (ha : a < 4) (hc : RC I n c) (hR : RRu I a R) (hn : n ≤ 12) (hl3 : R.1.1 ≤ 3) (hg3 : R.2.1 ≤ 3) (hle : R.1.1 ≤ n) (hQ : Q (nI (if 12 < n - R.1.1 + R.2.1 then 0 else 1)) (NC, I, J, layR sw)) : Y G d zX12_hasRoom [vr 170, vi (nI a)] (NC, I, J, layR sw) 0 0 (qi Q) := by
  have e1 : I 198 a = nI R.1.1 := hR.1
  have e2 : I 199 a = nI R.2.1 := hR.2.1
  refine Y_of rfl rfl (Nat.le_of_ble_eq_true rfl) rfl ?_
  refine X_aload_n dX12_hasRoom_0 rfl ?_
  refine X_getI dX12_hasRoom_1 gf_X12_181 (by first | assumption | rfl) (by first | assumption | exact Nat.le_of_ble_eq_true rfl | omega) rfl ?_
  rw [hc.1]
  refine X_aload_n dX12_hasRoom_4 rfl ?_
  refine X_getR dX12_hasRoom_5 gf_X12_95 (by first | assumption | rfl) (by first | assumption | exact Nat.le_of_ble_eq_true rfl | omega) rfl (by first | assumption | rfl) ?_
  refine X_iload_n dX12_hasRoom_8 rfl ?_
  first | refine X_iald dX12_hasRoom_9 (by first | assumption | rfl) (by first | assumption | exact Nat.le_of_ble_eq_true rfl | omega) rfl (by first | decide | omega) (by decide) ?_ | refine X_ildA dX12_hasRoom_9 rfl (by omega) ?_ | refine X_ildM dX12_hasRoom_9 rfl (by omega) ?_ | refine X_sld dX12_hasRoom_9 rfl (by omega) (by omega) ?_
  rw [e2]
  first | refine X_iaddN dX12_hasRoom_10 ?_ | refine X_iadd dX12_hasRoom_10 ?_
  refine X_aload_n dX12_hasRoom_11 rfl ?_
  refine X_getR dX12_hasRoom_12 gf_X12_92 (by first | assumption | rfl) (by first | assumption | exact Nat.le_of_ble_eq_true rfl | omega) rfl (by first | assumption | rfl) ?_
  refine X_iload_n dX12_hasRoom_15 rfl ?_
  first | refine X_iald dX12_hasRoom_16 (by first | assumption | rfl) (by first | assumption | exact Nat.le_of_ble_eq_true rfl | omega) rfl (by first | decide | omega) (by decide) ?_ | refine X_ildA dX12_hasRoom_16 rfl (by omega) ?_ | refine X_ildM dX12_hasRoom_16 rfl (by omega) ?_ | refine X_sld dX12_hasRoom_16 rfl (by omega) (by omega) ?_
  rw [e1]
  first | refine X_isubN dX12_hasRoom_17 (by omega) ?_ | refine X_isub dX12_hasRoom_17 ?_
  refine X_bipush (v := nI 12) dX12_hasRoom_18 (by decide) ?_
  refine X_icmp_gt (tgt := 27) dX12_hasRoom_20 (by decide) (fun b => ?_) (fun b => ?_)
  · have := (nlt (by omega) (by omega)).mp b
    rw [if_pos (by omega)] at hQ
    refine X_iconst (v := nI 0) dX12_hasRoom_27 (by decide) ?_
    exact X_zret dX12_hasRoom_28 rfl (by first | rfl | (simp; done) | decide) ⟨_, rfl, hQ⟩
  · have : ¬ 12 < n + R.2.1 - R.1.1 := fun q => b ((nlt (by omega) (by omega)).mpr q)
    rw [if_neg (by omega)] at hQ
    refine X_iconst (v := nI 1) dX12_hasRoom_23 (by decide) ?_
    refine X_goto (tgt := 28) dX12_hasRoom_24 (by decide) ?_
    exact X_zret dX12_hasRoom_28 rfl (by first | rfl | (simp; done) | decide) ⟨_, rfl, hQ⟩
set_option maxRecDepth 20000 in
theorem M_replace {x : Int32} (hd : 6 ≤ d) (hv : VSt s) (hi : RInv I s) : Y G d zX12_replace [vr 170, vi x] (NC, I, J, layR sw) 0 0 (qi (PM (sp_replace s x).2 (sp_replace s x).1 I J sw)) := by
  have hN := hv.2.1.2.2.2.2.1
  have h39 : I 170 39 = nI (dN s.2.1) := hi.2.1.2.2.2.2.2.2.2.1
  have hn := hv.2.1.1.1
  unfold sp_replace
  refine Y_of rfl rfl (Nat.le_of_ble_eq_true rfl) rfl ?_
  refine X_aload_n dX12_replace_0 rfl ?_
  refine X_iload_n dX12_replace_1 rfl ?_
  rcases rcase hN x with h | ⟨a, ha, rfl⟩
  · rw [if_pos h]
    refine X_cVi dX12_replace_2 ck_X12_359 rfl rfl (by first | assumption | rfl) (by first | assumption | exact Nat.le_of_ble_eq_true rfl | omega) (by omega) (Nat.le_of_ble_eq_true rfl) (c_isRule_f (by omega) h39 (by omega) h ?_)
    refine X_if_ne (tgt := 10) dX12_replace_5 (by decide) (fun b => ?_) (fun b => ?_)
    · exact absurd rfl b
    refine X_iconst (v := (-1)) dX12_replace_8 (by decide) ?_
    exact X_iret dX12_replace_9 rfl ⟨_, rfl, PM_same hi⟩
  · rw [if_neg (scase_n (by omega) ha), nI_clamp (by omega)]
    obtain ⟨⟨v1, v2, v3⟩, v4, v5⟩ := hv.2.1.2.2.2.2.2 a ha
    refine X_cVi dX12_replace_2 ck_X12_359 rfl rfl (by first | assumption | rfl) (by first | assumption | exact Nat.le_of_ble_eq_true rfl | omega) (by omega) (Nat.le_of_ble_eq_true rfl) (c_isRule_t (by omega) h39 (by omega) ha ?_)
    refine X_if_ne (tgt := 10) dX12_replace_5 (by decide) (fun b => ?_) (fun b => ?_)
    · refine X_aload_n dX12_replace_10 rfl ?_
      refine X_iload_n dX12_replace_11 rfl ?_
      refine X_cVi dX12_replace_12 ck_X12_374 rfl rfl (by first | assumption | rfl) (by first | assumption | exact Nat.le_of_ble_eq_true rfl | omega) (by omega) (Nat.le_of_ble_eq_true rfl) (m_placeOfRule (by omega) (by omega) hi.2.1.rc hv.2.1.1 (rd.ru hi ha) v3 v2 (fun I1 p N h1 h2 f1 R1 => ?_) (fun I1 h1 f1 => ?_))
      · have hi1 := RInv_fm hi f1 (by decide) (by decide)
        obtain ⟨g1, _⟩ := ffit_is h1
        rw [h1]
        dsimp only
        refine X_istore_n dX12_replace_15 rfl rfl ?_
        refine X_iload_n dX12_replace_16 rfl ?_
        refine X_if_ge (tgt := 23) dX12_replace_17 (by decide) (fun b17 => ?_) (fun b17 => ?_)
        · refine X_aload_n dX12_replace_23 rfl ?_
          refine X_iload_n dX12_replace_24 rfl ?_
          refine X_cVi dX12_replace_25 ck_X12_386 rfl rfl (by first | assumption | rfl) (by first | assumption | exact Nat.le_of_ble_eq_true rfl | omega) (by omega) (Nat.le_of_ble_eq_true rfl) (m_hasRoom (show a < 4 by omega) hi1.2.1.rc (rd.ru hi1 ha) hn v2 v4 (by omega) ?_)
          by_cases h12 : 12 < (dC s.2.1).1 - (dR s.2.1 a).1.1 + (dR s.2.1 a).2.1
          · rw [if_pos h12, if_pos h12]
            refine X_if_ne (tgt := 34) dX12_replace_28 (by decide) (fun b28 => ?_) (fun b28 => ?_)
            · exact absurd rfl b28
            refine X_bipush (v := (-4)) dX12_replace_31 (by decide) ?_
            exact X_iret dX12_replace_33 rfl ⟨_, rfl, PM_fm hi _ [] f1 (by decide) (by decide)⟩
          · rw [if_neg h12, if_neg h12]
            refine X_if_ne (tgt := 34) dX12_replace_28 (by decide) (fun b28 => ?_) (fun b28 => ?_)
            · refine X_aload_n dX12_replace_34 rfl ?_
              refine X_iload_n dX12_replace_35 rfl ?_
              refine X_iload_n dX12_replace_36 rfl ?_
              refine X_cVv dX12_replace_37 ck_X12_389 rfl rfl (by first | assumption | rfl) (by first | assumption | exact Nat.le_of_ble_eq_true rfl | omega) (by omega) (Nat.le_of_ble_eq_true rfl) (m_put (by omega) (show a < 4 by omega) hi1.2.1.rc hv.2.1.1 (rd.ru hi1 ha) v5 v2 v4 g1 (by omega) R1 (mat_v _ N h2) (fun I2 f2 hc2 => ?_))
              rw [rplD_some h2]
              dsimp only
              refine X_aload_n dX12_replace_40 rfl ?_
              refine X_getI dX12_replace_41 gf_X12_181 (by first | assumption | rfl) (by first | assumption | exact Nat.le_of_ble_eq_true rfl | omega) rfl ?_
              rw [hc2.1]
              have f3 : FrM [172, 173, 174, 175, 200] [9] I I2 := (f1.sub (by simp) (by simp)).tr f2
              exact X_iret dX12_replace_44 rfl ⟨_, rfl, PM_mk (RInv_code (C := (_, _)) hi f3 (by decide) (by decide) hc2) (f3.lo (by decide))⟩
            · exact absurd b28 (by decide)
        · exact absurd (nge0 (by omega)) b17
      · rw [h1]
        dsimp only
        refine X_istore_n dX12_replace_15 rfl rfl ?_
        refine X_iload_n dX12_replace_16 rfl ?_
        refine X_if_ge (tgt := 23) dX12_replace_17 (by decide) (fun b17 => ?_) (fun b17 => ?_)
        · exact absurd b17 (by decide)
        refine X_bipush (v := (-3)) dX12_replace_20 (by decide) ?_
        exact X_iret dX12_replace_22 rfl ⟨_, rfl, PM_fm hi _ [] f1 (by decide) (by decide)⟩
    · exact absurd b (by decide)
/-- which rule is found, from the r-th on -/
def fdP (D : DD) (r : Nat) (fd : Option Nat) : Prop := match fd with
  | none => ∀ j, r ≤ j → j < dN D → ffit (dC D).2 (dC D).1 (dR D j) = none
  | some k => r ≤ k ∧ k < dN D ∧ (∃ a, ffit (dC D).2 (dC D).1 (dR D k) = some a) ∧ ∀ j, r ≤ j → j < k → ffit (dC D).2 (dC D).1 (dR D j) = none
set_option maxRecDepth 20000 in
set_option maxHeartbeats 2000000 in
theorem m_goK (hd : 7 ≤ d) : ∀ (k t : Nat) (s' : SS) (I' : Nat → Nat → Int32), t + k = 20 → VSt s' → RInv I' s' → (∀ j, j < 170 → I' j = I j) → ∀ L2, X G d zX12_go 4 ([(0, vr 170), (1, vi (nI t)), (2, vi (nI 1))] ++ L2) [] (NC, I', J, layR sw) 0 0 (qi (PM (goK k s').2 (nI (t + (goK k s').1)) I J sw)) := by
  intro k
  induction k with
  | zero =>
    intro t s' I' ht hv hi hf L2
    obtain rfl : t = 20 := by omega
    refine weak (lv' := [(0, vr 170), (1, vi (nI 20)), (2, vi (nI 1))]) (fun q hq => List.mem_append_left _ hq) ?_
    refine X_iload_n dX12_go_4 rfl ?_
    refine X_if_eq (tgt := 90) dX12_go_5 (by decide) (fun b => ?_) (fun b => ?_)
    · exact absurd b (by decide)
    refine X_iload_n dX12_go_8 rfl ?_
    refine X_bipush (v := nI 20) dX12_go_9 (by decide) ?_
    refine X_icmp_ge (tgt := 90) dX12_go_11 (by decide) (fun b11 => ?_) (fun b11 => ?_)
    · refine X_iload_n dX12_go_90 rfl ?_
      exact X_iret dX12_go_91 rfl ⟨_, rfl, PM_mk hi hf⟩
    · exact absurd (by decide) b11
  | succ k ih =>
    intro t s' I' ht hv hi hf L2
    have hN := hv.2.1.2.2.2.2.1
    have hn := hv.2.1.1.1
    refine weak (lv' := [(0, vr 170), (1, vi (nI t)), (2, vi (nI 1))]) (fun q hq => List.mem_append_left _ hq) ?_
    refine X_iload_n dX12_go_4 rfl ?_
    refine X_if_eq (tgt := 90) dX12_go_5 (by decide) (fun b => ?_) (fun b => ?_)
    · exact absurd b (by decide)
    refine X_iload_n dX12_go_8 rfl ?_
    refine X_bipush (v := nI 20) dX12_go_9 (by decide) ?_
    refine X_icmp_ge (tgt := 90) dX12_go_11 (by decide) (fun b11 => ?_) (fun b11 => ?_)
    · exact absurd ((nle (by omega) (by omega)).mp b11) (by omega)
    have h39 : I' 170 39 = nI (dN s'.2.1) := hi.2.1.2.2.2.2.2.2.2.1
    -- no more
    have stop : ∀ (I2 : Nat → Nat → Int32) (x3 x4 : Int32), go1 s' = none → RInv I2 s' → (∀ j, j < 170 → I2 j = I j) → X G d zX12_go 68 [(0, vr 170), (1, vi (nI t)), (2, vi (nI 1)), (3, vi x3), (4, vi x4)] [] (NC, I2, J, layR sw) 0 0 (qi (PM (goK (k + 1) s').2 (nI (t + (goK (k + 1) s').1)) I J sw)) := by
      intro I2 x3 x4 e hi2 hf2
      have eg : goK (k + 1) s' = (0, s') := by
        show (match go1 s' with | none => (0, s') | some s' => ((goK k s').1 + 1, (goK k s').2)) = _
        rw [e]
      rw [eg]
      refine X_iconst (v := nI 0) dX12_go_68 (by decide) ?_
      refine X_istore_n dX12_go_69 rfl rfl ?_
      refine X_iload_n dX12_go_70 rfl ?_
      refine X_if_eq (tgt := 87) dX12_go_71 (by decide) (fun b71 => ?_) (fun b71 => ?_)
      · refine X_goto (tgt := 4) dX12_go_87 (by decide) ?_
        refine X_iload_n dX12_go_4 rfl ?_
        refine X_if_eq (tgt := 90) dX12_go_5 (by decide) (fun b5 => ?_) (fun b5 => ?_)
        · refine X_iload_n dX12_go_90 rfl ?_
          exact X_iret dX12_go_91 rfl ⟨_, rfl, PM_mk hi2 hf2⟩
        · exact absurd rfl b5
      · exact absurd rfl b71
    have fin : ∀ (I2 : Nat → Nat → Int32) (fd : Option Nat) (x4 : Int32), fdP s'.2.1 0 fd → FrM [200] [] I' I2 → X G d zX12_go 52 [(0, vr 170), (1, vi (nI t)), (2, vi (nI 1)), (3, vi (fuI fd)), (4, vi x4)] [] (NC, I2, J, layR sw) 0 0 (qi (PM (goK (k + 1) s').2 (nI (t + (goK (k + 1) s').1)) I J sw)) := by
      intro I2 fd x4 hfd f2
      have hi2 := RInv_fm hi f2 (by decide) (by decide)
      have hf2 : ∀ j, j < 170 → I2 j = I j := fun j hj => (f2.1 j (by omega) (by simp <;> omega)).trans (hf j hj)
      refine X_iload_n dX12_go_52 rfl ?_
      rcases fd with _ | a
      · rw [show fuI none = -6 from rfl]
        refine X_if_lt (tgt := 68) dX12_go_53 (by decide) (fun b53 => ?_) (fun b53 => ?_)
        · exact stop I2 (-6) x4 (by unfold go1; rw [frl_nn _ (fun j hj => hfd j (Nat.zero_le j) hj)]) hi2 hf2
        · exact absurd (by decide) b53
      · rw [show fuI (some a) = nI a from rfl]
        obtain ⟨_, haN, ⟨p, hp⟩, h0⟩ := hfd
        have ha4 : a < 4 := by omega
        obtain ⟨⟨v1, v2, v3⟩, v4, v5⟩ := hv.2.1.2.2.2.2.2 a haN
        obtain ⟨g1, _⟩ := ffit_is hp
        have hfr := frl_some (frl_nn a (fun j hj => h0 j (Nat.zero_le j) hj)) hp (dN s'.2.1 - (a + 1))
        rw [show a + 1 + (dN s'.2.1 - (a + 1)) = dN s'.2.1 by omega] at hfr
        refine X_if_lt (tgt := 68) dX12_go_53 (by decide) (fun b53 => ?_) (fun b53 => ?_)
        · exact absurd b53 (nneg (by omega))
        refine X_aload_n dX12_go_56 rfl ?_
        refine X_iload_n dX12_go_57 rfl ?_
        refine X_cVi dX12_go_58 ck_X12_386 rfl rfl (by first | assumption | rfl) (by first | assumption | exact Nat.le_of_ble_eq_true rfl | omega) (by omega) (Nat.le_of_ble_eq_true rfl) (m_hasRoom ha4 hi2.2.1.rc (rd.ru hi2 haN) hn v2 v4 (by omega) ?_)
        by_cases h12 : 12 < (dC s'.2.1).1 - (dR s'.2.1 a).1.1 + (dR s'.2.1 a).2.1
        · rw [if_pos h12]
          refine X_if_eq (tgt := 68) dX12_go_61 (by decide) (fun b61 => ?_) (fun b61 => ?_)
          · exact stop I2 (nI a) x4 (by unfold go1; rw [hfr]; dsimp only; rw [if_pos h12]) hi2 hf2
          · exact absurd rfl b61
        · rw [if_neg h12]
          have e : go1 s' = some (setC s' (rplD s'.2.1 (dR s'.2.1 a) p)) := by
            unfold go1
            rw [hfr]
            dsimp only
            rw [if_neg h12]
          have eg : goK (k + 1) s' = ((goK k (setC s' (rplD s'.2.1 (dR s'.2.1 a) p))).1 + 1, (goK k (setC s' (rplD s'.2.1 (dR s'.2.1 a) p))).2) := by
            show (match go1 s' with | none => (0, s') | some s' => ((goK k s').1 + 1, (goK k s').2)) = _
            rw [e]
          rw [eg]
          refine X_if_eq (tgt := 68) dX12_go_61 (by decide) (fun b61 => ?_) (fun b61 => ?_)
          · exact absurd b61 (by decide)
          refine X_iconst (v := nI 1) dX12_go_64 (by decide) ?_
          refine X_goto (tgt := 69) dX12_go_65 (by decide) ?_
          refine X_istore_n dX12_go_69 rfl rfl ?_
          refine X_iload_n dX12_go_70 rfl ?_
          refine X_if_eq (tgt := 87) dX12_go_71 (by decide) (fun b71 => ?_) (fun b71 => ?_)
          · exact absurd b71 (by decide)
          refine X_aload_n dX12_go_74 rfl ?_
          refine X_iload_n dX12_go_75 rfl ?_
          refine X_aload_n dX12_go_76 rfl ?_
          refine X_iload_n dX12_go_77 rfl ?_
          refine X_cVi dX12_go_78 ck_X12_374 rfl rfl (by first | assumption | rfl) (by first | assumption | exact Nat.le_of_ble_eq_true rfl | omega) (by omega) (Nat.le_of_ble_eq_true rfl) (m_placeOfRule (by omega) ha4 hi2.2.1.rc hv.2.1.1 (rd.ru hi2 haN) v3 v2 (fun I3 p3 N h1 h2 f3 R3 => ?_) (fun I3 h1 f3 => ?_))
          · rw [hp] at h1
            obtain rfl := Option.some.inj h1
            have hi3 := RInv_fm hi2 f3 (by decide) (by decide)
            refine X_cVv dX12_go_81 ck_X12_389 rfl rfl (by first | assumption | rfl) (by first | assumption | exact Nat.le_of_ble_eq_true rfl | omega) (by omega) (Nat.le_of_ble_eq_true rfl) (m_put (by omega) ha4 hi3.2.1.rc hv.2.1.1 (rd.ru hi3 haN) v5 v2 v4 g1 (by omega) R3 (mat_v _ N h2) (fun I4 f4 hc4 => ?_))
            have f5 : FrM [172, 173, 174, 175, 200] [9] I' I4 := ((f2.sub (by simp) (by simp)).tr (f3.sub (by simp) (by simp))).tr f4
            have hi4 : RInv I4 (setC s' (rplD s'.2.1 (dR s'.2.1 a) p)) := RInv_code hi f5 (by decide) (by decide) (by rw [rplD_some h2]; exact hc4)
            first | refine X_iinc1 dX12_go_84 rfl rfl rfl ?_ | refine X_iinc dX12_go_84 rfl rfl rfl rfl ?_
            refine X_goto (tgt := 4) dX12_go_87 (by decide) ?_
            have := ih (t + 1) _ I4 (by omega) (go1_v hv e) hi4 (fun j hj => (f5.lo (by decide) j hj).trans (hf j hj)) [(3, vi (nI a)), (4, vi x4)]
            rw [show t + 1 + (goK k (setC s' (rplD s'.2.1 (dR s'.2.1 a) p))).1 = t + ((goK k (setC s' (rplD s'.2.1 (dR s'.2.1 a) p))).1 + 1) by omega] at this
            exact this
          · rw [hp] at h1
            exact absurd h1 (by simp)
    have scan : ∀ (r : Nat) (I2 : Nat → Nat → Int32) (fd : Option Nat), r ≤ dN s'.2.1 → fdP s'.2.1 r fd → FrM [200] [] I' I2 → X G d zX12_go 25 [(0, vr 170), (1, vi (nI t)), (2, vi (nI 1)), (3, vi (fuI fd)), (4, vi (nI r + Int32.ofInt (-1)))] [] (NC, I2, J, layR sw) 0 0 (qi (PM (goK (k + 1) s').2 (nI (t + (goK (k + 1) s').1)) I J sw)) := by
      intro r
      induction r with
      | zero =>
        intro I2 fd hr hfd f2
        refine X_iload dX12_go_25 rfl ?_
        refine X_if_lt (tgt := 52) dX12_go_27 (by decide) (fun b27 => ?_) (fun b27 => ?_)
        · exact fin I2 fd _ hfd f2
        · exact absurd pm_0 b27
      | succ r ih2 =>
        intro I2 fd hr hfd f2
        have hrN : r < dN s'.2.1 := by omega
        have hi2 := RInv_fm hi f2 (by decide) (by decide)
        obtain ⟨⟨v1, v2, v3⟩, v4, v5⟩ := hv.2.1.2.2.2.2.2 r hrN
        rw [pm_s]
        refine X_iload dX12_go_25 rfl ?_
        refine X_if_lt (tgt := 52) dX12_go_27 (by decide) (fun b27 => ?_) (fun b27 => ?_)
        · exact absurd b27 (nneg (by omega))
        refine X_aload_n dX12_go_30 rfl ?_
        refine X_iload dX12_go_31 rfl ?_
        refine X_cVi dX12_go_33 ck_X12_374 rfl rfl (by first | assumption | rfl) (by first | assumption | exact Nat.le_of_ble_eq_true rfl | omega) (by omega) (Nat.le_of_ble_eq_true rfl) (m_placeOfRule (by omega) (show r < 4 by omega) hi2.2.1.rc hv.2.1.1 (rd.ru hi2 hrN) v3 v2 (fun I3 p3 N h1 h2 f3 R3 => ?_) (fun I3 h1 f3 => ?_))
        · obtain ⟨g1, _⟩ := ffit_is h1
          refine X_if_lt (tgt := 44) dX12_go_36 (by decide) (fun b36 => ?_) (fun b36 => ?_)
          · exact absurd b36 (nneg (by omega))
          refine X_iload dX12_go_39 rfl ?_
          refine X_goto (tgt := 45) dX12_go_41 (by decide) ?_
          refine X_istore_n dX12_go_45 rfl rfl ?_
          first | refine X_iincd dX12_go_46 rfl (by omega) rfl rfl ?_ | refine X_iinc dX12_go_46 rfl rfl rfl rfl ?_
          refine X_goto (tgt := 25) dX12_go_49 (by decide) ?_
          exact ih2 I3 (some r) (by omega) ⟨Nat.le_refl r, hrN, ⟨p3, h1⟩, fun j z1 z2 => absurd z2 (by omega)⟩ (f2.tr f3)
        · refine X_if_lt (tgt := 44) dX12_go_36 (by decide) (fun b36 => ?_) (fun b36 => ?_)
          · refine X_iload_n dX12_go_44 rfl ?_
            refine X_istore_n dX12_go_45 rfl rfl ?_
            first | refine X_iincd dX12_go_46 rfl (by omega) rfl rfl ?_ | refine X_iinc dX12_go_46 rfl rfl rfl rfl ?_
            refine X_goto (tgt := 25) dX12_go_49 (by decide) ?_
            refine ih2 I3 fd (by omega) ?_ (f2.tr f3)
            rcases fd with _ | a
            · intro j z1 z2
              by_cases z : j = r
              · rw [z]; exact h1
              · exact hfd j (by omega) z2
            · obtain ⟨a1, a2, a3, a4⟩ := hfd
              refine ⟨by omega, a2, a3, fun j z1 z2 => ?_⟩
              by_cases z : j = r
              · rw [z]; exact h1
              · exact a4 j (by omega) z2
          · exact absurd (by decide) b36
    refine X_bipush (v := (-6)) dX12_go_14 (by decide) ?_
    refine X_istore_n dX12_go_16 rfl rfl ?_
    refine X_aload_n dX12_go_17 rfl ?_
    refine X_getI dX12_go_18 gf_X12_348 (by first | assumption | rfl) (by first | assumption | exact Nat.le_of_ble_eq_true rfl | omega) rfl ?_
    rw [h39]
    refine X_iconst (v := nI 1) dX12_go_21 (by decide) ?_
    refine X_isub dX12_go_22 ?_
    rw [sub_pm]
    refine X_istore dX12_go_23 rfl rfl ?_
    exact scan (dN s'.2.1) I' none (Nat.le_refl _) (fun j z1 z2 => absurd z2 (by omega)) FrM.rf
theorem M_go (hd : 7 ≤ d) (hv : VSt s) (hi : RInv I s) : Y G d zX12_go [vr 170] (NC, I, J, layR sw) 0 0 (qi (PM (sp_go s).2 (sp_go s).1 I J sw)) := by
  refine Y_of rfl rfl (Nat.le_of_ble_eq_true rfl) rfl ?_
  refine X_iconst (v := nI 0) dX12_go_0 (by decide) ?_
  refine X_istore_n dX12_go_1 rfl rfl ?_
  refine X_iconst (v := nI 1) dX12_go_2 (by decide) ?_
  refine X_istore_n dX12_go_3 rfl rfl ?_
  have := m_goK (G := G) (sw := sw) (J := J) (I := I) hd 20 0 s I rfl hv hi (fun _ _ => rfl) []
  rw [Nat.zero_add] at this
  exact this
end RO
