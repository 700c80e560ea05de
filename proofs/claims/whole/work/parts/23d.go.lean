/-! fits, replace, go: the class -/
theorem ffit_is {c : Nat → Nat → Nat} {n a : Nat} {R : CC × CC} (h : ffit c n R = some a) : a + R.1.1 ≤ n ∧ ∃ N, mat R.1.2 c a R.1.1 = some N := by
  have := (ffR_is n h).1
  unfold fitP at this
  rw [Bool.and_eq_true, decide_eq_true_iff] at this
  exact ⟨this.1, Option.isSome_iff_exists.mp this.2⟩
theorem frl_some {D : DD} {k a : Nat} (h0 : frl D k = none) (h1 : ffit (dC D).2 (dC D).1 (dR D k) = some a) : ∀ j, frl D (k + 1 + j) = some (k, a)
  | 0 => by
    show (match frl D k with | some p => some p | none => match ffit (dC D).2 (dC D).1 (dR D k) with | none => none | some a => some (k, a)) = _
    rw [h0, h1]
  | j + 1 => by
    show (match frl D (k + 1 + j) with | some p => some p | none => match ffit (dC D).2 (dC D).1 (dR D (k + 1 + j)) with | none => none | some a => some (k + 1 + j, a)) = _
    rw [frl_some h0 h1 j]
theorem frl_none {D : DD} {k : Nat} (h0 : frl D k = none) (h1 : ffit (dC D).2 (dC D).1 (dR D k) = none) : frl D (k + 1) = none := by
  show (match frl D k with | some p => some p | none => match ffit (dC D).2 (dC D).1 (dR D k) with | none => none | some a => some (k, a)) = _
  rw [h0, h1]
theorem frl_is {D : DD} {p : Nat × Nat} : ∀ n, frl D n = some p → p.1 < n ∧ ffit (dC D).2 (dC D).1 (dR D p.1) = some p.2 ∧ frl D p.1 = none
  | 0, h => absurd h (by simp [frl])
  | n + 1, h => by
    have e : frl D (n + 1) = (match frl D n with | some p => some p | none => match ffit (dC D).2 (dC D).1 (dR D n) with | none => none | some a => some (n, a)) := rfl
    rw [e] at h
    rcases q : frl D n with _ | z
    · rw [q] at h
      dsimp only at h
      rcases w : ffit (dC D).2 (dC D).1 (dR D n) with _ | a
      · rw [w] at h; exact absurd h (by simp)
      · rw [w] at h
        have := Option.some.inj h
        rw [← this]
        exact ⟨Nat.lt_succ_self n, w, q⟩
    · rw [q] at h
      have := frl_is n (q.trans h)
      exact ⟨by omega, this.2⟩
theorem rplD_some {D : DD} {R : CC × CC} {a : Nat} {N : Nat → Nat} (h : mat R.1.2 (dC D).2 a R.1.1 = some N) : rplD D R a = ((dC D).1 - R.1.1 + R.2.1, rpl (dC D).2 R.2.2 a R.1.1 R.2.1 (rsN R.2.2 R.2.1 N 4)) := by
  unfold rplD
  rw [h]
theorem rplD_v {D : DD} {k a : Nat} (hv : VD D) (hk : k < dN D) (hf : ffit (dC D).2 (dC D).1 (dR D k) = some a) (h12 : (dC D).1 - (dR D k).1.1 + (dR D k).2.1 ≤ 12) : VC (rplD D (dR D k) a).1 (rplD D (dR D k) a).2 := by
  obtain ⟨h1, N, h2⟩ := ffit_is hf
  rw [rplD_some h2]
  exact rpl_v (mat_v _ N h2) hv.1 (hv.2.2.2.2.2 k hk).2.2 h1 h12
theorem go1_v {s s' : SS} (hv : VSt s) (h : go1 s = some s') : VSt s' := by
  unfold go1 at h
  rcases q : frl s.2.1 (dN s.2.1) with _ | p
  · rw [q] at h; exact absurd h (by simp)
  · rw [q] at h
    dsimp only at h
    obtain ⟨p1, p2, p3⟩ := frl_is _ q
    by_cases z : 12 < (dC s.2.1).1 - (dR s.2.1 p.1).1.1 + (dR s.2.1 p.1).2.1
    · rw [if_pos z] at h; exact absurd h (by simp)
    · rw [if_neg z] at h
      rw [← Option.some.inj h]
      exact VSt_code hv (rplD_v hv.2.1 p1 p2 (by omega))
theorem goK_v : ∀ k (s : SS), VSt s → VSt (goK k s).2
  | 0, s, hv => hv
  | k + 1, s, hv => by
    show VSt (match go1 s with | none => (0, s) | some s' => ((goK k s').1 + 1, (goK k s').2) : Nat × SS).2
    rcases q : go1 s with _ | s'
    · exact hv
    · exact goK_v k s' (go1_v hv q)
theorem goK_le : ∀ k (s : SS), (goK k s).1 ≤ k
  | 0, s => Nat.le_refl 0
  | k + 1, s => by
    show (match go1 s with | none => (0, s) | some s' => ((goK k s').1 + 1, (goK k s').2) : Nat × SS).1 ≤ k + 1
    rcases q : go1 s with _ | s'
    · exact Nat.zero_le _
    · exact Nat.succ_le_succ (goK_le k s')
def FG (I I' : Nat → Nat → Int32) : Prop := ∀ k, keepC k → I' k = I k
section CH
variable {G : GG} {d : Nat} {sw : Bool} {I : Nat → Nat → Int32} {J : Nat → Nat → Int64} {s : SS}
theorem CInv_ru {I' : Nat → Nat → Int32} {C : CC} {a : Nat} (hi : CInv I s) (hv : VSt s) (hF : Fr [8, 9, 14 + 6 * a, 14 + 6 * a + 5, 167, 168] I I') (ha : a < 4) (hc : CR I' 8 C.1 C.2) : CInv I' (setC s C) := by
  have hh : ∀ j, j < 102 → j ≠ 8 → j ≠ 9 → j ≠ 14 + 6 * a → j ≠ 14 + 6 * a + 5 → I' j = I j := fun j h1 h2 h3 h4 h5 => hF j (by simp <;> omega)
  have hN := hv.2.1.2.2.2.2.1
  refine ⟨hi.1.fr (by rw [hh 1 (by omega) (by omega) (by omega) (by omega) (by omega)]) (hh 2 (by omega) (by omega) (by omega) (by omega) (by omega)), ?_, hi.2.2.fr hv (fun j a b => hh j (by omega) (by omega) (by omega) (by omega) (by omega))⟩
  obtain ⟨h1, h2, h3, h4, h5, h6⟩ := hi.2.1
  refine ⟨hc, h2.fr (by rw [hh (7 + 3) (by omega) (by omega) (by omega) (by omega) (by omega)]) (hh _ (by omega) (by omega) (by omega) (by omega) (by omega)), by rw [hh 7 (by omega) (by omega) (by omega) (by omega) (by omega)]; exact h3, fun j hj => by rw [hh (7 + 6) (by omega) (by omega) (by omega) (by omega) (by omega)]; exact h4 j hj, by rw [hh 7 (by omega) (by omega) (by omega) (by omega) (by omega)]; exact h5, fun j hj => ?_⟩
  have hj : j < dN s.2.1 := hj
  exact ⟨(h6 j hj).1.fr (by rw [hh _ (by omega) (by omega) (by omega) (by omega) (by omega)]) (hh _ (by omega) (by omega) (by omega) (by omega) (by omega)), (h6 j hj).2.fr (by rw [hh _ (by omega) (by omega) (by omega) (by omega) (by omega)]) (hh _ (by omega) (by omega) (by omega) (by omega) (by omega))⟩
theorem FG_ru {I' : Nat → Nat → Int32} {a : Nat} (hF : Fr [8, 9, 14 + 6 * a, 14 + 6 * a + 5, 167, 168] I I') (ha : a < 4) : FG I I' := fun k hk => hF k (by unfold keepC at hk; simp <;> omega)
theorem ru_fr {I' : Nat → Nat → Int32} {a : Nat} (hF : Fr [14 + 6 * a, 14 + 6 * a + 5] I I') : Fr [8, 9, 14 + 6 * a, 14 + 6 * a + 5, 167, 168] I I' := hF.sub (by simp)
theorem CInv_nm {I' : Nat → Nat → Int32} {a : Nat} (hi : CInv I s) (hv : VSt s) (hF : Fr [14 + 6 * a, 14 + 6 * a + 5] I I') (ha : a < 4) : CInv I' s :=
  CInv_ru (C := dC s.2.1) hi hv (ru_fr hF) ha (CR_fr hi.2.1.1 hF (by simp <;> omega) (by simp <;> omega))
theorem PC_FG {I' : Nat → Nat → Int32} {s' : SS} {x : Int32} (hi : CInv I' s') (h : FG I I') : PC s' x I J x (NC, I', J, layR sw) := ⟨rfl, I', J, sw, rfl, hi, h, fun _ _ => rfl⟩
theorem c_countAfter {Q : Int32 → Mm → Prop} {r n ln gn : Nat} {c l g : Nat → Nat → Nat} (hr : IsRu r) (hc : CR I 8 n c) (hl : CR I (r + 1) ln l) (hg : CR I (r + 3) gn g) (hle : ln ≤ n) (hQ : Q (nI (n - ln + gn)) (NC, I, J, layR sw)) : Y G d zX9_countAfter [vr r, vr 8] (NC, I, J, layR sw) 0 0 (qi Q) := by
  obtain ⟨u1, u2, u3, u4, u5, u6, u7, u8⟩ := hr
  have u2 := u2 sw
  have u3 := u3 sw
  have hr0 : r < NC := by omega
  have hr1 : r + 1 < NC := by omega
  have hr3 : r + 3 < NC := by omega
  have u51 := u5.1
  have u61 := u6.1
  refine Y_of rfl rfl (Nat.le_of_ble_eq_true rfl) rfl ?_
  refine X_aload_n dX9_countAfter_0 rfl ?_
  refine X_getI dX9_countAfter_1 gf_X9_29 (by first | assumption | rfl) (by first | assumption | exact Nat.le_of_ble_eq_true rfl | omega) rfl ?_
  rw [hc.1]
  refine X_aload_n dX9_countAfter_4 rfl ?_
  refine X_getR dX9_countAfter_5 gf_X9_12 (by first | assumption | rfl) (by first | assumption | exact Nat.le_of_ble_eq_true rfl | omega) rfl (by first | assumption | rfl) ?_
  refine X_getI dX9_countAfter_8 gf_X9_29 (by first | assumption | rfl) (by first | assumption | exact Nat.le_of_ble_eq_true rfl | omega) rfl ?_
  rw [hl.1]
  first | refine X_isubN dX9_countAfter_11 (by omega) ?_ | refine X_isub dX9_countAfter_11 ?_
  refine X_aload_n dX9_countAfter_12 rfl ?_
  refine X_getR dX9_countAfter_13 gf_X9_18 (by first | assumption | rfl) (by first | assumption | exact Nat.le_of_ble_eq_true rfl | omega) rfl (by first | assumption | rfl) ?_
  refine X_getI dX9_countAfter_16 gf_X9_29 (by first | assumption | rfl) (by first | assumption | exact Nat.le_of_ble_eq_true rfl | omega) rfl ?_
  rw [hg.1]
  first | refine X_iaddN dX9_countAfter_19 ?_ | refine X_iadd dX9_countAfter_19 ?_
  exact X_iret dX9_countAfter_20 rfl ⟨_, rfl, hQ⟩
set_option maxRecDepth 20000 in
theorem C_fits {x : Int32} (hd : 4 ≤ d) (hv : VSt s) (hi : CInv I s) : Y G d zX11_fits [vr 0, vi x] (NC, I, J, layR sw) 0 0 (qi (PC s (sp_fits s x) I J)) := by
  have hN := hv.2.1.2.2.2.2.1
  have h74 : I 7 4 = nI (dN s.2.1) := hi.2.1.2.2.2.2.1
  refine Y_of rfl rfl (Nat.le_of_ble_eq_true rfl) rfl ?_
  unfold sp_fits
  refine X_aload_n dX11_fits_0 rfl ?_
  refine X_iload_n dX11_fits_1 rfl ?_
  rcases rcase hN x with h | ⟨a, ha, rfl⟩
  · rw [if_pos h]
    refine X_cVi dX11_fits_2 ck_X11_253 rfl rfl (by first | assumption | rfl) (by first | assumption | exact Nat.le_of_ble_eq_true rfl | omega) (by omega) (Nat.le_of_ble_eq_true rfl) (c_isNoRule_t h74 h ?_)
    refine X_if_eq (tgt := 10) dX11_fits_5 (by decide) (fun b => ?_) (fun b => ?_)
    · exact absurd b (by decide)
    · refine X_iconst (v := (-1)) dX11_fits_8 (by decide) ?_
      exact X_iret dX11_fits_9 rfl ⟨_, rfl, PC_same hi⟩
  · rw [if_neg (scase_n (by omega) ha), nI_clamp (by omega)]
    have ha4 : a < 4 := by omega
    have u1 := (ru7 ha4).1
    have hl12 := lay12 (sw := sw) ha4
    have u9 : 14 + 6 * a < NC := by show 14 + 6 * a < 206; omega
    obtain ⟨hr1, hr2⟩ := hi.2.1.2.2.2.2.2 a ha
    obtain ⟨⟨v1, v2, v3⟩, v4, v5⟩ := hv.2.1.2.2.2.2.2 a ha
    refine X_cVi dX11_fits_2 ck_X11_253 rfl rfl (by first | assumption | rfl) (by first | assumption | exact Nat.le_of_ble_eq_true rfl | omega) (by omega) (Nat.le_of_ble_eq_true rfl) (c_isNoRule_f h74 hN ha ?_)
    refine X_if_eq (tgt := 10) dX11_fits_5 (by decide) (fun b => ?_) (fun b => ?_)
    · refine X_aload_n dX11_fits_10 rfl ?_
      refine X_getR dX11_fits_11 gf_X11_19 (by first | assumption | rfl) (by first | assumption | exact Nat.le_of_ble_eq_true rfl | omega) rfl (by first | assumption | rfl) ?_
      refine X_getR dX11_fits_14 gf_X11_240 (by first | assumption | rfl) (by first | assumption | exact Nat.le_of_ble_eq_true rfl | omega) rfl (by first | assumption | rfl) ?_
      refine X_iload_n dX11_fits_17 rfl ?_
      refine X_aald dX11_fits_18 (by first | assumption | rfl) (by decide) (by first | assumption | exact Nat.le_of_ble_eq_true rfl | omega) rfl (by first | decide | omega) (by decide) (by first | assumption | rfl) ?_
      refine X_aload_n dX11_fits_19 rfl ?_
      refine X_getR dX11_fits_20 gf_X11_19 (by first | assumption | rfl) (by first | assumption | exact Nat.le_of_ble_eq_true rfl | omega) rfl (by first | assumption | rfl) ?_
      refine X_getR dX11_fits_23 gf_X11_106 (by first | assumption | rfl) (by first | assumption | exact Nat.le_of_ble_eq_true rfl | omega) rfl (by first | assumption | rfl) ?_
      refine X_cVi dX11_fits_26 ck_X11_258 rfl rfl (by first | assumption | rfl) (by first | assumption | exact Nat.le_of_ble_eq_true rfl | omega) (by omega) (Nat.le_of_ble_eq_true rfl) (c_firstFit (R := dR s.2.1 a) (by omega) (ru7 ha4) (by omega) hi.2.1.1 hv.2.1.1 (show CR I (14 + 6 * a + 1) _ _ by rw [show 14 + 6 * a + 1 = 7 + 8 + 6 * a by omega]; exact hr1) v3 v1 (fun I' f => ?_))
      exact X_iret dX11_fits_29 rfl ⟨_, rfl, PC_FG (CInv_nm hi hv f ha4) (FG_ru (ru_fr f) ha4)⟩
    · exact absurd rfl b
set_option maxRecDepth 20000 in
set_option maxHeartbeats 1000000 in
theorem C_replace {x : Int32} (hd : 7 ≤ d) (hv : VSt s) (hi : CInv I s) : Y G d zX11_replace [vr 0, vi x] (NC, I, J, layR sw) 0 0 (qi (PC (sp_replace s x).2 (sp_replace s x).1 I J)) := by
  have hN := hv.2.1.2.2.2.2.1
  have h74 : I 7 4 = nI (dN s.2.1) := hi.2.1.2.2.2.2.1
  have hn := hv.2.1.1.1
  refine Y_of rfl rfl (Nat.le_of_ble_eq_true rfl) rfl ?_
  unfold sp_replace
  refine X_aload_n dX11_replace_0 rfl ?_
  refine X_iload_n dX11_replace_1 rfl ?_
  rcases rcase hN x with h | ⟨a, ha, rfl⟩
  · rw [if_pos h]
    refine X_cVi dX11_replace_2 ck_X11_253 rfl rfl (by first | assumption | rfl) (by first | assumption | exact Nat.le_of_ble_eq_true rfl | omega) (by omega) (Nat.le_of_ble_eq_true rfl) (c_isNoRule_t h74 h ?_)
    refine X_if_eq (tgt := 10) dX11_replace_5 (by decide) (fun b => ?_) (fun b => ?_)
    · exact absurd b (by decide)
    · refine X_iconst (v := (-1)) dX11_replace_8 (by decide) ?_
      exact X_iret dX11_replace_9 rfl ⟨_, rfl, PC_same hi⟩
  · rw [if_neg (scase_n (by omega) ha), nI_clamp (by omega)]
    have ha4 : a < 4 := by omega
    have u1 := (ru7 ha4).1
    have hl12 := lay12 (sw := sw) ha4
    have u9 : 14 + 6 * a < NC := by show 14 + 6 * a < 206; omega
    obtain ⟨hr1, hr2⟩ := hi.2.1.2.2.2.2.2 a ha
    obtain ⟨⟨v1, v2, v3⟩, v4, v5⟩ := hv.2.1.2.2.2.2.2 a ha
    have hr1 : CR I (14 + 6 * a + 1) (dR s.2.1 a).1.1 (dR s.2.1 a).1.2 := by rw [show 14 + 6 * a + 1 = 7 + 8 + 6 * a by omega]; exact hr1
    have hr2 : CR I (14 + 6 * a + 3) (dR s.2.1 a).2.1 (dR s.2.1 a).2.2 := by rw [show 14 + 6 * a + 3 = 7 + 10 + 6 * a by omega]; exact hr2
    refine X_cVi dX11_replace_2 ck_X11_253 rfl rfl (by first | assumption | rfl) (by first | assumption | exact Nat.le_of_ble_eq_true rfl | omega) (by omega) (Nat.le_of_ble_eq_true rfl) (c_isNoRule_f h74 hN ha ?_)
    refine X_if_eq (tgt := 10) dX11_replace_5 (by decide) (fun b => ?_) (fun b => ?_)
    · refine X_aload_n dX11_replace_10 rfl ?_
      refine X_getR dX11_replace_11 gf_X11_19 (by first | assumption | rfl) (by first | assumption | exact Nat.le_of_ble_eq_true rfl | omega) rfl (by first | assumption | rfl) ?_
      refine X_getR dX11_replace_14 gf_X11_240 (by first | assumption | rfl) (by first | assumption | exact Nat.le_of_ble_eq_true rfl | omega) rfl (by first | assumption | rfl) ?_
      refine X_iload_n dX11_replace_17 rfl ?_
      refine X_aald dX11_replace_18 (by first | assumption | rfl) (by decide) (by first | assumption | exact Nat.le_of_ble_eq_true rfl | omega) rfl (by first | decide | omega) (by decide) (by first | assumption | rfl) ?_
      refine X_astore_n dX11_replace_19 rfl rfl ?_
      refine X_aload_n dX11_replace_20 rfl ?_
      refine X_aload_n dX11_replace_21 rfl ?_
      refine X_getR dX11_replace_22 gf_X11_19 (by first | assumption | rfl) (by first | assumption | exact Nat.le_of_ble_eq_true rfl | omega) rfl (by first | assumption | rfl) ?_
      refine X_getR dX11_replace_25 gf_X11_106 (by first | assumption | rfl) (by first | assumption | exact Nat.le_of_ble_eq_true rfl | omega) rfl (by first | assumption | rfl) ?_
      refine X_cVi dX11_replace_28 ck_X11_258 rfl rfl (by first | assumption | rfl) (by first | assumption | exact Nat.le_of_ble_eq_true rfl | omega) (by omega) (Nat.le_of_ble_eq_true rfl) (c_firstFit (R := dR s.2.1 a) (by omega) (ru7 ha4) (by omega) hi.2.1.1 hv.2.1.1 hr1 v3 v1 (fun I1 f1 => ?_))
      have hi1 := CInv_nm hi hv f1 ha4
      have hc1 : CR I1 8 (dC s.2.1).1 (dC s.2.1).2 := hi1.2.1.1
      have hl1 := CR_fr hr1 f1 (by simp <;> omega) (by simp <;> omega)
      have hg1 := CR_fr hr2 f1 (by simp <;> omega) (by simp <;> omega)
      refine X_istore_n dX11_replace_31 rfl rfl ?_
      refine X_iload_n dX11_replace_32 rfl ?_
      refine X_bipush (v := (-6)) dX11_replace_33 (by decide) ?_
      rcases hf : ffit (dC s.2.1).2 (dC s.2.1).1 (dR s.2.1 a) with _ | p
      · rw [show fuI none = -6 from rfl]
        dsimp only
        refine X_icmp_ne (tgt := 41) dX11_replace_35 (by decide) (fun b35 => ?_) (fun b35 => ?_)
        · exact absurd rfl b35
        refine X_bipush (v := (-3)) dX11_replace_38 (by decide) ?_
        exact X_iret dX11_replace_40 rfl ⟨_, rfl, PC_FG hi1 (FG_ru (ru_fr f1) ha4)⟩
      · rw [show fuI (some p) = nI p from rfl]
        dsimp only
        obtain ⟨g1, N, g2⟩ := ffit_is hf
        have hp : p < 2 ^ 31 := by omega
        refine X_icmp_ne (tgt := 41) dX11_replace_35 (by decide) (fun b35 => ?_) (fun b35 => ?_)
        · refine X_aload_n dX11_replace_41 rfl ?_
          refine X_aload_n dX11_replace_42 rfl ?_
          refine X_getR dX11_replace_43 gf_X11_19 (by first | assumption | rfl) (by first | assumption | exact Nat.le_of_ble_eq_true rfl | omega) rfl (by first | assumption | rfl) ?_
          refine X_getR dX11_replace_46 gf_X11_106 (by first | assumption | rfl) (by first | assumption | exact Nat.le_of_ble_eq_true rfl | omega) rfl (by first | assumption | rfl) ?_
          refine X_cVi dX11_replace_49 ck_X11_262 rfl rfl (by first | assumption | rfl) (by first | assumption | exact Nat.le_of_ble_eq_true rfl | omega) (by omega) (Nat.le_of_ble_eq_true rfl) (c_countAfter (ru7 ha4) hc1 hl1 hg1 (by omega) ?_)
          refine X_bipush (v := nI 12) dX11_replace_52 (by decide) ?_
          by_cases h12 : 12 < (dC s.2.1).1 - (dR s.2.1 a).1.1 + (dR s.2.1 a).2.1
          · rw [if_pos h12]
            refine X_icmp_le (tgt := 60) dX11_replace_54 (by decide) (fun b54 => ?_) (fun b54 => ?_)
            · exact absurd ((nle (by omega) (by omega)).mp b54) (by omega)
            refine X_bipush (v := (-4)) dX11_replace_57 (by decide) ?_
            exact X_iret dX11_replace_59 rfl ⟨_, rfl, PC_FG hi1 (FG_ru (ru_fr f1) ha4)⟩
          · rw [if_neg h12]
            refine X_icmp_le (tgt := 60) dX11_replace_54 (by decide) (fun b54 => ?_) (fun b54 => ?_)
            · refine X_aload_n dX11_replace_60 rfl ?_
              refine X_aload_n dX11_replace_61 rfl ?_
              refine X_getR dX11_replace_62 gf_X11_19 (by first | assumption | rfl) (by first | assumption | exact Nat.le_of_ble_eq_true rfl | omega) rfl (by first | assumption | rfl) ?_
              refine X_getR dX11_replace_65 gf_X11_106 (by first | assumption | rfl) (by first | assumption | exact Nat.le_of_ble_eq_true rfl | omega) rfl (by first | assumption | rfl) ?_
              refine X_iload_n dX11_replace_68 rfl ?_
              refine X_aload_n dX11_replace_69 rfl ?_
              refine X_getR dX11_replace_70 gf_X11_86 (by first | assumption | rfl) (by first | assumption | exact Nat.le_of_ble_eq_true rfl | omega) rfl (by first | assumption | rfl) ?_
              refine X_cVv dX11_replace_73 ck_X11_265 rfl rfl (by first | assumption | rfl) (by first | assumption | exact Nat.le_of_ble_eq_true rfl | omega) (by omega) (Nat.le_of_ble_eq_true rfl) (c_replaceAt (by omega) (ru7 ha4) (by omega) (by omega) hc1 hv.2.1.1 hl1 v3 hg1 v5 g1 (by omega) g2 (fun I2 f2 hc2 => ?_))
              have hfr := (ru_fr f1).tr f2
              rw [rplD_some g2]
              dsimp only
              refine X_aload_n dX11_replace_76 rfl ?_
              refine X_getR dX11_replace_77 gf_X11_19 (by first | assumption | rfl) (by first | assumption | exact Nat.le_of_ble_eq_true rfl | omega) rfl (by first | assumption | rfl) ?_
              refine X_getR dX11_replace_80 gf_X11_106 (by first | assumption | rfl) (by first | assumption | exact Nat.le_of_ble_eq_true rfl | omega) rfl (by first | assumption | rfl) ?_
              refine X_getI dX11_replace_83 gf_X11_116 (by first | assumption | rfl) (by first | assumption | exact Nat.le_of_ble_eq_true rfl | omega) rfl ?_
              rw [hc2.1]
              exact X_iret dX11_replace_86 rfl ⟨_, rfl, PC_FG (CInv_ru (C := (_, _)) hi hv hfr ha4 hc2) (FG_ru hfr ha4)⟩
            · exact absurd ((nle (by omega) (by omega)).mpr (by omega)) b54
        · exact absurd (by rw [b35]; decide) (nneg (a := p) hp)
    · exact absurd rfl b
set_option maxRecDepth 20000 in
set_option maxHeartbeats 1000000 in
theorem c_replaceOnce {Q : Int32 → Mm → Prop} (hd : 7 ≤ d) (hv : VSt s) (hi : CInv I s) (hS : ∀ I' s', go1 s = some s' → FG I I' → CInv I' s' → Q (nI 1) (NC, I', J, layR sw)) (hF : ∀ I', go1 s = none → FG I I' → CInv I' s → Q (nI 0) (NC, I', J, layR sw)) : Y G d zX11_replaceOnce [vr 0] (NC, I, J, layR sw) 0 0 (qi Q) := by
  have hN := hv.2.1.2.2.2.2.1
  have hn := hv.2.1.1.1
  have loop : ∀ (m a : Nat) (I' : Nat → Nat → Int32), m = dN s.2.1 - a → a ≤ dN s.2.1 → FG I I' → CInv I' s → frl s.2.1 a = none → ∀ L2, X G d zX11_replaceOnce 2 ([(0, vr 0), (1, vi (nI a))] ++ L2) [] (NC, I', J, layR sw) 0 0 (qi Q) := by
    intro m
    induction m with
    | zero =>
      intro a I' hm ha hFG hi' h0 L2
      obtain rfl : a = dN s.2.1 := by omega
      refine weak (lv' := [(0, vr 0), (1, vi (nI (dN s.2.1)))]) (fun q hq => List.mem_append_left _ hq) ?_
      refine X_iload_n dX11_replaceOnce_2 rfl ?_
      refine X_aload_n dX11_replaceOnce_3 rfl ?_
      refine X_getR dX11_replaceOnce_4 gf_X11_19 (by first | assumption | rfl) (by first | assumption | exact Nat.le_of_ble_eq_true rfl | omega) rfl (by first | assumption | rfl) ?_
      refine X_getI dX11_replaceOnce_7 gf_X11_237 (by first | assumption | rfl) (by first | assumption | exact Nat.le_of_ble_eq_true rfl | omega) rfl ?_
      rw [hi'.2.1.2.2.2.2.1]
      refine X_icmp_ge (tgt := 83) dX11_replaceOnce_10 (by decide) (fun b => ?_) (fun b => ?_)
      · refine X_iconst (v := nI 0) dX11_replaceOnce_83 (by decide) ?_
        exact X_zret dX11_replaceOnce_84 rfl (by first | rfl | (simp; done) | decide) ⟨_, rfl, hF I' (by unfold go1; rw [h0]) hFG hi'⟩
      · exact absurd (Int32.le_refl _) b
    | succ m ih =>
      intro a I' hm ha hFG hi' h0 L2
      have haN : a < dN s.2.1 := by omega
      have ha4 : a < 4 := by omega
      have u1 := (ru7 ha4).1
      have hl12 := lay12 (sw := sw) ha4
      have u9 : 14 + 6 * a < NC := by show 14 + 6 * a < 206; omega
      obtain ⟨hr1, hr2⟩ := hi'.2.1.2.2.2.2.2 a haN
      obtain ⟨⟨v1, v2, v3⟩, v4, v5⟩ := hv.2.1.2.2.2.2.2 a haN
      have hr1 : CR I' (14 + 6 * a + 1) (dR s.2.1 a).1.1 (dR s.2.1 a).1.2 := by rw [show 14 + 6 * a + 1 = 7 + 8 + 6 * a by omega]; exact hr1
      have hr2 : CR I' (14 + 6 * a + 3) (dR s.2.1 a).2.1 (dR s.2.1 a).2.2 := by rw [show 14 + 6 * a + 3 = 7 + 10 + 6 * a by omega]; exact hr2
      refine weak (lv' := [(0, vr 0), (1, vi (nI a))]) (fun q hq => List.mem_append_left _ hq) ?_
      refine X_iload_n dX11_replaceOnce_2 rfl ?_
      refine X_aload_n dX11_replaceOnce_3 rfl ?_
      refine X_getR dX11_replaceOnce_4 gf_X11_19 (by first | assumption | rfl) (by first | assumption | exact Nat.le_of_ble_eq_true rfl | omega) rfl (by first | assumption | rfl) ?_
      refine X_getI dX11_replaceOnce_7 gf_X11_237 (by first | assumption | rfl) (by first | assumption | exact Nat.le_of_ble_eq_true rfl | omega) rfl ?_
      rw [hi'.2.1.2.2.2.2.1]
      refine X_icmp_ge (tgt := 83) dX11_replaceOnce_10 (by decide) (fun b => ?_) (fun b => ?_)
      · exact absurd ((nle (by omega) (by omega)).mp b) (by omega)
      refine X_aload_n dX11_replaceOnce_13 rfl ?_
      refine X_getR dX11_replaceOnce_14 gf_X11_19 (by first | assumption | rfl) (by first | assumption | exact Nat.le_of_ble_eq_true rfl | omega) rfl (by first | assumption | rfl) ?_
      refine X_getR dX11_replaceOnce_17 gf_X11_240 (by first | assumption | rfl) (by first | assumption | exact Nat.le_of_ble_eq_true rfl | omega) rfl (by first | assumption | rfl) ?_
      refine X_iload_n dX11_replaceOnce_20 rfl ?_
      refine X_aald dX11_replaceOnce_21 (by first | assumption | rfl) (by decide) (by first | assumption | exact Nat.le_of_ble_eq_true rfl | omega) rfl (by first | decide | omega) (by decide) (by first | assumption | rfl) ?_
      refine X_astore_n dX11_replaceOnce_22 rfl rfl ?_
      refine X_aload_n dX11_replaceOnce_23 rfl ?_
      refine X_aload_n dX11_replaceOnce_24 rfl ?_
      refine X_getR dX11_replaceOnce_25 gf_X11_19 (by first | assumption | rfl) (by first | assumption | exact Nat.le_of_ble_eq_true rfl | omega) rfl (by first | assumption | rfl) ?_
      refine X_getR dX11_replaceOnce_28 gf_X11_106 (by first | assumption | rfl) (by first | assumption | exact Nat.le_of_ble_eq_true rfl | omega) rfl (by first | assumption | rfl) ?_
      refine X_cVi dX11_replaceOnce_31 ck_X11_258 rfl rfl (by first | assumption | rfl) (by first | assumption | exact Nat.le_of_ble_eq_true rfl | omega) (by omega) (Nat.le_of_ble_eq_true rfl) (c_firstFit (R := dR s.2.1 a) (by omega) (ru7 ha4) (by omega) hi'.2.1.1 hv.2.1.1 hr1 v3 v1 (fun I1 f1 => ?_))
      have hi1 := CInv_nm hi' hv f1 ha4
      have hc1 : CR I1 8 (dC s.2.1).1 (dC s.2.1).2 := hi1.2.1.1
      have hl1 := CR_fr hr1 f1 (by simp <;> omega) (by simp <;> omega)
      have hg1 := CR_fr hr2 f1 (by simp <;> omega) (by simp <;> omega)
      have hFG1 : FG I I1 := fun k hk => (FG_ru (ru_fr f1) ha4 k hk).trans (hFG k hk)
      refine X_istore_n dX11_replaceOnce_34 rfl rfl ?_
      refine X_iload_n dX11_replaceOnce_35 rfl ?_
      refine X_bipush (v := (-6)) dX11_replaceOnce_36 (by decide) ?_
      rcases hf : ffit (dC s.2.1).2 (dC s.2.1).1 (dR s.2.1 a) with _ | p
      · rw [show fuI none = -6 from rfl]
        refine X_icmp_eq (tgt := 77) dX11_replaceOnce_38 (by decide) (fun b38 => ?_) (fun b38 => ?_)
        · first | refine X_iinc1 dX11_replaceOnce_77 rfl rfl rfl ?_ | refine X_iinc dX11_replaceOnce_77 rfl rfl rfl rfl ?_
          refine X_goto (tgt := 2) dX11_replaceOnce_80 (by decide) ?_
          exact ih (a + 1) I1 (by omega) (by omega) hFG1 hi1 (frl_none h0 hf) [(2, vr (14 + 6 * a)), (3, vi (-6))]
        · exact absurd rfl b38
      · rw [show fuI (some p) = nI p from rfl]
        obtain ⟨g1, N, g2⟩ := ffit_is hf
        have hp : p < 2 ^ 31 := by omega
        have hfr := frl_some h0 hf (dN s.2.1 - (a + 1))
        rw [show a + 1 + (dN s.2.1 - (a + 1)) = dN s.2.1 by omega] at hfr
        refine X_icmp_eq (tgt := 77) dX11_replaceOnce_38 (by decide) (fun b38 => ?_) (fun b38 => ?_)
        · exact absurd (by rw [b38]; decide) (nneg (a := p) hp)
        refine X_aload_n dX11_replaceOnce_41 rfl ?_
        refine X_aload_n dX11_replaceOnce_42 rfl ?_
        refine X_getR dX11_replaceOnce_43 gf_X11_19 (by first | assumption | rfl) (by first | assumption | exact Nat.le_of_ble_eq_true rfl | omega) rfl (by first | assumption | rfl) ?_
        refine X_getR dX11_replaceOnce_46 gf_X11_106 (by first | assumption | rfl) (by first | assumption | exact Nat.le_of_ble_eq_true rfl | omega) rfl (by first | assumption | rfl) ?_
        refine X_cVi dX11_replaceOnce_49 ck_X11_262 rfl rfl (by first | assumption | rfl) (by first | assumption | exact Nat.le_of_ble_eq_true rfl | omega) (by omega) (Nat.le_of_ble_eq_true rfl) (c_countAfter (ru7 ha4) hc1 hl1 hg1 (by omega) ?_)
        refine X_bipush (v := nI 12) dX11_replaceOnce_52 (by decide) ?_
        by_cases h12 : 12 < (dC s.2.1).1 - (dR s.2.1 a).1.1 + (dR s.2.1 a).2.1
        · have e : go1 s = none := by
            unfold go1
            rw [hfr]
            dsimp only
            rw [if_pos h12]
          refine X_icmp_le (tgt := 59) dX11_replaceOnce_54 (by decide) (fun b54 => ?_) (fun b54 => ?_)
          · exact absurd ((nle (by omega) (by omega)).mp b54) (by omega)
          refine X_iconst (v := nI 0) dX11_replaceOnce_57 (by decide) ?_
          exact X_zret dX11_replaceOnce_58 rfl (by first | rfl | (simp; done) | decide) ⟨_, rfl, hF I1 e hFG1 hi1⟩
        · have e : go1 s = some (setC s (rplD s.2.1 (dR s.2.1 a) p)) := by
            unfold go1
            rw [hfr]
            dsimp only
            rw [if_neg h12]
          refine X_icmp_le (tgt := 59) dX11_replaceOnce_54 (by decide) (fun b54 => ?_) (fun b54 => ?_)
          · refine X_aload_n dX11_replaceOnce_59 rfl ?_
            refine X_aload_n dX11_replaceOnce_60 rfl ?_
            refine X_getR dX11_replaceOnce_61 gf_X11_19 (by first | assumption | rfl) (by first | assumption | exact Nat.le_of_ble_eq_true rfl | omega) rfl (by first | assumption | rfl) ?_
            refine X_getR dX11_replaceOnce_64 gf_X11_106 (by first | assumption | rfl) (by first | assumption | exact Nat.le_of_ble_eq_true rfl | omega) rfl (by first | assumption | rfl) ?_
            refine X_iload_n dX11_replaceOnce_67 rfl ?_
            refine X_aload_n dX11_replaceOnce_68 rfl ?_
            refine X_getR dX11_replaceOnce_69 gf_X11_86 (by first | assumption | rfl) (by first | assumption | exact Nat.le_of_ble_eq_true rfl | omega) rfl (by first | assumption | rfl) ?_
            refine X_cVv dX11_replaceOnce_72 ck_X11_265 rfl rfl (by first | assumption | rfl) (by first | assumption | exact Nat.le_of_ble_eq_true rfl | omega) (by omega) (Nat.le_of_ble_eq_true rfl) (c_replaceAt (by omega) (ru7 ha4) (by omega) (by omega) hc1 hv.2.1.1 hl1 v3 hg1 v5 g1 (by omega) g2 (fun I2 f2 hc2 => ?_))
            rw [rplD_some g2] at e
            refine X_iconst (v := nI 1) dX11_replaceOnce_75 (by decide) ?_
            exact X_zret dX11_replaceOnce_76 rfl (by first | rfl | (simp; done) | decide) ⟨_, rfl, hS I2 _ e (fun k hk => (FG_ru f2 ha4 k hk).trans (hFG1 k hk)) (CInv_ru (C := (_, _)) hi1 hv f2 ha4 hc2)⟩
          · exact absurd ((nle (by omega) (by omega)).mpr (by omega)) b54
  refine Y_of rfl rfl (Nat.le_of_ble_eq_true rfl) rfl ?_
  refine X_iconst (v := nI 0) dX11_replaceOnce_0 (by decide) ?_
  refine X_istore_n dX11_replaceOnce_1 rfl rfl ?_
  exact loop (dN s.2.1) 0 I rfl (Nat.zero_le _) (fun _ _ => rfl) hi rfl []
set_option maxRecDepth 20000 in
theorem c_goK : ∀ (k t : Nat) (s' : SS) (I' : Nat → Nat → Int32), 8 ≤ d → t + k = 20 → VSt s' → CInv I' s' → FG I I' → X G d zX11_go 2 [(0, vr 0), (1, vi (nI t))] [] (NC, I', J, layR sw) 0 0 (qi (PC (goK k s').2 (nI (t + (goK k s').1)) I J)) := by
  intro k
  induction k with
  | zero =>
    intro t s' I' hd ht hv hi hf
    obtain rfl : t = 20 := by omega
    refine X_iload_n dX11_go_2 rfl ?_
    refine X_bipush (v := nI 20) dX11_go_3 (by decide) ?_
    refine X_icmp_ge (tgt := 23) dX11_go_5 (by decide) (fun b => ?_) (fun b => ?_)
    · refine X_bipush (v := nI 20) dX11_go_23 (by decide) ?_
      exact X_iret dX11_go_25 rfl ⟨_, rfl, PC_FG hi hf⟩
    · exact absurd (by decide) b
  | succ k ih =>
    intro t s' I' hd ht hv hi hf
    refine X_iload_n dX11_go_2 rfl ?_
    refine X_bipush (v := nI 20) dX11_go_3 (by decide) ?_
    refine X_icmp_ge (tgt := 23) dX11_go_5 (by decide) (fun b => ?_) (fun b => ?_)
    · exact absurd ((nle (by omega) (by omega)).mp b) (by omega)
    refine X_aload_n dX11_go_8 rfl ?_
    refine X_cVi dX11_go_9 ck_X11_269 rfl rfl (by first | assumption | rfl) (by first | assumption | exact Nat.le_of_ble_eq_true rfl | omega) (by omega) (Nat.le_of_ble_eq_true rfl) (c_replaceOnce (by omega) hv hi (fun I2 s2 e f2 hi2 => ?_) (fun I2 e f2 hi2 => ?_))
    · have eg : goK (k + 1) s' = ((goK k s2).1 + 1, (goK k s2).2) := by
        show (match go1 s' with | none => (0, s') | some s' => ((goK k s').1 + 1, (goK k s').2)) = _
        rw [e]
      rw [eg]
      refine X_if_ne (tgt := 17) dX11_go_12 (by decide) (fun b12 => ?_) (fun b12 => ?_)
      · first | refine X_iinc1 dX11_go_17 rfl rfl rfl ?_ | refine X_iinc dX11_go_17 rfl rfl rfl rfl ?_
        refine X_goto (tgt := 2) dX11_go_20 (by decide) ?_
        have := ih (t + 1) s2 I2 hd (by omega) (go1_v hv e) hi2 (fun k hk => (f2 k hk).trans (hf k hk))
        rw [show t + 1 + (goK k s2).1 = t + ((goK k s2).1 + 1) by omega] at this
        exact this
      · exact absurd b12 (by decide)
    · have eg : goK (k + 1) s' = (0, s') := by
        show (match go1 s' with | none => (0, s') | some s' => ((goK k s').1 + 1, (goK k s').2)) = _
        rw [e]
      rw [eg]
      refine X_if_ne (tgt := 17) dX11_go_12 (by decide) (fun b12 => ?_) (fun b12 => ?_)
      · exact absurd rfl b12
      refine X_iload_n dX11_go_15 rfl ?_
      exact X_iret dX11_go_16 rfl ⟨_, rfl, PC_FG hi2 (fun k hk => (f2 k hk).trans (hf k hk))⟩
theorem C_go (hd : 8 ≤ d) (hv : VSt s) (hi : CInv I s) : Y G d zX11_go [vr 0] (NC, I, J, layR sw) 0 0 (qi (PC (sp_go s).2 (sp_go s).1 I J)) := by
  refine Y_of rfl rfl (Nat.le_of_ble_eq_true rfl) rfl ?_
  refine X_iconst (v := nI 0) dX11_go_0 (by decide) ?_
  refine X_istore_n dX11_go_1 rfl rfl ?_
  have := c_goK (G := G) (sw := sw) (J := J) 20 0 s I hd rfl hv hi (fun _ _ => rfl)
  rw [Nat.zero_add] at this
  exact this
end CH
