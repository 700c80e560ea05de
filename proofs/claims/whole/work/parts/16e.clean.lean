/-! clean: mend till nothing changes -/
def rdc (W : Nat) (C : CC) : Nat → Nat × CC
  | 0 => (0, C)
  | k + 1 => ((rdc W C k).1 + (mdC W (rdc W C k).2 (k + 1)).1, (mdC W (rdc W C k).2 (k + 1)).2)
def cln (W : Nat) : Nat → CC → CC
  | 0, C => C
  | f + 1, C => if (rdc W C 4).1 = 0 then (rdc W C 4).2 else cln W f (rdc W C 4).2
def smm (f : Nat → Nat) : Nat → Nat
  | 0 => 0
  | i + 1 => smm f i + f i
theorem smm_cg {f g : Nat → Nat} : ∀ n, (∀ i, i < n → f i = g i) → smm f n = smm g n
  | 0, _ => rfl
  | n + 1, h => by
    show smm f n + f n = smm g n + g n
    rw [smm_cg n (fun i hi => h i (by omega)), h n (Nat.lt_succ_self n)]
def wt (s : Nat → Nat) : Nat := 5 + (if s 1 = 99 then 0 else 3) + (if s 2 < 4 then 1 else 0) + (if s 3 < 4 then 1 else 0)
theorem wt_le (s : Nat → Nat) : wt s ≤ 10 := by
  unfold wt
  split <;> split <;> split <;> omega
def mu (C : CC) : Nat := smm (fun i => wt (C.2 i)) C.1
theorem smm_le {f : Nat → Nat} {b : Nat} : ∀ n, (∀ i, f i ≤ b) → smm f n ≤ n * b
  | 0, _ => by rw [Nat.zero_mul]; exact Nat.le_refl 0
  | n + 1, h => by
    have := smm_le n h
    have := h n
    show smm f n + f n ≤ (n + 1) * b
    rw [Nat.succ_mul]
    omega
theorem smm_cnt {f g : Nat → Nat} {p : Nat → Bool} : ∀ n, (∀ i, i < n → f i + (if p i = true then 1 else 0) ≤ g i) → smm f n + cnt p n ≤ smm g n
  | 0, _ => Nat.le_refl 0
  | n + 1, h => by
    have h1 := smm_cnt n (fun i hi => h i (by omega))
    have h2 := h n (Nat.lt_succ_self n)
    show smm f n + f n + cnt p (n + 1) ≤ smm g n + g n
    by_cases hp : p n = true
    · rw [cnt_t hp]; rw [if_pos hp] at h2; omega
    · rw [cnt_f hp]; rw [if_neg hp] at h2; omega
theorem mu_dro (p : Nat → Bool) (c : Nat → Nat → Nat) : ∀ n, mu (dro p c n) + cnt p n ≤ smm (fun i => wt (c i)) n
  | 0 => Nat.le_refl 0
  | n + 1 => by
    have ih := mu_dro p c n
    show _ ≤ smm (fun i => wt (c i)) n + wt (c n)
    have h5 : 5 ≤ wt (c n) := by unfold wt; omega
    by_cases hp : p n = true
    · rw [cnt_t hp, dro_t hp]; omega
    · rw [cnt_f hp, dro_f hp]
      unfold mu at ih ⊢
      show smm (fun i => wt (ext (dro p c n).1 (dro p c n).2 (c n) i)) (dro p c n).1 + wt (ext (dro p c n).1 (dro p c n).2 (c n) (dro p c n).1) + cnt p n ≤ _
      rw [smm_cg (g := fun i => wt ((dro p c n).2 i)) _ (fun i hi => by unfold ext; rw [if_neg (by omega)]), show ext (dro p c n).1 (dro p c n).2 (c n) (dro p c n).1 = c n from if_pos rfl]
      omega
theorem mu_mdC {C : CC} {W : Nat} (hv : VC C.1 C.2) (k : Nat) : mu (mdC W C k).2 + (mdC W C k).1 ≤ mu C := by
  unfold mdC
  by_cases h1 : k = 1
  · rw [if_pos h1]
    refine smm_cnt _ (fun i hi => ?_)
    obtain ⟨v0, v2, v3⟩ := hv.2 i hi
    show wt (md1 C.2 i) + _ ≤ wt (C.2 i)
    unfold wt
    rw [show md1 C.2 i 1 = C.2 i 1 from rfl, show md1 C.2 i 2 = kas (kn C.2 i) (C.2 i 2) from rfl, show md1 C.2 i 3 = kas (kn C.2 i) (C.2 i 3) from rfl]
    have hp : mp1 C.2 i = true ↔ ((C.2 i 2 < 4 ∧ kn C.2 i (C.2 i 2) ≠ 99) ∨ (C.2 i 3 < 4 ∧ kn C.2 i (C.2 i 3) ≠ 99)) := by unfold mp1; exact decide_eq_true_iff
    unfold kas
    by_cases h2 : C.2 i 2 < 4 ∧ kn C.2 i (C.2 i 2) ≠ 99
    · rw [if_pos h2, if_pos (hp.mpr (Or.inl h2)), if_neg (show ¬ 10 + kn C.2 i (C.2 i 2) < 4 by omega), if_pos h2.1]
      by_cases h3 : C.2 i 3 < 4 ∧ kn C.2 i (C.2 i 3) ≠ 99
      · rw [if_pos h3, if_neg (show ¬ 10 + kn C.2 i (C.2 i 3) < 4 by omega)]; omega
      · rw [if_neg h3]; omega
    · rw [if_neg h2]
      by_cases h3 : C.2 i 3 < 4 ∧ kn C.2 i (C.2 i 3) ≠ 99
      · rw [if_pos h3, if_pos (hp.mpr (Or.inr h3)), if_neg (show ¬ 10 + kn C.2 i (C.2 i 3) < 4 by omega), if_pos h3.1]; omega
      · rw [if_neg h3, if_neg (fun q => (hp.mp q).elim h2 h3)]; omega
  · rw [if_neg h1]
    by_cases h2 : k = 2
    · rw [if_pos h2]
      refine smm_cnt _ (fun i hi => ?_)
      show wt (md2 C.2 i) + _ ≤ wt (C.2 i)
      by_cases hp : mp2 C.2 i = true
      · have q : C.2 i 1 ≠ 99 ∧ 10 ≤ C.2 i 2 ∧ 10 ≤ C.2 i 3 := by simpa [mp2] using hp
        have e : wt (md2 C.2 i) ≤ 5 := by
          have e1 : md2 C.2 i 1 = 99 := if_pos hp
          have e2 : md2 C.2 i 2 = 10 + av (C.2 i 1) (C.2 i 2 - 10) (C.2 i 3 - 10) := if_pos hp
          have e3 : md2 C.2 i 3 = 99 := if_pos hp
          unfold wt
          rw [e1, e2, e3, if_pos rfl, if_neg (by omega), if_neg (by decide)]
          omega
        have e2 : 8 ≤ wt (C.2 i) := by unfold wt; rw [if_neg q.1]; omega
        rw [if_pos hp]; omega
      · rw [if_neg hp, show md2 C.2 i = C.2 i from funext (fun w => if_neg hp)]; omega
    · rw [if_neg h2]
      by_cases h3 : k = 3
      · rw [if_pos h3]
        refine smm_cnt _ (fun i hi => ?_)
        show wt (md3 C.2 i) + _ ≤ wt (C.2 i)
        by_cases hp : mp3 C.2 i = true
        · have q : C.2 i 1 ≠ 99 ∧ hld C.2 i < 4 := by simpa [mp3] using hp
          have e : wt (md3 C.2 i) ≤ 6 := by
            have e1 : md3 C.2 i 1 = 99 := if_pos hp
            have e2 : md3 C.2 i 2 = hld C.2 i := if_pos hp
            have e3 : md3 C.2 i 3 = 99 := if_pos hp
            unfold wt
            rw [e1, e2, e3, if_pos rfl, if_pos q.2, if_neg (by decide)]
            omega
          have e2 : 8 ≤ wt (C.2 i) := by unfold wt; rw [if_neg q.1]; omega
          rw [if_pos hp]; omega
        · rw [if_neg hp, show md3 C.2 i = C.2 i from funext (fun w => if_neg hp)]; omega
      · rw [if_neg h3]
        have h4 := mu_dro (mp4 W C.1 C.2) C.2 C.1
        have h5 := dro_cnt (mp4 W C.1 C.2) C.2 C.1
        show mu (dro (mp4 W C.1 C.2) C.2 C.1) + (C.1 - (dro (mp4 W C.1 C.2) C.2 C.1).1) ≤ smm (fun i => wt (C.2 i)) C.1
        omega
theorem VC_rdc {C : CC} {W : Nat} (hv : VC C.1 C.2) : ∀ k, VC (rdc W C k).2.1 (rdc W C k).2.2
  | 0 => hv
  | k + 1 => VS_mdC (VC_rdc hv k) (k + 1)
theorem mu_rdc {C : CC} {W : Nat} (hv : VC C.1 C.2) : ∀ k, mu (rdc W C k).2 + (rdc W C k).1 ≤ mu C
  | 0 => Nat.le_refl _
  | k + 1 => by
    have h1 := mu_rdc (W := W) hv k
    have h2 := mu_mdC (W := W) (VC_rdc (W := W) hv k) (k + 1)
    show mu (mdC W (rdc W C k).2 (k + 1)).2 + ((rdc W C k).1 + (mdC W (rdc W C k).2 (k + 1)).1) ≤ mu C
    omega
theorem VC_cln {W : Nat} : ∀ f (C : CC), VC C.1 C.2 → VC (cln W f C).1 (cln W f C).2
  | 0, C, hv => hv
  | f + 1, C, hv => by
    unfold cln
    by_cases h : (rdc W C 4).1 = 0
    · rw [if_pos h]; exact VC_rdc hv 4
    · rw [if_neg h]; exact VC_cln f _ (VC_rdc hv 4)
theorem mu_le {C : CC} (hv : VC C.1 C.2) : mu C ≤ 120 := by
  have := smm_le C.1 (fun i => wt_le (C.2 i))
  have := hv.1
  unfold mu
  omega
def sp_clean (s : SS) : Int32 × SS := (nI (cln (dW s.2.1) 1000 (dC s.2.1)).1, setC s (cln (dW s.2.1) 1000 (dC s.2.1)))
section CM
variable {G : GG} {d : Nat} {sw : Bool} {I : Nat → Nat → Int32} {J : Nat → Nat → Int64} {s : SS} {n W : Nat} {c : Nat → Nat → Nat}
set_option maxRecDepth 20000 in
theorem c_mendAll {Q : Mm → Prop} {C : CC} {F : Nat} (hFe : F = 1000) (hd : 6 ≤ d) (hc : CR I 8 C.1 C.2) (hv : VC C.1 C.2) (hW : W < 16) (hQ : ∀ I', Fr [8, 9, 112, 113, 114, 115, 116, 117, 118, 119, 120] I I' → CR I' 8 (cln W F C).1 (cln W F C).2 → Q (NC, I', J, layR sw)) : Y G d zX6_mendAll [vr 111, vr 8, vi (nI W)] (NC, I, J, layR sw) 0 0 (qv Q) := by
  have inner : ∀ (D : CC) (r : Nat), VC D.1 D.2 → r < 1000 → (∀ I', Fr [8, 9, 112, 113, 114, 115, 116, 117, 118, 119, 120] I I' → CR I' 8 (rdc W D 4).2.1 (rdc W D 4).2.2 → X G d zX6_mendAll 5 [(0, vr 111), (1, vr 8), (2, vi (nI W)), (3, vi (nI (rdc W D 4).1)), (4, vi (nI (r + 1)))] [] (NC, I', J, layR sw) 0 0 (qv Q)) → ∀ (m k : Nat) (I' : Nat → Nat → Int32), m = 4 - k → k ≤ 4 → Fr [8, 9, 112, 113, 114, 115, 116, 117, 118, 119, 120] I I' → CR I' 8 (rdc W D k).2.1 (rdc W D k).2.2 → X G d zX6_mendAll 22 [(0, vr 111), (1, vr 8), (2, vi (nI W)), (3, vi (nI (rdc W D k).1)), (4, vi (nI r)), (5, vi (nI (k + 1)))] [] (NC, I', J, layR sw) 0 0 (qv Q) := by
    intro D r hD hr go m
    induction m with
    | zero =>
      intro k I' hm hk hF hc'
      obtain rfl : k = 4 := by omega
      refine X_iload dX6_mendAll_22 rfl ?_
      refine X_iconst (v := nI 4) dX6_mendAll_24 (by decide) ?_
      refine X_icmp_gt (tgt := 45) dX6_mendAll_25 (by decide) (fun b => ?_) (fun b => ?_)
      · first | refine X_iinc1 dX6_mendAll_45 rfl rfl rfl ?_ | refine X_iinc dX6_mendAll_45 rfl rfl rfl rfl ?_
        refine X_goto (tgt := 5) dX6_mendAll_48 (by decide) ?_
        refine weak (lv' := [(0, vr 111), (1, vr 8), (2, vi (nI W)), (3, vi (nI (rdc W D 4).1)), (4, vi (nI (r + 1)))]) (fun q hq => List.mem_append_left _ hq) ?_
        exact go I' hF hc'
      · exact absurd (by decide) b
    | succ m ih =>
      intro k I' hm hk hF hc'
      refine X_iload dX6_mendAll_22 rfl ?_
      refine X_iconst (v := nI 4) dX6_mendAll_24 (by decide) ?_
      refine X_icmp_gt (tgt := 45) dX6_mendAll_25 (by decide) (fun b => ?_) (fun b => ?_)
      · exact absurd ((nlt (by omega) (by omega)).mp b) (by omega)
      refine X_iload_n dX6_mendAll_28 rfl ?_
      refine X_aload_n dX6_mendAll_29 rfl ?_
      refine X_iload dX6_mendAll_30 rfl ?_
      refine X_aload_n dX6_mendAll_32 rfl ?_
      refine X_iload_n dX6_mendAll_33 rfl ?_
      refine X_cVi dX6_mendAll_34 ck_X6_32 rfl rfl (by first | assumption | rfl) (by first | assumption | exact Nat.le_of_ble_eq_true rfl | omega) (by omega) (Nat.le_of_ble_eq_true rfl) (c_mendOnce (by omega) hc' (VC_rdc hD k) hW (by omega) (by omega) (fun I2 f2 hc2 => ?_))
      first | refine X_iaddN dX6_mendAll_37 ?_ | refine X_iadd dX6_mendAll_37 ?_
      refine X_istore_n dX6_mendAll_38 rfl rfl ?_
      first | refine X_iinc1 dX6_mendAll_39 rfl rfl rfl ?_ | refine X_iinc dX6_mendAll_39 rfl rfl rfl rfl ?_
      refine X_goto (tgt := 22) dX6_mendAll_42 (by decide) ?_
      exact ih (k + 1) I2 (by omega) (by omega) (hF.tr f2) hc2
  have loop : ∀ (f r ch : Nat) (D : CC) (I' : Nat → Nat → Int32), f = 1000 - r → r ≤ 1000 → ch ≤ 1000 → VC D.1 D.2 → cln W F C = (if ch = 0 then D else cln W f D) → Fr [8, 9, 112, 113, 114, 115, 116, 117, 118, 119, 120] I I' → CR I' 8 D.1 D.2 → X G d zX6_mendAll 5 [(0, vr 111), (1, vr 8), (2, vi (nI W)), (3, vi (nI ch)), (4, vi (nI r))] [] (NC, I', J, layR sw) 0 0 (qv Q) := by
    intro f
    induction f with
    | zero =>
      intro r ch D I' hf hr hch hD he hF hc'
      obtain rfl : r = 1000 := by omega
      have he : cln W F C = D := by
        rw [he]; split <;> rfl
      refine X_iload dX6_mendAll_5 rfl ?_
      refine X_sipush (v := nI 1000) dX6_mendAll_7 (by decide) ?_
      refine X_icmp_ge (tgt := 51) dX6_mendAll_10 (by decide) (fun b => ?_) (fun b => ?_)
      · exact X_vret dX6_mendAll_51 rfl ⟨rfl, hQ I' hF (by rw [he]; exact hc')⟩
      · exact absurd (by decide) b
    | succ f ih =>
      intro r ch D I' hf hr hch hD he hF hc'
      refine X_iload dX6_mendAll_5 rfl ?_
      refine X_sipush (v := nI 1000) dX6_mendAll_7 (by decide) ?_
      refine X_icmp_ge (tgt := 51) dX6_mendAll_10 (by decide) (fun b => ?_) (fun b => ?_)
      · exact absurd ((nle (by omega) (by omega)).mp b) (by omega)
      refine X_iload_n dX6_mendAll_13 rfl ?_
      by_cases h0 : ch = 0
      · rw [if_pos h0] at he
        refine X_if_le (tgt := 51) dX6_mendAll_14 (by decide) (fun b14 => ?_) (fun b14 => ?_)
        · exact X_vret dX6_mendAll_51 rfl ⟨rfl, hQ I' hF (by rw [he]; exact hc')⟩
        · exact absurd (by rw [h0]; decide) b14
      · rw [if_neg h0] at he
        refine X_if_le (tgt := 51) dX6_mendAll_14 (by decide) (fun b14 => ?_) (fun b14 => ?_)
        · exact absurd b14 (nI_nle (by omega) (by omega))
        refine X_iconst (v := nI 0) dX6_mendAll_17 (by decide) ?_
        refine X_istore_n dX6_mendAll_18 rfl rfl ?_
        refine X_iconst (v := nI 1) dX6_mendAll_19 (by decide) ?_
        refine X_istore dX6_mendAll_20 rfl rfl ?_
        refine inner D r hD (by omega) (fun I2 f2 hc2 => ?_) 4 0 I' rfl (by decide) hF hc'
        have hm := mu_rdc (W := W) hD 4
        have hm2 := mu_le hD
        exact ih (r + 1) _ _ I2 (by omega) (by omega) (by omega) (VC_rdc hD 4) (by rw [he]; rfl) f2 hc2
  refine Y_of rfl rfl (Nat.le_of_ble_eq_true rfl) rfl ?_
  refine X_iconst (v := nI 1) dX6_mendAll_0 (by decide) ?_
  refine X_istore_n dX6_mendAll_1 rfl rfl ?_
  refine X_iconst (v := nI 0) dX6_mendAll_2 (by decide) ?_
  refine X_istore dX6_mendAll_3 rfl rfl ?_
  exact loop F 0 1 C I (by omega) (by decide) (by decide) hv (if_neg (by decide)).symm Fr.rf hc
set_option maxRecDepth 20000 in
theorem C_clean (hd : 7 ≤ d) (hv : VSt s) (hi : CInv I s) : Y G d zX11_clean [vr 0] (NC, I, J, layR sw) 0 0 (qi (PC (sp_clean s).2 (sp_clean s).1 I J)) := by
  have hW := hv.2.1.2.2.1.2
  unfold sp_clean
  obtain ⟨F, hFe⟩ : ∃ F, F = 1000 := ⟨_, rfl⟩
  rw [← hFe]
  refine Y_of rfl rfl (Nat.le_of_ble_eq_true rfl) rfl ?_
  refine X_aload_n dX11_clean_0 rfl ?_
  refine X_getR dX11_clean_1 gf_X11_41 (by first | assumption | rfl) (by first | assumption | exact Nat.le_of_ble_eq_true rfl | omega) rfl (by first | assumption | rfl) ?_
  refine X_aload_n dX11_clean_4 rfl ?_
  refine X_getR dX11_clean_5 gf_X11_19 (by first | assumption | rfl) (by first | assumption | exact Nat.le_of_ble_eq_true rfl | omega) rfl (by first | assumption | rfl) ?_
  refine X_getR dX11_clean_8 gf_X11_106 (by first | assumption | rfl) (by first | assumption | exact Nat.le_of_ble_eq_true rfl | omega) rfl (by first | assumption | rfl) ?_
  refine X_aload_n dX11_clean_11 rfl ?_
  refine X_getR dX11_clean_12 gf_X11_19 (by first | assumption | rfl) (by first | assumption | exact Nat.le_of_ble_eq_true rfl | omega) rfl (by first | assumption | rfl) ?_
  refine X_getI dX11_clean_15 gf_X11_120 (by first | assumption | rfl) (by first | assumption | exact Nat.le_of_ble_eq_true rfl | omega) rfl ?_
  rw [hi.2.1.2.2.1]
  refine X_cVv dX11_clean_18 ck_X11_181 rfl rfl (by first | assumption | rfl) (by first | assumption | exact Nat.le_of_ble_eq_true rfl | omega) (by omega) (Nat.le_of_ble_eq_true rfl) (c_mendAll hFe (by omega) hi.2.1.1 hv.2.1.1 (by omega) (fun I' hF hc' => ?_))
  refine X_aload_n dX11_clean_21 rfl ?_
  refine X_getR dX11_clean_22 gf_X11_19 (by first | assumption | rfl) (by first | assumption | exact Nat.le_of_ble_eq_true rfl | omega) rfl (by first | assumption | rfl) ?_
  refine X_getR dX11_clean_25 gf_X11_106 (by first | assumption | rfl) (by first | assumption | exact Nat.le_of_ble_eq_true rfl | omega) rfl (by first | assumption | rfl) ?_
  refine X_getI dX11_clean_28 gf_X11_116 (by first | assumption | rfl) (by first | assumption | exact Nat.le_of_ble_eq_true rfl | omega) rfl ?_
  rw [hc'.1]
  exact X_iret dX11_clean_31 rfl ⟨_, rfl, PC_mk (CInv_code hi hv hF (by decide) hc') _ hF (by decide)⟩
set_option maxRecDepth 20000 in
theorem M_clean (hd : 7 ≤ d) (hv : VSt s) (hi : RInv I s) : Y G d zX12_clean [vr 170] (NC, I, J, layR sw) 0 0 (qi (PM (sp_clean s).2 (sp_clean s).1 I J sw)) := by
  have hW := hv.2.1.2.2.1.2
  obtain ⟨W, hWe⟩ : ∃ W, W = dW s.2.1 := ⟨_, rfl⟩
  obtain ⟨C, hCe⟩ : ∃ C, C = dC s.2.1 := ⟨_, rfl⟩
  have hvC : VC C.1 C.2 := by rw [hCe]; exact hv.2.1.1
  have hw : I 170 12 = nI W := by rw [hWe]; exact hi.2.1.2.2.2.2.1
  obtain ⟨F, hFe⟩ : ∃ F, F = 1000 := ⟨_, rfl⟩
  unfold sp_clean
  rw [← hWe, ← hCe, ← hFe]
  have inner : ∀ (D : CC), VC D.1 D.2 → (∀ I', FrM [172, 173, 174, 175, 179, 180, 181, 182, 183, 184, 185, 186, 187, 188] [9, 23, 24] I I' → RC I' (rdc W D 4).2.1 (rdc W D 4).2.2 → X G d zX12_clean 2 [(0, vr 170), (1, vi (nI (rdc W D 4).1))] [] (NC, I', J, layR sw) 0 0 (qi (PM (setC s (cln W F C)) (nI (cln W F C).1) I J sw))) → ∀ (m k : Nat) (I' : Nat → Nat → Int32), m = 4 - k → k ≤ 4 → FrM [172, 173, 174, 175, 179, 180, 181, 182, 183, 184, 185, 186, 187, 188] [9, 23, 24] I I' → RC I' (rdc W D k).2.1 (rdc W D k).2.2 → X G d zX12_clean 10 [(0, vr 170), (1, vi (nI (rdc W D k).1)), (2, vi (nI (k + 1)))] [] (NC, I', J, layR sw) 0 0 (qi (PM (setC s (cln W F C)) (nI (cln W F C).1) I J sw)) := by
    intro D hD go m
    induction m with
    | zero =>
      intro k I' hm hk hF hc'
      obtain rfl : k = 4 := by omega
      refine X_iload_n dX12_clean_10 rfl ?_
      refine X_iconst (v := nI 4) dX12_clean_11 (by decide) ?_
      refine X_icmp_gt (tgt := 29) dX12_clean_12 (by decide) (fun b => ?_) (fun b => ?_)
      · refine X_goto (tgt := 2) dX12_clean_29 (by decide) ?_
        refine weak (lv' := [(0, vr 170), (1, vi (nI (rdc W D 4).1))]) (fun q hq => List.mem_append_left _ hq) ?_
        exact go I' hF hc'
      · exact absurd (by decide) b
    | succ m ih =>
      intro k I' hm hk hF hc'
      refine X_iload_n dX12_clean_10 rfl ?_
      refine X_iconst (v := nI 4) dX12_clean_11 (by decide) ?_
      refine X_icmp_gt (tgt := 29) dX12_clean_12 (by decide) (fun b => ?_) (fun b => ?_)
      · exact absurd ((nlt (by omega) (by omega)).mp b) (by omega)
      refine X_iload_n dX12_clean_15 rfl ?_
      refine X_aload_n dX12_clean_16 rfl ?_
      refine X_iload_n dX12_clean_17 rfl ?_
      refine X_cVi dX12_clean_18 ck_X12_279 rfl rfl (by first | assumption | rfl) (by first | assumption | exact Nat.le_of_ble_eq_true rfl | omega) (by omega) (Nat.le_of_ble_eq_true rfl) (m_mendBy (by omega) hc' (VC_rdc hD k) (by rw [hF.2 12 (by decide)]; exact hw) (by omega) (by omega) (by omega) (fun I2 f2 hc2 => ?_))
      first | refine X_iaddN dX12_clean_21 ?_ | refine X_iadd dX12_clean_21 ?_
      refine X_istore_n dX12_clean_22 rfl rfl ?_
      first | refine X_iinc1 dX12_clean_23 rfl rfl rfl ?_ | refine X_iinc dX12_clean_23 rfl rfl rfl rfl ?_
      refine X_goto (tgt := 10) dX12_clean_26 (by decide) ?_
      exact ih (k + 1) I2 (by omega) (by omega) (hF.tr f2) hc2
  have loop : ∀ (f ch : Nat) (D : CC) (I' : Nat → Nat → Int32), ch ≤ 1000 → mu D < f → VC D.1 D.2 → cln W F C = (if ch = 0 then D else cln W f D) → FrM [172, 173, 174, 175, 179, 180, 181, 182, 183, 184, 185, 186, 187, 188] [9, 23, 24] I I' → RC I' D.1 D.2 → X G d zX12_clean 2 [(0, vr 170), (1, vi (nI ch))] [] (NC, I', J, layR sw) 0 0 (qi (PM (setC s (cln W F C)) (nI (cln W F C).1) I J sw)) := by
    intro f
    induction f with
    | zero =>
      intro ch D I' hch hmu
      omega
    | succ f ih =>
      intro ch D I' hch hmu hD he hF hc'
      have fin : cln W F C = D → X G d zX12_clean 32 [(0, vr 170), (1, vi (nI ch))] [] (NC, I', J, layR sw) 0 0 (qi (PM (setC s (cln W F C)) (nI (cln W F C).1) I J sw)) := by
        intro e
        rw [e]
        refine X_aload_n dX12_clean_32 rfl ?_
        refine X_getI dX12_clean_33 gf_X12_181 (by first | assumption | rfl) (by first | assumption | exact Nat.le_of_ble_eq_true rfl | omega) rfl ?_
        rw [hc'.1]
        exact X_iret dX12_clean_36 rfl ⟨_, rfl, PM_mk (RInv_code hi hF (by decide) (by decide) hc') (hF.lo (by decide))⟩
      refine X_iload_n dX12_clean_2 rfl ?_
      by_cases h0 : ch = 0
      · rw [if_pos h0] at he
        refine X_if_le (tgt := 32) dX12_clean_3 (by decide) (fun b3 => ?_) (fun b3 => ?_)
        · exact fin he
        · exact absurd (by rw [h0]; decide) b3
      · rw [if_neg h0] at he
        refine X_if_le (tgt := 32) dX12_clean_3 (by decide) (fun b3 => ?_) (fun b3 => ?_)
        · exact absurd b3 (nI_nle (by omega) (by omega))
        refine X_iconst (v := nI 0) dX12_clean_6 (by decide) ?_
        refine X_istore_n dX12_clean_7 rfl rfl ?_
        refine X_iconst (v := nI 1) dX12_clean_8 (by decide) ?_
        refine X_istore_n dX12_clean_9 rfl rfl ?_
        refine inner D hD (fun I2 f2 hc2 => ?_) 4 0 I' rfl (by decide) hF hc'
        have hm := mu_rdc (W := W) hD 4
        have hm2 := mu_le hD
        by_cases hz : (rdc W D 4).1 = 0
        · have he2 : cln W F C = (rdc W D 4).2 := by
            rw [he]; exact if_pos hz
          rw [hz]
          refine X_iload_n dX12_clean_2 rfl ?_
          refine X_if_le (tgt := 32) dX12_clean_3 (by decide) (fun b3 => ?_) (fun b3 => ?_)
          · rw [he2]
            refine X_aload_n dX12_clean_32 rfl ?_
            refine X_getI dX12_clean_33 gf_X12_181 (by first | assumption | rfl) (by first | assumption | exact Nat.le_of_ble_eq_true rfl | omega) rfl ?_
            rw [hc2.1]
            exact X_iret dX12_clean_36 rfl ⟨_, rfl, PM_mk (RInv_code hi f2 (by decide) (by decide) hc2) (f2.lo (by decide))⟩
          · exact absurd (by decide) b3
        · exact ih _ _ I2 (by omega) (by omega) (VC_rdc hD 4) (by rw [he]; rfl) f2 hc2
  refine Y_of rfl rfl (Nat.le_of_ble_eq_true rfl) rfl ?_
  refine X_iconst (v := nI 1) dX12_clean_0 (by decide) ?_
  refine X_istore_n dX12_clean_1 rfl rfl ?_
  exact loop F 1 C I (by decide) (by have := mu_le hvC; omega) hvC (if_neg (by decide)).symm FrM.rf (by rw [hCe]; exact hi.2.1.rc)
end CM
