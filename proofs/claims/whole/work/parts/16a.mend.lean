/-! the four mendings -/
def cnt (p : Nat → Bool) : Nat → Nat
  | 0 => 0
  | i + 1 => if p i = true then cnt p i + 1 else cnt p i
theorem cnt_t {p : Nat → Bool} {i : Nat} (h : p i = true) : cnt p (i + 1) = cnt p i + 1 := if_pos h
theorem cnt_f {p : Nat → Bool} {i : Nat} (h : ¬ p i = true) : cnt p (i + 1) = cnt p i := if_neg h
theorem cnt_le (p : Nat → Bool) : ∀ n, cnt p n ≤ n
  | 0 => Nat.le_refl 0
  | n + 1 => by
    have := cnt_le p n
    by_cases h : p n = true
    · rw [cnt_t h]; omega
    · rw [cnt_f h]; omega
def kas (k : Nat → Nat) (v : Nat) : Nat := if v < 4 ∧ k v ≠ 99 then 10 + k v else v
def md1 (c : Nat → Nat → Nat) : Nat → Nat → Nat := fun i w => if w = 2 ∨ w = 3 then kas (kn c i) (c i w) else c i w
def mp1 (c : Nat → Nat → Nat) : Nat → Bool := fun i => decide ((c i 2 < 4 ∧ kn c i (c i 2) ≠ 99) ∨ (c i 3 < 4 ∧ kn c i (c i 3) ≠ 99))
def mp2 (c : Nat → Nat → Nat) : Nat → Bool := fun i => decide (c i 1 ≠ 99 ∧ 10 ≤ c i 2 ∧ 10 ≤ c i 3)
def md2 (c : Nat → Nat → Nat) : Nat → Nat → Nat := fun i w => if mp2 c i = true then (if w = 0 then c i 0 else if w = 2 then 10 + av (c i 1) (c i 2 - 10) (c i 3 - 10) else 99) else c i w
def mp3 (c : Nat → Nat → Nat) : Nat → Bool := fun i => decide (c i 1 ≠ 99 ∧ hld c i < 4)
def md3 (c : Nat → Nat → Nat) : Nat → Nat → Nat := fun i w => if mp3 c i = true then (if w = 0 then c i 0 else if w = 2 then hld c i else 99) else c i w
def mp4 (W n : Nat) (c : Nat → Nat → Nat) : Nat → Bool := fun i => !(liv c W n (i + 1)).testBit (c i 0) || decide (c i 1 = 99 ∧ c i 2 = c i 0)
def dro (p : Nat → Bool) (c : Nat → Nat → Nat) : Nat → CC
  | 0 => (0, c)
  | i + 1 => if p i = true then dro p c i else ((dro p c i).1 + 1, ext (dro p c i).1 (dro p c i).2 (c i))
theorem dro_t {p : Nat → Bool} {c : Nat → Nat → Nat} {i : Nat} (h : p i = true) : dro p c (i + 1) = dro p c i := if_pos h
theorem dro_f {p : Nat → Bool} {c : Nat → Nat → Nat} {i : Nat} (h : ¬ p i = true) : dro p c (i + 1) = ((dro p c i).1 + 1, ext (dro p c i).1 (dro p c i).2 (c i)) := if_neg h
theorem dro_le (p : Nat → Bool) (c : Nat → Nat → Nat) : ∀ i, (dro p c i).1 ≤ i
  | 0 => Nat.le_refl 0
  | i + 1 => by
    have := dro_le p c i
    by_cases h : p i = true
    · rw [dro_t h]; omega
    · rw [dro_f h]; show (dro p c i).1 + 1 ≤ _; omega
theorem dro_hi (p : Nat → Bool) (c : Nat → Nat → Nat) : ∀ i j, (dro p c i).1 ≤ j → (dro p c i).2 j = c j
  | 0, j, _ => rfl
  | i + 1, j, hj => by
    by_cases h : p i = true
    · rw [dro_t h] at hj ⊢; exact dro_hi p c i j hj
    · rw [dro_f h] at hj ⊢
      have hj : (dro p c i).1 + 1 ≤ j := hj
      show ext (dro p c i).1 (dro p c i).2 (c i) j = c j
      unfold ext
      rw [if_neg (by omega)]
      exact dro_hi p c i j (by omega)
theorem dro_in (p : Nat → Bool) (c : Nat → Nat → Nat) : ∀ i j, j < (dro p c i).1 → ∃ k, k < i ∧ (dro p c i).2 j = c k
  | 0, j, h => absurd h (Nat.not_lt_zero j)
  | i + 1, j, hj => by
    by_cases h : p i = true
    · rw [dro_t h] at hj ⊢
      obtain ⟨k, h1, h2⟩ := dro_in p c i j hj
      exact ⟨k, by omega, h2⟩
    · rw [dro_f h] at hj ⊢
      have hj : j < (dro p c i).1 + 1 := hj
      show ∃ k, k < i + 1 ∧ ext (dro p c i).1 (dro p c i).2 (c i) j = c k
      unfold ext
      by_cases he : j = (dro p c i).1
      · rw [if_pos he]; exact ⟨i, Nat.lt_succ_self i, rfl⟩
      · rw [if_neg he]
        obtain ⟨k, h1, h2⟩ := dro_in p c i j (by omega)
        exact ⟨k, by omega, h2⟩
theorem dro_cnt (p : Nat → Bool) (c : Nat → Nat → Nat) : ∀ i, (dro p c i).1 + cnt p i = i
  | 0 => rfl
  | i + 1 => by
    have := dro_cnt p c i
    by_cases h : p i = true
    · rw [dro_t h, cnt_t h]; omega
    · rw [dro_f h, cnt_f h]; show (dro p c i).1 + 1 + _ = _; omega
/-- one mending: how many steps it changes, the code behind it -/
def mdC (W : Nat) (C : CC) (k : Nat) : Nat × CC := if k = 1 then (cnt (mp1 C.2) C.1, (C.1, md1 C.2)) else if k = 2 then (cnt (mp2 C.2) C.1, (C.1, md2 C.2)) else if k = 3 then (cnt (mp3 C.2) C.1, (C.1, md3 C.2)) else (C.1 - (dro (mp4 W C.1 C.2) C.2 C.1).1, dro (mp4 W C.1 C.2) C.2 C.1)
theorem kas_ok {k : Nat → Nat} (hk : ∀ r, kok (k r)) {v : Nat} (hv : opd v) : opd (kas k v) := by
  unfold kas
  by_cases h : v < 4 ∧ k v ≠ 99
  · rw [if_pos h]
    have := (hk v).resolve_right h.2
    right; omega
  · rw [if_neg h]; exact hv
theorem VS_md1 {n : Nat} {c : Nat → Nat → Nat} (hv : VC n c) : VC n (md1 c) := by
  refine ⟨hv.1, fun i hi => ?_⟩
  obtain ⟨h0, h2, h3⟩ := hv.2 i hi
  refine ⟨h0, kas_ok (kn_ok c i) h2, ?_⟩
  rcases h3 with ⟨a, b⟩ | ⟨a, b⟩
  · refine Or.inl ⟨a, ?_⟩
    show kas (kn c i) (c i 3) = 99
    rw [b]; rfl
  · exact Or.inr ⟨a, kas_ok (kn_ok c i) b⟩
theorem VS_md2 {n : Nat} {c : Nat → Nat → Nat} (hv : VC n c) : VC n (md2 c) := by
  refine ⟨hv.1, fun i hi => ?_⟩
  have h := hv.2 i hi
  by_cases hp : mp2 c i = true
  · have e : md2 c i = fun w => if w = 0 then c i 0 else if w = 2 then 10 + av (c i 1) (c i 2 - 10) (c i 3 - 10) else 99 := by
      funext w; exact if_pos hp
    rw [e]
    obtain ⟨h0, h2, h3⟩ := h
    have q : c i 1 ≠ 99 ∧ 10 ≤ c i 2 ∧ 10 ≤ c i 3 := by simpa [mp2] using hp
    refine ⟨h0, Or.inr ?_, Or.inl ⟨rfl, rfl⟩⟩
    show 10 ≤ 10 + av (c i 1) (c i 2 - 10) (c i 3 - 10) ∧ 10 + av (c i 1) (c i 2 - 10) (c i 3 - 10) < 18
    have := av_lt (a := c i 1) (y := c i 3 - 10) (show c i 2 - 10 < 8 by unfold opd at h2; omega)
    omega
  · have e : md2 c i = c i := by funext w; exact if_neg hp
    rw [e]; exact h
theorem VS_md3 {n : Nat} {c : Nat → Nat → Nat} (hv : VC n c) : VC n (md3 c) := by
  refine ⟨hv.1, fun i hi => ?_⟩
  have h := hv.2 i hi
  by_cases hp : mp3 c i = true
  · have e : md3 c i = fun w => if w = 0 then c i 0 else if w = 2 then hld c i else 99 := by
      funext w; exact if_pos hp
    rw [e]
    have q : c i 1 ≠ 99 ∧ hld c i < 4 := by simpa [mp3] using hp
    exact ⟨h.1, Or.inl q.2, Or.inl ⟨rfl, rfl⟩⟩
  · have e : md3 c i = c i := by funext w; exact if_neg hp
    rw [e]; exact h
theorem VS_dro {n : Nat} {c : Nat → Nat → Nat} (p : Nat → Bool) (hv : VC n c) : VC (dro p c n).1 (dro p c n).2 := by
  refine ⟨Nat.le_trans (dro_le p c n) hv.1, fun i hi => ?_⟩
  obtain ⟨k, h1, h2⟩ := dro_in p c n i hi
  rw [h2]; exact hv.2 k h1
theorem VS_mdC {C : CC} {W : Nat} (hv : VC C.1 C.2) (k : Nat) : VC (mdC W C k).2.1 (mdC W C k).2.2 := by
  unfold mdC
  by_cases h1 : k = 1
  · rw [if_pos h1]; exact VS_md1 hv
  · rw [if_neg h1]
    by_cases h2 : k = 2
    · rw [if_pos h2]; exact VS_md2 hv
    · rw [if_neg h2]
      by_cases h3 : k = 3
      · rw [if_pos h3]; exact VS_md3 hv
      · rw [if_neg h3]; exact VS_dro _ hv
def mix (f c : Nat → Nat → Nat) (i : Nat) : Nat → Nat → Nat := fun j => if j < i then f j else c j
theorem mix_lo {f c : Nat → Nat → Nat} {i j : Nat} (h : j < i) : mix f c i j = f j := if_pos h
theorem mix_hi {f c : Nat → Nat → Nat} {i j : Nat} (h : i ≤ j) : mix f c i j = c j := if_neg (by omega)
theorem mix_s {f c : Nat → Nat → Nat} {i : Nat} (j : Nat) : mix f c (i + 1) j = if j = i then f i else mix f c i j := by
  unfold mix
  by_cases h : j = i
  · rw [if_pos h, h, if_pos (Nat.lt_succ_self i)]
  · rw [if_neg h]
    by_cases h2 : j < i
    · rw [if_pos h2, if_pos (by omega)]
    · rw [if_neg h2, if_neg (by omega)]
section CM
variable {G : GG} {d : Nat} {sw : Bool} {I : Nat → Nat → Int32} {J : Nat → Nat → Int64} {s : SS} {n W : Nat} {c : Nat → Nat → Nat}
theorem CR_same {k a w : Nat} {e : Nat → Nat → Nat} (h : CR I k n e) : CR I k n (put1 e a w (e a w)) := h.cg (fun i _ v _ => by
  unfold put1
  by_cases q : i = a ∧ v = w
  · rw [if_pos q, q.1, q.2]
  · rw [if_neg q])
set_option maxRecDepth 20000 in
theorem c_wko {Q : Int32 → Mm → Prop} {i w : Nat} {k : Nat → Nat} {e : Nat → Nat → Nat} (hd : 2 ≤ d) (hc : CR I 8 n e) (hn : n ≤ 12) (hi : i < n) (hw : w < 4) (hv : opd (e i w) ∨ e i w = 99) (hk : ∀ r, r < 4 → I 114 (i * 4 + r) = enc (k r)) (hok : ∀ r, kok (k r))
    (hQ : ∀ I', Fr [9] I I' → CR I' 8 n (put1 e i w (kas k (e i w))) → Q (nI (if e i w < 4 ∧ k (e i w) ≠ 99 then 1 else 0)) (NC, I', J, layR sw)) : Y G d zX6_writeKnownOperand [vr 111, vr 8, vi (nI i), vi (nI w)] (NC, I, J, layR sw) 0 0 (qi Q) := by
  refine Y_of rfl rfl (Nat.le_of_ble_eq_true rfl) rfl ?_
  refine X_aload_n dX6_writeKnownOperand_0 rfl ?_
  refine X_iload_n dX6_writeKnownOperand_1 rfl ?_
  refine X_iload_n dX6_writeKnownOperand_2 rfl ?_
  refine X_cVi dX6_writeKnownOperand_3 ck_X6_50 rfl rfl (by first | assumption | rfl) (by first | assumption | exact Nat.le_of_ble_eq_true rfl | omega) (by omega) (Nat.le_of_ble_eq_true rfl) (c_part cd8 hc.1 hn hi hw ?_)
  rw [show I (8 + 1) (i * 4 + w) = enc (e i w) from hc.2 i hi w hw]
  refine X_istore dX6_writeKnownOperand_6 rfl rfl ?_
  refine X_iload dX6_writeKnownOperand_8 rfl ?_
  by_cases h4 : e i w < 4
  · rw [enc_n (by omega)]
    refine X_cSi dX6_writeKnownOperand_10 ck_X6_54 rfl rfl (by omega) (Nat.le_of_ble_eq_true rfl) (c_isNoReg_f h4 ?_)
    refine X_if_eq (tgt := 18) dX6_writeKnownOperand_13 (by decide) (fun b => ?_) (fun b => ?_)
    · refine X_aload_n dX6_writeKnownOperand_18 rfl ?_
      refine X_getR dX6_writeKnownOperand_19 gf_X6_12 (by first | assumption | rfl) (by first | assumption | exact Nat.le_of_ble_eq_true rfl | omega) rfl (by first | assumption | rfl) ?_
      refine X_iload_n dX6_writeKnownOperand_22 rfl ?_
      refine X_iload dX6_writeKnownOperand_23 rfl ?_
      rw [← enc_n (v := e i w) (by omega)]
      refine X_cVi dX6_writeKnownOperand_25 ck_X6_58 rfl rfl (by first | assumption | rfl) (by first | assumption | exact Nat.le_of_ble_eq_true rfl | omega) (by omega) (Nat.le_of_ble_eq_true rfl) (c_knownOperand (by omega) fa112 (by omega) (Or.inl h4) hk ?_)
      rw [show kop k (e i w) = k (e i w) from if_pos h4]
      refine X_istore dX6_writeKnownOperand_28 rfl rfl ?_
      refine X_iload dX6_writeKnownOperand_30 rfl ?_
      refine X_bipush (v := (-6)) dX6_writeKnownOperand_32 (by decide) ?_
      refine X_icmp_ne (tgt := 39) dX6_writeKnownOperand_34 (by decide) (fun b34 => ?_) (fun b34 => ?_)
      · have hk9 : k (e i w) ≠ 99 := fun q => b34 (by rw [q]; rfl)
        have h8 := (hok (e i w)).resolve_right hk9
        have hka : kas k (e i w) = 10 + k (e i w) := if_pos ⟨h4, hk9⟩
        rw [hka, if_pos ⟨h4, hk9⟩] at hQ
        rw [enc_n (v := k (e i w)) (by omega)]
        refine X_aload_n dX6_writeKnownOperand_39 rfl ?_
        refine X_iload_n dX6_writeKnownOperand_40 rfl ?_
        refine X_iload dX6_writeKnownOperand_41 rfl ?_
        refine X_bipush (v := nI 10) dX6_writeKnownOperand_43 (by decide) ?_
        first | refine X_iaddN dX6_writeKnownOperand_45 ?_ | refine X_iadd dX6_writeKnownOperand_45 ?_
        refine X_iload_n dX6_writeKnownOperand_46 rfl ?_
        rw [show nI (k (e i w) + 10) = enc (10 + k (e i w)) by rw [enc_n (by omega), Nat.add_comm]]
        refine X_cVv dX6_writeKnownOperand_47 ck_X6_61 rfl rfl (by first | assumption | rfl) (by first | assumption | exact Nat.le_of_ble_eq_true rfl | omega) (by omega) (Nat.le_of_ble_eq_true rfl) (c_change cd8 hc hn hi hw (fun I' hc' hF => ?_))
        refine X_iconst (v := nI 1) dX6_writeKnownOperand_50 (by decide) ?_
        exact X_zret dX6_writeKnownOperand_51 rfl (by first | rfl | (simp; done) | decide) ⟨_, rfl, hQ I' hF hc'⟩
      · have hk9 : k (e i w) = 99 := (kok_eq (hok _)).mp b34
        have hka : kas k (e i w) = e i w := if_neg (fun q => q.2 hk9)
        rw [hka, if_neg (fun q => q.2 hk9)] at hQ
        refine X_iconst (v := nI 0) dX6_writeKnownOperand_37 (by decide) ?_
        exact X_zret dX6_writeKnownOperand_38 rfl (by first | rfl | (simp; done) | decide) ⟨_, rfl, hQ I Fr.rf (CR_same hc)⟩
    · exact absurd rfl b
  · have hka : kas k (e i w) = e i w := if_neg (fun q => h4 q.1)
    rw [hka, if_neg (fun q => h4 q.1)] at hQ
    refine X_cSi dX6_writeKnownOperand_10 ck_X6_54 rfl rfl (by omega) (Nat.le_of_ble_eq_true rfl) (c_isNoReg_t (enc_big h4 (by unfold opd at hv; omega)) ?_)
    refine X_if_eq (tgt := 18) dX6_writeKnownOperand_13 (by decide) (fun b => ?_) (fun b => ?_)
    · exact absurd b (by decide)
    · refine X_iconst (v := nI 0) dX6_writeKnownOperand_16 (by decide) ?_
      exact X_zret dX6_writeKnownOperand_17 rfl (by first | rfl | (simp; done) | decide) ⟨_, rfl, hQ I Fr.rf (CR_same hc)⟩
set_option maxRecDepth 20000 in
theorem c_writeKnown {Q : Int32 → Mm → Prop} (hd : 4 ≤ d) (hc : CR I 8 n c) (hv : VC n c) (hQ : ∀ I', Fr [9, 114] I I' → CR I' 8 n (md1 c) → Q (nI (cnt (mp1 c) n)) (NC, I', J, layR sw)) : Y G d zX6_writeKnown [vr 111, vr 8] (NC, I, J, layR sw) 0 0 (qi Q) := by
  have hn := hv.1
  refine Y_of rfl rfl (Nat.le_of_ble_eq_true rfl) rfl ?_
  refine X_aload_n dX6_writeKnown_0 rfl ?_
  refine X_getR dX6_writeKnown_1 gf_X6_12 (by first | assumption | rfl) (by first | assumption | exact Nat.le_of_ble_eq_true rfl | omega) rfl (by first | assumption | rfl) ?_
  refine X_aload_n dX6_writeKnown_4 rfl ?_
  refine X_cVv dX6_writeKnown_5 ck_X6_36 rfl rfl (by first | assumption | rfl) (by first | assumption | exact Nat.le_of_ble_eq_true rfl | omega) (by omega) (Nat.le_of_ble_eq_true rfl) (c_followKnown (by omega) fa112 hc hv (fun I1 f1 e1 => ?_))
  have hc1 : CR I1 8 n c := CR_fr hc f1 (by simp) (by simp)
  refine X_iconst (v := nI 0) dX6_writeKnown_8 (by decide) ?_
  refine X_istore_n dX6_writeKnown_9 rfl rfl ?_
  refine X_iconst (v := nI 0) dX6_writeKnown_10 (by decide) ?_
  refine X_istore_n dX6_writeKnown_11 rfl rfl ?_
  have loop : ∀ (m i : Nat) (I' : Nat → Nat → Int32), m = n - i → i ≤ n → Fr [9] I1 I' → CR I' 8 n (mix (md1 c) c i) → X G d zX6_writeKnown 12 [(0, vr 111), (1, vr 8), (2, vi (nI (cnt (mp1 c) i))), (3, vi (nI i))] [] (NC, I', J, layR sw) 0 0 (qi Q) := by
    intro m
    induction m with
    | zero =>
      intro i I' hm him hF hc'
      obtain rfl : i = n := by omega
      refine X_iload_n dX6_writeKnown_12 rfl ?_
      refine X_aload_n dX6_writeKnown_13 rfl ?_
      refine X_getI dX6_writeKnown_14 gf_X6_40 (by first | assumption | rfl) (by first | assumption | exact Nat.le_of_ble_eq_true rfl | omega) rfl ?_
      rw [hc'.1]
      refine X_icmp_ge (tgt := 57) dX6_writeKnown_17 (by decide) (fun b => ?_) (fun b => ?_)
      · refine X_iload_n dX6_writeKnown_57 rfl ?_
        exact X_iret dX6_writeKnown_58 rfl ⟨_, rfl, hQ I' ((f1.sub (by simp)).tr (hF.sub (by simp))) (hc'.cg (fun j hj w _ => by rw [mix_lo hj]))⟩
      · exact absurd (Int32.le_refl _) b
    | succ m ih =>
      intro i I' hm him hF hc'
      have hin : i < n := by omega
      obtain ⟨v0, v2, v3⟩ := hv.2 i hin
      have mi : mix (md1 c) c i i = c i := mix_hi (Nat.le_refl i)
      have kr : ∀ (I'' : Nat → Nat → Int32), Fr [9] I1 I'' → ∀ r, r < 4 → I'' 114 (i * 4 + r) = enc (kn c i r) := fun I'' f r h => by rw [f 114 (by simp)]; exact e1 i (by omega) r h
      refine X_iload_n dX6_writeKnown_12 rfl ?_
      refine X_aload_n dX6_writeKnown_13 rfl ?_
      refine X_getI dX6_writeKnown_14 gf_X6_40 (by first | assumption | rfl) (by first | assumption | exact Nat.le_of_ble_eq_true rfl | omega) rfl ?_
      rw [hc'.1]
      refine X_icmp_ge (tgt := 57) dX6_writeKnown_17 (by decide) (fun b => ?_) (fun b => ?_)
      · exact absurd ((nle (by omega) (by omega)).mp b) (by omega)
      refine X_aload_n dX6_writeKnown_20 rfl ?_
      refine X_aload_n dX6_writeKnown_21 rfl ?_
      refine X_iload_n dX6_writeKnown_22 rfl ?_
      refine X_iconst (v := nI 2) dX6_writeKnown_23 (by decide) ?_
      refine X_cVi dX6_writeKnown_24 ck_X6_46 rfl rfl (by first | assumption | rfl) (by first | assumption | exact Nat.le_of_ble_eq_true rfl | omega) (by omega) (Nat.le_of_ble_eq_true rfl) (c_wko (w := 2) (by omega) hc' hn hin (by decide) (Or.inl (by rw [mi]; exact v2)) (kr I' hF) (kn_ok c i) (fun I2 f2 hc2 => ?_))
      refine X_istore dX6_writeKnown_27 rfl rfl ?_
      refine X_aload_n dX6_writeKnown_29 rfl ?_
      refine X_aload_n dX6_writeKnown_30 rfl ?_
      refine X_iload_n dX6_writeKnown_31 rfl ?_
      refine X_iconst (v := nI 3) dX6_writeKnown_32 (by decide) ?_
      have p3 : put1 (mix (md1 c) c i) i 2 (kas (kn c i) (mix (md1 c) c i i 2)) i 3 = c i 3 := by
        unfold put1
        rw [if_neg (by omega), mi]
      refine X_cVi dX6_writeKnown_33 ck_X6_46 rfl rfl (by first | assumption | rfl) (by first | assumption | exact Nat.le_of_ble_eq_true rfl | omega) (by omega) (Nat.le_of_ble_eq_true rfl) (c_wko (w := 3) (by omega) hc2 hn hin (by decide) (by rw [p3]; exact v3.elim (fun q => Or.inr q.2) (fun q => Or.inl q.2)) (kr I2 (hF.tr f2)) (kn_ok c i) (fun I3 f3 hc3 => ?_))
      rw [p3] at hc3 ⊢
      rw [mi] at hc3 ⊢
      have hc4 : CR I3 8 n (mix (md1 c) c (i + 1)) := hc3.cg (fun j hj w hw => by
        rw [mix_s]
        unfold put1
        by_cases hji : j = i
        · subst hji
          rw [if_pos rfl]
          rcases (by omega : w = 0 ∨ w = 1 ∨ w = 2 ∨ w = 3) with rfl | rfl | rfl | rfl
          · rw [if_neg (by omega), if_neg (by omega), mi]; rfl
          · rw [if_neg (by omega), if_neg (by omega), mi]; rfl
          · rw [if_neg (by omega), if_pos ⟨rfl, rfl⟩]; rfl
          · rw [if_pos ⟨rfl, rfl⟩]; rfl
        · rw [if_neg hji, if_neg (by omega), if_neg (by omega)])
      have ih := ih (i + 1) I3 (by omega) (by omega) ((hF.tr f2).tr f3) hc4
      have hp : mp1 c i = true ↔ ((c i 2 < 4 ∧ kn c i (c i 2) ≠ 99) ∨ (c i 3 < 4 ∧ kn c i (c i 3) ≠ 99)) := by unfold mp1; exact decide_eq_true_iff
      have tail : ∀ e4 e5 : Int32, (e4 ≠ 0 ∨ e5 ≠ 0 ↔ mp1 c i = true) → X G d zX6_writeKnown 38 [(0, vr 111), (1, vr 8), (2, vi (nI (cnt (mp1 c) i))), (3, vi (nI i)), (4, vi e4), (5, vi e5)] [] (NC, I3, J, layR sw) 0 0 (qi Q) := by
        intro e4 e5 he
        refine X_iload dX6_writeKnown_38 rfl ?_
        refine X_if_ne (tgt := 48) dX6_writeKnown_40 (by decide) (fun b40 => ?_) (fun b40 => ?_)
        · rw [cnt_t (he.mp (Or.inl b40))] at ih
          first | refine X_iinc1 dX6_writeKnown_48 rfl rfl rfl ?_ | refine X_iinc dX6_writeKnown_48 rfl rfl rfl rfl ?_
          first | refine X_iinc1 dX6_writeKnown_51 rfl rfl rfl ?_ | refine X_iinc dX6_writeKnown_51 rfl rfl rfl rfl ?_
          refine X_goto (tgt := 12) dX6_writeKnown_54 (by decide) ?_
          refine weak (lv' := [(0, vr 111), (1, vr 8), (2, vi (nI (cnt (mp1 c) i + 1))), (3, vi (nI (i + 1)))]) (fun q hq => List.mem_append_left _ hq) ?_
          exact ih
        · refine X_iload dX6_writeKnown_43 rfl ?_
          refine X_if_eq (tgt := 51) dX6_writeKnown_45 (by decide) (fun b45 => ?_) (fun b45 => ?_)
          · rw [cnt_f (fun q => (he.mpr q).elim (fun q => q b40) (fun q => q b45))] at ih
            first | refine X_iinc1 dX6_writeKnown_51 rfl rfl rfl ?_ | refine X_iinc dX6_writeKnown_51 rfl rfl rfl rfl ?_
            refine X_goto (tgt := 12) dX6_writeKnown_54 (by decide) ?_
            refine weak (lv' := [(0, vr 111), (1, vr 8), (2, vi (nI (cnt (mp1 c) i))), (3, vi (nI (i + 1)))]) (fun q hq => List.mem_append_left _ hq) ?_
            exact ih
          · rw [cnt_t (he.mp (Or.inr b45))] at ih
            first | refine X_iinc1 dX6_writeKnown_48 rfl rfl rfl ?_ | refine X_iinc dX6_writeKnown_48 rfl rfl rfl rfl ?_
            first | refine X_iinc1 dX6_writeKnown_51 rfl rfl rfl ?_ | refine X_iinc dX6_writeKnown_51 rfl rfl rfl rfl ?_
            refine X_goto (tgt := 12) dX6_writeKnown_54 (by decide) ?_
            refine weak (lv' := [(0, vr 111), (1, vr 8), (2, vi (nI (cnt (mp1 c) i + 1))), (3, vi (nI (i + 1)))]) (fun q hq => List.mem_append_left _ hq) ?_
            exact ih
      refine X_istore dX6_writeKnown_36 rfl rfl ?_
      refine tail _ _ ?_
      rw [hp]
      have n01 : ∀ P : Prop, [Decidable P] → (nI (if P then 1 else 0) ≠ 0 ↔ P) := fun P _ => by
        by_cases h : P
        · rw [if_pos h]; exact ⟨fun _ => h, fun _ => by decide⟩
        · rw [if_neg h]; exact ⟨fun q => absurd rfl q, fun q => absurd q h⟩
      rw [n01, n01]
  exact loop n 0 I1 rfl (Nat.zero_le n) Fr.rf (hc1.cg (fun j hj w _ => by rw [mix_hi (Nat.zero_le j)]))
theorem c_isActE {Q : Int32 → Mm → Prop} {M : Mm} {a : Nat} (ha : a = 99 ∨ iact a) (hQ : Q (nI (if a = 99 then 0 else 1)) M) : Y G d zX11_isAct [vi (enc a)] M 0 0 (qi Q) := by
  refine Y_of rfl rfl (Nat.le_of_ble_eq_true rfl) rfl ?_
  refine X_iload_n dX11_isAct_0 rfl ?_
  refine X_bipush (v := nI 43) dX11_isAct_1 (by decide) ?_
  rcases ha with rfl | rfl | rfl | rfl | rfl
  · refine X_icmp_eq (tgt := 24) dX11_isAct_3 (by decide) (fun b => ?_) (fun b => ?_)
    · exact absurd b (by decide)
    refine X_iload_n dX11_isAct_6 rfl ?_
    refine X_bipush (v := nI 45) dX11_isAct_7 (by decide) ?_
    refine X_icmp_eq (tgt := 24) dX11_isAct_9 (by decide) (fun b9 => ?_) (fun b9 => ?_)
    · exact absurd b9 (by decide)
    refine X_iload_n dX11_isAct_12 rfl ?_
    refine X_bipush (v := nI 42) dX11_isAct_13 (by decide) ?_
    refine X_icmp_eq (tgt := 24) dX11_isAct_15 (by decide) (fun b15 => ?_) (fun b15 => ?_)
    · exact absurd b15 (by decide)
    refine X_iload_n dX11_isAct_18 rfl ?_
    refine X_bipush (v := nI 109) dX11_isAct_19 (by decide) ?_
    refine X_icmp_ne (tgt := 28) dX11_isAct_21 (by decide) (fun b21 => ?_) (fun b21 => ?_)
    · refine X_iconst (v := nI 0) dX11_isAct_28 (by decide) ?_
      exact X_zret dX11_isAct_29 rfl (by first | rfl | (simp; done) | decide) ⟨_, rfl, hQ⟩
    · exact absurd b21 (by decide)
  · refine X_icmp_eq (tgt := 24) dX11_isAct_3 (by decide) (fun b => ?_) (fun b => ?_)
    · refine X_iconst (v := nI 1) dX11_isAct_24 (by decide) ?_
      refine X_goto (tgt := 29) dX11_isAct_25 (by decide) ?_
      exact X_zret dX11_isAct_29 rfl (by first | rfl | (simp; done) | decide) ⟨_, rfl, hQ⟩
    · exact absurd (by decide) b
  · refine X_icmp_eq (tgt := 24) dX11_isAct_3 (by decide) (fun b => ?_) (fun b => ?_)
    · exact absurd b (by decide)
    refine X_iload_n dX11_isAct_6 rfl ?_
    refine X_bipush (v := nI 45) dX11_isAct_7 (by decide) ?_
    refine X_icmp_eq (tgt := 24) dX11_isAct_9 (by decide) (fun b9 => ?_) (fun b9 => ?_)
    · refine X_iconst (v := nI 1) dX11_isAct_24 (by decide) ?_
      refine X_goto (tgt := 29) dX11_isAct_25 (by decide) ?_
      exact X_zret dX11_isAct_29 rfl (by first | rfl | (simp; done) | decide) ⟨_, rfl, hQ⟩
    · exact absurd (by decide) b9
  · refine X_icmp_eq (tgt := 24) dX11_isAct_3 (by decide) (fun b => ?_) (fun b => ?_)
    · exact absurd b (by decide)
    refine X_iload_n dX11_isAct_6 rfl ?_
    refine X_bipush (v := nI 45) dX11_isAct_7 (by decide) ?_
    refine X_icmp_eq (tgt := 24) dX11_isAct_9 (by decide) (fun b9 => ?_) (fun b9 => ?_)
    · exact absurd b9 (by decide)
    refine X_iload_n dX11_isAct_12 rfl ?_
    refine X_bipush (v := nI 42) dX11_isAct_13 (by decide) ?_
    refine X_icmp_eq (tgt := 24) dX11_isAct_15 (by decide) (fun b15 => ?_) (fun b15 => ?_)
    · refine X_iconst (v := nI 1) dX11_isAct_24 (by decide) ?_
      refine X_goto (tgt := 29) dX11_isAct_25 (by decide) ?_
      exact X_zret dX11_isAct_29 rfl (by first | rfl | (simp; done) | decide) ⟨_, rfl, hQ⟩
    · exact absurd (by decide) b15
  · refine X_icmp_eq (tgt := 24) dX11_isAct_3 (by decide) (fun b => ?_) (fun b => ?_)
    · exact absurd b (by decide)
    refine X_iload_n dX11_isAct_6 rfl ?_
    refine X_bipush (v := nI 45) dX11_isAct_7 (by decide) ?_
    refine X_icmp_eq (tgt := 24) dX11_isAct_9 (by decide) (fun b9 => ?_) (fun b9 => ?_)
    · exact absurd b9 (by decide)
    refine X_iload_n dX11_isAct_12 rfl ?_
    refine X_bipush (v := nI 42) dX11_isAct_13 (by decide) ?_
    refine X_icmp_eq (tgt := 24) dX11_isAct_15 (by decide) (fun b15 => ?_) (fun b15 => ?_)
    · exact absurd b15 (by decide)
    refine X_iload_n dX11_isAct_18 rfl ?_
    refine X_bipush (v := nI 109) dX11_isAct_19 (by decide) ?_
    refine X_icmp_ne (tgt := 28) dX11_isAct_21 (by decide) (fun b21 => ?_) (fun b21 => ?_)
    · exact absurd (by decide) b21
    · refine X_iconst (v := nI 1) dX11_isAct_24 (by decide) ?_
      refine X_goto (tgt := 29) dX11_isAct_25 (by decide) ?_
      exact X_zret dX11_isAct_29 rfl (by first | rfl | (simp; done) | decide) ⟨_, rfl, hQ⟩
end CM
