/-! values, and which steps must stand behind which -/
def vlu (c : Nat → Nat → Nat) : Nat → Nat → Nat
  | 0 => fun r => r
  | p + 1 => up (vlu c p) (c p 0) (4 + p)
theorem vlu_lt (c : Nat → Nat → Nat) : ∀ p r, r < 4 → vlu c p r < 4 + p
  | 0, r, h => h
  | p + 1, r, h => by
    show up (vlu c p) (c p 0) (4 + p) r < 4 + (p + 1)
    by_cases hr : r = c p 0
    · rw [hr, up_eq]; omega
    · rw [up_ne hr]; have := vlu_lt c p r h; omega
/-- the value that an operand reads; 99: none -/
def srcv (c : Nat → Nat → Nat) (i v : Nat) : Nat := if v < 4 then vlu c i v else 99
def nb (v : Nat) : Nat := if 4 ≤ v ∧ v < 99 then 2 ^ (v - 4) else 0
def ned (c : Nat → Nat → Nat) (i : Nat) : Nat := nb (srcv c i (c i 2)) ||| nb (srcv c i (c i 3))
def awt (c : Nat → Nat → Nat) (i : Nat) : Nat := bts (fun j => decide (c j 0 = c i 0 ∨ c j 2 = c i 0 ∨ c j 3 = c i 0)) i
def rdr (c : Nat → Nat → Nat) (n v : Nat) : Nat := bts (fun i => decide (srcv c i (c i 2) = v ∨ srcv c i (c i 3) = v)) n
def rdg (c : Nat → Nat → Nat) : Nat → Nat → Nat
  | 0 => fun _ => 0
  | i + 1 => fun v => rdg c i v + (if v = srcv c i (c i 2) then 1 else 0) + (if v = srcv c i (c i 3) then 1 else 0)
theorem rdg_le (c : Nat → Nat → Nat) (v : Nat) : ∀ i, rdg c i v ≤ 2 * i
  | 0 => Nat.le_refl 0
  | i + 1 => by
    have := rdg_le c v i
    show rdg c i v + (if v = srcv c i (c i 2) then 1 else 0) + (if v = srcv c i (c i 3) then 1 else 0) ≤ _
    split <;> split <;> omega
theorem srcv_ok (c : Nat → Nat → Nat) (i v : Nat) : srcv c i v = 99 ∨ srcv c i v < 4 + i := by
  unfold srcv
  by_cases h : v < 4
  · rw [if_pos h]; exact Or.inr (vlu_lt c i v h)
  · rw [if_neg h]; exact Or.inl rfl
theorem nb_lt {c : Nat → Nat → Nat} {i : Nat} (v : Nat) : nb (srcv c i v) < 2 ^ i := by
  unfold nb
  by_cases h : 4 ≤ srcv c i v ∧ srcv c i v < 99
  · rw [if_pos h]
    have := (srcv_ok c i v).resolve_left (by omega)
    exact Nat.pow_lt_pow_right (by decide) (by omega)
  · rw [if_neg h]; exact Nat.two_pow_pos i
theorem ned_lt (c : Nat → Nat → Nat) (i : Nat) : ned c i < 2 ^ i := Nat.or_lt_two_pow (nb_lt _) (nb_lt _)
theorem awt_lt (c : Nat → Nat → Nat) (i : Nat) : awt c i < 2 ^ i := bts_lt _ i
theorem rb_bit {v t : Nat} (ht : t < 4) : (rb v).testBit t = decide (v = t) := by
  unfold rb
  by_cases h : v < 4
  · rw [if_pos h, Nat.testBit_two_pow]
  · rw [if_neg h, Nat.zero_testBit]
    exact (decide_eq_false (by omega)).symm
theorem rb2_bit {v w t : Nat} (ht : t < 4) : (rb v ||| rb w).testBit t = true ↔ (v = t ∨ w = t) := by
  rw [Nat.testBit_or, rb_bit ht, rb_bit ht, Bool.or_eq_true, decide_eq_true_iff, decide_eq_true_iff]
/-- what the links' rows hold -/
def LK (I : Nat → Nat → Int32) (i : Nat) (c : Nat → Nat → Nat) : Prop := (∀ p, p ≤ i → ∀ r, r < 4 → I 122 (p * 4 + r) = nI (vlu c p r)) ∧ (∀ k, k < i → I 123 (2 * k) = enc (srcv c k (c k 2)) ∧ I 123 (2 * k + 1) = enc (srcv c k (c k 3)) ∧ I 124 k = nI (ned c k) ∧ I 125 k = nI (awt c k)) ∧ ∀ v, v < 16 → I 126 v = nI (rdr c i v) ∧ I 127 v = nI (rdg c i v)
section CL
variable {G : GG} {d : Nat} {sw : Bool} {I : Nat → Nat → Int32} {J : Nat → Nat → Int64} {s : SS} {n W : Nat} {c : Nat → Nat → Nat}
set_option maxRecDepth 20000 in
theorem c_noteReading {Q : Mm → Prop} {i k v E : Nat} {R N : Nat → Nat} (hd : 1 ≤ d) (hi : i < 12) (hk : k < 2) (hv : opd v ∨ v = 99) (h1 : ∀ r, r < 4 → I 122 (i * 4 + r) = nI (vlu c i r)) (h2 : ∀ v, v < 16 → I 126 v = nI (R v) ∧ I 127 v = nI (N v)) (h3 : I 124 i = nI E)
    (hQ : ∀ I', Fr [123, 124, 126, 127] I I' → (∀ q, I' 123 q = up (I 123) (2 * i + k) (enc (srcv c i v)) q) → (∀ q, q ≠ i → I' 124 q = I 124 q) → I' 124 i = nI (E ||| nb (srcv c i v)) → (∀ u, u < 16 → I' 126 u = nI (if u = srcv c i v then R u ||| 2 ^ i else R u) ∧ I' 127 u = nI (if u = srcv c i v then N u + 1 else N u)) → Q (NC, I', J, layR sw)) : Y G d zX5_noteReading [vr 121, vi (nI i), vi (nI k), vi (enc v)] (NC, I, J, layR sw) 0 0 (qv Q) := by
  refine Y_of rfl rfl (Nat.le_of_ble_eq_true rfl) rfl ?_
  refine X_aload_n dX5_noteReading_0 rfl ?_
  refine X_getR dX5_noteReading_1 gf_X5_15 (by first | assumption | rfl) (by first | assumption | exact Nat.le_of_ble_eq_true rfl | omega) rfl (by first | assumption | rfl) ?_
  refine X_iconst (v := nI 2) dX5_noteReading_4 (by decide) ?_
  refine X_iload_n dX5_noteReading_5 rfl ?_
  first | refine X_imulN dX5_noteReading_6 ?_ | refine X_imul dX5_noteReading_6 ?_
  refine X_iload_n dX5_noteReading_7 rfl ?_
  first | refine X_iaddN dX5_noteReading_8 ?_ | refine X_iadd dX5_noteReading_8 ?_
  refine X_bipush (v := (-6)) dX5_noteReading_9 (by decide) ?_
  refine X_iast dX5_noteReading_11 (by first | assumption | rfl) (by first | assumption | exact Nat.le_of_ble_eq_true rfl | omega) rfl (by first | decide | omega) (by decide) ?_
  refine X_iload_n dX5_noteReading_12 rfl ?_
  by_cases h4 : v < 4
  · have hs : srcv c i v = vlu c i v := if_pos h4
    have hvl := vlu_lt c i v h4
    rw [hs] at hQ
    rw [enc_n (v := v) (by omega)]
    refine X_cSi dX5_noteReading_13 ck_X5_64 rfl rfl (by omega) (Nat.le_of_ble_eq_true rfl) (c_isNoReg_f h4 ?_)
    refine X_if_eq (tgt := 20) dX5_noteReading_16 (by decide) (fun b => ?_) (fun b => ?_)
    · refine X_aload_n dX5_noteReading_20 rfl ?_
      refine X_getR dX5_noteReading_21 gf_X5_9 (by first | assumption | rfl) (by first | assumption | exact Nat.le_of_ble_eq_true rfl | omega) rfl (by first | assumption | rfl) ?_
      refine X_iload_n dX5_noteReading_24 rfl ?_
      refine X_iconst (v := nI 4) dX5_noteReading_25 (by decide) ?_
      first | refine X_imulN dX5_noteReading_26 ?_ | refine X_imul dX5_noteReading_26 ?_
      refine X_iload_n dX5_noteReading_27 rfl ?_
      first | refine X_iaddN dX5_noteReading_28 ?_ | refine X_iadd dX5_noteReading_28 ?_
      first | refine X_iald dX5_noteReading_29 (by first | assumption | rfl) (by first | assumption | exact Nat.le_of_ble_eq_true rfl | omega) rfl (by first | decide | omega) (by decide) ?_ | refine X_ildA dX5_noteReading_29 rfl (by omega) ?_ | refine X_ildM dX5_noteReading_29 rfl (by omega) ?_ | refine X_sld dX5_noteReading_29 rfl (by omega) (by omega) ?_
      rw [sr_ne (show 122 ≠ 123 by decide), h1 v h4]
      generalize vlu c i v = u at hQ hvl
      obtain ⟨hR, hN⟩ := h2 u (by omega)
      refine X_istore dX5_noteReading_30 rfl rfl ?_
      refine X_aload_n dX5_noteReading_32 rfl ?_
      refine X_getR dX5_noteReading_33 gf_X5_15 (by first | assumption | rfl) (by first | assumption | exact Nat.le_of_ble_eq_true rfl | omega) rfl (by first | assumption | rfl) ?_
      refine X_iconst (v := nI 2) dX5_noteReading_36 (by decide) ?_
      refine X_iload_n dX5_noteReading_37 rfl ?_
      first | refine X_imulN dX5_noteReading_38 ?_ | refine X_imul dX5_noteReading_38 ?_
      refine X_iload_n dX5_noteReading_39 rfl ?_
      first | refine X_iaddN dX5_noteReading_40 ?_ | refine X_iadd dX5_noteReading_40 ?_
      refine X_iload dX5_noteReading_41 rfl ?_
      refine X_iast dX5_noteReading_43 (by first | assumption | rfl) (by first | assumption | exact Nat.le_of_ble_eq_true rfl | omega) rfl (by first | decide | omega) (by decide) ?_
      refine X_aload_n dX5_noteReading_44 rfl ?_
      refine X_getR dX5_noteReading_45 gf_X5_24 (by first | assumption | rfl) (by first | assumption | exact Nat.le_of_ble_eq_true rfl | omega) rfl (by first | assumption | rfl) ?_
      refine X_iload dX5_noteReading_48 rfl ?_
      refine X_dup2 dX5_noteReading_50 rfl rfl ?_
      first | refine X_iald dX5_noteReading_51 (by first | assumption | rfl) (by first | assumption | exact Nat.le_of_ble_eq_true rfl | omega) rfl (by first | decide | omega) (by decide) ?_ | refine X_ildA dX5_noteReading_51 rfl (by omega) ?_ | refine X_ildM dX5_noteReading_51 rfl (by omega) ?_ | refine X_sld dX5_noteReading_51 rfl (by omega) (by omega) ?_
      rw [sr_ne (show 126 ≠ 123 by decide), sr_ne (show 126 ≠ 123 by decide), hR]
      refine X_iconst (v := nI 1) dX5_noteReading_52 (by decide) ?_
      refine X_iload_n dX5_noteReading_53 rfl ?_
      first | refine X_ishl1 dX5_noteReading_54 (by omega) ?_ | refine X_ishl dX5_noteReading_54 ?_
      first | refine X_iorN dX5_noteReading_55 ?_ | refine X_ior dX5_noteReading_55 ?_
      refine X_iast dX5_noteReading_56 (by first | assumption | rfl) (by first | assumption | exact Nat.le_of_ble_eq_true rfl | omega) rfl (by first | decide | omega) (by decide) ?_
      refine X_aload_n dX5_noteReading_57 rfl ?_
      refine X_getR dX5_noteReading_58 gf_X5_27 (by first | assumption | rfl) (by first | assumption | exact Nat.le_of_ble_eq_true rfl | omega) rfl (by first | assumption | rfl) ?_
      refine X_iload dX5_noteReading_61 rfl ?_
      refine X_dup2 dX5_noteReading_63 rfl rfl ?_
      first | refine X_iald dX5_noteReading_64 (by first | assumption | rfl) (by first | assumption | exact Nat.le_of_ble_eq_true rfl | omega) rfl (by first | decide | omega) (by decide) ?_ | refine X_ildA dX5_noteReading_64 rfl (by omega) ?_ | refine X_ildM dX5_noteReading_64 rfl (by omega) ?_ | refine X_sld dX5_noteReading_64 rfl (by omega) (by omega) ?_
      rw [sr_ne (show 127 ≠ 126 by decide), sr_ne (show 127 ≠ 123 by decide), sr_ne (show 127 ≠ 123 by decide), hN]
      refine X_iconst (v := nI 1) dX5_noteReading_65 (by decide) ?_
      first | refine X_iaddN dX5_noteReading_66 ?_ | refine X_iadd dX5_noteReading_66 ?_
      refine X_iast dX5_noteReading_67 (by first | assumption | rfl) (by first | assumption | exact Nat.le_of_ble_eq_true rfl | omega) rfl (by first | decide | omega) (by decide) ?_
      refine X_iload dX5_noteReading_68 rfl ?_
      refine X_iconst (v := nI 4) dX5_noteReading_70 (by decide) ?_
      have k126 : ∀ w, w < 16 → up (I 126) u (nI (R u ||| 2 ^ i)) w = nI (if w = u then R w ||| 2 ^ i else R w) := fun w hw => by
        by_cases e : w = u
        · rw [e, up_eq, if_pos rfl]
        · rw [up_ne e, if_neg e]; exact (h2 w hw).1
      have k127 : ∀ w, w < 16 → up (I 127) u (nI (N u + 1)) w = nI (if w = u then N w + 1 else N w) := fun w hw => by
        by_cases e : w = u
        · rw [e, up_eq, if_pos rfl]
        · rw [up_ne e, if_neg e]; exact (h2 w hw).2
      have k123 : ∀ q, sr (sr I 123 (up (I 123) (2 * i + k) (-6))) 123 (up (sr I 123 (up (I 123) (2 * i + k) (-6)) 123) (2 * i + k) (nI u)) 123 q = up (I 123) (2 * i + k) (enc u) q := fun q => by
        rw [sr_eq, sr_eq, enc_n (show u ≠ 99 by omega)]
        by_cases e : q = 2 * i + k
        · rw [e, up_eq, up_eq]
        · rw [up_ne e, up_ne e, up_ne e]
      refine X_icmp_lt (tgt := 89) dX5_noteReading_71 (by decide) (fun b71 => ?_) (fun b71 => ?_)
      · have hu : u < 4 := (nlt (by decide) (by omega)).mp b71
        have hz : nb u = 0 := if_neg (by omega)
        rw [hz, Nat.or_zero] at hQ
        refine X_vret dX5_noteReading_89 rfl ⟨rfl, hQ _ ?_ (fun q => ?_) (fun q _ => ?_) ?_ (fun w hw => ⟨?_, ?_⟩)⟩
        · exact (((Fr.sr (by simp)).tr (Fr.sr (by simp))).tr (Fr.sr (by simp))).tr (Fr.sr (by simp))
        · rw [sr_ne (show 123 ≠ 127 by decide), sr_ne (show 123 ≠ 126 by decide)]; exact k123 q
        · rw [sr_ne (by decide), sr_ne (by decide), sr_ne (by decide), sr_ne (by decide)]
        · rw [sr_ne (by decide), sr_ne (by decide), sr_ne (by decide), sr_ne (by decide)]; exact h3
        · rw [sr_ne (show 126 ≠ 127 by decide), sr_eq]; exact k126 w hw
        · rw [sr_eq]; exact k127 w hw
      · have hu : ¬ u < 4 := fun q => b71 ((nlt (by decide) (by omega)).mpr q)
        have hz : nb u = 2 ^ (u - 4) := if_pos (by omega)
        rw [hz] at hQ
        refine X_aload_n dX5_noteReading_74 rfl ?_
        refine X_getR dX5_noteReading_75 gf_X5_18 (by first | assumption | rfl) (by first | assumption | exact Nat.le_of_ble_eq_true rfl | omega) rfl (by first | assumption | rfl) ?_
        refine X_iload_n dX5_noteReading_78 rfl ?_
        refine X_dup2 dX5_noteReading_79 rfl rfl ?_
        first | refine X_iald dX5_noteReading_80 (by first | assumption | rfl) (by first | assumption | exact Nat.le_of_ble_eq_true rfl | omega) rfl (by first | decide | omega) (by decide) ?_ | refine X_ildA dX5_noteReading_80 rfl (by omega) ?_ | refine X_ildM dX5_noteReading_80 rfl (by omega) ?_ | refine X_sld dX5_noteReading_80 rfl (by omega) (by omega) ?_
        rw [sr_ne (show 124 ≠ 127 by decide), sr_ne (show 124 ≠ 126 by decide), sr_ne (show 124 ≠ 123 by decide), sr_ne (show 124 ≠ 123 by decide), h3]
        refine X_iconst (v := nI 1) dX5_noteReading_81 (by decide) ?_
        refine X_iload dX5_noteReading_82 rfl ?_
        refine X_iconst (v := nI 4) dX5_noteReading_84 (by decide) ?_
        first | refine X_isubN dX5_noteReading_85 (by omega) ?_ | refine X_isub dX5_noteReading_85 ?_
        first | refine X_ishl1 dX5_noteReading_86 (by omega) ?_ | refine X_ishl dX5_noteReading_86 ?_
        first | refine X_iorN dX5_noteReading_87 ?_ | refine X_ior dX5_noteReading_87 ?_
        refine X_iast dX5_noteReading_88 (by first | assumption | rfl) (by first | assumption | exact Nat.le_of_ble_eq_true rfl | omega) rfl (by first | decide | omega) (by decide) ?_
        refine X_vret dX5_noteReading_89 rfl ⟨rfl, hQ _ ?_ (fun q => ?_) (fun q hq => ?_) ?_ (fun w hw => ⟨?_, ?_⟩)⟩
        · exact ((((Fr.sr (by simp)).tr (Fr.sr (by simp))).tr (Fr.sr (by simp))).tr (Fr.sr (by simp))).tr (Fr.sr (by simp))
        · rw [sr_ne (show 123 ≠ 124 by decide), sr_ne (show 123 ≠ 127 by decide), sr_ne (show 123 ≠ 126 by decide)]; exact k123 q
        · rw [sr_eq, up_ne hq, sr_ne (show 124 ≠ 127 by decide), sr_ne (show 124 ≠ 126 by decide), sr_ne (show 124 ≠ 123 by decide), sr_ne (show 124 ≠ 123 by decide)]
        · rw [sr_eq, up_eq]
        · rw [sr_ne (show 126 ≠ 124 by decide), sr_ne (show 126 ≠ 127 by decide), sr_eq]; exact k126 w hw
        · rw [sr_ne (show 127 ≠ 124 by decide), sr_eq]; exact k127 w hw
    · exact absurd rfl b
  · have hs : srcv c i v = 99 := if_neg h4
    rw [hs] at hQ
    refine X_cSi dX5_noteReading_13 ck_X5_64 rfl rfl (by omega) (Nat.le_of_ble_eq_true rfl) (c_isNoReg_t (enc_big h4 (by unfold opd at hv; omega)) ?_)
    refine X_if_eq (tgt := 20) dX5_noteReading_16 (by decide) (fun b => ?_) (fun b => ?_)
    · exact absurd b (by decide)
    · refine X_vret dX5_noteReading_19 rfl ⟨rfl, hQ _ (Fr.sr (by simp)) (fun q => ?_) (fun q _ => ?_) ?_ (fun w hw => ?_)⟩
      · rw [sr_eq]; rfl
      · rw [sr_ne (by decide)]
      · rw [sr_ne (by decide), show nb 99 = 0 from rfl, Nat.or_zero]; exact h3
      · rw [sr_ne (by decide), sr_ne (by decide), if_neg (by omega), if_neg (by omega)]; exact h2 w hw
set_option maxRecDepth 20000 in
theorem c_usersAhead {Q : Int32 → Mm → Prop} {i : Nat} (hd : 3 ≤ d) (hc : CR I 8 n c) (hv : VC n c) (hi : i < n) (hQ : Q (nI (awt c i)) (NC, I, J, layR sw)) : Y G d zX5_usersAhead [vr 8, vi (nI i)] (NC, I, J, layR sw) 0 0 (qi Q) := by
  have hn := hv.1
  have ht := (hv.2 i hi).1
  have loop : ∀ (m j : Nat), m = i - j → j ≤ i → X G d zX5_usersAhead 11 [(0, vr 8), (1, vi (nI i)), (2, vi (nI (c i 0))), (3, vi (nI (bts (fun j => decide (c j 0 = c i 0 ∨ c j 2 = c i 0 ∨ c j 3 = c i 0)) j))), (4, vi (nI j))] [] (NC, I, J, layR sw) 0 0 (qi Q) := by
    intro m
    induction m with
    | zero =>
      intro j hm hj
      obtain rfl : j = i := by omega
      refine X_iload dX5_usersAhead_11 rfl ?_
      refine X_iload_n dX5_usersAhead_13 rfl ?_
      refine X_icmp_ge (tgt := 54) dX5_usersAhead_14 (by decide) (fun b => ?_) (fun b => ?_)
      · refine X_iload_n dX5_usersAhead_54 rfl ?_
        exact X_iret dX5_usersAhead_55 rfl ⟨_, rfl, hQ⟩
      · exact absurd (Int32.le_refl _) b
    | succ m ih =>
      intro j hm hj
      have hjn : j < n := by omega
      have htj := (hv.2 j hjn).1
      have ih := ih (j + 1) (by omega) (by omega)
      have hit : (c j 0 = c i 0 ∨ c j 2 = c i 0 ∨ c j 3 = c i 0) → X G d zX5_usersAhead 41 [(0, vr 8), (1, vi (nI i)), (2, vi (nI (c i 0))), (3, vi (nI (bts (fun j => decide (c j 0 = c i 0 ∨ c j 2 = c i 0 ∨ c j 3 = c i 0)) j))), (4, vi (nI j))] [] (NC, I, J, layR sw) 0 0 (qi Q) := by
        intro h
        rw [bts_t (by simpa using h)] at ih
        refine X_iload_n dX5_usersAhead_41 rfl ?_
        refine X_iconst (v := nI 1) dX5_usersAhead_42 (by decide) ?_
        refine X_iload dX5_usersAhead_43 rfl ?_
        first | refine X_ishl1 dX5_usersAhead_45 (by omega) ?_ | refine X_ishl dX5_usersAhead_45 ?_
        first | refine X_iorN dX5_usersAhead_46 ?_ | refine X_ior dX5_usersAhead_46 ?_
        refine X_istore_n dX5_usersAhead_47 rfl rfl ?_
        first | refine X_iinc1 dX5_usersAhead_48 rfl rfl rfl ?_ | refine X_iinc dX5_usersAhead_48 rfl rfl rfl rfl ?_
        refine X_goto (tgt := 11) dX5_usersAhead_51 (by decide) ?_
        exact ih
      refine X_iload dX5_usersAhead_11 rfl ?_
      refine X_iload_n dX5_usersAhead_13 rfl ?_
      refine X_icmp_ge (tgt := 54) dX5_usersAhead_14 (by decide) (fun b => ?_) (fun b => ?_)
      · exact absurd ((nle (by omega) (by omega)).mp b) (by omega)
      refine X_aload_n dX5_usersAhead_17 rfl ?_
      refine X_iload dX5_usersAhead_18 rfl ?_
      refine X_cVi dX5_usersAhead_20 ck_X5_60 rfl rfl (by first | assumption | rfl) (by first | assumption | exact Nat.le_of_ble_eq_true rfl | omega) (by omega) (Nat.le_of_ble_eq_true rfl) (c_tgt (by omega) cd8 hc hv hjn ?_)
      refine X_iload_n dX5_usersAhead_23 rfl ?_
      refine X_icmp_eq (tgt := 41) dX5_usersAhead_24 (by decide) (fun b24 => ?_) (fun b24 => ?_)
      · exact hit (Or.inl ((neq (by omega) (by omega)).mp b24))
      have h0 : c j 0 ≠ c i 0 := fun q => b24 (by rw [q])
      refine X_aload_n dX5_usersAhead_27 rfl ?_
      refine X_iload dX5_usersAhead_28 rfl ?_
      refine X_cVi dX5_usersAhead_30 ck_X5_68 rfl rfl (by first | assumption | rfl) (by first | assumption | exact Nat.le_of_ble_eq_true rfl | omega) (by omega) (Nat.le_of_ble_eq_true rfl) (c_readBits (by omega) cd8 hc hv hjn ?_)
      have hrb := or16 (rb_lt (c j 2)) (rb_lt (c j 3))
      refine X_iload_n dX5_usersAhead_33 rfl ?_
      first | refine X_ishrN dX5_usersAhead_34 (by omega) (by omega) ?_ | refine X_ishr dX5_usersAhead_34 ?_
      refine X_iconst (v := nI 1) dX5_usersAhead_35 (by decide) ?_
      first | refine X_iandN dX5_usersAhead_36 ?_ | refine X_iandC dX5_usersAhead_36 ?_ | refine X_iand dX5_usersAhead_36 ?_
      rw [Nat.and_one_is_mod, bit_mod]
      refine X_iconst (v := nI 1) dX5_usersAhead_37 (by decide) ?_
      by_cases hb : (rb (c j 2) ||| rb (c j 3)).testBit (c i 0) = true
      · rw [if_pos hb]
        refine X_icmp_ne (tgt := 48) dX5_usersAhead_38 (by decide) (fun b38 => ?_) (fun b38 => ?_)
        · exact absurd rfl b38
        · exact hit (Or.inr ((rb2_bit ht).mp hb))
      · rw [if_neg hb]
        rw [bts_f (by simpa [h0] using fun q => hb ((rb2_bit ht).mpr q))] at ih
        refine X_icmp_ne (tgt := 48) dX5_usersAhead_38 (by decide) (fun b38 => ?_) (fun b38 => ?_)
        · first | refine X_iinc1 dX5_usersAhead_48 rfl rfl rfl ?_ | refine X_iinc dX5_usersAhead_48 rfl rfl rfl rfl ?_
          refine X_goto (tgt := 11) dX5_usersAhead_51 (by decide) ?_
          exact ih
        · exact absurd b38 (by decide)
  refine Y_of rfl rfl (Nat.le_of_ble_eq_true rfl) rfl ?_
  refine X_aload_n dX5_usersAhead_0 rfl ?_
  refine X_iload_n dX5_usersAhead_1 rfl ?_
  refine X_cVi dX5_usersAhead_2 ck_X5_60 rfl rfl (by first | assumption | rfl) (by first | assumption | exact Nat.le_of_ble_eq_true rfl | omega) (by omega) (Nat.le_of_ble_eq_true rfl) (c_tgt (by omega) cd8 hc hv hi ?_)
  refine X_istore_n dX5_usersAhead_5 rfl rfl ?_
  refine X_iconst (v := nI 0) dX5_usersAhead_6 (by decide) ?_
  refine X_istore_n dX5_usersAhead_7 rfl rfl ?_
  refine X_iconst (v := nI 0) dX5_usersAhead_8 (by decide) ?_
  refine X_istore dX5_usersAhead_9 rfl rfl ?_
  exact loop i 0 rfl (Nat.zero_le i)
end CL
