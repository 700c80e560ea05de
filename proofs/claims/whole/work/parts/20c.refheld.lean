/-! which values are held, by the reference -/
theorem pm_le {a t : Nat} (ha : a < 2 ^ 31) (ht : t < 2 ^ 31) : nI a ≤ nI t + Int32.ofInt (-1) ↔ a < t := by
  cases t with
  | zero => exact ⟨fun h => absurd (Int32.lt_of_le_of_lt h pm_0) (nneg ha), fun h => absurd h (Nat.not_lt_zero a)⟩
  | succ t =>
    rw [pm_s, nle (by omega) ha]
    omega
theorem pm_gt {a t : Nat} (ha : a < 2 ^ 31) (ht : t < 2 ^ 31) : nI t + Int32.ofInt (-1) < nI a ↔ t ≤ a := by
  rw [← Int32.not_le, pm_le ha ht]
  omega
theorem inj_surj : ∀ (n : Nat) (o : Nat → Nat), (∀ k, k < n → o k < n) → (∀ q q', q < n → q' < n → o q = o q' → q = q') → ∀ i, i < n → ∃ k, k < n ∧ o k = i
  | 0, _, _, _, i, h => absurd h (Nat.not_lt_zero i)
  | n + 1, o, hon, hinj, i, hi => by
    by_cases hj : o n = i
    · exact ⟨n, Nat.lt_succ_self n, hj⟩
    have ne : ∀ k, k < n → o k ≠ o n := fun k hk q => by have := hinj k n (by omega) (by omega) q; omega
    have hS := inj_surj n (fun k => if o k = n then o n else o k) (fun k hk => by
      have h1 := hon k (by omega)
      have h2 := hon n (by omega)
      have h3 := ne k hk
      split
      · omega
      · omega) (fun q q' h1 h2 h => by
      have h3 := ne q h1
      have h4 := ne q' h2
      by_cases e1 : o q = n
      · by_cases e2 : o q' = n
        · exact hinj q q' (by omega) (by omega) (by omega)
        · rw [if_pos e1, if_neg e2] at h; omega
      · by_cases e2 : o q' = n
        · rw [if_neg e1, if_pos e2] at h; omega
        · rw [if_neg e1, if_neg e2] at h; exact hinj q q' (by omega) (by omega) h)
    by_cases hin : i = n
    · have h2 := hon n (by omega)
      obtain ⟨k, hk, e⟩ := hS (o n) (by omega)
      by_cases e1 : o k = n
      · exact ⟨k, by omega, by omega⟩
      · rw [if_neg e1] at e
        exact absurd e (ne k hk)
    · obtain ⟨k, hk, e⟩ := hS i (by omega)
      by_cases e1 : o k = n
      · rw [if_pos e1] at e; exact absurd e hj
      · rw [if_neg e1] at e; exact ⟨k, by omega, e⟩
section RH
variable {G : GG} {d : Nat} {sw : Bool} {I : Nat → Nat → Int32} {J : Nat → Nat → Int64} {s : SS} {n W : Nat} {c : Nat → Nat → Nat}
set_option maxRecDepth 20000 in
theorem m_ones {Q : Int32 → Mm → Prop} {M : Mm} {a : Nat} (ha : a < 65536) (hQ : Q (nI (on a 16)) M) : Y G d zX12_ones [vi (nI a)] M 0 0 (qi Q) := by
  have loop : ∀ (m k : Nat), m = 16 - k → k ≤ 16 → X G d zX12_ones 4 [(0, vi (nI a)), (1, vi (nI (on a k))), (2, vi (nI k))] [] M 0 0 (qi Q) := by
    intro m
    induction m with
    | zero =>
      intro k hm hk
      obtain rfl : k = 16 := by omega
      refine X_iload_n dX12_ones_4 rfl ?_
      refine X_bipush (v := nI 16) dX12_ones_5 (by decide) ?_
      refine X_icmp_ge (tgt := 24) dX12_ones_7 (by decide) (fun b => ?_) (fun b => ?_)
      · refine X_iload_n dX12_ones_24 rfl ?_
        exact X_iret dX12_ones_25 rfl ⟨_, rfl, hQ⟩
      · exact absurd (by decide) b
    | succ m ih =>
      intro k hm hk
      refine X_iload_n dX12_ones_4 rfl ?_
      refine X_bipush (v := nI 16) dX12_ones_5 (by decide) ?_
      refine X_icmp_ge (tgt := 24) dX12_ones_7 (by decide) (fun b => ?_) (fun b => ?_)
      · exact absurd ((nle (by omega) (by omega)).mp b) (by omega)
      refine X_iload_n dX12_ones_10 rfl ?_
      refine X_iload_n dX12_ones_11 rfl ?_
      refine X_iload_n dX12_ones_12 rfl ?_
      first | refine X_ishrN dX12_ones_13 (by omega) (by omega) ?_ | refine X_ishr dX12_ones_13 ?_
      refine X_iconst (v := nI 1) dX12_ones_14 (by decide) ?_
      first | refine X_iandN dX12_ones_15 ?_ | refine X_iandC dX12_ones_15 ?_ | refine X_iand dX12_ones_15 ?_
      rw [Nat.and_one_is_mod]
      first | refine X_iaddN dX12_ones_16 ?_ | refine X_iadd dX12_ones_16 ?_
      refine X_istore_n dX12_ones_17 rfl rfl ?_
      first | refine X_iinc1 dX12_ones_18 rfl rfl rfl ?_ | refine X_iinc dX12_ones_18 rfl rfl rfl rfl ?_
      refine X_goto (tgt := 4) dX12_ones_21 (by decide) ?_
      exact ih (k + 1) (by omega) (by omega)
  refine Y_of rfl rfl (Nat.le_of_ble_eq_true rfl) rfl ?_
  refine X_iconst (v := nI 0) dX12_ones_0 (by decide) ?_
  refine X_istore_n dX12_ones_1 rfl rfl ?_
  refine X_iconst (v := nI 0) dX12_ones_2 (by decide) ?_
  refine X_istore_n dX12_ones_3 rfl rfl ?_
  exact loop 16 0 rfl (Nat.zero_le _)
set_option maxRecDepth 20000 in
theorem m_holdFrom {Q : Mm → Prop} {v f t : Nat} {H : Nat → Nat} (hv : v < 16) (hf : f ≤ 13) (ht : t ≤ n + 1) (hn : n ≤ 12) (hH : ∀ p, p ≤ n → I 195 p = nI (H p)) (hQ : ∀ I', FrM [195] [] I I' → (∀ p, p ≤ n → I' 195 p = nI (if f ≤ p ∧ p < t then H p ||| 2 ^ v else H p)) → Q (NC, I', J, layR sw)) : Y G d zX12_holdFrom [vr 170, vi (nI v), vi (nI f), vi (nI t + Int32.ofInt (-1))] (NC, I, J, layR sw) 0 0 (qv Q) := by
  have loop : ∀ (m p : Nat) (I' : Nat → Nat → Int32), m = 13 - p → f ≤ p → p ≤ 13 → FrM [195] [] I I' → (∀ q, q ≤ n → I' 195 q = nI (if f ≤ q ∧ q < p ∧ q < t then H q ||| 2 ^ v else H q)) → X G d zX12_holdFrom 3 [(0, vr 170), (1, vi (nI v)), (2, vi (nI f)), (3, vi (nI t + Int32.ofInt (-1))), (4, vi (nI p))] [] (NC, I', J, layR sw) 0 0 (qv Q) := by
    intro m
    induction m with
    | zero =>
      intro p I' hm hfp hp hF hh
      obtain rfl : p = 13 := by omega
      refine X_iload dX12_holdFrom_3 rfl ?_
      refine X_iload_n dX12_holdFrom_5 rfl ?_
      refine X_icmp_gt (tgt := 28) dX12_holdFrom_6 (by decide) (fun b => ?_) (fun b => ?_)
      · refine X_vret dX12_holdFrom_28 rfl ⟨rfl, hQ I' hF (fun q hq => ?_)⟩
        rw [hh q hq]
        refine congrArg nI ?_
        by_cases h : f ≤ q ∧ q < t
        · rw [if_pos h, if_pos ⟨h.1, by omega, h.2⟩]
        · rw [if_neg h, if_neg (fun z => h ⟨z.1, z.2.2⟩)]
      · exact absurd ((pm_gt (by omega) (by omega)).mpr (by omega)) b
    | succ m ih =>
      intro p I' hm hfp hp hF hh
      refine X_iload dX12_holdFrom_3 rfl ?_
      refine X_iload_n dX12_holdFrom_5 rfl ?_
      refine X_icmp_gt (tgt := 28) dX12_holdFrom_6 (by decide) (fun b => ?_) (fun b => ?_)
      · have b := (pm_gt (by omega) (by omega)).mp b
        refine X_vret dX12_holdFrom_28 rfl ⟨rfl, hQ I' hF (fun q hq => ?_)⟩
        rw [hh q hq]
        refine congrArg nI ?_
        by_cases h : f ≤ q ∧ q < t
        · rw [if_pos h, if_pos ⟨h.1, by omega, h.2⟩]
        · rw [if_neg h, if_neg (fun z => h ⟨z.1, z.2.2⟩)]
      · have hpt : p < t := by
          have : ¬ t ≤ p := fun q => b ((pm_gt (by omega) (by omega)).mpr q)
          omega
        refine X_aload_n dX12_holdFrom_9 rfl ?_
        refine X_getR dX12_holdFrom_10 gf_X12_83 (by first | assumption | rfl) (by first | assumption | exact Nat.le_of_ble_eq_true rfl | omega) rfl (by first | assumption | rfl) ?_
        refine X_iload dX12_holdFrom_13 rfl ?_
        refine X_dup2 dX12_holdFrom_15 rfl rfl ?_
        first | refine X_iald dX12_holdFrom_16 (by first | assumption | rfl) (by first | assumption | exact Nat.le_of_ble_eq_true rfl | omega) rfl (by first | decide | omega) (by decide) ?_ | refine X_ildA dX12_holdFrom_16 rfl (by omega) ?_ | refine X_ildM dX12_holdFrom_16 rfl (by omega) ?_ | refine X_sld dX12_holdFrom_16 rfl (by omega) (by omega) ?_
        rw [hh p (by omega), if_neg (by omega)]
        refine X_iconst (v := nI 1) dX12_holdFrom_17 (by decide) ?_
        refine X_iload_n dX12_holdFrom_18 rfl ?_
        first | refine X_ishl1 dX12_holdFrom_19 (by omega) ?_ | refine X_ishl dX12_holdFrom_19 ?_
        first | refine X_iorN dX12_holdFrom_20 ?_ | refine X_ior dX12_holdFrom_20 ?_
        refine X_iast dX12_holdFrom_21 (by first | assumption | rfl) (by first | assumption | exact Nat.le_of_ble_eq_true rfl | omega) rfl (by first | decide | omega) (by decide) ?_
        first | refine X_iinc1 dX12_holdFrom_22 rfl rfl rfl ?_ | refine X_iinc dX12_holdFrom_22 rfl rfl rfl rfl ?_
        refine X_goto (tgt := 3) dX12_holdFrom_25 (by decide) ?_
        refine ih (p + 1) _ (by omega) (by omega) (by omega) (hF.tr (FrM.c (by simp) (by decide))) (fun q hq => ?_)
        rw [sr_eq]
        by_cases hqp : q = p
        · rw [hqp, up_eq, if_pos ⟨hfp, by omega, hpt⟩]
        · rw [up_ne hqp, hh q hq]
          refine congrArg nI ?_
          by_cases h : f ≤ q ∧ q < p ∧ q < t
          · rw [if_pos h, if_pos ⟨h.1, by omega, h.2.2⟩]
          · rw [if_neg h, if_neg (fun z => h ⟨z.1, by omega, z.2.2⟩)]
  refine Y_of rfl rfl (Nat.le_of_ble_eq_true rfl) rfl ?_
  refine X_iload_n dX12_holdFrom_0 rfl ?_
  refine X_istore dX12_holdFrom_1 rfl rfl ?_
  exact loop (13 - f) f I rfl (Nat.le_refl f) hf FrM.rf (fun q hq => by rw [if_neg (by omega)]; exact hH q hq)
theorem tlR_le {pl : Nat → Nat} {v T : Nat} (hpl : ∀ i, i < n → pl i < n) (hT : T ≤ n + 1) : ∀ k, k ≤ n → tlR c pl v T k ≤ n + 1
  | 0, _ => hT
  | k + 1, h => by
    have ih := tlR_le (v := v) hpl hT k (by omega)
    have := hpl k (by omega)
    unfold tlR
    split
    · omega
    · exact ih
theorem frm_le {pl : Nat → Nat} {v : Nat} (hpl : ∀ i, i < n → pl i < n) (hv : v < 4 + n) : frm pl v ≤ n := by
  unfold frm
  split
  · omega
  · have := hpl (v - 4) (by omega); omega
theorem tl0_le {pl : Nat → Nat} {v : Nat} (hpl : ∀ i, i < n → pl i < n) (hv : v < 4 + n) : tl0 pl v ≤ n + 1 := by
  unfold tl0
  split
  · omega
  · have := hpl (v - 4) (by omega); omega
theorem tl_le {pl : Nat → Nat} {v : Nat} (hpl : ∀ i, i < n → pl i < n) (hv : v < 4 + n) : tl c n W pl v ≤ n + 1 := by
  unfold tl
  split
  · omega
  · exact tlR_le hpl (tl0_le hpl hv) n (Nat.le_refl n)
def TLr (c : Nat → Nat → Nat) (n W v T r : Nat) : Nat := if (vinr c W n r).testBit v = true then n + 1 else T
theorem TLr_0 {v T : Nat} : TLr c n W v T 0 = T := if_neg (by rw [show vinr c W n 0 = 0 from rfl, Nat.zero_testBit]; decide)
theorem TLr_4 {pl : Nat → Nat} {v : Nat} : TLr c n W v (tlR c pl v (tl0 pl v) n) 4 = tl c n W pl v := rfl
theorem TLr_hit {v T r : Nat} (h1 : W.testBit r = true) (h2 : vlu c n r = v) : TLr c n W v T (r + 1) = n + 1 :=
  if_pos ((vinr_bit (r + 1)).mpr ⟨r, Nat.lt_succ_self r, h1, h2⟩)
theorem TLr_miss {v T r : Nat} (h : ¬ (W.testBit r = true ∧ vlu c n r = v)) : TLr c n W v T (r + 1) = TLr c n W v T r := by
  unfold TLr
  by_cases h1 : (vinr c W n r).testBit v = true
  · obtain ⟨q, h2, h3⟩ := (vinr_bit r).mp h1
    rw [if_pos h1, if_pos ((vinr_bit (r + 1)).mpr ⟨q, by omega, h3⟩)]
  · rw [if_neg h1, if_neg]
    intro h2
    obtain ⟨q, h3, h4⟩ := (vinr_bit (r + 1)).mp h2
    by_cases hq : q = r
    · rw [hq] at h4; exact h h4
    · exact h1 ((vinr_bit r).mpr ⟨q, by omega, h4⟩)
set_option maxRecDepth 20000 in
set_option maxHeartbeats 1000000 in
theorem m_findHeld {Q : Mm → Prop} {o pl : Nat → Nat} (hd : 4 ≤ d) (hc : RC I n c) (hv : VC n c) (hw : I 170 12 = nI W) (hW : W < 16) (ho : ∀ k, k < n → I 192 k = nI (o k)) (hon : ∀ k, k < n → o k < n) (hpl : ∀ k, k < n → pl (o k) = k) (hsu : ∀ i, i < n → ∃ k, k < n ∧ o k = i) (hQ : ∀ I', FrM [195, 196] [] I I' → (∀ p, p ≤ n → I' 195 p = nI (hlB c n W pl p)) → Q (NC, I', J, layR sw)) : Y G d zX12_findHeld [vr 170] (NC, I, J, layR sw) 0 0 (qv Q) := by
  have hn := hv.1
  have hpn : ∀ i, i < n → pl i < n := fun i hi => by
    obtain ⟨k, hk, rfl⟩ := hsu i hi
    rw [hpl k hk]; exact hk
  have hinj : ∀ q q', q < n → q' < n → o q = o q' → q = q' := fun q q' h1 h2 h => by rw [← hpl q h1, h, hpl q' h2]
  have fc : ∀ I', FrM [195, 196] [] I I' → RC I' n c := fun I' f => RC_fm hc f (by decide) (by decide)
  have loopV : ∀ (m v : Nat) (I' : Nat → Nat → Int32), m = 4 + n - v → v ≤ 4 + n → FrM [195, 196] [] I I' → (∀ i, i < n → I' 196 i = nI (pl i)) → (∀ p, p ≤ n → I' 195 p = nI (bts (fun v => decide (frm pl v ≤ p ∧ p < tl c n W pl v)) v)) → X G d zX12_findHeld 53 [(0, vr 170), (1, vi (nI v))] [] (NC, I', J, layR sw) 0 0 (qv Q) := by
    intro m
    induction m with
    | zero =>
      intro v I' hm hvn hF hP hH
      obtain rfl : v = 4 + n := by omega
      refine X_iload_n dX12_findHeld_53 rfl ?_
      refine X_iconst (v := nI 4) dX12_findHeld_54 (by decide) ?_
      refine X_aload_n dX12_findHeld_55 rfl ?_
      refine X_getI dX12_findHeld_56 gf_X12_181 (by first | assumption | rfl) (by first | assumption | exact Nat.le_of_ble_eq_true rfl | omega) rfl ?_
      rw [(fc I' hF).1]
      first | refine X_iaddN dX12_findHeld_59 ?_ | refine X_iadd dX12_findHeld_59 ?_
      refine X_icmp_ge (tgt := 233) dX12_findHeld_60 (by decide) (fun b => ?_) (fun b => ?_)
      · exact X_vret dX12_findHeld_233 rfl ⟨rfl, hQ I' hF hH⟩
      · exact absurd (Int32.le_refl _) b
    | succ m ih =>
      intro v I' hm hvn hF hP hH
      have hv4 : v < 4 + n := by omega
      have hc' := fc I' hF
      have hw' : I' 170 12 = nI W := by rw [hF.2 12 (by simp)]; exact hw
      have hfr := frm_le hpn hv4
      have htl := tl_le (c := c) (W := W) hpn hv4
      have t0l := tl0_le hpn hv4
      have t220 : ∀ L2, X G d zX12_findHeld 220 ([(0, vr 170), (1, vi (nI v)), (2, vi (nI (frm pl v))), (3, vi (nI (tl c n W pl v) + Int32.ofInt (-1)))] ++ L2) [] (NC, I', J, layR sw) 0 0 (qv Q) := by
        intro L2
        refine weak (lv' := [(0, vr 170), (1, vi (nI v)), (2, vi (nI (frm pl v))), (3, vi (nI (tl c n W pl v) + Int32.ofInt (-1)))]) (fun q hq => List.mem_append_left _ hq) ?_
        refine X_aload_n dX12_findHeld_220 rfl ?_
        refine X_iload_n dX12_findHeld_221 rfl ?_
        refine X_iload_n dX12_findHeld_222 rfl ?_
        refine X_iload_n dX12_findHeld_223 rfl ?_
        refine X_cVv dX12_findHeld_224 ck_X12_333 rfl rfl (by first | assumption | rfl) (by first | assumption | exact Nat.le_of_ble_eq_true rfl | omega) (by omega) (Nat.le_of_ble_eq_true rfl) (m_holdFrom (n := n) (v := v) (f := frm pl v) (t := tl c n W pl v) (H := fun p => bts (fun v => decide (frm pl v ≤ p ∧ p < tl c n W pl v)) v) (by omega) (by omega) htl hn hH (fun I2 f2 h2 => ?_))
        first | refine X_iinc1 dX12_findHeld_227 rfl rfl rfl ?_ | refine X_iinc dX12_findHeld_227 rfl rfl rfl rfl ?_
        refine X_goto (tgt := 53) dX12_findHeld_230 (by decide) ?_
        refine weak (lv' := [(0, vr 170), (1, vi (nI (v + 1)))]) (fun q hq => List.mem_append_left _ hq) ?_
        refine ih (v + 1) I2 (by omega) (by omega) (hF.tr ⟨fun j h1 h2 => f2.1 j h1 (fun q => h2 (by simp at q ⊢; omega)), f2.2⟩) (fun i hi => by rw [f2.1 196 (by decide) (by decide)]; exact hP i hi) (fun p hp => ?_)
        rw [h2 p hp]
        refine congrArg nI ?_
        by_cases h : frm pl v ≤ p ∧ p < tl c n W pl v
        · rw [if_pos h, bts_t (by simpa using h)]
        · rw [if_neg h, bts_f (by simpa using h)]
      have loopR : ∀ (m r : Nat), m = 4 - r → r ≤ 4 → X G d zX12_findHeld 172 [(0, vr 170), (1, vi (nI v)), (2, vi (nI (frm pl v))), (3, vi (nI (TLr c n W v (tlR c pl v (tl0 pl v) n) r) + Int32.ofInt (-1))), (4, vi (nI r))] [] (NC, I', J, layR sw) 0 0 (qv Q) := by
        intro m
        induction m with
        | zero =>
          intro r hm hr
          obtain rfl : r = 4 := by omega
          refine X_iload dX12_findHeld_172 rfl ?_
          refine X_iconst (v := nI 4) dX12_findHeld_174 (by decide) ?_
          refine X_icmp_ge (tgt := 220) dX12_findHeld_175 (by decide) (fun b => ?_) (fun b => ?_)
          · rw [TLr_4]
            exact t220 [(4, vi (nI 4))]
          · exact absurd (by decide) b
        | succ m ih =>
          intro r hm hr
          have ih := ih (r + 1) (by omega) (by omega)
          have hlv := vlu_lt c n r (by omega)
          have miss : ¬ (W.testBit r = true ∧ vlu c n r = v) → X G d zX12_findHeld 212 [(0, vr 170), (1, vi (nI v)), (2, vi (nI (frm pl v))), (3, vi (nI (TLr c n W v (tlR c pl v (tl0 pl v) n) r) + Int32.ofInt (-1))), (4, vi (nI r))] [] (NC, I', J, layR sw) 0 0 (qv Q) := by
            intro h
            rw [TLr_miss h] at ih
            refine X_iload_n dX12_findHeld_212 rfl ?_
            refine X_istore_n dX12_findHeld_213 rfl rfl ?_
            first | refine X_iinc1 dX12_findHeld_214 rfl rfl rfl ?_ | refine X_iinc dX12_findHeld_214 rfl rfl rfl rfl ?_
            refine X_goto (tgt := 172) dX12_findHeld_217 (by decide) ?_
            exact ih
          refine X_iload dX12_findHeld_172 rfl ?_
          refine X_iconst (v := nI 4) dX12_findHeld_174 (by decide) ?_
          refine X_icmp_ge (tgt := 220) dX12_findHeld_175 (by decide) (fun b => ?_) (fun b => ?_)
          · exact absurd ((nle (by omega) (by omega)).mp b) (by omega)
          refine X_aload_n dX12_findHeld_178 rfl ?_
          refine X_getI dX12_findHeld_179 gf_X12_116 (by first | assumption | rfl) (by first | assumption | exact Nat.le_of_ble_eq_true rfl | omega) rfl ?_
          rw [hw']
          refine X_iload dX12_findHeld_182 rfl ?_
          first | refine X_ishrN dX12_findHeld_184 (by omega) (by omega) ?_ | refine X_ishr dX12_findHeld_184 ?_
          refine X_iconst (v := nI 1) dX12_findHeld_185 (by decide) ?_
          first | refine X_iandN dX12_findHeld_186 ?_ | refine X_iandC dX12_findHeld_186 ?_ | refine X_iand dX12_findHeld_186 ?_
          rw [Nat.and_one_is_mod, bit_mod]
          refine X_iconst (v := nI 1) dX12_findHeld_187 (by decide) ?_
          by_cases hb : W.testBit r = true
          · rw [if_pos hb]
            refine X_icmp_ne (tgt := 212) dX12_findHeld_188 (by decide) (fun b188 => ?_) (fun b188 => ?_)
            · exact absurd rfl b188
            refine X_aload_n dX12_findHeld_191 rfl ?_
            refine X_iload dX12_findHeld_192 rfl ?_
            refine X_aload_n dX12_findHeld_194 rfl ?_
            refine X_getI dX12_findHeld_195 gf_X12_181 (by first | assumption | rfl) (by first | assumption | exact Nat.le_of_ble_eq_true rfl | omega) rfl ?_
            rw [hc'.1]
            refine X_cVi dX12_findHeld_198 ck_X12_327 rfl rfl (by first | assumption | rfl) (by first | assumption | exact Nat.le_of_ble_eq_true rfl | omega) (by omega) (Nat.le_of_ble_eq_true rfl) (m_valueIn (by omega) hc' hv (Nat.le_refl n) (by omega) ?_)
            refine X_iload_n dX12_findHeld_201 rfl ?_
            refine X_icmp_ne (tgt := 212) dX12_findHeld_202 (by decide) (fun b202 => ?_) (fun b202 => ?_)
            · exact miss (fun q => b202 (by rw [q.2]))
            · rw [TLr_hit hb ((neq (by omega) (by omega)).mp b202), pm_s] at ih
              refine X_aload_n dX12_findHeld_205 rfl ?_
              refine X_getI dX12_findHeld_206 gf_X12_181 (by first | assumption | rfl) (by first | assumption | exact Nat.le_of_ble_eq_true rfl | omega) rfl ?_
              rw [hc'.1]
              refine X_goto (tgt := 213) dX12_findHeld_209 (by decide) ?_
              refine X_istore_n dX12_findHeld_213 rfl rfl ?_
              first | refine X_iinc1 dX12_findHeld_214 rfl rfl rfl ?_ | refine X_iinc dX12_findHeld_214 rfl rfl rfl rfl ?_
              refine X_goto (tgt := 172) dX12_findHeld_217 (by decide) ?_
              exact ih
          · rw [if_neg hb]
            refine X_icmp_ne (tgt := 212) dX12_findHeld_188 (by decide) (fun b188 => ?_) (fun b188 => ?_)
            · exact miss (fun q => hb q.1)
            · exact absurd b188 (by decide)
      have loopI : ∀ (m i : Nat), m = n - i → i ≤ n → X G d zX12_findHeld 97 [(0, vr 170), (1, vi (nI v)), (2, vi (nI (frm pl v))), (3, vi (nI (tlR c pl v (tl0 pl v) i) + Int32.ofInt (-1))), (4, vi (nI i))] [] (NC, I', J, layR sw) 0 0 (qv Q) := by
        intro m
        induction m with
        | zero =>
          intro i hm hi
          obtain rfl : i = n := by omega
          refine X_iload dX12_findHeld_97 rfl ?_
          refine X_aload_n dX12_findHeld_99 rfl ?_
          refine X_getI dX12_findHeld_100 gf_X12_181 (by first | assumption | rfl) (by first | assumption | exact Nat.le_of_ble_eq_true rfl | omega) rfl ?_
          rw [hc'.1]
          refine X_icmp_ge (tgt := 169) dX12_findHeld_103 (by decide) (fun b => ?_) (fun b => ?_)
          · refine X_iconst (v := nI 0) dX12_findHeld_169 (by decide) ?_
            refine X_istore dX12_findHeld_170 rfl rfl ?_
            have l4 := loopR 4 0 rfl (Nat.zero_le _)
            rw [TLr_0] at l4
            exact l4
          · exact absurd (Int32.le_refl _) b
        | succ m ih =>
          intro i hm hi
          have hin : i < n := by omega
          have ih := ih (i + 1) (by omega) (by omega)
          have htb := tlR_le (c := c) (v := v) hpn t0l i (by omega)
          have hpi := hpn i hin
          have i1 : ∀ w, w < 4 → (enc (srcv c i (c i w)) = nI v ↔ srcv c i (c i w) = v) := fun w hw => by
            have := srcv_ok c i (c i w)
            rw [← enc_n (v := v) (by omega)]
            exact enc_inj (by omega) (by omega)
          have miss : ¬ rds c i v = true → X G d zX12_findHeld 132 [(0, vr 170), (1, vi (nI v)), (2, vi (nI (frm pl v))), (3, vi (nI (tlR c pl v (tl0 pl v) i) + Int32.ofInt (-1))), (4, vi (nI i))] [] (NC, I', J, layR sw) 0 0 (qv Q) := by
            intro h
            rw [show tlR c pl v (tl0 pl v) (i + 1) = tlR c pl v (tl0 pl v) i from if_neg h] at ih
            refine X_iconst (v := nI 0) dX12_findHeld_132 (by decide) ?_
            refine X_istore dX12_findHeld_133 rfl rfl ?_
            refine X_iload dX12_findHeld_135 rfl ?_
            refine X_if_eq (tgt := 161) dX12_findHeld_137 (by decide) (fun b137 => ?_) (fun b137 => ?_)
            · refine X_iload_n dX12_findHeld_161 rfl ?_
              refine X_istore_n dX12_findHeld_162 rfl rfl ?_
              first | refine X_iinc1 dX12_findHeld_163 rfl rfl rfl ?_ | refine X_iinc dX12_findHeld_163 rfl rfl rfl rfl ?_
              refine X_goto (tgt := 97) dX12_findHeld_166 (by decide) ?_
              refine weak (lv' := [(0, vr 170), (1, vi (nI v)), (2, vi (nI (frm pl v))), (3, vi (nI (tlR c pl v (tl0 pl v) i) + Int32.ofInt (-1))), (4, vi (nI (i + 1)))]) (fun q hq => List.mem_append_left _ hq) ?_
              exact ih
            · exact absurd rfl b137
          have hit : rds c i v = true → X G d zX12_findHeld 128 [(0, vr 170), (1, vi (nI v)), (2, vi (nI (frm pl v))), (3, vi (nI (tlR c pl v (tl0 pl v) i) + Int32.ofInt (-1))), (4, vi (nI i))] [] (NC, I', J, layR sw) 0 0 (qv Q) := by
            intro h
            rw [show tlR c pl v (tl0 pl v) (i + 1) = max (tlR c pl v (tl0 pl v) i) (pl i + 1) from if_pos h] at ih
            refine X_iconst (v := nI 1) dX12_findHeld_128 (by decide) ?_
            refine X_goto (tgt := 133) dX12_findHeld_129 (by decide) ?_
            refine X_istore dX12_findHeld_133 rfl rfl ?_
            refine X_iload dX12_findHeld_135 rfl ?_
            refine X_if_eq (tgt := 161) dX12_findHeld_137 (by decide) (fun b137 => ?_) (fun b137 => ?_)
            · exact absurd b137 (by decide)
            refine X_aload_n dX12_findHeld_140 rfl ?_
            refine X_getR dX12_findHeld_141 gf_X12_86 (by first | assumption | rfl) (by first | assumption | exact Nat.le_of_ble_eq_true rfl | omega) rfl (by first | assumption | rfl) ?_
            refine X_iload dX12_findHeld_144 rfl ?_
            first | refine X_iald dX12_findHeld_146 (by first | assumption | rfl) (by first | assumption | exact Nat.le_of_ble_eq_true rfl | omega) rfl (by first | decide | omega) (by decide) ?_ | refine X_ildA dX12_findHeld_146 rfl (by omega) ?_ | refine X_ildM dX12_findHeld_146 rfl (by omega) ?_ | refine X_sld dX12_findHeld_146 rfl (by omega) (by omega) ?_
            rw [hP i hin]
            refine X_iload_n dX12_findHeld_147 rfl ?_
            refine X_icmp_le (tgt := 161) dX12_findHeld_148 (by decide) (fun b148 => ?_) (fun b148 => ?_)
            · have := (pm_le (by omega) (by omega)).mp b148
              rw [Nat.max_eq_left (by omega)] at ih
              refine X_iload_n dX12_findHeld_161 rfl ?_
              refine X_istore_n dX12_findHeld_162 rfl rfl ?_
              first | refine X_iinc1 dX12_findHeld_163 rfl rfl rfl ?_ | refine X_iinc dX12_findHeld_163 rfl rfl rfl rfl ?_
              refine X_goto (tgt := 97) dX12_findHeld_166 (by decide) ?_
              refine weak (lv' := [(0, vr 170), (1, vi (nI v)), (2, vi (nI (frm pl v))), (3, vi (nI (tlR c pl v (tl0 pl v) i) + Int32.ofInt (-1))), (4, vi (nI (i + 1)))]) (fun q hq => List.mem_append_left _ hq) ?_
              exact ih
            · have : ¬ pl i < tlR c pl v (tl0 pl v) i := fun q => b148 ((pm_le (by omega) (by omega)).mpr q)
              rw [Nat.max_eq_right (by omega), pm_s] at ih
              refine X_aload_n dX12_findHeld_151 rfl ?_
              refine X_getR dX12_findHeld_152 gf_X12_86 (by first | assumption | rfl) (by first | assumption | exact Nat.le_of_ble_eq_true rfl | omega) rfl (by first | assumption | rfl) ?_
              refine X_iload dX12_findHeld_155 rfl ?_
              first | refine X_iald dX12_findHeld_157 (by first | assumption | rfl) (by first | assumption | exact Nat.le_of_ble_eq_true rfl | omega) rfl (by first | decide | omega) (by decide) ?_ | refine X_ildA dX12_findHeld_157 rfl (by omega) ?_ | refine X_ildM dX12_findHeld_157 rfl (by omega) ?_ | refine X_sld dX12_findHeld_157 rfl (by omega) (by omega) ?_
              rw [hP i hin]
              refine X_goto (tgt := 162) dX12_findHeld_158 (by decide) ?_
              refine X_istore_n dX12_findHeld_162 rfl rfl ?_
              first | refine X_iinc1 dX12_findHeld_163 rfl rfl rfl ?_ | refine X_iinc dX12_findHeld_163 rfl rfl rfl rfl ?_
              refine X_goto (tgt := 97) dX12_findHeld_166 (by decide) ?_
              refine weak (lv' := [(0, vr 170), (1, vi (nI v)), (2, vi (nI (frm pl v))), (3, vi (nI (pl i))), (4, vi (nI (i + 1)))]) (fun q hq => List.mem_append_left _ hq) ?_
              exact ih
          refine X_iload dX12_findHeld_97 rfl ?_
          refine X_aload_n dX12_findHeld_99 rfl ?_
          refine X_getI dX12_findHeld_100 gf_X12_181 (by first | assumption | rfl) (by first | assumption | exact Nat.le_of_ble_eq_true rfl | omega) rfl ?_
          rw [hc'.1]
          refine X_icmp_ge (tgt := 169) dX12_findHeld_103 (by decide) (fun b => ?_) (fun b => ?_)
          · exact absurd ((nle (by omega) (by omega)).mp b) (by omega)
          refine X_aload_n dX12_findHeld_106 rfl ?_
          refine X_iload dX12_findHeld_107 rfl ?_
          refine X_iconst (v := nI 0) dX12_findHeld_109 (by decide) ?_
          refine X_cVi dX12_findHeld_110 ck_X12_330 rfl rfl (by first | assumption | rfl) (by first | assumption | exact Nat.le_of_ble_eq_true rfl | omega) (by omega) (Nat.le_of_ble_eq_true rfl) (m_reads (k := 0) (by omega) hc' hv hin (by decide) ?_)
          refine X_iload_n dX12_findHeld_113 rfl ?_
          refine X_icmp_eq (tgt := 128) dX12_findHeld_114 (by decide) (fun b114 => ?_) (fun b114 => ?_)
          · exact hit (decide_eq_true (Or.inl ((i1 2 (by decide)).mp b114)))
          refine X_aload_n dX12_findHeld_117 rfl ?_
          refine X_iload dX12_findHeld_118 rfl ?_
          refine X_iconst (v := nI 1) dX12_findHeld_120 (by decide) ?_
          refine X_cVi dX12_findHeld_121 ck_X12_330 rfl rfl (by first | assumption | rfl) (by first | assumption | exact Nat.le_of_ble_eq_true rfl | omega) (by omega) (Nat.le_of_ble_eq_true rfl) (m_reads (k := 1) (by omega) hc' hv hin (by decide) ?_)
          refine X_iload_n dX12_findHeld_124 rfl ?_
          refine X_icmp_ne (tgt := 132) dX12_findHeld_125 (by decide) (fun b125 => ?_) (fun b125 => ?_)
          · refine miss (fun q => ?_)
            rcases of_decide_eq_true q with q | q
            · exact b114 ((i1 2 (by decide)).mpr q)
            · exact b125 ((i1 3 (by decide)).mpr q)
          · exact hit (decide_eq_true (Or.inr ((i1 3 (by decide)).mp b125)))
      refine X_iload_n dX12_findHeld_53 rfl ?_
      refine X_iconst (v := nI 4) dX12_findHeld_54 (by decide) ?_
      refine X_aload_n dX12_findHeld_55 rfl ?_
      refine X_getI dX12_findHeld_56 gf_X12_181 (by first | assumption | rfl) (by first | assumption | exact Nat.le_of_ble_eq_true rfl | omega) rfl ?_
      rw [(fc I' hF).1]
      first | refine X_iaddN dX12_findHeld_59 ?_ | refine X_iadd dX12_findHeld_59 ?_
      refine X_icmp_ge (tgt := 233) dX12_findHeld_60 (by decide) (fun b => ?_) (fun b => ?_)
      · exact absurd ((nle (by omega) (by omega)).mp b) (by omega)
      refine X_iload_n dX12_findHeld_63 rfl ?_
      refine X_iconst (v := nI 4) dX12_findHeld_64 (by decide) ?_
      by_cases h4 : v < 4
      · refine X_icmp_ge (tgt := 72) dX12_findHeld_65 (by decide) (fun b65 => ?_) (fun b65 => ?_)
        · exact absurd ((nle (by omega) (by omega)).mp b65) (by omega)
        rw [show frm pl v = 0 from if_pos h4, show tl0 pl v = 0 from if_pos h4] at loopI
        refine X_iconst (v := nI 0) dX12_findHeld_68 (by decide) ?_
        refine X_goto (tgt := 82) dX12_findHeld_69 (by decide) ?_
        refine X_istore_n dX12_findHeld_82 rfl rfl ?_
        refine X_iload_n dX12_findHeld_83 rfl ?_
        refine X_iconst (v := nI 4) dX12_findHeld_84 (by decide) ?_
        refine X_icmp_ge (tgt := 92) dX12_findHeld_85 (by decide) (fun b85 => ?_) (fun b85 => ?_)
        · exact absurd ((nle (by omega) (by omega)).mp b85) (by omega)
        refine X_iconst (v := (-1)) dX12_findHeld_88 (by decide) ?_
        refine X_goto (tgt := 93) dX12_findHeld_89 (by decide) ?_
        refine X_istore_n dX12_findHeld_93 rfl rfl ?_
        refine X_iconst (v := nI 0) dX12_findHeld_94 (by decide) ?_
        refine X_istore dX12_findHeld_95 rfl rfl ?_
        have l0 := loopI n 0 rfl (Nat.zero_le n)
        rw [show tlR c pl v 0 0 = 0 from rfl, show nI 0 + Int32.ofInt (-1) = -1 by decide] at l0
        exact l0
      · rw [show frm pl v = pl (v - 4) + 1 from if_neg h4, show tl0 pl v = pl (v - 4) + 1 + 1 from if_neg h4] at loopI
        have l0 := loopI n 0 rfl (Nat.zero_le n)
        rw [show tlR c pl v (pl (v - 4) + 1 + 1) 0 = pl (v - 4) + 1 + 1 from rfl, pm_s] at l0
        refine X_icmp_ge (tgt := 72) dX12_findHeld_65 (by decide) (fun b65 => ?_) (fun b65 => ?_)
        · refine X_aload_n dX12_findHeld_72 rfl ?_
          refine X_getR dX12_findHeld_73 gf_X12_86 (by first | assumption | rfl) (by first | assumption | exact Nat.le_of_ble_eq_true rfl | omega) rfl (by first | assumption | rfl) ?_
          refine X_iload_n dX12_findHeld_76 rfl ?_
          refine X_iconst (v := nI 4) dX12_findHeld_77 (by decide) ?_
          first | refine X_isubN dX12_findHeld_78 (by omega) ?_ | refine X_isub dX12_findHeld_78 ?_
          first | refine X_iald dX12_findHeld_79 (by first | assumption | rfl) (by first | assumption | exact Nat.le_of_ble_eq_true rfl | omega) rfl (by first | decide | omega) (by decide) ?_ | refine X_ildA dX12_findHeld_79 rfl (by omega) ?_ | refine X_ildM dX12_findHeld_79 rfl (by omega) ?_ | refine X_sld dX12_findHeld_79 rfl (by omega) (by omega) ?_
          rw [hP (v - 4) (by omega)]
          refine X_iconst (v := nI 1) dX12_findHeld_80 (by decide) ?_
          first | refine X_iaddN dX12_findHeld_81 ?_ | refine X_iadd dX12_findHeld_81 ?_
          refine X_istore_n dX12_findHeld_82 rfl rfl ?_
          refine X_iload_n dX12_findHeld_83 rfl ?_
          refine X_iconst (v := nI 4) dX12_findHeld_84 (by decide) ?_
          refine X_icmp_ge (tgt := 92) dX12_findHeld_85 (by decide) (fun b85 => ?_) (fun b85 => ?_)
          · refine X_iload_n dX12_findHeld_92 rfl ?_
            refine X_istore_n dX12_findHeld_93 rfl rfl ?_
            refine X_iconst (v := nI 0) dX12_findHeld_94 (by decide) ?_
            refine X_istore dX12_findHeld_95 rfl rfl ?_
            exact l0
          · exact absurd ((nle (by omega) (by omega)).mpr (by omega)) b85
        · exact absurd ((nle (by omega) (by omega)).mpr (by omega)) b65
  have loopB : ∀ (m k : Nat) (I' : Nat → Nat → Int32), m = n - k → k ≤ n → FrM [195, 196] [] I I' → (∀ j, j < k → I' 196 (o j) = nI j) → (∀ p, p ≤ n → I' 195 p = nI 0) → X G d zX12_findHeld 25 [(0, vr 170), (1, vi (nI k))] [] (NC, I', J, layR sw) 0 0 (qv Q) := by
    intro m
    induction m with
    | zero =>
      intro k I' hm hk hF hP hH
      obtain rfl : k = n := by omega
      refine X_iload_n dX12_findHeld_25 rfl ?_
      refine X_aload_n dX12_findHeld_26 rfl ?_
      refine X_getI dX12_findHeld_27 gf_X12_181 (by first | assumption | rfl) (by first | assumption | exact Nat.le_of_ble_eq_true rfl | omega) rfl ?_
      rw [(fc I' hF).1]
      refine X_icmp_ge (tgt := 51) dX12_findHeld_30 (by decide) (fun b => ?_) (fun b => ?_)
      · refine X_iconst (v := nI 0) dX12_findHeld_51 (by decide) ?_
        refine X_istore_n dX12_findHeld_52 rfl rfl ?_
        refine loopV (4 + k) 0 I' rfl (Nat.zero_le _) hF (fun i hi => ?_) (fun p hp => hH p hp)
        obtain ⟨j, hj, rfl⟩ := hsu i hi
        rw [hP j hj, hpl j hj]
      · exact absurd (Int32.le_refl _) b
    | succ m ih =>
      intro k I' hm hk hF hP hH
      have hkn : k < n := by omega
      have hok := hon k hkn
      refine X_iload_n dX12_findHeld_25 rfl ?_
      refine X_aload_n dX12_findHeld_26 rfl ?_
      refine X_getI dX12_findHeld_27 gf_X12_181 (by first | assumption | rfl) (by first | assumption | exact Nat.le_of_ble_eq_true rfl | omega) rfl ?_
      rw [(fc I' hF).1]
      refine X_icmp_ge (tgt := 51) dX12_findHeld_30 (by decide) (fun b => ?_) (fun b => ?_)
      · exact absurd ((nle (by omega) (by omega)).mp b) (by omega)
      refine X_aload_n dX12_findHeld_33 rfl ?_
      refine X_getR dX12_findHeld_34 gf_X12_86 (by first | assumption | rfl) (by first | assumption | exact Nat.le_of_ble_eq_true rfl | omega) rfl (by first | assumption | rfl) ?_
      refine X_aload_n dX12_findHeld_37 rfl ?_
      refine X_getR dX12_findHeld_38 gf_X12_74 (by first | assumption | rfl) (by first | assumption | exact Nat.le_of_ble_eq_true rfl | omega) rfl (by first | assumption | rfl) ?_
      refine X_iload_n dX12_findHeld_41 rfl ?_
      first | refine X_iald dX12_findHeld_42 (by first | assumption | rfl) (by first | assumption | exact Nat.le_of_ble_eq_true rfl | omega) rfl (by first | decide | omega) (by decide) ?_ | refine X_ildA dX12_findHeld_42 rfl (by omega) ?_ | refine X_ildM dX12_findHeld_42 rfl (by omega) ?_ | refine X_sld dX12_findHeld_42 rfl (by omega) (by omega) ?_
      rw [hF.1 192 (by decide) (by decide), ho k hkn]
      refine X_iload_n dX12_findHeld_43 rfl ?_
      refine X_iast dX12_findHeld_44 (by first | assumption | rfl) (by first | assumption | exact Nat.le_of_ble_eq_true rfl | omega) rfl (by first | decide | omega) (by decide) ?_
      first | refine X_iinc1 dX12_findHeld_45 rfl rfl rfl ?_ | refine X_iinc dX12_findHeld_45 rfl rfl rfl rfl ?_
      refine X_goto (tgt := 25) dX12_findHeld_48 (by decide) ?_
      refine ih (k + 1) _ (by omega) (by omega) (hF.tr (FrM.c (by simp) (by decide))) (fun j hj => ?_) (fun p hp => by rw [sr_ne (by decide)]; exact hH p hp)
      rw [sr_eq]
      by_cases hjk : j = k
      · rw [hjk, up_eq]
      · rw [up_ne (fun q => hjk (hinj j k (by omega) hkn q))]
        exact hP j (by omega)
  have loopA : ∀ (m p : Nat) (I' : Nat → Nat → Int32), m = n + 1 - p → p ≤ n + 1 → FrM [195, 196] [] I I' → (∀ q, q < p → I' 195 q = nI 0) → X G d zX12_findHeld 2 [(0, vr 170), (1, vi (nI p))] [] (NC, I', J, layR sw) 0 0 (qv Q) := by
    intro m
    induction m with
    | zero =>
      intro p I' hm hp hF hH
      obtain rfl : p = n + 1 := by omega
      refine X_iload_n dX12_findHeld_2 rfl ?_
      refine X_aload_n dX12_findHeld_3 rfl ?_
      refine X_getI dX12_findHeld_4 gf_X12_181 (by first | assumption | rfl) (by first | assumption | exact Nat.le_of_ble_eq_true rfl | omega) rfl ?_
      rw [(fc I' hF).1]
      refine X_icmp_gt (tgt := 23) dX12_findHeld_7 (by decide) (fun b => ?_) (fun b => ?_)
      · refine X_iconst (v := nI 0) dX12_findHeld_23 (by decide) ?_
        refine X_istore_n dX12_findHeld_24 rfl rfl ?_
        exact loopB n 0 I' rfl (Nat.zero_le _) hF (fun j h => absurd h (Nat.not_lt_zero j)) (fun p hp => hH p (by omega))
      · exact absurd ((nlt (by omega) (by omega)).mpr (Nat.lt_succ_self n)) b
    | succ m ih =>
      intro p I' hm hp hF hH
      refine X_iload_n dX12_findHeld_2 rfl ?_
      refine X_aload_n dX12_findHeld_3 rfl ?_
      refine X_getI dX12_findHeld_4 gf_X12_181 (by first | assumption | rfl) (by first | assumption | exact Nat.le_of_ble_eq_true rfl | omega) rfl ?_
      rw [(fc I' hF).1]
      refine X_icmp_gt (tgt := 23) dX12_findHeld_7 (by decide) (fun b => ?_) (fun b => ?_)
      · exact absurd ((nlt (by omega) (by omega)).mp b) (by omega)
      refine X_aload_n dX12_findHeld_10 rfl ?_
      refine X_getR dX12_findHeld_11 gf_X12_83 (by first | assumption | rfl) (by first | assumption | exact Nat.le_of_ble_eq_true rfl | omega) rfl (by first | assumption | rfl) ?_
      refine X_iload_n dX12_findHeld_14 rfl ?_
      refine X_iconst (v := nI 0) dX12_findHeld_15 (by decide) ?_
      refine X_iast dX12_findHeld_16 (by first | assumption | rfl) (by first | assumption | exact Nat.le_of_ble_eq_true rfl | omega) rfl (by first | decide | omega) (by decide) ?_
      first | refine X_iinc1 dX12_findHeld_17 rfl rfl rfl ?_ | refine X_iinc dX12_findHeld_17 rfl rfl rfl rfl ?_
      refine X_goto (tgt := 2) dX12_findHeld_20 (by decide) ?_
      refine ih (p + 1) _ (by omega) (by omega) (hF.tr (FrM.c (by simp) (by decide))) (fun q hq => ?_)
      rw [sr_eq]
      by_cases hqp : q = p
      · rw [hqp, up_eq]
      · rw [up_ne hqp]; exact hH q (by omega)
  refine Y_of rfl rfl (Nat.le_of_ble_eq_true rfl) rfl ?_
  refine X_iconst (v := nI 0) dX12_findHeld_0 (by decide) ?_
  refine X_istore_n dX12_findHeld_1 rfl rfl ?_
  exact loopA (n + 1) 0 I rfl (Nat.zero_le _) FrM.rf (fun q h => absurd h (Nat.not_lt_zero q))
set_option maxRecDepth 20000 in
theorem m_widthOf {Q : Int32 → Mm → Prop} {o pl : Nat → Nat} (hd : 5 ≤ d) (hc : RC I n c) (hv : VC n c) (hw : I 170 12 = nI W) (hW : W < 16) (ho : ∀ k, k < n → I 192 k = nI (o k)) (hon : ∀ k, k < n → o k < n) (hpl : ∀ k, k < n → pl (o k) = k) (hsu : ∀ i, i < n → ∃ k, k < n ∧ o k = i) (hQ : ∀ I', FrM [195, 196] [] I I' → Q (nI (wdB c n W pl (n + 1))) (NC, I', J, layR sw)) : Y G d zX12_widthOf [vr 170] (NC, I, J, layR sw) 0 0 (qi Q) := by
  have hn := hv.1
  refine Y_of rfl rfl (Nat.le_of_ble_eq_true rfl) rfl ?_
  refine X_aload_n dX12_widthOf_0 rfl ?_
  refine X_cVv dX12_widthOf_1 ck_X12_337 rfl rfl (by first | assumption | rfl) (by first | assumption | exact Nat.le_of_ble_eq_true rfl | omega) (by omega) (Nat.le_of_ble_eq_true rfl) (m_findHeld (by omega) hc hv hw hW ho hon hpl hsu (fun I1 f1 hH => ?_))
  have h9 : I1 170 9 = nI n := (RC_fm hc f1 (by decide) (by decide)).1
  refine X_iconst (v := nI 0) dX12_widthOf_4 (by decide) ?_
  refine X_istore_n dX12_widthOf_5 rfl rfl ?_
  refine X_iconst (v := nI 0) dX12_widthOf_6 (by decide) ?_
  refine X_istore_n dX12_widthOf_7 rfl rfl ?_
  have loop : ∀ (m p : Nat), m = n + 1 - p → p ≤ n + 1 → X G d zX12_widthOf 8 [(0, vr 170), (1, vi (nI (wdB c n W pl p))), (2, vi (nI p))] [] (NC, I1, J, layR sw) 0 0 (qi Q) := by
    intro m
    induction m with
    | zero =>
      intro p hm hp
      obtain rfl : p = n + 1 := by omega
      refine X_iload_n dX12_widthOf_8 rfl ?_
      refine X_aload_n dX12_widthOf_9 rfl ?_
      refine X_getI dX12_widthOf_10 gf_X12_181 (by first | assumption | rfl) (by first | assumption | exact Nat.le_of_ble_eq_true rfl | omega) rfl ?_
      rw [h9]
      refine X_icmp_gt (tgt := 49) dX12_widthOf_13 (by decide) (fun b => ?_) (fun b => ?_)
      · refine X_iload_n dX12_widthOf_49 rfl ?_
        exact X_iret dX12_widthOf_50 rfl ⟨_, rfl, hQ I1 f1⟩
      · exact absurd ((nlt (by omega) (by omega)).mpr (Nat.lt_succ_self n)) b
    | succ m ih =>
      intro p hm hp
      have ih := ih (p + 1) (by omega) (by omega)
      have b1 := wdB_le (c := c) (n := n) (W := W) (pl := pl) p
      have b2 := on_le (hlB c n W pl p) 16
      rw [show wdB c n W pl (p + 1) = max (wdB c n W pl p) (on (hlB c n W pl p) 16) from rfl] at ih
      refine X_iload_n dX12_widthOf_8 rfl ?_
      refine X_aload_n dX12_widthOf_9 rfl ?_
      refine X_getI dX12_widthOf_10 gf_X12_181 (by first | assumption | rfl) (by first | assumption | exact Nat.le_of_ble_eq_true rfl | omega) rfl ?_
      rw [h9]
      refine X_icmp_gt (tgt := 49) dX12_widthOf_13 (by decide) (fun b => ?_) (fun b => ?_)
      · exact absurd ((nlt (by omega) (by omega)).mp b) (by omega)
      refine X_aload_n dX12_widthOf_16 rfl ?_
      refine X_getR dX12_widthOf_17 gf_X12_83 (by first | assumption | rfl) (by first | assumption | exact Nat.le_of_ble_eq_true rfl | omega) rfl (by first | assumption | rfl) ?_
      refine X_iload_n dX12_widthOf_20 rfl ?_
      first | refine X_iald dX12_widthOf_21 (by first | assumption | rfl) (by first | assumption | exact Nat.le_of_ble_eq_true rfl | omega) rfl (by first | decide | omega) (by decide) ?_ | refine X_ildA dX12_widthOf_21 rfl (by omega) ?_ | refine X_ildM dX12_widthOf_21 rfl (by omega) ?_ | refine X_sld dX12_widthOf_21 rfl (by omega) (by omega) ?_
      rw [hH p (by omega)]
      refine X_cSi dX12_widthOf_22 ck_X12_340 rfl rfl (by omega) (Nat.le_of_ble_eq_true rfl) (m_ones (hlB_lt hn) ?_)
      refine X_iload_n dX12_widthOf_25 rfl ?_
      refine X_icmp_le (tgt := 41) dX12_widthOf_26 (by decide) (fun b26 => ?_) (fun b26 => ?_)
      · have := (nle (by omega) (by omega)).mp b26
        rw [Nat.max_eq_left this] at ih
        refine X_iload_n dX12_widthOf_41 rfl ?_
        refine X_istore_n dX12_widthOf_42 rfl rfl ?_
        first | refine X_iinc1 dX12_widthOf_43 rfl rfl rfl ?_ | refine X_iinc dX12_widthOf_43 rfl rfl rfl rfl ?_
        refine X_goto (tgt := 8) dX12_widthOf_46 (by decide) ?_
        exact ih
      · have : ¬ on (hlB c n W pl p) 16 ≤ wdB c n W pl p := fun q => b26 ((nle (by omega) (by omega)).mpr q)
        rw [Nat.max_eq_right (by omega)] at ih
        refine X_aload_n dX12_widthOf_29 rfl ?_
        refine X_getR dX12_widthOf_30 gf_X12_83 (by first | assumption | rfl) (by first | assumption | exact Nat.le_of_ble_eq_true rfl | omega) rfl (by first | assumption | rfl) ?_
        refine X_iload_n dX12_widthOf_33 rfl ?_
        first | refine X_iald dX12_widthOf_34 (by first | assumption | rfl) (by first | assumption | exact Nat.le_of_ble_eq_true rfl | omega) rfl (by first | decide | omega) (by decide) ?_ | refine X_ildA dX12_widthOf_34 rfl (by omega) ?_ | refine X_ildM dX12_widthOf_34 rfl (by omega) ?_ | refine X_sld dX12_widthOf_34 rfl (by omega) (by omega) ?_
        rw [hH p (by omega)]
        refine X_cSi dX12_widthOf_35 ck_X12_340 rfl rfl (by omega) (Nat.le_of_ble_eq_true rfl) (m_ones (hlB_lt hn) ?_)
        refine X_goto (tgt := 42) dX12_widthOf_38 (by decide) ?_
        refine X_istore_n dX12_widthOf_42 rfl rfl ?_
        first | refine X_iinc1 dX12_widthOf_43 rfl rfl rfl ?_ | refine X_iinc dX12_widthOf_43 rfl rfl rfl rfl ?_
        refine X_goto (tgt := 8) dX12_widthOf_46 (by decide) ?_
        exact ih
  exact loop (n + 1) 0 rfl (Nat.zero_le _)
set_option maxRecDepth 20000 in
theorem M_held {x : Int32} (hd : 6 ≤ d) (hv : VSt s) (hi : RInv I s) : Y G d zX12_held [vr 170, vi x] (NC, I, J, layR sw) 0 0 (qi (PM s (sp_held s x) I J sw)) := by
  have hn := hv.2.1.1.1
  have hW : dW s.2.1 < 16 := by have := hv.2.1.2.2.1; omega
  refine Y_of rfl rfl (Nat.le_of_ble_eq_true rfl) rfl ?_
  unfold sp_held
  rcases pcase hn x with h | ⟨a, ha, rfl⟩
  · rw [if_pos h]
    refine X_aload_n dX12_held_0 rfl ?_
    refine X_iload_n dX12_held_1 rfl ?_
    refine X_cVi dX12_held_2 ck_X12_205 rfl rfl (by first | assumption | rfl) (by first | assumption | exact Nat.le_of_ble_eq_true rfl | omega) (by omega) (Nat.le_of_ble_eq_true rfl) (c_isPlace_f (by omega) hi.2.1.1 h ?_)
    refine X_if_ne (tgt := 10) dX12_held_5 (by decide) (fun b => ?_) (fun b => ?_)
    · exact absurd rfl b
    · refine X_iconst (v := (-1)) dX12_held_8 (by decide) ?_
      exact X_iret dX12_held_9 rfl ⟨_, rfl, PM_same hi⟩
  · rw [if_neg (pcase_n hn ha), nI_clamp (by omega)]
    refine X_aload_n dX12_held_0 rfl ?_
    refine X_iload_n dX12_held_1 rfl ?_
    refine X_cVi dX12_held_2 ck_X12_205 rfl rfl (by first | assumption | rfl) (by first | assumption | exact Nat.le_of_ble_eq_true rfl | omega) (by omega) (Nat.le_of_ble_eq_true rfl) (c_isPlace_t (by omega) hi.2.1.1 hn ha ?_)
    refine X_if_ne (tgt := 10) dX12_held_5 (by decide) (fun b => ?_) (fun b => ?_)
    · refine X_aload_n dX12_held_10 rfl ?_
      refine X_cVv dX12_held_11 ck_X12_303 rfl rfl (by first | assumption | rfl) (by first | assumption | exact Nat.le_of_ble_eq_true rfl | omega) (by omega) (Nat.le_of_ble_eq_true rfl) (m_layOrder hi.2.1.1 hn (fun I1 f1 ho => ?_))
      refine X_aload_n dX12_held_14 rfl ?_
      refine X_cVv dX12_held_15 ck_X12_337 rfl rfl (by first | assumption | rfl) (by first | assumption | exact Nat.le_of_ble_eq_true rfl | omega) (by omega) (Nat.le_of_ble_eq_true rfl) (m_findHeld (W := dW s.2.1) (o := fun k => k) (pl := fun k => k) (by omega) (RC_fm hi.2.1.rc f1 (by decide) (by decide)) hv.2.1.1 (by rw [f1.2 12 (by simp)]; exact hi.2.1.2.2.2.2.1) hW ho (fun k h => h) (fun k _ => rfl) (fun i h => ⟨i, h, rfl⟩) (fun I2 f2 hH => ?_))
      refine X_aload_n dX12_held_18 rfl ?_
      refine X_getR dX12_held_19 gf_X12_83 (by first | assumption | rfl) (by first | assumption | exact Nat.le_of_ble_eq_true rfl | omega) rfl (by first | assumption | rfl) ?_
      refine X_iload_n dX12_held_22 rfl ?_
      first | refine X_iald dX12_held_23 (by first | assumption | rfl) (by first | assumption | exact Nat.le_of_ble_eq_true rfl | omega) rfl (by first | decide | omega) (by decide) ?_ | refine X_ildA dX12_held_23 rfl (by omega) ?_ | refine X_ildM dX12_held_23 rfl (by omega) ?_ | refine X_sld dX12_held_23 rfl (by omega) (by omega) ?_
      rw [hH a ha]
      have f3 : FrM [192, 195, 196] [] I I2 := ⟨fun j h1 h2 => by rw [f2.1 j h1 (fun q => h2 (by simp at q ⊢; omega)), f1.1 j h1 (fun q => h2 (by simp at q ⊢; omega))], fun f h => by rw [f2.2 f h, f1.2 f h]⟩
      exact X_iret dX12_held_24 rfl ⟨_, rfl, PM_fm hi _ [] f3 (by decide) (by decide)⟩
    · exact absurd b (by decide)
set_option maxRecDepth 20000 in
theorem M_width (hd : 6 ≤ d) (hv : VSt s) (hi : RInv I s) : Y G d zX12_width [vr 170] (NC, I, J, layR sw) 0 0 (qi (PM s (sp_width s) I J sw)) := by
  have hn := hv.2.1.1.1
  have hW : dW s.2.1 < 16 := by have := hv.2.1.2.2.1; omega
  refine Y_of rfl rfl (Nat.le_of_ble_eq_true rfl) rfl ?_
  refine X_aload_n dX12_width_0 rfl ?_
  refine X_cVv dX12_width_1 ck_X12_303 rfl rfl (by first | assumption | rfl) (by first | assumption | exact Nat.le_of_ble_eq_true rfl | omega) (by omega) (Nat.le_of_ble_eq_true rfl) (m_layOrder hi.2.1.1 hn (fun I1 f1 ho => ?_))
  refine X_aload_n dX12_width_4 rfl ?_
  refine X_cVi dX12_width_5 ck_X12_313 rfl rfl (by first | assumption | rfl) (by first | assumption | exact Nat.le_of_ble_eq_true rfl | omega) (by omega) (Nat.le_of_ble_eq_true rfl) (m_widthOf (W := dW s.2.1) (o := fun k => k) (pl := fun k => k) (by omega) (RC_fm hi.2.1.rc f1 (by decide) (by decide)) hv.2.1.1 (by rw [f1.2 12 (by simp)]; exact hi.2.1.2.2.2.2.1) hW ho (fun k h => h) (fun k _ => rfl) (fun i h => ⟨i, h, rfl⟩) (fun I2 f2 => ?_))
  have f3 : FrM [192, 195, 196] [] I I2 := ⟨fun j h1 h2 => by rw [f2.1 j h1 (fun q => h2 (by simp at q ⊢; omega)), f1.1 j h1 (fun q => h2 (by simp at q ⊢; omega))], fun f h => by rw [f2.2 f h, f1.2 f h]⟩
  exact X_iret dX12_width_8 rfl ⟨_, rfl, PM_fm hi _ [] f3 (by decide) (by decide)⟩
end RH
