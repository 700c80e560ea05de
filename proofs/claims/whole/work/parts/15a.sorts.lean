/-! the first number that passes a test -/
def frs (p : Nat → Bool) (i : Nat) : Nat → Nat
  | 0 => i
  | m + 1 => if p i = true then i else frs p (i + 1) m
theorem frs_le (p : Nat → Bool) : ∀ m i, i ≤ frs p i m ∧ frs p i m ≤ i + m
  | 0, i => ⟨Nat.le_refl _, Nat.le_refl _⟩
  | m + 1, i => by
    unfold frs
    by_cases h : p i = true
    · rw [if_pos h]; omega
    · rw [if_neg h]
      have := frs_le p m (i + 1)
      omega
theorem frs_hit {p : Nat → Bool} : ∀ m i, frs p i m < i + m → p (frs p i m) = true
  | 0, i, h => by unfold frs at h; omega
  | m + 1, i, h => by
    unfold frs at h ⊢
    by_cases hp : p i = true
    · rw [if_pos hp]; exact hp
    · rw [if_neg hp] at h ⊢
      exact frs_hit m (i + 1) (by omega)
theorem frs_min {p : Nat → Bool} : ∀ m i j, i ≤ j → j < frs p i m → ¬ p j = true
  | 0, i, j, h1, h2 => by unfold frs at h2; omega
  | m + 1, i, j, h1, h2 => by
    unfold frs at h2
    by_cases hp : p i = true
    · rw [if_pos hp] at h2; omega
    · rw [if_neg hp] at h2
      by_cases hj : j = i
      · rw [hj]; exact hp
      · exact frs_min m (i + 1) j (by omega) h2
theorem frs_eq {p : Nat → Bool} {m i j : Nat} (h1 : i ≤ j) (h2 : j < i + m) (hp : p j = true) (hn : ∀ k, i ≤ k → k < j → ¬ p k = true) : frs p i m = j := by
  have h := frs_le p m i
  rcases Nat.lt_trichotomy (frs p i m) j with h3 | h3 | h3
  · exact absurd (frs_hit m i (by omega)) (hn _ h.1 h3)
  · exact h3
  · exact absurd hp (frs_min m i j h1 h3)
theorem frs_none {p : Nat → Bool} {m i : Nat} (hn : ∀ k, i ≤ k → k < i + m → ¬ p k = true) : frs p i m = i + m := by
  have h := frs_le p m i
  rcases Nat.lt_or_ge (frs p i m) (i + m) with h3 | h3
  · exact absurd (frs_hit m i h3) (hn _ h.1 h3)
  · omega
/-! sorts: how many, of digits, of what is made of what -/
abbrev SO : Type := Nat × (Nat → Nat) × (Nat → Nat × Nat × Nat)
def sOp (S : SO) (rg : Nat → Nat) (v : Nat) : Nat × SO := if v < 4 then (rg v, S) else if S.2.1 (v - 10) = 99 then (S.1, (S.1 + 1, up S.2.1 (v - 10) S.1, S.2.2)) else (S.2.1 (v - 10), S)
def sFn (S : SO) (a x y : Nat) : Nat := frs (fun q => decide (S.2.2 q = (a, x, y))) 4 (S.1 - 4)
def sAc (S : SO) (a x y : Nat) : Nat × SO := if sFn S a x y < S.1 then (sFn S a x y, S) else (S.1, (S.1 + 1, S.2.1, up S.2.2 S.1 (a, x, y)))
def nxx (a x y : Nat) : Nat := if a ≠ 45 ∧ y < x then y else x
def nyy (a x y : Nat) : Nat := if a ≠ 45 ∧ y < x then x else y
def sSt (S : SO) (rg : Nat → Nat) (s : Nat → Nat) : Nat × SO := if s 1 = 99 then sOp S rg (s 2) else
  sAc (sOp (sOp S rg (s 2)).2 rg (s 3)).2 (s 1) (nxx (s 1) (sOp S rg (s 2)).1 (sOp (sOp S rg (s 2)).2 rg (s 3)).1) (nyy (s 1) (sOp S rg (s 2)).1 (sOp (sOp S rg (s 2)).2 rg (s 3)).1)
def so (c : Nat → Nat → Nat) : Nat → SO × (Nat → Nat)
  | 0 => ((4, fun _ => 99, fun _ => (99, 0, 0)), fun r => r)
  | p + 1 => ((sSt (so c p).1 (so c p).2 (c p)).2, up (so c p).2 (c p 0) (sSt (so c p).1 (so c p).2 (c p)).1)
def smd (c : Nat → Nat → Nat) (i : Nat) : Nat := (sSt (so c i).1 (so c i).2 (c i)).1
def hld (c : Nat → Nat → Nat) (i : Nat) : Nat := frs (fun r => decide ((so c i).2 r = smd c i)) 0 4
/-- sorts in order: all below B -/
def SOk (S : SO) (B : Nat) : Prop := (4 ≤ S.1 ∧ S.1 ≤ B) ∧ (∀ g, S.2.1 g = 99 ∨ S.2.1 g < S.1) ∧ (∀ q, S.2.2 q = (99, 0, 0) ∨ (q < S.1 ∧ iact (S.2.2 q).1 ∧ (S.2.2 q).2.1 < S.1 ∧ (S.2.2 q).2.2 < S.1))
theorem sOp_ok {S : SO} {rg : Nat → Nat} {B v : Nat} (h : SOk S B) (hr : ∀ r, r < 4 → rg r < S.1) : SOk (sOp S rg v).2 (B + 1) ∧ (sOp S rg v).1 < (sOp S rg v).2.1 ∧ S.1 ≤ (sOp S rg v).2.1 ∧ (∀ r, r < 4 → rg r < (sOp S rg v).2.1) := by
  obtain ⟨h1, h2, h3⟩ := h
  unfold sOp
  by_cases h4 : v < 4
  · rw [if_pos h4]
    exact ⟨⟨⟨h1.1, Nat.le_succ_of_le h1.2⟩, h2, h3⟩, hr v h4, Nat.le_refl _, hr⟩
  · rw [if_neg h4]
    by_cases h5 : S.2.1 (v - 10) = 99
    · rw [if_pos h5]
      refine ⟨⟨⟨by show 4 ≤ S.1 + 1; omega, by show S.1 + 1 ≤ B + 1; omega⟩, fun g => ?_, fun q => ?_⟩, Nat.lt_succ_self _, Nat.le_succ _, fun r hr4 => Nat.lt_succ_of_lt (hr r hr4)⟩
      · show up S.2.1 (v - 10) S.1 g = 99 ∨ up S.2.1 (v - 10) S.1 g < S.1 + 1
        by_cases hg : g = v - 10
        · rw [hg, up_eq]; exact Or.inr (Nat.lt_succ_self _)
        · rw [up_ne hg]; exact (h2 g).imp_right Nat.lt_succ_of_lt
      · exact (h3 q).imp_right (fun ⟨a, b, e, f⟩ => ⟨Nat.lt_succ_of_lt a, b, Nat.lt_succ_of_lt e, Nat.lt_succ_of_lt f⟩)
    · rw [if_neg h5]
      exact ⟨⟨⟨h1.1, Nat.le_succ_of_le h1.2⟩, h2, h3⟩, (h2 _).resolve_left h5, Nat.le_refl _, hr⟩
theorem sAc_ok {S : SO} {B a x y : Nat} (h : SOk S B) (ha : iact a) (hx : x < S.1) (hy : y < S.1) : SOk (sAc S a x y).2 (B + 1) ∧ (sAc S a x y).1 < (sAc S a x y).2.1 ∧ S.1 ≤ (sAc S a x y).2.1 := by
  obtain ⟨h1, h2, h3⟩ := h
  unfold sAc
  by_cases h4 : sFn S a x y < S.1
  · rw [if_pos h4]
    exact ⟨⟨⟨h1.1, Nat.le_succ_of_le h1.2⟩, h2, h3⟩, h4, Nat.le_refl _⟩
  · rw [if_neg h4]
    refine ⟨⟨⟨by show 4 ≤ S.1 + 1; omega, by show S.1 + 1 ≤ B + 1; omega⟩, fun g => (h2 g).imp_right Nat.lt_succ_of_lt, fun q => ?_⟩, Nat.lt_succ_self _, Nat.le_succ _⟩
    show up S.2.2 S.1 (a, x, y) q = (99, 0, 0) ∨ (q < S.1 + 1 ∧ iact (up S.2.2 S.1 (a, x, y) q).1 ∧ (up S.2.2 S.1 (a, x, y) q).2.1 < S.1 + 1 ∧ (up S.2.2 S.1 (a, x, y) q).2.2 < S.1 + 1)
    by_cases hq : q = S.1
    · rw [hq, up_eq]; exact Or.inr ⟨Nat.lt_succ_self _, ha, Nat.lt_succ_of_lt hx, Nat.lt_succ_of_lt hy⟩
    · rw [up_ne hq]; exact (h3 q).imp_right (fun ⟨a, b, e, f⟩ => ⟨Nat.lt_succ_of_lt a, b, Nat.lt_succ_of_lt e, Nat.lt_succ_of_lt f⟩)
theorem nxx_lt {a x y N : Nat} (hx : x < N) (hy : y < N) : nxx a x y < N ∧ nyy a x y < N := by
  unfold nxx nyy
  by_cases h : a ≠ 45 ∧ y < x
  · rw [if_pos h, if_pos h]; exact ⟨hy, hx⟩
  · rw [if_neg h, if_neg h]; exact ⟨hx, hy⟩
theorem sSt_ok {S : SO} {rg : Nat → Nat} {B : Nat} {s : Nat → Nat} (h : SOk S B) (hr : ∀ r, r < 4 → rg r < S.1) (hv : VS s) : SOk (sSt S rg s).2 (B + 3) ∧ (sSt S rg s).1 < (sSt S rg s).2.1 ∧ (∀ r, r < 4 → rg r < (sSt S rg s).2.1) := by
  obtain ⟨a1, a2, a3, a4⟩ := sOp_ok (v := s 2) h hr
  unfold sSt
  by_cases h1 : s 1 = 99
  · rw [if_pos h1]
    exact ⟨⟨⟨a1.1.1, by have := a1.1.2; omega⟩, a1.2⟩, a2, a4⟩
  · rw [if_neg h1]
    have ha : iact (s 1) := (hv.2.2.resolve_left (fun q => h1 q.1)).1
    obtain ⟨b1, b2, b3, b4⟩ := sOp_ok (v := s 3) a1 a4
    obtain ⟨n1, n2⟩ := nxx_lt (a := s 1) (Nat.lt_of_lt_of_le a2 b3) b2
    obtain ⟨c1, c2, c3⟩ := sAc_ok b1 ha n1 n2
    exact ⟨c1, c2, fun r hr4 => Nat.lt_of_lt_of_le (b4 r hr4) c3⟩
theorem so_ok {c : Nat → Nat → Nat} {n : Nat} (hv : ∀ i, i < n → VS (c i)) : ∀ p, p ≤ n → SOk (so c p).1 (4 + 3 * p) ∧ ∀ r, r < 4 → (so c p).2 r < (so c p).1.1
  | 0, _ => ⟨⟨⟨Nat.le_refl _, Nat.le_refl _⟩, fun _ => Or.inl rfl, fun _ => Or.inl rfl⟩, fun r h => h⟩
  | p + 1, hp => by
    obtain ⟨h1, h2⟩ := so_ok hv p (by omega)
    obtain ⟨a1, a2, a3⟩ := sSt_ok h1 h2 (hv p (by omega))
    refine ⟨a1, fun r hr => ?_⟩
    show up (so c p).2 (c p 0) (sSt (so c p).1 (so c p).2 (c p)).1 r < (sSt (so c p).1 (so c p).2 (c p)).2.1
    by_cases hrt : r = c p 0
    · rw [hrt, up_eq]; exact a2
    · rw [up_ne hrt]; exact a3 r hr
theorem smd_lt {c : Nat → Nat → Nat} {n i : Nat} (hv : VC n c) (hi : i < n) : smd c i < 40 ∧ ∀ r, r < 4 → (so c i).2 r < 40 := by
  have hn := hv.1
  obtain ⟨h1, h2⟩ := so_ok hv.2 i (by omega)
  obtain ⟨a1, a2, a3⟩ := sSt_ok h1 h2 (hv.2 i hi)
  have := a1.1.2
  exact ⟨by unfold smd; omega, fun r hr => by have := a3 r hr; omega⟩
/-- the class's rows of sorts -/
def FS (I : Nat → Nat → Int32) (f : Nat) (S : SO) : Prop := I f 8 = nI S.1 ∧ (∀ g, g < 8 → I (f + 5) g = enc (S.2.1 g)) ∧ ∀ q, q < 40 → I (f + 6) q = enc (S.2.2 q).1 ∧ ((S.2.2 q).1 ≠ 99 → I (f + 7) q = nI (S.2.2 q).2.1 ∧ I (f + 8) q = nI (S.2.2 q).2.2)
section CS
variable {G : GG} {d : Nat} {sw : Bool} {I : Nat → Nat → Int32} {J : Nat → Nat → Int64} {s : SS} {n W : Nat} {c : Nat → Nat → Nat}
set_option maxRecDepth 20000 in
theorem c_fill {Q : Mm → Prop} {k N : Nat} {x : Int32} (hs : sh k = (13, N)) (hN : N < 5000) (hk : k < NC) (hQ : ∀ I', Fr [k] I I' → (∀ j, j < N → I' k j = x) → Q (NC, I', J, layR sw)) : Y G d zJ7_fill_53178 [vr k, vi x] (NC, I, J, layR sw) 0 0 (qv Q) := by
  refine Y_ofF (by decide +kernel) rfl (Nat.le_of_ble_eq_true rfl) rfl ?_
  refine X_iconst (v := nI 0) dJ7_fill_53178_0 (by decide) ?_
  refine X_istore_n dJ7_fill_53178_1 rfl rfl ?_
  refine X_aload_n dJ7_fill_53178_2 rfl ?_
  first | refine X_alen dJ7_fill_53178_3 (by first | assumption | rfl) (by decide) (by first | assumption | exact Nat.le_of_ble_eq_true rfl | omega) ?_ | refine X_alenA dJ7_fill_53178_3 ?_ | refine X_alenM dJ7_fill_53178_3 ?_ | refine X_slen dJ7_fill_53178_3 ?_
  refine X_istore_n dJ7_fill_53178_4 rfl rfl ?_
  have loop : ∀ (m i : Nat) (I' : Nat → Nat → Int32), m = N - i → i ≤ N → Fr [k] I I' → (∀ j, j < i → I' k j = x) → X G d zJ7_fill_53178 5 [(0, vr k), (1, vi x), (2, vi (nI i)), (3, vi (nI N))] [] (NC, I', J, layR sw) 0 0 (qv Q) := by
    intro m
    induction m with
    | zero =>
      intro i I' hm him hF hj
      obtain rfl : i = N := by omega
      refine X_iload_n dJ7_fill_53178_5 rfl ?_
      refine X_iload_n dJ7_fill_53178_6 rfl ?_
      refine X_icmp_ge (tgt := 20) dJ7_fill_53178_7 (by decide) (fun b => ?_) (fun b => ?_)
      · exact X_vret dJ7_fill_53178_20 rfl ⟨rfl, hQ I' hF hj⟩
      · exact absurd (Int32.le_refl _) b
    | succ m ih =>
      intro i I' hm him hF hj
      refine X_iload_n dJ7_fill_53178_5 rfl ?_
      refine X_iload_n dJ7_fill_53178_6 rfl ?_
      refine X_icmp_ge (tgt := 20) dJ7_fill_53178_7 (by decide) (fun b => ?_) (fun b => ?_)
      · exact absurd ((nle (by omega) (by omega)).mp b) (by omega)
      refine X_aload_n dJ7_fill_53178_10 rfl ?_
      refine X_iload_n dJ7_fill_53178_11 rfl ?_
      refine X_iload_n dJ7_fill_53178_12 rfl ?_
      refine X_iast dJ7_fill_53178_13 hs hk rfl (by omega) (by omega) ?_
      first | refine X_iinc1 dJ7_fill_53178_14 rfl rfl rfl ?_ | refine X_iinc dJ7_fill_53178_14 rfl rfl rfl rfl ?_
      refine X_goto (tgt := 5) dJ7_fill_53178_17 (by decide) ?_
      refine ih (i + 1) _ (by omega) (by omega) (hF.tr (Fr.sr (by simp))) (fun j h => ?_)
      rw [sr_eq]
      by_cases hji : j = i
      · rw [hji, up_eq]
      · rw [up_ne hji]; exact hj j (by omega)
  exact loop N 0 I rfl (Nat.zero_le N) Fr.rf (fun j h => absurd h (Nat.not_lt_zero j))
theorem enc_lt {v : Nat} (h : v < 99) : enc v = nI v := enc_n (by omega)
set_option maxRecDepth 20000 in
theorem c_sortOperand {Q : Int32 → Mm → Prop} {f p v B : Nat} {S : SO} {rg : Nat → Nat} (hd : 1 ≤ d) (hf : IsFa f) (hp : p ≤ 12) (hv : opd v) (hS : FS I f S) (hB : SOk S B) (hB2 : B < 40) (hr : ∀ r, r < 4 → I (f + 3) (p * 4 + r) = nI (rg r))
    (hQ : ∀ I', Fr [f, f + 5] I I' → FS I' f (sOp S rg v).2 → Q (nI (sOp S rg v).1) (NC, I', J, layR sw)) : Y G d zX3_sortOperand [vr f, vi (nI p), vi (enc v)] (NC, I, J, layR sw) 0 0 (qi Q) := by
  obtain ⟨s0, ⟨s1, s2, s3, s4, s5, s6, s7, s8⟩, hlr, hb1, hb2⟩ := hf
  obtain ⟨r0, r1, r2, r3, r4, r5, r6, r7⟩ := hlr sw
  have k0 : f < NC := by show f < 206; omega
  have k3 : f + 3 < NC := by show f + 3 < 206; omega
  have k5 : f + 5 < NC := by show f + 5 < 206; omega
  obtain ⟨t1, t2, t3⟩ := hS
  obtain ⟨o1, o2, o3⟩ := hB
  unfold sOp at hQ
  refine Y_of rfl rfl (Nat.le_of_ble_eq_true rfl) rfl ?_
  refine X_iload_n dX3_sortOperand_0 rfl ?_
  refine X_cSi dX3_sortOperand_1 ck_X3_70 rfl rfl (by omega) (Nat.le_of_ble_eq_true rfl) (c_isDigit (by unfold opd at hv; omega) ?_)
  rcases hv with hv | hv
  · rw [if_neg (by omega)]
    rw [if_pos hv] at hQ
    refine X_if_ne (tgt := 30) dX3_sortOperand_4 (by decide) (fun b => ?_) (fun b => ?_)
    · exact absurd rfl b
    refine X_iload_n dX3_sortOperand_7 rfl ?_
    rw [enc_n (by omega)]
    refine X_cSi dX3_sortOperand_8 ck_X3_74 rfl rfl (by omega) (Nat.le_of_ble_eq_true rfl) (c_isNoReg_f hv ?_)
    refine X_if_eq (tgt := 19) dX3_sortOperand_11 (by decide) (fun b11 => ?_) (fun b11 => ?_)
    · refine X_aload_n dX3_sortOperand_19 rfl ?_
      refine X_getR dX3_sortOperand_20 gf_X3_18 (by first | assumption | rfl) (by first | assumption | exact Nat.le_of_ble_eq_true rfl | omega) rfl (by first | assumption | rfl) ?_
      refine X_iload_n dX3_sortOperand_23 rfl ?_
      refine X_iconst (v := nI 4) dX3_sortOperand_24 (by decide) ?_
      first | refine X_imulN dX3_sortOperand_25 ?_ | refine X_imul dX3_sortOperand_25 ?_
      refine X_iload_n dX3_sortOperand_26 rfl ?_
      first | refine X_iaddN dX3_sortOperand_27 ?_ | refine X_iadd dX3_sortOperand_27 ?_
      first | refine X_iald dX3_sortOperand_28 (by first | assumption | rfl) (by first | assumption | exact Nat.le_of_ble_eq_true rfl | omega) rfl (by first | decide | omega) (by decide) ?_ | refine X_ildA dX3_sortOperand_28 rfl (by omega) ?_ | refine X_ildM dX3_sortOperand_28 rfl (by omega) ?_ | refine X_sld dX3_sortOperand_28 rfl (by omega) (by omega) ?_
      rw [hr v hv]
      exact X_iret dX3_sortOperand_29 rfl ⟨_, rfl, hQ I Fr.rf ⟨t1, t2, t3⟩⟩
    · exact absurd rfl b11
  · rw [if_pos hv]
    rw [if_neg (by omega)] at hQ
    refine X_if_ne (tgt := 30) dX3_sortOperand_4 (by decide) (fun b => ?_) (fun b => ?_)
    · refine X_iload_n dX3_sortOperand_30 rfl ?_
      rw [enc_n (by omega)]
      refine X_bipush (v := nI 10) dX3_sortOperand_31 (by decide) ?_
      first | refine X_isubN dX3_sortOperand_33 (by omega) ?_ | refine X_isub dX3_sortOperand_33 ?_
      refine X_istore_n dX3_sortOperand_34 rfl rfl ?_
      refine X_aload_n dX3_sortOperand_35 rfl ?_
      refine X_getR dX3_sortOperand_36 gf_X3_24 (by first | assumption | rfl) (by first | assumption | exact Nat.le_of_ble_eq_true rfl | omega) rfl (by first | assumption | rfl) ?_
      refine X_iload_n dX3_sortOperand_39 rfl ?_
      first | refine X_iald dX3_sortOperand_40 (by first | assumption | rfl) (by first | assumption | exact Nat.le_of_ble_eq_true rfl | omega) rfl (by first | decide | omega) (by decide) ?_ | refine X_ildA dX3_sortOperand_40 rfl (by omega) ?_ | refine X_ildM dX3_sortOperand_40 rfl (by omega) ?_ | refine X_sld dX3_sortOperand_40 rfl (by omega) (by omega) ?_
      rw [t2 (v - 10) (by omega)]
      refine X_bipush (v := (-6)) dX3_sortOperand_41 (by decide) ?_
      by_cases h99 : S.2.1 (v - 10) = 99
      · rw [if_pos h99] at hQ
        refine X_icmp_ne (tgt := 66) dX3_sortOperand_43 (by decide) (fun b43 => ?_) (fun b43 => ?_)
        · exact absurd (by rw [h99]; rfl) b43
        refine X_aload_n dX3_sortOperand_46 rfl ?_
        refine X_getR dX3_sortOperand_47 gf_X3_24 (by first | assumption | rfl) (by first | assumption | exact Nat.le_of_ble_eq_true rfl | omega) rfl (by first | assumption | rfl) ?_
        refine X_iload_n dX3_sortOperand_50 rfl ?_
        refine X_aload_n dX3_sortOperand_51 rfl ?_
        refine X_getI dX3_sortOperand_52 gf_X3_77 (by first | assumption | rfl) (by first | assumption | exact Nat.le_of_ble_eq_true rfl | omega) rfl ?_
        rw [t1]
        refine X_iast dX3_sortOperand_55 (by first | assumption | rfl) (by first | assumption | exact Nat.le_of_ble_eq_true rfl | omega) rfl (by first | decide | omega) (by decide) ?_
        refine X_aload_n dX3_sortOperand_56 rfl ?_
        refine X_dup dX3_sortOperand_57 rfl ?_
        refine X_getI dX3_sortOperand_58 gf_X3_77 (by first | assumption | rfl) (by first | assumption | exact Nat.le_of_ble_eq_true rfl | omega) rfl ?_
        rw [sr_ne (show f ≠ f + 5 by omega), t1]
        refine X_iconst (v := nI 1) dX3_sortOperand_61 (by decide) ?_
        first | refine X_iaddN dX3_sortOperand_62 ?_ | refine X_iadd dX3_sortOperand_62 ?_
        refine X_putI dX3_sortOperand_63 gf_X3_77 (Or.inl rfl) (by first | assumption | rfl) (by first | assumption | exact Nat.le_of_ble_eq_true rfl | omega) rfl ?_
        refine X_aload_n dX3_sortOperand_66 rfl ?_
        refine X_getR dX3_sortOperand_67 gf_X3_24 (by first | assumption | rfl) (by first | assumption | exact Nat.le_of_ble_eq_true rfl | omega) rfl (by first | assumption | rfl) ?_
        refine X_iload_n dX3_sortOperand_70 rfl ?_
        first | refine X_iald dX3_sortOperand_71 (by first | assumption | rfl) (by first | assumption | exact Nat.le_of_ble_eq_true rfl | omega) rfl (by first | decide | omega) (by decide) ?_ | refine X_ildA dX3_sortOperand_71 rfl (by omega) ?_ | refine X_ildM dX3_sortOperand_71 rfl (by omega) ?_ | refine X_sld dX3_sortOperand_71 rfl (by omega) (by omega) ?_
        rw [sr_ne (show f + 5 ≠ f by omega), sr_eq, up_eq]
        refine X_iret dX3_sortOperand_72 rfl ⟨_, rfl, hQ _ ((Fr.sr (by simp)).tr (Fr.sr (by simp))) ⟨?_, fun g hg => ?_, fun q hq => ?_⟩⟩
        · rw [sr_eq, up_eq]
        · rw [sr_ne (show f + 5 ≠ f by omega), sr_eq]
          show up (I (f + 5)) (v - 10) (nI S.1) g = enc (up S.2.1 (v - 10) S.1 g)
          by_cases hgv : g = v - 10
          · rw [hgv, up_eq, up_eq, enc_lt (by omega)]
          · rw [up_ne hgv, up_ne hgv]; exact t2 g hg
        · rw [sr_ne (show f + 6 ≠ f by omega), sr_ne (show f + 7 ≠ f by omega), sr_ne (show f + 8 ≠ f by omega), sr_ne (show f + 6 ≠ f + 5 by omega), sr_ne (show f + 7 ≠ f + 5 by omega), sr_ne (show f + 8 ≠ f + 5 by omega)]
          exact t3 q hq
      · rw [if_neg h99] at hQ
        have hlt := (o2 (v - 10)).resolve_left h99
        refine X_icmp_ne (tgt := 66) dX3_sortOperand_43 (by decide) (fun b43 => ?_) (fun b43 => ?_)
        · refine X_aload_n dX3_sortOperand_66 rfl ?_
          refine X_getR dX3_sortOperand_67 gf_X3_24 (by first | assumption | rfl) (by first | assumption | exact Nat.le_of_ble_eq_true rfl | omega) rfl (by first | assumption | rfl) ?_
          refine X_iload_n dX3_sortOperand_70 rfl ?_
          first | refine X_iald dX3_sortOperand_71 (by first | assumption | rfl) (by first | assumption | exact Nat.le_of_ble_eq_true rfl | omega) rfl (by first | decide | omega) (by decide) ?_ | refine X_ildA dX3_sortOperand_71 rfl (by omega) ?_ | refine X_ildM dX3_sortOperand_71 rfl (by omega) ?_ | refine X_sld dX3_sortOperand_71 rfl (by omega) (by omega) ?_
          rw [t2 (v - 10) (by omega), enc_lt (by omega)]
          exact X_iret dX3_sortOperand_72 rfl ⟨_, rfl, hQ I Fr.rf ⟨t1, t2, t3⟩⟩
        · rw [enc_lt (by omega)] at b43
          exact absurd (show nI (S.2.1 (v - 10)) < 0 by rw [b43]; decide) (nneg (by omega))
    · exact absurd b (by decide)
set_option maxRecDepth 20000 in
theorem c_sortOfAct {Q : Int32 → Mm → Prop} {f a x y B : Nat} {S : SO} (hf : IsFa f) (ha : iact a) (hS : FS I f S) (hB : SOk S B) (hB2 : B < 40) (hx : x < 40) (hy : y < 40)
    (hQ : ∀ I', Fr [f, f + 6, f + 7, f + 8] I I' → FS I' f (sAc S a x y).2 → Q (nI (sAc S a x y).1) (NC, I', J, layR sw)) : Y G d zX3_sortOfAct [vr f, vi (enc a), vi (nI x), vi (nI y)] (NC, I, J, layR sw) 0 0 (qi Q) := by
  obtain ⟨s0, ⟨s1, s2, s3, s4, s5, s6, s7, s8⟩, hlr, hb1, hb2⟩ := hf
  obtain ⟨r0, r1, r2, r3, r4, r5, r6, r7⟩ := hlr sw
  have k0 : f < NC := by show f < 206; omega
  have k6 : f + 6 < NC := by show f + 6 < 206; omega
  have k7 : f + 7 < NC := by show f + 7 < 206; omega
  have k8 : f + 8 < NC := by show f + 8 < 206; omega
  obtain ⟨t1, t2, t3⟩ := hS
  obtain ⟨o1, o2, o3⟩ := hB
  obtain ⟨n1, n2⟩ := enc_act ha
  have ha200 : a < 200 := by unfold iact at ha; omega
  have einj : ∀ q, enc (S.2.2 q).1 = enc a ↔ (S.2.2 q).1 = a := fun q => by
    refine ⟨fun e => ?_, fun e => by rw [e]⟩
    rcases o3 q with h | h
    · rw [h] at e; exact absurd e.symm n2
    · rw [enc_n (enc_act h.2.1).1, enc_n n1] at e
      have := h.2.1
      unfold iact at this ha
      exact (neq (by omega) (by omega)).mp e
  have hlf := frs_le (fun q => decide (S.2.2 q = (a, x, y))) (S.1 - 4) 4
  refine Y_of rfl rfl (Nat.le_of_ble_eq_true rfl) rfl ?_
  refine X_iconst (v := nI 4) dX3_sortOfAct_0 (by decide) ?_
  refine X_istore dX3_sortOfAct_1 rfl rfl ?_
  have loop : ∀ (m i : Nat), m = S.1 - i → 4 ≤ i → i ≤ S.1 → sFn S a x y = frs (fun q => decide (S.2.2 q = (a, x, y))) i m → X G d zX3_sortOfAct 3 [(0, vr f), (1, vi (enc a)), (2, vi (nI x)), (3, vi (nI y)), (4, vi (nI i))] [] (NC, I, J, layR sw) 0 0 (qi Q) := by
    intro m
    induction m with
    | zero =>
      intro i hm h4 him hfr
      obtain rfl : i = S.1 := by omega
      have e : sAc S a x y = (S.1, (S.1 + 1, S.2.1, up S.2.2 S.1 (a, x, y))) := by
        unfold sAc
        rw [hfr]
        exact if_neg (Nat.lt_irrefl _)
      rw [e] at hQ
      refine X_iload dX3_sortOfAct_3 rfl ?_
      refine X_aload_n dX3_sortOfAct_5 rfl ?_
      refine X_getI dX3_sortOfAct_6 gf_X3_77 (by first | assumption | rfl) (by first | assumption | exact Nat.le_of_ble_eq_true rfl | omega) rfl ?_
      rw [t1]
      refine X_icmp_ge (tgt := 54) dX3_sortOfAct_9 (by decide) (fun b => ?_) (fun b => ?_)
      · refine X_aload_n dX3_sortOfAct_54 rfl ?_
        refine X_getR dX3_sortOfAct_55 gf_X3_27 (by first | assumption | rfl) (by first | assumption | exact Nat.le_of_ble_eq_true rfl | omega) rfl (by first | assumption | rfl) ?_
        refine X_aload_n dX3_sortOfAct_58 rfl ?_
        refine X_getI dX3_sortOfAct_59 gf_X3_77 (by first | assumption | rfl) (by first | assumption | exact Nat.le_of_ble_eq_true rfl | omega) rfl ?_
        rw [t1]
        refine X_iload_n dX3_sortOfAct_62 rfl ?_
        refine X_iast dX3_sortOfAct_63 (by first | assumption | rfl) (by first | assumption | exact Nat.le_of_ble_eq_true rfl | omega) rfl (by first | decide | omega) (by decide) ?_
        refine X_aload_n dX3_sortOfAct_64 rfl ?_
        refine X_getR dX3_sortOfAct_65 gf_X3_30 (by first | assumption | rfl) (by first | assumption | exact Nat.le_of_ble_eq_true rfl | omega) rfl (by first | assumption | rfl) ?_
        refine X_aload_n dX3_sortOfAct_68 rfl ?_
        refine X_getI dX3_sortOfAct_69 gf_X3_77 (by first | assumption | rfl) (by first | assumption | exact Nat.le_of_ble_eq_true rfl | omega) rfl ?_
        rw [sr_ne (show f ≠ f + 6 by omega), t1]
        refine X_iload_n dX3_sortOfAct_72 rfl ?_
        refine X_iast dX3_sortOfAct_73 (by first | assumption | rfl) (by first | assumption | exact Nat.le_of_ble_eq_true rfl | omega) rfl (by first | decide | omega) (by decide) ?_
        refine X_aload_n dX3_sortOfAct_74 rfl ?_
        refine X_getR dX3_sortOfAct_75 gf_X3_33 (by first | assumption | rfl) (by first | assumption | exact Nat.le_of_ble_eq_true rfl | omega) rfl (by first | assumption | rfl) ?_
        refine X_aload_n dX3_sortOfAct_78 rfl ?_
        refine X_getI dX3_sortOfAct_79 gf_X3_77 (by first | assumption | rfl) (by first | assumption | exact Nat.le_of_ble_eq_true rfl | omega) rfl ?_
        rw [sr_ne (show f ≠ f + 7 by omega), sr_ne (show f ≠ f + 6 by omega), t1]
        refine X_iload_n dX3_sortOfAct_82 rfl ?_
        refine X_iast dX3_sortOfAct_83 (by first | assumption | rfl) (by first | assumption | exact Nat.le_of_ble_eq_true rfl | omega) rfl (by first | decide | omega) (by decide) ?_
        refine X_aload_n dX3_sortOfAct_84 rfl ?_
        refine X_dup dX3_sortOfAct_85 rfl ?_
        refine X_getI dX3_sortOfAct_86 gf_X3_77 (by first | assumption | rfl) (by first | assumption | exact Nat.le_of_ble_eq_true rfl | omega) rfl ?_
        rw [sr_ne (show f ≠ f + 8 by omega), sr_ne (show f ≠ f + 7 by omega), sr_ne (show f ≠ f + 6 by omega), t1]
        refine X_iconst (v := nI 1) dX3_sortOfAct_89 (by decide) ?_
        first | refine X_iaddN dX3_sortOfAct_90 ?_ | refine X_iadd dX3_sortOfAct_90 ?_
        refine X_putI dX3_sortOfAct_91 gf_X3_77 (Or.inl rfl) (by first | assumption | rfl) (by first | assumption | exact Nat.le_of_ble_eq_true rfl | omega) rfl ?_
        refine X_aload_n dX3_sortOfAct_94 rfl ?_
        refine X_getI dX3_sortOfAct_95 gf_X3_77 (by first | assumption | rfl) (by first | assumption | exact Nat.le_of_ble_eq_true rfl | omega) rfl ?_
        rw [sr_eq, up_eq]
        refine X_iconst (v := nI 1) dX3_sortOfAct_98 (by decide) ?_
        first | refine X_isubN dX3_sortOfAct_99 (by omega) ?_ | refine X_isub dX3_sortOfAct_99 ?_
        rw [Nat.add_sub_cancel]
        refine X_iret dX3_sortOfAct_100 rfl ⟨_, rfl, hQ _ ((((Fr.sr (by simp)).tr (Fr.sr (by simp))).tr (Fr.sr (by simp))).tr (Fr.sr (by simp))) ⟨?_, fun g hg => ?_, fun q hq => ?_⟩⟩
        · rw [sr_eq, up_eq]
        · rw [sr_ne (show f + 5 ≠ f by omega), sr_ne (show f + 5 ≠ f + 8 by omega), sr_ne (show f + 5 ≠ f + 7 by omega), sr_ne (show f + 5 ≠ f + 6 by omega)]
          exact t2 g hg
        · rw [sr_ne (show f + 6 ≠ f by omega), sr_ne (show f + 6 ≠ f + 8 by omega), sr_ne (show f + 6 ≠ f + 7 by omega), sr_eq, sr_ne (show f + 7 ≠ f by omega), sr_ne (show f + 7 ≠ f + 8 by omega), sr_eq, sr_ne (show f + 7 ≠ f + 6 by omega), sr_ne (show f + 8 ≠ f by omega), sr_eq, sr_ne (show f + 8 ≠ f + 7 by omega), sr_ne (show f + 8 ≠ f + 6 by omega)]
          show up (I (f + 6)) S.1 (enc a) q = enc (up S.2.2 S.1 (a, x, y) q).1 ∧ ((up S.2.2 S.1 (a, x, y) q).1 ≠ 99 → up (I (f + 7)) S.1 (nI x) q = nI (up S.2.2 S.1 (a, x, y) q).2.1 ∧ up (I (f + 8)) S.1 (nI y) q = nI (up S.2.2 S.1 (a, x, y) q).2.2)
          by_cases hqs : q = S.1
          · rw [hqs, up_eq, up_eq, up_eq, up_eq]
            exact ⟨rfl, fun _ => ⟨rfl, rfl⟩⟩
          · rw [up_ne hqs, up_ne hqs, up_ne hqs, up_ne hqs]
            exact t3 q hq
      · exact absurd (Int32.le_refl _) b
    | succ m ih =>
      intro i hm h4 him hfr
      have step : S.2.2 i ≠ (a, x, y) → X G d zX3_sortOfAct 48 [(0, vr f), (1, vi (enc a)), (2, vi (nI x)), (3, vi (nI y)), (4, vi (nI i))] [] (NC, I, J, layR sw) 0 0 (qi Q) := by
        intro hne
        first | refine X_iinc1 dX3_sortOfAct_48 rfl rfl rfl ?_ | refine X_iinc dX3_sortOfAct_48 rfl rfl rfl rfl ?_
        refine X_goto (tgt := 3) dX3_sortOfAct_51 (by decide) ?_
        refine ih (i + 1) (by omega) (by omega) (by omega) ?_
        rw [hfr]
        show (if decide (S.2.2 i = (a, x, y)) = true then i else frs _ (i + 1) m) = _
        rw [if_neg (by simpa using hne)]
      obtain ⟨u1, u2⟩ := t3 i (by omega)
      refine X_iload dX3_sortOfAct_3 rfl ?_
      refine X_aload_n dX3_sortOfAct_5 rfl ?_
      refine X_getI dX3_sortOfAct_6 gf_X3_77 (by first | assumption | rfl) (by first | assumption | exact Nat.le_of_ble_eq_true rfl | omega) rfl ?_
      rw [t1]
      refine X_icmp_ge (tgt := 54) dX3_sortOfAct_9 (by decide) (fun b => ?_) (fun b => ?_)
      · exact absurd ((nle (by omega) (by omega)).mp b) (by omega)
      refine X_aload_n dX3_sortOfAct_12 rfl ?_
      refine X_getR dX3_sortOfAct_13 gf_X3_27 (by first | assumption | rfl) (by first | assumption | exact Nat.le_of_ble_eq_true rfl | omega) rfl (by first | assumption | rfl) ?_
      refine X_iload dX3_sortOfAct_16 rfl ?_
      first | refine X_iald dX3_sortOfAct_18 (by first | assumption | rfl) (by first | assumption | exact Nat.le_of_ble_eq_true rfl | omega) rfl (by first | decide | omega) (by decide) ?_ | refine X_ildA dX3_sortOfAct_18 rfl (by omega) ?_ | refine X_ildM dX3_sortOfAct_18 rfl (by omega) ?_ | refine X_sld dX3_sortOfAct_18 rfl (by omega) (by omega) ?_
      rw [u1]
      refine X_iload_n dX3_sortOfAct_19 rfl ?_
      refine X_icmp_ne (tgt := 48) dX3_sortOfAct_20 (by decide) (fun b20 => ?_) (fun b20 => ?_)
      · exact step (fun q => b20 (by rw [q]))
      have ea := (einj i).mp b20
      obtain ⟨w1, w2⟩ := u2 (by rw [ea]; exact n1)
      have o3i := (o3 i).resolve_left (fun q => by rw [q] at ea; exact n1 ea.symm)
      refine X_aload_n dX3_sortOfAct_23 rfl ?_
      refine X_getR dX3_sortOfAct_24 gf_X3_30 (by first | assumption | rfl) (by first | assumption | exact Nat.le_of_ble_eq_true rfl | omega) rfl (by first | assumption | rfl) ?_
      refine X_iload dX3_sortOfAct_27 rfl ?_
      first | refine X_iald dX3_sortOfAct_29 (by first | assumption | rfl) (by first | assumption | exact Nat.le_of_ble_eq_true rfl | omega) rfl (by first | decide | omega) (by decide) ?_ | refine X_ildA dX3_sortOfAct_29 rfl (by omega) ?_ | refine X_ildM dX3_sortOfAct_29 rfl (by omega) ?_ | refine X_sld dX3_sortOfAct_29 rfl (by omega) (by omega) ?_
      rw [w1]
      refine X_iload_n dX3_sortOfAct_30 rfl ?_
      refine X_icmp_ne (tgt := 48) dX3_sortOfAct_31 (by decide) (fun b31 => ?_) (fun b31 => ?_)
      · exact step (fun q => b31 (by rw [q]))
      have ex := (neq (by omega) (by omega)).mp b31
      refine X_aload_n dX3_sortOfAct_34 rfl ?_
      refine X_getR dX3_sortOfAct_35 gf_X3_33 (by first | assumption | rfl) (by first | assumption | exact Nat.le_of_ble_eq_true rfl | omega) rfl (by first | assumption | rfl) ?_
      refine X_iload dX3_sortOfAct_38 rfl ?_
      first | refine X_iald dX3_sortOfAct_40 (by first | assumption | rfl) (by first | assumption | exact Nat.le_of_ble_eq_true rfl | omega) rfl (by first | decide | omega) (by decide) ?_ | refine X_ildA dX3_sortOfAct_40 rfl (by omega) ?_ | refine X_ildM dX3_sortOfAct_40 rfl (by omega) ?_ | refine X_sld dX3_sortOfAct_40 rfl (by omega) (by omega) ?_
      rw [w2]
      refine X_iload_n dX3_sortOfAct_41 rfl ?_
      refine X_icmp_ne (tgt := 48) dX3_sortOfAct_42 (by decide) (fun b42 => ?_) (fun b42 => ?_)
      · exact step (fun q => b42 (by rw [q]))
      have ey := (neq (by omega) (by omega)).mp b42
      have hit : S.2.2 i = (a, x, y) := Prod.ext ea (Prod.ext ex ey)
      have e : sFn S a x y = i := by
        rw [hfr]
        show (if decide (S.2.2 i = (a, x, y)) = true then i else frs _ (i + 1) m) = _
        rw [if_pos (by simpa using hit)]
      unfold sAc at hQ
      rw [e, if_pos (by omega)] at hQ
      refine X_iload dX3_sortOfAct_45 rfl ?_
      exact X_iret dX3_sortOfAct_47 rfl ⟨_, rfl, hQ I Fr.rf ⟨t1, t2, t3⟩⟩
  exact loop (S.1 - 4) 4 rfl (Nat.le_refl 4) o1.1 rfl
end CS
