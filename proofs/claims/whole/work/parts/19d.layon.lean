/-! the class: the quickest order -/
theorem trn_cg {c : Nat → Nat → Nat} {dl : Nat → Nat} {u : Nat} {o o' : Nat → Nat} : ∀ k, (∀ j, j < k → o j = o' j) → trn c dl u o k = trn c dl u o' k
  | 0, _ => rfl
  | k + 1, h => by
    show tstp c dl u (trn c dl u o k) (o k) = tstp c dl u (trn c dl u o' k) (o' k)
    rw [trn_cg k (fun j hj => h j (by omega)), h k (Nat.lt_succ_self k)]
theorem trn_mono {c : Nat → Nat → Nat} {dl : Nat → Nat} {u : Nat} {o : Nat → Nat} {k : Nat} : ∀ j, (trn c dl u o k).2.2.2 ≤ (trn c dl u o (k + j)).2.2.2
  | 0 => Nat.le_refl _
  | j + 1 => by
    refine Nat.le_trans (trn_mono j) ?_
    show _ ≤ max (trn c dl u o (k + j)).2.2.2 _
    exact Nat.le_max_left _ _
def cTk (c : Nat → Nat → Nat) (dl : Nat → Nat) (u n : Nat) (x : Nat → Nat) : Nat := (trn c dl u x n).2.2.2
def lim (acc : BO) : Nat := match acc with
  | none => 536870912
  | some p => p.1
def LQ (I : Nat → Nat → Int32) (n : Nat) (acc : BO) : Prop := I 128 9 = nI (lim acc) ∧ match acc with
  | none => True
  | some p => p.1 ≤ 1000 ∧ ∀ k, k < n → I 135 k = nI (p.2 k)
theorem LQ_lim {I : Nat → Nat → Int32} {n : Nat} {acc : BO} (h : LQ I n acc) : lim acc ≤ 536870912 := by
  cases acc with
  | none => exact Nat.le_refl _
  | some p => have := h.2.1; unfold lim; dsimp only; omega
/-- what the search leaves as it was -/
def LF (I I' : Nat → Nat → Int32) (dep P : Nat) : Prop := Fr [128, 133, 134, 135] I I' ∧ (∀ f, f ≠ 9 → I' 128 f = I 128 f) ∧ (∀ j, P.testBit j = true → I' 133 j = I 133 j) ∧ ∀ q, q < dep → I' 134 q = I 134 q
theorem LF.rf {I : Nat → Nat → Int32} {dep P : Nat} : LF I I dep P := ⟨Fr.rf, fun _ _ => rfl, fun _ _ => rfl, fun _ _ => rfl⟩
theorem LF.tr {I I1 I2 : Nat → Nat → Int32} {dep P : Nat} (h1 : LF I I1 dep P) (h2 : LF I1 I2 dep P) : LF I I2 dep P := ⟨h1.1.tr h2.1, fun f h => (h2.2.1 f h).trans (h1.2.1 f h), fun f h => (h2.2.2.1 f h).trans (h1.2.2.1 f h), fun f h => (h2.2.2.2 f h).trans (h1.2.2.2 f h)⟩
theorem CKk_lf {I I' : Nat → Nat → Int32} {dep P n : Nat} {c : Nat → Nat → Nat} {dl : Nat → Nat} {u : Nat} (h : CKk I n c dl u) (hF : LF I I' dep P) : CKk I' n c dl u := by
  unfold CKk
  rw [hF.2.1 7 (by decide), hF.2.1 8 (by decide), hF.1 130 (by simp), hF.1 131 (by simp), hF.1 132 (by simp)]
  exact h
/-- which steps are left -/
def Lft (n P : Nat) (r : Nat → Nat) (m : Nat) : Prop := (∀ k, k < m → r k < n ∧ P.testBit (r k) = false) ∧ ∀ i, i < n → P.testBit i = false → ∃ k, k < m ∧ r k = i
theorem Lft_stp {n P a m : Nat} {r : Nat → Nat} (h : Lft n P r (m + 1)) (hr : SI r (m + 1)) (ha : a ≤ m) : Lft n (P ||| 2 ^ r a) (eR r a) m := by
  have ne : ∀ k, k < m + 1 → k ≠ a → (P ||| 2 ^ r a).testBit (r k) = false := fun k hk hka => by
    rw [Nat.testBit_or, (h.1 k hk).2, Nat.testBit_two_pow, Bool.false_or]
    exact decide_eq_false (SI_ne hr (by omega) hk (Ne.symm hka))
  refine ⟨fun k hk => ?_, fun i hi hb => ?_⟩
  · unfold eR
    by_cases h1 : k < a
    · rw [if_pos h1]; exact ⟨(h.1 k (by omega)).1, ne k (by omega) (by omega)⟩
    · rw [if_neg h1]; exact ⟨(h.1 (k + 1) (by omega)).1, ne (k + 1) (by omega) (by omega)⟩
  · rw [Nat.testBit_or, Nat.testBit_two_pow, Bool.or_eq_false_iff] at hb
    obtain ⟨k, hk, e⟩ := h.2 i hi hb.1
    have hka : k ≠ a := fun q => absurd hb.2 (by rw [← e, q]; simp)
    rcases Nat.lt_or_ge k a with q | q
    · exact ⟨k, by omega, by unfold eR; rw [if_pos q]; exact e⟩
    · refine ⟨k - 1, by omega, ?_⟩
      unfold eR
      rw [if_neg (by omega), show k - 1 + 1 = k by omega]
      exact e
section CQ
variable {G : GG} {sw : Bool} {J : Nat → Nat → Int64} {s : SS} {n : Nat} {c : Nat → Nat → Nat} {dl : Nat → Nat} {u : Nat}
theorem sdf_sub {a b j : Nat} (ha : a < 2 ^ 32) (h : sdf a b = 0) (hj : a.testBit j = true) : b.testBit j = true := by
  have h32 : j < 32 := by
    rcases Nat.lt_or_ge j 32 with q | q
    · exact q
    · rw [Nat.testBit_lt_two_pow (Nat.lt_of_lt_of_le ha (Nat.pow_le_pow_right (by decide) q))] at hj; exact absurd hj (by decide)
  have := sdf_bit (a := a) (b := b) h32
  rw [h, Nat.zero_testBit, hj, Bool.true_and] at this
  cases hb : b.testBit j
  · rw [hb] at this; exact absurd this (by decide)
  · rfl
set_option maxRecDepth 20000 in
set_option maxHeartbeats 2000000 in
theorem c_layOn (hn : n ≤ 8) (hdl : ∀ j, dl j ≤ 5) (hu1 : 1 ≤ u) (hu : u ≤ 3) : ∀ (m dep : Nat) (o r : Nat → Nat) (acc : BO) (d P : Nat) (t : TS) (I : Nat → Nat → Int32) (Q : Mm → Prop), dep + m = n → m + 2 ≤ d → P = pbt o dep → t = trn c dl u o dep → CKk I n c dl u → SI r m → Lft n P r m → (∀ q, q < dep → o q < n) → lwb (lwA c 1) o dep = true → (∀ j, P.testBit j = true → I 133 j = nI (t.1 j)) → (∀ q, q < dep → I 134 q = nI (o q)) → LQ I n acc →
    (∀ I', LF I I' dep P → LQ I' n (fq (lf (lwA c 1) (cTk c dl u n) n) m dep o r acc) → Q (NC, I', J, layR sw)) → Y G d zX0_layOn [vr 128, vi (nI dep), vi (nI P), vi (nI t.2.1), vi (nI t.2.2.1), vi (nI t.2.2.2)] (NC, I, J, layR sw) 0 0 (qv Q) := by
  intro m
  induction m with
  | zero =>
    intro dep o r acc d P t I Q hdm hd hP ht hC hr hLf hon hlw hT hO hLQ hQ
    have hB := TB_trn (c := c) (o := o) hu1 hdl dep
    rw [← ht] at hB
    obtain ⟨t1, t2, t3, t4⟩ := hB
    have hlm := LQ_lim hLQ
    obtain rfl : dep = n := by omega
    have hx : lwb (lwA c 1) (fun q => if q < dep then o q else 0) dep = true := by
      rw [lwb_cg dep (o' := o) (fun j hj => if_pos hj)]; exact hlw
    have hcx : cTk c dl u dep (fun q => if q < dep then o q else 0) = t.2.2.2 := by
      unfold cTk
      rw [trn_cg dep (o' := o) (fun j hj => if_pos hj), ← ht]
    refine Y_of rfl rfl (Nat.le_of_ble_eq_true rfl) rfl ?_
    refine X_iload dX0_layOn_0 rfl ?_
    refine X_aload_n dX0_layOn_2 rfl ?_
    refine X_getI dX0_layOn_3 gf_X0_78 (by first | assumption | rfl) (by first | assumption | exact Nat.le_of_ble_eq_true rfl | omega) rfl ?_
    rw [hLQ.1]
    refine X_icmp_lt (tgt := 10) dX0_layOn_6 (by decide) (fun b6 => ?_) (fun b6 => ?_)
    · have hlt := (nlt (by omega) (by omega)).mp b6
      have hres : fq (lf (lwA c 1) (cTk c dl u dep) dep) 0 dep o r acc = some (t.2.2.2, fun q => if q < dep then o q else 0) := by
        unfold fq
        rw [← hcx]
        cases acc with
        | none => exact lf_none hx
        | some p => exact lf_lt hx (by rw [hcx]; exact hlt)
      rw [hres] at hQ
      have fin : X G d zX0_layOn 24 [(0, vr 128), (1, vi (nI dep)), (2, vi (nI P)), (3, vi (nI t.2.1)), (4, vi (nI t.2.2.1)), (5, vi (nI t.2.2.2))] [] (NC, I, J, layR sw) 0 0 (qv Q) := by
        refine X_aload_n dX0_layOn_24 rfl ?_
        refine X_iload dX0_layOn_25 rfl ?_
        refine X_putI dX0_layOn_27 gf_X0_78 (Or.inl rfl) (by first | assumption | rfl) (by first | assumption | exact Nat.le_of_ble_eq_true rfl | omega) rfl ?_
        refine X_aload_n dX0_layOn_30 rfl ?_
        refine X_getR dX0_layOn_31 gf_X0_27 (by first | assumption | rfl) (by first | assumption | exact Nat.le_of_ble_eq_true rfl | omega) rfl (by first | assumption | rfl) ?_
        refine X_iconst (v := nI 0) dX0_layOn_34 (by decide) ?_
        refine X_aload_n dX0_layOn_35 rfl ?_
        refine X_getR dX0_layOn_36 gf_X0_30 (by first | assumption | rfl) (by first | assumption | exact Nat.le_of_ble_eq_true rfl | omega) rfl (by first | assumption | rfl) ?_
        refine X_iconst (v := nI 0) dX0_layOn_39 (by decide) ?_
        refine X_bipush (v := nI 8) dX0_layOn_40 (by decide) ?_
        first | refine X_copyI dX0_layOn_42 ac_X0_85 ac_2 ac_3 ac_4 (by first | assumption | rfl) (by first | assumption | rfl) (by first | assumption | exact Nat.le_of_ble_eq_true rfl | omega) (by first | assumption | exact Nat.le_of_ble_eq_true rfl | omega) rfl rfl rfl (by omega) (by omega) (by decide) (by decide) (by omega) (Nat.le_of_ble_eq_true rfl) ?_ | refine X_copyL dX0_layOn_42 ac_X0_85 ac_2 ac_3 ac_4 (by first | assumption | rfl) (by first | assumption | rfl) (by first | assumption | exact Nat.le_of_ble_eq_true rfl | omega) (by first | assumption | exact Nat.le_of_ble_eq_true rfl | omega) rfl rfl rfl (by omega) (by omega) (by decide) (by decide) (by omega) (Nat.le_of_ble_eq_true rfl) ?_
        refine X_vret dX0_layOn_45 rfl ⟨rfl, hQ _ ⟨(Fr.sr (by simp)).tr (Fr.sr (by simp)), fun f hf => ?_, fun j hj => ?_, fun q hq => ?_⟩ ⟨?_, ?_, fun k hk => ?_⟩⟩
        · rw [sr_ne (by decide), sr_eq, up_ne hf]
        · rw [sr_ne (by decide), sr_ne (by decide)]
        · rw [sr_ne (by decide), sr_ne (by decide)]
        · rw [sr_ne (by decide), sr_eq, up_eq]; rfl
        · show t.2.2.2 ≤ 1000; omega
        · rw [sr_eq]
          unfold va_cpy
          rw [if_pos (by omega), sr_ne (by decide), show 0 + (k - 0) = k by omega, hO k hk]
          dsimp only
          rw [if_pos hk]
      refine X_iload_n dX0_layOn_10 rfl ?_
      refine X_aload_n dX0_layOn_11 rfl ?_
      refine X_getI dX0_layOn_12 gf_X0_51 (by first | assumption | rfl) (by first | assumption | exact Nat.le_of_ble_eq_true rfl | omega) rfl ?_
      rw [hC.1]
      refine X_icmp_ge (tgt := 24) dX0_layOn_15 (by decide) (fun b15 => ?_) (fun b15 => ?_)
      · exact fin
      · exact absurd (Int32.le_refl _) b15
    · have hge : ¬ t.2.2.2 < lim acc := fun q => b6 ((nlt (by omega) (by omega)).mpr q)
      refine X_vret dX0_layOn_9 rfl ⟨rfl, hQ I LF.rf ?_⟩
      have : fq (lf (lwA c 1) (cTk c dl u dep) dep) 0 dep o r acc = acc := by
        unfold fq
        cases acc with
        | none => exact absurd (show t.2.2.2 < 536870912 by omega) hge
        | some p => exact lf_ge (by rw [hcx]; exact hge)
      rw [this]
      exact hLQ
  | succ m ih =>
    intro dep o r acc d P t I Q hdm hd hP ht hC hr hLf hon hlw hT hO hLQ hQ
    have hB := TB_trn (c := c) (o := o) hu1 hdl dep
    rw [← ht] at hB
    have hBB := hB
    obtain ⟨t1, t2, t3, t4⟩ := hB
    have hlm := LQ_lim hLQ
    have hPl : P < 256 := by
      rw [hP]
      exact Nat.lt_of_lt_of_le (pbt_lt dep hon) (Nat.pow_le_pow_right (n := 2) (by decide) (show n ≤ 8 by omega))
    have loop : ∀ (w i a : Nat) (I' : Nat → Nat → Int32) (L2 : List (Nat × AV)), w = n - i → i ≤ n → a ≤ m + 1 → (∀ k, k < a → r k < i) → (∀ k, a ≤ k → k < m + 1 → i ≤ r k) → LF I I' dep P → LQ I' n (itr (fun a x => fq (lf (lwA c 1) (cTk c dl u n) n) m (dep + 1) (up o dep (r a)) (eR r a) x) a acc) → X G d zX0_layOn 49 ([(0, vr 128), (1, vi (nI dep)), (2, vi (nI P)), (3, vi (nI t.2.1)), (4, vi (nI t.2.2.1)), (5, vi (nI t.2.2.2)), (6, vi (nI i))] ++ L2) [] (NC, I', J, layR sw) 0 0 (qv Q) := by
      intro w
      induction w with
      | zero =>
        intro i a I' L2 hw hi ha h1 h2 hF hA
        have hC' := CKk_lf hC hF
        obtain rfl : i = n := by omega
        obtain rfl : a = m + 1 := by
          rcases Nat.lt_or_ge a (m + 1) with q | q
          · have := h2 a (Nat.le_refl a) q
            have := (hLf.1 a q).1
            omega
          · omega
        refine weak (lv' := [(0, vr 128), (1, vi (nI dep)), (2, vi (nI P)), (3, vi (nI t.2.1)), (4, vi (nI t.2.2.1)), (5, vi (nI t.2.2.2)), (6, vi (nI i))]) (fun q hq => List.mem_append_left _ hq) ?_
        refine X_iload dX0_layOn_49 rfl ?_
        refine X_aload_n dX0_layOn_51 rfl ?_
        refine X_getI dX0_layOn_52 gf_X0_51 (by first | assumption | rfl) (by first | assumption | exact Nat.le_of_ble_eq_true rfl | omega) rfl ?_
        rw [hC'.1]
        refine X_icmp_ge (tgt := 179) dX0_layOn_55 (by decide) (fun b55 => ?_) (fun b55 => ?_)
        · exact X_vret dX0_layOn_179 rfl ⟨rfl, hQ I' hF hA⟩
        · exact absurd (Int32.le_refl _) b55
      | succ w ihw =>
        intro i a I' L2 hw hi ha h1 h2 hF hA
        have hC' := CKk_lf hC hF
        have hin : i < n := by omega
        obtain ⟨k1, k2, k3⟩ := hC'.2.2 i hin
        have hnl : ned c i < 4096 := Nat.lt_of_lt_of_le (ned_lt c i) (pow4096 (by omega))
        have hal : awt c i < 4096 := Nat.lt_of_lt_of_le (awt_lt c i) (pow4096 (by omega))
        have hol : ned c i ||| awt c i < 4096 := Nat.or_lt_two_pow (n := 12) hnl hal
        have hsl := sdf_le (ned c i ||| awt c i) P
        have skip : LQ I' n (itr (fun a x => fq (lf (lwA c 1) (cTk c dl u n) n) m (dep + 1) (up o dep (r a)) (eR r a) x) a acc) → ∀ a', a' ≤ m + 1 → (∀ k, k < a' → r k < i + 1) → (∀ k, a' ≤ k → k < m + 1 → i + 1 ≤ r k) → LQ I' n (itr (fun a x => fq (lf (lwA c 1) (cTk c dl u n) n) m (dep + 1) (up o dep (r a)) (eR r a) x) a' acc) → X G d zX0_layOn 93 [(0, vr 128), (1, vi (nI dep)), (2, vi (nI P)), (3, vi (nI t.2.1)), (4, vi (nI t.2.2.1)), (5, vi (nI t.2.2.2)), (6, vi (nI i))] [] (NC, I', J, layR sw) 0 0 (qv Q) := by
          intro _ a' ha' g1 g2 hA'
          refine X_iconst (v := nI 0) dX0_layOn_93 (by decide) ?_
          refine X_istore dX0_layOn_94 rfl rfl ?_
          refine X_iload dX0_layOn_96 rfl ?_
          refine X_if_eq (tgt := 173) dX0_layOn_98 (by decide) (fun b98 => ?_) (fun b98 => ?_)
          · first | refine X_iinc1 dX0_layOn_173 rfl rfl rfl ?_ | refine X_iinc dX0_layOn_173 rfl rfl rfl rfl ?_
            refine X_goto (tgt := 49) dX0_layOn_176 (by decide) ?_
            exact ihw (i + 1) a' I' [(7, vi (nI 0))] (by omega) (by omega) ha' g1 g2 hF hA'
          · exact absurd rfl b98
        refine weak (lv' := [(0, vr 128), (1, vi (nI dep)), (2, vi (nI P)), (3, vi (nI t.2.1)), (4, vi (nI t.2.2.1)), (5, vi (nI t.2.2.2)), (6, vi (nI i))]) (fun q hq => List.mem_append_left _ hq) ?_
        refine X_iload dX0_layOn_49 rfl ?_
        refine X_aload_n dX0_layOn_51 rfl ?_
        refine X_getI dX0_layOn_52 gf_X0_51 (by first | assumption | rfl) (by first | assumption | exact Nat.le_of_ble_eq_true rfl | omega) rfl ?_
        rw [hC'.1]
        refine X_icmp_ge (tgt := 179) dX0_layOn_55 (by decide) (fun b55 => ?_) (fun b55 => ?_)
        · exact absurd ((nle (by omega) (by omega)).mp b55) (by omega)
        refine X_iload_n dX0_layOn_58 rfl ?_
        refine X_iload dX0_layOn_59 rfl ?_
        first | refine X_ishrN dX0_layOn_61 (by omega) (by omega) ?_ | refine X_ishr dX0_layOn_61 ?_
        refine X_iconst (v := nI 1) dX0_layOn_62 (by decide) ?_
        first | refine X_iandN dX0_layOn_63 ?_ | refine X_iandC dX0_layOn_63 ?_ | refine X_iand dX0_layOn_63 ?_
        rw [Nat.and_one_is_mod, bit_mod]
        cases hbi : P.testBit i with
        | true =>
          rw [if_pos rfl]
          refine X_if_ne (tgt := 93) dX0_layOn_64 (by decide) (fun b64 => ?_) (fun b64 => ?_)
          · refine skip hA a ha (fun k hk => by have := h1 k hk; omega) (fun k q1 q2 => ?_) hA
            have := h2 k q1 q2
            have : r k ≠ i := fun q => by
              have := (hLf.1 k q2).2
              rw [q, hbi] at this
              exact absurd this (by decide)
            omega
          · exact absurd b64 (by decide)
        | false =>
          rw [if_neg (by decide)]
          obtain ⟨k, hk, hki⟩ := hLf.2 i hin hbi
          have hka : r a = i ∧ a < m + 1 := by
            have hak : a ≤ k := by
              rcases Nat.lt_or_ge k a with q | q
              · have := h1 k q; omega
              · exact q
            have := h2 a (Nat.le_refl a) (by omega)
            rcases Nat.lt_or_ge a k with q | q
            · have := hr a k q hk; omega
            · have : a = k := by omega
              exact ⟨by rw [this]; exact hki, by omega⟩
          obtain ⟨hra, ham⟩ := hka
          have g1 : ∀ k, k < a + 1 → r k < i + 1 := fun k hk => by
            by_cases q : k = a
            · rw [q, hra]; omega
            · have := h1 k (by omega); omega
          have g2 : ∀ k, a + 1 ≤ k → k < m + 1 → i + 1 ≤ r k := fun k q1 q2 => by
            have := hr a k (by omega) q2
            omega
          refine X_if_ne (tgt := 93) dX0_layOn_64 (by decide) (fun b64 => ?_) (fun b64 => ?_)
          · exact absurd rfl b64
          refine X_aload_n dX0_layOn_67 rfl ?_
          refine X_getR dX0_layOn_68 gf_X0_18 (by first | assumption | rfl) (by first | assumption | exact Nat.le_of_ble_eq_true rfl | omega) rfl (by first | assumption | rfl) ?_
          refine X_iload dX0_layOn_71 rfl ?_
          first | refine X_iald dX0_layOn_73 (by first | assumption | rfl) (by first | assumption | exact Nat.le_of_ble_eq_true rfl | omega) rfl (by first | decide | omega) (by decide) ?_ | refine X_ildA dX0_layOn_73 rfl (by omega) ?_ | refine X_ildM dX0_layOn_73 rfl (by omega) ?_ | refine X_sld dX0_layOn_73 rfl (by omega) (by omega) ?_
          rw [k2]
          refine X_aload_n dX0_layOn_74 rfl ?_
          refine X_getR dX0_layOn_75 gf_X0_21 (by first | assumption | rfl) (by first | assumption | exact Nat.le_of_ble_eq_true rfl | omega) rfl (by first | assumption | rfl) ?_
          refine X_iload dX0_layOn_78 rfl ?_
          first | refine X_iald dX0_layOn_80 (by first | assumption | rfl) (by first | assumption | exact Nat.le_of_ble_eq_true rfl | omega) rfl (by first | decide | omega) (by decide) ?_ | refine X_ildA dX0_layOn_80 rfl (by omega) ?_ | refine X_ildM dX0_layOn_80 rfl (by omega) ?_ | refine X_sld dX0_layOn_80 rfl (by omega) (by omega) ?_
          rw [k3]
          first | refine X_iorN dX0_layOn_81 ?_ | refine X_ior dX0_layOn_81 ?_
          refine X_iload_n dX0_layOn_82 rfl ?_
          refine X_iconst (v := (-1)) dX0_layOn_83 (by decide) ?_
          refine X_ixor dX0_layOn_84 ?_
          first | refine X_iandN dX0_layOn_85 ?_ | refine X_iandC dX0_layOn_85 ?_ | refine X_iand dX0_layOn_85 ?_
          have hAi : lwA c 1 i = ned c i ||| awt c i := if_pos rfl
          refine X_if_ne (tgt := 93) dX0_layOn_86 (by decide) (fun b86 => ?_) (fun b86 => ?_)
          · refine skip hA (a + 1) (by omega) g1 g2 ?_
            have : fq (lf (lwA c 1) (cTk c dl u n) n) m (dep + 1) (up o dep (r a)) (eR r a) (itr (fun a x => fq (lf (lwA c 1) (cTk c dl u n) n) m (dep + 1) (up o dep (r a)) (eR r a) x) a acc) = itr (fun a x => fq (lf (lwA c 1) (cTk c dl u n) n) m (dep + 1) (up o dep (r a)) (eR r a) x) a acc := by
              refine fq_same m (dep + 1) _ _ (fun x hx => lf_no (fun q => ?_))
              have h0 := lwb_at q (show dep < n by omega)
              rw [hx dep (Nat.lt_succ_self dep), up_eq, hra, hAi, pbt_cg dep (o' := o) (fun j hj => by rw [hx j (by omega), up_ne (by omega)]), ← hP] at h0
              exact b86 (by rw [h0]; rfl)
            show LQ I' n (fq (lf (lwA c 1) (cTk c dl u n) n) m (dep + 1) (up o dep (r a)) (eR r a) (itr _ a acc))
            rw [this]
            exact hA
          · have hs0 : sdf (ned c i ||| awt c i) P = 0 := (neq (b := 0) (by omega) (by decide)).mp b86
            have hbits : ∀ j, ((ned c i).testBit j = true ∨ (awt c i).testBit j = true) → P.testBit j = true := fun j h => sdf_sub (by omega) hs0 (by rw [Nat.testBit_or, Bool.or_eq_true]; exact h)
            obtain ⟨hB2, hx⟩ := TB_stp (c := c) (i := i) hu1 hdl hBB
            have hdi := hdl i
            refine X_iconst (v := nI 1) dX0_layOn_89 (by decide) ?_
            refine X_goto (tgt := 94) dX0_layOn_90 (by decide) ?_
            refine X_istore dX0_layOn_94 rfl rfl ?_
            refine X_iload dX0_layOn_96 rfl ?_
            refine X_if_eq (tgt := 173) dX0_layOn_98 (by decide) (fun b98 => ?_) (fun b98 => ?_)
            · exact absurd b98 (by decide)
            refine X_aload_n dX0_layOn_101 rfl ?_
            refine X_iload dX0_layOn_102 rfl ?_
            refine X_iload_n dX0_layOn_104 rfl ?_
            refine X_iload dX0_layOn_105 rfl ?_
            refine X_cVi dX0_layOn_107 ck_X0_68 rfl rfl (by first | assumption | rfl) (by first | assumption | exact Nat.le_of_ble_eq_true rfl | omega) (by omega) (Nat.le_of_ble_eq_true rfl) (c_firstTick (k := dep) (by omega) (by omega) hin hC' hdl hu (by omega) hBB (fun j _ h => by rw [hF.2.2.1 j (hbits j h)]; exact hT j (hbits j h)) ?_)
            refine X_istore dX0_layOn_110 rfl rfl ?_
            refine X_aload_n dX0_layOn_112 rfl ?_
            refine X_getR dX0_layOn_113 gf_X0_24 (by first | assumption | rfl) (by first | assumption | exact Nat.le_of_ble_eq_true rfl | omega) rfl (by first | assumption | rfl) ?_
            refine X_iload dX0_layOn_116 rfl ?_
            refine X_iload dX0_layOn_118 rfl ?_
            refine X_iast dX0_layOn_120 (by first | assumption | rfl) (by first | assumption | exact Nat.le_of_ble_eq_true rfl | omega) rfl (by first | decide | omega) (by decide) ?_
            refine X_aload_n dX0_layOn_121 rfl ?_
            refine X_getR dX0_layOn_122 gf_X0_27 (by first | assumption | rfl) (by first | assumption | exact Nat.le_of_ble_eq_true rfl | omega) rfl (by first | assumption | rfl) ?_
            refine X_iload_n dX0_layOn_125 rfl ?_
            refine X_iload dX0_layOn_126 rfl ?_
            refine X_iast dX0_layOn_128 (by first | assumption | rfl) (by first | assumption | exact Nat.le_of_ble_eq_true rfl | omega) rfl (by first | decide | omega) (by decide) ?_
            refine X_aload_n dX0_layOn_129 rfl ?_
            refine X_iload_n dX0_layOn_130 rfl ?_
            refine X_iconst (v := nI 1) dX0_layOn_131 (by decide) ?_
            first | refine X_iaddN dX0_layOn_132 ?_ | refine X_iadd dX0_layOn_132 ?_
            refine X_iload_n dX0_layOn_133 rfl ?_
            refine X_iconst (v := nI 1) dX0_layOn_134 (by decide) ?_
            refine X_iload dX0_layOn_135 rfl ?_
            first | refine X_ishl1 dX0_layOn_137 (by omega) ?_ | refine X_ishl dX0_layOn_137 ?_
            generalize hI2 : sr (sr I' 133 (up (I' 133) i (nI (ftk c dl u t i)))) 134 (up (sr I' 133 (up (I' 133) i (nI (ftk c dl u t i))) 134) dep (nI i)) = I2
            have o2 : ∀ k, k ≠ 133 → k ≠ 134 → I2 k = I' k := fun k q1 q2 => by rw [← hI2, sr_ne q2, sr_ne q1]
            have e133 : ∀ j, I2 133 j = up (I' 133) i (nI (ftk c dl u t i)) j := fun j => by rw [← hI2, sr_ne (by decide), sr_eq]
            have e134 : ∀ j, I2 134 j = up (I' 134) dep (nI i) j := fun j => by rw [← hI2, sr_eq, sr_ne (by decide)]
            have hF2 : LF I' I2 dep P := by
              refine ⟨?_, fun f _ => by rw [o2 128 (by decide) (by decide)], fun j hj => ?_, fun q hq => ?_⟩
              · rw [← hI2]; exact (Fr.sr (by simp)).tr (Fr.sr (by simp))
              · rw [e133, up_ne (fun q => by rw [q, hbi] at hj; exact absurd hj (by decide))]
              · rw [e134, up_ne (by omega)]
            have hC2 := CKk_lf hC' hF2
            have hP' : P ||| 2 ^ i = pbt (up o dep (r a)) (dep + 1) := by
              show P ||| 2 ^ i = pbt (up o dep (r a)) dep ||| 2 ^ (up o dep (r a) dep)
              rw [up_eq, hra, pbt_cg dep (o' := o) (fun j hj => up_ne (by omega)), ← hP]
            have ht' : tstp c dl u t i = trn c dl u (up o dep (r a)) (dep + 1) := by
              show tstp c dl u t i = tstp c dl u (trn c dl u (up o dep (r a)) dep) (up o dep (r a) dep)
              rw [up_eq, hra, trn_cg dep (o' := o) (fun j hj => up_ne (by omega)), ← ht]
            have tail : ∀ y : Nat, y = (if ftk c dl u t i = t.2.1 then t.2.2.1 + 1 else 1) → X G d zX0_layOn 155 [(0, vr 128), (1, vi (nI dep)), (2, vi (nI P)), (3, vi (nI t.2.1)), (4, vi (nI t.2.2.1)), (5, vi (nI t.2.2.2)), (6, vi (nI i)), (7, vi (nI 1)), (8, vi (nI (ftk c dl u t i)))] [vi (nI y), vi (nI (ftk c dl u t i)), vi (nI (P ||| 2 ^ i)), vi (nI (dep + 1)), vr 128] (NC, I2, J, layR sw) 0 0 (qv Q) := by
              intro y hy
              refine X_iload dX0_layOn_155 rfl ?_
              refine X_iload dX0_layOn_157 rfl ?_
              refine X_aload_n dX0_layOn_159 rfl ?_
              refine X_getR dX0_layOn_160 gf_X0_15 (by first | assumption | rfl) (by first | assumption | exact Nat.le_of_ble_eq_true rfl | omega) rfl (by first | assumption | rfl) ?_
              refine X_iload dX0_layOn_163 rfl ?_
              first | refine X_iald dX0_layOn_165 (by first | assumption | rfl) (by first | assumption | exact Nat.le_of_ble_eq_true rfl | omega) rfl (by first | decide | omega) (by decide) ?_ | refine X_ildA dX0_layOn_165 rfl (by omega) ?_ | refine X_ildM dX0_layOn_165 rfl (by omega) ?_ | refine X_sld dX0_layOn_165 rfl (by omega) (by omega) ?_
              rw [(hC2.2.2 i hin).1]
              first | refine X_iaddN dX0_layOn_166 ?_ | refine X_iadd dX0_layOn_166 ?_
              refine X_cSi dX0_layOn_167 ck_X0_72 rfl rfl (by omega) (Nat.le_of_ble_eq_true rfl) (c_max (by omega) (by omega) ?_)
              rw [hy]
              refine X_cVv dX0_layOn_170 ck_X0_81 rfl rfl (by first | assumption | rfl) (by first | assumption | exact Nat.le_of_ble_eq_true rfl | omega) (by omega) (Nat.le_of_ble_eq_true rfl) (ih (dep + 1) (up o dep (r a)) (eR r a) (itr (fun a x => fq (lf (lwA c 1) (cTk c dl u n) n) m (dep + 1) (up o dep (r a)) (eR r a) x) a acc) (d - 1) (P ||| 2 ^ i) (tstp c dl u t i) I2 _ (by omega) (by omega) hP' ht' hC2 (SI_eR hr) (by rw [← hra]; exact Lft_stp hLf hr (by omega)) (fun q hq => ?_) ?_ (fun j hj => ?_) (fun q hq => ?_) ⟨?_, ?_⟩ (fun I3 f3 h3 => ?_))
              · by_cases hqd : q = dep
                · rw [hqd, up_eq, hra]; exact hin
                · rw [up_ne hqd]; exact hon q (by omega)
              · show (lwb (lwA c 1) (up o dep (r a)) dep && decide (sdf (lwA c 1 (up o dep (r a) dep)) (pbt (up o dep (r a)) dep) = 0)) = true
                rw [lwb_cg dep (o' := o) (fun j hj => up_ne (by omega)), hlw, Bool.true_and, decide_eq_true_iff, up_eq, hra, hAi, pbt_cg dep (o' := o) (fun j hj => up_ne (by omega)), ← hP]
                exact hs0
              · rw [e133]
                show _ = nI (up t.1 i (ftk c dl u t i) j)
                by_cases hji : j = i
                · rw [hji, up_eq, up_eq]
                · rw [up_ne hji, up_ne hji]
                  rw [Nat.testBit_or, Nat.testBit_two_pow, Bool.or_eq_true, decide_eq_true_iff] at hj
                  have hj := hj.resolve_right (fun q => hji q.symm)
                  rw [hF.2.2.1 j hj]; exact hT j hj
              · rw [e134]
                by_cases hqd : q = dep
                · rw [hqd, up_eq, up_eq, hra]
                · rw [up_ne hqd, up_ne hqd, hF.2.2.2 q (by omega)]; exact hO q (by omega)
              · rw [o2 128 (by decide) (by decide)]; exact hA.1
              · have h2 := hA.2
                rw [← o2 135 (by decide) (by decide)] at h2
                exact h2
              have hF3 : LF I2 I3 dep P := ⟨f3.1, f3.2.1, fun j hj => f3.2.2.1 j (by rw [Nat.testBit_or, hj]; rfl), fun q hq => f3.2.2.2 q (by omega)⟩
              first | refine X_iinc1 dX0_layOn_173 rfl rfl rfl ?_ | refine X_iinc dX0_layOn_173 rfl rfl rfl rfl ?_
              refine X_goto (tgt := 49) dX0_layOn_176 (by decide) ?_
              exact ihw (i + 1) (a + 1) I3 [(7, vi (nI 1)), (8, vi (nI (ftk c dl u t i)))] (by omega) (by omega) (by omega) g1 g2 ((hF.tr hF2).tr hF3) h3
            first | refine X_iorN dX0_layOn_138 ?_ | refine X_ior dX0_layOn_138 ?_
            refine X_iload dX0_layOn_139 rfl ?_
            refine X_iload dX0_layOn_141 rfl ?_
            refine X_iload_n dX0_layOn_143 rfl ?_
            refine X_icmp_ne (tgt := 154) dX0_layOn_144 (by decide) (fun b144 => ?_) (fun b144 => ?_)
            · refine X_iconst (v := nI 1) dX0_layOn_154 (by decide) ?_
              exact tail _ (by rw [if_neg (fun q => b144 (by rw [q]))])
            · refine X_iload dX0_layOn_147 rfl ?_
              refine X_iconst (v := nI 1) dX0_layOn_149 (by decide) ?_
              first | refine X_iaddN dX0_layOn_150 ?_ | refine X_iadd dX0_layOn_150 ?_
              refine X_goto (tgt := 155) dX0_layOn_151 (by decide) ?_
              exact tail _ (by rw [if_pos ((neq (by omega) (by omega)).mp b144)])
    refine Y_of rfl rfl (Nat.le_of_ble_eq_true rfl) rfl ?_
    refine X_iload dX0_layOn_0 rfl ?_
    refine X_aload_n dX0_layOn_2 rfl ?_
    refine X_getI dX0_layOn_3 gf_X0_78 (by first | assumption | rfl) (by first | assumption | exact Nat.le_of_ble_eq_true rfl | omega) rfl ?_
    rw [hLQ.1]
    refine X_icmp_lt (tgt := 10) dX0_layOn_6 (by decide) (fun b6 => ?_) (fun b6 => ?_)
    · refine X_iload_n dX0_layOn_10 rfl ?_
      refine X_aload_n dX0_layOn_11 rfl ?_
      refine X_getI dX0_layOn_12 gf_X0_51 (by first | assumption | rfl) (by first | assumption | exact Nat.le_of_ble_eq_true rfl | omega) rfl ?_
      rw [hC.1]
      refine X_icmp_ge (tgt := 24) dX0_layOn_15 (by decide) (fun b15 => ?_) (fun b15 => ?_)
      · exact absurd ((nle (by omega) (by omega)).mp b15) (by omega)
      refine X_iload_n dX0_layOn_18 rfl ?_
      refine X_bipush (v := nI 8) dX0_layOn_19 (by decide) ?_
      refine X_icmp_lt (tgt := 46) dX0_layOn_21 (by decide) (fun b21 => ?_) (fun b21 => ?_)
      · refine X_iconst (v := nI 0) dX0_layOn_46 (by decide) ?_
        refine X_istore dX0_layOn_47 rfl rfl ?_
        exact loop n 0 0 I [] rfl (Nat.zero_le n) (Nat.zero_le _) (fun k hk => absurd hk (Nat.not_lt_zero k)) (fun k _ _ => Nat.zero_le _) LF.rf hLQ
      · exact absurd ((nlt (by omega) (by omega)).mpr (by omega)) b21
    · have hge : ¬ t.2.2.2 < lim acc := fun q => b6 ((nlt (by omega) (by omega)).mpr q)
      refine X_vret dX0_layOn_9 rfl ⟨rfl, hQ I LF.rf ?_⟩
      have : fq (lf (lwA c 1) (cTk c dl u n) n) (m + 1) dep o r acc = acc := by
        refine fq_same (m + 1) dep o r (fun x hx => ?_)
        cases acc with
        | none => exact absurd (show t.2.2.2 < 536870912 by omega) hge
        | some p =>
          refine lf_ge (fun q => hge ?_)
          refine Nat.lt_of_le_of_lt ?_ q
          have hm := trn_mono (c := c) (dl := dl) (u := u) (o := x) (k := dep) (n - dep)
          rw [show dep + (n - dep) = n by omega, trn_cg dep (o' := o) hx, ← ht] at hm
          exact hm
      rw [this]
      exact hLQ
end CQ
