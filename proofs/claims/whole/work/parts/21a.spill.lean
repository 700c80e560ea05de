/-! put by: which values, by registers that are kept from place to place -/
def kp (c : Nat → Nat → Nat) (n W X p : Nat) : Nat := bts (fun r => (hrg c W n p).testBit r && !X.testBit (vlu c p r)) 4
theorem kp_lt (c : Nat → Nat → Nat) (n W X p : Nat) : kp c n W X p < 16 := bts_lt _ 4
theorem kp_bit {c : Nat → Nat → Nat} {n W X p r : Nat} (hr : r < 4) : (kp c n W X p).testBit r = ((hrg c W n p).testBit r && !X.testBit (vlu c p r)) := bts_bit _ 4 r hr
theorem eq16 {a b : Nat} (ha : a < 16) (hb : b < 16) (h : ∀ r, r < 4 → a.testBit r = b.testBit r) : a = b := by
  apply Nat.eq_of_testBit_eq
  intro i
  by_cases hi : i < 4
  · exact h i hi
  · rw [Nat.testBit_lt_two_pow (Nat.lt_of_lt_of_le ha (Nat.pow_le_pow_right (n := 2) (i := 4) (j := i) (by decide) (by omega))), Nat.testBit_lt_two_pow (Nat.lt_of_lt_of_le hb (Nat.pow_le_pow_right (n := 2) (i := 4) (j := i) (by decide) (by omega)))]
theorem kp_cg {c : Nat → Nat → Nat} {n W X X' p : Nat} (h : ∀ v, v < 4 + p → X.testBit v = X'.testBit v) : kp c n W X p = kp c n W X' p :=
  eq16 (kp_lt _ _ _ _ _) (kp_lt _ _ _ _ _) (fun r hr => by rw [kp_bit hr, kp_bit hr, h _ (vlu_lt c p r hr)])
theorem on_hi {a m : Nat} (ha : a < 2 ^ m) : ∀ k, on a (m + k) = on a m
  | 0 => rfl
  | k + 1 => by
    show on a (m + k) + a / 2 ^ (m + k) % 2 = on a m
    rw [on_hi ha k, Nat.div_eq_of_lt (Nat.lt_of_lt_of_le ha (Nat.pow_le_pow_right (by decide) (by omega))), Nat.zero_mod, Nat.add_zero]
theorem on_or {a j : Nat} (h : a.testBit j = false) {m : Nat} (hj : j < m) : on (a ||| 2 ^ j) m = on a m + 1 := by
  rw [on_cnt, on_cnt]
  refine cnt_1 (w := j) m hj (fun i _ hne => ?_) ?_ h
  · rw [Nat.testBit_or, Nat.testBit_two_pow, decide_eq_false (fun q => hne q.symm), Bool.or_false]
  · rw [Nat.testBit_or, Nat.testBit_two_pow_self, Bool.or_true]
theorem cnt_mono {f g : Nat → Bool} (h : ∀ i, f i = true → g i = true) : ∀ m, cnt f m ≤ cnt g m
  | 0 => Nat.le_refl 0
  | m + 1 => by
    have ih := cnt_mono h m
    unfold cnt
    by_cases hf : f m = true
    · rw [if_pos hf, if_pos (h m hf)]; omega
    · rw [if_neg hf]; split <;> omega
theorem on_mono {a b : Nat} (h : ∀ i, a.testBit i = true → b.testBit i = true) (m : Nat) : on a m ≤ on b m := by
  rw [on_cnt, on_cnt]; exact cnt_mono h m
/-- as many values as registers -/
theorem vinr_on {c : Nat → Nat → Nat} {K p : Nat} (hp : p ≤ 12) : ∀ r, r ≤ 4 → on (vinr c K p r) 16 = cnt (fun q => K.testBit q) r
  | 0, _ => by
    show on 0 16 = 0
    decide
  | r + 1, h => by
    have ih := vinr_on (c := c) (K := K) hp r (by omega)
    have hlt := vlu_lt c p r (by omega)
    by_cases hb : K.testBit r = true
    · rw [vinr_t hb, cnt_t (p := fun q => K.testBit q) hb, on_or ?_ (by omega), ih]
      cases q : (vinr c K p r).testBit (vlu c p r)
      · rfl
      · obtain ⟨r', h1, _, h3⟩ := (vinr_bit r).mp q
        have := vlu_inj c p r' r (by omega) (by omega) h3
        omega
    · rw [vinr_f hb, cnt_f (p := fun q => K.testBit q) hb, ih]
theorem vin_on {c : Nat → Nat → Nat} {K p : Nat} (hp : p ≤ 12) (hK : K < 16) : on (vin c K p) 16 = on K 16 := by
  unfold vin
  rw [vinr_on hp 4 (Nat.le_refl 4), show (16 : Nat) = 4 + 12 from rfl, on_hi hK 12, on_cnt]
theorem kp_on {c : Nat → Nat → Nat} {n W X p : Nat} (hW : W < 16) (hv : VC n c) (hp : p ≤ n) : on (sdf (hlB c n W (fun i => i) p) X) 16 = on (kp c n W X p) 16 := by
  have hn := hv.1
  rw [← held_eq hW hv hp (fun _ _ => rfl), ← vin_on (c := c) (p := p) (by omega) (kp_lt c n W X p)]
  congr 1
  apply Nat.eq_of_testBit_eq
  intro v
  rcases Nat.lt_or_ge v 32 with h32 | h32
  · rw [sdf_bit h32]
    apply Bool.eq_iff_iff.mpr
    rw [Bool.and_eq_true]
    unfold vin
    rw [vinr_bit 4, vinr_bit 4]
    constructor
    · rintro ⟨⟨r, h1, h2, h3⟩, h4⟩
      refine ⟨r, h1, ?_, h3⟩
      rw [kp_bit h1, h2, h3, Bool.true_and]; exact h4
    · rintro ⟨r, h1, h2, h3⟩
      rw [kp_bit h1, h3, Bool.and_eq_true] at h2
      exact ⟨⟨r, h1, h2.1, h3⟩, h2.2⟩
  · have b : ∀ a, a < 65536 → a.testBit v = false := fun a ha => Nat.testBit_lt_two_pow (Nat.lt_of_lt_of_le ha (Nat.pow_le_pow_right (n := 2) (i := 16) (by decide) (by omega)))
    rw [b _ (Nat.lt_of_le_of_lt (sdf_le _ _) (vin_lt (by omega))), b _ (vin_lt (by omega))]
/-! what a set costs -/
def csm (c : Nat → Nat → Nat) (n X : Nat) : Nat → Nat
  | 0 => 0
  | v + 1 => csm c n X v + if X.testBit v = true then cst c n v else 0
def rdS (c : Nat → Nat → Nat) (i X : Nat) : Nat → Nat
  | 0 => 0
  | v + 1 => rdS c i X v + if X.testBit v = true then rdg c i v else 0
/-- readings, step by step -/
def xb (X v : Nat) : Nat := if v = 99 then 0 else X / 2 ^ v % 2
def rdO (c : Nat → Nat → Nat) (X : Nat) : Nat → Nat
  | 0 => 0
  | i + 1 => rdO c X i + xb X (srcv c i (c i 2)) + xb X (srcv c i (c i 3))
theorem xb_le (X v : Nat) : xb X v ≤ 1 := by unfold xb; split <;> omega
theorem rdO_le (c : Nat → Nat → Nat) (X : Nat) : ∀ i, rdO c X i ≤ 2 * i
  | 0 => Nat.le_refl 0
  | i + 1 => by
    have := rdO_le c X i
    have := xb_le X (srcv c i (c i 2))
    have := xb_le X (srcv c i (c i 3))
    show rdO c X i + xb X (srcv c i (c i 2)) + xb X (srcv c i (c i 3)) ≤ 2 * (i + 1)
    omega
theorem rdS_0 (c : Nat → Nat → Nat) (X : Nat) : ∀ M, rdS c 0 X M = 0
  | 0 => rfl
  | M + 1 => by
    show rdS c 0 X M + _ = 0
    rw [rdS_0 c X M]
    split <;> rfl
def oneS (X a : Nat) : Nat → Nat
  | 0 => 0
  | v + 1 => oneS X a v + if X.testBit v = true then (if v = a then 1 else 0) else 0
theorem oneS_at {X a : Nat} : ∀ M, oneS X a M = if a < M then (if X.testBit a = true then 1 else 0) else 0
  | 0 => rfl
  | M + 1 => by
    show oneS X a M + _ = _
    rw [oneS_at M]
    by_cases h : M = a
    · subst h
      rw [if_neg (Nat.lt_irrefl M), if_pos (Nat.lt_succ_self M), if_pos rfl, Nat.zero_add]
    · rw [if_neg h]
      by_cases h2 : a < M
      · rw [if_pos h2, if_pos (show a < M + 1 by omega)]
        split <;> split <;> rfl
      · rw [if_neg h2, if_neg (show ¬ a < M + 1 by omega)]
        split <;> rfl
theorem rdS_s {c : Nat → Nat → Nat} {i X : Nat} : ∀ M, rdS c (i + 1) X M = rdS c i X M + oneS X (srcv c i (c i 2)) M + oneS X (srcv c i (c i 3)) M
  | 0 => rfl
  | M + 1 => by
    show rdS c (i + 1) X M + (if X.testBit M = true then rdg c i M + (if M = srcv c i (c i 2) then 1 else 0) + (if M = srcv c i (c i 3) then 1 else 0) else 0) = (rdS c i X M + if X.testBit M = true then rdg c i M else 0) + (oneS X (srcv c i (c i 2)) M + if X.testBit M = true then (if M = srcv c i (c i 2) then 1 else 0) else 0) + (oneS X (srcv c i (c i 3)) M + if X.testBit M = true then (if M = srcv c i (c i 3) then 1 else 0) else 0)
    rw [rdS_s M]
    by_cases h : X.testBit M = true
    · rw [if_pos h, if_pos h, if_pos h, if_pos h]; omega
    · rw [if_neg h, if_neg h, if_neg h, if_neg h]; omega
theorem oneS_xb {c : Nat → Nat → Nat} {X n i v : Nat} (hi : i ≤ n) (hn : n ≤ 12) : oneS X (srcv c i v) (4 + n) = xb X (srcv c i v) := by
  rw [oneS_at]
  unfold xb
  rcases srcv_ok c i v with h | h
  · rw [if_pos h, if_neg (show ¬ srcv c i v < 4 + n by omega)]
  · rw [if_neg (show ¬ srcv c i v = 99 by omega), if_pos (show srcv c i v < 4 + n by omega), bit_mod]
theorem rdS_O {c : Nat → Nat → Nat} {X n : Nat} (hn : n ≤ 12) : ∀ i, i ≤ n → rdS c i X (4 + n) = rdO c X i
  | 0, _ => rdS_0 c X _
  | i + 1, h => by
    rw [rdS_s, rdS_O hn i (by omega), oneS_xb (by omega) hn, oneS_xb (by omega) hn]
    rfl
theorem mod_bit (X v : Nat) : X % 2 ^ (v + 1) = X % 2 ^ v + if X.testBit v = true then 2 ^ v else 0 := by
  rw [Nat.pow_succ, Nat.mod_mul, bit_mod]
  split <;> simp
theorem csm_sum {c : Nat → Nat → Nat} {n X : Nat} : ∀ v, csm c n X v = on X v * 2097152 + rdS c n X v * 65536 + X % 2 ^ v
  | 0 => by
    show 0 = 0 * 2097152 + 0 * 65536 + X % 1
    omega
  | v + 1 => by
    show csm c n X v + _ = (on X v + X / 2 ^ v % 2) * 2097152 + (rdS c n X v + if X.testBit v = true then rdg c n v else 0) * 65536 + X % 2 ^ (v + 1)
    rw [csm_sum v, mod_bit, bit_mod]
    by_cases h : X.testBit v = true
    · rw [if_pos h, if_pos h, if_pos h, if_pos h]
      unfold cst
      omega
    · rw [if_neg h, if_neg h, if_neg h, if_neg h]
      omega
def cK (c : Nat → Nat → Nat) (n X : Nat) : Nat := on X 16 * 2097152 + rdO c X n * 65536 + X
theorem csm_cK {c : Nat → Nat → Nat} {n X : Nat} (hn : n ≤ 12) (hX : X < 2 ^ (4 + n)) : csm c n X (4 + n) = cK c n X := by
  rw [csm_sum, rdS_O hn n (Nat.le_refl n), Nat.mod_eq_of_lt hX]
  unfold cK
  rw [show (16 : Nat) = 4 + n + (12 - n) by omega, on_hi hX]
theorem csm_top {c : Nat → Nat → Nat} {n X p : Nat} (hn : n ≤ 12) (hp : p ≤ n) : csm c n X (4 + p) < 100000000 := by
  have mono : ∀ k, csm c n X (4 + p) ≤ csm c n X (4 + p + k) := by
    intro k
    induction k with
    | zero => exact Nat.le_refl _
    | succ k ih =>
      show _ ≤ csm c n X (4 + p + k) + _
      omega
  have h := mono (n - p)
  rw [show 4 + p + (n - p) = 4 + n by omega] at h
  have e := csm_sum (c := c) (n := n) (X := X) (4 + n)
  rw [rdS_O hn n (Nat.le_refl n)] at e
  have := on_le X (4 + n)
  have := rdO_le c X n
  have := Nat.mod_lt X (Nat.two_pow_pos (4 + n))
  have := p16 hn
  omega
theorem cst_lt {c : Nat → Nat → Nat} {n v : Nat} (hn : n ≤ 12) (hv : v < 16) : cst c n v < 5000000 := by
  have := rdg_le c v n
  have : 2 ^ v < 65536 := Nat.pow_lt_pow_right (a := 2) (m := v) (n := 16) (by decide) hv
  unfold cst
  omega
theorem csm_s {c : Nat → Nat → Nat} {n X i : Nat} : csm c n X (4 + (i + 1)) = csm c n X (4 + i) + if X.testBit (4 + i) = true then cst c n (4 + i) else 0 := rfl
theorem csm_cg {c : Nat → Nat → Nat} {n X X' : Nat} : ∀ m, (∀ v, v < m → X.testBit v = X'.testBit v) → csm c n X m = csm c n X' m
  | 0, _ => rfl
  | m + 1, h => by
    show csm c n X m + _ = csm c n X' m + _
    rw [csm_cg m (fun v hv => h v (by omega)), h m (Nat.lt_succ_self m)]
/-! the class's way -/
def D0 (c : Nat → Nat → Nat) (n W k K : Nat) : Nat := if sdf K (hrg c W n 0) = 0 ∧ on K 16 ≤ k then csm c n (sdf (hrg c W n 0) K) 4 else 536870912
def lft (c : Nat → Nat → Nat) (n W i K : Nat) : Nat := sdf (K &&& hrg c W n (i + 1)) (2 ^ c i 0)
def psA (c : Nat → Nat → Nat) (n W k i : Nat) (D : Nat → Nat) : Nat → Nat → Nat
  | 0 => fun _ => 536870912
  | K + 1 => if D K < 536870912 then (if on (lft c n W i K) 16 < k then up (up (psA c n W k i D K) (lft c n W i K) (min (psA c n W k i D K (lft c n W i K)) (D K + cst c n (4 + i)))) (lft c n W i K ||| 2 ^ c i 0) (min (up (psA c n W k i D K) (lft c n W i K) (min (psA c n W k i D K (lft c n W i K)) (D K + cst c n (4 + i))) (lft c n W i K ||| 2 ^ c i 0)) (D K)) else up (psA c n W k i D K) (lft c n W i K) (min (psA c n W k i D K (lft c n W i K)) (D K + cst c n (4 + i)))) else psA c n W k i D K
def Dt (c : Nat → Nat → Nat) (n W k : Nat) : Nat → Nat → Nat
  | 0 => D0 c n W k
  | i + 1 => psA c n W k i (Dt c n W k i) 16
theorem up_min_le {T : Nat → Nat} {a b x : Nat} : up T a (min (T a) x) b ≤ T b := by
  by_cases h : b = a
  · rw [h, up_eq]; exact Nat.min_le_left _ _
  · rw [up_ne h]; exact Nat.le_refl _
theorem psA_mono {c : Nat → Nat → Nat} {n W k i : Nat} {D : Nat → Nat} {b K : Nat} : ∀ j, psA c n W k i D (K + j) b ≤ psA c n W k i D K b
  | 0 => Nat.le_refl _
  | j + 1 => by
    refine Nat.le_trans ?_ (psA_mono j)
    show (if _ then _ else _ : Nat → Nat) b ≤ _
    split
    · split
      · exact Nat.le_trans up_min_le up_min_le
      · exact up_min_le
    · exact Nat.le_refl _
theorem psA_le {c : Nat → Nat → Nat} {n W k i : Nat} {D : Nat → Nat} {K : Nat} (hK : K < 16) (hD : D K < 536870912) : psA c n W k i D 16 (lft c n W i K) ≤ D K + cst c n (4 + i) ∧ (on (lft c n W i K) 16 < k → psA c n W k i D 16 (lft c n W i K ||| 2 ^ c i 0) ≤ D K) := by
  have m : ∀ b, psA c n W k i D 16 b ≤ psA c n W k i D (K + 1) b := fun b => by
    have := psA_mono (c := c) (n := n) (W := W) (k := k) (i := i) (D := D) (b := b) (K := K + 1) (16 - (K + 1))
    rwa [show K + 1 + (16 - (K + 1)) = 16 by omega] at this
  constructor
  · refine Nat.le_trans (m _) ?_
    show (if _ then _ else _ : Nat → Nat) _ ≤ _
    rw [if_pos hD]
    split
    · refine Nat.le_trans up_min_le ?_
      rw [up_eq]; exact Nat.min_le_right _ _
    · rw [up_eq]; exact Nat.min_le_right _ _
  · intro h
    refine Nat.le_trans (m _) ?_
    show (if _ then _ else _ : Nat → Nat) _ ≤ _
    rw [if_pos hD, if_pos h, up_eq]
    exact Nat.min_le_right _ _
theorem psA_of {c : Nat → Nat → Nat} {n W k i : Nat} {D : Nat → Nat} {b : Nat} : ∀ M, psA c n W k i D M b = 536870912 ∨ ∃ K, K < M ∧ D K < 536870912 ∧ ((b = lft c n W i K ∧ psA c n W k i D M b = D K + cst c n (4 + i)) ∨ (b = lft c n W i K ||| 2 ^ c i 0 ∧ on (lft c n W i K) 16 < k ∧ psA c n W k i D M b = D K))
  | 0 => Or.inl rfl
  | M + 1 => by
    have ih := psA_of (c := c) (n := n) (W := W) (k := k) (i := i) (D := D) (b := b) M
    have old : ∀ x, x = psA c n W k i D M b → x = 536870912 ∨ ∃ K, K < M + 1 ∧ D K < 536870912 ∧ ((b = lft c n W i K ∧ x = D K + cst c n (4 + i)) ∨ (b = lft c n W i K ||| 2 ^ c i 0 ∧ on (lft c n W i K) 16 < k ∧ x = D K)) := by
      rintro x rfl
      rcases ih with h | ⟨K, h1, h2⟩
      · exact Or.inl h
      · exact Or.inr ⟨K, by omega, h2⟩
    by_cases hD : D M < 536870912
    · have one : ∀ x, x = up (psA c n W k i D M) (lft c n W i M) (min (psA c n W k i D M (lft c n W i M)) (D M + cst c n (4 + i))) b → x = 536870912 ∨ ∃ K, K < M + 1 ∧ D K < 536870912 ∧ ((b = lft c n W i K ∧ x = D K + cst c n (4 + i)) ∨ (b = lft c n W i K ||| 2 ^ c i 0 ∧ on (lft c n W i K) 16 < k ∧ x = D K)) := by
        intro x hx
        by_cases hb : b = lft c n W i M
        · rw [hb, up_eq] at hx
          rcases Nat.le_total (psA c n W k i D M (lft c n W i M)) (D M + cst c n (4 + i)) with q | q
          · rw [Nat.min_eq_left q, ← hb] at hx; exact old x hx
          · rw [Nat.min_eq_right q] at hx
            exact Or.inr ⟨M, Nat.lt_succ_self M, hD, Or.inl ⟨hb, hx⟩⟩
        · rw [up_ne hb] at hx; exact old x hx
      have e : psA c n W k i D (M + 1) = (if D M < 536870912 then (if on (lft c n W i M) 16 < k then up (up (psA c n W k i D M) (lft c n W i M) (min (psA c n W k i D M (lft c n W i M)) (D M + cst c n (4 + i)))) (lft c n W i M ||| 2 ^ c i 0) (min (up (psA c n W k i D M) (lft c n W i M) (min (psA c n W k i D M (lft c n W i M)) (D M + cst c n (4 + i))) (lft c n W i M ||| 2 ^ c i 0)) (D M)) else up (psA c n W k i D M) (lft c n W i M) (min (psA c n W k i D M (lft c n W i M)) (D M + cst c n (4 + i)))) else psA c n W k i D M) := rfl
      rw [e, if_pos hD]
      by_cases hk : on (lft c n W i M) 16 < k
      · rw [if_pos hk]
        by_cases hb : b = lft c n W i M ||| 2 ^ c i 0
        · rw [← hb, up_eq]
          rcases Nat.le_total (up (psA c n W k i D M) (lft c n W i M) (min (psA c n W k i D M (lft c n W i M)) (D M + cst c n (4 + i))) b) (D M) with q | q
          · rw [Nat.min_eq_left q]; exact one _ rfl
          · rw [Nat.min_eq_right q]
            exact Or.inr ⟨M, Nat.lt_succ_self M, hD, Or.inr ⟨hb, hk, rfl⟩⟩
        · rw [up_ne hb]; exact one _ rfl
      · rw [if_neg hk]; exact one _ rfl
    · have e : psA c n W k i D (M + 1) = psA c n W k i D M := if_neg hD
      rw [e]
      exact old _ rfl
/-- a register that is held, and no target, was held ahead -/
theorem hrg_back {c : Nat → Nat → Nat} {n W i r : Nat} (hin : i < n) (hr : r < 4) (h : (hrg c W n (i + 1)).testBit r = true) (hne : r ≠ c i 0) : (hrg c W n i).testBit r = true := by
  unfold hrg at h ⊢
  rw [if_neg (Nat.succ_ne_zero i), Nat.add_sub_cancel, Nat.testBit_or, Nat.testBit_two_pow, decide_eq_false (fun q => hne q.symm), Bool.or_false] at h
  rw [Nat.testBit_or, liv_at hin, Nat.testBit_or, sdf_bit (by omega), h, Nat.testBit_two_pow, decide_eq_false (fun q => hne q.symm)]
  rfl
theorem hrg_t {c : Nat → Nat → Nat} {n W i : Nat} : (hrg c W n (i + 1)).testBit (c i 0) = true := by
  unfold hrg
  rw [if_neg (Nat.succ_ne_zero i), Nat.add_sub_cancel, Nat.testBit_or, Nat.testBit_two_pow_self, Bool.or_true]
theorem lft_lt {c : Nat → Nat → Nat} {n W i K : Nat} (hK : K < 16) : lft c n W i K < 16 := Nat.lt_of_le_of_lt (sdf_le _ _) (Nat.lt_of_le_of_lt Nat.and_le_left hK)
theorem lft_bit {c : Nat → Nat → Nat} {n W i K r : Nat} (hr : r < 4) : (lft c n W i K).testBit r = ((K.testBit r && (hrg c W n (i + 1)).testBit r) && !decide (c i 0 = r)) := by
  unfold lft
  rw [sdf_bit (by omega), Nat.testBit_and, Nat.testBit_two_pow]
theorem lft_t {c : Nat → Nat → Nat} {n W i K : Nat} (ht : c i 0 < 4) : (lft c n W i K).testBit (c i 0) = false := by
  rw [lft_bit ht, decide_eq_true rfl]; simp
theorem vlu_t {c : Nat → Nat → Nat} {i : Nat} : vlu c (i + 1) (c i 0) = 4 + i := up_eq
theorem vlu_n {c : Nat → Nat → Nat} {i r : Nat} (h : r ≠ c i 0) : vlu c (i + 1) r = vlu c i r := up_ne h
theorem kp_put {c : Nat → Nat → Nat} {n W i X : Nat} (hv : VC n c) (hin : i < n) (hX : X.testBit (4 + i) = true) : kp c n W X (i + 1) = lft c n W i (kp c n W X i) := by
  refine eq16 (kp_lt _ _ _ _ _) (lft_lt (kp_lt _ _ _ _ _)) (fun r hr => ?_)
  rw [kp_bit hr, lft_bit hr, kp_bit hr]
  by_cases ht : r = c i 0
  · rw [ht, vlu_t, hX, decide_eq_true rfl]; simp
  · rw [vlu_n ht, decide_eq_false (fun q => ht q.symm)]
    cases h : (hrg c W n (i + 1)).testBit r
    · simp
    · rw [hrg_back hin hr h ht]; simp
theorem kp_keep {c : Nat → Nat → Nat} {n W i X : Nat} (hv : VC n c) (hin : i < n) (hX : X.testBit (4 + i) = false) : kp c n W X (i + 1) = lft c n W i (kp c n W X i) ||| 2 ^ c i 0 := by
  have ht4 := (hv.2 i hin).1
  refine eq16 (kp_lt _ _ _ _ _) (or16 (lft_lt (kp_lt _ _ _ _ _)) (pow4 ht4)) (fun r hr => ?_)
  rw [kp_bit hr, Nat.testBit_or, lft_bit hr, kp_bit hr, Nat.testBit_two_pow]
  by_cases ht : r = c i 0
  · rw [ht, vlu_t, hX, decide_eq_true rfl, hrg_t]; simp
  · rw [vlu_n ht, decide_eq_false (fun q => ht q.symm)]
    cases h : (hrg c W n (i + 1)).testBit r
    · simp
    · rw [hrg_back hin hr h ht]; simp
theorem lft_sub {c : Nat → Nat → Nat} {n W i K : Nat} (m : Nat) : on (lft c n W i K) m ≤ on K m := on_mono (fun j h => by
  unfold lft sdf at h
  rw [Nat.testBit_and, Nat.testBit_and, Bool.and_eq_true, Bool.and_eq_true] at h
  exact h.1.1) m
/-- every cost is one of a lawful set -/
theorem Dt_sound {c : Nat → Nat → Nat} {n W k : Nat} (hW : W < 16) (hv : VC n c) : ∀ p, p ≤ n → ∀ K, K < 16 → Dt c n W k p K = 536870912 ∨ ∃ X, X < 2 ^ (4 + p) ∧ (∀ q, q ≤ p → on (kp c n W X q) 16 ≤ k) ∧ kp c n W X p = K ∧ Dt c n W k p K = csm c n X (4 + p)
  | 0, _, K, hK => by
    show D0 c n W k K = _ ∨ ∃ X, X < 2 ^ 4 ∧ _ ∧ _ ∧ D0 c n W k K = csm c n X 4
    unfold D0
    by_cases h : sdf K (hrg c W n 0) = 0 ∧ on K 16 ≤ k
    · rw [if_pos h]
      have hl := hrg_lt hv hW (Nat.zero_le n)
      have e : kp c n W (sdf (hrg c W n 0) K) 0 = K := by
        refine eq16 (kp_lt _ _ _ _ _) hK (fun r hr => ?_)
        rw [kp_bit hr, show vlu c 0 r = r from rfl, sdf_bit (by omega)]
        cases hk : K.testBit r
        · cases (hrg c W n 0).testBit r <;> rfl
        · rw [sdf_sub (by omega) h.1 hk]; rfl
      refine Or.inr ⟨sdf (hrg c W n 0) K, Nat.lt_of_le_of_lt (sdf_le _ _) hl, fun q hq => ?_, e, rfl⟩
      obtain rfl : q = 0 := by omega
      rw [e]; exact h.2
    · rw [if_neg h]; exact Or.inl rfl
  | i + 1, hp, b, hb => by
    have hin : i < n := by omega
    have hn := hv.1
    have ht := (hv.2 i hin).1
    rcases psA_of (c := c) (n := n) (W := W) (k := k) (i := i) (D := Dt c n W k i) (b := b) 16 with h | ⟨K, hK, hD, h⟩
    · exact Or.inl h
    · right
      rcases Dt_sound hW hv i (by omega) K hK with q | ⟨X, x1, x2, x3, x4⟩
      · exact absurd q (Nat.ne_of_lt hD)
      have xf : X.testBit (4 + i) = false := Nat.testBit_lt_two_pow x1
      rcases h with ⟨h1, h2⟩ | ⟨h1, h2, h3⟩
      · have hag : ∀ v, v < 4 + i → (X ||| 2 ^ (4 + i)).testBit v = X.testBit v := fun v hv2 => by rw [Nat.testBit_or, Nat.testBit_two_pow, decide_eq_false (by omega), Bool.or_false]
        have hset : (X ||| 2 ^ (4 + i)).testBit (4 + i) = true := by rw [Nat.testBit_or, Nat.testBit_two_pow_self, Bool.or_true]
        have e : kp c n W (X ||| 2 ^ (4 + i)) (i + 1) = b := by
          rw [kp_put hv hin hset, kp_cg (X' := X) hag, x3, h1]
        refine ⟨X ||| 2 ^ (4 + i), Nat.or_lt_two_pow (Nat.lt_trans x1 (Nat.pow_lt_pow_right (by decide) (by omega))) (Nat.pow_lt_pow_right (by decide) (by omega)), fun q hq => ?_, e, ?_⟩
        · by_cases hqi : q = i + 1
          · rw [hqi, e, h1]
            refine Nat.le_trans (lft_sub 16) ?_
            rw [← x3]; exact x2 i (Nat.le_refl i)
          · rw [kp_cg (X' := X) (fun v hv2 => hag v (by omega))]; exact x2 q (by omega)
        · show psA c n W k i (Dt c n W k i) 16 b = _
          rw [csm_s, h2, x4, if_pos hset, csm_cg (4 + i) hag]
      · have e : kp c n W X (i + 1) = b := by rw [kp_keep hv hin xf, x3, h1]
        refine ⟨X, Nat.lt_trans x1 (Nat.pow_lt_pow_right (by decide) (by omega)), fun q hq => ?_, e, ?_⟩
        · by_cases hqi : q = i + 1
          · rw [hqi, e, h1, on_or (lft_t ht) (by omega)]; omega
          · exact x2 q (by omega)
        · show psA c n W k i (Dt c n W k i) 16 b = _
          rw [csm_s, h3, x4, if_neg (by rw [xf]; decide)]; rfl
/-- no lawful set costs less -/
theorem Dt_least {c : Nat → Nat → Nat} {n W k : Nat} (hW : W < 16) (hv : VC n c) {X : Nat} : ∀ p, p ≤ n → (∀ q, q ≤ p → on (kp c n W X q) 16 ≤ k) → Dt c n W k p (kp c n W X p) ≤ csm c n X (4 + p)
  | 0, _, hx => by
    show D0 c n W k (kp c n W X 0) ≤ csm c n X 4
    have hl := hrg_lt hv hW (Nat.zero_le n)
    have hs0 : sdf (kp c n W X 0) (hrg c W n 0) = 0 := by
      rcases Nat.eq_zero_or_pos (sdf (kp c n W X 0) (hrg c W n 0)) with q | q
      · exact q
      · exfalso
        obtain ⟨r, h1, h2, h3⟩ := (sdf_ne (b := hrg c W n 0) (n := 4) (by omega) (kp_lt c n W X 0)).mp (Nat.ne_of_gt q)
        rw [kp_bit h1, h3] at h2
        exact absurd h2 (by simp)
    have le : ∀ m, m ≤ 4 → csm c n (sdf (hrg c W n 0) (kp c n W X 0)) m ≤ csm c n X m := by
      intro m
      induction m with
      | zero => intro _; exact Nat.le_refl _
      | succ m ih =>
        intro hm
        have ih := ih (by omega)
        show csm c n (sdf (hrg c W n 0) (kp c n W X 0)) m + _ ≤ csm c n X m + _
        rw [sdf_bit (by omega), kp_bit (by omega), show vlu c 0 m = m from rfl]
        cases (hrg c W n 0).testBit m <;> cases X.testBit m <;> simp <;> omega
    unfold D0
    rw [if_pos ⟨hs0, hx 0 (Nat.le_refl 0)⟩]
    exact le 4 (Nat.le_refl 4)
  | i + 1, hp, hx => by
    have hin : i < n := by omega
    have hn := hv.1
    have ht := (hv.2 i hin).1
    have ih := Dt_least hW hv i (by omega) (fun q hq => hx q (by omega))
    have htop := csm_top (c := c) (X := X) hn (show i ≤ n by omega)
    obtain ⟨p1, p2⟩ := psA_le (c := c) (n := n) (W := W) (k := k) (i := i) (D := Dt c n W k i) (kp_lt c n W X i) (by omega)
    show psA c n W k i (Dt c n W k i) 16 (kp c n W X (i + 1)) ≤ _
    rw [csm_s]
    by_cases hX : X.testBit (4 + i) = true
    · rw [kp_put hv hin hX, if_pos hX]; omega
    · have hXf : X.testBit (4 + i) = false := by simpa using hX
      have hh := hx (i + 1) (Nat.le_refl _)
      rw [kp_keep hv hin hXf, on_or (lft_t ht) (by omega)] at hh
      rw [kp_keep hv hin hXf, if_neg hX]
      have := p2 (by omega)
      omega
/-! the reference's way -/
def vldF (c : Nat → Nat → Nat) (n W k X : Nat) : Nat → Bool
  | 0 => true
  | p + 1 => vldF c n W k X p && decide (on (sdf (hlB c n W (fun i => i) p) X) 16 ≤ k)
theorem vldF_at {c : Nat → Nat → Nat} {n W k X : Nat} : ∀ m, vldF c n W k X m = true ↔ ∀ p, p < m → on (sdf (hlB c n W (fun i => i) p) X) 16 ≤ k
  | 0 => ⟨fun _ p h => absurd h (Nat.not_lt_zero p), fun _ => rfl⟩
  | m + 1 => by
    unfold vldF
    rw [Bool.and_eq_true, vldF_at m, decide_eq_true_iff]
    constructor
    · rintro ⟨h1, h2⟩ p hp
      by_cases q : p = m
      · rw [q]; exact h2
      · exact h1 p (by omega)
    · intro h
      exact ⟨fun p hp => h p (by omega), h m (Nat.lt_succ_self m)⟩
def spl (c : Nat → Nat → Nat) (n W k : Nat) : Nat → Option Nat
  | 0 => none
  | S + 1 => match spl c n W k S with
    | none => if vldF c n W k S (n + 1) = true then some S else none
    | some b => if vldF c n W k S (n + 1) = true ∧ cK c n S < cK c n b then some S else some b
theorem spl_is {c : Nat → Nat → Nat} {n W k : Nat} : ∀ M, (spl c n W k M = none ∧ ∀ X, X < M → ¬ vldF c n W k X (n + 1) = true) ∨ ∃ b, spl c n W k M = some b ∧ b < M ∧ vldF c n W k b (n + 1) = true ∧ ∀ X, X < M → vldF c n W k X (n + 1) = true → cK c n b ≤ cK c n X
  | 0 => Or.inl ⟨rfl, fun X h => absurd h (Nat.not_lt_zero X)⟩
  | M + 1 => by
    rcases spl_is (c := c) (n := n) (W := W) (k := k) M with ⟨h1, h2⟩ | ⟨b, h1, h2, h3, h4⟩
    · have e : spl c n W k (M + 1) = if vldF c n W k M (n + 1) = true then some M else none := by
        show (match spl c n W k M with | none => _ | some b => _) = _
        rw [h1]
      by_cases hv : vldF c n W k M (n + 1) = true
      · refine Or.inr ⟨M, by rw [e, if_pos hv], Nat.lt_succ_self M, hv, fun X hX hx => ?_⟩
        by_cases q : X = M
        · rw [q]; exact Nat.le_refl _
        · exact absurd hx (h2 X (by omega))
      · refine Or.inl ⟨by rw [e, if_neg hv], fun X hX => ?_⟩
        by_cases q : X = M
        · rw [q]; exact hv
        · exact h2 X (by omega)
    · have e : spl c n W k (M + 1) = if vldF c n W k M (n + 1) = true ∧ cK c n M < cK c n b then some M else some b := by
        show (match spl c n W k M with | none => _ | some b => _) = _
        rw [h1]
      right
      by_cases hv : vldF c n W k M (n + 1) = true ∧ cK c n M < cK c n b
      · refine ⟨M, by rw [e, if_pos hv], Nat.lt_succ_self M, hv.1, fun X hX hx => ?_⟩
        by_cases q : X = M
        · rw [q]; exact Nat.le_refl _
        · have := h4 X (by omega) hx; omega
      · refine ⟨b, by rw [e, if_neg hv], by omega, h3, fun X hX hx => ?_⟩
        by_cases q : X = M
        · rw [q] at hx ⊢
          rcases Nat.lt_or_ge (cK c n M) (cK c n b) with z | z
          · exact absurd ⟨hx, z⟩ hv
          · exact z
        · exact h4 X (by omega) hx
theorem spl_eq {c : Nat → Nat → Nat} {n W k : Nat} (hW : W < 16) (hv : VC n c) : ∃ b, spl c n W k (2 ^ (4 + n)) = some b ∧ b < 2 ^ (4 + n) ∧ mn (Dt c n W k n) 16 = cK c n b ∧ cK c n b < 100000000 := by
  have hn := hv.1
  have vv : ∀ X, vldF c n W k X (n + 1) = true ↔ ∀ q, q ≤ n → on (kp c n W X q) 16 ≤ k := fun X => by
    rw [vldF_at]
    exact ⟨fun h q hq => by rw [← kp_on hW hv hq]; exact h q (by omega), fun h q hq => by rw [kp_on hW hv (by omega)]; exact h q (by omega)⟩
  rcases spl_is (c := c) (n := n) (W := W) (k := k) (2 ^ (4 + n)) with ⟨_, h2⟩ | ⟨b, h1, h2, h3, h4⟩
  · exfalso
    refine h2 (2 ^ (4 + n) - 1) (by have := Nat.two_pow_pos (4 + n); omega) ((vv _).mpr (fun q hq => ?_))
    have e : kp c n W (2 ^ (4 + n) - 1) q = 0 := eq16 (kp_lt _ _ _ _ _) (by decide) (fun r hr => by
      have := vlu_lt c q r hr
      rw [kp_bit hr, full_bit (by omega), Nat.zero_testBit]; simp)
    rw [e]
    exact Nat.le_trans (by decide) (Nat.zero_le k)
  · have l1 := Dt_least hW hv n (Nat.le_refl n) ((vv b).mp h3)
    have ht := csm_top (c := c) (X := b) hn (Nat.le_refl n)
    have l2 := mn_le (f := Dt c n W k n) 16 (kp c n W b n) (kp_lt _ _ _ _ _)
    refine ⟨b, h1, h2, ?_, by rw [← csm_cK hn h2]; exact ht⟩
    rw [csm_cK hn h2] at l1
    rcases mn_at (f := Dt c n W k n) 16 with q | ⟨K, hK, q⟩
    · rw [csm_cK hn h2] at ht; omega
    · rcases Dt_sound (k := k) hW hv n (Nat.le_refl n) K hK with z | ⟨X, x1, x2, x3, x4⟩
      · rw [csm_cK hn h2] at ht; omega
      · have := h4 X x1 ((vv X).mpr x2)
        rw [csm_cK hn x1] at x4
        omega
def sp_spill (s : SS) (x : Int32) : Int32 := if x < nI 1 ∨ nI 8 < x then -2 else match spl (dC s.2.1).2 (dC s.2.1).1 (dW s.2.1) x.toNatClampNeg (2 ^ (4 + (dC s.2.1).1)) with
  | none => -6
  | some b => nI b
