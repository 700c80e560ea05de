/-! which values are held -/
def vinr (c : Nat → Nat → Nat) (R p : Nat) : Nat → Nat
  | 0 => 0
  | r + 1 => if R.testBit r = true then vinr c R p r ||| 2 ^ vlu c p r else vinr c R p r
def vin (c : Nat → Nat → Nat) (R p : Nat) : Nat := vinr c R p 4
theorem vinr_bit {c : Nat → Nat → Nat} {R p v : Nat} : ∀ k, (vinr c R p k).testBit v = true ↔ ∃ r, r < k ∧ R.testBit r = true ∧ vlu c p r = v
  | 0 => by
    unfold vinr
    rw [Nat.zero_testBit]
    exact ⟨fun h => absurd h (by decide), fun ⟨r, h, _⟩ => absurd h (Nat.not_lt_zero r)⟩
  | k + 1 => by
    unfold vinr
    by_cases h : R.testBit k = true
    · rw [if_pos h, Nat.testBit_or, Nat.testBit_two_pow, Bool.or_eq_true, vinr_bit k, decide_eq_true_iff]
      constructor
      · rintro (⟨r, h1, h2, h3⟩ | h1)
        · exact ⟨r, by omega, h2, h3⟩
        · exact ⟨k, Nat.lt_succ_self k, h, h1⟩
      · rintro ⟨r, h1, h2, h3⟩
        by_cases hr : r = k
        · exact Or.inr (by rw [← hr]; exact h3)
        · exact Or.inl ⟨r, by omega, h2, h3⟩
    · rw [if_neg h, vinr_bit k]
      constructor
      · rintro ⟨r, h1, h2, h3⟩
        exact ⟨r, by omega, h2, h3⟩
      · rintro ⟨r, h1, h2, h3⟩
        refine ⟨r, ?_, h2, h3⟩
        have : r ≠ k := fun q => h (by rw [← q]; exact h2)
        omega
theorem vinr_lt {c : Nat → Nat → Nat} {R p : Nat} : ∀ k, k ≤ 4 → vinr c R p k < 2 ^ (4 + p)
  | 0, _ => Nat.two_pow_pos _
  | k + 1, h => by
    unfold vinr
    split
    · exact Nat.or_lt_two_pow (vinr_lt k (by omega)) (Nat.pow_lt_pow_right (by decide) (vlu_lt c p k (by omega)))
    · exact vinr_lt k (by omega)
theorem p16 {p : Nat} (h : p ≤ 12) : 2 ^ (4 + p) ≤ 65536 := Nat.pow_le_pow_right (n := 2) (j := 16) (by decide) (by omega)
theorem vin_lt {c : Nat → Nat → Nat} {R p : Nat} (h : p ≤ 12) : vin c R p < 65536 := Nat.lt_of_lt_of_le (vinr_lt 4 (Nat.le_refl 4)) (p16 h)
/-- registers whose values are held -/
def hrg (c : Nat → Nat → Nat) (W n p : Nat) : Nat := liv c W n p ||| (if p = 0 then 0 else 2 ^ c (p - 1) 0)
theorem pow4 {t : Nat} (h : t < 4) : 2 ^ t < 16 := Nat.pow_lt_pow_right (a := 2) (m := t) (n := 4) (by decide) h
theorem hrg_lt {c : Nat → Nat → Nat} {W n p : Nat} (hv : VC n c) (hW : W < 16) (hp : p ≤ n) : hrg c W n p < 16 := by
  unfold hrg
  refine or16 (liv_lt hW p) ?_
  split
  · decide
  · exact pow4 (hv.2 (p - 1) (by omega)).1
def rds (c : Nat → Nat → Nat) (i v : Nat) : Bool := decide (srcv c i (c i 2) = v ∨ srcv c i (c i 3) = v)
def frm (pl : Nat → Nat) (v : Nat) : Nat := if v < 4 then 0 else pl (v - 4) + 1
/-- one more than the last place at which a value is held -/
def tlR (c : Nat → Nat → Nat) (pl : Nat → Nat) (v T : Nat) : Nat → Nat
  | 0 => T
  | i + 1 => if rds c i v = true then max (tlR c pl v T i) (pl i + 1) else tlR c pl v T i
def tl0 (pl : Nat → Nat) (v : Nat) : Nat := if v < 4 then 0 else pl (v - 4) + 2
def tl (c : Nat → Nat → Nat) (n W : Nat) (pl : Nat → Nat) (v : Nat) : Nat := if (vin c W n).testBit v = true then n + 1 else tlR c pl v (tl0 pl v) n
def hlB (c : Nat → Nat → Nat) (n W : Nat) (pl : Nat → Nat) (p : Nat) : Nat := bts (fun v => decide (frm pl v ≤ p ∧ p < tl c n W pl v)) (4 + n)
theorem tlR_lt {c : Nat → Nat → Nat} {pl : Nat → Nat} {v T p : Nat} : ∀ n, p < tlR c pl v T n ↔ p < T ∨ ∃ i, i < n ∧ rds c i v = true ∧ p ≤ pl i
  | 0 => ⟨fun h => Or.inl h, fun h => h.elim (fun q => q) (fun ⟨i, q, _⟩ => absurd q (Nat.not_lt_zero i))⟩
  | n + 1 => by
    unfold tlR
    have ih := tlR_lt (c := c) (pl := pl) (v := v) (T := T) (p := p) n
    by_cases h : rds c n v = true
    · rw [if_pos h]
      constructor
      · intro q
        by_cases q1 : p ≤ pl n
        · exact Or.inr ⟨n, Nat.lt_succ_self n, h, q1⟩
        · rcases ih.mp (by omega) with q2 | ⟨i, a, b, e⟩
          · exact Or.inl q2
          · exact Or.inr ⟨i, by omega, b, e⟩
      · rintro (q | ⟨i, a, b, e⟩)
        · have := ih.mpr (Or.inl q); omega
        · by_cases hi : i = n
          · rw [hi] at e; omega
          · have := ih.mpr (Or.inr ⟨i, by omega, b, e⟩); omega
    · rw [if_neg h, ih]
      constructor
      · rintro (q | ⟨i, a, b, e⟩)
        · exact Or.inl q
        · exact Or.inr ⟨i, by omega, b, e⟩
      · rintro (q | ⟨i, a, b, e⟩)
        · exact Or.inl q
        · refine Or.inr ⟨i, ?_, b, e⟩
          have : i ≠ n := fun q => h (by rw [← q]; exact b)
          omega
theorem tl_lt {c : Nat → Nat → Nat} {n W : Nat} {pl : Nat → Nat} {v p : Nat} (hp : p ≤ n) : p < tl c n W pl v ↔ (vin c W n).testBit v = true ∨ p < tl0 pl v ∨ ∃ i, i < n ∧ rds c i v = true ∧ p ≤ pl i := by
  unfold tl
  by_cases h : (vin c W n).testBit v = true
  · rw [if_pos h]
    exact ⟨fun _ => Or.inl h, fun _ => by omega⟩
  · rw [if_neg h, tlR_lt]
    exact ⟨fun q => Or.inr q, fun q => q.resolve_left h⟩
theorem hlB_lt {c : Nat → Nat → Nat} {n W : Nat} {pl : Nat → Nat} {p : Nat} (hn : n ≤ 12) : hlB c n W pl p < 65536 := Nat.lt_of_lt_of_le (bts_lt _ _) (p16 hn)
/-! values do not stand twice, and do not come back -/
theorem vlu_inj (c : Nat → Nat → Nat) : ∀ p r r', r < 4 → r' < 4 → vlu c p r = vlu c p r' → r = r'
  | 0, r, r', _, _, h => h
  | p + 1, r, r', h1, h2, h => by
    change up (vlu c p) (c p 0) (4 + p) r = up (vlu c p) (c p 0) (4 + p) r' at h
    have b1 := vlu_lt c p r h1
    have b2 := vlu_lt c p r' h2
    by_cases e1 : r = c p 0
    · by_cases e2 : r' = c p 0
      · omega
      · rw [e1, up_eq, up_ne e2] at h; omega
    · by_cases e2 : r' = c p 0
      · rw [e2, up_eq, up_ne e1] at h; omega
      · rw [up_ne e1, up_ne e2] at h
        exact vlu_inj c p r r' h1 h2 h
theorem vlu_gone {c : Nat → Nat → Nat} {p v : Nat} (hv : v < 4 + p) (h : ∀ r, r < 4 → vlu c p r ≠ v) : ∀ k, ∀ r, r < 4 → vlu c (p + k) r ≠ v
  | 0 => h
  | k + 1 => fun r hr => by
    show up (vlu c (p + k)) (c (p + k) 0) (4 + (p + k)) r ≠ v
    by_cases e : r = c (p + k) 0
    · rw [e, up_eq]; omega
    · rw [up_ne e]; exact vlu_gone hv h k r hr
theorem vlu_back {c : Nat → Nat → Nat} {p q v r : Nat} (hv : v < 4 + p) (hpq : p ≤ q) (hr : r < 4) (h : vlu c q r = v) : ∃ r', r' < 4 ∧ vlu c p r' = v := by
  by_cases g : ∃ r', r' < 4 ∧ vlu c p r' = v
  · exact g
  · exfalso
    have := vlu_gone hv (fun r' h1 h2 => g ⟨r', h1, h2⟩) (q - p) r hr
    rw [show p + (q - p) = q by omega] at this
    exact this h
theorem rds_reg {c : Nat → Nat → Nat} {i v : Nat} (hv : v < 99) (h : rds c i v = true) : ∃ r, r < 4 ∧ vlu c i r = v ∧ (c i 2 = r ∨ c i 3 = r) := by
  unfold rds srcv at h
  rw [decide_eq_true_iff] at h
  rcases h with h | h
  · by_cases q : c i 2 < 4
    · rw [if_pos q] at h; exact ⟨_, q, h, Or.inl rfl⟩
    · rw [if_neg q] at h; omega
  · by_cases q : c i 3 < 4
    · rw [if_pos q] at h; exact ⟨_, q, h, Or.inr rfl⟩
    · rw [if_neg q] at h; omega
theorem rds_of {c : Nat → Nat → Nat} {i r : Nat} (hr : r < 4) (h : c i 2 = r ∨ c i 3 = r) : rds c i (vlu c i r) = true := by
  unfold rds srcv
  rw [decide_eq_true_iff]
  rcases h with h | h
  · left; rw [h, if_pos hr]
  · right; rw [h, if_pos hr]
/-- a register is live, if its value is read from there on, or lasts -/
theorem liv_val {c : Nat → Nat → Nat} {W n : Nat} (hW : W < 16) (hv : VC n c) : ∀ (k p : Nat), k = n - p → p ≤ n → ∀ r, r < 4 → ((liv c W n p).testBit r = true ↔ (vin c W n).testBit (vlu c p r) = true ∨ ∃ i, i < n ∧ rds c i (vlu c p r) = true ∧ p ≤ i)
  | 0, p, hk, hp, r, hr => by
    obtain rfl : p = n := by omega
    rw [liv_n]
    unfold vin
    rw [vinr_bit 4]
    constructor
    · intro h
      exact Or.inl ⟨r, hr, h, rfl⟩
    · rintro (⟨r', h1, h2, h3⟩ | ⟨i, h1, _, h2⟩)
      · rw [← vlu_inj c p r' r h1 hr h3]; exact h2
      · omega
  | k + 1, p, hk, hp, r, hr => by
    have hpn : p < n := by omega
    have ih := liv_val hW hv k (p + 1) (by omega) (by omega) r hr
    have ht := (hv.2 p hpn).1
    have hlv := vlu_lt c p r hr
    have hn := hv.1
    rw [liv_at hpn, Nat.testBit_or, sdf_bit (by omega), Nat.testBit_two_pow, Bool.or_eq_true, rb2_bit hr, Bool.and_eq_true]
    have hvp : r ≠ c p 0 → vlu c (p + 1) r = vlu c p r := fun h => up_ne h
    constructor
    · rintro (⟨h1, h2⟩ | h)
      · have hne : c p 0 ≠ r := fun q => by rw [q] at h2; simp at h2
        rcases ih.mp h1 with h | ⟨i, a, b, e⟩
        · rw [hvp (Ne.symm hne)] at h; exact Or.inl h
        · rw [hvp (Ne.symm hne)] at b; exact Or.inr ⟨i, a, b, by omega⟩
      · exact Or.inr ⟨p, hpn, rds_of hr h, Nat.le_refl p⟩
    · intro h
      by_cases hrd : c p 2 = r ∨ c p 3 = r
      · exact Or.inr hrd
      · left
        have later : (vin c W n).testBit (vlu c p r) = true ∨ ∃ i, i < n ∧ rds c i (vlu c p r) = true ∧ p + 1 ≤ i := by
          rcases h with h | ⟨i, a, b, e⟩
          · exact Or.inl h
          · refine Or.inr ⟨i, a, b, ?_⟩
            rcases Nat.lt_or_ge p i with q | q
            · exact q
            · exfalso
              have : i = p := by omega
              subst this
              obtain ⟨r', h1, h2, h3⟩ := rds_reg (by omega) b
              rw [vlu_inj c i r' r h1 hr h2] at h3
              exact hrd h3
        have hne : c p 0 ≠ r := by
          intro q
          have gone : ∀ r', r' < 4 → vlu c (p + 1) r' ≠ vlu c p r := fun r' h' => by
            show up (vlu c p) (c p 0) (4 + p) r' ≠ _
            by_cases e : r' = c p 0
            · rw [e, up_eq]; omega
            · rw [up_ne e]
              exact fun q2 => e (by rw [q]; exact vlu_inj c p r' r h' hr q2)
          have gone2 := vlu_gone (c := c) (p := p + 1) (v := vlu c p r) (by omega) gone
          rcases later with h | ⟨i, a, b, e⟩
          · unfold vin at h
            obtain ⟨r', h1, _, h3⟩ := (vinr_bit 4).mp h
            have := gone2 (n - (p + 1)) r' h1
            rw [show p + 1 + (n - (p + 1)) = n by omega] at this
            exact this h3
          · obtain ⟨r', h1, h2, _⟩ := rds_reg (by omega) b
            have := gone2 (i - (p + 1)) r' h1
            rw [show p + 1 + (i - (p + 1)) = i by omega] at this
            exact this h2
        refine ⟨ih.mpr ?_, ?_⟩
        · rw [hvp (Ne.symm hne)]; exact later
        · rw [decide_eq_false hne]; rfl
/-- as the code stands: values of live registers, and the one made just now -/
theorem held_eq {c : Nat → Nat → Nat} {W n p : Nat} {pl : Nat → Nat} (hW : W < 16) (hv : VC n c) (hp : p ≤ n) (hpl : ∀ i, i < n → pl i = i) : vin c (hrg c W n p) p = hlB c n W pl p := by
  have hn := hv.1
  apply Nat.eq_of_testBit_eq
  intro v
  rcases Nat.lt_or_ge v (4 + n) with hvn | hvn
  · have key : (vin c (hrg c W n p) p).testBit v = true ↔ (hlB c n W pl p).testBit v = true := by
      unfold hlB
      rw [bts_bit _ _ _ hvn, decide_eq_true_iff, tl_lt hp]
      show (vinr c (hrg c W n p) p 4).testBit v = true ↔ _
      rw [vinr_bit 4]
      constructor
      · rintro ⟨r, hr, hb, rfl⟩
        have hlt := vlu_lt c p r hr
        have hfr : frm pl (vlu c p r) ≤ p := by
          unfold frm
          split
          · omega
          · rw [hpl _ (by omega)]; omega
        refine ⟨hfr, ?_⟩
        unfold hrg at hb
        rw [Nat.testBit_or, Bool.or_eq_true] at hb
        rcases hb with hb | hb
        · rcases (liv_val hW hv (n - p) p rfl hp r hr).mp hb with h | ⟨i, a, b, e⟩
          · exact Or.inl h
          · exact Or.inr (Or.inr ⟨i, a, b, by rw [hpl i a]; exact e⟩)
        · by_cases h0 : p = 0
          · rw [if_pos h0, Nat.zero_testBit] at hb; exact absurd hb (by decide)
          · rw [if_neg h0, Nat.testBit_two_pow, decide_eq_true_iff] at hb
            obtain ⟨q, rfl⟩ : ∃ q, p = q + 1 := ⟨p - 1, by omega⟩
            rw [Nat.add_sub_cancel] at hb
            have : vlu c (q + 1) r = 4 + q := by
              show up (vlu c q) (c q 0) (4 + q) r = _
              rw [← hb, up_eq]
            rw [this]
            right; left
            unfold tl0
            rw [if_neg (by omega), show 4 + q - 4 = q by omega, hpl q (by omega)]
            omega
      · rintro ⟨h1, h2⟩
        have hvp : v < 4 + p := by
          unfold frm at h1
          by_cases q : v < 4
          · omega
          · rw [if_neg q, hpl _ (by omega)] at h1; omega
        have live : ((vin c W n).testBit v = true ∨ ∃ i, i < n ∧ rds c i v = true ∧ p ≤ i) → ∃ r, r < 4 ∧ (hrg c W n p).testBit r = true ∧ vlu c p r = v := by
          intro h
          have : ∃ r', r' < 4 ∧ vlu c p r' = v := by
            rcases h with h | ⟨i, a, b, e⟩
            · obtain ⟨r', g1, _, g3⟩ := (vinr_bit 4).mp h
              exact vlu_back hvp hp g1 g3
            · obtain ⟨r', g1, g2, _⟩ := rds_reg (by omega) b
              exact vlu_back hvp e g1 g2
          obtain ⟨r, hr, rfl⟩ := this
          refine ⟨r, hr, ?_, rfl⟩
          unfold hrg
          rw [Nat.testBit_or, (liv_val hW hv (n - p) p rfl hp r hr).mpr h]
          rfl
        rcases h2 with h | h | ⟨i, a, b, e⟩
        · exact live (Or.inl h)
        · unfold tl0 at h
          by_cases q : v < 4
          · rw [if_pos q] at h; omega
          · rw [if_neg q, hpl _ (by omega)] at h
            unfold frm at h1
            rw [if_neg q, hpl _ (by omega)] at h1
            have hp0 : p ≠ 0 := by omega
            obtain ⟨k, rfl⟩ : ∃ k, p = k + 1 := ⟨p - 1, by omega⟩
            refine ⟨c k 0, (hv.2 k (by omega)).1, ?_, ?_⟩
            · unfold hrg
              rw [if_neg hp0, Nat.add_sub_cancel, Nat.testBit_or, Nat.testBit_two_pow, decide_eq_true rfl, Bool.or_true]
            · show up (vlu c k) (c k 0) (4 + k) (c k 0) = v
              rw [up_eq]; omega
        · exact live (Or.inr ⟨i, a, b, by rw [hpl i a] at e; exact e⟩)
    exact Bool.eq_iff_iff.mpr key
  · unfold vin hlB
    rw [Nat.testBit_lt_two_pow (Nat.lt_of_lt_of_le (vinr_lt 4 (Nat.le_refl 4)) (Nat.pow_le_pow_right (by decide) (by omega))), Nat.testBit_lt_two_pow (Nat.lt_of_lt_of_le (bts_lt _ _) (Nat.pow_le_pow_right (by decide) hvn))]
/-! how many bits -/
def on (v : Nat) : Nat → Nat
  | 0 => 0
  | k + 1 => on v k + v / 2 ^ k % 2
theorem on_le (v : Nat) : ∀ k, on v k ≤ k
  | 0 => Nat.le_refl 0
  | k + 1 => by
    have := on_le v k
    show on v k + v / 2 ^ k % 2 ≤ k + 1
    omega
def bcA (a : Nat) : Nat := a - (a / 2 &&& 1431655765)
def bcB (a : Nat) : Nat := (a &&& 858993459) + (a / 4 &&& 858993459)
def bcC (a : Nat) : Nat := (a + a / 16) &&& 252645135
def bcD (a : Nat) : Nat := a + a / 256
def bcE (a : Nat) : Nat := (a + a / 65536) &&& 63
theorem on_cnt (v : Nat) : ∀ k, on v k = cnt (fun i => v.testBit i) k
  | 0 => rfl
  | k + 1 => by
    show on v k + v / 2 ^ k % 2 = _
    rw [bit_mod, on_cnt v k]
    by_cases h : v.testBit k = true
    · rw [if_pos h, cnt_t (p := fun i => v.testBit i) h]
    · rw [if_neg h, cnt_f (p := fun i => v.testBit i) h]; rfl
theorem cnt_cg {f g : Nat → Bool} : ∀ n, (∀ i, i < n → f i = g i) → cnt f n = cnt g n
  | 0, _ => rfl
  | n + 1, h => by
    unfold cnt
    rw [cnt_cg n (fun i hi => h i (by omega)), h n (Nat.lt_succ_self n)]
theorem and_split {h m1 l m2 : Nat} (hl : l < 256) (hm : m2 < 256) : (256 * h + l) &&& (256 * m1 + m2) = 256 * (h &&& m1) + (l &&& m2) := by
  have e : (256 : Nat) = 2 ^ 8 := rfl
  apply Nat.eq_of_testBit_eq
  intro i
  rw [e, Nat.testBit_and, Nat.testBit_two_pow_mul_add h (by omega), Nat.testBit_two_pow_mul_add m1 (by omega), Nat.testBit_two_pow_mul_add (h &&& m1) (Nat.lt_of_le_of_lt Nat.and_le_left (by omega))]
  by_cases hi : i < 8
  · rw [if_pos hi, if_pos hi, if_pos hi, Nat.testBit_and]
  · rw [if_neg hi, if_neg hi, if_neg hi, Nat.testBit_and]
theorem bc_a1 : ∀ l, l < 256 → ∀ b, b < 2 → (128 * b + l / 2) &&& 85 = (l / 2 &&& 1431655765) := by decide +kernel
theorem bc_a2 : ∀ h, h < 256 → (h / 2 &&& 5592405) = (h / 2 &&& 1431655765) := by decide +kernel
theorem bc_a3 : ∀ h, h < 256 → bcA h < 256 := by decide +kernel
theorem bc_b1 : ∀ v, v < 256 → ∀ b, b < 4 → (64 * b + v / 4) &&& 51 = (v / 4 &&& 858993459) := by decide +kernel
theorem bc_b2 : ∀ u, u < 256 → (u &&& 3355443) = (u &&& 858993459) ∧ (u / 4 &&& 3355443) = (u / 4 &&& 858993459) ∧ (u &&& 51) = (u &&& 858993459) := by decide +kernel
theorem bc_b3 : ∀ h, h < 256 → bcB (bcA h) ≤ 68 ∧ bcB (bcA h) % 16 ≤ 4 := by decide +kernel
theorem bc_c1 : ∀ x, x < 128 → ∀ b, b < 8 → (x + 16 * b) &&& 15 = (x &&& 252645135) := by decide +kernel
theorem bc_c2 : ∀ x, x < 256 → (x &&& 986895) = (x &&& 252645135) := by decide +kernel
theorem bc_c3 : ∀ h, h < 256 → bcC (bcB (bcA h)) = on h 8 := by decide +kernel
theorem bc_A {h l : Nat} (hh : h < 256) (hl : l < 256) : bcA (256 * h + l) = 256 * bcA h + bcA l := by
  have e1 : (256 * h + l) / 2 = 256 * (h / 2) + (128 * (h % 2) + l / 2) := by omega
  have e2 : ((256 * h + l) / 2 &&& 1431655765) = 256 * (h / 2 &&& 1431655765) + (l / 2 &&& 1431655765) := by
    rw [e1, show (1431655765 : Nat) = 256 * 5592405 + 85 from rfl, and_split (by omega) (by decide), bc_a1 l hl _ (Nat.mod_lt _ (by decide)), bc_a2 h hh]
  have b1 : (h / 2 &&& 1431655765) ≤ h := Nat.le_trans Nat.and_le_left (Nat.div_le_self _ _)
  have b2 : (l / 2 &&& 1431655765) ≤ l := Nat.le_trans Nat.and_le_left (Nat.div_le_self _ _)
  unfold bcA
  rw [e2]
  omega
theorem bc_B {u v : Nat} (hu : u < 256) (hv : v < 256) : bcB (256 * u + v) = 256 * bcB u + bcB v := by
  have e1 : (256 * u + v) / 4 = 256 * (u / 4) + (64 * (u % 4) + v / 4) := by omega
  obtain ⟨b1, b2, b3⟩ := bc_b2 u hu
  obtain ⟨_, _, b4⟩ := bc_b2 v hv
  have e2 : ((256 * u + v) &&& 858993459) = 256 * (u &&& 858993459) + (v &&& 858993459) := by
    have := and_split (h := u) (m1 := 3355443) hv (show 51 < 256 by decide)
    rw [b1, b4] at this
    exact this
  have e3 : ((256 * u + v) / 4 &&& 858993459) = 256 * (u / 4 &&& 858993459) + (v / 4 &&& 858993459) := by
    have := and_split (h := u / 4) (m1 := 3355443) (show 64 * (u % 4) + v / 4 < 256 by omega) (show 51 < 256 by decide)
    rw [b2, bc_b1 v hv _ (Nat.mod_lt _ (by decide))] at this
    rw [e1]
    exact this
  unfold bcB
  rw [e2, e3]
  omega
theorem bc_C {s t : Nat} (hs : s ≤ 68 ∧ s % 16 ≤ 4) (ht : t ≤ 68) : bcC (256 * s + t) = 256 * bcC s + bcC t := by
  have e1 : (256 * s + t) + (256 * s + t) / 16 = 256 * (s + s / 16) + ((t + t / 16) + 16 * (s % 16)) := by omega
  unfold bcC
  rw [e1, show (252645135 : Nat) = 256 * 986895 + 15 from rfl, and_split (by omega) (by decide), bc_c1 _ (by omega) _ (by omega), bc_c2 _ (by omega)]
theorem on_split {h l : Nat} (hl : l < 256) : ∀ k, on (256 * h + l) (8 + k) = on l 8 + on h k
  | 0 => by
    show on (256 * h + l) 8 = on l 8 + 0
    rw [on_cnt, on_cnt, Nat.add_zero]
    refine cnt_cg 8 (fun i hi => ?_)
    rw [show (256 : Nat) = 2 ^ 8 from rfl, Nat.testBit_two_pow_mul_add h (by omega), if_pos hi]
  | k + 1 => by
    show on (256 * h + l) (8 + k) + (256 * h + l) / 2 ^ (8 + k) % 2 = on l 8 + (on h k + h / 2 ^ k % 2)
    rw [on_split hl k, Nat.pow_add, ← Nat.div_div_eq_div_mul, show (256 * h + l) / 2 ^ 8 = h by omega]
    omega
theorem bc_on {a : Nat} (ha : a < 65536) : bcE (bcD (bcC (bcB (bcA a)))) = on a 16 := by
  have hh : a / 256 < 256 := by omega
  have hl : a % 256 < 256 := by omega
  have e : a = 256 * (a / 256) + a % 256 := by omega
  have o1 := on_le (a / 256) 8
  have o2 := on_le (a % 256) 8
  rw [e, bc_A hh hl, bc_B (bc_a3 _ hh) (bc_a3 _ hl), bc_C (bc_b3 _ hh) (bc_b3 _ hl).1, bc_c3 _ hh, bc_c3 _ hl, show (16 : Nat) = 8 + 8 from rfl, on_split hl 8]
  have e3 : bcD (256 * on (a / 256) 8 + on (a % 256) 8) = 256 * on (a / 256) 8 + (on (a % 256) 8 + on (a / 256) 8) := by
    unfold bcD
    omega
  rw [e3]
  unfold bcE
  generalize on (a / 256) 8 = x at *
  generalize on (a % 256) 8 = y at *
  rw [Nat.div_eq_of_lt (show 256 * x + (y + x) < 65536 by omega), show (63 : Nat) = 2 ^ 6 - 1 from rfl, Nat.and_two_pow_sub_one_eq_mod, show (256 : Nat) = 2 ^ 6 * 4 from rfl, Nat.add_zero, Nat.mul_assoc, Nat.mul_add_mod, Nat.mod_eq_of_lt]
  omega
def wdB (c : Nat → Nat → Nat) (n W : Nat) (pl : Nat → Nat) : Nat → Nat
  | 0 => 0
  | p + 1 => max (wdB c n W pl p) (on (hlB c n W pl p) 16)
theorem wdB_le {c : Nat → Nat → Nat} {n W : Nat} {pl : Nat → Nat} : ∀ p, wdB c n W pl p ≤ 16
  | 0 => Nat.zero_le 16
  | p + 1 => by
    have := wdB_le (c := c) (n := n) (W := W) (pl := pl) p
    have := on_le (hlB c n W pl p) 16
    show max (wdB c n W pl p) (on (hlB c n W pl p) 16) ≤ 16
    omega
