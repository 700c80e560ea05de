/-! the fewest at once: by sets of steps that are done -/
def ndd (c : Nat → Nat → Nat) (n W S v : Nat) : Bool := (vin c W n).testBit v || decide (sdf (rdr c n v) S ≠ 0)
def hbF (c : Nat → Nat → Nat) (n W S v : Nat) : Bool := (decide (v < 4) || S.testBit (v - 4)) && ndd c n W S v
/-- how many are held behind a set of steps -/
def hbc (c : Nat → Nat → Nat) (n W S : Nat) : Nat := cnt (hbF c n W S) (4 + n)
/-- a value that nobody needs -/
def unn (c : Nat → Nat → Nat) (n W i : Nat) : Nat := if rdr c n (4 + i) = 0 ∧ (vin c W n).testBit (4 + i) = false then 1 else 0
def mn (f : Nat → Nat) : Nat → Nat
  | 0 => 536870912
  | i + 1 => min (mn f i) (f i)
theorem mn_le {f : Nat → Nat} : ∀ n i, i < n → mn f n ≤ f i
  | 0, i, h => absurd h (Nat.not_lt_zero i)
  | n + 1, i, h => by
    show min (mn f n) (f n) ≤ f i
    by_cases hi : i = n
    · rw [hi]; exact Nat.min_le_right _ _
    · exact Nat.le_trans (Nat.min_le_left _ _) (mn_le n i (by omega))
theorem mn_top {f : Nat → Nat} : ∀ n, mn f n ≤ 536870912
  | 0 => Nat.le_refl _
  | n + 1 => Nat.le_trans (Nat.min_le_left _ _) (mn_top n)
theorem mn_at {f : Nat → Nat} : ∀ n, mn f n = 536870912 ∨ ∃ i, i < n ∧ mn f n = f i
  | 0 => Or.inl rfl
  | n + 1 => by
    show min (mn f n) (f n) = _ ∨ ∃ i, i < n + 1 ∧ min (mn f n) (f n) = f i
    rcases Nat.le_total (mn f n) (f n) with h | h
    · rw [Nat.min_eq_left h]
      rcases mn_at (f := f) n with q | ⟨i, h1, h2⟩
      · exact Or.inl q
      · exact Or.inr ⟨i, by omega, h2⟩
    · rw [Nat.min_eq_right h]
      exact Or.inr ⟨n, Nat.lt_succ_self n, rfl⟩
theorem mn_cg {f g : Nat → Nat} : ∀ n, (∀ i, i < n → f i = g i) → mn f n = mn g n
  | 0, _ => rfl
  | n + 1, h => by
    show min (mn f n) (f n) = min (mn g n) (g n)
    rw [mn_cg n (fun i hi => h i (by omega)), h n (Nat.lt_succ_self n)]
/-- the least width of what follows, if a step comes next -/
def wBy (c : Nat → Nat → Nat) (n W : Nat) (F : Nat → Nat) (S i : Nat) : Nat := if S.testBit i = true ∨ sdf (ned c i) S ≠ 0 then 536870912 else max (hbc c n W (S ||| 2 ^ i) + unn c n W i) (F (S ||| 2 ^ i))
def Wk (c : Nat → Nat → Nat) (n W : Nat) : Nat → Nat → Nat
  | 0 => fun _ => 0
  | k + 1 => fun S => if S = 2 ^ n - 1 then 0 else mn (wBy c n W (Wk c n W k) S) n
def Wf (c : Nat → Nat → Nat) (n W S : Nat) : Nat := Wk c n W (2 ^ n - 1 - S) S
theorem or_gt {S i : Nat} (h : S.testBit i = false) : S < S ||| 2 ^ i := by
  have h1 : S ≤ S ||| 2 ^ i := Nat.left_le_or
  rcases Nat.lt_or_ge S (S ||| 2 ^ i) with q | q
  · exact q
  · have e : S ||| 2 ^ i = S := Nat.le_antisymm q h1
    have : (S ||| 2 ^ i).testBit i = true := by rw [Nat.testBit_or, Nat.testBit_two_pow_self, Bool.or_true]
    rw [e, h] at this
    exact absurd this (by decide)
theorem or_ltp {S i n : Nat} (hS : S < 2 ^ n) (hi : i < n) : S ||| 2 ^ i < 2 ^ n := Nat.or_lt_two_pow hS (Nat.pow_lt_pow_right (by decide) hi)
theorem Wk_fuel {c : Nat → Nat → Nat} {n W : Nat} : ∀ (k k' S : Nat), S < 2 ^ n → 2 ^ n - 1 - S ≤ k → 2 ^ n - 1 - S ≤ k' → Wk c n W k S = Wk c n W k' S
  | 0, 0, _, _, _, _ => rfl
  | 0, k' + 1, S, h, h1, _ => by
    show 0 = if S = 2 ^ n - 1 then 0 else _
    rw [if_pos (by omega)]
  | k + 1, 0, S, h, _, h2 => by
    show (if S = 2 ^ n - 1 then 0 else _) = 0
    rw [if_pos (by omega)]
  | k + 1, k' + 1, S, h, h1, h2 => by
    show (if S = 2 ^ n - 1 then 0 else mn (wBy c n W (Wk c n W k) S) n) = if S = 2 ^ n - 1 then 0 else mn (wBy c n W (Wk c n W k') S) n
    by_cases hS : S = 2 ^ n - 1
    · rw [if_pos hS, if_pos hS]
    · rw [if_neg hS, if_neg hS]
      refine mn_cg n (fun i hi => ?_)
      unfold wBy
      by_cases hb : S.testBit i = true ∨ sdf (ned c i) S ≠ 0
      · rw [if_pos hb, if_pos hb]
      · have hbf : S.testBit i = false := by
          cases q : S.testBit i
          · rfl
          · exact absurd (Or.inl q) hb
        have g1 := or_gt hbf
        have g2 := or_ltp h hi
        rw [if_neg hb, if_neg hb, Wk_fuel k k' _ g2 (by omega) (by omega)]
theorem Wf_all {c : Nat → Nat → Nat} {n W : Nat} : Wf c n W (2 ^ n - 1) = 0 := by
  unfold Wf
  rw [Nat.sub_self]
  rfl
theorem Wf_at {c : Nat → Nat → Nat} {n W S : Nat} (h : S < 2 ^ n - 1) : Wf c n W S = mn (wBy c n W (Wf c n W) S) n := by
  have e : Wf c n W S = Wk c n W ((2 ^ n - 1 - S - 1) + 1) S := by
    unfold Wf
    rw [show 2 ^ n - 1 - S - 1 + 1 = 2 ^ n - 1 - S by omega]
  rw [e]
  show (if S = 2 ^ n - 1 then 0 else mn (wBy c n W (Wk c n W (2 ^ n - 1 - S - 1)) S) n) = _
  rw [if_neg (by omega)]
  refine mn_cg n (fun i hi => ?_)
  unfold wBy
  by_cases hb : S.testBit i = true ∨ sdf (ned c i) S ≠ 0
  · rw [if_pos hb, if_pos hb]
  · have hbf : S.testBit i = false := by
      cases q : S.testBit i
      · rfl
      · exact absurd (Or.inl q) hb
    have g1 := or_gt hbf
    have g2 := or_ltp (n := n) (by omega : S < 2 ^ n) hi
    rw [if_neg hb, if_neg hb]
    unfold Wf
    rw [Wk_fuel (2 ^ n - 1 - S - 1) (2 ^ n - 1 - (S ||| 2 ^ i)) _ g2 (by omega) (Nat.le_refl _)]
theorem hbc_le (c : Nat → Nat → Nat) (n W S : Nat) : hbc c n W S ≤ 4 + n := cnt_le _ _
theorem unn_le (c : Nat → Nat → Nat) (n W i : Nat) : unn c n W i ≤ 1 := by unfold unn; split <;> omega
theorem Wf_top {c : Nat → Nat → Nat} {n W S : Nat} (h : S < 2 ^ n) : Wf c n W S ≤ 536870912 := by
  by_cases hS : S = 2 ^ n - 1
  · rw [hS, Wf_all]; decide
  · rw [Wf_at (by omega)]; exact mn_top n
theorem wBy_top {c : Nat → Nat → Nat} {n W S i : Nat} (hn : n ≤ 12) (h : S < 2 ^ n) (hi : i < n) : wBy c n W (Wf c n W) S i ≤ 536870912 := by
  have := hbc_le c n W (S ||| 2 ^ i)
  have := unn_le c n W i
  have := Wf_top (c := c) (W := W) (or_ltp h hi)
  unfold wBy
  split
  · exact Nat.le_refl _
  · omega
/-- the width so far -/
def wmx (c : Nat → Nat → Nat) (n W : Nat) (o : Nat → Nat) : Nat → Nat
  | 0 => hbc c n W 0
  | k + 1 => max (wmx c n W o k) (hbc c n W (pbt o (k + 1)) + unn c n W (o k))
theorem wmx_cg {c : Nat → Nat → Nat} {n W : Nat} {o o' : Nat → Nat} : ∀ k, (∀ j, j < k → o j = o' j) → wmx c n W o k = wmx c n W o' k
  | 0, _ => rfl
  | k + 1, h => by
    show max (wmx c n W o k) (hbc c n W (pbt o (k + 1)) + unn c n W (o k)) = max (wmx c n W o' k) (hbc c n W (pbt o' (k + 1)) + unn c n W (o' k))
    rw [wmx_cg k (fun j hj => h j (by omega)), pbt_cg (k + 1) h, h k (Nat.lt_succ_self k)]
theorem wmx_le {c : Nat → Nat → Nat} {n W : Nat} {o : Nat → Nat} (hn : n ≤ 12) : ∀ k, wmx c n W o k ≤ 17
  | 0 => by have := hbc_le c n W 0; show hbc c n W 0 ≤ 17; omega
  | k + 1 => by
    have := wmx_le (c := c) (W := W) (o := o) hn k
    have := hbc_le c n W (pbt o (k + 1))
    have := unn_le c n W (o k)
    show max _ _ ≤ 17
    omega
/-- each next step is the least one by which no more than T are held at once -/
def GP (c : Nat → Nat → Nat) (n W T : Nat) (x : Nat → Nat) (dep : Nat) : Prop := ∀ k, dep ≤ k → k < n → x k < n ∧ wBy c n W (Wf c n W) (pbt x k) (x k) ≤ T ∧ ∀ i, i < x k → T < wBy c n W (Wf c n W) (pbt x k) i
theorem up_pbt {o : Nat → Nat} {dep a : Nat} : pbt (up o dep a) (dep + 1) = pbt o dep ||| 2 ^ a := by
  show pbt (up o dep a) dep ||| 2 ^ (up o dep a dep) = _
  rw [up_eq, pbt_cg dep (fun j hj => up_ne (by omega))]
theorem up_lwb {A o : Nat → Nat} {dep a : Nat} : lwb A (up o dep a) (dep + 1) = (lwb A o dep && decide (sdf (A a) (pbt o dep) = 0)) := by
  show (lwb A (up o dep a) dep && decide (sdf (A (up o dep a dep)) (pbt (up o dep a) dep) = 0)) = _
  rw [up_eq, lwb_cg dep (fun j hj => up_ne (by omega)), pbt_cg dep (fun j hj => up_ne (by omega))]
theorem up_wmx {c : Nat → Nat → Nat} {n W : Nat} {o : Nat → Nat} {dep a : Nat} : wmx c n W (up o dep a) (dep + 1) = max (wmx c n W o dep) (hbc c n W (pbt o dep ||| 2 ^ a) + unn c n W a) := by
  show max (wmx c n W (up o dep a) dep) (hbc c n W (pbt (up o dep a) (dep + 1)) + unn c n W (up o dep a dep)) = _
  rw [up_pbt, up_eq, wmx_cg dep (fun j hj => up_ne (by omega))]
theorem lwb_pre {A x o : Nat → Nat} {n dep : Nat} (hd : dep ≤ n) (hx : ∀ q, q < dep → x q = o q) (h : lwb A x n = true) : lwb A o dep = true := by
  rw [← lwb_cg dep hx]
  exact lwb_le (n - dep) (by rw [show dep + (n - dep) = n by omega]; exact h)
theorem mm1 {w B b : Nat} (h : max w b < max w B) : max w (min B b) = max w b := by omega
theorem mm2 {w B b : Nat} (h : max w B ≤ max w b) : max w (min B b) = max w B := by omega
theorem mm3 {w B b L : Nat} (h1 : L ≤ max w B) (h2 : max w b < L) : max w (min B b) = max w b := by omega
theorem mm4 {w B b x : Nat} (h : max w b < max w B) (hx : B ≤ x) : max w b < x := by omega
theorem mm5 {w B b L x : Nat} (h1 : L ≤ max w B) (h2 : max w b < L) (hx : B ≤ x) : max w b < x := by omega
theorem mm6 {w B b L : Nat} (h1 : L ≤ max w B) (h2 : L ≤ max w b) : ¬ max w (min B b) < L := by omega
/-- what the search over all orders comes to, behind some steps -/
def FWp (c : Nat → Nat → Nat) (n W B dep : Nat) (o : Nat → Nat) (acc res : BO) : Prop := (lim acc ≤ B → res = acc) ∧ (B < lim acc → ∃ x, res = some (B, x) ∧ (∀ k, k < dep → x k = o k) ∧ GP c n W B x dep)
theorem fw_main {c : Nat → Nat → Nat} {n W : Nat} {cost : (Nat → Nat) → Nat} (hn : n ≤ 12) (hcost : ∀ x, (∀ q, q < n → x q < n) → (∀ q q', q < n → q' < n → x q = x q' → q = q') → lwb (ned c) x n = true → cost x = wmx c n W x n) : ∀ (m dep : Nat) (o r : Nat → Nat) (acc : BO), dep + m = n → lim acc ≤ 536870912 → SI r m → Lft n (pbt o dep) r m → (∀ q, q < dep → o q < n) → (∀ q q', q < dep → q' < dep → o q = o q' → q = q') → lwb (ned c) o dep = true → FWp c n W (max (wmx c n W o dep) (Wf c n W (pbt o dep))) dep o acc (fq (lf (ned c) cost n) m dep o r acc) := by
  intro m
  induction m with
  | zero =>
    intro dep o r acc hdm hac hr hL hon hinj hlw
    obtain rfl : dep = n := by omega
    have hP : pbt o dep = 2 ^ dep - 1 := by
      apply Nat.eq_of_testBit_eq
      intro i
      rw [Nat.testBit_two_pow_sub_one]
      by_cases hi : i < dep
      · rw [decide_eq_true hi]
        cases q : (pbt o dep).testBit i
        · obtain ⟨k, hk, _⟩ := hL.2 i hi q
          exact absurd hk (Nat.not_lt_zero k)
        · rfl
      · rw [decide_eq_false hi]
        exact Nat.testBit_lt_two_pow (Nat.lt_of_lt_of_le (pbt_lt dep hon) (Nat.pow_le_pow_right (by decide) (by omega)))
    have hx : ∀ q, q < dep → (if q < dep then o q else 0) = o q := fun q hq => if_pos hq
    have hl2 : lwb (ned c) (fun q => if q < dep then o q else 0) dep = true := by rw [lwb_cg dep hx]; exact hlw
    have hco : cost (fun q => if q < dep then o q else 0) = wmx c dep W o dep := by
      rw [hcost _ (fun q hq => by rw [hx q hq]; exact hon q hq) (fun q q' h1 h2 h => by rw [hx q h1, hx q' h2] at h; exact hinj q q' h1 h2 h) hl2]
      exact wmx_cg dep hx
    have hb := wmx_le (c := c) (W := W) (o := o) hn dep
    rw [hP, Wf_all, Nat.max_eq_left (Nat.zero_le _)]
    show FWp c dep W _ dep o acc (lf (ned c) cost dep (fun q => if q < dep then o q else 0) acc)
    refine ⟨fun h => ?_, fun h => ⟨fun q => if q < dep then o q else 0, ?_, hx, fun k h1 h2 => absurd h2 (by omega)⟩⟩
    · cases acc with
      | none => exact absurd h (by unfold lim; dsimp only; omega)
      | some p => exact lf_ge (by rw [hco]; unfold lim at h; dsimp only at h; omega)
    · rw [← hco]
      cases acc with
      | none => exact lf_none hl2
      | some p => exact lf_lt hl2 (by rw [hco]; exact h)
  | succ m ih =>
    intro dep o r acc hdm hac hr hL hon hinj hlw
    have hPlt : pbt o dep < 2 ^ n := pbt_lt dep hon
    have hr0 := hL.1 0 (by omega)
    have hne : pbt o dep ≠ 2 ^ n - 1 := fun q => by
      have := hr0.2
      rw [q, full_bit hr0.1] at this
      exact absurd this (by decide)
    rw [Wf_at (by omega : pbt o dep < 2 ^ n - 1)]
    show FWp c n W _ dep o acc (itr (fun a x => fq (lf (ned c) cost n) m (dep + 1) (up o dep (r a)) (eR r a) x) (m + 1) acc)
    have hinj2 : ∀ a, a < m + 1 → ∀ q q', q < dep + 1 → q' < dep + 1 → up o dep (r a) q = up o dep (r a) q' → q = q' := by
      intro a ha q q' h1 h2 h
      have no : ∀ z, z < dep → o z ≠ r a := fun z hz e => by
        have := (hL.1 a ha).2
        rw [(pbt_bit dep).mpr ⟨z, hz, e⟩] at this
        exact absurd this (by decide)
      by_cases e1 : q = dep
      · by_cases e2 : q' = dep
        · omega
        · rw [e1, up_eq, up_ne e2] at h; exact absurd h.symm (no q' (by omega))
      · by_cases e2 : q' = dep
        · rw [e2, up_eq, up_ne e1] at h; exact absurd h (no q (by omega))
        · rw [up_ne e1, up_ne e2] at h; exact hinj q q' (by omega) (by omega) h
    have child : ∀ a, a < m + 1 → ∀ ac, lim ac ≤ 536870912 → (lim ac ≤ max (wmx c n W o dep) (wBy c n W (Wf c n W) (pbt o dep) (r a)) → fq (lf (ned c) cost n) m (dep + 1) (up o dep (r a)) (eR r a) ac = ac) ∧ (max (wmx c n W o dep) (wBy c n W (Wf c n W) (pbt o dep) (r a)) < lim ac → ∃ x, fq (lf (ned c) cost n) m (dep + 1) (up o dep (r a)) (eR r a) ac = some (max (wmx c n W o dep) (wBy c n W (Wf c n W) (pbt o dep) (r a)), x) ∧ (∀ k, k < dep → x k = o k) ∧ x dep = r a ∧ GP c n W (max (wmx c n W o dep) (wBy c n W (Wf c n W) (pbt o dep) (r a))) x (dep + 1)) := by
      intro a ha ac hac
      obtain ⟨ra, rb⟩ := hL.1 a ha
      by_cases hs : sdf (ned c (r a)) (pbt o dep) = 0
      · have hw : wBy c n W (Wf c n W) (pbt o dep) (r a) = max (hbc c n W (pbt o dep ||| 2 ^ r a) + unn c n W (r a)) (Wf c n W (pbt o dep ||| 2 ^ r a)) := if_neg (fun q => q.elim (fun q => by rw [rb] at q; exact absurd q (by decide)) (fun q => q hs))
        have h := ih (dep + 1) (up o dep (r a)) (eR r a) ac (by omega) hac (SI_eR hr) (by rw [up_pbt]; exact Lft_stp hL hr (by omega)) (fun q hq => by
          by_cases e : q = dep
          · rw [e, up_eq]; exact ra
          · rw [up_ne e]; exact hon q (by omega)) (hinj2 a ha) (by rw [up_lwb, hlw, decide_eq_true hs]; rfl)
        rw [up_wmx, up_pbt, Nat.max_assoc, ← hw] at h
        refine ⟨h.1, fun q => ?_⟩
        obtain ⟨x, x1, x2, x3⟩ := h.2 q
        exact ⟨x, x1, fun k hk => by rw [x2 k (by omega), up_ne (by omega)], by rw [x2 dep (by omega), up_eq], x3⟩
      · have hw : wBy c n W (Wf c n W) (pbt o dep) (r a) = 536870912 := if_pos (Or.inr hs)
        refine ⟨fun _ => fq_same m (dep + 1) _ _ (fun x hx => lf_no (fun q => ?_)), fun q => absurd q (by rw [hw]; omega)⟩
        have := lwb_pre (o := up o dep (r a)) (by omega) hx q
        rw [up_lwb, decide_eq_false hs, Bool.and_false] at this
        exact absurd this (by decide)
    have main : ∀ k, k ≤ m + 1 → (lim acc ≤ max (wmx c n W o dep) (mn (fun a => wBy c n W (Wf c n W) (pbt o dep) (r a)) k) → itr (fun a x => fq (lf (ned c) cost n) m (dep + 1) (up o dep (r a)) (eR r a) x) k acc = acc) ∧ (max (wmx c n W o dep) (mn (fun a => wBy c n W (Wf c n W) (pbt o dep) (r a)) k) < lim acc → ∃ x a, a < k ∧ itr (fun a x => fq (lf (ned c) cost n) m (dep + 1) (up o dep (r a)) (eR r a) x) k acc = some (max (wmx c n W o dep) (mn (fun a => wBy c n W (Wf c n W) (pbt o dep) (r a)) k), x) ∧ (∀ k, k < dep → x k = o k) ∧ x dep = r a ∧ wBy c n W (Wf c n W) (pbt o dep) (r a) ≤ max (wmx c n W o dep) (mn (fun a => wBy c n W (Wf c n W) (pbt o dep) (r a)) k) ∧ (∀ a', a' < a → max (wmx c n W o dep) (mn (fun a => wBy c n W (Wf c n W) (pbt o dep) (r a)) k) < wBy c n W (Wf c n W) (pbt o dep) (r a')) ∧ GP c n W (max (wmx c n W o dep) (mn (fun a => wBy c n W (Wf c n W) (pbt o dep) (r a)) k)) x (dep + 1)) := by
      intro k
      induction k with
      | zero =>
        intro _
        refine ⟨fun _ => rfl, fun q => absurd q ?_⟩
        show ¬ max _ 536870912 < _
        omega
      | succ k ihk =>
        intro hk
        obtain ⟨i1, i2⟩ := ihk (by omega)
        have hml : ∀ a', a' < k → mn (fun a => wBy c n W (Wf c n W) (pbt o dep) (r a)) k ≤ wBy c n W (Wf c n W) (pbt o dep) (r a') := fun a' ha => mn_le (f := fun a => wBy c n W (Wf c n W) (pbt o dep) (r a)) k a' ha
        rw [show mn (fun a => wBy c n W (Wf c n W) (pbt o dep) (r a)) (k + 1) = min (mn (fun a => wBy c n W (Wf c n W) (pbt o dep) (r a)) k) (wBy c n W (Wf c n W) (pbt o dep) (r k)) from rfl]
        show (_ → fq (lf (ned c) cost n) m (dep + 1) (up o dep (r k)) (eR r k) (itr (fun a x => fq (lf (ned c) cost n) m (dep + 1) (up o dep (r a)) (eR r a) x) k acc) = acc) ∧ (_ → ∃ x a, a < k + 1 ∧ fq (lf (ned c) cost n) m (dep + 1) (up o dep (r k)) (eR r k) (itr (fun a x => fq (lf (ned c) cost n) m (dep + 1) (up o dep (r a)) (eR r a) x) k acc) = _ ∧ _)
        generalize hB : mn (fun a => wBy c n W (Wf c n W) (pbt o dep) (r a)) k = B at i1 i2 hml ⊢
        generalize hy : itr (fun a x => fq (lf (ned c) cost n) m (dep + 1) (up o dep (r a)) (eR r a) x) k acc = y at i1 i2 ⊢
        have ch := child k (by omega)
        generalize hb : wBy c n W (Wf c n W) (pbt o dep) (r k) = b at ch ⊢
        generalize hw0 : wmx c n W o dep = w0 at i1 i2 ch ⊢
        rcases Nat.lt_or_ge (max w0 B) (lim acc) with q | q
        · obtain ⟨x, a, h1, h2, h3, h4, h5, h6, h7⟩ := i2 q
          have hly : lim y = max w0 B := by rw [h2]; rfl
          obtain ⟨c1, c2⟩ := ch y (by rw [hly]; exact Nat.le_of_lt (Nat.lt_of_lt_of_le q hac))
          rcases Nat.lt_or_ge (max w0 b) (max w0 B) with q2 | q2
          · rw [mm1 q2]
            refine ⟨fun q3 => absurd (Nat.lt_of_lt_of_le (Nat.lt_trans q2 q) q3) (Nat.lt_irrefl _), fun _ => ?_⟩
            obtain ⟨x', g1, g2, g3, g4⟩ := c2 (by rw [hly]; exact q2)
            exact ⟨x', k, Nat.lt_succ_self k, g1, g2, g3, by rw [hb]; exact Nat.le_max_right _ _, fun a' ha' => mm4 q2 (hml a' ha'), g4⟩
          · rw [mm2 q2]
            refine ⟨fun q3 => absurd (Nat.lt_of_lt_of_le q q3) (Nat.lt_irrefl _), fun _ => ⟨x, a, Nat.lt_succ_of_lt h1, ?_, h3, h4, h5, h6, h7⟩⟩
            rw [c1 (by rw [hly]; exact q2)]
            exact h2
        · have hya := i1 q
          rw [hya]
          obtain ⟨c1, c2⟩ := ch acc hac
          rcases Nat.lt_or_ge (max w0 b) (lim acc) with q2 | q2
          · rw [mm3 q q2]
            refine ⟨fun q3 => absurd (Nat.lt_of_lt_of_le q2 q3) (Nat.lt_irrefl _), fun _ => ?_⟩
            obtain ⟨x', g1, g2, g3, g4⟩ := c2 q2
            exact ⟨x', k, Nat.lt_succ_self k, g1, g2, g3, by rw [hb]; exact Nat.le_max_right _ _, fun a' ha' => mm5 q q2 (hml a' ha'), g4⟩
          · exact ⟨fun _ => c1 q2, fun q3 => absurd q3 (mm6 q q2)⟩
    have hmn : mn (fun a => wBy c n W (Wf c n W) (pbt o dep) (r a)) (m + 1) = mn (wBy c n W (Wf c n W) (pbt o dep)) n := by
      apply Nat.le_antisymm
      · rcases mn_at (f := wBy c n W (Wf c n W) (pbt o dep)) n with q | ⟨i, h1, h2⟩
        · rw [q]; exact mn_top _
        · rw [h2]
          cases hbi : (pbt o dep).testBit i
          · obtain ⟨k, hk, rfl⟩ := hL.2 i h1 hbi
            exact mn_le (f := fun a => wBy c n W (Wf c n W) (pbt o dep) (r a)) (m + 1) k hk
          · rw [show wBy c n W (Wf c n W) (pbt o dep) i = 536870912 from if_pos (Or.inl hbi)]
            exact mn_top _
      · rcases mn_at (f := fun a => wBy c n W (Wf c n W) (pbt o dep) (r a)) (m + 1) with q | ⟨i, h1, h2⟩
        · rw [q]; exact mn_top _
        · rw [h2]
          exact mn_le n (r i) (hL.1 i h1).1
    obtain ⟨m1, m2⟩ := main (m + 1) (Nat.le_refl _)
    rw [hmn] at m1 m2
    refine ⟨m1, fun q => ?_⟩
    obtain ⟨x, a, h1, h2, h3, h4, h5, h6, h7⟩ := m2 q
    refine ⟨x, h2, h3, fun k hk1 hk2 => ?_⟩
    by_cases hkd : k = dep
    · rw [hkd, h4, pbt_cg dep h3]
      refine ⟨(hL.1 a h1).1, h5, fun i hi => ?_⟩
      cases hbi : (pbt o dep).testBit i
      · obtain ⟨a', ha', e⟩ := hL.2 i (Nat.lt_trans hi (hL.1 a h1).1) hbi
        rw [← e]
        refine h6 a' ?_
        rcases Nat.lt_or_ge a' a with z | z
        · exact z
        · exfalso
          by_cases z2 : a' = a
          · rw [z2] at e; omega
          · have := hr a a' (by omega) ha'; omega
      · rw [show wBy c n W (Wf c n W) (pbt o dep) i = 536870912 from if_pos (Or.inl hbi)]
        omega
    · exact h7 k (by omega) hk2
/-! the width of an order, by the sets of steps that are done -/
def ivs (x : Nat → Nat) (i : Nat) : Nat → Nat
  | 0 => 0
  | k + 1 => if x k = i then k else ivs x i k
theorem ivs_at {x : Nat → Nat} {i : Nat} : ∀ n k, k < n → x k = i → (∀ q q', q < n → q' < n → x q = x q' → q = q') → ivs x i n = k
  | 0, k, h, _, _ => absurd h (Nat.not_lt_zero k)
  | n + 1, k, h, e, hinj => by
    unfold ivs
    by_cases hn : x n = i
    · rw [if_pos hn]; exact hinj n k (by omega) h (by rw [hn, e])
    · rw [if_neg hn]
      have : k ≠ n := fun q => hn (by rw [← q]; exact e)
      exact ivs_at n k (by omega) e (fun q q' h1 h2 => hinj q q' (by omega) (by omega))
theorem bts_hi {f : Nat → Bool} {m i : Nat} (h : m ≤ i) : (bts f m).testBit i = false := Nat.testBit_lt_two_pow (Nat.lt_of_lt_of_le (bts_lt f m) (Nat.pow_le_pow_right (by decide) h))
theorem cnt_0 {f : Nat → Bool} {m : Nat} : ∀ k, (∀ i, m ≤ i → i < m + k → f i = false) → cnt f (m + k) = cnt f m
  | 0, _ => rfl
  | k + 1, h => by
    rw [← Nat.add_assoc, cnt_f (by rw [h (m + k) (by omega) (by omega)]; decide)]
    exact cnt_0 k (fun i h1 h2 => h i h1 (by omega))
theorem cnt_1 {f g : Nat → Bool} {w : Nat} : ∀ n, w < n → (∀ i, i < n → i ≠ w → f i = g i) → f w = true → g w = false → cnt f n = cnt g n + 1
  | 0, h, _, _, _ => absurd h (Nat.not_lt_zero w)
  | n + 1, h, hfg, hf, hg => by
    by_cases hw : w = n
    · subst hw
      rw [cnt_t hf, cnt_f (by rw [hg]; decide), cnt_cg w (fun i hi => hfg i (by omega) (by omega))]
    · have ih := cnt_1 n (by omega) (fun i hi => hfg i (by omega)) hf hg
      unfold cnt
      rw [ih, hfg n (Nat.lt_succ_self n) (fun q => hw q.symm)]
      split <;> rfl
theorem on_bts {f : Nat → Bool} {m : Nat} (hm : m ≤ 16) : on (bts f m) 16 = cnt f m := by
  rw [on_cnt, show (16 : Nat) = m + (16 - m) by omega, cnt_0 (16 - m) (fun i h1 _ => bts_hi h1)]
  exact cnt_cg m (fun i hi => bts_bit f m i hi)
theorem rdr_bit {c : Nat → Nat → Nat} {n v i : Nat} (hi : i < n) : (rdr c n v).testBit i = rds c i v := bts_bit _ n i hi
theorem rdr_lt (c : Nat → Nat → Nat) (n v : Nat) : rdr c n v < 2 ^ n := bts_lt _ n
theorem sdf_ne {a b n : Nat} (hn : n ≤ 32) (ha : a < 2 ^ n) : sdf a b ≠ 0 ↔ ∃ i, i < n ∧ a.testBit i = true ∧ b.testBit i = false := by
  constructor
  · intro h
    obtain ⟨i, hi⟩ := Nat.exists_testBit_of_ne_zero h
    have h32 : i < 32 := by
      rcases Nat.lt_or_ge i 32 with q | q
      · exact q
      · rw [Nat.testBit_lt_two_pow (Nat.lt_of_le_of_lt (sdf_le a b) (Nat.lt_of_lt_of_le ha (Nat.pow_le_pow_right (by decide) (by omega))))] at hi
        exact absurd hi (by decide)
    rw [sdf_bit h32, Bool.and_eq_true] at hi
    refine ⟨i, ?_, hi.1, by simpa using hi.2⟩
    rcases Nat.lt_or_ge i n with q | q
    · exact q
    · rw [Nat.testBit_lt_two_pow (Nat.lt_of_lt_of_le ha (Nat.pow_le_pow_right (by decide) q))] at hi
      exact absurd hi.1 (by decide)
  · rintro ⟨i, h1, h2, h3⟩ h0
    have : (sdf a b).testBit i = true := by rw [sdf_bit (by omega), h2, h3]; rfl
    rw [h0, Nat.zero_testBit] at this
    exact absurd this (by decide)
/-- a step that reads what another one makes stands behind it -/
theorem rds_ned {c : Nat → Nat → Nat} {j i : Nat} (hj : 4 + j < 99) (h : rds c i (4 + j) = true) : (ned c i).testBit j = true := by
  unfold rds at h
  rw [decide_eq_true_iff] at h
  unfold ned
  rw [Nat.testBit_or, Bool.or_eq_true]
  rcases h with h | h
  · left
    rw [h]
    unfold nb
    rw [if_pos (by omega), show 4 + j - 4 = j by omega, Nat.testBit_two_pow_self]
  · right
    rw [h]
    unfold nb
    rw [if_pos (by omega), show 4 + j - 4 = j by omega, Nat.testBit_two_pow_self]
theorem hl_on {c : Nat → Nat → Nat} {n W : Nat} {x : Nat → Nat} (hn : n ≤ 12) (hon : ∀ q, q < n → x q < n) (hinj : ∀ q q', q < n → q' < n → x q = x q' → q = q') (hlw : lwb (ned c) x n = true) {p : Nat} (hp : p ≤ n) : on (hlB c n W (fun i => ivs x i n) p) 16 = hbc c n W (pbt x p) + (if p = 0 then 0 else unn c n W (x (p - 1))) := by
  have hiv : ∀ k, k < n → ivs x (x k) n = k := fun k hk => ivs_at n k hk rfl hinj
  have hsu := inj_surj n x hon hinj
  have hpos : ∀ i, i < n → ((pbt x p).testBit i = true ↔ ivs x i n < p) := by
    intro i hi
    obtain ⟨k, hk, rfl⟩ := hsu i hi
    rw [hiv k hk, pbt_bit p]
    constructor
    · rintro ⟨k', h1, h2⟩
      rw [← hinj k' k (by omega) hk h2]; exact h1
    · intro h
      exact ⟨k, h, rfl⟩
  have hLw : Lwf (ned c) x n := lwb_Lwf32 (ned_lt c) hn hon hlw
  unfold hlB hbc
  rw [on_bts (by omega)]
  -- when a value is held
  have hh : ∀ v, v < 4 + n → (decide (frm (fun i => ivs x i n) v ≤ p ∧ p < tl c n W (fun i => ivs x i n) v) = true ↔ ((v < 4 ∨ (pbt x p).testBit (v - 4) = true) ∧ (ndd c n W (pbt x p) v = true ∨ (4 ≤ v ∧ p = ivs x (v - 4) n + 1)))) := by
    intro v hv
    rw [decide_eq_true_iff, tl_lt hp]
    have hnd : ndd c n W (pbt x p) v = true ↔ ((vin c W n).testBit v = true ∨ ∃ i, i < n ∧ rds c i v = true ∧ p ≤ ivs x i n) := by
      unfold ndd
      rw [Bool.or_eq_true, decide_eq_true_iff, sdf_ne (n := n) (by omega) (rdr_lt c n v)]
      constructor
      · rintro (h | ⟨i, h1, h2, h3⟩)
        · exact Or.inl h
        · refine Or.inr ⟨i, h1, by rw [← rdr_bit h1]; exact h2, ?_⟩
          rcases Nat.lt_or_ge (ivs x i n) p with q | q
          · rw [(hpos i h1).mpr q] at h3; exact absurd h3 (by decide)
          · exact q
      · rintro (h | ⟨i, h1, h2, h3⟩)
        · exact Or.inl h
        · refine Or.inr ⟨i, h1, by rw [rdr_bit h1]; exact h2, ?_⟩
          cases q : (pbt x p).testBit i
          · rfl
          · have := (hpos i h1).mp q; omega
    rw [hnd]
    unfold frm tl0
    by_cases h4 : v < 4
    · rw [if_pos h4, if_pos h4]
      constructor
      · rintro ⟨_, h | h | h⟩
        · exact ⟨Or.inl h4, Or.inl (Or.inl h)⟩
        · omega
        · exact ⟨Or.inl h4, Or.inl (Or.inr h)⟩
      · rintro ⟨_, (h | h) | h⟩
        · exact ⟨by omega, Or.inl h⟩
        · exact ⟨by omega, Or.inr (Or.inr h)⟩
        · omega
    · rw [if_neg h4, if_neg h4]
      dsimp only
      have hps := hpos (v - 4) (by omega)
      constructor
      · rintro ⟨h0, h | h | h⟩
        · exact ⟨Or.inr (hps.mpr (by omega)), Or.inl (Or.inl h)⟩
        · exact ⟨Or.inr (hps.mpr (by omega)), Or.inr ⟨by omega, by omega⟩⟩
        · exact ⟨Or.inr (hps.mpr (by omega)), Or.inl (Or.inr h)⟩
      · rintro ⟨h0, (h | h) | h⟩
        · have := hps.mp (h0.resolve_left h4); exact ⟨by omega, Or.inl h⟩
        · have := hps.mp (h0.resolve_left h4); exact ⟨by omega, Or.inr (Or.inr h)⟩
        · exact ⟨by omega, Or.inr (Or.inl (by omega))⟩
  have hF : ∀ v, v < 4 + n → (hbF c n W (pbt x p) v = true ↔ ((v < 4 ∨ (pbt x p).testBit (v - 4) = true) ∧ ndd c n W (pbt x p) v = true)) := by
    intro v hv
    unfold hbF
    rw [Bool.and_eq_true, Bool.or_eq_true, decide_eq_true_iff]
  by_cases h0 : p = 0
  · rw [if_pos h0, Nat.add_zero]
    refine cnt_cg _ (fun v hv => Bool.eq_iff_iff.mpr ?_)
    rw [hh v hv, hF v hv]
    constructor
    · rintro ⟨a, b | b⟩
      · exact ⟨a, b⟩
      · omega
    · rintro ⟨a, b⟩
      exact ⟨a, Or.inl b⟩
  · rw [if_neg h0]
    have hk : p - 1 < n := by omega
    have hxn := hon (p - 1) hk
    have hother : ∀ v, v < 4 + n → v ≠ 4 + x (p - 1) → (decide (frm (fun i => ivs x i n) v ≤ p ∧ p < tl c n W (fun i => ivs x i n) v) = hbF c n W (pbt x p) v) := by
      intro v hv hne
      refine Bool.eq_iff_iff.mpr ?_
      rw [hh v hv, hF v hv]
      constructor
      · rintro ⟨a, b | ⟨b1, b2⟩⟩
        · exact ⟨a, b⟩
        · exfalso
          obtain ⟨k, h1, h2⟩ := hsu (v - 4) (by omega)
          rw [← h2, hiv k h1] at b2
          apply hne
          rw [show p - 1 = k by omega, h2]; omega
      · rintro ⟨a, b⟩
        exact ⟨a, Or.inl b⟩
    have hset : (pbt x p).testBit (x (p - 1)) = true := (pbt_bit p).mpr ⟨p - 1, by omega, rfl⟩
    have hheld : decide (frm (fun i => ivs x i n) (4 + x (p - 1)) ≤ p ∧ p < tl c n W (fun i => ivs x i n) (4 + x (p - 1))) = true := by
      rw [hh _ (by omega), show 4 + x (p - 1) - 4 = x (p - 1) by omega, hiv _ hk]
      exact ⟨Or.inr hset, Or.inr ⟨by omega, by omega⟩⟩
    by_cases hu : rdr c n (4 + x (p - 1)) = 0 ∧ (vin c W n).testBit (4 + x (p - 1)) = false
    · rw [show unn c n W (x (p - 1)) = 1 from if_pos hu]
      refine cnt_1 (w := 4 + x (p - 1)) _ (by omega) hother hheld ?_
      cases q : hbF c n W (pbt x p) (4 + x (p - 1))
      · rfl
      · have := ((hF _ (by omega)).mp q).2
        unfold ndd at this
        rw [hu.1, hu.2, Bool.false_or, decide_eq_true_iff] at this
        exact absurd (Nat.le_zero.mp (sdf_le 0 _)) this
    · rw [show unn c n W (x (p - 1)) = 0 from if_neg hu, Nat.add_zero]
      refine cnt_cg _ (fun v hv => ?_)
      by_cases hne : v = 4 + x (p - 1)
      · rw [hne, hheld]
        symm
        rw [hF _ (by omega), show 4 + x (p - 1) - 4 = x (p - 1) by omega]
        refine ⟨Or.inr hset, ?_⟩
        unfold ndd
        rw [Bool.or_eq_true, decide_eq_true_iff]
        by_cases hl : (vin c W n).testBit (4 + x (p - 1)) = true
        · exact Or.inl hl
        · right
          have hr : rdr c n (4 + x (p - 1)) ≠ 0 := fun q => hu ⟨q, by simpa using hl⟩
          obtain ⟨i, hi⟩ := Nat.exists_testBit_of_ne_zero hr
          have hin : i < n := by
            rcases Nat.lt_or_ge i n with q | q
            · exact q
            · rw [Nat.testBit_lt_two_pow (Nat.lt_of_lt_of_le (rdr_lt c n _) (Nat.pow_le_pow_right (by decide) q))] at hi
              exact absurd hi (by decide)
          rw [sdf_ne (n := n) (by omega) (rdr_lt c n _)]
          refine ⟨i, hin, hi, ?_⟩
          rw [rdr_bit hin] at hi
          have hned := rds_ned (by omega) hi
          obtain ⟨k, h1, rfl⟩ := hsu i hin
          obtain ⟨k', h2, h3⟩ := hLw k h1 (x (p - 1)) hned
          have := hinj k' (p - 1) (by omega) hk h3
          cases q : (pbt x p).testBit (x k)
          · rfl
          · have := (hpos (x k) hin).mp q
            rw [hiv k h1] at this
            omega
      · exact hother v hv hne
theorem wd_wmx {c : Nat → Nat → Nat} {n W : Nat} {x : Nat → Nat} (hn : n ≤ 12) (hon : ∀ q, q < n → x q < n) (hinj : ∀ q q', q < n → q' < n → x q = x q' → q = q') (hlw : lwb (ned c) x n = true) : ∀ p, p ≤ n → wdB c n W (fun i => ivs x i n) (p + 1) = wmx c n W x p
  | 0, h => by
    show max 0 (on (hlB c n W (fun i => ivs x i n) 0) 16) = hbc c n W 0
    rw [hl_on hn hon hinj hlw h, if_pos rfl, Nat.zero_max, Nat.add_zero]
    rfl
  | p + 1, h => by
    show max (wdB c n W (fun i => ivs x i n) (p + 1)) (on (hlB c n W (fun i => ivs x i n) (p + 1)) 16) = max (wmx c n W x p) _
    rw [wd_wmx hn hon hinj hlw p (by omega), hl_on hn hon hinj hlw h, if_neg (by omega), Nat.add_sub_cancel]
def cWd (c : Nat → Nat → Nat) (n W : Nat) (x : Nat → Nat) : Nat := wdB c n W (fun i => ivs x i n) (n + 1)
def bstW (D : DD) : BO := fq (lf (lwA (dC D).2 0) (cWd (dC D).2 (dC D).1 (dW D)) (dC D).1) (dC D).1 0 (fun _ => 0) (fun q => q) none
def sp_fewest (s : SS) (x : Int32) : Int32 := sp_at (dC s.2.1).1 (bstW s.2.1) x
theorem lwA_0 (c : Nat → Nat → Nat) : lwA c 0 = ned c := by funext i; exact if_neg (by decide)
/-- what the best order is -/
theorem bstW_is {c : Nat → Nat → Nat} {n W : Nat} (hn : n ≤ 12) : ∃ x, fq (lf (lwA c 0) (cWd c n W) n) n 0 (fun _ => 0) (fun q => q) none = some (max (hbc c n W 0) (Wf c n W 0), x) ∧ GP c n W (max (hbc c n W 0) (Wf c n W 0)) x 0 ∧ max (hbc c n W 0) (Wf c n W 0) < 536870912 := by
  have h := fw_main (c := c) (n := n) (W := W) (cost := cWd c n W) hn (fun x h1 h2 h3 => wd_wmx hn h1 h2 h3 n (Nat.le_refl n)) n 0 (fun _ => 0) (fun q => q) none (by omega) (Nat.le_refl _) (fun i j h _ => h) ⟨fun k hk => ⟨hk, Nat.zero_testBit k⟩, fun i hi _ => ⟨i, hi, rfl⟩⟩ (fun q h => absurd h (Nat.not_lt_zero q)) (fun q q' h => absurd h (Nat.not_lt_zero q)) rfl
  obtain ⟨p, hp⟩ := fq_some (A := lwA c 0) (cost := cWd c n W) (n := n) (lwA_lt _ _) hn
  rw [lwA_0] at hp ⊢
  have hb : max (hbc c n W 0) (Wf c n W 0) < 536870912 := by
    rcases Nat.lt_or_ge (max (hbc c n W 0) (Wf c n W 0)) 536870912 with q | q
    · exact q
    · have := h.1 q
      rw [hp] at this
      exact absurd this (by simp)
  obtain ⟨x, h1, _, h3⟩ := h.2 hb
  exact ⟨x, h1, h3, hb⟩
