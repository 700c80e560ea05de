/-! making the two objects: what each new cell holds -/
abbrev Cz : Type := (Nat → Int32) × (Nat → Int64) × (Nat → Option Nat)
def lfz : List (Option Nat) → Nat → Option Nat
  | [], _ => none
  | a :: _, 0 => a
  | _ :: l, i + 1 => lfz l i
def pu1 : List (Option Nat) → Nat → Option Nat → List (Option Nat)
  | [], 0, x => [x]
  | [], i + 1, x => none :: pu1 [] i x
  | _ :: l, 0, x => x :: l
  | a :: l, i + 1, x => a :: pu1 l i x
theorem lfz_nil : (fun _ => none) = lfz [] := by funext i; rfl
theorem up_lfz : ∀ (l : List (Option Nat)) (i : Nat) (x : Option Nat), up (lfz l) i x = lfz (pu1 l i x) := by
  intro l i
  induction i generalizing l with
  | zero =>
    intro x
    funext j
    cases l <;> cases j <;> simp [up, lfz, pu1]
  | succ i ih =>
    intro x
    funext j
    cases l with
    | nil =>
      cases j with
      | zero => simp [up, lfz, pu1]
      | succ j =>
        have := congrFun (ih [] x) j
        simp only [up, lfz, pu1, Nat.add_right_cancel_iff] at this ⊢
        exact this
    | cons a l =>
      cases j with
      | zero => simp [up, lfz, pu1]
      | succ j =>
        have := congrFun (ih l x) j
        simp only [up, lfz, pu1, Nat.add_right_cancel_iff] at this ⊢
        exact this
theorem lfz_getD : ∀ (l : List (Option Nat)) (i : Nat), lfz l i = l.getD i none := by
  intro l
  induction l with
  | nil => intro i; rfl
  | cons a l ih =>
    intro i
    cases i with
    | zero => rfl
    | succ i => exact ih i
def eqc (I : Nat → Nat → Int32) (J : Nat → Nat → Int64) (R : Nat → Nat → Option Nat) (j : Nat) (c : Cz) : Prop := I j = c.1 ∧ J j = c.2.1 ∧ R j = c.2.2
abbrev cc (u : Nat → Int32) (l : List (Option Nat)) : Cz := (u, fun _ => 0, lfz l)
abbrev oc (l : List (Option Nat)) : Cz := cc (fun _ => 0) l
/-- in the midst of making object k: the cells before it as they were, those behind it as T says -/
def St (k n : Nat) (T : Nat → Cz) (u : Nat → Int32) (l : List (Option Nat)) (I : Nat → Nat → Int32) (J : Nat → Nat → Int64) (R : Nat → Nat → Option Nat) (I' : Nat → Nat → Int32) (J' : Nat → Nat → Int64) (R' : Nat → Nat → Option Nat) : Prop :=
  (∀ j, j < k → eqc I' J' R' j (I j, J j, R j)) ∧ (∀ j, k < j → j < n → eqc I' J' R' j (T j)) ∧ eqc I' J' R' k (cc u l) ∧ k < n
def Good (k m : Nat) (T : Nat → Cz) (I : Nat → Nat → Int32) (J : Nat → Nat → Int64) (R : Nat → Nat → Option Nat) (I' : Nat → Nat → Int32) (J' : Nat → Nat → Int64) (R' : Nat → Nat → Option Nat) : Prop :=
  (∀ j, j < k → eqc I' J' R' j (I j, J j, R j)) ∧ ∀ j, k ≤ j → j < m → eqc I' J' R' j (T j)
section MK
variable {k n m i q a : Nat} {T T' : Nat → Cz} {u : Nat → Int32} {l lq : List (Option Nat)} {I I1 I2 : Nat → Nat → Int32} {J J1 J2 : Nat → Nat → Int64} {R R1 R2 : Nat → Nat → Option Nat}
theorem St_0 (h : eqc I J R k (oc [])) : St k (k + 1) T (fun _ => 0) [] I J R I J R := ⟨fun j hj => ⟨rfl, rfl, rfl⟩, fun j h1 h2 => absurd h1 (by omega), h, Nat.lt_succ_self k⟩
theorem eqc_new : eqc (sr I n (fun _ => 0)) (sr J n (fun _ => 0)) (sr R n (fun _ => none)) n (oc []) := ⟨sr_eq, sr_eq, sr_eq.trans lfz_nil⟩
theorem St_arr (h : St k n T u l I J R I1 J1 R1) (ht : T n = oc []) : St k (n + 1) T u (pu1 l i (some n)) I J R (sr I1 n (fun _ => 0)) (sr J1 n (fun _ => 0)) (sr (sr R1 n (fun _ => none)) k (up (sr R1 n (fun _ => none) k) i (some n))) := by
  obtain ⟨a, b, ⟨c1, c2, c3⟩, hk⟩ := h
  refine ⟨fun j hj => ?_, fun j h1 h2 => ?_, ⟨?_, ?_, ?_⟩, by omega⟩
  · unfold eqc
    rw [sr_ne (by omega), sr_ne (by omega), sr_ne (by omega), sr_ne (by omega)]
    exact a j hj
  · by_cases hj : j = n
    · subst hj
      rw [ht]
      exact ⟨sr_eq, sr_eq, (sr_ne (by omega)).trans (sr_eq.trans lfz_nil)⟩
    · unfold eqc
      rw [sr_ne hj, sr_ne hj, sr_ne (by omega), sr_ne hj]
      exact b j h1 (by omega)
  · rw [sr_ne (by omega)]; exact c1
  · rw [sr_ne (by omega)]; exact c2
  · rw [sr_eq, sr_ne (by omega), c3]; exact up_lfz l i _
theorem St_obj (h : St k n T u l I J R I1 J1 R1) (g : Good n m T (sr I1 n (fun _ => 0)) (sr J1 n (fun _ => 0)) (sr R1 n (fun _ => none)) I2 J2 R2) (hm : n < m) : St k m T u (pu1 l i (some n)) I J R I2 J2 (sr R2 k (up (R2 k) i (some n))) := by
  obtain ⟨a, b, ⟨c1, c2, c3⟩, hk⟩ := h
  obtain ⟨g1, g2⟩ := g
  have e : ∀ j, j < n → eqc I2 J2 R2 j (I1 j, J1 j, R1 j) := fun j hj => by
    have := g1 j hj
    unfold eqc at this ⊢
    rwa [sr_ne (by omega), sr_ne (by omega), sr_ne (by omega)] at this
  refine ⟨fun j hj => ?_, fun j h1 h2 => ?_, ⟨?_, ?_, ?_⟩, by omega⟩
  · obtain ⟨a1, a2, a3⟩ := a j hj
    obtain ⟨e1, e2, e3⟩ := e j (by omega)
    exact ⟨e1.trans a1, e2.trans a2, (sr_ne (by omega)).trans (e3.trans a3)⟩
  · by_cases hj : j < n
    · obtain ⟨b1, b2, b3⟩ := b j h1 hj
      obtain ⟨e1, e2, e3⟩ := e j hj
      exact ⟨e1.trans b1, e2.trans b2, (sr_ne (by omega)).trans (e3.trans b3)⟩
    · obtain ⟨b1, b2, b3⟩ := g2 j (by omega) h2
      exact ⟨b1, b2, (sr_ne (by omega)).trans b3⟩
  · exact (e k hk).1.trans c1
  · exact (e k hk).2.1.trans c2
  · rw [sr_eq, (e k hk).2.2, c3]; exact up_lfz l i _
/-- an object put into a row -/
theorem St_row (h : St k n T u l I J R I1 J1 R1) (hq : k < q ∧ q < n) (ht : T q = oc lq) (g : Good n m T (sr I1 n (fun _ => 0)) (sr J1 n (fun _ => 0)) (sr R1 n (fun _ => none)) I2 J2 R2) (hm : n < m) : St k m (up T q (oc (pu1 lq i (some n)))) u l I J R I2 J2 (sr R2 q (up (R2 q) i (some n))) := by
  obtain ⟨a, b, ⟨c1, c2, c3⟩, hk⟩ := h
  obtain ⟨g1, g2⟩ := g
  have e : ∀ j, j < n → eqc I2 J2 R2 j (I1 j, J1 j, R1 j) := fun j hj => by
    have := g1 j hj
    unfold eqc at this ⊢
    rwa [sr_ne (by omega), sr_ne (by omega), sr_ne (by omega)] at this
  refine ⟨fun j hj => ?_, fun j h1 h2 => ?_, ⟨?_, ?_, ?_⟩, by omega⟩
  · obtain ⟨a1, a2, a3⟩ := a j hj
    obtain ⟨e1, e2, e3⟩ := e j (by omega)
    exact ⟨e1.trans a1, e2.trans a2, (sr_ne (by omega)).trans (e3.trans a3)⟩
  · by_cases hj : j < n
    · obtain ⟨b1, b2, b3⟩ := b j h1 hj
      obtain ⟨e1, e2, e3⟩ := e j hj
      by_cases hjq : j = q
      · subst hjq
        rw [up_eq]
        rw [ht] at b1 b2 b3
        exact ⟨e1.trans b1, e2.trans b2, by rw [sr_eq, e3, b3]; exact up_lfz lq i _⟩
      · rw [up_ne hjq]
        exact ⟨e1.trans b1, e2.trans b2, (sr_ne hjq).trans (e3.trans b3)⟩
    · obtain ⟨b1, b2, b3⟩ := g2 j (by omega) h2
      rw [up_ne (by omega)]
      exact ⟨b1, b2, (sr_ne (by omega)).trans b3⟩
  · exact (e k hk).1.trans c1
  · exact (e k hk).2.1.trans c2
  · rw [sr_ne (by omega), (e k hk).2.2, c3]
theorem St_int {x : Int32} (h : St k n T u l I J R I1 J1 R1) : St k n T (up u i x) l I J R (sr I1 k (up (I1 k) i x)) J1 R1 := by
  obtain ⟨a, b, ⟨c1, c2, c3⟩, hk⟩ := h
  refine ⟨fun j hj => ?_, fun j h1 h2 => ?_, ⟨?_, c2, c3⟩, hk⟩
  · unfold eqc
    rw [sr_ne (by omega)]
    exact a j hj
  · unfold eqc
    rw [sr_ne (by omega)]
    exact b j h1 h2
  · rw [sr_eq, c1]
/-- a row of ints behind k is set -/
theorem St_ints {f : Nat → Int32} (h : St k n T u l I J R I1 J1 R1) (hq : k < q ∧ q < n) (hI : ∀ j, j ≠ q → I2 j = I1 j) (hf : I2 q = f) : St k n (up T q (f, (T q).2.1, (T q).2.2)) u l I J R I2 J1 R1 := by
  obtain ⟨a, b, ⟨c1, c2, c3⟩, hk⟩ := h
  refine ⟨fun j hj => ?_, fun j h1 h2 => ?_, ⟨(hI k (by omega)).trans c1, c2, c3⟩, hk⟩
  · exact ⟨(hI j (by omega)).trans (a j hj).1, (a j hj).2⟩
  · by_cases hj : j = q
    · subst hj
      rw [up_eq]
      exact ⟨hf, (b j h1 h2).2⟩
    · rw [up_ne hj]
      exact ⟨(hI j hj).trans (b j h1 h2).1, (b j h1 h2).2⟩
theorem St_longs {f : Nat → Int64} (h : St k n T u l I J R I1 J1 R1) (hq : k < q ∧ q < n) (hI : ∀ j, j ≠ q → J2 j = J1 j) (hf : J2 q = f) : St k n (up T q ((T q).1, f, (T q).2.2)) u l I J R I1 J2 R1 := by
  obtain ⟨a, b, ⟨c1, c2, c3⟩, hk⟩ := h
  refine ⟨fun j hj => ?_, fun j h1 h2 => ?_, ⟨c1, (hI k (by omega)).trans c2, c3⟩, hk⟩
  · exact ⟨(a j hj).1, (hI j (by omega)).trans (a j hj).2.1, (a j hj).2.2⟩
  · by_cases hj : j = q
    · subst hj
      rw [up_eq]
      exact ⟨(b j h1 h2).1, hf, (b j h1 h2).2.2⟩
    · rw [up_ne hj]
      exact ⟨(b j h1 h2).1, (hI j hj).trans (b j h1 h2).2.1, (b j h1 h2).2.2⟩
theorem St_end (h : St k n T u l I J R I1 J1 R1) (ht : ∀ j, k < j → j < n → T j = T' j) (h0 : T' k = cc u l) : Good k n T' I J R I1 J1 R1 := by
  obtain ⟨a, b, c, hk⟩ := h
  refine ⟨a, fun j h1 h2 => ?_⟩
  by_cases hj : j = k
  · subst hj
    rw [h0]
    exact c
  · rw [← ht j (by omega) h2]
    exact b j (by omega) h2
theorem St_at (h : St k n T u l I J R I1 J1 R1) (hq : k < q ∧ q < n) : eqc I1 J1 R1 q (T q) := h.2.1 q hq.1 hq.2
theorem St_me {c : Option Nat} (h : St k n T u l I J R I1 J1 R1) (hc : lfz l i = c) : R1 k i = c := by rw [h.2.2.1.2.2]; exact hc
theorem X_abs {G : GG} {d : Nat} {z : ZZ} {pc : Nat} {lv : List (Nat × AV)} {st : List AV} {rc rs : Nat} {Q : Option AV → Mm → Prop} {P : (Nat → Nat → Int32) → (Nat → Nat → Int64) → (Nat → Nat → Option Nat) → Prop} (hn : n = m) (hp : P I J R) (h : ∀ I' J' R', P I' J' R' → X G d z pc lv st (m, I', J', R') rc rs Q) : X G d z pc lv st (n, I, J, R) rc rs Q := by
  subst hn
  exact h _ _ _ hp
theorem X_mem {G : GG} {d : Nat} {z : ZZ} {pc : Nat} {lv : List (Nat × AV)} {st : List AV} {rc rs : Nat} {Q : Option AV → Mm → Prop} (he : ∀ j, j < n → I1 j = I j ∧ J1 j = J j ∧ R1 j = R j) (h : X G d z pc lv st (n, I, J, R) rc rs Q) : X G d z pc lv st (n, I1, J1, R1) rc rs Q := by
  intro p e s m args below meth c H locs ls cells slots hC hH hl
  have hw : wsG G (n, I1, J1, R1) = wsG G (n, I, J, R) := by
    unfold wsG
    refine List.map_congr_left (fun j hj => ?_)
    have hj' : j < n := List.mem_range.mp hj
    rw [cel_congr (M := (n, I, J, R)) (M' := (n, I1, J1, R1)) (he j hj').1 (he j hj').2.1 (he j hj').2.2]
  have hH' : HX G (n, I, J, R) s H locs cells := by
    unfold HX at hH ⊢
    rw [← hw]
    exact hH
  exact h p e s m args below meth c H locs ls cells slots hC hH' hl
end MK
section MF
variable {G : GG} {d n : Nat} {I : Nat → Nat → Int32} {J : Nat → Nat → Int64} {R : Nat → Nat → Option Nat}
def filF (f : Nat → Int32) (i : Nat) (x : Int32) : Nat → Int32 := fun j => if j < i then x else f j
set_option maxRecDepth 20000 in
theorem c_fillG {Q : Mm → Prop} {k N : Nat} {x : Int32} (hs : sh k = (13, N)) (hN : N < 5000) (hk : k < n) (hQ : ∀ I', (∀ j, j ≠ k → I' j = I j) → I' k = filF (I k) N x → Q (n, I', J, R)) : Y G d zJ7_fill_53178 [vr k, vi x] (n, I, J, R) 0 0 (qv Q) := by
  refine Y_ofF (by decide +kernel) rfl (Nat.le_of_ble_eq_true rfl) rfl ?_
  refine X_iconst (v := nI 0) dJ7_fill_53178_0 (by decide) ?_
  refine X_istore_n dJ7_fill_53178_1 rfl rfl ?_
  refine X_aload_n dJ7_fill_53178_2 rfl ?_
  first | refine X_alen dJ7_fill_53178_3 (by first | assumption | rfl) (by decide) (by first | assumption | exact Nat.le_of_ble_eq_true rfl | omega) ?_ | refine X_alenA dJ7_fill_53178_3 ?_ | refine X_alenM dJ7_fill_53178_3 ?_ | refine X_slen dJ7_fill_53178_3 ?_
  refine X_istore_n dJ7_fill_53178_4 rfl rfl ?_
  have loop : ∀ (m i : Nat) (I' : Nat → Nat → Int32), m = N - i → i ≤ N → (∀ j, j ≠ k → I' j = I j) → I' k = filF (I k) i x → X G d zJ7_fill_53178 5 [(0, vr k), (1, vi x), (2, vi (nI i)), (3, vi (nI N))] [] (n, I', J, R) 0 0 (qv Q) := by
    intro m
    induction m with
    | zero =>
      intro i I' hm him hF hj
      obtain rfl : i = N := by omega
      refine X_iload_n dJ7_fill_53178_5 rfl ?_
      refine X_iload_n dJ7_fill_53178_6 rfl ?_
      refine X_icmp_ge (tgt := 20) dJ7_fill_53178_7 (by decide) (fun b => ?_) (fun b => ?_)
      · exact X_vret dJ7_fill_53178_20 rfl ⟨rfl, hQ I' hF hj⟩
      · exact absurd (Int32.le_refl _) b
    | succ m ih =>
      intro i I' hm him hF hj
      refine X_iload_n dJ7_fill_53178_5 rfl ?_
      refine X_iload_n dJ7_fill_53178_6 rfl ?_
      refine X_icmp_ge (tgt := 20) dJ7_fill_53178_7 (by decide) (fun b => ?_) (fun b => ?_)
      · exact absurd ((nle (by omega) (by omega)).mp b) (by omega)
      refine X_aload_n dJ7_fill_53178_10 rfl ?_
      refine X_iload_n dJ7_fill_53178_11 rfl ?_
      refine X_iload_n dJ7_fill_53178_12 rfl ?_
      refine X_iast dJ7_fill_53178_13 hs hk rfl (by omega) (by omega) ?_
      first | refine X_iinc1 dJ7_fill_53178_14 rfl rfl rfl ?_ | refine X_iinc dJ7_fill_53178_14 rfl rfl rfl rfl ?_
      refine X_goto (tgt := 5) dJ7_fill_53178_17 (by decide) ?_
      refine ih (i + 1) _ (by omega) (by omega) (fun j h => (sr_ne h).trans (hF j h)) ?_
      rw [sr_eq, hj]
      funext j
      unfold up filF
      by_cases hji : j = i
      · rw [if_pos hji, if_pos (by omega)]
      · rw [if_neg hji]
        by_cases h2 : j < i
        · rw [if_pos h2, if_pos (by omega)]
        · rw [if_neg h2, if_neg (by omega)]
  exact loop N 0 I rfl (Nat.zero_le N) (fun _ _ => rfl) (by funext j; exact (if_neg (Nat.not_lt_zero j)).symm)
end MF
