/-! the class's Code: writes -/
theorem sr_sr {α : Type} {I : Nat → Nat → α} {k : Nat} {f g : Nat → α} : sr (sr I k f) k g = sr I k g := by
  funext j
  by_cases h : j = k
  · subst h; rw [sr_eq, sr_eq]
  · rw [sr_ne h, sr_ne h, sr_ne h]
/-- nothing but the listed cells has changed -/
def Fr {α : Type} (l : List Nat) (I I' : Nat → Nat → α) : Prop := ∀ j, j ∉ l → I' j = I j
theorem Fr.rf {α : Type} {l : List Nat} {I : Nat → Nat → α} : Fr l I I := fun _ _ => rfl
theorem Fr.tr {α : Type} {l : List Nat} {I I1 I2 : Nat → Nat → α} (h1 : Fr l I I1) (h2 : Fr l I1 I2) : Fr l I I2 := fun j hj => (h2 j hj).trans (h1 j hj)
theorem Fr.sub {α : Type} {l l' : List Nat} {I I' : Nat → Nat → α} (h : Fr l I I') (hs : ∀ j ∈ l, j ∈ l') : Fr l' I I' := fun j hj => h j (fun q => hj (hs j q))
theorem Fr.sr {α : Type} {l : List Nat} {I : Nat → Nat → α} {k : Nat} {f : Nat → α} (h : k ∈ l) : Fr l I (sr I k f) := fun j hj => sr_ne (fun e => hj (e ▸ h))
/-- steps with one more behind them -/
def ext (n : Nat) (c : Nat → Nat → Nat) (s : Nat → Nat) : Nat → Nat → Nat := fun i => if i = n then s else c i
def put1 (c : Nat → Nat → Nat) (a w x : Nat) : Nat → Nat → Nat := fun i j => if i = a ∧ j = w then x else c i j
section CO
variable {G : GG} {d : Nat} {sw : Bool} {I : Nat → Nat → Int32} {J : Nat → Nat → Int64}
set_option maxRecDepth 20000 in
theorem c_change0 {Q : Mm → Prop} {k a b n : Nat} {x : Int32} (hk : IsCd k) (hn : I k 1 = nI n) (hn2 : n ≤ 12) (ha : a < n) (hb : b < 4) (hQ : Q (NC, sr I (k + 1) (up (I (k + 1)) (a * 4 + b) x), J, layR sw)) : Y G d zX1_change [vr k, vi (nI a), vi x, vi (nI b)] (NC, I, J, layR sw) 0 0 (qv Q) := by
  obtain ⟨hs, hs', hr, hkn⟩ := hk
  have hr := hr sw
  have hk0 : k < NC := by omega
  refine Y_of rfl rfl (Nat.le_of_ble_eq_true rfl) rfl ?_
  refine X_iload_n dX1_change_0 rfl ?_
  refine X_if_lt (tgt := 32) dX1_change_1 (by decide) (fun h1 => ?_) (fun h1 => ?_)
  · exact absurd h1 (nneg (by omega))
  refine X_iload_n dX1_change_4 rfl ?_
  refine X_aload_n dX1_change_5 rfl ?_
  refine X_getI dX1_change_6 gf_X1_21 (by first | assumption | rfl) (by first | assumption | decide | omega) rfl ?_
  refine X_icmp_ge (tgt := 32) dX1_change_9 (by decide) (fun h9 => ?_) (fun h9 => ?_)
  · rw [hn] at h9
    exact absurd ((nle (by omega) (by omega)).mp h9) (by omega)
  refine X_iload_n dX1_change_12 rfl ?_
  refine X_if_lt (tgt := 32) dX1_change_13 (by decide) (fun h13 => ?_) (fun h13 => ?_)
  · exact absurd h13 (nneg (by omega))
  refine X_iload_n dX1_change_16 rfl ?_
  refine X_iconst (v := nI 3) dX1_change_17 (by decide) ?_
  refine X_icmp_gt (tgt := 32) dX1_change_18 (by decide) (fun h18 => ?_) (fun h18 => ?_)
  · exact absurd ((nlt (by omega) (by omega)).mp h18) (by omega)
  · refine X_aload_n dX1_change_21 rfl ?_
    refine X_getR dX1_change_22 gf_X1_9 (by first | assumption | rfl) (by first | assumption | decide | omega) rfl (by first | assumption | rfl) ?_
    refine X_iload_n dX1_change_25 rfl ?_
    refine X_iconst (v := nI 4) dX1_change_26 (by decide) ?_
    first | refine X_imulN dX1_change_27 ?_ | refine X_imul dX1_change_27 ?_
    refine X_iload_n dX1_change_28 rfl ?_
    first | refine X_iaddN dX1_change_29 ?_ | refine X_iadd dX1_change_29 ?_
    refine X_iload_n dX1_change_30 rfl ?_
    refine X_iast dX1_change_31 (by first | assumption | rfl) (by first | assumption | decide | omega) rfl (by first | decide | omega) (by decide) ?_
    exact X_vret dX1_change_32 rfl ⟨rfl, hQ⟩
theorem idx4 {i j w v : Nat} (hw : w < 4) (hv : v < 4) : i * 4 + w = j * 4 + v ↔ i = j ∧ w = v := by omega
theorem CR_put1 {k n a b x : Nat} {c : Nat → Nat → Nat} (hc : CR I k n c) (ha : a < n) (hb : b < 4) : CR (sr I (k + 1) (up (I (k + 1)) (a * 4 + b) (enc x))) k n (put1 c a b x) := by
  refine ⟨?_, fun i hi w hw => ?_⟩
  · rw [sr_ne (by omega)]; exact hc.1
  · rw [sr_eq]
    unfold put1
    by_cases h : i = a ∧ w = b
    · obtain ⟨rfl, rfl⟩ := h
      rw [up_eq, if_pos ⟨rfl, rfl⟩]
    · rw [up_ne (fun e => h ((idx4 hw hb).mp e)), if_neg h]
      exact hc.2 i hi w hw
/-- change, by steps -/
theorem c_change {Q : Mm → Prop} {k a b n x : Nat} {c : Nat → Nat → Nat} (hk : IsCd k) (hc : CR I k n c) (hn2 : n ≤ 12) (ha : a < n) (hb : b < 4) (hQ : ∀ I', CR I' k n (put1 c a b x) → Fr [k + 1] I I' → Q (NC, I', J, layR sw)) : Y G d zX1_change [vr k, vi (nI a), vi (enc x), vi (nI b)] (NC, I, J, layR sw) 0 0 (qv Q) :=
  c_change0 hk hc.1 hn2 ha hb (hQ _ (CR_put1 hc ha hb) (Fr.sr (by simp)))
set_option maxRecDepth 20000 in
theorem c_rewrite0 {Q : Mm → Prop} {k a n : Nat} {x y w : Int32} (hd : 1 ≤ d) (hk : IsCd k) (hn : I k 1 = nI n) (hn2 : n ≤ 12) (ha : a < n) (hQ : Q (NC, sr I (k + 1) (up (up (up (I (k + 1)) (a * 4 + 1) x) (a * 4 + 2) y) (a * 4 + 3) w), J, layR sw)) : Y G d zX1_rewrite [vr k, vi (nI a), vi x, vi y, vi w] (NC, I, J, layR sw) 0 0 (qv Q) := by
  have hkk := hk
  obtain ⟨hs, hs', hr, hkn⟩ := hkk
  have hk0 : k < NC := by omega
  have hn' : ∀ f, sr I (k + 1) f k 1 = nI n := fun f => by rw [sr_ne (by omega)]; exact hn
  refine Y_of rfl rfl (Nat.le_of_ble_eq_true rfl) rfl ?_
  refine X_aload_n dX1_rewrite_0 rfl ?_
  refine X_iload_n dX1_rewrite_1 rfl ?_
  refine X_iload_n dX1_rewrite_2 rfl ?_
  refine X_iconst (v := nI 1) dX1_rewrite_3 (by decide) ?_
  refine X_cVv dX1_rewrite_4 ck_X1_33 rfl rfl (by first | assumption | rfl) (by first | assumption | decide | omega) (by omega) (Nat.le_of_ble_eq_true rfl) (c_change0 hk hn hn2 ha (by decide) ?_)
  refine X_aload_n dX1_rewrite_7 rfl ?_
  refine X_iload_n dX1_rewrite_8 rfl ?_
  refine X_iload_n dX1_rewrite_9 rfl ?_
  refine X_iconst (v := nI 2) dX1_rewrite_10 (by decide) ?_
  refine X_cVv dX1_rewrite_11 ck_X1_33 rfl rfl (by first | assumption | rfl) (by first | assumption | decide | omega) (by omega) (Nat.le_of_ble_eq_true rfl) (c_change0 hk (hn' _) hn2 ha (by decide) ?_)
  rw [sr_eq, sr_sr]
  refine X_aload_n dX1_rewrite_14 rfl ?_
  refine X_iload_n dX1_rewrite_15 rfl ?_
  refine X_iload dX1_rewrite_16 rfl ?_
  refine X_iconst (v := nI 3) dX1_rewrite_18 (by decide) ?_
  refine X_cVv dX1_rewrite_19 ck_X1_33 rfl rfl (by first | assumption | rfl) (by first | assumption | decide | omega) (by omega) (Nat.le_of_ble_eq_true rfl) (c_change0 hk (hn' _) hn2 ha (by decide) ?_)
  rw [sr_eq, sr_sr]
  exact X_vret dX1_rewrite_22 rfl ⟨rfl, hQ⟩
theorem c_rewrite {Q : Mm → Prop} {k a n x y w : Nat} {c : Nat → Nat → Nat} (hd : 1 ≤ d) (hk : IsCd k) (hc : CR I k n c) (hn2 : n ≤ 12) (ha : a < n) (hQ : ∀ I', CR I' k n (put1 (put1 (put1 c a 1 x) a 2 y) a 3 w) → Fr [k + 1] I I' → Q (NC, I', J, layR sw)) : Y G d zX1_rewrite [vr k, vi (nI a), vi (enc x), vi (enc y), vi (enc w)] (NC, I, J, layR sw) 0 0 (qv Q) := by
  refine c_rewrite0 hd hk hc.1 hn2 ha (hQ _ ?_ (Fr.sr (by simp)))
  have h1 := CR_put1 (x := x) hc ha (b := 1) (by decide)
  have h2 := CR_put1 (x := y) h1 ha (b := 2) (by decide)
  have h3 := CR_put1 (x := w) h2 ha (b := 3) (by decide)
  rw [sr_eq, sr_sr] at h2
  rw [sr_sr, sr_sr, sr_eq, sr_eq] at h3
  exact h3
theorem put4_ext {n : Nat} {c : Nat → Nat → Nat} {s : Nat → Nat} {i w : Nat} (hi : i < n + 1) (hw : w < 4) : put1 (put1 (put1 (put1 c n 0 (s 0)) n 1 (s 1)) n 2 (s 2)) n 3 (s 3) i w = ext n c s i w := by
  unfold put1 ext
  by_cases h : i = n
  · subst h
    rcases (by omega : w = 0 ∨ w = 1 ∨ w = 2 ∨ w = 3) with rfl | rfl | rfl | rfl <;> simp
  · simp [h]
theorem CR.cg {k n : Nat} {c c' : Nat → Nat → Nat} (h : CR I k n c) (he : ∀ i, i < n → ∀ w, w < 4 → c' i w = c i w) : CR I k n c' := ⟨h.1, fun i hi w hw => by rw [he i hi w hw]; exact h.2 i hi w hw⟩
set_option maxRecDepth 20000 in
theorem c_add {Q : Mm → Prop} {k n : Nat} {c : Nat → Nat → Nat} {s : Nat → Nat} (hd : 2 ≤ d) (hk : IsCd k) (hc : CR I k n c) (hn2 : n < 12) (hQ : ∀ I', CR I' k (n + 1) (ext n c s) → Fr [k, k + 1] I I' → Q (NC, I', J, layR sw)) : Y G d zX1_add [vr k, vi (enc (s 0)), vi (enc (s 1)), vi (enc (s 2)), vi (enc (s 3))] (NC, I, J, layR sw) 0 0 (qv Q) := by
  have hkk := hk
  obtain ⟨hs, hs', hr, hkn⟩ := hkk
  have hr := hr sw
  have hk0 : k < NC := by omega
  refine Y_of rfl rfl (Nat.le_of_ble_eq_true rfl) rfl ?_
  refine X_aload_n dX1_add_0 rfl ?_
  refine X_getI dX1_add_1 gf_X1_21 (by first | assumption | rfl) (by first | assumption | decide | omega) rfl ?_
  refine X_bipush (v := nI 12) dX1_add_4 (by decide) ?_
  refine X_icmp_ge (tgt := 45) dX1_add_6 (by decide) (fun h6 => ?_) (fun h6 => ?_)
  · rw [hc.1] at h6
    exact absurd ((nle (by omega) (by omega)).mp h6) (by omega)
  refine X_aload_n dX1_add_9 rfl ?_
  refine X_dup dX1_add_10 rfl ?_
  refine X_getI dX1_add_11 gf_X1_21 (by first | assumption | rfl) (by first | assumption | decide | omega) rfl ?_
  refine X_iconst (v := nI 1) dX1_add_14 (by decide) ?_
  rw [hc.1]
  first | refine X_iaddN dX1_add_15 ?_ | refine X_iadd dX1_add_15 ?_
  refine X_putI dX1_add_16 gf_X1_21 (Or.inl rfl) (by first | assumption | rfl) (by first | assumption | decide | omega) rfl ?_
  refine X_aload_n dX1_add_19 rfl ?_
  refine X_aload_n dX1_add_20 rfl ?_
  refine X_getI dX1_add_21 gf_X1_21 (by first | assumption | rfl) (by first | assumption | decide | omega) rfl ?_
  rw [sr_eq, up_eq]
  refine X_iconst (v := nI 1) dX1_add_24 (by decide) ?_
  first | refine X_isubN dX1_add_25 (by omega) ?_ | refine X_isub dX1_add_25 ?_
  refine X_iload_n dX1_add_26 rfl ?_
  refine X_iconst (v := nI 0) dX1_add_27 (by decide) ?_
  rw [Nat.add_sub_cancel]
  refine X_cVv dX1_add_28 ck_X1_33 rfl rfl (by first | assumption | rfl) (by first | assumption | decide | omega) (by omega) (Nat.le_of_ble_eq_true rfl) (c_change0 (n := n + 1) hk (by rw [sr_eq, up_eq]) (by omega) (by omega) (by decide) ?_)
  refine X_aload_n dX1_add_31 rfl ?_
  refine X_aload_n dX1_add_32 rfl ?_
  refine X_getI dX1_add_33 gf_X1_21 (by first | assumption | rfl) (by first | assumption | decide | omega) rfl ?_
  rw [sr_ne (show k ≠ k + 1 by omega), sr_eq, up_eq]
  refine X_iconst (v := nI 1) dX1_add_36 (by decide) ?_
  first | refine X_isubN dX1_add_37 (by omega) ?_ | refine X_isub dX1_add_37 ?_
  refine X_iload_n dX1_add_38 rfl ?_
  refine X_iload_n dX1_add_39 rfl ?_
  refine X_iload dX1_add_40 rfl ?_
  rw [Nat.add_sub_cancel]
  refine X_cVv dX1_add_42 ck_X1_37 rfl rfl (by first | assumption | rfl) (by first | assumption | decide | omega) (by omega) (Nat.le_of_ble_eq_true rfl) (c_rewrite0 (n := n + 1) (by omega) hk (by rw [sr_ne (show k ≠ k + 1 by omega), sr_eq, up_eq]) (by omega) (by omega) ?_)
  rw [sr_sr, sr_eq, sr_ne (show k + 1 ≠ k by omega)]
  refine X_vret dX1_add_45 rfl ⟨rfl, hQ _ ⟨?_, fun i hi w hw => ?_⟩ ?_⟩
  · rw [sr_ne (show k ≠ k + 1 by omega), sr_eq, up_eq]
  · rw [sr_eq]
    unfold ext
    by_cases h : i = n
    · subst h
      rw [if_pos rfl]
      rcases (by omega : w = 0 ∨ w = 1 ∨ w = 2 ∨ w = 3) with rfl | rfl | rfl | rfl
      · rw [up_ne (by omega), up_ne (by omega), up_ne (by omega), up_eq]
      · rw [up_ne (by omega), up_ne (by omega), up_eq]
      · rw [up_ne (by omega), up_eq]
      · rw [up_eq]
    · rw [if_neg h, up_ne (by omega), up_ne (by omega), up_ne (by omega), up_ne (by omega)]
      exact hc.2 i (by omega) w hw
  · exact (Fr.sr (by simp)).tr (Fr.sr (by simp))
set_option maxRecDepth 20000 in
theorem c_copy0 {Q : Mm → Prop} {k j : Nat} (hd : 2 ≤ d) (hk : IsCd k) (hj : IsCd j) (hjk : j = k ∨ (j ≠ k + 1 ∧ k ≠ j + 1)) (hQ : ∀ I', Fr [k, k + 1] I I' → I' k 1 = I j 1 → (∀ q, q < 48 → I' (k + 1) q = I (j + 1) q) → Q (NC, I', J, layR sw)) : Y G d zX1_copyFrom [vr k, vr j] (NC, I, J, layR sw) 0 0 (qv Q) := by
  obtain ⟨hs, hs', hr, hkn⟩ := hk
  obtain ⟨gs, gs', gr, gkn⟩ := hj
  have hr := hr sw
  have gr := gr sw
  have hk0 : k < NC := by omega
  have hj0 : j < NC := by omega
  refine Y_of rfl rfl (Nat.le_of_ble_eq_true rfl) rfl ?_
  refine X_aload_n dX1_copyFrom_0 rfl ?_
  refine X_getR dX1_copyFrom_1 gf_X1_9 (by first | assumption | rfl) (by first | assumption | decide | omega) rfl (by first | assumption | rfl) ?_
  refine X_iconst (v := nI 0) dX1_copyFrom_4 (by decide) ?_
  refine X_aload_n dX1_copyFrom_5 rfl ?_
  refine X_getR dX1_copyFrom_6 gf_X1_9 (by first | assumption | rfl) (by first | assumption | decide | omega) rfl (by first | assumption | rfl) ?_
  refine X_iconst (v := nI 0) dX1_copyFrom_9 (by decide) ?_
  refine X_aload_n dX1_copyFrom_10 rfl ?_
  refine X_getR dX1_copyFrom_11 gf_X1_9 (by first | assumption | rfl) (by first | assumption | decide | omega) rfl (by first | assumption | rfl) ?_
  first | refine X_alen dX1_copyFrom_14 (by first | assumption | rfl) (by decide) (by first | assumption | decide | omega) ?_ | refine X_alenA dX1_copyFrom_14 ?_ | refine X_alenM dX1_copyFrom_14 ?_ | refine X_slen dX1_copyFrom_14 ?_
  first | refine X_copyI dX1_copyFrom_15 ac_X1_15 ac_2 ac_3 ac_4 (by first | assumption | rfl) (by first | assumption | rfl) (by first | assumption | decide | omega) (by first | assumption | decide | omega) rfl rfl rfl (by omega) (by omega) (by decide) (by decide) (by omega) (Nat.le_of_ble_eq_true rfl) ?_ | refine X_copyL dX1_copyFrom_15 ac_X1_15 ac_2 ac_3 ac_4 (by first | assumption | rfl) (by first | assumption | rfl) (by first | assumption | decide | omega) (by first | assumption | decide | omega) rfl rfl rfl (by omega) (by omega) (by decide) (by decide) (by omega) (Nat.le_of_ble_eq_true rfl) ?_
  refine X_aload_n dX1_copyFrom_18 rfl ?_
  refine X_aload_n dX1_copyFrom_19 rfl ?_
  refine X_getI dX1_copyFrom_20 gf_X1_21 (by first | assumption | rfl) (by first | assumption | decide | omega) rfl ?_
  have e1 : sr I (k + 1) (va_cpy (I (j + 1)) (I (k + 1)) 0 0 48) j 1 = I j 1 := by
    rcases hjk with rfl | h
    · rw [sr_ne (by omega)]
    · rw [sr_ne h.1]
  rw [e1]
  refine X_putI dX1_copyFrom_23 gf_X1_21 (Or.inl rfl) (by first | assumption | rfl) (by first | assumption | decide | omega) rfl ?_
  have e2 : ∀ q, q < 48 → sr (sr I (k + 1) (va_cpy (I (j + 1)) (I (k + 1)) 0 0 48)) k (up (sr I (k + 1) (va_cpy (I (j + 1)) (I (k + 1)) 0 0 48) k) 1 (I j 1)) (k + 1) q = I (j + 1) q := by
    intro q hq
    rw [sr_ne (show k + 1 ≠ k by omega), sr_eq]
    unfold va_cpy
    rw [if_pos (by omega)]
    congr 1
    omega
  refine X_vret dX1_copyFrom_26 rfl ⟨rfl, hQ _ ((Fr.sr (by simp)).tr (Fr.sr (by simp))) ?_ e2⟩
  rw [sr_eq, up_eq]
theorem CR_copy {I' : Nat → Nat → Int32} {k j n : Nat} {c : Nat → Nat → Nat} (hc : CR I j n c) (hn2 : n ≤ 12) (h1 : I' k 1 = I j 1) (h2 : ∀ q, q < 48 → I' (k + 1) q = I (j + 1) q) : CR I' k n c :=
  ⟨h1.trans hc.1, fun i hi w hw => by rw [h2 _ (by omega)]; exact hc.2 i hi w hw⟩
end CO
