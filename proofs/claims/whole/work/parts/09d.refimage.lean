/-! the reference's images -/
/-- what the live rows hold, by the places of an image -/
def LvT (I : Nat → Nat → Int32) (T : Nat → Int32) : Prop := (I 170 9 = T 0 ∧ I 170 11 = T 1 ∧ I 170 12 = T 2 ∧ I 170 13 = T 3 ∧ I 170 39 = T 4) ∧ (∀ q, q < 4 → I 177 q = T (5 + 3 * q) ∧ I 198 q = T (6 + 3 * q) ∧ I 199 q = T (7 + 3 * q)) ∧ (∀ q, q < 12 → I 172 q = T (17 + 4 * q + 0) ∧ I 173 q = T (17 + 4 * q + 1) ∧ I 174 q = T (17 + 4 * q + 2) ∧ I 175 q = T (17 + 4 * q + 3)) ∧ (∀ q, q < 48 → I 176 q = T (65 + q)) ∧ ∀ q, q < 96 → I 197 q = T (113 + q)
theorem rim_of {I : Nat → Nat → Int32} {K T : Nat → Int32} {b : Nat} {D : DD} (hv : VD D) (hL : LvT I T) (hK : ∀ q, q < 209 → K (b + q) = T q) (h : rd I D) : rim K b D := by
  obtain ⟨⟨l0, l1, l2, l3, l4⟩, m1, m2, m3, m4⟩ := hL
  obtain ⟨a1, a2, a3, a4, a5, a6, a7, a8, a9⟩ := h
  obtain ⟨⟨v1, _⟩, ⟨v2, _⟩, _, _, v5, v6⟩ := hv
  refine ⟨by rw [← a1, l0]; exact hK 0 (by decide), by rw [← a3, l1]; exact hK 1 (by decide), by rw [← a5, l2]; exact hK 2 (by decide), by rw [← a6, l3]; exact hK 3 (by decide), by rw [← a8, l4]; exact hK 4 (by decide), fun j hj => ?_, fun j hj => ⟨?_, ?_⟩, fun i hi w hw => ?_, fun i hi w hw => ?_, fun j hj => ⟨fun i hi w hw => ?_, fun i hi w hw => ?_⟩⟩
  · rw [hK _ (by omega), ← a7 j hj, (m1 j hj).1]
  · rw [hK _ (by omega), ← (a9 j hj).1, (m1 j (by omega)).2.1]
  · rw [hK _ (by omega), ← (a9 j hj).2.1, (m1 j (by omega)).2.2]
  · rw [hK _ (by omega)]
    rcases (by omega : w = 0 ∨ w = 1 ∨ w = 2 ∨ w = 3) with rfl | rfl | rfl | rfl
    · rw [← (a2 i hi).1, (m2 i (by omega)).1]
    · rw [← (a2 i hi).2.1, (m2 i (by omega)).2.1]
    · rw [← (a2 i hi).2.2.1, (m2 i (by omega)).2.2.1]
    · rw [← (a2 i hi).2.2.2, (m2 i (by omega)).2.2.2]
  · rw [hK _ (by omega), ← a4 i hi w hw, m3 _ (by omega)]
  · have := (v6 j hj).1.2.1
    rw [hK _ (by omega), ← (a9 j hj).2.2.1 i hi w hw, m4 _ (by omega)]
  · have := (v6 j hj).2.1
    rw [hK _ (by omega), ← (a9 j hj).2.2.2 i hi w hw, m4 _ (by omega)]
theorem rd_of {I : Nat → Nat → Int32} {K T : Nat → Int32} {b : Nat} {D : DD} (hv : VD D) (hL : LvT I T) (hK : ∀ q, q < 209 → K (b + q) = T q) (h : rim K b D) : rd I D := by
  obtain ⟨⟨l0, l1, l2, l3, l4⟩, m1, m2, m3, m4⟩ := hL
  obtain ⟨a1, a2, a3, a4, a5, a6, a7, a8, a9, a10⟩ := h
  obtain ⟨⟨v1, _⟩, ⟨v2, _⟩, _, _, v5, v6⟩ := hv
  refine ⟨by rw [l0, ← hK 0 (by decide)]; exact a1, fun i hi => ⟨?_, ?_, ?_, ?_⟩, by rw [l1, ← hK 1 (by decide)]; exact a2, fun i hi w hw => ?_, by rw [l2, ← hK 2 (by decide)]; exact a3, by rw [l3, ← hK 3 (by decide)]; exact a4, fun j hj => ?_, by rw [l4, ← hK 4 (by decide)]; exact a5, fun j hj => ⟨?_, ?_, fun i hi w hw => ?_, fun i hi w hw => ?_⟩⟩
  · rw [(m2 i (by omega)).1, ← hK _ (by omega)]; exact a8 i hi 0 (by decide)
  · rw [(m2 i (by omega)).2.1, ← hK _ (by omega)]; exact a8 i hi 1 (by decide)
  · rw [(m2 i (by omega)).2.2.1, ← hK _ (by omega)]; exact a8 i hi 2 (by decide)
  · rw [(m2 i (by omega)).2.2.2, ← hK _ (by omega)]; exact a8 i hi 3 (by decide)
  · rw [m3 _ (by omega), ← hK _ (by omega)]; exact a9 i hi w hw
  · rw [(m1 j hj).1, ← hK _ (by omega)]; exact a6 j hj
  · rw [(m1 j (by omega)).2.1, ← hK _ (by omega)]; exact (a7 j hj).1
  · rw [(m1 j (by omega)).2.2, ← hK _ (by omega)]; exact (a7 j hj).2
  · have := (v6 j hj).1.2.1
    rw [m4 _ (by omega), ← hK _ (by omega)]; exact (a10 j hj).1 i hi w hw
  · have := (v6 j hj).2.1
    rw [m4 _ (by omega), ← hK _ (by omega)]; exact (a10 j hj).2 i hi w hw
section RI
variable {G : GG} {d : Nat} {sw : Bool} {I : Nat → Nat → Int32} {J : Nat → Nat → Int64} {s : SS}
/-- the state of passing: p places are through -/
def PS (I I1 : Nat → Nat → Int32) (T : Nat → Int32) (b p : Nat) : Prop := I1 170 46 = nI (b + p) ∧ I1 170 47 = I 170 47 ∧ I1 170 1 = I 170 1 ∧ (∀ q, q < p → I1 204 (b + q) = T q) ∧ (∀ q, (q < b ∨ b + p ≤ q) → I1 204 q = I 204 q) ∧ I1 205 = I 205 ∧ I1 171 = I 171 ∧ ∀ k, k < 170 → I1 k = I k
theorem PS_K {I1 : Nat → Nat → Int32} {T : Nat → Int32} {b p : Nat} (h : PS I I1 T b p) : PS I (sr (sr I1 204 (up (I1 204) (b + p) (T p))) 170 (up (I1 170) 46 (nI (b + p + 1)))) T b (p + 1) := by
  obtain ⟨h1, h2, h3, h4, h5, h6, h7, h8⟩ := h
  refine ⟨by rw [sr_eq, up_eq]; rfl, by rw [sr_eq, up_ne (by decide)]; exact h2, by rw [sr_eq, up_ne (by decide)]; exact h3, fun q hq => ?_, fun q hq => ?_, by rw [sr_ne (by decide), sr_ne (by decide)]; exact h6, by rw [sr_ne (by decide), sr_ne (by decide)]; exact h7, fun k hk => by rw [sr_ne (by omega), sr_ne (by omega)]; exact h8 k hk⟩
  · rw [sr_ne (by decide), sr_eq]
    by_cases hqp : q = p
    · subst hqp; rw [up_eq]
    · rw [up_ne (by omega)]; exact h4 q (by omega)
  · rw [sr_ne (by decide), sr_eq, up_ne (by omega)]
    exact h5 q (by omega)
theorem PS_sr {I1 : Nat → Nat → Int32} {T : Nat → Int32} {b p k : Nat} {f : Nat → Int32} (h : PS I I1 T b p) (hk : 172 ≤ k ∧ k < 200) : PS I (sr I1 k f) T b p := by
  obtain ⟨h1, h2, h3, h4, h5, h6, h7, h8⟩ := h
  refine ⟨by rw [sr_ne (by omega)]; exact h1, by rw [sr_ne (by omega)]; exact h2, by rw [sr_ne (by omega)]; exact h3, fun q hq => by rw [sr_ne (by omega)]; exact h4 q hq, fun q hq => by rw [sr_ne (by omega)]; exact h5 q hq, by rw [sr_ne (by omega)]; exact h6, by rw [sr_ne (by omega)]; exact h7, fun j hj => by rw [sr_ne (by omega)]; exact h8 j hj⟩
theorem PS_fd {I1 : Nat → Nat → Int32} {T : Nat → Int32} {b p f : Nat} {x : Int32} (h : PS I I1 T b p) (hf : f ≠ 46 ∧ f ≠ 47 ∧ f ≠ 1) : PS I (sr I1 170 (up (I1 170) f x)) T b p := by
  obtain ⟨h1, h2, h3, h4, h5, h6, h7, h8⟩ := h
  refine ⟨by rw [sr_eq, up_ne (by omega)]; exact h1, by rw [sr_eq, up_ne (by omega)]; exact h2, by rw [sr_eq, up_ne (by omega)]; exact h3, fun q hq => by rw [sr_ne (by decide)]; exact h4 q hq, fun q hq => by rw [sr_ne (by decide)]; exact h5 q hq, by rw [sr_ne (by decide)]; exact h6, by rw [sr_ne (by decide)]; exact h7, fun j hj => by rw [sr_ne (by omega)]; exact h8 j hj⟩
/-- the mode: writing, or reading -/
def Md (I : Nat → Nat → Int32) (T : Nat → Int32) (b : Nat) (wr : Bool) : Prop := if wr = true then I 170 47 = nI 1 ∧ LvT I T else I 170 47 = nI 0 ∧ ∀ q, q < 209 → I 204 (b + q) = T q
set_option maxRecDepth 20000 in
theorem c_pass {Q : Int32 → Mm → Prop} {I1 : Nat → Nat → Int32} {T : Nat → Int32} {b p : Nat} {wr : Bool} {v : Int32} (hm : Md I T b wr) (hp : p < 209) (hb : b ≤ 300) (hs : PS I I1 T b p) (hval : wr = true → v = T p)
    (hQ : Q (T p) (NC, sr (sr I1 204 (up (I1 204) (b + p) (T p))) 170 (up (I1 170) 46 (nI (b + p + 1))), J, layR sw)) : Y G d zX12_pass [vr 170, vi v] (NC, I1, J, layR sw) 0 0 (qi Q) := by
  obtain ⟨h1, h2, h3, h4, h5, h6, h7, h8⟩ := hs
  have tail : X G d zX12_pass 20 [(0, vr 170), (1, vi v)] [vi (T p)] (NC, I1, J, layR sw) 0 0 (qi Q) := by
    refine X_istore_n dX12_pass_20 rfl rfl ?_
    refine X_aload_n dX12_pass_21 rfl ?_
    refine X_getR dX12_pass_22 gf_X12_110 (by first | assumption | rfl) (by first | assumption | exact Nat.le_of_ble_eq_true rfl | omega) rfl (by first | assumption | rfl) ?_
    refine X_aload_n dX12_pass_25 rfl ?_
    refine X_getI dX12_pass_26 gf_X12_419 (by first | assumption | rfl) (by first | assumption | exact Nat.le_of_ble_eq_true rfl | omega) rfl ?_
    rw [h1]
    refine X_iload_n dX12_pass_29 rfl ?_
    refine X_iast dX12_pass_30 (by first | assumption | rfl) (by first | assumption | exact Nat.le_of_ble_eq_true rfl | omega) rfl (by first | decide | omega) (by decide) ?_
    refine X_aload_n dX12_pass_31 rfl ?_
    refine X_dup dX12_pass_32 rfl ?_
    refine X_getI dX12_pass_33 gf_X12_419 (by first | assumption | rfl) (by first | assumption | exact Nat.le_of_ble_eq_true rfl | omega) rfl ?_
    rw [sr_ne (show 170 ≠ 204 by decide), h1]
    refine X_iconst (v := nI 1) dX12_pass_36 (by decide) ?_
    first | refine X_iaddN dX12_pass_37 ?_ | refine X_iadd dX12_pass_37 ?_
    refine X_putI dX12_pass_38 gf_X12_419 (Or.inl rfl) (by first | assumption | rfl) (by first | assumption | exact Nat.le_of_ble_eq_true rfl | omega) rfl ?_
    refine X_iload_n dX12_pass_41 rfl ?_
    rw [sr_ne (show 170 ≠ 204 by decide)]
    exact X_iret dX12_pass_42 rfl ⟨_, rfl, hQ⟩
  refine Y_of rfl rfl (Nat.le_of_ble_eq_true rfl) rfl ?_
  refine X_aload_n dX12_pass_0 rfl ?_
  refine X_getI dX12_pass_1 gf_X12_416 (by first | assumption | rfl) (by first | assumption | exact Nat.le_of_ble_eq_true rfl | omega) rfl ?_
  cases wr with
  | true =>
    unfold Md at hm
    rw [if_pos rfl] at hm
    rw [h2, hm.1]
    refine X_if_eq (tgt := 11) dX12_pass_4 (by decide) (fun h => ?_) (fun h => ?_)
    · exact absurd h (by decide)
    refine X_iload_n dX12_pass_7 rfl ?_
    refine X_goto (tgt := 20) dX12_pass_8 (by decide) ?_
    rw [hval rfl]
    rw [hval rfl] at tail
    exact tail
  | false =>
    unfold Md at hm
    rw [if_neg (by decide)] at hm
    rw [h2, hm.1]
    refine X_if_eq (tgt := 11) dX12_pass_4 (by decide) (fun h => ?_) (fun h => ?_)
    · refine X_aload_n dX12_pass_11 rfl ?_
      refine X_getR dX12_pass_12 gf_X12_110 (by first | assumption | rfl) (by first | assumption | exact Nat.le_of_ble_eq_true rfl | omega) rfl (by first | assumption | rfl) ?_
      refine X_aload_n dX12_pass_15 rfl ?_
      refine X_getI dX12_pass_16 gf_X12_419 (by first | assumption | rfl) (by first | assumption | exact Nat.le_of_ble_eq_true rfl | omega) rfl ?_
      rw [h1]
      first | refine X_iald dX12_pass_19 (by first | assumption | rfl) (by first | assumption | exact Nat.le_of_ble_eq_true rfl | omega) rfl (by first | decide | omega) (by decide) ?_ | refine X_ildA dX12_pass_19 rfl (by omega) ?_ | refine X_ildM dX12_pass_19 rfl (by omega) ?_ | refine X_sld dX12_pass_19 rfl (by omega) (by omega) ?_
      rw [h5 _ (by omega), hm.2 p hp]
      exact tail
    · exact absurd rfl h
/-- what the live rows hold while passing: the first ones T, the others as they were -/
theorem T_wr {T : Nat → Int32} {b : Nat} (hm : Md I T b true) : LvT I T := by
  unfold Md at hm
  rw [if_pos rfl] at hm
  exact hm.2
end RI
