/-! the loop, and what is owed -/
section LE
variable {G : GG} {I : Nat → Nat → Int32} {J : Nat → Nat → Int64} {sw : Bool} {s : SS} {i : Nat}
theorem and63 (y : Int32) : ∃ a, a < 64 ∧ y &&& nI 63 = nI a := by
  refine ⟨(y &&& nI 63).toBitVec.toNat, ?_, ?_⟩
  · show (y.toBitVec &&& BitVec.ofNat 32 63).toNat < 64
    rw [BitVec.toNat_and]
    exact Nat.lt_of_le_of_lt Nat.and_le_right (by decide)
  · apply Int32.toBitVec_inj.1
    show (y &&& nI 63).toBitVec = BitVec.ofNat 32 (y &&& nI 63).toBitVec.toNat
    simp
theorem gt3 {L i : Nat} (hL : L ≤ 1536) (hi : i ≤ 1536) : nI L - nI 3 < nI i ↔ L < i + 3 := by
  rw [Int32.lt_iff_toInt_lt, pk_sub_toInt (by omega) (by decide), nI_toInt (by omega)]
  omega
set_option maxRecDepth 20000 in
theorem law_head (hB : gL G ≤ 1536) (hi : i ≤ 1536) (hL : gL G < i + 3) : X G 1300 zL_law 18 [(0, vr 1000), (1, vr 0), (2, vr 170), (3, vi (nI i))] [] (NC, I, J, layR sw) 0 0 LWQ := by
  refine X_iload_n dL_law_18 rfl ?_
  refine X_aload_n dL_law_19 rfl ?_
  refine X_slen dL_law_20 ?_
  refine X_iconst (v := nI 3) dL_law_21 (by decide) ?_
  refine X_isub dL_law_22 ?_
  refine X_icmp_gt (tgt := 976) dL_law_23 (by decide) (fun b => ?_) (fun b => ?_)
  · refine X_iconst (v := nI 1) dL_law_976 (by decide) ?_
    exact X_zret dL_law_977 rfl (by decide) rfl
  · exact absurd ((gt3 hB hi).mpr hL) b
set_option maxRecDepth 20000 in
theorem law_body (hn : NX G i) (hB : gL G ≤ 1536) (hL : i + 3 ≤ gL G) (hl : LI s I J) : X G 1300 zL_law 18 [(0, vr 1000), (1, vr 0), (2, vr 170), (3, vi (nI i))] [] (NC, I, J, layR sw) 0 0 LWQ := by
  refine X_iload_n dL_law_18 rfl ?_
  refine X_aload_n dL_law_19 rfl ?_
  refine X_slen dL_law_20 ?_
  refine X_iconst (v := nI 3) dL_law_21 (by decide) ?_
  refine X_isub dL_law_22 ?_
  refine X_icmp_gt (tgt := 976) dL_law_23 (by decide) (fun b => ?_) (fun b => ?_)
  · exact absurd ((gt3 hB (by omega)).mp b) (by omega)
  refine X_aload_n dL_law_26 rfl ?_
  refine X_iload_n dL_law_27 rfl ?_
  refine X_sld dL_law_28 rfl (by omega) (by omega) ?_
  refine X_bipush (v := nI 63) dL_law_29 (by decide) ?_
  refine X_iand dL_law_31 ?_
  obtain ⟨a, ha, e⟩ := and63 (gX G i)
  rw [e]
  by_cases h36 : 36 ≤ a
  · refine X_tableOut (tgt := 970) dL_law_32 (Or.inr (by rw [nI_toInt (by omega)]; omega)) (by decide) ?_
    exact hn _ _ _ _ hl
  rcases (by omega : a = 0 ∨ a = 1 ∨ a = 2 ∨ a = 3 ∨ a = 4 ∨ a = 5 ∨ a = 6 ∨ a = 7 ∨ a = 8 ∨ a = 9 ∨ a = 10 ∨ a = 11 ∨ a = 12 ∨ a = 13 ∨ a = 14 ∨ a = 15 ∨ a = 16 ∨ a = 17 ∨ a = 18 ∨ a = 19 ∨ a = 20 ∨ a = 21 ∨ a = 22 ∨ a = 23 ∨ a = 24 ∨ a = 25 ∨ a = 26 ∨ a = 27 ∨ a = 28 ∨ a = 29 ∨ a = 30 ∨ a = 31 ∨ a = 32 ∨ a = 33 ∨ a = 34 ∨ a = 35) with rfl | rfl | rfl | rfl | rfl | rfl | rfl | rfl | rfl | rfl | rfl | rfl | rfl | rfl | rfl | rfl | rfl | rfl | rfl | rfl | rfl | rfl | rfl | rfl | rfl | rfl | rfl | rfl | rfl | rfl | rfl | rfl | rfl | rfl | rfl | rfl
  · refine X_tableIn (off := 160) (tgt := 192) dL_law_32 (by decide) (by decide) (by decide) (by decide) (law_0 hn hL hB hl)
  · refine X_tableIn (off := 183) (tgt := 215) dL_law_32 (by decide) (by decide) (by decide) (by decide) (law_1 hn hL hB hl)
  · refine X_tableIn (off := 196) (tgt := 228) dL_law_32 (by decide) (by decide) (by decide) (by decide) (law_2 hn hL hB hl)
  · refine X_tableIn (off := 219) (tgt := 251) dL_law_32 (by decide) (by decide) (by decide) (by decide) (law_3 hn hL hB hl)
  · refine X_tableIn (off := 232) (tgt := 264) dL_law_32 (by decide) (by decide) (by decide) (by decide) (law_4 hn hL hB hl)
  · refine X_tableIn (off := 255) (tgt := 287) dL_law_32 (by decide) (by decide) (by decide) (by decide) (law_5 hn hL hB hl)
  · refine X_tableIn (off := 288) (tgt := 320) dL_law_32 (by decide) (by decide) (by decide) (by decide) (law_6 hn hL hB hl)
  · refine X_tableIn (off := 321) (tgt := 353) dL_law_32 (by decide) (by decide) (by decide) (by decide) (law_7 hn hL hB hl)
  · refine X_tableIn (off := 334) (tgt := 366) dL_law_32 (by decide) (by decide) (by decide) (by decide) (law_8 hn hL hB hl)
  · refine X_tableIn (off := 347) (tgt := 379) dL_law_32 (by decide) (by decide) (by decide) (by decide) (law_9 hn hL hB hl)
  · refine X_tableIn (off := 370) (tgt := 402) dL_law_32 (by decide) (by decide) (by decide) (by decide) (law_10 hn hL hB hl)
  · refine X_tableIn (off := 393) (tgt := 425) dL_law_32 (by decide) (by decide) (by decide) (by decide) (law_11 hn hL hB hl)
  · refine X_tableIn (off := 426) (tgt := 458) dL_law_32 (by decide) (by decide) (by decide) (by decide) (law_12 hn hL hB hl)
  · refine X_tableIn (off := 459) (tgt := 491) dL_law_32 (by decide) (by decide) (by decide) (by decide) (law_13 hn hL hB hl)
  · refine X_tableIn (off := 482) (tgt := 514) dL_law_32 (by decide) (by decide) (by decide) (by decide) (law_14 hn hL hB hl)
  · refine X_tableIn (off := 495) (tgt := 527) dL_law_32 (by decide) (by decide) (by decide) (by decide) (law_15 hn hL hB hl)
  · refine X_tableIn (off := 518) (tgt := 550) dL_law_32 (by decide) (by decide) (by decide) (by decide) (law_16 hn hL hB hl)
  · refine X_tableIn (off := 531) (tgt := 563) dL_law_32 (by decide) (by decide) (by decide) (by decide) (law_17 hn hL hB hl)
  · refine X_tableIn (off := 564) (tgt := 596) dL_law_32 (by decide) (by decide) (by decide) (by decide) (law_18 hn hL hB hl)
  · refine X_tableIn (off := 587) (tgt := 619) dL_law_32 (by decide) (by decide) (by decide) (by decide) (law_19 hn hL hB hl)
  · refine X_tableIn (off := 600) (tgt := 632) dL_law_32 (by decide) (by decide) (by decide) (by decide) (law_20 hn hL hB hl)
  · refine X_tableIn (off := 623) (tgt := 655) dL_law_32 (by decide) (by decide) (by decide) (by decide) (law_21 hn hL hB hl)
  · refine X_tableIn (off := 656) (tgt := 688) dL_law_32 (by decide) (by decide) (by decide) (by decide) (law_22 hn hL hB hl)
  · refine X_tableIn (off := 679) (tgt := 711) dL_law_32 (by decide) (by decide) (by decide) (by decide) (law_23 hn hL hB hl)
  · refine X_tableIn (off := 692) (tgt := 724) dL_law_32 (by decide) (by decide) (by decide) (by decide) (law_24 hn hL hB hl)
  · refine X_tableIn (off := 715) (tgt := 747) dL_law_32 (by decide) (by decide) (by decide) (by decide) (law_25 hn hL hB hl)
  · refine X_tableIn (off := 738) (tgt := 770) dL_law_32 (by decide) (by decide) (by decide) (by decide) (law_26 hn hL hB hl)
  · refine X_tableIn (off := 751) (tgt := 783) dL_law_32 (by decide) (by decide) (by decide) (by decide) (law_27 hn hL hB hl)
  · refine X_tableIn (off := 764) (tgt := 796) dL_law_32 (by decide) (by decide) (by decide) (by decide) (law_28 hn hL hB hl)
  · refine X_tableIn (off := 787) (tgt := 819) dL_law_32 (by decide) (by decide) (by decide) (by decide) (law_29 hn hL hB hl)
  · refine X_tableIn (off := 810) (tgt := 842) dL_law_32 (by decide) (by decide) (by decide) (by decide) (law_30 hn hL hB hl)
  · refine X_tableIn (off := 833) (tgt := 865) dL_law_32 (by decide) (by decide) (by decide) (by decide) (law_31 hn hL hB hl)
  · refine X_tableIn (off := 846) (tgt := 878) dL_law_32 (by decide) (by decide) (by decide) (by decide) (law_32 hn hL hB hl)
  · refine X_tableIn (off := 869) (tgt := 901) dL_law_32 (by decide) (by decide) (by decide) (by decide) (law_33 hn hL hB hl)
  · refine X_tableIn (off := 892) (tgt := 924) dL_law_32 (by decide) (by decide) (by decide) (by decide) (law_34 hn hL hB hl)
  · refine X_tableIn (off := 915) (tgt := 947) dL_law_32 (by decide) (by decide) (by decide) (by decide) (law_35 hn hL hB hl)
theorem law_next (hB : gL G ≤ 1536) (hL : i + 3 ≤ gL G) (h : ∀ (s : SS) (I : Nat → Nat → Int32) (J : Nat → Nat → Int64) (sw : Bool), LI s I J → X G 1300 zL_law 18 [(0, vr 1000), (1, vr 0), (2, vr 170), (3, vi (nI (i + 3)))] [] (NC, I, J, layR sw) 0 0 LWQ) : NX G i := by
  intro s I J sw hl
  refine X_iinc (v := nI (i + 3)) dL_law_970 rfl (by rw [show Int32.ofInt 3 = nI 3 by decide]; exact nI_add i 3) rfl rfl ?_
  refine X_goto (tgt := 18) dL_law_973 (by decide) ?_
  exact h s I J sw hl
theorem law_loop (hB : gL G ≤ 1536) : ∀ (m i : Nat) (s : SS) (I : Nat → Nat → Int32) (J : Nat → Nat → Int64) (sw : Bool), gL G - i ≤ m → i ≤ gL G → LI s I J → X G 1300 zL_law 18 [(0, vr 1000), (1, vr 0), (2, vr 170), (3, vi (nI i))] [] (NC, I, J, layR sw) 0 0 LWQ := by
  intro m
  induction m with
  | zero => exact fun i s I J sw h1 h2 hl => law_head hB (by omega) (by omega)
  | succ m ih =>
    intro i s I J sw h1 h2 hl
    by_cases hL : i + 3 ≤ gL G
    · exact law_body (law_next hB hL (fun s I J sw hl => ih (i + 3) s I J sw (by omega) (by omega) hl)) hB hL hl
    · exact law_head hB (by omega) (by omega)
end LE
