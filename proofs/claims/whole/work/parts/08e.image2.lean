def sp_image (s : SS) (x : Int32) : Int32 × SS := if x < 0 ∨ nI 2 ≤ x then (-2, s) else (nI 1, (s.1, s.2.1, up s.2.2 x.toNatClampNeg (some s.2.1)))
def sp_restore (s : SS) (x : Int32) : Int32 × SS := if x < 0 ∨ nI 2 ≤ x then (-2, s) else match s.2.2 x.toNatClampNeg with
  | none => (-3, s)
  | some D => (nI 1, (s.1, D, s.2.2))
section CE
variable {G : GG} {d : Nat} {sw : Bool} {I : Nat → Nat → Int32} {J : Nat → Nat → Int64} {s : SS}
theorem PC_mkR {I I' : Nat → Nat → Int32} {J : Nat → Nat → Int64} {sw : Bool} {s : SS} {a : Int32} (h : CInv I' s) (hf : ∀ k, keepC k → I' k = I k) : PC s a I J a (NC, I', J, layR sw) := ⟨rfl, I', J, sw, rfl, h, hf, fun _ _ => rfl⟩
theorem dk39_ {a : Nat} (ha : a < 2) : IsDk (39 + 31 * a) := by
  rcases (by omega : a = 0 ∨ a = 1) with rfl | rfl
  · exact dk39
  · exact dk70
theorem lay38 {a : Nat} (ha : a < 2) : layR sw 38 a = some (39 + 31 * a) := by
  rcases (by omega : a = 0 ∨ a = 1) with rfl | rfl <;> rfl
set_option maxRecDepth 20000 in
theorem C_image {x : Int32} (hd : 5 ≤ d) (hv : VSt s) (hi : CInv I s) : Y G d zX11_image [vr 0, vi x] (NC, I, J, layR sw) 0 0 (qi (PC (sp_image s x).2 (sp_image s x).1 I J)) := by
  refine Y_of rfl rfl (Nat.le_of_ble_eq_true rfl) rfl ?_
  unfold sp_image
  rcases icase x 2 (by decide) with h | ⟨a, ha, rfl⟩ | h
  · rw [if_pos (Or.inl h)]
    refine X_iload_n dX11_image_0 rfl ?_
    refine X_if_lt (tgt := 9) dX11_image_1 (by decide) (fun h1 => ?_) (fun h1 => ?_)
    · refine X_bipush (v := (-2)) dX11_image_9 (by decide) ?_
      exact X_iret dX11_image_11 rfl ⟨_, rfl, PC_same hi⟩
    · exact absurd h h1
  · rw [if_neg (fun q => q.elim (nneg (by omega)) (fun q => absurd ((nle (by omega) (by omega)).mp q) (by omega))), nI_clamp (by omega)]
    refine X_iload_n dX11_image_0 rfl ?_
    refine X_if_lt (tgt := 9) dX11_image_1 (by decide) (fun h1 => ?_) (fun h1 => ?_)
    · exact absurd h1 (nneg (by omega))
    refine X_iload_n dX11_image_4 rfl ?_
    refine X_iconst (v := nI 2) dX11_image_5 (by decide) ?_
    refine X_icmp_lt (tgt := 12) dX11_image_6 (by decide) (fun h6 => ?_) (fun h6 => ?_)
    · have hl := lay38 (sw := sw) ha
      have hs := (dk39_ ha).1
      have hN : 39 + 31 * a < NC := show 39 + 31 * a < 206 by omega
      refine X_aload_n dX11_image_12 rfl ?_
      refine X_getR dX11_image_13 gf_X11_23 (by first | assumption | rfl) (by first | assumption | exact Nat.le_of_ble_eq_true rfl | omega) rfl (by first | assumption | rfl) ?_
      refine X_iload_n dX11_image_16 rfl ?_
      refine X_aald dX11_image_17 (by first | assumption | rfl) (by decide) (by first | assumption | exact Nat.le_of_ble_eq_true rfl | omega) rfl (by first | decide | omega) (by decide) (by first | assumption | rfl) ?_
      refine X_aload_n dX11_image_18 rfl ?_
      refine X_getR dX11_image_19 gf_X11_19 (by first | assumption | rfl) (by first | assumption | exact Nat.le_of_ble_eq_true rfl | omega) rfl (by first | assumption | rfl) ?_
      refine X_cVv dX11_image_22 ck_X11_285 rfl rfl (by first | assumption | rfl) (by first | assumption | exact Nat.le_of_ble_eq_true rfl | omega) (by omega) (Nat.le_of_ble_eq_true rfl) (c_deskCopy (by omega) (dk39_ ha) dk7 (Or.inl (by omega)) hi.2.1 hv.2.1 (fun I1 h1 f1 => ?_))
      refine X_aload_n dX11_image_25 rfl ?_
      refine X_getR dX11_image_26 gf_X11_27 (by first | assumption | rfl) (by first | assumption | exact Nat.le_of_ble_eq_true rfl | omega) rfl (by first | assumption | rfl) ?_
      refine X_iload_n dX11_image_29 rfl ?_
      refine X_iconst (v := nI 1) dX11_image_30 (by decide) ?_
      refine X_zast dX11_image_31 (by first | assumption | rfl) (by first | assumption | exact Nat.le_of_ble_eq_true rfl | omega) rfl (by first | decide | omega) (by decide) (by first | exact Or.inl rfl | exact Or.inr rfl | assumption | decide) ?_
      refine X_iconst (v := nI 1) dX11_image_32 (by decide) ?_
      refine X_iret dX11_image_33 rfl ⟨_, rfl, PC_mkR ⟨?_, ?_, ?_⟩ (fun q hq => ?_)⟩
      · exact hi.1.fr (by rw [sr_ne (by decide), f1 1 (by omega)]) (by rw [sr_ne (by decide), f1 2 (by omega)])
      · exact hi.2.1.fr hv.2.1.2.2.2.2.1 (fun j a b => by rw [sr_ne (by omega), f1 j (by omega)])
      · intro n hn
        by_cases hna : n = a
        · subst hna
          refine ⟨?_, fun D hD => ?_⟩
          · rw [sr_eq, up_eq]
            simp only [up_eq]
            rfl
          · dsimp only at hD
            rw [up_eq] at hD
            cases hD
            exact h1.fr hv.2.1.2.2.2.2.1 (fun j a b => by rw [sr_ne (by omega)])
        · obtain ⟨g1, g2⟩ := hi.2.2 n hn
          refine ⟨?_, fun D hD => ?_⟩
          · rw [sr_eq, up_ne hna, f1 101 (by omega)]
            simp only [up_ne hna]
            exact g1
          · dsimp only at hD
            rw [up_ne hna] at hD
            exact (g2 D hD).fr (hv.2.2 n D hD).2.2.2.2.1 (fun j a b => by rw [sr_ne (by omega), f1 j (by omega)])
      · unfold keepC at hq
        rw [sr_ne (by omega), f1 q (by omega)]
    · exact absurd ((nlt (by decide) (by omega)).mpr ha) h6
  · rw [if_pos (Or.inr h.2)]
    refine X_iload_n dX11_image_0 rfl ?_
    refine X_if_lt (tgt := 9) dX11_image_1 (by decide) (fun h1 => ?_) (fun h1 => ?_)
    · exact absurd h1 h.1
    refine X_iload_n dX11_image_4 rfl ?_
    refine X_iconst (v := nI 2) dX11_image_5 (by decide) ?_
    refine X_icmp_lt (tgt := 12) dX11_image_6 (by decide) (fun h6 => ?_) (fun h6 => ?_)
    · exact absurd h6 (Int32.not_lt.mpr h.2)
    · refine X_bipush (v := (-2)) dX11_image_9 (by decide) ?_
      exact X_iret dX11_image_11 rfl ⟨_, rfl, PC_same hi⟩
set_option maxRecDepth 20000 in
theorem C_restore {x : Int32} (hd : 5 ≤ d) (hv : VSt s) (hi : CInv I s) : Y G d zX11_restore [vr 0, vi x] (NC, I, J, layR sw) 0 0 (qi (PC (sp_restore s x).2 (sp_restore s x).1 I J)) := by
  refine Y_of rfl rfl (Nat.le_of_ble_eq_true rfl) rfl ?_
  unfold sp_restore
  rcases icase x 2 (by decide) with h | ⟨a, ha, rfl⟩ | h
  · rw [if_pos (Or.inl h)]
    refine X_iload_n dX11_restore_0 rfl ?_
    refine X_if_lt (tgt := 9) dX11_restore_1 (by decide) (fun h1 => ?_) (fun h1 => ?_)
    · refine X_bipush (v := (-2)) dX11_restore_9 (by decide) ?_
      exact X_iret dX11_restore_11 rfl ⟨_, rfl, PC_same hi⟩
    · exact absurd h h1
  · rw [if_neg (fun q => q.elim (nneg (by omega)) (fun q => absurd ((nle (by omega) (by omega)).mp q) (by omega))), nI_clamp (by omega)]
    refine X_iload_n dX11_restore_0 rfl ?_
    refine X_if_lt (tgt := 9) dX11_restore_1 (by decide) (fun h1 => ?_) (fun h1 => ?_)
    · exact absurd h1 (nneg (by omega))
    refine X_iload_n dX11_restore_4 rfl ?_
    refine X_iconst (v := nI 2) dX11_restore_5 (by decide) ?_
    refine X_icmp_lt (tgt := 12) dX11_restore_6 (by decide) (fun h6 => ?_) (fun h6 => ?_)
    · have hl := lay38 (sw := sw) ha
      have hs := (dk39_ ha).1
      have hN : 39 + 31 * a < NC := show 39 + 31 * a < 206 by omega
      obtain ⟨g1, g2⟩ := hi.2.2 a ha
      refine X_aload_n dX11_restore_12 rfl ?_
      refine X_getR dX11_restore_13 gf_X11_27 (by first | assumption | rfl) (by first | assumption | exact Nat.le_of_ble_eq_true rfl | omega) rfl (by first | assumption | rfl) ?_
      refine X_iload_n dX11_restore_16 rfl ?_
      refine X_zald dX11_restore_17 (by first | assumption | rfl) (by first | assumption | exact Nat.le_of_ble_eq_true rfl | omega) rfl (by first | decide | omega) (by decide) ?_
      rw [g1]
      cases hD : s.2.2 a with
      | none =>
        refine X_if_ne (tgt := 24) dX11_restore_18 (by decide) (fun h18 => ?_) (fun h18 => ?_)
        · exact absurd (by decide) h18
        · refine X_bipush (v := (-3)) dX11_restore_21 (by decide) ?_
          exact X_iret dX11_restore_23 rfl ⟨_, rfl, PC_same hi⟩
      | some D =>
        refine X_if_ne (tgt := 24) dX11_restore_18 (by decide) (fun h18 => ?_) (fun h18 => ?_)
        · refine X_aload_n dX11_restore_24 rfl ?_
          refine X_getR dX11_restore_25 gf_X11_19 (by first | assumption | rfl) (by first | assumption | exact Nat.le_of_ble_eq_true rfl | omega) rfl (by first | assumption | rfl) ?_
          refine X_aload_n dX11_restore_28 rfl ?_
          refine X_getR dX11_restore_29 gf_X11_23 (by first | assumption | rfl) (by first | assumption | exact Nat.le_of_ble_eq_true rfl | omega) rfl (by first | assumption | rfl) ?_
          refine X_iload_n dX11_restore_32 rfl ?_
          refine X_aald dX11_restore_33 (by first | assumption | rfl) (by decide) (by first | assumption | exact Nat.le_of_ble_eq_true rfl | omega) rfl (by first | decide | omega) (by decide) (by first | assumption | rfl) ?_
          refine X_cVv dX11_restore_34 ck_X11_285 rfl rfl (by first | assumption | rfl) (by first | assumption | exact Nat.le_of_ble_eq_true rfl | omega) (by omega) (Nat.le_of_ble_eq_true rfl) (c_deskCopy (by omega) dk7 (dk39_ ha) (Or.inr (by omega)) (g2 D hD) (hv.2.2 a D hD) (fun I1 h1 f1 => ?_))
          refine X_iconst (v := nI 1) dX11_restore_37 (by decide) ?_
          refine X_iret dX11_restore_38 rfl ⟨_, rfl, PC_mkR ⟨?_, h1, ?_⟩ (fun q hq => ?_)⟩
          · exact hi.1.fr (by rw [f1 1 (by omega)]) (f1 2 (by omega))
          · exact hi.2.2.fr hv (fun j a b => f1 j (by omega))
          · unfold keepC at hq
            exact f1 q (by omega)
        · exact absurd (show nI 1 = 0 from h18) (by decide)
    · exact absurd ((nlt (by decide) (by omega)).mpr ha) h6
  · rw [if_pos (Or.inr h.2)]
    refine X_iload_n dX11_restore_0 rfl ?_
    refine X_if_lt (tgt := 9) dX11_restore_1 (by decide) (fun h1 => ?_) (fun h1 => ?_)
    · exact absurd h1 h.1
    refine X_iload_n dX11_restore_4 rfl ?_
    refine X_iconst (v := nI 2) dX11_restore_5 (by decide) ?_
    refine X_icmp_lt (tgt := 12) dX11_restore_6 (by decide) (fun h6 => ?_) (fun h6 => ?_)
    · exact absurd h6 (Int32.not_lt.mpr h.2)
    · refine X_bipush (v := (-2)) dX11_restore_9 (by decide) ?_
      exact X_iret dX11_restore_11 rfl ⟨_, rfl, PC_same hi⟩
end CE
