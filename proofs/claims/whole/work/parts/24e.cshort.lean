/-! shortest: the class -/
def tz (n : Nat) : Nat → Nat := upk (n / 8 * 512 + n % 8 * 64)
theorem tz_vec {n r : Nat} (hn : n < 64) (hr : r < 4) : tz n r = vec n r := by
  rcases (by omega : r = 0 ∨ r = 1 ∨ r = 2 ∨ r = 3) with rfl | rfl | rfl | rfl
  · show (n / 8 * 512 + n % 8 * 64) / 512 % 8 = n / 8; omega
  · show (n / 8 * 512 + n % 8 * 64) / 64 % 8 = n % 8; omega
  · show (n / 8 * 512 + n % 8 * 64) / 8 % 8 = 0; omega
  · show (n / 8 * 512 + n % 8 * 64) / 1 % 8 = 0; omega
def SRs (I : Nat → Nat → Int32) (res : Option (Nat × Nat)) : Prop := match res with
  | none => I 152 6 = -6
  | some p => I 152 6 = nI p.1 ∧ p.1 ≤ 3 ∧ ∀ j, j < p.1 → I 160 j = nI (Tn (dig p.1 p.2 j))
def SInv (I : Nat → Nat → Int32) (J : Nat → Nat → Int64) : Prop := BR J 153 tz ∧ ∃ w, I 152 5 = nI w ∧ w < 4 ∧ (w = 0 ∨ ∃ V, BR J 155 V ∧ (∀ n, R8 (V n)) ∧ SRs I (shr w (duV V)))
theorem SInv_fr {I I' : Nat → Nat → Int32} {J J' : Nat → Nat → Int64} (h : SInv I J) (hi : ∀ k, keepC k → I' k = I k) (hj : ∀ k, keepC k → J' k = J k) : SInv I' J' := by
  have i1 : I' 152 = I 152 := hi 152 (by unfold keepC; omega)
  have i2 : I' 160 = I 160 := hi 160 (by unfold keepC; omega)
  have j1 : J' 154 = J 154 := hj 154 (by unfold keepC; omega)
  have j2 : J' 156 = J 156 := hj 156 (by unfold keepC; omega)
  obtain ⟨h1, w, h2, h3, h4⟩ := h
  refine ⟨fun r hr m hm j hj2 => by rw [show 153 + 1 = 154 from rfl, j1]; exact h1 r hr m hm j hj2, w, by rw [i1]; exact h2, h3, h4.imp id (fun ⟨V, a, b, c⟩ => ⟨V, fun r hr m hm j hj2 => by rw [show 155 + 1 = 156 from rfl, j2]; exact a r hr m hm j hj2, b, ?_⟩)⟩
  unfold SRs at c ⊢
  rw [i1, i2]
  exact c
theorem shr_cg {W : Nat} {V V' : Nat → Nat → Nat} (h8 : ∀ n, R8 (V n)) (g8 : ∀ n, R8 (V' n)) (h : ∀ n, n < 64 → V n 0 = V' n 0 ∧ V n 1 = V' n 1) : shr W (duV V) = shr W (duV V') := by
  unfold shr
  exact shrF_cg (fun v hv => by rw [duV_dg h8 (by decide), duV_dg h8 (by decide), duV_dg g8 (by decide), duV_dg g8 (by decide)]; exact h v hv) 4 0
theorem shrF_some {W : Nat} {du : Nat → Nat} {st e : Nat} (h : tryE W du st = some e) : ∀ k a, (∀ i, i < a → tryE W du (st - a + i) = none) → a ≤ st → shrF W du (k + 1 + a) (st - a) = some (st, e) := by
  intro k a
  induction a with
  | zero =>
    intro _ _
    show (match tryE W du (st - 0) with | some e => some (st - 0, e) | none => _) = _
    rw [Nat.sub_zero, h]
  | succ a ih =>
    intro hn ha
    have h0 := hn 0 (by omega)
    rw [Nat.add_zero] at h0
    show (match tryE W du (st - (a + 1)) with | some e => some (st - (a + 1), e) | none => shrF W du (k + 1 + a) (st - (a + 1) + 1)) = _
    rw [h0]
    dsimp only
    rw [show st - (a + 1) + 1 = st - a by omega]
    refine ih (fun i hi => ?_) (by omega)
    have := hn (i + 1) (by omega)
    rw [show st - (a + 1) + (i + 1) = st - a + i by omega] at this
    exact this
theorem shr_some {W : Nat} {du : Nat → Nat} {st e : Nat} (hst : st ≤ 3) (h : tryE W du st = some e) (hn : ∀ i, i < st → tryE W du i = none) : shr W du = some (st, e) := by
  have := shrF_some h (3 - st) st (fun i hi => by rw [Nat.sub_self, Nat.zero_add]; exact hn i hi) (Nat.le_refl _)
  rw [show 3 - st + 1 + st = 4 by omega, Nat.sub_self] at this
  exact this
theorem shrF_n {W : Nat} {du : Nat → Nat} {k st : Nat} (h : tryE W du st = none) : shrF W du (k + 1) st = shrF W du k (st + 1) := by
  show (match tryE W du st with | some e => some (st, e) | none => shrF W du k (st + 1)) = _
  rw [h]
theorem shr_none {W : Nat} {du : Nat → Nat} (hn : ∀ i, i < 4 → tryE W du i = none) : shr W du = none := by
  unfold shr
  rw [shrF_n (hn 0 (by decide)), shrF_n (hn 1 (by decide)), shrF_n (hn 2 (by decide)), shrF_n (hn 3 (by decide))]
  rfl
theorem tryE_0 {W : Nat} {du : Nat → Nat} : (okS W du (fun _ => 0) 0 → tryE W du 0 = some 0) ∧ (¬ okS W du (fun _ => 0) 0 → tryE W du 0 = none) := by
  have e : okB W du (dig 0 0) 0 64 = true ↔ okS W du (fun _ => 0) 0 := okB_iff 64
  refine ⟨fun h => ffR_some (r := 0) (e.mpr h) (fun q hq => absurd hq (Nat.not_lt_zero q)) _ (by decide), fun h => ffR_none _ (fun q hq => ?_)⟩
  obtain rfl : q = 0 := by
    have : q < 1 := hq
    omega
  cases z : okB W du (dig 0 0) 0 64
  · rfl
  · exact absurd (e.mp z) h
def AA (c : Nat → Nat → Nat) (n : Nat) : Nat → Nat → Nat := fun v => rn c (tz v) n
def sp_shortest (s : SS) (x : Int32) : Int32 := if 3 < (dW s.2.1 ||| nmd (dC s.2.1).2 (dC s.2.1).1) then -3 else match shr (dW s.2.1) (duV (AA (dC s.2.1).2 (dC s.2.1).1)) with
  | none => -6
  | some p => if x = -1 then nI p.1 else if x < 0 ∨ nI p.1 ≤ x then -6 else nI (Tn (dig p.1 p.2 x.toNatClampNeg))
section CF
variable {G : GG} {d : Nat} {sw : Bool} {I : Nat → Nat → Int32} {J : Nat → Nat → Int64} {s : SS} {W n : Nat} {c : Nat → Nat → Nat}
def FJs (J J' : Nat → Nat → Int64) : Prop := ∀ j, (j < 155 ∨ 166 < j) → J' j = J j
set_option maxRecDepth 20000 in
set_option maxHeartbeats 1000000 in
theorem c_find {Q : Mm → Prop} (hd : 14 ≤ d) (hc : CR I 8 n c) (hv : VC n c) (hW1 : 1 ≤ W) (hW : W < 4) (hI : SInv I J) (hQ : ∀ I' J', Fr [152, 160] I I' → FJs J J' → SInv I' J' → SRs I' (shr W (duV (AA c n))) → Q (NC, I', J', layR sw)) : Y G d zX10_find [vr 152, vr 8, vi (nI W)] (NC, I, J, layR sw) 0 0 (qv Q) := by
  obtain ⟨hst, w, hw, hw4, hcase⟩ := hI
  have hA8 : ∀ v, R8 (AA c n v) := fun v => rn8 hv (upk8 _) n (Nat.le_refl n)
  have BRf : ∀ (J1 J2 : Nat → Nat → Int64) (k : Nat) (T : Nat → Nat → Nat), J2 (k + 1) = J1 (k + 1) → BR J1 k T → BR J2 k T := fun J1 J2 k T h hb r hr m hm j hj => by rw [h]; exact hb r hr m hm j hj
  -- the search anew
  have anew : ∀ (J2 : Nat → Nat → Int64), (∀ j, (j < 157 ∨ 158 < j) → J2 j = J j) → BR J2 157 (AA c n) → X G d zX10_find 58 [(0, vr 152), (1, vr 8), (2, vi (nI W))] [] (NC, I, J2, layR sw) 0 0 (qv Q) := by
    intro J2 f2 hA
    refine X_aload_n dX10_find_58 rfl ?_
    refine X_getR dX10_find_59 gf_X10_18 (by first | assumption | rfl) (by first | assumption | exact Nat.le_of_ble_eq_true rfl | omega) rfl (by first | assumption | rfl) ?_
    refine X_aload_n dX10_find_62 rfl ?_
    refine X_getR dX10_find_63 gf_X10_21 (by first | assumption | rfl) (by first | assumption | exact Nat.le_of_ble_eq_true rfl | omega) rfl (by first | assumption | rfl) ?_
    refine X_cVv dX10_find_66 ck_X10_35 rfl rfl (by first | assumption | rfl) (by first | assumption | exact Nat.le_of_ble_eq_true rfl | omega) (by omega) (Nat.le_of_ble_eq_true rfl) (c_copyRows (by omega) rw155 rw157 (fun J3 f3 c3 => ?_))
    have hG3 : BR J3 155 (AA c n) := BR_cp hA c3
    have hS3 : BR J3 153 tz := BRf J J3 153 tz (by rw [show 153 + 1 = 154 from rfl, f3 154 (by decide), f2 154 (by omega)]) hst
    have fJ3 : FJs J J3 := fun j hj => by rw [f3 j (by simp; omega), f2 j (by omega)]
    refine X_aload_n dX10_find_69 rfl ?_
    refine X_iload_n dX10_find_70 rfl ?_
    refine X_putI dX10_find_71 gf_X10_43 (Or.inl rfl) (by first | assumption | rfl) (by first | assumption | exact Nat.le_of_ble_eq_true rfl | omega) rfl ?_
    generalize hI1 : sr I 152 (up (I 152) 5 (nI W)) = I1
    have w1 : I1 152 5 = nI W := by rw [← hI1, sr_eq, up_eq]
    have fI1 : Fr [152, 160] I I1 := by rw [← hI1]; exact Fr.sr (by simp)
    have hSv : BR J3 153 (fun v => vec (SF (fun _ => 0) 0 v)) := BR_cg hS3 (fun j hj r hr => by
      rw [SF_at hj, tz_vec hj hr]; rfl)
    have done : ∀ (I2 : Nat → Nat → Int32) (J4 : Nat → Nat → Int64), Fr [152, 160] I I2 → FJs J J4 → I2 152 5 = nI W → BR J4 155 (AA c n) → SRs I2 (shr W (duV (AA c n))) → Q (NC, I2, J4, layR sw) := by
      intro I2 J4 f g hw2 hb hr
      exact hQ I2 J4 f g ⟨BRf J J4 153 tz (g 154 (by omega)) hst, W, hw2, hW, Or.inr ⟨AA c n, hb, hA8, hr⟩⟩ hr
    have exitF : ∀ (I2 : Nat → Nat → Int32) (J4 : Nat → Nat → Int64) (st m : Nat), Fr [152, 160] I I2 → FJs J J4 → I2 152 5 = nI W → BR J4 155 (AA c n) → SRs I2 (shr W (duV (AA c n))) → I2 152 6 = nI st → st ≤ 3 → m ≤ 4 → X G d zX10_find 110 [(0, vr 152), (1, vr 8), (2, vi (nI W)), (3, vi (nI m))] [] (NC, I2, J4, layR sw) 0 0 (qv Q) := by
      intro I2 J4 st m f g hw2 hb hr h6 hst3 hm
      refine X_iload_n dX10_find_110 rfl ?_
      refine X_iconst (v := nI 3) dX10_find_111 (by decide) ?_
      refine X_icmp_gt (tgt := 157) dX10_find_112 (by decide) (fun b112 => ?_) (fun b112 => ?_)
      · exact X_vret dX10_find_157 rfl ⟨rfl, done I2 J4 f g hw2 hb hr⟩
      refine X_aload_n dX10_find_115 rfl ?_
      refine X_getI dX10_find_116 gf_X10_55 (by first | assumption | rfl) (by first | assumption | exact Nat.le_of_ble_eq_true rfl | omega) rfl ?_
      rw [h6]
      refine X_bipush (v := (-6)) dX10_find_119 (by decide) ?_
      refine X_icmp_ne (tgt := 157) dX10_find_121 (by decide) (fun b121 => ?_) (fun b121 => ?_)
      · exact X_vret dX10_find_157 rfl ⟨rfl, done I2 J4 f g hw2 hb hr⟩
      · exact absurd (by rw [b121]; decide) (nneg (a := st) (by omega))
    have loop : ∀ (z m : Nat) (I2 : Nat → Nat → Int32) (J4 : Nat → Nat → Int64), z = 4 - m → 1 ≤ m → m ≤ 4 → Fr [152, 160] I I2 → FJs J J4 → I2 152 5 = nI W → I2 152 6 = -6 → BR J4 155 (AA c n) → (∀ i, i < m → tryE W (duV (AA c n)) i = none) → X G d zX10_find 110 [(0, vr 152), (1, vr 8), (2, vi (nI W)), (3, vi (nI m))] [] (NC, I2, J4, layR sw) 0 0 (qv Q) := by
      intro z
      induction z with
      | zero =>
        intro m I2 J4 hz h1 hm f g hw2 h6 hb hn
        obtain rfl : m = 4 := by omega
        refine X_iload_n dX10_find_110 rfl ?_
        refine X_iconst (v := nI 3) dX10_find_111 (by decide) ?_
        refine X_icmp_gt (tgt := 157) dX10_find_112 (by decide) (fun b112 => ?_) (fun b112 => ?_)
        · exact X_vret dX10_find_157 rfl ⟨rfl, done I2 J4 f g hw2 hb (by rw [shr_none hn]; exact h6)⟩
        · exact absurd (by decide) b112
      | succ z ih =>
        intro m I2 J4 hz h1 hm f g hw2 h6 hb hn
        obtain ⟨r, rfl⟩ : ∃ r, m = r + 1 := ⟨m - 1, by omega⟩
        have hl0 := lay159 (sw := sw) (show 0 < 3 by decide)
        refine X_iload_n dX10_find_110 rfl ?_
        refine X_iconst (v := nI 3) dX10_find_111 (by decide) ?_
        refine X_icmp_gt (tgt := 157) dX10_find_112 (by decide) (fun b112 => ?_) (fun b112 => ?_)
        · exact absurd ((nlt (by omega) (by omega)).mp b112) (by omega)
        refine X_aload_n dX10_find_115 rfl ?_
        refine X_getI dX10_find_116 gf_X10_55 (by first | assumption | rfl) (by first | assumption | exact Nat.le_of_ble_eq_true rfl | omega) rfl ?_
        rw [h6]
        refine X_bipush (v := (-6)) dX10_find_119 (by decide) ?_
        refine X_icmp_ne (tgt := 157) dX10_find_121 (by decide) (fun b121 => ?_) (fun b121 => ?_)
        · exact absurd rfl b121
        refine X_aload_n dX10_find_124 rfl ?_
        refine X_getR dX10_find_125 gf_X10_24 (by first | assumption | rfl) (by first | assumption | exact Nat.le_of_ble_eq_true rfl | omega) rfl (by first | assumption | rfl) ?_
        refine X_iconst (v := nI 0) dX10_find_128 (by decide) ?_
        refine X_aald dX10_find_129 (by first | assumption | rfl) (by decide) (by first | assumption | exact Nat.le_of_ble_eq_true rfl | omega) rfl (by first | decide | omega) (by decide) (by first | assumption | rfl) ?_
        refine X_aload_n dX10_find_130 rfl ?_
        refine X_getR dX10_find_131 gf_X10_12 (by first | assumption | rfl) (by first | assumption | exact Nat.le_of_ble_eq_true rfl | omega) rfl (by first | assumption | rfl) ?_
        refine X_cVv dX10_find_134 ck_X10_35 rfl rfl (by first | assumption | rfl) (by first | assumption | exact Nat.le_of_ble_eq_true rfl | omega) (by omega) (Nat.le_of_ble_eq_true rfl) (c_copyRows (by omega) (rw161 (show 0 < 3 by decide)) rw153 (fun J5 f5 c5 => ?_))
        have g5 : FJs J J5 := fun j hj => by rw [f5 j (by simp; omega), g j hj]
        have hS5 : BR J5 153 tz := BRf J J5 153 tz (g5 154 (by omega)) hst
        have hb5 : BR J5 155 (AA c n) := BRf J4 J5 155 _ (f5 156 (by decide)) hb
        have hB5 : BR J5 (161 + 2 * 0) (fun v => vec (SF (fun _ => 0) 0 v)) := BR_cg (BR_cp (BRf J J4 153 tz (g 154 (by omega)) hst) c5) (fun j hj r hr => by
          rw [SF_at hj, tz_vec hj hr]; rfl)
        have hmin : ∀ y, D52 r y → ¬ okS W (duV (AA c n)) y r := tryE_none (by omega) (hn r (by omega))
        obtain ⟨s1, s2⟩ := srch_tryE (W := W) (du := duV (AA c n)) (r := r) (by omega) hmin (o := fun _ => 0)
        have hre := c_reaches (G := G) (sw := sw) (W := W) (V := AA c n) hW hA8 r (d - 1) I2 J5 (fun _ => 0) 0 (fun x M' => X G d zX10_find 143 [(0, vr 152), (1, vr 8), (2, vi (nI W)), (3, vi (nI (r + 1)))] [vi x] M' 0 0 (qv Q)) (by omega) (by omega) ⟨hw2, hb5⟩ hB5 (fun I6 J6 x hx fi fj e6 => by
            rcases hte : tryE W (duV (AA c n)) (r + 1) with _ | e
            · rw [s2 hte] at hx; exact absurd hx (by simp)
            · obtain ⟨x', hx', hd'⟩ := s1 e hte
              rw [hx] at hx'
              obtain rfl := Option.some.inj hx'
              have f6 : Fr [152, 160] I I6 := f.tr (fi.1.sub (by simp))
              have g6 : FJs J J6 := fun j hj => by rw [fj.1 j (by omega), g5 j hj]
              refine X_if_eq (tgt := 151) dX10_find_143 (by decide) (fun b143 => ?_) (fun b143 => ?_)
              · exact absurd b143 (by decide)
              refine X_aload_n dX10_find_146 rfl ?_
              refine X_iload_n dX10_find_147 rfl ?_
              refine X_putI dX10_find_148 gf_X10_55 (Or.inl rfl) (by first | assumption | rfl) (by first | assumption | exact Nat.le_of_ble_eq_true rfl | omega) rfl ?_
              first | refine X_iinc1 dX10_find_151 rfl rfl rfl ?_ | refine X_iinc dX10_find_151 rfl rfl rfl rfl ?_
              refine X_goto (tgt := 110) dX10_find_154 (by decide) ?_
              refine exitF _ J6 (r + 1) (r + 1 + 1) (f6.tr (Fr.sr (by simp))) g6 (by rw [sr_eq, up_ne (by decide), fi.1 152 (by decide)]; exact hw2) (BRf J5 J6 155 _ (fj.1 156 (by omega)) hb5) ?_ (by rw [sr_eq, up_eq]) (by omega) (by omega)
              rw [shr_some (by omega) hte hn]
              refine ⟨by rw [sr_eq, up_eq], by omega, fun j hj => ?_⟩
              rw [sr_ne (by decide), e6 j (Nat.zero_le j) (by omega), hd' j hj]) (fun I6 J6 hx fi fj => by
            have hte : tryE W (duV (AA c n)) (r + 1) = none := by
              rcases hte : tryE W (duV (AA c n)) (r + 1) with _ | e
              · rfl
              · obtain ⟨x', hx', _⟩ := s1 e hte
                rw [hx] at hx'; exact absurd hx' (by simp)
            have f6 : Fr [152, 160] I I6 := f.tr (fi.1.sub (by simp))
            have g6 : FJs J J6 := fun j hj => by rw [fj.1 j (by omega), g5 j hj]
            refine X_if_eq (tgt := 151) dX10_find_143 (by decide) (fun b143 => ?_) (fun b143 => ?_)
            · first | refine X_iinc1 dX10_find_151 rfl rfl rfl ?_ | refine X_iinc dX10_find_151 rfl rfl rfl rfl ?_
              refine X_goto (tgt := 110) dX10_find_154 (by decide) ?_
              refine ih (r + 1 + 1) I6 J6 (by omega) (by omega) (by omega) f6 g6 (by rw [fi.1 152 (by decide)]; exact hw2) (by rw [fi.1 152 (by decide)]; exact h6) (BRf J5 J6 155 _ (fj.1 156 (by omega)) hb5) (fun i hi => ?_)
              by_cases y : i = r + 1
              · rw [y]; exact hte
              · exact hn i (by omega)
            · exact absurd rfl b143)
        rw [Nat.zero_add] at hre
        refine X_aload_n dX10_find_137 rfl ?_
        refine X_iconst (v := nI 0) dX10_find_138 (by decide) ?_
        refine X_iload_n dX10_find_139 rfl ?_
        refine X_cVi dX10_find_140 ck_X10_58 rfl rfl (by first | assumption | rfl) (by first | assumption | exact Nat.le_of_ble_eq_true rfl | omega) (by omega) (Nat.le_of_ble_eq_true rfl) (hre)
    have t105n : ¬ okS W (duV (AA c n)) (fun _ => 0) 0 → X G d zX10_find 99 [(0, vr 152), (1, vr 8), (2, vi (nI W))] [vr 152] (NC, I1, J3, layR sw) 0 0 (qv Q) := by
      intro h
      refine X_bipush (v := (-6)) dX10_find_99 (by decide) ?_
      refine X_goto (tgt := 105) dX10_find_101 (by decide) ?_
      refine X_putI dX10_find_105 gf_X10_55 (Or.inl rfl) (by first | assumption | rfl) (by first | assumption | exact Nat.le_of_ble_eq_true rfl | omega) rfl ?_
      refine X_iconst (v := nI 1) dX10_find_108 (by decide) ?_
      refine X_istore_n dX10_find_109 rfl rfl ?_
      refine loop 3 1 _ J3 rfl (by decide) (by decide) (fI1.tr (Fr.sr (by simp))) fJ3 (by rw [sr_eq, up_ne (by decide)]; exact w1) (by rw [sr_eq, up_eq]) hG3 (fun i hi => ?_)
      obtain rfl : i = 0 := by omega
      exact tryE_0.2 h
    refine X_aload_n dX10_find_74 rfl ?_
    refine X_aload_n dX10_find_75 rfl ?_
    refine X_aload_n dX10_find_76 rfl ?_
    refine X_getR dX10_find_77 gf_X10_12 (by first | assumption | rfl) (by first | assumption | exact Nat.le_of_ble_eq_true rfl | omega) rfl (by first | assumption | rfl) ?_
    refine X_iconst (v := nI 0) dX10_find_80 (by decide) ?_
    refine X_cVi dX10_find_81 ck_X10_51 rfl rfl (by first | assumption | rfl) (by first | assumption | exact Nat.le_of_ble_eq_true rfl | omega) (by omega) (Nat.le_of_ble_eq_true rfl) (c_differs (W := W) (V := AA c n) (by omega) rw153 (show 0 < 2 by decide) w1 hW hSv (SF_lt _ 0) hG3 hA8 (fun h1 h2 => ?_) (fun h1 => ?_))
    · refine X_if_ne (tgt := 99) dX10_find_84 (by decide) (fun b84 => ?_) (fun b84 => ?_)
      · exact t105n (fun z => h2 (fun v hv => by rw [SF_at hv]; exact z 0 (by decide) h1 v hv))
      · exact absurd b84 (by decide)
    · refine X_if_ne (tgt := 99) dX10_find_84 (by decide) (fun b84 => ?_) (fun b84 => ?_)
      · exact absurd rfl b84
      refine X_aload_n dX10_find_87 rfl ?_
      refine X_aload_n dX10_find_88 rfl ?_
      refine X_getR dX10_find_89 gf_X10_12 (by first | assumption | rfl) (by first | assumption | exact Nat.le_of_ble_eq_true rfl | omega) rfl (by first | assumption | rfl) ?_
      refine X_iconst (v := nI 1) dX10_find_92 (by decide) ?_
      refine X_cVi dX10_find_93 ck_X10_51 rfl rfl (by first | assumption | rfl) (by first | assumption | exact Nat.le_of_ble_eq_true rfl | omega) (by omega) (Nat.le_of_ble_eq_true rfl) (c_differs (W := W) (V := AA c n) (by omega) rw153 (show 1 < 2 by decide) w1 hW hSv (SF_lt _ 0) hG3 hA8 (fun h3 h4 => ?_) (fun h3 => ?_))
      · refine X_if_eq (tgt := 104) dX10_find_96 (by decide) (fun b96 => ?_) (fun b96 => ?_)
        · exact absurd b96 (by decide)
        exact t105n (fun z => h4 (fun v hv => by rw [SF_at hv]; exact z 1 (by decide) h3 v hv))
      · have hok : okS W (duV (AA c n)) (fun _ => 0) 0 := fun r hr hWr v hv => by
          rw [← SF_at hv]
          rcases (by omega : r = 0 ∨ r = 1) with rfl | rfl
          · exact h1.resolve_left (by rw [hWr]; decide) v hv
          · exact h3.resolve_left (by rw [hWr]; decide) v hv
        refine X_if_eq (tgt := 104) dX10_find_96 (by decide) (fun b96 => ?_) (fun b96 => ?_)
        · refine X_iconst (v := nI 0) dX10_find_104 (by decide) ?_
          refine X_putI dX10_find_105 gf_X10_55 (Or.inl rfl) (by first | assumption | rfl) (by first | assumption | exact Nat.le_of_ble_eq_true rfl | omega) rfl ?_
          refine X_iconst (v := nI 1) dX10_find_108 (by decide) ?_
          refine X_istore_n dX10_find_109 rfl rfl ?_
          refine exitF _ J3 0 1 (fI1.tr (Fr.sr (by simp))) fJ3 (by rw [sr_eq, up_ne (by decide)]; exact w1) hG3 ?_ (by rw [sr_eq, up_eq]) (by decide) (by decide)
          rw [shr_some (by decide) (tryE_0.1 hok) (fun i hi => absurd hi (Nat.not_lt_zero i))]
          exact ⟨by rw [sr_eq, up_eq], by decide, fun j hj => absurd hj (Nat.not_lt_zero j)⟩
        · exact absurd rfl b96
  refine Y_of rfl rfl (Nat.le_of_ble_eq_true rfl) rfl ?_
  refine X_aload_n dX10_find_0 rfl ?_
  refine X_getR dX10_find_1 gf_X10_21 (by first | assumption | rfl) (by first | assumption | exact Nat.le_of_ble_eq_true rfl | omega) rfl (by first | assumption | rfl) ?_
  refine X_aload_n dX10_find_4 rfl ?_
  refine X_getR dX10_find_5 gf_X10_12 (by first | assumption | rfl) (by first | assumption | exact Nat.le_of_ble_eq_true rfl | omega) rfl (by first | assumption | rfl) ?_
  refine X_cVv dX10_find_8 ck_X10_35 rfl rfl (by first | assumption | rfl) (by first | assumption | exact Nat.le_of_ble_eq_true rfl | omega) (by omega) (Nat.le_of_ble_eq_true rfl) (c_copyRows (by omega) rw157 rw153 (fun J1 f1 c1 => ?_))
  have hb1 : BR J1 157 tz := BR_cp hst c1
  refine X_aload_n dX10_find_11 rfl ?_
  refine X_getR dX10_find_12 gf_X10_21 (by first | assumption | rfl) (by first | assumption | exact Nat.le_of_ble_eq_true rfl | omega) rfl (by first | assumption | rfl) ?_
  refine X_aload_n dX10_find_15 rfl ?_
  refine X_cVv dX10_find_16 ck_X10_39 rfl rfl (by first | assumption | rfl) (by first | assumption | exact Nat.le_of_ble_eq_true rfl | omega) (by omega) (Nat.le_of_ble_eq_true rfl) (c_perform (by omega) rw157 cd8 hc hv hb1 (fun j => upk8 _) (fun J2 f2 b2 => ?_))
  have f12 : ∀ j, (j < 157 ∨ 158 < j) → J2 j = J j := fun j hj => by rw [f2 j (by simp; omega), f1 j (by simp; omega)]
  refine X_iload_n dX10_find_19 rfl ?_
  refine X_aload_n dX10_find_20 rfl ?_
  refine X_getI dX10_find_21 gf_X10_43 (by first | assumption | rfl) (by first | assumption | exact Nat.le_of_ble_eq_true rfl | omega) rfl ?_
  rw [hw]
  refine X_icmp_ne (tgt := 58) dX10_find_24 (by decide) (fun b24 => ?_) (fun b24 => ?_)
  · exact anew J2 f12 b2
  · obtain rfl : W = w := (neq (by omega) (by omega)).mp b24
    obtain ⟨V, v1, v2, v3⟩ := hcase.resolve_left (by omega)
    have v1' : BR J2 155 V := BRf J J2 155 V (f12 156 (by omega)) v1
    refine X_aload_n dX10_find_27 rfl ?_
    refine X_getR dX10_find_28 gf_X10_21 (by first | assumption | rfl) (by first | assumption | exact Nat.le_of_ble_eq_true rfl | omega) rfl (by first | assumption | rfl) ?_
    refine X_iconst (v := nI 0) dX10_find_31 (by decide) ?_
    refine X_aload_n dX10_find_32 rfl ?_
    refine X_getR dX10_find_33 gf_X10_18 (by first | assumption | rfl) (by first | assumption | exact Nat.le_of_ble_eq_true rfl | omega) rfl (by first | assumption | rfl) ?_
    refine X_cVl dX10_find_36 ck_X10_47 rfl rfl (by first | assumption | rfl) (by first | assumption | exact Nat.le_of_ble_eq_true rfl | omega) (by omega) (Nat.le_of_ble_eq_true rfl) (c_unlikeIn rw157 rw155 (by decide) b2 v1' hA8 v2 (fun x0 h0 => ?_))
    refine X_aload_n dX10_find_39 rfl ?_
    refine X_getR dX10_find_40 gf_X10_21 (by first | assumption | rfl) (by first | assumption | exact Nat.le_of_ble_eq_true rfl | omega) rfl (by first | assumption | rfl) ?_
    refine X_iconst (v := nI 1) dX10_find_43 (by decide) ?_
    refine X_aload_n dX10_find_44 rfl ?_
    refine X_getR dX10_find_45 gf_X10_18 (by first | assumption | rfl) (by first | assumption | exact Nat.le_of_ble_eq_true rfl | omega) rfl (by first | assumption | rfl) ?_
    refine X_cVl dX10_find_48 ck_X10_47 rfl rfl (by first | assumption | rfl) (by first | assumption | exact Nat.le_of_ble_eq_true rfl | omega) (by omega) (Nat.le_of_ble_eq_true rfl) (c_unlikeIn rw157 rw155 (by decide) b2 v1' hA8 v2 (fun x1 h1 => ?_))
    refine X_lor dX10_find_51 ?_
    refine X_lconst (v := 0) dX10_find_52 (by decide) ?_
    refine X_lcmp dX10_find_53 ?_
    refine X_if_ne (tgt := 58) dX10_find_54 (by decide) (fun b54 => ?_) (fun b54 => ?_)
    · exact anew J2 f12 b2
    · have hx := (lg_cmp_eq _ _).mp b54
      have same : ∀ v, v < 64 → V v 0 = AA c n v 0 ∧ V v 1 = AA c n v 1 := fun v hv => by
        have e : lb (x0 ||| x1) v = false := by rw [hx]; exact lb_0 v
        rw [lb_or, h0 v hv, h1 v hv, Bool.or_eq_false_iff] at e
        exact ⟨(Decidable.not_not.mp (of_decide_eq_false e.1)).symm, (Decidable.not_not.mp (of_decide_eq_false e.2)).symm⟩
      have hr : SRs I (shr W (duV (AA c n))) := by rw [← shr_cg v2 hA8 same]; exact v3
      exact X_vret dX10_find_57 rfl ⟨rfl, hQ I J2 Fr.rf (fun j hj => f12 j (by omega)) ⟨BRf J J2 153 tz (f12 154 (by omega)) hst, W, hw, hW, Or.inr ⟨V, v1', v2, v3⟩⟩ hr⟩
def PCs (s' : SS) (a : Int32) (I : Nat → Nat → Int32) (J : Nat → Nat → Int64) : Int32 → Mm → Prop := fun r M' => r = a ∧ ∃ I' J' sw', M' = (NC, I', J', layR sw') ∧ CInv I' s' ∧ SInv I' J' ∧ ∀ k, 170 ≤ k → I' k = I k
set_option maxRecDepth 20000 in
theorem C_shortest {x : Int32} (hd : 16 ≤ d) (hv : VSt s) (hi : CInv I s) (hs : SInv I J) : Y G d zX11_shortest [vr 0, vi x] (NC, I, J, layR sw) 0 0 (qi (PCs s (sp_shortest s x) I J)) := by
  have hn := hv.2.1.1.1
  have hW := hv.2.1.2.2.1
  have hnl := nmd_lt hv.2.1.1 _ (Nat.le_refl _)
  have hor : dW s.2.1 ||| nmd (dC s.2.1).2 (dC s.2.1).1 < 16 := or16 (by omega) hnl
  unfold sp_shortest
  refine Y_of rfl rfl (Nat.le_of_ble_eq_true rfl) rfl ?_
  refine X_aload_n dX11_shortest_0 rfl ?_
  refine X_getR dX11_shortest_1 gf_X11_19 (by first | assumption | rfl) (by first | assumption | exact Nat.le_of_ble_eq_true rfl | omega) rfl (by first | assumption | rfl) ?_
  refine X_getI dX11_shortest_4 gf_X11_120 (by first | assumption | rfl) (by first | assumption | exact Nat.le_of_ble_eq_true rfl | omega) rfl ?_
  rw [hi.2.1.2.2.1]
  refine X_aload_n dX11_shortest_7 rfl ?_
  refine X_getR dX11_shortest_8 gf_X11_19 (by first | assumption | rfl) (by first | assumption | exact Nat.le_of_ble_eq_true rfl | omega) rfl (by first | assumption | rfl) ?_
  refine X_getR dX11_shortest_11 gf_X11_106 (by first | assumption | rfl) (by first | assumption | exact Nat.le_of_ble_eq_true rfl | omega) rfl (by first | assumption | rfl) ?_
  refine X_cVi dX11_shortest_14 ck_X11_273 rfl rfl (by first | assumption | rfl) (by first | assumption | exact Nat.le_of_ble_eq_true rfl | omega) (by omega) (Nat.le_of_ble_eq_true rfl) (c_named (by omega) cd8 hi.2.1.1 hv.2.1.1 ?_)
  first | refine X_iorN dX11_shortest_17 ?_ | refine X_ior dX11_shortest_17 ?_
  refine X_iconst (v := nI 3) dX11_shortest_18 (by decide) ?_
  by_cases h3 : 3 < (dW s.2.1 ||| nmd (dC s.2.1).2 (dC s.2.1).1)
  · rw [if_pos h3]
    refine X_icmp_le (tgt := 25) dX11_shortest_19 (by decide) (fun b19 => ?_) (fun b19 => ?_)
    · exact absurd ((nle (by omega) (by omega)).mp b19) (by omega)
    refine X_bipush (v := (-3)) dX11_shortest_22 (by decide) ?_
    exact X_iret dX11_shortest_24 rfl ⟨_, rfl, ⟨rfl, I, J, sw, rfl, hi, hs, fun _ _ => rfl⟩⟩
  · rw [if_neg h3]
    refine X_icmp_le (tgt := 25) dX11_shortest_19 (by decide) (fun b19 => ?_) (fun b19 => ?_)
    · refine X_aload_n dX11_shortest_25 rfl ?_
      refine X_getR dX11_shortest_26 gf_X11_79 (by first | assumption | rfl) (by first | assumption | exact Nat.le_of_ble_eq_true rfl | omega) rfl (by first | assumption | rfl) ?_
      refine X_aload_n dX11_shortest_29 rfl ?_
      refine X_getR dX11_shortest_30 gf_X11_19 (by first | assumption | rfl) (by first | assumption | exact Nat.le_of_ble_eq_true rfl | omega) rfl (by first | assumption | rfl) ?_
      refine X_getR dX11_shortest_33 gf_X11_106 (by first | assumption | rfl) (by first | assumption | exact Nat.le_of_ble_eq_true rfl | omega) rfl (by first | assumption | rfl) ?_
      refine X_aload_n dX11_shortest_36 rfl ?_
      refine X_getR dX11_shortest_37 gf_X11_19 (by first | assumption | rfl) (by first | assumption | exact Nat.le_of_ble_eq_true rfl | omega) rfl (by first | assumption | rfl) ?_
      refine X_getI dX11_shortest_40 gf_X11_120 (by first | assumption | rfl) (by first | assumption | exact Nat.le_of_ble_eq_true rfl | omega) rfl ?_
      rw [hi.2.1.2.2.1]
      have hW4 : dW s.2.1 < 4 := by
        have : dW s.2.1 ≤ dW s.2.1 ||| nmd (dC s.2.1).2 (dC s.2.1).1 := Nat.left_le_or
        omega
      refine X_cVv dX11_shortest_43 ck_X11_276 rfl rfl (by first | assumption | rfl) (by first | assumption | exact Nat.le_of_ble_eq_true rfl | omega) (by omega) (Nat.le_of_ble_eq_true rfl) (c_find (by omega) hi.2.1.1 hv.2.1.1 hW.1 hW4 hs (fun I1 J1 f1 g1 s1 r1 => ?_))
      have fin : ∀ a, PCs s a I J a (NC, I1, J1, layR sw) := fun a => ⟨rfl, I1, J1, sw, rfl, CInv_fr hi hv f1 (by decide), s1, fun k hk => f1 k (by simp; omega)⟩
      unfold SRs at r1
      rcases hsh : shr (dW s.2.1) (duV (AA (dC s.2.1).2 (dC s.2.1).1)) with _ | p
      · rw [hsh] at r1
        dsimp only at r1 ⊢
        refine X_iload_n dX11_shortest_46 rfl ?_
        refine X_iconst (v := (-1)) dX11_shortest_47 (by decide) ?_
        refine X_icmp_ne (tgt := 59) dX11_shortest_48 (by decide) (fun b48 => ?_) (fun b48 => ?_)
        · refine X_iload_n dX11_shortest_59 rfl ?_
          refine X_if_lt (tgt := 86) dX11_shortest_60 (by decide) (fun b60 => ?_) (fun b60 => ?_)
          · refine X_bipush (v := (-6)) dX11_shortest_86 (by decide) ?_
            exact X_iret dX11_shortest_88 rfl ⟨_, rfl, fin _⟩
          refine X_iload_n dX11_shortest_63 rfl ?_
          refine X_aload_n dX11_shortest_64 rfl ?_
          refine X_getR dX11_shortest_65 gf_X11_79 (by first | assumption | rfl) (by first | assumption | exact Nat.le_of_ble_eq_true rfl | omega) rfl (by first | assumption | rfl) ?_
          refine X_getI dX11_shortest_68 gf_X11_279 (by first | assumption | rfl) (by first | assumption | exact Nat.le_of_ble_eq_true rfl | omega) rfl ?_
          rw [r1]
          refine X_icmp_ge (tgt := 86) dX11_shortest_71 (by decide) (fun b71 => ?_) (fun b71 => ?_)
          · refine X_bipush (v := (-6)) dX11_shortest_86 (by decide) ?_
            exact X_iret dX11_shortest_88 rfl ⟨_, rfl, fin _⟩
          · exact absurd (Int32.lt_of_lt_of_le (show (-6 : Int32) < 0 by decide) (Int32.not_lt.mp b60)) (fun z => b71 (Int32.le_of_lt z))
        · refine X_aload_n dX11_shortest_51 rfl ?_
          refine X_getR dX11_shortest_52 gf_X11_79 (by first | assumption | rfl) (by first | assumption | exact Nat.le_of_ble_eq_true rfl | omega) rfl (by first | assumption | rfl) ?_
          refine X_getI dX11_shortest_55 gf_X11_279 (by first | assumption | rfl) (by first | assumption | exact Nat.le_of_ble_eq_true rfl | omega) rfl ?_
          rw [r1]
          exact X_iret dX11_shortest_58 rfl ⟨_, rfl, fin _⟩
      · rw [hsh] at r1
        dsimp only at r1 ⊢
        obtain ⟨r2, r3, r4⟩ := r1
        refine X_iload_n dX11_shortest_46 rfl ?_
        refine X_iconst (v := (-1)) dX11_shortest_47 (by decide) ?_
        refine X_icmp_ne (tgt := 59) dX11_shortest_48 (by decide) (fun b48 => ?_) (fun b48 => ?_)
        · rw [if_neg b48]
          refine X_iload_n dX11_shortest_59 rfl ?_
          refine X_if_lt (tgt := 86) dX11_shortest_60 (by decide) (fun b60 => ?_) (fun b60 => ?_)
          · rw [if_pos (Or.inl b60)]
            refine X_bipush (v := (-6)) dX11_shortest_86 (by decide) ?_
            exact X_iret dX11_shortest_88 rfl ⟨_, rfl, fin _⟩
          refine X_iload_n dX11_shortest_63 rfl ?_
          refine X_aload_n dX11_shortest_64 rfl ?_
          refine X_getR dX11_shortest_65 gf_X11_79 (by first | assumption | rfl) (by first | assumption | exact Nat.le_of_ble_eq_true rfl | omega) rfl (by first | assumption | rfl) ?_
          refine X_getI dX11_shortest_68 gf_X11_279 (by first | assumption | rfl) (by first | assumption | exact Nat.le_of_ble_eq_true rfl | omega) rfl ?_
          rw [r2]
          refine X_icmp_ge (tgt := 86) dX11_shortest_71 (by decide) (fun b71 => ?_) (fun b71 => ?_)
          · rw [if_pos (Or.inr b71)]
            refine X_bipush (v := (-6)) dX11_shortest_86 (by decide) ?_
            exact X_iret dX11_shortest_88 rfl ⟨_, rfl, fin _⟩
          · obtain ⟨a, ha, rfl⟩ : ∃ a, a < p.1 ∧ x = nI a := by
              rcases scase (n := p.1) (by omega) x with h | h
              · exact absurd h (fun q => q.elim b60 b71)
              · exact h
            rw [if_neg (fun q => q.elim b60 b71), nI_clamp (by omega)]
            refine X_aload_n dX11_shortest_74 rfl ?_
            refine X_getR dX11_shortest_75 gf_X11_79 (by first | assumption | rfl) (by first | assumption | exact Nat.le_of_ble_eq_true rfl | omega) rfl (by first | assumption | rfl) ?_
            refine X_getR dX11_shortest_78 gf_X11_282 (by first | assumption | rfl) (by first | assumption | exact Nat.le_of_ble_eq_true rfl | omega) rfl (by first | assumption | rfl) ?_
            refine X_iload_n dX11_shortest_81 rfl ?_
            first | refine X_iald dX11_shortest_82 (by first | assumption | rfl) (by first | assumption | exact Nat.le_of_ble_eq_true rfl | omega) rfl (by first | decide | omega) (by decide) ?_ | refine X_ildA dX11_shortest_82 rfl (by omega) ?_ | refine X_ildM dX11_shortest_82 rfl (by omega) ?_ | refine X_sld dX11_shortest_82 rfl (by omega) (by omega) ?_
            rw [r4 a ha]
            refine X_goto (tgt := 88) dX11_shortest_83 (by decide) ?_
            exact X_iret dX11_shortest_88 rfl ⟨_, rfl, fin _⟩
        · rw [if_pos b48]
          refine X_aload_n dX11_shortest_51 rfl ?_
          refine X_getR dX11_shortest_52 gf_X11_79 (by first | assumption | rfl) (by first | assumption | exact Nat.le_of_ble_eq_true rfl | omega) rfl (by first | assumption | rfl) ?_
          refine X_getI dX11_shortest_55 gf_X11_279 (by first | assumption | rfl) (by first | assumption | exact Nat.le_of_ble_eq_true rfl | omega) rfl ?_
          rw [r2]
          exact X_iret dX11_shortest_58 rfl ⟨_, rfl, fin _⟩
    · exact absurd ((nle (by omega) (by omega)).mpr (by omega)) b19
end CF
