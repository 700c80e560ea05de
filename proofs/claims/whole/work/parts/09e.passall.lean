section RI
variable {G : GG} {d : Nat} {sw : Bool} {I : Nat → Nat → Int32} {J : Nat → Nat → Int64} {s : SS}
theorem c_pass2 {Q : Int32 → Mm → Prop} {I1 : Nat → Nat → Int32} {T : Nat → Int32} {b p : Nat} {wr : Bool} {v : Int32} (hm : Md I T b wr) (hp : p < 209) (hb : b ≤ 300) (hs : PS I I1 T b p) (hval : wr = true → v = T p)
    (hQ : ∀ I2, PS I I2 T b (p + 1) → (∀ k, k ≠ 170 → k ≠ 204 → I2 k = I1 k) → (∀ f, f ≠ 46 → I2 170 f = I1 170 f) → Q (T p) (NC, I2, J, layR sw)) : Y G d zX12_pass [vr 170, vi v] (NC, I1, J, layR sw) 0 0 (qi Q) :=
  c_pass hm hp hb hs hval (hQ _ (PS_K hs) (fun k h1 h2 => by rw [sr_ne h1, sr_ne h2]) (fun f hf => by rw [sr_eq, up_ne hf]))
def fT (I1 : Nat → Nat → Int32) (T : Nat → Int32) : Prop := I1 170 9 = T 0 ∧ I1 170 11 = T 1 ∧ I1 170 12 = T 2 ∧ I1 170 13 = T 3 ∧ I1 170 39 = T 4
theorem fT.fr {I1 I2 : Nat → Nat → Int32} {T : Nat → Int32} (h : fT I1 T) (he : ∀ f, f ≠ 46 → I2 170 f = I1 170 f) : fT I2 T := by
  obtain ⟨h1, h2, h3, h4, h5⟩ := h
  exact ⟨by rw [he 9 (by decide)]; exact h1, by rw [he 11 (by decide)]; exact h2, by rw [he 12 (by decide)]; exact h3, by rw [he 13 (by decide)]; exact h4, by rw [he 39 (by decide)]; exact h5⟩
/-- a row of which the first i places hold T from t on by steps of u, the rest what it held -/
def rT (f f0 : Nat → Int32) (T : Nat → Int32) (t u i : Nat) : Prop := (∀ q, q < i → f q = T (t + u * q)) ∧ ∀ q, i ≤ q → f q = f0 q
theorem rT.nx {f f0 T : Nat → Int32} {t u i : Nat} (h : rT f f0 T t u i) : rT (up f i (T (t + u * i))) f0 T t u (i + 1) := by
  refine ⟨fun q hq => ?_, fun q hq => ?_⟩
  · by_cases h2 : q = i
    · subst h2; exact up_eq
    · rw [up_ne h2]; exact h.1 q (by omega)
  · rw [up_ne (by omega)]; exact h.2 q (by omega)
theorem rT.z {f0 T : Nat → Int32} {t u : Nat} : rT f0 f0 T t u 0 := ⟨fun q hq => absurd hq (Nat.not_lt_zero q), fun q _ => rfl⟩
set_option maxRecDepth 20000 in
set_option maxHeartbeats 4000000 in
theorem pa4 {Q : Mm → Prop} {T : Nat → Int32} {b : Nat} {wr : Bool} (hd : 1 ≤ d) (hm : Md I T b wr) (hb : b ≤ 300) (hQ : ∀ I', PS I I' T b 209 → LvT I' T → Q (NC, I', J, layR sw)) :
    ∀ (m i : Nat) (I1 : Nat → Nat → Int32), m = 96 - i → i ≤ 96 → PS I I1 T b (113 + i) → fT I1 T → (∀ q, q < 4 → I1 177 q = T (5 + 3 * q) ∧ I1 198 q = T (6 + 3 * q) ∧ I1 199 q = T (7 + 3 * q)) → (∀ q, q < 12 → I1 172 q = T (17 + 4 * q + 0) ∧ I1 173 q = T (17 + 4 * q + 1) ∧ I1 174 q = T (17 + 4 * q + 2) ∧ I1 175 q = T (17 + 4 * q + 3)) → (∀ q, q < 48 → I1 176 q = T (65 + q)) → rT (I1 197) (I 197) T 113 1 i →
      X G d zX12_passAll 231 [(0, vr 170), (1, vi (nI i))] [] (NC, I1, J, layR sw) 0 0 (qv Q) := by
  intro m
  induction m with
  | zero =>
    intro i I1 hmi hi hs hf r1 r2 r3 r4
    obtain rfl : i = 96 := by omega
    refine X_iload_n dX12_passAll_231 rfl ?_
    refine X_bipush (v := nI 96) dX12_passAll_232 (by decide) ?_
    refine X_icmp_ge (tgt := 259) dX12_passAll_234 (by decide) (fun h => ?_) (fun h => ?_)
    · exact X_vret dX12_passAll_259 rfl ⟨rfl, hQ I1 hs ⟨hf, r1, r2, r3, fun q hq => by rw [r4.1 q hq, Nat.one_mul]⟩⟩
    · exact absurd (Int32.le_refl _) h
  | succ m ih =>
    intro i I1 hmi hi hs hf r1 r2 r3 r4
    refine X_iload_n dX12_passAll_231 rfl ?_
    refine X_bipush (v := nI 96) dX12_passAll_232 (by decide) ?_
    refine X_icmp_ge (tgt := 259) dX12_passAll_234 (by decide) (fun h => ?_) (fun h => ?_)
    · exact absurd ((nle (by omega) (by omega)).mp h) (by omega)
    refine X_aload_n dX12_passAll_237 rfl ?_
    refine X_getR dX12_passAll_238 gf_X12_89 (by first | assumption | rfl) (by first | assumption | exact Nat.le_of_ble_eq_true rfl | omega) rfl (by first | assumption | rfl) ?_
    refine X_iload_n dX12_passAll_241 rfl ?_
    refine X_aload_n dX12_passAll_242 rfl ?_
    refine X_aload_n dX12_passAll_243 rfl ?_
    refine X_getR dX12_passAll_244 gf_X12_89 (by first | assumption | rfl) (by first | assumption | exact Nat.le_of_ble_eq_true rfl | omega) rfl (by first | assumption | rfl) ?_
    refine X_iload_n dX12_passAll_247 rfl ?_
    first | refine X_iald dX12_passAll_248 (by first | assumption | rfl) (by first | assumption | exact Nat.le_of_ble_eq_true rfl | omega) rfl (by first | decide | omega) (by decide) ?_ | refine X_ildA dX12_passAll_248 rfl (by omega) ?_ | refine X_ildM dX12_passAll_248 rfl (by omega) ?_ | refine X_sld dX12_passAll_248 rfl (by omega) (by omega) ?_
    refine X_cVi dX12_passAll_249 ck_X12_422 rfl rfl (by first | assumption | rfl) (by first | assumption | exact Nat.le_of_ble_eq_true rfl | omega) (by omega) (Nat.le_of_ble_eq_true rfl) (c_pass2 hm (by omega) hb hs (fun q => by subst q; rw [r4.2 i (Nat.le_refl i)]; exact (T_wr hm).2.2.2.2 i (by omega)) (fun I2 p2 e2 g2 => ?_))
    refine X_iast dX12_passAll_252 (by first | assumption | rfl) (by first | assumption | exact Nat.le_of_ble_eq_true rfl | omega) rfl (by first | decide | omega) (by decide) ?_
    first | refine X_iinc1 dX12_passAll_253 rfl rfl rfl ?_ | refine X_iinc dX12_passAll_253 rfl rfl rfl rfl ?_
    refine X_goto (tgt := 231) dX12_passAll_256 (by decide) ?_
    refine ih (i + 1) _ (by omega) (by omega) (PS_sr p2 (by decide)) (hf.fr (fun f hf2 => by rw [sr_ne (by decide)]; exact g2 f hf2)) ?_ ?_ ?_ ?_
    · rw [sr_ne (by decide), sr_ne (by decide), sr_ne (by decide), e2 177 (by decide) (by decide), e2 198 (by decide) (by decide), e2 199 (by decide) (by decide)]; exact r1
    · rw [sr_ne (by decide), sr_ne (by decide), sr_ne (by decide), sr_ne (by decide), e2 172 (by decide) (by decide), e2 173 (by decide) (by decide), e2 174 (by decide) (by decide), e2 175 (by decide) (by decide)]; exact r2
    · rw [sr_ne (by decide), e2 176 (by decide) (by decide)]; exact r3
    · rw [sr_eq, e2 197 (by decide) (by decide)]
      have := r4.nx
      rw [Nat.one_mul] at this
      exact this
set_option maxRecDepth 20000 in
set_option maxHeartbeats 4000000 in
theorem pa3 {Q : Mm → Prop} {T : Nat → Int32} {b : Nat} {wr : Bool} (hd : 1 ≤ d) (hm : Md I T b wr) (hb : b ≤ 300) (hQ : ∀ I', PS I I' T b 209 → LvT I' T → Q (NC, I', J, layR sw)) :
    ∀ (m i : Nat) (I1 : Nat → Nat → Int32), m = 48 - i → i ≤ 48 → PS I I1 T b (65 + i) → fT I1 T → (∀ q, q < 4 → I1 177 q = T (5 + 3 * q) ∧ I1 198 q = T (6 + 3 * q) ∧ I1 199 q = T (7 + 3 * q)) → (∀ q, q < 12 → I1 172 q = T (17 + 4 * q + 0) ∧ I1 173 q = T (17 + 4 * q + 1) ∧ I1 174 q = T (17 + 4 * q + 2) ∧ I1 175 q = T (17 + 4 * q + 3)) → rT (I1 176) (I 176) T 65 1 i → I1 197 = I 197 →
      X G d zX12_passAll 201 [(0, vr 170), (1, vi (nI i))] [] (NC, I1, J, layR sw) 0 0 (qv Q) := by
  intro m
  induction m with
  | zero =>
    intro i I1 hmi hi hs hf r1 r2 r3 r4
    obtain rfl : i = 48 := by omega
    refine X_iload_n dX12_passAll_201 rfl ?_
    refine X_bipush (v := nI 48) dX12_passAll_202 (by decide) ?_
    refine X_icmp_ge (tgt := 229) dX12_passAll_204 (by decide) (fun h => ?_) (fun h => ?_)
    · refine X_iconst (v := nI 0) dX12_passAll_229 (by decide) ?_
      refine X_istore_n dX12_passAll_230 rfl rfl ?_
      exact pa4 hd hm hb hQ 96 0 I1 rfl (by decide) hs hf r1 r2 (fun q hq => by rw [r3.1 q hq, Nat.one_mul]) (by rw [r4]; exact rT.z)
    · exact absurd (Int32.le_refl _) h
  | succ m ih =>
    intro i I1 hmi hi hs hf r1 r2 r3 r4
    refine X_iload_n dX12_passAll_201 rfl ?_
    refine X_bipush (v := nI 48) dX12_passAll_202 (by decide) ?_
    refine X_icmp_ge (tgt := 229) dX12_passAll_204 (by decide) (fun h => ?_) (fun h => ?_)
    · exact absurd ((nle (by omega) (by omega)).mp h) (by omega)
    refine X_aload_n dX12_passAll_207 rfl ?_
    refine X_getR dX12_passAll_208 gf_X12_25 (by first | assumption | rfl) (by first | assumption | exact Nat.le_of_ble_eq_true rfl | omega) rfl (by first | assumption | rfl) ?_
    refine X_iload_n dX12_passAll_211 rfl ?_
    refine X_aload_n dX12_passAll_212 rfl ?_
    refine X_aload_n dX12_passAll_213 rfl ?_
    refine X_getR dX12_passAll_214 gf_X12_25 (by first | assumption | rfl) (by first | assumption | exact Nat.le_of_ble_eq_true rfl | omega) rfl (by first | assumption | rfl) ?_
    refine X_iload_n dX12_passAll_217 rfl ?_
    first | refine X_iald dX12_passAll_218 (by first | assumption | rfl) (by first | assumption | exact Nat.le_of_ble_eq_true rfl | omega) rfl (by first | decide | omega) (by decide) ?_ | refine X_ildA dX12_passAll_218 rfl (by omega) ?_ | refine X_ildM dX12_passAll_218 rfl (by omega) ?_ | refine X_sld dX12_passAll_218 rfl (by omega) (by omega) ?_
    refine X_cVi dX12_passAll_219 ck_X12_422 rfl rfl (by first | assumption | rfl) (by first | assumption | exact Nat.le_of_ble_eq_true rfl | omega) (by omega) (Nat.le_of_ble_eq_true rfl) (c_pass2 hm (by omega) hb hs (fun q => by subst q; rw [r3.2 i (Nat.le_refl i)]; exact (T_wr hm).2.2.2.1 i (by omega)) (fun I2 p2 e2 g2 => ?_))
    refine X_iast dX12_passAll_222 (by first | assumption | rfl) (by first | assumption | exact Nat.le_of_ble_eq_true rfl | omega) rfl (by first | decide | omega) (by decide) ?_
    first | refine X_iinc1 dX12_passAll_223 rfl rfl rfl ?_ | refine X_iinc dX12_passAll_223 rfl rfl rfl rfl ?_
    refine X_goto (tgt := 201) dX12_passAll_226 (by decide) ?_
    refine ih (i + 1) _ (by omega) (by omega) (PS_sr p2 (by decide)) (hf.fr (fun f hf2 => by rw [sr_ne (by decide)]; exact g2 f hf2)) ?_ ?_ ?_ ?_
    · rw [sr_ne (by decide), sr_ne (by decide), sr_ne (by decide), e2 177 (by decide) (by decide), e2 198 (by decide) (by decide), e2 199 (by decide) (by decide)]; exact r1
    · rw [sr_ne (by decide), sr_ne (by decide), sr_ne (by decide), sr_ne (by decide), e2 172 (by decide) (by decide), e2 173 (by decide) (by decide), e2 174 (by decide) (by decide), e2 175 (by decide) (by decide)]; exact r2
    · rw [sr_eq, e2 176 (by decide) (by decide)]
      have := r3.nx
      rw [Nat.one_mul] at this
      exact this
    · rw [sr_ne (by decide), e2 197 (by decide) (by decide)]; exact r4
set_option maxRecDepth 20000 in
set_option maxHeartbeats 4000000 in
theorem pa2 {Q : Mm → Prop} {T : Nat → Int32} {b : Nat} {wr : Bool} (hd : 1 ≤ d) (hm : Md I T b wr) (hb : b ≤ 300) (hQ : ∀ I', PS I I' T b 209 → LvT I' T → Q (NC, I', J, layR sw)) :
    ∀ (m i : Nat) (I1 : Nat → Nat → Int32), m = 12 - i → i ≤ 12 → PS I I1 T b (17 + 4 * i) → fT I1 T → (∀ q, q < 4 → I1 177 q = T (5 + 3 * q) ∧ I1 198 q = T (6 + 3 * q) ∧ I1 199 q = T (7 + 3 * q)) → rT (I1 172) (I 172) T 17 4 i → rT (I1 173) (I 173) T 18 4 i → rT (I1 174) (I 174) T 19 4 i → rT (I1 175) (I 175) T 20 4 i → I1 176 = I 176 → I1 197 = I 197 →
      X G d zX12_passAll 123 [(0, vr 170), (1, vi (nI i))] [] (NC, I1, J, layR sw) 0 0 (qv Q) := by
  intro m
  induction m with
  | zero =>
    intro i I1 hmi hi hs hf r1 t1 t2 t3 t4 r3 r4
    obtain rfl : i = 12 := by omega
    refine X_iload_n dX12_passAll_123 rfl ?_
    refine X_bipush (v := nI 12) dX12_passAll_124 (by decide) ?_
    refine X_icmp_ge (tgt := 199) dX12_passAll_126 (by decide) (fun h => ?_) (fun h => ?_)
    · refine X_iconst (v := nI 0) dX12_passAll_199 (by decide) ?_
      refine X_istore_n dX12_passAll_200 rfl rfl ?_
      exact pa3 hd hm hb hQ 48 0 I1 rfl (by decide) hs hf r1 (fun q hq => ⟨t1.1 q hq, by rw [t2.1 q hq]; congr 1; omega, by rw [t3.1 q hq]; congr 1; omega, by rw [t4.1 q hq]; congr 1; omega⟩) (by rw [r3]; exact rT.z) r4
    · exact absurd (Int32.le_refl _) h
  | succ m ih =>
    intro i I1 hmi hi hs hf r1 t1 t2 t3 t4 r3 r4
    refine X_iload_n dX12_passAll_123 rfl ?_
    refine X_bipush (v := nI 12) dX12_passAll_124 (by decide) ?_
    refine X_icmp_ge (tgt := 199) dX12_passAll_126 (by decide) (fun h => ?_) (fun h => ?_)
    · exact absurd ((nle (by omega) (by omega)).mp h) (by omega)
    refine X_aload_n dX12_passAll_129 rfl ?_
    refine X_getR dX12_passAll_130 gf_X12_13 (by first | assumption | rfl) (by first | assumption | exact Nat.le_of_ble_eq_true rfl | omega) rfl (by first | assumption | rfl) ?_
    refine X_iload_n dX12_passAll_133 rfl ?_
    refine X_aload_n dX12_passAll_134 rfl ?_
    refine X_aload_n dX12_passAll_135 rfl ?_
    refine X_getR dX12_passAll_136 gf_X12_13 (by first | assumption | rfl) (by first | assumption | exact Nat.le_of_ble_eq_true rfl | omega) rfl (by first | assumption | rfl) ?_
    refine X_iload_n dX12_passAll_139 rfl ?_
    first | refine X_iald dX12_passAll_140 (by first | assumption | rfl) (by first | assumption | exact Nat.le_of_ble_eq_true rfl | omega) rfl (by first | decide | omega) (by decide) ?_ | refine X_ildA dX12_passAll_140 rfl (by omega) ?_ | refine X_ildM dX12_passAll_140 rfl (by omega) ?_ | refine X_sld dX12_passAll_140 rfl (by omega) (by omega) ?_
    refine X_cVi dX12_passAll_141 ck_X12_422 rfl rfl (by first | assumption | rfl) (by first | assumption | exact Nat.le_of_ble_eq_true rfl | omega) (by omega) (Nat.le_of_ble_eq_true rfl) (c_pass2 hm (by omega) hb hs (fun q => by subst q; rw [t1.2 i (Nat.le_refl i)]; exact ((T_wr hm).2.2.1 i (by omega)).1) (fun I2 p2 e2 g2 => ?_))
    refine X_iast dX12_passAll_144 (by first | assumption | rfl) (by first | assumption | exact Nat.le_of_ble_eq_true rfl | omega) rfl (by first | decide | omega) (by decide) ?_
    refine X_aload_n dX12_passAll_145 rfl ?_
    refine X_getR dX12_passAll_146 gf_X12_16 (by first | assumption | rfl) (by first | assumption | exact Nat.le_of_ble_eq_true rfl | omega) rfl (by first | assumption | rfl) ?_
    refine X_iload_n dX12_passAll_149 rfl ?_
    refine X_aload_n dX12_passAll_150 rfl ?_
    refine X_aload_n dX12_passAll_151 rfl ?_
    refine X_getR dX12_passAll_152 gf_X12_16 (by first | assumption | rfl) (by first | assumption | exact Nat.le_of_ble_eq_true rfl | omega) rfl (by first | assumption | rfl) ?_
    refine X_iload_n dX12_passAll_155 rfl ?_
    first | refine X_iald dX12_passAll_156 (by first | assumption | rfl) (by first | assumption | exact Nat.le_of_ble_eq_true rfl | omega) rfl (by first | decide | omega) (by decide) ?_ | refine X_ildA dX12_passAll_156 rfl (by omega) ?_ | refine X_ildM dX12_passAll_156 rfl (by omega) ?_ | refine X_sld dX12_passAll_156 rfl (by omega) (by omega) ?_
    rw [sr_ne (show 173 ≠ 172 by decide), e2 173 (by decide) (by decide)]
    refine X_cVi dX12_passAll_157 ck_X12_422 rfl rfl (by first | assumption | rfl) (by first | assumption | exact Nat.le_of_ble_eq_true rfl | omega) (by omega) (Nat.le_of_ble_eq_true rfl) (c_pass2 hm (by omega) hb (PS_sr p2 (by decide)) (fun q => by subst q; rw [t2.2 i (Nat.le_refl i)]; exact ((T_wr hm).2.2.1 i (by omega)).2.1) (fun I3 p3 e3 g3 => ?_))
    refine X_iast dX12_passAll_160 (by first | assumption | rfl) (by first | assumption | exact Nat.le_of_ble_eq_true rfl | omega) rfl (by first | decide | omega) (by decide) ?_
    refine X_aload_n dX12_passAll_161 rfl ?_
    refine X_getR dX12_passAll_162 gf_X12_19 (by first | assumption | rfl) (by first | assumption | exact Nat.le_of_ble_eq_true rfl | omega) rfl (by first | assumption | rfl) ?_
    refine X_iload_n dX12_passAll_165 rfl ?_
    refine X_aload_n dX12_passAll_166 rfl ?_
    refine X_aload_n dX12_passAll_167 rfl ?_
    refine X_getR dX12_passAll_168 gf_X12_19 (by first | assumption | rfl) (by first | assumption | exact Nat.le_of_ble_eq_true rfl | omega) rfl (by first | assumption | rfl) ?_
    refine X_iload_n dX12_passAll_171 rfl ?_
    first | refine X_iald dX12_passAll_172 (by first | assumption | rfl) (by first | assumption | exact Nat.le_of_ble_eq_true rfl | omega) rfl (by first | decide | omega) (by decide) ?_ | refine X_ildA dX12_passAll_172 rfl (by omega) ?_ | refine X_ildM dX12_passAll_172 rfl (by omega) ?_ | refine X_sld dX12_passAll_172 rfl (by omega) (by omega) ?_
    rw [sr_ne (show 174 ≠ 173 by decide), e3 174 (by decide) (by decide), sr_ne (show 174 ≠ 172 by decide), e2 174 (by decide) (by decide)]
    refine X_cVi dX12_passAll_173 ck_X12_422 rfl rfl (by first | assumption | rfl) (by first | assumption | exact Nat.le_of_ble_eq_true rfl | omega) (by omega) (Nat.le_of_ble_eq_true rfl) (c_pass2 hm (by omega) hb (PS_sr p3 (by decide)) (fun q => by subst q; rw [t3.2 i (Nat.le_refl i)]; exact ((T_wr hm).2.2.1 i (by omega)).2.2.1) (fun I4 p4 e4 g4 => ?_))
    refine X_iast dX12_passAll_176 (by first | assumption | rfl) (by first | assumption | exact Nat.le_of_ble_eq_true rfl | omega) rfl (by first | decide | omega) (by decide) ?_
    refine X_aload_n dX12_passAll_177 rfl ?_
    refine X_getR dX12_passAll_178 gf_X12_22 (by first | assumption | rfl) (by first | assumption | exact Nat.le_of_ble_eq_true rfl | omega) rfl (by first | assumption | rfl) ?_
    refine X_iload_n dX12_passAll_181 rfl ?_
    refine X_aload_n dX12_passAll_182 rfl ?_
    refine X_aload_n dX12_passAll_183 rfl ?_
    refine X_getR dX12_passAll_184 gf_X12_22 (by first | assumption | rfl) (by first | assumption | exact Nat.le_of_ble_eq_true rfl | omega) rfl (by first | assumption | rfl) ?_
    refine X_iload_n dX12_passAll_187 rfl ?_
    first | refine X_iald dX12_passAll_188 (by first | assumption | rfl) (by first | assumption | exact Nat.le_of_ble_eq_true rfl | omega) rfl (by first | decide | omega) (by decide) ?_ | refine X_ildA dX12_passAll_188 rfl (by omega) ?_ | refine X_ildM dX12_passAll_188 rfl (by omega) ?_ | refine X_sld dX12_passAll_188 rfl (by omega) (by omega) ?_
    rw [sr_ne (show 175 ≠ 174 by decide), e4 175 (by decide) (by decide), sr_ne (show 175 ≠ 173 by decide), e3 175 (by decide) (by decide), sr_ne (show 175 ≠ 172 by decide), e2 175 (by decide) (by decide)]
    refine X_cVi dX12_passAll_189 ck_X12_422 rfl rfl (by first | assumption | rfl) (by first | assumption | exact Nat.le_of_ble_eq_true rfl | omega) (by omega) (Nat.le_of_ble_eq_true rfl) (c_pass2 hm (by omega) hb (PS_sr p4 (by decide)) (fun q => by subst q; rw [t4.2 i (Nat.le_refl i)]; exact ((T_wr hm).2.2.1 i (by omega)).2.2.2) (fun I5 p5 e5 g5 => ?_))
    refine X_iast dX12_passAll_192 (by first | assumption | rfl) (by first | assumption | exact Nat.le_of_ble_eq_true rfl | omega) rfl (by first | decide | omega) (by decide) ?_
    first | refine X_iinc1 dX12_passAll_193 rfl rfl rfl ?_ | refine X_iinc dX12_passAll_193 rfl rfl rfl rfl ?_
    refine X_goto (tgt := 123) dX12_passAll_196 (by decide) ?_
    have z : ∀ k, k ≠ 170 → k ≠ 204 → k ≠ 172 → k ≠ 173 → k ≠ 174 → k ≠ 175 → sr I5 175 (up (I5 175) i (T (17 + 4 * i + 1 + 1 + 1))) k = I1 k := by
      intro k h1 h2 h3 h4 h5 h6
      rw [sr_ne h6, e5 k h1 h2, sr_ne h5, e4 k h1 h2, sr_ne h4, e3 k h1 h2, sr_ne h3, e2 k h1 h2]
    have p6 := PS_sr (k := 175) (f := up (I5 175) i (T (17 + 4 * i + 1 + 1 + 1))) p5 (by decide)
    rw [show 17 + 4 * i + 1 + 1 + 1 + 1 = 17 + 4 * (i + 1) by omega] at p6
    refine ih (i + 1) _ (by omega) (by omega) p6 (hf.fr (fun f hf2 => ?_)) ?_ ?_ ?_ ?_ ?_ ?_ ?_
    · rw [sr_ne (by decide), g5 f hf2, sr_ne (by decide), g4 f hf2, sr_ne (by decide), g3 f hf2, sr_ne (by decide), g2 f hf2]
    · rw [z 177 (by decide) (by decide) (by decide) (by decide) (by decide) (by decide), z 198 (by decide) (by decide) (by decide) (by decide) (by decide) (by decide), z 199 (by decide) (by decide) (by decide) (by decide) (by decide) (by decide)]
      exact r1
    · rw [sr_ne (by decide), e5 172 (by decide) (by decide), sr_ne (by decide), e4 172 (by decide) (by decide), sr_ne (by decide), e3 172 (by decide) (by decide), sr_eq, e2 172 (by decide) (by decide)]
      exact t1.nx
    · rw [sr_ne (by decide), e5 173 (by decide) (by decide), sr_ne (by decide), e4 173 (by decide) (by decide), sr_eq, e3 173 (by decide) (by decide), sr_ne (by decide), e2 173 (by decide) (by decide)]
      have := t2.nx
      rw [show 18 + 4 * i = 17 + 4 * i + 1 by omega] at this
      exact this
    · rw [sr_ne (by decide), e5 174 (by decide) (by decide), sr_eq, e4 174 (by decide) (by decide), sr_ne (by decide), e3 174 (by decide) (by decide), sr_ne (by decide), e2 174 (by decide) (by decide)]
      have := t3.nx
      rw [show 19 + 4 * i = 17 + 4 * i + 1 + 1 by omega] at this
      exact this
    · rw [sr_eq, e5 175 (by decide) (by decide), sr_ne (by decide), e4 175 (by decide) (by decide), sr_ne (by decide), e3 175 (by decide) (by decide), sr_ne (by decide), e2 175 (by decide) (by decide)]
      have := t4.nx
      rw [show 20 + 4 * i = 17 + 4 * i + 1 + 1 + 1 by omega] at this
      exact this
    · rw [z 176 (by decide) (by decide) (by decide) (by decide) (by decide) (by decide)]; exact r3
    · rw [z 197 (by decide) (by decide) (by decide) (by decide) (by decide) (by decide)]; exact r4
set_option maxRecDepth 20000 in
set_option maxHeartbeats 4000000 in
theorem pa1 {Q : Mm → Prop} {T : Nat → Int32} {b : Nat} {wr : Bool} (hd : 1 ≤ d) (hm : Md I T b wr) (hb : b ≤ 300) (hQ : ∀ I', PS I I' T b 209 → LvT I' T → Q (NC, I', J, layR sw)) :
    ∀ (m i : Nat) (I1 : Nat → Nat → Int32), m = 4 - i → i ≤ 4 → PS I I1 T b (5 + 3 * i) → fT I1 T → rT (I1 177) (I 177) T 5 3 i → rT (I1 198) (I 198) T 6 3 i → rT (I1 199) (I 199) T 7 3 i → (∀ k, k = 172 ∨ k = 173 ∨ k = 174 ∨ k = 175 ∨ k = 176 ∨ k = 197 → I1 k = I k) →
      X G d zX12_passAll 62 [(0, vr 170), (1, vi (nI i))] [] (NC, I1, J, layR sw) 0 0 (qv Q) := by
  intro m
  induction m with
  | zero =>
    intro i I1 hmi hi hs hf t1 t2 t3 r4
    obtain rfl : i = 4 := by omega
    refine X_iload_n dX12_passAll_62 rfl ?_
    refine X_iconst (v := nI 4) dX12_passAll_63 (by decide) ?_
    refine X_icmp_ge (tgt := 121) dX12_passAll_64 (by decide) (fun h => ?_) (fun h => ?_)
    · refine X_iconst (v := nI 0) dX12_passAll_121 (by decide) ?_
      refine X_istore_n dX12_passAll_122 rfl rfl ?_
      exact pa2 hd hm hb hQ 12 0 I1 rfl (by decide) hs hf (fun q hq => ⟨t1.1 q hq, t2.1 q hq, t3.1 q hq⟩) (by rw [r4 172 (by decide)]; exact rT.z) (by rw [r4 173 (by decide)]; exact rT.z) (by rw [r4 174 (by decide)]; exact rT.z) (by rw [r4 175 (by decide)]; exact rT.z) (r4 176 (by decide)) (r4 197 (by decide))
    · exact absurd (Int32.le_refl _) h
  | succ m ih =>
    intro i I1 hmi hi hs hf t1 t2 t3 r4
    refine X_iload_n dX12_passAll_62 rfl ?_
    refine X_iconst (v := nI 4) dX12_passAll_63 (by decide) ?_
    refine X_icmp_ge (tgt := 121) dX12_passAll_64 (by decide) (fun h => ?_) (fun h => ?_)
    · exact absurd ((nle (by omega) (by omega)).mp h) (by omega)
    refine X_aload_n dX12_passAll_67 rfl ?_
    refine X_getR dX12_passAll_68 gf_X12_28 (by first | assumption | rfl) (by first | assumption | exact Nat.le_of_ble_eq_true rfl | omega) rfl (by first | assumption | rfl) ?_
    refine X_iload_n dX12_passAll_71 rfl ?_
    refine X_aload_n dX12_passAll_72 rfl ?_
    refine X_aload_n dX12_passAll_73 rfl ?_
    refine X_getR dX12_passAll_74 gf_X12_28 (by first | assumption | rfl) (by first | assumption | exact Nat.le_of_ble_eq_true rfl | omega) rfl (by first | assumption | rfl) ?_
    refine X_iload_n dX12_passAll_77 rfl ?_
    first | refine X_iald dX12_passAll_78 (by first | assumption | rfl) (by first | assumption | exact Nat.le_of_ble_eq_true rfl | omega) rfl (by first | decide | omega) (by decide) ?_ | refine X_ildA dX12_passAll_78 rfl (by omega) ?_ | refine X_ildM dX12_passAll_78 rfl (by omega) ?_ | refine X_sld dX12_passAll_78 rfl (by omega) (by omega) ?_
    refine X_cVi dX12_passAll_79 ck_X12_422 rfl rfl (by first | assumption | rfl) (by first | assumption | exact Nat.le_of_ble_eq_true rfl | omega) (by omega) (Nat.le_of_ble_eq_true rfl) (c_pass2 hm (by omega) hb hs (fun q => by subst q; rw [t1.2 i (Nat.le_refl i)]; exact ((T_wr hm).2.1 i (by omega)).1) (fun I2 p2 e2 g2 => ?_))
    refine X_iast dX12_passAll_82 (by first | assumption | rfl) (by first | assumption | exact Nat.le_of_ble_eq_true rfl | omega) rfl (by first | decide | omega) (by decide) ?_
    refine X_aload_n dX12_passAll_83 rfl ?_
    refine X_getR dX12_passAll_84 gf_X12_92 (by first | assumption | rfl) (by first | assumption | exact Nat.le_of_ble_eq_true rfl | omega) rfl (by first | assumption | rfl) ?_
    refine X_iload_n dX12_passAll_87 rfl ?_
    refine X_aload_n dX12_passAll_88 rfl ?_
    refine X_aload_n dX12_passAll_89 rfl ?_
    refine X_getR dX12_passAll_90 gf_X12_92 (by first | assumption | rfl) (by first | assumption | exact Nat.le_of_ble_eq_true rfl | omega) rfl (by first | assumption | rfl) ?_
    refine X_iload_n dX12_passAll_93 rfl ?_
    first | refine X_iald dX12_passAll_94 (by first | assumption | rfl) (by first | assumption | exact Nat.le_of_ble_eq_true rfl | omega) rfl (by first | decide | omega) (by decide) ?_ | refine X_ildA dX12_passAll_94 rfl (by omega) ?_ | refine X_ildM dX12_passAll_94 rfl (by omega) ?_ | refine X_sld dX12_passAll_94 rfl (by omega) (by omega) ?_
    rw [sr_ne (show 198 ≠ 177 by decide), e2 198 (by decide) (by decide)]
    refine X_cVi dX12_passAll_95 ck_X12_422 rfl rfl (by first | assumption | rfl) (by first | assumption | exact Nat.le_of_ble_eq_true rfl | omega) (by omega) (Nat.le_of_ble_eq_true rfl) (c_pass2 hm (by omega) hb (PS_sr p2 (by decide)) (fun q => by subst q; rw [t2.2 i (Nat.le_refl i), show 5 + 3 * i + 1 = 6 + 3 * i by omega]; exact ((T_wr hm).2.1 i (by omega)).2.1) (fun I3 p3 e3 g3 => ?_))
    refine X_iast dX12_passAll_98 (by first | assumption | rfl) (by first | assumption | exact Nat.le_of_ble_eq_true rfl | omega) rfl (by first | decide | omega) (by decide) ?_
    refine X_aload_n dX12_passAll_99 rfl ?_
    refine X_getR dX12_passAll_100 gf_X12_95 (by first | assumption | rfl) (by first | assumption | exact Nat.le_of_ble_eq_true rfl | omega) rfl (by first | assumption | rfl) ?_
    refine X_iload_n dX12_passAll_103 rfl ?_
    refine X_aload_n dX12_passAll_104 rfl ?_
    refine X_aload_n dX12_passAll_105 rfl ?_
    refine X_getR dX12_passAll_106 gf_X12_95 (by first | assumption | rfl) (by first | assumption | exact Nat.le_of_ble_eq_true rfl | omega) rfl (by first | assumption | rfl) ?_
    refine X_iload_n dX12_passAll_109 rfl ?_
    first | refine X_iald dX12_passAll_110 (by first | assumption | rfl) (by first | assumption | exact Nat.le_of_ble_eq_true rfl | omega) rfl (by first | decide | omega) (by decide) ?_ | refine X_ildA dX12_passAll_110 rfl (by omega) ?_ | refine X_ildM dX12_passAll_110 rfl (by omega) ?_ | refine X_sld dX12_passAll_110 rfl (by omega) (by omega) ?_
    rw [sr_ne (show 199 ≠ 198 by decide), e3 199 (by decide) (by decide), sr_ne (show 199 ≠ 177 by decide), e2 199 (by decide) (by decide)]
    refine X_cVi dX12_passAll_111 ck_X12_422 rfl rfl (by first | assumption | rfl) (by first | assumption | exact Nat.le_of_ble_eq_true rfl | omega) (by omega) (Nat.le_of_ble_eq_true rfl) (c_pass2 hm (by omega) hb (PS_sr p3 (by decide)) (fun q => by subst q; rw [t3.2 i (Nat.le_refl i), show 5 + 3 * i + 1 + 1 = 7 + 3 * i by omega]; exact ((T_wr hm).2.1 i (by omega)).2.2) (fun I4 p4 e4 g4 => ?_))
    refine X_iast dX12_passAll_114 (by first | assumption | rfl) (by first | assumption | exact Nat.le_of_ble_eq_true rfl | omega) rfl (by first | decide | omega) (by decide) ?_
    first | refine X_iinc1 dX12_passAll_115 rfl rfl rfl ?_ | refine X_iinc dX12_passAll_115 rfl rfl rfl rfl ?_
    refine X_goto (tgt := 62) dX12_passAll_118 (by decide) ?_
    have p6 := PS_sr (k := 199) (f := up (I4 199) i (T (5 + 3 * i + 1 + 1))) p4 (by decide)
    rw [show 5 + 3 * i + 1 + 1 + 1 = 5 + 3 * (i + 1) by omega] at p6
    refine ih (i + 1) _ (by omega) (by omega) p6 (hf.fr (fun f hf2 => ?_)) ?_ ?_ ?_ ?_
    · rw [sr_ne (by decide), g4 f hf2, sr_ne (by decide), g3 f hf2, sr_ne (by decide), g2 f hf2]
    · rw [sr_ne (by decide), e4 177 (by decide) (by decide), sr_ne (by decide), e3 177 (by decide) (by decide), sr_eq, e2 177 (by decide) (by decide)]
      exact t1.nx
    · rw [sr_ne (by decide), e4 198 (by decide) (by decide), sr_eq, e3 198 (by decide) (by decide), sr_ne (by decide), e2 198 (by decide) (by decide)]
      have := t2.nx
      rw [show 6 + 3 * i = 5 + 3 * i + 1 by omega] at this
      exact this
    · rw [sr_eq, e4 199 (by decide) (by decide), sr_ne (by decide), e3 199 (by decide) (by decide), sr_ne (by decide), e2 199 (by decide) (by decide)]
      have := t3.nx
      rw [show 7 + 3 * i = 5 + 3 * i + 1 + 1 by omega] at this
      exact this
    · intro k hk
      rw [sr_ne (by omega), e4 k (by omega) (by omega), sr_ne (by omega), e3 k (by omega) (by omega), sr_ne (by omega), e2 k (by omega) (by omega)]
      exact r4 k hk
set_option maxRecDepth 20000 in
set_option maxHeartbeats 4000000 in
theorem c_passAll {Q : Mm → Prop} {T : Nat → Int32} {b : Nat} {wr : Bool} (hd : 1 ≤ d) (hm : Md I T b wr) (hb : b ≤ 300) (hat : I 170 46 = nI b) (hQ : ∀ I', PS I I' T b 209 → LvT I' T → Q (NC, I', J, layR sw)) : Y G d zX12_passAll [vr 170] (NC, I, J, layR sw) 0 0 (qv Q) := by
  have hs : PS I I T b 0 := ⟨hat, rfl, rfl, fun q hq => absurd hq (Nat.not_lt_zero q), fun _ _ => rfl, rfl, rfl, fun _ _ => rfl⟩
  refine Y_of rfl rfl (Nat.le_of_ble_eq_true rfl) rfl ?_
  refine X_aload_n dX12_passAll_0 rfl ?_
  refine X_aload_n dX12_passAll_1 rfl ?_
  refine X_aload_n dX12_passAll_2 rfl ?_
  refine X_getI dX12_passAll_3 gf_X12_181 (by first | assumption | rfl) (by first | assumption | exact Nat.le_of_ble_eq_true rfl | omega) rfl ?_
  refine X_cVi dX12_passAll_6 ck_X12_422 rfl rfl (by first | assumption | rfl) (by first | assumption | exact Nat.le_of_ble_eq_true rfl | omega) (by omega) (Nat.le_of_ble_eq_true rfl) (c_pass2 hm (by omega) hb hs (fun q => by subst q; exact (T_wr hm).1.1) (fun I1 p1 e1 g1 => ?_))
  refine X_putI dX12_passAll_9 gf_X12_181 (Or.inl rfl) (by first | assumption | rfl) (by first | assumption | exact Nat.le_of_ble_eq_true rfl | omega) rfl ?_
  refine X_aload_n dX12_passAll_12 rfl ?_
  refine X_aload_n dX12_passAll_13 rfl ?_
  refine X_aload_n dX12_passAll_14 rfl ?_
  refine X_getI dX12_passAll_15 gf_X12_211 (by first | assumption | rfl) (by first | assumption | exact Nat.le_of_ble_eq_true rfl | omega) rfl ?_
  rw [sr_eq, up_ne (by decide), g1 11 (by decide)]
  refine X_cVi dX12_passAll_18 ck_X12_422 rfl rfl (by first | assumption | rfl) (by first | assumption | exact Nat.le_of_ble_eq_true rfl | omega) (by omega) (Nat.le_of_ble_eq_true rfl) (c_pass2 hm (by omega) hb (PS_fd p1 (by decide)) (fun q => by subst q; exact (T_wr hm).1.2.1) (fun I2 p2 e2 g2 => ?_))
  refine X_putI dX12_passAll_21 gf_X12_211 (Or.inl rfl) (by first | assumption | rfl) (by first | assumption | exact Nat.le_of_ble_eq_true rfl | omega) rfl ?_
  refine X_aload_n dX12_passAll_24 rfl ?_
  refine X_aload_n dX12_passAll_25 rfl ?_
  refine X_aload_n dX12_passAll_26 rfl ?_
  refine X_getI dX12_passAll_27 gf_X12_116 (by first | assumption | rfl) (by first | assumption | exact Nat.le_of_ble_eq_true rfl | omega) rfl ?_
  rw [sr_eq, up_ne (by decide), g2 12 (by decide), sr_eq, up_ne (by decide), g1 12 (by decide)]
  refine X_cVi dX12_passAll_30 ck_X12_422 rfl rfl (by first | assumption | rfl) (by first | assumption | exact Nat.le_of_ble_eq_true rfl | omega) (by omega) (Nat.le_of_ble_eq_true rfl) (c_pass2 hm (by omega) hb (PS_fd p2 (by decide)) (fun q => by subst q; exact (T_wr hm).1.2.2.1) (fun I3 p3 e3 g3 => ?_))
  refine X_putI dX12_passAll_33 gf_X12_116 (Or.inl rfl) (by first | assumption | rfl) (by first | assumption | exact Nat.le_of_ble_eq_true rfl | omega) rfl ?_
  refine X_aload_n dX12_passAll_36 rfl ?_
  refine X_aload_n dX12_passAll_37 rfl ?_
  refine X_aload_n dX12_passAll_38 rfl ?_
  refine X_getI dX12_passAll_39 gf_X12_120 (by first | assumption | rfl) (by first | assumption | exact Nat.le_of_ble_eq_true rfl | omega) rfl ?_
  rw [sr_eq, up_ne (by decide), g3 13 (by decide), sr_eq, up_ne (by decide), g2 13 (by decide), sr_eq, up_ne (by decide), g1 13 (by decide)]
  refine X_cVi dX12_passAll_42 ck_X12_422 rfl rfl (by first | assumption | rfl) (by first | assumption | exact Nat.le_of_ble_eq_true rfl | omega) (by omega) (Nat.le_of_ble_eq_true rfl) (c_pass2 hm (by omega) hb (PS_fd p3 (by decide)) (fun q => by subst q; exact (T_wr hm).1.2.2.2.1) (fun I4 p4 e4 g4 => ?_))
  refine X_putI dX12_passAll_45 gf_X12_120 (Or.inl rfl) (by first | assumption | rfl) (by first | assumption | exact Nat.le_of_ble_eq_true rfl | omega) rfl ?_
  refine X_aload_n dX12_passAll_48 rfl ?_
  refine X_aload_n dX12_passAll_49 rfl ?_
  refine X_aload_n dX12_passAll_50 rfl ?_
  refine X_getI dX12_passAll_51 gf_X12_348 (by first | assumption | rfl) (by first | assumption | exact Nat.le_of_ble_eq_true rfl | omega) rfl ?_
  rw [sr_eq, up_ne (by decide), g4 39 (by decide), sr_eq, up_ne (by decide), g3 39 (by decide), sr_eq, up_ne (by decide), g2 39 (by decide), sr_eq, up_ne (by decide), g1 39 (by decide)]
  refine X_cVi dX12_passAll_54 ck_X12_422 rfl rfl (by first | assumption | rfl) (by first | assumption | exact Nat.le_of_ble_eq_true rfl | omega) (by omega) (Nat.le_of_ble_eq_true rfl) (c_pass2 hm (by omega) hb (PS_fd p4 (by decide)) (fun q => by subst q; exact (T_wr hm).1.2.2.2.2) (fun I5 p5 e5 g5 => ?_))
  refine X_putI dX12_passAll_57 gf_X12_348 (Or.inl rfl) (by first | assumption | rfl) (by first | assumption | exact Nat.le_of_ble_eq_true rfl | omega) rfl ?_
  refine X_iconst (v := nI 0) dX12_passAll_60 (by decide) ?_
  refine X_istore_n dX12_passAll_61 rfl rfl ?_
  have z : ∀ k, k ≠ 170 → k ≠ 204 → sr I5 170 (up (I5 170) 39 (T (0 + 1 + 1 + 1 + 1))) k = I k := by
    intro k h1 h2
    rw [sr_ne h1, e5 k h1 h2, sr_ne h1, e4 k h1 h2, sr_ne h1, e3 k h1 h2, sr_ne h1, e2 k h1 h2, sr_ne h1, e1 k h1 h2]
  refine pa1 hd hm hb hQ 4 0 _ rfl (by decide) (PS_fd p5 (by decide)) ⟨?_, ?_, ?_, ?_, ?_⟩ ?_ ?_ ?_ ?_
  · rw [sr_eq, up_ne (by decide), g5 9 (by decide), sr_eq, up_ne (by decide), g4 9 (by decide), sr_eq, up_ne (by decide), g3 9 (by decide), sr_eq, up_ne (by decide), g2 9 (by decide), sr_eq, up_eq]
  · rw [sr_eq, up_ne (by decide), g5 11 (by decide), sr_eq, up_ne (by decide), g4 11 (by decide), sr_eq, up_ne (by decide), g3 11 (by decide), sr_eq, up_eq]
  · rw [sr_eq, up_ne (by decide), g5 12 (by decide), sr_eq, up_ne (by decide), g4 12 (by decide), sr_eq, up_eq]
  · rw [sr_eq, up_ne (by decide), g5 13 (by decide), sr_eq, up_eq]
  · rw [sr_eq, up_eq]
  · rw [z 177 (by decide) (by decide)]; exact rT.z
  · rw [z 198 (by decide) (by decide)]; exact rT.z
  · rw [z 199 (by decide) (by decide)]; exact rT.z
  · intro k hk
    exact z k (by omega) (by omega)
end RI
