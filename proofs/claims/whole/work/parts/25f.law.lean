/-! the law: every call is made on both and the answers are alike -/
section LW
variable {G : GG} {d : Nat} {z : ZZ} {pc : Nat} {lv : List (Nat × AV)} {st : List AV} {M : Mm} {rc rs : Nat} {Q : Option AV → Mm → Prop} {I I1 I2 : Nat → Nat → Int32} {J J1 : Nat → Nat → Int64} {sw : Bool} {s s1 : SS} {i : Nat}
theorem X_cVp {idx c np k N : Nat} {z' : ZZ} {As stk : List AV} {P : Int32 → Mm → Prop} (hd : decode z.2.1 pc = .ok (.invokevirtual idx, 3)) (hck : CKV z.2.2.2.2 idx z' c np) (hnp : As.length = np) (hstk : stk = As.reverse ++ vr k :: st) (hs : sh k = (c, N)) (hk : k < M.1) (hd1 : 1 ≤ d) (hst : (st.map catA).sum ≤ 8)
    (hY : Y G (d - 1) z' (vr k :: As) M 0 0 (qi P)) (h : ∀ x M', P x M' → X G d z (pc + 3) lv (vi x :: st) M' rc rs Q) : X G d z pc lv stk M rc rs Q := by
  have := X_callV (rc := rc) (rs := rs) hd hck hnp hstk hs hk hd1 hst hY (fun r M' hq => by obtain ⟨x, rfl, hx⟩ := hq; exact h x M' hx)
  rwa [Nat.zero_add, Nat.zero_add] at this
def LI (s : SS) (I : Nat → Nat → Int32) (J : Nat → Nat → Int64) : Prop := VSt s ∧ CInv I s ∧ RInv I s ∧ SInv I J
theorem CInv_lt (h : CInv I s) (hv : VSt s) (e : ∀ k, k < 170 → I1 k = I k) : CInv I1 s := h.fr hv (by rw [e 1 (by decide)]) (e 2 (by decide)) (fun j _ b => e j (by omega))
theorem RInv_ge (h : RInv I s) (e : ∀ k, 170 ≤ k → I1 k = I k) : RInv I1 s := h.fr (fun f _ => by rw [e 170 (by decide)]) (fun k hk => e k (by simp at hk; omega))
theorem SInv_lt (h : SInv I J) (e : ∀ k, k < 170 → I1 k = I k) : SInv I1 J := by
  have i1 : I1 152 = I 152 := e 152 (by decide)
  have i2 : I1 160 = I 160 := e 160 (by decide)
  obtain ⟨h1, w, h2, h3, h4⟩ := h
  refine ⟨h1, w, by rw [i1]; exact h2, h3, h4.imp id (fun ⟨V, a, b, c⟩ => ⟨V, a, b, ?_⟩)⟩
  unfold SRs at c ⊢
  rw [i1, i2]
  exact c
theorem LI_step (hl : SInv I J) (hv : VSt s1) (hc : CInv I1 s1) (kI : ∀ k, keepC k → I1 k = I k) (kJ : ∀ k, keepC k → J1 k = J k) (hr : RInv I2 s1) (kk : ∀ k, k < 170 → I2 k = I1 k) : LI s1 I2 J1 := ⟨hv, CInv_lt hc hv kk, hr, SInv_lt (SInv_fr hl kI kJ) kk⟩
theorem keep_r (k : Nat) (h : 170 ≤ k) : keepC k := ⟨by omega, Or.inr h⟩
def LWQ : Option AV → Mm → Prop := fun r _ => r = some (vi (nI 1))
def NX (G : GG) (i : Nat) : Prop := ∀ (s : SS) (I : Nat → Nat → Int32) (J : Nat → Nat → Int64) (sw : Bool), LI s I J → X G 1300 zL_law 970 [(0, vr 1000), (1, vr 0), (2, vr 170), (3, vi (nI i))] [] (NC, I, J, layR sw) 0 0 LWQ
set_option maxRecDepth 20000 in
theorem law_0 (hn : NX G i) (hL : i + 3 ≤ gL G) (hB : gL G ≤ 1536) (hl : LI s I J) : X G 1300 zL_law 192 [(0, vr 1000), (1, vr 0), (2, vr 170), (3, vi (nI i))] [] (NC, I, J, layR sw) 0 0 LWQ := by
  obtain ⟨hv, hc, hr, hs⟩ := hl
  refine X_aload_n dL_law_192 rfl ?_
  refine X_aload_n dL_law_193 rfl ?_
  refine X_iload_n dL_law_194 rfl ?_
  refine X_iconst (v := nI 1) dL_law_195 (by decide) ?_
  first | refine X_iaddN dL_law_196 ?_ | refine X_iadd dL_law_196 ?_
  refine X_sld dL_law_197 rfl (by omega) (by omega) ?_
  refine X_cVp dL_law_198 ck_L_13 rfl rfl rfl (Nat.le_of_ble_eq_true rfl) (by decide) (Nat.le_of_ble_eq_true rfl) (C_say (by decide) hv hc) (fun x1 M1 p1 => ?_)
  obtain ⟨rfl, I1, J1, sw1, rfl, c1, k1, j1⟩ := p1
  have r1 : RInv I1 s := RInv_ge hr (fun k hk => k1 k (keep_r k hk))
  refine X_aload_n dL_law_201 rfl ?_
  refine X_aload_n dL_law_202 rfl ?_
  refine X_iload_n dL_law_203 rfl ?_
  refine X_iconst (v := nI 1) dL_law_204 (by decide) ?_
  first | refine X_iaddN dL_law_205 ?_ | refine X_iadd dL_law_205 ?_
  refine X_sld dL_law_206 rfl (by omega) (by omega) ?_
  refine X_cVp dL_law_207 ck_L_17 rfl rfl rfl (Nat.le_of_ble_eq_true rfl) (by decide) (Nat.le_of_ble_eq_true rfl) (M_say (by decide) hv r1) (fun x2 M2 p2 => ?_)
  obtain ⟨rfl, I2, rfl, r2, k2⟩ := p2
  refine X_icmp_eq (tgt := 970) dL_law_210 (by decide) (fun b => ?_) (fun b => ?_)
  · exact hn _ _ _ _ (LI_step hs (v_say hv) c1 k1 j1 r2 k2)
  · exact absurd rfl b
set_option maxRecDepth 20000 in
theorem law_1 (hn : NX G i) (hL : i + 3 ≤ gL G) (hB : gL G ≤ 1536) (hl : LI s I J) : X G 1300 zL_law 215 [(0, vr 1000), (1, vr 0), (2, vr 170), (3, vi (nI i))] [] (NC, I, J, layR sw) 0 0 LWQ := by
  obtain ⟨hv, hc, hr, hs⟩ := hl
  refine X_aload_n dL_law_215 rfl ?_
  refine X_cVp dL_law_216 ck_L_18 rfl rfl rfl (Nat.le_of_ble_eq_true rfl) (by decide) (Nat.le_of_ble_eq_true rfl) (C_wipe (by decide) hv hc) (fun x1 M1 p1 => ?_)
  obtain ⟨rfl, I1, J1, sw1, rfl, c1, k1, j1⟩ := p1
  have r1 : RInv I1 s := RInv_ge hr (fun k hk => k1 k (keep_r k hk))
  refine X_aload_n dL_law_219 rfl ?_
  refine X_cVp dL_law_220 ck_L_22 rfl rfl rfl (Nat.le_of_ble_eq_true rfl) (by decide) (Nat.le_of_ble_eq_true rfl) (M_wipe r1) (fun x2 M2 p2 => ?_)
  obtain ⟨rfl, I2, rfl, r2, k2⟩ := p2
  refine X_icmp_eq (tgt := 970) dL_law_223 (by decide) (fun b => ?_) (fun b => ?_)
  · exact hn _ _ _ _ (LI_step hs (v_wipe hv) c1 k1 j1 r2 k2)
  · exact absurd rfl b
set_option maxRecDepth 20000 in
theorem law_2 (hn : NX G i) (hL : i + 3 ≤ gL G) (hB : gL G ≤ 1536) (hl : LI s I J) : X G 1300 zL_law 228 [(0, vr 1000), (1, vr 0), (2, vr 170), (3, vi (nI i))] [] (NC, I, J, layR sw) 0 0 LWQ := by
  obtain ⟨hv, hc, hr, hs⟩ := hl
  refine X_aload_n dL_law_228 rfl ?_
  refine X_aload_n dL_law_229 rfl ?_
  refine X_iload_n dL_law_230 rfl ?_
  refine X_iconst (v := nI 1) dL_law_231 (by decide) ?_
  first | refine X_iaddN dL_law_232 ?_ | refine X_iadd dL_law_232 ?_
  refine X_sld dL_law_233 rfl (by omega) (by omega) ?_
  refine X_cVp dL_law_234 ck_L_23 rfl rfl rfl (Nat.le_of_ble_eq_true rfl) (by decide) (Nat.le_of_ble_eq_true rfl) (C_fault (by decide) hv hc) (fun x1 M1 p1 => ?_)
  obtain ⟨rfl, I1, J1, sw1, rfl, c1, k1, j1⟩ := p1
  have r1 : RInv I1 s := RInv_ge hr (fun k hk => k1 k (keep_r k hk))
  refine X_aload_n dL_law_237 rfl ?_
  refine X_aload_n dL_law_238 rfl ?_
  refine X_iload_n dL_law_239 rfl ?_
  refine X_iconst (v := nI 1) dL_law_240 (by decide) ?_
  first | refine X_iaddN dL_law_241 ?_ | refine X_iadd dL_law_241 ?_
  refine X_sld dL_law_242 rfl (by omega) (by omega) ?_
  refine X_cVp dL_law_243 ck_L_26 rfl rfl rfl (Nat.le_of_ble_eq_true rfl) (by decide) (Nat.le_of_ble_eq_true rfl) (M_fault (by decide) hv r1) (fun x2 M2 p2 => ?_)
  obtain ⟨rfl, I2, rfl, r2, k2⟩ := p2
  refine X_icmp_eq (tgt := 970) dL_law_246 (by decide) (fun b => ?_) (fun b => ?_)
  · exact hn _ _ _ _ (LI_step hs hv c1 k1 j1 r2 k2)
  · exact absurd rfl b
set_option maxRecDepth 20000 in
theorem law_3 (hn : NX G i) (hL : i + 3 ≤ gL G) (hB : gL G ≤ 1536) (hl : LI s I J) : X G 1300 zL_law 251 [(0, vr 1000), (1, vr 0), (2, vr 170), (3, vi (nI i))] [] (NC, I, J, layR sw) 0 0 LWQ := by
  obtain ⟨hv, hc, hr, hs⟩ := hl
  refine X_aload_n dL_law_251 rfl ?_
  refine X_cVp dL_law_252 ck_L_27 rfl rfl rfl (Nat.le_of_ble_eq_true rfl) (by decide) (Nat.le_of_ble_eq_true rfl) (C_code (by decide) hv hc) (fun x1 M1 p1 => ?_)
  obtain ⟨rfl, I1, J1, sw1, rfl, c1, k1, j1⟩ := p1
  have r1 : RInv I1 s := RInv_ge hr (fun k hk => k1 k (keep_r k hk))
  refine X_aload_n dL_law_255 rfl ?_
  refine X_cVp dL_law_256 ck_L_30 rfl rfl rfl (Nat.le_of_ble_eq_true rfl) (by decide) (Nat.le_of_ble_eq_true rfl) (M_code (by decide) hv r1) (fun x2 M2 p2 => ?_)
  obtain ⟨rfl, I2, rfl, r2, k2⟩ := p2
  refine X_icmp_eq (tgt := 970) dL_law_259 (by decide) (fun b => ?_) (fun b => ?_)
  · exact hn _ _ _ _ (LI_step hs (v_code hv) c1 k1 j1 r2 k2)
  · exact absurd rfl b
set_option maxRecDepth 20000 in
theorem law_4 (hn : NX G i) (hL : i + 3 ≤ gL G) (hB : gL G ≤ 1536) (hl : LI s I J) : X G 1300 zL_law 264 [(0, vr 1000), (1, vr 0), (2, vr 170), (3, vi (nI i))] [] (NC, I, J, layR sw) 0 0 LWQ := by
  obtain ⟨hv, hc, hr, hs⟩ := hl
  refine X_aload_n dL_law_264 rfl ?_
  refine X_aload_n dL_law_265 rfl ?_
  refine X_iload_n dL_law_266 rfl ?_
  refine X_iconst (v := nI 1) dL_law_267 (by decide) ?_
  first | refine X_iaddN dL_law_268 ?_ | refine X_iadd dL_law_268 ?_
  refine X_sld dL_law_269 rfl (by omega) (by omega) ?_
  refine X_cVp dL_law_270 ck_L_31 rfl rfl rfl (Nat.le_of_ble_eq_true rfl) (by decide) (Nat.le_of_ble_eq_true rfl) (C_want hv hc) (fun x1 M1 p1 => ?_)
  obtain ⟨rfl, I1, J1, sw1, rfl, c1, k1, j1⟩ := p1
  have r1 : RInv I1 s := RInv_ge hr (fun k hk => k1 k (keep_r k hk))
  refine X_aload_n dL_law_273 rfl ?_
  refine X_aload_n dL_law_274 rfl ?_
  refine X_iload_n dL_law_275 rfl ?_
  refine X_iconst (v := nI 1) dL_law_276 (by decide) ?_
  first | refine X_iaddN dL_law_277 ?_ | refine X_iadd dL_law_277 ?_
  refine X_sld dL_law_278 rfl (by omega) (by omega) ?_
  refine X_cVp dL_law_279 ck_L_34 rfl rfl rfl (Nat.le_of_ble_eq_true rfl) (by decide) (Nat.le_of_ble_eq_true rfl) (M_want (by decide) r1) (fun x2 M2 p2 => ?_)
  obtain ⟨rfl, I2, rfl, r2, k2⟩ := p2
  refine X_icmp_eq (tgt := 970) dL_law_282 (by decide) (fun b => ?_) (fun b => ?_)
  · exact hn _ _ _ _ (LI_step hs (v_want hv) c1 k1 j1 r2 k2)
  · exact absurd rfl b
set_option maxRecDepth 20000 in
theorem law_5 (hn : NX G i) (hL : i + 3 ≤ gL G) (hB : gL G ≤ 1536) (hl : LI s I J) : X G 1300 zL_law 287 [(0, vr 1000), (1, vr 0), (2, vr 170), (3, vi (nI i))] [] (NC, I, J, layR sw) 0 0 LWQ := by
  obtain ⟨hv, hc, hr, hs⟩ := hl
  refine X_aload_n dL_law_287 rfl ?_
  refine X_aload_n dL_law_288 rfl ?_
  refine X_iload_n dL_law_289 rfl ?_
  refine X_iconst (v := nI 1) dL_law_290 (by decide) ?_
  first | refine X_iaddN dL_law_291 ?_ | refine X_iadd dL_law_291 ?_
  refine X_sld dL_law_292 rfl (by omega) (by omega) ?_
  refine X_aload_n dL_law_293 rfl ?_
  refine X_iload_n dL_law_294 rfl ?_
  refine X_iconst (v := nI 2) dL_law_295 (by decide) ?_
  first | refine X_iaddN dL_law_296 ?_ | refine X_iadd dL_law_296 ?_
  refine X_sld dL_law_297 rfl (by omega) (by omega) ?_
  refine X_cVp dL_law_298 ck_L_35 rfl rfl rfl (Nat.le_of_ble_eq_true rfl) (by decide) (Nat.le_of_ble_eq_true rfl) (C_step (by decide) hv hc) (fun x1 M1 p1 => ?_)
  obtain ⟨rfl, I1, J1, sw1, rfl, c1, k1, j1⟩ := p1
  have r1 : RInv I1 s := RInv_ge hr (fun k hk => k1 k (keep_r k hk))
  refine X_aload_n dL_law_301 rfl ?_
  refine X_aload_n dL_law_302 rfl ?_
  refine X_iload_n dL_law_303 rfl ?_
  refine X_iconst (v := nI 1) dL_law_304 (by decide) ?_
  first | refine X_iaddN dL_law_305 ?_ | refine X_iadd dL_law_305 ?_
  refine X_sld dL_law_306 rfl (by omega) (by omega) ?_
  refine X_aload_n dL_law_307 rfl ?_
  refine X_iload_n dL_law_308 rfl ?_
  refine X_iconst (v := nI 2) dL_law_309 (by decide) ?_
  first | refine X_iaddN dL_law_310 ?_ | refine X_iadd dL_law_310 ?_
  refine X_sld dL_law_311 rfl (by omega) (by omega) ?_
  refine X_cVp dL_law_312 ck_L_39 rfl rfl rfl (Nat.le_of_ble_eq_true rfl) (by decide) (Nat.le_of_ble_eq_true rfl) (M_step (by decide) hv r1) (fun x2 M2 p2 => ?_)
  obtain ⟨rfl, I2, rfl, r2, k2⟩ := p2
  refine X_icmp_eq (tgt := 970) dL_law_315 (by decide) (fun b => ?_) (fun b => ?_)
  · exact hn _ _ _ _ (LI_step hs hv c1 k1 j1 r2 k2)
  · exact absurd rfl b
set_option maxRecDepth 20000 in
theorem law_6 (hn : NX G i) (hL : i + 3 ≤ gL G) (hB : gL G ≤ 1536) (hl : LI s I J) : X G 1300 zL_law 320 [(0, vr 1000), (1, vr 0), (2, vr 170), (3, vi (nI i))] [] (NC, I, J, layR sw) 0 0 LWQ := by
  obtain ⟨hv, hc, hr, hs⟩ := hl
  refine X_aload_n dL_law_320 rfl ?_
  refine X_aload_n dL_law_321 rfl ?_
  refine X_iload_n dL_law_322 rfl ?_
  refine X_iconst (v := nI 1) dL_law_323 (by decide) ?_
  first | refine X_iaddN dL_law_324 ?_ | refine X_iadd dL_law_324 ?_
  refine X_sld dL_law_325 rfl (by omega) (by omega) ?_
  refine X_aload_n dL_law_326 rfl ?_
  refine X_iload_n dL_law_327 rfl ?_
  refine X_iconst (v := nI 2) dL_law_328 (by decide) ?_
  first | refine X_iaddN dL_law_329 ?_ | refine X_iadd dL_law_329 ?_
  refine X_sld dL_law_330 rfl (by omega) (by omega) ?_
  refine X_cVp dL_law_331 ck_L_40 rfl rfl rfl (Nat.le_of_ble_eq_true rfl) (by decide) (Nat.le_of_ble_eq_true rfl) (C_run (by decide) hv hc) (fun x1 M1 p1 => ?_)
  obtain ⟨rfl, I1, J1, sw1, rfl, c1, k1, j1⟩ := p1
  have r1 : RInv I1 s := RInv_ge hr (fun k hk => k1 k (keep_r k hk))
  refine X_aload_n dL_law_334 rfl ?_
  refine X_aload_n dL_law_335 rfl ?_
  refine X_iload_n dL_law_336 rfl ?_
  refine X_iconst (v := nI 1) dL_law_337 (by decide) ?_
  first | refine X_iaddN dL_law_338 ?_ | refine X_iadd dL_law_338 ?_
  refine X_sld dL_law_339 rfl (by omega) (by omega) ?_
  refine X_aload_n dL_law_340 rfl ?_
  refine X_iload_n dL_law_341 rfl ?_
  refine X_iconst (v := nI 2) dL_law_342 (by decide) ?_
  first | refine X_iaddN dL_law_343 ?_ | refine X_iadd dL_law_343 ?_
  refine X_sld dL_law_344 rfl (by omega) (by omega) ?_
  refine X_cVp dL_law_345 ck_L_43 rfl rfl rfl (Nat.le_of_ble_eq_true rfl) (by decide) (Nat.le_of_ble_eq_true rfl) (M_run (by decide) hv r1) (fun x2 M2 p2 => ?_)
  obtain ⟨rfl, I2, rfl, r2, k2⟩ := p2
  refine X_icmp_eq (tgt := 970) dL_law_348 (by decide) (fun b => ?_) (fun b => ?_)
  · exact hn _ _ _ _ (LI_step hs hv c1 k1 j1 r2 k2)
  · exact absurd rfl b
set_option maxRecDepth 20000 in
theorem law_7 (hn : NX G i) (hL : i + 3 ≤ gL G) (hB : gL G ≤ 1536) (hl : LI s I J) : X G 1300 zL_law 353 [(0, vr 1000), (1, vr 0), (2, vr 170), (3, vi (nI i))] [] (NC, I, J, layR sw) 0 0 LWQ := by
  obtain ⟨hv, hc, hr, hs⟩ := hl
  refine X_aload_n dL_law_353 rfl ?_
  refine X_cVp dL_law_354 ck_L_44 rfl rfl rfl (Nat.le_of_ble_eq_true rfl) (by decide) (Nat.le_of_ble_eq_true rfl) (C_keep (by decide) hv hc) (fun x1 M1 p1 => ?_)
  obtain ⟨rfl, I1, J1, sw1, rfl, c1, k1, j1⟩ := p1
  have r1 : RInv I1 s := RInv_ge hr (fun k hk => k1 k (keep_r k hk))
  refine X_aload_n dL_law_357 rfl ?_
  refine X_cVp dL_law_358 ck_L_47 rfl rfl rfl (Nat.le_of_ble_eq_true rfl) (by decide) (Nat.le_of_ble_eq_true rfl) (M_keep hv r1) (fun x2 M2 p2 => ?_)
  obtain ⟨rfl, I2, rfl, r2, k2⟩ := p2
  refine X_icmp_eq (tgt := 970) dL_law_361 (by decide) (fun b => ?_) (fun b => ?_)
  · exact hn _ _ _ _ (LI_step hs (v_keep hv) c1 k1 j1 r2 k2)
  · exact absurd rfl b
set_option maxRecDepth 20000 in
theorem law_8 (hn : NX G i) (hL : i + 3 ≤ gL G) (hB : gL G ≤ 1536) (hl : LI s I J) : X G 1300 zL_law 366 [(0, vr 1000), (1, vr 0), (2, vr 170), (3, vi (nI i))] [] (NC, I, J, layR sw) 0 0 LWQ := by
  obtain ⟨hv, hc, hr, hs⟩ := hl
  refine X_aload_n dL_law_366 rfl ?_
  refine X_cVp dL_law_367 ck_L_48 rfl rfl rfl (Nat.le_of_ble_eq_true rfl) (by decide) (Nat.le_of_ble_eq_true rfl) (C_unlike (by decide) hv hc) (fun x1 M1 p1 => ?_)
  obtain ⟨rfl, I1, J1, sw1, rfl, c1, k1, j1⟩ := p1
  have r1 : RInv I1 s := RInv_ge hr (fun k hk => k1 k (keep_r k hk))
  refine X_aload_n dL_law_370 rfl ?_
  refine X_cVp dL_law_371 ck_L_51 rfl rfl rfl (Nat.le_of_ble_eq_true rfl) (by decide) (Nat.le_of_ble_eq_true rfl) (M_unlike (by decide) hv r1) (fun x2 M2 p2 => ?_)
  obtain ⟨rfl, I2, rfl, r2, k2⟩ := p2
  refine X_icmp_eq (tgt := 970) dL_law_374 (by decide) (fun b => ?_) (fun b => ?_)
  · exact hn _ _ _ _ (LI_step hs hv c1 k1 j1 r2 k2)
  · exact absurd rfl b
set_option maxRecDepth 20000 in
theorem law_9 (hn : NX G i) (hL : i + 3 ≤ gL G) (hB : gL G ≤ 1536) (hl : LI s I J) : X G 1300 zL_law 379 [(0, vr 1000), (1, vr 0), (2, vr 170), (3, vi (nI i))] [] (NC, I, J, layR sw) 0 0 LWQ := by
  obtain ⟨hv, hc, hr, hs⟩ := hl
  refine X_aload_n dL_law_379 rfl ?_
  refine X_aload_n dL_law_380 rfl ?_
  refine X_iload_n dL_law_381 rfl ?_
  refine X_iconst (v := nI 1) dL_law_382 (by decide) ?_
  first | refine X_iaddN dL_law_383 ?_ | refine X_iadd dL_law_383 ?_
  refine X_sld dL_law_384 rfl (by omega) (by omega) ?_
  refine X_cVp dL_law_385 ck_L_52 rfl rfl rfl (Nat.le_of_ble_eq_true rfl) (by decide) (Nat.le_of_ble_eq_true rfl) (C_live (by decide) hv hc) (fun x1 M1 p1 => ?_)
  obtain ⟨rfl, I1, J1, sw1, rfl, c1, k1, j1⟩ := p1
  have r1 : RInv I1 s := RInv_ge hr (fun k hk => k1 k (keep_r k hk))
  refine X_aload_n dL_law_388 rfl ?_
  refine X_aload_n dL_law_389 rfl ?_
  refine X_iload_n dL_law_390 rfl ?_
  refine X_iconst (v := nI 1) dL_law_391 (by decide) ?_
  first | refine X_iaddN dL_law_392 ?_ | refine X_iadd dL_law_392 ?_
  refine X_sld dL_law_393 rfl (by omega) (by omega) ?_
  refine X_cVp dL_law_394 ck_L_55 rfl rfl rfl (Nat.le_of_ble_eq_true rfl) (by decide) (Nat.le_of_ble_eq_true rfl) (M_live (by decide) hv r1) (fun x2 M2 p2 => ?_)
  obtain ⟨rfl, I2, rfl, r2, k2⟩ := p2
  refine X_icmp_eq (tgt := 970) dL_law_397 (by decide) (fun b => ?_) (fun b => ?_)
  · exact hn _ _ _ _ (LI_step hs hv c1 k1 j1 r2 k2)
  · exact absurd rfl b
set_option maxRecDepth 20000 in
theorem law_10 (hn : NX G i) (hL : i + 3 ≤ gL G) (hB : gL G ≤ 1536) (hl : LI s I J) : X G 1300 zL_law 402 [(0, vr 1000), (1, vr 0), (2, vr 170), (3, vi (nI i))] [] (NC, I, J, layR sw) 0 0 LWQ := by
  obtain ⟨hv, hc, hr, hs⟩ := hl
  refine X_aload_n dL_law_402 rfl ?_
  refine X_aload_n dL_law_403 rfl ?_
  refine X_iload_n dL_law_404 rfl ?_
  refine X_iconst (v := nI 1) dL_law_405 (by decide) ?_
  first | refine X_iaddN dL_law_406 ?_ | refine X_iadd dL_law_406 ?_
  refine X_sld dL_law_407 rfl (by omega) (by omega) ?_
  refine X_cVp dL_law_408 ck_L_56 rfl rfl rfl (Nat.le_of_ble_eq_true rfl) (by decide) (Nat.le_of_ble_eq_true rfl) (C_bad (by decide) hv hc) (fun x1 M1 p1 => ?_)
  obtain ⟨rfl, I1, J1, sw1, rfl, c1, k1, j1⟩ := p1
  have r1 : RInv I1 s := RInv_ge hr (fun k hk => k1 k (keep_r k hk))
  refine X_aload_n dL_law_411 rfl ?_
  refine X_aload_n dL_law_412 rfl ?_
  refine X_iload_n dL_law_413 rfl ?_
  refine X_iconst (v := nI 1) dL_law_414 (by decide) ?_
  first | refine X_iaddN dL_law_415 ?_ | refine X_iadd dL_law_415 ?_
  refine X_sld dL_law_416 rfl (by omega) (by omega) ?_
  refine X_cVp dL_law_417 ck_L_59 rfl rfl rfl (Nat.le_of_ble_eq_true rfl) (by decide) (Nat.le_of_ble_eq_true rfl) (M_bad (by decide) hv r1) (fun x2 M2 p2 => ?_)
  obtain ⟨rfl, I2, rfl, r2, k2⟩ := p2
  refine X_icmp_eq (tgt := 970) dL_law_420 (by decide) (fun b => ?_) (fun b => ?_)
  · exact hn _ _ _ _ (LI_step hs hv c1 k1 j1 r2 k2)
  · exact absurd rfl b
set_option maxRecDepth 20000 in
theorem law_11 (hn : NX G i) (hL : i + 3 ≤ gL G) (hB : gL G ≤ 1536) (hl : LI s I J) : X G 1300 zL_law 425 [(0, vr 1000), (1, vr 0), (2, vr 170), (3, vi (nI i))] [] (NC, I, J, layR sw) 0 0 LWQ := by
  obtain ⟨hv, hc, hr, hs⟩ := hl
  refine X_aload_n dL_law_425 rfl ?_
  refine X_aload_n dL_law_426 rfl ?_
  refine X_iload_n dL_law_427 rfl ?_
  refine X_iconst (v := nI 1) dL_law_428 (by decide) ?_
  first | refine X_iaddN dL_law_429 ?_ | refine X_iadd dL_law_429 ?_
  refine X_sld dL_law_430 rfl (by omega) (by omega) ?_
  refine X_aload_n dL_law_431 rfl ?_
  refine X_iload_n dL_law_432 rfl ?_
  refine X_iconst (v := nI 2) dL_law_433 (by decide) ?_
  first | refine X_iaddN dL_law_434 ?_ | refine X_iadd dL_law_434 ?_
  refine X_sld dL_law_435 rfl (by omega) (by omega) ?_
  refine X_cVp dL_law_436 ck_L_60 rfl rfl rfl (Nat.le_of_ble_eq_true rfl) (by decide) (Nat.le_of_ble_eq_true rfl) (C_known (by decide) hv hc) (fun x1 M1 p1 => ?_)
  obtain ⟨rfl, I1, J1, sw1, rfl, c1, k1, j1⟩ := p1
  have r1 : RInv I1 s := RInv_ge hr (fun k hk => k1 k (keep_r k hk))
  refine X_aload_n dL_law_439 rfl ?_
  refine X_aload_n dL_law_440 rfl ?_
  refine X_iload_n dL_law_441 rfl ?_
  refine X_iconst (v := nI 1) dL_law_442 (by decide) ?_
  first | refine X_iaddN dL_law_443 ?_ | refine X_iadd dL_law_443 ?_
  refine X_sld dL_law_444 rfl (by omega) (by omega) ?_
  refine X_aload_n dL_law_445 rfl ?_
  refine X_iload_n dL_law_446 rfl ?_
  refine X_iconst (v := nI 2) dL_law_447 (by decide) ?_
  first | refine X_iaddN dL_law_448 ?_ | refine X_iadd dL_law_448 ?_
  refine X_sld dL_law_449 rfl (by omega) (by omega) ?_
  refine X_cVp dL_law_450 ck_L_63 rfl rfl rfl (Nat.le_of_ble_eq_true rfl) (by decide) (Nat.le_of_ble_eq_true rfl) (M_known (by decide) hv r1) (fun x2 M2 p2 => ?_)
  obtain ⟨rfl, I2, rfl, r2, k2⟩ := p2
  refine X_icmp_eq (tgt := 970) dL_law_453 (by decide) (fun b => ?_) (fun b => ?_)
  · exact hn _ _ _ _ (LI_step hs hv c1 k1 j1 r2 k2)
  · exact absurd rfl b
set_option maxRecDepth 20000 in
theorem law_12 (hn : NX G i) (hL : i + 3 ≤ gL G) (hB : gL G ≤ 1536) (hl : LI s I J) : X G 1300 zL_law 458 [(0, vr 1000), (1, vr 0), (2, vr 170), (3, vi (nI i))] [] (NC, I, J, layR sw) 0 0 LWQ := by
  obtain ⟨hv, hc, hr, hs⟩ := hl
  refine X_aload_n dL_law_458 rfl ?_
  refine X_aload_n dL_law_459 rfl ?_
  refine X_iload_n dL_law_460 rfl ?_
  refine X_iconst (v := nI 1) dL_law_461 (by decide) ?_
  first | refine X_iaddN dL_law_462 ?_ | refine X_iadd dL_law_462 ?_
  refine X_sld dL_law_463 rfl (by omega) (by omega) ?_
  refine X_aload_n dL_law_464 rfl ?_
  refine X_iload_n dL_law_465 rfl ?_
  refine X_iconst (v := nI 2) dL_law_466 (by decide) ?_
  first | refine X_iaddN dL_law_467 ?_ | refine X_iadd dL_law_467 ?_
  refine X_sld dL_law_468 rfl (by omega) (by omega) ?_
  refine X_cVp dL_law_469 ck_L_64 rfl rfl rfl (Nat.le_of_ble_eq_true rfl) (by decide) (Nat.le_of_ble_eq_true rfl) (C_sort (by decide) hv hc) (fun x1 M1 p1 => ?_)
  obtain ⟨rfl, I1, J1, sw1, rfl, c1, k1, j1⟩ := p1
  have r1 : RInv I1 s := RInv_ge hr (fun k hk => k1 k (keep_r k hk))
  refine X_aload_n dL_law_472 rfl ?_
  refine X_aload_n dL_law_473 rfl ?_
  refine X_iload_n dL_law_474 rfl ?_
  refine X_iconst (v := nI 1) dL_law_475 (by decide) ?_
  first | refine X_iaddN dL_law_476 ?_ | refine X_iadd dL_law_476 ?_
  refine X_sld dL_law_477 rfl (by omega) (by omega) ?_
  refine X_aload_n dL_law_478 rfl ?_
  refine X_iload_n dL_law_479 rfl ?_
  refine X_iconst (v := nI 2) dL_law_480 (by decide) ?_
  first | refine X_iaddN dL_law_481 ?_ | refine X_iadd dL_law_481 ?_
  refine X_sld dL_law_482 rfl (by omega) (by omega) ?_
  refine X_cVp dL_law_483 ck_L_67 rfl rfl rfl (Nat.le_of_ble_eq_true rfl) (by decide) (Nat.le_of_ble_eq_true rfl) (M_sort (by decide) hv r1) (fun x2 M2 p2 => ?_)
  obtain ⟨rfl, I2, rfl, r2, k2⟩ := p2
  refine X_icmp_eq (tgt := 970) dL_law_486 (by decide) (fun b => ?_) (fun b => ?_)
  · exact hn _ _ _ _ (LI_step hs hv c1 k1 j1 r2 k2)
  · exact absurd rfl b
set_option maxRecDepth 20000 in
theorem law_13 (hn : NX G i) (hL : i + 3 ≤ gL G) (hB : gL G ≤ 1536) (hl : LI s I J) : X G 1300 zL_law 491 [(0, vr 1000), (1, vr 0), (2, vr 170), (3, vi (nI i))] [] (NC, I, J, layR sw) 0 0 LWQ := by
  obtain ⟨hv, hc, hr, hs⟩ := hl
  refine X_aload_n dL_law_491 rfl ?_
  refine X_aload_n dL_law_492 rfl ?_
  refine X_iload_n dL_law_493 rfl ?_
  refine X_iconst (v := nI 1) dL_law_494 (by decide) ?_
  first | refine X_iaddN dL_law_495 ?_ | refine X_iadd dL_law_495 ?_
  refine X_sld dL_law_496 rfl (by omega) (by omega) ?_
  refine X_cVp dL_law_497 ck_L_68 rfl rfl rfl (Nat.le_of_ble_eq_true rfl) (by decide) (Nat.le_of_ble_eq_true rfl) (C_mend (by decide) hv hc) (fun x1 M1 p1 => ?_)
  obtain ⟨rfl, I1, J1, sw1, rfl, c1, k1, j1⟩ := p1
  have r1 : RInv I1 s := RInv_ge hr (fun k hk => k1 k (keep_r k hk))
  refine X_aload_n dL_law_500 rfl ?_
  refine X_aload_n dL_law_501 rfl ?_
  refine X_iload_n dL_law_502 rfl ?_
  refine X_iconst (v := nI 1) dL_law_503 (by decide) ?_
  first | refine X_iaddN dL_law_504 ?_ | refine X_iadd dL_law_504 ?_
  refine X_sld dL_law_505 rfl (by omega) (by omega) ?_
  refine X_cVp dL_law_506 ck_L_71 rfl rfl rfl (Nat.le_of_ble_eq_true rfl) (by decide) (Nat.le_of_ble_eq_true rfl) (M_mend (by decide) hv r1) (fun x2 M2 p2 => ?_)
  obtain ⟨rfl, I2, rfl, r2, k2⟩ := p2
  refine X_icmp_eq (tgt := 970) dL_law_509 (by decide) (fun b => ?_) (fun b => ?_)
  · exact hn _ _ _ _ (LI_step hs (v_mend hv) c1 k1 j1 r2 k2)
  · exact absurd rfl b
set_option maxRecDepth 20000 in
theorem law_14 (hn : NX G i) (hL : i + 3 ≤ gL G) (hB : gL G ≤ 1536) (hl : LI s I J) : X G 1300 zL_law 514 [(0, vr 1000), (1, vr 0), (2, vr 170), (3, vi (nI i))] [] (NC, I, J, layR sw) 0 0 LWQ := by
  obtain ⟨hv, hc, hr, hs⟩ := hl
  refine X_aload_n dL_law_514 rfl ?_
  refine X_cVp dL_law_515 ck_L_72 rfl rfl rfl (Nat.le_of_ble_eq_true rfl) (by decide) (Nat.le_of_ble_eq_true rfl) (C_clean (by decide) hv hc) (fun x1 M1 p1 => ?_)
  obtain ⟨rfl, I1, J1, sw1, rfl, c1, k1, j1⟩ := p1
  have r1 : RInv I1 s := RInv_ge hr (fun k hk => k1 k (keep_r k hk))
  refine X_aload_n dL_law_518 rfl ?_
  refine X_cVp dL_law_519 ck_L_75 rfl rfl rfl (Nat.le_of_ble_eq_true rfl) (by decide) (Nat.le_of_ble_eq_true rfl) (M_clean (by decide) hv r1) (fun x2 M2 p2 => ?_)
  obtain ⟨rfl, I2, rfl, r2, k2⟩ := p2
  refine X_icmp_eq (tgt := 970) dL_law_522 (by decide) (fun b => ?_) (fun b => ?_)
  · exact hn _ _ _ _ (LI_step hs (v_clean hv) c1 k1 j1 r2 k2)
  · exact absurd rfl b
set_option maxRecDepth 20000 in
theorem law_15 (hn : NX G i) (hL : i + 3 ≤ gL G) (hB : gL G ≤ 1536) (hl : LI s I J) : X G 1300 zL_law 527 [(0, vr 1000), (1, vr 0), (2, vr 170), (3, vi (nI i))] [] (NC, I, J, layR sw) 0 0 LWQ := by
  obtain ⟨hv, hc, hr, hs⟩ := hl
  refine X_aload_n dL_law_527 rfl ?_
  refine X_aload_n dL_law_528 rfl ?_
  refine X_iload_n dL_law_529 rfl ?_
  refine X_iconst (v := nI 1) dL_law_530 (by decide) ?_
  first | refine X_iaddN dL_law_531 ?_ | refine X_iadd dL_law_531 ?_
  refine X_sld dL_law_532 rfl (by omega) (by omega) ?_
  refine X_cVp dL_law_533 ck_L_76 rfl rfl rfl (Nat.le_of_ble_eq_true rfl) (by decide) (Nat.le_of_ble_eq_true rfl) (C_behind (by decide) hv hc) (fun x1 M1 p1 => ?_)
  obtain ⟨rfl, I1, J1, sw1, rfl, c1, k1, j1⟩ := p1
  have r1 : RInv I1 s := RInv_ge hr (fun k hk => k1 k (keep_r k hk))
  refine X_aload_n dL_law_536 rfl ?_
  refine X_aload_n dL_law_537 rfl ?_
  refine X_iload_n dL_law_538 rfl ?_
  refine X_iconst (v := nI 1) dL_law_539 (by decide) ?_
  first | refine X_iaddN dL_law_540 ?_ | refine X_iadd dL_law_540 ?_
  refine X_sld dL_law_541 rfl (by omega) (by omega) ?_
  refine X_cVp dL_law_542 ck_L_79 rfl rfl rfl (Nat.le_of_ble_eq_true rfl) (by decide) (Nat.le_of_ble_eq_true rfl) (M_behind (by decide) hv r1) (fun x2 M2 p2 => ?_)
  obtain ⟨rfl, I2, rfl, r2, k2⟩ := p2
  refine X_icmp_eq (tgt := 970) dL_law_545 (by decide) (fun b => ?_) (fun b => ?_)
  · exact hn _ _ _ _ (LI_step hs hv c1 k1 j1 r2 k2)
  · exact absurd rfl b
set_option maxRecDepth 20000 in
theorem law_16 (hn : NX G i) (hL : i + 3 ≤ gL G) (hB : gL G ≤ 1536) (hl : LI s I J) : X G 1300 zL_law 550 [(0, vr 1000), (1, vr 0), (2, vr 170), (3, vi (nI i))] [] (NC, I, J, layR sw) 0 0 LWQ := by
  obtain ⟨hv, hc, hr, hs⟩ := hl
  refine X_aload_n dL_law_550 rfl ?_
  refine X_cVp dL_law_551 ck_L_80 rfl rfl rfl (Nat.le_of_ble_eq_true rfl) (by decide) (Nat.le_of_ble_eq_true rfl) (C_orders (by decide) hv hc) (fun x1 M1 p1 => ?_)
  obtain ⟨rfl, I1, J1, sw1, rfl, c1, k1, j1⟩ := p1
  have r1 : RInv I1 s := RInv_ge hr (fun k hk => k1 k (keep_r k hk))
  refine X_aload_n dL_law_554 rfl ?_
  refine X_cVp dL_law_555 ck_L_83 rfl rfl rfl (Nat.le_of_ble_eq_true rfl) (by decide) (Nat.le_of_ble_eq_true rfl) (M_orders (by decide) hv r1) (fun x2 M2 p2 => ?_)
  obtain ⟨rfl, I2, rfl, r2, k2⟩ := p2
  refine X_icmp_eq (tgt := 970) dL_law_558 (by decide) (fun b => ?_) (fun b => ?_)
  · exact hn _ _ _ _ (LI_step hs hv c1 k1 j1 r2 k2)
  · exact absurd rfl b
set_option maxRecDepth 20000 in
theorem law_17 (hn : NX G i) (hL : i + 3 ≤ gL G) (hB : gL G ≤ 1536) (hl : LI s I J) : X G 1300 zL_law 563 [(0, vr 1000), (1, vr 0), (2, vr 170), (3, vi (nI i))] [] (NC, I, J, layR sw) 0 0 LWQ := by
  obtain ⟨hv, hc, hr, hs⟩ := hl
  refine X_aload_n dL_law_563 rfl ?_
  refine X_aload_n dL_law_564 rfl ?_
  refine X_iload_n dL_law_565 rfl ?_
  refine X_iconst (v := nI 1) dL_law_566 (by decide) ?_
  first | refine X_iaddN dL_law_567 ?_ | refine X_iadd dL_law_567 ?_
  refine X_sld dL_law_568 rfl (by omega) (by omega) ?_
  refine X_aload_n dL_law_569 rfl ?_
  refine X_iload_n dL_law_570 rfl ?_
  refine X_iconst (v := nI 2) dL_law_571 (by decide) ?_
  first | refine X_iaddN dL_law_572 ?_ | refine X_iadd dL_law_572 ?_
  refine X_sld dL_law_573 rfl (by omega) (by omega) ?_
  refine X_cVp dL_law_574 ck_L_84 rfl rfl rfl (Nat.le_of_ble_eq_true rfl) (by decide) (Nat.le_of_ble_eq_true rfl) (C_set hv hc) (fun x1 M1 p1 => ?_)
  obtain ⟨rfl, I1, J1, sw1, rfl, c1, k1, j1⟩ := p1
  have r1 : RInv I1 s := RInv_ge hr (fun k hk => k1 k (keep_r k hk))
  refine X_aload_n dL_law_577 rfl ?_
  refine X_aload_n dL_law_578 rfl ?_
  refine X_iload_n dL_law_579 rfl ?_
  refine X_iconst (v := nI 1) dL_law_580 (by decide) ?_
  first | refine X_iaddN dL_law_581 ?_ | refine X_iadd dL_law_581 ?_
  refine X_sld dL_law_582 rfl (by omega) (by omega) ?_
  refine X_aload_n dL_law_583 rfl ?_
  refine X_iload_n dL_law_584 rfl ?_
  refine X_iconst (v := nI 2) dL_law_585 (by decide) ?_
  first | refine X_iaddN dL_law_586 ?_ | refine X_iadd dL_law_586 ?_
  refine X_sld dL_law_587 rfl (by omega) (by omega) ?_
  refine X_cVp dL_law_588 ck_L_87 rfl rfl rfl (Nat.le_of_ble_eq_true rfl) (by decide) (Nat.le_of_ble_eq_true rfl) (M_set (by decide) r1) (fun x2 M2 p2 => ?_)
  obtain ⟨rfl, I2, rfl, r2, k2⟩ := p2
  refine X_icmp_eq (tgt := 970) dL_law_591 (by decide) (fun b => ?_) (fun b => ?_)
  · exact hn _ _ _ _ (LI_step hs (v_set hv) c1 k1 j1 r2 k2)
  · exact absurd rfl b
set_option maxRecDepth 20000 in
theorem law_18 (hn : NX G i) (hL : i + 3 ≤ gL G) (hB : gL G ≤ 1536) (hl : LI s I J) : X G 1300 zL_law 596 [(0, vr 1000), (1, vr 0), (2, vr 170), (3, vi (nI i))] [] (NC, I, J, layR sw) 0 0 LWQ := by
  obtain ⟨hv, hc, hr, hs⟩ := hl
  refine X_aload_n dL_law_596 rfl ?_
  refine X_aload_n dL_law_597 rfl ?_
  refine X_iload_n dL_law_598 rfl ?_
  refine X_iconst (v := nI 1) dL_law_599 (by decide) ?_
  first | refine X_iaddN dL_law_600 ?_ | refine X_iadd dL_law_600 ?_
  refine X_sld dL_law_601 rfl (by omega) (by omega) ?_
  refine X_cVp dL_law_602 ck_L_88 rfl rfl rfl (Nat.le_of_ble_eq_true rfl) (by decide) (Nat.le_of_ble_eq_true rfl) (C_tick (by decide) hv hc) (fun x1 M1 p1 => ?_)
  obtain ⟨rfl, I1, J1, sw1, rfl, c1, k1, j1⟩ := p1
  have r1 : RInv I1 s := RInv_ge hr (fun k hk => k1 k (keep_r k hk))
  refine X_aload_n dL_law_605 rfl ?_
  refine X_aload_n dL_law_606 rfl ?_
  refine X_iload_n dL_law_607 rfl ?_
  refine X_iconst (v := nI 1) dL_law_608 (by decide) ?_
  first | refine X_iaddN dL_law_609 ?_ | refine X_iadd dL_law_609 ?_
  refine X_sld dL_law_610 rfl (by omega) (by omega) ?_
  refine X_cVp dL_law_611 ck_L_91 rfl rfl rfl (Nat.le_of_ble_eq_true rfl) (by decide) (Nat.le_of_ble_eq_true rfl) (M_tick (by decide) hv r1) (fun x2 M2 p2 => ?_)
  obtain ⟨rfl, I2, rfl, r2, k2⟩ := p2
  refine X_icmp_eq (tgt := 970) dL_law_614 (by decide) (fun b => ?_) (fun b => ?_)
  · exact hn _ _ _ _ (LI_step hs hv c1 k1 j1 r2 k2)
  · exact absurd rfl b
set_option maxRecDepth 20000 in
theorem law_19 (hn : NX G i) (hL : i + 3 ≤ gL G) (hB : gL G ≤ 1536) (hl : LI s I J) : X G 1300 zL_law 619 [(0, vr 1000), (1, vr 0), (2, vr 170), (3, vi (nI i))] [] (NC, I, J, layR sw) 0 0 LWQ := by
  obtain ⟨hv, hc, hr, hs⟩ := hl
  refine X_aload_n dL_law_619 rfl ?_
  refine X_cVp dL_law_620 ck_L_92 rfl rfl rfl (Nat.le_of_ble_eq_true rfl) (by decide) (Nat.le_of_ble_eq_true rfl) (C_time (by decide) hv hc) (fun x1 M1 p1 => ?_)
  obtain ⟨rfl, I1, J1, sw1, rfl, c1, k1, j1⟩ := p1
  have r1 : RInv I1 s := RInv_ge hr (fun k hk => k1 k (keep_r k hk))
  refine X_aload_n dL_law_623 rfl ?_
  refine X_cVp dL_law_624 ck_L_95 rfl rfl rfl (Nat.le_of_ble_eq_true rfl) (by decide) (Nat.le_of_ble_eq_true rfl) (M_time (by decide) hv r1) (fun x2 M2 p2 => ?_)
  obtain ⟨rfl, I2, rfl, r2, k2⟩ := p2
  refine X_icmp_eq (tgt := 970) dL_law_627 (by decide) (fun b => ?_) (fun b => ?_)
  · exact hn _ _ _ _ (LI_step hs hv c1 k1 j1 r2 k2)
  · exact absurd rfl b
set_option maxRecDepth 20000 in
theorem law_20 (hn : NX G i) (hL : i + 3 ≤ gL G) (hB : gL G ≤ 1536) (hl : LI s I J) : X G 1300 zL_law 632 [(0, vr 1000), (1, vr 0), (2, vr 170), (3, vi (nI i))] [] (NC, I, J, layR sw) 0 0 LWQ := by
  obtain ⟨hv, hc, hr, hs⟩ := hl
  refine X_aload_n dL_law_632 rfl ?_
  refine X_aload_n dL_law_633 rfl ?_
  refine X_iload_n dL_law_634 rfl ?_
  refine X_iconst (v := nI 1) dL_law_635 (by decide) ?_
  first | refine X_iaddN dL_law_636 ?_ | refine X_iadd dL_law_636 ?_
  refine X_sld dL_law_637 rfl (by omega) (by omega) ?_
  refine X_cVp dL_law_638 ck_L_96 rfl rfl rfl (Nat.le_of_ble_eq_true rfl) (by decide) (Nat.le_of_ble_eq_true rfl) (C_quickest (by decide) hv hc) (fun x1 M1 p1 => ?_)
  obtain ⟨rfl, I1, J1, sw1, rfl, c1, k1, j1⟩ := p1
  have r1 : RInv I1 s := RInv_ge hr (fun k hk => k1 k (keep_r k hk))
  refine X_aload_n dL_law_641 rfl ?_
  refine X_aload_n dL_law_642 rfl ?_
  refine X_iload_n dL_law_643 rfl ?_
  refine X_iconst (v := nI 1) dL_law_644 (by decide) ?_
  first | refine X_iaddN dL_law_645 ?_ | refine X_iadd dL_law_645 ?_
  refine X_sld dL_law_646 rfl (by omega) (by omega) ?_
  refine X_cVp dL_law_647 ck_L_99 rfl rfl rfl (Nat.le_of_ble_eq_true rfl) (by decide) (Nat.le_of_ble_eq_true rfl) (M_quickest (by decide) hv r1) (fun x2 M2 p2 => ?_)
  obtain ⟨rfl, I2, rfl, r2, k2⟩ := p2
  refine X_icmp_eq (tgt := 970) dL_law_650 (by decide) (fun b => ?_) (fun b => ?_)
  · exact hn _ _ _ _ (LI_step hs hv c1 k1 j1 r2 k2)
  · exact absurd rfl b
set_option maxRecDepth 20000 in
theorem law_21 (hn : NX G i) (hL : i + 3 ≤ gL G) (hB : gL G ≤ 1536) (hl : LI s I J) : X G 1300 zL_law 655 [(0, vr 1000), (1, vr 0), (2, vr 170), (3, vi (nI i))] [] (NC, I, J, layR sw) 0 0 LWQ := by
  obtain ⟨hv, hc, hr, hs⟩ := hl
  refine X_aload_n dL_law_655 rfl ?_
  refine X_aload_n dL_law_656 rfl ?_
  refine X_iload_n dL_law_657 rfl ?_
  refine X_iconst (v := nI 1) dL_law_658 (by decide) ?_
  first | refine X_iaddN dL_law_659 ?_ | refine X_iadd dL_law_659 ?_
  refine X_sld dL_law_660 rfl (by omega) (by omega) ?_
  refine X_aload_n dL_law_661 rfl ?_
  refine X_iload_n dL_law_662 rfl ?_
  refine X_iconst (v := nI 2) dL_law_663 (by decide) ?_
  first | refine X_iaddN dL_law_664 ?_ | refine X_iadd dL_law_664 ?_
  refine X_sld dL_law_665 rfl (by omega) (by omega) ?_
  refine X_cVp dL_law_666 ck_L_100 rfl rfl rfl (Nat.le_of_ble_eq_true rfl) (by decide) (Nat.le_of_ble_eq_true rfl) (C_reads (by decide) hv hc) (fun x1 M1 p1 => ?_)
  obtain ⟨rfl, I1, J1, sw1, rfl, c1, k1, j1⟩ := p1
  have r1 : RInv I1 s := RInv_ge hr (fun k hk => k1 k (keep_r k hk))
  refine X_aload_n dL_law_669 rfl ?_
  refine X_aload_n dL_law_670 rfl ?_
  refine X_iload_n dL_law_671 rfl ?_
  refine X_iconst (v := nI 1) dL_law_672 (by decide) ?_
  first | refine X_iaddN dL_law_673 ?_ | refine X_iadd dL_law_673 ?_
  refine X_sld dL_law_674 rfl (by omega) (by omega) ?_
  refine X_aload_n dL_law_675 rfl ?_
  refine X_iload_n dL_law_676 rfl ?_
  refine X_iconst (v := nI 2) dL_law_677 (by decide) ?_
  first | refine X_iaddN dL_law_678 ?_ | refine X_iadd dL_law_678 ?_
  refine X_sld dL_law_679 rfl (by omega) (by omega) ?_
  refine X_cVp dL_law_680 ck_L_103 rfl rfl rfl (Nat.le_of_ble_eq_true rfl) (by decide) (Nat.le_of_ble_eq_true rfl) (M_reads (by decide) hv r1) (fun x2 M2 p2 => ?_)
  obtain ⟨rfl, I2, rfl, r2, k2⟩ := p2
  refine X_icmp_eq (tgt := 970) dL_law_683 (by decide) (fun b => ?_) (fun b => ?_)
  · exact hn _ _ _ _ (LI_step hs hv c1 k1 j1 r2 k2)
  · exact absurd rfl b
set_option maxRecDepth 20000 in
theorem law_22 (hn : NX G i) (hL : i + 3 ≤ gL G) (hB : gL G ≤ 1536) (hl : LI s I J) : X G 1300 zL_law 688 [(0, vr 1000), (1, vr 0), (2, vr 170), (3, vi (nI i))] [] (NC, I, J, layR sw) 0 0 LWQ := by
  obtain ⟨hv, hc, hr, hs⟩ := hl
  refine X_aload_n dL_law_688 rfl ?_
  refine X_aload_n dL_law_689 rfl ?_
  refine X_iload_n dL_law_690 rfl ?_
  refine X_iconst (v := nI 1) dL_law_691 (by decide) ?_
  first | refine X_iaddN dL_law_692 ?_ | refine X_iadd dL_law_692 ?_
  refine X_sld dL_law_693 rfl (by omega) (by omega) ?_
  refine X_cVp dL_law_694 ck_L_104 rfl rfl rfl (Nat.le_of_ble_eq_true rfl) (by decide) (Nat.le_of_ble_eq_true rfl) (C_held (by decide) hv hc) (fun x1 M1 p1 => ?_)
  obtain ⟨rfl, I1, J1, sw1, rfl, c1, k1, j1⟩ := p1
  have r1 : RInv I1 s := RInv_ge hr (fun k hk => k1 k (keep_r k hk))
  refine X_aload_n dL_law_697 rfl ?_
  refine X_aload_n dL_law_698 rfl ?_
  refine X_iload_n dL_law_699 rfl ?_
  refine X_iconst (v := nI 1) dL_law_700 (by decide) ?_
  first | refine X_iaddN dL_law_701 ?_ | refine X_iadd dL_law_701 ?_
  refine X_sld dL_law_702 rfl (by omega) (by omega) ?_
  refine X_cVp dL_law_703 ck_L_107 rfl rfl rfl (Nat.le_of_ble_eq_true rfl) (by decide) (Nat.le_of_ble_eq_true rfl) (M_held (by decide) hv r1) (fun x2 M2 p2 => ?_)
  obtain ⟨rfl, I2, rfl, r2, k2⟩ := p2
  refine X_icmp_eq (tgt := 970) dL_law_706 (by decide) (fun b => ?_) (fun b => ?_)
  · exact hn _ _ _ _ (LI_step hs hv c1 k1 j1 r2 k2)
  · exact absurd rfl b
set_option maxRecDepth 20000 in
theorem law_23 (hn : NX G i) (hL : i + 3 ≤ gL G) (hB : gL G ≤ 1536) (hl : LI s I J) : X G 1300 zL_law 711 [(0, vr 1000), (1, vr 0), (2, vr 170), (3, vi (nI i))] [] (NC, I, J, layR sw) 0 0 LWQ := by
  obtain ⟨hv, hc, hr, hs⟩ := hl
  refine X_aload_n dL_law_711 rfl ?_
  refine X_cVp dL_law_712 ck_L_108 rfl rfl rfl (Nat.le_of_ble_eq_true rfl) (by decide) (Nat.le_of_ble_eq_true rfl) (C_width (by decide) hv hc) (fun x1 M1 p1 => ?_)
  obtain ⟨rfl, I1, J1, sw1, rfl, c1, k1, j1⟩ := p1
  have r1 : RInv I1 s := RInv_ge hr (fun k hk => k1 k (keep_r k hk))
  refine X_aload_n dL_law_715 rfl ?_
  refine X_cVp dL_law_716 ck_L_111 rfl rfl rfl (Nat.le_of_ble_eq_true rfl) (by decide) (Nat.le_of_ble_eq_true rfl) (M_width (by decide) hv r1) (fun x2 M2 p2 => ?_)
  obtain ⟨rfl, I2, rfl, r2, k2⟩ := p2
  refine X_icmp_eq (tgt := 970) dL_law_719 (by decide) (fun b => ?_) (fun b => ?_)
  · exact hn _ _ _ _ (LI_step hs hv c1 k1 j1 r2 k2)
  · exact absurd rfl b
set_option maxRecDepth 20000 in
theorem law_24 (hn : NX G i) (hL : i + 3 ≤ gL G) (hB : gL G ≤ 1536) (hl : LI s I J) : X G 1300 zL_law 724 [(0, vr 1000), (1, vr 0), (2, vr 170), (3, vi (nI i))] [] (NC, I, J, layR sw) 0 0 LWQ := by
  obtain ⟨hv, hc, hr, hs⟩ := hl
  refine X_aload_n dL_law_724 rfl ?_
  refine X_aload_n dL_law_725 rfl ?_
  refine X_iload_n dL_law_726 rfl ?_
  refine X_iconst (v := nI 1) dL_law_727 (by decide) ?_
  first | refine X_iaddN dL_law_728 ?_ | refine X_iadd dL_law_728 ?_
  refine X_sld dL_law_729 rfl (by omega) (by omega) ?_
  refine X_cVp dL_law_730 ck_L_112 rfl rfl rfl (Nat.le_of_ble_eq_true rfl) (by decide) (Nat.le_of_ble_eq_true rfl) (C_fewest (by decide) hv hc) (fun x1 M1 p1 => ?_)
  obtain ⟨rfl, I1, J1, sw1, rfl, c1, k1, j1⟩ := p1
  have r1 : RInv I1 s := RInv_ge hr (fun k hk => k1 k (keep_r k hk))
  refine X_aload_n dL_law_733 rfl ?_
  refine X_aload_n dL_law_734 rfl ?_
  refine X_iload_n dL_law_735 rfl ?_
  refine X_iconst (v := nI 1) dL_law_736 (by decide) ?_
  first | refine X_iaddN dL_law_737 ?_ | refine X_iadd dL_law_737 ?_
  refine X_sld dL_law_738 rfl (by omega) (by omega) ?_
  refine X_cVp dL_law_739 ck_L_115 rfl rfl rfl (Nat.le_of_ble_eq_true rfl) (by decide) (Nat.le_of_ble_eq_true rfl) (M_fewest (by decide) hv r1) (fun x2 M2 p2 => ?_)
  obtain ⟨rfl, I2, rfl, r2, k2⟩ := p2
  refine X_icmp_eq (tgt := 970) dL_law_742 (by decide) (fun b => ?_) (fun b => ?_)
  · exact hn _ _ _ _ (LI_step hs hv c1 k1 j1 r2 k2)
  · exact absurd rfl b
set_option maxRecDepth 20000 in
theorem law_25 (hn : NX G i) (hL : i + 3 ≤ gL G) (hB : gL G ≤ 1536) (hl : LI s I J) : X G 1300 zL_law 747 [(0, vr 1000), (1, vr 0), (2, vr 170), (3, vi (nI i))] [] (NC, I, J, layR sw) 0 0 LWQ := by
  obtain ⟨hv, hc, hr, hs⟩ := hl
  refine X_aload_n dL_law_747 rfl ?_
  refine X_aload_n dL_law_748 rfl ?_
  refine X_iload_n dL_law_749 rfl ?_
  refine X_iconst (v := nI 1) dL_law_750 (by decide) ?_
  first | refine X_iaddN dL_law_751 ?_ | refine X_iadd dL_law_751 ?_
  refine X_sld dL_law_752 rfl (by omega) (by omega) ?_
  refine X_cVp dL_law_753 ck_L_116 rfl rfl rfl (Nat.le_of_ble_eq_true rfl) (by decide) (Nat.le_of_ble_eq_true rfl) (C_spill (by decide) hv hc) (fun x1 M1 p1 => ?_)
  obtain ⟨rfl, I1, J1, sw1, rfl, c1, k1, j1⟩ := p1
  have r1 : RInv I1 s := RInv_ge hr (fun k hk => k1 k (keep_r k hk))
  refine X_aload_n dL_law_756 rfl ?_
  refine X_aload_n dL_law_757 rfl ?_
  refine X_iload_n dL_law_758 rfl ?_
  refine X_iconst (v := nI 1) dL_law_759 (by decide) ?_
  first | refine X_iaddN dL_law_760 ?_ | refine X_iadd dL_law_760 ?_
  refine X_sld dL_law_761 rfl (by omega) (by omega) ?_
  refine X_cVp dL_law_762 ck_L_119 rfl rfl rfl (Nat.le_of_ble_eq_true rfl) (by decide) (Nat.le_of_ble_eq_true rfl) (M_spill (by decide) hv r1) (fun x2 M2 p2 => ?_)
  obtain ⟨rfl, I2, rfl, r2, k2⟩ := p2
  refine X_icmp_eq (tgt := 970) dL_law_765 (by decide) (fun b => ?_) (fun b => ?_)
  · exact hn _ _ _ _ (LI_step hs hv c1 k1 j1 r2 k2)
  · exact absurd rfl b
set_option maxRecDepth 20000 in
theorem law_26 (hn : NX G i) (hL : i + 3 ≤ gL G) (hB : gL G ≤ 1536) (hl : LI s I J) : X G 1300 zL_law 770 [(0, vr 1000), (1, vr 0), (2, vr 170), (3, vi (nI i))] [] (NC, I, J, layR sw) 0 0 LWQ := by
  obtain ⟨hv, hc, hr, hs⟩ := hl
  refine X_aload_n dL_law_770 rfl ?_
  refine X_cVp dL_law_771 ck_L_120 rfl rfl rfl (Nat.le_of_ble_eq_true rfl) (by decide) (Nat.le_of_ble_eq_true rfl) (C_rule (by decide) hv hc) (fun x1 M1 p1 => ?_)
  obtain ⟨rfl, I1, J1, sw1, rfl, c1, k1, j1⟩ := p1
  have r1 : RInv I1 s := RInv_ge hr (fun k hk => k1 k (keep_r k hk))
  refine X_aload_n dL_law_774 rfl ?_
  refine X_cVp dL_law_775 ck_L_123 rfl rfl rfl (Nat.le_of_ble_eq_true rfl) (by decide) (Nat.le_of_ble_eq_true rfl) (M_rule (by decide) hv r1) (fun x2 M2 p2 => ?_)
  obtain ⟨rfl, I2, rfl, r2, k2⟩ := p2
  refine X_icmp_eq (tgt := 970) dL_law_778 (by decide) (fun b => ?_) (fun b => ?_)
  · exact hn _ _ _ _ (LI_step hs (v_rule hv) c1 k1 j1 r2 k2)
  · exact absurd rfl b
set_option maxRecDepth 20000 in
theorem law_27 (hn : NX G i) (hL : i + 3 ≤ gL G) (hB : gL G ≤ 1536) (hl : LI s I J) : X G 1300 zL_law 783 [(0, vr 1000), (1, vr 0), (2, vr 170), (3, vi (nI i))] [] (NC, I, J, layR sw) 0 0 LWQ := by
  obtain ⟨hv, hc, hr, hs⟩ := hl
  refine X_aload_n dL_law_783 rfl ?_
  refine X_cVp dL_law_784 ck_L_124 rfl rfl rfl (Nat.le_of_ble_eq_true rfl) (by decide) (Nat.le_of_ble_eq_true rfl) (C_free hv hc) (fun x1 M1 p1 => ?_)
  obtain ⟨rfl, I1, J1, sw1, rfl, c1, k1, j1⟩ := p1
  have r1 : RInv I1 s := RInv_ge hr (fun k hk => k1 k (keep_r k hk))
  refine X_aload_n dL_law_787 rfl ?_
  refine X_cVp dL_law_788 ck_L_127 rfl rfl rfl (Nat.le_of_ble_eq_true rfl) (by decide) (Nat.le_of_ble_eq_true rfl) (M_free r1) (fun x2 M2 p2 => ?_)
  obtain ⟨rfl, I2, rfl, r2, k2⟩ := p2
  refine X_icmp_eq (tgt := 970) dL_law_791 (by decide) (fun b => ?_) (fun b => ?_)
  · exact hn _ _ _ _ (LI_step hs (v_free hv) c1 k1 j1 r2 k2)
  · exact absurd rfl b
set_option maxRecDepth 20000 in
theorem law_28 (hn : NX G i) (hL : i + 3 ≤ gL G) (hB : gL G ≤ 1536) (hl : LI s I J) : X G 1300 zL_law 796 [(0, vr 1000), (1, vr 0), (2, vr 170), (3, vi (nI i))] [] (NC, I, J, layR sw) 0 0 LWQ := by
  obtain ⟨hv, hc, hr, hs⟩ := hl
  refine X_aload_n dL_law_796 rfl ?_
  refine X_aload_n dL_law_797 rfl ?_
  refine X_iload_n dL_law_798 rfl ?_
  refine X_iconst (v := nI 1) dL_law_799 (by decide) ?_
  first | refine X_iaddN dL_law_800 ?_ | refine X_iadd dL_law_800 ?_
  refine X_sld dL_law_801 rfl (by omega) (by omega) ?_
  refine X_cVp dL_law_802 ck_L_128 rfl rfl rfl (Nat.le_of_ble_eq_true rfl) (by decide) (Nat.le_of_ble_eq_true rfl) (C_holds (by decide) hv hc) (fun x1 M1 p1 => ?_)
  obtain ⟨rfl, I1, J1, sw1, rfl, c1, k1, j1⟩ := p1
  have r1 : RInv I1 s := RInv_ge hr (fun k hk => k1 k (keep_r k hk))
  refine X_aload_n dL_law_805 rfl ?_
  refine X_aload_n dL_law_806 rfl ?_
  refine X_iload_n dL_law_807 rfl ?_
  refine X_iconst (v := nI 1) dL_law_808 (by decide) ?_
  first | refine X_iaddN dL_law_809 ?_ | refine X_iadd dL_law_809 ?_
  refine X_sld dL_law_810 rfl (by omega) (by omega) ?_
  refine X_cVp dL_law_811 ck_L_131 rfl rfl rfl (Nat.le_of_ble_eq_true rfl) (by decide) (Nat.le_of_ble_eq_true rfl) (M_holds (by decide) hv r1) (fun x2 M2 p2 => ?_)
  obtain ⟨rfl, I2, rfl, r2, k2⟩ := p2
  refine X_icmp_eq (tgt := 970) dL_law_814 (by decide) (fun b => ?_) (fun b => ?_)
  · exact hn _ _ _ _ (LI_step hs hv c1 k1 j1 r2 k2)
  · exact absurd rfl b
set_option maxRecDepth 20000 in
theorem law_29 (hn : NX G i) (hL : i + 3 ≤ gL G) (hB : gL G ≤ 1536) (hl : LI s I J) : X G 1300 zL_law 819 [(0, vr 1000), (1, vr 0), (2, vr 170), (3, vi (nI i))] [] (NC, I, J, layR sw) 0 0 LWQ := by
  obtain ⟨hv, hc, hr, hs⟩ := hl
  refine X_aload_n dL_law_819 rfl ?_
  refine X_aload_n dL_law_820 rfl ?_
  refine X_iload_n dL_law_821 rfl ?_
  refine X_iconst (v := nI 1) dL_law_822 (by decide) ?_
  first | refine X_iaddN dL_law_823 ?_ | refine X_iadd dL_law_823 ?_
  refine X_sld dL_law_824 rfl (by omega) (by omega) ?_
  refine X_cVp dL_law_825 ck_L_132 rfl rfl rfl (Nat.le_of_ble_eq_true rfl) (by decide) (Nat.le_of_ble_eq_true rfl) (C_fits (by decide) hv hc) (fun x1 M1 p1 => ?_)
  obtain ⟨rfl, I1, J1, sw1, rfl, c1, k1, j1⟩ := p1
  have r1 : RInv I1 s := RInv_ge hr (fun k hk => k1 k (keep_r k hk))
  refine X_aload_n dL_law_828 rfl ?_
  refine X_aload_n dL_law_829 rfl ?_
  refine X_iload_n dL_law_830 rfl ?_
  refine X_iconst (v := nI 1) dL_law_831 (by decide) ?_
  first | refine X_iaddN dL_law_832 ?_ | refine X_iadd dL_law_832 ?_
  refine X_sld dL_law_833 rfl (by omega) (by omega) ?_
  refine X_cVp dL_law_834 ck_L_135 rfl rfl rfl (Nat.le_of_ble_eq_true rfl) (by decide) (Nat.le_of_ble_eq_true rfl) (M_fits (by decide) hv r1) (fun x2 M2 p2 => ?_)
  obtain ⟨rfl, I2, rfl, r2, k2⟩ := p2
  refine X_icmp_eq (tgt := 970) dL_law_837 (by decide) (fun b => ?_) (fun b => ?_)
  · exact hn _ _ _ _ (LI_step hs hv c1 k1 j1 r2 k2)
  · exact absurd rfl b
set_option maxRecDepth 20000 in
theorem law_30 (hn : NX G i) (hL : i + 3 ≤ gL G) (hB : gL G ≤ 1536) (hl : LI s I J) : X G 1300 zL_law 842 [(0, vr 1000), (1, vr 0), (2, vr 170), (3, vi (nI i))] [] (NC, I, J, layR sw) 0 0 LWQ := by
  obtain ⟨hv, hc, hr, hs⟩ := hl
  refine X_aload_n dL_law_842 rfl ?_
  refine X_aload_n dL_law_843 rfl ?_
  refine X_iload_n dL_law_844 rfl ?_
  refine X_iconst (v := nI 1) dL_law_845 (by decide) ?_
  first | refine X_iaddN dL_law_846 ?_ | refine X_iadd dL_law_846 ?_
  refine X_sld dL_law_847 rfl (by omega) (by omega) ?_
  refine X_cVp dL_law_848 ck_L_136 rfl rfl rfl (Nat.le_of_ble_eq_true rfl) (by decide) (Nat.le_of_ble_eq_true rfl) (C_replace (by decide) hv hc) (fun x1 M1 p1 => ?_)
  obtain ⟨rfl, I1, J1, sw1, rfl, c1, k1, j1⟩ := p1
  have r1 : RInv I1 s := RInv_ge hr (fun k hk => k1 k (keep_r k hk))
  refine X_aload_n dL_law_851 rfl ?_
  refine X_aload_n dL_law_852 rfl ?_
  refine X_iload_n dL_law_853 rfl ?_
  refine X_iconst (v := nI 1) dL_law_854 (by decide) ?_
  first | refine X_iaddN dL_law_855 ?_ | refine X_iadd dL_law_855 ?_
  refine X_sld dL_law_856 rfl (by omega) (by omega) ?_
  refine X_cVp dL_law_857 ck_L_139 rfl rfl rfl (Nat.le_of_ble_eq_true rfl) (by decide) (Nat.le_of_ble_eq_true rfl) (M_replace (by decide) hv r1) (fun x2 M2 p2 => ?_)
  obtain ⟨rfl, I2, rfl, r2, k2⟩ := p2
  refine X_icmp_eq (tgt := 970) dL_law_860 (by decide) (fun b => ?_) (fun b => ?_)
  · exact hn _ _ _ _ (LI_step hs (v_replace hv) c1 k1 j1 r2 k2)
  · exact absurd rfl b
set_option maxRecDepth 20000 in
theorem law_31 (hn : NX G i) (hL : i + 3 ≤ gL G) (hB : gL G ≤ 1536) (hl : LI s I J) : X G 1300 zL_law 865 [(0, vr 1000), (1, vr 0), (2, vr 170), (3, vi (nI i))] [] (NC, I, J, layR sw) 0 0 LWQ := by
  obtain ⟨hv, hc, hr, hs⟩ := hl
  refine X_aload_n dL_law_865 rfl ?_
  refine X_cVp dL_law_866 ck_L_140 rfl rfl rfl (Nat.le_of_ble_eq_true rfl) (by decide) (Nat.le_of_ble_eq_true rfl) (C_go (by decide) hv hc) (fun x1 M1 p1 => ?_)
  obtain ⟨rfl, I1, J1, sw1, rfl, c1, k1, j1⟩ := p1
  have r1 : RInv I1 s := RInv_ge hr (fun k hk => k1 k (keep_r k hk))
  refine X_aload_n dL_law_869 rfl ?_
  refine X_cVp dL_law_870 ck_L_143 rfl rfl rfl (Nat.le_of_ble_eq_true rfl) (by decide) (Nat.le_of_ble_eq_true rfl) (M_go (by decide) hv r1) (fun x2 M2 p2 => ?_)
  obtain ⟨rfl, I2, rfl, r2, k2⟩ := p2
  refine X_icmp_eq (tgt := 970) dL_law_873 (by decide) (fun b => ?_) (fun b => ?_)
  · exact hn _ _ _ _ (LI_step hs (v_go hv) c1 k1 j1 r2 k2)
  · exact absurd rfl b
set_option maxRecDepth 20000 in
theorem law_32 (hn : NX G i) (hL : i + 3 ≤ gL G) (hB : gL G ≤ 1536) (hl : LI s I J) : X G 1300 zL_law 878 [(0, vr 1000), (1, vr 0), (2, vr 170), (3, vi (nI i))] [] (NC, I, J, layR sw) 0 0 LWQ := by
  obtain ⟨hv, hc, hr, hs⟩ := hl
  refine X_aload_n dL_law_878 rfl ?_
  refine X_aload_n dL_law_879 rfl ?_
  refine X_iload_n dL_law_880 rfl ?_
  refine X_iconst (v := nI 1) dL_law_881 (by decide) ?_
  first | refine X_iaddN dL_law_882 ?_ | refine X_iadd dL_law_882 ?_
  refine X_sld dL_law_883 rfl (by omega) (by omega) ?_
  refine X_cVp dL_law_884 ck_L_144 rfl rfl rfl (Nat.le_of_ble_eq_true rfl) (by decide) (Nat.le_of_ble_eq_true rfl) (C_shortest (by decide) hv hc hs) (fun x1 M1 p1 => ?_)
  obtain ⟨rfl, I1, J1, sw1, rfl, c1, q1, k1⟩ := p1
  have r1 : RInv I1 s := RInv_ge hr k1
  refine X_aload_n dL_law_887 rfl ?_
  refine X_aload_n dL_law_888 rfl ?_
  refine X_iload_n dL_law_889 rfl ?_
  refine X_iconst (v := nI 1) dL_law_890 (by decide) ?_
  first | refine X_iaddN dL_law_891 ?_ | refine X_iadd dL_law_891 ?_
  refine X_sld dL_law_892 rfl (by omega) (by omega) ?_
  refine X_cVp dL_law_893 ck_L_147 rfl rfl rfl (Nat.le_of_ble_eq_true rfl) (by decide) (Nat.le_of_ble_eq_true rfl) (M_shortest (by decide) hv r1) (fun x2 M2 p2 => ?_)
  obtain ⟨rfl, I2, rfl, r2, k2⟩ := p2
  refine X_icmp_eq (tgt := 970) dL_law_896 (by decide) (fun b => ?_) (fun b => ?_)
  · exact hn _ _ _ _ ⟨hv, CInv_lt c1 hv k2, r2, SInv_lt q1 k2⟩
  · exact absurd rfl b
set_option maxRecDepth 20000 in
theorem law_33 (hn : NX G i) (hL : i + 3 ≤ gL G) (hB : gL G ≤ 1536) (hl : LI s I J) : X G 1300 zL_law 901 [(0, vr 1000), (1, vr 0), (2, vr 170), (3, vi (nI i))] [] (NC, I, J, layR sw) 0 0 LWQ := by
  obtain ⟨hv, hc, hr, hs⟩ := hl
  refine X_aload_n dL_law_901 rfl ?_
  refine X_aload_n dL_law_902 rfl ?_
  refine X_iload_n dL_law_903 rfl ?_
  refine X_iconst (v := nI 1) dL_law_904 (by decide) ?_
  first | refine X_iaddN dL_law_905 ?_ | refine X_iadd dL_law_905 ?_
  refine X_sld dL_law_906 rfl (by omega) (by omega) ?_
  refine X_cVp dL_law_907 ck_L_148 rfl rfl rfl (Nat.le_of_ble_eq_true rfl) (by decide) (Nat.le_of_ble_eq_true rfl) (C_image (by decide) hv hc) (fun x1 M1 p1 => ?_)
  obtain ⟨rfl, I1, J1, sw1, rfl, c1, k1, j1⟩ := p1
  have r1 : RInv I1 s := RInv_ge hr (fun k hk => k1 k (keep_r k hk))
  refine X_aload_n dL_law_910 rfl ?_
  refine X_aload_n dL_law_911 rfl ?_
  refine X_iload_n dL_law_912 rfl ?_
  refine X_iconst (v := nI 1) dL_law_913 (by decide) ?_
  first | refine X_iaddN dL_law_914 ?_ | refine X_iadd dL_law_914 ?_
  refine X_sld dL_law_915 rfl (by omega) (by omega) ?_
  refine X_cVp dL_law_916 ck_L_151 rfl rfl rfl (Nat.le_of_ble_eq_true rfl) (by decide) (Nat.le_of_ble_eq_true rfl) (M_image (by decide) hv r1) (fun x2 M2 p2 => ?_)
  obtain ⟨rfl, I2, rfl, r2, k2⟩ := p2
  refine X_icmp_eq (tgt := 970) dL_law_919 (by decide) (fun b => ?_) (fun b => ?_)
  · exact hn _ _ _ _ (LI_step hs (v_image hv) c1 k1 j1 r2 k2)
  · exact absurd rfl b
set_option maxRecDepth 20000 in
theorem law_34 (hn : NX G i) (hL : i + 3 ≤ gL G) (hB : gL G ≤ 1536) (hl : LI s I J) : X G 1300 zL_law 924 [(0, vr 1000), (1, vr 0), (2, vr 170), (3, vi (nI i))] [] (NC, I, J, layR sw) 0 0 LWQ := by
  obtain ⟨hv, hc, hr, hs⟩ := hl
  refine X_aload_n dL_law_924 rfl ?_
  refine X_aload_n dL_law_925 rfl ?_
  refine X_iload_n dL_law_926 rfl ?_
  refine X_iconst (v := nI 1) dL_law_927 (by decide) ?_
  first | refine X_iaddN dL_law_928 ?_ | refine X_iadd dL_law_928 ?_
  refine X_sld dL_law_929 rfl (by omega) (by omega) ?_
  refine X_cVp dL_law_930 ck_L_152 rfl rfl rfl (Nat.le_of_ble_eq_true rfl) (by decide) (Nat.le_of_ble_eq_true rfl) (C_restore (by decide) hv hc) (fun x1 M1 p1 => ?_)
  obtain ⟨rfl, I1, J1, sw1, rfl, c1, k1, j1⟩ := p1
  have r1 : RInv I1 s := RInv_ge hr (fun k hk => k1 k (keep_r k hk))
  refine X_aload_n dL_law_933 rfl ?_
  refine X_aload_n dL_law_934 rfl ?_
  refine X_iload_n dL_law_935 rfl ?_
  refine X_iconst (v := nI 1) dL_law_936 (by decide) ?_
  first | refine X_iaddN dL_law_937 ?_ | refine X_iadd dL_law_937 ?_
  refine X_sld dL_law_938 rfl (by omega) (by omega) ?_
  refine X_cVp dL_law_939 ck_L_155 rfl rfl rfl (Nat.le_of_ble_eq_true rfl) (by decide) (Nat.le_of_ble_eq_true rfl) (M_restore (by decide) hv r1) (fun x2 M2 p2 => ?_)
  obtain ⟨rfl, I2, rfl, r2, k2⟩ := p2
  refine X_icmp_eq (tgt := 970) dL_law_942 (by decide) (fun b => ?_) (fun b => ?_)
  · exact hn _ _ _ _ (LI_step hs (v_restore hv) c1 k1 j1 r2 k2)
  · exact absurd rfl b
set_option maxRecDepth 20000 in
theorem law_35 (hn : NX G i) (hL : i + 3 ≤ gL G) (hB : gL G ≤ 1536) (hl : LI s I J) : X G 1300 zL_law 947 [(0, vr 1000), (1, vr 0), (2, vr 170), (3, vi (nI i))] [] (NC, I, J, layR sw) 0 0 LWQ := by
  obtain ⟨hv, hc, hr, hs⟩ := hl
  refine X_aload_n dL_law_947 rfl ?_
  refine X_aload_n dL_law_948 rfl ?_
  refine X_iload_n dL_law_949 rfl ?_
  refine X_iconst (v := nI 1) dL_law_950 (by decide) ?_
  first | refine X_iaddN dL_law_951 ?_ | refine X_iadd dL_law_951 ?_
  refine X_sld dL_law_952 rfl (by omega) (by omega) ?_
  refine X_cVp dL_law_953 ck_L_156 rfl rfl rfl (Nat.le_of_ble_eq_true rfl) (by decide) (Nat.le_of_ble_eq_true rfl) (C_told hv hc) (fun x1 M1 p1 => ?_)
  obtain ⟨rfl, I1, J1, sw1, rfl, c1, k1, j1⟩ := p1
  have r1 : RInv I1 s := RInv_ge hr (fun k hk => k1 k (keep_r k hk))
  refine X_aload_n dL_law_956 rfl ?_
  refine X_aload_n dL_law_957 rfl ?_
  refine X_iload_n dL_law_958 rfl ?_
  refine X_iconst (v := nI 1) dL_law_959 (by decide) ?_
  first | refine X_iaddN dL_law_960 ?_ | refine X_iadd dL_law_960 ?_
  refine X_sld dL_law_961 rfl (by omega) (by omega) ?_
  refine X_cVp dL_law_962 ck_L_159 rfl rfl rfl (Nat.le_of_ble_eq_true rfl) (by decide) (Nat.le_of_ble_eq_true rfl) (M_told (by decide) r1) (fun x2 M2 p2 => ?_)
  obtain ⟨rfl, I2, rfl, r2, k2⟩ := p2
  refine X_icmp_eq (tgt := 970) dL_law_965 (by decide) (fun b => ?_) (fun b => ?_)
  · exact hn _ _ _ _ (LI_step hs hv c1 k1 j1 r2 k2)
  · exact absurd rfl b
end LW
