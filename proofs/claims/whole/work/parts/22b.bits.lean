/-! bits of longs; a call over a fuller stack -/
def lb (x : Int64) (j : Nat) : Bool := x.toBitVec.getLsbD j
theorem lb_and (a b : Int64) (j : Nat) : lb (a &&& b) j = (lb a j && lb b j) := by
  unfold lb; rw [Int64.toBitVec_and, BitVec.getLsbD_and]
theorem lb_or (a b : Int64) (j : Nat) : lb (a ||| b) j = (lb a j || lb b j) := by
  unfold lb; rw [Int64.toBitVec_or, BitVec.getLsbD_or]
theorem lb_xor (a b : Int64) (j : Nat) : lb (a ^^^ b) j = Bool.xor (lb a j) (lb b j) := by
  unfold lb; rw [Int64.toBitVec_xor, BitVec.getLsbD_xor]
theorem lb_m1 : ∀ j, j < 64 → lb (-1) j = true := by decide +kernel
theorem lb_0 (j : Nat) : lb 0 j = false := by
  show (0#64).getLsbD j = false
  simp
theorem lb_ext {a b : Int64} (h : ∀ j, j < 64 → lb a j = lb b j) : a = b :=
  Int64.toBitVec_inj.mp (BitVec.eq_of_getLsbD_eq (fun j hj => h j hj))
theorem lb_ne {a : Int64} (h : a ≠ 0) : ∃ j, j < 64 ∧ lb a j = true := by
  by_cases q : ∃ j, j < 64 ∧ lb a j = true
  · exact q
  · exact absurd (lb_ext (a := a) (b := 0) (fun j hj => by
      rw [lb_0]
      cases z : lb a j
      · rfl
      · exact absurd ⟨j, hj, z⟩ q)) h
theorem sh64 : ∀ k, k < 64 → ((nI k).toInt64.toUInt64 &&& Int64.toUInt64 63).toNat = k := by decide +kernel
theorem lb_shr {w : Int64} {k : Nat} (hk : k < 64) : ((w.toUInt64 >>> ((nI k).toInt64.toUInt64 &&& Int64.toUInt64 63)).toInt64 &&& 1) = 0 ↔ lb w k = false := by
  have e : (w.toUInt64 >>> ((nI k).toInt64.toUInt64 &&& Int64.toUInt64 63)).toInt64.toBitVec = w.toBitVec >>> k := by
    apply BitVec.eq_of_toNat_eq
    show (w.toUInt64 >>> ((nI k).toInt64.toUInt64 &&& Int64.toUInt64 63)).toNat = _
    rw [UInt64.toNat_shiftRight, sh64 k hk, Nat.mod_eq_of_lt hk, BitVec.toNat_ushiftRight]
    rfl
  rw [← Int64.toBitVec_inj, Int64.toBitVec_and, e]
  show w.toBitVec >>> k &&& 1#64 = 0#64 ↔ w.toBitVec.getLsbD k = false
  constructor
  · intro h
    have t := congrArg (fun x => x.getLsbD 0) h
    simpa using t
  · intro h
    apply BitVec.eq_of_getLsbD_eq
    intro i hi
    by_cases q : i = 0
    · subst q; simpa using h
    · simp [q]
/-- minus one, if a bit is set -/
theorem lb_neg {b : Bool} {j : Nat} (hj : j < 64) : lb (-(nI (if b = true then 1 else 0)).toInt64) j = b := by
  cases b
  · rw [if_neg (by decide), show (-(nI 0).toInt64) = 0 by decide, lb_0]
  · rw [if_pos rfl, show (-(nI 1).toInt64) = -1 by decide, lb_m1 j hj]
section XW
variable {G : GG} {d : Nat} {z : ZZ} {pc : Nat} {lv : List (Nat × AV)} {st : List AV} {M : Mm} {rc rs : Nat} {Q : Option AV → Mm → Prop}
theorem X_cVlw {idx c np k N : Nat} {z' : ZZ} {As stk : List AV} (hd : decode z.2.1 pc = .ok (.invokevirtual idx, 3)) (hck : CKV z.2.2.2.2 idx z' c np) (hlk : Cond.methodLink z.2.2.2.2 idx z'.1 ∈ BIG) (hml : z'.2.2.1 ≤ 20) (hnp : As.length = np) (hstk : stk = As.reverse ++ vr k :: st) (hs : sh k = (c, N)) (hk : k < M.1) (hd1 : 1 ≤ d) (hst : (st.map catA).sum ≤ 14)
    (hY : Y G (d - 1) z' (vr k :: As) M 0 0 (ql (fun x M' => X G d z (pc + 3) lv (vl x :: st) M' rc rs Q))) : X G d z pc lv stk M rc rs Q := by
  have main : X G d z pc lv stk M (0 + rc) (0 + rs) Q := by
    intro p e s m args below meth co H locs ls cells slots hC hH hl
    obtain ⟨⟨g0, g1, g2, g3, g4, g5⟩, g6, g7, T, N', g8, g9⟩ := hck
    have hts := hC.2.2.2.2.2.2.1
    have ok : ∀ {w : Cond}, w ∈ BIG → w.before args s = true := fun hw => hts _ (List.mem_cons_of_mem _ hw)
    have hk9 : k < 1000 := Nat.lt_of_lt_of_le hk hH.2.2.1
    refine W_size hH hC.2.2.2.2.2.2.2.2.2.2.2.2 (fun hz => ?_)
    have hrecv : ∃ cell : Cell, H[ad G k]? = some cell ∧ cell.vm.isStatics = false ∧ s.vm.findClass z'.1.cls = some cell.cls := by
      rw [ad_lt hk9]
      exact va_recv (q := (z'.1.cls, T, N')) hC.2.2.2.2.2.2.2.2.1 hH.1 g8 (q0 := k) (fs := fls G M k c) (by rw [wsG_at hk, cel_obj hs g9])
    have hstack : (F0 m pc ls (stk.map (cv G))).stack = (As.map (cv G)).reverse ++ .ref (ad G k) :: st.map (cv G) := by
      show stk.map (cv G) = _
      rw [hstk, List.map_append, List.map_reverse]
      rfl
    have hroom : 2 * (F0 m pc ls (stk.map (cv G))).monitorRoom + ((st.map (cv G)).map fun v => v.category).sum ≤ 14 := by
      have : ((st.map (cv G)).map fun v => v.category).sum ≤ 14 := by rw [cat_sum]; exact hst
      show 2 * 0 + _ ≤ 14
      omega
    have hpre : PreV s H z'.1.cls (ad G k) (va_Pc ((vr k :: As).map (cv G)) (WU G M)) (As.map (cv G)) := ⟨WU_blind, hrecv, x_pre (av := vr k :: As) hC hH hz⟩
    have hcb := callB_of (own := z.2.2.2.2) (index := idx) (R := rmz d (cells + (0 + rc)) (slots + (0 + rs))) (mc := 0) (ms := 0) (rm := rmz (d - 1) 0 0) np hts (wz_good (z := z) g1) rfl rfl rfl (ok g2) (ok hlk) g4 (x_room hd1 g5)
    have hrun : va_Run p (gl G) e (rmz d (cells + (0 + rc)) (slots + (0 + rs))) s m args below meth co H locs cells slots 0 0 (F0 m pc ls (stk.map (cv G))) (st.map (cv G)) (QQ G (M.1 + 0) (ql (fun x M' => X G d z (pc + 3) lv (vl x :: st) M' rc rs Q)) (Value.ref (ad G k) :: As.map (cv G)).toArray) (gA G) := by
      obtain ⟨hrc, hrs, hfr, hlo, hws, hcw, hcode, hini, hyy, hlen, hl2⟩ := hcb
      have hK : Back (gl G) (rmz d (cells + (0 + rc)) (slots + (0 + rs))) p e below s args z'.1 3 14 (PreOf (rmz d (cells + (0 + rc)) (slots + (0 + rs))) 0 0 (va_Pc ((vr k :: As).map (cv G)) (WU G M))) (PostOf (QQ G (M.1 + 0) (ql (fun x M' => X G d z (pc + 3) lv (vl x :: st) M' rc rs Q))) 0 0 (gA G)) :=
        back_of (bytes := z'.2.1) (maxL := z'.2.2.1) (ret := z'.2.2.2.1) hY hpre.1 hrc hrs hfr (show 14 + (z'.2.2.1 + 11) + 64 * (d - 1) ≤ 64 * d by omega) hws hcw (fun a' U hW => word_at hW (Or.inl (by first | rfl | simp [Cond.onTables, Cond.keeps, Cond.steady])) hini)
      obtain ⟨-, ⟨cellB, hcB, hoB, hclB⟩, hPc⟩ := hpre
      intro T0 hT X0
      obtain ⟨v, vm₁, ⟨U', l2, c2, s2⟩, hW₁, X', ⟨g', mk, t, L, e1, e2, hq, h1, hL, h2, h3⟩, sx⟩ := callV X0 hC.1 (C := z'.1.cls) (bytes := z'.2.1) (maxL := z'.2.2.1) (ret := z'.2.2.2.1) hC.2.2.2.2.2.1 hl2 (ok g6) (ok g7) hcode hyy hK (by rw [hT]; exact hcB) hoB hclB (g := F0 m pc ls (stk.map (cv G))) rfl (by show ls.size = _; rw [hl.1, hC.2.2.2.2.1]) (argsL := As.map (cv G)) (rest := st.map (cv G)) (fun sig h => by rw [List.length_map, hnp]; exact hlen sig h) hstack hroom (by rw [hC.2.1]; exact hd)
        (fun vm₁ hW₁ => ⟨show cells + 0 ≤ cells + (0 + rc) by omega, show slots + 0 ≤ slots + (0 + rs) by omega, hPc (T0.setVm vm₁) hT hW₁⟩)
      dsimp only [Pt.U, Pt.locs, Pt.cells, Pt.slots] at X' e1 e2 h1 h2 h3 sx
      subst h1; subst h2; subst h3
      exact ⟨v, (T0.setVm vm₁).calling g' mk (Value.ref (ad G k) :: As.map (cv G)).toArray, t, U', L, hT, X', hL, e1, e2, hq, sx⟩
    exact x_back hrun hH.2.2.2 (fun r M' t H1 locs1 ht hq hn hb hS => x_cont hC hl hH.2.1 ht hn hb hS (by obtain ⟨x, rfl, hx⟩ := hq; exact hx))
  rwa [Nat.zero_add, Nat.zero_add] at main
end XW
theorem lk_bit : Cond.methodLink RX8 49 zX8_bit.1 ∈ BIG := bigT 570 (by decide +kernel) rfl
