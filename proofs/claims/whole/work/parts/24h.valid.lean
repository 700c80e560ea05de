/-! every call leaves a lawful state -/
section VV
variable {s : SS}
theorem ranI {x : Int32} {lo hi : Nat} (h : ¬ (x < nI lo ∨ nI hi < x)) (h1 : lo < 1000) (h2 : hi < 1000) : lo ≤ x.toNatClampNeg ∧ x.toNatClampNeg ≤ hi := by
  rcases icase x (hi + 1) (by omega) with q | ⟨a, ha, hx⟩ | q
  · exact absurd (Or.inl (Int32.lt_of_lt_of_le q (nge0 (by omega)))) h
  · rw [hx, nI_clamp (by omega)]
    refine ⟨?_, by omega⟩
    rcases Nat.lt_or_ge a lo with z | z
    · exact absurd (Or.inl (by rw [hx]; exact (nlt (by omega) (by omega)).mpr z)) h
    · exact z
  · exact absurd (Or.inr (Int32.lt_of_lt_of_le ((nlt (by omega) (by omega)).mpr (by omega)) q.2)) h
theorem v_say {x : Int32} (hv : VSt s) : VSt (sp_say s x).2 := by
  unfold sp_say
  by_cases h1 : x < nI 33 ∨ nI 126 < x
  · rw [if_pos h1]; exact hv
  · rw [if_neg h1]
    by_cases h2 : 80 ≤ s.1.1
    · rw [if_pos h2]; exact hv
    · rw [if_neg h2]
      exact ⟨by show s.1.1 + 1 ≤ 80; omega, hv.2⟩
theorem v_wipe (hv : VSt s) : VSt (sp_wipe s).2 := ⟨Nat.zero_le _, hv.2⟩
theorem v_want {x : Int32} (hv : VSt s) : VSt (sp_want s x).2 := by
  unfold sp_want
  by_cases h1 : x < nI 1 ∨ nI 15 < x
  · rw [if_pos h1]; exact hv
  · rw [if_neg h1]
    exact ⟨hv.1, ⟨hv.2.1.1, hv.2.1.2.1, ranI h1 (by decide) (by decide), hv.2.1.2.2.2⟩, hv.2.2⟩
theorem v_set {x v : Int32} (hv : VSt s) : VSt (sp_set s x v).2 := by
  unfold sp_set
  rcases icase x 5 (by decide) with h | ⟨a, ha, hx⟩ | h
  · rw [if_pos (Or.inl h)]; exact hv
  · have hx0 : ¬ x < 0 := by rw [hx]; exact nneg (by omega)
    have hx5 : x < nI 5 := by rw [hx]; exact (nlt (by decide) (by omega)).mpr ha
    rw [if_neg (fun q => q.elim hx0 (fun q => absurd hx5 (Int32.not_lt.mpr q)))]
    have hcl : x.toNatClampNeg = a := by rw [hx]; exact nI_clamp (by omega)
    by_cases h2 : v < nI 1 ∨ (if x = 0 then nI 3 else nI 5) < v
    · rw [if_pos h2]; exact hv
    · rw [if_neg h2, hcl]
      obtain ⟨w1, w2, w3, ⟨w4, w5, w6⟩, w7⟩ := hv.2.1
      refine ⟨hv.1, ⟨w1, w2, w3, ?_, w7⟩, hv.2.2⟩
      by_cases h0 : a = 0
      · have hx00 : x = 0 := by rw [hx, h0]; rfl
        rw [if_pos hx00] at h2
        have := ranI h2 (by decide) (by decide)
        show 1 ≤ up (dS s.2.1) a v.toNatClampNeg 0 ∧ up (dS s.2.1) a v.toNatClampNeg 0 ≤ 3 ∧ ∀ j, 1 ≤ j → j < 5 → 1 ≤ up (dS s.2.1) a v.toNatClampNeg j ∧ up (dS s.2.1) a v.toNatClampNeg j ≤ 5
        rw [h0, up_eq]
        exact ⟨this.1, this.2, fun j j1 j2 => by rw [up_ne (by omega)]; exact w6 j j1 j2⟩
      · have hx00 : x ≠ 0 := by
          rw [hx]
          intro q
          have := congrArg Int32.toNatClampNeg q
          rw [nI_clamp (by omega)] at this
          exact h0 this
        rw [if_neg hx00] at h2
        have := ranI h2 (by decide) (by decide)
        show 1 ≤ up (dS s.2.1) a v.toNatClampNeg 0 ∧ up (dS s.2.1) a v.toNatClampNeg 0 ≤ 3 ∧ ∀ j, 1 ≤ j → j < 5 → 1 ≤ up (dS s.2.1) a v.toNatClampNeg j ∧ up (dS s.2.1) a v.toNatClampNeg j ≤ 5
        rw [up_ne (by omega)]
        refine ⟨w4, w5, fun j j1 j2 => ?_⟩
        by_cases hj : j = a
        · rw [hj, up_eq]; exact this
        · rw [up_ne hj]; exact w6 j j1 j2
  · rw [if_pos (Or.inr h.2)]; exact hv
theorem v_free (hv : VSt s) : VSt (sp_free s).2 := ⟨hv.1, ⟨hv.2.1.1, hv.2.1.2.1, hv.2.1.2.2.1, hv.2.1.2.2.2.1, Nat.zero_le _, fun j hj => absurd hj (Nat.not_lt_zero j)⟩, hv.2.2⟩
theorem v_keep (hv : VSt s) : VSt (sp_keep s).2 := ⟨hv.1, ⟨hv.2.1.1, hv.2.1.1, hv.2.1.2.2⟩, hv.2.2⟩
theorem fin_PW {rule : Bool} {sg : Nat → Int32} {n : Nat} (hn : n ≤ 80) : ∀ (m : Nat) (p : PT) (i : Nat) (p' : PT), PW rule p → fin rule sg m p i = some p' → ff rule sg n m p i = -6 → PW rule p' ∧ okE rule p' := by
  intro m
  induction m with
  | zero =>
    intro p i p' hw hf h6
    have e : p = p' := Option.some.inj hf
    subst e
    refine ⟨hw, ?_⟩
    rw [ff_0] at h6
    by_cases h : pu p = 1 ∨ (pu p = 6 ∧ pR p = rule)
    · exact h
    · rw [if_neg h] at h6
      exact absurd (show nI n < 0 by rw [h6]; decide) (nneg (by omega))
  | succ m ih =>
    intro p i p' hw hf h6
    rcases q : tk rule p (sg i) with _ | p2
    · have : fin rule sg (m + 1) p i = none := by
        show (match tk rule p (sg i) with | none => none | some p' => fin rule sg m p' (i + 1)) = none
        rw [q]
      rw [this] at hf
      exact absurd hf (by simp)
    · rw [fin_s q] at hf
      rw [ff_s q] at h6
      exact ih p2 (i + 1) p' (PW_tk hw q) hf h6
theorem v_code (hv : VSt s) : VSt (sp_code s).2 := by
  unfold sp_code
  by_cases h : flt false s = -6
  rotate_left
  · rw [if_pos h]; exact hv
  · rw [if_neg (fun z => z h)]
    rcases q : fin false s.1.2 s.1.1 p0 0 with _ | p
    · exact hv
    · have := (fin_PW hv.1 s.1.1 p0 0 p (PW_0 false) q h).1
      exact ⟨Nat.zero_le _, ⟨this.2.1, hv.2.1.2⟩, hv.2.2⟩
theorem v_rule (hv : VSt s) : VSt (sp_rule s).2 := by
  unfold sp_rule
  by_cases h : flt true s = -6
  rotate_left
  · rw [if_pos h]; exact hv
  · rw [if_neg (fun z => z h)]
    by_cases h4 : 4 ≤ dN s.2.1
    · rw [if_pos h4]; exact hv
    · rw [if_neg h4]
      rcases q : fin true s.1.2 s.1.1 p0 0 with _ | p
      · exact hv
      · obtain ⟨hw, hk⟩ := fin_PW hv.1 s.1.1 p0 0 p (PW_0 true) q h
        obtain ⟨w1, w2, w3, w4, w5, w6, w7, w8, w9, w10, w11, w12, w13⟩ := hw
        have hR : pR p = true := hk.elim w10 (fun z => z.2)
        have h1 := (w11 hR).2
        refine ⟨Nat.zero_le _, ⟨hv.2.1.1, hv.2.1.2.1, hv.2.1.2.2.1, hv.2.1.2.2.2.1, by show dN s.2.1 + 1 ≤ 4; omega, fun j hj => ?_⟩, hv.2.2⟩
        show (1 ≤ (up (dR s.2.1) (dN s.2.1) (pL p, pG p) j).1.1 ∧ (up (dR s.2.1) (dN s.2.1) (pL p, pG p) j).1.1 ≤ 3 ∧ VC (up (dR s.2.1) (dN s.2.1) (pL p, pG p) j).1.1 (up (dR s.2.1) (dN s.2.1) (pL p, pG p) j).1.2) ∧ (up (dR s.2.1) (dN s.2.1) (pL p, pG p) j).2.1 ≤ 3 ∧ VC (up (dR s.2.1) (dN s.2.1) (pL p, pG p) j).2.1 (up (dR s.2.1) (dN s.2.1) (pL p, pG p) j).2.2
        by_cases hjn : j = dN s.2.1
        · rw [hjn, up_eq]
          exact ⟨⟨h1, w4, w2⟩, w5, w3⟩
        · rw [up_ne hjn]
          exact hv.2.1.2.2.2.2.2 j (by have hj' : j < dN s.2.1 + 1 := hj; omega)
theorem v_mend {x : Int32} (hv : VSt s) : VSt (sp_mend s x).2 := by
  unfold sp_mend
  by_cases h1 : x < nI 1 ∨ nI 4 < x
  · rw [if_pos h1]; exact hv
  · rw [if_neg h1]; exact VSt_code hv (VS_mdC hv.2.1.1 _)
theorem v_clean (hv : VSt s) : VSt (sp_clean s).2 := VSt_code hv (VC_cln _ _ hv.2.1.1)
theorem v_replace {x : Int32} (hv : VSt s) : VSt (sp_replace s x).2 := by
  unfold sp_replace
  have hn4 : dN s.2.1 ≤ 4 := hv.2.1.2.2.2.2.1
  rcases icase x (dN s.2.1) (by omega) with h | ⟨a, ha, hx⟩ | h
  · rw [if_pos (Or.inl h)]; exact hv
  · have hx0 : ¬ x < 0 := by rw [hx]; exact nneg (by omega)
    have hx5 : x < nI (dN s.2.1) := by rw [hx]; exact (nlt (by omega) (by omega)).mpr ha
    have hcl : x.toNatClampNeg = a := by rw [hx]; exact nI_clamp (by omega)
    rw [if_neg (fun q => q.elim hx0 (fun q => absurd hx5 (Int32.not_lt.mpr q))), hcl]
    rcases q : ffit (dC s.2.1).2 (dC s.2.1).1 (dR s.2.1 a) with _ | b
    · exact hv
    · show VSt (if 12 < (dC s.2.1).1 - (dR s.2.1 a).1.1 + (dR s.2.1 a).2.1 then ((-4, s) : Int32 × SS) else (nI (rplD s.2.1 (dR s.2.1 a) b).1, setC s (rplD s.2.1 (dR s.2.1 a) b))).2
      by_cases h12 : 12 < (dC s.2.1).1 - (dR s.2.1 a).1.1 + (dR s.2.1 a).2.1
      · rw [if_pos h12]; exact hv
      · rw [if_neg h12]; exact VSt_code hv (rplD_v hv.2.1 ha q (by omega))
  · rw [if_pos (Or.inr h.2)]; exact hv
theorem v_go (hv : VSt s) : VSt (sp_go s).2 := goK_v 20 s hv
theorem v_image {x : Int32} (hv : VSt s) : VSt (sp_image s x).2 := by
  unfold sp_image
  by_cases h1 : x < 0 ∨ nI 2 ≤ x
  · rw [if_pos h1]; exact hv
  · rw [if_neg h1]
    refine ⟨hv.1, hv.2.1, fun n D hD => ?_⟩
    have hD' : up s.2.2 x.toNatClampNeg (some s.2.1) n = some D := hD
    by_cases h : n = x.toNatClampNeg
    · rw [h, up_eq] at hD'
      rw [← Option.some.inj hD']
      exact hv.2.1
    · rw [up_ne h] at hD'
      exact hv.2.2 n D hD'
theorem v_restore {x : Int32} (hv : VSt s) : VSt (sp_restore s x).2 := by
  unfold sp_restore
  by_cases h1 : x < 0 ∨ nI 2 ≤ x
  · rw [if_pos h1]; exact hv
  · rw [if_neg h1]
    rcases q : s.2.2 x.toNatClampNeg with _ | D
    · exact hv
    · exact ⟨hv.1, hv.2.2 _ D q, hv.2.2⟩
end VV
