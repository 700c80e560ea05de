/-- the law, out of one walk in the flat world -/
theorem start_of {p : Program} {e : Env} {s : State} {m : MethodId} {below : List Frame} {meth : Method} {c : Code} (l : Launch) {b L rc rs : Nat} {xs : Nat → Int32} (C0 : AtL p s m meth c b L xs) (hname : meth.name = "law") (hcode : (Cond.code x code maxLocals ret).before #[Value.ref b] s = true) (hrc : rc ≤ 600000) (hrs : rs ≤ 7302250)
    (hX : ∀ G : GG, gL G = L → gX G = xs → X G 1300 zL_law 0 [(0, vr 1000)] [] (0, (fun _ _ => 0), (fun _ _ => 0), (fun _ _ => none)) rc rs (fun r _ => r = some (vi (nI 1)))) :
    W p l e room_1 s m #[Value.ref b] below meth c s.heap [] 0 0 (fun t => ∃ o, t.status = .running ∧ Ended t below o ∧ o = .returned (some (.int 1)) ∧ Framed s o t [] 600000 7302250) (entryFrame m ([Value.ref b] : List Value).toArray 4) := by
  obtain ⟨G, g1, g2, g3, g4, g5, hK⟩ := KU_start l C0
  obtain ⟨hx, hb, hr, hml, hown, hts, hXs, hbl, hlocks, hgv⟩ := C0
  have hC : CX G zL_law p s m #[Value.ref b] meth c := ⟨hx, hb, hr, hlocks, hml, hown, ?_, hname, hK⟩
  · have hl := lv_entry ([.ref b]) (n := 4) (Nat.le_of_ble_eq_true rfl)
    rw [lg_entry_eq]
    generalize (lg_sl ([.ref b]) ++ List.replicate (4 - (lg_sl ([.ref b])).length) Slot.unset).toArray = ls at hl ⊢
    have hl2 : LX G zL_law [(0, vr 1000)] ls := by
      refine ⟨hl.1, hl.2.1, fun q hq => ?_⟩
      have e : q = (0, .ref b) := by
        rw [List.map_cons, List.map_nil, List.mem_singleton] at hq
        rw [hq]
        show (0, va_rf (some (ad G 1000))) = (0, Value.ref b)
        rw [show ad G 1000 = gS G 0 from rfl, g3]
        rfl
      rw [e]
      exact hl.2.2 (0, .ref b) (List.mem_singleton.mpr rfl)
    have hP : HX G (0, (fun _ _ => 0), (fun _ _ => 0), (fun _ _ => none)) s s.heap [] 0 := ⟨fun k q h => by simp [wsG] at h, by rw [g2], Nat.zero_le _, va_S.rf⟩
    have K := hX G g4 g5 p e s m #[Value.ref b] below meth c s.heap [] ls 0 0 hC hP hl2
    rw [g1] at K
    intro T hT Xx
    obtain ⟨t, h1, o, h2, h3, ⟨⟨r, M', a1, a2, a3, a4⟩, h5⟩, Lc, ⟨⟨v, hv⟩, hW, hsame⟩, hfree⟩ := K T hT { Xx with room := room_mono Xx.room (by show 1300 ≤ 2048; decide) (by show 0 + rc ≤ 600000; omega) (by show 0 + rs ≤ 7302250; omega) (by show 64 * 1300 ≤ 84000; decide) }
    refine ⟨t, h1, o, h2, h3, ?_, ⟨v, hv⟩, hW, ?_⟩
    · rw [a1, a2]; rfl
    · refine hsame.weaken (fun y hy hlt => ?_) (by omega) (by omega)
      have := hfree y hy
      unfold gA at this
      rw [g2] at this
      exact absurd hlt (Nat.not_lt.mpr this)
  · intro w hw
    rcases List.mem_cons.mp hw with q | q
    · rw [q]; exact hcode
    · exact hts w (List.mem_filter.mp q).1
