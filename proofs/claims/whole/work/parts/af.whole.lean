/-! the law from its entry, but for the law's own rests -/
section WP
variable {l : Launch} {p : Program} {e : Env} {s : State} {m : MethodId} {below : List Frame} {meth : Method} {c : Code} {Qs : State → Prop}
theorem kby_288 : kby 288 = code := rfl
theorem kret_288 : kret 288 = ret := rfl
theorem whole_but {b0 L : Nat} {xs0 : Nat → Int32} (hL : L ≤ 3584) (hx : p.tables.exec = Jvm.exec) (hb : c.code = code) (hr : meth.sig.returnType = ret) (hml : c.maxLocals = 7) (hown : s.vm.findClass "SwapAssizeLaw" = some m.cls) (hts : ∀ w ∈ lw_tbl, w.before #[Value.ref b0] s = true) (hX : va_X b0 L xs0 s s.heap) (hbl : b0 < s.heap.size) (hlk : meth.locks = false) (hg : (Jvm.Cond.and given_1 narrow_1).before #[Value.ref b0] s = true)
    (hR : ∀ (D : va_G) (dA : Nat → ClassId) (z : Nat → Nat), kCx ((List.range L).map xs0) D dA s.heap.size z 1000 288 p R_in s m #[Value.ref b0] meth c → kRest ((List.range L).map xs0) l D dA s.heap.size z p e R_in s m #[Value.ref b0] below meth c Qs)
    (hQ : ∀ t : State, (∃ o, t.status = .running ∧ Ended t below o ∧ o = .returned (some (.int 1)) ∧ FrameEnd s o t [] R_in.cells R_in.slots) → Qs t) : W p l e room_1 s m #[Value.ref b0] below meth c s.heap [] 0 0 Qs (entryFrame m ([Value.ref b0] : List Value).toArray 7) := by
  obtain ⟨D, dA, hK⟩ := vaK_of hts
  obtain ⟨z, hz, hZ⟩ := kZ_of hts hg hX hbl
  have ea : (([.retAddr 9] : List Value).map (kpi s.heap.size z)).toArray = #[Value.ref b0] := by
    show #[Value.ref (z 9)] = _
    rw [hz]
  have C : kCx ((List.range L).map xs0) D dA s.heap.size z 1000 288 p R_in s m #[Value.ref b0] meth c := ⟨hx, hb.trans kby_288.symm, hr.trans kret_288.symm, hlk, hml, hown, fun w hw => hts w (kT_tbl hw), fun h => (by cases h), hK, hZ, rfl, rfl⟩
  have h := whole_in (l := l) (e := e) (below := below) (Qs := Qs) (xs := (List.range L).map xs0) (D := D) (dA := dA) (b := s.heap.size) (z := z) (p := p) (s := s) (m := m) (meth := meth) (c := c) (by rw [ea]; exact C) rfl (by rw [List.length_map, List.length_range]; exact hL) (by rw [ea]; exact hR D dA z C) hQ
  rw [ea] at h
  exact h
end WP
