/-! calls -/
theorem kargs_spec : ∀ (n : Nat) (st acc as rest : List Value), kargs n st acc = some (as, rest) → as.reverse ++ rest = acc.reverse ++ st ∧ as.length = n + acc.length := by
  intro n
  induction n with
  | zero =>
    intro st acc as rest h
    simp only [kargs, Option.some.injEq, Prod.mk.injEq] at h
    obtain ⟨rfl, rfl⟩ := h
    exact ⟨rfl, by omega⟩
  | succ n ih =>
    intro st acc as rest h
    cases st with
    | nil => simp [kargs] at h
    | cons v st =>
      obtain ⟨h1, h2⟩ := ih st (v :: acc) as rest h
      exact ⟨by rw [h1]; simp, by rw [h2]; simp; omega⟩
theorem kcat_sum (b : Nat) (z : Nat → Nat) (st : List Value) : ((st.map (kpi b z)).map fun v => v.category).sum = kcat st := by
  induction st with
  | nil => rfl
  | cons v st ih => simp only [List.map_cons, List.sum_cons, kcat, ih, kpi_cat]
def kwm (m : Nat) : List Cond := .code (ky m) (kby m) (kmax m) (kret m) :: kT
def kPc (xs : List Int32) (D : va_G) (dA : Nat → ClassId) (b : Nat) (z : Nat → Nat) (as : List Value) (w : KW) : Array Value → State → Prop := va_Pc (as.map (kpi b z)) (fun U => U.heap.size = b + w.length ∧ va_P D vwCl (kws b z dA w) U.heap ∧ va_K D vwCl (ktys dA) U ∧ kZ xs b z U U.heap)
theorem kPc_blind (xs : List Int32) (D : va_G) (dA : Nat → ClassId) (b : Nat) (z : Nat → Nat) (as : List Value) (w : KW) : FrameBlind (kPc xs D dA b z as w) := fun a U g mk q => by
  obtain ⟨q0, q1, qP, qK, qZ⟩ := q
  exact ⟨q0, q1, qP, va_K.moved (u := U) (U := U.calling g mk a) (Vm.Alike.refl U.vm) qK, kZ.same (U := U.calling g mk a) rfl qZ⟩
section KCALL
variable {xs : List Int32} {l : Launch} {D : va_G} {dA : Nat → ClassId} {b : Nat} {z : Nat → Nat}
/-- a method by its contract -/
theorem kMet_of {d m' : Nat} {as : List Value} {w w1 : KW} {r1 : Option Value} (hm : m' < 288) (ha : kcat as ≤ kmax m') (h1 : w.length ≤ w1.length) (h2 : ksl w ≤ ksl w1) (g : kGo xs l D dA b z d m' 0 (kent as (kmax m')) [] w r1 w1) :
    Met l (ky m') (kwm m') ({ frames := d, cells := w1.length - w.length, slots := ksl w1 - ksl w, locals := 64 * d } : Room) (kPc xs D dA b z as w) (kQ b z dA D r1 w1) (w1.length - w.length) (ksl w1 - ksl w) (kA b) := by
  obtain ⟨k1, k2, k3, k4, k5, k6, k7, k8⟩ := km_ok hm
  refine MetFree.of_bodySF (code := kby m') (maxLocals := kmax m') (ret := kret m') k7 ?_ ?_
  · intro args s m h hn
    obtain ⟨meth, c, h1, h2, h3, h4, h5, h6, -, -⟩ := Cond.code_spec hn (atoms_spec (ws := kwm m') h _ List.mem_cons_self)
    exact ⟨meth, c, h1, h2, h3, h4, h5, h6⟩
  · intro p e s m args below meth c s₁ B hml hPq _
    obtain ⟨rfl, hsz, hP, hK, hZ⟩ := hPq
    have hh0 : s₁.heap = s.heap := by rw [B.state]; rfl
    have hts := atoms_spec (ws := kwm m') B.pre
    have hown : s.vm.findClass (ky m').cls = some m.cls := findClass_of_methodNamed B.named
    have hnm : meth.name = (ky m').name := (name_of_methodNamed B.named B.method).1
    have hl := lv_entry (as.map (kpi b z)) (n := kmax m') (by rw [lg_sl_len]; exact ha)
    have W0 := g p e ({ frames := d, cells := w1.length - w.length, slots := ksl w1 - ksl w, locals := 64 * d } : Room) s m (as.map (kpi b z)).toArray below meth c w.length (ksl w) 0 0 (w1.length - w.length) (ksl w1 - ksl w)
      ⟨B.exec, B.bytes, B.returns, B.notSynchronized, hml, by rw [← k3]; exact hown, fun w hw => hts w (List.mem_cons_of_mem _ hw), fun hi => by rw [hnm]; exact (km_i hm hi).2.1, hK, hZ, rfl, rfl⟩
      (kent_len as _ ha) rfl rfl (by omega) (by omega) rfl rfl hsz s.heap [] _ hP va_S.rf (by unfold kLh; rw [kent_len as _ ha, kent_args]; exact hl)
    obtain ⟨t, a1, o, b1, b2, b3⟩ := W0 s₁ hh0 (Stand.of_body B)
    refine ⟨t, o, ?_, b1, b2, ⟨b3.1, b3.2⟩⟩
    rw [lg_entry_eq]
    exact a1
/-- behind a call -/
theorem kcallO {p : Program} {e : Env} {R : Room} {s : State} {m : MethodId} {args : Array Value} {below : List Frame} {meth : Method} {c : Code} {H : Heap} {locs : List Loc} {cells slots mc ms : Nat} {Q : State → Prop} {pc : Nat} {ls : Array Slot} {rest st0 : List Value} {a : Array Value} {r1 : Option Value} {w1 : KW} (hr : va_Run p l e R s m args below meth c H locs cells slots mc ms (F0 m pc ls st0) rest (kQ b z dA D r1 w1 a) (kA b)) (hS : va_S (kA b) s.heap H locs)
    (kk : ∀ (H1 : Heap) (locs1 : List Loc), va_P D vwCl (kws b z dA w1) H1 → va_S (kA b) s.heap H1 locs1 → W p l e R s m args below meth c H1 locs1 (cells + mc) (slots + ms) Q (F0 m (pc + 3) ls ((r1.map (kpi b z)).toList ++ rest))) : W p l e R s m args below meth c H locs cells slots Q (F0 m pc ls st0) := by
  intro T hT X
  obtain ⟨v, st₀, t, T', L, h0, X', hL, e1, e2, ⟨⟨hv, hp⟩, hz, hk⟩, st⟩ := hr T hT X
  cases hv
  rw [h0] at hz hk
  obtain ⟨t2, a1, b1⟩ := kk T'.heap (locs ++ L) (by rw [e1]; exact hp)
    ⟨Nat.le_trans hS.1 (by rw [e1]; exact hz), fun q h1 h2 => by rw [e1, hk q (Nat.lt_of_lt_of_le h1 hS.1) h2]; exact hS.2.1 q h1 h2, fun q hq => by
      rcases List.mem_append.mp hq with h | h
      · exact hS.2.2 q h
      · exact hL q h⟩ T' rfl X'
  exact ⟨t2, st t2 a1, b1⟩
theorem kpush_map (r : Option Value) (st : List Value) : (kpush r st).map (kpi b z) = (r.map (kpi b z)).toList ++ st.map (kpi b z) := by cases r <;> rfl
theorem kT_goodIn {m : Nat} (hm : m < 288) : GoodIn kT (kwm m) := by
  intro w hw
  rcases List.mem_cons.mp hw with rfl | h
  · exact ⟨km_code hm, Or.inl rfl⟩
  · exact ⟨h, good_of_word (kT_good h)⟩
/-- the kinds of calls -/
def kCallOk (o k m' : Nat) (w : KW) (as : List Value) (i : Instr) : Prop :=
  (i = .invokestatic k ∧ kiss m' = true ∧ as.length = knar m' ∧ (Cond.methodLink (kR o) k (ky m') ∈ kT ∨ ∃ q ∈ knest, q.1 = o ∧ q.2.1 = k ∧ q.2.2.1 = m')) ∨
  (i = .invokevirtual k ∧ kisv m' = true ∧ as.length = knar m' + 1 ∧ (∃ r as', as = r :: as' ∧ krecv w r (kown m') = true) ∧ Cond.methodLink (kR o) k (ky m') ∈ kT) ∨
  (i = .invokespecial k ∧ kini m' = true ∧ as.length = knar m' + 1 ∧ (∃ a as', as = .ref a :: as') ∧ (Cond.methodLink (kR o) k (ky m') ∈ kT ∨ ∃ q ∈ knest, q.1 = o ∧ q.2.1 = k ∧ q.2.2.1 = m'))
theorem kcall_go {Q : Option Value → KW → Prop} {d mid pc m' k : Nat} {L : KL} {st as st' : List Value} {w w1 : KW} {r1 : Option Value} {ps : List Nat} {i : Instr} (hm : m' < 288) (hi : kCallOk (kown mid) k m' w as i) (hst : as.reverse ++ st' = st) (hcat : kcat st' ≤ 8) (ha : kcat as ≤ kmax m') (hd : decode (kby mid) pc = .ok (i, 3)) (f1 : w.length ≤ w1.length) (f2 : ksl w ≤ ksl w1) (g1 : kGo xs l D dA b z d m' 0 (kent as (kmax m')) [] w r1 w1)
    (g : ∃ r w', Q r w' ∧ w1.length ≤ w'.length ∧ ksl w1 ≤ ksl w' ∧ kGo xs l D dA b z (d + 1) mid (pc + 3) (kclr ps L) (kpush r1 st') w1 r w') : ∃ r w', Q r w' ∧ w.length ≤ w'.length ∧ ksl w ≤ ksl w' ∧ kGo xs l D dA b z (d + 1) mid pc L st w r w' := by
  obtain ⟨r, w', hQ, e1, e2, g⟩ := g
  refine ⟨r, w', hQ, by omega, by omega, ?_⟩
  intro p e R s m args below meth c n0 s0 cells slots mc ms C hLn h1 h2 h3 h4 h5 h6 h7 H locs ls hP hS hL
  obtain ⟨hx, hb, hr, hlk, hml, hown, hts, hin, hK, hZ, hfr, hlo⟩ := id C
  obtain ⟨k1, k2, k3, k4, k5, k6, k7, k8⟩ := km_ok hm
  refine kW_size hP hS h1 h7 fun hsz => ?_
  have hM := kMet_of (l := l) (D := D) (dA := dA) (b := b) (z := z) hm ha f1 f2 g1
  have hpre : ∀ U : State, U.heap = H → s.WarmedH U.vm → kPc xs D dA b z as w (as.map (kpi b z)).toArray U := fun U hU hW => by
    refine ⟨rfl, by rw [hU]; exact hsz, by rw [hU]; exact hP, va_K.moved hW.alike hK, ?_⟩
    rw [hU]
    exact (hZ.kept (fun a q1 q2 => hS.2.1 a q1 q2)).warm hW
  have hsize : (F0 m pc ls (st.map (kpi b z))).locals.size = kmax mid := hL.1.trans hLn
  have hroom : (d + 1 ≤ R.frames) ∧ 8 + (kmax m' + 11) + 64 * d ≤ R.locals := ⟨by omega, by omega⟩
  have hWk : 2 * (F0 m pc ls (st.map (kpi b z))).monitorRoom + ((st'.map (kpi b z)).map fun v => v.category).sum ≤ 8 := by
    rw [kcat_sum]
    show 2 * 0 + kcat st' ≤ 8
    omega
  have hcell : cells + (w1.length - w.length) ≤ R.cells ∧ slots + (ksl w1 - ksl w) ≤ R.slots := ⟨by omega, by omega⟩
  have fin : ∀ (H1 : Heap) (locs1 : List Loc), va_P D vwCl (kws b z dA w1) H1 → va_S (kA b) s.heap H1 locs1 → W p l e R s m args below meth c H1 locs1 (cells + (w1.length - w.length)) (slots + (ksl w1 - ksl w)) (MQ below (kQ b z dA D r w') args s mc ms (kA b)) (F0 m (pc + 3) ls ((r1.map (kpi b z)).toList ++ st'.map (kpi b z))) := fun H1 locs1 hP1 hS1 => by
    rw [← kpush_map]
    exact g p e R s m args below meth c n0 s0 _ _ mc ms C (by rw [kclr_len]; exact hLn) (by omega) (by omega) h3 h4 h5 h6 h7 H1 locs1 ls hP1 hS1 (hL.clr ps)
  rcases hi with ⟨rfl, hs, hn, hlk2⟩ | ⟨rfl, hv, hn, ⟨r0, as', rfl, hrc⟩, hlk2⟩ | ⟨rfl, hi, hn, ⟨a0, as', rfl⟩, hlk2⟩
  · have hstack : (F0 m pc ls (st.map (kpi b z))).stack = (as.map (kpi b z)).reverse ++ st'.map (kpi b z) := by
      show st.map (kpi b z) = _
      rw [← hst, List.map_append, List.map_reverse]
    rcases hlk2 with hlk2 | ⟨q, hq, q1, q2, q3⟩
    · have cb := callB_of (R := R) (s := s) (args := args) (own := kR (kown mid)) (index := k) (rm := { frames := d, cells := w1.length - w.length, slots := ksl w1 - ksl w, locals := 64 * d }) (ws' := kT) (knar m') hts (kT_goodIn hm) rfl rfl rfl (hts _ k2) (hts _ hlk2) ⟨k4, k5, k6⟩ hroom
      exact kcallO (va_runS ⟨hx, hb, hml, hown, hts⟩ hM ⟨cb, hts _ (km_s hm hs)⟩ ⟨kPc_blind _ _ _ _ _ _ _, hpre⟩ rfl (by simpa using hn) hsize hstack hWk hd hcell) hS fin
    · have hnw : va_Nw (.methodLinkNest (kR (kown mid)) k (ky m') "SwapAssize") s := by
        have hnw := hZ.2.2.2.2.2.1 q hq
        rw [q1, q2, q3] at hnw
        exact hnw
      have cb := va_cnB (R := R) (s := s) (args := args) (own := kR (kown mid)) (host := "SwapAssize") (index := k) (rm := { frames := d, cells := w1.length - w.length, slots := ksl w1 - ksl w, locals := 64 * d }) (ws' := kT) (knar m') hts (kT_goodIn hm) rfl rfl rfl hnw (hts _ k2) ⟨k4, k5, k6⟩ hroom
      exact kcallO (va_runSN ⟨hx, hb, hml, hown, hts⟩ hM ⟨cb, hts _ (km_s hm hs), trivial⟩ ⟨kPc_blind _ _ _ _ _ _ _, hpre⟩ rfl (by simpa using hn) hsize hstack hWk hd hcell) hS fin
  · have hstack : ∀ q, kpi b z r0 = .ref q → (F0 m pc ls (st.map (kpi b z))).stack = (as'.map (kpi b z)).reverse ++ .ref q :: st'.map (kpi b z) := fun q hq => by
      show st.map (kpi b z) = _
      rw [← hst, ← hq]
      simp
    have cb := callB_of (R := R) (s := s) (args := args) (own := kR (kown mid)) (index := k) (rm := { frames := d, cells := w1.length - w.length, slots := ksl w1 - ksl w, locals := 64 * d }) (ws' := kT) (knar m') hts (kT_goodIn hm) rfl rfl rfl (hts _ k2) (hts _ hlk2) ⟨k4, k5, k6⟩ hroom
    obtain ⟨kv1, kv2⟩ := km_v hm hv
    obtain ⟨q, hq, hcellq⟩ : ∃ q, kpi b z r0 = .ref q ∧ ∃ cellB : Cell, H[q]? = some cellB ∧ cellB.vm.isStatics = false ∧ s.vm.findClass (ky m').cls = some cellB.cls := by
      unfold krecv at hrc
      split at hrc
      · rename_i a0
        split at hrc
        · rename_i ci fs hw
          have hci := Nat.eq_of_beq_eq_true hrc
          have hlt : ci < 13 := by
            obtain ⟨rr, hr1, -⟩ := hP a0 _ (kws_get hw)
            have := (List.getElem?_eq_some_iff.mp hr1).1
            exact this
          refine ⟨b + a0, rfl, ?_⟩
          have := va_recv hK hP (kcl_vw hlt) (kws_get hw)
          rw [k3, ← hci, ← (kx_rest hlt).2.2.2]
          exact this
        · cases hrc
      · have hci := Nat.eq_of_beq_eq_true hrc
        refine ⟨z 2, rfl, ?_⟩
        obtain ⟨cell, c1, c2, c3, -⟩ := (hZ.2.2.2.1.2.1).kept (fun a q1 q2 => hS.2.1 a q1 q2)
        refine ⟨cell, c1, c2, ?_⟩
        rw [k3, hci]
        exact c3
      · cases hrc
    have hpre' : ∀ U : State, U.heap = H → s.WarmedH U.vm → kPc xs D dA b z (r0 :: as') w (Value.ref q :: as'.map (kpi b z)).toArray U := fun U hU hW => by rw [← hq]; exact hpre U hU hW
    exact kcallO (va_runV ⟨hx, hb, hml, hown, hts⟩ hM ⟨cb, hts _ kv1, hts _ kv2⟩ ⟨kPc_blind _ _ _ _ _ _ _, hcellq, hpre'⟩ rfl (by simpa using hn) hsize (hstack q hq) hWk hd hcell) hS fin
  · have hstack : (F0 m pc ls (st.map (kpi b z))).stack = (as'.map (kpi b z)).reverse ++ .ref (b + a0) :: st'.map (kpi b z) := by
      show st.map (kpi b z) = _
      rw [← hst]
      simp [kpi]
    obtain ⟨ki1, ki2, ki3⟩ := km_i hm hi
    rcases hlk2 with hlk2 | ⟨q, hq, q1, q2, q3⟩
    · have cb := callB_of (R := R) (s := s) (args := args) (own := kR (kown mid)) (index := k) (rm := { frames := d, cells := w1.length - w.length, slots := ksl w1 - ksl w, locals := 64 * d }) (ws' := kT) (knar m') hts (kT_goodIn hm) rfl rfl rfl (hts _ k2) (hts _ hlk2) ⟨k4, k5, k6⟩ hroom
      rw [ki3] at cb
      exact kcallO (va_runI ⟨hx, hb, hml, hown, hts⟩ hM ⟨cb, ki2, hts _ ki1⟩ ⟨kPc_blind _ _ _ _ _ _ _, hpre⟩ rfl (by simpa using hn) hsize hstack hWk hd hcell) hS fin
    · have hnw : va_Nw (.methodLinkNest (kR (kown mid)) k (ky m') "SwapAssize") s := by
        have hnw := hZ.2.2.2.2.2.1 q hq
        rw [q1, q2, q3] at hnw
        exact hnw
      have cb := va_cnB (R := R) (s := s) (args := args) (own := kR (kown mid)) (host := "SwapAssize") (index := k) (rm := { frames := d, cells := w1.length - w.length, slots := ksl w1 - ksl w, locals := 64 * d }) (ws' := kT) (knar m') hts (kT_goodIn hm) rfl rfl rfl hnw (hts _ k2) ⟨k4, k5, k6⟩ hroom
      rw [ki3] at cb
      exact kcallO (va_runIN ⟨hx, hb, hml, hown, hts⟩ hM ⟨cb, ki2, hts _ ki1⟩ ⟨kPc_blind _ _ _ _ _ _ _, hpre⟩ rfl (by simpa using hn) hsize hstack hWk hd hcell) hS fin
end KCALL
