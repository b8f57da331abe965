/-! THE MACHINE AGAIN, where nothing is made: no word of the heap's size, so that a thrown object may lie there -/
def kPcN (xs : List Int32) (D : va_G) (dA : Nat → ClassId) (b : Nat) (z : Nat → Nat) (as : List Value) (w : KW) : Array Value → State → Prop := va_Pc (as.map (kpi b z)) (fun U => va_P D vwCl (kws b z dA w) U.heap ∧ va_K D vwCl (ktys dA) U ∧ kZ xs b z U U.heap)
theorem kPcN_blind (xs : List Int32) (D : va_G) (dA : Nat → ClassId) (b : Nat) (z : Nat → Nat) (as : List Value) (w : KW) : FrameBlind (kPcN xs D dA b z as w) := fun a U g mk q => by
  obtain ⟨q0, qP, qK, qZ⟩ := q
  exact ⟨q0, qP, va_K.moved (u := U) (U := U.calling g mk a) (Vm.Alike.refl U.vm) qK, kZ.same (U := U.calling g mk a) rfl qZ⟩
/-- from here the machine comes to the method's end, with r, over the world w'; nothing is made -/
def kGoN (xs : List Int32) (l : Launch) (D : va_G) (dA : Nat → ClassId) (b : Nat) (z : Nat → Nat) (d mid : Nat) (pc : Nat) (L : KL) (st : List Value) (w : KW) (r : Option Value) (w' : KW) : Prop :=
  ∀ (p : Program) (e : Env) (R : Room) (s : State) (m : MethodId) (args : Array Value) (below : List Frame) (meth : Method) (c : Code) (cells slots : Nat), kCx xs D dA b z d mid p R s m args meth c → L.length = kmax mid → cells ≤ R.cells → slots ≤ R.slots →
    ∀ (H : Heap) (locs : List Loc) (ls : Array Slot), va_P D vwCl (kws b z dA w) H → va_S (kA b) s.heap H locs → kLh b z ls L →
      W p l e R s m args below meth c H locs cells slots (MQ below (kQ b z dA D r w') args s R.cells R.slots (kA b)) (F0 m pc ls (st.map (kpi b z)))
section KGON
variable {xs : List Int32} {l : Launch} {D : va_G} {dA : Nat → ClassId} {b : Nat} {z : Nat → Nat} {d mid pc : Nat} {L : KL} {st : List Value} {w : KW}
abbrev kGN (xs : List Int32) (l : Launch) (D : va_G) (dA : Nat → ClassId) (b : Nat) (z : Nat → Nat) (d mid : Nat) (pc : Nat) (L : KL) (st : List Value) (w : KW) (Q : Option Value → KW → Prop) : Prop := ∃ r w', Q r w' ∧ w.length ≤ w'.length ∧ (w'.length = w.length → kGoN xs l D dA b z d mid pc L st w r w')
theorem kdoneN {Q : Option Value → KW → Prop} {pc' : Nat} {ps : List Nat} {L' : KL} {st' : List Value} {w1 : KW} (g : kGN xs l D dA b z d mid pc' (kclr ps L') st' w1 Q) (hst : kSt xs l D dA b z d mid pc L st w pc' L' st' w1) (e1 : w1.length = w.length) (e2 : ksl w1 = ksl w) (e3 : L'.length = L.length) : kGN xs l D dA b z d mid pc L st w Q := by
  obtain ⟨r, w', hQ, g1, g⟩ := g
  refine ⟨r, w', hQ, by omega, fun e => ?_⟩
  replace g := g (by omega)
  intro p e R s m args below meth c cells slots C hLn h5 h6 H locs ls hP hS hL
  exact hst p e R s m args below meth c _ cells slots C hLn h5 h6 H locs ls hP hS hL (fun H' locs' ls' hP' hS' hL' => g p e R s m args below meth c cells slots C (by rw [kclr_len, e3]; exact hLn) h5 h6 H' locs' ls' hP' hS' (hL'.clr ps))
theorem knewN {Q : Option Value → KW → Prop} {w1 : KW} {pc' : Nat} {L' : KL} {st' : List Value} (g : kGN xs l D dA b z d mid pc' L' st' w1 Q) (e1 : w1.length = w.length + 1) : kGN xs l D dA b z d mid pc L st w Q := by
  obtain ⟨r, w', hQ, g1, g⟩ := g
  exact ⟨r, w', hQ, by omega, fun e => by omega⟩
theorem kMetN_of {d m' : Nat} {as : List Value} {w w1 : KW} {r1 : Option Value} (hm : m' < 288) (ha : kcat as ≤ kmax m') (g : kGoN xs l D dA b z d m' 0 (kent as (kmax m')) [] w r1 w1) :
    Met l (ky m') (kwm m') ({ frames := d, cells := 0, slots := 0, locals := 64 * d } : Room) (kPcN xs D dA b z as w) (kQ b z dA D r1 w1) 0 0 (kA b) := by
  obtain ⟨k1, k2, k3, k4, k5, k6, k7, k8⟩ := km_ok hm
  refine MetFree.of_bodySF (code := kby m') (maxLocals := kmax m') (ret := kret m') k7 ?_ ?_
  · intro args s m h hn
    obtain ⟨meth, c, h1, h2, h3, h4, h5, h6, -, -⟩ := Cond.code_spec hn (atoms_spec (ws := kwm m') h _ List.mem_cons_self)
    exact ⟨meth, c, h1, h2, h3, h4, h5, h6⟩
  · intro p e s m args below meth c s₁ B hml hPq _
    obtain ⟨rfl, hP, hK, hZ⟩ := hPq
    have hh0 : s₁.heap = s.heap := by rw [B.state]; rfl
    have hts := atoms_spec (ws := kwm m') B.pre
    have hown : s.vm.findClass (ky m').cls = some m.cls := findClass_of_methodNamed B.named
    have hnm : meth.name = (ky m').name := (name_of_methodNamed B.named B.method).1
    have hl := lv_entry (as.map (kpi b z)) (n := kmax m') (by rw [lg_sl_len]; exact ha)
    have W0 := g p e ({ frames := d, cells := 0, slots := 0, locals := 64 * d } : Room) s m (as.map (kpi b z)).toArray below meth c 0 0
      ⟨B.exec, B.bytes, B.returns, B.notSynchronized, hml, by rw [← k3]; exact hown, fun w hw => hts w (List.mem_cons_of_mem _ hw), fun hi => by rw [hnm]; exact (km_i hm hi).2.1, hK, hZ, rfl, rfl⟩
      (kent_len as _ ha) (Nat.le_refl _) (Nat.le_refl _) s.heap [] _ hP va_S.rf (by unfold kLh; rw [kent_len as _ ha, kent_args]; exact hl)
    obtain ⟨t, a1, o, b1, b2, b3⟩ := W0 s₁ hh0 (Stand.of_body B)
    refine ⟨t, o, ?_, b1, b2, ⟨b3.1, b3.2⟩⟩
    rw [lg_entry_eq]
    exact a1
theorem kcallN_go {Q : Option Value → KW → Prop} {d mid pc m' k : Nat} {L : KL} {st as st' : List Value} {w w1 : KW} {r1 : Option Value} {ps : List Nat} {i : Instr} (hm : m' < 288) (hi : kCallOk (kown mid) k m' w as i) (hst : as.reverse ++ st' = st) (hcat : kcat st' ≤ 8) (ha : kcat as ≤ kmax m') (hd : decode (kby mid) pc = .ok (i, 3)) (f1 : w.length ≤ w1.length) (g1 : w1.length = w.length → kGoN xs l D dA b z d m' 0 (kent as (kmax m')) [] w r1 w1)
    (g : kGN xs l D dA b z (d + 1) mid (pc + 3) (kclr ps L) (kpush r1 st') w1 Q) : kGN xs l D dA b z (d + 1) mid pc L st w Q := by
  obtain ⟨r, w', hQ, e1, g⟩ := g
  refine ⟨r, w', hQ, by omega, fun ee => ?_⟩
  replace g := g (by omega)
  replace g1 := g1 (by omega)
  intro p e R s m args below meth c cells slots C hLn h5 h6 H locs ls hP hS hL
  obtain ⟨hx, hb, hr, hlk, hml, hown, hts, hin, hK, hZ, hfr, hlo⟩ := id C
  obtain ⟨k1, k2, k3, k4, k5, k6, k7, k8⟩ := km_ok hm
  have hM := kMetN_of (l := l) (D := D) (dA := dA) (b := b) (z := z) hm ha g1
  have hpre : ∀ U : State, U.heap = H → s.WarmedH U.vm → kPcN xs D dA b z as w (as.map (kpi b z)).toArray U := fun U hU hW => by
    refine ⟨rfl, by rw [hU]; exact hP, va_K.moved hW.alike hK, ?_⟩
    rw [hU]
    exact (hZ.kept (fun a q1 q2 => hS.2.1 a q1 q2)).warm hW
  have hsize : (F0 m pc ls (st.map (kpi b z))).locals.size = kmax mid := hL.1.trans hLn
  have hroom : (d + 1 ≤ R.frames) ∧ 8 + (kmax m' + 11) + 64 * d ≤ R.locals := ⟨by omega, by omega⟩
  have hWk : 2 * (F0 m pc ls (st.map (kpi b z))).monitorRoom + ((st'.map (kpi b z)).map fun v => v.category).sum ≤ 8 := by
    rw [kcat_sum]
    show 2 * 0 + kcat st' ≤ 8
    omega
  have hcell : cells + 0 ≤ R.cells ∧ slots + 0 ≤ R.slots := ⟨h5, h6⟩
  have fin : ∀ (H1 : Heap) (locs1 : List Loc), va_P D vwCl (kws b z dA w1) H1 → va_S (kA b) s.heap H1 locs1 → W p l e R s m args below meth c H1 locs1 (cells + 0) (slots + 0) (MQ below (kQ b z dA D r w') args s R.cells R.slots (kA b)) (F0 m (pc + 3) ls ((r1.map (kpi b z)).toList ++ st'.map (kpi b z))) := fun H1 locs1 hP1 hS1 => by
    rw [← kpush_map]
    exact g p e R s m args below meth c _ _ C (by rw [kclr_len]; exact hLn) h5 h6 H1 locs1 ls hP1 hS1 (hL.clr ps)
  rcases hi with ⟨rfl, hs, hn, hlk2⟩ | ⟨rfl, hv, hn, ⟨r0, as', rfl, hrc⟩, hlk2⟩ | ⟨rfl, hi, hn, ⟨a0, as', rfl⟩, hlk2⟩
  · have hstack : (F0 m pc ls (st.map (kpi b z))).stack = (as.map (kpi b z)).reverse ++ st'.map (kpi b z) := by
      show st.map (kpi b z) = _
      rw [← hst, List.map_append, List.map_reverse]
    rcases hlk2 with hlk2 | ⟨q, hq, q1, q2, q3⟩
    · have cb := callB_of (R := R) (s := s) (args := args) (own := kR (kown mid)) (index := k) (rm := { frames := d, cells := 0, slots := 0, locals := 64 * d }) (ws' := kT) (knar m') hts (kT_goodIn hm) rfl rfl rfl (hts _ k2) (hts _ hlk2) ⟨k4, k5, k6⟩ hroom
      exact kcallO (va_runS ⟨hx, hb, hml, hown, hts⟩ hM ⟨cb, hts _ (km_s hm hs)⟩ ⟨kPcN_blind _ _ _ _ _ _ _, hpre⟩ rfl (by simpa using hn) hsize hstack hWk hd hcell) hS fin
    · have hnw : va_Nw (.methodLinkNest (kR (kown mid)) k (ky m') "SwapAssize") s := by
        have hnw := hZ.2.2.2.2.2.1 q hq
        rw [q1, q2, q3] at hnw
        exact hnw
      have cb := va_cnB (R := R) (s := s) (args := args) (own := kR (kown mid)) (host := "SwapAssize") (index := k) (rm := { frames := d, cells := 0, slots := 0, locals := 64 * d }) (ws' := kT) (knar m') hts (kT_goodIn hm) rfl rfl rfl hnw (hts _ k2) ⟨k4, k5, k6⟩ hroom
      exact kcallO (va_runSN ⟨hx, hb, hml, hown, hts⟩ hM ⟨cb, hts _ (km_s hm hs), trivial⟩ ⟨kPcN_blind _ _ _ _ _ _ _, hpre⟩ rfl (by simpa using hn) hsize hstack hWk hd hcell) hS fin
  · have hstack : ∀ q, kpi b z r0 = .ref q → (F0 m pc ls (st.map (kpi b z))).stack = (as'.map (kpi b z)).reverse ++ .ref q :: st'.map (kpi b z) := fun q hq => by
      show st.map (kpi b z) = _
      rw [← hst, ← hq]
      simp
    have cb := callB_of (R := R) (s := s) (args := args) (own := kR (kown mid)) (index := k) (rm := { frames := d, cells := 0, slots := 0, locals := 64 * d }) (ws' := kT) (knar m') hts (kT_goodIn hm) rfl rfl rfl (hts _ k2) (hts _ hlk2) ⟨k4, k5, k6⟩ hroom
    obtain ⟨kvA, kvB⟩ := km_v hm hv
    obtain ⟨q, hq, hcellq⟩ : ∃ q, kpi b z r0 = .ref q ∧ ∃ cellB : Cell, H[q]? = some cellB ∧ cellB.vm.isStatics = false ∧ s.vm.findClass (ky m').cls = some cellB.cls := by
      unfold krecv at hrc
      split at hrc
      · rename_i a0
        split at hrc
        · rename_i ci fs hw
          have hci := Nat.eq_of_beq_eq_true hrc
          have hlt : ci < 13 := by
            obtain ⟨rr, hr1, -⟩ := hP a0 _ (kws_get hw)
            have := (List.getElem?_eq_some_iff.mp hr1).1
            exact this
          refine ⟨b + a0, rfl, ?_⟩
          have := va_recv hK hP (kcl_vw hlt) (kws_get hw)
          rw [k3, ← hci, ← (kx_rest hlt).2.2.2]
          exact this
        · cases hrc
      · have hci := Nat.eq_of_beq_eq_true hrc
        refine ⟨z 2, rfl, ?_⟩
        obtain ⟨cell, c1, c2, c3, -⟩ := (hZ.2.2.2.1.2.1).kept (fun a q1 q2 => hS.2.1 a q1 q2)
        refine ⟨cell, c1, c2, ?_⟩
        rw [k3, hci]
        exact c3
      · cases hrc
    have hpre' : ∀ U : State, U.heap = H → s.WarmedH U.vm → kPcN xs D dA b z (r0 :: as') w (Value.ref q :: as'.map (kpi b z)).toArray U := fun U hU hW => by rw [← hq]; exact hpre U hU hW
    exact kcallO (va_runV ⟨hx, hb, hml, hown, hts⟩ hM ⟨cb, hts _ kvA, hts _ kvB⟩ ⟨kPcN_blind _ _ _ _ _ _ _, hcellq, hpre'⟩ rfl (by simpa using hn) hsize (hstack q hq) hWk hd hcell) hS fin
  · have hstack : (F0 m pc ls (st.map (kpi b z))).stack = (as'.map (kpi b z)).reverse ++ .ref (b + a0) :: st'.map (kpi b z) := by
      show st.map (kpi b z) = _
      rw [← hst]
      simp [kpi]
    obtain ⟨ki1, ki2, ki3⟩ := km_i hm hi
    rcases hlk2 with hlk2 | ⟨q, hq, q1, q2, q3⟩
    · have cb := callB_of (R := R) (s := s) (args := args) (own := kR (kown mid)) (index := k) (rm := { frames := d, cells := 0, slots := 0, locals := 64 * d }) (ws' := kT) (knar m') hts (kT_goodIn hm) rfl rfl rfl (hts _ k2) (hts _ hlk2) ⟨k4, k5, k6⟩ hroom
      rw [ki3] at cb
      exact kcallO (va_runI ⟨hx, hb, hml, hown, hts⟩ hM ⟨cb, ki2, hts _ ki1⟩ ⟨kPcN_blind _ _ _ _ _ _ _, hpre⟩ rfl (by simpa using hn) hsize hstack hWk hd hcell) hS fin
    · have hnw : va_Nw (.methodLinkNest (kR (kown mid)) k (ky m') "SwapAssize") s := by
        have hnw := hZ.2.2.2.2.2.1 q hq
        rw [q1, q2, q3] at hnw
        exact hnw
      have cb := va_cnB (R := R) (s := s) (args := args) (own := kR (kown mid)) (host := "SwapAssize") (index := k) (rm := { frames := d, cells := 0, slots := 0, locals := 64 * d }) (ws' := kT) (knar m') hts (kT_goodIn hm) rfl rfl rfl hnw (hts _ k2) ⟨k4, k5, k6⟩ hroom
      rw [ki3] at cb
      exact kcallO (va_runIN ⟨hx, hb, hml, hown, hts⟩ hM ⟨cb, ki2, hts _ ki1⟩ ⟨kPcN_blind _ _ _ _ _ _ _, hpre⟩ rfl (by simpa using hn) hsize hstack hWk hd hcell) hS fin
theorem kretN_go {Q : Option Value → KW → Prop} {v : Int32} {t : FieldType} (hr0 : kret mid = some t) (hn : narrow t (.int v) = .int v) (hQ : Q (some (.int v)) w) (hd : decode (kby mid) pc = .ok (.ireturn, 1)) : kGN xs l D dA b z d mid pc L [.int v] w Q := by
  refine ⟨_, w, hQ, Nat.le_refl _, fun _ => ?_⟩
  intro p e R s m args below meth c cells slots C hLn h5 h6 H locs ls hP hS hL
  obtain ⟨hx, hb, hr, hlk, hml, hown, hts, hin, hK, hZ, hfr, hlo⟩ := C
  exact W.widen h5 h6 (W.zret hx hb (hr.trans hr0) hn (fun t ht hW => ⟨⟨rfl, by rw [ht]; exact hP⟩, hS.F ht⟩) hS.2.2 hd hlk)
theorem kretvN_go {Q : Option Value → KW → Prop} (hr0 : kret mid = none) (hQ : Q none w) (hd : decode (kby mid) pc = .ok (.return_, 1)) : kGN xs l D dA b z d mid pc L [] w Q := by
  refine ⟨_, w, hQ, Nat.le_refl _, fun _ => ?_⟩
  intro p e R s m args below meth c cells slots C hLn h5 h6 H locs ls hP hS hL
  obtain ⟨hx, hb, hr, hlk, hml, hown, hts, hin, hK, hZ, hfr, hlo⟩ := C
  exact W.widen h5 h6 (W.vret hx hb (hr.trans hr0) (fun t ht hW => ⟨⟨rfl, by rw [ht]; exact hP⟩, hS.F ht⟩) hS.2.2 hd hlk)
end KGON
