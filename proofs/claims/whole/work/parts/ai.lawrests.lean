/-! the law's own rests -/
theorem dR_0 : decode cL_rests 0 = .ok (.aload 5, 2) := by decide +kernel
theorem dR_2 : decode cL_rests 2 = .ok (.iconst 0, 1) := by decide +kernel
theorem dR_3 : decode cL_rests 3 = .ok (.aload_n 0, 1) := by decide +kernel
theorem dR_4 : decode cL_rests 4 = .ok (.iload_n 1, 1) := by decide +kernel
theorem dR_5 : decode cL_rests 5 = .ok (.iload_n 2, 1) := by decide +kernel
theorem dR_6 : decode cL_rests 6 = .ok (.iload_n 3, 1) := by decide +kernel
theorem dR_7 : decode cL_rests 7 = .ok (.iload 4, 2) := by decide +kernel
theorem dR_9 : decode cL_rests 9 = .ok (.invokevirtual 7, 3) := by decide +kernel
theorem dR_12 : decode cL_rests 12 = .ok (.i2l, 1) := by decide +kernel
theorem dR_13 : decode cL_rests 13 = .ok (.lastore, 1) := by decide +kernel
theorem dR_14 : decode cL_rests 14 = .ok (.goto 7, 3) := by decide +kernel
theorem dR_17 : decode cL_rests 17 = .ok (.astore 6, 2) := by decide +kernel
theorem dR_19 : decode cL_rests 19 = .ok (.iconst 1, 1) := by decide +kernel
theorem dR_20 : decode cL_rests 20 = .ok (.ireturn, 1) := by decide +kernel
theorem dR_21 : decode cL_rests 21 = .ok (.iconst 0, 1) := by decide +kernel
theorem dR_22 : decode cL_rests 22 = .ok (.ireturn, 1) := by decide +kernel
theorem lkR : Cond.methodLink "SwapAssizeLaw" 7 (ky 147) ∈ kT ∧ Cond.classLink "SwapAssizeLaw" 13 "java/util/NoSuchElementException" ∈ kT := by decide +kernel
def rsJ (J : Nat → Nat → Int64) (o : Option Int32) : Nat → Nat → Int64 := match o with
  | some v => ku J 208 0 v.toInt64
  | none => J
abbrev rmR : Room := { frames := 42, cells := 1, slots := 6, locals := 2700 }
section WR
variable {xs : List Int32} {l : Launch} {D : va_G} {dA : Nat → ClassId} {b : Nat} {z : Nat → Nat} {p : Program} {e : Env} {s : State} {m : MethodId} {args : Array Value} {below : List Frame} {meth : Method} {c : Code} {ls : Array Slot}
variable {I : Nat → Nat → Int32} {J : Nat → Nat → Int64} {rf : Nat → Nat} {a1 a2 a3 a4 : Int32}
theorem rR_cell (hK : va_K D vwCl (ktys dA) s) (hP : va_P D vwCl (kws b z dA (kmm I J rf 0)) s.heap) : ∃ cellB : Cell, s.heap[b + 0]? = some cellB ∧ cellB.vm.isStatics = false ∧ s.vm.findClass (ky 147).cls = some cellB.cls :=
  va_recv hK hP (kcl_vw (show 11 < 13 by decide)) (kws_get (show (kmm I J rf 0)[0]? = some (.inl (11, _)) from kmm_get (show 0 < 209 by decide)))
theorem g_147 {w : KW} {v : Int32} {a : Nat} (h : aRst a1 a2 a3 a4 = some v) : kGoN xs l D dA b z 40 147 0 (kent [.ref a, .int a1, .int a2, .int a3, .int a4] (kmax 147)) [] w (some (.int v)) w := by
  have hx : kX xs (38 + 2) 147 0 [some (.ref a), some (.int a1), some (.int a2), some (.int a3), some (.int a4), none, none] [] w (fun r w' => r = some (.int v) ∧ w' = w) := by
    rw [c_147, h, kO_s]
    exact ⟨rfl, rfl⟩
  obtain ⟨n, hn⟩ := hx
  obtain ⟨r, w', ⟨rfl, rfl⟩, _, g⟩ := ksoundN xs l D dA b z _ _ _ _ _ _ _ _ hn
  exact g rfl
/-- it returns: what it told lies in the array -/
theorem lawR_some {v : Int32} (h : aRst a1 a2 a3 a4 = some v) (hx : p.tables.exec = Jvm.exec) (hb : c.code = cL_rests) (hr : meth.sig.returnType = some .int) (hml : c.maxLocals = 7) (hown : s.vm.findClass "SwapAssizeLaw" = some m.cls) (hk : ∀ w ∈ kT, w.before args s = true) (hP : va_P D vwCl (kws b z dA (kmm I J rf 0)) s.heap) (hK : va_K D vwCl (ktys dA) s) (hZ : kZ xs b z s s.heap) (hlk : meth.locks = false) (hL : kLh b z ls [some (.ref 0), some (.int a1), some (.int a2), some (.int a3), some (.int a4), some (.ref 208), none]) :
    W p l e rmR s m args below meth c s.heap [] 0 0 (MQ below (kQ b z dA D (some (.int 0)) (kmm I (ku J 208 0 v.toInt64) rf 0)) args s 1 6 (kA b)) (F0 m 9 ls [.int a4, .int a3, .int a2, .int a1, .ref (b + 0), .int 0, .ref (b + 208)]) := by
  obtain ⟨k1, k2, k3, k4, k5, k6, k7, k8⟩ := km_ok (show 147 < 288 by decide)
  obtain ⟨kvA, kvB⟩ := km_v (show 147 < 288 by decide) rfl
  have hM := kMetN_of (l := l) (D := D) (dA := dA) (b := b) (z := z) (xs := xs) (d := 40) (as := [.ref 0, .int a1, .int a2, .int a3, .int a4]) (w := kmm I J rf 0) (show 147 < 288 by decide) (by decide : 5 ≤ 7) (g_147 h)
  have cb := callB_of (R := rmR) (s := s) (args := args) (own := "SwapAssizeLaw") (index := 7) (rm := { frames := 40, cells := 0, slots := 0, locals := 64 * 40 }) (ws' := kT) (knar 147) hk (kT_goodIn (show 147 < 288 by decide)) rfl rfl rfl (hk _ k2) (hk _ lkR.1) ⟨k4, k5, k6⟩ ⟨by decide, by decide⟩
  have hpre : ∀ U : State, U.heap = s.heap → s.WarmedH U.vm → kPcN xs D dA b z [.ref 0, .int a1, .int a2, .int a3, .int a4] (kmm I J rf 0) (Value.ref (b + 0) :: [.int a1, .int a2, .int a3, .int a4]).toArray U := fun U hU hW => ⟨rfl, by rw [hU]; exact hP, va_K.moved hW.alike hK, by rw [hU]; exact hZ.warm hW⟩
  refine kcallO (va_runV (As := [.int a1, .int a2, .int a3, .int a4]) (rest := [.int 0, .ref (b + 208)]) ⟨hx, hb, hml, hown, hk⟩ hM ⟨cb, hk _ kvA, hk _ kvB⟩ ⟨kPcN_blind _ _ _ _ _ _ _, rR_cell hK hP, hpre⟩ rfl rfl hL.1 rfl (Nat.le_of_ble_eq_true rfl) dR_9 ⟨by decide, by decide⟩) va_S.rf (fun H1 locs1 hP1 hS1 => ?_)
  refine lv_i2l hx hb dR_12 rfl ?_
  obtain ⟨ys, hw, h1, h2, he⟩ := ksJ_some (kk208 (I := I) (J := J) (rf := rf) (g := 0) (x := v.toInt64) (show 0 < 1 by decide))
  have e1 : kEl b z dA (.inr (1, .inr (.inl (ys.set (nI 0).toNatClampNeg v.toInt64)))) = .inl (dA 1, ys.length, .inr (.inl (vp_updL (fun j => ys.getD j 0) (nI 0).toNatClampNeg v.toInt64))) := by
    simp only [kEl, List.length_set]
    congr 5
    funext j
    exact kset_fn h2 j
  refine va_last (n := ys.length) (f := fun j => ys.getD j 0) (i := nI 0) (rest := []) hx hb hK hP1 (kws_D b z dA (kmm I J rf 0)) hS1 208 1 (kws_get hw) rfl h1 dR_13 (fun H2 locs2 hP2 _ hS2 => ?_)
  have hP3 : va_P D vwCl (kws b z dA (kmm I (ku J 208 0 v.toInt64) rf 0)) H2 := by rw [he]; exact kP_set e1 hP2
  refine lv_goto (tgt := 21) hx hb dR_14 (by decide) ?_
  refine lv_iconst (v := 0) hx hb dR_21 rfl ?_
  exact W.widen (k := 1) (n := 6) (by decide) (by decide) (W.iret hx hb hr (fun t ht hW => ⟨⟨rfl, by rw [ht]; exact hP3⟩, hS2.F ht⟩) hS2.2.2 dR_22 hlk)
/-- it throws, and that is caught -/
theorem lawR_none (hl : l.stackTraces = false) (h : aRst a1 a2 a3 a4 = none) (hx : p.tables.exec = Jvm.exec) (hb : c.code = cL_rests) (hr : meth.sig.returnType = some .int) (hml : c.maxLocals = 7) (hown : s.vm.findClass "SwapAssizeLaw" = some m.cls) (hk : ∀ w ∈ kT, w.before args s = true) (hP : va_P D vwCl (kws b z dA (kmm I J rf 0)) s.heap) (hK : va_K D vwCl (ktys dA) s) (hZ : kZ xs b z s s.heap) (hX : kXz b s s.heap) (hlk : meth.locks = false) (htab : c.exceptionTable.toList = tableOf [(0, 14, 17, 13)]) (hL : kLh b z ls [some (.ref 0), some (.int a1), some (.int a2), some (.int a3), some (.int a4), some (.ref 208), none]) :
    W p l e rmR s m args below meth c s.heap [] 0 0 (MQ below (kQ b z dA D (some (.int 1)) (kmm I J rf 0)) args s 1 6 (kA b)) (F0 m 9 ls [.int a4, .int a3, .int a2, .int a1, .ref (b + 0), .int 0, .ref (b + 208)]) := by
  obtain ⟨k1, k2, k3, k4, k5, k6, k7, k8⟩ := km_ok (show 147 < 288 by decide)
  obtain ⟨kvA, kvB⟩ := km_v (show 147 < 288 by decide) rfl
  have hM := m147_x (xs := xs) (D := D) (dA := dA) (b := b) (z := z) (w := kmm I J rf 0) (a := 0) hl h
  have cb := callB_of (R := rmR) (s := s) (args := args) (own := "SwapAssizeLaw") (index := 7) (rm := { frames := 40, cells := 1, slots := 6, locals := 2560 }) (ws' := kT) (knar 147) hk (kT_goodIn (show 147 < 288 by decide)) rfl rfl rfl (hk _ k2) (hk _ lkR.1) ⟨k4, k5, k6⟩ ⟨by decide, by decide⟩
  have hpre : ∀ U : State, U.heap = s.heap → s.WarmedH U.vm → kPcX xs D dA b z [.ref 0, .int a1, .int a2, .int a3, .int a4] (kmm I J rf 0) (Value.ref (b + 0) :: [.int a1, .int a2, .int a3, .int a4]).toArray U := fun U hU hW => ⟨rfl, by rw [hU]; exact hP, va_K.moved hW.alike hK, by rw [hU]; exact hZ.warm hW, by rw [hU]; exact hX.warm hW⟩
  intro T hT X
  rcases vx_runV (As := [.int a1, .int a2, .int a3, .int a4]) (rest := [.int 0, .ref (b + 208)]) (g := F0 m 9 ls [.int a4, .int a3, .int a2, .int a1, .ref (b + 0), .int 0, .ref (b + 208)]) ⟨hx, hb, hml, hown, hk⟩ hM ⟨cb, hk _ kvA, hk _ kvB⟩ ⟨kPcX_blind _ _ _ _ _ _ _, rR_cell hK hP, hpre⟩ rfl rfl hL.1 rfl (Nat.le_of_ble_eq_true rfl) dR_9 ⟨by decide, by decide⟩ T hT X with ⟨v, st₀, t, T', L, h0, X', hL', e1, e2, hF, st⟩ | ⟨q, st₀, t, T', L, E, ce, h0, X', hLf, e1, e2, ⟨rfl, hP2, hF2⟩, hce, hcv, hcl, st⟩
  · exact hF.elim
  · have S1 : va_S (kA b) s.heap T'.heap ([] ++ L) := by
      rw [e1]
      refine ⟨by rw [← h0]; exact hF2.1, fun q h1 h2 => ?_, fun q hq => hLf q (by simpa using hq)⟩
      rw [hF2.2 q (by rw [h0]; exact h1) h2, h0]
    have k : vx_W p l e rmR s m args below meth c T'.heap ([] ++ L) (0 + 1) (0 + 6) (MQ below (kQ b z dA D (some (.int 1)) (kmm I J rf 0)) args s 1 6 (kA b)) (F0 m 9 ls [.int 0, .ref (b + 208)]) q := by
      refine vx_catch (own := "SwapAssizeLaw") (name := "java/util/NoSuchElementException") (E := "java/util/NoSuchElementException") (ce := ce) hown [] ⟨0, 14, 17, 13⟩ [] (by rw [htab]; rfl) (fun z hz => (nomatch hz)) (by decide) (by decide) (hk _ lkR.2) (va_Nw.use rfl hX.1) (by rw [e1]; exact hce) hcv hcl ?_
      refine lv_astore (nL := 7) (i := 6) hx hb dR_17 hL (by decide) rfl (fun ls2 hl2 => ?_)
      refine lv_iconst (v := 1) hx hb dR_19 rfl ?_
      exact W.iret hx hb hr (fun t ht hW => ⟨⟨rfl, by rw [ht, e1]; exact hP2⟩, S1.F ht⟩) S1.2.2 dR_20 hlk
    obtain ⟨t2, b1, b2⟩ := k T' rfl X'
    exact ⟨t2, st.trans b1, b2⟩
def kwR : List Cond := .codeWith yL_rests cL_rests 7 (some .int) [(0, 14, 17, 13)] :: kT
theorem mR (hl : l.stackTraces = false) : Met l yL_rests kwR rmR (kPcX xs D dA b z [.ref 0, .int a1, .int a2, .int a3, .int a4, .ref 208] (kmm I J rf 0)) (kQ b z dA D (some (.int (rsT (aRst a1 a2 a3 a4)))) (kmm I (rsJ J (aRst a1 a2 a3 a4)) rf 0)) 1 6 (kA b) := by
  refine MetFree.of_bodySF (code := cL_rests) (maxLocals := 7) (ret := some .int) (by decide) ?_ ?_
  · intro args s m h hn
    obtain ⟨m9, meth, c, h0, h1, h2, h3, h4, h5, h6, h7, -⟩ := Cond.codeWith_spec (atoms_spec (ws := kwR) h _ List.mem_cons_self)
    cases hn.symm.trans h0
    exact ⟨meth, c, h1, h2, h3, h4, h6, h7⟩
  · intro p e s m args below meth c s₁ B hml hPq _
    obtain ⟨rfl, hP, hK, hZ, hX⟩ := hPq
    have hh0 : s₁.heap = s.heap := by rw [B.state]; rfl
    have hts := atoms_spec (ws := kwR) B.pre
    have hk : ∀ w ∈ kT, w.before (([.ref 0, .int a1, .int a2, .int a3, .int a4, .ref 208] : List Value).map (kpi b z)).toArray s = true := fun w hw => hts w (List.mem_cons_of_mem _ hw)
    have hown : s.vm.findClass "SwapAssizeLaw" = some m.cls := findClass_of_methodNamed B.named
    have htab := vx_table (x := yL_rests) B (hts _ List.mem_cons_self)
    have hl0 := lv_entry (([.ref 0, .int a1, .int a2, .int a3, .int a4, .ref 208] : List Value).map (kpi b z)) (n := 7) (by rw [lg_sl_len]; exact (by decide : 6 ≤ 7))
    have W0 : W p l e rmR s m (([.ref 0, .int a1, .int a2, .int a3, .int a4, .ref 208] : List Value).map (kpi b z)).toArray below meth c s.heap [] 0 0 (MQ below (kQ b z dA D (some (.int (rsT (aRst a1 a2 a3 a4)))) (kmm I (rsJ J (aRst a1 a2 a3 a4)) rf 0)) (([.ref 0, .int a1, .int a2, .int a3, .int a4, .ref 208] : List Value).map (kpi b z)).toArray s 1 6 (kA b)) (entryFrame m (([.ref 0, .int a1, .int a2, .int a3, .int a4, .ref 208] : List Value).map (kpi b z)).toArray 7) := by
      rw [lg_entry_eq]
      generalize (lg_sl (([.ref 0, .int a1, .int a2, .int a3, .int a4, .ref 208] : List Value).map (kpi b z)) ++ List.replicate (7 - (lg_sl (([.ref 0, .int a1, .int a2, .int a3, .int a4, .ref 208] : List Value).map (kpi b z))).length) Slot.unset).toArray = ls at hl0 ⊢
      have hL : kLh b z ls [some (.ref 0), some (.int a1), some (.int a2), some (.int a3), some (.int a4), some (.ref 208), none] := by
        have e1 : ([some (.ref 0), some (.int a1), some (.int a2), some (.int a3), some (.int a4), some (.ref 208), none] : KL) = kent [.ref 0, .int a1, .int a2, .int a3, .int a4, .ref 208] 7 := rfl
        rw [e1]
        unfold kLh
        rw [kent_len _ _ (by decide : 6 ≤ 7), kent_args]
        exact hl0
      refine lv_aload (x := b + 208) B.exec B.bytes dR_0 (hL.get (v := .ref 208) rfl) ?_
      refine lv_iconst (v := 0) B.exec B.bytes dR_2 rfl ?_
      refine lv_aload_n (x := b + 0) B.exec B.bytes dR_3 rfl (hL.get (v := .ref 0) rfl) ?_
      refine lv_iload_n (x := a1) B.exec B.bytes dR_4 rfl (hL.get (v := .int a1) rfl) ?_
      refine lv_iload_n (x := a2) B.exec B.bytes dR_5 rfl (hL.get (v := .int a2) rfl) ?_
      refine lv_iload_n (x := a3) B.exec B.bytes dR_6 rfl (hL.get (v := .int a3) rfl) ?_
      refine lv_iload (x := a4) B.exec B.bytes dR_7 (hL.get (v := .int a4) rfl) ?_
      cases h : aRst a1 a2 a3 a4 with
      | some v => exact lawR_some h B.exec B.bytes B.returns hml hown hk hP hK hZ B.notSynchronized hL
      | none => exact lawR_none hl h B.exec B.bytes B.returns hml hown hk hP hK hZ hX B.notSynchronized htab hL
    obtain ⟨t, c1, o, b1, b2, b3⟩ := W0 s₁ hh0 (Stand.of_body B)
    exact ⟨t, o, c1, b1, b2, ⟨b3.1, b3.2⟩⟩
theorem kwR_in : ∀ w ∈ ([Cond.methodLink "SwapAssizeLaw" 181 yL_rests, Cond.static yL_rests, Cond.initialized yL_rests.cls] : List Cond) ++ [Cond.codeWith yL_rests cL_rests 7 (some .int) [(0, 14, 17, 13)]], w ∈ kT := by decide +kernel
theorem kwR_good : GoodIn kT (va_wsS "SwapAssizeLaw" 181 yL_rests kwR) := by
  intro w hw
  have hw2 : w ∈ ([Cond.methodLink "SwapAssizeLaw" 181 yL_rests, Cond.static yL_rests, Cond.initialized yL_rests.cls] : List Cond) ++ kwR := hw
  rcases List.mem_append.mp hw2 with h1 | h1
  · have hm := kwR_in w (List.mem_append_left _ h1)
    exact ⟨hm, good_of_word (kT_good hm)⟩
  · rcases List.mem_cons.mp h1 with e | h2
    · have hm := kwR_in w (List.mem_append_right _ (by rw [e]; exact List.mem_cons_self))
      exact ⟨hm, good_of_word (kT_good hm)⟩
    · exact ⟨h2, good_of_word (kT_good h2)⟩
end WR
