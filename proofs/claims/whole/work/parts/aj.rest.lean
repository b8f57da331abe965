/-! what the law's start gives for a throw; the law's own rests, called -/
section WS
variable {xs : List Int32} {l : Launch} {D : va_G} {dA : Nat → ClassId} {b : Nat} {z : Nat → Nat} {p : Program} {e : Env} {s : State} {m : MethodId} {args : Array Value} {below : List Frame} {meth : Method} {c : Code} {Qs : State → Prop}
theorem xz_1 : Cond.castable "java/util/NoSuchElementException" "java/util/NoSuchElementException" ∈ lw_tbl ∧ Cond.declares ⟨"java/lang/RuntimeException", "<init>", "()V"⟩ ∈ lw_tbl ∧ Cond.declares ⟨"java/lang/Exception", "<init>", "()V"⟩ ∈ lw_tbl ∧ Cond.declares ⟨"java/lang/Throwable", "<init>", "()V"⟩ ∈ lw_tbl := by decide +kernel
theorem xz_2 : Cond.laysStatic Bundle.tN "UNASSIGNED_STACK" Bundle.steD ∈ lw_tbl ∧ Cond.laysStatic Bundle.tN "SUPPRESSED_SENTINEL" Bundle.listD ∈ lw_tbl ∧ Cond.initialized Bundle.tN ∈ lw_tbl := by decide +kernel
theorem xz_3 : Cond.isRef (.static Bundle.tN "UNASSIGNED_STACK" Bundle.steD) ∈ gFl ∧ Cond.isRef (.static Bundle.tN "SUPPRESSED_SENTINEL" Bundle.listD) ∈ gFl := by decide +kernel
theorem kXz_of (hts : ∀ w ∈ lw_tbl, w.before args s = true) (hg : (Jvm.Cond.and given_1 narrow_1).before args s = true) : kXz s.heap.size s s.heap := by
  have hF : ∀ w ∈ gFl, w.before args s = true := flat_of_before _ hg
  have hA : ∀ a : Nat, a < s.heap.size → ¬ kA s.heap.size a := fun a h => Nat.not_le.mpr h
  exact ⟨va_Nw.of rfl (hts _ xz_1.1), va_Nw.of rfl (hts _ xz_1.2.1), va_Nw.of rfl (hts _ xz_1.2.2.1), va_Nw.of rfl (hts _ xz_1.2.2.2), vx_Zqof (hts _ xz_2.1) (hts _ xz_2.2.2) (hF _ xz_3.1) hA, vx_Zqof (hts _ xz_2.2.1) (hts _ xz_2.2.2) (hF _ xz_3.2) hA⟩
theorem d_1326 : decode (kby 288) 1326 = .ok (.invokestatic 181, 3) := by decide +kernel
theorem kRest_of (hl : l.stackTraces = false) (C : kCx xs D dA b z 1000 288 p R_in s m args meth c) (hXz : kXz b s s.heap) : kRest xs l D dA b z p e R_in s m args below meth c Qs := by
  intro I J rf a1 a2 a3 a4 i cells slots H locs ls hc hs hP hS hL kk
  obtain ⟨hx, hb, hr, hlk, hml, hown, hts, hin, hK, hZ, hfr, hlo⟩ := id C
  have cw := vx_cwSW (R := R_in) (s := s) (args := args) (own := "SwapAssizeLaw") (index := 181) (maxL := 7) (mc := 1) (ms := 6) (y := yL_rests) (bytes := cL_rests) (ret := some .int) (hh := [(0, 14, 17, 13)]) (Ts := kT) (ws := kwR) (ws' := kT) (rm := rmR) 6 hts kwR_good rfl rfl rfl ⟨by decide, by decide, by decide +kernel⟩ ⟨by decide, by decide⟩
  have hpre : ∀ U : State, U.heap = H → s.WarmedH U.vm → kPcX xs D dA b z [.ref 0, .int a1, .int a2, .int a3, .int a4, .ref 208] (kmm I J rf 0) (([.ref 0, .int a1, .int a2, .int a3, .int a4, .ref 208] : List Value).map (kpi b z)).toArray U := fun U hU hW => ⟨rfl, by rw [hU]; exact hP, va_K.moved hW.alike hK, by rw [hU]; exact (hZ.kept (fun a q1 q2 => hS.2.1 a q1 q2)).warm hW, by rw [hU]; exact (hXz.kept (fun a q1 q2 => hS.2.1 a q1 q2)).warm hW⟩
  refine kcallO (vx_runSW (nL := 7) (cc := kby 288) (As := ([.ref 0, .int a1, .int a2, .int a3, .int a4, .ref 208] : List Value).map (kpi b z)) (rest := []) ⟨hx, hb, hml, hown, hts⟩ (mR (xs := xs) (D := D) (dA := dA) (b := b) (z := z) (I := I) (J := J) (rf := rf) (a1 := a1) (a2 := a2) (a3 := a3) (a4 := a4) hl) cw ⟨kPcX_blind _ _ _ _ _ _ _, hpre⟩ rfl rfl hL.1 rfl (Nat.le_of_ble_eq_true rfl) d_1326 ⟨hc, hs⟩) hS (fun H1 locs1 hP1 hS1 => ?_)
  refine kk (rsJ J (aRst a1 a2 a3 a4)) (cells + 1) (slots + 6) H1 locs1 ls (fun x k hx => ?_) (fun v hv => ?_) (Nat.le_refl _) (Nat.le_refl _) hP1 hS1 hL
  · cases aRst a1 a2 a3 a4 with
    | none => rfl
    | some v => exact ku_nea hx
  · rw [hv]
    exact ku_same J 208 0 _
end WS
