/-! the law's start: what it makes -/
section WL
variable {xs : List Int32} {l : Launch} {D : va_G} {dA : Nat → ClassId} {b : Nat} {z : Nat → Nat} {d mid pc : Nat} {p : Program} {e : Env} {R : Room} {s : State} {m : MethodId} {args : Array Value} {below : List Frame} {meth : Method} {c : Code} {Qs : State → Prop} {L L' : KL} {st : List Value} {w : KW}
/-- from here, over the world w, the machine comes to Qs -/
def kWp (l : Launch) (D : va_G) (dA : Nat → ClassId) (b : Nat) (z : Nat → Nat) (p : Program) (e : Env) (R : Room) (s : State) (m : MethodId) (args : Array Value) (below : List Frame) (meth : Method) (c : Code) (Qs : State → Prop) (pc : Nat) (L : KL) (st : List Value) (w : KW) : Prop :=
  ∀ (H : Heap) (locs : List Loc) (ls : Array Slot), va_P D vwCl (kws b z dA w) H → va_S (kA b) s.heap H locs → kLh b z ls L → W p l e R s m args below meth c H locs w.length (ksl w) Qs (F0 m pc ls (st.map (kpi b z)))
theorem kWp_st {pc' : Nat} {st' : List Value} (C : kCx xs D dA b z d mid p R s m args meth c) (hL : L.length = kmax mid) (h5 : w.length ≤ R.cells) (h6 : ksl w ≤ R.slots) (hst : kSt xs l D dA b z d mid pc L st w pc' L' st' w) (g : kWp l D dA b z p e R s m args below meth c Qs pc' L' st' w) : kWp l D dA b z p e R s m args below meth c Qs pc L st w :=
  fun H locs ls hP hS hL' => hst p e R s m args below meth c Qs w.length (ksl w) C hL h5 h6 H locs ls hP hS hL' g
theorem kWp_new {k ci : Nat} (C : kCx xs D dA b z d mid p R s m args meth c) (hsz : s.heap.size = b) (hc : kclk (kown mid) k = some ci) (hd : decode (kby mid) pc = .ok (.new k, 3)) (h5 : w.length + 1 ≤ R.cells) (h6 : ksl (w ++ [.inl (ci, knew ci)]) ≤ R.slots) (g : kWp l D dA b z p e R s m args below meth c Qs (pc + 3) L (.ref w.length :: st) (w ++ [.inl (ci, knew ci)])) : kWp l D dA b z p e R s m args below meth c Qs pc L st w := by
  obtain ⟨o1, o2⟩ := kguard hc
  have h3 := kall_at kcck_all o1 o2
  simp only [kcck, hc, Bool.and_eq_true, Nat.blt_eq] at h3
  obtain ⟨⟨⟨⟨⟨hci, hl⟩, -⟩, -⟩, -⟩, -⟩ := h3
  obtain ⟨n1, n2, n3, n4⟩ := kx_rest hci
  have e1 : kslt (.inl (ci, knew ci)) = kN ci := n1
  rw [ksl_app, e1] at h6
  intro H locs ls hP hS hL
  obtain ⟨hx, hb, hr, hlk, hml, hown, hts, hin, hK, hZ, hfr, hlo⟩ := id C
  refine va_new (ci := ci) (fs := knew ci) (C := kC ci) (T := kF ci) (N := kN ci) hx hb hts (kx_in hci) (kFt ci) (kx_ty hci) hown (hts _ (kw_in hl)) (hts _ n2) (hts _ n3) hK hP (kws_D b z dA w) hS (fun q hq => by show b ≤ q; omega) (kcl_vw hci) (kx_df hci) (by omega) (by omega) hd (fun q H1 hP1 hD1 hS1 => ?_)
  intro T hT X
  have hz : H1.size ≤ b + w.length + 1 := by
    have := X.heapSize
    rw [hT] at this
    omega
  have hq := kplace hP1 hD1 hz
  subst hq
  have hw : (w ++ [Sum.inl (ci, knew ci)] : KW).length = w.length + 1 := by rw [List.length_append]; rfl
  have g' := g H1 locs ls (by
    rw [kws_app]
    show va_P D vwCl (kws b z dA w ++ [(b + w.length, .inr (ci, (knew ci).map (kpi b z)))]) H1
    rw [knew_pi b z hci]
    exact hP1) hS1 hL
  rw [hw, ksl_app, e1] at g'
  exact g' T hT X
theorem kWp_newl {n : Int32} (C : kCx xs D dA b z d mid p R s m args meth c) (hsz : s.heap.size = b) (hn : ¬ n < 0) (hm : n.toNatClampNeg ≤ 100000) (hd : decode (kby mid) pc = .ok (.newarray .long, 2)) (h5 : w.length + 1 ≤ R.cells) (h6 : ksl (w ++ [kanew 1 n.toNatClampNeg]) ≤ R.slots) (g : kWp l D dA b z p e R s m args below meth c Qs (pc + 2) L (.ref w.length :: st) (w ++ [kanew 1 n.toNatClampNeg])) : kWp l D dA b z p e R s m args below meth c Qs pc L (.int n :: st) w := by
  rw [ksl_app, kslt_new] at h6
  intro H locs ls hP hS hL
  obtain ⟨hx, hb, hr, hlk, hml, hown, hts, hin, hK, hZ, hfr, hlo⟩ := id C
  refine va_newa (atype := .long) (ty := kty 1) (a0 := (n.toNatClampNeg, .inr (.inl (fun _ => 0)))) hx hb (hts _ (kw_in kack_1)) rfl hK hP (kws_D b z dA w) hS (fun q hq => by show b ≤ q; omega) (fun _ => rfl) hn rfl (by simp only [kty, componentBytes]; omega) (by omega) (by omega) hd (fun q cA H1 hK1 hP1 hD1 hS1 => ?_)
  have hc : cA = dA 1 := kRA_eq (by omega) hK (hK1.2 6 (cA, kty 1) rfl).2
  subst hc
  intro T hT X
  have hz : H1.size ≤ b + w.length + 1 := by
    have := X.heapSize
    rw [hT] at this
    omega
  have hq := kplace hP1 hD1 hz
  subst hq
  have hw : (w ++ [kanew 1 n.toNatClampNeg] : KW).length = w.length + 1 := by rw [List.length_append]; rfl
  have g' := g H1 locs ls (by
    rw [kws_app, kEl_new _ _ (by omega)]
    exact hP1) hS1 hL
  rw [hw, ksl_app, kslt_new] at g'
  exact g' T hT X
theorem kWp_call {m' k : Nat} {as st' : List Value} {w1 : KW} {r1 : Option Value} {i : Instr} (C : kCx xs D dA b z (d + 1) mid p R s m args meth c) (hLn : L.length = kmax mid) (hsz : s.heap.size = b) (hm : m' < 288) (hi : i = .invokespecial k) (hv : kini m' = true) (hn : as.length = knar m' + 1) (ha0 : ∃ a as', as = .ref a :: as') (hlk2 : Cond.methodLink (kR (kown mid)) k (ky m') ∈ kT) (hst : as.reverse ++ st' = st) (hcat : kcat st' ≤ 8) (ha : kcat as ≤ kmax m') (hd : decode (kby mid) pc = .ok (i, 3)) (f1 : w.length ≤ w1.length) (f2 : ksl w ≤ ksl w1) (h5 : w1.length ≤ R.cells) (h6 : ksl w1 ≤ R.slots) (g1 : kGo xs l D dA b z d m' 0 (kent as (kmax m')) [] w r1 w1)
    (g : kWp l D dA b z p e R s m args below meth c Qs (pc + 3) L (kpush r1 st') w1) : kWp l D dA b z p e R s m args below meth c Qs pc L st w := by
  intro H locs ls hP hS hL
  obtain ⟨hx, hb, hr, hlk, hml, hown, hts, hin, hK, hZ, hfr, hlo⟩ := id C
  obtain ⟨k1, k2, k3, k4, k5, k6, k7, k8⟩ := km_ok hm
  refine kW_size (n0 := 0) hP hS (by omega) hsz fun hsz2 => ?_
  have hM := kMet_of (l := l) (D := D) (dA := dA) (b := b) (z := z) hm ha f1 f2 g1
  have hpre : ∀ U : State, U.heap = H → s.WarmedH U.vm → kPc xs D dA b z as w (as.map (kpi b z)).toArray U := fun U hU hW => by
    refine ⟨rfl, by rw [hU]; exact hsz2, by rw [hU]; exact hP, va_K.moved hW.alike hK, ?_⟩
    rw [hU]
    exact (hZ.kept (fun a q1 q2 => hS.2.1 a q1 q2)).warm hW
  have hsize : (F0 m pc ls (st.map (kpi b z))).locals.size = kmax mid := hL.1.trans hLn
  have hroom : (d + 1 ≤ R.frames) ∧ 8 + (kmax m' + 11) + 64 * d ≤ R.locals := ⟨by omega, by omega⟩
  have hWk : 2 * (F0 m pc ls (st.map (kpi b z))).monitorRoom + ((st'.map (kpi b z)).map fun v => v.category).sum ≤ 8 := by
    rw [kcat_sum]
    show 2 * 0 + kcat st' ≤ 8
    omega
  have hcell : w.length + (w1.length - w.length) ≤ R.cells ∧ ksl w + (ksl w1 - ksl w) ≤ R.slots := ⟨by omega, by omega⟩
  have fin : ∀ (H1 : Heap) (locs1 : List Loc), va_P D vwCl (kws b z dA w1) H1 → va_S (kA b) s.heap H1 locs1 → W p l e R s m args below meth c H1 locs1 (w.length + (w1.length - w.length)) (ksl w + (ksl w1 - ksl w)) Qs (F0 m (pc + 3) ls ((r1.map (kpi b z)).toList ++ st'.map (kpi b z))) := fun H1 locs1 hP1 hS1 => by
    rw [← kpush_map, Nat.add_sub_cancel' f1, Nat.add_sub_cancel' f2]
    exact g H1 locs1 ls hP1 hS1 hL
  obtain ⟨a0, as', rfl⟩ := ha0
  subst hi
  have hstack : (F0 m pc ls (st.map (kpi b z))).stack = (as'.map (kpi b z)).reverse ++ .ref (b + a0) :: st'.map (kpi b z) := by
    show st.map (kpi b z) = _
    rw [← hst]
    simp [kpi]
  obtain ⟨ki1, ki2, ki3⟩ := km_i hm hv
  have cb := callB_of (R := R) (s := s) (args := args) (own := kR (kown mid)) (index := k) (rm := { frames := d, cells := w1.length - w.length, slots := ksl w1 - ksl w, locals := 64 * d }) (ws' := kT) (knar m') hts (kT_goodIn hm) rfl rfl rfl (hts _ k2) (hts _ hlk2) ⟨k4, k5, k6⟩ hroom
  rw [ki3] at cb
  exact kcallO (va_runI ⟨hx, hb, hml, hown, hts⟩ hM ⟨cb, ki2, hts _ ki1⟩ ⟨kPc_blind _ _ _ _ _ _ _, hpre⟩ rfl (by simpa using hn) hsize hstack hWk hd hcell) hS fin
end WL
