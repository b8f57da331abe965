/-! SwapAssize.rests where it throws -/
abbrev xN : String := "java/util/NoSuchElementException"
abbrev xI (C : String) : MethodName := ⟨C, "<init>", "()V"⟩
/-- what a throw leans on, beside the tables' good words -/
def kXz (b : Nat) (U : State) (H : Heap) : Prop := va_Nw (.castable "java/util/NoSuchElementException" "java/util/NoSuchElementException") U ∧ va_Nw (.declares ⟨"java/lang/RuntimeException", "<init>", "()V"⟩) U ∧ va_Nw (.declares ⟨"java/lang/Exception", "<init>", "()V"⟩) U ∧ va_Nw (.declares ⟨"java/lang/Throwable", "<init>", "()V"⟩) U ∧ vx_Zq Bundle.tN "UNASSIGNED_STACK" Bundle.steD (kA b) U H ∧ vx_Zq Bundle.tN "SUPPRESSED_SENTINEL" Bundle.listD (kA b) U H
theorem kXz.kept {b : Nat} {U : State} {H H1 : Heap} (h : kXz b U H) (hq : ∀ a : Nat, a < H.size → ¬ kA b a → H1[a]? = H[a]?) : kXz b U H1 := ⟨h.1, h.2.1, h.2.2.1, h.2.2.2.1, h.2.2.2.2.1.kept hq, h.2.2.2.2.2.kept hq⟩
theorem kXz.warm {b : Nat} {s U : State} {H : Heap} (hW : s.WarmedH U.vm) (h : kXz b s H) : kXz b U H := ⟨va_Nw.warmC hW h.1, va_Nw.warmD hW h.2.1, va_Nw.warmD hW h.2.2.1, va_Nw.warmD hW h.2.2.2.1, vx_Zq.moved hW.alike h.2.2.2.2.1, vx_Zq.moved hW.alike h.2.2.2.2.2⟩
theorem kXz.same {b : Nat} {s U : State} {H : Heap} (hv : U.vm = s.vm) (h : kXz b s H) : kXz b U H := by
  have hv' : s.vm.Alike U.vm := by rw [hv]; exact Vm.Alike.refl s.vm
  exact ⟨va_tabs rfl hv.symm h.1, va_tabs rfl hv.symm h.2.1, va_tabs rfl hv.symm h.2.2.1, va_tabs rfl hv.symm h.2.2.2.1, vx_Zq.moved hv' h.2.2.2.2.1, vx_Zq.moved hv' h.2.2.2.2.2⟩
def kPcX (xs : List Int32) (D : va_G) (dA : Nat → ClassId) (b : Nat) (z : Nat → Nat) (as : List Value) (w : KW) : Array Value → State → Prop := va_Pc (as.map (kpi b z)) (fun U => va_P D vwCl (kws b z dA w) U.heap ∧ va_K D vwCl (ktys dA) U ∧ kZ xs b z U U.heap ∧ kXz b U U.heap)
theorem kPcX_blind (xs : List Int32) (D : va_G) (dA : Nat → ClassId) (b : Nat) (z : Nat → Nat) (as : List Value) (w : KW) : FrameBlind (kPcX xs D dA b z as w) := fun a U g mk q => by
  obtain ⟨q0, qP, qK, qZ, qX⟩ := q
  exact ⟨q0, qP, va_K.moved (u := U) (U := U.calling g mk a) (Vm.Alike.refl U.vm) qK, kZ.same (U := U.calling g mk a) rfl qZ, kXz.same (U := U.calling g mk a) rfl qX⟩
abbrev xAt : List Cond := vx_at0 "SwapAssize" 333 "java/util/NoSuchElementException" ["java/lang/RuntimeException", "java/lang/Exception"]
abbrev xBd : List Cond := [Cond.castable "java/util/NoSuchElementException" "java/util/NoSuchElementException", .declares ⟨"java/lang/RuntimeException", "<init>", "()V"⟩, .declares ⟨"java/lang/Exception", "<init>", "()V"⟩, .declares ⟨"java/lang/Throwable", "<init>", "()V"⟩]
theorem xa_1 : ∀ w ∈ xAt.filter goodWord, w ∈ lw_tbl := by decide +kernel
theorem xa_2 : ∀ w ∈ xAt.filter (fun w => !goodWord w), w ∈ xBd := by decide +kernel
theorem xa_3 : ∀ w ∈ Cond.classLink "SwapAssize" 331 "java/util/NoSuchElementException" :: Cond.initialized "java/util/NoSuchElementException" :: xAt, vx_ot w = true := by decide +kernel
theorem xa_4 : Cond.classLink "SwapAssize" 331 "java/util/NoSuchElementException" ∈ kT ∧ Cond.initialized "java/util/NoSuchElementException" ∈ kT := by decide +kernel
/-- the world where it has thrown -/
def kXC (b : Nat) (z : Nat → Nat) (dA : Nat → ClassId) (D : va_G) (w : KW) : String → State → State → Prop := fun E st t => E = "java/util/NoSuchElementException" ∧ va_P D vwCl (kws b z dA w) t.heap ∧ va_F (kA b) st t
section WQ
variable {xs : List Int32} {l : Launch} {D : va_G} {dA : Nat → ClassId} {b : Nat} {z : Nat → Nat} {w : KW}
theorem m147_x (hl : l.stackTraces = false) {p q r x : Int32} {a : Nat} (h : aRst p q r x = none) : vx_Met l (ky 147) (kwm 147) ({ frames := 40, cells := 1, slots := 6, locals := 2560 } : Room) (kPcX xs D dA b z [.ref a, .int p, .int q, .int r, .int x] w) (fun _ _ _ _ => False) (kXC b z dA D w) 1 6 (kA b) := by
  obtain ⟨k1, k2, k3, k4, k5, k6, k7, k8⟩ := km_ok (show 147 < 288 by decide)
  refine vx_ofW (cc := kby 147) (maxL := kmax 147) (ret := kret 147) (ws' := kT) (by decide) rfl ?_
  intro p' e s m args below meth c s₁ B hml hem hPq
  obtain ⟨rfl, hP, hK, hZ, hX⟩ := hPq
  have hts := atoms_spec (ws := kwm 147) B.pre
  have hown : s.vm.findClass (ky 147).cls = some m.cls := findClass_of_methodNamed B.named
  have hk : ∀ w ∈ kT, w.before (([.ref a, .int p, .int q, .int r, .int x] : List Value).map (kpi b z)).toArray s = true := fun w hw => hts w (List.mem_cons_of_mem _ hw)
  have C : kCx xs D dA b z 40 147 p' ({ frames := 40, cells := 1, slots := 6, locals := 2560 } : Room) s m (([.ref a, .int p, .int q, .int r, .int x] : List Value).map (kpi b z)).toArray meth c := ⟨B.exec, B.bytes, B.returns, B.notSynchronized, hml, by rw [← k3]; exact hown, hk, fun hi => (by cases hi), hK, hZ, rfl, rfl⟩
  obtain ⟨pc1, L1, hpc, hL7, hy⟩ := y_147 (xs := xs) (d := 38) (w := w) (P := fun pc _ st w' => (pc = 36 ∨ pc = 92) ∧ st = [] ∧ w' = w) (a := a) h
  have hY : kY kx147 xs 40 147 0 [some (.ref a), some (.int p), some (.int q), some (.int r), some (.int x), none, none] [] w (fun pc _ st w' => (pc = 36 ∨ pc = 92) ∧ st = [] ∧ w' = w) := by
    rw [show (40 : Nat) = 38 + 2 from rfl, hy]
    exact ⟨hpc, rfl, rfl⟩
  obtain ⟨n, hx⟩ := hY
  obtain ⟨pc2, L2, st2, w2, ⟨hpc2, hs2, hw2⟩, g1, g2⟩ := ksoundX kx147 xs l D dA b z _ _ _ _ _ _ _ _ hx
  obtain ⟨g3, g4⟩ := g2 (by rw [hw2])
  rw [hw2, hs2] at g4
  have hl0 := lv_entry (([.ref a, .int p, .int q, .int r, .int x] : List Value).map (kpi b z)) (n := 7) (by rw [lg_sl_len]; exact (by decide : 5 ≤ 7))
  show W p' l e ({ frames := 40, cells := 1, slots := 6, locals := 2560 } : Room) s m _ below meth c s.heap [] 0 0 _ _
  rw [lg_entry_eq]
  refine g4 p' e ({ frames := 40, cells := 1, slots := 6, locals := 2560 } : Room) s m _ below meth c _ 0 0 C rfl (Nat.zero_le _) (Nat.zero_le _) s.heap [] _ hP va_S.rf (by
    have e1 : ([some (.ref a), some (.int p), some (.int q), some (.int r), some (.int x), none, none] : KL) = kent [.ref a, .int p, .int q, .int r, .int x] 7 := rfl
    rw [e1]
    unfold kLh
    rw [kent_len _ _ (by decide : 5 ≤ 7), kent_args]
    exact hl0) (fun H1 locs1 ls1 hP1 hS1 hL1 => ?_)
  have hsz : ls1.size = c.maxLocals := by rw [hL1.1, g3, hml]; rfl
  have hat : ∀ w ∈ xAt, w.before (([.ref a, .int p, .int q, .int r, .int x] : List Value).map (kpi b z)).toArray s = true := vx_hat (B := xBd) (fun w hw => hk w (List.mem_filter.mpr ⟨xa_1 w hw, (List.mem_filter.mp hw).2⟩)) xa_2 (vx_c (va_Nw.use rfl hX.1) (vx_c (va_Nw.use rfl hX.2.1) (vx_c (va_Nw.use rfl hX.2.2.1) (vx_c (va_Nw.use rfl hX.2.2.2.1) vx_n))))
  have hxc : ∀ t : State, s.vm.Alike t.vm → H1.size ≤ t.heap.size → (∀ q : Nat, q < H1.size → t.heap[q]? = H1[q]?) → kXC b z dA D w "java/util/NoSuchElementException" s t := fun t hal hs1 hk1 => ⟨rfl, hP1.kept (fun k x hx => hk1 x.1 ((hP1 k x hx).lt)), ⟨Nat.le_trans hS1.1 hs1, fun q h1 h2 => by rw [hk1 q (Nat.lt_of_lt_of_le h1 hS1.1)]; exact hS1.2.1 q h1 h2⟩⟩
  rcases hpc2 with rfl | rfl
  · exact vx_throw0 (cc := kby 147) (own := "SwapAssize") (cls := "java/util/NoSuchElementException") (names := ["java/lang/RuntimeException", "java/lang/Exception"]) (ik := 331) (ic := 333) (A := kA b) (rest := []) B.exec B.bytes hl hown (by decide) (by decide) (hk _ xa_4.1) (hk _ xa_4.2) hat xa_3 hX.2.2.2.2.1 hX.2.2.2.2.2 hS1 hsz (by decide +kernel) (by decide +kernel) (by decide +kernel) (by decide +kernel) (fun x hx => (hem x hx).elim) (by decide) (by decide) (by decide) (by decide) B.notSynchronized hxc hS1.2.2 (by decide) (by decide)
  · exact vx_throw0 (cc := kby 147) (own := "SwapAssize") (cls := "java/util/NoSuchElementException") (names := ["java/lang/RuntimeException", "java/lang/Exception"]) (ik := 331) (ic := 333) (A := kA b) (rest := []) B.exec B.bytes hl hown (by decide) (by decide) (hk _ xa_4.1) (hk _ xa_4.2) hat xa_3 hX.2.2.2.2.1 hX.2.2.2.2.2 hS1 hsz (by decide +kernel) (by decide +kernel) (by decide +kernel) (by decide +kernel) (fun x hx => (hem x hx).elim) (by decide) (by decide) (by decide) (by decide) B.notSynchronized hxc hS1.2.2 (by decide) (by decide)
end WQ
