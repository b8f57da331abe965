/-! SwapAssize.rests where it throws -/
def xN : String := "java/util/NoSuchElementException"
def xS : List String := ["java/lang/RuntimeException", "java/lang/Exception"]
/-- what a throw leans on, beside the tables' good words -/
def kXz (b : Nat) (U : State) (H : Heap) : Prop := va_Nw (.castable "java/util/NoSuchElementException" "java/util/NoSuchElementException") U ∧ vx_Zq Bundle.tN "UNASSIGNED_STACK" Bundle.steD (kA b) U H ∧ vx_Zq Bundle.tN "SUPPRESSED_SENTINEL" Bundle.listD (kA b) U H
theorem kXz.kept {b : Nat} {U : State} {H H1 : Heap} (h : kXz b U H) (hq : ∀ a : Nat, a < H.size → ¬ kA b a → H1[a]? = H[a]?) : kXz b U H1 := ⟨h.1, h.2.1.kept hq, h.2.2.kept hq⟩
theorem kXz.warm {b : Nat} {s U : State} {H : Heap} (hW : s.WarmedH U.vm) (h : kXz b s H) : kXz b U H := ⟨va_Nw.warmC hW h.1, vx_Zq.moved hW.alike h.2.1, vx_Zq.moved hW.alike h.2.2⟩
theorem kXz.same {b : Nat} {s U : State} {H : Heap} (hv : U.vm = s.vm) (h : kXz b s H) : kXz b U H := by
  have hv' : s.vm.Alike U.vm := by rw [hv]; exact Vm.Alike.refl s.vm
  exact ⟨va_tabs rfl hv.symm h.1, vx_Zq.moved hv' h.2.1, vx_Zq.moved hv' h.2.2⟩
def kPcX (xs : List Int32) (D : va_G) (dA : Nat → ClassId) (b : Nat) (z : Nat → Nat) (as : List Value) (w : KW) : Array Value → State → Prop := va_Pc (as.map (kpi b z)) (fun U => va_P D vwCl (kws b z dA w) U.heap ∧ va_K D vwCl (ktys dA) U ∧ kZ xs b z U U.heap ∧ kXz b U U.heap)
theorem kPcX_blind (xs : List Int32) (D : va_G) (dA : Nat → ClassId) (b : Nat) (z : Nat → Nat) (as : List Value) (w : KW) : FrameBlind (kPcX xs D dA b z as w) := fun a U g mk q => by
  obtain ⟨q0, qP, qK, qZ, qX⟩ := q
  exact ⟨q0, qP, va_K.moved (u := U) (U := U.calling g mk a) (Vm.Alike.refl U.vm) qK, kZ.same (U := U.calling g mk a) rfl qZ, kXz.same (U := U.calling g mk a) rfl qX⟩
abbrev xAt : List Cond := vx_at0 "SwapAssize" 333 "java/util/NoSuchElementException" ["java/lang/RuntimeException", "java/lang/Exception"]
theorem g_a : goodWord (.superclass "a" "b") = true := rfl
theorem g_b : goodWord (.native Bundle.tFill0) = true := rfl
theorem g_c : goodWord (.codeSync Bundle.tFill Fill.code 1 (some (.object "a"))) = true := rfl
theorem g_d : goodWord (.castable "a" "b") = true := rfl
theorem g_e : goodWord (.selects "a" Bundle.tFill0 Bundle.tFill0) = true := rfl
theorem g_f : goodWord (.instantiable "a" 6) = true := rfl
theorem g_g : goodWord (.lays "a" "b" "c" "d") = true := rfl
