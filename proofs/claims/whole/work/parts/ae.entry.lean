/-! what the law's start gives: classes, arrays, what stood there before -/
section WO
variable {args : Array Value} {s : State}
theorem arr_p {t : FieldType} (h : (Cond.arrayClass t).before args s = true) : ∃ cA, ArrOfT s cA t ∧ s.vm.findClass ("[" ++ t.toString) = some cA := by
  obtain ⟨c, k, comp, h1, h2, h3⟩ := Cond.arrayClass_spec h
  exact ⟨c, fun n z => ⟨fun k h => (by cases h), k, h2, comp, h3⟩, h1⟩
theorem arr_o {C : String} (h : (Cond.arrayOver (.object C)).before args s = true) : ∃ cA, ArrOfT s cA (.object C) ∧ va_RA s cA (.object C) := by
  obtain ⟨comp, c, k, h1, h2, h3, h4, h5⟩ := Cond.arrayOver_spec h
  exact ⟨c, fun n z => ⟨fun k h => (by cases h), k, h3, comp, h4⟩, k, comp, h3, h4, h1, h5⟩
theorem ao_1 : Cond.arrayOver (.object "SwapAssize$State") ∈ lw_tbl := by decide +kernel
theorem ao_2 : Cond.arrayOver (.object "SwapAssize$Seen") ∈ lw_tbl := by decide +kernel
theorem vaK_of (hts : ∀ w ∈ lw_tbl, w.before args s = true) : ∃ (D : va_G) (dA : Nat → ClassId), va_K D vwCl (ktys dA) s := by
  have hk : ∀ w ∈ kT, w.before args s = true := fun w hw => hts w (kT_tbl hw)
  have h1 : ∀ ci : Nat, ∃ q : ClassId × (Nat → Nat), ci < 13 → u_Kn s (kC ci) (kF ci) (kN ci) q.1 q.2 := fun ci => by
    by_cases h : ci < 13
    · obtain ⟨n1, n2, n3, n4⟩ := kx_rest h
      obtain ⟨cC, iS, hu⟩ := u_known (C := kC ci) (T := kF ci) (N := kN ci) hk (kx_in h) (hk _ n2)
      exact ⟨(cC, iS), fun _ => hu⟩
    · obtain ⟨n1, n2, n3, n4⟩ := kx_rest (show 0 < 13 by omega)
      obtain ⟨cC, iS, hu⟩ := u_known (C := kC 0) (T := kF 0) (N := kN 0) hk (kx_in (show 0 < 13 by omega)) (hk _ n2)
      exact ⟨(cC, iS), fun q => absurd q h⟩
  obtain ⟨f, hf⟩ := Classical.axiomOfChoice h1
  obtain ⟨d0, a0, b0⟩ := arr_p (hk _ (kw_in kack_0))
  obtain ⟨d1, a1, b1⟩ := arr_p (hk _ (kw_in kack_1))
  obtain ⟨d2, a2, b2⟩ := arr_p (hk _ (kw_in kack_2))
  obtain ⟨d3, a3, b3⟩ := arr_p (hk _ (kw_in kack_3))
  obtain ⟨d4, a4, b4⟩ := arr_o (hts _ ao_1)
  obtain ⟨d5, a5, b5⟩ := arr_o (hts _ ao_2)
  refine ⟨(fun k => (f k).1, fun k => (f k).2), fun t => match t with | 0 => d0 | 1 => d1 | 2 => d2 | 3 => d3 | 4 => d4 | _ => d5, fun c q hq => ?_, fun k q hq => ?_⟩
  · have hc : c < 13 := (List.getElem?_eq_some_iff.mp hq).1
    rw [kcl_vw hc] at hq
    cases hq
    exact hf c hc
  · match k, hq with
    | 0, hq => cases hq; exact ⟨a0, b0⟩
    | 1, hq => cases hq; exact ⟨a1, b1⟩
    | 2, hq => cases hq; exact ⟨a2, b2⟩
    | 3, hq => cases hq; exact ⟨a3, b3⟩
    | 4, hq => cases hq; exact ⟨a4, b4⟩
    | 5, hq => cases hq; exact ⟨a5, b5⟩
    | k + 6, hq => cases hq
abbrev gFl : List Cond := flatC (Jvm.Cond.and given_1 narrow_1)
abbrev tWo : Term := .static "SwapAssize$Lexer" "WORDS" "[J"
abbrev tSd : Term := .static "SwapAssize" "STRANGE_DEALS" "[I"
abbrev tSt : Term := .string "SwapAssize$Lexer" 50
abbrev tSv : Term := .field tSt "java/lang/String" "value" "[B"
theorem f_1 : Cond.arrayOf tWo .long ∈ gFl := by decide +kernel
theorem f_2 : Cond.eq (.length tWo) (.int (Int32.ofNat 22)) ∈ gFl := by decide +kernel
theorem f_3 : ∀ j : Fin 22, Cond.eq (.elem tWo (.int (Int32.ofNat j.val))) (.long (kwords.getD j.val 0)) ∈ gFl := by decide +kernel
theorem f_4 : Cond.arrayOf tSd .int ∈ gFl := by decide +kernel
theorem f_5 : Cond.eq (.length tSd) (.int (Int32.ofNat 8)) ∈ gFl := by decide +kernel
theorem f_6 : ∀ j : Fin 8, Cond.eq (.elem tSd (.int (Int32.ofNat j.val))) (.int (([1, 0, 1, 2, 9, 44, 265, 1854] : List Int32).getD j.val 0)) ∈ gFl := by decide +kernel
theorem f_7 : Cond.eq (.static "java/lang/String" "COMPACT_STRINGS" "Z") (.int 1) ∈ gFl := by decide +kernel
theorem f_8 : Cond.exactly tSt "java/lang/String" ∈ gFl := by decide +kernel
theorem f_9 : Cond.eq (.field tSt "java/lang/String" "coder" "B") (.int 0) ∈ gFl := by decide +kernel
theorem f_10 : Cond.arrayOf tSv .byte ∈ gFl := by decide +kernel
theorem f_11 : Cond.eq (.length tSv) (.int (Int32.ofNat 8)) ∈ gFl := by decide +kernel
theorem f_12 : ∀ j : Fin 8, Cond.eq (.elem tSv (.int (Int32.ofNat j.val))) (.int (kstr.getD j.val 0)) ∈ gFl := by decide +kernel
theorem t_1 : Cond.laysStatic "SwapAssize$Lexer" "WORDS" "[J" ∈ lw_tbl ∧ Cond.initialized "SwapAssize$Lexer" ∈ lw_tbl := by decide +kernel
theorem t_2 : Cond.laysStatic "SwapAssize" "STRANGE_DEALS" "[I" ∈ lw_tbl ∧ Cond.initialized "SwapAssize" ∈ lw_tbl := by decide +kernel
theorem t_3 : Cond.laysStatic "java/lang/String" "COMPACT_STRINGS" "Z" ∈ lw_tbl ∧ Cond.initialized "java/lang/String" ∈ lw_tbl := by decide +kernel
theorem t_4 : Cond.stringRef "SwapAssize$Lexer" 50 "()<=+-*;" ∈ lw_tbl := by decide +kernel
theorem t_5 : ∀ q ∈ knest, Cond.methodLinkNest (kR q.1) q.2.1 (ky q.2.2.1) "SwapAssize" ∈ lw_tbl := by decide +kernel
theorem kZ_of {b0 L : Nat} {xs0 : Nat → Int32} (hts : ∀ w ∈ lw_tbl, w.before args s = true) (hg : (Jvm.Cond.and given_1 narrow_1).before args s = true) (hX : va_X b0 L xs0 s s.heap) (hbl : b0 < s.heap.size) : ∃ z : Nat → Nat, z 9 = b0 ∧ kZ ((List.range L).map xs0) s.heap.size z s s.heap := by
  have hF : ∀ w ∈ gFl, w.before args s = true := flat_of_before _ hg
  have hA : ∀ a : Nat, a < s.heap.size → ¬ kA s.heap.size a := fun a h => Nat.not_le.mpr h
  obtain ⟨q0, e0, T0⟩ := va_Tof (f := fun j => .long (kwords.getD j 0)) (A := kA s.heap.size) (N := 22) (by decide) (hF _ f_1) (va_eqt (hF _ f_2)) (fun j hj => va_eqtl (hF _ (f_3 ⟨j, hj⟩))) hA
  obtain ⟨q1, e1, T1⟩ := va_Tof (f := fun j => .int (([1, 0, 1, 2, 9, 44, 265, 1854] : List Int32).getD j 0)) (A := kA s.heap.size) (N := 8) (by decide) (hF _ f_4) (va_eqt (hF _ f_5)) (fun j hj => va_eqt (hF _ (f_6 ⟨j, hj⟩))) hA
  obtain ⟨adK, adV, hS, hE⟩ := vk_Sof (args := args) (s := s) (N := 1) (tm := fun _ => tSt) (len := [8]) (byt := [kstr]) (A := kA s.heap.size) (fun i hi => by rw [show i = 0 by omega]; decide) (fun i hi => hF _ f_8) (fun i hi => hF _ f_9) (fun i hi => hF _ f_10) (fun i hi => by rw [show i = 0 by omega]; exact hF _ f_11) (fun i hi j hj => by
    have hi0 : i = 0 := by omega
    subst hi0
    exact hF _ (f_12 ⟨j, hj⟩)) (fun i j hi hj h => absurd (by omega) h) hA
  obtain ⟨s1, s2, s3, s4⟩ := hS.1 0 (by omega)
  have hl : ((List.range L).map xs0).length = L := by rw [List.length_map, List.length_range]
  refine ⟨fun k => match k with | 0 => q0 | 1 => q1 | 2 => adK 0 | 3 => adV 0 | _ => b0, rfl, ⟨va_Zref (hts _ t_1.1) (hts _ t_1.2) e0 hA, T0⟩, ⟨va_Zref (hts _ t_2.1) (hts _ t_2.2) e1 hA, T1⟩, va_Zof (hts _ t_3.1) (hts _ t_3.2) (va_eqt (hF _ f_7)) hA, ⟨vk_R.of (hts _ t_4) (hE 0 (by omega)), s1, s3, s2, s4⟩, ?_, fun q hq => va_Nw.of rfl (hts _ (t_5 q hq)), va_AO.of (hts _ ao_1), va_AO.of (hts _ ao_2)⟩
  obtain ⟨scr, x1, x2, x3, x4, x5⟩ := hX
  refine ⟨scr, x1, x2, x3, by rw [hl, x4]; exact Nat.le_refl _, by rw [hl, x4], fun j hj => ?_, hA _ hbl⟩
  rw [hl] at hj
  rw [x5 j hj]
  show some (Value.int (xs0 j)) = some (Value.int (((List.range L).map xs0).getD j 0))
  rw [List.getD_eq_getElem?_getD, List.getElem?_map, List.getElem?_range hj]
  rfl
end WO
