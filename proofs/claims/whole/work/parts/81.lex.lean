/-! the class's lexer, small methods; the model's too -/
section LX
variable {xs : List Int32} {d : Nat} {I I' I2 : Nat → Nat → Int32} {J J' : Nat → Nat → Int64} {rf : Nat → Nat} {g : Nat} {R : Option Value → KW → Prop} {w : KW} {T : aTp} {c : Nat}
theorem bN_z (b : Bool) : (nI (bN b) = 0) = (b = false) := by cases b <;> decide
theorem nar1 : narrow .boolean (.int 1) = .int 1 := by decide
theorem nar0 : narrow .boolean (.int 0) = .int 0 := by decide
theorem isL_t (h1 : 97 ≤ c) (h2 : c ≤ 122) : isL c = true := isL_iff.mpr ⟨h1, h2⟩
theorem isL_f (h : ¬ (97 ≤ c ∧ c ≤ 122)) : isL c = false := bfalse (fun e => h (isL_iff.mp e))
theorem isD_t (h1 : 48 ≤ c) (h2 : c ≤ 57) : isD c = true := isD_iff.mpr ⟨h1, h2⟩
theorem isD_f (h : ¬ (48 ≤ c ∧ c ≤ 57)) : isD c = false := bfalse (fun e => h (isD_iff.mp e))
theorem sp22 (hc : c < 127) : kX xs d 22 0 [some (.int (nI c))] [] w R = R (some (.int (nI (bN (isL c))))) w := by
  rw [B22_0, c8_97]
  by_cases h1 : c < 97
  · rw [if_pos (nI_lt h1 (by omega)), B22_16, B22_17, if_pos nar0, isL_f (by omega)]; rfl
  · rw [if_neg (nI_nlt (by omega) (by omega)), B22_6, c8_122]
    by_cases h2 : 122 < c
    · rw [if_pos (nI_lt h2 (by omega)), B22_16, B22_17, if_pos nar0, isL_f (by omega)]; rfl
    · rw [if_neg (nI_nlt (by omega) (by omega)), B22_12, B22_17, if_pos nar1, isL_t (by omega) (by omega)]; rfl
theorem sp23 (hc : c < 127) : kX xs d 23 0 [some (.int (nI c))] [] w R = R (some (.int (nI (bN (isD c))))) w := by
  rw [B23_0, c8_48]
  by_cases h1 : c < 48
  · rw [if_pos (nI_lt h1 (by omega)), B23_16, B23_17, if_pos nar0, isD_f (by omega)]; rfl
  · rw [if_neg (nI_nlt (by omega) (by omega)), B23_6, c8_57]
    by_cases h2 : 57 < c
    · rw [if_pos (nI_lt h2 (by omega)), B23_16, B23_17, if_pos nar0, isD_f (by omega)]; rfl
    · rw [if_neg (nI_nlt (by omega) (by omega)), B23_12, B23_17, if_pos nar1, isD_t (by omega) (by omega)]; rfl
theorem sp159 (hc : c < 127) : kX xs d 159 0 [some (.int (nI c))] [] w R = R (some (.int (nI (bN (isL c))))) w := by
  rw [B159_0, c8_97]
  by_cases h1 : c < 97
  · rw [if_pos (nI_lt h1 (by omega)), B159_16, B159_17, if_pos nar0, isL_f (by omega)]; rfl
  · rw [if_neg (nI_nlt (by omega) (by omega)), B159_6, c8_122]
    by_cases h2 : 122 < c
    · rw [if_pos (nI_lt h2 (by omega)), B159_16, B159_17, if_pos nar0, isL_f (by omega)]; rfl
    · rw [if_neg (nI_nlt (by omega) (by omega)), B159_12, B159_17, if_pos nar1, isL_t (by omega) (by omega)]; rfl
theorem sp160 (hc : c < 127) : kX xs d 160 0 [some (.int (nI c))] [] w R = R (some (.int (nI (bN (isD c))))) w := by
  rw [B160_0, c8_48]
  by_cases h1 : c < 48
  · rw [if_pos (nI_lt h1 (by omega)), B160_16, B160_17, if_pos nar0, isD_f (by omega)]; rfl
  · rw [if_neg (nI_nlt (by omega) (by omega)), B160_6, c8_57]
    by_cases h2 : 57 < c
    · rw [if_pos (nI_lt h2 (by omega)), B160_16, B160_17, if_pos nar0, isD_f (by omega)]; rfl
    · rw [if_neg (nI_nlt (by omega) (by omega)), B160_12, B160_17, if_pos nar1, isD_t (by omega) (by omega)]; rfl
theorem nI_sb {a b : Nat} (h : b ≤ a) : nI a - nI b = nI (a - b) := by
  have e : nI a = nI (a - b) + nI b := by rw [nI_add, Nat.sub_add_cancel h]
  rw [e, Int32.sub_eq_add_neg, Int32.add_assoc, Int32.add_right_neg, Int32.add_zero]
theorem sp161 (hc : c < 127) (h : isL c = true) : kX xs (d + 1) 161 0 [some (.int (nI c))] [] w R = R (some (.int (nI (c - 96)))) w := by
  have q := isL_iff.mp h
  rw [B161_0, sp159 hc, kpush_s, B161_4, h, if_neg (by decide), B161_7, c8_96, nI_sb (by omega), B161_18]
theorem sp162 (hc : c < 127) : kX xs d 162 0 [some (.int (nI c))] [] w R = R (some (.int (nI (bN (isS c))))) w := by
  have ne : ∀ {b : Nat}, b < 127 → ¬ c = b → ¬ nI c = nI b := fun hb h q => h (by rw [nI_inj (by omega) (by omega)] at q; exact q)
  have fin : ∀ {b : Nat}, c = b → isS b = true → kX xs d 162 48 [none] [] w R = R (some (.int (nI (bN (isS c))))) w := fun e q => by
    rw [B162_48, B162_53, if_pos nar1, e, q]; rfl
  rw [B162_0, c8_40]
  by_cases h1 : c = 40
  · rw [if_pos (congrArg nI h1), fin h1 (by decide)]
  rw [if_neg (ne (by omega) h1), B162_6, c8_41]
  by_cases h2 : c = 41
  · rw [if_pos (congrArg nI h2), fin h2 (by decide)]
  rw [if_neg (ne (by omega) h2), B162_12, c8_59]
  by_cases h3 : c = 59
  · rw [if_pos (congrArg nI h3), fin h3 (by decide)]
  rw [if_neg (ne (by omega) h3), B162_18, c8_61]
  by_cases h4 : c = 61
  · rw [if_pos (congrArg nI h4), fin h4 (by decide)]
  rw [if_neg (ne (by omega) h4), B162_24, c8_60]
  by_cases h5 : c = 60
  · rw [if_pos (congrArg nI h5), fin h5 (by decide)]
  rw [if_neg (ne (by omega) h5), B162_30, c8_43]
  by_cases h6 : c = 43
  · rw [if_pos (congrArg nI h6), fin h6 (by decide)]
  rw [if_neg (ne (by omega) h6), B162_36, c8_45]
  by_cases h7 : c = 45
  · rw [if_pos (congrArg nI h7), fin h7 (by decide)]
  rw [if_neg (ne (by omega) h7), B162_42, c8_42]
  by_cases h8 : c = 42
  · rw [if_pos (congrArg nI h8), fin h8 (by decide)]
  rw [if_neg (ne (by omega) h8), B162_52, B162_53, if_pos nar0]
  have e : isS c = false := by
    refine bfalse (fun q => ?_)
    have : c ∈ sgn8 := List.contains_iff_mem.mp q
    have m : c = 40 ∨ c = 41 ∨ c = 60 ∨ c = 61 ∨ c = 43 ∨ c = 45 ∨ c = 42 ∨ c = 59 := by
      simpa [sgn8] using this
    omega
  rw [e]; rfl
theorem lgc (x y : Int64) : (lg_cmp x y = 0) = (x = y) := by
  unfold lg_cmp
  by_cases h : x > y
  · rw [if_pos h]
    refine propext ⟨fun q => absurd q (by decide), fun q => ?_⟩
    subst q
    exact absurd h (Int64.lt_irrefl)
  · rw [if_neg h]
    by_cases h2 : x = y
    · rw [if_pos h2]; exact propext ⟨fun _ => h2, fun _ => rfl⟩
    · rw [if_neg h2]; exact propext ⟨fun q => absurd q (by decide), fun q => absurd q h2⟩
theorem nI_nn {i : Nat} (h : i < 2147483648) : ¬ nI i < 0 := nI_pos h
theorem nI_cl {i : Nat} (h : i < 2147483648) : (nI i).toNatClampNeg = i := by
  have e : (nI i).toInt = (i : Int) := Int32.toInt_ofNat_of_lt h
  show (nI i).toInt.toNat = i
  rw [e]; rfl
/-- Lexer.kindOf -/
theorem sp21 {v : Nat} (hv : vWd v) : kX xs d 21 0 [some (.long (nJ (cnv 8 v))), none, none] [] w R = R (some (.int (nI (wKd v)))) w := by
  have L : ∀ ws i, wrd37.drop i = ws → i ≤ 22 → kX xs d 21 2 [some (.long (nJ (cnv 8 v))), none, some (.int (nI i))] [] w R = R (some (.int (nI (wIx v ws i)))) w := by
    intro ws
    have tl : ktlen xs 0 = some 22 := rfl
    have e22 : Int32.ofNat 22 = nI 22 := rfl
    induction ws with
    | nil =>
      intro i h hi
      have : 22 ≤ i := by
        have e := congrArg List.length h
        rw [List.length_drop] at e
        have e2 : 22 - i = 0 := e
        omega
      rw [B21_2, tl, kO_s, e22, if_neg (nI_nlt (by omega) (by omega)), B21_32]
      rfl
    | cons u ws ih =>
      intro i h hi
      have hl : i < 22 := by
        have e := congrArg List.length h
        rw [List.length_drop] at e
        have e2 : 22 - i = ws.length + 1 := e
        omega
      have hu : wrd37[i]? = some u := by
        have e := List.getElem?_drop (xs := wrd37) (i := i) (j := 0)
        rw [h] at e
        exact e.symm
      have hm : u ∈ wrd37 := List.mem_of_getElem? hu
      have hj : ktJ xs 0 (nI i) = some (nJ (cnv 8 u)) := by
        show (if nI i < 0 then none else kwords[(nI i).toNatClampNeg]?) = _
        rw [if_neg (nI_nn (by omega)), nI_cl (by omega), wrd_c, List.getElem?_map, hu]
        rfl
      have hd : wrd37.drop (i + 1) = ws := by
        rw [← List.tail_drop, h]; rfl
      have eq : (lg_cmp (nJ (cnv 8 u)) (nJ (cnv 8 v)) = 0) = (u = v) := by rw [lgc, nJ_cnv (wrd_v u hm) hv]
      rw [B21_2, tl, kO_s, e22, if_pos (nI_lt hl (by omega)), B21_10, hj, kO_s, wIx]
      by_cases q : u = v
      · rw [if_pos (eq.mpr q), if_pos q, B21_20, c16_128, nI_add]
      · rw [if_neg (fun e => q (eq.mp e)), if_neg q, B21_26, nI_add1, ih (i + 1) hd (by omega)]
  rw [B21_0]
  exact L wrd37 0 rfl (by omega)
theorem ksr2 (w : KW) : krecv w (.retAddr 2) 15 = true := rfl
/-- indexOf of the signs -/
theorem sp281 (hc : c < 127) : kX xs (d + 3) 281 0 [some (.retAddr 2), some (.int (nI c))] [] w R = R (some (.int (sIx c sgn8 0))) w := by
  have L : ∀ ws i, sgn8.drop i = ws → i ≤ 8 → kX xs d 287 7 [some (.retAddr 3), none, none, some (.int (nI 8)), some (.int (nI c)), some (.int (nI i))] [] w (fun r w' => kX xs (d + 1) 286 36 [none, none, none, none] (kpush r []) w' (fun r w' => kX xs (d + 2) 282 20 [none, none, none] (kpush r []) w' (fun r w' => kX xs (d + 3) 281 6 [none, none] (kpush r []) w' R))) = R (some (.int (sIx c ws i))) w := by
    intro ws
    induction ws with
    | nil =>
      intro i h hi
      have : 8 ≤ i := by
        have e := congrArg List.length h
        rw [List.length_drop] at e
        have e2 : 8 - i = 0 := e
        omega
      rw [B287_7, if_neg (nI_nlt (by omega) (by omega)), B287_31, kpush_s, B286_36, kpush_s, B282_20, B282_36, kpush_s, B281_6]
      rfl
    | cons u ws ih =>
      intro i h hi
      have hl : i < 8 := by
        have e := congrArg List.length h
        rw [List.length_drop] at e
        have e2 : 8 - i = ws.length + 1 := e
        omega
      have hu : sgn8[i]? = some u := by
        have e := List.getElem?_drop (xs := sgn8) (i := i) (j := 0)
        rw [h] at e
        exact e.symm
      have hs : u < 127 := by
        have key : ∀ u, u ∈ sgn8 → u < 127 := by decide
        exact key u (List.mem_of_getElem? hu)
      have hj : ktB xs 3 (nI i) = some (nI u) := by
        show (if nI i < 0 then none else kstr[(nI i).toNatClampNeg]?) = _
        rw [if_neg (nI_nn (by omega)), nI_cl (by omega), show kstr = sgn8.map nI by decide, List.getElem?_map, hu]
        rfl
      have hd : sgn8.drop (i + 1) = ws := by
        rw [← List.tail_drop, h]; rfl
      rw [B287_7, if_pos (nI_lt hl (by omega)), B287_13, hj, kO_s, sIx]
      by_cases q : u = c
      · rw [if_pos (congrArg nI q), if_pos q, B287_22, kpush_s, B286_36, kpush_s, B282_20, B282_36, kpush_s, B281_6]
      · rw [if_neg (fun e => q (by rw [nI_inj (by omega) (by omega)] at e; exact e)), if_neg q, B287_25, nI_add1, ih (i + 1) hd (by omega)]
  have c8 : (nI c).toInt8.toInt32 = nI c := by
    have key : ∀ c : Fin 127, (nI c.val).toInt8.toInt32 = nI c.val := by decide +kernel
    exact key ⟨c, hc⟩
  have tl : ktlen xs 3 = some 8 := rfl
  rw [B281_0, ksr2, kcond_t, B282_0, ksr2, kcond_t, B284_0, if_neg (by decide), B284_6, if_pos rfl, B284_13, B284_18, if_pos nar1, kpush_s, B282_4, if_neg (by decide), B282_7, ksr2, kcond_t, B280_0, tl, kO_s, ksr2, kcond_t, B283_0, if_neg (by decide), B283_6, B283_14, if_pos (by decide), kpush_s, B280_9, kpush_s, B282_17, B286_0, B285_0, if_neg (nI_nn (by omega)), B285_4, c16_255, if_neg (nI_nlt (by omega) (by omega)), B285_11, B285_16, if_pos nar1, kpush_s, B286_4, if_neg (by decide), B286_9, sp278, kpush_s, B286_14, tl, kO_s, sp279, kpush_s, B286_21, show kmax32 0 0 = nI 0 by decide, show kmin32 (Int32.ofNat 8 >>> (0 &&& 31)) (Int32.ofNat 8) = nI 8 by decide, if_pos (by decide), B286_29, B287_0, c8]
  exact L sgn8 0 rfl (by omega)
theorem ksr3 (hc : c < 127) : ((nI c).toUInt32 % 65536).toInt32 = nI c := by
  have key : ∀ c : Fin 127, ((nI c.val).toUInt32 % 65536).toInt32 = nI c.val := by decide +kernel
  exact key ⟨c, hc⟩
end LX
