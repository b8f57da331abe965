/-! THE WHOLE: what the logical machine does, the machine does -/
theorem kO_some {α : Type} {o : Option α} {k : α → Prop} (h : kO o k) : ∃ x, o = some x ∧ k x := by
  cases o with
  | none => exact h.elim
  | some x => exact ⟨x, rfl, h⟩
theorem kcond {c : Bool} {A : Prop} (h : bif c then A else False) : c = true ∧ A := by
  cases c
  · exact h.elim
  · exact ⟨rfl, h⟩
theorem kjmp_some {pc : Nat} {off : Int} {k : Nat → Prop} (h : kjmp pc off k) : ∃ t : Nat, (pc : Int) + off = (t : Int) ∧ k t := by
  unfold kjmp at h
  split at h
  · rename_i t ht
    exact ⟨t, ht, h⟩
  · exact h.elim
theorem kswC_spec {x : Int32} {k : Int → Prop} {dflt : Int} : ∀ (os : List Int) (lo : Int), kswC x lo os dflt k → (∃ (j : Nat) (off : Int), os[j]? = some off ∧ x = Int32.ofInt (lo + j) ∧ k off) ∨ ((∀ j : Nat, j < os.length → x ≠ Int32.ofInt (lo + j)) ∧ k dflt) := by
  intro os
  induction os with
  | nil => intro lo h; exact Or.inr ⟨fun j hj => by simp at hj, h⟩
  | cons o os ih =>
    intro lo h
    simp only [kswC] at h
    split at h
    · rename_i hx
      exact Or.inl ⟨0, o, rfl, by simpa using hx, h⟩
    · rename_i hx
      rcases ih (lo + 1) h with ⟨j, off, h1, h2, h3⟩ | ⟨h1, h2⟩
      · exact Or.inl ⟨j + 1, off, by simpa using h1, by rw [h2]; congr 1; push_cast; omega, h3⟩
      · refine Or.inr ⟨fun j hj => ?_, h2⟩
        cases j with
        | zero => simpa using hx
        | succ j =>
          have := h1 j (by simpa using hj)
          intro e
          exact this (by rw [e]; congr 1; push_cast; omega)
section KMAIN
variable {xs : List Int32} {l : Launch} {D : va_G} {dA : Nat → ClassId} {b : Nat} {z : Nat → Nat} {d mid pc : Nat} {L : KL} {st : List Value} {w : KW}
theorem ks_gets {k : Nat} {v : Value} (hg : kgs (kown mid) k = some v) (hd : decode (kby mid) pc = .ok (.getstatic k, 3)) : kSt xs l D dA b z d mid pc L st w (pc + 3) L (v :: st) w := by
  intro p e R s m args below meth c Qs cells slots C _ _ _ H locs ls hP hS hL kk
  obtain ⟨hx, hb, hr, hlk, hml, hown, hts, hin, hK, hZ, hfr, hlo⟩ := C
  obtain ⟨o1, o2⟩ := kguard hg
  have h3 := kall_at kgck_all o1 o2
  simp only [kgck, hg, Bool.or_eq_true, Bool.and_eq_true, decide_eq_true_eq] at h3
  rcases h3 with (⟨rfl, hl⟩ | ⟨rfl, hl⟩) | ⟨rfl, hl⟩
  · exact va_gets hx hb hZ.1.1 hS hown (hts _ (kw_in hl)) (fun _ h => h) hd (kk H locs ls hP hS hL)
  · exact va_gets hx hb hZ.2.1.1 hS hown (hts _ (kw_in hl)) (fun _ h => h) hd (kk H locs ls hP hS hL)
  · exact va_gets hx hb hZ.2.2.1 hS hown (hts _ (kw_in hl)) (fun _ h => h) hd (kk H locs ls hP hS hL)
theorem ks_gso {k : Nat} {v : Value} (hg : kso (kown mid) k = some v) (hd : decode (kby mid) pc = .ok (.getfield k, 3)) : kSt xs l D dA b z d mid pc L (.retAddr 2 :: st) w (pc + 3) L (v :: st) w := by
  intro p e R s m args below meth c Qs cells slots C _ _ _ H locs ls hP hS hL kk
  obtain ⟨hx, hb, hr, hlk, hml, hown, hts, hin, hK, hZ, hfr, hlo⟩ := C
  obtain ⟨o1, o2⟩ := kguard hg
  have h3 := kall_at ksck_all o1 o2
  simp only [ksck, hg, Bool.or_eq_true, Bool.and_eq_true, decide_eq_true_eq] at h3
  rcases h3 with ⟨rfl, hl⟩ | ⟨rfl, hl⟩
  · exact vk_getf hx hb hZ.2.2.2.1.2.2.1 hS hown (hts _ (kw_in hl)) (fun _ h => h) hd (kk H locs ls hP hS hL)
  · exact vk_getf hx hb hZ.2.2.2.1.2.2.2.1 hS hown (hts _ (kw_in hl)) (fun _ h => h) hd (kk H locs ls hP hS hL)
theorem ks_ldcS {k : Nat} (hg : kcs (kown mid) k = true) (hd : decode (kby mid) pc = .ok (.ldc k, 2)) : kSt xs l D dA b z d mid pc L st w (pc + 2) L (.retAddr 2 :: st) w := by
  intro p e R s m args below meth c Qs cells slots C _ _ _ H locs ls hP hS hL kk
  obtain ⟨hx, hb, hr, hlk, hml, hown, hts, hin, hK, hZ, hfr, hlo⟩ := C
  have hgd : kown mid < 18 ∧ k < 700 := by
    unfold kcs at hg
    cases hq : Nat.blt (kown mid) 18 && Nat.blt k 700
    · rw [hq] at hg; cases hg
    · simpa using hq
  have h3 := kall_at kcck_all hgd.1 hgd.2
  simp only [kcck, hg, Bool.and_eq_true, Bool.not_true, Bool.false_or] at h3
  have e1 := Nat.eq_of_beq_eq_true h3.2.1
  have e2 := Nat.eq_of_beq_eq_true h3.2.2
  subst e2
  rw [e1] at hown
  exact va_ldcS hx hb hown hZ.2.2.2.1.1 hd (kk H locs ls hP hS hL)
theorem ks_ldc {k : Nat} {x : Int32} (hg : kcn (kown mid) k = some x) (hd : decode (kby mid) pc = .ok (.ldc k, 2)) : kSt xs l D dA b z d mid pc L st w (pc + 2) L (.int x :: st) w := by
  intro p e R s m args below meth c Qs cells slots C _ _ _ H locs ls hP hS hL kk
  obtain ⟨hx, hb, hr, hlk, hml, hown, hts, hin, hK, hZ, hfr, hlo⟩ := C
  obtain ⟨o1, o2⟩ := kguard hg
  have h3 := kall_at kcck_all o1 o2
  simp only [kcck, hg, Bool.and_eq_true] at h3
  exact lv_ldc hx hb hown (hts _ (kw_in h3.1.1.2)) hd (kk H locs ls hP hS hL)
theorem ks_ldcw {k : Nat} {x : Int32} (hg : kcn (kown mid) k = some x) (hd : decode (kby mid) pc = .ok (.ldc_w k, 3)) : kSt xs l D dA b z d mid pc L st w (pc + 3) L (.int x :: st) w := by
  intro p e R s m args below meth c Qs cells slots C _ _ _ H locs ls hP hS hL kk
  obtain ⟨hx, hb, hr, hlk, hml, hown, hts, hin, hK, hZ, hfr, hlo⟩ := C
  obtain ⟨o1, o2⟩ := kguard hg
  have h3 := kall_at kcck_all o1 o2
  simp only [kcck, hg, Bool.and_eq_true] at h3
  exact lv_ldcw hx hb hown (hts _ (kw_in h3.1.1.2)) hd (kk H locs ls hP hS hL)
theorem ks_ldc2 {k : Nat} {x : Int64} (hg : kcj (kown mid) k = some x) (hd : decode (kby mid) pc = .ok (.ldc2_w k, 3)) : kSt xs l D dA b z d mid pc L st w (pc + 3) L (.long x :: st) w := by
  intro p e R s m args below meth c Qs cells slots C _ _ _ H locs ls hP hS hL kk
  obtain ⟨hx, hb, hr, hlk, hml, hown, hts, hin, hK, hZ, hfr, hlo⟩ := C
  obtain ⟨o1, o2⟩ := kguard hg
  have h3 := kall_at kcck_all o1 o2
  simp only [kcck, hg, Bool.and_eq_true] at h3
  exact lv_ldc2 hx hb hown (hts _ (kw_in h3.1.2)) hd (kk H locs ls hP hS hL)
/-- the static rows -/
theorem ks_ti {k : Nat} {i x : Int32} (h : ktI xs k i = some x) (hd : decode (kby mid) pc = .ok (.iaload, 1)) : kSt xs l D dA b z d mid pc L (.int i :: .retAddr k :: st) w (pc + 1) L (.int x :: st) w := by
  intro p e R s m args below meth c Qs cells slots C _ _ _ H locs ls hP hS hL kk
  obtain ⟨hx, hb, hr, hlk, hml, hown, hts, hin, hK, hZ, hfr, hlo⟩ := C
  match k, h with
  | 1, h =>
    obtain ⟨h1, h2⟩ := kix (show (if i < 0 then none else ([1, 0, 1, 2, 9, 44, 265, 1854] : List Int32)[i.toNatClampNeg]?) = some x from h)
    exact va_ti hx hb hZ.2.1.2 hS h1 (by show Value.int _ = _; rw [kgetD h2]; rfl) hd (kk H locs ls hP hS hL)
  | 9, h =>
    obtain ⟨h1, h2⟩ := kix (show (if i < 0 then none else xs[i.toNatClampNeg]?) = some x from h)
    exact va_ti hx hb hZ.2.2.2.2.1 hS h1 (by show Value.int _ = _; rw [kgetD h2]; rfl) hd (kk H locs ls hP hS hL)
  | 0, h => cases h
  | 2, h => cases h
  | 3, h => cases h
  | 4, h => cases h
  | 5, h => cases h
  | 6, h => cases h
  | 7, h => cases h
  | 8, h => cases h
  | n + 10, h => cases h
theorem ks_tb {k : Nat} {i x : Int32} (h : ktB xs k i = some x) (hd : decode (kby mid) pc = .ok (.baload, 1)) : kSt xs l D dA b z d mid pc L (.int i :: .retAddr k :: st) w (pc + 1) L (.int x :: st) w := by
  intro p e R s m args below meth c Qs cells slots C _ _ _ H locs ls hP hS hL kk
  obtain ⟨hx, hb, hr, hlk, hml, hown, hts, hin, hK, hZ, hfr, hlo⟩ := C
  match k, h with
  | 3, h =>
    obtain ⟨h1, h2⟩ := kix (show (if i < 0 then none else kstr[i.toNatClampNeg]?) = some x from h)
    exact va_tb hx hb hZ.2.2.2.1.2.2.2.2 hS h1 (by show Value.int _ = _; rw [kgetD h2]; rfl) hd (kk H locs ls hP hS hL)
  | 0, h => cases h
  | 1, h => cases h
  | 2, h => cases h
  | 4, h => cases h
  | 5, h => cases h
  | 6, h => cases h
  | 7, h => cases h
  | 8, h => cases h
  | 9, h => cases h
  | n + 10, h => cases h
theorem ks_tl {k : Nat} {i : Int32} {x : Int64} (h : ktJ xs k i = some x) (hd : decode (kby mid) pc = .ok (.laload, 1)) : kSt xs l D dA b z d mid pc L (.int i :: .retAddr k :: st) w (pc + 1) L (.long x :: st) w := by
  intro p e R s m args below meth c Qs cells slots C _ _ _ H locs ls hP hS hL kk
  obtain ⟨hx, hb, hr, hlk, hml, hown, hts, hin, hK, hZ, hfr, hlo⟩ := C
  match k, h with
  | 0, h =>
    obtain ⟨h1, h2⟩ := kix (show (if i < 0 then none else kwords[i.toNatClampNeg]?) = some x from h)
    exact va_tl hx hb hZ.1.2 hS h1 (by show Value.long _ = _; rw [kgetD h2]; rfl) hd (kk H locs ls hP hS hL)
  | 1, h => cases h
  | 2, h => cases h
  | 3, h => cases h
  | 4, h => cases h
  | 5, h => cases h
  | 6, h => cases h
  | 7, h => cases h
  | 8, h => cases h
  | 9, h => cases h
  | n + 10, h => cases h
theorem ks_tlen {k n : Nat} (h : ktlen xs k = some n) (hd : decode (kby mid) pc = .ok (.arraylength, 1)) : kSt xs l D dA b z d mid pc L (.retAddr k :: st) w (pc + 1) L (.int (Int32.ofNat n) :: st) w := by
  intro p e R s m args below meth c Qs cells slots C _ _ _ H locs ls hP hS hL kk
  obtain ⟨hx, hb, hr, hlk, hml, hown, hts, hin, hK, hZ, hfr, hlo⟩ := C
  match k, h with
  | 0, h => cases h; exact va_tlen hx hb hZ.1.2 hS rfl hd (kk H locs ls hP hS hL)
  | 1, h => cases h; exact va_tlen hx hb hZ.2.1.2 hS rfl hd (kk H locs ls hP hS hL)
  | 3, h => cases h; exact va_tlen hx hb hZ.2.2.2.1.2.2.2.2 hS rfl hd (kk H locs ls hP hS hL)
  | 9, h => cases h; exact va_tlen hx hb hZ.2.2.2.2.1 hS rfl hd (kk H locs ls hP hS hL)
theorem ks_oi {k a : Nat} {st : List Value} (hl : Cond.methodLink (kR (kown mid)) k objectInit ∈ kT) (hcat : kcat st ≤ 8) (hd : decode (kby mid) pc = .ok (.invokespecial k, 3)) : kSt xs l D dA b z (d + 1) mid pc L (.ref a :: st) w (pc + 3) L st w := by
  intro p e R s m args below meth c Qs cells slots C hLn _ _ H locs ls hP hS hL kk
  obtain ⟨hx, hb, hr, hlk, hml, hown, hts, hin, hK, hZ, hfr, hlo⟩ := C
  have ho := kack_oi
  simp only [Bool.and_eq_true] at ho
  have hs : ((st.map (kpi b z)).map fun v => v.category).sum ≤ 8 := by rw [kcat_sum]; exact hcat
  refine W.objInit hx hb hown (hts _ hl) (hts _ (kw_in ho.1)) (hts _ (kw_in ho.2)) (g := F0 m pc ls ((Value.ref a :: st).map (kpi b z))) rfl (by rw [hml]; exact hL.1.trans hLn) (a := b + a) (rest := st.map (kpi b z)) rfl hd (by omega) (by show 2 * 0 + _ + 12 ≤ _; omega) (kk H locs ls hP hS hL)
theorem ks_copy {k a1 b1 : Nat} {n : Int32} {st : List Value} {w' : KW} (hl : Cond.methodLink (kR (kown mid)) k arraycopyName ∈ kT) (hcat : kcat st ≤ 8) (hc : kcopy w a1 b1 n = some w') (hd : decode (kby mid) pc = .ok (.invokestatic k, 3)) : kSt xs l D dA b z (d + 1) mid pc L (.int n :: .int 0 :: .ref b1 :: .int 0 :: .ref a1 :: st) w (pc + 3) L st w' := by
  intro p e R s m args below meth c Qs cells slots C hLn _ _ H locs ls hP hS hL kk
  obtain ⟨hx, hb, hr, hlk, hml, hown, hts, hin, hK, hZ, hfr, hlo⟩ := C
  have ho := kack_ac
  simp only [Bool.and_eq_true] at ho
  obtain ⟨ys1, ys2, hw1, hw2, n1, n2, n3, rfl⟩ := kcopy_some hc
  have hs : ((st.map (kpi b z)).map fun v => v.category).sum ≤ 8 := by rw [kcat_sum]; exact hcat
  have e1 : kEl b z dA (.inr (0, .inl (ys1.take n.toNatClampNeg ++ ys2.drop n.toNatClampNeg))) = .inl (dA 0, ys2.length, .inl (va_cpy (fun j => ys1.getD j 0) (fun j => ys2.getD j 0) (0 : Int32).toNatClampNeg (0 : Int32).toNatClampNeg n.toNatClampNeg)) := by
    have hlen : (ys1.take n.toNatClampNeg ++ ys2.drop n.toNatClampNeg).length = ys2.length := by simp; omega
    simp only [kEl, hlen]
    congr 4
    funext j
    have h0 : (0 : Int32).toNatClampNeg = 0 := rfl
    simp only [va_cpy, h0, Nat.zero_le, true_and, Nat.zero_add, Nat.sub_zero]
    simp only [List.getD_eq_getElem?_getD]
    by_cases hj : j < n.toNatClampNeg
    · rw [List.getElem?_append_left (by simp; omega), List.getElem?_take, if_pos hj, if_pos hj]
    · rw [if_neg hj, List.getElem?_append_right (by simp; omega), List.getElem?_drop]
      congr 2
      simp
      omega
  have hnw : nativeFrameWords "java/lang/System" "arraycopy" 5 = 7 := by decide +kernel
  have d0 : ¬ (0 : Int32) < 0 := by decide
  have z0 : (0 : Int32).toNatClampNeg = 0 := rfl
  exact va_copyi (a0 := b + a1) (a := b + b1) (c0 := dA 0) (c1 := dA 0) (n0 := ys1.length) (n1 := ys2.length) (f := fun j => ys1.getD j 0) (g := fun j => ys2.getD j 0) (ty := .int) (sp := 0) (dp := 0) (n := n) hx hb (by rw [hml]; exact (hL.1.trans hLn).symm) hown (hts _ hl) (hts _ (kw_in ho.1.1)) (hts _ (kw_in ho.1.2)) (hts _ (kw_in ho.2)) hK hP (kws_D b z dA w) hS a1 b1 0 0 (kws_get hw1) (kws_get hw2) rfl rfl rfl d0 d0 n1 (by rw [z0]; omega) (by rw [z0]; omega) (fun _ _ => rfl) (by omega) (by rw [hnw]; omega) hd (fun H1 locs1 hP1 _ hS1 => kk H1 locs1 ls (kP_set e1 hP1) hS1 hL)
theorem kret_go {Q : Option Value → KW → Prop} {v : Int32} {t : FieldType} (hr0 : kret mid = some t) (hn : narrow t (.int v) = .int v) (hQ : Q (some (.int v)) w) (hd : decode (kby mid) pc = .ok (.ireturn, 1)) : ∃ r w', Q r w' ∧ w.length ≤ w'.length ∧ ksl w ≤ ksl w' ∧ kGo xs l D dA b z d mid pc L [.int v] w r w' := by
  refine ⟨_, w, hQ, Nat.le_refl _, Nat.le_refl _, ?_⟩
  intro p e R s m args below meth c n0 s0 cells slots mc ms C hLn h1 h2 h3 h4 h5 h6 h7 H locs ls hP hS hL
  obtain ⟨hx, hb, hr, hlk, hml, hown, hts, hin, hK, hZ, hfr, hlo⟩ := C
  have e1 : mc = cells := by omega
  have e2 : ms = slots := by omega
  subst e1
  subst e2
  exact W.zret hx hb (hr.trans hr0) hn (fun t ht hW => ⟨⟨rfl, by rw [ht]; exact hP⟩, hS.F ht⟩) hS.2.2 hd hlk
theorem kretv_go {Q : Option Value → KW → Prop} (hr0 : kret mid = none) (hQ : Q none w) (hd : decode (kby mid) pc = .ok (.return_, 1)) : ∃ r w', Q r w' ∧ w.length ≤ w'.length ∧ ksl w ≤ ksl w' ∧ kGo xs l D dA b z d mid pc L [] w r w' := by
  refine ⟨_, w, hQ, Nat.le_refl _, Nat.le_refl _, ?_⟩
  intro p e R s m args below meth c n0 s0 cells slots mc ms C hLn h1 h2 h3 h4 h5 h6 h7 H locs ls hP hS hL
  obtain ⟨hx, hb, hr, hlk, hml, hown, hts, hin, hK, hZ, hfr, hlo⟩ := C
  have e1 : mc = cells := by omega
  have e2 : ms = slots := by omega
  subst e1
  subst e2
  exact W.vret hx hb (hr.trans hr0) (fun t ht hW => ⟨⟨rfl, by rw [ht]; exact hP⟩, hS.F ht⟩) hS.2.2 hd hlk
end KMAIN
