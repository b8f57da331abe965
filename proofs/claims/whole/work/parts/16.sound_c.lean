/-! the heap's instructions, and branches -/
theorem kgf_some {w : KW} {a ci k : Nat} {v : Value} (h : kgf w a ci k = some v) : ∃ fs, w[a]? = some (.inl (ci, fs)) ∧ fs[k]? = some v := by
  unfold kgf at h
  split at h
  · rename_i c fs hw
    cases hc : Nat.beq c ci
    · simp [hc] at h
    · simp [hc] at h
      have := Nat.eq_of_beq_eq_true hc
      subst this
      exact ⟨fs, hw, h⟩
  · cases h
theorem kgI_some {w : KW} {a ci k : Nat} {x : Int32} (h : kgI w a ci k = some x) : kgf w a ci k = some (.int x) := by
  unfold kgI at h
  split at h
  · rename_i y hy
    cases h
    exact hy
  · cases h
theorem kgJ_some {w : KW} {a ci k : Nat} {x : Int64} (h : kgJ w a ci k = some x) : kgf w a ci k = some (.long x) := by
  unfold kgJ at h
  split at h
  · rename_i y hy
    cases h
    exact hy
  · cases h
theorem kgR_some {w : KW} {a ci k : Nat} {x : Nat} (h : kgR w a ci k = some x) : kgf w a ci k = some (.ref x) := by
  unfold kgR at h
  split at h
  · rename_i y hy
    cases h
    exact hy
  · cases h
theorem kpf_some {w w' : KW} {a ci k : Nat} {v : Value} (h : kpf w a ci k v = some w') : ∃ fs, w[a]? = some (.inl (ci, fs)) ∧ k < fs.length ∧ w' = w.set a (.inl (ci, fs.set k v)) := by
  unfold kpf at h
  split at h
  · rename_i c fs hw
    cases hc : Nat.beq c ci && Nat.blt k fs.length
    · simp [hc] at h
    · simp [hc] at h
      simp only [Bool.and_eq_true] at hc
      have h1 := Nat.eq_of_beq_eq_true hc.1
      have h2 : k < fs.length := by simpa using hc.2
      subst h1
      exact ⟨fs, hw, h2, h.symm⟩
  · cases h
theorem kpf_len {w w' : KW} {a ci k : Nat} {v : Value} (h : kpf w a ci k v = some w') : w'.length = w.length ∧ ksl w' = ksl w := by
  obtain ⟨fs, h1, h2, rfl⟩ := kpf_some h
  exact ⟨by simp, ksl_set h1 (by simp [kslt])⟩
theorem kfl_ok {o i ci k tg : Nat} (h : kfl o i = some (ci, k, tg)) : ci < 13 ∧ k < kN ci ∧ Cond.fieldLink (kR o) i (kF ci k).1 (kF ci k).2.1 (kF ci k).2.2.1 ∈ kT ∧ ((tg = 0 ∧ kFt ci k = .int) ∨ (tg = 1 ∧ kFt ci k = .long) ∨ (tg = 2 ∧ ((∃ C, kFt ci k = .object C) ∨ ∃ t, kFt ci k = .array t)) ∨ (tg = 3 ∧ kFt ci k = .boolean)) := by
  obtain ⟨h1, h2⟩ := kguard h
  have h3 := kall_at kfck_all h1 h2
  simp only [kfck, h, Bool.and_eq_true, Nat.blt_eq] at h3
  obtain ⟨⟨⟨a1, a2⟩, a3⟩, a4⟩ := h3
  refine ⟨a1, a2, kw_in a3, ?_⟩
  split at a4 <;> simp_all
theorem kx_ok {c : Nat} (h : c < 13) : kxck c = true := List.all_eq_true.mp kxck_all c (List.mem_range.mpr h)
theorem kx_in {c : Nat} (h : c < 13) : ∀ w ∈ u_ws (kC c) (kF c) (kN c), w ∈ kT := by
  intro w hw
  have hx := kx_ok h
  simp only [kxck, Bool.and_eq_true, List.all_eq_true, List.mem_range] at hx
  simp only [u_ws, List.mem_map, List.mem_range] at hw
  obtain ⟨k, hk, rfl⟩ := hw
  exact kw_in (hx.1.1.1.1 k hk).1.1.1.1.1
theorem kx_ty {c : Nat} (h : c < 13) : ∀ k, k < kN c → parseFieldDescriptor (kF c k).2.2.1 = some (kFt c k) := by
  intro k hk
  have hx := kx_ok h
  simp only [kxck, Bool.and_eq_true, List.all_eq_true, List.mem_range] at hx
  exact of_decide_eq_true (hx.1.1.1.1 k hk).1.1.1.1.2
theorem kx_df {c : Nat} (h : c < 13) : ∀ k, k < kN c → defaultValue (kFt c k) = vp_V (knew c) k := by
  intro k hk
  have hx := kx_ok h
  simp only [kxck, Bool.and_eq_true, List.all_eq_true, List.mem_range] at hx
  exact of_decide_eq_true (hx.1.1.1.1 k hk).1.1.1.2
theorem kx_fin {c : Nat} (h : c < 13) : ∀ k, k < kN c → kfin c k = (kF c k).2.2.2 ∧ (kfin c k = true → (kF c k).1 = kC c) := by
  intro k hk
  have hx := kx_ok h
  simp only [kxck, Bool.and_eq_true, List.all_eq_true, List.mem_range] at hx
  obtain ⟨⟨⟨-, h1⟩, h2⟩, -⟩ := hx.1.1.1.1 k hk
  refine ⟨by simpa using h1, fun h3 => ?_⟩
  rw [h3] at h2
  simpa using h2
theorem kx_nm {c : Nat} (h : c < 13) : ∀ a, a < kN c → ∀ b, b < kN c → a ≠ b → (kF c a).2.1 ≠ (kF c b).2.1 := by
  intro a ha b hb hab
  have hx := kx_ok h
  simp only [kxck, Bool.and_eq_true, List.all_eq_true, List.mem_range] at hx
  have := (hx.1.1.1.1 b hb).2 a ha
  simp only [Bool.or_eq_true, decide_eq_true_eq] at this
  rcases this with e | e
  · exact absurd (Nat.eq_of_beq_eq_true e) hab
  · exact e
theorem kx_rest {c : Nat} (h : c < 13) : (knew c).length = kN c ∧ Cond.instantiable (kC c) (kN c) ∈ kT ∧ Cond.initialized (kC c) ∈ kT ∧ kC c = kR c := by
  have hx := kx_ok h
  simp only [kxck, Bool.and_eq_true] at hx
  exact ⟨Nat.eq_of_beq_eq_true hx.1.1.1.2, kw_in hx.1.1.2, kw_in hx.1.2, of_decide_eq_true hx.2⟩
theorem kix {α : Type} {ys : List α} {i : Int32} {x : α} (h : (if i < 0 then none else ys[i.toNatClampNeg]?) = some x) : vp_in i ys.length ∧ ys[i.toNatClampNeg]? = some x := by
  by_cases hi : i < 0
  · simp [hi] at h
  · simp only [hi, if_false] at h
    have := (List.getElem?_eq_some_iff.mp h).1
    refine ⟨?_, h⟩
    rintro (e | e)
    · exact hi e
    · omega
theorem kgetD {α : Type} {ys : List α} {i : Nat} {x d : α} (h : ys[i]? = some x) : ys.getD i d = x := by
  simp [List.getD_eq_getElem?_getD, h]
theorem kset_fn {α : Type} {ys : List α} {i : Nat} {x d : α} (h : i < ys.length) (j : Nat) : (ys.set i x).getD j d = if j = i then x else ys.getD j d := by
  simp only [List.getD_eq_getElem?_getD, List.getElem?_set]
  by_cases hj : i = j
  · subst hj
    simp [h]
  · simp [hj, Ne.symm hj]
theorem kaI_some {w : KW} {a t : Nat} {i x : Int32} (h : kaI w a t i = some x) : ∃ ys, w[a]? = some (.inr (t, .inl ys)) ∧ vp_in i ys.length ∧ ys[i.toNatClampNeg]? = some x := by
  unfold kaI at h
  split at h
  · rename_i t' ys hw
    cases hc : Nat.beq t' t
    · simp [hc] at h
    · simp only [hc, cond_true] at h
      have := Nat.eq_of_beq_eq_true hc
      subst this
      exact ⟨ys, hw, kix h⟩
  · cases h
theorem kaB_some {w : KW} {a : Nat} {i x : Int32} (h : kaB w a i = some x) : ∃ t ys, (t = 2 ∨ t = 3) ∧ w[a]? = some (.inr (t, .inl ys)) ∧ vp_in i ys.length ∧ ys[i.toNatClampNeg]? = some x := by
  unfold kaB at h
  split at h
  · rename_i t' ys hw
    cases hc : Nat.beq t' 2 || Nat.beq t' 3
    · simp [hc] at h
    · simp only [hc, cond_true] at h
      simp only [Bool.or_eq_true] at hc
      exact ⟨t', ys, hc.imp Nat.eq_of_beq_eq_true Nat.eq_of_beq_eq_true, hw, kix h⟩
  · cases h
theorem kaJ_some {w : KW} {a : Nat} {i : Int32} {x : Int64} (h : kaJ w a i = some x) : ∃ ys, w[a]? = some (.inr (1, .inr (.inl ys))) ∧ vp_in i ys.length ∧ ys[i.toNatClampNeg]? = some x := by
  unfold kaJ at h
  split at h
  · rename_i t' ys hw
    cases hc : Nat.beq t' 1
    · simp [hc] at h
    · simp only [hc, cond_true] at h
      have := Nat.eq_of_beq_eq_true hc
      subst this
      exact ⟨ys, hw, kix h⟩
  · cases h
theorem kaR_some {w : KW} {a : Nat} {i : Int32} {x : Nat} (h : kaR w a i = some x) : ∃ t ys, (t = 4 ∨ t = 5) ∧ w[a]? = some (.inr (t, .inr (.inr ys))) ∧ vp_in i ys.length ∧ ys[i.toNatClampNeg]? = some (some x) := by
  unfold kaR at h
  split at h
  · rename_i t' ys hw
    cases hc : Nat.beq t' 4 || Nat.beq t' 5
    · simp [hc] at h
    · simp only [hc, cond_true] at h
      simp only [Bool.or_eq_true] at hc
      by_cases hi : i < 0
      · simp [hi] at h
      · simp only [hi, if_false, Option.join_eq_some_iff] at h
        exact ⟨t', ys, hc.imp Nat.eq_of_beq_eq_true Nat.eq_of_beq_eq_true, hw, kix (by simp only [hi, if_false]; exact h)⟩
  · cases h
theorem kiy {i : Int32} {n : Nat} {α : Type} {x : α} {y : α} (h : (if i < 0 ∨ n ≤ i.toNatClampNeg then none else some x) = some y) : vp_in i n ∧ i.toNatClampNeg < n ∧ x = y := by
  by_cases hi : i < 0 ∨ n ≤ i.toNatClampNeg
  · simp [hi] at h
  · simp only [hi, if_false, Option.some.injEq] at h
    exact ⟨hi, by omega, h⟩
theorem ksI_some {w w' : KW} {a t : Nat} {i x : Int32} (h : ksI w a t i x = some w') : ∃ ys, w[a]? = some (.inr (t, .inl ys)) ∧ vp_in i ys.length ∧ i.toNatClampNeg < ys.length ∧ w' = w.set a (.inr (t, .inl (ys.set i.toNatClampNeg x))) := by
  unfold ksI at h
  split at h
  · rename_i t' ys hw
    cases hc : Nat.beq t' t
    · simp [hc] at h
    · simp only [hc, cond_true] at h
      have := Nat.eq_of_beq_eq_true hc
      subst this
      obtain ⟨h1, h2, h3⟩ := kiy h
      exact ⟨ys, hw, h1, h2, h3.symm⟩
  · cases h
theorem ksB_some {w w' : KW} {a : Nat} {i x : Int32} (h : ksB w a i x = some w') : ∃ t ys, (t = 2 ∨ t = 3) ∧ w[a]? = some (.inr (t, .inl ys)) ∧ vp_in i ys.length ∧ i.toNatClampNeg < ys.length ∧ w' = w.set a (.inr (t, .inl (ys.set i.toNatClampNeg (vp_nar (kty t) x)))) := by
  unfold ksB at h
  split at h
  · rename_i t' ys hw
    cases hc : Nat.beq t' 2 || Nat.beq t' 3
    · simp [hc] at h
    · simp only [hc, cond_true] at h
      simp only [Bool.or_eq_true] at hc
      obtain ⟨h1, h2, h3⟩ := kiy h
      exact ⟨t', ys, hc.imp Nat.eq_of_beq_eq_true Nat.eq_of_beq_eq_true, hw, h1, h2, h3.symm⟩
  · cases h
theorem ksJ_some {w w' : KW} {a : Nat} {i : Int32} {x : Int64} (h : ksJ w a i x = some w') : ∃ ys, w[a]? = some (.inr (1, .inr (.inl ys))) ∧ vp_in i ys.length ∧ i.toNatClampNeg < ys.length ∧ w' = w.set a (.inr (1, .inr (.inl (ys.set i.toNatClampNeg x)))) := by
  unfold ksJ at h
  split at h
  · rename_i t' ys hw
    cases hc : Nat.beq t' 1
    · simp [hc] at h
    · simp only [hc, cond_true] at h
      have := Nat.eq_of_beq_eq_true hc
      subst this
      obtain ⟨h1, h2, h3⟩ := kiy h
      exact ⟨ys, hw, h1, h2, h3.symm⟩
  · cases h
theorem ksR_some {w w' : KW} {a v : Nat} {i : Int32} (h : ksR w a i v = some w') : ∃ t ys ci vs, ((t = 4 ∧ ci = 9) ∨ (t = 5 ∧ ci = 7)) ∧ w[a]? = some (.inr (t, .inr (.inr ys))) ∧ w[v]? = some (.inl (ci, vs)) ∧ vp_in i ys.length ∧ i.toNatClampNeg < ys.length ∧ w' = w.set a (.inr (t, .inr (.inr (ys.set i.toNatClampNeg (some v))))) := by
  unfold ksR at h
  split at h
  · rename_i t' ys c vs hw hv
    cases hc : (Nat.beq t' 4 && Nat.beq c 9) || (Nat.beq t' 5 && Nat.beq c 7)
    · simp [hc] at h
    · simp only [hc, cond_true] at h
      simp only [Bool.or_eq_true, Bool.and_eq_true] at hc
      obtain ⟨h1, h2, h3⟩ := kiy h
      exact ⟨t', ys, c, vs, hc.imp (fun e => ⟨Nat.eq_of_beq_eq_true e.1, Nat.eq_of_beq_eq_true e.2⟩) (fun e => ⟨Nat.eq_of_beq_eq_true e.1, Nat.eq_of_beq_eq_true e.2⟩), hw, hv, h1, h2, h3.symm⟩
  · cases h
theorem kcopy_some {w w' : KW} {a b : Nat} {n : Int32} (h : kcopy w a b n = some w') : ∃ xs ys, w[a]? = some (.inr (0, .inl xs)) ∧ w[b]? = some (.inr (0, .inl ys)) ∧ ¬ n < 0 ∧ n.toNatClampNeg ≤ xs.length ∧ n.toNatClampNeg ≤ ys.length ∧ w' = w.set b (.inr (0, .inl (xs.take n.toNatClampNeg ++ ys.drop n.toNatClampNeg))) := by
  unfold kcopy at h
  split at h
  · rename_i t xs u ys hw hv
    cases hc : Nat.beq t 0 && Nat.beq u 0
    · simp [hc] at h
    · simp only [hc, cond_true] at h
      simp only [Bool.and_eq_true] at hc
      have h1 := Nat.eq_of_beq_eq_true hc.1
      have h2 := Nat.eq_of_beq_eq_true hc.2
      subst h1
      subst h2
      by_cases hi : n < 0 ∨ xs.length < n.toNatClampNeg ∨ ys.length < n.toNatClampNeg
      · simp [hi] at h
      · simp only [hi, if_false, Option.some.injEq] at h
        simp only [not_or, Nat.not_lt] at hi
        exact ⟨xs, ys, hw, hv, hi.1, hi.2.1, hi.2.2, h.symm⟩
  · cases h
theorem kalen_some {w : KW} {a n : Nat} (h : kalen w a = some n) : ∃ t c, t < 6 ∧ w[a]? = some (.inr (t, c)) ∧ n = kslt (.inr (t, c)) := by
  unfold kalen at h
  split at h
  · rename_i t xs hw
    cases hc : Nat.blt t 6
    · simp [hc] at h
    · simp only [hc, cond_true, Option.some.injEq] at h
      exact ⟨t, _, by simpa using hc, hw, h.symm⟩
  · rename_i t xs hw
    cases hc : Nat.blt t 6
    · simp [hc] at h
    · simp only [hc, cond_true, Option.some.injEq] at h
      exact ⟨t, _, by simpa using hc, hw, h.symm⟩
  · rename_i t xs hw
    cases hc : Nat.blt t 6
    · simp [hc] at h
    · simp only [hc, cond_true, Option.some.injEq] at h
      exact ⟨t, _, by simpa using hc, hw, h.symm⟩
  · cases h
section KSH
variable {xs : List Int32} {l : Launch} {D : va_G} {dA : Nat → ClassId} {b : Nat} {z : Nat → Nat} {d mid pc : Nat} {L L' : KL} {st : List Value} {w w' : KW}
theorem kP_set {D : va_G} {dA : Nat → ClassId} {b : Nat} {z : Nat → Nat} {w : KW} {a : Nat} {c : KC} {e : va_E} {H : Heap} (he : kEl b z dA c = e) (h : va_P D vwCl ((kws b z dA w).set a (b + a, e)) H) : va_P D vwCl (kws b z dA (w.set a c)) H := by
  rw [← kws_set, he]
  exact h
theorem ks_getf {k a ci kk tg : Nat} {v : Value} (hf : kfl (kown mid) k = some (ci, kk, tg)) (hv : kgf w a ci kk = some v) (hd : decode (kby mid) pc = .ok (.getfield k, 3)) : kSt xs l D dA b z d mid pc L (.ref a :: st) w (pc + 3) L (v :: st) w := by
  intro p e R s m args below meth c Qs cells slots C _ _ _ H locs ls hP hS hL k
  obtain ⟨hci, hkk, hl, -⟩ := kfl_ok hf
  obtain ⟨fs, hw, hfs⟩ := kgf_some hv
  obtain ⟨hx, hb, hr, hlk, hml, hown, hts, hin, hK, hZ, hfr, hlo⟩ := C
  exact va_get (D := D) (ci := ci) (v := kpi b z v) (C := kC ci) (T := kF ci) (N := kN ci) hx hb hts (kx_in hci) hown hK hP a (kws_get hw) (kcl_vw hci) kk hkk (hts _ hl) (fun _ h => h) (by simp [hfs]) hd (k H locs ls hP hS hL)
theorem ks_putf {k a ci kk tg : Nat} {v : Value} (hf : kfl (kown mid) k = some (ci, kk, tg)) (hfin : kfin ci kk = false ∨ (kini mid = true ∧ kown mid = ci)) (hn : narrow (kFt ci kk) (kpi b z v) = kpi b z v) (hfit : fits (kFt ci kk) (kpi b z v) = true) (hv : kpf w a ci kk v = some w') (hd : decode (kby mid) pc = .ok (.putfield k, 3)) : kSt xs l D dA b z d mid pc L (v :: .ref a :: st) w (pc + 3) L st w' := by
  intro p e R s m args below meth c Qs cells slots C _ _ _ H locs ls hP hS hL k
  obtain ⟨hci, hkk, hl, -⟩ := kfl_ok hf
  obtain ⟨fs, hw, hfl, rfl⟩ := kpf_some hv
  obtain ⟨hx, hb, hr, hlk, hml, hown, hts, hin, hK, hZ, hfr, hlo⟩ := C
  obtain ⟨g1, g2⟩ := kx_fin hci kk hkk
  have e1 : kEl b z dA (.inl (ci, fs.set kk v)) = .inr (ci, (fs.map (kpi b z)).set kk (kpi b z v)) := by simp [kEl, List.map_set]
  by_cases hq : kfin ci kk = false
  · exact va_put (D := D) (ci := ci) (v := kpi b z v) (C := kC ci) (T := kF ci) (N := kN ci) hx hb hts (kx_in hci) (kFt ci) (kx_ty hci) (kx_nm hci) hown hK hP (kws_D b z dA w) hS a (kws_get hw) (kcl_vw hci) kk hkk (hts _ hl) (fun _ h => h) (by rw [← g1]; exact hq) (kx_ty hci kk hkk) hn hfit (by simpa using hfl) hd (fun H1 locs1 hP1 _ hS1 => k H1 locs1 ls (kP_set e1 hP1) hS1 hL)
  · have hq' : kfin ci kk = true := by simpa using hq
    rcases hfin with h0 | ⟨h1, h2⟩
    · exact absurd h0 hq
    · exact va_putF (D := D) (ci := ci) (v := kpi b z v) (C := kC ci) (T := kF ci) (N := kN ci) hx hb hts (kx_in hci) (kFt ci) (kx_ty hci) (kx_nm hci) hown hK hP (kws_D b z dA w) hS a (kws_get hw) (kcl_vw hci) kk hkk (hts _ hl) (fun _ h => h) (by rw [← g1]; exact hq') (hin h1) (by rw [g2 hq', h2]; exact (kx_rest hci).2.2.2) (kx_ty hci kk hkk) hn hfit (by simpa using hfl) hd (fun H1 locs1 hP1 _ hS1 => k H1 locs1 ls (kP_set e1 hP1) hS1 hL)
theorem ks_iald {a : Nat} {i x : Int32} (h : kaI w a 0 i = some x) (hd : decode (kby mid) pc = .ok (.iaload, 1)) : kSt xs l D dA b z d mid pc L (.int i :: .ref a :: st) w (pc + 1) L (.int x :: st) w := by
  intro p e R s m args below meth c Qs cells slots C _ _ _ H locs ls hP hS hL k
  obtain ⟨ys, hw, h1, h2⟩ := kaI_some h
  obtain ⟨hx, hb, hr, hlk, hml, hown, hts, hin, hK, hZ, hfr, hlo⟩ := C
  refine va_iald (n := ys.length) (f := fun j => ys.getD j 0) hx hb hK hP a 0 (kws_get hw) rfl h1 hd ?_
  rw [kgetD h2]
  exact k H locs ls hP hS hL
theorem ks_bald {a : Nat} {i x : Int32} (h : kaB w a i = some x) (hd : decode (kby mid) pc = .ok (.baload, 1)) : kSt xs l D dA b z d mid pc L (.int i :: .ref a :: st) w (pc + 1) L (.int x :: st) w := by
  intro p e R s m args below meth c Qs cells slots C _ _ _ H locs ls hP hS hL k
  obtain ⟨t, ys, ht, hw, h1, h2⟩ := kaB_some h
  obtain ⟨hx, hb, hr, hlk, hml, hown, hts, hin, hK, hZ, hfr, hlo⟩ := C
  rcases ht with rfl | rfl
  · refine va_bald (n := ys.length) (f := fun j => ys.getD j 0) hx hb hK hP a 2 (kws_get hw) rfl h1 hd ?_
    rw [kgetD h2]
    exact k H locs ls hP hS hL
  · refine va_zald (n := ys.length) (f := fun j => ys.getD j 0) hx hb hK hP a 3 (kws_get hw) rfl h1 hd ?_
    rw [kgetD h2]
    exact k H locs ls hP hS hL
theorem ks_lald {a : Nat} {i : Int32} {x : Int64} (h : kaJ w a i = some x) (hd : decode (kby mid) pc = .ok (.laload, 1)) : kSt xs l D dA b z d mid pc L (.int i :: .ref a :: st) w (pc + 1) L (.long x :: st) w := by
  intro p e R s m args below meth c Qs cells slots C _ _ _ H locs ls hP hS hL k
  obtain ⟨ys, hw, h1, h2⟩ := kaJ_some h
  obtain ⟨hx, hb, hr, hlk, hml, hown, hts, hin, hK, hZ, hfr, hlo⟩ := C
  refine va_lald (n := ys.length) (f := fun j => ys.getD j 0) hx hb hK hP a 1 (kws_get hw) rfl h1 hd ?_
  rw [kgetD h2]
  exact k H locs ls hP hS hL
theorem ks_aald {a : Nat} {i : Int32} {x : Nat} (h : kaR w a i = some x) (hd : decode (kby mid) pc = .ok (.aaload, 1)) : kSt xs l D dA b z d mid pc L (.int i :: .ref a :: st) w (pc + 1) L (.ref x :: st) w := by
  intro p e R s m args below meth c Qs cells slots C _ _ _ H locs ls hP hS hL k
  obtain ⟨t, ys, ht, hw, h1, h2⟩ := kaR_some h
  obtain ⟨hx, hb, hr, hlk, hml, hown, hts, hin, hK, hZ, hfr, hlo⟩ := C
  have hv : va_rf ((ys.getD i.toNatClampNeg none).map (fun i => b + i)) = .ref (b + x) := by rw [kgetD h2]; rfl
  rcases ht with rfl | rfl
  · refine va_aldq (n := ys.length) (f := fun j => (ys.getD j none).map (fun i => b + i)) hx hb hK hP a 4 (C := "SwapAssize$State") (kws_get hw) rfl h1 hd ?_
    rw [hv]
    exact k H locs ls hP hS hL
  · refine va_aldq (n := ys.length) (f := fun j => (ys.getD j none).map (fun i => b + i)) hx hb hK hP a 5 (C := "SwapAssize$Seen") (kws_get hw) rfl h1 hd ?_
    rw [hv]
    exact k H locs ls hP hS hL
theorem ks_iast {a : Nat} {i x : Int32} (h : ksI w a 0 i x = some w') (hd : decode (kby mid) pc = .ok (.iastore, 1)) : kSt xs l D dA b z d mid pc L (.int x :: .int i :: .ref a :: st) w (pc + 1) L st w' := by
  intro p e R s m args below meth c Qs cells slots C _ _ _ H locs ls hP hS hL k
  obtain ⟨ys, hw, h1, h2, rfl⟩ := ksI_some h
  obtain ⟨hx, hb, hr, hlk, hml, hown, hts, hin, hK, hZ, hfr, hlo⟩ := C
  have e1 : kEl b z dA (.inr (0, .inl (ys.set i.toNatClampNeg x))) = .inl (dA 0, ys.length, .inl (upd (fun j => ys.getD j 0) i.toNatClampNeg x)) := by
    simp only [kEl, List.length_set]
    congr 4
    funext j
    exact kset_fn h2 j
  exact va_iast (n := ys.length) (f := fun j => ys.getD j 0) hx hb hK hP (kws_D b z dA w) hS a 0 (kws_get hw) rfl h1 hd (fun H1 locs1 hP1 _ hS1 => k H1 locs1 ls (kP_set e1 hP1) hS1 hL)
theorem ks_bast {a : Nat} {i x : Int32} (h : ksB w a i x = some w') (hd : decode (kby mid) pc = .ok (.bastore, 1)) : kSt xs l D dA b z d mid pc L (.int x :: .int i :: .ref a :: st) w (pc + 1) L st w' := by
  intro p e R s m args below meth c Qs cells slots C _ _ _ H locs ls hP hS hL k
  obtain ⟨t, ys, ht, hw, h1, h2, rfl⟩ := ksB_some h
  obtain ⟨hx, hb, hr, hlk, hml, hown, hts, hin, hK, hZ, hfr, hlo⟩ := C
  have e1 : kEl b z dA (.inr (t, .inl (ys.set i.toNatClampNeg (vp_nar (kty t) x)))) = .inl (dA t, ys.length, .inl (upd (fun j => ys.getD j 0) i.toNatClampNeg (vp_nar (kty t) x))) := by
    simp only [kEl, List.length_set]
    congr 4
    funext j
    exact kset_fn h2 j
  rcases ht with rfl | rfl
  · exact va_bast (n := ys.length) (f := fun j => ys.getD j 0) hx hb hK hP (kws_D b z dA w) hS a 2 (kws_get hw) rfl h1 hd (fun H1 locs1 hP1 _ hS1 => k H1 locs1 ls (kP_set e1 hP1) hS1 hL)
  · exact va_zast (n := ys.length) (f := fun j => ys.getD j 0) hx hb hK hP (kws_D b z dA w) hS a 3 (kws_get hw) rfl h1 hd (fun H1 locs1 hP1 _ hS1 => k H1 locs1 ls (kP_set e1 hP1) hS1 hL)
theorem ks_last {a : Nat} {i : Int32} {x : Int64} (h : ksJ w a i x = some w') (hd : decode (kby mid) pc = .ok (.lastore, 1)) : kSt xs l D dA b z d mid pc L (.long x :: .int i :: .ref a :: st) w (pc + 1) L st w' := by
  intro p e R s m args below meth c Qs cells slots C _ _ _ H locs ls hP hS hL k
  obtain ⟨ys, hw, h1, h2, rfl⟩ := ksJ_some h
  obtain ⟨hx, hb, hr, hlk, hml, hown, hts, hin, hK, hZ, hfr, hlo⟩ := C
  have e1 : kEl b z dA (.inr (1, .inr (.inl (ys.set i.toNatClampNeg x)))) = .inl (dA 1, ys.length, .inr (.inl (vp_updL (fun j => ys.getD j 0) i.toNatClampNeg x))) := by
    simp only [kEl, List.length_set]
    congr 5
    funext j
    exact kset_fn h2 j
  exact va_last (n := ys.length) (f := fun j => ys.getD j 0) hx hb hK hP (kws_D b z dA w) hS a 1 (kws_get hw) rfl h1 hd (fun H1 locs1 hP1 _ hS1 => k H1 locs1 ls (kP_set e1 hP1) hS1 hL)
theorem ks_aast {a v : Nat} {i : Int32} (h : ksR w a i v = some w') (hd : decode (kby mid) pc = .ok (.aastore, 1)) : kSt xs l D dA b z d mid pc L (.ref v :: .int i :: .ref a :: st) w (pc + 1) L st w' := by
  intro p e R s m args below meth c Qs cells slots C _ _ _ H locs ls hP hS hL k
  obtain ⟨t, ys, ci, vs, ht, hw, hv, h1, h2, rfl⟩ := ksR_some h
  obtain ⟨hx, hb, hr, hlk, hml, hown, hts, hin, hK, hZ, hfr, hlo⟩ := C
  have e1 : kEl b z dA (.inr (t, .inr (.inr (ys.set i.toNatClampNeg (some v))))) = .inl (dA t, ys.length, .inr (.inr (.inr (.inr (va_up (fun j => (ys.getD j none).map (fun i => b + i)) i.toNatClampNeg (some (b + v))))))) := by
    simp only [kEl, List.length_set]
    congr 7
    funext j
    rw [kset_fn h2 j]
    unfold va_up
    split <;> rfl
  rcases ht with ⟨rfl, rfl⟩ | ⟨rfl, rfl⟩
  · exact va_astq (n := ys.length) (f := fun j => (ys.getD j none).map (fun i => b + i)) (r := (kC 9, kF 9, kN 9)) hx hb hK hP (kws_D b z dA w) hS a 4 v 9 (kws_get hw) rfl (kws_get hv) rfl h1 hd (fun H1 locs1 hP1 _ hS1 => k H1 locs1 ls (kP_set e1 hP1) hS1 hL)
  · exact va_astq (n := ys.length) (f := fun j => (ys.getD j none).map (fun i => b + i)) (r := (kC 7, kF 7, kN 7)) hx hb hK hP (kws_D b z dA w) hS a 5 v 7 (kws_get hw) rfl (kws_get hv) rfl h1 hd (fun H1 locs1 hP1 _ hS1 => k H1 locs1 ls (kP_set e1 hP1) hS1 hL)
theorem ks_alen {a n : Nat} (h : kalen w a = some n) (hd : decode (kby mid) pc = .ok (.arraylength, 1)) : kSt xs l D dA b z d mid pc L (.ref a :: st) w (pc + 1) L (.int (Int32.ofNat n) :: st) w := by
  intro p e R s m args below meth c Qs cells slots C _ _ _ H locs ls hP hS hL k
  obtain ⟨t, ca, ht, hw, rfl⟩ := kalen_some h
  obtain ⟨hx, hb, hr, hlk, hml, hown, hts, hin, hK, hZ, hfr, hlo⟩ := C
  have ht' : (ktys dA)[t]? = some (dA t, kty t) := match t, ht with
    | 0, _ => rfl
    | 1, _ => rfl
    | 2, _ => rfl
    | 3, _ => rfl
    | 4, _ => rfl
    | 5, _ => rfl
    | n + 6, h => absurd h (by omega)
  rcases ca with ys | ys | ys
  · exact va_alen hx hb hK hP a t (kws_get hw) ht' rfl hd (k H locs ls hP hS hL)
  · exact va_alen hx hb hK hP a t (kws_get hw) ht' rfl hd (k H locs ls hP hS hL)
  · exact va_alen hx hb hK hP a t (kws_get hw) ht' rfl hd (k H locs ls hP hS hL)
theorem ks_icmp_eq_t {x y : Int32} {off : Int} {t : Nat} (ht : (pc : Int) + off = (t : Int)) (hc : x = y) (hd : decode (kby mid) pc = .ok (.if_icmp .eq off, 3)) : kSt xs l D dA b z d mid pc L (.int y :: .int x :: st) w t L st w := fun p e R s m args below meth c Qs cells slots C _ _ _ H locs ls hP hS hL k => lv_icmp_eq C.1 C.2.1 hd ht (fun _ => k H locs ls hP hS hL) (fun h => absurd hc h)
theorem ks_icmp_eq_f {x y : Int32} {off : Int} {t : Nat} (ht : (pc : Int) + off = (t : Int)) (hc : ¬ x = y) (hd : decode (kby mid) pc = .ok (.if_icmp .eq off, 3)) : kSt xs l D dA b z d mid pc L (.int y :: .int x :: st) w (pc + 3) L st w := fun p e R s m args below meth c Qs cells slots C _ _ _ H locs ls hP hS hL k => lv_icmp_eq C.1 C.2.1 hd ht (fun h => absurd h hc) (fun _ => k H locs ls hP hS hL)
theorem ks_if_eq_t {x : Int32} {off : Int} {t : Nat} (ht : (pc : Int) + off = (t : Int)) (hc : x = 0) (hd : decode (kby mid) pc = .ok (.ifCond .eq off, 3)) : kSt xs l D dA b z d mid pc L (.int x :: st) w t L st w := fun p e R s m args below meth c Qs cells slots C _ _ _ H locs ls hP hS hL k => lv_if_eq C.1 C.2.1 hd ht (fun _ => k H locs ls hP hS hL) (fun h => absurd hc h)
theorem ks_if_eq_f {x : Int32} {off : Int} {t : Nat} (ht : (pc : Int) + off = (t : Int)) (hc : ¬ x = 0) (hd : decode (kby mid) pc = .ok (.ifCond .eq off, 3)) : kSt xs l D dA b z d mid pc L (.int x :: st) w (pc + 3) L st w := fun p e R s m args below meth c Qs cells slots C _ _ _ H locs ls hP hS hL k => lv_if_eq C.1 C.2.1 hd ht (fun h => absurd h hc) (fun _ => k H locs ls hP hS hL)
theorem ks_icmp_ne_t {x y : Int32} {off : Int} {t : Nat} (ht : (pc : Int) + off = (t : Int)) (hc : ¬ x = y) (hd : decode (kby mid) pc = .ok (.if_icmp .ne off, 3)) : kSt xs l D dA b z d mid pc L (.int y :: .int x :: st) w t L st w := fun p e R s m args below meth c Qs cells slots C _ _ _ H locs ls hP hS hL k => lv_icmp_ne C.1 C.2.1 hd ht (fun _ => k H locs ls hP hS hL) (fun h => absurd h hc)
theorem ks_icmp_ne_f {x y : Int32} {off : Int} {t : Nat} (ht : (pc : Int) + off = (t : Int)) (hc : x = y) (hd : decode (kby mid) pc = .ok (.if_icmp .ne off, 3)) : kSt xs l D dA b z d mid pc L (.int y :: .int x :: st) w (pc + 3) L st w := fun p e R s m args below meth c Qs cells slots C _ _ _ H locs ls hP hS hL k => lv_icmp_ne C.1 C.2.1 hd ht (fun h => absurd hc h) (fun _ => k H locs ls hP hS hL)
theorem ks_if_ne_t {x : Int32} {off : Int} {t : Nat} (ht : (pc : Int) + off = (t : Int)) (hc : ¬ x = 0) (hd : decode (kby mid) pc = .ok (.ifCond .ne off, 3)) : kSt xs l D dA b z d mid pc L (.int x :: st) w t L st w := fun p e R s m args below meth c Qs cells slots C _ _ _ H locs ls hP hS hL k => lv_if_ne C.1 C.2.1 hd ht (fun _ => k H locs ls hP hS hL) (fun h => absurd h hc)
theorem ks_if_ne_f {x : Int32} {off : Int} {t : Nat} (ht : (pc : Int) + off = (t : Int)) (hc : x = 0) (hd : decode (kby mid) pc = .ok (.ifCond .ne off, 3)) : kSt xs l D dA b z d mid pc L (.int x :: st) w (pc + 3) L st w := fun p e R s m args below meth c Qs cells slots C _ _ _ H locs ls hP hS hL k => lv_if_ne C.1 C.2.1 hd ht (fun h => absurd hc h) (fun _ => k H locs ls hP hS hL)
theorem ks_icmp_lt_t {x y : Int32} {off : Int} {t : Nat} (ht : (pc : Int) + off = (t : Int)) (hc : x < y) (hd : decode (kby mid) pc = .ok (.if_icmp .lt off, 3)) : kSt xs l D dA b z d mid pc L (.int y :: .int x :: st) w t L st w := fun p e R s m args below meth c Qs cells slots C _ _ _ H locs ls hP hS hL k => lv_icmp_lt C.1 C.2.1 hd ht (fun _ => k H locs ls hP hS hL) (fun h => absurd hc h)
theorem ks_icmp_lt_f {x y : Int32} {off : Int} {t : Nat} (ht : (pc : Int) + off = (t : Int)) (hc : ¬ x < y) (hd : decode (kby mid) pc = .ok (.if_icmp .lt off, 3)) : kSt xs l D dA b z d mid pc L (.int y :: .int x :: st) w (pc + 3) L st w := fun p e R s m args below meth c Qs cells slots C _ _ _ H locs ls hP hS hL k => lv_icmp_lt C.1 C.2.1 hd ht (fun h => absurd h hc) (fun _ => k H locs ls hP hS hL)
theorem ks_if_lt_t {x : Int32} {off : Int} {t : Nat} (ht : (pc : Int) + off = (t : Int)) (hc : x < 0) (hd : decode (kby mid) pc = .ok (.ifCond .lt off, 3)) : kSt xs l D dA b z d mid pc L (.int x :: st) w t L st w := fun p e R s m args below meth c Qs cells slots C _ _ _ H locs ls hP hS hL k => lv_if_lt C.1 C.2.1 hd ht (fun _ => k H locs ls hP hS hL) (fun h => absurd hc h)
theorem ks_if_lt_f {x : Int32} {off : Int} {t : Nat} (ht : (pc : Int) + off = (t : Int)) (hc : ¬ x < 0) (hd : decode (kby mid) pc = .ok (.ifCond .lt off, 3)) : kSt xs l D dA b z d mid pc L (.int x :: st) w (pc + 3) L st w := fun p e R s m args below meth c Qs cells slots C _ _ _ H locs ls hP hS hL k => lv_if_lt C.1 C.2.1 hd ht (fun h => absurd h hc) (fun _ => k H locs ls hP hS hL)
theorem ks_icmp_ge_t {x y : Int32} {off : Int} {t : Nat} (ht : (pc : Int) + off = (t : Int)) (hc : ¬ x < y) (hd : decode (kby mid) pc = .ok (.if_icmp .ge off, 3)) : kSt xs l D dA b z d mid pc L (.int y :: .int x :: st) w t L st w := fun p e R s m args below meth c Qs cells slots C _ _ _ H locs ls hP hS hL k => lv_icmp_ge C.1 C.2.1 hd ht (fun _ => k H locs ls hP hS hL) (fun h => absurd (Int32.not_lt.mp hc) h)
theorem ks_icmp_ge_f {x y : Int32} {off : Int} {t : Nat} (ht : (pc : Int) + off = (t : Int)) (hc : x < y) (hd : decode (kby mid) pc = .ok (.if_icmp .ge off, 3)) : kSt xs l D dA b z d mid pc L (.int y :: .int x :: st) w (pc + 3) L st w := fun p e R s m args below meth c Qs cells slots C _ _ _ H locs ls hP hS hL k => lv_icmp_ge C.1 C.2.1 hd ht (fun h => absurd hc (Int32.not_lt.mpr h)) (fun _ => k H locs ls hP hS hL)
theorem ks_if_ge_t {x : Int32} {off : Int} {t : Nat} (ht : (pc : Int) + off = (t : Int)) (hc : ¬ x < 0) (hd : decode (kby mid) pc = .ok (.ifCond .ge off, 3)) : kSt xs l D dA b z d mid pc L (.int x :: st) w t L st w := fun p e R s m args below meth c Qs cells slots C _ _ _ H locs ls hP hS hL k => lv_if_ge C.1 C.2.1 hd ht (fun _ => k H locs ls hP hS hL) (fun h => absurd (Int32.not_lt.mp hc) h)
theorem ks_if_ge_f {x : Int32} {off : Int} {t : Nat} (ht : (pc : Int) + off = (t : Int)) (hc : x < 0) (hd : decode (kby mid) pc = .ok (.ifCond .ge off, 3)) : kSt xs l D dA b z d mid pc L (.int x :: st) w (pc + 3) L st w := fun p e R s m args below meth c Qs cells slots C _ _ _ H locs ls hP hS hL k => lv_if_ge C.1 C.2.1 hd ht (fun h => absurd hc (Int32.not_lt.mpr h)) (fun _ => k H locs ls hP hS hL)
theorem ks_icmp_gt_t {x y : Int32} {off : Int} {t : Nat} (ht : (pc : Int) + off = (t : Int)) (hc : y < x) (hd : decode (kby mid) pc = .ok (.if_icmp .gt off, 3)) : kSt xs l D dA b z d mid pc L (.int y :: .int x :: st) w t L st w := fun p e R s m args below meth c Qs cells slots C _ _ _ H locs ls hP hS hL k => lv_icmp_gt C.1 C.2.1 hd ht (fun _ => k H locs ls hP hS hL) (fun h => absurd hc h)
theorem ks_icmp_gt_f {x y : Int32} {off : Int} {t : Nat} (ht : (pc : Int) + off = (t : Int)) (hc : ¬ y < x) (hd : decode (kby mid) pc = .ok (.if_icmp .gt off, 3)) : kSt xs l D dA b z d mid pc L (.int y :: .int x :: st) w (pc + 3) L st w := fun p e R s m args below meth c Qs cells slots C _ _ _ H locs ls hP hS hL k => lv_icmp_gt C.1 C.2.1 hd ht (fun h => absurd h hc) (fun _ => k H locs ls hP hS hL)
theorem ks_if_gt_t {x : Int32} {off : Int} {t : Nat} (ht : (pc : Int) + off = (t : Int)) (hc : 0 < x) (hd : decode (kby mid) pc = .ok (.ifCond .gt off, 3)) : kSt xs l D dA b z d mid pc L (.int x :: st) w t L st w := fun p e R s m args below meth c Qs cells slots C _ _ _ H locs ls hP hS hL k => lv_if_gt C.1 C.2.1 hd ht (fun _ => k H locs ls hP hS hL) (fun h => absurd hc h)
theorem ks_if_gt_f {x : Int32} {off : Int} {t : Nat} (ht : (pc : Int) + off = (t : Int)) (hc : ¬ 0 < x) (hd : decode (kby mid) pc = .ok (.ifCond .gt off, 3)) : kSt xs l D dA b z d mid pc L (.int x :: st) w (pc + 3) L st w := fun p e R s m args below meth c Qs cells slots C _ _ _ H locs ls hP hS hL k => lv_if_gt C.1 C.2.1 hd ht (fun h => absurd h hc) (fun _ => k H locs ls hP hS hL)
theorem ks_icmp_le_t {x y : Int32} {off : Int} {t : Nat} (ht : (pc : Int) + off = (t : Int)) (hc : ¬ y < x) (hd : decode (kby mid) pc = .ok (.if_icmp .le off, 3)) : kSt xs l D dA b z d mid pc L (.int y :: .int x :: st) w t L st w := fun p e R s m args below meth c Qs cells slots C _ _ _ H locs ls hP hS hL k => lv_icmp_le C.1 C.2.1 hd ht (fun _ => k H locs ls hP hS hL) (fun h => absurd (Int32.not_lt.mp hc) h)
theorem ks_icmp_le_f {x y : Int32} {off : Int} {t : Nat} (ht : (pc : Int) + off = (t : Int)) (hc : y < x) (hd : decode (kby mid) pc = .ok (.if_icmp .le off, 3)) : kSt xs l D dA b z d mid pc L (.int y :: .int x :: st) w (pc + 3) L st w := fun p e R s m args below meth c Qs cells slots C _ _ _ H locs ls hP hS hL k => lv_icmp_le C.1 C.2.1 hd ht (fun h => absurd hc (Int32.not_lt.mpr h)) (fun _ => k H locs ls hP hS hL)
theorem ks_if_le_t {x : Int32} {off : Int} {t : Nat} (ht : (pc : Int) + off = (t : Int)) (hc : ¬ 0 < x) (hd : decode (kby mid) pc = .ok (.ifCond .le off, 3)) : kSt xs l D dA b z d mid pc L (.int x :: st) w t L st w := fun p e R s m args below meth c Qs cells slots C _ _ _ H locs ls hP hS hL k => lv_if_le C.1 C.2.1 hd ht (fun _ => k H locs ls hP hS hL) (fun h => absurd (Int32.not_lt.mp hc) h)
theorem ks_if_le_f {x : Int32} {off : Int} {t : Nat} (ht : (pc : Int) + off = (t : Int)) (hc : 0 < x) (hd : decode (kby mid) pc = .ok (.ifCond .le off, 3)) : kSt xs l D dA b z d mid pc L (.int x :: st) w (pc + 3) L st w := fun p e R s m args below meth c Qs cells slots C _ _ _ H locs ls hP hS hL k => lv_if_le C.1 C.2.1 hd ht (fun h => absurd hc (Int32.not_lt.mpr h)) (fun _ => k H locs ls hP hS hL)
end KSH
