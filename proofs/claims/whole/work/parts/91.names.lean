/-! names -/
/-- the first of n at which f is v; n if there is none -/
def fO (f : Nat → Nat) (v n : Nat) : Nat := rnE (fun i => !decide (f i = v)) n 0
theorem fO_ok (f : Nat → Nat) (v n : Nat) : fO f v n ≤ n ∧ (∀ i, i < fO f v n → f i ≠ v) ∧ (fO f v n < n → f (fO f v n) = v) := by
  obtain ⟨a1, a2, a3, a4⟩ := rnE_ok (p := fun i => !decide (f i = v)) (Nat.zero_le n)
  have fold : rnE (fun i => !decide (f i = v)) n 0 = fO f v n := rfl
  rw [fold] at a1 a2 a3 a4
  refine ⟨a2, fun i hi e => ?_, fun h => ?_⟩
  · have z := a3 i (Nat.zero_le _) hi
    rw [decide_eq_true e] at z
    exact absurd z (by decide)
  · have z := a4 h
    refine Classical.byContradiction (fun e => ?_)
    rw [decide_eq_false e] at z
    exact absurd z (by decide)
def fnd (f : Nat → Nat) (v n : Nat) : Int32 := if fO f v n < n then nI (fO f v n) else -1
theorem fO_is {f : Nat → Nat} {v n i : Nat} (hi : i < n) (e : f i = v) (inj : ∀ i j, i < n → j < n → f i = f j → i = j) : fO f v n = i := by
  obtain ⟨a1, a2, a3⟩ := fO_ok f v n
  have h1 : fO f v n ≤ i := Nat.le_of_not_lt (fun q => a2 i q e)
  exact inj _ _ (by omega) hi (by rw [a3 (by omega), e])
theorem fO_no {f : Nat → Nat} {v n : Nat} (h : ∀ i, i < n → f i ≠ v) : fO f v n = n := by
  obtain ⟨a1, a2, a3⟩ := fO_ok f v n
  refine Classical.byContradiction (fun q => ?_)
  exact h _ (show fO f v n < n by omega) (a3 (by omega))
abbrev aNm : Type := (Nat → Nat) × (Nat → Nat)
def aNm.mk (j : Nat → Nat) (c : Nat → Nat) : aNm := (j, c)
def aNm.j (s : aNm) : Nat → Nat := s.1
def aNm.c (s : aNm) : Nat → Nat := s.2
abbrev vNm (nj nc : Nat) (N : aNm) : Prop := (∀ i, i < nj → vWd (N.j i)) ∧ (∀ i, i < nc → vWd (N.c i)) ∧ (∀ i k, i < nj → k < nj → N.j i = N.j k → i = k) ∧ (∀ i k, i < nc → k < nc → N.c i = N.c k → i = k) ∧ (∀ i k, i < nj → k < nc → N.j i ≠ N.c k)
theorem vNm.vj {nj nc : Nat} {N : aNm} (h : vNm nj nc N) : ∀ i, i < nj → vWd (N.j i) := h.1
theorem vNm.vc {nj nc : Nat} {N : aNm} (h : vNm nj nc N) : ∀ i, i < nc → vWd (N.c i) := h.2.1
theorem vNm.ij {nj nc : Nat} {N : aNm} (h : vNm nj nc N) : ∀ i k, i < nj → k < nj → N.j i = N.j k → i = k := h.2.2.1
theorem vNm.ic {nj nc : Nat} {N : aNm} (h : vNm nj nc N) : ∀ i k, i < nc → k < nc → N.c i = N.c k → i = k := h.2.2.2.1
theorem vNm.dj {nj nc : Nat} {N : aNm} (h : vNm nj nc N) : ∀ i k, i < nj → k < nc → N.j i ≠ N.c k := h.2.2.2.2
abbrev cNm (J : Nat → Nat → Int64) (a nj nc : Nat) (N : aNm) : Prop := (∀ i, i < nj → J (a + 1) i = nJ (cnv 8 (N.j i))) ∧ (∀ i, i < nc → J (a + 2) i = nJ (cnv 8 (N.c i)))
theorem cNm.j {J : Nat → Nat → Int64} {a nj nc : Nat} {N : aNm} (h : cNm J a nj nc N) : ∀ i, i < nj → J (a + 1) i = nJ (cnv 8 (N.j i)) := h.1
theorem cNm.c {J : Nat → Nat → Int64} {a nj nc : Nat} {N : aNm} (h : cNm J a nj nc N) : ∀ i, i < nc → J (a + 2) i = nJ (cnv 8 (N.c i)) := h.2
/-- the model's one list of both -/
abbrev lNm (mn nj nc : Nat) (N : aNm) (nm no : Nat → Nat) : Prop := (∀ k, k < mn → (no k < nj ∧ nm k = N.j (no k)) ∨ (20 ≤ no k ∧ no k - 20 < nc ∧ nm k = N.c (no k - 20))) ∧ (∀ i, i < nj → ∃ k, k < mn ∧ no k = i) ∧ (∀ i, i < nc → ∃ k, k < mn ∧ no k = 20 + i)
theorem lNm.s {mn nj nc : Nat} {N : aNm} {nm no : Nat → Nat} (h : lNm mn nj nc N nm no) : ∀ k, k < mn → (no k < nj ∧ nm k = N.j (no k)) ∨ (20 ≤ no k ∧ no k - 20 < nc ∧ nm k = N.c (no k - 20)) := h.1
theorem lNm.j {mn nj nc : Nat} {N : aNm} {nm no : Nat → Nat} (h : lNm mn nj nc N nm no) : ∀ i, i < nj → ∃ k, k < mn ∧ no k = i := h.2.1
theorem lNm.c {mn nj nc : Nat} {N : aNm} {nm no : Nat → Nat} (h : lNm mn nj nc N nm no) : ∀ i, i < nc → ∃ k, k < mn ∧ no k = 20 + i := h.2.2
/-- who is named v: a judge, or 20 and a case -/
def nAt (nj nc : Nat) (N : aNm) (v : Nat) : Int32 := if fO N.j v nj < nj then nI (fO N.j v nj) else if fO N.c v nc < nc then nI (20 + fO N.c v nc) else -1
theorem nAt_l {mn nj nc : Nat} {N : aNm} {nm no : Nat → Nat} {v : Nat} (hj : nj ≤ 7) (hv : vNm nj nc N) (h : lNm mn nj nc N nm no) : nAt nj nc N v = if fO nm v mn < mn then nI (no (fO nm v mn)) else -1 := by
  obtain ⟨a1, a2, a3⟩ := fO_ok nm v mn
  unfold nAt
  by_cases q : fO nm v mn < mn
  · rw [if_pos q]
    have e := a3 q
    rcases h.s _ q with z | z
    · have ej : fO N.j v nj = no (fO nm v mn) := fO_is z.1 (by rw [← z.2, e]) hv.ij
      rw [ej, if_pos z.1]
    · have ec : fO N.c v nc = no (fO nm v mn) - 20 := fO_is z.2.1 (by rw [← z.2.2, e]) hv.ic
      have en : fO N.j v nj = nj := fO_no (fun i hi y => hv.dj i _ hi z.2.1 (by rw [y, ← z.2.2, e]))
      rw [en, if_neg (Nat.lt_irrefl _), ec, if_pos z.2.1, show 20 + (no (fO nm v mn) - 20) = no (fO nm v mn) by omega]
  · rw [if_neg q]
    have all : ∀ k, k < mn → nm k ≠ v := fun k hk => a2 k (by omega)
    have en : fO N.j v nj = nj := fO_no (fun i hi y => by
      obtain ⟨k, hk, e⟩ := h.j i hi
      rcases h.s k hk with z | z
      · exact all k hk (by rw [z.2, e, y])
      · omega)
    have ec : fO N.c v nc = nc := fO_no (fun i hi y => by
      obtain ⟨k, hk, e⟩ := h.c i hi
      rcases h.s k hk with z | z
      · omega
      · exact all k hk (by rw [z.2.2, e, show 20 + i - 20 = i by omega, y]))
    rw [en, if_neg (Nat.lt_irrefl _), ec, if_neg (Nat.lt_irrefl _)]
section NM
variable {xs : List Int32} {d : Nat} {I I' I2 : Nat → Nat → Int32} {J : Nat → Nat → Int64} {rf : Nat → Nat} {g : Nat} {R : Option Value → KW → Prop} {w : KW} {T : aTp} {s : aPS} {a : Nat}
/-- Roll.indexOf -/
theorem sp57e {b n v : Nat} {f : Nat → Nat} (hj : ∀ i, i < 7 → kaJ (kmm I J rf g) b (nI i) = some (J b i)) (hl : kalen (kmm I J rf g) b = some 7) (hn : n ≤ 7) (hv : vWd v) (hf : ∀ i, i < n → vWd (f i)) (hJ : ∀ i, i < n → J b i = nJ (cnv 8 (f i))) : kX xs d 57 0 [some (.ref b), some (.int (nI n)), some (.long (nJ (cnv 8 v))), none, none] [] (kmm I J rf g) R = R (some (.int (fnd f v n))) (kmm I J rf g) := by
  obtain ⟨a1, a2, a3⟩ := fO_ok f v n
  have e7 : Int32.ofNat 7 = nI 7 := rfl
  have ev : ∀ i, i < n → (lg_cmp (J b i) (nJ (cnv 8 v)) = 0) = (f i = v) := fun i hi => by rw [hJ i hi, lgc, nJ_cnv (hf i hi) hv]
  have L : kX xs d 57 3 [some (.ref b), some (.int (nI n)), some (.long (nJ (cnv 8 v))), none, some (.int (nI 0))] [] (kmm I J rf g) R = kX xs d 57 3 [some (.ref b), some (.int (nI n)), some (.long (nJ (cnv 8 v))), none, some (.int (nI (fO f v n)))] [] (kmm I J rf g) R := by
    refine kchain (n := fO f v n) (fun i => kX xs d 57 3 [some (.ref b), some (.int (nI n)), some (.long (nJ (cnv 8 v))), none, some (.int (nI i))] [] (kmm I J rf g) R) ?_
    intro i hi
    show kX _ _ _ _ _ _ _ _ = kX _ _ _ _ _ _ _ _
    rw [B57_3, if_pos (nI_lt (by omega) (by omega)), B57_9, hl, kO_s, e7, if_pos (nI_lt (by omega) (by omega)), B57_16, hj i (by omega), kO_s, if_neg (fun z => a2 i hi ((ev i (by omega)).mp z)), B57_28, nI_add1]
  rw [B57_0]
  refine Eq.trans L ?_
  unfold fnd
  by_cases q : fO f v n < n
  · rw [B57_3, if_pos (nI_lt q (by omega)), B57_9, hl, kO_s, e7, if_pos (nI_lt (by omega) (by omega)), B57_16, hj _ (by omega), kO_s, if_pos ((ev _ q).mpr (a3 q)), B57_25, if_pos q]
  · rw [B57_3, if_neg (nI_nlt (by omega) (by omega)), B57_34, if_neg q]
/-- nameAt -/
theorem sp178r {mn v : Nat} {nm no : Nat → Nat} (vt : vTp T) (h : mPS I J T s) (hk : s.k < nT T) (hv : tV T (pT T s.k) = v) (hv2 : v < 2 ^ 63) (hm : I 185 19 = nI mn) (hn : mn ≤ 14) (hnm : ∀ k, k < mn → J 195 k = nJ (nm k) ∧ nm k < 2 ^ 63) (hno : ∀ k, k < mn → I 197 k = nI (no k)) : kX xs d 178 0 [some (.ref 185), some (.int 1), none] [] (kmm I J rf g) R = R (some (.int (if fO nm v mn < mn then nI (no (fO nm v mn)) else -1))) (kmm I J rf g) := by
  obtain ⟨a1, a2, a3⟩ := fO_ok nm v mn
  have hn1 := (nT_ok T).1
  have hn2 := vt.n
  have ek := h.k
  have evv := h.tk.v _ hk
  rw [hv] at evv
  have ev : ∀ i, i < mn → (lg_cmp (J 195 i) (nJ v) = 0) = (nm i = v) := fun i hi => by rw [(hnm i hi).1, lgc, nJ_inj (hnm i hi).2 hv2]
  have lz : ¬ (1 : Int32) = 0 := by decide
  have L : kX xs d 178 2 [some (.ref 185), some (.int 1), some (.int (nI 0))] [] (kmm I J rf g) R = kX xs d 178 2 [some (.ref 185), some (.int 1), some (.int (nI (fO nm v mn)))] [] (kmm I J rf g) R := by
    refine kchain (n := fO nm v mn) (fun i => kX xs d 178 2 [some (.ref 185), some (.int 1), some (.int (nI i))] [] (kmm I J rf g) R) ?_
    intro i hi
    show kX _ _ _ _ _ _ _ _ = kX _ _ _ _ _ _ _ _
    rw [B178_2, if_neg lz, B178_7, kg12_19, kO_s, hm, B178_18, if_pos (nI_lt (by omega) (by omega)), B178_21, if_neg lz, B178_25, kg12_15, kO_s, kj195 (by omega), kO_s, B178_40, kg12_6, kO_s, kg12_7, kO_s, ek, kj189 (by omega), kO_s, evv, if_neg (fun z => a2 i hi ((ev i (by omega)).mp z)), B178_73, nI_add1]
  rw [B178_0]
  refine Eq.trans L ?_
  by_cases q : fO nm v mn < mn
  · rw [if_pos q, B178_2, if_neg lz, B178_7, kg12_19, kO_s, hm, B178_18, if_pos (nI_lt q (by omega)), B178_21, if_neg lz, B178_25, kg12_15, kO_s, kj195 (by omega), kO_s, B178_40, kg12_6, kO_s, kg12_7, kO_s, ek, kj189 (by omega), kO_s, evv, if_pos ((ev _ q).mpr (a3 q)), B178_53, if_neg lz, B178_57, kg12_17, kO_s, ka197 (by omega), kO_s, hno _ q, B178_72]
  · rw [if_neg q, B178_2, if_neg lz, B178_7, kg12_19, kO_s, hm, B178_18, if_neg (nI_nlt (by omega) (by omega)), B178_79]
/-- nameAt -/
theorem sp178n {mn v : Nat} {nm no : Nat → Nat} (vt : vTp T) (h : mPS I J T s) (hk : s.k < nT T) (hv : tV T (pT T s.k) = v) (hv2 : v < 2 ^ 63) (hm : I 185 18 = nI mn) (hn : mn ≤ 14) (hnm : ∀ k, k < mn → J 194 k = nJ (nm k) ∧ nm k < 2 ^ 63) (hno : ∀ k, k < mn → I 196 k = nI (no k)) : kX xs d 178 0 [some (.ref 185), some (.int 0), none] [] (kmm I J rf g) R = R (some (.int (if fO nm v mn < mn then nI (no (fO nm v mn)) else -1))) (kmm I J rf g) := by
  obtain ⟨a1, a2, a3⟩ := fO_ok nm v mn
  have hn1 := (nT_ok T).1
  have hn2 := vt.n
  have ek := h.k
  have evv := h.tk.v _ hk
  rw [hv] at evv
  have ev : ∀ i, i < mn → (lg_cmp (J 194 i) (nJ v) = 0) = (nm i = v) := fun i hi => by rw [(hnm i hi).1, lgc, nJ_inj (hnm i hi).2 hv2]
  have lz : (0 : Int32) = 0 := by decide
  have L : kX xs d 178 2 [some (.ref 185), some (.int 0), some (.int (nI 0))] [] (kmm I J rf g) R = kX xs d 178 2 [some (.ref 185), some (.int 0), some (.int (nI (fO nm v mn)))] [] (kmm I J rf g) R := by
    refine kchain (n := fO nm v mn) (fun i => kX xs d 178 2 [some (.ref 185), some (.int 0), some (.int (nI i))] [] (kmm I J rf g) R) ?_
    intro i hi
    show kX _ _ _ _ _ _ _ _ = kX _ _ _ _ _ _ _ _
    rw [B178_2, if_pos lz, B178_14, kg12_18, kO_s, hm, B178_18, if_pos (nI_lt (by omega) (by omega)), B178_21, if_pos lz, B178_34, kg12_14, kO_s, kj194 (by omega), kO_s, B178_40, kg12_6, kO_s, kg12_7, kO_s, ek, kj189 (by omega), kO_s, evv, if_neg (fun z => a2 i hi ((ev i (by omega)).mp z)), B178_73, nI_add1]
  rw [B178_0]
  refine Eq.trans L ?_
  by_cases q : fO nm v mn < mn
  · rw [if_pos q, B178_2, if_pos lz, B178_14, kg12_18, kO_s, hm, B178_18, if_pos (nI_lt q (by omega)), B178_21, if_pos lz, B178_34, kg12_14, kO_s, kj194 (by omega), kO_s, B178_40, kg12_6, kO_s, kg12_7, kO_s, ek, kj189 (by omega), kO_s, evv, if_pos ((ev _ q).mpr (a3 q)), B178_53, if_pos lz, B178_66, kg12_16, kO_s, ka196 (by omega), kO_s, hno _ q, B178_72]
  · rw [if_neg q, B178_2, if_pos lz, B178_14, kg12_18, kO_s, hm, B178_18, if_neg (nI_nlt (by omega) (by omega)), B178_79]
end NM
