/-! the model cuts the whole tape -/
def srt (K : Nat) : Nat := if K = 0 then 0 else if K = 1 then 4 else if K = 2 then 2 else if K = 3 ∨ 128 ≤ K then 1 else 3
def eT (T : aTp) : Nat → Nat
  | 0 => 0
  | k + 1 => tE T (pT T k)
theorem pT_e (T : aTp) (k : Nat) : pT T k = skp T (eT T k) := by cases k <;> rfl
/-- how many tokens there are -/
def nT (T : aTp) : Nat := rnE (fun k => decide (pT T k < T.n)) T.n 0
theorem pT_ge {T : aTp} : ∀ k, k ≤ pT T k ∨ pT T k = T.n := by
  intro k
  induction k with
  | zero => exact Or.inl (Nat.zero_le _)
  | succ k ih =>
    have h1 := pT_le (T := T) k
    have h2 := tE_le h1
    have h3 := skp_le h2.2.1
    have e : pT T (k + 1) = skp T (tE T (pT T k)) := rfl
    by_cases q : pT T k < T.n
    · have := h2.2.2 q
      omega
    · omega
theorem nT_ok (T : aTp) : nT T ≤ T.n ∧ (∀ k, k < nT T → pT T k < T.n) ∧ pT T (nT T) = T.n := by
  obtain ⟨a1, a2, a3, a4⟩ := rnE_ok (p := fun k => decide (pT T k < T.n)) (Nat.zero_le T.n)
  have fold : rnE (fun k => decide (pT T k < T.n)) T.n 0 = nT T := rfl
  rw [fold] at a1 a2 a3 a4
  refine ⟨a2, fun k hk => of_decide_eq_true (a3 k (by omega) hk), ?_⟩
  have h1 := pT_le (T := T) (nT T)
  by_cases q : nT T < T.n
  · have := of_decide_eq_false (a4 q); omega
  · have := pT_ge (T := T) (nT T); omega
abbrev mTk (I : Nat → Nat → Int32) (J : Nat → Nat → Int64) (T : aTp) : Prop := (∀ k, k ≤ nT T → I 187 k = nI (srt (tK T (pT T k)))) ∧ (∀ k, k ≤ nT T → I 188 k = nI (pT T k)) ∧ (∀ k, k < nT T → J 189 k = nJ (tV T (pT T k)))
theorem mTk.s {I : Nat → Nat → Int32} {J : Nat → Nat → Int64} {T : aTp} (h : mTk I J T) : ∀ k, k ≤ nT T → I 187 k = nI (srt (tK T (pT T k))) := h.1
theorem mTk.p {I : Nat → Nat → Int32} {J : Nat → Nat → Int64} {T : aTp} (h : mTk I J T) : ∀ k, k ≤ nT T → I 188 k = nI (pT T k) := h.2.1
theorem mTk.v {I : Nat → Nat → Int32} {J : Nat → Nat → Int64} {T : aTp} (h : mTk I J T) : ∀ k, k < nT T → J 189 k = nJ (tV T (pT T k)) := h.2.2
theorem nJ_add (a b : Nat) : nJ a + nJ b = nJ (a + b) := (Int64.ofNat_add a b).symm
theorem nJ_mul (a b : Nat) : nJ a * nJ b = nJ (a * b) := (Int64.ofNat_mul a b).symm
theorem nJ_sb {a b : Nat} (h : b ≤ a) : nJ a - nJ b = nJ (a - b) := by
  have e : nJ a = nJ (a - b) + nJ b := by rw [nJ_add, Nat.sub_add_cancel h]
  rw [e, Int64.sub_eq_add_neg, Int64.add_assoc, Int64.add_right_neg, Int64.add_zero]
theorem nJ_c {c : Nat} (h : c < 127) : (nI c).toInt64 = nJ c := by
  have key : ∀ c : Fin 127, (nI c.val).toInt64 = nJ c.val := by decide +kernel
  exact key ⟨c, h⟩
theorem nJ_37 {a c : Nat} (h : c < 127) : 37 * nJ a + (nI (c - 96)).toInt64 = nJ (a * 37 + (c - 96)) := by
  rw [nJ_c (by omega), show (37 : Int64) = nJ 37 from rfl, nJ_mul, nJ_add, Nat.mul_comm]
theorem nJ_10 {a c : Nat} (h : c < 127) (h2 : 48 ≤ c) : 10 * nJ a + (nI c).toInt64 - 48 = nJ (a * 10 + (c - 48)) := by
  rw [nJ_c h, show (10 : Int64) = nJ 10 from rfl, nJ_mul, nJ_add, show (48 : Int64) = nJ 48 from rfl, nJ_sb (by omega), show 10 * a + c - 48 = a * 10 + (c - 48) by omega]
section CU
variable {xs : List Int32} {d : Nat} {I I' I2 : Nat → Nat → Int32} {J J' : Nat → Nat → Int64} {rf : Nat → Nat} {g : Nat} {R : Option Value → KW → Prop} {w : KW} {T : aTp} {p i k : Nat}
theorem cut1 (en : I 185 3 = nI T.n) (et : ∀ k, k < T.n → I 186 k = nI (T.t k)) (v : vTp T) (hk : k < 1002) (hp : p < T.n) : kX xs (d + 2) 163 50 [some (.ref 185), some (.int (nI k)), some (.int (nI p)), some (.int (nI (T.t p))), none, none, none] [] (kmm I J rf g) R = kX xs (d + 2) 163 17 [some (.ref 185), some (.int (nI (k + 1))), some (.int (nI (tE T p))), none, none, none, none] [] (kmm (ku (ku I 188 k (nI p)) 187 k (nI (srt (tK T p)))) (ku J 189 k (nJ (tV T p))) rf g) R := by
  have hn := v.n
  have hc := v.chr hp
  have en2 : ku I 188 k (nI p) 185 3 = nI T.n := by rw [ku_nea (by omega), en]
  have et2 : ∀ j, j < T.n → ku I 188 k (nI p) 186 j = nI (T.t j) := fun j hj => by rw [ku_nea (by omega), et j hj]
  rw [B163_50, kg12_5, kO_s, kw188 hk, kO_s]
  generalize ku I 188 k (nI p) = K at *
  rw [sp159 hc, kpush_s, B163_67]
  have eE : tE T p = if isL (T.t p) = true then wdE T p else if isD (T.t p) = true then dgE T p else p + 1 := if_pos hp
  have eK : tK T p = if isL (T.t p) = true then if 8 < wdE T p - p then 1 else wKd (tV T p) else if isD (T.t p) = true then if 4 < dgE T p - p then 1 else 2 else if isS (T.t p) = true then T.t p else 1 := if_pos hp
  have eV : tV T p = if isL (T.t p) = true then f37 T.t p (min (wdE T p - p) 8) else if isD (T.t p) = true then f10 T.t p (min (dgE T p - p) 4) else T.t p := rfl
  by_cases y : isL (T.t p) = true
  · rw [if_neg (by rw [y]; decide)]
    rw [if_pos y] at eE eK eV
    obtain ⟨q1, q2, q3, q4⟩ := rnE_ok (p := fun k => isL (T.t k)) (show p ≤ T.n by omega)
    have fold : rnE (fun k => isL (T.t k)) T.n p = wdE T p := rfl
    rw [fold] at q1 q2 q3 q4
    have L : kX xs (d + 2) 163 70 [some (.ref 185), some (.int (nI k)), some (.int (nI (p + 0))), none, some (.int (nI p)), some (.long (nJ (f37 T.t p (min 0 8)))), none] [] (kmm K J rf g) R = kX xs (d + 2) 163 70 [some (.ref 185), some (.int (nI k)), some (.int (nI (p + (wdE T p - p)))), none, some (.int (nI p)), some (.long (nJ (f37 T.t p (min (wdE T p - p) 8)))), none] [] (kmm K J rf g) R := by
      refine kchain (n := wdE T p - p) (fun j => kX xs (d + 2) 163 70 [some (.ref 185), some (.int (nI k)), some (.int (nI (p + j))), none, some (.int (nI p)), some (.long (nJ (f37 T.t p (min j 8)))), none] [] (kmm K J rf g) R) ?_
      intro j hj
      have hl := q3 (p + j) (by omega) (by omega)
      have hcj := v.chr (show p + j < T.n by omega)
      show kX _ _ _ _ _ _ _ _ = kX _ _ _ _ _ _ _ _
      rw [B163_70, kg12_3, kO_s, en2, if_pos (nI_lt (show p + j < T.n by omega) (by omega)), B163_78, kg12_1, kO_s, ka186 (by omega), kO_s, et2 _ (by omega), sp159 hcj, kpush_s, B163_87, if_neg (by rw [hl]; decide), B163_90, c8_8, nI_sb (by omega), show p + j - p = j by omega]
      by_cases y8 : j < 8
      · rw [if_pos (nI_lt y8 (by omega)), B163_99, kg12_1, kO_s, ka186 (by omega), kO_s, et2 _ (by omega), sp161 hcj hl, kpush_s, B163_114, nJ_37 hcj, B163_121, nI_add1, show min (j + 1) 8 = j + 1 by omega, show min j 8 = j by omega]
        rfl
      · rw [if_neg (nI_nlt (by omega) (by omega)), B163_119, B163_121, nI_add1, show min (j + 1) 8 = min j 8 by omega]
        rfl
    rw [show p + (wdE T p - p) = wdE T p by omega, ← eV] at L
    refine Eq.trans L ?_
    have out : kX xs (d + 2) 163 70 [some (.ref 185), some (.int (nI k)), some (.int (nI (wdE T p))), none, some (.int (nI p)), some (.long (nJ (tV T p))), none] [] (kmm K J rf g) R = kX xs (d + 2) 163 129 [some (.ref 185), some (.int (nI k)), some (.int (nI (wdE T p))), none, some (.int (nI p)), some (.long (nJ (tV T p))), none] [] (kmm K J rf g) R := by
      rw [B163_70, kg12_3, kO_s, en2]
      by_cases q : wdE T p < T.n
      · rw [if_pos (nI_lt q (by omega)), B163_78, kg12_1, kO_s, ka186 (by omega), kO_s, et2 _ q, sp159 (v.chr q), kpush_s, B163_87, if_pos (by rw [q4 q]; rfl)]
      · rw [if_neg (nI_nlt (by omega) (by omega))]
    rw [out, B163_129, kg12_4, kO_s, c8_8, nI_sb q1, eE]
    by_cases y8 : 8 < wdE T p - p
    · rw [if_pos (nI_lt y8 (by omega)), B163_143, B163_148, kw187 hk, kO_s, B163_265, kg12_6, kO_s, kk189 hk, kO_s, nI_add1, eK, if_pos y8]
      rfl
    · have es : srt (tK T p) = 1 := by
        rw [eK, if_neg y8]
        have h : wKd (tV T p) = 3 ∨ 128 ≤ wKd (tV T p) := wIx_2 wrd37 0
        unfold srt
        rw [if_neg (by omega), if_neg (by omega), if_neg (by omega), if_pos h]
      rw [if_neg (nI_nlt (by omega) (by omega)), B163_147, B163_148, kw187 hk, kO_s, B163_265, kg12_6, kO_s, kk189 hk, kO_s, nI_add1, es]
      rfl
  · rw [if_pos (by rw [bfalse y]; rfl)]
    rw [if_neg y] at eE eK eV
    rw [B163_152, sp160 hc, kpush_s, B163_156]
    by_cases y2 : isD (T.t p) = true
    · rw [if_neg (by rw [y2]; decide)]
      rw [if_pos y2] at eE eK eV
      obtain ⟨q1, q2, q3, q4⟩ := rnE_ok (p := fun k => isD (T.t k)) (show p ≤ T.n by omega)
      have fold : rnE (fun k => isD (T.t k)) T.n p = dgE T p := rfl
      rw [fold] at q1 q2 q3 q4
      have L : kX xs (d + 2) 163 159 [some (.ref 185), some (.int (nI k)), some (.int (nI (p + 0))), none, some (.int (nI p)), some (.long (nJ (f10 T.t p (min 0 4)))), none] [] (kmm K J rf g) R = kX xs (d + 2) 163 159 [some (.ref 185), some (.int (nI k)), some (.int (nI (p + (dgE T p - p)))), none, some (.int (nI p)), some (.long (nJ (f10 T.t p (min (dgE T p - p) 4)))), none] [] (kmm K J rf g) R := by
        refine kchain (n := dgE T p - p) (fun j => kX xs (d + 2) 163 159 [some (.ref 185), some (.int (nI k)), some (.int (nI (p + j))), none, some (.int (nI p)), some (.long (nJ (f10 T.t p (min j 4)))), none] [] (kmm K J rf g) R) ?_
        intro j hj
        have hl := q3 (p + j) (by omega) (by omega)
        have hcj := v.chr (show p + j < T.n by omega)
        show kX _ _ _ _ _ _ _ _ = kX _ _ _ _ _ _ _ _
        rw [B163_159, kg12_3, kO_s, en2, if_pos (nI_lt (show p + j < T.n by omega) (by omega)), B163_167, kg12_1, kO_s, ka186 (by omega), kO_s, et2 _ (by omega), sp160 hcj, kpush_s, B163_176, if_neg (by rw [hl]; decide), B163_179, nI_sb (by omega), show p + j - p = j by omega, show (4 : Int32) = nI 4 from rfl]
        by_cases y8 : j < 4
        · rw [if_pos (nI_lt y8 (by omega)), B163_187, kg12_1, kO_s, ka186 (by omega), kO_s, et2 _ (by omega), nJ_10 hcj (isD_iff.mp hl).1, B163_210, nI_add1, show min (j + 1) 4 = j + 1 by omega, show min j 4 = j by omega]
          rfl
        · rw [if_neg (nI_nlt (by omega) (by omega)), B163_208, B163_210, nI_add1, show min (j + 1) 4 = min j 4 by omega]
          rfl
      rw [show p + (dgE T p - p) = dgE T p by omega, ← eV] at L
      refine Eq.trans L ?_
      have out : kX xs (d + 2) 163 159 [some (.ref 185), some (.int (nI k)), some (.int (nI (dgE T p))), none, some (.int (nI p)), some (.long (nJ (tV T p))), none] [] (kmm K J rf g) R = kX xs (d + 2) 163 218 [some (.ref 185), some (.int (nI k)), some (.int (nI (dgE T p))), none, some (.int (nI p)), some (.long (nJ (tV T p))), none] [] (kmm K J rf g) R := by
        rw [B163_159, kg12_3, kO_s, en2]
        by_cases q : dgE T p < T.n
        · rw [if_pos (nI_lt q (by omega)), B163_167, kg12_1, kO_s, ka186 (by omega), kO_s, et2 _ q, sp160 (v.chr q), kpush_s, B163_176, if_pos (by rw [q4 q]; rfl)]
        · rw [if_neg (nI_nlt (by omega) (by omega))]
      rw [out, B163_218, kg12_4, kO_s, nI_sb q1, eE]
      by_cases y4 : 4 < dgE T p - p
      · rw [if_pos (show (4 : Int32) < nI (dgE T p - p) from nI_lt (a := 4) y4 (by omega)), B163_231, B163_236, kw187 hk, kO_s, B163_265, kg12_6, kO_s, kk189 hk, kO_s, nI_add1, eK, if_pos y4]
        rfl
      · rw [if_neg (show ¬ (4 : Int32) < nI (dgE T p - p) from nI_nlt (a := 4) (by omega) (by omega)), B163_235, B163_236, kw187 hk, kO_s, B163_265, kg12_6, kO_s, kk189 hk, kO_s, nI_add1, eK, if_neg y4]
        rfl
    · rw [if_pos (by rw [bfalse y2]; rfl)]
      rw [if_neg y2] at eE eK eV
      rw [B163_240, kg12_4, kO_s, sp162 hc, kpush_s, B163_253, eE, eV, nJ_c hc]
      by_cases y3 : isS (T.t p) = true
      · have es : srt (tK T p) = 3 := by
          rw [eK, if_pos y3]
          have key : ∀ c, c ∈ sgn8 → srt c = 3 := by decide
          exact key _ (List.contains_iff_mem.mp y3)
        rw [if_neg (by rw [y3]; decide), B163_256, B163_261, kw187 hk, kO_s, nI_add1, B163_265, kg12_6, kO_s, kk189 hk, kO_s, nI_add1, es]
        rfl
      · rw [if_pos (by rw [bfalse y3]; rfl), B163_260, B163_261, kw187 hk, kO_s, nI_add1, B163_265, kg12_6, kO_s, kk189 hk, kO_s, nI_add1, eK, if_neg y3]
        rfl
end CU
