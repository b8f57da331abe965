/-! the model cuts the whole tape -/
def srt (K : Nat) : Nat := if K = 0 then 0 else if K = 1 then 4 else if K = 2 then 2 else if K = 3 ∨ 128 ≤ K then 1 else 3
def eT (T : aTp) : Nat → Nat
  | 0 => 0
  | k + 1 => tE T (pT T k)
theorem pT_e (T : aTp) (k : Nat) : pT T k = skp T (eT T k) := by cases k <;> rfl
/-- how many tokens there are -/
def nT (T : aTp) : Nat := rnE (fun k => decide (pT T k < T.n)) T.n 0
theorem pT_ge {T : aTp} : ∀ k, k ≤ pT T k ∨ pT T k = T.n := by
  intro k
  induction k with
  | zero => exact Or.inl (Nat.zero_le _)
  | succ k ih =>
    have h1 := pT_le (T := T) k
    have h2 := tE_le h1
    have h3 := skp_le h2.2.1
    have e : pT T (k + 1) = skp T (tE T (pT T k)) := rfl
    by_cases q : pT T k < T.n
    · have := h2.2.2 q
      omega
    · omega
theorem nT_ok (T : aTp) : nT T ≤ T.n ∧ (∀ k, k < nT T → pT T k < T.n) ∧ pT T (nT T) = T.n := by
  obtain ⟨a1, a2, a3, a4⟩ := rnE_ok (p := fun k => decide (pT T k < T.n)) (Nat.zero_le T.n)
  have fold : rnE (fun k => decide (pT T k < T.n)) T.n 0 = nT T := rfl
  rw [fold] at a1 a2 a3 a4
  refine ⟨a2, fun k hk => of_decide_eq_true (a3 k (by omega) hk), ?_⟩
  have h1 := pT_le (T := T) (nT T)
  by_cases q : nT T < T.n
  · have := of_decide_eq_false (a4 q); omega
  · have := pT_ge (T := T) (nT T); omega
abbrev mTk (I : Nat → Nat → Int32) (J : Nat → Nat → Int64) (T : aTp) : Prop := (∀ k, k ≤ nT T → I 187 k = nI (srt (tK T (pT T k)))) ∧ (∀ k, k ≤ nT T → I 188 k = nI (pT T k)) ∧ (∀ k, k < nT T → J 189 k = nJ (tV T (pT T k)))
theorem mTk.s {I : Nat → Nat → Int32} {J : Nat → Nat → Int64} {T : aTp} (h : mTk I J T) : ∀ k, k ≤ nT T → I 187 k = nI (srt (tK T (pT T k))) := h.1
theorem mTk.p {I : Nat → Nat → Int32} {J : Nat → Nat → Int64} {T : aTp} (h : mTk I J T) : ∀ k, k ≤ nT T → I 188 k = nI (pT T k) := h.2.1
theorem mTk.v {I : Nat → Nat → Int32} {J : Nat → Nat → Int64} {T : aTp} (h : mTk I J T) : ∀ k, k < nT T → J 189 k = nJ (tV T (pT T k)) := h.2.2
theorem nJ_add (a b : Nat) : nJ a + nJ b = nJ (a + b) := (Int64.ofNat_add a b).symm
theorem nJ_mul (a b : Nat) : nJ a * nJ b = nJ (a * b) := (Int64.ofNat_mul a b).symm
theorem nJ_sb {a b : Nat} (h : b ≤ a) : nJ a - nJ b = nJ (a - b) := by
  have e : nJ a = nJ (a - b) + nJ b := by rw [nJ_add, Nat.sub_add_cancel h]
  rw [e, Int64.sub_eq_add_neg, Int64.add_assoc, Int64.add_right_neg, Int64.add_zero]
theorem nJ_c {c : Nat} (h : c < 127) : (nI c).toInt64 = nJ c := by
  have key : ∀ c : Fin 127, (nI c.val).toInt64 = nJ c.val := by decide +kernel
  exact key ⟨c, h⟩
theorem nJ_37 {a c : Nat} (h : c < 127) : 37 * nJ a + (nI (c - 96)).toInt64 = nJ (a * 37 + (c - 96)) := by
  rw [nJ_c (by omega), show (37 : Int64) = nJ 37 from rfl, nJ_mul, nJ_add, Nat.mul_comm]
theorem nJ_10 {a c : Nat} (h : c < 127) (h2 : 48 ≤ c) : 10 * nJ a + (nI c).toInt64 - 48 = nJ (a * 10 + (c - 48)) := by
  rw [nJ_c h, show (10 : Int64) = nJ 10 from rfl, nJ_mul, nJ_add, show (48 : Int64) = nJ 48 from rfl, nJ_sb (by omega), show 10 * a + c - 48 = a * 10 + (c - 48) by omega]
section CU
variable {xs : List Int32} {d : Nat} {I I' I2 : Nat → Nat → Int32} {J J' : Nat → Nat → Int64} {rf : Nat → Nat} {g : Nat} {R : Option Value → KW → Prop} {w : KW} {T : aTp} {p i k : Nat}
theorem cut1 (en : I 185 3 = nI T.n) (et : ∀ k, k < T.n → I 186 k = nI (T.t k)) (v : vTp T) (hk : k < 1002) (hp : p < T.n) : kX xs (d + 2) 163 50 [some (.ref 185), some (.int (nI k)), some (.int (nI p)), some (.int (nI (T.t p))), none, none, none] [] (kmm I J rf g) R = kX xs (d + 2) 163 17 [some (.ref 185), some (.int (nI (k + 1))), some (.int (nI (tE T p))), none, none, none, none] [] (kmm (ku (ku I 188 k (nI p)) 187 k (nI (srt (tK T p)))) (ku J 189 k (nJ (tV T p))) rf g) R := by
  have hn := v.n
  have hc := v.chr hp
  have en2 : ku I 188 k (nI p) 185 3 = nI T.n := by rw [ku_nea (by omega), en]
  have et2 : ∀ j, j < T.n → ku I 188 k (nI p) 186 j = nI (T.t j) := fun j hj => by rw [ku_nea (by omega), et j hj]
  rw [B163_50, kg12_5, kO_s, kw188 hk, kO_s]
  generalize ku I 188 k (nI p) = K at *
  rw [sp159 hc, kpush_s, B163_67]
  have eE : tE T p = if isL (T.t p) = true then wdE T p else if isD (T.t p) = true then dgE T p else p + 1 := if_pos hp
  have eK : tK T p = if isL (T.t p) = true then if 8 < wdE T p - p then 1 else wKd (tV T p) else if isD (T.t p) = true then if 4 < dgE T p - p then 1 else 2 else if isS (T.t p) = true then T.t p else 1 := if_pos hp
  have eV : tV T p = if isL (T.t p) = true then f37 T.t p (min (wdE T p - p) 8) else if isD (T.t p) = true then f10 T.t p (min (dgE T p - p) 4) else T.t p := rfl
  by_cases y : isL (T.t p) = true
  · rw [if_neg (by rw [y]; decide)]
    rw [if_pos y] at eE eK eV
    obtain ⟨q1, q2, q3, q4⟩ := rnE_ok (p := fun k => isL (T.t k)) (show p ≤ T.n by omega)
    have fold : rnE (fun k => isL (T.t k)) T.n p = wdE T p := rfl
    rw [fold] at q1 q2 q3 q4
    have L : kX xs (d + 2) 163 70 [some (.ref 185), some (.int (nI k)), some (.int (nI (p + 0))), none, some (.int (nI p)), some (.long (nJ (f37 T.t p (min 0 8)))), none] [] (kmm K J rf g) R = kX xs (d + 2) 163 70 [some (.ref 185), some (.int (nI k)), some (.int (nI (p + (wdE T p - p)))), none, some (.int (nI p)), some (.long (nJ (f37 T.t p (min (wdE T p - p) 8)))), none] [] (kmm K J rf g) R := by
      refine kchain (n := wdE T p - p) (fun j => kX xs (d + 2) 163 70 [some (.ref 185), some (.int (nI k)), some (.int (nI (p + j))), none, some (.int (nI p)), some (.long (nJ (f37 T.t p (min j 8)))), none] [] (kmm K J rf g) R) ?_
      intro j hj
      have hl := q3 (p + j) (by omega) (by omega)
      have hcj := v.chr (show p + j < T.n by omega)
      show kX _ _ _ _ _ _ _ _ = kX _ _ _ _ _ _ _ _
      rw [B163_70, kg12_3, kO_s, en2, if_pos (nI_lt (show p + j < T.n by omega) (by omega)), B163_78, kg12_1, kO_s, ka186 (by omega), kO_s, et2 _ (by omega), sp159 hcj, kpush_s, B163_87, if_neg (by rw [hl]; decide), B163_90, c8_8, nI_sb (by omega), show p + j - p = j by omega]
      by_cases y8 : j < 8
      · rw [if_pos (nI_lt y8 (by omega)), B163_99, kg12_1, kO_s, ka186 (by omega), kO_s, et2 _ (by omega), sp161 hcj hl, kpush_s, B163_114, nJ_37 hcj, B163_121, nI_add1, show min (j + 1) 8 = j + 1 by omega, show min j 8 = j by omega]
        rfl
      · rw [if_neg (nI_nlt (by omega) (by omega)), B163_119, B163_121, nI_add1, show min (j + 1) 8 = min j 8 by omega]
        rfl
    rw [show p + (wdE T p - p) = wdE T p by omega, ← eV] at L
    refine Eq.trans L ?_
    have out : kX xs (d + 2) 163 70 [some (.ref 185), some (.int (nI k)), some (.int (nI (wdE T p))), none, some (.int (nI p)), some (.long (nJ (tV T p))), none] [] (kmm K J rf g) R = kX xs (d + 2) 163 129 [some (.ref 185), some (.int (nI k)), some (.int (nI (wdE T p))), none, some (.int (nI p)), some (.long (nJ (tV T p))), none] [] (kmm K J rf g) R := by
      rw [B163_70, kg12_3, kO_s, en2]
      by_cases q : wdE T p < T.n
      · rw [if_pos (nI_lt q (by omega)), B163_78, kg12_1, kO_s, ka186 (by omega), kO_s, et2 _ q, sp159 (v.chr q), kpush_s, B163_87, if_pos (by rw [q4 q]; rfl)]
      · rw [if_neg (nI_nlt (by omega) (by omega))]
    rw [out, B163_129, kg12_4, kO_s, c8_8, nI_sb q1, eE]
    by_cases y8 : 8 < wdE T p - p
    · rw [if_pos (nI_lt y8 (by omega)), B163_143, B163_148, kw187 hk, kO_s, B163_265, kg12_6, kO_s, kk189 hk, kO_s, nI_add1, eK, if_pos y8]
      rfl
    · have es : srt (tK T p) = 1 := by
        rw [eK, if_neg y8]
        have h : wKd (tV T p) = 3 ∨ 128 ≤ wKd (tV T p) := wIx_2 wrd37 0
        unfold srt
        rw [if_neg (by omega), if_neg (by omega), if_neg (by omega), if_pos h]
      rw [if_neg (nI_nlt (by omega) (by omega)), B163_147, B163_148, kw187 hk, kO_s, B163_265, kg12_6, kO_s, kk189 hk, kO_s, nI_add1, es]
      rfl
  · rw [if_pos (by rw [bfalse y]; rfl)]
    rw [if_neg y] at eE eK eV
    rw [B163_152, sp160 hc, kpush_s, B163_156]
    by_cases y2 : isD (T.t p) = true
    · rw [if_neg (by rw [y2]; decide)]
      rw [if_pos y2] at eE eK eV
      obtain ⟨q1, q2, q3, q4⟩ := rnE_ok (p := fun k => isD (T.t k)) (show p ≤ T.n by omega)
      have fold : rnE (fun k => isD (T.t k)) T.n p = dgE T p := rfl
      rw [fold] at q1 q2 q3 q4
      have L : kX xs (d + 2) 163 159 [some (.ref 185), some (.int (nI k)), some (.int (nI (p + 0))), none, some (.int (nI p)), some (.long (nJ (f10 T.t p (min 0 4)))), none] [] (kmm K J rf g) R = kX xs (d + 2) 163 159 [some (.ref 185), some (.int (nI k)), some (.int (nI (p + (dgE T p - p)))), none, some (.int (nI p)), some (.long (nJ (f10 T.t p (min (dgE T p - p) 4)))), none] [] (kmm K J rf g) R := by
        refine kchain (n := dgE T p - p) (fun j => kX xs (d + 2) 163 159 [some (.ref 185), some (.int (nI k)), some (.int (nI (p + j))), none, some (.int (nI p)), some (.long (nJ (f10 T.t p (min j 4)))), none] [] (kmm K J rf g) R) ?_
        intro j hj
        have hl := q3 (p + j) (by omega) (by omega)
        have hcj := v.chr (show p + j < T.n by omega)
        show kX _ _ _ _ _ _ _ _ = kX _ _ _ _ _ _ _ _
        rw [B163_159, kg12_3, kO_s, en2, if_pos (nI_lt (show p + j < T.n by omega) (by omega)), B163_167, kg12_1, kO_s, ka186 (by omega), kO_s, et2 _ (by omega), sp160 hcj, kpush_s, B163_176, if_neg (by rw [hl]; decide), B163_179, nI_sb (by omega), show p + j - p = j by omega, show (4 : Int32) = nI 4 from rfl]
        by_cases y8 : j < 4
        · rw [if_pos (nI_lt y8 (by omega)), B163_187, kg12_1, kO_s, ka186 (by omega), kO_s, et2 _ (by omega), nJ_10 hcj (isD_iff.mp hl).1, B163_210, nI_add1, show min (j + 1) 4 = j + 1 by omega, show min j 4 = j by omega]
          rfl
        · rw [if_neg (nI_nlt (by omega) (by omega)), B163_208, B163_210, nI_add1, show min (j + 1) 4 = min j 4 by omega]
          rfl
      rw [show p + (dgE T p - p) = dgE T p by omega, ← eV] at L
      refine Eq.trans L ?_
      have out : kX xs (d + 2) 163 159 [some (.ref 185), some (.int (nI k)), some (.int (nI (dgE T p))), none, some (.int (nI p)), some (.long (nJ (tV T p))), none] [] (kmm K J rf g) R = kX xs (d + 2) 163 218 [some (.ref 185), some (.int (nI k)), some (.int (nI (dgE T p))), none, some (.int (nI p)), some (.long (nJ (tV T p))), none] [] (kmm K J rf g) R := by
        rw [B163_159, kg12_3, kO_s, en2]
        by_cases q : dgE T p < T.n
        · rw [if_pos (nI_lt q (by omega)), B163_167, kg12_1, kO_s, ka186 (by omega), kO_s, et2 _ q, sp160 (v.chr q), kpush_s, B163_176, if_pos (by rw [q4 q]; rfl)]
        · rw [if_neg (nI_nlt (by omega) (by omega))]
      rw [out, B163_218, kg12_4, kO_s, nI_sb q1, eE]
      by_cases y4 : 4 < dgE T p - p
      · rw [if_pos (show (4 : Int32) < nI (dgE T p - p) from nI_lt (a := 4) y4 (by omega)), B163_231, B163_236, kw187 hk, kO_s, B163_265, kg12_6, kO_s, kk189 hk, kO_s, nI_add1, eK, if_pos y4]
        rfl
      · rw [if_neg (show ¬ (4 : Int32) < nI (dgE T p - p) from nI_nlt (a := 4) (by omega) (by omega)), B163_235, B163_236, kw187 hk, kO_s, B163_265, kg12_6, kO_s, kk189 hk, kO_s, nI_add1, eK, if_neg y4]
        rfl
    · rw [if_pos (by rw [bfalse y2]; rfl)]
      rw [if_neg y2] at eE eK eV
      rw [B163_240, kg12_4, kO_s, sp162 hc, kpush_s, B163_253, eE, eV, nJ_c hc]
      by_cases y3 : isS (T.t p) = true
      · have es : srt (tK T p) = 3 := by
          rw [eK, if_pos y3]
          have key : ∀ c, c ∈ sgn8 → srt c = 3 := by decide
          exact key _ (List.contains_iff_mem.mp y3)
        rw [if_neg (by rw [y3]; decide), B163_256, B163_261, kw187 hk, kO_s, nI_add1, B163_265, kg12_6, kO_s, kk189 hk, kO_s, nI_add1, es]
        rfl
      · rw [if_pos (by rw [bfalse y3]; rfl), B163_260, B163_261, kw187 hk, kO_s, nI_add1, B163_265, kg12_6, kO_s, kk189 hk, kO_s, nI_add1, eK, if_neg y3]
        rfl
end CU
section CV
variable {xs : List Int32} {d : Nat} {I I' I2 : Nat → Nat → Int32} {J J' : Nat → Nat → Int64} {rf : Nat → Nat} {g : Nat} {R : Option Value → KW → Prop} {w : KW} {T : aTp} {p i k : Nat}
theorem cutS (en : I 185 3 = nI T.n) (et : ∀ k, k < T.n → I 186 k = nI (T.t k)) (v : vTp T) (hi : i ≤ T.n) : kX xs d 163 17 [some (.ref 185), some (.int (nI k)), some (.int (nI i)), none, none, none, none] [] (kmm I J rf g) R = if skp T i < T.n then kX xs d 163 50 [some (.ref 185), some (.int (nI k)), some (.int (nI (skp T i))), some (.int (nI (T.t (skp T i)))), none, none, none] [] (kmm I J rf g) R else kX xs d 163 279 [some (.ref 185), some (.int (nI k)), none, none, none, none, none] [] (kmm I J rf g) R := by
  have hn := v.n
  obtain ⟨q1, q2, q3, q4⟩ := rnE_ok (p := fun k => isB (T.t k)) hi
  have fold : rnE (fun k => isB (T.t k)) T.n i = skp T i := rfl
  rw [fold] at q1 q2 q3 q4
  have one : ∀ j, j < T.n → kX xs d 163 25 [some (.ref 185), some (.int (nI k)), some (.int (nI j)), none, none, none, none] [] (kmm I J rf g) R = if isB (T.t j) = true then kX xs d 163 44 [some (.ref 185), some (.int (nI k)), some (.int (nI j)), none, none, none, none] [] (kmm I J rf g) R else kX xs d 163 50 [some (.ref 185), some (.int (nI k)), some (.int (nI j)), some (.int (nI (T.t j))), none, none, none] [] (kmm I J rf g) R := by
    intro j hj
    have hc := v.chr hj
    rw [B163_25, kg12_1, kO_s, ka186 (by omega), kO_s, et j hj, c8_10]
    by_cases z : T.t j = 10
    · rw [if_pos (congrArg nI z), if_pos (isB_iff.mpr (Or.inl z))]
    · rw [if_neg (fun e => z (by rw [nI_inj (by omega) (by omega)] at e; exact e)), B163_38, c8_32]
      by_cases z2 : T.t j = 32
      · rw [if_pos (congrArg nI z2), if_pos (isB_iff.mpr (Or.inr z2))]
      · rw [if_neg (fun e => z2 (by rw [nI_inj (by omega) (by omega)] at e; exact e)), if_neg (fun e => (isB_iff.mp e).elim z z2)]
  have L1 : kX xs d 163 17 [some (.ref 185), some (.int (nI k)), some (.int (nI (i + 0))), none, none, none, none] [] (kmm I J rf g) R = kX xs d 163 17 [some (.ref 185), some (.int (nI k)), some (.int (nI (i + (skp T i - i)))), none, none, none, none] [] (kmm I J rf g) R := by
    refine kchain (n := skp T i - i) (fun j => kX xs d 163 17 [some (.ref 185), some (.int (nI k)), some (.int (nI (i + j))), none, none, none, none] [] (kmm I J rf g) R) ?_
    intro j hj
    show kX _ _ _ _ _ _ _ _ = kX _ _ _ _ _ _ _ _
    rw [B163_17, kg12_3, kO_s, en, if_pos (nI_lt (show i + j < T.n by omega) (by omega)), one _ (by omega), if_pos (q3 (i + j) (by omega) (by omega)), B163_44, nI_add1]
    rfl
  rw [show i + (skp T i - i) = skp T i by omega] at L1
  refine Eq.trans L1 ?_
  rw [B163_17, kg12_3, kO_s, en]
  by_cases z : skp T i < T.n
  · have z4 : ¬ isB (T.t (skp T i)) = true := fun e => by have := q4 z; rw [this] at e; exact absurd e (by decide)
    rw [if_pos (nI_lt z (by omega)), one _ z, if_neg z4, if_pos z]
  · rw [if_neg (nI_nlt (by omega) (by omega)), if_neg z]
theorem eT_le (T : aTp) (k : Nat) : eT T k ≤ T.n := by
  cases k with
  | zero => exact Nat.zero_le _
  | succ k => exact (tE_le (pT_le k)).2.1
/-- cutAll -/
theorem sp163 (h : mTp I T) (v : vTp T) : ∃ I' J', mTk I' J' T ∧ I' 185 2 = nI 0 ∧ I' 185 3 = nI T.n ∧ I' 185 7 = nI 0 ∧ I' 185 8 = nI 0 ∧ (∀ x k, ¬ (x = 185 ∧ (k = 2 ∨ k = 3 ∨ k = 7 ∨ k = 8)) → x ≠ 187 → x ≠ 188 → I' x k = I x k) ∧ (∀ x k, x ≠ 189 → J' x k = J x k) ∧ ∀ d R, kX xs (d + 2) 163 0 [some (.ref 185), none, none, none, none, none, none] [] (kmm I J rf g) R = R none (kmm I' J' rf g) := by
  have hn := v.n
  obtain ⟨n1, n2, n3⟩ := nT_ok T
  have L : ∃ s : (Nat → Nat → Int32) × (Nat → Nat → Int64), (((∀ k, k < nT T → s.1 187 k = nI (srt (tK T (pT T k))) ∧ s.1 188 k = nI (pT T k) ∧ s.2 189 k = nJ (tV T (pT T k))) ∧ (∀ x k, x ≠ 187 → x ≠ 188 → s.1 x k = ku (ku I 185 3 (nI T.n)) 185 2 0 x k) ∧ ∀ x k, x ≠ 189 → s.2 x k = J x k)) ∧ (fun (d : Nat) (R : Option Value → KW → Prop) => kX xs (d + 2) 163 17 [some (.ref 185), some (.int (nI 0)), some (.int (nI (eT T 0))), none, none, none, none] [] (kmm (ku (ku I 185 3 (nI T.n)) 185 2 0) J rf g) R) = (fun d R => kX xs (d + 2) 163 17 [some (.ref 185), some (.int (nI (nT T))), some (.int (nI (eT T (nT T)))), none, none, none, none] [] (kmm s.1 s.2 rf g) R) := by
    refine kloop (n := nT T) (s0 := ((ku (ku I 185 3 (nI T.n)) 185 2 0), J)) (fun i s => (∀ k, k < i → s.1 187 k = nI (srt (tK T (pT T k))) ∧ s.1 188 k = nI (pT T k) ∧ s.2 189 k = nJ (tV T (pT T k))) ∧ (∀ x k, x ≠ 187 → x ≠ 188 → s.1 x k = ku (ku I 185 3 (nI T.n)) 185 2 0 x k) ∧ ∀ x k, x ≠ 189 → s.2 x k = J x k) (fun i s => fun (d : Nat) (R : Option Value → KW → Prop) => kX xs (d + 2) 163 17 [some (.ref 185), some (.int (nI i)), some (.int (nI (eT T i))), none, none, none, none] [] (kmm s.1 s.2 rf g) R) ⟨fun k hk => by omega, fun _ _ _ _ => rfl, fun _ _ _ => rfl⟩ ?_
    intro i s hi ⟨g1, g2, g3⟩
    obtain ⟨I2, J2⟩ := s
    dsimp only at g1 g2 g3
    have en : I2 185 3 = nI T.n := by rw [g2 _ _ (by omega) (by omega), ku_nek (by omega), ku_same]
    have et : ∀ k, k < T.n → I2 186 k = nI (T.t k) := fun k hk => by rw [g2 _ _ (by omega) (by omega), ku_nea (by omega), ku_nea (by omega), h.t k hk]
    have hp := n2 i hi
    refine ⟨(ku (ku I2 188 i (nI (pT T i))) 187 i (nI (srt (tK T (pT T i)))), ku J2 189 i (nJ (tV T (pT T i)))), ⟨fun k hk => ?_, fun x k h1 h2 => ?_, fun x k h1 => ?_⟩, ?_⟩
    · dsimp only
      by_cases e : k = i
      · rw [e]
        exact ⟨ku_same _ _ _ _, by rw [ku_nea (by omega), ku_same], ku_same _ _ _ _⟩
      · obtain ⟨a1, a2, a3⟩ := g1 k (by omega)
        exact ⟨by rw [ku_nek e, ku_nea (by omega)]; exact a1, by rw [ku_nea (by omega), ku_nek e]; exact a2, by rw [ku_nek e]; exact a3⟩
    · dsimp only
      rw [ku_nea h1, ku_nea h2]; exact g2 x k h1 h2
    · dsimp only
      rw [ku_nea h1]; exact g3 x k h1
    · funext d R
      show kX _ _ _ _ _ _ (kmm I2 J2 rf g) _ = _
      rw [cutS en et v (eT_le T i), ← pT_e, if_pos hp, cut1 en et v (by omega) hp]
      rfl
  obtain ⟨⟨I2, J2⟩, ⟨g1, g2, g3⟩, e2⟩ := L
  dsimp only at g1 g2 g3
  have en : I2 185 3 = nI T.n := by rw [g2 _ _ (by omega) (by omega), ku_nek (by omega), ku_same]
  have et : ∀ k, k < T.n → I2 186 k = nI (T.t k) := fun k hk => by rw [g2 _ _ (by omega) (by omega), ku_nea (by omega), ku_nea (by omega), h.t k hk]
  have et0 : tK T (pT T (nT T)) = 0 := if_neg (by omega)
  refine ⟨ku (ku (ku (ku I2 187 (nT T) 0) 188 (nT T) (nI T.n)) 185 7 0) 185 8 0, J2, ⟨fun k hk => ?_, fun k hk => ?_, fun k hk => (g1 k hk).2.2⟩, ?_, ?_, ?_, ?_, fun x k h1 h2 h3 => ?_, fun x k hx => g3 x k hx, fun d R => ?_⟩
  · rw [ku_nea (by omega), ku_nea (by omega), ku_nea (by omega)]
    by_cases e : k = nT T
    · rw [e, ku_same, et0]; rfl
    · rw [ku_nek e]; exact (g1 k (by omega)).1
  · rw [ku_nea (by omega), ku_nea (by omega)]
    by_cases e : k = nT T
    · rw [e, ku_same, n3]
    · rw [ku_nek e, ku_nea (by omega)]; exact (g1 k (by omega)).2.1
  · rw [ku_nek (by omega), ku_nek (by omega), ku_nea (by omega), ku_nea (by omega), g2 _ _ (by omega) (by omega), ku_same]; rfl
  · rw [ku_nek (by omega), ku_nek (by omega), ku_nea (by omega), ku_nea (by omega), en]
  · rw [ku_nek (by omega), ku_same]; rfl
  · rw [ku_same]; rfl
  · rw [ku_ne (by omega), ku_ne (by omega), ku_nea h3, ku_nea h2, g2 x k h2 h3, ku_ne (by omega), ku_ne (by omega)]
  · have e2' := congrFun (congrFun e2 d) R
    rw [B163_0, kg12_2, kO_s, h.n, kp12_3, kO_s, kp12_2, kO_s]
    refine Eq.trans e2' ?_
    show kX _ _ _ _ _ _ (kmm I2 J2 rf g) _ = _
    rw [cutS en et v (eT_le T _), ← pT_e, if_neg (by omega), B163_279, kg12_4, kO_s, kw187 (by omega), kO_s, kg12_5, kO_s, kg12_3, kO_s, ku_nea (show (185 : Nat) ≠ 187 by omega), en, kw188 (by omega), kO_s, kp12_7, kO_s, kp12_8, kO_s]
end CV
