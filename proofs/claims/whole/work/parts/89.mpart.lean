/-! the model reads a part, and the law -/
theorem nJ_32 (v : Nat) : (nJ v).toInt32 = nI v := by
  refine Int32.toBitVec_inj.mp ?_
  show (BitVec.ofNat 64 v).signExtend 32 = BitVec.ofNat 32 v
  refine BitVec.eq_of_getLsbD_eq (fun i hi => ?_)
  rw [BitVec.getLsbD_signExtend, if_pos (show i < 64 by omega), BitVec.getLsbD_ofNat, BitVec.getLsbD_ofNat, decide_eq_true hi, decide_eq_true (show i < 64 by omega), Bool.true_and]
theorem srt_2 {K : Nat} : (srt K = 2) = (K = 2) := by
  refine propext ⟨fun h => ?_, fun h => by rw [h]; rfl⟩
  refine Classical.byContradiction (fun q => ?_)
  unfold srt at h
  by_cases h0 : K = 0
  · rw [if_pos h0] at h; omega
  · rw [if_neg h0] at h
    by_cases h1 : K = 1
    · rw [if_pos h1] at h; omega
    · rw [if_neg h1, if_neg q] at h
      by_cases h3 : K = 3 ∨ 128 ≤ K
      · rw [if_pos h3] at h; omega
      · rw [if_neg h3] at h; omega
section MP
variable {xs : List Int32} {d : Nat} {I I' I2 : Nat → Nat → Int32} {J : Nat → Nat → Int64} {rf : Nat → Nat} {g : Nat} {R : Option Value → KW → Prop} {w : KW} {T : aTp} {s : aPS}
theorem aWh_f (hF : s.F = 0) (q : okF (kdO T s)) : aWh T s 18 4 = nI (kdO T s - 146) := by
  unfold aWh okF at *
  rw [if_pos ⟨hF, by omega, by omega⟩, show kdO T s - 128 - 18 = kdO T s - 146 by omega]
theorem aWh_n (q : ¬ okF (kdO T s)) : aWh T s 18 4 = -1 := by
  unfold aWh okF at *
  rw [if_neg (fun y => q ⟨by omega, by omega⟩)]
theorem qEnt (v : vTp T) {dp : Int32} (h : mPS I J T s) (hk : s.k ≤ nT T) (hF : s.F = 0) : kX xs (d + 2) 192 0 [some (.ref 185), some (.int dp), none, none] [] (kmm I J rf g) R = if okP (kdO T s) then kX xs (d + 2) 192 69 [some (.ref 185), some (.int dp), some (.int (nI (bN (decide (kdO T s = 2))))), some (.int (aWh T s 18 4))] [] (kmm I J rf g) R else kX xs (d + 2) 192 61 [some (.ref 185), some (.int dp), some (.int (nI (bN (decide (kdO T s = 2))))), some (.int (aWh T s 18 4))] [] (kmm I J rf g) R := by
  have hn := (nT_ok T).1
  have hn2 := v.n
  have ek := h.k
  have e2 : (nI (srt (tK T (pT T s.k))) = 2) = (kdO T s = 2) := by
    rw [show (2 : Int32) = nI 2 from rfl, srt_eq (by omega), srt_2]; rfl
  have nm : kX xs (d + 2) 192 0 [some (.ref 185), some (.int dp), none, none] [] (kmm I J rf g) R = kX xs (d + 2) 192 26 [some (.ref 185), some (.int dp), none, none] [.int (nI (bN (decide (kdO T s = 2))))] (kmm I J rf g) R := by
    rw [B192_0, kg12_8, kO_s, if_neg (fun z => ((mFp h).mp z) hF), B192_8, kg12_4, kO_s, kg12_7, kO_s, ek, ka187 (by omega), kO_s, h.tk.s _ hk]
    by_cases q : kdO T s = 2
    · rw [if_pos (e2.mpr q), B192_21, decide_eq_true q]; rfl
    · rw [if_neg (fun z => q (e2.mp z)), B192_25, decide_eq_false q]; rfl
  have wh : ∀ d R, kX xs (d + 1) 175 0 [some (.ref 185), some (.int (nI 18)), some (.int 4), none, none] [] (kmm I J rf g) R = R (some (.int (aWh T s 18 4))) (kmm I J rf g) := fun d R => sp175 (fr := 18) (mn := 4) v (by omega) h hk
  rw [nm, B192_26, krecv_m ks185, kcond_t, c8_18, wh, kpush_s, B192_34]
  by_cases q1 : okF (kdO T s)
  · have e := aWh_f hF q1
    have hl := kd_lt v s
    rw [if_pos (show okP (kdO T s) from Or.inr (Or.inl q1)), e, if_neg (nI_nn (by omega))]
  · rw [aWh_n q1, if_pos (by decide), B192_39]
    by_cases q2 : kdO T s = 2
    · rw [if_neg (by rw [decide_eq_true q2]; decide), if_pos (show okP (kdO T s) from Or.inl q2)]
    · rw [if_pos (by rw [decide_eq_false q2]; rfl), B192_43, krecv_m ks185, kcond_t, c8_40, sp165 v mem40 h hk, kpush_s, B192_49]
      by_cases q3 : kdO T s = 40
      · rw [if_neg (by rw [decide_eq_true ⟨hF, q3⟩]; decide), if_pos (show okP (kdO T s) from Or.inr (Or.inr (Or.inr q3)))]
      · rw [if_pos (by rw [decide_eq_false (fun y => q3 y.2)]; rfl), B192_52, krecv_m ks185, kcond_t, c8_15, sp166 v (by omega) h hk, kpush_s, B192_58]
        by_cases q4 : kdO T s = 143
        · rw [if_neg (by rw [decide_eq_true ⟨hF, q4⟩]; decide), if_pos (show okP (kdO T s) from Or.inr (Or.inr (Or.inl q4)))]
        · rw [if_pos (by rw [decide_eq_false (fun y => q4 y.2)]; rfl), if_neg (show ¬ okP (kdO T s) from fun z => by unfold okP at z; omega)]
theorem m_192 (v : vTp T) : ∀ f dp, dp + f = 5 → mOne xs J T rf g 192 [some (.ref 185), some (.int (nI dp)), none, none] (5 * f + 2) (par T f) := by
  have hn := (nT_ok T).1
  have hn2 := v.n
  have bad : ∀ (I : Nat → Nat → Int32) (s : aPS) (dp : Nat), mPS I J T s → s.k ≤ nT T → s.F = 0 → ¬ okP (kdO T s) → ∃ I', mPS I' J T (wrg T 1 s) ∧ mFr I I' ∧ ∀ d R, kX xs (d + 2) 192 0 [some (.ref 185), some (.int (nI dp)), none, none] [] (kmm I J rf g) R = R none (kmm I' J rf g) := by
    intro I s dp hs h1 hF q
    obtain ⟨I1, a1, a2, a4⟩ := m_wrg (xs := xs) (rf := rf) (g := g) (c := 1) v (by omega) (by omega) hs h1
    have a4' : ∀ d R, kX xs d 164 0 [some (.ref 185), some (.int 1)] [] (kmm I J rf g) R = R none (kmm I1 J rf g) := a4
    refine ⟨I1, a1, a2, fun d R => ?_⟩
    rw [qEnt v hs h1 hF, if_neg q, B192_61, krecv_m ks185, kcond_t, a4', kpush_n, B192_66, B192_79, kg12_8, kO_s, if_pos ((mFp a1).mpr (wrgF (by omega) hF)), B192_86]
  intro f
  induction f with
  | zero =>
    intro dp hdp I s hs h1 h2 h3 hF
    rw [par]
    by_cases q : okP (kdO T s)
    · rw [if_pos q]
      obtain ⟨I1, a1, a2, a4⟩ := m_wrg (xs := xs) (rf := rf) (g := g) (c := 5) v (by omega) (by omega) hs h1
      have a4' : ∀ d R, kX xs d 164 0 [some (.ref 185), some (.int 5)] [] (kmm I J rf g) R = R none (kmm I1 J rf g) := a4
      refine ⟨I1, a1, a2, fun d R => ?_⟩
      rw [show d + (5 * 0 + 2) = d + 2 from rfl, qEnt v hs h1 hF, if_pos q, B192_69, show dp = 5 by omega, if_pos (by decide), B192_74, krecv_m ks185, kcond_t, a4', kpush_n, B192_79, kg12_8, kO_s, if_pos ((mFp a1).mpr (wrgF (by omega) hF)), B192_86]
    · rw [if_neg q]
      exact bad I s dp hs h1 hF q
  | succ f ih =>
    intro dp hdp I s hs h1 h2 h3 hF
    have IH := ih (dp + 1) (by omega)
    have H7 : mOne xs J T rf g 188 [some (.ref 185), some (.int (nI (dp + 1))), none] (5 * f + 6) (who T (par T f)) := m_188 (h := 5 * f + 4) v (avn_tst (avn_par f)) (m_189 (h := 5 * f + 3) v (avn_sms (avn_par f)) (m_190 (h := 5 * f + 2) v (avn_prd (avn_par f)) (m_191 (h := 5 * f + 1) v (avn_par f) IH)))
    rw [par]
    by_cases q : okP (kdO T s)
    · rw [if_pos q]
      have hlt := kdO_lt h1 (fun e => by rw [e] at q; unfold okP okF at q; omega)
      have v1 := avn_stp hlt
      have l1 := avnL v1 h2
      have ek := hs.k
      have e79 : ∀ d R, kX xs (d + 2) 192 0 [some (.ref 185), some (.int (nI dp)), none, none] [] (kmm I J rf g) R = kX xs (d + 2) 192 87 [some (.ref 185), some (.int (nI dp)), some (.int (nI (bN (decide (kdO T s = 2))))), some (.int (aWh T s 18 4))] [] (kmm I J rf g) R := by
        intro d R
        rw [qEnt v hs h1 hF, if_pos q, B192_69, if_neg (show ¬ nI dp = 5 from fun z => by rw [show (5 : Int32) = nI 5 from rfl, nI_inj (by omega) (by omega)] at z; omega), B192_79, kg12_8, kO_s, if_neg (fun z => ((mFp hs).mp z) hF)]
      have eD : ∀ d, d + (5 * (f + 1) + 2) = d + (5 * f + 5) + 2 := fun d => by omega
      have eD1 : ∀ d, d + (5 * f + 5) + 2 = d + (5 * f + 6) + 1 := fun d => by omega
      have eD2 : ∀ d, d + (5 * f + 6) = d + (5 * f + 5) + 1 := fun d => by omega
      obtain ⟨I1, a1, a2, a4⟩ := m_169 (xs := xs) (rf := rf) (g := g) (c := 15) v (by omega) hs h1
      by_cases q4 : kdO T s = 143
      · rw [if_pos ⟨hF, q4⟩] at a1
        rw [if_neg (by omega), if_neg (by unfold okF; omega), if_neg (by omega)]
        obtain ⟨I2, b1, b2, b4⟩ := IH I1 (stp s) a1 v1.n (by omega) (by have := v1.k; omega) hF
        have v2 := v1.trans (avn_par f (stp s) v1.n)
        have l2 := avnL v2 h2
        have n2 := v2.n
        obtain ⟨I3, c1, c2, c4⟩ := m_emi (xs := xs) (rf := rf) (g := g) (o := 3) (x := 0) b1 (by omega)
        refine ⟨I3, c1, a2.trans (b2.trans c2), fun d R => ?_⟩
        have c4' : ∀ d R, kX xs d 187 0 [some (.ref 185), some (.int 3), some (.int 0)] [] (kmm I2 J rf g) R = R none (kmm I3 J rf g) := c4
        have eD3 : d + (5 * f + 5) + 1 = (d + 4) + (5 * f + 2) := by omega
        rw [eD, e79, B192_87, krecv_m ks185, kcond_t, c8_15, a4, kpush_s, B192_93, if_neg (by rw [decide_eq_true ⟨hF, q4⟩]; decide), B192_96, krecv_m ks185, kcond_t, nI_add1, eD3, b4, kpush_n, B192_103, krecv_m ks185, kcond_t, c4', kpush_n, B192_109, B192_178]
      · rw [if_neg (fun y => q4 y.2)] at a1
        obtain ⟨I2, b1, b2, b4⟩ := m_168 (xs := xs) (rf := rf) (g := g) v mem40 a1 h1
        have e112 : ∀ d R, kX xs (d + 2) 192 0 [some (.ref 185), some (.int (nI dp)), none, none] [] (kmm I J rf g) R = kX xs (d + 2) 192 118 [some (.ref 185), some (.int (nI dp)), some (.int (nI (bN (decide (kdO T s = 2))))), some (.int (aWh T s 18 4))] [.int (nI (bN (decide (s.F = 0 ∧ kdO T s = 40))))] (kmm I2 J rf g) R := by
          intro d R
          rw [e79, B192_87, krecv_m ks185, kcond_t, c8_15, a4, kpush_s, B192_93, if_pos (by rw [decide_eq_false (fun y => q4 y.2)]; rfl), B192_112, krecv_m ks185, kcond_t, c8_40, b4, kpush_s]
        by_cases q3 : kdO T s = 40
        · rw [if_pos ⟨hF, q3⟩] at b1
          rw [if_neg (by omega), if_neg (by unfold okF; omega), if_pos q3]
          obtain ⟨I3, c1, c2, c4⟩ := H7 I2 (stp s) b1 v1.n (by omega) (by have := v1.k; omega) hF
          have v2 := avn_who (avn_par f) (stp s) v1.n
          obtain ⟨I4, d1, d2, d4⟩ := m_167 (xs := xs) (rf := rf) (g := g) v mem41 c1 v2.n
          refine ⟨I4, d1, a2.trans (b2.trans (c2.trans d2)), fun d R => ?_⟩
          rw [eD, e112, B192_118, if_neg (by rw [decide_eq_true ⟨hF, q3⟩]; decide), B192_121, krecv_m ks185, kcond_t, nI_add1, ← eD2, c4, kpush_n, B192_128, krecv_m ks185, kcond_t, c8_41, eD2, d4, kpush_n, B192_134, B192_178]
        · rw [if_neg (fun y => q3 y.2)] at b1
          have ek2 := b1.k
          by_cases q1 : kdO T s = 2
          · rw [if_pos q1]
            obtain ⟨I3, c1, c2, c4⟩ := m_emi (xs := xs) (rf := rf) (g := g) (o := 1) (x := tV T (pT T s.k)) b1 (by omega)
            have c4' : ∀ d R, kX xs d 187 0 [some (.ref 185), some (.int 1), some (.int (nI (tV T (pT T s.k))))] [] (kmm I2 J rf g) R = R none (kmm I3 J rf g) := c4
            obtain ⟨d1, d2⟩ := m_stp c1
            have ek3 : I3 185 7 = nI s.k := c1.k
            refine ⟨_, d1, a2.trans (b2.trans (c2.trans d2)), fun d R => ?_⟩
            rw [eD, e112, B192_118, if_pos (by rw [decide_eq_false (fun y => q3 y.2)]; rfl), B192_137, if_neg (by rw [decide_eq_true q1]; decide), B192_142, B192_147, if_neg (by rw [decide_eq_true q1]; decide), B192_151, kg12_6, kO_s, kg12_7, kO_s, ek2, kj189 (by omega), kO_s, b1.tk.v _ hlt, nJ_32, B192_165, krecv_m ks185, kcond_t, c4', kpush_n, B192_168, kg12_7, kO_s, ek3, nI_add1, kp12_7, kO_s, B192_178]
            rfl
          · have q2 : okF (kdO T s) := by unfold okP at q; omega
            rw [if_neg q1, if_pos q2]
            obtain ⟨I3, c1, c2, c4⟩ := m_emi (xs := xs) (rf := rf) (g := g) (o := 2) (x := kdO T s - 146) b1 (by omega)
            have c4' : ∀ d R, kX xs d 187 0 [some (.ref 185), some (.int 2), some (.int (nI (kdO T s - 146)))] [] (kmm I2 J rf g) R = R none (kmm I3 J rf g) := c4
            obtain ⟨d1, d2⟩ := m_stp c1
            have ek3 : I3 185 7 = nI s.k := c1.k
            refine ⟨_, d1, a2.trans (b2.trans (c2.trans d2)), fun d R => ?_⟩
            rw [eD, e112, B192_118, if_pos (by rw [decide_eq_false (fun y => q3 y.2)]; rfl), B192_137, if_pos (by rw [decide_eq_false q1]; rfl), B192_146, B192_147, if_pos (by rw [decide_eq_false q1]; rfl), B192_164, aWh_f hF q2, B192_165, krecv_m ks185, kcond_t, c4', kpush_n, B192_168, kg12_7, kO_s, ek3, nI_add1, kp12_7, kO_s, B192_178]
            rfl
    · rw [if_neg q]
      obtain ⟨I1, a1, a2, a4⟩ := bad I s dp hs h1 hF q
      refine ⟨I1, a1, a2, fun d R => ?_⟩
      rw [show d + (5 * (f + 1) + 2) = d + (5 * f + 5) + 2 by omega, a4]
/-- whole -/
theorem m_law (v : vTp T) : mOne xs J T rf g 188 [some (.ref 185), some (.int (nI 0)), none] 31 (who T (par T 5)) :=
  m_188 (h := 5 * 5 + 4) v (avn_tst (avn_par 5)) (m_189 (h := 5 * 5 + 3) v (avn_sms (avn_par 5)) (m_190 (h := 5 * 5 + 2) v (avn_prd (avn_par 5)) (m_191 (h := 5 * 5 + 1) v (avn_par 5) (m_192 v 5 0 (by omega)))))
end MP
