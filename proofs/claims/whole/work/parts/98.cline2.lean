/-! a line of a term: the class, whole -/
section CM
variable {xs : List Int32} {d : Nat} {I I' I2 : Nat → Nat → Int32} {J J' : Nat → Nat → Int64} {rf : Nat → Nat} {g : Nat} {R : Option Value → KW → Prop} {w : KW} {T : aTp} {s u : aPS} {a t ra nj nc : Nat} {N : aNm} {l : aLn}
theorem cFs_t (ht1 : 4 ≤ t) (hta : a + 1 < t ∨ t + 3 < a) (h : cFs a I I') : ∀ z k, t ≤ z → z ≤ t + 3 → I' z k = I z k := fun z k h1 h2 => h z k (by omega) (by omega) (by omega) (by omega)
theorem cFs_r (hra : 4 ≤ ra ∧ ra ≠ a ∧ ra ≠ a + 1) (h : cFs a I I') (k : Nat) : I' ra k = I ra k := h ra k (by omega) (by omega) hra.2.1 hra.2.2
theorem cNm_k (hra : 4 ≤ ra) (h : jFr J J') (hN : cNm J ra nj nc N) : cNm J' ra nj nc N := ⟨fun i hi => by rw [h _ _ (by omega)]; exact hN.j i hi, fun i hi => by rw [h _ _ (by omega)]; exact hN.c i hi⟩
theorem c_43t {wd x y : Nat} (v : vTp T) (ha : 4 ≤ a) (ht : kshp t = some (.inl 10)) (ht1 : 4 ≤ t) (hta : a + 1 < t ∨ t + 3 < a) (h : cPS I J T a u) (hF : u.F = 0) (hl : cLn I t l) (hn : l.n < 40) (hy : I 3 3 = nI y) : ∃ I' J', cPS I' J' T a (tak T 59 u) ∧ cLn I' t (if (tak T 59 u).F = 0 then addL l wd x y else l) ∧ cFt a t I I' ∧ jFr J J' ∧ ∀ d R, kX xs (d + 7) 43 125 [some (.ref 3), some (.ref t), none, some (.int (nI (135 + wd))), some (.int (nI x))] [] (kmm I J rf g) R = R (some (.int (bz (tak T 59 u)))) (kmm I' J' rf g) := by
  obtain ⟨I1, J1, a1, a2, a3, a4⟩ := c_tak (xs := xs) (rf := rf) (g := g) (c := 59) v (by omega) (by omega) (by omega) h hF
  have l1 : cLn I1 t l := hl.keep (fun z k h1 h2 => a2 z k (by omega) (by omega) (by omega))
  have y1 : I1 3 3 = nI y := by rw [a2 _ _ (by omega) (by omega) (by omega), hy]
  by_cases q : (tak T 59 u).F = 0
  · rw [if_pos q]
    obtain ⟨I2, b1, b2, b4⟩ := c_98 (xs := xs) (J := J1) (rf := rf) (g := g) (wd := wd) (x := x) (y := y) ht l1 hn
    refine ⟨I2, J1, a1.keep (fun z k hz => b2 z k (by omega)) rfl, b1, fun z k p1 p2 p3 p4 p5 => by rw [b2 z k p5, a2 z k p1 p3 p4], a3, fun d R => ?_⟩
    rw [B43_125, kg5_0, kO_s, krecv_m ks1, kcond_t, c8_59, show d + 6 = d + 1 + 5 from rfl, a4, kpush_s, B43_134, bz_1 q, if_neg (by decide), B43_139, kg5_3, kO_s, y1, krecv_m ht, kcond_t, b4, kpush_n, B43_150, if_pos nar1]
  · rw [if_neg q]
    refine ⟨I1, J1, a1, l1, fun z k p1 p2 p3 p4 p5 => a2 z k p1 p3 p4, a3, fun d R => ?_⟩
    rw [B43_125, kg5_0, kO_s, krecv_m ks1, kcond_t, c8_59, show d + 6 = d + 1 + 5 from rfl, a4, kpush_s, B43_134, bz_0 q, if_pos rfl, B43_137, if_pos nar0]
/-- Reader.readTermLine -/
theorem c_43 (v : vTp T) (ha : 4 ≤ a) (ht : kshp t = some (.inl 10)) (ht1 : 4 ≤ t) (hta : a + 1 < t ∨ t + 3 < a) (hr : kshp ra = some (.inl 6)) (hra : 4 ≤ ra ∧ ra ≠ a ∧ ra ≠ a + 1) (h0 : I ra 0 = nI nj) (h1 : I ra 1 = nI nc) (h7 : nj ≤ 7) (h7c : nc ≤ 7) (hv : vNm nj nc N) (hN : cNm J ra nj nc N) (h : cPS I J T a s) (hF : s.F = 0) (hl : cLn I t l) (hn : l.n ≤ 40) : ∃ I' J', cPS I' J' T a (lnS T N nj nc l.n s) ∧ cLn I' t (lnL T N nj nc l s) ∧ cFt a t I I' ∧ jFr J J' ∧ ∀ d R, kX xs (d + 7) 43 0 [some (.ref 3), some (.ref t), some (.ref ra), none, none] [] (kmm I J rf g) R = R (some (.int (bz (lnS T N nj nc l.n s)))) (kmm I' J' rf g) := by
  have ek := c_kd h
  have hkl := kd_lt v s
  unfold lnL lnS
  by_cases q : 135 ≤ kdO T s ∧ kdO T s ≤ 138
  · rw [if_pos q]
    have e135 : 135 + (kdO T s - 135) = kdO T s := by omega
    have ent : ∀ d R, kX xs (d + 7) 43 0 [some (.ref 3), some (.ref t), some (.ref ra), none, none] [] (kmm I J rf g) R = kX xs (d + 7) 43 31 [some (.ref 3), some (.ref t), some (.ref ra), some (.int (nI (kdO T s))), none] [] (kmm I J rf g) R := by
      intro d R
      rw [B43_0, kg5_0, kO_s, kg2_3, kO_s, ek, c16_135, if_neg (nI_nlt (by omega) (by omega)), B43_15, c16_138, if_neg (nI_nlt (by omega) (by omega))]
    by_cases q2 : l.n < 40
    · rw [if_pos q2]
      obtain ⟨I1, J1, a1, a2, a3, a4⟩ := c_stp (xs := xs) (rf := rf) (g := g) v (by omega) h
      have b1 : cPS (ku I1 3 3 0) J1 T a (stp s) := a1.keep (fun z k hz => by rw [ku_nea (by omega)]) rfl
      have fr : cFs a I (ku I1 3 3 0) := fun z k p1 p2 p3 p4 => by rw [ku_ne p2, a2 z k p1 p3 p4]
      have l1 : cLn (ku I1 3 3 0) t l := hl.keep (cFs_t ht1 hta fr)
      have ent2 : ∀ d R, kX xs (d + 7) 43 0 [some (.ref 3), some (.ref t), some (.ref ra), none, none] [] (kmm I J rf g) R = if kdO T s = 135 then kX xs (d + 7) 43 125 [some (.ref 3), some (.ref t), none, some (.int (nI (kdO T s))), some (.int 0)] [] (kmm (ku I1 3 3 0) J1 rf g) R else kX xs (d + 7) 43 71 [some (.ref 3), some (.ref t), some (.ref ra), some (.int (nI (kdO T s))), some (.int 0)] [] (kmm (ku I1 3 3 0) J1 rf g) R := by
        intro d R
        rw [ent, B43_31, kg10_0 ht, kO_s, hl.n, c8_40, if_pos (nI_lt q2 (by omega)), B43_49, kg5_0, kO_s, krecv_m ks1, kcond_t, show d + 6 = d + 2 + 4 from rfl, a4, kpush_n, B43_56, kp5_3, kO_s, c16_135]
        by_cases z : kdO T s = 135
        · rw [if_pos ((kd_eq v (by omega)).mpr z), if_pos z]
        · rw [if_neg (fun y => z ((kd_eq v (by omega)).mp y)), if_neg z]
      by_cases q3 : kdO T s = 135
      · have e3 : ln3 T N nj nc s = stp s := by
          unfold ln3 ln2 tm1
          rw [if_pos q3, if_pos (by omega)]
        have ex : lnX T N nj nc s = 0 := by
          unfold lnX tm1v
          rw [if_pos (by omega)]
        have ey : lnY T N nj nc s = 0 := if_pos q3
        rw [e3, ex, ey]
        obtain ⟨I2, J2, c1, c0, c2, c3, c4⟩ := c_43t (xs := xs) (rf := rf) (g := g) (wd := kdO T s - 135) (x := 0) (y := 0) v ha ht ht1 hta b1 hF l1 q2 (by rw [ku_same]; rfl)
        refine ⟨I2, J2, c1, c0, (cFt.of fr).trans c2, a3.trans c3, fun d R => ?_⟩
        have c4' : ∀ d R, kX xs (d + 7) 43 125 [some (.ref 3), some (.ref t), none, some (.int (nI (135 + (kdO T s - 135)))), some (.int 0)] [] (kmm (ku I1 3 3 0) J1 rf g) R = R (some (.int (bz (tak T 59 (stp s))))) (kmm I2 J2 rf g) := c4
        rw [e135] at c4'
        rw [ent2, if_pos q3, c4']
      · have hN1 : cNm J1 ra nj nc N := cNm_k hra.1 a3 hN
        have r0 : ku I1 3 3 0 ra 0 = nI nj := (cFs_r hra fr 0).trans h0
        have r1 : ku I1 3 3 0 ra 1 = nI nc := (cFs_r hra fr 1).trans h1
        have hw : kdO T s - 135 = 1 ∨ kdO T s - 135 = 2 ∨ kdO T s - 135 = 3 := by omega
        obtain ⟨I2, J2, d1, d0, d2, d3, d4⟩ := c_43a (xs := xs) (rf := rf) (g := g) (t := t) v ha hr r0 r1 h7 h7c hv hN1 b1 hF hw
        rw [e135] at d4
        have e2 : tm1 T N nj nc (kdO T s - 135) (stp s) = ln2 T N nj nc s := rfl
        have ex : tm1v T N nj nc (kdO T s - 135) (stp s) = lnX T N nj nc s := rfl
        rw [e2] at d1 d0 d4
        rw [ex] at d0 d4
        clear e2 ex
        have ey : lnY T N nj nc s = tm2v T N nj (kdO T s - 135) (ln2 T N nj nc s) := if_neg q3
        have e3 : ln3 T N nj nc s = iF (tm2 T N nj (kdO T s - 135) (lnX T N nj nc s)) (ln2 T N nj nc s) := if_neg q3
        have l2 : cLn I2 t l := l1.keep (cFs_t ht1 hta d2)
        by_cases q4 : (ln2 T N nj nc s).F = 0
        · have e3' : ln3 T N nj nc s = tm2 T N nj (kdO T s - 135) (lnX T N nj nc s) (ln2 T N nj nc s) := by rw [e3]; exact if_pos q4
          have hN2 : cNm J2 ra nj nc N := cNm_k hra.1 d3 hN1
          have r2 : I2 ra 0 = nI nj := (cFs_r hra d2 0).trans r0
          obtain ⟨I3, J3, f1, f0, f2, f3, f4⟩ := c_44 (xs := xs) (rf := rf) (g := g) v ha hr r2 h7 hv hN2 d1 q4 hw (d0 q4)
          rw [e135] at f4
          rw [← e3'] at f1 f0 f4
          rw [← ey] at f0
          have l3 : cLn I3 t l := l2.keep (cFs_t ht1 hta f2)
          have st : ∀ d R, kX xs (d + 7) 43 0 [some (.ref 3), some (.ref t), some (.ref ra), none, none] [] (kmm I J rf g) R = if (ln3 T N nj nc s).F = 0 then kX xs (d + 7) 43 125 [some (.ref 3), some (.ref t), none, some (.int (nI (kdO T s))), some (.int (nI (lnX T N nj nc s)))] [] (kmm I3 J3 rf g) R else R (some (.int 0)) (kmm I3 J3 rf g) := by
            intro d R
            rw [ent2, if_neg q3, d4, if_pos q4, B43_112, krecv_m ks3, kcond_t, f4, kpush_s, B43_120]
            by_cases z : (ln3 T N nj nc s).F = 0
            · rw [bz_1 z, if_neg (by decide), if_pos z]
            · rw [bz_0 z, if_pos rfl, B43_123, if_pos nar0, if_neg z]
          by_cases q5 : (ln3 T N nj nc s).F = 0
          · obtain ⟨I4, J4, c1, c0, c2, c3, c4⟩ := c_43t (xs := xs) (rf := rf) (g := g) (wd := kdO T s - 135) (x := lnX T N nj nc s) (y := lnY T N nj nc s) v ha ht ht1 hta f1 q5 l3 q2 (f0 q5)
            rw [e135] at c4
            refine ⟨I4, J4, c1, c0, (cFt.of (fr.trans (d2.trans f2))).trans c2, a3.trans (d3.trans (f3.trans c3)), fun d R => ?_⟩
            rw [st, if_pos q5, c4]
          · have et : tak T 59 (ln3 T N nj nc s) = ln3 T N nj nc s := if_neg q5
            rw [et, if_neg q5]
            refine ⟨I3, J3, f1, l3, cFt.of (fr.trans (d2.trans f2)), a3.trans (d3.trans f3), fun d R => ?_⟩
            rw [st, if_neg q5, bz_0 q5]
        · have e3' : ln3 T N nj nc s = ln2 T N nj nc s := by rw [e3]; exact if_neg q4
          have et : tak T 59 (ln3 T N nj nc s) = ln2 T N nj nc s := by rw [e3']; exact if_neg q4
          rw [et, if_neg q4]
          refine ⟨I2, J2, d1, l2, cFt.of (fr.trans d2), a3.trans d3, fun d R => ?_⟩
          rw [ent2, if_neg q3, d4, if_neg q4, bz_0 q4]
    · rw [if_neg q2]
      obtain ⟨I1, a1, a2, a4⟩ := c_wrg (xs := xs) (rf := rf) (g := g) (c := 5) (by omega) h hF
      have a4' : ∀ d R, kX xs d 17 0 [some (.ref 1), some (.int 5)] [] (kmm I J rf g) R = R (some (.int 0)) (kmm I1 J rf g) := a4
      have wF := wrgF (T := T) (c := 5) (by omega) hF
      rw [if_neg wF]
      refine ⟨I1, J, a1, hl.keep (fun z k z1 z2 => a2 z k (by omega) (by omega) (by omega)), fun z k p1 p2 p3 p4 p5 => a2 z k p1 p3 p4, jFr.refl, fun d R => ?_⟩
      rw [ent, B43_31, kg10_0 ht, kO_s, hl.n, c8_40, if_neg (nI_nlt (by omega) (by omega)), B43_40, kg5_0, kO_s, krecv_m ks1, kcond_t, a4', kpush_s, B43_48, if_pos nar0, bz_0 wF]
  · rw [if_neg q]
    obtain ⟨I1, a1, a2, a4⟩ := c_wrg (xs := xs) (rf := rf) (g := g) (c := 1) (by omega) h hF
    have a4' : ∀ d R, kX xs d 17 0 [some (.ref 1), some (.int 1)] [] (kmm I J rf g) R = R (some (.int 0)) (kmm I1 J rf g) := a4
    have wF := wrgF (T := T) (c := 1) (by omega) hF
    rw [if_neg wF]
    refine ⟨I1, J, a1, hl.keep (fun z k z1 z2 => a2 z k (by omega) (by omega) (by omega)), fun z k p1 p2 p3 p4 p5 => a2 z k p1 p3 p4, jFr.refl, fun d R => ?_⟩
    have fin : ∀ d R, kX xs (d + 7) 43 22 [some (.ref 3), none, none, none, none] [] (kmm I J rf g) R = R (some (.int (bz (wrg T 1 s)))) (kmm I1 J rf g) := by
      intro d R
      rw [B43_22, kg5_0, kO_s, krecv_m ks1, kcond_t, a4', kpush_s, B43_30, if_pos nar0, bz_0 wF]
    rw [B43_0, kg5_0, kO_s, kg2_3, kO_s, ek, c16_135]
    by_cases z : kdO T s < 135
    · rw [if_pos (nI_lt z (by omega)), fin]
    · rw [if_neg (nI_nlt (by omega) (by omega)), B43_15, c16_138, if_pos (nI_lt (by omega) (by omega)), fin]
end CM
