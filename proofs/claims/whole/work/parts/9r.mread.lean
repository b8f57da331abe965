/-! the model reads a line, whole -/
section MR
variable {xs : List Int32} {d : Nat} {I I' I2 : Nat → Nat → Int32} {J J' J2 : Nat → Nat → Int64} {rf : Nat → Nat} {g : Nat} {R : Option Value → KW → Prop} {T : aTp} {s u L : aPS} {D D' : aDr}
/-- a judge's line -/
theorem m_181j (vt : vTp T) (hv : vDr D) (hd : mDr I J D) (h : mPS I J T s) (hk : s.k < nT T) (hF : s.F = 0) : ∃ I' J', mPS I' J' T (if D.nj < 7 then jg4 T D s else wrg T 5 s) ∧ ((if D.nj < 7 then jg4 T D s else wrg T 5 s).F = 0 → mDr I' J' (jgD T D s)) ∧ mFa I I' ∧ nFa J J' ∧ ∀ d R, kX xs (d + 33) 181 8 [some (.ref 185), none, none, none] [] (kmm I J rf g) R = R none (kmm I' J' rf g) := by
  have hj := hv.j
  have hc := hv.c
  obtain ⟨nm, no, hN⟩ := hd.nm
  by_cases q : D.nj < 7
  · rw [if_pos q]
    obtain ⟨I1, J1, a1, a0, a2, a3, a4⟩ := m_182 (xs := xs) (rf := rf) (g := g) (m := 0) (n := D.nj) (fr := 0) vt hj hc hv.nm hN h hk hF (by omega) hd.nj q (by omega)
    have a4' : ∀ d R, kX xs (d + 3) 182 0 [some (.ref 185), some (.int 0), some (.int (nI 7)), some (.int 0), none] [] (kmm I J rf g) R = R none (kmm I1 J1 rf g) := a4
    obtain ⟨I2, b1, b0, b2, b4⟩ := m_jr (xs := xs) (rf := rf) (g := g) (i := 94 + 3 * D.nj) vt a1 (kle_nw1 hk).2 (by omega) (by omega)
    have b1' : mPS I2 J1 T (jg4 T D s) := b1
    have g90 : I2 191 90 = I1 191 (90 + 0) := b2 _ _ (by omega) (by omega) (by omega) (by omega)
    have go : ∀ k, 90 < k → k ≠ 94 + 3 * D.nj → k ≠ 94 + 3 * D.nj + 1 → I2 191 k = I 191 k := fun k p1 p2 p3 => by rw [b2 _ _ (by omega) (by omega) (by omega) (by omega), a2 _ _ (by omega) (by omega) (by omega) (by omega) (by omega)]
    have g19 : I2 185 19 = I1 185 19 := b2 _ _ (by omega) (by omega) (by omega) (by omega)
    have g7 : ∀ k, I2 197 k = I1 197 k := fun k => b2 _ _ (by omega) (by omega) (by omega) (by omega)
    have o7 : ∀ k, k ≠ D.nj + D.nc → I2 197 k = I 197 k := fun k p => by rw [g7, a2 _ _ (by omega) (by omega) (by omega) (by omega) (by omega)]
    have o5 : ∀ k, k ≠ D.nj + D.nc → J1 195 k = J 195 k := fun k p => a3 _ _ (by omega)
    have FA : mFa I I2 := fun x k p1 p2 p3 p4 p5 => by rw [b2 x k (by omega) p2 p3 (by omega), a2 x k p1 p2 p3 (by omega) (by omega)]
    refine ⟨I2, J1, b1', fun z => ?_, FA, fun x k p => a3 x k (fun y => p y.1), fun d R => ?_⟩
    · have z1 : (nw1 T D s).F = 0 := iF_F (tak_F (iF_F z))
      obtain ⟨e1, e2, e3, e4⟩ := a0 z1
      exact mDr_j hd q hc (by rw [g90]; exact e4) (b0 z).1 (b0 z).2 go (by rw [g19]; exact e3) (by rw [g7]; exact e2) o7 e1 o5
    · rw [B181_8, kg12_10, kO_s, c8_90, ka191 (by decide), kO_s, hd.nj, krecv_m ks185, kcond_t, c8_7, show d + 32 = d + 29 + 3 from rfl, a4', kpush_n, c8_94, n_3, pk_mul, nI_add, show d + 29 + 3 + 1 = d + 29 + 4 from rfl, b4, B181_164]
  · rw [if_neg q]
    obtain ⟨I1, a1, a2, a4⟩ := m_182w (xs := xs) (rf := rf) (g := g) (m := 0) (fr := 0) vt h (Nat.le_of_lt hk) (by omega) (by show I 191 90 = nI 7; rw [hd.nj, show D.nj = 7 by omega])
    have a4' : ∀ d R, kX xs (d + 3) 182 0 [some (.ref 185), some (.int 0), some (.int (nI 7)), some (.int 0), none] [] (kmm I J rf g) R = R none (kmm I1 J rf g) := a4
    have wF := wrgF (T := T) (c := 5) (by decide) hF
    obtain ⟨I2, b1, b0, b2, b4⟩ := m_jr (xs := xs) (rf := rf) (g := g) (i := 94 + 3 * D.nj) vt a1 (Nat.le_of_lt hk) (by clear wF hF; omega) (by clear wF hF; omega)
    rw [iF_n wF, tak_n wF, iF_n wF] at b1
    refine ⟨I2, J, b1, fun z => absurd z wF, ?_, nFa.refl, fun d R => ?_⟩
    · clear wF hF b0
      exact fun x k p1 p2 p3 p4 p5 => by rw [b2 x k (by omega) p2 p3 (by omega), a2 x k (by omega) p2 p3]
    · rw [B181_8, kg12_10, kO_s, c8_90, ka191 (by decide), kO_s, hd.nj, krecv_m ks185, kcond_t, c8_7, show d + 32 = d + 29 + 3 from rfl, a4', kpush_n, c8_94, n_3, pk_mul, nI_add, show d + 29 + 3 + 1 = d + 29 + 4 from rfl, b4, B181_164]
/-- a case's line -/
theorem m_181c (vt : vTp T) (hv : vDr D) (hd : mDr I J D) (h : mPS I J T s) (hk : s.k < nT T) (hF : s.F = 0) : ∃ I' J', mPS I' J' T (if D.nc < 7 then cs5 T D s else wrg T 5 s) ∧ ((if D.nc < 7 then cs5 T D s else wrg T 5 s).F = 0 → mDr I' J' (csD T D s)) ∧ mFa I I' ∧ nFa J J' ∧ ∀ d R, kX xs (d + 33) 181 80 [some (.ref 185), none, none, none] [] (kmm I J rf g) R = R none (kmm I' J' rf g) := by
  have hj := hv.j
  have hc := hv.c
  obtain ⟨nm, no, hN⟩ := hd.nm
  by_cases q : D.nc < 7
  · rw [if_pos q]
    obtain ⟨I1, J1, a1, a0, a2, a3, a4⟩ := m_182 (xs := xs) (rf := rf) (g := g) (m := 1) (n := D.nc) (fr := 20) vt hj hc hv.nm hN h hk hF (by omega) hd.nc q (by omega)
    have a4' : ∀ d R, kX xs (d + 3) 182 0 [some (.ref 185), some (.int 1), some (.int (nI 7)), some (.int (nI 20)), none] [] (kmm I J rf g) R = R none (kmm I1 J1 rf g) := a4
    obtain ⟨I2, b1, b0, b2, b4⟩ := m_cr (xs := xs) (rf := rf) (g := g) (i := 115 + 2 * D.nc) vt a1 (kle_nw1 hk).2 (by omega) (by omega)
    have b1' : mPS I2 J1 T (cs5 T D s) := b1
    have g91 : I2 191 91 = I1 191 (90 + 1) := b2 _ _ (by omega) (by omega) (by omega) (by omega)
    have go : ∀ k, 90 ≤ k → k ≠ 91 → k ≠ 115 + 2 * D.nc → k ≠ 115 + 2 * D.nc + 1 → I2 191 k = I 191 k := fun k p0 p1 p2 p3 => by rw [b2 _ _ (by omega) (by omega) (by omega) (by omega), a2 _ _ (by omega) (by omega) (by omega) (by omega) (by omega)]
    have g19 : I2 185 19 = I1 185 19 := b2 _ _ (by omega) (by omega) (by omega) (by omega)
    have g7 : ∀ k, I2 197 k = I1 197 k := fun k => b2 _ _ (by omega) (by omega) (by omega) (by omega)
    have o7 : ∀ k, k ≠ D.nj + D.nc → I2 197 k = I 197 k := fun k p => by rw [g7, a2 _ _ (by omega) (by omega) (by omega) (by omega) (by omega)]
    have o5 : ∀ k, k ≠ D.nj + D.nc → J1 195 k = J 195 k := fun k p => a3 _ _ (by omega)
    have FA : mFa I I2 := fun x k p1 p2 p3 p4 p5 => by rw [b2 x k (by omega) p2 p3 (by omega), a2 x k p1 p2 p3 (by omega) (by omega)]
    refine ⟨I2, J1, b1', fun z => ?_, FA, fun x k p => a3 x k (fun y => p y.1), fun d R => ?_⟩
    · have z1 : (nw1 T D s).F = 0 := tak_F (iF_F (tak_F (iF_F z)))
      obtain ⟨e1, e2, e3, e4⟩ := a0 z1
      exact mDr_c hd hj q (by rw [g91]; exact e4) (b0 z).1 (b0 z).2 go (by rw [g19]; exact e3) (by rw [g7]; exact e2) o7 e1 o5
    · rw [B181_80, kg12_10, kO_s, c8_91, ka191 (by decide), kO_s, hd.nc, krecv_m ks185, kcond_t, c8_7, c8_20, show d + 32 = d + 29 + 3 from rfl, a4', kpush_n, c8_115, n_2, pk_mul, nI_add, show d + 29 + 3 + 1 = d + 29 + 4 from rfl, b4, B181_164]
  · rw [if_neg q]
    obtain ⟨I1, a1, a2, a4⟩ := m_182w (xs := xs) (rf := rf) (g := g) (m := 1) (fr := 20) vt h (Nat.le_of_lt hk) (by omega) (by show I 191 91 = nI 7; rw [hd.nc, show D.nc = 7 by omega])
    have a4' : ∀ d R, kX xs (d + 3) 182 0 [some (.ref 185), some (.int 1), some (.int (nI 7)), some (.int (nI 20)), none] [] (kmm I J rf g) R = R none (kmm I1 J rf g) := a4
    have wF := wrgF (T := T) (c := 5) (by decide) hF
    obtain ⟨I2, b1, b0, b2, b4⟩ := m_cr (xs := xs) (rf := rf) (g := g) (i := 115 + 2 * D.nc) vt a1 (Nat.le_of_lt hk) (by clear wF hF; omega) (by clear wF hF; omega)
    rw [tak_n wF, iF_n wF, tak_n wF, iF_n wF] at b1
    refine ⟨I2, J, b1, fun z => absurd z wF, ?_, nFa.refl, fun d R => ?_⟩
    · clear wF hF b0
      exact fun x k p1 p2 p3 p4 p5 => by rw [b2 x k (by omega) p2 p3 (by omega), a2 x k (by omega) p2 p3]
    · rw [B181_80, kg12_10, kO_s, c8_91, ka191 (by decide), kO_s, hd.nc, krecv_m ks185, kcond_t, c8_7, c8_20, show d + 32 = d + 29 + 3 from rfl, a4', kpush_n, c8_115, n_2, pk_mul, nI_add, show d + 29 + 3 + 1 = d + 29 + 4 from rfl, b4, B181_164]
/-- readLine -/
theorem m_181 (vt : vTp T) (hv : vDr D) (hd : mDr I J D) (h : mPS I J T s) (hk : s.k < nT T) (hF : s.F = 0) (hl : D.lt = 0 → s.ll = 0) : ∃ I' J', mPS I' J' T (lnA T D s) ∧ ((lnA T D s).F = 0 → mDr I' J' (lnD T D s)) ∧ mFa I I' ∧ nFa J J' ∧ ∀ d R, kX xs (d + 33) 181 0 [some (.ref 185), none, none, none] [] (kmm I J rf g) R = R none (kmm I' J' rf g) := by
  have hk' := Nat.le_of_lt hk
  have iw0 : ∀ d R, kX xs d 166 0 [some (.ref 185), some (.int 0)] [] (kmm I J rf g) R = R (some (.int (nI (bN (decide (s.F = 0 ∧ kdO T s = 128)))))) (kmm I J rf g) := fun d R => sp166 (c := 0) vt (by decide) h hk'
  have iw2 : ∀ d R, kX xs d 166 0 [some (.ref 185), some (.int 2)] [] (kmm I J rf g) R = R (some (.int (nI (bN (decide (s.F = 0 ∧ kdO T s = 130)))))) (kmm I J rf g) := fun d R => sp166 (c := 2) vt (by decide) h hk'
  have iw5 : ∀ d R, kX xs d 166 0 [some (.ref 185), some (.int 5)] [] (kmm I J rf g) R = R (some (.int (nI (bN (decide (s.F = 0 ∧ kdO T s = 133)))))) (kmm I J rf g) := fun d R => sp166 (c := 5) vt (by decide) h hk'
  unfold lnA lnD
  by_cases q1 : kdO T s = 128
  · rw [if_pos q1, if_pos q1]
    obtain ⟨I1, J1, a1, a2, a3, a5, a4⟩ := m_181j (xs := xs) (rf := rf) (g := g) vt hv hd h hk hF
    refine ⟨I1, J1, a1, a2, a3, a5, fun d R => ?_⟩
    rw [B181_0, krecv_m ks185, kcond_t, iw0, kpush_s, B181_5, if_neg (by rw [decide_eq_true ⟨hF, q1⟩]; decide), a4]
  · rw [if_neg q1, if_neg q1]
    by_cases q2 : kdO T s = 130
    · rw [if_pos q2, if_pos q2]
      obtain ⟨I1, J1, a1, a2, a3, a5, a4⟩ := m_181c (xs := xs) (rf := rf) (g := g) vt hv hd h hk hF
      refine ⟨I1, J1, a1, a2, a3, a5, fun d R => ?_⟩
      rw [B181_0, krecv_m ks185, kcond_t, iw0, kpush_s, B181_5, if_pos (by rw [decide_eq_false (fun z => q1 z.2)]; rfl), B181_72, krecv_m ks185, kcond_t, iw2, kpush_s, B181_77, if_neg (by rw [decide_eq_true ⟨hF, q2⟩]; decide), a4]
    · rw [if_neg q2, if_neg q2]
      by_cases q3 : kdO T s = 133
      · rw [if_pos q3, if_pos q3]
        obtain ⟨I1, a1, a2, a3, a4⟩ := m_183 (xs := xs) (rf := rf) (g := g) vt hv hd h hk hF
        refine ⟨I1, J, a1, a2, a3, nFa.refl, fun d R => ?_⟩
        rw [B181_0, krecv_m ks185, kcond_t, iw0, kpush_s, B181_5, if_pos (by rw [decide_eq_false (fun z => q1 z.2)]; rfl), B181_72, krecv_m ks185, kcond_t, iw2, kpush_s, B181_77, if_pos (by rw [decide_eq_false (fun z => q2 z.2)]; rfl), B181_145, krecv_m ks185, kcond_t, iw5, kpush_s, B181_150, if_neg (by rw [decide_eq_true ⟨hF, q3⟩]; decide), B181_153, krecv_m ks185, kcond_t, show d + 32 = d + 28 + 4 from rfl, a4, kpush_n, B181_157, B181_164]
      · rw [if_neg q3, if_neg q3]
        obtain ⟨I1, a1, a2, a3, a4⟩ := m_184 (xs := xs) (rf := rf) (g := g) vt hd h hk' hF hl
        refine ⟨I1, J, a1, a2, a3, nFa.refl, fun d R => ?_⟩
        rw [B181_0, krecv_m ks185, kcond_t, iw0, kpush_s, B181_5, if_pos (by rw [decide_eq_false (fun z => q1 z.2)]; rfl), B181_72, krecv_m ks185, kcond_t, iw2, kpush_s, B181_77, if_pos (by rw [decide_eq_false (fun z => q2 z.2)]; rfl), B181_145, krecv_m ks185, kcond_t, iw5, kpush_s, B181_150, if_pos (by rw [decide_eq_false (fun z => q3 z.2)]; rfl), B181_160, krecv_m ks185, kcond_t, a4, kpush_n, B181_164]
theorem sW_jgD : jgD T D (sW s L) = jgD T D s := by
  unfold jgD
  rw [sW_nw1, sW_jg3, sW_d, sW_k, sW_k]
theorem sW_csD : csD T D (sW s L) = csD T D s := by
  unfold csD
  rw [sW_cs2, sW_cs4, sW_k, sW_k, sW_k]
theorem sW_eq (h : eqL L s) : sW s L = s := by
  unfold sW
  rw [h.1, h.2.1, h.2.2]
  rfl
theorem emi_sW {W : aPS} : tak T 59 (emi 0 0 W) = sW (tak T 59 W) (emi 0 0 W) := sW_tak (s := W) (l := emi 0 0 W)
theorem emi_L {W : aPS} (e : eqL u W) : lInv (emi 0 0 W) u (dlD D) := by
  refine ⟨fun z => absurd (show 1 = 0 from z) (by decide), fun _ => ?_⟩
  rw [e.1, e.2.1, e.2.2]
  exact ⟨rfl, fun n hn => ⟨ku1_n (Nat.ne_of_lt hn), ku1_n (Nat.ne_of_lt hn)⟩, ku1_s _ _ _⟩
/-- a line, and its sign -/
theorem m_linA (vt : vTp T) (hv : vDr D) (hw : vLw s D) (hL : lInv L s D) (hd : mDr I J D) (h : mPS I J T (sW s L)) (hk : s.k ≤ nT T) (hF : s.F = 0) (h0 : kdO T s ≠ 0) : ∃ I' J' L', mPS I' J' T (sW (ayS T D s) L') ∧ ((ayS T D s).F = 0 → mDr I' J' (ayD T D s) ∧ lInv L' (ayS T D s) (ayD T D s)) ∧ mFa I I' ∧ nFa J J' ∧ ∀ d R, kX xs (d + 34) 180 44 [some (.ref 185), none] [] (kmm I J rf g) R = kX xs (d + 34) 180 25 [some (.ref 185), none] [] (kmm I' J' rf g) R := by
  have hlt : s.k < nT T := kdO_lt hk h0
  have hl0 : D.lt = 0 → (sW s L).ll = 0 := fun z => (hL.1 z).1.trans (hw.1 z)
  obtain ⟨I1, J1, a1, a2, a3, a5, a4⟩ := m_181 (xs := xs) (rf := rf) (g := g) (s := sW s L) vt hv hd h hlt hF hl0
  -- what it is, and how far
  have key : ∃ L', (lnA T D (sW s L)).k ≤ nT T ∧ tak T 59 (lnA T D (sW s L)) = sW (ayS T D s) L' ∧ ((ayS T D s).F = 0 → lnD T D (sW s L) = ayD T D s ∧ lInv L' (ayS T D s) (ayD T D s)) := by
    unfold lnA lnD
    rw [sW_d]
    by_cases q1 : kdO T s = 128
    · have ea : ayS T D s = if D.nj < 7 then jgS T D s else wrg T 5 s := if_pos q1
      rw [if_pos q1, if_pos q1, sW_jgD, ea]
      by_cases q : D.nj < 7
      · rw [if_pos q, if_pos q, sW_jg4, sW_tak]
        refine ⟨L, (kle_jg4 hlt).2, rfl, fun z => ?_⟩
        have ed : ayD T D s = jgD T D s := by unfold ayD; rw [ea, if_pos q, if_pos z, if_pos q1]
        rw [ed]
        exact ⟨rfl, hL.e (eqL_of (fun _ _ => sW_jgS) s) rfl⟩
      · rw [if_neg q, if_neg q, sW_wrg, sW_tak, tak_n (wrgF (by decide) hF)]
        exact ⟨L, hk, rfl, fun z => absurd z (wrgF (by decide) hF)⟩
    · rw [if_neg q1, if_neg q1]
      by_cases q2 : kdO T s = 130
      · have ea : ayS T D s = if D.nc < 7 then csS T D s else wrg T 5 s := by unfold ayS; rw [if_neg q1, if_pos q2]
        rw [if_pos q2, if_pos q2, sW_csD, ea]
        by_cases q : D.nc < 7
        · rw [if_pos q, if_pos q, sW_cs5, sW_tak]
          refine ⟨L, (kle_cs5 hlt).2, rfl, fun z => ?_⟩
          have ed : ayD T D s = csD T D s := by unfold ayD; rw [ea, if_pos q, if_pos z, if_neg q1, if_pos q2]
          rw [ed]
          exact ⟨rfl, hL.e (eqL_of (fun _ _ => sW_csS) s) rfl⟩
        · rw [if_neg q, if_neg q, sW_wrg, sW_tak, tak_n (wrgF (by decide) hF)]
          exact ⟨L, hk, rfl, fun z => absurd z (wrgF (by decide) hF)⟩
      · rw [if_neg q2, if_neg q2]
        by_cases q3 : kdO T s = 133
        · have ea : ayS T D s = chS T D s := by unfold ayS; rw [if_neg q1, if_neg q2, if_pos q3]
          rw [if_pos q3, if_pos q3, sW_ch2, sW_tak, sW_chA, sW_chB, ea]
          refine ⟨L, (kle_ch2 hlt).2, rfl, fun z => ?_⟩
          have ed : ayD T D s = prD D (chA T D s) (chB T D s) := by unfold ayD; rw [ea, if_pos z, if_neg q1, if_neg q2, if_pos q3]
          rw [ed]
          exact ⟨rfl, hL.e (eqL_of (fun _ _ => sW_chS) s) rfl⟩
        · rw [if_neg q3, if_neg q3]
          unfold dl2
          rw [sW_d]
          by_cases q4 : kdO T s = 134
          · rw [if_pos q4]
            have ea : ayS T D s = dlS T D s := by unfold ayS; rw [if_neg q1, if_neg q2, if_neg q3, if_pos q4]
            rw [ea]
            unfold dlS
            by_cases q : D.lt = 0
            · rw [if_pos q, if_pos q, sW_eq (hL.1 q)]
              have av := avn_who (avn_par (T := T) 5) (stp s) hlt
              have kw : (who T (par T 5) (stp s)).k ≤ nT T := av.n
              have ed : ∀ W, who T (par T 5) (stp s) = W → (tak T 59 W).F = 0 → ayD T D s = dlD D := by
                intro W eW z
                unfold ayD
                rw [ea]
                unfold dlS
                rw [if_pos q, eW, if_pos z, if_neg q1, if_neg q2, if_neg q3]
              clear av
              revert ed kw
              generalize who T (par T 5) (stp s) = W
              intro kw ed
              refine ⟨emi 0 0 W, kw, emi_sW, fun z => ?_⟩
              rw [ed W rfl z]
              exact ⟨rfl, emi_L (eqL_of (fn := tak T 59) (fun _ _ => sW_tak) W)⟩
            · rw [if_neg q, if_neg q, sW_wrg, sW_tak, tak_n (wrgF (by decide) hF)]
              exact ⟨L, hk, rfl, fun z => absurd z (wrgF (by decide) hF)⟩
          · rw [if_neg q4]
            have ea : ayS T D s = wrg T 1 s := by unfold ayS; rw [if_neg q1, if_neg q2, if_neg q3, if_neg q4]
            rw [ea, sW_wrg, sW_tak, tak_n (wrgF (by decide) hF)]
            exact ⟨L, hk, rfl, fun z => absurd z (wrgF (by decide) hF)⟩
  obtain ⟨L', k1, k2, k3⟩ := key
  obtain ⟨I2, b1, b2, b4⟩ := m_167 (xs := xs) (rf := rf) (g := g) (c := 59) vt mem59 a1 k1
  have b1' : mPS I2 J1 T (sW (ayS T D s) L') := by rw [← k2]; exact b1
  refine ⟨I2, J1, L', b1', fun z => ?_, a3.trans (mFa.of b2), a5, fun d R => ?_⟩
  · obtain ⟨e1, e2⟩ := k3 z
    have f1 : (lnA T D (sW s L)).F = 0 := tak_F (T := T) (c := 59) (by rw [k2]; exact z)
    have m1 := a2 f1
    rw [e1] at m1
    exact ⟨m1.fr b2, e2⟩
  · rw [B180_44, krecv_m ks185, kcond_t, a4, kpush_n, B180_48, krecv_m ks185, kcond_t, c8_59, show d + 33 = d + 32 + 1 from rfl, b4, kpush_n, B180_54]
end MR
