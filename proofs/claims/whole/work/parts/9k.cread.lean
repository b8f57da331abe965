/-! the class reads a judge, a case -/
section CK
variable {xs : List Int32} {d : Nat} {I I' I2 : Nat → Nat → Int32} {J J' J2 : Nat → Nat → Int64} {rf : Nat → Nat} {g : Nat} {R : Option Value → KW → Prop} {T : aTp} {s u : aPS} {D : aDr} {ra : Nat}
theorem tak_n {c : Nat} (h : ¬ s.F = 0) : tak T c s = s := if_neg h
theorem iF_n {fn : aPS → aPS} (h : ¬ s.F = 0) : iF fn s = s := if_neg h
theorem iF_p {fn : aPS → aPS} (h : s.F = 0) : iF fn s = fn s := if_pos h
/-- Reader.readJudge -/
theorem c_38 (v : vTp T) (hr : kshp ra = some (.inl 6)) (hv : vDr D) (h : cAS I J T ra s D) (hF : s.F = 0) (hn : D.nj < 7) : ∃ I' J', cAS I' J' T ra (jgS T D s) (if (jgS T D s).F = 0 then jgD T D s else D) ∧ cFa ra I I' ∧ jFa ra J J' ∧ ∀ d R, kX xs (d + 6) 38 0 [some (.ref 3), some (.ref ra), none] [] (kmm I J rf g) R = R (some (.int (bz (jgS T D s)))) (kmm I' J' rf g) := by
  have ha := kad6 hr
  have hq : 4 ≤ ra := by omega
  have r1 : 3 ≠ ra + 5 := by omega
  have r2 : 3 ≠ ra + 5 + 1 := by omega
  obtain ⟨I1, J1, a1, a2, a3, a4⟩ := a_stp (xs := xs) (rf := rf) (g := g) v hq h
  obtain ⟨I2, J2, b1, b0, b2, b3, b4⟩ := c_46 (xs := xs) (rf := rf) (g := g) v hr hv a1 hF
  have e1 : nwN T D (stp s) = nw1 T D s := rfl
  rw [e1] at b1 b0 b4
  have F2 : cFa ra I I2 := (cFa.fr a2).trans (cFa.fr b2)
  have G2 : jFa ra J J2 := (jFa.fr a3).trans (jFa.of b3)
  have ent : ∀ d R, kX xs (d + 6) 38 0 [some (.ref 3), some (.ref ra), none] [] (kmm I J rf g) R = kX xs (d + 6) 38 30 [some (.ref 3), some (.ref ra), none] [.int (bz (nw1 T D s))] (kmm I2 J2 rf g) R := by
    intro d R
    rw [B38_0, kg6_0 hr, kO_s, h.d.nj, c8_7, if_pos (nI_lt hn (by decide)), B38_18, kg5_0, kO_s, krecv_m ks1, kcond_t, show d + 5 = d + 1 + 4 from rfl, a4, kpush_n, B38_25, krecv_m ks3, kcond_t, b4, kpush_s]
  by_cases f1 : (nw1 T D s).F = 0
  · have ent2 : ∀ d R, kX xs (d + 6) 38 0 [some (.ref 3), some (.ref ra), none] [] (kmm I J rf g) R = kX xs (d + 6) 38 35 [some (.ref 3), some (.ref ra), none] [] (kmm I2 J2 rf g) R := by
      intro d R
      rw [ent, B38_30, bz_1 f1, if_neg (by decide)]
    have ek := c_kd b1.p
    have hkl : kdO T (nw1 T D s) < 2147483648 := Nat.lt_of_le_of_lt (kd_lt v (nw1 T D s)) (by decide)
    have hname : J2 3 2 = nJ (cnv 8 (tV T (pT T (s.k + 1)))) := b0 f1
    by_cases kk : 139 ≤ kdO T (nw1 T D s) ∧ kdO T (nw1 T D s) ≤ 142
    · have e2 : jg2 T D s = stp (nw1 T D s) := by unfold jg2; rw [iF_p f1]; exact if_pos kk
      obtain ⟨I3, J3, c1, c2, c3, c4⟩ := a_stp (xs := xs) (rf := rf) (g := g) v hq b1
      rw [← e2] at c1
      have f2 : (jg2 T D s).F = 0 := by rw [e2]; exact f1
      obtain ⟨I4, J4, d1, d2, d3, d4⟩ := a_tak (xs := xs) (rf := rf) (g := g) (c := 129) v (by decide) (by decide) hq c1 f2
      have e3 : tak T 129 (jg2 T D s) = jg3 T D s := rfl
      rw [e3] at d1 d4
      have F4 : cFa ra I I4 := F2.trans ((cFa.fr c2).trans (cFa.fr d2))
      have G4 : jFa ra J J4 := G2.trans ((jFa.fr c3).trans (jFa.fr d3))
      have ent4 : ∀ d R, kX xs (d + 6) 38 0 [some (.ref 3), some (.ref ra), none] [] (kmm I J rf g) R = kX xs (d + 6) 38 83 [some (.ref 3), some (.ref ra), some (.int (nI (kdO T (nw1 T D s))))] [.int (bz (jg3 T D s))] (kmm I4 J4 rf g) R := by
        intro d R
        rw [ent2, B38_35, kg5_0, kO_s, kg2_3, kO_s, ek, c16_139, if_neg (nI_nlt kk.1 hkl), B38_50, c16_142, if_neg (nI_nlt kk.2 (by decide)), B38_66, kg5_0, kO_s, krecv_m ks1, kcond_t, show d + 5 = d + 1 + 4 from rfl, c4, kpush_n, B38_73, kg5_0, kO_s, krecv_m ks1, kcond_t, c16_129, d4, kpush_s]
      by_cases f3 : (jg3 T D s).F = 0
      · obtain ⟨I5, J5, g1, g0, g2, g3, g4⟩ := a_tkN (xs := xs) (rf := rf) (g := g) (m := 20) v (by decide) hq d1 f3
        have e4 : tkN T 20 (jg3 T D s) = jg4 T D s := (iF_p f3).symm
        rw [e4] at g1 g0 g4
        have F5 : cFa ra I I5 := F4.trans (cFa.of g2)
        have G5 : jFa ra J J5 := G4.trans (jFa.fr g3)
        have ent5 : ∀ d R, kX xs (d + 6) 38 0 [some (.ref 3), some (.ref ra), none] [] (kmm I J rf g) R = kX xs (d + 6) 38 92 [some (.ref 3), some (.ref ra), some (.int (nI (kdO T (nw1 T D s))))] [.int (bz (jg4 T D s))] (kmm I5 J5 rf g) R := by
          intro d R
          rw [ent4, B38_83, bz_1 f3, if_neg (by decide), B38_86, krecv_m ks3, kcond_t, c8_20, g4, kpush_s]
        by_cases f4 : (jg4 T D s).F = 0
        · obtain ⟨I6, J6, h1, h2, h3, h4⟩ := a_tak (xs := xs) (rf := rf) (g := g) (c := 59) v (by decide) (by decide) hq g1 f4
          have e5 : tak T 59 (jg4 T D s) = jgS T D s := rfl
          rw [e5] at h1 h4
          have F6 : cFa ra I I6 := F5.trans (cFa.fr h2)
          have G6 : jFa ra J J6 := G5.trans (jFa.fr h3)
          have ent6 : ∀ d R, kX xs (d + 6) 38 0 [some (.ref 3), some (.ref ra), none] [] (kmm I J rf g) R = kX xs (d + 6) 38 104 [some (.ref 3), some (.ref ra), some (.int (nI (kdO T (nw1 T D s))))] [.int (bz (jgS T D s))] (kmm I6 J6 rf g) R := by
            intro d R
            rw [ent5, B38_92, bz_1 f4, if_neg (by decide), B38_95, kg5_0, kO_s, krecv_m ks1, kcond_t, c8_59, h4, kpush_s]
          have en6 : J6 3 2 = nJ (cnv 8 (tV T (pT T (s.k + 1)))) := by rw [h3 _ _ (by decide), g3 _ _ (by decide), d3 _ _ (by decide), c3 _ _ (by decide)]; exact hname
          have el6 : I6 3 3 = nI (tV T (pT T (jg3 T D s).k)) := by rw [h2 _ _ (by decide) r1 r2]; exact g0 f4
          by_cases f5 : (jgS T D s).F = 0
          · rw [if_pos f5]
            obtain ⟨I7, J7, i1, i2, i3, i4⟩ := c_53 (xs := xs) (rf := rf) (g := g) (vn := tV T (pT T (s.k + 1))) (kk := kdO T (nw1 T D s) - 139) (ll := tV T (pT T (jg3 T D s).k)) hr h1 hn
            refine ⟨I7, J7, i1, F6.trans i2, G6.trans i3, fun d R => ?_⟩
            rw [ent6, B38_104, bz_1 f5, if_neg (by decide), B38_109, kg5_2, kO_s, en6, kg5_3, kO_s, el6, krecv_m hr, kcond_t, c16_139, nI_sb kk.1, i4, kpush_n, B38_126, if_pos nar1]
          · rw [if_neg f5]
            refine ⟨I6, J6, h1, F6, G6, fun d R => ?_⟩
            rw [ent6, B38_104, bz_0 f5, if_pos rfl, B38_107, if_pos nar0]
        · have e5 : jgS T D s = jg4 T D s := tak_n f4
          rw [e5, if_neg f4]
          refine ⟨I5, J5, g1, F5, G5, fun d R => ?_⟩
          rw [ent5, B38_92, bz_0 f4, if_pos rfl, B38_107, if_pos nar0]
      · have e4 : jg4 T D s = jg3 T D s := iF_n f3
        have e5 : jgS T D s = jg3 T D s := by unfold jgS; rw [e4]; exact tak_n f3
        rw [e5, if_neg f3]
        refine ⟨I4, J4, d1, F4, G4, fun d R => ?_⟩
        rw [ent4, B38_83, bz_0 f3, if_pos rfl, B38_107, if_pos nar0]
    · obtain ⟨I3, c1, c2, c4⟩ := a_wrg (xs := xs) (rf := rf) (g := g) (c := 1) hq b1 f1
      have wF := wrgF (T := T) (c := 1) (by decide) f1
      have e2 : jg2 T D s = wrg T 1 (nw1 T D s) := by unfold jg2; rw [iF_p f1]; exact if_neg kk
      have e5 : jgS T D s = wrg T 1 (nw1 T D s) := by unfold jgS jg4 jg3; rw [e2, tak_n wF, iF_n wF, tak_n wF]
      rw [e5, if_neg wF]
      have c4' : ∀ d R, kX xs d 17 0 [some (.ref 1), some (.int 1)] [] (kmm I2 J2 rf g) R = R (some (.int 0)) (kmm I3 J2 rf g) := c4
      refine ⟨I3, J2, c1, F2.trans (cFa.fr c2), G2, fun d R => ?_⟩
      have fin : ∀ d R, kX xs (d + 6) 38 57 [some (.ref 3), none, none] [] (kmm I2 J2 rf g) R = R (some (.int (bz (wrg T 1 (nw1 T D s))))) (kmm I3 J2 rf g) := by
        intro d R
        rw [B38_57, kg5_0, kO_s, krecv_m ks1, kcond_t, c4', kpush_s, B38_65, if_pos nar0, bz_0 wF]
      rw [ent2, B38_35, kg5_0, kO_s, kg2_3, kO_s, ek, c16_139]
      by_cases z : kdO T (nw1 T D s) < 139
      · rw [if_pos (nI_lt z (by decide)), fin]
      · rw [if_neg (nI_nlt (Nat.le_of_not_lt z) hkl), B38_50, c16_142, if_pos (nI_lt (Nat.lt_of_not_le (fun y => kk ⟨Nat.le_of_not_lt z, y⟩)) hkl), fin]
  · have e5 : jgS T D s = nw1 T D s := by unfold jgS jg4 jg3 jg2; rw [iF_n f1, tak_n f1, iF_n f1, tak_n f1]
    rw [e5, if_neg f1]
    refine ⟨I2, J2, b1, F2, G2, fun d R => ?_⟩
    rw [ent, B38_30, bz_0 f1, if_pos rfl, B38_33, if_pos nar0]
/-- Reader.readCase -/
theorem c_39 (v : vTp T) (hr : kshp ra = some (.inl 6)) (hv : vDr D) (h : cAS I J T ra s D) (hF : s.F = 0) (hn : D.nc < 7) : ∃ I' J', cAS I' J' T ra (csS T D s) (if (csS T D s).F = 0 then csD T D s else D) ∧ cFa ra I I' ∧ jFa ra J J' ∧ ∀ d R, kX xs (d + 6) 39 0 [some (.ref 3), some (.ref ra), none] [] (kmm I J rf g) R = R (some (.int (bz (csS T D s)))) (kmm I' J' rf g) := by
  have ha := kad6 hr
  have hq : 4 ≤ ra := by omega
  have r1 : 3 ≠ ra + 5 := by omega
  have r2 : 3 ≠ ra + 5 + 1 := by omega
  obtain ⟨I1, J1, a1, a2, a3, a4⟩ := a_stp (xs := xs) (rf := rf) (g := g) v hq h
  obtain ⟨I2, J2, b1, b0, b2, b3, b4⟩ := c_46 (xs := xs) (rf := rf) (g := g) v hr hv a1 hF
  have e1 : nwN T D (stp s) = nw1 T D s := rfl
  rw [e1] at b1 b0 b4
  have F2 : cFa ra I I2 := (cFa.fr a2).trans (cFa.fr b2)
  have G2 : jFa ra J J2 := (jFa.fr a3).trans (jFa.of b3)
  have ent : ∀ d R, kX xs (d + 6) 39 0 [some (.ref 3), some (.ref ra), none] [] (kmm I J rf g) R = kX xs (d + 6) 39 30 [some (.ref 3), some (.ref ra), none] [.int (bz (nw1 T D s))] (kmm I2 J2 rf g) R := by
    intro d R
    rw [B39_0, kg6_1 hr, kO_s, h.d.nc, c8_7, if_pos (nI_lt hn (by decide)), B39_18, kg5_0, kO_s, krecv_m ks1, kcond_t, show d + 5 = d + 1 + 4 from rfl, a4, kpush_n, B39_25, krecv_m ks3, kcond_t, b4, kpush_s]
  by_cases f1 : (nw1 T D s).F = 0
  · have hname : J2 3 2 = nJ (cnv 8 (tV T (pT T (s.k + 1)))) := b0 f1
    obtain ⟨I4, J4, d1, d2, d3, d4⟩ := a_tak (xs := xs) (rf := rf) (g := g) (c := 131) v (by decide) (by decide) hq b1 f1
    have e3 : tak T 131 (nw1 T D s) = cs2 T D s := rfl
    rw [e3] at d1 d4
    have F4 : cFa ra I I4 := F2.trans (cFa.fr d2)
    have G4 : jFa ra J J4 := G2.trans (jFa.fr d3)
    have ent4 : ∀ d R, kX xs (d + 6) 39 0 [some (.ref 3), some (.ref ra), none] [] (kmm I J rf g) R = kX xs (d + 6) 39 43 [some (.ref 3), some (.ref ra), none] [.int (bz (cs2 T D s))] (kmm I4 J4 rf g) R := by
      intro d R
      rw [ent, B39_30, bz_1 f1, if_neg (by decide), B39_33, kg5_0, kO_s, krecv_m ks1, kcond_t, c16_131, d4, kpush_s]
    by_cases f2 : (cs2 T D s).F = 0
    · obtain ⟨I5, J5, g1, g0, g2, g3, g4⟩ := a_tkN (xs := xs) (rf := rf) (g := g) (m := 20) v (by decide) hq d1 f2
      have e4 : tkN T 20 (cs2 T D s) = cs3 T D s := (iF_p f2).symm
      rw [e4] at g1 g0 g4
      have F5 : cFa ra I I5 := F4.trans (cFa.of g2)
      have G5 : jFa ra J J5 := G4.trans (jFa.fr g3)
      have ent5 : ∀ d R, kX xs (d + 6) 39 0 [some (.ref 3), some (.ref ra), none] [] (kmm I J rf g) R = kX xs (d + 6) 39 52 [some (.ref 3), some (.ref ra), none] [.int (bz (cs3 T D s))] (kmm I5 J5 rf g) R := by
        intro d R
        rw [ent4, B39_43, bz_1 f2, if_neg (by decide), B39_46, krecv_m ks3, kcond_t, c8_20, g4, kpush_s]
      by_cases f3 : (cs3 T D s).F = 0
      · have eg : I5 3 3 = nI (tV T (pT T (cs2 T D s).k)) := g0 f3
        obtain ⟨I6, J6, h1, h2, h3, h4⟩ := a_tak (xs := xs) (rf := rf) (g := g) (c := 132) v (by decide) (by decide) hq g1 f3
        have e5 : tak T 132 (cs3 T D s) = cs4 T D s := rfl
        rw [e5] at h1 h4
        have F6 : cFa ra I I6 := F5.trans (cFa.fr h2)
        have G6 : jFa ra J J6 := G5.trans (jFa.fr h3)
        have ent6 : ∀ d R, kX xs (d + 6) 39 0 [some (.ref 3), some (.ref ra), none] [] (kmm I J rf g) R = kX xs (d + 6) 39 72 [some (.ref 3), some (.ref ra), some (.int (nI (tV T (pT T (cs2 T D s).k))))] [.int (bz (cs4 T D s))] (kmm I6 J6 rf g) R := by
          intro d R
          rw [ent5, B39_52, bz_1 f3, if_neg (by decide), B39_57, kg5_3, kO_s, eg, kg5_0, kO_s, krecv_m ks1, kcond_t, c16_132, h4, kpush_s]
        by_cases f4 : (cs4 T D s).F = 0
        · obtain ⟨I7, J7, i1, i0, i2, i3, i4⟩ := a_tkN (xs := xs) (rf := rf) (g := g) (m := 3) v (by decide) hq h1 f4
          have e6 : tkN T 3 (cs4 T D s) = cs5 T D s := (iF_p f4).symm
          rw [e6] at i1 i0 i4
          have i4' : ∀ d R, kX xs (d + 5) 45 0 [some (.ref 3), some (.int 3)] [] (kmm I6 J6 rf g) R = R (some (.int (bz (cs5 T D s)))) (kmm I7 J7 rf g) := i4
          have F7 : cFa ra I I7 := F6.trans (cFa.of i2)
          have G7 : jFa ra J J7 := G6.trans (jFa.fr i3)
          have ent7 : ∀ d R, kX xs (d + 6) 39 0 [some (.ref 3), some (.ref ra), none] [] (kmm I J rf g) R = kX xs (d + 6) 39 80 [some (.ref 3), some (.ref ra), some (.int (nI (tV T (pT T (cs2 T D s).k))))] [.int (bz (cs5 T D s))] (kmm I7 J7 rf g) R := by
            intro d R
            rw [ent6, B39_72, bz_1 f4, if_neg (by decide), B39_75, krecv_m ks3, kcond_t, i4', kpush_s]
          by_cases f5 : (cs5 T D s).F = 0
          · obtain ⟨I8, J8, j1, j2, j3, j4⟩ := a_tak (xs := xs) (rf := rf) (g := g) (c := 59) v (by decide) (by decide) hq i1 f5
            have e7 : tak T 59 (cs5 T D s) = csS T D s := rfl
            rw [e7] at j1 j4
            have F8 : cFa ra I I8 := F7.trans (cFa.fr j2)
            have G8 : jFa ra J J8 := G7.trans (jFa.fr j3)
            have ent8 : ∀ d R, kX xs (d + 6) 39 0 [some (.ref 3), some (.ref ra), none] [] (kmm I J rf g) R = kX xs (d + 6) 39 92 [some (.ref 3), some (.ref ra), some (.int (nI (tV T (pT T (cs2 T D s).k))))] [.int (bz (csS T D s))] (kmm I8 J8 rf g) R := by
              intro d R
              rw [ent7, B39_80, bz_1 f5, if_neg (by decide), B39_83, kg5_0, kO_s, krecv_m ks1, kcond_t, c8_59, j4, kpush_s]
            have en8 : J8 3 2 = nJ (cnv 8 (tV T (pT T (s.k + 1)))) := by rw [j3 _ _ (by decide), i3 _ _ (by decide), h3 _ _ (by decide), g3 _ _ (by decide), d3 _ _ (by decide)]; exact hname
            have el8 : I8 3 3 = nI (tV T (pT T (cs4 T D s).k)) := by rw [j2 _ _ (by decide) r1 r2]; exact i0 f5
            by_cases f6 : (csS T D s).F = 0
            · rw [if_pos f6]
              obtain ⟨I9, J9, k1, k2, k3, k4⟩ := c_54 (xs := xs) (rf := rf) (g := g) (vn := tV T (pT T (s.k + 1))) (kk := tV T (pT T (cs2 T D s).k)) (ll := tV T (pT T (cs4 T D s).k)) hr j1 hn
              refine ⟨I9, J9, k1, F8.trans k2, G8.trans k3, fun d R => ?_⟩
              rw [ent8, B39_92, bz_1 f6, if_neg (by decide), B39_97, kg5_2, kO_s, en8, kg5_3, kO_s, el8, krecv_m hr, kcond_t, k4, kpush_n, B39_110, if_pos nar1]
            · rw [if_neg f6]
              refine ⟨I8, J8, j1, F8, G8, fun d R => ?_⟩
              rw [ent8, B39_92, bz_0 f6, if_pos rfl, B39_95, if_pos nar0]
          · have e8 : csS T D s = cs5 T D s := tak_n f5
            rw [e8, if_neg f5]
            refine ⟨I7, J7, i1, F7, G7, fun d R => ?_⟩
            rw [ent7, B39_80, bz_0 f5, if_pos rfl, B39_95, if_pos nar0]
        · have e8 : csS T D s = cs4 T D s := by unfold csS cs5; rw [iF_n f4, tak_n f4]
          rw [e8, if_neg f4]
          refine ⟨I6, J6, h1, F6, G6, fun d R => ?_⟩
          rw [ent6, B39_72, bz_0 f4, if_pos rfl, B39_95, if_pos nar0]
      · have e8 : csS T D s = cs3 T D s := by unfold csS cs5 cs4; rw [tak_n f3, iF_n f3, tak_n f3]
        rw [e8, if_neg f3]
        refine ⟨I5, J5, g1, F5, G5, fun d R => ?_⟩
        rw [ent5, B39_52, bz_0 f3, if_pos rfl, B39_55, if_pos nar0]
    · have e8 : csS T D s = cs2 T D s := by unfold csS cs5 cs4 cs3; rw [iF_n f2, tak_n f2, iF_n f2, tak_n f2]
      rw [e8, if_neg f2]
      refine ⟨I4, J4, d1, F4, G4, fun d R => ?_⟩
      rw [ent4, B39_43, bz_0 f2, if_pos rfl, B39_55, if_pos nar0]
  · have e8 : csS T D s = nw1 T D s := by unfold csS cs5 cs4 cs3 cs2; rw [tak_n f1, iF_n f1, tak_n f1, iF_n f1, tak_n f1]
    rw [e8, if_neg f1]
    refine ⟨I2, J2, b1, F2, G2, fun d R => ?_⟩
    rw [ent, B39_30, bz_0 f1, if_pos rfl, B39_55, if_pos nar0]
end CK
