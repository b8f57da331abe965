/-! the class reads a part, and the law -/
section CP
variable {xs : List Int32} {d : Nat} {I I' I2 : Nat → Nat → Int32} {J J' J2 : Nat → Nat → Int64} {rf : Nat → Nat} {g : Nat} {R : Option Value → KW → Prop} {w : KW} {T : aTp} {a m h : Nat} {s : aPS}
theorem kd_lt (v : vTp T) (s : aPS) : kdO T s ≤ 150 := tK_le v _
/-- isFact -/
theorem sp24e (v : vTp T) (h : cPS I J T a s) : kX xs d 24 0 [some (.ref 1)] [] (kmm I J rf g) R = R (some (.int (nI (bN (decide (okF (kdO T s))))))) (kmm I J rf g) := by
  have ek := c_kd h
  have hl := kd_lt v s
  rw [B24_0, kg2_3, kO_s, ek, c16_146]
  by_cases q : kdO T s < 146
  · rw [if_pos (nI_lt q (by omega)), B24_24, B24_25, if_pos nar0, decide_eq_false (fun e => by unfold okF at e; omega)]; rfl
  · rw [if_neg (nI_nlt (by omega) (by omega)), B24_10, kg2_3, kO_s, ek, c16_149]
    by_cases q2 : 149 < kdO T s
    · rw [if_pos (nI_lt q2 (by omega)), B24_24, B24_25, if_pos nar0, decide_eq_false (fun e => by unfold okF at e; omega)]; rfl
    · rw [if_neg (nI_nlt (by omega) (by omega)), B24_20, B24_25, if_pos nar1, decide_eq_true (show okF (kdO T s) by unfold okF; omega)]; rfl
theorem pEnt (v : vTp T) {dp : Int32} (h : cPS I J T a s) : kX xs (d + 1) 11 0 [some (.ref 4), some (.ref a), some (.int dp), none, none, none] [] (kmm I J rf g) R = if kdO T s = 2 ∨ okF (kdO T s) then kX xs (d + 1) 11 57 [some (.ref 4), some (.ref a), some (.int dp), some (.int (nI (kdO T s))), some (.int 1), none] [] (kmm I J rf g) R else if kdO T s = 143 ∨ kdO T s = 40 then kX xs (d + 1) 11 57 [some (.ref 4), some (.ref a), some (.int dp), some (.int (nI (kdO T s))), some (.int 0), none] [] (kmm I J rf g) R else kX xs (d + 1) 11 48 [some (.ref 4), some (.ref a), some (.int dp), some (.int (nI (kdO T s))), some (.int 0), none] [] (kmm I J rf g) R := by
  have ek := c_kd h
  have e2 : (nI (kdO T s) = 2) = (kdO T s = 2) := kd_eq (c := 2) v (by omega)
  rw [B11_0, kg1_0, kO_s, kg2_3, kO_s, ek]
  by_cases q : kdO T s = 2
  · rw [if_pos (e2.mpr q), B11_23, B11_28, if_neg (by decide), if_pos (Or.inl q)]
  · rw [if_neg (fun e => q (e2.mp e)), B11_13, kg1_0, kO_s, krecv_m ks1, kcond_t, sp24e v h, kpush_s, B11_20]
    by_cases q2 : okF (kdO T s)
    · rw [if_neg (by rw [decide_eq_true q2]; decide), B11_23, B11_28, if_neg (by decide), if_pos (Or.inr q2)]
    · rw [if_pos (by rw [decide_eq_false q2]; rfl), B11_27, B11_28, if_pos rfl, B11_35, c16_143, if_neg (show ¬ (kdO T s = 2 ∨ okF (kdO T s)) from fun e => e.elim q q2)]
      by_cases q3 : kdO T s = 143
      · rw [if_pos ((kd_eq v (by omega)).mpr q3), if_pos (show kdO T s = 143 ∨ kdO T s = 40 from Or.inl q3)]
      · rw [if_neg (fun e => q3 ((kd_eq v (by omega)).mp e)), B11_42, c8_40]
        by_cases q4 : kdO T s = 40
        · rw [if_pos ((kd_eq v (by omega)).mpr q4), if_pos (show kdO T s = 143 ∨ kdO T s = 40 from Or.inr q4)]
        · rw [if_neg (fun e => q4 ((kd_eq v (by omega)).mp e)), if_neg (show ¬ (kdO T s = 143 ∨ kdO T s = 40) from fun e => e.elim q3 q4)]
theorem c_11 (v : vTp T) (hk : kshp a = some (.inl 0)) (ha : 3 ≤ a) : ∀ f dp, dp + f = 5 → cOne xs T a rf g 11 [some (.ref 4), some (.ref a), some (.int (nI dp)), none, none, none] (5 * f + 6) (par T f) := by
  have hn := (nT_ok T).1
  have hn2 := v.n
  intro f
  induction f with
  | zero =>
    intro dp hdp I J s hs h1 h2 hF
    rw [par]
    by_cases q : okP (kdO T s)
    · rw [if_pos q]
      obtain ⟨I1, a1, a2, a4⟩ := c_wrg (xs := xs) (rf := rf) (g := g) (c := 5) ha hs hF
      have a4' : ∀ d R, kX xs d 17 0 [some (.ref 1), some (.int 5)] [] (kmm I J rf g) R = R (some (.int 0)) (kmm I1 J rf g) := a4
      refine ⟨I1, J, a1, a2, jFr.refl, fun d R => ?_⟩
      have fin : ∀ x d R, kX xs (d + 1) 11 57 [some (.ref 4), some (.ref a), some (.int (nI dp)), some (.int (nI (kdO T s))), some (.int x), none] [] (kmm I J rf g) R = R (some (.int (bz (wrg T 5 s)))) (kmm I1 J rf g) := by
        intro x d R
        rw [B11_57, show dp = 5 by omega, if_neg (by decide), B11_62, kg1_0, kO_s, krecv_m ks1, kcond_t, a4', kpush_s, B11_70, if_pos nar0, bz_0 (wrgF (by omega) hF)]
      rw [show d + (5 * 0 + 6) = d + 5 + 1 from rfl, pEnt v hs]
      by_cases q1 : kdO T s = 2 ∨ okF (kdO T s)
      · rw [if_pos q1, fin]
      · rw [if_neg q1]
        by_cases q2 : kdO T s = 143 ∨ kdO T s = 40
        · rw [if_pos q2, fin]
        · unfold okP at q; omega
    · rw [if_neg q]
      obtain ⟨I1, a1, a2, a4⟩ := c_wrg (xs := xs) (rf := rf) (g := g) (c := 1) ha hs hF
      have a4' : ∀ d R, kX xs d 17 0 [some (.ref 1), some (.int 1)] [] (kmm I J rf g) R = R (some (.int 0)) (kmm I1 J rf g) := a4
      refine ⟨I1, J, a1, a2, jFr.refl, fun d R => ?_⟩
      unfold okP at q
      rw [show d + (5 * 0 + 6) = d + 5 + 1 from rfl, pEnt v hs, if_neg (fun e => q (by omega)), if_neg (fun e => q (by omega)), B11_48, kg1_0, kO_s, krecv_m ks1, kcond_t, a4', kpush_s, B11_56, if_pos nar0, bz_0 (wrgF (by omega) hF)]
  | succ f ih =>
    intro dp hdp I J s hs h1 h2 hF
    have IH := ih (dp + 1) (by omega)
    have H7 : cOne xs T a rf g 7 [some (.ref 4), some (.ref a), some (.int (nI (dp + 1))), none, none, none] (5 * f + 10) (who T (par T f)) := c_7 (h := 5 * f + 5) v hk ha (avn_tst (avn_par f)) (c_8 (h := 5 * f + 4) v hk ha (avn_sms (avn_par f)) (c_9 (h := 5 * f + 3) v hk ha (avn_prd (avn_par f)) (c_10 (h := 5 * f + 2) v hk ha (avn_par f) IH)))
    have eD : ∀ d, d + (5 * (f + 1) + 6) = d + (5 * f + 10) + 1 := fun d => by omega
    rw [par]
    by_cases q : okP (kdO T s)
    · rw [if_pos q]
      have hlt := kdO_lt h1 (fun e => by rw [e] at q; unfold okP okF at q; omega)
      have v1 := avn_stp hlt
      have c57 : ∀ x d R, kX xs d 11 57 [some (.ref 4), some (.ref a), some (.int (nI dp)), some (.int (nI (kdO T s))), some (.int x), none] [] (kmm I J rf g) R = kX xs d 11 71 [some (.ref 4), some (.ref a), some (.int (nI dp)), some (.int (nI (kdO T s))), some (.int x), none] [] (kmm I J rf g) R := fun x d R => by
        rw [B11_57, if_pos (show nI dp < 5 from nI_lt (b := 5) (by omega) (by omega))]
      have plain : ∀ o x, ∃ I' J', cPS I' J' T a (stp (emi o x s)) ∧ cFr a I I' ∧ jFr J J' ∧ ∀ d R, kX xs (d + 5) 11 99 [some (.ref 4), none, none, none, none, none] [.int (enc o x), .ref a] (kmm I J rf g) R = R (some (.int (bz (stp (emi o x s))))) (kmm I' J' rf g) := by
        intro o x
        obtain ⟨I1, a1, a2, a4⟩ := c_emi (xs := xs) (rf := rf) (g := g) (o := o) (x := x) hk ha hs (by omega)
        obtain ⟨I2, J2, b1, b2, b3, b4⟩ := c_stp (xs := xs) (rf := rf) (g := g) v ha a1
        refine ⟨I2, J2, b1, a2.trans b2, b3, fun d R => ?_⟩
        rw [B11_99, krecv_m hk, kcond_t, a4, kpush_n, B11_102, kg1_0, kO_s, krecv_m ks1, kcond_t, b4, kpush_n, B11_109, if_pos nar1, bz_1 (s := stp (emi o x s)) hF]
      by_cases q1 : kdO T s = 2
      · rw [if_pos q1]
        obtain ⟨I1, J1, a1, a2, a3, a4⟩ := plain 1 (tV T (pT T s.k))
        refine ⟨I1, J1, a1, a2, a3, fun d R => ?_⟩
        have e5 : I 1 5 = enc 1 (tV T (pT T s.k)) := hs.tk.n q1
        have eD2 : d + (5 * f + 10) + 1 = d + (5 * f + 6) + 5 := by omega
        rw [eD, pEnt v hs, if_pos (Or.inl q1), c57, B11_71, if_neg (by decide), B11_76, if_pos (show nI (kdO T s) = 2 by rw [q1]; rfl), B11_82, kg1_0, kO_s, kg2_5, kO_s, e5, eD2, a4]
      · rw [if_neg q1]
        by_cases q2 : okF (kdO T s)
        · rw [if_pos q2]
          obtain ⟨I1, J1, a1, a2, a3, a4⟩ := plain 2 (kdO T s - 146)
          refine ⟨I1, J1, a1, a2, a3, fun d R => ?_⟩
          have eD2 : d + (5 * f + 10) + 1 = d + (5 * f + 6) + 5 := by omega
          have e2 : (nI (kdO T s) = 2) = (kdO T s = 2) := kd_eq (c := 2) v (by omega)
          have ee : -1 - (nI (kdO T s) - nI 146) = enc 2 (kdO T s - 146) := by
            unfold okF at q2
            rw [nI_sb (by omega)]; rfl
          rw [eD, pEnt v hs, if_pos (Or.inr q2), c57, B11_71, if_neg (by decide), B11_76, if_neg (fun e => q1 (e2.mp e)), B11_92, c16_146, ee, eD2, a4]
        · rw [if_neg q2]
          obtain ⟨I1, J1, a1, a2, a3, a4⟩ := c_stp (xs := xs) (rf := rf) (g := g) v ha hs
          by_cases q3 : kdO T s = 40
          · rw [if_pos q3]
            obtain ⟨I2, J2, b1, b2, b3, b4⟩ := H7 I1 J1 (stp s) a1 v1.n (by have := avnL v1 h2; omega) hF
            by_cases q4 : (who T (par T f) (stp s)).F = 0
            · obtain ⟨I3, J3, c1, c2, c3, c4⟩ := c_tak (xs := xs) (rf := rf) (g := g) (c := 41) v (by omega) (by omega) ha b1 q4
              refine ⟨I3, J3, c1, a2.trans (b2.trans c2), a3.trans (b3.trans c3), fun d R => ?_⟩
              have eD2 : d + (5 * f + 10) = d + (5 * f + 6) + 4 := by omega
              have eD3 : d + (5 * f + 10) = d + (5 * f + 5) + 5 := by omega
              rw [eD, pEnt v hs, if_neg (fun e => e.elim q1 q2), if_pos (Or.inr q3), c57, B11_71, if_pos rfl, B11_111, kg1_0, kO_s, krecv_m ks1, kcond_t]
              rw [eD2, a4, ← eD2, kpush_n, B11_118, c8_40, if_pos ((kd_eq v (by omega)).mpr q3), B11_124, krecv_m ks4, kcond_t, nI_add1, b4, kpush_s, B11_132, bz_1 q4, if_neg (by decide), B11_135, kg1_0, kO_s, krecv_m ks1, kcond_t, c8_41, eD3, c4, kpush_s, B11_144]
              by_cases q5 : (tak T 41 (who T (par T f) (stp s))).F = 0
              · rw [bz_1 q5, if_neg (by decide), B11_147, B11_152, if_pos nar1]
              · rw [bz_0 q5, if_pos rfl, B11_151, B11_152, if_pos nar0]
            · have et : tak T 41 (who T (par T f) (stp s)) = who T (par T f) (stp s) := if_neg q4
              rw [et]
              refine ⟨I2, J2, b1, a2.trans b2, a3.trans b3, fun d R => ?_⟩
              have eD2 : d + (5 * f + 10) = d + (5 * f + 6) + 4 := by omega
              rw [eD, pEnt v hs, if_neg (fun e => e.elim q1 q2), if_pos (Or.inr q3), c57, B11_71, if_pos rfl, B11_111, kg1_0, kO_s, krecv_m ks1, kcond_t]
              rw [eD2, a4, ← eD2, kpush_n, B11_118, c8_40, if_pos ((kd_eq v (by omega)).mpr q3), B11_124, krecv_m ks4, kcond_t, nI_add1, b4, kpush_s, B11_132, bz_0 q4, if_pos rfl, B11_151, B11_152, if_pos nar0]
          · rw [if_neg q3]
            have q4 : kdO T s = 143 := by unfold okP at q; omega
            obtain ⟨I2, J2, b1, b2, b3, b4⟩ := IH I1 J1 (stp s) a1 v1.n (by have := avnL v1 h2; omega) hF
            have v2 := v1.trans (avn_par f (stp s) v1.n)
            have l2 := avnL v2 h2
            have n2 := v2.n
            obtain ⟨I3, c1, c2, c4⟩ := c_emi (xs := xs) (rf := rf) (g := g) (o := 3) (x := 0) hk ha b1 (by omega)
            refine ⟨I3, J2, c1, a2.trans (b2.trans c2), a3.trans b3, fun d R => ?_⟩
            have c4' : ∀ d R, kX xs d 1 0 [some (.ref a), some (.int (-10))] [] (kmm I2 J2 rf g) R = R none (kmm I3 J2 rf g) := c4
            have eD2 : d + (5 * f + 10) = d + (5 * f + 6) + 4 := by omega
            have eD3 : d + (5 * f + 6) + 4 = (d + 4) + (5 * f + 6) := by omega
            rw [eD, pEnt v hs, if_neg (fun e => e.elim q1 q2), if_pos (Or.inl q4), c57, B11_71, if_pos rfl, B11_111, kg1_0, kO_s, krecv_m ks1, kcond_t]
            rw [eD2, a4, kpush_n, B11_118, c8_40, if_neg (fun e => q3 ((kd_eq v (by omega)).mp e)), B11_153, krecv_m ks4, kcond_t, nI_add1, eD3, b4, kpush_s, B11_161, krecv_m hk, kcond_t, c8_m10, c4', kpush_n, B11_169, if_pos (bz_nar _)]
            rfl
    · rw [if_neg q]
      obtain ⟨I1, a1, a2, a4⟩ := c_wrg (xs := xs) (rf := rf) (g := g) (c := 1) ha hs hF
      have a4' : ∀ d R, kX xs d 17 0 [some (.ref 1), some (.int 1)] [] (kmm I J rf g) R = R (some (.int 0)) (kmm I1 J rf g) := a4
      refine ⟨I1, J, a1, a2, jFr.refl, fun d R => ?_⟩
      unfold okP at q
      rw [eD, pEnt v hs, if_neg (fun e => q (by omega)), if_neg (fun e => q (by omega)), B11_48, kg1_0, kO_s, krecv_m ks1, kcond_t, a4', kpush_s, B11_56, if_pos nar0, bz_0 (wrgF (by omega) hF)]
/-- LawReader.read -/
theorem c_6 (v : vTp T) (hk : kshp a = some (.inl 0)) (ha : 3 ≤ a) : cOne xs T a rf g 6 [some (.ref 4), some (.ref a)] 36 (who T (par T 5)) := by
  have H7 : cOne xs T a rf g 7 [some (.ref 4), some (.ref a), some (.int (nI 0)), none, none, none] (5 * 5 + 10) (who T (par T 5)) := c_7 (h := 5 * 5 + 5) v hk ha (avn_tst (avn_par 5)) (c_8 (h := 5 * 5 + 4) v hk ha (avn_sms (avn_par 5)) (c_9 (h := 5 * 5 + 3) v hk ha (avn_prd (avn_par 5)) (c_10 (h := 5 * 5 + 2) v hk ha (avn_par 5) (c_11 v hk ha 5 0 (by omega)))))
  intro I J s hs h1 h2 hF
  obtain ⟨I2, J2, b1, b2, b3, b4⟩ := H7 I J s hs h1 h2 hF
  refine ⟨I2, J2, b1, b2, b3, fun d R => ?_⟩
  have b4' : ∀ d R, kX xs (d + 35) 7 0 [some (.ref 4), some (.ref a), some (.int 0), none, none, none] [] (kmm I J rf g) R = R (some (.int (bz (who T (par T 5) s)))) (kmm I2 J2 rf g) := b4
  rw [show d + 36 = d + 35 + 1 from rfl, B6_0, krecv_m ks4, kcond_t, b4', kpush_s, B6_6, if_pos (bz_nar _)]
end CP
