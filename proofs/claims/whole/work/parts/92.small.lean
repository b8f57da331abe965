/-! what both readers take: names, numbers -/
abbrev okN (K : Nat) : Prop := K = 3 ∨ okF K
/-- a number of so many at most -/
def tkN (T : aTp) (m : Nat) (s : aPS) : aPS := if kdO T s = 2 then if tV T (pT T s.k) ≤ m then stp s else wrg T 4 s else wrg T 1 s
abbrev cFs (a : Nat) (I I' : Nat → Nat → Int32) : Prop := ∀ x k, ¬ (x = 1 ∧ 2 ≤ k ∧ k ≤ 7) → ¬ (x = 3 ∧ k = 3) → x ≠ a → x ≠ a + 1 → I' x k = I x k
section SM
variable {xs : List Int32} {d : Nat} {I I' I2 : Nat → Nat → Int32} {J J' : Nat → Nat → Int64} {rf : Nat → Nat} {g : Nat} {R : Option Value → KW → Prop} {w : KW} {T : aTp} {s : aPS} {a : Nat}
theorem kd_149 {T : aTp} {p : Nat} (v : vTp T) : tK T p ≤ 149 := by
  have h := tK_le v p
  refine Classical.byContradiction (fun q => ?_)
  have e : tK T p = 128 + 22 := by omega
  have es : srt (tK T p) = 1 := by rw [e]; decide
  have z := (tk1 es).1
  rw [e] at z
  have z2 := (wIx_get wrd37 0 22 z.symm).2
  have z3 : wrd37[22 - 0]? = none := rfl
  rw [z3] at z2
  cases z2
theorem cPS.keep (h : cPS I J T a s) (h1 : ∀ x k, x = 1 ∨ x = 2 ∨ x = a ∨ x = a + 1 → I' x k = I x k) (h2 : J' 1 6 = J 1 6) : cPS I' J' T a s :=
  ⟨⟨by rw [h1 _ _ (by omega)]; exact h.tk.e, by rw [h1 _ _ (by omega)]; exact h.tk.k, by rw [h1 _ _ (by omega)]; exact h.tk.p, fun q => by rw [h1 _ _ (by omega)]; exact h.tk.n q, fun q => by rw [h2]; exact h.tk.w q⟩, ⟨by rw [h1 _ _ (by omega)]; exact h.tp.n, fun k hk => by rw [h1 _ _ (by omega)]; exact h.tp.t k hk⟩, by rw [h1 _ _ (by omega)]; exact h.f, by rw [h1 _ _ (by omega)]; exact h.l, fun n hn => by rw [h1 _ _ (by omega)]; exact h.c n hn⟩
/-- Lexer.isName -/
theorem sp25e (v : vTp T) (h : cPS I J T a s) : kX xs (d + 1) 25 0 [some (.ref 1)] [] (kmm I J rf g) R = R (some (.int (nI (bN (decide (okN (kdO T s))))))) (kmm I J rf g) := by
  have ek := c_kd h
  have e3 : (nI (kdO T s) = 3) = (kdO T s = 3) := kd_eq (c := 3) v (by omega)
  rw [B25_0, kg2_3, kO_s, ek]
  by_cases q : kdO T s = 3
  · rw [if_pos (e3.mpr q), B25_15, B25_20, if_pos nar1, decide_eq_true (show okN (kdO T s) from Or.inl q)]; rfl
  · rw [if_neg (fun z => q (e3.mp z)), B25_8, krecv_m ks1, kcond_t, sp24e v h, kpush_s, B25_12]
    by_cases q2 : okF (kdO T s)
    · rw [if_neg (by rw [decide_eq_true q2]; decide), B25_15, B25_20, if_pos nar1, decide_eq_true (show okN (kdO T s) from Or.inr q2)]; rfl
    · rw [if_pos (by rw [decide_eq_false q2]; rfl), B25_19, B25_20, if_pos nar0, decide_eq_false (show ¬ okN (kdO T s) from fun z => z.elim q q2)]; rfl
/-- isName of the model -/
theorem sp177 (v : vTp T) (h : mPS I J T s) (hk : s.k ≤ nT T) : kX xs (d + 2) 177 0 [some (.ref 185)] [] (kmm I J rf g) R = R (some (.int (nI (bN (decide (s.F = 0 ∧ okN (kdO T s))))))) (kmm I J rf g) := by
  have hn := (nT_ok T).1
  have hn2 := v.n
  have ek := h.k
  have hl := kd_149 (p := pT T s.k) v
  have hl2 : kdO T s ≤ 149 := hl
  have wh : ∀ d R, kX xs (d + 1) 175 0 [some (.ref 185), some (.int 0), some (.int (nI 18)), none, none] [] (kmm I J rf g) R = R (some (.int (aWh T s 0 18))) (kmm I J rf g) := fun d R => sp175 (fr := 0) (mn := 18) v (by omega) h hk
  rw [B177_0, kg12_8, kO_s]
  by_cases q : s.F = 0
  · rw [if_pos ((mF0 h).mpr q), B177_7, kg12_4, kO_s, kg12_7, kO_s, ek, ka187 (by omega), kO_s, h.tk.s _ hk]
    have e1 : (nI (srt (tK T (pT T s.k))) = 1) = (srt (tK T (pT T s.k)) = 1) := srt_eq (c := 1) (by omega)
    by_cases q2 : srt (tK T (pT T s.k)) = 1
    · have q3 : kdO T s = 3 ∨ 128 ≤ kdO T s := by
        have z := (tk1 q2).1
        unfold kdO
        rw [z]
        exact wIx_2 wrd37 0
      rw [if_pos (e1.mpr q2), B177_20, krecv_m ks185, kcond_t, c8_18, wh, kpush_s, B177_27]
      by_cases q4 : okN (kdO T s)
      · have e : aWh T s 0 18 = -1 := by
          unfold aWh
          unfold okN okF at q4
          rw [if_neg (fun y => by omega)]
        rw [e, if_pos (by decide), B177_30, B177_35, if_pos nar1, decide_eq_true ⟨q, q4⟩]; rfl
      · have e : aWh T s 0 18 = nI (kdO T s - 128 - 0) := by
          unfold aWh
          unfold okN okF at q4
          rw [if_pos ⟨q, by omega, by omega⟩]
        rw [e, if_neg (nI_nn (by omega)), B177_34, B177_35, if_pos nar0, decide_eq_false (fun z => q4 z.2)]; rfl
    · have q4 : ¬ okN (kdO T s) := fun z => q2 (by
        have z' : tK T (pT T s.k) = 3 ∨ okF (tK T (pT T s.k)) := z
        unfold srt
        unfold okF at z'
        rw [if_neg (by omega), if_neg (by omega), if_neg (by omega), if_pos (by omega)])
      rw [if_neg (fun z => q2 (e1.mp z)), B177_34, B177_35, if_pos nar0, decide_eq_false (fun z => q4 z.2)]; rfl
  · rw [if_neg (fun z => q ((mF0 h).mp z)), B177_34, B177_35, if_pos nar0, decide_eq_false (fun z => q z.1)]; rfl
/-- Reader.takeNumber -/
theorem c_45 {m : Nat} (v : vTp T) (hm : m < 1000) (ha : 4 ≤ a) (h : cPS I J T a s) (hF : s.F = 0) : ∃ I' J', cPS I' J' T a (tkN T m s) ∧ ((tkN T m s).F = 0 → I' 3 3 = nI (tV T (pT T s.k)) ∧ tV T (pT T s.k) ≤ m) ∧ cFs a I I' ∧ jFr J J' ∧ ∀ d R, kX xs (d + 5) 45 0 [some (.ref 3), some (.int (nI m))] [] (kmm I J rf g) R = R (some (.int (bz (tkN T m s)))) (kmm I' J' rf g) := by
  have ek := c_kd h
  have e2 : (nI (kdO T s) = 2) = (kdO T s = 2) := kd_eq (c := 2) v (by omega)
  unfold tkN
  by_cases q : kdO T s = 2
  · rw [if_pos q]
    have e5 : I 1 5 = nI (tV T (pT T s.k)) := h.tk.n q
    have hv := tk2 q
    by_cases q2 : tV T (pT T s.k) ≤ m
    · rw [if_pos q2]
      have hk : cPS (ku I 3 3 (nI (tV T (pT T s.k)))) J T a s := h.keep (fun x k hx => by rw [ku_nea (by omega)]) rfl
      obtain ⟨I1, J1, a1, a2, a3, a4⟩ := c_stp (xs := xs) (rf := rf) (g := g) v (by omega) hk
      refine ⟨I1, J1, a1, fun _ => ⟨by rw [a2 _ _ (by omega) (by omega) (by omega), ku_same], q2⟩, fun x k p1 p2 p3 p4 => by rw [a2 x k p1 p3 p4, ku_ne p2], a3, fun d R => ?_⟩
      rw [B45_0, kg5_0, kO_s, kg2_3, kO_s, ek, if_pos (e2.mpr q), B45_20, kg5_0, kO_s, kg2_5, kO_s, e5, if_neg (nI_nlt (by omega) (by omega)), B45_40, kg5_0, kO_s, kg2_5, kO_s, e5, kp5_3, kO_s, kg5_0, kO_s, krecv_m ks1, kcond_t, a4, kpush_n, B45_58, if_pos nar1, bz_1 (s := stp s) hF]
    · rw [if_neg q2]
      obtain ⟨I1, a1, a2, a4⟩ := c_wrg (xs := xs) (rf := rf) (g := g) (c := 4) (by omega) h hF
      have a4' : ∀ d R, kX xs d 17 0 [some (.ref 1), some (.int 4)] [] (kmm I J rf g) R = R (some (.int 0)) (kmm I1 J rf g) := a4
      refine ⟨I1, J, a1, fun z => absurd z (wrgF (by omega) hF), fun x k p1 p2 p3 p4 => a2 x k p1 p3 p4, jFr.refl, fun d R => ?_⟩
      rw [B45_0, kg5_0, kO_s, kg2_3, kO_s, ek, if_pos (e2.mpr q), B45_20, kg5_0, kO_s, kg2_5, kO_s, e5, if_pos (nI_lt (by omega) (by omega)), B45_31, kg5_0, kO_s, krecv_m ks1, kcond_t, a4', kpush_s, B45_39, if_pos nar0, bz_0 (wrgF (by omega) hF)]
  · rw [if_neg q]
    obtain ⟨I1, a1, a2, a4⟩ := c_wrg (xs := xs) (rf := rf) (g := g) (c := 1) (by omega) h hF
    have a4' : ∀ d R, kX xs d 17 0 [some (.ref 1), some (.int 1)] [] (kmm I J rf g) R = R (some (.int 0)) (kmm I1 J rf g) := a4
    refine ⟨I1, J, a1, fun z => absurd z (wrgF (by omega) hF), fun x k p1 p2 p3 p4 => a2 x k p1 p3 p4, jFr.refl, fun d R => ?_⟩
    rw [B45_0, kg5_0, kO_s, kg2_3, kO_s, ek, if_neg (fun z => q (e2.mp z)), B45_11, kg5_0, kO_s, krecv_m ks1, kcond_t, a4', kpush_s, B45_19, if_pos nar0, bz_0 (wrgF (by omega) hF)]
theorem nJ_ti {x : Nat} (h : x < 2 ^ 63) : (nJ x).toInt = (x : Int) := Int64.toInt_ofNat_of_lt h
theorem nJ_lt {x y : Nat} (hx : x < 2 ^ 63) (hy : y < 2 ^ 63) : (nJ x < nJ y) = (x < y) := by
  refine propext ?_
  rw [Int64.lt_iff_toInt_lt, nJ_ti hx, nJ_ti hy]
  omega
theorem lgc_l {x y : Nat} (hx : x < 2 ^ 63) (hy : y < 2 ^ 63) : (lg_cmp (nJ x) (nJ y) < 0) = (x < y) := by
  unfold lg_cmp
  refine propext ?_
  by_cases h : nJ x > nJ y
  · have h' : y < x := (nJ_lt hy hx).mp h
    rw [if_pos h]
    exact ⟨fun q => absurd q (by decide), fun q => by omega⟩
  · have h' : ¬ y < x := fun q => h ((nJ_lt hy hx).mpr q)
    rw [if_neg h]
    by_cases h2 : nJ x = nJ y
    · have h2' : x = y := (nJ_inj hx hy).mp h2
      rw [if_pos h2]
      exact ⟨fun q => absurd q (by decide), fun q => by omega⟩
    · have h2' : ¬ x = y := fun q => h2 ((nJ_inj hx hy).mpr q)
      rw [if_neg h2]
      exact ⟨fun q => by omega, fun q => by decide⟩
theorem lgc_g {x y : Nat} (hx : x < 2 ^ 63) (hy : y < 2 ^ 63) : (0 < lg_cmp (nJ x) (nJ y)) = (y < x) := by
  unfold lg_cmp
  refine propext ?_
  by_cases h : nJ x > nJ y
  · have h' : y < x := (nJ_lt hy hx).mp h
    rw [if_pos h]
    exact ⟨fun q => h', fun q => by decide⟩
  · have h' : ¬ y < x := fun q => h ((nJ_lt hy hx).mpr q)
    rw [if_neg h]
    by_cases h2 : nJ x = nJ y
    · rw [if_pos h2]
      exact ⟨fun q => absurd q (by decide), fun q => absurd q h'⟩
    · rw [if_neg h2]
      exact ⟨fun q => absurd q (by decide), fun q => absurd q h'⟩
/-- what the model does where a fault stands already -/
def iF (fn : aPS → aPS) (s : aPS) : aPS := if s.F = 0 then fn s else s
/-- takeNumber of the model -/
theorem m_173 {m : Nat} (v : vTp T) (hm : m < 127) (h : mPS I J T s) (hk : s.k ≤ nT T) : ∃ I', mPS I' J T (iF (tkN T m) s) ∧ mFr I I' ∧ ∀ d R, kX xs (d + 1) 173 0 [some (.ref 185), some (.int 0), some (.int (nI m))] [] (kmm I J rf g) R = R (some (.int (if (iF (tkN T m) s).F = 0 then nI (tV T (pT T s.k)) else 0))) (kmm I' J rf g) := by
  have hn := (nT_ok T).1
  have hn2 := v.n
  have ek := h.k
  have e2 : (nI (srt (tK T (pT T s.k))) = 2) = (kdO T s = 2) := by
    rw [show (2 : Int32) = nI 2 from rfl, srt_eq (by omega), srt_2]; rfl
  unfold iF
  by_cases q : s.F = 0
  · rw [if_pos q]
    unfold tkN
    by_cases q1 : kdO T s = 2
    · rw [if_pos q1]
      have hlt := kdO_lt hk (show kdO T s ≠ 0 by omega)
      have ev := h.tk.v _ hlt
      have hv := tk2 q1
      have l0 : (0 : Int32).toInt64 = nJ 0 := by decide
      have c0 : ¬ lg_cmp (nJ (tV T (pT T s.k))) ((0 : Int32).toInt64) < 0 := by
        rw [l0, lgc_l (by omega) (by omega)]; omega
      have c1 : (0 < lg_cmp (nJ (tV T (pT T s.k))) ((nI m).toInt64)) = (m < tV T (pT T s.k)) := by
        rw [nJ_c hm, lgc_g (by omega) (by omega)]
      by_cases q2 : tV T (pT T s.k) ≤ m
      · rw [if_pos q2]
        obtain ⟨a1, a2⟩ := m_stp h
        refine ⟨_, a1, a2, fun d R => ?_⟩
        have qs : (stp s).F = 0 := q
        rw [if_pos qs, B173_0, kg12_8, kO_s, if_pos ((mF0 h).mpr q), B173_7, kg12_4, kO_s, kg12_7, kO_s, ek, ka187 (by omega), kO_s, h.tk.s _ hk, if_pos (e2.mpr q1), B173_28, kg12_8, kO_s, if_pos ((mF0 h).mpr q), B173_35, kg12_6, kO_s, kg12_7, kO_s, ek, kj189 (by omega), kO_s, ev, if_neg c0, B173_50, kg12_6, kO_s, kg12_7, kO_s, ek, kj189 (by omega), kO_s, ev, if_neg (fun z => by have := c1.mp z; omega), B173_70, kg12_8, kO_s, if_neg (fun z => ((mFp h).mp z) q), B173_79, kg12_7, kO_s, ek, nI_add1, kp12_7, kO_s, kg12_6, kO_s, kg12_7, kO_s, ku_same, show (1 : Int32) = nI 1 from rfl, nI_sb (by omega), show s.k + 1 - 1 = s.k by omega, kj189 (by omega), kO_s, ev, nJ_32]
      · rw [if_neg q2]
        obtain ⟨I1, a1, a2, a4⟩ := m_wrg (xs := xs) (rf := rf) (g := g) (c := 4) v (by omega) (by omega) h hk
        have a4' : ∀ d R, kX xs d 164 0 [some (.ref 185), some (.int 4)] [] (kmm I J rf g) R = R none (kmm I1 J rf g) := a4
        refine ⟨I1, a1, a2, fun d R => ?_⟩
        have wF := wrgF (T := T) (c := 4) (by omega) q
        rw [if_neg wF, B173_0, kg12_8, kO_s, if_pos ((mF0 h).mpr q), B173_7, kg12_4, kO_s, kg12_7, kO_s, ek, ka187 (by omega), kO_s, h.tk.s _ hk, if_pos (e2.mpr q1), B173_28, kg12_8, kO_s, if_pos ((mF0 h).mpr q), B173_35, kg12_6, kO_s, kg12_7, kO_s, ek, kj189 (by omega), kO_s, ev, if_neg c0, B173_50, kg12_6, kO_s, kg12_7, kO_s, ek, kj189 (by omega), kO_s, ev, if_pos (c1.mpr (by omega)), B173_65, krecv_m ks185, kcond_t, a4', kpush_n, B173_70, kg12_8, kO_s, if_pos ((mFp a1).mpr wF), B173_77]
    · rw [if_neg q1]
      obtain ⟨I1, a1, a2, a4⟩ := m_wrg (xs := xs) (rf := rf) (g := g) (c := 1) v (by omega) (by omega) h hk
      have a4' : ∀ d R, kX xs d 164 0 [some (.ref 185), some (.int 1)] [] (kmm I J rf g) R = R none (kmm I1 J rf g) := a4
      refine ⟨I1, a1, a2, fun d R => ?_⟩
      have wF := wrgF (T := T) (c := 1) (by omega) q
      rw [if_neg wF, B173_0, kg12_8, kO_s, if_pos ((mF0 h).mpr q), B173_7, kg12_4, kO_s, kg12_7, kO_s, ek, ka187 (by omega), kO_s, h.tk.s _ hk, if_neg (fun z => q1 (e2.mp z)), B173_20, krecv_m ks185, kcond_t, a4', kpush_n, B173_25, B173_70, kg12_8, kO_s, if_pos ((mFp a1).mpr wF), B173_77]
  · rw [if_neg q]
    refine ⟨I, h, mFr.refl, fun d R => ?_⟩
    rw [if_neg q, B173_0, kg12_8, kO_s, if_neg (fun z => q ((mF0 h).mp z)), B173_28, kg12_8, kO_s, if_neg (fun z => q ((mF0 h).mp z)), B173_70, kg12_8, kO_s, if_pos ((mFp h).mpr q), B173_77]
end SM
