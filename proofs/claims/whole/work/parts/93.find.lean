/-! one told, by name -/
/-- is one named so? the token stays -/
def fdS (T : aTp) (f : Nat → Nat) (n : Nat) (s : aPS) : aPS := if okN (kdO T s) then if fO f (tV T (pT T s.k)) n < n then s else wrg T 2 s else wrg T 1 s
/-- one told, not among some; the token is taken -/
def tld (T : aTp) (f : Nat → Nat) (n bm : Nat) (s : aPS) : aPS := if okN (kdO T s) then if fO f (tV T (pT T s.k)) n < n then if bm.testBit (fO f (tV T (pT T s.k)) n) = true then wrg T 3 s else stp s else wrg T 2 s else wrg T 1 s
section FI
variable {xs : List Int32} {d : Nat} {I I' I2 : Nat → Nat → Int32} {J J' : Nat → Nat → Int64} {rf : Nat → Nat} {g : Nat} {R : Option Value → KW → Prop} {w : KW} {T : aTp} {s : aPS} {a : Nat}
theorem fnd_m {f : Nat → Nat} {v n : Nat} (h : n ≤ 7) : (fnd f v n = -1) = ¬ fO f v n < n := by
  unfold fnd
  by_cases q : fO f v n < n
  · rw [if_pos q, nI_m1 (by omega)]
    exact propext ⟨fun z => z.elim, fun z => absurd q z⟩
  · rw [if_neg q]
    exact propext ⟨fun _ => q, fun _ => rfl⟩
theorem okN_w (h : okN (kdO T s)) : tK T (pT T s.k) = 3 ∨ 128 ≤ tK T (pT T s.k) := by
  have h' : tK T (pT T s.k) = 3 ∨ okF (tK T (pT T s.k)) := h
  unfold okF at h'
  omega
/-- Reader.findJudge, findCase: what they have in common -/
theorem c_47 {ra nj nc : Nat} {N : aNm} (v : vTp T) (ha : 4 ≤ a) (hr : kshp ra = some (.inl 6)) (h0 : I ra 0 = nI nj) (h7 : nj ≤ 7) (hv : vNm nj nc N) (hN : cNm J ra nj nc N) (h : cPS I J T a s) (hF : s.F = 0) : ∃ I', cPS I' J T a (fdS T N.j nj s) ∧ ((fdS T N.j nj s).F = 0 → I' 3 3 = nI (fO N.j (tV T (pT T s.k)) nj)) ∧ cFs a I I' ∧ ∀ d R, kX xs (d + 2) 47 0 [some (.ref 3), some (.ref ra)] [] (kmm I J rf g) R = R (some (.int (bz (fdS T N.j nj s)))) (kmm I' J rf g) := by
  unfold fdS
  by_cases q : okN (kdO T s)
  · rw [if_pos q]
    obtain ⟨w1, w2⟩ := h.tk.w (okN_w q)
    have look : ∀ d R, kX xs (d + 1) 55 0 [some (.ref ra), some (.long (J 1 6)), none] [] (kmm I J rf g) R = R (some (.int (fnd N.j (tV T (pT T s.k)) nj))) (kmm I J rf g) := by
      intro d R
      rw [B55_0, kg6_2 hr, kO_s, kg6_0 hr, kO_s, h0, w1, sp57e (fun i hi => kj6_1 hr hi) (kl6_1 hr) h7 w2 hv.vj hN.j, kpush_s, B55_12]
    have h' : cPS (ku I 3 3 (fnd N.j (tV T (pT T s.k)) nj)) J T a s := h.keep (fun x k hx => by rw [ku_nea (by omega)]) rfl
    have ent : ∀ d R, kX xs (d + 2) 47 0 [some (.ref 3), some (.ref ra)] [] (kmm I J rf g) R = if fnd N.j (tV T (pT T s.k)) nj = -1 then kX xs (d + 2) 47 42 [some (.ref 3), none] [] (kmm (ku I 3 3 (fnd N.j (tV T (pT T s.k)) nj)) J rf g) R else kX xs (d + 2) 47 53 [none, none] [] (kmm (ku I 3 3 (fnd N.j (tV T (pT T s.k)) nj)) J rf g) R := by
      intro d R
      rw [B47_0, kg5_0, kO_s, krecv_m ks1, kcond_t, sp25e v h, kpush_s, B47_7, if_neg (by rw [decide_eq_true q]; decide), B47_19, kg5_0, kO_s, kg2_6, kO_s, krecv_m hr, kcond_t, look, kpush_s, B47_31, kp5_3, kO_s, kg5_3, kO_s, ku_same]
    by_cases q2 : fO N.j (tV T (pT T s.k)) nj < nj
    · rw [if_pos q2]
      refine ⟨_, h', fun _ => by rw [ku_same]; unfold fnd; rw [if_pos q2], fun x k p1 p2 p3 p4 => by rw [ku_ne p2], fun d R => ?_⟩
      rw [ent, if_neg (fun z => ((fnd_m h7).mp z) q2), B47_53, B47_58, if_pos nar1, bz_1 hF]
    · rw [if_neg q2]
      obtain ⟨I1, a1, a2, a4⟩ := c_wrg (xs := xs) (rf := rf) (g := g) (c := 2) (by omega) h' hF
      have a4' : ∀ d R, kX xs d 17 0 [some (.ref 1), some (.int 2)] [] (kmm (ku I 3 3 (fnd N.j (tV T (pT T s.k)) nj)) J rf g) R = R (some (.int 0)) (kmm I1 J rf g) := a4
      refine ⟨I1, a1, fun z => absurd z (wrgF (by omega) hF), fun x k p1 p2 p3 p4 => by rw [a2 x k p1 p3 p4, ku_ne p2], fun d R => ?_⟩
      rw [ent, if_pos ((fnd_m h7).mpr q2), B47_42, kg5_0, kO_s, krecv_m ks1, kcond_t, a4', kpush_s, B47_50, if_pos rfl, B47_57, B47_58, if_pos nar0, bz_0 (wrgF (by omega) hF)]
  · rw [if_neg q]
    obtain ⟨I1, a1, a2, a4⟩ := c_wrg (xs := xs) (rf := rf) (g := g) (c := 1) (by omega) h hF
    have a4' : ∀ d R, kX xs d 17 0 [some (.ref 1), some (.int 1)] [] (kmm I J rf g) R = R (some (.int 0)) (kmm I1 J rf g) := a4
    refine ⟨I1, a1, fun z => absurd z (wrgF (by omega) hF), fun x k p1 p2 p3 p4 => a2 x k p1 p3 p4, fun d R => ?_⟩
    rw [B47_0, kg5_0, kO_s, krecv_m ks1, kcond_t, sp25e v h, kpush_s, B47_7, if_pos (by rw [decide_eq_false q]; rfl), B47_10, kg5_0, kO_s, krecv_m ks1, kcond_t, a4', kpush_s, B47_18, if_pos nar0, bz_0 (wrgF (by omega) hF)]
theorem c_48 {ra nj nc : Nat} {N : aNm} (v : vTp T) (ha : 4 ≤ a) (hr : kshp ra = some (.inl 6)) (h0 : I ra 1 = nI nc) (h7 : nc ≤ 7) (hv : vNm nj nc N) (hN : cNm J ra nj nc N) (h : cPS I J T a s) (hF : s.F = 0) : ∃ I', cPS I' J T a (fdS T N.c nc s) ∧ ((fdS T N.c nc s).F = 0 → I' 3 3 = nI (fO N.c (tV T (pT T s.k)) nc)) ∧ cFs a I I' ∧ ∀ d R, kX xs (d + 2) 48 0 [some (.ref 3), some (.ref ra)] [] (kmm I J rf g) R = R (some (.int (bz (fdS T N.c nc s)))) (kmm I' J rf g) := by
  unfold fdS
  by_cases q : okN (kdO T s)
  · rw [if_pos q]
    obtain ⟨w1, w2⟩ := h.tk.w (okN_w q)
    have look : ∀ d R, kX xs (d + 1) 56 0 [some (.ref ra), some (.long (J 1 6)), none] [] (kmm I J rf g) R = R (some (.int (fnd N.c (tV T (pT T s.k)) nc))) (kmm I J rf g) := by
      intro d R
      rw [B56_0, kg6_3 hr, kO_s, kg6_1 hr, kO_s, h0, w1, sp57e (fun i hi => kj6_2 hr hi) (kl6_2 hr) h7 w2 hv.vc hN.c, kpush_s, B56_12]
    have h' : cPS (ku I 3 3 (fnd N.c (tV T (pT T s.k)) nc)) J T a s := h.keep (fun x k hx => by rw [ku_nea (by omega)]) rfl
    have ent : ∀ d R, kX xs (d + 2) 48 0 [some (.ref 3), some (.ref ra)] [] (kmm I J rf g) R = if fnd N.c (tV T (pT T s.k)) nc = -1 then kX xs (d + 2) 48 42 [some (.ref 3), none] [] (kmm (ku I 3 3 (fnd N.c (tV T (pT T s.k)) nc)) J rf g) R else kX xs (d + 2) 48 53 [none, none] [] (kmm (ku I 3 3 (fnd N.c (tV T (pT T s.k)) nc)) J rf g) R := by
      intro d R
      rw [B48_0, kg5_0, kO_s, krecv_m ks1, kcond_t, sp25e v h, kpush_s, B48_7, if_neg (by rw [decide_eq_true q]; decide), B48_19, kg5_0, kO_s, kg2_6, kO_s, krecv_m hr, kcond_t, look, kpush_s, B48_31, kp5_3, kO_s, kg5_3, kO_s, ku_same]
    by_cases q2 : fO N.c (tV T (pT T s.k)) nc < nc
    · rw [if_pos q2]
      refine ⟨_, h', fun _ => by rw [ku_same]; unfold fnd; rw [if_pos q2], fun x k p1 p2 p3 p4 => by rw [ku_ne p2], fun d R => ?_⟩
      rw [ent, if_neg (fun z => ((fnd_m h7).mp z) q2), B48_53, B48_58, if_pos nar1, bz_1 hF]
    · rw [if_neg q2]
      obtain ⟨I1, a1, a2, a4⟩ := c_wrg (xs := xs) (rf := rf) (g := g) (c := 2) (by omega) h' hF
      have a4' : ∀ d R, kX xs d 17 0 [some (.ref 1), some (.int 2)] [] (kmm (ku I 3 3 (fnd N.c (tV T (pT T s.k)) nc)) J rf g) R = R (some (.int 0)) (kmm I1 J rf g) := a4
      refine ⟨I1, a1, fun z => absurd z (wrgF (by omega) hF), fun x k p1 p2 p3 p4 => by rw [a2 x k p1 p3 p4, ku_ne p2], fun d R => ?_⟩
      rw [ent, if_pos ((fnd_m h7).mpr q2), B48_42, kg5_0, kO_s, krecv_m ks1, kcond_t, a4', kpush_s, B48_50, if_pos rfl, B48_57, B48_58, if_pos nar0, bz_0 (wrgF (by omega) hF)]
  · rw [if_neg q]
    obtain ⟨I1, a1, a2, a4⟩ := c_wrg (xs := xs) (rf := rf) (g := g) (c := 1) (by omega) h hF
    have a4' : ∀ d R, kX xs d 17 0 [some (.ref 1), some (.int 1)] [] (kmm I J rf g) R = R (some (.int 0)) (kmm I1 J rf g) := a4
    refine ⟨I1, a1, fun z => absurd z (wrgF (by omega) hF), fun x k p1 p2 p3 p4 => a2 x k p1 p3 p4, fun d R => ?_⟩
    rw [B48_0, kg5_0, kO_s, krecv_m ks1, kcond_t, sp25e v h, kpush_s, B48_7, if_pos (by rw [decide_eq_false q]; rfl), B48_10, kg5_0, kO_s, krecv_m ks1, kcond_t, a4', kpush_s, B48_18, if_pos nar0, bz_0 (wrgF (by omega) hF)]
end FI
