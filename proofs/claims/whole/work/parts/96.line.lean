/-! a line of a term: pure, and its second half in the class -/
/-- what stands behind the first name of a line -/
def tm2 (T : aTp) (N : aNm) (nj w x : Nat) (s : aPS) : aPS := if w = 1 then tkN T 3 s else if w = 2 then tkN T 20 s else tld T N.j nj (2 ^ x) s
def tm2v (T : aTp) (N : aNm) (nj w : Nat) (s : aPS) : Nat := if w = 3 then fO N.j (tV T (pT T s.k)) nj else tV T (pT T s.k)
def tm1 (T : aTp) (N : aNm) (nj nc w : Nat) (s : aPS) : aPS := if w = 0 then s else if w = 1 then tld T N.c nc 0 s else tld T N.j nj 0 s
def tm1v (T : aTp) (N : aNm) (nj nc w : Nat) (s : aPS) : Nat := if w = 0 then 0 else if w = 1 then fO N.c (tV T (pT T s.k)) nc else fO N.j (tV T (pT T s.k)) nj
section LI
variable {xs : List Int32} {d : Nat} {I I' I2 : Nat → Nat → Int32} {J J' : Nat → Nat → Int64} {rf : Nat → Nat} {g : Nat} {R : Option Value → KW → Prop} {w : KW} {T : aTp} {s : aPS} {a : Nat}
theorem cFs.trans (h1 : cFs a I I') (h2 : cFs a I' I2) : cFs a I I2 := fun x k p q r t => by rw [h2 x k p q r t, h1 x k p q r t]
theorem cFs.of (h1 : cFr a I I') : cFs a I I' := fun x k p _ r t => h1 x k p r t
theorem fdS_F {f : Nat → Nat} {n : Nat} (hF : s.F = 0) : ((fdS T f n s).F = 0) = (okN (kdO T s) ∧ fO f (tV T (pT T s.k)) n < n) := by
  unfold fdS
  by_cases q : okN (kdO T s)
  · rw [if_pos q]
    by_cases q2 : fO f (tV T (pT T s.k)) n < n
    · rw [if_pos q2]; exact propext ⟨fun _ => ⟨q, q2⟩, fun _ => hF⟩
    · rw [if_neg q2]; exact propext ⟨fun z => absurd z (wrgF (by omega) hF), fun z => absurd z.2 q2⟩
  · rw [if_neg q]; exact propext ⟨fun z => absurd z (wrgF (by omega) hF), fun z => absurd z.1 q⟩
theorem fdS_s {f : Nat → Nat} {n : Nat} (h : okN (kdO T s) ∧ fO f (tV T (pT T s.k)) n < n) : fdS T f n s = s := by
  unfold fdS
  rw [if_pos h.1, if_pos h.2]
theorem tld_f {f : Nat → Nat} {n bm : Nat} (h : ¬ (okN (kdO T s) ∧ fO f (tV T (pT T s.k)) n < n)) : tld T f n bm s = fdS T f n s := by
  unfold tld fdS
  by_cases q : okN (kdO T s)
  · rw [if_pos q, if_pos q, if_neg (fun z => h ⟨q, z⟩), if_neg (fun z => h ⟨q, z⟩)]
  · rw [if_neg q, if_neg q]
theorem tld_s {f : Nat → Nat} {n bm : Nat} (h : okN (kdO T s) ∧ fO f (tV T (pT T s.k)) n < n) : tld T f n bm s = if bm.testBit (fO f (tV T (pT T s.k)) n) = true then wrg T 3 s else stp s := by
  unfold tld
  rw [if_pos h.1, if_pos h.2]
theorem tp2 {x y : Nat} : ((2 ^ x).testBit y = true) = (x = y) := by
  rw [Nat.testBit_two_pow, decide_eq_true_eq]
/-- Reader.takeSecond -/
theorem c_44 {ra nj nc wd x : Nat} {N : aNm} (v : vTp T) (ha : 4 ≤ a) (hr : kshp ra = some (.inl 6)) (h0 : I ra 0 = nI nj) (h7 : nj ≤ 7) (hv : vNm nj nc N) (hN : cNm J ra nj nc N) (h : cPS I J T a s) (hF : s.F = 0) (hw : wd = 1 ∨ wd = 2 ∨ wd = 3) (hx : x < 7) : ∃ I' J', cPS I' J' T a (tm2 T N nj wd x s) ∧ ((tm2 T N nj wd x s).F = 0 → I' 3 3 = nI (tm2v T N nj wd s)) ∧ cFs a I I' ∧ jFr J J' ∧ ∀ d R, kX xs (d + 6) 44 0 [some (.ref 3), some (.int (nI (135 + wd))), some (.int (nI x)), some (.ref ra)] [] (kmm I J rf g) R = R (some (.int (bz (tm2 T N nj wd x s)))) (kmm I' J' rf g) := by
  unfold tm2 tm2v
  rcases hw with e | e | e
  · subst e
    rw [if_pos rfl, if_neg (by omega)]
    obtain ⟨I1, J1, a1, a0, a2, a3, a4⟩ := c_45 (xs := xs) (rf := rf) (g := g) (m := 3) v (by omega) ha h hF
    refine ⟨I1, J1, a1, fun z => (a0 z).1, a2, a3, fun d R => ?_⟩
    have a4' : ∀ d R, kX xs (d + 5) 45 0 [some (.ref 3), some (.int 3)] [] (kmm I J rf g) R = R (some (.int (bz (tkN T 3 s)))) (kmm I1 J1 rf g) := a4
    rw [B44_0, c16_136, if_pos rfl, B44_7, krecv_m ks3, kcond_t, a4', kpush_s, B44_12, if_pos (bz_nar _)]
  · subst e
    rw [if_neg (by omega), if_pos rfl, if_neg (by omega)]
    obtain ⟨I1, J1, a1, a0, a2, a3, a4⟩ := c_45 (xs := xs) (rf := rf) (g := g) (m := 20) v (by omega) ha h hF
    refine ⟨I1, J1, a1, fun z => (a0 z).1, a2, a3, fun d R => ?_⟩
    rw [B44_0, c16_136, if_neg (by decide), B44_13, c16_137, if_pos rfl, B44_20, krecv_m ks3, kcond_t, c8_20, a4, kpush_s, B44_26, if_pos (bz_nar _)]
  · subst e
    rw [if_neg (by omega), if_neg (by omega), if_pos rfl]
    obtain ⟨I1, a1, a0, a2, a4⟩ := c_47 (xs := xs) (rf := rf) (g := g) v ha hr h0 h7 hv hN h hF
    have ent : ∀ d R, kX xs (d + 6) 44 0 [some (.ref 3), some (.int (nI (135 + 3))), some (.int (nI x)), some (.ref ra)] [] (kmm I J rf g) R = kX xs (d + 6) 44 32 [some (.ref 3), none, some (.int (nI x)), none] [.int (bz (fdS T N.j nj s))] (kmm I1 J rf g) R := by
      intro d R
      rw [B44_0, c16_136, if_neg (by decide), B44_13, c16_137, if_neg (by decide), B44_27, krecv_m ks3, kcond_t, a4, kpush_s]
    by_cases q : okN (kdO T s) ∧ fO N.j (tV T (pT T s.k)) nj < nj
    · have q' : (fdS T N.j nj s).F = 0 := (fdS_F hF).mpr q
      have e3 := a0 q'
      rw [fdS_s q] at a1
      rw [tld_s q]
      have eqx : (nI (fO N.j (tV T (pT T s.k)) nj) = nI x) = (fO N.j (tV T (pT T s.k)) nj = x) := nI_inj (by omega) (by omega)
      by_cases q2 : x = fO N.j (tV T (pT T s.k)) nj
      · rw [if_pos (tp2.mpr q2)]
        obtain ⟨I2, b1, b2, b4⟩ := c_wrg (xs := xs) (rf := rf) (g := g) (c := 3) (by omega) a1 hF
        have b4' : ∀ d R, kX xs d 17 0 [some (.ref 1), some (.int 3)] [] (kmm I1 J rf g) R = R (some (.int 0)) (kmm I2 J rf g) := b4
        refine ⟨I2, J, b1, fun z => absurd z (wrgF (by omega) hF), a2.trans (cFs.of b2), jFr.refl, fun d R => ?_⟩
        rw [ent, B44_32, bz_1 q', if_neg (by decide), B44_37, kg5_3, kO_s, e3, if_pos (eqx.mpr q2.symm), B44_45, kg5_0, kO_s, krecv_m ks1, kcond_t, b4', kpush_s, B44_53, if_pos nar0, bz_0 (wrgF (by omega) hF)]
      · rw [if_neg (fun z => q2 (tp2.mp z))]
        obtain ⟨I2, J2, b1, b2, b3, b4⟩ := c_stp (xs := xs) (rf := rf) (g := g) v (by omega) a1
        refine ⟨I2, J2, b1, fun _ => by rw [b2 _ _ (by omega) (by omega) (by omega), e3], a2.trans (cFs.of b2), b3, fun d R => ?_⟩
        rw [ent, B44_32, bz_1 q', if_neg (by decide), B44_37, kg5_3, kO_s, e3, if_neg (fun z => q2 (eqx.mp z).symm), B44_54, kg5_0, kO_s, krecv_m ks1, kcond_t, b4, kpush_n, B44_61, if_pos nar1, bz_1 (s := stp s) hF]
    · have q' : ¬ (fdS T N.j nj s).F = 0 := fun z => q ((fdS_F hF).mp z)
      rw [tld_f q]
      refine ⟨I1, J, a1, fun z => absurd z q', a2, jFr.refl, fun d R => ?_⟩
      rw [ent, B44_32, bz_0 q', if_pos rfl, B44_35, if_pos nar0]
end LI
