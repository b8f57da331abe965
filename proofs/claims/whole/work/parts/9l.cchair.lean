/-! the class reads chairs, the law -/
theorem nJ_or (a b : Nat) : nJ a ||| nJ b = nJ (a ||| b) := by
  refine Int64.toBitVec_inj.mp ?_
  show BitVec.ofNat 64 a ||| BitVec.ofNat 64 b = BitVec.ofNat 64 (a ||| b)
  refine BitVec.eq_of_toNat_eq ?_
  simp only [BitVec.toNat_or, BitVec.toNat_ofNat, Nat.or_mod_two_pow]
theorem nJ_and (a b : Nat) : nJ a &&& nJ b = nJ (a &&& b) := by
  refine Int64.toBitVec_inj.mp ?_
  show BitVec.ofNat 64 a &&& BitVec.ofNat 64 b = BitVec.ofNat 64 (a &&& b)
  refine BitVec.eq_of_toNat_eq ?_
  simp only [BitVec.toNat_and, BitVec.toNat_ofNat, Nat.and_mod_two_pow]
theorem nJ_bit {m : Nat} (hm : m < 63) : (1 : Int64) <<< ((nI m).toInt64 &&& 63) = nJ (2 ^ m) := by
  have key : ∀ m : Fin 63, (1 : Int64) <<< ((nI m.val).toInt64 &&& 63) = nJ (2 ^ m.val) := by decide +kernel
  exact key ⟨m, hm⟩
theorem nJ_tst {P m : Nat} (hP : P < 2 ^ 63) (hm : m < 63) : (lg_cmp (nJ P &&& nJ (2 ^ m)) 0 = 0) = (P.testBit m = false) := by
  have h2 : 2 ^ m < 2 ^ 63 := Nat.pow_lt_pow_right (by decide) hm
  have h3 : P &&& 2 ^ m < 2 ^ 63 := Nat.lt_of_le_of_lt Nat.and_le_left hP
  rw [lgc, nJ_and, show (0 : Int64) = nJ 0 from rfl, nJ_inj h3 (by decide)]
  refine propext ⟨fun h => ?_, fun h => ?_⟩
  · have t : (P &&& 2 ^ m).testBit m = (P.testBit m && true) := by rw [Nat.testBit_and, tb_two, decide_eq_true rfl]
    rw [h, Nat.zero_testBit, Bool.and_true] at t
    exact t.symm
  · refine Nat.eq_of_testBit_eq (fun i => ?_)
    rw [Nat.testBit_and, tb_two, Nat.zero_testBit]
    by_cases e : m = i
    · rw [← e, h]; rfl
    · rw [decide_eq_false e, Bool.and_false]
section CC
variable {xs : List Int32} {d : Nat} {I I' I2 : Nat → Nat → Int32} {J J' J2 : Nat → Nat → Int64} {rf : Nat → Nat} {g : Nat} {R : Option Value → KW → Prop} {T : aTp} {s u : aPS} {D : aDr} {ra : Nat}
theorem a_47 (v : vTp T) (hr : kshp ra = some (.inl 6)) (hv : vDr D) (h : cAS I J T ra s D) (hF : s.F = 0) : ∃ I', cAS I' J T ra (fdS T D.N.j D.nj s) D ∧ ((fdS T D.N.j D.nj s).F = 0 → I' 3 3 = nI (fO D.N.j (tV T (pT T s.k)) D.nj)) ∧ cFs (ra + 5) I I' ∧ ∀ d R, kX xs (d + 2) 47 0 [some (.ref 3), some (.ref ra)] [] (kmm I J rf g) R = R (some (.int (bz (fdS T D.N.j D.nj s)))) (kmm I' J rf g) := by
  have ha := kad6 hr
  obtain ⟨I1, a1, a0, a2, a4⟩ := c_47 (xs := xs) (rf := rf) (g := g) v (show 4 ≤ ra + 5 by omega) hr h.d.nj hv.j hv.nm h.d.nm h.p hF
  exact ⟨I1, ⟨a1, h.d.keep (by omega) a2 (fun _ _ _ _ => rfl)⟩, a0, a2, a4⟩
/-- two judges of chairs, told -/
theorem c_pair {a b P : Nat} (hr : kshp ra = some (.inl 6)) (hv : vDr D) (h : cAS I J T ra s D) (ha : a < D.nj) (hb : b < D.nj) (hab : a ≠ b) (p1 : P < 2 ^ 63) (p2 : J 3 5 = nJ P) (p3 : ∀ a b, a < b → b < 7 → P.testBit (8 * a + b) = (D.ms a).testBit b) : ∃ I', cAS I' (ku J 3 5 (nJ (P ||| 2 ^ (8 * min a b + max a b)))) T ra s (prD D a b) ∧ cFa ra I I' ∧ ∀ d R, kX xs (d + 1) 91 0 [some (.ref (ra + 8)), some (.int (nI a)), some (.int (nI b)), none, none] [] (kmm I (ku J 3 5 (nJ (P ||| 2 ^ (8 * min a b + max a b)))) rf g) R = R none (kmm I' (ku J 3 5 (nJ (P ||| 2 ^ (8 * min a b + max a b)))) rf g) := by
  have hra := kad6 hr
  have hj7 := hv.j
  obtain ⟨I1, q1, q2, q3⟩ := sp91e (xs := xs) (J := ku J 3 5 (nJ (P ||| 2 ^ (8 * min a b + max a b)))) (rf := rf) (g := g) (r := rD D) (kad68 hr) hv.r hv.st h.d.st ha hb
  refine ⟨I1, ⟨h.p.keep (fun x k hx => q2 x k (by omega)) (by rw [ku_nea (by omega)]), ?_⟩, fun x k _ _ r => q2 x k (by omega), q3⟩
  refine ⟨?_, ?_, fun k hk => ?_, fun k hk => ?_, ⟨fun i hi => ?_, fun i hi => ?_⟩, q1, ?_, ?_⟩
  · rw [q2 _ _ (by omega)]; exact h.d.nj
  · rw [q2 _ _ (by omega)]; exact h.d.nc
  · rw [q2 _ _ (by omega)]; exact h.d.kd k hk
  · rw [q2 _ _ (by omega)]; exact h.d.gu k hk
  · rw [ku_nea (by omega)]; exact h.d.nm.j i hi
  · rw [ku_nea (by omega)]; exact h.d.nm.c i hi
  · rw [q2 _ _ (by omega)]; exact h.d.lt
  · refine ⟨P ||| 2 ^ (8 * min a b + max a b), or_lt p1 (by omega), ku_same _ _ _ _, fun x y hxy hy => ?_⟩
    show _ = (ku1 (ku1 D.ms a (D.ms a ||| 2 ^ b)) b (D.ms b ||| 2 ^ a) x).testBit y
    rw [msN hab (by omega) (by omega) (by omega) hy, Nat.testBit_or, tb_two, p3 x y hxy hy]
    congr 1
    exact decide_eq_decide.mpr ⟨fun z => by omega, fun z => by omega⟩
/-- Reader.readChairs -/
theorem c_40 (v : vTp T) (hr : kshp ra = some (.inl 6)) (hv : vDr D) (h : cAS I J T ra s D) (hF : s.F = 0) : ∃ I' J', cAS I' J' T ra (chS T D s) (if (chS T D s).F = 0 then prD D (chA T D s) (chB T D s) else D) ∧ cFa ra I I' ∧ jFa ra J J' ∧ ∀ d R, kX xs (d + 6) 40 0 [some (.ref 3), some (.ref ra), none, none, none, none] [] (kmm I J rf g) R = R (some (.int (bz (chS T D s)))) (kmm I' J' rf g) := by
  have ha := kad6 hr
  have hq : 4 ≤ ra := by omega
  have r1 : 3 ≠ ra + 5 := by omega
  have r2 : 3 ≠ ra + 5 + 1 := by omega
  have hj7 := hv.j
  obtain ⟨I1, J1, a1, a2, a3, a4⟩ := a_stp (xs := xs) (rf := rf) (g := g) v hq h
  obtain ⟨I2, b1, b0, b2, b4⟩ := a_47 (xs := xs) (rf := rf) (g := g) v hr hv a1 hF
  have F2 : cFa ra I I2 := (cFa.fr a2).trans (cFa.of b2)
  have G2 : jFa ra J J1 := jFa.fr a3
  have ent : ∀ d R, kX xs (d + 6) 40 0 [some (.ref 3), some (.ref ra), none, none, none, none] [] (kmm I J rf g) R = kX xs (d + 6) 40 12 [some (.ref 3), some (.ref ra), none, none, none, none] [.int (bz (fdS T D.N.j D.nj (stp s)))] (kmm I2 J1 rf g) R := by
    intro d R
    rw [B40_0, kg5_0, kO_s, krecv_m ks1, kcond_t, show d + 5 = d + 1 + 4 from rfl, a4, kpush_n, B40_7, krecv_m ks3, kcond_t, show d + 5 = d + 3 + 2 from rfl, b4, kpush_s]
  by_cases q1 : okN (kdO T (stp s)) ∧ fO D.N.j (tV T (pT T (stp s).k)) D.nj < D.nj
  · have e1 : fdS T D.N.j D.nj (stp s) = stp s := fdS_s q1
    have f1 : (fdS T D.N.j D.nj (stp s)).F = 0 := by rw [e1]; exact hF
    have n1 : I2 3 3 = nI (chA T D s) := b0 f1
    have c1' : ch1 T D s = stp (stp s) := by unfold ch1; rw [tld_s q1, Nat.zero_testBit, if_neg (by decide)]
    rw [e1] at b1
    obtain ⟨I3, J3, c1, c2, c3, c4⟩ := a_stp (xs := xs) (rf := rf) (g := g) v hq b1
    rw [← c1'] at c1
    have fc1 : (ch1 T D s).F = 0 := by rw [c1']; exact hF
    obtain ⟨I4, d1, d0, d2, d4⟩ := a_47 (xs := xs) (rf := rf) (g := g) v hr hv c1 fc1
    have F4 : cFa ra I I4 := F2.trans ((cFa.fr c2).trans (cFa.of d2))
    have G4 : jFa ra J J3 := G2.trans (jFa.fr c3)
    have ent4 : ∀ d R, kX xs (d + 6) 40 0 [some (.ref 3), some (.ref ra), none, none, none, none] [] (kmm I J rf g) R = kX xs (d + 6) 40 34 [some (.ref 3), some (.ref ra), some (.int (nI (chA T D s))), none, none, none] [.int (bz (fdS T D.N.j D.nj (ch1 T D s)))] (kmm I4 J3 rf g) R := by
      intro d R
      rw [ent, B40_12, bz_1 f1, if_neg (by decide), B40_17, kg5_3, kO_s, n1, kg5_0, kO_s, krecv_m ks1, kcond_t, show d + 5 = d + 1 + 4 from rfl, c4, kpush_n, B40_29, krecv_m ks3, kcond_t, show d + 5 = d + 3 + 2 from rfl, d4, kpush_s]
    have ec2 : ch2 T D s = tld T D.N.j D.nj (D.ms (chA T D s) ||| 2 ^ chA T D s) (ch1 T D s) := iF_p fc1
    by_cases q2 : okN (kdO T (ch1 T D s)) ∧ fO D.N.j (tV T (pT T (ch1 T D s).k)) D.nj < D.nj
    · have e2 : fdS T D.N.j D.nj (ch1 T D s) = ch1 T D s := fdS_s q2
      have f2 : (fdS T D.N.j D.nj (ch1 T D s)).F = 0 := by rw [e2]; exact fc1
      have n2 : I4 3 3 = nI (chB T D s) := d0 f2
      rw [e2] at d1
      have ea : chA T D s < D.nj := q1.2
      have eb : chB T D s < D.nj := q2.2
      have ec3 : ch2 T D s = if (D.ms (chA T D s) ||| 2 ^ chA T D s).testBit (chB T D s) = true then wrg T 3 (ch1 T D s) else stp (ch1 T D s) := by rw [ec2, tld_s q2]; rfl
      clear b0 d0 n1
      generalize chA T D s = a at *
      generalize chB T D s = b at *
      have ea7 : a < 7 := Nat.lt_of_lt_of_le ea hj7
      have eb7 : b < 7 := Nat.lt_of_lt_of_le eb hj7
      have em : 8 * min a b + max a b < 63 := by clear e2 f2 e1 f1 fc1 hF q1 q2; omega
      have eab : (nI b = nI a) = (b = a) := nI_inj (Nat.lt_trans eb7 (by decide)) (Nat.lt_trans ea7 (by decide))
      have ent5 : ∀ d R, kX xs (d + 6) 40 0 [some (.ref 3), some (.ref ra), none, none, none, none] [] (kmm I J rf g) R = if nI b = nI a then kX xs (d + 6) 40 79 [some (.ref 3), none, none, none, none, none] [] (kmm I4 J3 rf g) R else kX xs (d + 6) 40 67 [some (.ref 3), some (.ref ra), some (.int (nI a)), some (.int (nI b)), some (.long (nJ (2 ^ (8 * min a b + max a b)))), none] [] (kmm I4 J3 rf g) R := by
        intro d R
        rw [ent4, B40_34, bz_1 f2, if_neg (by decide), B40_39, kg5_3, kO_s, n2, sp279, kmin_n (Nat.lt_trans ea7 (by decide)) (Nat.lt_trans eb7 (by decide)), kpush_s, B40_52, c8_8, sp278, kmax_n (Nat.lt_trans ea7 (by decide)) (Nat.lt_trans eb7 (by decide)), pk_mul, kpush_s, B40_58, nI_add, nJ_bit em]
      obtain ⟨P, p1, p2, p3⟩ := d1.d.pt
      have tP : P.testBit (8 * min a b + max a b) = true ∧ a ≠ b → (D.ms a).testBit b = true := by
        intro ⟨z, zz⟩
        clear e2 f2 e1 f1 fc1 hF q1 q2
        by_cases y : a < b
        · rw [show min a b = a by omega, show max a b = b by omega, p3 a b y eb7] at z; exact z
        · rw [show min a b = b by omega, show max a b = a by omega, p3 b a (by omega) ea7] at z
          rw [hv.sy a b ea7 eb7]; exact z
      have tQ : (D.ms a).testBit b = true → a ≠ b → P.testBit (8 * min a b + max a b) = true := by
        intro z zz
        clear e2 f2 e1 f1 fc1 hF q1 q2
        by_cases y : a < b
        · rw [show min a b = a by omega, show max a b = b by omega, p3 a b y eb7]; exact z
        · rw [show min a b = b by omega, show max a b = a by omega, p3 b a (by omega) ea7, hv.sy b a eb7 ea7]; exact z
      have tst := nJ_tst p1 em
      by_cases q3 : (D.ms a ||| 2 ^ a).testBit b = true
      · rw [if_pos q3] at ec3
        obtain ⟨I5, g1, g2, g4⟩ := a_wrg (xs := xs) (rf := rf) (g := g) (c := 3) hq d1 fc1
        have wF := wrgF (T := T) (c := 3) (by decide) fc1
        have eS : chS T D s = wrg T 3 (ch1 T D s) := by unfold chS; rw [ec3]; exact tak_n wF
        have g4' : ∀ d R, kX xs d 17 0 [some (.ref 1), some (.int 3)] [] (kmm I4 J3 rf g) R = R (some (.int 0)) (kmm I5 J3 rf g) := g4
        rw [eS, if_neg wF]
        refine ⟨I5, J3, g1, F4.trans (cFa.fr g2), G4, fun d R => ?_⟩
        have fin : ∀ d R, kX xs (d + 6) 40 79 [some (.ref 3), none, none, none, none, none] [] (kmm I4 J3 rf g) R = R (some (.int (bz (wrg T 3 (ch1 T D s))))) (kmm I5 J3 rf g) := by
          intro d R
          rw [B40_79, kg5_0, kO_s, krecv_m ks1, kcond_t, g4', kpush_s, B40_87, if_pos nar0, bz_0 wF]
        rw [ent5]
        by_cases z : nI b = nI a
        · rw [if_pos z, fin]
        · have zz : a ≠ b := fun y => z (by rw [y])
          rw [Nat.testBit_or, tb_two, Bool.or_eq_true, decide_eq_true_eq] at q3
          have t1 := tQ (q3.resolve_right zz) zz
          rw [if_neg z, B40_67, kg5_5, kO_s, p2, if_neg (fun y => by rw [tst.mp y] at t1; exact absurd t1 (by decide)), fin]
      · rw [if_neg q3] at ec3
        have q3' := bfalse q3
        rw [Nat.testBit_or, tb_two, Bool.or_eq_false_iff, decide_eq_false_iff_not] at q3'
        have zz : a ≠ b := q3'.2
        have t1 : P.testBit (8 * min a b + max a b) = false := bfalse (fun y => by have := tP ⟨y, zz⟩; rw [q3'.1] at this; exact absurd this (by decide))
        obtain ⟨I5, J5, g1, g2, g3, g4⟩ := a_stp (xs := xs) (rf := rf) (g := g) v hq d1
        rw [← ec3] at g1
        have fc2 : (ch2 T D s).F = 0 := by rw [ec3]; exact fc1
        obtain ⟨I6, J6, h1, h2, h3, h4⟩ := a_tak (xs := xs) (rf := rf) (g := g) (c := 59) v (by decide) (by decide) hq g1 fc2
        have e5 : tak T 59 (ch2 T D s) = chS T D s := rfl
        rw [e5] at h1 h4
        have F6 : cFa ra I I6 := F4.trans ((cFa.fr g2).trans (cFa.fr h2))
        have G6 : jFa ra J J6 := G4.trans ((jFa.fr g3).trans (jFa.fr h3))
        have p6 : J6 3 5 = nJ P := by rw [h3 _ _ (by decide), g3 _ _ (by decide)]; exact p2
        have ent6 : ∀ d R, kX xs (d + 6) 40 0 [some (.ref 3), some (.ref ra), none, none, none, none] [] (kmm I J rf g) R = kX xs (d + 6) 40 104 [some (.ref 3), some (.ref ra), some (.int (nI a)), some (.int (nI b)), some (.long (nJ (2 ^ (8 * min a b + max a b)))), none] [.int (bz (chS T D s))] (kmm I6 J6 rf g) R := by
          intro d R
          rw [ent5, if_neg (fun y => zz (eab.mp y).symm), B40_67, kg5_5, kO_s, p2, if_pos (tst.mpr t1), B40_88, kg5_0, kO_s, krecv_m ks1, kcond_t, show d + 5 = d + 1 + 4 from rfl, g4, kpush_n, B40_95, kg5_0, kO_s, krecv_m ks1, kcond_t, c8_59, h4, kpush_s]
        by_cases f5 : (chS T D s).F = 0
        · rw [if_pos f5]
          obtain ⟨I7, i1, i2, i4⟩ := c_pair (xs := xs) (rf := rf) (g := g) hr hv h1 ea eb zz p1 p6 p3
          refine ⟨I7, _, i1, F6.trans i2, G6.trans (fun x k p q _ _ => ku_ne (fun y => q ⟨y.1, Or.inr y.2⟩)), fun d R => ?_⟩
          rw [ent6, B40_104, bz_1 f5, if_neg (by decide), B40_109, kg5_5, kO_s, p6, nJ_or, kp5_5, kO_s, kg6_7 hr, kO_s, krecv_m (kad68 hr), kcond_t, show d + 5 = d + 4 + 1 from rfl, i4, kpush_n, B40_129, if_pos nar1]
        · rw [if_neg f5]
          refine ⟨I6, J6, h1, F6, G6, fun d R => ?_⟩
          rw [ent6, B40_104, bz_0 f5, if_pos rfl, B40_107, if_pos nar0]
    · have f2 : ¬ (fdS T D.N.j D.nj (ch1 T D s)).F = 0 := fun z => q2 ((fdS_F fc1).mp z)
      have ec3 : ch2 T D s = fdS T D.N.j D.nj (ch1 T D s) := by rw [ec2]; exact tld_f q2
      have eS : chS T D s = fdS T D.N.j D.nj (ch1 T D s) := by unfold chS; rw [ec3]; exact tak_n f2
      rw [eS, if_neg f2]
      refine ⟨I4, J3, d1, F4, G4, fun d R => ?_⟩
      rw [ent4, B40_34, bz_0 f2, if_pos rfl, B40_37, if_pos nar0]
  · have f1 : ¬ (fdS T D.N.j D.nj (stp s)).F = 0 := fun z => q1 ((fdS_F (s := stp s) hF).mp z)
    have ec1 : ch1 T D s = fdS T D.N.j D.nj (stp s) := tld_f q1
    have eS : chS T D s = fdS T D.N.j D.nj (stp s) := by unfold chS ch2; rw [ec1, iF_n f1]; exact tak_n f1
    rw [eS, if_neg f1]
    refine ⟨I2, J1, b1, F2, G2, fun d R => ?_⟩
    rw [ent, B40_12, bz_0 f1, if_pos rfl, B40_15, if_pos nar0]
/-- Reader.readLaw -/
theorem c_41 (v : vTp T) (hr : kshp ra = some (.inl 6)) (h : cAS I J T ra s D) (hF : s.F = 0) (hk : s.k < nT T) (hl : D.lt = 0 → s.ll = 0) (hl1 : D.lt ≤ 1) : ∃ I' J', cAS I' J' T ra (dlS T D s) (if D.lt = 0 then dlD D else D) ∧ cFa ra I I' ∧ jFa ra J J' ∧ ∀ d R, kX xs (d + 37) 41 0 [some (.ref 3), some (.ref (ra + 5))] [] (kmm I J rf g) R = R (some (.int (bz (dlS T D s)))) (kmm I' J' rf g) := by
  have ha := kad6 hr
  have hq : 4 ≤ ra := by omega
  have h0 : kshp (ra + 5) = some (.inl 0) := by rcases ha with e | e <;> subst e <;> rfl
  have el := h.d.lt
  have elt : (nI D.lt = 0) = (D.lt = 0) := nI_inj (b := 0) (by omega) (by omega)
  unfold dlS
  by_cases q : D.lt = 0
  · rw [if_pos q, if_pos q]
    have h' : cAS (ku I 3 4 1) J T ra s (dlD D) := ⟨h.p.keep (fun x k hx => by rw [ku_nea (by omega)]) rfl, ⟨by rw [ku_nea (by omega)]; exact h.d.nj, by rw [ku_nea (by omega)]; exact h.d.nc, fun k hk => by rw [ku_nea (by omega)]; exact h.d.kd k hk, fun k hk => by rw [ku_nea (by omega)]; exact h.d.gu k hk, h.d.nm, h.d.st.keep (fun x k p1 p2 => by rw [ku_nea (by omega)]), by rw [ku_same]; rfl, h.d.pt⟩⟩
    have F0 : cFa ra I (ku I 3 4 1) := fun x k _ p _ => ku_ne (fun z => p ⟨z.1, Or.inr z.2⟩)
    obtain ⟨I1, J1, a1, a2, a3, a4⟩ := a_stp (xs := xs) (rf := rf) (g := g) v hq h'
    obtain ⟨I2, J2, b1, b2, b3, b4⟩ := c_6 (xs := xs) (rf := rf) (g := g) v h0 (show 3 ≤ ra + 5 by omega) I1 J1 (stp s) a1.p hk (by show s.ll ≤ s.k + 1; rw [hl q]; exact Nat.zero_le _) hF
    have d2 := a1.d.keep hq (cFs.of b2) (jFs.of b3)
    generalize who T (par T 5) (stp s) = W at *
    have F2 : cFa ra I I2 := F0.trans ((cFa.fr a2).trans (cFa.fr b2))
    have G2 : jFa ra J J2 := (jFa.fr a3).trans (jFa.fr b3)
    have ent : ∀ d R, kX xs (d + 37) 41 0 [some (.ref 3), some (.ref (ra + 5))] [] (kmm I J rf g) R = kX xs (d + 37) 41 36 [some (.ref 3), none] [.int (bz W)] (kmm I2 J2 rf g) R := by
      intro d R
      rw [B41_0, kg5_4, kO_s, el, if_pos (elt.mpr q), B41_16, if_pos (by decide), kp5_4, kO_s, kg5_0, kO_s, krecv_m ks1, kcond_t, show d + 36 = d + 32 + 4 from rfl, a4, kpush_n, B41_28, kg5_1, kO_s, krecv_m ks4, kcond_t, b4, kpush_s]
    by_cases f1 : W.F = 0
    · obtain ⟨I3, J3, c1, c2, c3, c4⟩ := a_tak (xs := xs) (rf := rf) (g := g) (c := 59) v (by decide) (by decide) hq ⟨b1, d2⟩ f1
      refine ⟨I3, J3, c1, F2.trans (cFa.fr c2), G2.trans (jFa.fr c3), fun d R => ?_⟩
      rw [ent, B41_36, bz_1 f1, if_neg (by decide), B41_39, kg5_0, kO_s, krecv_m ks1, kcond_t, c8_59, show d + 36 = d + 31 + 5 from rfl, c4, kpush_s, B41_48]
      by_cases f2 : (tak T 59 W).F = 0
      · rw [bz_1 f2, if_neg (by decide), B41_51, B41_56, if_pos nar1]
      · rw [bz_0 f2, if_pos rfl, B41_55, B41_56, if_pos nar0]
    · rw [tak_n f1]
      refine ⟨I2, J2, ⟨b1, d2⟩, F2, G2, fun d R => ?_⟩
      rw [ent, B41_36, bz_0 f1, if_pos rfl, B41_55, B41_56, if_pos nar0]
  · rw [if_neg q, if_neg q]
    obtain ⟨I1, a1, a2, a4⟩ := a_wrg (xs := xs) (rf := rf) (g := g) (c := 3) hq h hF
    have wF := wrgF (T := T) (c := 3) (by decide) hF
    have a4' : ∀ d R, kX xs d 17 0 [some (.ref 1), some (.int 3)] [] (kmm I J rf g) R = R (some (.int 0)) (kmm I1 J rf g) := a4
    refine ⟨I1, J, a1, cFa.fr a2, fun _ _ _ _ _ _ => rfl, fun d R => ?_⟩
    rw [B41_0, kg5_4, kO_s, el, if_neg (fun z => q (elt.mp z)), B41_7, kg5_0, kO_s, krecv_m ks1, kcond_t, a4', kpush_s, B41_15, if_pos nar0, bz_0 wF]
end CC
