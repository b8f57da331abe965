/-! the class reads an assize: names, judges, cases -/
abbrev cDr (I : Nat → Nat → Int32) (J : Nat → Nat → Int64) (ra : Nat) (D : aDr) : Prop := (I ra 0 = nI D.nj) ∧ (I ra 1 = nI D.nc) ∧ (∀ k, k < 7 → I (ra + 3) k = nI (D.kd k)) ∧ (∀ k, k < 7 → I (ra + 4) k = nI (D.gu k)) ∧ (cNm J ra D.nj D.nc D.N) ∧ (cSt I (ra + 8) D.bg) ∧ (I 3 4 = nI D.lt) ∧ (∃ P, P < 2 ^ 63 ∧ J 3 5 = nJ P ∧ ∀ a b, a < b → b < 7 → P.testBit (8 * a + b) = (D.ms a).testBit b)
theorem cDr.nj {I : Nat → Nat → Int32} {J : Nat → Nat → Int64} {ra : Nat} {D : aDr} (h : cDr I J ra D) : I ra 0 = nI D.nj := h.1
theorem cDr.nc {I : Nat → Nat → Int32} {J : Nat → Nat → Int64} {ra : Nat} {D : aDr} (h : cDr I J ra D) : I ra 1 = nI D.nc := h.2.1
theorem cDr.kd {I : Nat → Nat → Int32} {J : Nat → Nat → Int64} {ra : Nat} {D : aDr} (h : cDr I J ra D) : ∀ k, k < 7 → I (ra + 3) k = nI (D.kd k) := h.2.2.1
theorem cDr.gu {I : Nat → Nat → Int32} {J : Nat → Nat → Int64} {ra : Nat} {D : aDr} (h : cDr I J ra D) : ∀ k, k < 7 → I (ra + 4) k = nI (D.gu k) := h.2.2.2.1
theorem cDr.nm {I : Nat → Nat → Int32} {J : Nat → Nat → Int64} {ra : Nat} {D : aDr} (h : cDr I J ra D) : cNm J ra D.nj D.nc D.N := h.2.2.2.2.1
theorem cDr.st {I : Nat → Nat → Int32} {J : Nat → Nat → Int64} {ra : Nat} {D : aDr} (h : cDr I J ra D) : cSt I (ra + 8) D.bg := h.2.2.2.2.2.1
theorem cDr.lt {I : Nat → Nat → Int32} {J : Nat → Nat → Int64} {ra : Nat} {D : aDr} (h : cDr I J ra D) : I 3 4 = nI D.lt := h.2.2.2.2.2.2.1
theorem cDr.pt {I : Nat → Nat → Int32} {J : Nat → Nat → Int64} {ra : Nat} {D : aDr} (h : cDr I J ra D) : ∃ P, P < 2 ^ 63 ∧ J 3 5 = nJ P ∧ ∀ a b, a < b → b < 7 → P.testBit (8 * a + b) = (D.ms a).testBit b := h.2.2.2.2.2.2.2
abbrev cAS (I : Nat → Nat → Int32) (J : Nat → Nat → Int64) (T : aTp) (ra : Nat) (s : aPS) (D : aDr) : Prop := (cPS I J T (ra + 5) s) ∧ (cDr I J ra D)
theorem cAS.p {I : Nat → Nat → Int32} {J : Nat → Nat → Int64} {T : aTp} {ra : Nat} {s : aPS} {D : aDr} (h : cAS I J T ra s D) : cPS I J T (ra + 5) s := h.1
theorem cAS.d {I : Nat → Nat → Int32} {J : Nat → Nat → Int64} {T : aTp} {ra : Nat} {s : aPS} {D : aDr} (h : cAS I J T ra s D) : cDr I J ra D := h.2
abbrev cFa (ra : Nat) (I I' : Nat → Nat → Int32) : Prop := ∀ x k, ¬ (x = 1 ∧ 2 ≤ k ∧ k ≤ 7) → ¬ (x = 3 ∧ (k = 3 ∨ k = 4)) → x < ra ∨ ra + 12 < x → I' x k = I x k
abbrev jFs (J J' : Nat → Nat → Int64) : Prop := ∀ x k, ¬ (x = 1 ∧ k = 6) → ¬ (x = 3 ∧ k = 2) → J' x k = J x k
abbrev jFa (ra : Nat) (J J' : Nat → Nat → Int64) : Prop := ∀ x k, ¬ (x = 1 ∧ k = 6) → ¬ (x = 3 ∧ (k = 2 ∨ k = 5)) → x ≠ ra + 1 → x ≠ ra + 2 → J' x k = J x k
section CJ
variable {xs : List Int32} {d : Nat} {I I' I2 : Nat → Nat → Int32} {J J' J2 : Nat → Nat → Int64} {rf : Nat → Nat} {g : Nat} {R : Option Value → KW → Prop} {T : aTp} {s u : aPS} {D : aDr} {ra : Nat}
theorem cFa.trans (h1 : cFa ra I I') (h2 : cFa ra I' I2) : cFa ra I I2 := fun x k p q r => by rw [h2 x k p q r, h1 x k p q r]
theorem jFa.trans (h1 : jFa ra J J') (h2 : jFa ra J' J2) : jFa ra J J2 := fun x k p q r t => by rw [h2 x k p q r t, h1 x k p q r t]
theorem cFa.of (h : cFs (ra + 5) I I') : cFa ra I I' := fun x k p q r => h x k p (by omega) (by omega) (by omega)
theorem cFa.fr (h : cFr (ra + 5) I I') : cFa ra I I' := fun x k p q r => h x k p (by omega) (by omega)
theorem jFa.of (h : jFs J J') : jFa ra J J' := fun x k p q _ _ => h x k p (by omega)
theorem jFa.fr (h : jFr J J') : jFa ra J J' := fun x k p _ _ _ => h x k p
theorem jFs.of (h : jFr J J') : jFs J J' := fun x k p _ => h x k p
theorem cDr.keep (ha : 4 ≤ ra) (h : cDr I J ra D) (h1 : cFs (ra + 5) I I') (h2 : jFs J J') : cDr I' J' ra D := by
  have G : ∀ x k, x ≠ 1 → ¬ (x = 3 ∧ k = 3) → x ≠ ra + 5 → x ≠ ra + 6 → I' x k = I x k := fun x k p q r t => h1 x k (fun z => p z.1) q r t
  refine ⟨?_, ?_, fun k hk => ?_, fun k hk => ?_, ⟨fun i hi => ?_, fun i hi => ?_⟩, h.st.keep (fun x k p q => G x k (by omega) (by omega) (by omega) (by omega)), ?_, ?_⟩
  · rw [G _ _ (by omega) (by omega) (by omega) (by omega)]; exact h.nj
  · rw [G _ _ (by omega) (by omega) (by omega) (by omega)]; exact h.nc
  · rw [G _ _ (by omega) (by omega) (by omega) (by omega)]; exact h.kd k hk
  · rw [G _ _ (by omega) (by omega) (by omega) (by omega)]; exact h.gu k hk
  · rw [h2 _ _ (by omega) (by omega)]; exact h.nm.j i hi
  · rw [h2 _ _ (by omega) (by omega)]; exact h.nm.c i hi
  · rw [G _ _ (by omega) (by omega) (by omega) (by omega)]; exact h.lt
  · obtain ⟨P, p1, p2, p3⟩ := h.pt
    exact ⟨P, p1, by rw [h2 _ _ (by omega) (by omega)]; exact p2, p3⟩
theorem a_stp (v : vTp T) (ha : 4 ≤ ra) (h : cAS I J T ra s D) : ∃ I' J', cAS I' J' T ra (stp s) D ∧ cFr (ra + 5) I I' ∧ jFr J J' ∧ ∀ d R, kX xs (d + 4) 18 0 [some (.ref 1)] [] (kmm I J rf g) R = R none (kmm I' J' rf g) := by
  obtain ⟨I1, J1, a1, a2, a3, a4⟩ := c_stp (xs := xs) (rf := rf) (g := g) v (by omega) h.p
  exact ⟨I1, J1, ⟨a1, h.d.keep ha (cFs.of a2) (jFs.of a3)⟩, a2, a3, a4⟩
theorem a_wrg {c : Nat} (ha : 4 ≤ ra) (h : cAS I J T ra s D) (hF : s.F = 0) : ∃ I', cAS I' J T ra (wrg T c s) D ∧ cFr (ra + 5) I I' ∧ ∀ d R, kX xs d 17 0 [some (.ref 1), some (.int (nI c))] [] (kmm I J rf g) R = R (some (.int 0)) (kmm I' J rf g) := by
  obtain ⟨I1, a1, a2, a4⟩ := c_wrg (xs := xs) (rf := rf) (g := g) (c := c) (by omega) h.p hF
  exact ⟨I1, ⟨a1, h.d.keep ha (cFs.of a2) (fun _ _ _ _ => rfl)⟩, a2, a4⟩
theorem a_tak {c : Nat} (v : vTp T) (hc : c < 200) (h0 : 0 < c) (ha : 4 ≤ ra) (h : cAS I J T ra s D) (hF : s.F = 0) : ∃ I' J', cAS I' J' T ra (tak T c s) D ∧ cFr (ra + 5) I I' ∧ jFr J J' ∧ ∀ d R, kX xs (d + 5) 16 0 [some (.ref 1), some (.int (nI c))] [] (kmm I J rf g) R = R (some (.int (bz (tak T c s)))) (kmm I' J' rf g) := by
  obtain ⟨I1, J1, a1, a2, a3, a4⟩ := c_tak (xs := xs) (rf := rf) (g := g) (c := c) v hc h0 (by omega) h.p hF
  exact ⟨I1, J1, ⟨a1, h.d.keep ha (cFs.of a2) (jFs.of a3)⟩, a2, a3, a4⟩
theorem a_tkN {m : Nat} (v : vTp T) (hm : m < 1000) (ha : 4 ≤ ra) (h : cAS I J T ra s D) (hF : s.F = 0) : ∃ I' J', cAS I' J' T ra (tkN T m s) D ∧ ((tkN T m s).F = 0 → I' 3 3 = nI (tV T (pT T s.k))) ∧ cFs (ra + 5) I I' ∧ jFr J J' ∧ ∀ d R, kX xs (d + 5) 45 0 [some (.ref 3), some (.int (nI m))] [] (kmm I J rf g) R = R (some (.int (bz (tkN T m s)))) (kmm I' J' rf g) := by
  obtain ⟨I1, J1, a1, a0, a2, a3, a4⟩ := c_45 (xs := xs) (rf := rf) (g := g) (m := m) v hm (by omega) h.p hF
  exact ⟨I1, J1, ⟨a1, h.d.keep ha a2 (jFs.of a3)⟩, fun z => (a0 z).1, a2, a3, a4⟩
/-- Reader.takeNewName -/
theorem c_46 (v : vTp T) (hr : kshp ra = some (.inl 6)) (hv : vDr D) (h : cAS I J T ra s D) (hF : s.F = 0) : ∃ I' J', cAS I' J' T ra (nwN T D s) D ∧ ((nwN T D s).F = 0 → J' 3 2 = nJ (cnv 8 (tV T (pT T s.k)))) ∧ cFr (ra + 5) I I' ∧ jFs J J' ∧ ∀ d R, kX xs (d + 5) 46 0 [some (.ref 3), some (.ref ra)] [] (kmm I J rf g) R = R (some (.int (bz (nwN T D s)))) (kmm I' J' rf g) := by
  have ha := kad6 hr
  have hj7 := hv.j
  have hc7 := hv.c
  unfold nwN
  by_cases q : okN (kdO T s)
  · rw [if_pos q]
    obtain ⟨w1, w2⟩ := h.p.tk.w (okN_w q)
    have jf : jFs J (ku J 3 2 (J 1 6)) := fun x k _ p => ku_ne p
    have h' : cAS I (ku J 3 2 (J 1 6)) T ra s D := ⟨h.p.keep (fun _ _ _ => rfl) (by rw [ku_nea (by omega)]), h.d.keep (by omega) (fun _ _ _ _ _ _ => rfl) jf⟩
    have nJj : ∀ i, i < D.nj → ku J 3 2 (J 1 6) (ra + 1) i = nJ (cnv 8 (D.N.j i)) := h'.d.nm.j
    have nJc : ∀ i, i < D.nc → ku J 3 2 (J 1 6) (ra + 2) i = nJ (cnv 8 (D.N.c i)) := h'.d.nm.c
    have look : ∀ d R, kX xs (d + 1) 55 0 [some (.ref ra), some (.long (J 1 6)), none] [] (kmm I (ku J 3 2 (J 1 6)) rf g) R = R (some (.int (fnd D.N.j (tV T (pT T s.k)) D.nj))) (kmm I (ku J 3 2 (J 1 6)) rf g) := by
      intro d R
      rw [B55_0, kg6_2 hr, kO_s, kg6_0 hr, kO_s, h.d.nj, w1]
      rw [w1] at nJj
      rw [sp57e (fun i hi => kj6_1 hr hi) (kl6_1 hr) hj7 w2 hv.nm.vj nJj, kpush_s, B55_12]
    have look2 : ∀ d R, kX xs (d + 1) 56 0 [some (.ref ra), some (.long (J 1 6)), none] [] (kmm I (ku J 3 2 (J 1 6)) rf g) R = R (some (.int (fnd D.N.c (tV T (pT T s.k)) D.nc))) (kmm I (ku J 3 2 (J 1 6)) rf g) := by
      intro d R
      rw [B56_0, kg6_3 hr, kO_s, kg6_1 hr, kO_s, h.d.nc, w1]
      rw [w1] at nJc
      rw [sp57e (fun i hi => kj6_2 hr hi) (kl6_2 hr) hc7 w2 hv.nm.vc nJc, kpush_s, B56_12]
    have ent : ∀ d R, kX xs (d + 5) 46 0 [some (.ref 3), some (.ref ra)] [] (kmm I J rf g) R = if fnd D.N.j (tV T (pT T s.k)) D.nj = -1 then (if fnd D.N.c (tV T (pT T s.k)) D.nc = -1 then kX xs (d + 5) 46 63 [some (.ref 3), none] [] (kmm I (ku J 3 2 (J 1 6)) rf g) R else kX xs (d + 5) 46 54 [some (.ref 3), none] [] (kmm I (ku J 3 2 (J 1 6)) rf g) R) else kX xs (d + 5) 46 54 [some (.ref 3), none] [] (kmm I (ku J 3 2 (J 1 6)) rf g) R := by
      intro d R
      rw [B46_0, kg5_0, kO_s, krecv_m ks1, kcond_t, show d + 4 = d + 3 + 1 from rfl, sp25e v h.p, kpush_s, B46_7, if_neg (by rw [decide_eq_true q]; decide), B46_19, kg5_0, kO_s, kg2_6, kO_s, kp5_2, kO_s, kg5_2, kO_s, ku_same, krecv_m hr, kcond_t, look, kpush_s, B46_38]
      by_cases z : fnd D.N.j (tV T (pT T s.k)) D.nj = -1
      · rw [if_pos z, if_pos z, B46_42, kg5_2, kO_s, ku_same, krecv_m hr, kcond_t, look2, kpush_s, B46_50]
      · rw [if_neg z, if_neg z]
    have m1 := fnd_m (f := D.N.j) (v := tV T (pT T s.k)) hj7
    have m2 := fnd_m (f := D.N.c) (v := tV T (pT T s.k)) hc7
    by_cases q2 : fO D.N.j (tV T (pT T s.k)) D.nj < D.nj ∨ fO D.N.c (tV T (pT T s.k)) D.nc < D.nc
    · rw [if_pos q2]
      obtain ⟨I1, a1, a2, a4⟩ := a_wrg (xs := xs) (rf := rf) (g := g) (c := 3) (by omega) h' hF
      have a4' : ∀ d R, kX xs d 17 0 [some (.ref 1), some (.int 3)] [] (kmm I (ku J 3 2 (J 1 6)) rf g) R = R (some (.int 0)) (kmm I1 (ku J 3 2 (J 1 6)) rf g) := a4
      have wF := wrgF (T := T) (c := 3) (by omega) hF
      refine ⟨I1, _, a1, fun z => absurd z wF, a2, jf, fun d R => ?_⟩
      have fin : ∀ d R, kX xs (d + 5) 46 54 [some (.ref 3), none] [] (kmm I (ku J 3 2 (J 1 6)) rf g) R = R (some (.int (bz (wrg T 3 s)))) (kmm I1 (ku J 3 2 (J 1 6)) rf g) := by
        intro d R
        rw [B46_54, kg5_0, kO_s, krecv_m ks1, kcond_t, a4', kpush_s, B46_62, if_pos nar0, bz_0 wF]
      rw [ent]
      by_cases z : fnd D.N.j (tV T (pT T s.k)) D.nj = -1
      · have z2 : ¬ fnd D.N.c (tV T (pT T s.k)) D.nc = -1 := fun y => (m2.mp y) (q2.resolve_left (m1.mp z))
        rw [if_pos z, if_neg z2, fin]
      · rw [if_neg z, fin]
    · rw [if_neg q2]
      obtain ⟨I1, J1, a1, a2, a3, a4⟩ := a_stp (xs := xs) (rf := rf) (g := g) v (by omega) h'
      have hj : J1 3 2 = nJ (cnv 8 (tV T (pT T s.k))) := by rw [a3 _ _ (by omega), ku_same, w1]
      refine ⟨I1, J1, a1, fun _ => hj, a2, fun x k p1 p2 => by rw [a3 x k p1, ku_ne p2], fun d R => ?_⟩
      rw [ent, if_pos (m1.mpr (fun y => q2 (Or.inl y))), if_pos (m2.mpr (fun y => q2 (Or.inr y))), B46_63, kg5_0, kO_s, krecv_m ks1, kcond_t, a4, kpush_n, B46_70, if_pos nar1, bz_1 (s := stp s) hF]
  · rw [if_neg q]
    obtain ⟨I1, a1, a2, a4⟩ := a_wrg (xs := xs) (rf := rf) (g := g) (c := 1) (by omega) h hF
    have a4' : ∀ d R, kX xs d 17 0 [some (.ref 1), some (.int 1)] [] (kmm I J rf g) R = R (some (.int 0)) (kmm I1 J rf g) := a4
    have wF := wrgF (T := T) (c := 1) (by omega) hF
    refine ⟨I1, J, a1, fun z => absurd z wF, a2, fun _ _ _ _ => rfl, fun d R => ?_⟩
    rw [B46_0, kg5_0, kO_s, krecv_m ks1, kcond_t, show d + 4 = d + 3 + 1 from rfl, sp25e v h.p, kpush_s, B46_7, if_pos (by rw [decide_eq_false q]; rfl), B46_10, kg5_0, kO_s, krecv_m ks1, kcond_t, a4', kpush_s, B46_18, if_pos nar0, bz_0 wF]
theorem kad68 (hr : kshp ra = some (.inl 6)) : kshp (ra + 8) = some (.inl 9) := by
  rcases kad6 hr with e | e <;> subst e <;> rfl
/-- Roll.addJudge -/
theorem c_53 {vn kk ll : Nat} (hr : kshp ra = some (.inl 6)) (h : cAS I J T ra s D) (hn : D.nj < 7) : ∃ I' J', cAS I' J' T ra s (adJ D vn kk ll) ∧ cFa ra I I' ∧ jFa ra J J' ∧ ∀ d R, kX xs d 53 0 [some (.ref ra), some (.long (nJ (cnv 8 vn))), none, some (.int (nI kk)), some (.int (nI ll))] [] (kmm I J rf g) R = R none (kmm I' J' rf g) := by
  have ha := kad6 hr
  have h9 := kad68 hr
  have e0 := h.d.nj
  refine ⟨ku (ku (ku I (ra + 3) D.nj (nI kk)) (ra + 8 + 3) D.nj (nI ll)) ra 0 (nI (D.nj + 1)), ku J (ra + 1) D.nj (nJ (cnv 8 vn)), ⟨h.p.keep (fun x k hx => by rw [ku_nea (by omega), ku_nea (by omega), ku_nea (by omega)]) (by rw [ku_nea (by omega)]), ?_⟩, fun x k p q r => by rw [ku_nea (by omega), ku_nea (by omega), ku_nea (by omega)], fun x k p q r t => by rw [ku_nea r], fun d R => ?_⟩
  · refine ⟨ku_same _ _ _ _, ?_, fun k hk => ?_, fun k hk => ?_, ⟨fun i hi => ?_, fun i hi => ?_⟩, ⟨?_, ?_, fun k hk => ?_, fun k hk => ?_, fun k hk => ?_, fun k hk => ?_⟩, ?_, ?_⟩
    · rw [ku_nek (by omega), ku_nea (by omega), ku_nea (by omega)]; exact h.d.nc
    · show _ = nI (ku1 D.kd D.nj kk k)
      rw [ku_nea (by omega), ku_nea (by omega)]
      by_cases q : k = D.nj
      · rw [q, ku_same, ku1_s]
      · rw [ku_nek q, ku1_n q]; exact h.d.kd k hk
    · rw [ku_nea (by omega), ku_nea (by omega), ku_nea (by omega)]; exact h.d.gu k hk
    · have hi' : i < D.nj + 1 := hi
      show _ = nJ (cnv 8 (ku1 D.N.j D.nj vn i))
      by_cases q : i = D.nj
      · rw [q, ku_same, ku1_s]
      · rw [ku_nek q, ku1_n q]; exact h.d.nm.j i (by omega)
    · rw [ku_nea (by omega)]; exact h.d.nm.c i hi
    · rw [ku_nea (by omega), ku_nea (by omega), ku_nea (by omega)]; exact h.d.st.nx
    · rw [ku_nea (by omega), ku_nea (by omega), ku_nea (by omega)]; exact h.d.st.rd
    · rw [ku_nea (by omega), ku_nea (by omega), ku_nea (by omega)]; exact h.d.st.hd k hk
    · rw [ku_nea (by omega), ku_nea (by omega), ku_nea (by omega)]; exact h.d.st.up k hk
    · show _ = nI (ku1 D.bg.ln D.nj ll k)
      rw [ku_nea (by omega)]
      by_cases q : k = D.nj
      · rw [q, ku_same, ku1_s]
      · rw [ku_nek q, ku1_n q, ku_nea (by omega)]; exact h.d.st.ln k hk
    · rw [ku_nea (by omega), ku_nea (by omega), ku_nea (by omega)]; exact h.d.st.ch k hk
    · rw [ku_nea (by omega), ku_nea (by omega), ku_nea (by omega)]; exact h.d.lt
    · obtain ⟨P, p1, p2, p3⟩ := h.d.pt
      exact ⟨P, p1, by rw [ku_nea (by omega)]; exact p2, p3⟩
  · rw [B53_0, kg6_0 hr, kO_s, e0, c8_7, if_pos (nI_lt hn (by omega)), B53_9, kg6_2 hr, kO_s, kg6_0 hr, kO_s, e0, kk6_1 hr hn, kO_s, kg6_4 hr, kO_s, kg6_0 hr, kO_s, e0, kw6_3 hr hn, kO_s, kg6_7 hr, kO_s, kg9_4 h9, kO_s, kg6_0 hr, kO_s, ku_nea (show ra ≠ ra + 3 by omega), e0, kw9_3 h9 hn, kO_s, kg6_0 hr, kO_s, ku_nea (show ra ≠ ra + 8 + 3 by omega), ku_nea (show ra ≠ ra + 3 by omega), e0, nI_add1, kp6_0 hr, kO_s, B53_53]
/-- Roll.addCase -/
theorem c_54 {vn kk ll : Nat} (hr : kshp ra = some (.inl 6)) (h : cAS I J T ra s D) (hn : D.nc < 7) : ∃ I' J', cAS I' J' T ra s (adC D vn kk ll) ∧ cFa ra I I' ∧ jFa ra J J' ∧ ∀ d R, kX xs d 54 0 [some (.ref ra), some (.long (nJ (cnv 8 vn))), none, some (.int (nI kk)), some (.int (nI ll))] [] (kmm I J rf g) R = R none (kmm I' J' rf g) := by
  have ha := kad6 hr
  have h9 := kad68 hr
  have e0 := h.d.nc
  refine ⟨ku (ku (ku I (ra + 4) D.nc (nI kk)) (ra + 8 + 2) D.nc (nI ll)) ra 1 (nI (D.nc + 1)), ku J (ra + 2) D.nc (nJ (cnv 8 vn)), ⟨h.p.keep (fun x k hx => by rw [ku_nea (by omega), ku_nea (by omega), ku_nea (by omega)]) (by rw [ku_nea (by omega)]), ?_⟩, fun x k p q r => by rw [ku_nea (by omega), ku_nea (by omega), ku_nea (by omega)], fun x k p q r t => by rw [ku_nea t], fun d R => ?_⟩
  · refine ⟨?_, ku_same _ _ _ _, fun k hk => ?_, fun k hk => ?_, ⟨fun i hi => ?_, fun i hi => ?_⟩, ⟨?_, ?_, fun k hk => ?_, fun k hk => ?_, fun k hk => ?_, fun k hk => ?_⟩, ?_, ?_⟩
    · rw [ku_nek (by omega), ku_nea (by omega), ku_nea (by omega)]; exact h.d.nj
    · rw [ku_nea (by omega), ku_nea (by omega), ku_nea (by omega)]; exact h.d.kd k hk
    · show _ = nI (ku1 D.gu D.nc kk k)
      rw [ku_nea (by omega), ku_nea (by omega)]
      by_cases q : k = D.nc
      · rw [q, ku_same, ku1_s]
      · rw [ku_nek q, ku1_n q]; exact h.d.gu k hk
    · rw [ku_nea (by omega)]; exact h.d.nm.j i hi
    · have hi' : i < D.nc + 1 := hi
      show _ = nJ (cnv 8 (ku1 D.N.c D.nc vn i))
      by_cases q : i = D.nc
      · rw [q, ku_same, ku1_s]
      · rw [ku_nek q, ku1_n q]; exact h.d.nm.c i (by omega)
    · rw [ku_nea (by omega), ku_nea (by omega), ku_nea (by omega)]; exact h.d.st.nx
    · rw [ku_nea (by omega), ku_nea (by omega), ku_nea (by omega)]; exact h.d.st.rd
    · rw [ku_nea (by omega), ku_nea (by omega), ku_nea (by omega)]; exact h.d.st.hd k hk
    · show _ = nI (ku1 D.bg.up D.nc ll k)
      rw [ku_nea (by omega)]
      by_cases q : k = D.nc
      · rw [q, ku_same, ku1_s]
      · rw [ku_nek q, ku1_n q, ku_nea (by omega)]; exact h.d.st.up k hk
    · rw [ku_nea (by omega), ku_nea (by omega), ku_nea (by omega)]; exact h.d.st.ln k hk
    · rw [ku_nea (by omega), ku_nea (by omega), ku_nea (by omega)]; exact h.d.st.ch k hk
    · rw [ku_nea (by omega), ku_nea (by omega), ku_nea (by omega)]; exact h.d.lt
    · obtain ⟨P, p1, p2, p3⟩ := h.d.pt
      exact ⟨P, p1, by rw [ku_nea (by omega)]; exact p2, p3⟩
  · rw [B54_0, kg6_1 hr, kO_s, e0, c8_7, if_pos (nI_lt hn (by omega)), B54_9, kg6_3 hr, kO_s, kg6_1 hr, kO_s, e0, kk6_2 hr hn, kO_s, kg6_5 hr, kO_s, kg6_1 hr, kO_s, e0, kw6_4 hr hn, kO_s, kg6_7 hr, kO_s, kg9_3 h9, kO_s, kg6_1 hr, kO_s, ku_nea (show ra ≠ ra + 4 by omega), e0, kw9_2 h9 hn, kO_s, kg6_1 hr, kO_s, ku_nea (show ra ≠ ra + 8 + 2 by omega), ku_nea (show ra ≠ ra + 4 by omega), e0, nI_add1, kp6_1 hr, kO_s, B54_53]
end CJ
