/-! a line of an assize: what it leaves, pure -/
section PL
variable {T : aTp} {s l u : aPS} {D : aDr} {m bm n : Nat} {f : Nat → Nat}
theorem okN_v (q : okN (kdO T s)) : vWd (tV T (pT T s.k)) := by
  have es : srt (tK T (pT T s.k)) = 1 := by
    have z := okN_w q
    unfold srt
    rw [if_neg (by omega), if_neg (by omega), if_neg (by omega), if_pos z]
  exact (tk1 es).2
theorem fO_all {v : Nat} (h : ¬ fO f v n < n) : ∀ i, i < n → f i ≠ v := fun i hi => (fO_ok f v n).2.1 i (by have := (fO_ok f v n).1; omega)
theorem nwN_F (hF : s.F = 0) (h : (nwN T D s).F = 0) : okN (kdO T s) ∧ (∀ i, i < D.nj → D.N.j i ≠ tV T (pT T s.k)) ∧ (∀ i, i < D.nc → D.N.c i ≠ tV T (pT T s.k)) ∧ nwN T D s = stp s := by
  unfold nwN at h
  by_cases q : okN (kdO T s)
  · rw [if_pos q] at h
    by_cases q2 : fO D.N.j (tV T (pT T s.k)) D.nj < D.nj ∨ fO D.N.c (tV T (pT T s.k)) D.nc < D.nc
    · rw [if_pos q2] at h; exact absurd h (wrgF (by omega) hF)
    · refine ⟨q, fO_all (fun z => q2 (Or.inl z)), fO_all (fun z => q2 (Or.inr z)), ?_⟩
      unfold nwN
      rw [if_pos q, if_neg q2]
  · rw [if_neg q] at h; exact absurd h (wrgF (by omega) hF)
theorem tkK_F (hF : s.F = 0) (h : (tkK T s).F = 0) : 139 ≤ kdO T s ∧ kdO T s ≤ 142 := by
  refine Classical.byContradiction (fun q => ?_)
  unfold tkK at h
  rw [if_neg q] at h
  exact wrgF (by omega) hF h
theorem tkN_F (hF : s.F = 0) (h : (tkN T m s).F = 0) : tV T (pT T s.k) ≤ m := by
  unfold tkN at h
  by_cases q : kdO T s = 2
  · rw [if_pos q] at h
    refine Classical.byContradiction (fun q2 => ?_)
    rw [if_neg q2] at h
    exact wrgF (by omega) hF h
  · rw [if_neg q] at h; exact absurd h (wrgF (by omega) hF)
theorem tld_F (hF : s.F = 0) (h : (tld T f n bm s).F = 0) : fO f (tV T (pT T s.k)) n < n ∧ bm.testBit (fO f (tV T (pT T s.k)) n) = false := by
  unfold tld at h
  by_cases q : okN (kdO T s)
  · rw [if_pos q] at h
    by_cases q2 : fO f (tV T (pT T s.k)) n < n
    · rw [if_pos q2] at h
      refine ⟨q2, bfalse (fun q3 => ?_)⟩
      rw [if_pos q3] at h
      exact wrgF (by omega) hF h
    · rw [if_neg q2] at h; exact absurd h (wrgF (by omega) hF)
  · rw [if_neg q] at h; exact absurd h (wrgF (by omega) hF)
theorem iF_G {fn : aPS → aPS} (h : (iF fn s).F = 0) : s.F = 0 ∧ (fn s).F = 0 := by
  have h0 := iF_F h
  unfold iF at h
  rw [if_pos h0] at h
  exact ⟨h0, h⟩
theorem sW_nwN : nwN T D (sW s l) = sW (nwN T D s) l := by
  unfold nwN
  rw [sW_d, sW_k]
  by_cases q : okN (kdO T s)
  · rw [if_pos q, if_pos q]
    by_cases q2 : fO D.N.j (tV T (pT T s.k)) D.nj < D.nj ∨ fO D.N.c (tV T (pT T s.k)) D.nc < D.nc
    · rw [if_pos q2, if_pos q2]; rfl
    · rw [if_neg q2, if_neg q2]; rfl
  · rw [if_neg q, if_neg q]; rfl
theorem sW_tkK : tkK T (sW s l) = sW (tkK T s) l := by
  unfold tkK
  rw [sW_d]
  by_cases q : 139 ≤ kdO T s ∧ kdO T s ≤ 142
  · rw [if_pos q, if_pos q]; rfl
  · rw [if_neg q, if_neg q]; rfl
theorem sW_nw1 : nw1 T D (sW s l) = sW (nw1 T D s) l := by
  unfold nw1
  rw [sW_stp, sW_nwN]
theorem sW_jg2 : jg2 T D (sW s l) = sW (jg2 T D s) l := by
  unfold jg2
  rw [sW_nw1, sW_iF sW_tkK]
theorem sW_jg3 : jg3 T D (sW s l) = sW (jg3 T D s) l := by
  unfold jg3
  rw [sW_jg2, sW_tak]
theorem sW_jg4 : jg4 T D (sW s l) = sW (jg4 T D s) l := by
  unfold jg4
  rw [sW_jg3, sW_iF sW_tkN]
theorem sW_jgS : jgS T D (sW s l) = sW (jgS T D s) l := by
  unfold jgS
  rw [sW_jg4, sW_tak]
theorem sW_cs2 : cs2 T D (sW s l) = sW (cs2 T D s) l := by
  unfold cs2
  rw [sW_nw1, sW_tak]
theorem sW_cs3 : cs3 T D (sW s l) = sW (cs3 T D s) l := by
  unfold cs3
  rw [sW_cs2, sW_iF sW_tkN]
theorem sW_cs4 : cs4 T D (sW s l) = sW (cs4 T D s) l := by
  unfold cs4
  rw [sW_cs3, sW_tak]
theorem sW_cs5 : cs5 T D (sW s l) = sW (cs5 T D s) l := by
  unfold cs5
  rw [sW_cs4, sW_iF sW_tkN]
theorem sW_csS : csS T D (sW s l) = sW (csS T D s) l := by
  unfold csS
  rw [sW_cs5, sW_tak]
theorem sW_ch1 : ch1 T D (sW s l) = sW (ch1 T D s) l := by
  unfold ch1
  rw [sW_stp, sW_tld]
theorem sW_chA : chA T D (sW s l) = chA T D s := rfl
theorem sW_chB : chB T D (sW s l) = chB T D s := by
  unfold chB
  rw [sW_ch1]
  rfl
theorem sW_ch2 : ch2 T D (sW s l) = sW (ch2 T D s) l := by
  unfold ch2
  rw [sW_ch1, sW_chA, sW_iF sW_tld]
theorem sW_chS : chS T D (sW s l) = sW (chS T D s) l := by
  unfold chS
  rw [sW_ch2, sW_tak]
abbrev eqL (u s : aPS) : Prop := u.ll = s.ll ∧ u.lo = s.lo ∧ u.la = s.la
theorem eqL_of {fn : aPS → aPS} (h : ∀ s l, fn (sW s l) = sW (fn s) l) (s : aPS) : eqL (fn s) s := by
  have e : fn s = sW (fn s) s := h s s
  rw [e]
  exact ⟨rfl, rfl, rfl⟩
/-! how far -/
theorem kle_nwN (h : s.k ≤ nT T) : kle T s (nwN T D s) := by
  unfold nwN
  by_cases q : okN (kdO T s)
  · rw [if_pos q]
    by_cases q2 : fO D.N.j (tV T (pT T s.k)) D.nj < D.nj ∨ fO D.N.c (tV T (pT T s.k)) D.nc < D.nc
    · rw [if_pos q2]; exact kle_wrg h
    · rw [if_neg q2]; exact kle_stp (kdO_lt h (okN_0 q))
  · rw [if_neg q]; exact kle_wrg h
theorem kle_tkK (h : s.k ≤ nT T) : kle T s (tkK T s) := by
  unfold tkK
  by_cases q : 139 ≤ kdO T s ∧ kdO T s ≤ 142
  · rw [if_pos q]; exact kle_stp (kdO_lt h (by omega))
  · rw [if_neg q]; exact kle_wrg h
theorem kle_nw1 (h : s.k < nT T) : kle T (stp s) (nw1 T D s) := kle_nwN h
theorem kle_jg2 (h : s.k < nT T) : kle T (stp s) (jg2 T D s) := (kle_nw1 h).trans (kle_iF (kle_nw1 h).2 (kle_tkK (kle_nw1 h).2))
theorem kle_jg3 (h : s.k < nT T) : kle T (stp s) (jg3 T D s) := (kle_jg2 h).trans (kle_tak (kle_jg2 h).2 (by omega))
theorem kle_jg4 (h : s.k < nT T) : kle T (stp s) (jg4 T D s) := (kle_jg3 h).trans (kle_iF (kle_jg3 h).2 (kle_tkN (kle_jg3 h).2))
theorem kle_jgS (h : s.k < nT T) : kle T (stp s) (jgS T D s) := (kle_jg4 h).trans (kle_tak (kle_jg4 h).2 (by omega))
theorem kle_cs2 (h : s.k < nT T) : kle T (stp s) (cs2 T D s) := (kle_nw1 h).trans (kle_tak (kle_nw1 h).2 (by omega))
theorem kle_cs3 (h : s.k < nT T) : kle T (stp s) (cs3 T D s) := (kle_cs2 h).trans (kle_iF (kle_cs2 h).2 (kle_tkN (kle_cs2 h).2))
theorem kle_cs4 (h : s.k < nT T) : kle T (stp s) (cs4 T D s) := (kle_cs3 h).trans (kle_tak (kle_cs3 h).2 (by omega))
theorem kle_cs5 (h : s.k < nT T) : kle T (stp s) (cs5 T D s) := (kle_cs4 h).trans (kle_iF (kle_cs4 h).2 (kle_tkN (kle_cs4 h).2))
theorem kle_csS (h : s.k < nT T) : kle T (stp s) (csS T D s) := (kle_cs5 h).trans (kle_tak (kle_cs5 h).2 (by omega))
theorem kle_ch1 (h : s.k < nT T) : kle T (stp s) (ch1 T D s) := kle_tld h
theorem kle_ch2 (h : s.k < nT T) : kle T (stp s) (ch2 T D s) := (kle_ch1 h).trans (kle_iF (kle_ch1 h).2 (kle_tld (kle_ch1 h).2))
theorem kle_chS (h : s.k < nT T) : kle T (stp s) (chS T D s) := (kle_ch2 h).trans (kle_tak (kle_ch2 h).2 (by omega))
theorem kle_ayS (h : s.k ≤ nT T) (hF : s.F = 0) : (ayS T D s).k ≤ nT T ∧ ((ayS T D s).F = 0 → s.k + 1 ≤ (ayS T D s).k) := by
  have bad : ∀ c, 0 < c → (wrg T c s).k ≤ nT T ∧ ((wrg T c s).F = 0 → s.k + 1 ≤ (wrg T c s).k) := fun c hc => ⟨h, fun z => absurd z (wrgF hc hF)⟩
  unfold ayS
  by_cases q1 : kdO T s = 128
  · have hl : s.k < nT T := kdO_lt h (by omega)
    rw [if_pos q1]
    by_cases q2 : D.nj < 7
    · rw [if_pos q2]; exact ⟨(kle_jgS hl).2, fun _ => (kle_jgS hl).1⟩
    · rw [if_neg q2]; exact bad 5 (by omega)
  · rw [if_neg q1]
    by_cases q3 : kdO T s = 130
    · have hl : s.k < nT T := kdO_lt h (by omega)
      rw [if_pos q3]
      by_cases q2 : D.nc < 7
      · rw [if_pos q2]; exact ⟨(kle_csS hl).2, fun _ => (kle_csS hl).1⟩
      · rw [if_neg q2]; exact bad 5 (by omega)
    · rw [if_neg q3]
      by_cases q4 : kdO T s = 133
      · have hl : s.k < nT T := kdO_lt h (by omega)
        rw [if_pos q4]; exact ⟨(kle_chS hl).2, fun _ => (kle_chS hl).1⟩
      · rw [if_neg q4]
        by_cases q5 : kdO T s = 134
        · have hl : s.k < nT T := kdO_lt h (by omega)
          rw [if_pos q5]
          unfold dlS
          by_cases q6 : D.lt = 0
          · rw [if_pos q6]
            have a := avn_who (avn_par (T := T) 5) (stp s) hl
            have b := avn_tak (c := 59) a.n (by omega)
            exact ⟨b.n, fun _ => Nat.le_trans (show s.k + 1 ≤ _ from a.k) b.k⟩
          · rw [if_neg q6]; exact bad 3 (by omega)
        · rw [if_neg q5]; exact bad 1 (by omega)
/-! the draft stays well made -/
theorem jgD_v (h : vDr D) (hn : D.nj < 7) (hF : s.F = 0) (hS : (jgS T D s).F = 0) : vDr (jgD T D s) := by
  have f4 : (jg4 T D s).F = 0 := tak_F hS
  obtain ⟨f3, n3⟩ := iF_G f4
  have f2 : (jg2 T D s).F = 0 := tak_F f3
  obtain ⟨f1, k1⟩ := iF_G f2
  obtain ⟨w1, w2, w3, _⟩ := nwN_F (s := stp s) hF f1
  have kk := tkK_F f1 k1
  exact adJ_v h hn (okN_v w1) w2 w3 (by omega) (tkN_F f3 n3)
theorem csD_v (h : vDr D) (hn : D.nc < 7) (hF : s.F = 0) (hS : (csS T D s).F = 0) : vDr (csD T D s) := by
  have f5 : (cs5 T D s).F = 0 := tak_F hS
  obtain ⟨f4, n4⟩ := iF_G f5
  have f3 : (cs3 T D s).F = 0 := tak_F f4
  obtain ⟨f2, n2⟩ := iF_G f3
  have f1 : (nw1 T D s).F = 0 := tak_F f2
  obtain ⟨w1, w2, w3, _⟩ := nwN_F (s := stp s) hF f1
  exact adC_v h hn (okN_v w1) w2 w3 (tkN_F f2 n2) (by have := tkN_F f4 n4; omega)
theorem chS_f (hF : s.F = 0) (hS : (chS T D s).F = 0) : chA T D s < D.nj ∧ chB T D s < D.nj ∧ chA T D s ≠ chB T D s ∧ (D.ms (chA T D s)).testBit (chB T D s) = false := by
  have f2 : (ch2 T D s).F = 0 := tak_F hS
  obtain ⟨f1, n1⟩ := iF_G f2
  obtain ⟨a1, a2⟩ := tld_F (s := stp s) hF f1
  obtain ⟨b1, b2⟩ := tld_F f1 n1
  have b1' : chB T D s < D.nj := b1
  have b2' : (D.ms (chA T D s) ||| 2 ^ chA T D s).testBit (chB T D s) = false := b2
  rw [Nat.testBit_or, tb_two, Bool.or_eq_false_iff, decide_eq_false_iff_not] at b2'
  exact ⟨a1, b1', b2'.2, b2'.1⟩
theorem ayD_v (h : vDr D) (hF : s.F = 0) : vDr (ayD T D s) := by
  unfold ayD
  by_cases z : (ayS T D s).F = 0
  · rw [if_pos z]
    unfold ayS at z
    by_cases q1 : kdO T s = 128
    · rw [if_pos q1]
      rw [if_pos q1] at z
      by_cases q2 : D.nj < 7
      · rw [if_pos q2] at z; exact jgD_v h q2 hF z
      · rw [if_neg q2] at z; exact absurd z (wrgF (by omega) hF)
    · rw [if_neg q1]
      rw [if_neg q1] at z
      by_cases q3 : kdO T s = 130
      · rw [if_pos q3]
        rw [if_pos q3] at z
        by_cases q2 : D.nc < 7
        · rw [if_pos q2] at z; exact csD_v h q2 hF z
        · rw [if_neg q2] at z; exact absurd z (wrgF (by omega) hF)
      · rw [if_neg q3]
        rw [if_neg q3] at z
        by_cases q4 : kdO T s = 133
        · rw [if_pos q4]
          rw [if_pos q4] at z
          obtain ⟨a1, a2, a3, a4⟩ := chS_f hF z
          exact prD_v h a1 a2 a3 a4
        · rw [if_neg q4]; exact dlD_v h
  · rw [if_neg z]; exact h
/-! and so does the law -/
theorem lwf_e {r r' : aRl} (e1 : r'.ll = r.ll) (e2 : r'.lo = r.lo) (e3 : r'.la = r.la) (h : lwf r) : lwf r' := by
  refine ⟨?_, ?_, ?_, ?_, ?_, ?_, ?_, ?_⟩ <;> rw [e1] <;> (try rw [e2]) <;> (try rw [e3])
  · exact h.len
  · exact h.op
  · exact h.nu
  · exact h.fc
  · exact h.h1
  · exact h.h2
  · exact h.hi
  · exact h.en
abbrev vLw (s : aPS) (D : aDr) : Prop := (D.lt = 0 → s.ll = 0) ∧ (¬ D.lt = 0 → lwf (rO s D) ∧ 0 < s.ll) ∧ D.lt ≤ 1
theorem vLw.e {D' : aDr} (h : vLw s D) (he : eqL u s) (hd : D'.lt = D.lt) : vLw u D' := by
  refine ⟨fun z => by rw [he.1]; exact h.1 (by rw [← hd]; exact z), fun z => ?_, by rw [hd]; exact h.2.2⟩
  obtain ⟨a, b⟩ := h.2.1 (by rw [← hd]; exact z)
  exact ⟨lwf_e (r := rO s D) he.1 he.2.1 he.2.2 a, by rw [he.1]; exact b⟩
theorem dl_L {W : aPS} (v : vTp T) (hk : (stp s).k ≤ nT T) (hl : (stp s).ll = 0) (hF : (stp s).F = 0) (eW : W = who T (par T 5) (stp s)) (z : (tak T 59 W).F = 0) : vLw (tak T 59 W) (dlD D) := by
  have eL : eqL (tak T 59 W) W := eqL_of (fn := tak T 59) (fun _ _ => sW_tak) _
  obtain ⟨a, b⟩ := law_wf (r := rO (tak T 59 W) (dlD D)) (s := stp s) (u := W) v hk hl hF eW (tak_F z) eL.1 eL.2.1 eL.2.2
  exact ⟨fun y => absurd (show 1 = 0 from y) (by omega), fun _ => ⟨a, b⟩, Nat.le_refl 1⟩
theorem ayL (v : vTp T) (h : vLw s D) (hk : s.k ≤ nT T) (hF : s.F = 0) (z : (ayS T D s).F = 0) : vLw (ayS T D s) (ayD T D s) := by
  unfold ayD
  rw [if_pos z]
  unfold ayS at z ⊢
  by_cases q1 : kdO T s = 128
  · rw [if_pos q1, if_pos q1]
    rw [if_pos q1] at z
    by_cases q2 : D.nj < 7
    · rw [if_pos q2]; exact h.e (eqL_of (fun _ _ => sW_jgS) s) rfl
    · rw [if_neg q2] at z; exact absurd z (wrgF (by omega) hF)
  · rw [if_neg q1, if_neg q1]
    rw [if_neg q1] at z
    by_cases q3 : kdO T s = 130
    · rw [if_pos q3, if_pos q3]
      rw [if_pos q3] at z
      by_cases q2 : D.nc < 7
      · rw [if_pos q2]; exact h.e (eqL_of (fun _ _ => sW_csS) s) rfl
      · rw [if_neg q2] at z; exact absurd z (wrgF (by omega) hF)
    · rw [if_neg q3, if_neg q3]
      rw [if_neg q3] at z
      by_cases q4 : kdO T s = 133
      · rw [if_pos q4, if_pos q4]
        exact h.e (eqL_of (fun _ _ => sW_chS) s) rfl
      · rw [if_neg q4, if_neg q4]
        rw [if_neg q4] at z
        by_cases q5 : kdO T s = 134
        · rw [if_pos q5]
          rw [if_pos q5] at z
          have hl : s.k < nT T := kdO_lt hk (by omega)
          unfold dlS at z ⊢
          by_cases q6 : D.lt = 0
          · rw [if_pos q6]
            rw [if_pos q6] at z
            exact dl_L v hl (h.1 q6) hF rfl z
          · rw [if_neg q6] at z; exact absurd z (wrgF (by omega) hF)
        · rw [if_neg q5] at z; exact absurd z (wrgF (by omega) hF)
end PL
