/-! assize of the model, whole -/
theorem rO_v {S : aPS} {D : aDr} (hv : vDr D) (hw : vLw S D) : vRl (rO S D) := by
  refine ⟨hv.j, hv.c, hv.kd, hv.gu, ?_⟩
  by_cases z : D.lt = 0
  · exact lwf_0 (hw.1 z)
  · exact (hw.2.1 z).1
theorem rO_s {S : aPS} {D : aDr} (hv : vDr D) : vSt (rO S D) D.bg := ⟨hv.st.nx, hv.st.hd, hv.st.h0, hv.st.up, hv.st.ln, hv.st.ch, hv.st.cj, hv.st.ci⟩
theorem asT_v {T : aTp} {kd gu : Nat → Nat} (v : vTp T) (vk : ∀ k, k < 7 → kd k < 4) (vg : ∀ k, k < 7 → gu k ≤ 20) : vDr (asT T kd gu).2 ∧ ((asT T kd gu).1.F = 0 → vLw (asT T kd gu).1 (asT T kd gu).2) := rdA_v v 1001 z0 (dr0 kd gu) (dr0_v vk vg) (Nat.zero_le _) rfl dr0_w
section MB
variable {xs : List Int32} {d : Nat} {I I' I2 : Nat → Nat → Int32} {J J' J2 : Nat → Nat → Int64} {rf : Nat → Nat} {g : Nat} {R : Option Value → KW → Prop} {T : aTp}
theorem m_180 {kd gu : Nat → Nat} (vt : vTp T) (vk : ∀ k, k < 7 → kd k < 4) (vg : ∀ k, k < 7 → gu k ≤ 20) (hT : mTp I T) (hw : ∀ w, w < 22 → J 190 w = nJ (wrdN w)) : (asT T kd gu).1.F ≤ 20000 ∧ ∃ I' J', I' 185 2 = nI 0 ∧
    ((asT T kd gu).1.F = 0 → mRl I' (rO (asT T kd gu).1 (asT T kd gu).2) ∧ mBg I' (rO (asT T kd gu).1 (asT T kd gu).2) (asT T kd gu).2.bg (asT T kd gu).2.np (asT T kd gu).2.pa (asT T kd gu).2.pb ∧ (∃ nm no, mNm I' J' 18 194 196 (asT T kd gu).2.nj (asT T kd gu).2.nc (asT T kd gu).2.N nm no) ∧ mSt I' 0 (rO (asT T kd gu).1 (asT T kd gu).2) (asT T kd gu).2.bg ∧ I' 201 30 = nI 0 ∧ I' 198 0 = nI 0 ∧ I' 185 24 = nI 0 ∧ (∀ m, m < 4 → I' 202 m = nI 0)) ∧
    (¬ (asT T kd gu).1.F = 0 → (∀ x k, ¬ (x = 185 ∧ (k = 0 ∨ k = 2 ∨ k = 3 ∨ k = 7 ∨ k = 8 ∨ k = 13 ∨ k = 19)) → x ≠ 187 → x ≠ 188 → ¬ (x = 191 ∧ 90 ≤ k) → ¬ (x = 192 ∧ 1100 ≤ k) → ¬ (x = 193 ∧ 1100 ≤ k) → x ≠ 197 → I' x k = I x k) ∧ ∀ x k, x ≠ 189 → x ≠ 195 → J' x k = J x k) ∧
    (∀ x k, ¬ (x = 185 ∧ (k = 0 ∨ k = 2 ∨ k = 3 ∨ k = 7 ∨ k = 8 ∨ k = 13 ∨ k = 18 ∨ k = 19 ∨ k = 24)) → x ≠ 187 → x ≠ 188 → x ≠ 191 → x ≠ 192 → x ≠ 193 → x ≠ 196 → x ≠ 197 → ¬ (x = 198 ∧ k = 0) → ¬ (x = 201 ∧ k ≤ 30) → x ≠ 202 → I' x k = I x k) ∧ (∀ x k, x ≠ 189 → x ≠ 194 → x ≠ 195 → J' x k = J x k) ∧
    ∀ d R, kX xs (d + 34) 180 0 [some (.ref 185), none] [] (kmm I J rf g) R = R (some (.int (nI (asT T kd gu).1.F))) (kmm I' J' rf g) := by
  obtain ⟨I1, J1, t1, t2, t3, t4, t5, t6, t7, t8⟩ := sp163 (xs := xs) (J := J) (rf := rf) (g := g) (I := ku I 185 0 0) (T := T) ⟨by rw [ku_nek (by omega)]; exact hT.n, fun k hk => by rw [ku_nea (by omega)]; exact hT.t k hk⟩ vt
  obtain ⟨I2, b1, b2, b3, b4⟩ := m_172 (xs := xs) (J := J1) (rf := rf) (g := g) (I := ku (ku I1 185 13 0) 185 19 0) (b := 90) (by omega)
  have G2 : ∀ x k, ¬ (x = 185 ∧ (k = 0 ∨ k = 2 ∨ k = 3 ∨ k = 7 ∨ k = 8 ∨ k = 13 ∨ k = 19)) → x ≠ 187 → x ≠ 188 → ¬ (x = 191 ∧ 90 ≤ k) → I2 x k = I x k := fun x k p1 p2 p3 p4 => by rw [b3 x k (by omega), ku_ne (by omega), ku_ne (by omega), t6 x k (by omega) p2 p3, ku_ne (by omega)]
  have e13 : I2 185 13 = nI 0 := by rw [b3 _ _ (by omega), ku_nek (by omega), ku_same]; rfl
  have e19 : I2 185 19 = nI 0 := by rw [b3 _ _ (by omega), ku_same]; rfl
  have p2 : mPS I2 J1 T (sW z0 z0) := ⟨t1.keep (fun x k hx => by rw [b3 _ _ (by omega), ku_nea (by omega), ku_nea (by omega)]), fun w hw' => by rw [t7 _ _ (by omega)]; exact hw w hw', by rw [b3 _ _ (by omega), ku_nek (by omega), ku_nek (by omega)]; exact t4, by rw [b3 _ _ (by omega), ku_nek (by omega), ku_nek (by omega)]; exact t5, Nat.zero_le _, e13, fun n hn => absurd hn (Nat.not_lt_zero n), fun n hn => absurd hn (Nat.not_lt_zero n)⟩
  have hn := (nT_ok T).1
  have hn2 := vt.n
  have e2 : I2 185 2 = nI 0 := by rw [b3 _ _ (by omega), ku_nek (by omega), ku_nek (by omega)]; exact t2
  obtain ⟨I3, J3, L3, c1, c2, c3, c5, c4⟩ := m_180l (xs := xs) (rf := rf) (g := g) vt 1001 I2 J1 z0 (dr0 kd gu) z0 (dr0_v vk vg) dr0_w ⟨fun _ => ⟨rfl, rfl, rfl⟩, fun z => absurd rfl z⟩ (mDr_0 b1 b2 e19) p2 (Nat.zero_le _) rfl (by show nT T ≤ 0 + 1001; omega)
  have eA : rdA T 1001 (z0, dr0 kd gu) = asT T kd gu := rfl
  rw [eA] at c1 c2
  obtain ⟨vD, vL⟩ := asT_v vt vk vg
  have ent : ∀ d R, kX xs (d + 34) 180 0 [some (.ref 185), none] [] (kmm I J rf g) R = kX xs (d + 34) 180 57 [some (.ref 185), none] [] (kmm I3 J3 rf g) R := by
    intro d R
    rw [B180_0, kp12_0, kO_s, krecv_m ks185, kcond_t, show d + 33 = d + 31 + 2 from rfl, t8, kpush_n, B180_9, kp12_13, kO_s, kp12_19, kO_s, krecv_m ks185, kcond_t, c8_90, b4, kpush_n, show d + 31 + 2 + 1 = d + 34 from rfl, c4]
  have G3 : ∀ x k, ¬ (x = 185 ∧ (k = 0 ∨ k = 2 ∨ k = 3 ∨ k = 7 ∨ k = 8 ∨ k = 13 ∨ k = 19)) → x ≠ 187 → x ≠ 188 → ¬ (x = 191 ∧ 90 ≤ k) → ¬ (x = 192 ∧ 1100 ≤ k) → ¬ (x = 193 ∧ 1100 ≤ k) → x ≠ 197 → I3 x k = I x k := fun x k p1 p2 p3 p4 p5 p6 p7 => by rw [c3 x k (by omega) p5 p6 p7 p4, G2 x k p1 p2 p3 p4]
  have H3 : ∀ x k, x ≠ 189 → x ≠ 195 → J3 x k = J x k := fun x k p1 p2 => by rw [c5 x k p2, t7 x k p1]
  have e23 : I3 185 2 = nI 0 := by rw [c3 _ _ (by omega) (by omega) (by omega) (by omega) (by omega)]; exact e2
  have hFb : (asT T kd gu).1.F ≤ 20000 := show (sW (asT T kd gu).1 L3).F ≤ 20000 from c1.b
  refine ⟨hFb, ?_⟩
  generalize (asT T kd gu).1 = S at *
  generalize (asT T kd gu).2 = D at *
  by_cases z : S.F = 0
  · obtain ⟨m3, i3⟩ := c2 z
    have vLz := vL z
    have hj := vD.j
    have hc := vD.c
    obtain ⟨nm, no, hN⟩ := m3.nm
    have el : I3 185 13 = nI L3.ll := c1.l
    have hp21 : D.np ≤ 21 := by rw [vD.ct]; exact cnt_21 _
    have hq : L3.ll ≤ 1001 := by
      by_cases y : D.lt = 0
      · rw [(i3.1 y).1, vLz.1 y]; omega
      · rw [(i3.2 y).1]
        have := (vLz.2.1 y).1.len
        have t : S.ll ≤ 1000 := this
        omega
    obtain ⟨I4, J4, d1, d2, d3, d5, d6, d7, d4⟩ := m_copy (xs := xs) (J := J3) (rf := rf) (g := g) (I := I3) (q := L3.ll) (n := D.nj + D.nc) hq (by omega) el hN.m
    have K : ∀ k, k < 90 → I4 191 k = I3 191 (90 + k) := d1
    have ho : ∀ n, n < L3.ll → I4 192 n = nI (L3.lo n) ∧ I4 193 n = nI (L3.la n) := fun n hn => ⟨by rw [(d2 n hn).1]; exact c1.o n hn, by rw [(d2 n hn).2]; exact c1.a n hn⟩
    have hrl : mRl I4 (rO S D) := by
      refine ⟨?_, ?_, ?_, fun k hk => ?_, fun k hk => ?_, fun n hn => ?_, fun hn => ?_, fun n hn => ?_⟩
      · rw [K _ (by omega)]; exact m3.nj
      · rw [K _ (by omega)]; exact m3.nc
      · rw [K _ (by omega)]
        have e := m3.lw
        show I3 191 93 = if S.ll = 0 then -1 else nI 0
        rw [e]
        by_cases y : D.lt = 0
        · rw [if_pos y, if_pos (vLz.1 y)]
        · have := (vLz.2.1 y).2
          rw [if_neg y, if_neg (by omega)]
      · have hk' : k < D.nj := hk
        rw [K _ (by omega), show 90 + (4 + 3 * k) = 94 + 3 * k by omega]; exact m3.kd k hk
      · have hk' : k < D.nc := hk
        rw [K _ (by omega), show 90 + (25 + 2 * k) = 115 + 2 * k by omega]; exact m3.gu k hk
      · have hn' : n < S.ll := hn
        have y : ¬ D.lt = 0 := fun y => by rw [vLz.1 y] at hn'; omega
        obtain ⟨y1, y2, y3⟩ := i3.2 y
        rw [(ho n (by omega)).1, (y2 n hn').1]; rfl
      · have hn' : 0 < S.ll := hn
        have y : ¬ D.lt = 0 := fun y => by rw [vLz.1 y] at hn'; omega
        obtain ⟨y1, y2, y3⟩ := i3.2 y
        show I4 192 S.ll = nI 0
        rw [(ho S.ll (by omega)).1, y3]
      · have hn' : n < S.ll := hn
        have y : ¬ D.lt = 0 := fun y => by rw [vLz.1 y] at hn'; omega
        obtain ⟨y1, y2, y3⟩ := i3.2 y
        rw [(ho n (by omega)).2, (y2 n hn').2]; rfl
    have hbg : mBg I4 (rO S D) D.bg D.np D.pa D.pb := by
      refine ⟨?_, hp21, fun k hk => ?_, fun k hk => ?_, vD.al, vD.bl, fun j hj' => ?_, fun c hc' => ?_, vD.nx, vD.rd, vD.hd, vD.ch⟩
      · rw [K _ (by omega)]; exact m3.np
      · rw [K _ (by omega), show 90 + (39 + 2 * k) = 129 + 2 * k by omega]; exact m3.pa k hk
      · rw [K _ (by omega), show 90 + (39 + 2 * k + 1) = 129 + 2 * k + 1 by omega]; exact m3.pb k hk
      · have hj'' : j < D.nj := hj'
        rw [K _ (by omega), show 90 + (4 + 3 * j + 1) = 94 + 3 * j + 1 by omega]; exact m3.ln j hj''
      · have hc'' : c < D.nc := hc'
        rw [K _ (by omega), show 90 + (25 + 2 * c + 1) = 115 + 2 * c + 1 by omega]; exact m3.up c hc''
    have vr := rO_v vD vLz
    obtain ⟨I5, f1, f2, f3, f5, f6, f7, f4⟩ := sp197 (xs := xs) (J := J4) (rf := rf) (g := g) vr (rO_s vD) hrl hbg
    have A5 : ∀ x k, x ≠ 201 → x ≠ 198 → x ≠ 202 → ¬ (x = 185 ∧ k = 24) → I5 x k = I4 x k := fun x k p1 p2 p3 p4 => f7 x k (by omega) (by omega) p4 p3
    refine ⟨I5, J4, ?_, fun _ => ⟨⟨?_, ?_, ?_, fun k hk => ?_, fun k hk => ?_, fun n hn => ?_, fun hn => ?_, fun n hn => ?_⟩, hbg.keep (fun k => A5 _ _ (by omega) (by omega) (by omega) (by omega)), ⟨nm, no, ?_, hN.l, fun k hk => ?_, fun k hk => ?_⟩, f1, f2, f3, f5, f6⟩, fun y => absurd z y, fun x k p1 p2 p3 p4 p5 p6 p7 p8 p9 p10 p11 => ?_, fun x k p1 p2 p3 => ?_, fun d R => ?_⟩
    · rw [A5 _ _ (by omega) (by omega) (by omega) (by omega), d6 _ _ (by omega) (by omega) (by omega) (by omega) (by omega)]; exact e23
    · rw [A5 _ _ (by omega) (by omega) (by omega) (by omega)]; exact hrl.nj
    · rw [A5 _ _ (by omega) (by omega) (by omega) (by omega)]; exact hrl.nc
    · rw [A5 _ _ (by omega) (by omega) (by omega) (by omega)]; exact hrl.lw
    · rw [A5 _ _ (by omega) (by omega) (by omega) (by omega)]; exact hrl.kd k hk
    · rw [A5 _ _ (by omega) (by omega) (by omega) (by omega)]; exact hrl.gu k hk
    · rw [A5 _ _ (by omega) (by omega) (by omega) (by omega)]; exact hrl.op n hn
    · rw [A5 _ _ (by omega) (by omega) (by omega) (by omega)]; exact hrl.en hn
    · rw [A5 _ _ (by omega) (by omega) (by omega) (by omega)]; exact hrl.ar n hn
    · rw [A5 _ _ (by omega) (by omega) (by omega) (by omega)]; exact d5
    · rw [(d3 k hk).1]; exact hN.n k hk
    · rw [A5 _ _ (by omega) (by omega) (by omega) (by omega), (d3 k hk).2]; exact hN.o k hk
    · rw [f7 x k (by omega) p9 (by omega) p11, d6 x k (by omega) (by omega) (by omega) p7 (by omega)]
      exact G3 x k (by omega) p2 p3 (by omega) (by omega) (by omega) p8
    · rw [d7 x k p2]; exact H3 x k p1 p3
    · have c1' : mPS I3 J3 T (sW S L3) := c1
      rw [ent, B180_57, kg12_8, kO_s, if_neg (fun y => ((mFp c1').mp y) z), show d + 34 = d + 33 + 1 from rfl, d4, show d + 33 = d + 30 + 3 from rfl, f4, kpush_n, B180_198, z]
      rfl
  · refine ⟨I3, J3, e23, fun y => absurd y z, fun _ => ⟨G3, H3⟩, fun x k p1 p2 p3 p4 p5 p6 p7 p8 p9 p10 p11 => ?_, fun x k p1 p2 p3 => H3 x k p1 p3, fun d R => ?_⟩
    · clear z hFb
      exact G3 x k (by omega) p2 p3 (by omega) (by omega) (by omega) p8
    · have c1' : mPS I3 J3 T (sW S L3) := c1
      rw [ent, B180_57, kg12_8, kO_s, if_pos ((mFp c1').mpr z), B180_64, kg12_8, kO_s, c1'.f]
      rfl
end MB
