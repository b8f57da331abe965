/-! the model reads a term -/
abbrev mTl (I : Nat → Nat → Int32) (l : aLn) : Prop := (∀ k, k < l.n → I 198 (125 + 3 * k) = nI (l.w k)) ∧ (∀ k, k < l.n → I 198 (125 + 3 * k + 1) = nI (l.a k)) ∧ (∀ k, k < l.n → I 198 (125 + 3 * k + 2) = nI (l.v k))
theorem mTl.w {I : Nat → Nat → Int32} {l : aLn} (h : mTl I l) : ∀ k, k < l.n → I 198 (125 + 3 * k) = nI (l.w k) := h.1
theorem mTl.a {I : Nat → Nat → Int32} {l : aLn} (h : mTl I l) : ∀ k, k < l.n → I 198 (125 + 3 * k + 1) = nI (l.a k) := h.2.1
theorem mTl.v {I : Nat → Nat → Int32} {l : aLn} (h : mTl I l) : ∀ k, k < l.n → I 198 (125 + 3 * k + 2) = nI (l.v k) := h.2.2
abbrev mFm (I I' : Nat → Nat → Int32) : Prop := ∀ x k, ¬ (x = 185 ∧ (k = 7 ∨ k = 8 ∨ k = 13)) → ¬ (x = 192 ∧ 1100 ≤ k) → ¬ (x = 193 ∧ 1100 ≤ k) → ¬ (x = 198 ∧ 125 ≤ k) → I' x k = I x k
section MT2
variable {xs : List Int32} {d : Nat} {I I' I2 : Nat → Nat → Int32} {J J' : Nat → Nat → Int64} {rf : Nat → Nat} {g : Nat} {R : Option Value → KW → Prop} {w : KW} {T : aTp} {s : aPS} {nj nc : Nat} {N : aNm} {nm no : Nat → Nat} {l : aLn}
theorem mFm.refl : mFm I I := fun _ _ _ _ _ _ => rfl
theorem mFm.trans (h1 : mFm I I') (h2 : mFm I' I2) : mFm I I2 := fun x k p q r t => by rw [h2 x k p q r t, h1 x k p q r t]
theorem mFm.of (h : mFr I I') : mFm I I' := fun x k p q r _ => h x k p q r
theorem mFm.fl {i : Nat} (hi : 125 ≤ i) (h : mFl i I I') : mFm I I' := fun x k p q r t => h x k p q r (by omega)
theorem mNm.fm (h : mNm I J 18 194 196 nj nc N nm no) (h1 : mFm I I') : mNm I' J 18 194 196 nj nc N nm no := h.keep (fun x k hx => h1 x k (by omega) (by omega) (by omega) (by omega))
theorem mTl.keep (h : mTl I l) (h1 : ∀ k, 125 ≤ k → k < 125 + 3 * l.n → I' 198 k = I 198 k) : mTl I' l := ⟨fun k hk => by rw [h1 _ (by omega) (by omega)]; exact h.w k hk, fun k hk => by rw [h1 _ (by omega) (by omega)]; exact h.a k hk, fun k hk => by rw [h1 _ (by omega) (by omega)]; exact h.v k hk⟩
theorem mTl.add {wd x y : Nat} (h : mTl I l) (hw : I 198 (125 + 3 * l.n) = nI wd) (hx : I 198 (125 + 3 * l.n + 1) = nI x) (hy : I 198 (125 + 3 * l.n + 2) = nI y) : mTl I (addL l wd x y) := by
  refine ⟨fun k hk => ?_, fun k hk => ?_, fun k hk => ?_⟩
  · have hk' : k < l.n + 1 := hk
    show _ = nI (ku1 l.w l.n wd k)
    by_cases e : k = l.n
    · rw [e, ku1_s, hw]
    · rw [ku1_n e]; exact h.w k (by omega)
  · have hk' : k < l.n + 1 := hk
    show _ = nI (ku1 l.a l.n x k)
    by_cases e : k = l.n
    · rw [e, ku1_s, hx]
    · rw [ku1_n e]; exact h.a k (by omega)
  · have hk' : k < l.n + 1 := hk
    show _ = nI (ku1 l.v l.n y k)
    by_cases e : k = l.n
    · rw [e, ku1_s, hy]
    · rw [ku1_n e]; exact h.v k (by omega)
theorem m_end (vt : vTp T) {n' : Int32} (h : mPS I J T s) (hk : s.k ≤ nT T) (q : ¬ (s.F = 0 ∧ kdO T s ≠ 0)) : kX xs d 185 11 [some (.ref 185), some (.int n'), none] [] (kmm I J rf g) R = kX xs d 185 97 [some (.ref 185), some (.int n'), none] [] (kmm I J rf g) R := by
  have hn := (nT_ok T).1
  have hn2 := vt.n
  have ek := h.k
  rw [B185_11, kg12_8, kO_s]
  by_cases z : s.F = 0
  · have z2 : tK T (pT T s.k) = 0 := Classical.byContradiction (fun y => q ⟨z, y⟩)
    rw [if_pos ((mF0 h).mpr z), B185_18, kg12_4, kO_s, kg12_7, kO_s, ek, ka187 (by omega), kO_s, h.tk.s _ hk, z2, if_pos (by decide)]
  · rw [if_neg (fun y => z ((mF0 h).mp y))]
theorem m_line (vt : vTp T) (hj : nj ≤ 7) (hc : nc ≤ 7) (hv : vNm nj nc N) (hm : mNm I J 18 194 196 nj nc N nm no) (h : mPS I J T s) (hk : s.k ≤ nT T) (hF : s.F = 0) (h0 : kdO T s ≠ 0) (hl : mTl I l) (hn40 : l.n ≤ 40) : ∃ I' n', mPS I' J T (lnS T N nj nc l.n s) ∧ ((lnS T N nj nc l.n s).F = 0 → n' = nI (lnL T N nj nc l s).n ∧ mTl I' (lnL T N nj nc l s)) ∧ mFm I I' ∧ ∀ d R, kX xs (d + 5) 185 11 [some (.ref 185), some (.int (nI l.n)), none] [] (kmm I J rf g) R = kX xs (d + 5) 185 11 [some (.ref 185), some (.int n'), none] [] (kmm I' J rf g) R := by
  have hn := (nT_ok T).1
  have hn2 := vt.n
  have ek := h.k
  have hl2 : kdO T s ≤ 149 := kd_149 (p := pT T s.k) vt
  have hlt : s.k < nT T := kdO_lt hk h0
  have ns : ¬ nI (srt (tK T (pT T s.k))) = 0 := fun z => by
    have e : (nI (srt (tK T (pT T s.k))) = nI 0) = (srt (tK T (pT T s.k)) = 0) := srt_eq (by omega)
    have z2 := e.mp z
    have h0' : tK T (pT T s.k) ≠ 0 := h0
    unfold srt at z2
    rw [if_neg h0'] at z2
    revert z2
    repeat' split
    all_goals omega
  have wh : ∀ d R, kX xs (d + 1) 175 0 [some (.ref 185), some (.int (nI 7)), some (.int 4), none, none] [] (kmm I J rf g) R = R (some (.int (aWh T s 7 4))) (kmm I J rf g) := fun d R => sp175 (fr := 7) (mn := 4) vt (by omega) h hk
  have ent : ∀ d R, kX xs (d + 5) 185 11 [some (.ref 185), some (.int (nI l.n)), none] [] (kmm I J rf g) R = kX xs (d + 5) 185 37 [some (.ref 185), some (.int (nI l.n)), none] [.int (aWh T s 7 4)] (kmm I J rf g) R := by
    intro d R
    rw [B185_11, kg12_8, kO_s, if_pos ((mF0 h).mpr hF), B185_18, kg12_4, kO_s, kg12_7, kO_s, ek, ka187 (by omega), kO_s, h.tk.s _ hk, if_neg ns, B185_30, krecv_m ks185, kcond_t, c8_7, wh, kpush_s]
  -- a wrong token: its fault, and ';' takes nothing
  have bad : ∀ c : Nat, 0 < c → c ≤ 5 → ∃ I1 I2, mPS I2 J T (wrg T c s) ∧ mFm I I2 ∧ (∀ d R, kX xs d 164 0 [some (.ref 185), some (.int (nI c))] [] (kmm I J rf g) R = R none (kmm I1 J rf g)) ∧ ∀ d R, kX xs (d + 1) 167 0 [some (.ref 185), some (.int (nI 59))] [] (kmm I1 J rf g) R = R none (kmm I2 J rf g) := by
    intro c c0 c5
    obtain ⟨I1, a1, a2, a4⟩ := m_wrg (xs := xs) (rf := rf) (g := g) (c := c) vt c0 (by omega) h hk
    obtain ⟨I2, b1, b2, b4⟩ := m_167 (xs := xs) (rf := rf) (g := g) (c := 59) vt mem59 a1 hk
    have et : tak T 59 (wrg T c s) = wrg T c s := if_neg (wrgF c0 hF)
    rw [et] at b1
    exact ⟨I1, I2, b1, mFm.of (a2.trans b2), a4, b4⟩
  unfold lnL lnS
  by_cases q : 135 ≤ kdO T s ∧ kdO T s ≤ 138
  · rw [if_pos q]
    have ew : aWh T s 7 4 = nI (kdO T s - 135) := by
      unfold aWh
      rw [if_pos ⟨hF, by omega, by omega⟩, show kdO T s - 128 - 7 = kdO T s - 135 by omega]
    have nn : ¬ nI (kdO T s - 135) < 0 := nI_nn (by omega)
    have e40 : (nI l.n = nI 40) = (l.n = 40) := nI_inj (by omega) (by omega)
    by_cases q2 : l.n < 40
    · rw [if_pos q2]
      obtain ⟨a1, a2⟩ := m_stp h
      have hm1 : mNm (ku I 185 7 (nI (s.k + 1))) J 18 194 196 nj nc N nm no := hm.fm (mFm.of a2)
      -- the line's words and names
      have key : ∃ I2, mPS I2 J T (ln3 T N nj nc s) ∧ I2 198 (125 + 3 * l.n) = nI (kdO T s - 135) ∧ ((ln3 T N nj nc s).F = 0 → I2 198 (125 + 3 * l.n + 1) = nI (lnX T N nj nc s) ∧ I2 198 (125 + 3 * l.n + 2) = nI (lnY T N nj nc s)) ∧ mFl (125 + 3 * l.n) (ku I 185 7 (nI (s.k + 1))) I2 ∧ ∀ d R, kX xs (d + 4) 186 0 [some (.ref 185), some (.int (nI (125 + 3 * l.n))), some (.int (nI (kdO T s - 135)))] [] (kmm (ku I 185 7 (nI (s.k + 1))) J rf g) R = R none (kmm I2 J rf g) := by
        by_cases q3 : kdO T s = 135
        · obtain ⟨I2, b1, b2, b3, b5, b6, b4⟩ := m_186z (xs := xs) (rf := rf) (g := g) (i := 125 + 3 * l.n) a1 (by omega)
          have e3 : ln3 T N nj nc s = stp s := by
            unfold ln3 ln2 tm1
            rw [if_pos q3, if_pos (by omega)]
          have ex : lnX T N nj nc s = 0 := by
            unfold lnX tm1v
            rw [if_pos (by omega)]
          have ey : lnY T N nj nc s = 0 := if_pos q3
          have ez : kdO T s - 135 = 0 := by omega
          rw [e3, ex, ey, ez]
          exact ⟨I2, b1, b2, fun _ => ⟨b3, b5⟩, b6, fun d R => b4 (d + 4) R⟩
        · have hw : kdO T s - 135 = 1 ∨ kdO T s - 135 = 2 ∨ kdO T s - 135 = 3 := by omega
          obtain ⟨I2, b1, b2, b3, b5, b6, b4⟩ := m_186 (xs := xs) (rf := rf) (g := g) (i := 125 + 3 * l.n) vt hj hc hv hm1 a1 hlt hF hw (by omega)
          have e3 : ln3 T N nj nc s = iF (tm2 T N nj (kdO T s - 135) (tm1v T N nj nc (kdO T s - 135) (stp s))) (tm1 T N nj nc (kdO T s - 135) (stp s)) := if_neg q3
          have ey : lnY T N nj nc s = tm2v T N nj (kdO T s - 135) (tm1 T N nj nc (kdO T s - 135) (stp s)) := if_neg q3
          rw [← e3, ← ey] at b5
          rw [← e3] at b1
          refine ⟨I2, b1, b2, fun z => ?_, b6, b4⟩
          have z1 : (tm1 T N nj nc (kdO T s - 135) (stp s)).F = 0 := by rw [e3] at z; exact iF_F z
          rw [if_pos z1] at b3
          rw [if_pos z] at b5
          exact ⟨b3, b5⟩
      obtain ⟨I2, b1, b2, b3, b6, b4⟩ := key
      have hk3 : (ln3 T N nj nc s).k ≤ nT T := by
        have k2 : kle T (stp s) (ln2 T N nj nc s) := kle_tm1 hlt
        unfold ln3
        by_cases q3 : kdO T s = 135
        · rw [if_pos q3]; exact k2.2
        · rw [if_neg q3]; exact (kle_iF k2.2 (kle_tm2 k2.2)).2
      obtain ⟨I3, c1, c2, c4⟩ := m_167 (xs := xs) (rf := rf) (g := g) (c := 59) vt mem59 b1 hk3
      refine ⟨I3, nI (l.n + 1), c1, fun z => ?_, (mFm.of a2).trans ((mFm.fl (by omega) b6).trans (mFm.of c2)), fun d R => ?_⟩
      · rw [if_pos z]
        refine ⟨rfl, ?_⟩
        have z3 : (ln3 T N nj nc s).F = 0 := tak_F z
        have F : ∀ k, I3 198 k = I2 198 k := fun k => c2 _ _ (by omega) (by omega) (by omega)
        refine mTl.add ?_ (by rw [F]; exact b2) (by rw [F]; exact (b3 z3).1) (by rw [F]; exact (b3 z3).2)
        refine hl.keep (fun k k1 k2 => ?_)
        rw [F, b6 _ _ (by omega) (by omega) (by omega) (by omega), ku_nea (by omega)]
      · rw [ent, ew, B185_37, if_neg nn, B185_50, c8_40, if_neg (fun z => by have := e40.mp z; omega), B185_64, kg12_7, kO_s, ek, nI_add1, kp12_7, kO_s, krecv_m ks185, kcond_t, c8_125, n_3, pk_mul, nI_add, b4, kpush_n, B185_85, nI_add1, B185_88, krecv_m ks185, kcond_t, c8_59, show d + 4 = d + 3 + 1 from rfl, c4, kpush_n, B185_94]
    · rw [if_neg q2]
      obtain ⟨I1, I2, a1, a2, a4, b4⟩ := bad 5 (by omega) (by omega)
      have a4' : ∀ d R, kX xs d 164 0 [some (.ref 185), some (.int 5)] [] (kmm I J rf g) R = R none (kmm I1 J rf g) := a4
      refine ⟨I2, nI l.n, a1, fun z => absurd z (wrgF (by omega) hF), a2, fun d R => ?_⟩
      rw [ent, ew, B185_37, if_neg nn, B185_50, c8_40, if_pos (e40.mpr (by omega)), B185_56, krecv_m ks185, kcond_t, a4', kpush_n, B185_61, B185_88, krecv_m ks185, kcond_t, c8_59, show d + 4 = d + 3 + 1 from rfl, b4, kpush_n, B185_94]
  · rw [if_neg q]
    have ew : aWh T s 7 4 = -1 := by
      unfold aWh
      rw [if_neg (fun z => q (by omega))]
    obtain ⟨I1, I2, a1, a2, a4, b4⟩ := bad 1 (by omega) (by omega)
    have a4' : ∀ d R, kX xs d 164 0 [some (.ref 185), some (.int 1)] [] (kmm I J rf g) R = R none (kmm I1 J rf g) := a4
    refine ⟨I2, nI l.n, a1, fun z => absurd z (wrgF (by omega) hF), a2, fun d R => ?_⟩
    rw [ent, ew, B185_37, if_pos (by decide), B185_42, krecv_m ks185, kcond_t, a4', kpush_n, B185_47, B185_88, krecv_m ks185, kcond_t, c8_59, show d + 4 = d + 3 + 1 from rfl, b4, kpush_n, B185_94]
theorem m_185l (vt : vTp T) (hj : nj ≤ 7) (hc : nc ≤ 7) (hv : vNm nj nc N) : ∀ f I s l, mNm I J 18 194 196 nj nc N nm no → mPS I J T s → s.k ≤ nT T → (s.F = 0 → nT T ≤ s.k + f) → mTl I l → l.n ≤ 40 → ∃ I' n', mPS I' J T (rdL T N nj nc f (s, l)).1 ∧ ((rdL T N nj nc f (s, l)).1.F = 0 → n' = nI (rdL T N nj nc f (s, l)).2.n ∧ mTl I' (rdL T N nj nc f (s, l)).2 ∧ (rdL T N nj nc f (s, l)).2.n ≤ 40) ∧ mFm I I' ∧ ∀ d R, kX xs (d + 5) 185 11 [some (.ref 185), some (.int (nI l.n)), none] [] (kmm I J rf g) R = kX xs (d + 5) 185 97 [some (.ref 185), some (.int n'), none] [] (kmm I' J rf g) R := by
  intro f
  induction f with
  | zero =>
    intro I s l hm h hk hf hl hn
    have q : ¬ (s.F = 0 ∧ kdO T s ≠ 0) := fun z => by have := kdO_lt hk z.2; have := hf z.1; omega
    exact ⟨I, nI l.n, h, fun _ => ⟨rfl, hl, hn⟩, mFm.refl, fun d R => m_end vt h hk q⟩
  | succ f ih =>
    intro I s l hm h hk hf hl hn
    rw [rdL]
    by_cases q : s.F = 0 ∧ kdO T s ≠ 0
    · rw [if_pos q]
      obtain ⟨I1, n1, a1, a2, a3, a4⟩ := m_line (xs := xs) (rf := rf) (g := g) vt hj hc hv hm h hk q.1 q.2 hl hn
      obtain ⟨k1, k2⟩ := kle_lnS (T := T) (N := N) (nj := nj) (nc := nc) (n := l.n) hk q.1
      by_cases z : (lnS T N nj nc l.n s).F = 0
      · obtain ⟨e1, t1⟩ := a2 z
        obtain ⟨I2, n2, b1, b2, b3, b4⟩ := ih I1 _ _ (hm.fm a3) a1 k1 (fun _ => by have := hf q.1; have := k2 z; omega) t1 (lnL_le hn)
        refine ⟨I2, n2, b1, b2, a3.trans b3, fun d R => ?_⟩
        rw [a4, e1]
        exact b4 d R
      · have e : rdL T N nj nc f (lnS T N nj nc l.n s, lnL T N nj nc l s) = (lnS T N nj nc l.n s, lnL T N nj nc l s) := rdL_F z f
        rw [e]
        refine ⟨I1, n1, a1, fun y => absurd y z, a3, fun d R => ?_⟩
        rw [a4]
        exact m_end vt a1 k1 (fun y => z y.1)
    · rw [if_neg q]
      exact ⟨I, nI l.n, h, fun _ => ⟨rfl, hl, hn⟩, mFm.refl, fun d R => m_end vt h hk q⟩
def z0 : aPS := aPS.mk 0 0 0 (fun _ => 0) (fun _ => 0)
/-- what the tape tells of a term: its fault, and its lines -/
def tmT (T : aTp) (N : aNm) (nj nc : Nat) : aPS × aLn := rdL T N nj nc 1001 (z0, ln0)
theorem m_185 (vt : vTp T) (hj : nj ≤ 7) (hc : nc ≤ 7) (hv : vNm nj nc N) (hT : mTp I T) (hw : ∀ w, w < 22 → J 190 w = nJ (wrdN w)) (hm : mNm I J 18 194 196 nj nc N nm no) : (tmT T N nj nc).1.F ≤ 20000 ∧ ∃ I' J', ((tmT T N nj nc).1.F = 0 → mLn I' (tmT T N nj nc).2) ∧ (¬ (tmT T N nj nc).1.F = 0 → ∀ k, k < 125 → I' 198 k = I 198 k) ∧ I' 185 2 = nI 0 ∧ (∀ x k, ¬ (x = 185 ∧ (k = 0 ∨ k = 2 ∨ k = 3 ∨ k = 7 ∨ k = 8 ∨ k = 13)) → x ≠ 187 → x ≠ 188 → ¬ (x = 192 ∧ 1100 ≤ k) → ¬ (x = 193 ∧ 1100 ≤ k) → x ≠ 198 → I' x k = I x k) ∧ (∀ x k, x ≠ 189 → J' x k = J x k) ∧ ∀ d R, kX xs (d + 6) 185 0 [some (.ref 185), none, none] [] (kmm I J rf g) R = R (some (.int (nI (tmT T N nj nc).1.F))) (kmm I' J' rf g) := by
  obtain ⟨I1, J1, t1, t2, t3, t4, t5, t6, t7, t8⟩ := sp163 (xs := xs) (J := J) (rf := rf) (g := g) (I := ku I 185 0 0) (T := T) ⟨by rw [ku_nek (by omega)]; exact hT.n, fun k hk => by rw [ku_nea (by omega)]; exact hT.t k hk⟩ vt
  have hm1 : mNm I1 J1 18 194 196 nj nc N nm no := ⟨by rw [t6 _ _ (by omega) (by omega) (by omega), ku_nek (by omega)]; exact hm.m, hm.l, fun k hk => by rw [t7 _ _ (by omega)]; exact hm.n k hk, fun k hk => by rw [t6 _ _ (by omega) (by omega) (by omega), ku_nea (by omega)]; exact hm.o k hk⟩
  have p1 : mPS I1 J1 T (sW z0 (aPS.mk 0 0 (nO (I1 185 13)) (fun n => nO (I1 192 (1100 + n))) (fun n => nO (I1 193 (1100 + n))))) := ⟨t1, fun w hw' => by rw [t7 _ _ (by omega)]; exact hw w hw', t4, t5, Nat.zero_le _, (nO_n _).symm, fun n _ => (nO_n _).symm, fun n _ => (nO_n _).symm⟩
  have hn := (nT_ok T).1
  have hn2 := vt.n
  obtain ⟨I2, n2, a1, a2, a3, a4⟩ := m_185l (xs := xs) (rf := rf) (g := g) vt hj hc hv 1001 I1 _ ln0 hm1 p1 (Nat.zero_le _) (fun _ => by show nT T ≤ 0 + 1001; omega) ⟨fun k hk => absurd hk (Nat.not_lt_zero k), fun k hk => absurd hk (Nat.not_lt_zero k), fun k hk => absurd hk (Nat.not_lt_zero k)⟩ (Nat.zero_le 40)
  rw [sW_rdL] at a1 a2
  have ep : rdL T N nj nc 1001 (z0, ln0) = tmT T N nj nc := rfl
  rw [ep] at a1 a2
  have ent : ∀ d R, kX xs (d + 6) 185 0 [some (.ref 185), none, none] [] (kmm I J rf g) R = kX xs (d + 6) 185 97 [some (.ref 185), some (.int n2), none] [] (kmm I2 J1 rf g) R := by
    intro d R
    rw [B185_0, kp12_0, kO_s, krecv_m ks185, kcond_t, show d + 5 = d + 3 + 2 from rfl, t8, kpush_n, B185_9]
    exact a4 (d + 1) R
  have F2 : ∀ x k, ¬ (x = 185 ∧ (k = 0 ∨ k = 2 ∨ k = 3 ∨ k = 7 ∨ k = 8 ∨ k = 13)) → x ≠ 187 → x ≠ 188 → ¬ (x = 192 ∧ 1100 ≤ k) → ¬ (x = 193 ∧ 1100 ≤ k) → ¬ (x = 198 ∧ 125 ≤ k) → I2 x k = I x k := fun x k q1 q2 q3 q4 q5 q6 => by rw [a3 x k (by omega) q4 q5 q6, t6 x k (by omega) q2 q3, ku_ne (by omega)]
  refine ⟨show (sW (tmT T N nj nc).1 (aPS.mk 0 0 (nO (I1 185 13)) (fun n => nO (I1 192 (1100 + n))) (fun n => nO (I1 193 (1100 + n))))).F ≤ 20000 from a1.b, ?_⟩
  have g2 : I2 185 2 = nI 0 := by rw [a3 _ _ (by omega) (by omega) (by omega) (by omega)]; exact t2
  by_cases z : (tmT T N nj nc).1.F = 0
  · obtain ⟨e2, l2, n40⟩ := a2 z
    generalize (tmT T N nj nc).1 = S at *
    generalize (tmT T N nj nc).2 = L at *
    -- the lines are laid down
    have Lp : ∃ I3, ((∀ k, k < 3 * L.n → I3 198 (1 + k) = I2 198 (125 + k)) ∧ I3 198 0 = nI L.n ∧ ∀ x k, ¬ (x = 198 ∧ k ≤ 3 * L.n) → I3 x k = I2 x k) ∧ (fun (d : Nat) (R : Option Value → KW → Prop) => kX xs d 185 118 [some (.ref 185), some (.int (nI L.n)), some (.int (nI 0))] [] (kmm (ku I2 198 0 (nI L.n)) J1 rf g) R) = (fun d R => kX xs d 185 118 [some (.ref 185), some (.int (nI L.n)), some (.int (nI (3 * L.n)))] [] (kmm I3 J1 rf g) R) := by
      have K := kloop (n := 3 * L.n) (s0 := ku I2 198 0 (nI L.n)) (fun i I3 => (∀ k, k < i → I3 198 (1 + k) = I2 198 (125 + k)) ∧ I3 198 0 = nI L.n ∧ (∀ x k, ¬ (x = 198 ∧ k ≤ 3 * L.n) → I3 x k = I2 x k)) (fun i I3 => fun (d : Nat) (R : Option Value → KW → Prop) => kX xs d 185 118 [some (.ref 185), some (.int (nI L.n)), some (.int (nI i))] [] (kmm I3 J1 rf g) R) ⟨fun k hk => by omega, ku_same _ _ _ _, fun x k hx => by rw [ku_ne (by omega)]⟩ ?_
      · exact K
      · intro i I3 hi ⟨g1, g0, g3⟩
        refine ⟨ku I3 198 (1 + i) (I2 198 (125 + i)), ⟨fun k hk => ?_, by rw [ku_nek (by omega)]; exact g0, fun x k hx => by rw [ku_ne (by omega), g3 x k hx]⟩, ?_⟩
        · by_cases e : k = i
          · rw [e, ku_same]
          · rw [ku_nek (by omega), g1 k (by omega)]
        · funext d R
          have e125 : I3 198 (125 + i) = I2 198 (125 + i) := g3 _ _ (by omega)
          rw [B185_118, n_3, pk_mul, if_pos (nI_lt hi (by omega)), B185_125, kg12_20, kO_s, kO_s, c8_125, nI_add, ka198 (by omega), kO_s, e125, n_1, nI_add, kw198 (by omega), kO_s, nI_add]
    obtain ⟨I3, ⟨g1, g0, g3⟩, e3⟩ := Lp
    refine ⟨I3, J1, fun _ => ⟨g0, fun k hk => ?_, fun k hk => ?_, fun k hk => ?_⟩, fun y => absurd z y, by rw [g3 _ _ (by omega)]; exact g2, fun x k q1 q2 q3 q4 q5 q6 => by rw [g3 x k (by omega)]; exact F2 x k q1 q2 q3 q4 q5 (by omega), fun x k hx => t7 x k hx, fun d R => ?_⟩
    · rw [g1 (3 * k) (by omega)]; exact l2.w k hk
    · have := g1 (3 * k + 1) (by omega)
      rw [show 1 + (3 * k + 1) = 2 + 3 * k by omega] at this
      rw [this]; exact l2.a k hk
    · have := g1 (3 * k + 2) (by omega)
      rw [show 1 + (3 * k + 2) = 3 + 3 * k by omega] at this
      rw [this]; exact l2.v k hk
    · have a1' : mPS I2 J1 T (sW S (aPS.mk 0 0 (nO (I1 185 13)) (fun n => nO (I1 192 (1100 + n))) (fun n => nO (I1 193 (1100 + n))))) := a1
      rw [ent, B185_97, kg12_8, kO_s, if_neg (fun y => ((mFp a1').mp y) z), B185_109, kg12_20, kO_s, e2, n_0, kw198 (by omega), kO_s]
      refine Eq.trans (congrFun (congrFun e3 (d + 6)) R) ?_
      rw [B185_118, n_3, pk_mul, if_neg (nI_nlt (Nat.le_refl _) (by omega)), B185_148, z]
      rfl
  · refine ⟨I2, J1, fun y => absurd y z, fun _ k hk => F2 _ _ (by omega) (by omega) (by omega) (by omega) (by omega) (by omega), g2, fun x k q1 q2 q3 q4 q5 q6 => F2 x k q1 q2 q3 q4 q5 (by omega), fun x k hx => t7 x k hx, fun d R => ?_⟩
    have a1' : mPS I2 J1 T (sW (tmT T N nj nc).1 (aPS.mk 0 0 (nO (I1 185 13)) (fun n => nO (I1 192 (1100 + n))) (fun n => nO (I1 193 (1100 + n))))) := a1
    rw [ent, B185_97, kg12_8, kO_s, if_pos ((mFp a1').mpr z), B185_104, kg12_8, kO_s, a1'.f]
    rfl
end MT2
