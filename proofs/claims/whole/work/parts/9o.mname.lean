/-! the model reads an assize: words, kinds, names -/
abbrev mDr (I : Nat → Nat → Int32) (J : Nat → Nat → Int64) (D : aDr) : Prop := (I 191 90 = nI D.nj) ∧ (I 191 91 = nI D.nc) ∧ (I 191 92 = nI D.np) ∧ (I 191 93 = if D.lt = 0 then -1 else nI 0) ∧ (∀ k, k < D.nj → I 191 (94 + 3 * k) = nI (D.kd k)) ∧ (∀ k, k < D.nj → I 191 (94 + 3 * k + 1) = nI (D.bg.ln k)) ∧ (∀ k, k < 7 → I 191 (94 + 3 * k + 2) = nI (D.ms k)) ∧ (∀ k, k < D.nc → I 191 (115 + 2 * k) = nI (D.gu k)) ∧ (∀ k, k < D.nc → I 191 (115 + 2 * k + 1) = nI (D.bg.up k)) ∧ (∀ k, k < D.np → I 191 (129 + 2 * k) = nI (D.pa k)) ∧ (∀ k, k < D.np → I 191 (129 + 2 * k + 1) = nI (D.pb k)) ∧ (∃ nm no, mNm I J 19 195 197 D.nj D.nc D.N nm no)
theorem mDr.nj {I : Nat → Nat → Int32} {J : Nat → Nat → Int64} {D : aDr} (h : mDr I J D) : I 191 90 = nI D.nj := h.1
theorem mDr.nc {I : Nat → Nat → Int32} {J : Nat → Nat → Int64} {D : aDr} (h : mDr I J D) : I 191 91 = nI D.nc := h.2.1
theorem mDr.np {I : Nat → Nat → Int32} {J : Nat → Nat → Int64} {D : aDr} (h : mDr I J D) : I 191 92 = nI D.np := h.2.2.1
theorem mDr.lw {I : Nat → Nat → Int32} {J : Nat → Nat → Int64} {D : aDr} (h : mDr I J D) : I 191 93 = if D.lt = 0 then -1 else nI 0 := h.2.2.2.1
theorem mDr.kd {I : Nat → Nat → Int32} {J : Nat → Nat → Int64} {D : aDr} (h : mDr I J D) : ∀ k, k < D.nj → I 191 (94 + 3 * k) = nI (D.kd k) := h.2.2.2.2.1
theorem mDr.ln {I : Nat → Nat → Int32} {J : Nat → Nat → Int64} {D : aDr} (h : mDr I J D) : ∀ k, k < D.nj → I 191 (94 + 3 * k + 1) = nI (D.bg.ln k) := h.2.2.2.2.2.1
theorem mDr.ms {I : Nat → Nat → Int32} {J : Nat → Nat → Int64} {D : aDr} (h : mDr I J D) : ∀ k, k < 7 → I 191 (94 + 3 * k + 2) = nI (D.ms k) := h.2.2.2.2.2.2.1
theorem mDr.gu {I : Nat → Nat → Int32} {J : Nat → Nat → Int64} {D : aDr} (h : mDr I J D) : ∀ k, k < D.nc → I 191 (115 + 2 * k) = nI (D.gu k) := h.2.2.2.2.2.2.2.1
theorem mDr.up {I : Nat → Nat → Int32} {J : Nat → Nat → Int64} {D : aDr} (h : mDr I J D) : ∀ k, k < D.nc → I 191 (115 + 2 * k + 1) = nI (D.bg.up k) := h.2.2.2.2.2.2.2.2.1
theorem mDr.pa {I : Nat → Nat → Int32} {J : Nat → Nat → Int64} {D : aDr} (h : mDr I J D) : ∀ k, k < D.np → I 191 (129 + 2 * k) = nI (D.pa k) := h.2.2.2.2.2.2.2.2.2.1
theorem mDr.pb {I : Nat → Nat → Int32} {J : Nat → Nat → Int64} {D : aDr} (h : mDr I J D) : ∀ k, k < D.np → I 191 (129 + 2 * k + 1) = nI (D.pb k) := h.2.2.2.2.2.2.2.2.2.2.1
theorem mDr.nm {I : Nat → Nat → Int32} {J : Nat → Nat → Int64} {D : aDr} (h : mDr I J D) : ∃ nm no, mNm I J 19 195 197 D.nj D.nc D.N nm no := h.2.2.2.2.2.2.2.2.2.2.2
abbrev mFa (I I' : Nat → Nat → Int32) : Prop := ∀ x k, ¬ (x = 185 ∧ (k = 7 ∨ k = 8 ∨ k = 13 ∨ k = 19)) → ¬ (x = 192 ∧ 1100 ≤ k) → ¬ (x = 193 ∧ 1100 ≤ k) → x ≠ 197 → ¬ (x = 191 ∧ 90 ≤ k) → I' x k = I x k
abbrev nFa (J J' : Nat → Nat → Int64) : Prop := ∀ x k, x ≠ 195 → J' x k = J x k
section MN
variable {xs : List Int32} {d : Nat} {I I' I2 : Nat → Nat → Int32} {J J' J2 : Nat → Nat → Int64} {rf : Nat → Nat} {g : Nat} {R : Option Value → KW → Prop} {T : aTp} {s u : aPS} {D : aDr}
theorem mFa.refl : mFa I I := fun _ _ _ _ _ _ _ => rfl
theorem nFa.refl : nFa J J := fun _ _ _ => rfl
theorem mFa.trans (h1 : mFa I I') (h2 : mFa I' I2) : mFa I I2 := fun x k p q r t o => by rw [h2 x k p q r t o, h1 x k p q r t o]
theorem nFa.trans (h1 : nFa J J') (h2 : nFa J' J2) : nFa J J2 := fun x k p => by rw [h2 x k p, h1 x k p]
theorem mFa.of (h : mFr I I') : mFa I I' := fun x k p q r _ _ => h x k (by omega) q r
theorem mPS.jk (h : mPS I J T s) (h1 : nFa J J') : mPS I J' T s := ⟨⟨h.tk.s, h.tk.p, fun k hk => by rw [h1 _ _ (by omega)]; exact h.tk.v k hk⟩, fun w hw => by rw [h1 _ _ (by omega)]; exact h.wd w hw, h.k, h.f, h.b, h.l, h.o, h.a⟩
theorem mPS.ik (h : mPS I J T s) (h1 : ∀ x k, (x = 185 → k = 7 ∨ k = 8 ∨ k = 13) → x ≠ 191 → x ≠ 197 → I' x k = I x k) : mPS I' J T s := ⟨h.tk.keep (fun x k hx => h1 x k (by omega) (by omega) (by omega)), h.wd, by rw [h1 _ _ (by omega) (by omega) (by omega)]; exact h.k, by rw [h1 _ _ (by omega) (by omega) (by omega)]; exact h.f, h.b, by rw [h1 _ _ (by omega) (by omega) (by omega)]; exact h.l, fun n hn => by rw [h1 _ _ (by omega) (by omega) (by omega)]; exact h.o n hn, fun n hn => by rw [h1 _ _ (by omega) (by omega) (by omega)]; exact h.a n hn⟩
theorem wrg_n {c : Nat} (h : ¬ s.F = 0) : wrg T c s = s := by
  unfold wrg
  rw [if_neg h]
  rfl
/-- takeWord -/
theorem m_170 {c : Nat} (v : vTp T) (hs : c < 22) (h : mPS I J T s) (hk : s.k ≤ nT T) : ∃ I', mPS I' J T (tak T (128 + c) s) ∧ mFr I I' ∧ ∀ d R, kX xs (d + 2) 170 0 [some (.ref 185), some (.int (nI c))] [] (kmm I J rf g) R = R none (kmm I' J rf g) := by
  obtain ⟨I1, a1, a2, a4⟩ := m_169 (xs := xs) (rf := rf) (g := g) v hs h hk
  unfold tak
  by_cases q : s.F = 0 ∧ kdO T s = 128 + c
  · rw [if_pos q] at a1
    rw [if_pos q.1, if_pos q.2]
    refine ⟨I1, a1, a2, fun d R => ?_⟩
    rw [B170_0, krecv_m ks185, kcond_t, a4, kpush_s, B170_5, if_neg (by rw [decide_eq_true q]; decide), B170_13]
  · rw [if_neg q] at a1
    obtain ⟨I2, b1, b2, b4⟩ := m_wrg (xs := xs) (rf := rf) (g := g) (c := 1) v (by omega) (by omega) a1 hk
    have b4' : ∀ d R, kX xs d 164 0 [some (.ref 185), some (.int 1)] [] (kmm I1 J rf g) R = R none (kmm I2 J rf g) := b4
    have e : (if s.F = 0 then if kdO T s = 128 + c then stp s else wrg T 1 s else s) = wrg T 1 s := by
      by_cases z : s.F = 0
      · rw [if_pos z, if_neg (fun y => q ⟨z, y⟩)]
      · rw [if_neg z, wrg_n z]
    rw [e]
    refine ⟨I2, b1, a2.trans b2, fun d R => ?_⟩
    rw [B170_0, krecv_m ks185, kcond_t, a4, kpush_s, B170_5, if_pos (by rw [decide_eq_false q]; rfl), B170_8, krecv_m ks185, kcond_t, b4', kpush_n, B170_13]
/-- takeAfter -/
theorem m_174 {c m : Nat} (v : vTp T) (hs : c < 22) (hm : m < 127) (h : mPS I J T s) (hk : s.k ≤ nT T) : ∃ I', mPS I' J T (iF (tkN T m) (tak T (128 + c) s)) ∧ mFr I I' ∧ ∀ d R, kX xs (d + 3) 174 0 [some (.ref 185), some (.int (nI c)), some (.int 0), some (.int (nI m))] [] (kmm I J rf g) R = R (some (.int (if (iF (tkN T m) (tak T (128 + c) s)).F = 0 then nI (tV T (pT T (tak T (128 + c) s).k)) else 0))) (kmm I' J rf g) := by
  obtain ⟨I1, a1, a2, a4⟩ := m_170 (xs := xs) (rf := rf) (g := g) v hs h hk
  obtain ⟨I2, b1, b2, b4⟩ := m_173 (xs := xs) (rf := rf) (g := g) v hm a1 (kle_tak hk (by omega)).2
  refine ⟨I2, b1, a2.trans b2, fun d R => ?_⟩
  rw [B174_0, krecv_m ks185, kcond_t, a4, kpush_n, B174_5, krecv_m ks185, kcond_t, show d + 2 = d + 1 + 1 from rfl, b4, kpush_s, B174_11]
/-- takeOne: a judge's kind -/
theorem m_176 (v : vTp T) (h : mPS I J T s) (hk : s.k ≤ nT T) : ∃ I', mPS I' J T (iF (tkK T) s) ∧ mFr I I' ∧ ∀ d R, kX xs (d + 2) 176 0 [some (.ref 185), some (.int (nI 11)), some (.int 4), none] [] (kmm I J rf g) R = R (some (.int (if (iF (tkK T) s).F = 0 then nI (kdO T s - 139) else 0))) (kmm I' J rf g) := by
  have ek := h.k
  have hl2 : kdO T s ≤ 149 := kd_149 (p := pT T s.k) v
  have wh : ∀ d R, kX xs (d + 1) 175 0 [some (.ref 185), some (.int (nI 11)), some (.int 4), none, none] [] (kmm I J rf g) R = R (some (.int (aWh T s 11 4))) (kmm I J rf g) := fun d R => sp175 (fr := 11) (mn := 4) v (by omega) h hk
  have e34 : ∀ (K : Nat → Nat → Int32) (t : aPS) (x : Int32), mPS K J T t → ¬ t.F = 0 → ∀ d R, kX xs d 176 34 [some (.ref 185), none, none, some (.int x)] [] (kmm K J rf g) R = R (some (.int 0)) (kmm K J rf g) := by
    intro K t x hK hz d R
    have ek := hK.k
    rw [B176_34, kg12_7, kO_s, ek, kg12_8, kO_s, if_pos ((mFp hK).mpr hz), B176_46, B176_51, Int32.add_zero, kp12_7, kO_s, ku_id ek, kg12_8, kO_s, if_pos ((mFp hK).mpr hz), B176_62, B176_67]
  unfold iF
  by_cases q : s.F = 0
  · rw [if_pos q]
    have ent : ∀ d R, kX xs (d + 2) 176 0 [some (.ref 185), some (.int (nI 11)), some (.int 4), none] [] (kmm I J rf g) R = kX xs (d + 2) 176 25 [some (.ref 185), none, none, some (.int (aWh T s 11 4))] [] (kmm I J rf g) R := by
      intro d R
      rw [B176_0, kg12_8, kO_s, if_neg (fun z => ((mFp h).mp z) q), B176_11, krecv_m ks185, kcond_t, wh, kpush_s, B176_17, kg12_8, kO_s, if_pos ((mF0 h).mpr q)]
    unfold tkK
    by_cases q2 : 139 ≤ kdO T s ∧ kdO T s ≤ 142
    · rw [if_pos q2]
      have ew : aWh T s 11 4 = nI (kdO T s - 139) := by
        unfold aWh
        rw [if_pos ⟨q, by omega, by omega⟩, show kdO T s - 128 - 11 = kdO T s - 139 by omega]
      obtain ⟨a1, a2⟩ := m_stp h
      have qs : (stp s).F = 0 := q
      refine ⟨_, a1, a2, fun d R => ?_⟩
      rw [if_pos qs, ent, ew, B176_25, if_neg (nI_nn (by omega)), B176_34, kg12_7, kO_s, ek, kg12_8, kO_s, if_neg (fun z => ((mFp h).mp z) q), B176_50, B176_51, nI_add1, kp12_7, kO_s, kg12_8, kO_s, if_neg (fun z => ((mFp a1).mp z) qs), B176_66, B176_67]
    · rw [if_neg q2]
      have ew : aWh T s 11 4 = -1 := by
        unfold aWh
        rw [if_neg (fun z => q2 (by omega))]
      obtain ⟨I1, a1, a2, a4⟩ := m_wrg (xs := xs) (rf := rf) (g := g) (c := 1) v (by omega) (by omega) h hk
      have a4' : ∀ d R, kX xs d 164 0 [some (.ref 185), some (.int 1)] [] (kmm I J rf g) R = R none (kmm I1 J rf g) := a4
      have wF := wrgF (T := T) (c := 1) (by omega) q
      refine ⟨I1, a1, a2, fun d R => ?_⟩
      rw [if_neg wF, ent, ew, B176_25, if_pos (by decide), B176_29, krecv_m ks185, kcond_t, a4', kpush_n, e34 I1 _ _ a1 wF]
  · rw [if_neg q]
    refine ⟨I, h, mFr.refl, fun d R => ?_⟩
    rw [if_neg q, B176_0, kg12_8, kO_s, if_pos ((mFp h).mpr q), B176_7, B176_17, kg12_8, kO_s, if_neg (fun z => q ((mF0 h).mp z)), e34 I s _ h q]
theorem nAt_n {nj nc v : Nat} {N : aNm} (hj : nj ≤ 7) (hc : nc ≤ 7) : (nAt nj nc N v < 0) = ¬ (fO N.j v nj < nj ∨ fO N.c v nc < nc) := by
  unfold nAt
  by_cases q : fO N.j v nj < nj
  · rw [if_pos q]
    exact propext ⟨fun z => absurd z (nI_nn (by omega)), fun z => absurd (Or.inl q) z⟩
  · rw [if_neg q]
    by_cases q2 : fO N.c v nc < nc
    · rw [if_pos q2]
      exact propext ⟨fun z => absurd z (nI_nn (by omega)), fun z => absurd (Or.inr q2) z⟩
    · rw [if_neg q2]
      exact propext ⟨fun _ z => z.elim q q2, fun _ => by decide⟩
/-- readName: one too many -/
theorem m_182w {m fr : Nat} (v : vTp T) (h : mPS I J T s) (hk : s.k ≤ nT T) (hm : m ≤ 1) (en : I 191 (90 + m) = nI 7) : ∃ I', mPS I' J T (wrg T 5 s) ∧ mFr I I' ∧ ∀ d R, kX xs (d + 3) 182 0 [some (.ref 185), some (.int (nI m)), some (.int (nI 7)), some (.int (nI fr)), none] [] (kmm I J rf g) R = R none (kmm I' J rf g) := by
  obtain ⟨I1, a1, a2, a4⟩ := m_wrg (xs := xs) (rf := rf) (g := g) (c := 5) v (by omega) (by omega) h hk
  have a4' : ∀ d R, kX xs d 164 0 [some (.ref 185), some (.int 5)] [] (kmm I J rf g) R = R none (kmm I1 J rf g) := a4
  refine ⟨I1, a1, a2, fun d R => ?_⟩
  rw [B182_0, kg12_10, kO_s, c8_90, nI_add, ka191 (by omega), kO_s, en, if_pos rfl, B182_17, krecv_m ks185, kcond_t, a4', kpush_n, B182_22]
/-- readName -/
theorem m_182 {m n fr : Nat} {nm no : Nat → Nat} (vt : vTp T) (hj : D.nj ≤ 7) (hc : D.nc ≤ 7) (hv : vNm D.nj D.nc D.N) (hN : mNm I J 19 195 197 D.nj D.nc D.N nm no) (h : mPS I J T s) (hk : s.k < nT T) (hF : s.F = 0) (hm : m ≤ 1) (en : I 191 (90 + m) = nI n) (hn : n < 7) (h14 : D.nj + D.nc < 14) : ∃ I' J', mPS I' J' T (nw1 T D s) ∧ ((nw1 T D s).F = 0 → J' 195 (D.nj + D.nc) = nJ (tV T (pT T (s.k + 1))) ∧ I' 197 (D.nj + D.nc) = nI (fr + n) ∧ I' 185 19 = nI (D.nj + D.nc + 1) ∧ I' 191 (90 + m) = nI (n + 1)) ∧ (∀ x k, ¬ (x = 185 ∧ (k = 7 ∨ k = 8 ∨ k = 13 ∨ k = 19)) → ¬ (x = 192 ∧ 1100 ≤ k) → ¬ (x = 193 ∧ 1100 ≤ k) → ¬ (x = 197 ∧ k = D.nj + D.nc) → ¬ (x = 191 ∧ k = 90 + m) → I' x k = I x k) ∧ (∀ x k, ¬ (x = 195 ∧ k = D.nj + D.nc) → J' x k = J x k) ∧ ∀ d R, kX xs (d + 3) 182 0 [some (.ref 185), some (.int (nI m)), some (.int (nI 7)), some (.int (nI fr)), none] [] (kmm I J rf g) R = R none (kmm I' J' rf g) := by
  have hn1 := (nT_ok T).1
  have hn2 := vt.n
  have ek := h.k
  have n7 : ¬ nI n = nI 7 := fun z => by rw [nI_inj (by omega) (by omega)] at z; omega
  obtain ⟨a1, a2⟩ := m_stp h
  have ekS : ku I 185 7 (nI (s.k + 1)) 185 7 = nI (s.k + 1) := ku_same _ _ _ _
  have hN1 : mNm (ku I 185 7 (nI (s.k + 1))) J 19 195 197 D.nj D.nc D.N nm no := ⟨by rw [ku_nek (by omega)]; exact hN.m, hN.l, hN.n, fun k hk => by rw [ku_nea (by omega)]; exact hN.o k hk⟩
  have en1 : ku I 185 7 (nI (s.k + 1)) 191 (90 + m) = nI n := by rw [ku_nea (by omega)]; exact en
  have hkS : (stp s).k ≤ nT T := hk
  have hFS : (stp s).F = 0 := hF
  have ent : ∀ d R, kX xs (d + 3) 182 0 [some (.ref 185), some (.int (nI m)), some (.int (nI 7)), some (.int (nI fr)), none] [] (kmm I J rf g) R = kX xs (d + 3) 182 37 [some (.ref 185), some (.int (nI m)), none, some (.int (nI fr)), some (.int (nI n))] [.int (nI (bN (decide ((stp s).F = 0 ∧ okN (kdO T (stp s))))))] (kmm (ku I 185 7 (nI (s.k + 1))) J rf g) R := by
    intro d R
    rw [B182_0, kg12_10, kO_s, c8_90, nI_add, ka191 (by omega), kO_s, en, if_neg n7, B182_23, kg12_7, kO_s, ek, nI_add1, kp12_7, kO_s, krecv_m ks185, kcond_t, sp177 vt a1 hkS, kpush_s]
  have bad : ∀ c : Nat, 0 < c → c ≤ 5 → ∃ I', mPS I' J T (wrg T c (stp s)) ∧ mFr I I' ∧ (∀ d R, kX xs d 164 0 [some (.ref 185), some (.int (nI c))] [] (kmm (ku I 185 7 (nI (s.k + 1))) J rf g) R = R none (kmm I' J rf g)) ∧ ∀ d R, kX xs d 182 61 [some (.ref 185), some (.int (nI m)), none, some (.int (nI fr)), some (.int (nI n))] [] (kmm I' J rf g) R = R none (kmm I' J rf g) := by
    intro c c0 c5
    obtain ⟨I1, b1, b2, b4⟩ := m_wrg (xs := xs) (rf := rf) (g := g) (c := c) vt c0 (by omega) a1 hkS
    have wF := wrgF (T := T) c0 hFS
    refine ⟨I1, b1, a2.trans b2, b4, fun d R => ?_⟩
    rw [B182_61, kg12_8, kO_s, if_neg (fun z => wF ((mF0 b1).mp z)), B182_132]
  have e1 : nw1 T D s = nwN T D (stp s) := rfl
  rw [e1]
  unfold nwN
  by_cases q : okN (kdO T (stp s))
  · rw [if_pos q]
    have at1 := atR (xs := xs) (rf := rf) (g := g) vt hj hc hv hN1 a1 hkS q
    have ent2 : ∀ d R, kX xs (d + 3) 182 0 [some (.ref 185), some (.int (nI m)), some (.int (nI 7)), some (.int (nI fr)), none] [] (kmm I J rf g) R = if nAt D.nj D.nc D.N (tV T (pT T (stp s).k)) < 0 then kX xs (d + 3) 182 61 [some (.ref 185), some (.int (nI m)), none, some (.int (nI fr)), some (.int (nI n))] [] (kmm (ku I 185 7 (nI (s.k + 1))) J rf g) R else kX xs (d + 3) 182 56 [some (.ref 185), some (.int (nI m)), none, some (.int (nI fr)), some (.int (nI n))] [] (kmm (ku I 185 7 (nI (s.k + 1))) J rf g) R := by
      intro d R
      rw [ent, B182_37, if_neg (by rw [decide_eq_true ⟨hFS, q⟩]; decide), B182_48, krecv_m ks185, kcond_t, at1, kpush_s, B182_53]
    by_cases q2 : fO D.N.j (tV T (pT T (stp s).k)) D.nj < D.nj ∨ fO D.N.c (tV T (pT T (stp s).k)) D.nc < D.nc
    · rw [if_pos q2]
      obtain ⟨I1, b1, b2, b4, b5⟩ := bad 3 (by omega) (by omega)
      have b4' : ∀ d R, kX xs d 164 0 [some (.ref 185), some (.int 3)] [] (kmm (ku I 185 7 (nI (s.k + 1))) J rf g) R = R none (kmm I1 J rf g) := b4
      refine ⟨I1, J, b1, fun z => absurd z (wrgF (by decide) hFS), fun x k p1 p2 p3 _ _ => b2 x k (by omega) p2 p3, fun _ _ _ => rfl, fun d R => ?_⟩
      rw [ent2, if_neg (fun z => ((nAt_n hj hc).mp z) q2), B182_56, krecv_m ks185, kcond_t, b4', kpush_n, b5]
    · rw [if_neg q2]
      have hlt : (stp s).k < nT T := kdO_lt hkS (okN_0 q)
      have hlt' : s.k + 1 < nT T := hlt
      have ev : J 189 (s.k + 1) = nJ (tV T (pT T (s.k + 1))) := h.tk.v (s.k + 1) hlt
      have em : I 185 19 = nI (D.nj + D.nc) := hN.m
      refine ⟨ku (ku (ku (ku (ku I 185 7 (nI (s.k + 1))) 197 (D.nj + D.nc) (nI (fr + n))) 185 19 (nI (D.nj + D.nc + 1))) 185 7 (nI (s.k + 1 + 1))) 191 (90 + m) (nI (n + 1)), ku J 195 (D.nj + D.nc) (nJ (tV T (pT T (s.k + 1)))), ?_, fun _ => ⟨ku_same _ _ _ _, ?_, ?_, ku_same _ _ _ _⟩, fun x k p1 p2 p3 p4 p5 => by rw [ku_ne p5, ku_ne (by omega), ku_ne (by omega), ku_ne p4, ku_ne (by omega)], fun x k p => ku_ne p, fun d R => ?_⟩
      · have b1 := (m_stp a1).1
        have b2 : mPS (ku (ku I 185 7 (nI (s.k + 1))) 185 7 (nI (s.k + 1 + 1))) J T (stp (stp s)) := b1
        have b3 : mPS (ku (ku (ku (ku (ku I 185 7 (nI (s.k + 1))) 197 (D.nj + D.nc) (nI (fr + n))) 185 19 (nI (D.nj + D.nc + 1))) 185 7 (nI (s.k + 1 + 1))) 191 (90 + m) (nI (n + 1))) J T (stp (stp s)) := b2.ik (fun x k p1 p2 p3 => by
          rw [ku_nea p2]
          by_cases y : x = 185 ∧ k = 7
          · rw [y.1, y.2, ku_same, ku_same]
          · rw [ku_ne y, ku_ne (by omega), ku_nea p3, ku_ne y, ku_ne y, ku_ne y])
        exact b3.jk (fun x k hx => ku_nea hx)
      · rw [ku_nea (by omega), ku_nea (by omega), ku_nea (by omega), ku_same]
      · rw [ku_nea (by omega), ku_nek (by omega), ku_same]
      · rw [ent2, if_pos ((nAt_n hj hc).mpr q2), B182_61, kg12_8, kO_s, if_pos ((mF0 a1).mpr hFS), B182_68, kg12_15, kO_s, kg12_19, kO_s, ku_nek (show 19 ≠ 7 by omega), em, kg12_6, kO_s, kg12_7, kO_s, ku_same, kj189 (by omega), kO_s, ev, kk195 h14, kO_s, kg12_17, kO_s, kg12_19, kO_s, ku_nek (show 19 ≠ 7 by omega), em, nI_add, kw197 h14, kO_s, kg12_19, kO_s, ku_nea (show (185 : Nat) ≠ 197 by omega), ku_nek (show 19 ≠ 7 by omega), em, nI_add1, kp12_19, kO_s, B182_109, kg12_7, kO_s, ku_nek (show 7 ≠ 19 by omega), ku_nea (show (185 : Nat) ≠ 197 by omega), ku_same, nI_add1, kp12_7, kO_s, kg12_10, kO_s, c8_90, nI_add, ka191 (by omega), kO_s, ku_nea (show (191 : Nat) ≠ 185 by omega), ku_nea (show (191 : Nat) ≠ 185 by omega), ku_nea (show (191 : Nat) ≠ 197 by omega), ku_nea (show (191 : Nat) ≠ 185 by omega), en, nI_add1, kw191 (by omega), kO_s, B182_132]
  · rw [if_neg q]
    obtain ⟨I1, b1, b2, b4, b5⟩ := bad 1 (by omega) (by omega)
    have b4' : ∀ d R, kX xs d 164 0 [some (.ref 185), some (.int 1)] [] (kmm (ku I 185 7 (nI (s.k + 1))) J rf g) R = R none (kmm I1 J rf g) := b4
    refine ⟨I1, J, b1, fun z => absurd z (wrgF (by decide) hFS), fun x k p1 p2 p3 _ _ => b2 x k (by omega) p2 p3, fun _ _ _ => rfl, fun d R => ?_⟩
    rw [ent, B182_37, if_pos (by rw [decide_eq_false (fun z => q z.2)]; rfl), B182_40, krecv_m ks185, kcond_t, b4', kpush_n, B182_45, b5]
end MN
