/-! a line of a term: the model -/
abbrev mFl (i : Nat) (I I' : Nat → Nat → Int32) : Prop := ∀ x k, ¬ (x = 185 ∧ (k = 7 ∨ k = 8 ∨ k = 13)) → ¬ (x = 192 ∧ 1100 ≤ k) → ¬ (x = 193 ∧ 1100 ≤ k) → ¬ (x = 198 ∧ i ≤ k ∧ k ≤ i + 2) → I' x k = I x k
/-- a line's two halves -/
def lnM (T : aTp) (N : aNm) (nj nc w : Nat) (s : aPS) : aPS := if w = 0 then s else iF (tm2 T N nj w (tm1v T N nj nc w s)) (tm1 T N nj nc w s)
def lnMy (T : aTp) (N : aNm) (nj nc w : Nat) (s : aPS) : Nat := if w = 0 then 0 else tm2v T N nj w (tm1 T N nj nc w s)
section ML
variable {xs : List Int32} {d : Nat} {I I' I2 : Nat → Nat → Int32} {J : Nat → Nat → Int64} {rf : Nat → Nat} {g : Nat} {R : Option Value → KW → Prop} {w : KW} {T : aTp} {s : aPS} {nj nc : Nat} {N : aNm} {nm no : Nat → Nat}
theorem mPS.put (h : mPS I J T s) {k : Nat} {v : Int32} : mPS (ku I 198 k v) J T s :=
  ⟨h.tk.keep (fun x k _ => by rw [ku_nea (by omega)]), h.wd, by rw [ku_nea (by omega)]; exact h.k, by rw [ku_nea (by omega)]; exact h.f, h.b, by rw [ku_nea (by omega)]; exact h.l, fun n hn => by rw [ku_nea (by omega)]; exact h.o n hn, fun n hn => by rw [ku_nea (by omega)]; exact h.a n hn⟩
theorem mNm.keep (h : mNm I J 18 194 196 nj nc N nm no) (h1 : ∀ x k, (x = 185 ∧ k = 18) ∨ x = 196 → I' x k = I x k) : mNm I' J 18 194 196 nj nc N nm no := ⟨by rw [h1 _ _ (by omega)]; exact h.m, h.l, h.n, fun k hk => by rw [h1 _ _ (by omega)]; exact h.o k hk⟩
theorem avn_tld {f : Nat → Nat} {n bm : Nat} (hk : s.k ≤ nT T) : (tld T f n bm s).k ≤ nT T ∧ (iF (tld T f n bm) s).k ≤ nT T := by
  have key : (tld T f n bm s).k ≤ nT T := by
    unfold tld
    by_cases q : okN (kdO T s)
    · rw [if_pos q]
      have hlt : s.k < nT T := kdO_lt hk (fun z => by unfold okN okF at q; omega)
      by_cases q2 : fO f (tV T (pT T s.k)) n < n
      · rw [if_pos q2]
        by_cases q3 : bm.testBit (fO f (tV T (pT T s.k)) n) = true
        · rw [if_pos q3]; exact hk
        · rw [if_neg q3]; exact hlt
      · rw [if_neg q2]; exact hk
    · rw [if_neg q]; exact hk
  refine ⟨key, ?_⟩
  unfold iF
  by_cases q : s.F = 0
  · rw [if_pos q]; exact key
  · rw [if_neg q]; exact hk
/-- the first name -/
theorem m_first {wd : Nat} (vt : vTp T) (hj : nj ≤ 7) (hc : nc ≤ 7) (hv : vNm nj nc N) (hm : mNm I J 18 194 196 nj nc N nm no) (h : mPS I J T s) (hk : s.k ≤ nT T) (hF : s.F = 0) (hw : wd = 1 ∨ wd = 2 ∨ wd = 3) : ∃ I', mPS I' J T (tm1 T N nj nc wd s) ∧ (tm1 T N nj nc wd s).k ≤ nT T ∧ mFr I I' ∧ ∀ d R, kX xs (d + 3) 179 0 [some (.ref 185), some (.int 0), some (.int (if wd = 1 then nI 20 else 0)), some (.int 0), none] [] (kmm I J rf g) R = R (some (.int (if (tm1 T N nj nc wd s).F = 0 then nI (tm1v T N nj nc wd s) else 0))) (kmm I' J rf g) := by
  by_cases e : wd = 1
  · have e1 : tm1 T N nj nc wd s = tld T N.c nc 0 s := by unfold tm1; rw [if_neg (by omega), if_pos e]
    have e2 : tm1v T N nj nc wd s = fO N.c (tV T (pT T s.k)) nc := by unfold tm1v; rw [if_neg (by omega), if_pos e]
    rw [e1, e2, if_pos e]
    obtain ⟨I1, a1, a2, a4⟩ := m_179c (xs := xs) (rf := rf) (g := g) (bm := 0) vt (Nat.pow_pos (by decide)) hj hc hv hm h hk
    have ei : iF (tld T N.c nc 0) s = tld T N.c nc 0 s := if_pos hF
    rw [ei] at a1 a4
    exact ⟨I1, a1, (avn_tld hk).1, a2, a4⟩
  · have e1 : tm1 T N nj nc wd s = tld T N.j nj 0 s := by unfold tm1; rw [if_neg (by omega), if_neg e]
    have e2 : tm1v T N nj nc wd s = fO N.j (tV T (pT T s.k)) nj := by unfold tm1v; rw [if_neg (by omega), if_neg e]
    rw [e1, e2, if_neg e]
    obtain ⟨I1, a1, a2, a4⟩ := m_179j (xs := xs) (rf := rf) (g := g) (bm := 0) vt (Nat.pow_pos (by decide)) hj hc hv hm h hk
    have ei : iF (tld T N.j nj 0) s = tld T N.j nj 0 s := if_pos hF
    rw [ei] at a1 a4
    exact ⟨I1, a1, (avn_tld hk).1, a2, a4⟩
theorem tld_lt {f : Nat → Nat} {n bm : Nat} (hF : s.F = 0) (h : (tld T f n bm s).F = 0) : fO f (tV T (pT T s.k)) n < n := by
  refine Classical.byContradiction (fun q => ?_)
  have q' : ¬ (okN (kdO T s) ∧ fO f (tV T (pT T s.k)) n < n) := fun z => q z.2
  rw [tld_f q'] at h
  exact q' ((fdS_F hF).mp h)
/-- what stands behind the first name -/
theorem m_second {x : Nat} {u : aPS} (vt : vTp T) (hj : nj ≤ 7) (hc : nc ≤ 7) (hv : vNm nj nc N) (hm : mNm I J 18 194 196 nj nc N nm no) (h : mPS I J T u) (hk : u.k ≤ nT T) (hx : u.F = 0 → x < 7) :
    (∃ I', mPS I' J T (iF (tm2 T N nj 3 x) u) ∧ mFr I I' ∧ ∀ d R, kX xs (d + 3) 179 0 [some (.ref 185), some (.int 0), some (.int 0), some (.int (nI (2 ^ (if u.F = 0 then x else 0)))), none] [] (kmm I J rf g) R = R (some (.int (if (iF (tm2 T N nj 3 x) u).F = 0 then nI (tm2v T N nj 3 u) else 0))) (kmm I' J rf g)) ∧
    (∃ I', mPS I' J T (iF (tm2 T N nj 1 x) u) ∧ mFr I I' ∧ ∀ d R, kX xs (d + 1) 173 0 [some (.ref 185), some (.int 0), some (.int 3)] [] (kmm I J rf g) R = R (some (.int (if (iF (tm2 T N nj 1 x) u).F = 0 then nI (tm2v T N nj 1 u) else 0))) (kmm I' J rf g)) ∧
    (∃ I', mPS I' J T (iF (tm2 T N nj 2 x) u) ∧ mFr I I' ∧ ∀ d R, kX xs (d + 1) 173 0 [some (.ref 185), some (.int 0), some (.int (nI 20))] [] (kmm I J rf g) R = R (some (.int (if (iF (tm2 T N nj 2 x) u).F = 0 then nI (tm2v T N nj 2 u) else 0))) (kmm I' J rf g)) := by
  refine ⟨?_, ?_, ?_⟩
  · have hb : 2 ^ (if u.F = 0 then x else 0) < 2 ^ 31 := by
      refine Nat.pow_lt_pow_right (by decide) ?_
      by_cases q : u.F = 0
      · rw [if_pos q]; have := hx q; omega
      · rw [if_neg q]; omega
    obtain ⟨I1, a1, a2, a4⟩ := m_179j (xs := xs) (rf := rf) (g := g) (bm := 2 ^ (if u.F = 0 then x else 0)) vt hb hj hc hv hm h hk
    have e : iF (tld T N.j nj (2 ^ (if u.F = 0 then x else 0))) u = iF (tm2 T N nj 3 x) u := by
      unfold iF
      by_cases q : u.F = 0
      · rw [if_pos q, if_pos q, if_pos q]; rfl
      · rw [if_neg q, if_neg q]
    rw [e] at a1 a4
    exact ⟨I1, a1, a2, a4⟩
  · obtain ⟨I1, a1, a2, a4⟩ := m_173 (xs := xs) (rf := rf) (g := g) (m := 3) vt (by omega) h hk
    exact ⟨I1, a1, a2, a4⟩
  · obtain ⟨I1, a1, a2, a4⟩ := m_173 (xs := xs) (rf := rf) (g := g) (m := 20) vt (by omega) h hk
    exact ⟨I1, a1, a2, a4⟩
theorem mFl.of {i : Nat} (h : mFr I I') : mFl i I I' := fun x k p q r _ => h x k p q r
theorem mFl.put {i k : Nat} {v : Int32} (h1 : i ≤ k) (h2 : k ≤ i + 2) : mFl i I (ku I 198 k v) := fun x k' _ _ _ q => by rw [ku_ne (by omega)]
theorem mFl.trans {i : Nat} (h1 : mFl i I I') (h2 : mFl i I' I2) : mFl i I I2 := fun x k p q r t => by rw [h2 x k p q r t, h1 x k p q r t]
theorem mNm.fl {i : Nat} (h : mNm I J 18 194 196 nj nc N nm no) (h1 : mFl i I I') : mNm I' J 18 194 196 nj nc N nm no := h.keep (fun x k hx => h1 x k (by omega) (by omega) (by omega) (by omega))
/-- readTerm of the model: a line with a name -/
theorem m_186 {wd i : Nat} (vt : vTp T) (hj : nj ≤ 7) (hc : nc ≤ 7) (hv : vNm nj nc N) (hm : mNm I J 18 194 196 nj nc N nm no) (h : mPS I J T s) (hk : s.k ≤ nT T) (hF : s.F = 0) (hw : wd = 1 ∨ wd = 2 ∨ wd = 3) (hi : i + 2 < 250) : ∃ I', mPS I' J T (iF (tm2 T N nj wd (tm1v T N nj nc wd s)) (tm1 T N nj nc wd s)) ∧ I' 198 i = nI wd ∧ I' 198 (i + 1) = (if (tm1 T N nj nc wd s).F = 0 then nI (tm1v T N nj nc wd s) else 0) ∧ I' 198 (i + 2) = (if (iF (tm2 T N nj wd (tm1v T N nj nc wd s)) (tm1 T N nj nc wd s)).F = 0 then nI (tm2v T N nj wd (tm1 T N nj nc wd s)) else 0) ∧ mFl i I I' ∧ ∀ d R, kX xs (d + 4) 186 0 [some (.ref 185), some (.int (nI i)), some (.int (nI wd))] [] (kmm I J rf g) R = R none (kmm I' J rf g) := by
  have f0 : mFl i I (ku I 198 i (nI wd)) := mFl.put (by omega) (by omega)
  have x7 : (tm1 T N nj nc wd s).F = 0 → tm1v T N nj nc wd s < 7 := by
    intro z
    by_cases e : wd = 1
    · have e1 : tm1 T N nj nc wd s = tld T N.c nc 0 s := by unfold tm1; rw [if_neg (by omega), if_pos e]
      have e2 : tm1v T N nj nc wd s = fO N.c (tV T (pT T s.k)) nc := by unfold tm1v; rw [if_neg (by omega), if_pos e]
      rw [e1] at z
      have := tld_lt hF z
      rw [e2]; omega
    · have e1 : tm1 T N nj nc wd s = tld T N.j nj 0 s := by unfold tm1; rw [if_neg (by omega), if_neg e]
      have e2 : tm1v T N nj nc wd s = fO N.j (tV T (pT T s.k)) nj := by unfold tm1v; rw [if_neg (by omega), if_neg e]
      rw [e1] at z
      have := tld_lt hF z
      rw [e2]; omega
  have ne0 : ¬ nI wd = 0 := fun z => by rw [show (0 : Int32) = nI 0 from rfl, nI_inj (by omega) (by omega)] at z; omega
  have w1 : (nI wd = 1) = (wd = 1) := nI_inj (b := 1) (by omega) (by omega)
  have w3 : (nI wd = 3) = (wd = 3) := nI_inj (b := 3) (by omega) (by omega)
  obtain ⟨I1, a1, ak, a2, a4⟩ := m_first (xs := xs) (rf := rf) (g := g) vt hj hc hv (hm.fl f0) h.put hk hF hw
  generalize tm1v T N nj nc wd s = x at *
  generalize tm1 T N nj nc wd s = u at *
  have f1 : mFl i I (ku I1 198 (i + 1) (if u.F = 0 then nI x else 0)) := f0.trans ((mFl.of a2).trans (mFl.put (by omega) (by omega)))
  have g0 : I1 198 i = nI wd := by rw [a2 _ _ (by omega) (by omega) (by omega), ku_same]
  obtain ⟨s3, s1, s2⟩ := m_second (xs := xs) (rf := rf) (g := g) (x := x) vt hj hc hv (hm.fl f1) a1.put ak x7
  have ent : ∀ d R, kX xs (d + 4) 186 0 [some (.ref 185), some (.int (nI i)), some (.int (nI wd))] [] (kmm I J rf g) R = kX xs (d + 4) 186 55 [some (.ref 185), some (.int (nI i)), some (.int (nI wd))] [.int (nI (i + 2)), .ref 198] (kmm (ku I1 198 (i + 1) (if u.F = 0 then nI x else 0)) J rf g) R := by
    intro d R
    rw [B186_0, kg12_20, kO_s, kw198 (by omega), kO_s, kg12_20, kO_s, if_neg ne0, B186_22, nI_add1]
    have a4' := a4
    by_cases e : wd = 1
    · rw [if_pos e] at a4'
      rw [if_pos (w1.mpr e), B186_29, B186_35, krecv_m ks185, kcond_t, c8_20, a4', kpush_s, B186_39, kw198 (by omega), kO_s, kg12_20, kO_s, if_neg ne0, show (2 : Int32) = nI 2 from rfl, nI_add]
    · rw [if_neg e] at a4'
      rw [if_neg (fun z => e (w1.mp z)), B186_34, B186_35, krecv_m ks185, kcond_t, a4', kpush_s, B186_39, kw198 (by omega), kO_s, kg12_20, kO_s, if_neg ne0, show (2 : Int32) = nI 2 from rfl, nI_add]
  have fin : ∀ (I2 : Nat → Nat → Int32) (fn : aPS) (y : Int32), mPS I2 J T fn → mFr (ku I1 198 (i + 1) (if u.F = 0 then nI x else 0)) I2 → mPS (ku I2 198 (i + 2) y) J T fn ∧ ku I2 198 (i + 2) y 198 i = nI wd ∧ ku I2 198 (i + 2) y 198 (i + 1) = (if u.F = 0 then nI x else 0) ∧ ku I2 198 (i + 2) y 198 (i + 2) = y ∧ mFl i I (ku I2 198 (i + 2) y) := by
    intro I2 fn y b1 b2
    refine ⟨b1.put, ?_, ?_, ku_same _ _ _ _, f1.trans ((mFl.of b2).trans (mFl.put (by omega) (by omega)))⟩
    · rw [ku_nek (by omega), b2 _ _ (by omega) (by omega) (by omega), ku_nek (by omega), g0]
    · rw [ku_nek (by omega), b2 _ _ (by omega) (by omega) (by omega), ku_same]
  rcases hw with e | e | e
  · subst e
    obtain ⟨I2, b1, b2, b4⟩ := s1
    obtain ⟨c1, c2, c3, c5, c6⟩ := fin I2 _ (if (iF (tm2 T N nj 1 x) u).F = 0 then nI (tm2v T N nj 1 u) else 0) b1 b2
    refine ⟨_, c1, c2, c3, c5, c6, fun d R => ?_⟩
    rw [ent, B186_55, if_neg (by decide), B186_79, if_pos (show nI 1 = 1 from rfl), B186_86, B186_92, krecv_m ks185, kcond_t, b4, kpush_s, B186_95, kw198 (by omega), kO_s]
  · subst e
    obtain ⟨I2, b1, b2, b4⟩ := s2
    obtain ⟨c1, c2, c3, c5, c6⟩ := fin I2 _ (if (iF (tm2 T N nj 2 x) u).F = 0 then nI (tm2v T N nj 2 u) else 0) b1 b2
    refine ⟨_, c1, c2, c3, c5, c6, fun d R => ?_⟩
    rw [ent, B186_55, if_neg (by decide), B186_79, if_neg (by decide), B186_90, B186_92, krecv_m ks185, kcond_t, c8_20, b4, kpush_s, B186_95, kw198 (by omega), kO_s]
  · subst e
    obtain ⟨I2, b1, b2, b4⟩ := s3
    obtain ⟨c1, c2, c3, c5, c6⟩ := fin I2 _ (if (iF (tm2 T N nj 3 x) u).F = 0 then nI (tm2v T N nj 3 u) else 0) b1 b2
    refine ⟨_, c1, c2, c3, c5, c6, fun d R => ?_⟩
    have em : (1 : Int32) <<< ((if u.F = 0 then nI x else 0) &&& 31) = nI (2 ^ (if u.F = 0 then x else 0)) := by
      by_cases q : u.F = 0
      · rw [if_pos q, if_pos q, nI_bit (by have := x7 q; omega)]
      · rw [if_neg q, if_neg q]; decide
    rw [ent, B186_55, if_pos (show nI 3 = 3 from rfl), B186_60, kg12_20, kO_s, nI_add1, ka198 (by omega), kO_s, ku_same, krecv_m ks185, kcond_t, em, b4, kpush_s, B186_76, B186_95, kw198 (by omega), kO_s]
end ML
