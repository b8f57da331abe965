/-! a line of a term: the model -/
abbrev mFl (i : Nat) (I I' : Nat → Nat → Int32) : Prop := ∀ x k, ¬ (x = 185 ∧ (k = 7 ∨ k = 8 ∨ k = 13)) → ¬ (x = 192 ∧ 1100 ≤ k) → ¬ (x = 193 ∧ 1100 ≤ k) → ¬ (x = 198 ∧ i ≤ k ∧ k ≤ i + 2) → I' x k = I x k
/-- a line's two halves -/
def lnM (T : aTp) (N : aNm) (nj nc w : Nat) (s : aPS) : aPS := if w = 0 then s else iF (tm2 T N nj w (tm1v T N nj nc w s)) (tm1 T N nj nc w s)
def lnMy (T : aTp) (N : aNm) (nj nc w : Nat) (s : aPS) : Nat := if w = 0 then 0 else tm2v T N nj w (tm1 T N nj nc w s)
section ML
variable {xs : List Int32} {d : Nat} {I I' I2 : Nat → Nat → Int32} {J : Nat → Nat → Int64} {rf : Nat → Nat} {g : Nat} {R : Option Value → KW → Prop} {w : KW} {T : aTp} {s : aPS} {nj nc : Nat} {N : aNm} {nm no : Nat → Nat}
theorem mPS.put (h : mPS I J T s) {k : Nat} {v : Int32} : mPS (ku I 198 k v) J T s :=
  ⟨h.tk.keep (fun x k _ => by rw [ku_nea (by omega)]), h.wd, by rw [ku_nea (by omega)]; exact h.k, by rw [ku_nea (by omega)]; exact h.f, h.b, by rw [ku_nea (by omega)]; exact h.l, fun n hn => by rw [ku_nea (by omega)]; exact h.o n hn, fun n hn => by rw [ku_nea (by omega)]; exact h.a n hn⟩
theorem mNm.keep (h : mNm I J 18 194 196 nj nc N nm no) (h1 : ∀ x k, (x = 185 ∧ k = 18) ∨ x = 196 → I' x k = I x k) : mNm I' J 18 194 196 nj nc N nm no := ⟨by rw [h1 _ _ (by omega)]; exact h.m, h.l, h.n, fun k hk => by rw [h1 _ _ (by omega)]; exact h.o k hk⟩
theorem avn_tld {f : Nat → Nat} {n bm : Nat} (hk : s.k ≤ nT T) : (tld T f n bm s).k ≤ nT T ∧ (iF (tld T f n bm) s).k ≤ nT T := by
  have key : (tld T f n bm s).k ≤ nT T := by
    unfold tld
    by_cases q : okN (kdO T s)
    · rw [if_pos q]
      have hlt : s.k < nT T := kdO_lt hk (fun z => by unfold okN okF at q; omega)
      by_cases q2 : fO f (tV T (pT T s.k)) n < n
      · rw [if_pos q2]
        by_cases q3 : bm.testBit (fO f (tV T (pT T s.k)) n) = true
        · rw [if_pos q3]; exact hk
        · rw [if_neg q3]; exact hlt
      · rw [if_neg q2]; exact hk
    · rw [if_neg q]; exact hk
  refine ⟨key, ?_⟩
  unfold iF
  by_cases q : s.F = 0
  · rw [if_pos q]; exact key
  · rw [if_neg q]; exact hk
/-- the first name -/
theorem m_first {wd : Nat} (vt : vTp T) (hj : nj ≤ 7) (hc : nc ≤ 7) (hv : vNm nj nc N) (hm : mNm I J 18 194 196 nj nc N nm no) (h : mPS I J T s) (hk : s.k ≤ nT T) (hF : s.F = 0) (hw : wd = 1 ∨ wd = 2 ∨ wd = 3) : ∃ I', mPS I' J T (tm1 T N nj nc wd s) ∧ (tm1 T N nj nc wd s).k ≤ nT T ∧ mFr I I' ∧ ∀ d R, kX xs (d + 3) 179 0 [some (.ref 185), some (.int 0), some (.int (if wd = 1 then nI 20 else 0)), some (.int 0), none] [] (kmm I J rf g) R = R (some (.int (if (tm1 T N nj nc wd s).F = 0 then nI (tm1v T N nj nc wd s) else 0))) (kmm I' J rf g) := by
  by_cases e : wd = 1
  · have e1 : tm1 T N nj nc wd s = tld T N.c nc 0 s := by unfold tm1; rw [if_neg (by omega), if_pos e]
    have e2 : tm1v T N nj nc wd s = fO N.c (tV T (pT T s.k)) nc := by unfold tm1v; rw [if_neg (by omega), if_pos e]
    rw [e1, e2, if_pos e]
    obtain ⟨I1, a1, a2, a4⟩ := m_179c (xs := xs) (rf := rf) (g := g) (bm := 0) vt (Nat.pow_pos (by decide)) hj hc hv hm h hk
    have ei : iF (tld T N.c nc 0) s = tld T N.c nc 0 s := if_pos hF
    rw [ei] at a1 a4
    exact ⟨I1, a1, (avn_tld hk).1, a2, a4⟩
  · have e1 : tm1 T N nj nc wd s = tld T N.j nj 0 s := by unfold tm1; rw [if_neg (by omega), if_neg e]
    have e2 : tm1v T N nj nc wd s = fO N.j (tV T (pT T s.k)) nj := by unfold tm1v; rw [if_neg (by omega), if_neg e]
    rw [e1, e2, if_neg e]
    obtain ⟨I1, a1, a2, a4⟩ := m_179j (xs := xs) (rf := rf) (g := g) (bm := 0) vt (Nat.pow_pos (by decide)) hj hc hv hm h hk
    have ei : iF (tld T N.j nj 0) s = tld T N.j nj 0 s := if_pos hF
    rw [ei] at a1 a4
    exact ⟨I1, a1, (avn_tld hk).1, a2, a4⟩
theorem tld_lt {f : Nat → Nat} {n bm : Nat} (hF : s.F = 0) (h : (tld T f n bm s).F = 0) : fO f (tV T (pT T s.k)) n < n := by
  refine Classical.byContradiction (fun q => ?_)
  have q' : ¬ (okN (kdO T s) ∧ fO f (tV T (pT T s.k)) n < n) := fun z => q z.2
  rw [tld_f q'] at h
  exact q' ((fdS_F hF).mp h)
/-- what stands behind the first name -/
theorem m_second {wd x : Nat} {u : aPS} (vt : vTp T) (hj : nj ≤ 7) (hc : nc ≤ 7) (hv : vNm nj nc N) (hm : mNm I J 18 194 196 nj nc N nm no) (h : mPS I J T u) (hk : u.k ≤ nT T) (hx : u.F = 0 → x < 7) :
    (∃ I', mPS I' J T (iF (tm2 T N nj 3 x) u) ∧ mFr I I' ∧ ∀ d R, kX xs (d + 3) 179 0 [some (.ref 185), some (.int 0), some (.int 0), some (.int (nI (2 ^ (if u.F = 0 then x else 0)))), none] [] (kmm I J rf g) R = R (some (.int (if (iF (tm2 T N nj 3 x) u).F = 0 then nI (tm2v T N nj 3 u) else 0))) (kmm I' J rf g)) ∧
    (∃ I', mPS I' J T (iF (tm2 T N nj 1 x) u) ∧ mFr I I' ∧ ∀ d R, kX xs (d + 1) 173 0 [some (.ref 185), some (.int 0), some (.int 3)] [] (kmm I J rf g) R = R (some (.int (if (iF (tm2 T N nj 1 x) u).F = 0 then nI (tm2v T N nj 1 u) else 0))) (kmm I' J rf g)) ∧
    (∃ I', mPS I' J T (iF (tm2 T N nj 2 x) u) ∧ mFr I I' ∧ ∀ d R, kX xs (d + 1) 173 0 [some (.ref 185), some (.int 0), some (.int (nI 20))] [] (kmm I J rf g) R = R (some (.int (if (iF (tm2 T N nj 2 x) u).F = 0 then nI (tm2v T N nj 2 u) else 0))) (kmm I' J rf g)) := by
  refine ⟨?_, ?_, ?_⟩
  · have hb : 2 ^ (if u.F = 0 then x else 0) < 2 ^ 31 := by
      refine Nat.pow_lt_pow_right (by decide) ?_
      by_cases q : u.F = 0
      · rw [if_pos q]; have := hx q; omega
      · rw [if_neg q]; omega
    obtain ⟨I1, a1, a2, a4⟩ := m_179j (xs := xs) (rf := rf) (g := g) (bm := 2 ^ (if u.F = 0 then x else 0)) vt hb hj hc hv hm h hk
    have e : iF (tld T N.j nj (2 ^ (if u.F = 0 then x else 0))) u = iF (tm2 T N nj 3 x) u := by
      unfold iF
      by_cases q : u.F = 0
      · rw [if_pos q, if_pos q, if_pos q]; rfl
      · rw [if_neg q, if_neg q]
    rw [e] at a1 a4
    exact ⟨I1, a1, a2, a4⟩
  · obtain ⟨I1, a1, a2, a4⟩ := m_173 (xs := xs) (rf := rf) (g := g) (m := 3) vt (by omega) h hk
    exact ⟨I1, a1, a2, a4⟩
  · obtain ⟨I1, a1, a2, a4⟩ := m_173 (xs := xs) (rf := rf) (g := g) (m := 20) vt (by omega) h hk
    exact ⟨I1, a1, a2, a4⟩
end ML
