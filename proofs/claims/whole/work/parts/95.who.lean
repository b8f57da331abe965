/-! who is named: both lists agree -/
theorem nAt_j {nj nc v : Nat} {N : aNm} (h7 : nj ≤ 7) (hc : nc ≤ 7) : (fO N.j v nj < nj → nAt nj nc N v - 0 = nI (fO N.j v nj)) ∧ (¬ fO N.j v nj < nj → nAt nj nc N v - 0 < 0 ∨ 6 < nAt nj nc N v - 0) := by
  rw [Int32.sub_zero]
  unfold nAt
  refine ⟨fun q => by rw [if_pos q], fun q => ?_⟩
  rw [if_neg q]
  by_cases q2 : fO N.c v nc < nc
  · rw [if_pos q2]
    exact Or.inr (show nI 6 < nI (20 + fO N.c v nc) from nI_lt (by omega) (by omega))
  · rw [if_neg q2]
    exact Or.inl (by decide)
theorem nAt_c {nj nc v : Nat} {N : aNm} (h7 : nj ≤ 7) (hc : nc ≤ 7) (hv : vNm nj nc N) : (fO N.c v nc < nc → nAt nj nc N v - nI 20 = nI (fO N.c v nc)) ∧ (¬ fO N.c v nc < nc → nAt nj nc N v - nI 20 < 0 ∨ 6 < nAt nj nc N v - nI 20) := by
  unfold nAt
  refine ⟨fun q => ?_, fun q => ?_⟩
  · have e := (fO_ok N.c v nc).2.2 q
    have en : fO N.j v nj = nj := fO_no (fun i hi y => hv.dj i _ hi q (by rw [y, e]))
    rw [en, if_neg (Nat.lt_irrefl _), if_pos q, nI_sb (by omega), show 20 + fO N.c v nc - 20 = fO N.c v nc by omega]
  · by_cases q2 : fO N.j v nj < nj
    · rw [if_pos q2]
      have key : ∀ k : Fin 7, nI k.val - nI 20 < 0 := by decide
      exact Or.inl (key ⟨fO N.j v nj, by omega⟩)
    · rw [if_neg q2, if_neg q]
      exact Or.inl (by decide)
section WH
variable {xs : List Int32} {d : Nat} {I I' I2 : Nat → Nat → Int32} {J J' : Nat → Nat → Int64} {rf : Nat → Nat} {g : Nat} {R : Option Value → KW → Prop} {w : KW} {T : aTp} {s : aPS} {nj nc : Nat} {N : aNm} {nm no : Nat → Nat}
theorem lNm.v (hv : vNm nj nc N) (h : lNm (nj + nc) nj nc N nm no) {k : Nat} (hk : k < nj + nc) : vWd (nm k) := by
  rcases h.s k hk with z | z
  · rw [z.2]; exact hv.vj _ z.1
  · rw [z.2.2]; exact hv.vc _ z.2.1
theorem atR (vt : vTp T) (hj : nj ≤ 7) (hc : nc ≤ 7) (hv : vNm nj nc N) (hm : mNm I J 19 195 197 nj nc N nm no) (h : mPS I J T s) (hk : s.k ≤ nT T) (q : okN (kdO T s)) : ∀ d R, kX xs d 178 0 [some (.ref 185), some (.int 1), none] [] (kmm I J rf g) R = R (some (.int (nAt nj nc N (tV T (pT T s.k))))) (kmm I J rf g) := by
  intro d R
  have hlt : s.k < nT T := kdO_lt hk (fun z => by unfold okN okF at q; omega)
  have es : srt (tK T (pT T s.k)) = 1 := by
    have z := okN_w q
    unfold srt
    rw [if_neg (by omega), if_neg (by omega), if_neg (by omega), if_pos z]
  rw [sp178r vt h hlt rfl (tk1 es).2.a hm.m (by omega) (fun k hk => ⟨hm.n k hk, (hm.l.v hv hk).a⟩) hm.o, nAt_l hj hv hm.l]
theorem atN (vt : vTp T) (hj : nj ≤ 7) (hc : nc ≤ 7) (hv : vNm nj nc N) (hm : mNm I J 18 194 196 nj nc N nm no) (h : mPS I J T s) (hk : s.k ≤ nT T) (q : okN (kdO T s)) : ∀ d R, kX xs d 178 0 [some (.ref 185), some (.int 0), none] [] (kmm I J rf g) R = R (some (.int (nAt nj nc N (tV T (pT T s.k))))) (kmm I J rf g) := by
  intro d R
  have hlt : s.k < nT T := kdO_lt hk (fun z => by unfold okN okF at q; omega)
  have es : srt (tK T (pT T s.k)) = 1 := by
    have z := okN_w q
    unfold srt
    rw [if_neg (by omega), if_neg (by omega), if_neg (by omega), if_pos z]
  rw [sp178n vt h hlt rfl (tk1 es).2.a hm.m (by omega) (fun k hk => ⟨hm.n k hk, (hm.l.v hv hk).a⟩) hm.o, nAt_l hj hv hm.l]
/-- a judge of those being read -/
theorem m_179r {bm : Nat} (vt : vTp T) (hb : bm < 2 ^ 31) (hj : nj ≤ 7) (hc : nc ≤ 7) (hv : vNm nj nc N) (hm : mNm I J 19 195 197 nj nc N nm no) (h : mPS I J T s) (hk : s.k ≤ nT T) : ∃ I', mPS I' J T (iF (tld T N.j nj bm) s) ∧ mFr I I' ∧ ∀ d R, kX xs (d + 3) 179 0 [some (.ref 185), some (.int 1), some (.int 0), some (.int (nI bm)), none] [] (kmm I J rf g) R = R (some (.int (if (iF (tld T N.j nj bm) s).F = 0 then nI (fO N.j (tV T (pT T s.k)) nj) else 0))) (kmm I' J rf g) :=
  m_179 vt hj hb h hk (fun _ q => ⟨_, atR vt hj hc hv hm h hk q, (nAt_j hj hc).1, (nAt_j hj hc).2⟩)
/-- a judge of those told -/
theorem m_179j {bm : Nat} (vt : vTp T) (hb : bm < 2 ^ 31) (hj : nj ≤ 7) (hc : nc ≤ 7) (hv : vNm nj nc N) (hm : mNm I J 18 194 196 nj nc N nm no) (h : mPS I J T s) (hk : s.k ≤ nT T) : ∃ I', mPS I' J T (iF (tld T N.j nj bm) s) ∧ mFr I I' ∧ ∀ d R, kX xs (d + 3) 179 0 [some (.ref 185), some (.int 0), some (.int 0), some (.int (nI bm)), none] [] (kmm I J rf g) R = R (some (.int (if (iF (tld T N.j nj bm) s).F = 0 then nI (fO N.j (tV T (pT T s.k)) nj) else 0))) (kmm I' J rf g) :=
  m_179 vt hj hb h hk (fun _ q => ⟨_, atN vt hj hc hv hm h hk q, (nAt_j hj hc).1, (nAt_j hj hc).2⟩)
/-- a case of those told -/
theorem m_179c {bm : Nat} (vt : vTp T) (hb : bm < 2 ^ 31) (hj : nj ≤ 7) (hc : nc ≤ 7) (hv : vNm nj nc N) (hm : mNm I J 18 194 196 nj nc N nm no) (h : mPS I J T s) (hk : s.k ≤ nT T) : ∃ I', mPS I' J T (iF (tld T N.c nc bm) s) ∧ mFr I I' ∧ ∀ d R, kX xs (d + 3) 179 0 [some (.ref 185), some (.int 0), some (.int (nI 20)), some (.int (nI bm)), none] [] (kmm I J rf g) R = R (some (.int (if (iF (tld T N.c nc bm) s).F = 0 then nI (fO N.c (tV T (pT T s.k)) nc) else 0))) (kmm I' J rf g) :=
  m_179 vt hc hb h hk (fun _ q => ⟨_, atN vt hj hc hv hm h hk q, (nAt_c hj hc hv).1, (nAt_c hj hc hv).2⟩)
end WH
