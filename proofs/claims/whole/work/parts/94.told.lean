/-! one told, by name: the model -/
section TO
variable {xs : List Int32} {d : Nat} {I I' I2 : Nat → Nat → Int32} {J J' : Nat → Nat → Int64} {rf : Nat → Nat} {g : Nat} {R : Option Value → KW → Prop} {w : KW} {T : aTp} {s : aPS} {a : Nat}
/-- within -/
theorem sp171w {x lo hi : Int32} : kX xs d 171 0 [some (.int x), some (.int lo), some (.int hi)] [] w R = R (some (.int (if x < lo then 0 else if hi < x then 0 else 1))) w := by
  rw [B171_0]
  by_cases q : x < lo
  · rw [if_pos q, if_pos q, B171_14, B171_15, if_pos nar0]
  · rw [if_neg q, if_neg q, B171_5]
    by_cases q2 : hi < x
    · rw [if_pos q2, if_pos q2, B171_14, B171_15, if_pos nar0]
    · rw [if_neg q2, if_neg q2, B171_10, B171_15, if_pos nar1]
/-- where a fault stands: the end of takeTold -/
theorem t87 (h : mPS I J T s) (hF : ¬ s.F = 0) (x : Int32) : kX xs d 179 87 [some (.ref 185), none, none, none, some (.int x)] [] (kmm I J rf g) R = R (some (.int 0)) (kmm I J rf g) := by
  have ek := h.k
  rw [B179_87, kg12_7, kO_s, ek, kg12_8, kO_s, if_pos ((mFp h).mpr hF), B179_99, B179_104, Int32.add_zero, kp12_7, kO_s, ku_id ek, kg12_8, kO_s, if_pos ((mFp h).mpr hF), B179_115, B179_121]
theorem t19 (h : mPS I J T s) (hF : ¬ s.F = 0) (rd fr bt : Int32) : kX xs d 179 19 [some (.ref 185), some (.int rd), some (.int fr), some (.int bt), none] [] (kmm I J rf g) R = R (some (.int 0)) (kmm I J rf g) := by
  rw [B179_19, kg12_8, kO_s, if_pos ((mFp h).mpr hF), B179_26, B179_37, kg12_8, kO_s, if_neg (fun z => hF ((mF0 h).mp z)), B179_65, kg12_8, kO_s, if_neg (fun z => hF ((mF0 h).mp z)), t87 h hF]
/-- takeTold -/
theorem m_179 {f : Nat → Nat} {n bm : Nat} {rd fr : Int32} (v : vTp T) (hn7 : n ≤ 7) (hb : bm < 2 ^ 31) (h : mPS I J T s) (hk : s.k ≤ nT T)
    (hx : s.F = 0 → okN (kdO T s) → ∃ x : Int32, (∀ d R, kX xs d 178 0 [some (.ref 185), some (.int rd), none] [] (kmm I J rf g) R = R (some (.int x)) (kmm I J rf g)) ∧ (fO f (tV T (pT T s.k)) n < n → x - fr = nI (fO f (tV T (pT T s.k)) n)) ∧ (¬ fO f (tV T (pT T s.k)) n < n → x - fr < 0 ∨ 6 < x - fr)) :
    ∃ I', mPS I' J T (iF (tld T f n bm) s) ∧ mFr I I' ∧ ∀ d R, kX xs (d + 3) 179 0 [some (.ref 185), some (.int rd), some (.int fr), some (.int (nI bm)), none] [] (kmm I J rf g) R = R (some (.int (if (iF (tld T f n bm) s).F = 0 then nI (fO f (tV T (pT T s.k)) n) else 0))) (kmm I' J rf g) := by
  have ek := h.k
  unfold iF
  by_cases q : s.F = 0
  · rw [if_pos q]
    unfold tld
    by_cases q1 : okN (kdO T s)
    · rw [if_pos q1]
      obtain ⟨x, x1, x2, x3⟩ := hx q q1
      have ent : ∀ d R, kX xs (d + 3) 179 0 [some (.ref 185), some (.int rd), some (.int fr), some (.int (nI bm)), none] [] (kmm I J rf g) R = if (if x - fr < 0 then (0 : Int32) else if 6 < x - fr then 0 else 1) = 0 then kX xs (d + 3) 179 57 [some (.ref 185), none, none, some (.int (nI bm)), some (.int (x - fr))] [] (kmm I J rf g) R else kX xs (d + 3) 179 65 [some (.ref 185), none, none, some (.int (nI bm)), some (.int (x - fr))] [] (kmm I J rf g) R := by
        intro d R
        have e6 : (6 : Int32) = nI 6 := rfl
        rw [B179_0, kg12_8, kO_s, if_pos ((mF0 h).mpr q), B179_7, krecv_m ks185, kcond_t, sp177 v h hk, kpush_s, B179_11, if_neg (by rw [decide_eq_true ⟨q, q1⟩]; decide), B179_19, kg12_8, kO_s, if_neg (fun z => ((mFp h).mp z) q), B179_30, krecv_m ks185, kcond_t, x1, kpush_s, B179_35, B179_37, kg12_8, kO_s, if_pos ((mF0 h).mpr q), B179_46, sp171w, kpush_s, B179_54, c8_6, ← e6]
      by_cases q2 : fO f (tV T (pT T s.k)) n < n
      · rw [if_pos q2]
        have ex := x2 q2
        have hlt : s.k < nT T := kdO_lt hk (fun z => by unfold okN okF at q1; omega)
        have e65 : ∀ d R, kX xs (d + 3) 179 0 [some (.ref 185), some (.int rd), some (.int fr), some (.int (nI bm)), none] [] (kmm I J rf g) R = kX xs (d + 3) 179 72 [some (.ref 185), none, none, some (.int (nI bm)), some (.int (nI (fO f (tV T (pT T s.k)) n)))] [] (kmm I J rf g) R := by
          intro d R
          rw [ent, ex, if_neg (c := nI (fO f (tV T (pT T s.k)) n) < 0) (nI_nn (by omega)), if_neg (c := 6 < nI (fO f (tV T (pT T s.k)) n)) (show ¬ nI 6 < nI (fO f (tV T (pT T s.k)) n) from nI_nlt (by omega) (by omega)), if_neg (by decide), B179_65, kg12_8, kO_s, if_pos ((mF0 h).mpr q)]
        have tb := nI_tb (a := bm) (k := fO f (tV T (pT T s.k)) n) hb (by omega)
        by_cases q3 : bm.testBit (fO f (tV T (pT T s.k)) n) = true
        · rw [if_pos q3]
          obtain ⟨I1, a1, a2, a4⟩ := m_wrg (xs := xs) (rf := rf) (g := g) (c := 3) v (by omega) (by omega) h hk
          have a4' : ∀ d R, kX xs d 164 0 [some (.ref 185), some (.int 3)] [] (kmm I J rf g) R = R none (kmm I1 J rf g) := a4
          have wF := wrgF (T := T) (c := 3) (by omega) q
          refine ⟨I1, a1, a2, fun d R => ?_⟩
          rw [if_neg wF, e65, B179_72, if_pos (by rw [tb, q3]; rfl), B179_82, krecv_m ks185, kcond_t, a4', kpush_n, t87 a1 wF]
        · rw [if_neg q3]
          obtain ⟨a1, a2⟩ := m_stp h
          have qs : (stp s).F = 0 := q
          refine ⟨_, a1, a2, fun d R => ?_⟩
          rw [if_pos qs, e65, B179_72, if_neg (by rw [tb, bfalse q3]; decide), B179_87, kg12_7, kO_s, ek, kg12_8, kO_s, if_neg (fun z => ((mFp h).mp z) q), B179_103, B179_104, nI_add1, kp12_7, kO_s, kg12_8, kO_s, if_neg (fun z => ((mFp a1).mp z) qs), B179_119, B179_121]
      · rw [if_neg q2]
        obtain ⟨I1, a1, a2, a4⟩ := m_wrg (xs := xs) (rf := rf) (g := g) (c := 2) v (by omega) (by omega) h hk
        have a4' : ∀ d R, kX xs d 164 0 [some (.ref 185), some (.int 2)] [] (kmm I J rf g) R = R none (kmm I1 J rf g) := a4
        have wF := wrgF (T := T) (c := 2) (by omega) q
        refine ⟨I1, a1, a2, fun d R => ?_⟩
        have ez : (if x - fr < 0 then (0 : Int32) else if 6 < x - fr then 0 else 1) = 0 := by
          by_cases z : x - fr < 0
          · rw [if_pos z]
          · rw [if_neg z, if_pos ((x3 q2).resolve_left z)]
        rw [if_neg wF, ent, if_pos ez, B179_57, krecv_m ks185, kcond_t, a4', kpush_n, B179_62, t87 a1 wF]
    · rw [if_neg q1]
      obtain ⟨I1, a1, a2, a4⟩ := m_wrg (xs := xs) (rf := rf) (g := g) (c := 1) v (by omega) (by omega) h hk
      have a4' : ∀ d R, kX xs d 164 0 [some (.ref 185), some (.int 1)] [] (kmm I J rf g) R = R none (kmm I1 J rf g) := a4
      have wF := wrgF (T := T) (c := 1) (by omega) q
      refine ⟨I1, a1, a2, fun d R => ?_⟩
      rw [if_neg wF, B179_0, kg12_8, kO_s, if_pos ((mF0 h).mpr q), B179_7, krecv_m ks185, kcond_t, sp177 v h hk, kpush_s, B179_11, if_pos (by rw [decide_eq_false (fun z => q1 z.2)]; rfl), B179_14, krecv_m ks185, kcond_t, a4', kpush_n, t19 a1 wF]
  · rw [if_neg q]
    refine ⟨I, h, mFr.refl, fun d R => ?_⟩
    rw [if_neg q, B179_0, kg12_8, kO_s, if_neg (fun z => q ((mF0 h).mp z)), t19 h q]
end TO
/-- the model's names, told or being read -/
abbrev mNm (I : Nat → Nat → Int32) (J : Nat → Nat → Int64) (fl na nb nj nc : Nat) (N : aNm) (nm no : Nat → Nat) : Prop := (I 185 fl = nI (nj + nc)) ∧ (lNm (nj + nc) nj nc N nm no) ∧ (∀ k, k < nj + nc → J na k = nJ (nm k)) ∧ (∀ k, k < nj + nc → I nb k = nI (no k))
theorem mNm.m {I : Nat → Nat → Int32} {J : Nat → Nat → Int64} {fl na nb nj nc : Nat} {N : aNm} {nm no : Nat → Nat} (h : mNm I J fl na nb nj nc N nm no) : I 185 fl = nI (nj + nc) := h.1
theorem mNm.l {I : Nat → Nat → Int32} {J : Nat → Nat → Int64} {fl na nb nj nc : Nat} {N : aNm} {nm no : Nat → Nat} (h : mNm I J fl na nb nj nc N nm no) : lNm (nj + nc) nj nc N nm no := h.2.1
theorem mNm.n {I : Nat → Nat → Int32} {J : Nat → Nat → Int64} {fl na nb nj nc : Nat} {N : aNm} {nm no : Nat → Nat} (h : mNm I J fl na nb nj nc N nm no) : ∀ k, k < nj + nc → J na k = nJ (nm k) := h.2.2.1
theorem mNm.o {I : Nat → Nat → Int32} {J : Nat → Nat → Int64} {fl na nb nj nc : Nat} {N : aNm} {nm no : Nat → Nat} (h : mNm I J fl na nb nj nc N nm no) : ∀ k, k < nj + nc → I nb k = nI (no k) := h.2.2.2
