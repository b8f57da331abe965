/-! the class reads the law -/
theorem wIx_le {v : Nat} : ∀ ws i, wIx v ws i ≤ 128 + i + ws.length := by
  intro ws
  induction ws with
  | nil => intro i; show 3 ≤ _; omega
  | cons u ws ih =>
    intro i
    rw [wIx]
    have := ih (i + 1)
    by_cases h : u = v
    · rw [if_pos h]; omega
    · rw [if_neg h, List.length_cons]; omega
theorem tK_le {T : aTp} (v : vTp T) (p : Nat) : tK T p ≤ 150 := by
  unfold tK
  by_cases h0 : p < T.n
  · rw [if_pos h0]
    have hc := v.chr h0
    have hw : wKd (tV T p) ≤ 128 + 0 + 22 := wIx_le wrd37 0
    repeat' split
    all_goals omega
  · rw [if_neg h0]; omega
abbrev cPS (I : Nat → Nat → Int32) (J : Nat → Nat → Int64) (T : aTp) (a : Nat) (s : aPS) : Prop := (cTk I J T (pT T s.k)) ∧ (cTp I T) ∧ (I 1 7 = nI s.F) ∧ (I a 0 = nI s.ll) ∧ (∀ n, n < s.ll → I (a + 1) n = enc (s.lo n) (s.la n))
theorem cPS.tk {I : Nat → Nat → Int32} {J : Nat → Nat → Int64} {T : aTp} {a : Nat} {s : aPS} (h : cPS I J T a s) : cTk I J T (pT T s.k) := h.1
theorem cPS.tp {I : Nat → Nat → Int32} {J : Nat → Nat → Int64} {T : aTp} {a : Nat} {s : aPS} (h : cPS I J T a s) : cTp I T := h.2.1
theorem cPS.f {I : Nat → Nat → Int32} {J : Nat → Nat → Int64} {T : aTp} {a : Nat} {s : aPS} (h : cPS I J T a s) : I 1 7 = nI s.F := h.2.2.1
theorem cPS.l {I : Nat → Nat → Int32} {J : Nat → Nat → Int64} {T : aTp} {a : Nat} {s : aPS} (h : cPS I J T a s) : I a 0 = nI s.ll := h.2.2.2.1
theorem cPS.c {I : Nat → Nat → Int32} {J : Nat → Nat → Int64} {T : aTp} {a : Nat} {s : aPS} (h : cPS I J T a s) : ∀ n, n < s.ll → I (a + 1) n = enc (s.lo n) (s.la n) := h.2.2.2.2
abbrev cFr (a : Nat) (I I' : Nat → Nat → Int32) : Prop := ∀ x k, ¬ (x = 1 ∧ 2 ≤ k ∧ k ≤ 7) → x ≠ a → x ≠ a + 1 → I' x k = I x k
abbrev jFr (J J' : Nat → Nat → Int64) : Prop := ∀ x k, ¬ (x = 1 ∧ k = 6) → J' x k = J x k
def bz (s : aPS) : Int32 := nI (bN (decide (s.F = 0)))
theorem bz_1 {s : aPS} (h : s.F = 0) : bz s = 1 := by unfold bz; rw [decide_eq_true h]; rfl
theorem bz_0 {s : aPS} (h : ¬ s.F = 0) : bz s = 0 := by unfold bz; rw [decide_eq_false h]; rfl
theorem bz_nar (s : aPS) : narrow .boolean (.int (bz s)) = .int (bz s) := by
  by_cases h : s.F = 0
  · rw [bz_1 h]; decide
  · rw [bz_0 h]; decide
theorem bNd_nar (p : Prop) [Decidable p] : narrow .boolean (.int (nI (bN (decide p)))) = .int (nI (bN (decide p))) := by
  by_cases h : p
  · rw [decide_eq_true h]; decide
  · rw [decide_eq_false h]; decide
abbrev cOne (xs : List Int32) (T : aTp) (a : Nat) (rf : Nat → Nat) (g m : Nat) (ls : List (Option Value)) (h : Nat) (fn : aPS → aPS) : Prop := ∀ I J s, cPS I J T a s → s.k ≤ nT T → s.ll ≤ s.k → s.F = 0 → ∃ I' J', cPS I' J' T a (fn s) ∧ cFr a I I' ∧ jFr J J' ∧ ∀ d R, kX xs (d + h) m 0 ls [] (kmm I J rf g) R = R (some (.int (bz (fn s)))) (kmm I' J' rf g)
section LR
variable {xs : List Int32} {d : Nat} {I I' I2 : Nat → Nat → Int32} {J J' J2 : Nat → Nat → Int64} {rf : Nat → Nat} {g : Nat} {R : Option Value → KW → Prop} {w : KW} {T : aTp} {a m h : Nat} {s : aPS} {one : aPS → aPS}
theorem cFr.refl : cFr a I I := fun _ _ _ _ _ => rfl
theorem jFr.refl : jFr J J := fun _ _ _ => rfl
theorem cFr.trans (h1 : cFr a I I') (h2 : cFr a I' I2) : cFr a I I2 := fun x k p q r => by rw [h2 x k p q r, h1 x k p q r]
theorem jFr.trans (h1 : jFr J J') (h2 : jFr J' J2) : jFr J J2 := fun x k p => by rw [h2 x k p, h1 x k p]
/-- a step -/
theorem c_stp (v : vTp T) (ha : 3 ≤ a) (h : cPS I J T a s) : ∃ I' J', cPS I' J' T a (stp s) ∧ cFr a I I' ∧ jFr J J' ∧ ∀ d R, kX xs (d + 4) 18 0 [some (.ref 1)] [] (kmm I J rf g) R = R none (kmm I' J' rf g) := by
  obtain ⟨I1, J1, t1, f1, j1, e1⟩ := sp18 (xs := xs) (J := J) (rf := rf) (g := g) h.tp v (tE_le (pT_le (T := T) s.k)).2.1 h.tk.e
  refine ⟨I1, J1, ⟨t1, ⟨by rw [f1 _ _ (by omega), h.tp.n], fun k hk => by rw [f1 _ _ (by omega), h.tp.t k hk]⟩, by rw [f1 _ _ (by omega)]; exact h.f, by rw [f1 _ _ (by omega)]; exact h.l, fun n hn => by rw [f1 _ _ (by omega)]; exact h.c n hn⟩, fun x k p _ _ => f1 x k (by omega), j1, e1⟩
/-- Lexer.wrong -/
theorem c_wrg {c : Nat} (ha : 3 ≤ a) (h : cPS I J T a s) (hF : s.F = 0) : ∃ I', cPS I' J T a (wrg T c s) ∧ cFr a I I' ∧ ∀ d R, kX xs d 17 0 [some (.ref 1), some (.int (nI c))] [] (kmm I J rf g) R = R (some (.int 0)) (kmm I' J rf g) := by
  refine ⟨ku I 1 7 (nI (c + 16 * pT T s.k)), ⟨⟨?_, ?_, ?_, fun q => ?_, h.tk.w⟩, ⟨?_, fun k hk => ?_⟩, ?_, ?_, fun n hn => ?_⟩, fun x k p _ _ => by rw [ku_ne (by omega)], fun d R => ?_⟩
  · rw [ku_nek (by omega)]; exact h.tk.e
  · rw [ku_nek (by omega)]; exact h.tk.k
  · rw [ku_nek (by omega)]; exact h.tk.p
  · rw [ku_nek (by omega)]; exact h.tk.n q
  · rw [ku_nek (by omega)]; exact h.tp.n
  · rw [ku_nea (by omega)]; exact h.tp.t k hk
  · rw [ku_same]
    show _ = nI (if s.F = 0 then c + 16 * pT T s.k else s.F)
    rw [if_pos hF]
  · rw [ku_nea (by omega)]; exact h.l
  · rw [ku_nea (by omega)]; exact h.c n hn
  · rw [B17_0, kg2_4, kO_s, h.tk.p, c8_16, nI_ml, nI_add, kp2_7, kO_s, if_pos nar0]
theorem wrgF {c : Nat} (hc : 0 < c) (hF : s.F = 0) : ¬ (wrg T c s).F = 0 := by
  show ¬ (if s.F = 0 then c + 16 * pT T s.k else s.F) = 0
  rw [if_pos hF]; omega
/-- Law.add -/
theorem c_emi {o x : Nat} (hk : kshp a = some (.inl 0)) (ha : 3 ≤ a) (h : cPS I J T a s) (hl : s.ll < 1000) : ∃ I', cPS I' J T a (emi o x s) ∧ cFr a I I' ∧ ∀ d R, kX xs d 1 0 [some (.ref a), some (.int (enc o x))] [] (kmm I J rf g) R = R none (kmm I' J rf g) := by
  have el := h.l
  have e1000 : Int32.ofNat 1000 = nI 1000 := rfl
  refine ⟨ku (ku I (a + 1) s.ll (enc o x)) a 0 (nI (s.ll + 1)), ⟨⟨?_, ?_, ?_, fun q => ?_, h.tk.w⟩, ⟨?_, fun k hk => ?_⟩, ?_, ?_, fun n hn => ?_⟩, fun x k p q r => by rw [ku_nea q, ku_nea r], fun d R => ?_⟩
  · rw [ku_nea (by omega), ku_nea (by omega)]; exact h.tk.e
  · rw [ku_nea (by omega), ku_nea (by omega)]; exact h.tk.k
  · rw [ku_nea (by omega), ku_nea (by omega)]; exact h.tk.p
  · rw [ku_nea (by omega), ku_nea (by omega)]; exact h.tk.n q
  · rw [ku_nea (by omega), ku_nea (by omega)]; exact h.tp.n
  · rw [ku_nea (by omega), ku_nea (by omega)]; exact h.tp.t k hk
  · rw [ku_nea (by omega), ku_nea (by omega)]; exact h.f
  · rw [ku_same]; rfl
  · have hn' : n < s.ll + 1 := hn
    rw [ku_nea (by omega)]
    show _ = enc (ku1 s.lo s.ll o n) (ku1 s.la s.ll x n)
    by_cases q : n = s.ll
    · rw [q, ku_same, ku1_s, ku1_s]
    · rw [ku_nek q, ku1_n q, ku1_n q]; exact h.c n (by omega)
  · rw [B1_0, kg0_0 hk, kO_s, kg0_1 hk, kO_s, kl0_1 hk, kO_s, el, e1000, if_pos (nI_lt hl (by omega)), B1_12, kg0_1 hk, kO_s, kg0_0 hk, kO_s, el, kw0_1 hk hl, kO_s, kg0_0 hk, kO_s, ku_nea (show a ≠ a + 1 by omega), el, nI_add1, kp0_0 hk, kO_s, B1_32]
theorem c_kd (h : cPS I J T a s) : I 1 3 = nI (kdO T s) := h.tk.k
theorem kd_eq (v : vTp T) {c : Nat} (hc : c < 200) : (nI (kdO T s) = nI c) = (kdO T s = c) := nI_inj (by have := tK_le v (pT T s.k); unfold kdO; omega) (by omega)
/-- Lexer.take -/
theorem c_tak {c : Nat} (v : vTp T) (hc : c < 200) (h0 : 0 < c) (ha : 3 ≤ a) (h : cPS I J T a s) (hF : s.F = 0) : ∃ I' J', cPS I' J' T a (tak T c s) ∧ cFr a I I' ∧ jFr J J' ∧ ∀ d R, kX xs (d + 5) 16 0 [some (.ref 1), some (.int (nI c))] [] (kmm I J rf g) R = R (some (.int (bz (tak T c s)))) (kmm I' J' rf g) := by
  unfold tak
  rw [if_pos hF]
  have ek := c_kd h
  by_cases q : kdO T s = c
  · rw [if_pos q]
    obtain ⟨I1, J1, a1, a2, a3, a4⟩ := c_stp (xs := xs) (rf := rf) (g := g) v ha h
    refine ⟨I1, J1, a1, a2, a3, fun d R => ?_⟩
    rw [B16_0, kg2_3, kO_s, ek, if_pos ((kd_eq v hc).mpr q), B16_14, krecv_m ks1, kcond_t, a4, kpush_n, B16_18, if_pos nar1, bz_1 (s := stp s) hF]
  · rw [if_neg q]
    obtain ⟨I1, a1, a2, a4⟩ := c_wrg (xs := xs) (rf := rf) (g := g) (c := 1) ha h hF
    refine ⟨I1, J, a1, a2, jFr.refl, fun d R => ?_⟩
    have a4' : ∀ d R, kX xs d 17 0 [some (.ref 1), some (.int 1)] [] (kmm I J rf g) R = R (some (.int 0)) (kmm I1 J rf g) := a4
    rw [B16_0, kg2_3, kO_s, ek, if_neg (fun e => q ((kd_eq v hc).mp e)), B16_8, krecv_m ks1, kcond_t, a4', kpush_s, B16_13, if_pos nar0, bz_0 (wrgF (by omega) hF)]
theorem sp12e (v : vTp T) {x y : Nat} (hx : x < 200) (hy : y < 200) (h : cPS I J T a s) : kX xs d 12 0 [some (.ref 4), some (.int (nI x)), some (.int (nI y))] [] (kmm I J rf g) R = R (some (.int (nI (bN (decide (kdO T s = x ∨ kdO T s = y)))))) (kmm I J rf g) := by
  have ek := c_kd h
  rw [B12_0, kg1_0, kO_s, kg2_3, kO_s, ek]
  by_cases q : kdO T s = x
  · rw [if_pos ((kd_eq v hx).mpr q), B12_22, B12_27, if_pos nar1, decide_eq_true (Or.inl q)]; rfl
  · rw [if_neg (fun e => q ((kd_eq v hx).mp e)), B12_11, kg1_0, kO_s, kg2_3, kO_s, ek]
    by_cases q2 : kdO T s = y
    · rw [if_pos ((kd_eq v hy).mpr q2), B12_22, B12_27, if_pos nar1, decide_eq_true (Or.inr q2)]; rfl
    · rw [if_neg (fun e => q2 ((kd_eq v hy).mp e)), B12_26, B12_27, if_pos nar0, decide_eq_false (fun e => e.elim q q2)]; rfl
theorem avnL {s u : aPS} {c : Nat} (h : avn T c s u) (hl : s.ll ≤ s.k) : u.ll + c ≤ u.k := by have := h.b; omega
/-- readProduct -/
theorem c_10 (v : vTp T) (hk : kshp a = some (.inl 0)) (ha : 3 ≤ a) {dp : Int32} (hg : aGo T one) (H : cOne xs T a rf g 11 [some (.ref 4), some (.ref a), some (.int dp), none, none, none] (h + 4) one) : cOne xs T a rf g 10 [some (.ref 4), some (.ref a), some (.int dp), none, none] (h + 5) (prd T one) := by
  have hn := (nT_ok T).1
  have hn2 := v.n
  have L : ∀ f i I J s, i + f = 1000 → cPS I J T a s → s.k ≤ nT T → s.ll ≤ s.k → ∃ I' J', cPS I' J' T a (lop T oP one f s) ∧ cFr a I I' ∧ jFr J J' ∧ ∀ d R, kX xs (d + (h + 5)) 10 10 [some (.ref 4), some (.ref a), some (.int dp), some (.int (bz s)), some (.int (nI i))] [] (kmm I J rf g) R = R (some (.int (bz (lop T oP one f s)))) (kmm I' J' rf g) := by
    intro f
    induction f with
    | zero =>
      intro i I J s hi hs _ _
      refine ⟨I, J, hs, cFr.refl, jFr.refl, fun d R => ?_⟩
      rw [B10_10, c16_1000, if_neg (nI_nlt (by omega) (by omega)), B10_60, if_pos (bz_nar s)]
      rfl
    | succ f ih =>
      intro i I J s hi hs h1 h2
      have ek := c_kd hs
      rw [lop]
      by_cases q : s.F = 0
      · by_cases q2 : kdO T s = 42
        · have eo : oP (kdO T s) = 6 := by rw [q2]; rfl
          rw [if_pos ⟨q, by rw [eo]; omega⟩, eo]
          have hlt := kdO_lt h1 (by omega)
          have v1 := avn_stp hlt
          obtain ⟨I1, J1, a1, a2, a3, a4⟩ := c_stp (xs := xs) (rf := rf) (g := g) v ha hs
          obtain ⟨I2, J2, b1, b2, b3, b4⟩ := H I1 J1 (stp s) a1 v1.n (by have := avnL v1 h2; omega) q
          have v2 := v1.trans (hg (stp s) v1.n)
          have l2 := avnL v2 h2
          have n2 := v2.n
          obtain ⟨I3, c1, c2, c4⟩ := c_emi (xs := xs) (rf := rf) (g := g) (o := 6) (x := 0) hk ha b1 (by omega)
          have v3 := avn_emi (o := 6) (a := 0) (c := 0) v2
          have l3 := avnL v3 h2
          obtain ⟨I4, J4, d1, d2, d3, d4⟩ := ih (i + 1) I3 J2 _ (by omega) c1 v3.n l3
          refine ⟨I4, J4, d1, a2.trans (b2.trans (c2.trans d2)), a3.trans (b3.trans d3), fun d R => ?_⟩
          have c4' : ∀ d R, kX xs d 1 0 [some (.ref a), some (.int (-17))] [] (kmm I2 J2 rf g) R = R none (kmm I3 J2 rf g) := c4
          rw [← Nat.add_assoc, B10_10, c16_1000, if_pos (nI_lt (by omega) (by omega)), B10_18, bz_1 q, if_neg (by decide), B10_22, kg1_0, kO_s, kg2_3, kO_s, ek, c8_42, if_pos ((kd_eq v (by omega)).mpr q2), B10_34, kg1_0, kO_s, krecv_m ks1, kcond_t, a4, kpush_n, B10_41, krecv_m ks4, kcond_t, Nat.add_assoc d h 4, b4, kpush_s, B10_47, krecv_m hk, kcond_t, c8_m17, c4', kpush_n, B10_54, nI_add1]
          exact d4 d R
        · have eo : oP (kdO T s) = 0 := if_neg q2
          rw [if_neg (fun e => e.2 eo)]
          refine ⟨I, J, hs, cFr.refl, jFr.refl, fun d R => ?_⟩
          rw [B10_10, c16_1000, if_pos (nI_lt (by omega) (by omega)), B10_18, bz_1 q, if_neg (by decide), B10_22, kg1_0, kO_s, kg2_3, kO_s, ek, c8_42, if_neg (fun e => q2 ((kd_eq v (by omega)).mp e)), B10_60, if_pos (by decide)]
      · rw [if_neg (fun e => q e.1)]
        refine ⟨I, J, hs, cFr.refl, jFr.refl, fun d R => ?_⟩
        rw [B10_10, c16_1000, if_pos (nI_lt (by omega) (by omega)), B10_18, bz_0 q, if_pos rfl, B10_60, if_pos (by decide)]
  intro I J s hs h1 h2 hF
  obtain ⟨I1, J1, a1, a2, a3, a4⟩ := H I J s hs h1 h2 hF
  have v1 := hg s h1
  obtain ⟨I2, J2, b1, b2, b3, b4⟩ := L 1000 0 I1 J1 (one s) (by omega) a1 v1.n (avnL v1 h2)
  refine ⟨I2, J2, b1, a2.trans b2, a3.trans b3, fun d R => ?_⟩
  rw [← Nat.add_assoc, B10_0, krecv_m ks4, kcond_t, Nat.add_assoc d h 4, a4, kpush_s, B10_6]
  exact b4 d R
/-- readSum -/
theorem c_9 (v : vTp T) (hk : kshp a = some (.inl 0)) (ha : 3 ≤ a) {dp : Int32} (hg : aGo T one) (H : cOne xs T a rf g 10 [some (.ref 4), some (.ref a), some (.int dp), none, none] (h + 4) one) : cOne xs T a rf g 9 [some (.ref 4), some (.ref a), some (.int dp), none, none, none] (h + 5) (fun s => lop T oS one 1000 (one s)) := by
  have hn := (nT_ok T).1
  have hn2 := v.n
  have L : ∀ f i I J s, i + f = 1000 → cPS I J T a s → s.k ≤ nT T → s.ll ≤ s.k → ∃ I' J', cPS I' J' T a (lop T oS one f s) ∧ cFr a I I' ∧ jFr J J' ∧ ∀ d R, kX xs (d + (h + 5)) 9 10 [some (.ref 4), some (.ref a), some (.int dp), some (.int (bz s)), some (.int (nI i)), none] [] (kmm I J rf g) R = R (some (.int (bz (lop T oS one f s)))) (kmm I' J' rf g) := by
    intro f
    induction f with
    | zero =>
      intro i I J s hi hs _ _
      refine ⟨I, J, hs, cFr.refl, jFr.refl, fun d R => ?_⟩
      rw [B9_10, c16_1000, if_neg (nI_nlt (by omega) (by omega)), B9_80, if_pos (bz_nar s)]
      rfl
    | succ f ih =>
      intro i I J s hi hs h1 h2
      have ek := c_kd hs
      rw [lop]
      by_cases q : s.F = 0
      · by_cases q2 : kdO T s = 43 ∨ kdO T s = 45
        · have eo : oS (kdO T s) ≠ 0 := by rcases q2 with z | z <;> rw [z] <;> decide
          rw [if_pos ⟨q, eo⟩]
          have hlt := kdO_lt h1 (by omega)
          have v1 := avn_stp hlt
          obtain ⟨I1, J1, a1, a2, a3, a4⟩ := c_stp (xs := xs) (rf := rf) (g := g) v ha hs
          obtain ⟨I2, J2, b1, b2, b3, b4⟩ := H I1 J1 (stp s) a1 v1.n (by have := avnL v1 h2; omega) q
          have v2 := v1.trans (hg (stp s) v1.n)
          have l2 := avnL v2 h2
          have n2 := v2.n
          obtain ⟨I3, c1, c2, c4⟩ := c_emi (xs := xs) (rf := rf) (g := g) (o := oS (kdO T s)) (x := 0) hk ha b1 (by omega)
          have v3 := avn_emi (o := oS (kdO T s)) (a := 0) (c := 0) v2
          have l3 := avnL v3 h2
          obtain ⟨I4, J4, d1, d2, d3, d4⟩ := ih (i + 1) I3 J2 _ (by omega) c1 v3.n l3
          refine ⟨I4, J4, d1, a2.trans (b2.trans (c2.trans d2)), a3.trans (b3.trans d3), fun d R => ?_⟩
          have sel : ∀ d R, kX xs d 9 33 [some (.ref 4), some (.ref a), some (.int dp), some (.int 1), some (.int (nI i)), none] [] (kmm I J rf g) R = kX xs d 9 52 [some (.ref 4), some (.ref a), some (.int dp), none, some (.int (nI i)), none] [.int (enc (oS (kdO T s)) 0)] (kmm I J rf g) R := by
            intro d R
            rw [B9_33, kg1_0, kO_s, kg2_3, kO_s, ek, c8_43]
            by_cases z : kdO T s = 43
            · rw [if_pos ((kd_eq v (by omega)).mpr z), B9_45, z]; rfl
            · rw [if_neg (fun e => z ((kd_eq v (by omega)).mp e)), B9_50, q2.resolve_left z]; rfl
          rw [← Nat.add_assoc, B9_10, c16_1000, if_pos (nI_lt (by omega) (by omega)), B9_18, bz_1 q, if_neg (by decide), B9_22, krecv_m ks4, kcond_t, c8_43, c8_45, sp12e v (by omega) (by omega) hs, kpush_s, B9_30, if_neg (by rw [decide_eq_true q2]; decide), sel, B9_52, kg1_0, kO_s, krecv_m ks1, kcond_t, a4, kpush_n, B9_61, krecv_m ks4, kcond_t, Nat.add_assoc d h 4, b4, kpush_s, B9_67, krecv_m hk, kcond_t, c4, kpush_n, B9_74, nI_add1]
          exact d4 d R
        · have eo : oS (kdO T s) = 0 := by
            unfold oS
            rw [if_neg (fun e => q2 (Or.inl e)), if_neg (fun e => q2 (Or.inr e))]
          rw [if_neg (fun e => e.2 eo)]
          refine ⟨I, J, hs, cFr.refl, jFr.refl, fun d R => ?_⟩
          rw [← Nat.add_assoc, B9_10, c16_1000, if_pos (nI_lt (by omega) (by omega)), B9_18, bz_1 q, if_neg (by decide), B9_22, krecv_m ks4, kcond_t, c8_43, c8_45, sp12e v (by omega) (by omega) hs, kpush_s, B9_30, if_pos (by rw [decide_eq_false q2]; rfl), B9_80, if_pos (by decide)]
      · rw [if_neg (fun e => q e.1)]
        refine ⟨I, J, hs, cFr.refl, jFr.refl, fun d R => ?_⟩
        rw [B9_10, c16_1000, if_pos (nI_lt (by omega) (by omega)), B9_18, bz_0 q, if_pos rfl, B9_80, if_pos (by decide)]
  intro I J s hs h1 h2 hF
  obtain ⟨I1, J1, a1, a2, a3, a4⟩ := H I J s hs h1 h2 hF
  have v1 := hg s h1
  obtain ⟨I2, J2, b1, b2, b3, b4⟩ := L 1000 0 I1 J1 (one s) (by omega) a1 v1.n (avnL v1 h2)
  refine ⟨I2, J2, b1, a2.trans b2, a3.trans b3, fun d R => ?_⟩
  rw [← Nat.add_assoc, B9_0, krecv_m ks4, kcond_t, Nat.add_assoc d h 4, a4, kpush_s, B9_6]
  exact b4 d R
/-- readE -/
theorem c_7 (v : vTp T) (hk : kshp a = some (.inl 0)) (ha : 3 ≤ a) {dp : Int32} (hg : aGo T one) (H : cOne xs T a rf g 8 [some (.ref 4), some (.ref a), some (.int dp), none, none] (h + 4) one) : cOne xs T a rf g 7 [some (.ref 4), some (.ref a), some (.int dp), none, none, none] (h + 5) (fun s => lop T oW one 1000 (one s)) := by
  have hn := (nT_ok T).1
  have hn2 := v.n
  have L : ∀ f i I J s, i + f = 1000 → cPS I J T a s → s.k ≤ nT T → s.ll ≤ s.k → ∃ I' J', cPS I' J' T a (lop T oW one f s) ∧ cFr a I I' ∧ jFr J J' ∧ ∀ d R, kX xs (d + (h + 5)) 7 10 [some (.ref 4), some (.ref a), some (.int dp), some (.int (bz s)), some (.int (nI i)), none] [] (kmm I J rf g) R = R (some (.int (bz (lop T oW one f s)))) (kmm I' J' rf g) := by
    intro f
    induction f with
    | zero =>
      intro i I J s hi hs _ _
      refine ⟨I, J, hs, cFr.refl, jFr.refl, fun d R => ?_⟩
      rw [B7_10, c16_1000, if_neg (nI_nlt (by omega) (by omega)), B7_83, if_pos (bz_nar s)]
      rfl
    | succ f ih =>
      intro i I J s hi hs h1 h2
      have ek := c_kd hs
      rw [lop]
      by_cases q : s.F = 0
      · by_cases q2 : kdO T s = 144 ∨ kdO T s = 145
        · have eo : oW (kdO T s) ≠ 0 := by rcases q2 with z | z <;> rw [z] <;> decide
          rw [if_pos ⟨q, eo⟩]
          have hlt := kdO_lt h1 (by omega)
          have v1 := avn_stp hlt
          obtain ⟨I1, J1, a1, a2, a3, a4⟩ := c_stp (xs := xs) (rf := rf) (g := g) v ha hs
          obtain ⟨I2, J2, b1, b2, b3, b4⟩ := H I1 J1 (stp s) a1 v1.n (by have := avnL v1 h2; omega) q
          have v2 := v1.trans (hg (stp s) v1.n)
          have l2 := avnL v2 h2
          have n2 := v2.n
          obtain ⟨I3, c1, c2, c4⟩ := c_emi (xs := xs) (rf := rf) (g := g) (o := oW (kdO T s)) (x := 0) hk ha b1 (by omega)
          have v3 := avn_emi (o := oW (kdO T s)) (a := 0) (c := 0) v2
          have l3 := avnL v3 h2
          obtain ⟨I4, J4, d1, d2, d3, d4⟩ := ih (i + 1) I3 J2 _ (by omega) c1 v3.n l3
          refine ⟨I4, J4, d1, a2.trans (b2.trans (c2.trans d2)), a3.trans (b3.trans d3), fun d R => ?_⟩
          have sel : ∀ d R, kX xs d 7 35 [some (.ref 4), some (.ref a), some (.int dp), some (.int 1), some (.int (nI i)), none] [] (kmm I J rf g) R = kX xs d 7 55 [some (.ref 4), some (.ref a), some (.int dp), none, some (.int (nI i)), none] [.int (enc (oW (kdO T s)) 0)] (kmm I J rf g) R := by
            intro d R
            rw [B7_35, kg1_0, kO_s, kg2_3, kO_s, ek, c16_144]
            by_cases z : kdO T s = 144
            · rw [if_pos ((kd_eq v (by omega)).mpr z), B7_48, z]; rfl
            · rw [if_neg (fun e => z ((kd_eq v (by omega)).mp e)), B7_53, q2.resolve_left z]; rfl
          rw [← Nat.add_assoc, B7_10, c16_1000, if_pos (nI_lt (by omega) (by omega)), B7_18, bz_1 q, if_neg (by decide), B7_22, krecv_m ks4, kcond_t, c16_144, c16_145, sp12e v (by omega) (by omega) hs, kpush_s, B7_32, if_neg (by rw [decide_eq_true q2]; decide), sel, B7_55, kg1_0, kO_s, krecv_m ks1, kcond_t, a4, kpush_n, B7_64, krecv_m ks4, kcond_t, Nat.add_assoc d h 4, b4, kpush_s, B7_70, krecv_m hk, kcond_t, c4, kpush_n, B7_77, nI_add1]
          exact d4 d R
        · have eo : oW (kdO T s) = 0 := by
            unfold oW
            rw [if_neg (fun e => q2 (Or.inl e)), if_neg (fun e => q2 (Or.inr e))]
          rw [if_neg (fun e => e.2 eo)]
          refine ⟨I, J, hs, cFr.refl, jFr.refl, fun d R => ?_⟩
          rw [← Nat.add_assoc, B7_10, c16_1000, if_pos (nI_lt (by omega) (by omega)), B7_18, bz_1 q, if_neg (by decide), B7_22, krecv_m ks4, kcond_t, c16_144, c16_145, sp12e v (by omega) (by omega) hs, kpush_s, B7_32, if_pos (by rw [decide_eq_false q2]; rfl), B7_83, if_pos (by decide)]
      · rw [if_neg (fun e => q e.1)]
        refine ⟨I, J, hs, cFr.refl, jFr.refl, fun d R => ?_⟩
        rw [B7_10, c16_1000, if_pos (nI_lt (by omega) (by omega)), B7_18, bz_0 q, if_pos rfl, B7_83, if_pos (by decide)]
  intro I J s hs h1 h2 hF
  obtain ⟨I1, J1, a1, a2, a3, a4⟩ := H I J s hs h1 h2 hF
  have v1 := hg s h1
  obtain ⟨I2, J2, b1, b2, b3, b4⟩ := L 1000 0 I1 J1 (one s) (by omega) a1 v1.n (avnL v1 h2)
  refine ⟨I2, J2, b1, a2.trans b2, a3.trans b3, fun d R => ?_⟩
  rw [← Nat.add_assoc, B7_0, krecv_m ks4, kcond_t, Nat.add_assoc d h 4, a4, kpush_s, B7_6]
  exact b4 d R
/-- readTest -/
theorem c_8 (v : vTp T) (hk : kshp a = some (.inl 0)) (ha : 3 ≤ a) {dp : Int32} (hg : aGo T one) (H : cOne xs T a rf g 9 [some (.ref 4), some (.ref a), some (.int dp), none, none, none] (h + 4) one) : cOne xs T a rf g 8 [some (.ref 4), some (.ref a), some (.int dp), none, none] (h + 5) (fun s => lop T oT one 1 (one s)) := by
  have hn := (nT_ok T).1
  have hn2 := v.n
  intro I0 J0 s0 hs0 h10 h20 hF0
  obtain ⟨I, J, hs, f2, f3, f4⟩ := H I0 J0 s0 hs0 h10 h20 hF0
  have v0 := hg s0 h10
  have h1 := v0.n
  have h2 := avnL v0 h20
  dsimp only
  generalize one s0 = s at *
  have ek := c_kd hs
  rw [lop, lop]
  by_cases q : s.F = 0
  · by_cases q2 : kdO T s = 60 ∨ kdO T s = 61
    · have eo : oT (kdO T s) ≠ 0 := by rcases q2 with z | z <;> rw [z] <;> decide
      rw [if_pos ⟨q, eo⟩]
      have hlt := kdO_lt h1 (by omega)
      have v1 := avn_stp hlt
      obtain ⟨I1, J1, a1, a2, a3, a4⟩ := c_stp (xs := xs) (rf := rf) (g := g) v ha hs
      obtain ⟨I2, J2, b1, b2, b3, b4⟩ := H I1 J1 (stp s) a1 v1.n (by have := avnL v1 h2; omega) q
      have v2 := v1.trans (hg (stp s) v1.n)
      have l2 := avnL v2 h2
      have n2 := v2.n
      obtain ⟨I3, c1, c2, c4⟩ := c_emi (xs := xs) (rf := rf) (g := g) (o := oT (kdO T s)) (x := 0) hk ha b1 (by omega)
      refine ⟨I3, J2, c1, f2.trans (a2.trans (b2.trans c2)), f3.trans (a3.trans b3), fun d R => ?_⟩
      have sel : ∀ d R, kX xs d 8 22 [some (.ref 4), some (.ref a), some (.int dp), some (.int 1), none] [] (kmm I J rf g) R = kX xs d 8 41 [some (.ref 4), some (.ref a), some (.int dp), none, none] [.int (enc (oT (kdO T s)) 0)] (kmm I J rf g) R := by
        intro d R
        rw [B8_22, kg1_0, kO_s, kg2_3, kO_s, ek, c8_60]
        by_cases z : kdO T s = 60
        · rw [if_pos ((kd_eq v (by omega)).mpr z), B8_34, z]; rfl
        · rw [if_neg (fun e => z ((kd_eq v (by omega)).mp e)), B8_39, q2.resolve_left z]; rfl
      rw [← Nat.add_assoc, B8_0, krecv_m ks4, kcond_t, Nat.add_assoc d h 4, f4, kpush_s, B8_6, bz_1 q, if_neg (by decide), B8_11, krecv_m ks4, kcond_t, c8_60, c8_61, sp12e v (by omega) (by omega) hs, kpush_s, B8_19, if_neg (by rw [decide_eq_true q2]; decide), sel, B8_41, kg1_0, kO_s, krecv_m ks1, kcond_t, ← Nat.add_assoc d h 4, a4, kpush_n, B8_50, krecv_m ks4, kcond_t, Nat.add_assoc d h 4, b4, kpush_s, B8_56, krecv_m hk, kcond_t, c4, kpush_n, B8_63, if_pos (bz_nar _)]
      rfl
    · have eo : oT (kdO T s) = 0 := by
        unfold oT
        rw [if_neg (fun e => q2 (Or.inl e)), if_neg (fun e => q2 (Or.inr e))]
      rw [if_neg (fun e => e.2 eo)]
      refine ⟨I, J, hs, f2, f3, fun d R => ?_⟩
      rw [← Nat.add_assoc, B8_0, krecv_m ks4, kcond_t, Nat.add_assoc d h 4, f4, kpush_s, B8_6, bz_1 q, if_neg (by decide), B8_11, krecv_m ks4, kcond_t, c8_60, c8_61, sp12e v (by omega) (by omega) hs, kpush_s, B8_19, if_pos (by rw [decide_eq_false q2]; rfl), B8_63, if_pos (by decide)]
  · rw [if_neg (fun e => q e.1)]
    refine ⟨I, J, hs, f2, f3, fun d R => ?_⟩
    rw [← Nat.add_assoc, B8_0, krecv_m ks4, kcond_t, Nat.add_assoc d h 4, f4, kpush_s, B8_6, bz_0 q, if_pos rfl, B8_63, if_pos (by decide)]
end LR
