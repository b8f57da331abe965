/-! the model reads the law -/
theorem mem42 : (42 : Nat) ∈ sgn8 := by decide
theorem mem43 : (43 : Nat) ∈ sgn8 := by decide
theorem mem45 : (45 : Nat) ∈ sgn8 := by decide
theorem mem60 : (60 : Nat) ∈ sgn8 := by decide
theorem mem61 : (61 : Nat) ∈ sgn8 := by decide
theorem mem40 : (40 : Nat) ∈ sgn8 := by decide
theorem mem41 : (41 : Nat) ∈ sgn8 := by decide
theorem mem59 : (59 : Nat) ∈ sgn8 := by decide
abbrev mOne (xs : List Int32) (J : Nat → Nat → Int64) (T : aTp) (rf : Nat → Nat) (g m : Nat) (ls : List (Option Value)) (h : Nat) (fn : aPS → aPS) : Prop := ∀ I s, mPS I J T s → s.k ≤ nT T → s.ll ≤ s.k → 1 ≤ s.k → s.F = 0 → ∃ I', mPS I' J T (fn s) ∧ mFr I I' ∧ ∀ d R, kX xs (d + h) m 0 ls [] (kmm I J rf g) R = R none (kmm I' J rf g)
section MR
variable {xs : List Int32} {d : Nat} {I I' I2 : Nat → Nat → Int32} {J : Nat → Nat → Int64} {rf : Nat → Nat} {g : Nat} {R : Option Value → KW → Prop} {w : KW} {T : aTp} {s : aPS} {h : Nat} {one : aPS → aPS}
/-- one token on -/
theorem m_stp (h : mPS I J T s) : mPS (ku I 185 7 (nI (s.k + 1))) J T (stp s) ∧ mFr I (ku I 185 7 (nI (s.k + 1))) := by
  refine ⟨⟨h.tk.keep (fun x k _ => by rw [ku_nea (by omega)]), h.wd, by rw [ku_same]; rfl, by rw [ku_nek (by omega)]; exact h.f, h.b, by rw [ku_nek (by omega)]; exact h.l, fun n hn => by rw [ku_nea (by omega)]; exact h.o n hn, fun n hn => by rw [ku_nea (by omega)]; exact h.a n hn⟩, fun x k p _ _ => by rw [ku_ne (by omega)]⟩
/-- emit -/
theorem m_emi {o x : Nat} (h : mPS I J T s) (hl : s.ll < 1100) : ∃ I', mPS I' J T (emi o x s) ∧ mFr I I' ∧ ∀ d R, kX xs d 187 0 [some (.ref 185), some (.int (nI o)), some (.int (nI x))] [] (kmm I J rf g) R = R none (kmm I' J rf g) := by
  have el := h.l
  refine ⟨ku (ku (ku I 192 (1100 + s.ll) (nI o)) 193 (1100 + s.ll) (nI x)) 185 13 (nI (s.ll + 1)), ⟨h.tk.keep (fun x k _ => by rw [ku_nea (by omega), ku_nea (by omega), ku_nea (by omega)]), h.wd, ?_, ?_, h.b, ?_, fun n hn => ?_, fun n hn => ?_⟩, fun x k p q r => by rw [ku_ne (by omega), ku_ne (by omega), ku_ne (by omega)], fun d R => ?_⟩
  · rw [ku_nek (by omega), ku_nea (by omega), ku_nea (by omega)]; exact h.k
  · rw [ku_nek (by omega), ku_nea (by omega), ku_nea (by omega)]; exact h.f
  · rw [ku_same]; rfl
  · have hn' : n < s.ll + 1 := hn
    show _ = nI (ku1 s.lo s.ll o n)
    rw [ku_nea (by omega), ku_nea (by omega)]
    by_cases q : n = s.ll
    · rw [q, ku_same, ku1_s]
    · rw [ku_nek (by omega), ku1_n q]; exact h.o n (by omega)
  · have hn' : n < s.ll + 1 := hn
    show _ = nI (ku1 s.la s.ll x n)
    rw [ku_nea (by omega)]
    by_cases q : n = s.ll
    · rw [q, ku_same, ku1_s]
    · rw [ku_nek (by omega), ku_nea (by omega), ku1_n q]; exact h.a n (by omega)
  · rw [B187_0, kg12_11, kO_s, kg12_13, kO_s, el, c16_1100, nI_add, kw192 (by omega), kO_s, kg12_12, kO_s, kg12_13, kO_s, ku_nea (show (185 : Nat) ≠ 192 by omega), el, nI_add, kw193 (by omega), kO_s, kg12_13, kO_s, ku_nea (show (185 : Nat) ≠ 193 by omega), ku_nea (show (185 : Nat) ≠ 192 by omega), el, nI_add1, kp12_13, kO_s]
/-- hasSign -/
theorem m_168 {c : Nat} (v : vTp T) (hs : c ∈ sgn8) (h : mPS I J T s) (hk : s.k ≤ nT T) : ∃ I', mPS I' J T (if s.F = 0 ∧ kdO T s = c then stp s else s) ∧ mFr I I' ∧ ∀ d R, kX xs (d + 1) 168 0 [some (.ref 185), some (.int (nI c)), none] [] (kmm I J rf g) R = R (some (.int (nI (bN (decide (s.F = 0 ∧ kdO T s = c)))))) (kmm I' J rf g) := by
  have ek := h.k
  by_cases q : s.F = 0 ∧ kdO T s = c
  · rw [if_pos q]
    refine ⟨_, (m_stp h).1, (m_stp h).2, fun d R => ?_⟩
    rw [B168_0, krecv_m ks185, kcond_t, sp165 v hs h hk, kpush_s, B168_5, kg12_7, kO_s, ek, decide_eq_true q, if_neg (by decide), B168_15, B168_20, nI_add1, kp12_7, kO_s, if_pos (by decide)]
  · rw [if_neg q]
    refine ⟨I, h, mFr.refl, fun d R => ?_⟩
    rw [B168_0, krecv_m ks185, kcond_t, sp165 v hs h hk, kpush_s, B168_5, kg12_7, kO_s, ek, decide_eq_false q, if_pos bN_0, B168_19, B168_20, Int32.add_zero, kp12_7, kO_s, ku_id ek, if_pos (by decide)]
/-- hasWord -/
theorem m_169 {c : Nat} (v : vTp T) (hs : c < 22) (h : mPS I J T s) (hk : s.k ≤ nT T) : ∃ I', mPS I' J T (if s.F = 0 ∧ kdO T s = 128 + c then stp s else s) ∧ mFr I I' ∧ ∀ d R, kX xs (d + 1) 169 0 [some (.ref 185), some (.int (nI c)), none] [] (kmm I J rf g) R = R (some (.int (nI (bN (decide (s.F = 0 ∧ kdO T s = 128 + c)))))) (kmm I' J rf g) := by
  have ek := h.k
  by_cases q : s.F = 0 ∧ kdO T s = 128 + c
  · rw [if_pos q]
    refine ⟨_, (m_stp h).1, (m_stp h).2, fun d R => ?_⟩
    rw [B169_0, krecv_m ks185, kcond_t, sp166 v hs h hk, kpush_s, B169_5, kg12_7, kO_s, ek, decide_eq_true q, if_neg (by decide), B169_15, B169_20, nI_add1, kp12_7, kO_s, if_pos (by decide)]
  · rw [if_neg q]
    refine ⟨I, h, mFr.refl, fun d R => ?_⟩
    rw [B169_0, krecv_m ks185, kcond_t, sp166 v hs h hk, kpush_s, B169_5, kg12_7, kO_s, ek, decide_eq_false q, if_pos bN_0, B169_19, B169_20, Int32.add_zero, kp12_7, kO_s, ku_id ek, if_pos (by decide)]
/-- takeSign -/
theorem m_167 {c : Nat} (v : vTp T) (hs : c ∈ sgn8) (h : mPS I J T s) (hk : s.k ≤ nT T) : ∃ I', mPS I' J T (tak T c s) ∧ mFr I I' ∧ ∀ d R, kX xs (d + 1) 167 0 [some (.ref 185), some (.int (nI c))] [] (kmm I J rf g) R = R none (kmm I' J rf g) := by
  have ek := h.k
  unfold tak
  by_cases q : s.F = 0 ∧ kdO T s = c
  · rw [if_pos q.1, if_pos q.2]
    refine ⟨_, (m_stp h).1, (m_stp h).2, fun d R => ?_⟩
    rw [B167_0, krecv_m ks185, kcond_t, sp165 v hs h hk, kpush_s, B167_5, decide_eq_true q, if_neg (by decide), B167_8, kg12_7, kO_s, ek, nI_add1, kp12_7, kO_s, B167_26]
  · obtain ⟨I1, a1, a2, a4⟩ := m_wrg (xs := xs) (rf := rf) (g := g) (c := 1) v (by omega) (by omega) h hk
    have a4' : ∀ d R, kX xs d 164 0 [some (.ref 185), some (.int 1)] [] (kmm I J rf g) R = R none (kmm I1 J rf g) := a4
    have e : (if s.F = 0 then if kdO T s = c then stp s else wrg T 1 s else s) = wrg T 1 s := by
      by_cases q1 : s.F = 0
      · rw [if_pos q1, if_neg (fun z => q ⟨q1, z⟩)]
      · rw [if_neg q1]
        show s = aPS.mk s.k (if s.F = 0 then 1 + 16 * pT T s.k else s.F) s.ll s.lo s.la
        rw [if_neg q1]
        rfl
    rw [e]
    refine ⟨I1, a1, a2, fun d R => ?_⟩
    rw [B167_0, krecv_m ks185, kcond_t, sp165 v hs h hk, kpush_s, B167_5, decide_eq_false q, if_pos bN_0, B167_21, krecv_m ks185, kcond_t, a4', kpush_n, B167_26]
/-- products -/
theorem m_191 (v : vTp T) {dp : Int32} (hg : aGo T one) (H : mOne xs J T rf g 192 [some (.ref 185), some (.int dp), none, none] (h + 1) one) : mOne xs J T rf g 191 [some (.ref 185), some (.int dp)] (h + 2) (prd T one) := by
  have hn := (nT_ok T).1
  have hn2 := v.n
  have L : ∀ f I s, mPS I J T s → s.k ≤ nT T → s.ll ≤ s.k → 1 ≤ s.k → nT T < s.k + f → ∃ I', mPS I' J T (lop T oP one f s) ∧ mFr I I' ∧ ∀ d R, kX xs (d + (h + 2)) 191 5 [some (.ref 185), some (.int dp)] [] (kmm I J rf g) R = R none (kmm I' J rf g) := by
    intro f
    induction f with
    | zero => intro I s hs h1 h2 h3 h4; omega
    | succ f ih =>
      intro I s hs h1 h2 h3 h4
      obtain ⟨I1, a1, a2, a4⟩ := m_168 (xs := xs) (rf := rf) (g := g) v mem42 hs h1
      rw [lop]
      by_cases q : s.F = 0 ∧ kdO T s = 42
      · have eo : oP (kdO T s) = 6 := by rw [q.2]; rfl
        rw [if_pos q] at a1
        rw [if_pos ⟨q.1, by rw [eo]; omega⟩, eo]
        have hlt := kdO_lt h1 (by omega)
        have v1 := avn_stp hlt
        have l1 := avnL v1 h2
        obtain ⟨I2, b1, b2, b4⟩ := H I1 (stp s) a1 v1.n (by omega) (by have := v1.k; omega) q.1
        have v2 := v1.trans (hg (stp s) v1.n)
        have l2 := avnL v2 h2
        have n2 := v2.n
        obtain ⟨I3, c1, c2, c4⟩ := m_emi (xs := xs) (rf := rf) (g := g) (o := 6) (x := 0) b1 (by omega)
        have v3 := avn_emi (o := 6) (a := 0) (c := 0) v2
        have l3 := avnL v3 h2
        have k3 : s.k + 1 ≤ (emi 6 0 (one (stp s))).k := (hg (stp s) v1.n).k
        obtain ⟨I4, d1, d2, d4⟩ := ih I3 _ c1 v3.n l3 (by omega) (by omega)
        refine ⟨I4, d1, a2.trans (b2.trans (c2.trans d2)), fun d R => ?_⟩
        have c4' : ∀ d R, kX xs d 187 0 [some (.ref 185), some (.int (nI 6)), some (.int 0)] [] (kmm I2 J rf g) R = R none (kmm I3 J rf g) := c4
        rw [← Nat.add_assoc, B191_5, krecv_m ks185, kcond_t, c8_42, a4, kpush_s, B191_11, decide_eq_true q, if_neg (by decide), B191_14, krecv_m ks185, kcond_t, Nat.add_assoc d h 1, b4, kpush_n, B191_19, krecv_m ks185, kcond_t, c8_6, c4', kpush_n, B191_26]
        exact d4 d R
      · rw [if_neg q] at a1
        have eo : ¬ (s.F = 0 ∧ oP (kdO T s) ≠ 0) := fun z => q ⟨z.1, by
          refine Classical.byContradiction (fun y => z.2 (if_neg y))⟩
        rw [if_neg eo]
        refine ⟨I1, a1, a2, fun d R => ?_⟩
        rw [← Nat.add_assoc, B191_5, krecv_m ks185, kcond_t, c8_42, a4, kpush_s, B191_11, decide_eq_false q, if_pos bN_0, B191_29]
  intro I s hs h1 h2 h3 hF
  obtain ⟨I1, a1, a2, a4⟩ := H I s hs h1 h2 h3 hF
  have v1 := hg s h1
  have k1 := v1.k
  obtain ⟨I2, b1, b2, b4⟩ := L 1000 I1 (one s) a1 v1.n (avnL v1 h2) (by omega) (by omega)
  refine ⟨I2, b1, a2.trans b2, fun d R => ?_⟩
  rw [← Nat.add_assoc, B191_0, krecv_m ks185, kcond_t, Nat.add_assoc d h 1, a4, kpush_n]
  exact b4 d R
/-- sums -/
theorem m_190 (v : vTp T) {dp : Int32} (hg : aGo T one) (H : mOne xs J T rf g 191 [some (.ref 185), some (.int dp)] (h + 1) one) : mOne xs J T rf g 190 [some (.ref 185), some (.int dp), none] (h + 2) (fun s => lop T oS one 1000 (one s)) := by
  have hn := (nT_ok T).1
  have hn2 := v.n
  have L : ∀ f I s, mPS I J T s → s.k ≤ nT T → s.ll ≤ s.k → 1 ≤ s.k → nT T < s.k + f → ∃ I', mPS I' J T (lop T oS one f s) ∧ mFr I I' ∧ ∀ d R, kX xs (d + (h + 2)) 190 5 [some (.ref 185), some (.int dp), none] [] (kmm I J rf g) R = R none (kmm I' J rf g) := by
    intro f
    induction f with
    | zero => intro I s hs h1 h2 h3 h4; omega
    | succ f ih =>
      intro I s hs h1 h2 h3 h4
      have ek := hs.k
      rw [lop]
      by_cases q : s.F = 0 ∧ (kdO T s = 43 ∨ kdO T s = 45)
      · have eo : oS (kdO T s) ≠ 0 := by rcases q.2 with z | z <;> rw [z] <;> decide
        rw [if_pos ⟨q.1, eo⟩]
        have hlt := kdO_lt h1 (by omega)
        have v1 := avn_stp hlt
        have l1 := avnL v1 h2
        obtain ⟨a1, a2⟩ := m_stp hs
        obtain ⟨I2, b1, b2, b4⟩ := H _ (stp s) a1 v1.n (by omega) (by have := v1.k; omega) q.1
        have v2 := v1.trans (hg (stp s) v1.n)
        have l2 := avnL v2 h2
        have n2 := v2.n
        obtain ⟨I3, c1, c2, c4⟩ := m_emi (xs := xs) (rf := rf) (g := g) (o := oS (kdO T s)) (x := 0) b1 (by omega)
        have v3 := avn_emi (o := oS (kdO T s)) (a := 0) (c := 0) v2
        have l3 := avnL v3 h2
        have k3 : s.k + 1 ≤ (emi (oS (kdO T s)) 0 (one (stp s))).k := (hg (stp s) v1.n).k
        obtain ⟨I4, d1, d2, d4⟩ := ih I3 _ c1 v3.n l3 (by omega) (by omega)
        refine ⟨I4, d1, a2.trans (b2.trans (c2.trans d2)), fun d R => ?_⟩
        have c4' : ∀ d R, kX xs d 187 0 [some (.ref 185), some (.int (nI (oS (kdO T s)))), some (.int 0)] [] (kmm I2 J rf g) R = R none (kmm I3 J rf g) := c4
        have ent : ∀ d R, kX xs (d + 1) 190 5 [some (.ref 185), some (.int dp), none] [] (kmm I J rf g) R = kX xs (d + 1) 190 23 [some (.ref 185), some (.int dp), none] [] (kmm I J rf g) R := by
          intro d R
          rw [B190_5, krecv_m ks185, kcond_t, c8_43, sp165 v mem43 hs h1, kpush_s, B190_11]
          by_cases z : kdO T s = 43
          · rw [if_neg (by rw [decide_eq_true ⟨q.1, z⟩]; decide)]
          · rw [if_pos (by rw [decide_eq_false (fun y => z y.2)]; rfl), B190_14, krecv_m ks185, kcond_t, c8_45, sp165 v mem45 hs h1, kpush_s, B190_20, if_neg (by rw [decide_eq_true ⟨q.1, q.2.resolve_left z⟩]; decide)]
        have sel : ∀ d R, kX xs d 190 45 [some (.ref 185), some (.int dp), some (.int (nI (bN (decide (s.F = 0 ∧ kdO T s = 43)))))] [] (kmm I2 J rf g) R = kX xs d 190 55 [some (.ref 185), some (.int dp), none] [.int (nI (oS (kdO T s))), .ref 185] (kmm I2 J rf g) R := by
          intro d R
          rw [B190_45]
          by_cases z : kdO T s = 43
          · rw [if_neg (by rw [decide_eq_true ⟨q.1, z⟩]; decide), B190_50, z]; rfl
          · rw [if_pos (by rw [decide_eq_false (fun y => z y.2)]; rfl), B190_54, q.2.resolve_left z]; rfl
        rw [← Nat.add_assoc, ent, B190_23, krecv_m ks185, kcond_t, c8_43, sp165 v mem43 hs h1, kpush_s, B190_29, kg12_7, kO_s, ek, nI_add1, kp12_7, kO_s, krecv_m ks185, kcond_t, Nat.add_assoc d h 1, b4, kpush_n, sel, B190_55, krecv_m ks185, kcond_t, c4', kpush_n, B190_59]
        exact d4 d R
      · have eo : ¬ (s.F = 0 ∧ oS (kdO T s) ≠ 0) := fun z => q ⟨z.1, by
          refine Classical.byContradiction (fun y => z.2 ?_)
          unfold oS
          rw [if_neg (fun e => y (Or.inl e)), if_neg (fun e => y (Or.inr e))]⟩
        rw [if_neg eo]
        refine ⟨I, hs, mFr.refl, fun d R => ?_⟩
        rw [← Nat.add_assoc, B190_5, krecv_m ks185, kcond_t, c8_43, sp165 v mem43 hs h1, kpush_s, B190_11, if_pos (by rw [decide_eq_false (fun y => q ⟨y.1, Or.inl y.2⟩)]; rfl), B190_14, krecv_m ks185, kcond_t, c8_45, sp165 v mem45 hs h1, kpush_s, B190_20, if_pos (by rw [decide_eq_false (fun y => q ⟨y.1, Or.inr y.2⟩)]; rfl), B190_62]
  intro I s hs h1 h2 h3 hF
  obtain ⟨I1, a1, a2, a4⟩ := H I s hs h1 h2 h3 hF
  have v1 := hg s h1
  have k1 := v1.k
  obtain ⟨I2, b1, b2, b4⟩ := L 1000 I1 (one s) a1 v1.n (avnL v1 h2) (by omega) (by omega)
  refine ⟨I2, b1, a2.trans b2, fun d R => ?_⟩
  rw [← Nat.add_assoc, B190_0, krecv_m ks185, kcond_t, Nat.add_assoc d h 1, a4, kpush_n]
  exact b4 d R
/-- whole -/
theorem m_188 (v : vTp T) {dp : Int32} (hg : aGo T one) (H : mOne xs J T rf g 189 [some (.ref 185), some (.int dp), none] (h + 1) one) : mOne xs J T rf g 188 [some (.ref 185), some (.int dp), none] (h + 2) (fun s => lop T oW one 1000 (one s)) := by
  have hn := (nT_ok T).1
  have hn2 := v.n
  have L : ∀ f I s, mPS I J T s → s.k ≤ nT T → s.ll ≤ s.k → 1 ≤ s.k → nT T < s.k + f → ∃ I', mPS I' J T (lop T oW one f s) ∧ mFr I I' ∧ ∀ d R, kX xs (d + (h + 2)) 188 5 [some (.ref 185), some (.int dp), none] [] (kmm I J rf g) R = R none (kmm I' J rf g) := by
    intro f
    induction f with
    | zero => intro I s hs h1 h2 h3 h4; omega
    | succ f ih =>
      intro I s hs h1 h2 h3 h4
      have ek := hs.k
      rw [lop]
      by_cases q : s.F = 0 ∧ (kdO T s = 128 + 16 ∨ kdO T s = 128 + 17)
      · have eo : oW (kdO T s) ≠ 0 := by rcases q.2 with z | z <;> rw [z] <;> decide
        rw [if_pos ⟨q.1, eo⟩]
        have hlt := kdO_lt h1 (by omega)
        have v1 := avn_stp hlt
        have l1 := avnL v1 h2
        obtain ⟨a1, a2⟩ := m_stp hs
        obtain ⟨I2, b1, b2, b4⟩ := H _ (stp s) a1 v1.n (by omega) (by have := v1.k; omega) q.1
        have v2 := v1.trans (hg (stp s) v1.n)
        have l2 := avnL v2 h2
        have n2 := v2.n
        obtain ⟨I3, c1, c2, c4⟩ := m_emi (xs := xs) (rf := rf) (g := g) (o := oW (kdO T s)) (x := 0) b1 (by omega)
        have v3 := avn_emi (o := oW (kdO T s)) (a := 0) (c := 0) v2
        have l3 := avnL v3 h2
        have k3 : s.k + 1 ≤ (emi (oW (kdO T s)) 0 (one (stp s))).k := (hg (stp s) v1.n).k
        obtain ⟨I4, d1, d2, d4⟩ := ih I3 _ c1 v3.n l3 (by omega) (by omega)
        refine ⟨I4, d1, a2.trans (b2.trans (c2.trans d2)), fun d R => ?_⟩
        have c4' : ∀ d R, kX xs d 187 0 [some (.ref 185), some (.int (nI (oW (kdO T s)))), some (.int 0)] [] (kmm I2 J rf g) R = R none (kmm I3 J rf g) := c4
        have ent : ∀ d R, kX xs (d + 1) 188 5 [some (.ref 185), some (.int dp), none] [] (kmm I J rf g) R = kX xs (d + 1) 188 23 [some (.ref 185), some (.int dp), none] [] (kmm I J rf g) R := by
          intro d R
          rw [B188_5, krecv_m ks185, kcond_t, c8_16, sp166 v (show 16 < 22 by omega) hs h1, kpush_s, B188_11]
          by_cases z : kdO T s = 128 + 16
          · rw [if_neg (by rw [decide_eq_true ⟨q.1, z⟩]; decide)]
          · rw [if_pos (by rw [decide_eq_false (fun y => z y.2)]; rfl), B188_14, krecv_m ks185, kcond_t, c8_17, sp166 v (show 17 < 22 by omega) hs h1, kpush_s, B188_20, if_neg (by rw [decide_eq_true ⟨q.1, q.2.resolve_left z⟩]; decide)]
        have sel : ∀ d R, kX xs d 188 45 [some (.ref 185), some (.int dp), some (.int (nI (bN (decide (s.F = 0 ∧ kdO T s = 128 + 16)))))] [] (kmm I2 J rf g) R = kX xs d 188 57 [some (.ref 185), some (.int dp), none] [.int (nI (oW (kdO T s))), .ref 185] (kmm I2 J rf g) R := by
          intro d R
          rw [B188_45]
          by_cases z : kdO T s = 128 + 16
          · rw [if_neg (by rw [decide_eq_true ⟨q.1, z⟩]; decide), B188_50, z]; rfl
          · rw [if_pos (by rw [decide_eq_false (fun y => z y.2)]; rfl), B188_55, q.2.resolve_left z]; rfl
        rw [← Nat.add_assoc, ent, B188_23, krecv_m ks185, kcond_t, c8_16, sp166 v (show 16 < 22 by omega) hs h1, kpush_s, B188_29, kg12_7, kO_s, ek, nI_add1, kp12_7, kO_s, krecv_m ks185, kcond_t, Nat.add_assoc d h 1, b4, kpush_n, sel, B188_57, krecv_m ks185, kcond_t, c4', kpush_n, B188_61]
        exact d4 d R
      · have eo : ¬ (s.F = 0 ∧ oW (kdO T s) ≠ 0) := fun z => q ⟨z.1, by
          refine Classical.byContradiction (fun y => z.2 ?_)
          unfold oW
          rw [if_neg (fun e => y (Or.inl e)), if_neg (fun e => y (Or.inr e))]⟩
        rw [if_neg eo]
        refine ⟨I, hs, mFr.refl, fun d R => ?_⟩
        rw [← Nat.add_assoc, B188_5, krecv_m ks185, kcond_t, c8_16, sp166 v (show 16 < 22 by omega) hs h1, kpush_s, B188_11, if_pos (by rw [decide_eq_false (fun y => q ⟨y.1, Or.inl y.2⟩)]; rfl), B188_14, krecv_m ks185, kcond_t, c8_17, sp166 v (show 17 < 22 by omega) hs h1, kpush_s, B188_20, if_pos (by rw [decide_eq_false (fun y => q ⟨y.1, Or.inr y.2⟩)]; rfl), B188_64]
  intro I s hs h1 h2 h3 hF
  obtain ⟨I1, a1, a2, a4⟩ := H I s hs h1 h2 h3 hF
  have v1 := hg s h1
  have k1 := v1.k
  obtain ⟨I2, b1, b2, b4⟩ := L 1000 I1 (one s) a1 v1.n (avnL v1 h2) (by omega) (by omega)
  refine ⟨I2, b1, a2.trans b2, fun d R => ?_⟩
  rw [← Nat.add_assoc, B188_0, krecv_m ks185, kcond_t, Nat.add_assoc d h 1, a4, kpush_n]
  exact b4 d R
/-- test -/
theorem m_189 (v : vTp T) {dp : Int32} (hg : aGo T one) (H : mOne xs J T rf g 190 [some (.ref 185), some (.int dp), none] (h + 1) one) : mOne xs J T rf g 189 [some (.ref 185), some (.int dp), none] (h + 2) (fun s => lop T oT one 1 (one s)) := by
  have hn := (nT_ok T).1
  have hn2 := v.n
  intro I0 s0 hs0 h10 h20 h30 hF0
  obtain ⟨I, hs, f2, f4⟩ := H I0 s0 hs0 h10 h20 h30 hF0
  have v0 := hg s0 h10
  have h1 := v0.n
  have h2 := avnL v0 h20
  have h3 := v0.k
  dsimp only
  generalize one s0 = s at *
  rw [lop, lop]
  obtain ⟨I1, a1, a2, a4⟩ := m_168 (xs := xs) (rf := rf) (g := g) v mem60 hs h1
  by_cases q : s.F = 0 ∧ (kdO T s = 60 ∨ kdO T s = 61)
  · have eo : oT (kdO T s) ≠ 0 := by rcases q.2 with z | z <;> rw [z] <;> decide
    rw [if_pos ⟨q.1, eo⟩]
    have hlt := kdO_lt h1 (by omega)
    have v1 := avn_stp hlt
    have l1 := avnL v1 h2
    have ent : ∃ I1, mPS I1 J T (stp s) ∧ mFr I I1 ∧ ∀ d R, kX xs (d + 2) 189 5 [some (.ref 185), some (.int dp), none] [] (kmm I J rf g) R = kX xs (d + 2) 189 30 [some (.ref 185), some (.int dp), some (.int (nI (bN (decide (s.F = 0 ∧ kdO T s = 60)))))] [] (kmm I1 J rf g) R := by
      by_cases z : kdO T s = 60
      · rw [if_pos ⟨q.1, z⟩] at a1
        refine ⟨I1, a1, a2, fun d R => ?_⟩
        rw [B189_5, krecv_m ks185, kcond_t, c8_60, sp165 v mem60 hs h1, kpush_s, B189_11, krecv_m ks185, kcond_t, c8_60, a4, kpush_s, B189_18, if_neg (by rw [decide_eq_true ⟨q.1, z⟩]; decide)]
      · have z61 := q.2.resolve_left z
        rw [if_neg (fun y => z y.2)] at a1
        obtain ⟨I2, b1, b2, b4⟩ := m_168 (xs := xs) (rf := rf) (g := g) v mem61 a1 h1
        rw [if_pos ⟨q.1, z61⟩] at b1
        refine ⟨I2, b1, a2.trans b2, fun d R => ?_⟩
        rw [B189_5, krecv_m ks185, kcond_t, c8_60, sp165 v mem60 hs h1, kpush_s, B189_11, krecv_m ks185, kcond_t, c8_60, a4, kpush_s, B189_18, if_pos (by rw [decide_eq_false (fun y => z y.2)]; rfl), B189_21, krecv_m ks185, kcond_t, c8_61, b4, kpush_s, B189_27, if_neg (by rw [decide_eq_true ⟨q.1, z61⟩]; decide)]
    obtain ⟨I2, b1, b2, b4⟩ := ent
    obtain ⟨I3, c1, c2, c4⟩ := H I2 (stp s) b1 v1.n (by omega) (by have := v1.k; omega) q.1
    have v2 := v1.trans (hg (stp s) v1.n)
    have l2 := avnL v2 h2
    have n2 := v2.n
    obtain ⟨I4, d1, d2, d4⟩ := m_emi (xs := xs) (rf := rf) (g := g) (o := oT (kdO T s)) (x := 0) c1 (by omega)
    refine ⟨I4, d1, f2.trans (b2.trans (c2.trans d2)), fun d R => ?_⟩
    have d4' : ∀ d R, kX xs d 187 0 [some (.ref 185), some (.int (nI (oT (kdO T s)))), some (.int 0)] [] (kmm I3 J rf g) R = R none (kmm I4 J rf g) := d4
    have sel : ∀ d R, kX xs d 189 35 [some (.ref 185), none, some (.int (nI (bN (decide (s.F = 0 ∧ kdO T s = 60)))))] [] (kmm I3 J rf g) R = kX xs d 189 47 [none, none, none] [.int (nI (oT (kdO T s))), .ref 185] (kmm I3 J rf g) R := by
      intro d R
      rw [B189_35]
      by_cases z : kdO T s = 60
      · rw [if_neg (by rw [decide_eq_true ⟨q.1, z⟩]; decide), B189_40, z]; rfl
      · rw [if_pos (by rw [decide_eq_false (fun y => z y.2)]; rfl), B189_45, q.2.resolve_left z]; rfl
    rw [← Nat.add_assoc, B189_0, krecv_m ks185, kcond_t, Nat.add_assoc d h 1, f4, kpush_n, ← Nat.add_assoc d h 1, b4, B189_30, krecv_m ks185, kcond_t, Nat.add_assoc d h 1, c4, kpush_n, sel, B189_47, krecv_m ks185, kcond_t, d4', kpush_n, B189_51]
  · have eo : ¬ (s.F = 0 ∧ oT (kdO T s) ≠ 0) := fun z => q ⟨z.1, by
      refine Classical.byContradiction (fun y => z.2 ?_)
      unfold oT
      rw [if_neg (fun e => y (Or.inl e)), if_neg (fun e => y (Or.inr e))]⟩
    rw [if_neg eo]
    rw [if_neg (fun y => q ⟨y.1, Or.inl y.2⟩)] at a1
    obtain ⟨I2, b1, b2, b4⟩ := m_168 (xs := xs) (rf := rf) (g := g) v mem61 a1 h1
    rw [if_neg (fun y => q ⟨y.1, Or.inr y.2⟩)] at b1
    refine ⟨I2, b1, f2.trans (a2.trans b2), fun d R => ?_⟩
    rw [← Nat.add_assoc, B189_0, krecv_m ks185, kcond_t, Nat.add_assoc d h 1, f4, kpush_n, B189_5, krecv_m ks185, kcond_t, c8_60, sp165 v mem60 hs h1, kpush_s, B189_11, krecv_m ks185, kcond_t, c8_60, ← Nat.add_assoc d h 1, a4, kpush_s, B189_18, if_pos (by rw [decide_eq_false (fun y => q ⟨y.1, Or.inl y.2⟩)]; rfl), B189_21, krecv_m ks185, kcond_t, c8_61, b4, kpush_s, B189_27, if_pos (by rw [decide_eq_false (fun y => q ⟨y.1, Or.inr y.2⟩)]; rfl), B189_51]
end MR
