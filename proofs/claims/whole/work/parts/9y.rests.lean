/-! rests -/
def payI (p q r his oth : Int32) : Int32 := if his = 1 then (if oth = 1 then p else -q) else (if oth = 1 then r else 0)
def rB (p q r : Int32) (k : Nat) : Bool := !decide (payI p q r (nI (k / 2)) (nI (k % 2)) < payI p q r (1 - nI (k / 2)) (nI (k % 2))) && !decide (payI p q r (nI (k % 2)) (nI (k / 2)) < payI p q r (1 - nI (k % 2)) (nI (k / 2)))
/-- from the k-th on, n having been found -/
def rW (B : Nat → Bool) (x : Int32) : Nat → Nat → Nat → Option Int32
  | 0, n, _ => if x = -1 then some (nI n) else none
  | f + 1, n, k => if B k = true then (if nI n = x then some (nI k) else rW B x f (n + 1) (k + 1)) else rW B x f n (k + 1)
def aRst (p q r x : Int32) : Option Int32 := if kwithin p 0 (nI 9) = 0 then none else if kwithin q 0 (nI 9) = 0 then none else if kwithin r 0 (nI 9) = 0 then none else if x < -1 then none else rW (rB p q r) x 4 0 0
section RS
variable {xs : List Int32} {d : Nat} {I : Nat → Nat → Int32} {J : Nat → Nat → Int64} {rf : Nat → Nat} {g : Nat} {R : Option Value → KW → Prop} {w : KW} {p q r x : Int32} {P : Nat → KL → List Value → KW → Prop}
theorem sp149 {his oth : Int32} : kX xs d 149 0 [some (.int p), some (.int q), some (.int r), some (.int his), some (.int oth)] [] w R = R (some (.int (payI p q r his oth))) w := by
  unfold payI
  rw [B149_0]
  by_cases h1 : his = 1
  · rw [if_pos h1, if_pos h1, B149_5]
    by_cases h2 : oth = 1
    · rw [if_pos h2, if_pos h2, B149_11, B149_17]
    · rw [if_neg h2, if_neg h2, B149_15, B149_17]
  · rw [if_neg h1, if_neg h1, B149_18]
    by_cases h2 : oth = 1
    · rw [if_pos h2, if_pos h2, B149_24, B149_29]
    · rw [if_neg h2, if_neg h2, B149_28, B149_29]
theorem sp267 {his oth : Int32} : kX xs d 267 0 [some (.int his), some (.int oth), some (.int p), some (.int q), some (.int r)] [] w R = R (some (.int (payI p q r his oth))) w := by
  unfold payI
  rw [B267_0]
  by_cases h1 : his = 1
  · rw [if_pos h1, if_pos h1, B267_5]
    by_cases h2 : oth = 1
    · rw [if_pos h2, if_pos h2, B267_10, B267_30]
    · rw [if_neg h2, if_neg h2, B267_14, B267_30]
  · rw [if_neg h1, if_neg h1, B267_19]
    by_cases h2 : oth = 1
    · rw [if_pos h2, if_pos h2, B267_24, B267_30]
    · rw [if_neg h2, if_neg h2, B267_29, B267_30]
theorem k4h {k : Nat} (h : k < 4) : nI k >>> (1 &&& 31) = nI (k / 2) ∧ nI k &&& 1 = nI (k % 2) ∧ nI k / 2 = nI (k / 2) ∧ nI k - nI k / 2 * 2 = nI (k % 2) := by
  have key : ∀ k : Fin 4, nI k.val >>> (1 &&& 31) = nI (k.val / 2) ∧ nI k.val &&& 1 = nI (k.val % 2) ∧ nI k.val / 2 = nI (k.val / 2) ∧ nI k.val - nI k.val / 2 * 2 = nI (k.val % 2) := by decide
  exact key ⟨k, h⟩
theorem sp148 {k : Nat} (hk : k < 4) : kX xs (d + 1) 148 0 [some (.int p), some (.int q), some (.int r), some (.int (nI k)), none, none] [] w R = R (some (.int (nI (bN (rB p q r k))))) w := by
  obtain ⟨e1, e2, -, -⟩ := k4h hk
  rw [B148_0, e1, e2, sp149, kpush_s, B148_20, sp149, kpush_s, B148_32]
  unfold rB
  by_cases h1 : payI p q r (nI (k / 2)) (nI (k % 2)) < payI p q r (1 - nI (k / 2)) (nI (k % 2))
  · rw [if_pos h1, B148_64, B148_65, if_pos nar0, decide_eq_true h1]; rfl
  · rw [if_neg h1, B148_35, sp149, kpush_s, B148_45, sp149, kpush_s, B148_57, decide_eq_false h1]
    by_cases h2 : payI p q r (nI (k % 2)) (nI (k / 2)) < payI p q r (1 - nI (k % 2)) (nI (k / 2))
    · rw [if_pos h2, B148_64, B148_65, if_pos nar0, decide_eq_true h2]; rfl
    · rw [if_neg h2, B148_60, B148_65, if_pos nar1, decide_eq_false h2]; rfl
/-- the class's loop -/
theorem c_147l : ∀ f n k, k + f = 4 → n ≤ k → kX xs (d + 2) 147 50 [none, some (.int p), some (.int q), some (.int r), some (.int x), some (.int (nI n)), some (.int (nI k))] [] w R = kO (rW (rB p q r) x f n k) (fun v => R (some (.int v)) w) := by
  intro f
  induction f with
  | zero =>
    intro n k hk hn
    rw [B147_50, n_4, if_neg (nI_nlt (by omega) (by omega)), B147_86, rW]
    by_cases h : x = -1
    · rw [if_pos h, if_pos h, B147_100, kO_s]
    · rw [if_neg h, if_neg h, B147_92]; rfl
  | succ f ih =>
    intro n k hk hn
    rw [B147_50, n_4, if_pos (nI_lt (by omega) (by omega)), B147_56, sp148 (by omega), kpush_s, B147_64, rW]
    by_cases h : rB p q r k = true
    · rw [if_neg (by rw [h]; decide), if_pos h, B147_67]
      by_cases h2 : nI n = x
      · rw [if_pos h2, if_pos h2, B147_74, kO_s]
      · rw [if_neg h2, if_neg h2, B147_77, nI_add1, B147_80, nI_add1, ih (n + 1) (k + 1) (by omega) (by omega)]
    · rw [if_pos (by rw [bfalse h]; rfl), if_neg h, B147_80, nI_add1, ih n (k + 1) (by omega) (by omega)]
theorem y_147l : ∀ f n k, k + f = 4 → n ≤ k → rW (rB p q r) x f n k = none → ∃ n', kY kx147 xs (d + 2) 147 50 [none, some (.int p), some (.int q), some (.int r), some (.int x), some (.int (nI n)), some (.int (nI k))] [] w P = P 92 [none, none, none, none, some (.int x), some (.int n'), none] [] w := by
  intro f
  induction f with
  | zero =>
    intro n k hk hn hr
    rw [rW] at hr
    refine ⟨nI n, ?_⟩
    rw [Y147_50, n_4, if_neg (nI_nlt (by omega) (by omega)), Y147_86]
    by_cases h : x = -1
    · rw [if_pos h] at hr; cases hr
    · rw [if_neg h]
  | succ f ih =>
    intro n k hk hn hr
    rw [rW] at hr
    rw [Y147_50, n_4, if_pos (nI_lt (by omega) (by omega)), Y147_56, sp148 (by omega), kpush_s, Y147_64]
    by_cases h : rB p q r k = true
    · rw [if_pos h] at hr
      rw [if_neg (by rw [h]; decide), Y147_67]
      by_cases h2 : nI n = x
      · rw [if_pos h2] at hr; cases hr
      · rw [if_neg h2] at hr
        rw [if_neg h2, Y147_77, nI_add1, Y147_80, nI_add1]
        exact ih (n + 1) (k + 1) (by omega) (by omega) hr
    · rw [if_neg h] at hr
      rw [if_pos (by rw [bfalse h]; rfl), Y147_80, nI_add1]
      exact ih n (k + 1) (by omega) (by omega) hr
/-- rests: it returns -/
theorem c_147 {a : Nat} : kX xs (d + 2) 147 0 [some (.ref a), some (.int p), some (.int q), some (.int r), some (.int x), none, none] [] w R = kO (aRst p q r x) (fun v => R (some (.int v)) w) := by
  unfold aRst
  rw [B147_0, c8_9, sp154, kpush_s, B147_7]
  by_cases h1 : kwithin p 0 (nI 9) = 0
  · rw [if_pos h1, if_pos h1, B147_36]; rfl
  · rw [if_neg h1, if_neg h1, B147_10, c8_9, sp154, kpush_s, B147_17]
    by_cases h2 : kwithin q 0 (nI 9) = 0
    · rw [if_pos h2, if_pos h2, B147_36]; rfl
    · rw [if_neg h2, if_neg h2, B147_20, c8_9, sp154, kpush_s, B147_27]
      by_cases h3 : kwithin r 0 (nI 9) = 0
      · rw [if_pos h3, if_pos h3, B147_36]; rfl
      · rw [if_neg h3, if_neg h3, B147_30]
        by_cases h4 : x < -1
        · rw [if_pos h4, if_pos h4, B147_36]; rfl
        · rw [if_neg h4, if_neg h4, B147_44, n_0]
          exact c_147l 4 0 0 rfl (Nat.le_refl 0)
/-- it throws -/
theorem y_147 {a : Nat} (h : aRst p q r x = none) : ∃ pc L, (pc = 36 ∨ pc = 92) ∧ L.length = 7 ∧ kY kx147 xs (d + 2) 147 0 [some (.ref a), some (.int p), some (.int q), some (.int r), some (.int x), none, none] [] w P = P pc L [] w := by
  unfold aRst at h
  by_cases h1 : kwithin p 0 (nI 9) = 0
  · exact ⟨36, _, Or.inl rfl, rfl, by rw [Y147_0, c8_9, sp154, kpush_s, Y147_7, if_pos h1]⟩
  · rw [if_neg h1] at h
    by_cases h2 : kwithin q 0 (nI 9) = 0
    · exact ⟨36, _, Or.inl rfl, rfl, by rw [Y147_0, c8_9, sp154, kpush_s, Y147_7, if_neg h1, Y147_10, c8_9, sp154, kpush_s, Y147_17, if_pos h2]⟩
    · rw [if_neg h2] at h
      by_cases h3 : kwithin r 0 (nI 9) = 0
      · exact ⟨36, _, Or.inl rfl, rfl, by rw [Y147_0, c8_9, sp154, kpush_s, Y147_7, if_neg h1, Y147_10, c8_9, sp154, kpush_s, Y147_17, if_neg h2, Y147_20, c8_9, sp154, kpush_s, Y147_27, if_pos h3]⟩
      · rw [if_neg h3] at h
        by_cases h4 : x < -1
        · exact ⟨36, _, Or.inl rfl, rfl, by rw [Y147_0, c8_9, sp154, kpush_s, Y147_7, if_neg h1, Y147_10, c8_9, sp154, kpush_s, Y147_17, if_neg h2, Y147_20, c8_9, sp154, kpush_s, Y147_27, if_neg h3, Y147_30, if_pos h4]⟩
        · rw [if_neg h4] at h
          obtain ⟨n', e⟩ := y_147l (xs := xs) (d := d) (w := w) (P := P) 4 0 0 rfl (Nat.le_refl 0) h
          have e' : kY kx147 xs (d + 2) 147 50 [none, some (.int p), some (.int q), some (.int r), some (.int x), some (.int 0), some (.int 0)] [] w P = P 92 [none, none, none, none, some (.int x), some (.int n'), none] [] w := e
          exact ⟨92, _, Or.inr rfl, rfl, by rw [Y147_0, c8_9, sp154, kpush_s, Y147_7, if_neg h1, Y147_10, c8_9, sp154, kpush_s, Y147_17, if_neg h2, Y147_20, c8_9, sp154, kpush_s, Y147_27, if_neg h3, Y147_30, if_neg h4, Y147_44, e']⟩
/-- the model's loop: how many, and which -/
def rM (B : Nat → Bool) (x : Int32) : Nat → Nat → Nat → Int32 → Nat × Int32
  | 0, n, _, i => (n, i)
  | f + 1, n, k, i => if B k = true then rM B x f (n + 1) (k + 1) (if nI n = x then nI k else i) else rM B x f n (k + 1) i
theorem m_268l {ok : Int32} (hok : ¬ ok = 0) : ∀ f n k i, k + f = 4 → n ≤ k → kX xs (d + 1) 268 52 [some (.ref 185), some (.int p), some (.int q), some (.int r), some (.int x), some (.int ok), some (.int (nI n)), some (.int i), some (.int (nI k)), none, none, none] [] w R = kX xs (d + 1) 268 174 [some (.ref 185), none, none, none, some (.int x), some (.int ok), some (.int (nI (rM (rB p q r) x f n k i).1)), some (.int (rM (rB p q r) x f n k i).2), none, none, none, none] [] w R := by
  intro f
  induction f with
  | zero =>
    intro n k i hk hn
    rw [B268_52, n_4, if_neg (nI_nlt (by omega) (by omega))]
    rfl
  | succ f ih =>
    intro n k i hk hn
    obtain ⟨-, -, e3, e4⟩ := k4h (k := k) (by omega)
    have z2 : ¬ (2 : Int32) = 0 := by decide
    have hb : ∀ s0 : Int32, (s0 = nI (bN (rB p q r k))) → kX xs (d + 1) 268 130 [some (.ref 185), some (.int p), some (.int q), some (.int r), some (.int x), some (.int ok), some (.int (nI n)), some (.int i), some (.int (nI k)), none, none, none] [.int s0] w R = kX xs (d + 1) 268 174 [some (.ref 185), none, none, none, some (.int x), some (.int ok), some (.int (nI (rM (rB p q r) x (f + 1) n k i).1)), some (.int (rM (rB p q r) x (f + 1) n k i).2), none, none, none, none] [] w R := by
      intro s0 hs
      rw [B268_130, rM]
      by_cases h : rB p q r k = true
      · have s1 : ¬ s0 = 0 := by rw [hs, h]; decide
        rw [if_neg s1, if_pos h, B268_137]
        by_cases h2 : nI n = x
        · rw [if_pos h2, if_pos h2, B268_144, B268_151, if_neg s1, B268_160, B268_165, nI_add1, nI_add1, ih (n + 1) (k + 1) (nI k) (by omega) (by omega)]
        · rw [if_neg h2, if_neg h2, B268_149, B268_151, if_neg s1, B268_160, B268_165, nI_add1, nI_add1, ih (n + 1) (k + 1) i (by omega) (by omega)]
      · have s1 : s0 = 0 := by rw [hs, bfalse h]; rfl
        rw [if_pos s1, if_neg h, B268_149, B268_151, if_pos s1, B268_164, B268_165, Int32.add_zero, nI_add1, ih n (k + 1) i (by omega) (by omega)]
    rw [B268_52, n_4, if_pos (nI_lt (by omega) (by omega)), B268_58, if_neg hok, B268_63, if_neg z2, if_neg z2, e4, e3, sp267, kpush_s, B268_87, sp267, kpush_s, B268_97]
    by_cases h1 : payI p q r (nI (k / 2)) (nI (k % 2)) < payI p q r (1 - nI (k / 2)) (nI (k % 2))
    · rw [if_pos h1, B268_129, hb 0 (by unfold rB; rw [decide_eq_true h1]; rfl)]
    · rw [if_neg h1, B268_100, sp267, kpush_s, B268_112, sp267, kpush_s, B268_122]
      by_cases h2 : payI p q r (nI (k % 2)) (nI (k / 2)) < payI p q r (1 - nI (k % 2)) (nI (k / 2))
      · rw [if_pos h2, B268_129, hb 0 (by unfold rB; rw [decide_eq_false h1, decide_eq_true h2]; rfl)]
      · rw [if_neg h2, B268_125, hb 1 (by unfold rB; rw [decide_eq_false h1, decide_eq_false h2]; rfl)]
end RS
