/-! Law: what the E of deals tells -/
section LAW
variable {xs : List Int32} {d a : Nat} {I : Nat → Nat → Int32} {J : Nat → Nat → Int64} {rf : Nat → Nat} {g : Nat} {R : Option Value → KW → Prop} {w : KW}
def kfact (s nth many today grief : Int32) : Int32 := if s = -3 then today else if s = -2 then many else if s = -1 then nth else grief
theorem sp3 {s n1 n2 n3 n4 : Int32} : kX xs d 3 0 [some (.int s), some (.int n1), some (.int n2), some (.int n3), some (.int n4)] [] w R = R (some (.int (kfact s n1 n2 n3 n4))) w := by
  unfold kfact
  by_cases h3 : s = -3
  · simp only [B3_0, B3_28, B3_30, B3_32, B3_34, h3, if_true]
  · by_cases h2 : s = -2
    · simp only [B3_0, h3, if_false]
      simp only [B3_28, B3_30, B3_32, B3_34, h2, if_true]
    · by_cases h1 : s = -1
      · simp only [B3_0, h3, h2, if_false]
        simp only [B3_28, B3_30, B3_32, B3_34, h1, if_true]
      · simp only [B3_0, B3_28, B3_30, B3_32, B3_34, h3, h2, h1, if_false]
def kjoin (s x y : Int32) : Int32 := if s = -16 then x - y else if s = -15 then x + y else if s = -14 then (if x = y then 1 else 0) else if s = -13 then (if x < y then 1 else 0) else if s = -12 then (if x = 0 then (if y = 0 then 0 else 1) else 1) else if s = -11 then (if x = 0 then 0 else if y = 0 then 0 else 1) else x * y
theorem sp4 {s x y : Int32} : kX xs d 4 0 [some (.int s), some (.int x), some (.int y)] [] w R = R (some (.int (kjoin s x y))) w := by
  rw [B4_0]
  unfold kjoin
  by_cases h1 : s = -16
  · rw [if_pos h1, if_pos h1, B4_94]
  rw [if_neg h1, if_neg h1]
  by_cases h2 : s = -15
  · rw [if_pos h2, if_pos h2, B4_90]
  rw [if_neg h2, if_neg h2]
  by_cases h3 : s = -14
  · rw [if_pos h3, if_pos h3, B4_79]
    by_cases h : x = y
    · rw [if_pos h, if_pos h, B4_84, B4_89]
    · rw [if_neg h, if_neg h, B4_88, B4_89]
  rw [if_neg h3, if_neg h3]
  by_cases h4 : s = -13
  · rw [if_pos h4, if_pos h4, B4_68]
    by_cases h : x < y
    · rw [if_pos h, if_pos h, B4_73, B4_78]
    · rw [if_neg h, if_neg h, B4_77, B4_78]
  rw [if_neg h4, if_neg h4]
  by_cases h5 : s = -12
  · rw [if_pos h5, if_pos h5, B4_54]
    by_cases h : x = 0
    · rw [if_pos h, if_pos h, B4_58]
      by_cases h' : y = 0
      · rw [if_pos h', if_pos h', B4_66, B4_67]
      · rw [if_neg h', if_neg h', B4_62, B4_67]
    · rw [if_neg h, if_neg h, B4_62, B4_67]
  rw [if_neg h5, if_neg h5]
  by_cases h6 : s = -11
  · rw [if_pos h6, if_pos h6, B4_40]
    by_cases h : x = 0
    · rw [if_pos h, if_pos h, B4_52, B4_53]
    · rw [if_neg h, if_neg h, B4_44]
      by_cases h' : y = 0
      · rw [if_pos h', if_pos h', B4_52, B4_53]
      · rw [if_neg h', if_neg h', B4_48, B4_53]
  rw [if_neg h6, if_neg h6, B4_98]
/-- the pile behind n steps: how high, and the memory -/
def kte (I : Nat → Nat → Int32) (a : Nat) (n1 n2 n3 n4 : Int32) : Nat → Nat × (Nat → Nat → Int32)
  | 0 => (0, I)
  | n + 1 =>
    if (-10 : Int32) < I (a + 1) n then
      (if (kte I a n1 n2 n3 n4 n).1 < 32 then ((kte I a n1 n2 n3 n4 n).1 + 1, ku (kte I a n1 n2 n3 n4 n).2 (a + 2) (kte I a n1 n2 n3 n4 n).1 (if I (a + 1) n < 0 then kfact (I (a + 1) n) n1 n2 n3 n4 else I (a + 1) n)) else kte I a n1 n2 n3 n4 n)
    else if I (a + 1) n = -10 then
      (if 0 < (kte I a n1 n2 n3 n4 n).1 then ((kte I a n1 n2 n3 n4 n).1, ku (kte I a n1 n2 n3 n4 n).2 (a + 2) ((kte I a n1 n2 n3 n4 n).1 - 1) (if (kte I a n1 n2 n3 n4 n).2 (a + 2) ((kte I a n1 n2 n3 n4 n).1 - 1) = 0 then 1 else 0)) else kte I a n1 n2 n3 n4 n)
    else
      (if 1 < (kte I a n1 n2 n3 n4 n).1 then ((kte I a n1 n2 n3 n4 n).1 - 1, ku (kte I a n1 n2 n3 n4 n).2 (a + 2) ((kte I a n1 n2 n3 n4 n).1 - 2) (kjoin (I (a + 1) n) ((kte I a n1 n2 n3 n4 n).2 (a + 2) ((kte I a n1 n2 n3 n4 n).1 - 2)) ((kte I a n1 n2 n3 n4 n).2 (a + 2) ((kte I a n1 n2 n3 n4 n).1 - 1)))) else kte I a n1 n2 n3 n4 n)
theorem kte_fst {n1 n2 n3 n4 : Int32} : ∀ n, (kte I a n1 n2 n3 n4 n).1 ≤ 32 := by
  intro n
  induction n with
  | zero => exact Nat.zero_le _
  | succ n ih =>
    unfold kte
    repeat' split
    all_goals (try simp only [])
    all_goals omega
theorem kte_out {n1 n2 n3 n4 : Int32} {x k : Nat} (hx : x ≠ a + 2) : ∀ n, (kte I a n1 n2 n3 n4 n).2 x k = I x k := by
  intro n
  induction n with
  | zero => rfl
  | succ n ih =>
    unfold kte
    repeat' split
    all_goals first | exact ih | (show ku _ _ _ _ _ _ = _; rw [ku_nea hx]; exact ih)
theorem nI_dec (n : Nat) : nI (n + 1) + Int32.ofInt (-1) = nI n := by
  have e : Int32.ofInt (-1) = -1 := by decide
  rw [e, ← nI_pred n, Int32.sub_eq_add_neg]
theorem ofN (n : Nat) : Int32.ofNat n = nI n := rfl
theorem sp2_6 {n1 n2 n3 n4 : Int32} {len : Nat} (ha : kshp a = some (.inl 0)) (hn : I a 0 = nI len) (hl : len ≤ 1000) : ∀ n t, t + n = len → kX xs (d + 1) 2 6 [some (.ref a), some (.int n1), some (.int n2), some (.int n3), some (.int n4), some (.int (nI (kte I a n1 n2 n3 n4 t).1)), some (.int (nI t)), none] [] (kmm (kte I a n1 n2 n3 n4 t).2 J rf g) R = R (some (.int (if 0 < (kte I a n1 n2 n3 n4 len).1 then (kte I a n1 n2 n3 n4 len).2 (a + 2) 0 else 1))) (kmm (kte I a n1 n2 n3 n4 len).2 J rf g) := by
  obtain ⟨r1, r2⟩ := kar0 ha
  intro n
  induction n with
  | zero =>
    intro t ht
    obtain rfl : t = len := by omega
    have e0 : (kte I a n1 n2 n3 n4 t).2 a 0 = nI t := by rw [kte_out (by omega), hn]
    have hf := kte_fst (I := I) (a := a) (n1 := n1) (n2 := n2) (n3 := n3) (n4 := n4) t
    rw [B2_6, kg0_0 ha, kO_s, e0, if_neg (nI_nlt (Nat.le_refl _) (by omega)), B2_167, n_0]
    by_cases hp : 0 < (kte I a n1 n2 n3 n4 t).1
    · rw [if_pos (nI_lt hp (by omega)), if_pos hp, B2_172, kg0_2 ha, kO_s, n_0, kaI_m r2 (by omega) (by omega), kO_s, B2_182]
    · rw [if_neg (nI_nlt (by omega) (by omega)), if_neg hp, B2_181, B2_182]
  | succ n ih =>
    intro t ht
    have e0 : (kte I a n1 n2 n3 n4 t).2 a 0 = nI len := by rw [kte_out (by omega), hn]
    have e1 : (kte I a n1 n2 n3 n4 t).2 (a + 1) t = I (a + 1) t := kte_out (by omega) t
    have hf := kte_fst (I := I) (a := a) (n1 := n1) (n2 := n2) (n3 := n3) (n4 := n4) t
    have hs : kte I a n1 n2 n3 n4 (t + 1) = _ := kte.eq_2 I a n1 n2 n3 n4 t
    have ih' := ih (t + 1) (by omega)
    generalize kte I a n1 n2 n3 n4 t = T at e0 e1 hf hs ⊢
    rw [B2_6, kg0_0 ha, kO_s, e0, if_pos (nI_lt (by omega) (by omega)), B2_15, kg0_1 ha, kO_s, kalen_m r1 (by omega), kO_s, ofN, if_pos (nI_lt (by omega) (by omega)), B2_25, kg0_1 ha, kO_s, kaI_m r1 (by omega) (by omega), kO_s, e1, c8_m10]
    by_cases h1 : (-10 : Int32) < I (a + 1) t
    · rw [if_pos h1] at hs ⊢
      rw [B2_41, c8_32]
      by_cases hp : T.1 < 32
      · rw [if_pos hp] at hs
        rw [if_pos (nI_lt hp (by omega)), B2_48, kg0_2 ha, kO_s]
        by_cases hz : I (a + 1) t < 0
        · rw [if_pos hz] at hs
          rw [if_pos hz, B2_64, sp3, kpush_s, B2_74, ksI_m r2 (by omega) (by omega), kO_s, B2_161, nI_add1, nI_add1]
          rw [hs] at ih'
          exact ih'
        · rw [if_neg hz] at hs
          rw [if_neg hz, B2_59, B2_74, ksI_m r2 (by omega) (by omega), kO_s, B2_161, nI_add1, nI_add1]
          rw [hs] at ih'
          exact ih'
      · rw [if_neg hp] at hs
        rw [if_neg (nI_nlt (by omega) (by omega)), B2_161, nI_add1]
        rw [hs] at ih'
        exact ih'
    · rw [if_neg h1] at hs ⊢
      rw [B2_81, c8_m10]
      by_cases h2 : I (a + 1) t = -10
      · rw [if_pos h2] at hs ⊢
        rw [B2_88, n_0]
        by_cases hp : 0 < T.1
        · rw [if_pos hp] at hs
          obtain ⟨q, hq⟩ : ∃ q, T.1 = q + 1 := ⟨T.1 - 1, by omega⟩
          have hq1 : T.1 - 1 = q := by omega
          rw [hq1] at hs
          rw [if_pos (nI_lt hp (by omega)), B2_93, kg0_2 ha, kO_s, kO_s, hq, n_1, ← n_1, nI_pred, kaI_m r2 (by omega) (by omega), kO_s]
          by_cases hz : T.2 (a + 2) q = 0
          · rw [if_pos hz] at hs ⊢
            rw [B2_113, B2_118, ksI_m r2 (by omega) (by omega), kO_s, B2_161, nI_add1]
            rw [hs] at ih'
            rw [hq] at ih'
            exact ih'
          · rw [if_neg hz] at hs ⊢
            rw [B2_117, B2_118, ksI_m r2 (by omega) (by omega), kO_s, B2_161, nI_add1]
            rw [hs] at ih'
            rw [hq] at ih'
            exact ih'
        · rw [if_neg hp] at hs
          rw [if_neg (nI_nlt (by omega) (by omega)), B2_161, nI_add1]
          rw [hs] at ih'
          exact ih'
      · rw [if_neg h2] at hs ⊢
        rw [B2_122, n_1]
        by_cases hp : 1 < T.1
        · rw [if_pos hp] at hs
          obtain ⟨q, hq⟩ : ∃ q, T.1 = q + 2 := ⟨T.1 - 2, by omega⟩
          have hq1 : T.1 - 1 = q + 1 := by omega
          have hq2 : T.1 - 2 = q := by omega
          rw [hq1, hq2] at hs
          rw [if_pos (nI_lt hp (by omega)), B2_128, hq, nI_dec, kg0_2 ha, kO_s, kO_s, nI_pred, kaI_m r2 (by omega) (by omega), kO_s, kO_s, kaI_m r2 (by omega) (by omega), kO_s, sp4, kpush_s, B2_160, ksI_m r2 (by omega) (by omega), kO_s, B2_161, nI_add1]
          rw [hs] at ih'
          exact ih'
        · rw [if_neg hp] at hs
          rw [if_neg (nI_nlt (by omega) (by omega)), B2_161, nI_add1]
          rw [hs] at ih'
          exact ih'
/-- Law.tells -/
theorem sp2 {n1 n2 n3 n4 : Int32} {len : Nat} (ha : kshp a = some (.inl 0)) (hn : I a 0 = nI len) (hl : len ≤ 1000) : kX xs (d + 1) 2 0 [some (.ref a), some (.int n1), some (.int n2), some (.int n3), some (.int n4), none, none, none] [] (kmm I J rf g) R = R (some (.int (if 0 < (kte I a n1 n2 n3 n4 len).1 then (kte I a n1 n2 n3 n4 len).2 (a + 2) 0 else 1))) (kmm (kte I a n1 n2 n3 n4 len).2 J rf g) := by
  rw [B2_0]
  exact sp2_6 ha hn hl len 0 (by omega)
end LAW
