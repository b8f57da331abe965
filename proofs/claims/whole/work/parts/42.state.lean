/-! Math, isWithin, and State's methods -/
def kmax32 (x y : Int32) : Int32 := if x < y then y else x
def kmin32 (x y : Int32) : Int32 := if y < x then y else x
theorem sp278 (xs : List Int32) (d : Nat) (x y : Int32) (w : KW) (R : Option Value → KW → Prop) : kX xs d 278 0 [some (.int x), some (.int y)] [] w R = R (some (.int (kmax32 x y))) w := by
  unfold kmax32
  by_cases h : x < y
  · simp only [B278_0, B278_5, B278_9, B278_10, h, if_true]
  · simp only [B278_0, B278_5, B278_9, B278_10, h, if_false]
theorem sp279 (xs : List Int32) (d : Nat) (x y : Int32) (w : KW) (R : Option Value → KW → Prop) : kX xs d 279 0 [some (.int x), some (.int y)] [] w R = R (some (.int (kmin32 x y))) w := by
  unfold kmin32
  by_cases h : y < x
  · simp only [B279_0, B279_5, B279_9, B279_10, h, if_true]
  · simp only [B279_0, B279_5, B279_9, B279_10, h, if_false]
/-- isWithin -/
def kwithin (x a b : Int32) : Int32 := if x < a then 0 else if b < x then 0 else 1
theorem sp154 (xs : List Int32) (d : Nat) (x a b : Int32) (w : KW) (R : Option Value → KW → Prop) : kX xs d 154 0 [some (.int x), some (.int a), some (.int b)] [] w R = R (some (.int (kwithin x a b))) w := by
  unfold kwithin
  by_cases h : x < a
  · simp only [B154_0, B154_5, B154_10, B154_14, B154_15, h, if_true, kz_0]
  · by_cases h2 : b < x
    · simp only [B154_0, B154_5, B154_10, B154_14, B154_15, h, h2, if_true, if_false, kz_0]
    · simp only [B154_0, B154_5, B154_10, B154_14, B154_15, h, h2, if_true, if_false, kz_1]
theorem kwithin_in {i n : Nat} (h : i ≤ n) (hn : n < 2147483648) : kwithin (nI i) 0 (nI n) = 1 := by
  unfold kwithin
  rw [if_neg (nI_pos (by omega)), if_neg (nI_nlt h (by omega))]
section STATE
variable {xs : List Int32} {d a b : Nat} {I : Nat → Nat → Int32} {J : Nat → Nat → Int64} {rf : Nat → Nat} {g : Nat} {R : Option Value → KW → Prop}
/-- the first place from i on, of n, that holds j; or none -/
def kfind (c : Nat → Int32) (j : Int32) : Nat → Nat → Int32
  | _, 0 => -1
  | i, n + 1 => if c i = j then nI i else kfind c j (i + 1) n
theorem sp90_2 {j : Int32} (ha : kshp a = some (.inl 9)) : ∀ n i, i + n = 7 → kX xs d 90 2 [some (.ref a), some (.int j), some (.int (nI i))] [] (kmm I J rf g) R = R (some (.int (kfind (I (a + 4)) j i n))) (kmm I J rf g) := by
  obtain ⟨h1, h2, h3, h4⟩ := kar9 ha
  intro n
  induction n with
  | zero =>
    intro i hi
    obtain rfl : i = 7 := by omega
    rw [B90_2, c8_7, if_neg (nI_nlt (by omega) (by omega)), B90_26]
    rfl
  | succ n ih =>
    intro i hi
    rw [B90_2, c8_7, if_pos (nI_lt (by omega) (by omega)), B90_8, kg9_5 ha, kO_s, kaI_m h4 (by omega) (by omega), kO_s]
    by_cases hc : I (a + 4) i = j
    · rw [if_pos hc, B90_18, kfind, if_pos hc]
    · rw [if_neg hc, B90_20, nI_add1, ih (i + 1) (by omega), kfind, if_neg hc]
/-- State.chairOf -/
theorem sp90 {j : Int32} (ha : kshp a = some (.inl 9)) : kX xs d 90 0 [some (.ref a), some (.int j), none] [] (kmm I J rf g) R = R (some (.int (kfind (I (a + 4)) j 0 7))) (kmm I J rf g) := by
  rw [B90_0, n_0, sp90_2 ha 7 0 rfl]
/-- State.changeChairs, where both sit -/
theorem sp91 {j o : Int32} {p q : Nat} (ha : kshp a = some (.inl 9)) (hp : kfind (I (a + 4)) j 0 7 = nI p) (hq : kfind (I (a + 4)) o 0 7 = nI q) (hp7 : p < 7) (hq7 : q < 7) : kX xs (d + 1) 91 0 [some (.ref a), some (.int j), some (.int o), none, none] [] (kmm I J rf g) R = R none (kmm (ku (ku I (a + 4) p o) (a + 4) q j) J rf g) := by
  obtain ⟨h1, h2, h3, h4⟩ := kar9 ha
  have e : ∀ n, n < 7 → ¬ nI n = -1 := by decide
  simp only [B91_0, B91_5, B91_11, B91_18, B91_24, B91_39, krecv_m ha, kcond_t, sp90 ha, hp, hq, kpush_s, e p hp7, e q hq7, if_false, kg9_5 ha, kO_s, ksI_m h4 hp7 (by omega), ksI_m h4 hq7 (by omega)]
/-- State.pleadFor, leanTo -/
theorem sp88 {t : Nat} {x : Int32} (ha : kshp a = some (.inl 9)) (ht : t < 7) : kX xs (d + 1) 88 0 [some (.ref a), some (.int (nI t)), some (.int x)] [] (kmm I J rf g) R = R none (kmm (ku I (a + 2) t x) J rf g) := by
  obtain ⟨h1, h2, h3, h4⟩ := kar9 ha
  have e : ¬ (1 : Int32) = 0 := by decide
  simp only [B88_0, B88_7, B88_10, B88_17, c8_6, sp154, kwithin_in (show t ≤ 6 by omega) (show 6 < 2147483648 by omega), kpush_s, e, if_false, kg9_3 ha, kO_s, ksI_m h2 ht (by omega)]
theorem sp89 {t : Nat} {x : Int32} (ha : kshp a = some (.inl 9)) (ht : t < 7) : kX xs (d + 1) 89 0 [some (.ref a), some (.int (nI t)), some (.int x)] [] (kmm I J rf g) R = R none (kmm (ku I (a + 3) t x) J rf g) := by
  obtain ⟨h1, h2, h3, h4⟩ := kar9 ha
  have e : ¬ (1 : Int32) = 0 := by decide
  simp only [B89_0, B89_7, B89_10, B89_17, c8_6, sp154, kwithin_in (show t ≤ 6 by omega) (show 6 < 2147483648 by omega), kpush_s, e, if_false, kg9_4 ha, kO_s, ksI_m h3 ht (by omega)]
/-- State.addHad -/
theorem sp92 {t : Nat} {x : Int32} (ha : kshp a = some (.inl 9)) (ht : t < 7) : kX xs (d + 1) 92 0 [some (.ref a), some (.int (nI t)), some (.int x)] [] (kmm I J rf g) R = R none (kmm (ku I (a + 1) t (kmin32 (I (a + 1) t + x) (nI 9999))) J rf g) := by
  obtain ⟨h1, h2, h3, h4⟩ := kar9 ha
  simp only [B92_0, B92_19, kg9_2 ha, kO_s, kaI_m h1 ht (show 7 < 2147483648 by omega), c16_9999, sp279, kpush_s, ksI_m h1 ht (show 7 < 2147483648 by omega)]
/-- State.dayIsOver -/
theorem sp93 (ha : kshp a = some (.inl 9)) : kX xs d 93 0 [some (.ref a)] [] (kmm I J rf g) R = R none (kmm (if I a 0 + 1 < 4 then ku I a 0 (I a 0 + 1) else ku (ku (ku I a 0 (I a 0 + 1)) a 0 0) a 1 (I a 1 + 1)) J rf g) := by
  by_cases h : I a 0 + 1 < 4
  · simp only [B93_0, B93_18, B93_33, kg9_0 ha, kO_s, kp9_0 ha, ku_same, h, if_true]
  · have e : ∀ x y, ku (ku I a 0 x) a 0 y a 1 = I a 1 := fun x y => by rw [ku_nek (by omega), ku_nek (by omega)]
    simp only [B93_0, B93_18, B93_33, kg9_0 ha, kg9_1 ha, kO_s, kp9_0 ha, kp9_1 ha, ku_same, h, if_false, e]
/-- State.hadByAll -/
def ksum (f : Nat → Int32) : Nat → Int32
  | 0 => 0
  | n + 1 => ksum f n + f n
theorem sp94_4 (ha : kshp a = some (.inl 9)) : ∀ n i, i + n = 7 → kX xs d 94 4 [some (.ref a), some (.int (ksum (I (a + 1)) i)), some (.int (nI i))] [] (kmm I J rf g) R = R (some (.int (ksum (I (a + 1)) 7))) (kmm I J rf g) := by
  obtain ⟨h1, h2, h3, h4⟩ := kar9 ha
  intro n
  induction n with
  | zero =>
    intro i hi
    obtain rfl : i = 7 := by omega
    rw [B94_4, c8_7, if_neg (nI_nlt (by omega) (by omega)), B94_25]
  | succ n ih =>
    intro i hi
    rw [B94_4, c8_7, if_pos (nI_lt (by omega) (by omega)), B94_10, kg9_2 ha, kO_s, kaI_m h1 (by omega) (by omega), kO_s, nI_add1]
    exact ih (i + 1) (by omega)
theorem sp94 (ha : kshp a = some (.inl 9)) : kX xs d 94 0 [some (.ref a), none, none] [] (kmm I J rf g) R = R (some (.int (ksum (I (a + 1)) 7))) (kmm I J rf g) := by
  rw [B94_0]
  exact sp94_4 ha 7 0 rfl
/-- State.hadMost -/
def kmost (f : Nat → Int32) : Nat → Int32
  | 0 => 0
  | n + 1 => kmax32 (kmost f n) (f n)
theorem sp95_4 (ha : kshp a = some (.inl 9)) : ∀ n i, i + n = 7 → kX xs (d + 1) 95 4 [some (.ref a), some (.int (kmost (I (a + 1)) i)), some (.int (nI i))] [] (kmm I J rf g) R = R (some (.int (kmost (I (a + 1)) 7))) (kmm I J rf g) := by
  obtain ⟨h1, h2, h3, h4⟩ := kar9 ha
  intro n
  induction n with
  | zero =>
    intro i hi
    obtain rfl : i = 7 := by omega
    rw [B95_4, c8_7, if_neg (nI_nlt (by omega) (by omega)), B95_27]
  | succ n ih =>
    intro i hi
    rw [B95_4, c8_7, if_pos (nI_lt (by omega) (by omega)), B95_10, kg9_2 ha, kO_s, kaI_m h1 (by omega) (by omega), kO_s, sp278, kpush_s, B95_20, nI_add1]
    exact ih (i + 1) (by omega)
theorem sp95 (ha : kshp a = some (.inl 9)) : kX xs (d + 1) 95 0 [some (.ref a), none, none] [] (kmm I J rf g) R = R (some (.int (kmost (I (a + 1)) 7))) (kmm I J rf g) := by
  rw [B95_0]
  exact sp95_4 ha 7 0 rfl
/-- State.copyOf: the memory behind it -/
def kcpS (I : Nat → Nat → Int32) (a b : Nat) : Nat → Nat → Int32 := kcp (kcp (kcp (kcp (ku (ku I a 0 (I b 0)) a 1 (ku I a 0 (I b 0) b 1)) (b + 1) (a + 1) 7) (b + 2) (a + 2) 7) (b + 3) (a + 3) 7) (b + 4) (a + 4) 7
theorem sp87 (ha : kshp a = some (.inl 9)) (hb : kshp b = some (.inl 9)) : kX xs (d + 1) 87 0 [some (.ref a), some (.ref b)] [] (kmm I J rf g) R = R none (kmm (kcpS I a b) J rf g) := by
  obtain ⟨h1, h2, h3, h4⟩ := kar9 ha
  obtain ⟨g1, g2, g3, g4⟩ := kar9 hb
  have e7 : 7 < 2147483648 := by omega
  have l7 : 7 ≤ 7 := by omega
  simp only [B87_0, B87_46, kg9_0 hb, kg9_1 hb, kp9_0 ha, kp9_1 ha, kg9_2 ha, kg9_2 hb, kg9_3 ha, kg9_3 hb, kg9_4 ha, kg9_4 hb, kg9_5 ha, kg9_5 hb, kO_s, and_self, if_true, c8_7, kcopy_m g1 h1 l7 l7 e7, kcopy_m g2 h2 l7 l7 e7, kcopy_m g3 h3 l7 l7 e7, kcopy_m g4 h4 l7 l7 e7, kcpS]
end STATE
