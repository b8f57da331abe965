/-! Roll: who there is, verdicts -/
section ROLL
variable {xs : List Int32} {d a b : Nat} {I : Nat → Nat → Int32} {J : Nat → Nat → Int64} {rf : Nat → Nat} {g : Nat} {R : Option Value → KW → Prop}
/-- 0 ≤ j < n -/
def kidx (j n : Int32) : Int32 := if j < 0 then 0 else if j < n then 1 else 0
theorem sp51 {j : Int32} (ha : kshp a = some (.inl 6)) : kX xs d 51 0 [some (.ref a), some (.int j)] [] (kmm I J rf g) R = R (some (.int (kidx j (I a 0)))) (kmm I J rf g) := by
  unfold kidx
  by_cases h : j < 0
  · simp only [B51_0, B51_4, B51_12, B51_16, B51_17, h, if_true, kz_0]
  · by_cases h2 : j < I a 0
    · simp only [B51_0, B51_4, B51_12, B51_16, B51_17, h, h2, if_true, if_false, kz_1, kg6_0 ha, kO_s]
    · simp only [B51_0, B51_4, B51_12, B51_16, B51_17, h, h2, if_true, if_false, kz_0, kg6_0 ha, kO_s]
theorem sp52 {j : Int32} (ha : kshp a = some (.inl 6)) : kX xs d 52 0 [some (.ref a), some (.int j)] [] (kmm I J rf g) R = R (some (.int (kidx j (I a 1)))) (kmm I J rf g) := by
  unfold kidx
  by_cases h : j < 0
  · simp only [B52_0, B52_4, B52_12, B52_16, B52_17, h, if_true, kz_0]
  · by_cases h2 : j < I a 1
    · simp only [B52_0, B52_4, B52_12, B52_16, B52_17, h, h2, if_true, if_false, kz_1, kg6_1 ha, kO_s]
    · simp only [B52_0, B52_4, B52_12, B52_16, B52_17, h, h2, if_true, if_false, kz_0, kg6_1 ha, kO_s]
theorem kidx_in {j n : Nat} (h : j < n) (hn : n < 2147483648) : kidx (nI j) (nI n) = 1 := by
  unfold kidx
  rw [if_neg (nI_pos (by omega)), if_pos (nI_lt h (by omega))]
/-- what a judge of a kind, leaning so, gives for so much guilt -/
def kverd (kind guilt lean : Int32) : Int32 := if kind = 3 then nI 10 else kmin32 (kmax32 (if kind = 1 then guilt + lean - nI 10 + Int32.ofInt 5 else if kind = 2 then (if 0 < guilt + lean - nI 10 then (guilt + lean - nI 10) / 2 else guilt + lean - nI 10) else guilt + lean - nI 10) 0) (nI 40)
theorem sp58 {j t nj nc : Nat} (ha : kshp a = some (.inl 6)) (hb : kshp b = some (.inl 9)) (hj : j < nj) (hnj : nj ≤ 7) (ht : t < nc) (hnc : nc ≤ 7) (ej : I a 0 = nI nj) (ec : I a 1 = nI nc) : kX xs (d + 2) 58 0 [some (.ref a), some (.ref b), some (.int (nI j)), some (.int (nI t)), none] [] (kmm I J rf g) R = R (some (.int (kverd (I (a + 3) j) (I (a + 4) t) (I (b + 3) j)))) (kmm I J rf g) := by
  obtain ⟨r1, r2, r3, r4, r5, r8⟩ := kar6 ha
  obtain ⟨h1, h2, h3, h4⟩ := kar9 hb
  have e7 : 7 < 2147483648 := by omega
  have e10 : ¬ (1 : Int32) = 0 := by decide
  have e20 : ¬ (2 : Int32) = 0 := by decide
  have e21 : ¬ (2 : Int32) = 1 := by decide
  have e13 : ¬ (1 : Int32) = 3 := by decide
  have e23 : ¬ (2 : Int32) = 3 := by decide
  unfold kverd
  by_cases k3 : I (a + 3) j = 3
  · simp only [B58_0, B58_5, B58_8, B58_13, B58_16, B58_18, B58_28, B58_31, B58_59, B58_65, B58_75, B58_80, B58_86, B58_92, B58_97, krecv_m ha, kcond_t, sp51 ha, sp52 ha, ej, ec, kidx_in hj (show nj < 2147483648 by omega), kidx_in ht (show nc < 2147483648 by omega), kpush_s, e10, e13, e23, if_false, kg6_4 ha, kO_s, kaI_m r3 (show j < 7 by omega) e7, k3, if_true, c8_10]
  · by_cases k1 : I (a + 3) j = 1
    · simp only [B58_0, B58_5, B58_8, B58_13, B58_16, B58_18, B58_28, B58_31, B58_59, B58_65, B58_75, B58_80, B58_86, B58_92, B58_97, krecv_m ha, kcond_t, sp51 ha, sp52 ha, ej, ec, kidx_in hj (show nj < 2147483648 by omega), kidx_in ht (show nc < 2147483648 by omega), kpush_s, e10, e13, e23, if_false, kg6_4 ha, kg6_5 ha, kg9_4 hb, kO_s, kaI_m r3 (show j < 7 by omega) e7, kaI_m r4 (show t < 7 by omega) e7, kaI_m h3 (show j < 7 by omega) e7, k3, k1, if_true, c8_10, c8_40, sp278, sp279]
    · by_cases k2 : I (a + 3) j = 2
      · by_cases kv : 0 < I (a + 4) t + I (b + 3) j - nI 10
        · simp only [B58_0, B58_5, B58_8, B58_13, B58_16, B58_18, B58_28, B58_31, B58_59, B58_65, B58_75, B58_80, B58_86, B58_92, B58_97, krecv_m ha, kcond_t, sp51 ha, sp52 ha, ej, ec, kidx_in hj (show nj < 2147483648 by omega), kidx_in ht (show nc < 2147483648 by omega), kpush_s, e10, e20, e21, e13, e23, if_false, kg6_4 ha, kg6_5 ha, kg9_4 hb, kO_s, kaI_m r3 (show j < 7 by omega) e7, kaI_m r4 (show t < 7 by omega) e7, kaI_m h3 (show j < 7 by omega) e7, k3, k1, k2, kv, if_true, c8_10, c8_40, sp278, sp279]
        · simp only [B58_0, B58_5, B58_8, B58_13, B58_16, B58_18, B58_28, B58_31, B58_59, B58_65, B58_75, B58_80, B58_86, B58_92, B58_97, krecv_m ha, kcond_t, sp51 ha, sp52 ha, ej, ec, kidx_in hj (show nj < 2147483648 by omega), kidx_in ht (show nc < 2147483648 by omega), kpush_s, e10, e20, e21, e13, e23, if_false, kg6_4 ha, kg6_5 ha, kg9_4 hb, kO_s, kaI_m r3 (show j < 7 by omega) e7, kaI_m r4 (show t < 7 by omega) e7, kaI_m h3 (show j < 7 by omega) e7, k3, k1, k2, kv, if_true, c8_10, c8_40, sp278, sp279]
      · simp only [B58_0, B58_5, B58_8, B58_13, B58_16, B58_18, B58_28, B58_31, B58_59, B58_65, B58_75, B58_80, B58_86, B58_92, B58_97, krecv_m ha, kcond_t, sp51 ha, sp52 ha, ej, ec, kidx_in hj (show nj < 2147483648 by omega), kidx_in ht (show nc < 2147483648 by omega), kpush_s, e10, e13, e23, if_false, kg6_4 ha, kg6_5 ha, kg9_4 hb, kO_s, kaI_m r3 (show j < 7 by omega) e7, kaI_m r4 (show t < 7 by omega) e7, kaI_m h3 (show j < 7 by omega) e7, k3, k1, k2, if_true, c8_10, c8_40, sp278, sp279]
end ROLL
