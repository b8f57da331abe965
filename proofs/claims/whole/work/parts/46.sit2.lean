/-! Sitting: what is asked of a day -/
/-- from 0 on, place by place -/
def kfold (f : Nat → Int32 → Int32) : Nat → Int32
  | 0 => 0
  | n + 1 => f n (kfold f n)
section SIT2
variable {xs : List Int32} {d a b : Nat} {I : Nat → Nat → Int32} {J : Nat → Nat → Int64} {rf : Nat → Nat} {g : Nat} {R : Option Value → KW → Prop}
/-- heardBits -/
theorem sp69_4 {m : Nat} (hm : m ≤ 7) (em : I 54 0 = nI m) : ∀ n i, i + n = m → kX xs d 69 4 [some (.ref 54), some (.int (kfold (fun p x => x ||| (1 <<< (I 55 p &&& 31))) i)), some (.int (nI i))] [] (kmm I J rf g) R = R (some (.int (kfold (fun p x => x ||| (1 <<< (I 55 p &&& 31))) m))) (kmm I J rf g) := by
  have e7 : 7 < 2147483648 := by omega
  intro n
  induction n with
  | zero =>
    intro i hi
    obtain rfl : i = m := by omega
    rw [B69_4, kg8_0, kO_s, em, if_neg (nI_nlt (Nat.le_refl _) (by omega)), B69_29]
  | succ n ih =>
    intro i hi
    have hi7 : i < 7 := by omega
    rw [B69_4, kg8_0, kO_s, em, if_pos (nI_lt (by omega) (by omega))]
    rw [B69_12, kg8_1, kO_s, kaI_m ks55 hi7 e7, kO_s, nI_add1]
    exact ih (i + 1) (by omega)
theorem sp69 {m : Nat} (hm : m ≤ 7) (em : I 54 0 = nI m) : kX xs d 69 0 [some (.ref 54), none, none] [] (kmm I J rf g) R = R (some (.int (kfold (fun p x => x ||| (1 <<< (I 55 p &&& 31))) m))) (kmm I J rf g) := by
  rw [B69_0]
  exact sp69_4 hm em m 0 (by omega)
/-- ownBits -/
theorem sp70_4 {m : Nat} (hm : m ≤ 7) (em : I 54 0 = nI m) : ∀ n i, i + n = m → kX xs d 70 4 [some (.ref 54), some (.int (kfold (fun p x => if I 57 p = nI p then x ||| (1 <<< (I 55 p &&& 31)) else x) i)), some (.int (nI i))] [] (kmm I J rf g) R = R (some (.int (kfold (fun p x => if I 57 p = nI p then x ||| (1 <<< (I 55 p &&& 31)) else x) m))) (kmm I J rf g) := by
  have e7 : 7 < 2147483648 := by omega
  intro n
  induction n with
  | zero =>
    intro i hi
    obtain rfl : i = m := by omega
    rw [B70_4, kg8_0, kO_s, em, if_neg (nI_nlt (Nat.le_refl _) (by omega)), B70_39]
  | succ n ih =>
    intro i hi
    have hi7 : i < 7 := by omega
    rw [B70_4, kg8_0, kO_s, em, if_pos (nI_lt (by omega) (by omega))]
    rw [B70_12, kg8_3, kO_s, kaI_m ks57 hi7 e7, kO_s]
    have ih' := ih (i + 1) (by omega)
    simp only [kfold] at ih'
    by_cases hc : I 57 i = nI i
    · rw [if_pos hc] at ih'
      rw [if_pos hc, B70_22, kg8_1, kO_s, kaI_m ks55 hi7 e7, kO_s, B70_33, nI_add1]
      exact ih'
    · rw [if_neg hc] at ih'
      rw [if_neg hc, B70_33, nI_add1]
      exact ih'
theorem sp70 {m : Nat} (hm : m ≤ 7) (em : I 54 0 = nI m) : kX xs d 70 0 [some (.ref 54), none, none] [] (kmm I J rf g) R = R (some (.int (kfold (fun p x => if I 57 p = nI p then x ||| (1 <<< (I 55 p &&& 31)) else x) m))) (kmm I J rf g) := by
  rw [B70_0]
  exact sp70_4 hm em m 0 (by omega)
/-- sparedBits -/
theorem sp71_4 {m : Nat} (hm : m ≤ 7) (em : I 54 0 = nI m) {S : Nat → Nat} (hS : ∀ p, p < m → I 57 p = nI (S p) ∧ S p < 7) : ∀ n i, i + n = m → kX xs d 71 4 [some (.ref 54), some (.int (kfold (fun p x => if I 56 (S p) < I 56 p then x ||| (1 <<< (I 55 p &&& 31)) else x) i)), some (.int (nI i))] [] (kmm I J rf g) R = R (some (.int (kfold (fun p x => if I 56 (S p) < I 56 p then x ||| (1 <<< (I 55 p &&& 31)) else x) m))) (kmm I J rf g) := by
  have e7 : 7 < 2147483648 := by omega
  intro n
  induction n with
  | zero =>
    intro i hi
    obtain rfl : i = m := by omega
    rw [B71_4, kg8_0, kO_s, em, if_neg (nI_nlt (Nat.le_refl _) (by omega)), B71_49]
  | succ n ih =>
    intro i hi
    have hi7 : i < 7 := by omega
    rw [B71_4, kg8_0, kO_s, em, if_pos (nI_lt (by omega) (by omega))]
    obtain ⟨s1, s2⟩ := hS i (by omega)
    rw [B71_12, kg8_2, kO_s, kg8_3, kO_s, kaI_m ks57 hi7 e7, kO_s, s1, kaI_m ks56 s2 e7, kO_s, kO_s, kaI_m ks56 hi7 e7, kO_s]
    have ih' := ih (i + 1) (by omega)
    simp only [kfold] at ih'
    by_cases hc : I 56 (S i) < I 56 i
    · rw [if_pos hc] at ih'
      rw [if_pos hc, B71_32, kg8_1, kO_s, kaI_m ks55 hi7 e7, kO_s, B71_43, nI_add1]
      exact ih'
    · rw [if_neg hc] at ih'
      rw [if_neg hc, B71_43, nI_add1]
      exact ih'
theorem sp71 {m : Nat} (hm : m ≤ 7) (em : I 54 0 = nI m) {S : Nat → Nat} (hS : ∀ p, p < m → I 57 p = nI (S p) ∧ S p < 7) : kX xs d 71 0 [some (.ref 54), none, none] [] (kmm I J rf g) R = R (some (.int (kfold (fun p x => if I 56 (S p) < I 56 p then x ||| (1 <<< (I 55 p &&& 31)) else x) m))) (kmm I J rf g) := by
  rw [B71_0]
  exact sp71_4 hm em hS m 0 (by omega)
/-- given -/
theorem sp72_4 {m : Nat} (hm : m ≤ 7) (em : I 54 0 = nI m) : ∀ n i, i + n = m → kX xs d 72 4 [some (.ref 54), some (.int (ksum (I 56) i)), some (.int (nI i))] [] (kmm I J rf g) R = R (some (.int (ksum (I 56) m))) (kmm I J rf g) := by
  have e7 : 7 < 2147483648 := by omega
  intro n
  induction n with
  | zero =>
    intro i hi
    obtain rfl : i = m := by omega
    rw [B72_4, kg8_0, kO_s, em, if_neg (nI_nlt (Nat.le_refl _) (by omega)), B72_27]
  | succ n ih =>
    intro i hi
    have hi7 : i < 7 := by omega
    rw [B72_4, kg8_0, kO_s, em, if_pos (nI_lt (by omega) (by omega))]
    rw [B72_12, kg8_2, kO_s, kaI_m ks56 hi7 e7, kO_s, nI_add1]
    exact ih (i + 1) (by omega)
theorem sp72 {m : Nat} (hm : m ≤ 7) (em : I 54 0 = nI m) : kX xs d 72 0 [some (.ref 54), none, none] [] (kmm I J rf g) R = R (some (.int (ksum (I 56) m))) (kmm I J rf g) := by
  rw [B72_0]
  exact sp72_4 hm em m 0 (by omega)
/-- greatest -/
theorem sp73_4 {m : Nat} (hm : m ≤ 7) (em : I 54 0 = nI m) : ∀ n i, i + n = m → kX xs (d + 1) 73 4 [some (.ref 54), some (.int (kmost (I 56) i)), some (.int (nI i))] [] (kmm I J rf g) R = R (some (.int (kmost (I 56) m))) (kmm I J rf g) := by
  have e7 : 7 < 2147483648 := by omega
  intro n
  induction n with
  | zero =>
    intro i hi
    obtain rfl : i = m := by omega
    rw [B73_4, kg8_0, kO_s, em, if_neg (nI_nlt (Nat.le_refl _) (by omega)), B73_29]
  | succ n ih =>
    intro i hi
    have hi7 : i < 7 := by omega
    rw [B73_4, kg8_0, kO_s, em, if_pos (nI_lt (by omega) (by omega))]
    rw [B73_12, kg8_2, kO_s, kaI_m ks56 hi7 e7, kO_s, sp278, kpush_s, B73_22, nI_add1]
    exact ih (i + 1) (by omega)
theorem sp73 {m : Nat} (hm : m ≤ 7) (em : I 54 0 = nI m) : kX xs (d + 1) 73 0 [some (.ref 54), none, none] [] (kmm I J rf g) R = R (some (.int (kmost (I 56) m))) (kmm I J rf g) := by
  rw [B73_0]
  exact sp73_4 hm em m 0 (by omega)
theorem sp76 {p : Int32} : kX xs d 76 0 [some (.ref 54), some (.int p)] [] (kmm I J rf g) R = R (some (.int (kidx p (I 54 0)))) (kmm I J rf g) := by
  unfold kidx
  by_cases h : p < 0
  · simp only [B76_0, B76_4, B76_12, B76_16, B76_17, h, if_true, kz_0]
  · by_cases h2 : p < I 54 0
    · simp only [B76_0, B76_4, B76_12, B76_16, B76_17, h, h2, if_true, if_false, kz_1, kg8_0, kO_s]
    · simp only [B76_0, B76_4, B76_12, B76_16, B76_17, h, h2, if_true, if_false, kz_0, kg8_0, kO_s]
theorem kidx_out {p n : Int32} (h : p < 0) : kidx p n = 0 := by unfold kidx; rw [if_pos h]
/-- givenAt, judgeAt: at a place; at none -/
theorem sp74 {p m : Nat} (hm : m ≤ 7) (em : I 54 0 = nI m) (hp : p < m) : kX xs (d + 1) 74 0 [some (.ref 54), some (.int (nI p))] [] (kmm I J rf g) R = R (some (.int (I 56 p))) (kmm I J rf g) := by
  have e10 : ¬ (1 : Int32) = 0 := by decide
  simp only [B74_0, B74_5, B74_8, B74_17, B74_18, krecv_m ks54, kcond_t, sp76, em, kidx_in hp (show m < 2147483648 by omega), kpush_s, e10, if_false, kg8_2, kO_s, kaI_m ks56 (show p < 7 by omega) (show 7 < 2147483648 by omega)]
theorem sp74n : kX xs (d + 1) 74 0 [some (.ref 54), some (.int (-1))] [] (kmm I J rf g) R = R (some (.int (-1))) (kmm I J rf g) := by
  have e : (-1 : Int32) < 0 := by decide
  simp only [B74_0, B74_5, B74_8, B74_17, B74_18, krecv_m ks54, kcond_t, sp76, kidx_out e, kpush_s, if_true]
theorem sp75 {p m : Nat} (hb : kshp b = some (.inl 9)) (hm : m ≤ 7) (em : I 54 0 = nI m) (hp : p < m) : kX xs (d + 1) 75 0 [some (.ref 54), some (.ref b), some (.int (nI p))] [] (kmm I J rf g) R = R (some (.int (I (b + 4) p))) (kmm I J rf g) := by
  have e10 : ¬ (1 : Int32) = 0 := by decide
  obtain ⟨h1, h2, h3, h4⟩ := kar9 hb
  simp only [B75_0, B75_5, B75_8, B75_17, B75_18, krecv_m ks54, kcond_t, sp76, em, kidx_in hp (show m < 2147483648 by omega), kpush_s, e10, if_false, kg9_5 hb, kO_s, kaI_m h4 (show p < 7 by omega) (show 7 < 2147483648 by omega)]
theorem sp75n : kX xs (d + 1) 75 0 [some (.ref 54), some (.ref b), some (.int (-1))] [] (kmm I J rf g) R = R (some (.int (-1))) (kmm I J rf g) := by
  have e : (-1 : Int32) < 0 := by decide
  simp only [B75_0, B75_5, B75_8, B75_17, B75_18, krecv_m ks54, kcond_t, sp76, kidx_out e, kpush_s, if_true]
/-- sourceOf: a case that is heard; one that isn't -/
theorem sp77 {t p m : Nat} (hm : m ≤ 7) (em : I 54 0 = nI m) (ht : t < 7) (ep : I 58 t = nI p) (hp : p < m) : kX xs (d + 1) 77 0 [some (.ref 54), some (.int (nI t)), none] [] (kmm I J rf g) R = R (some (.int (I 57 p))) (kmm I J rf g) := by
  have e10 : ¬ (1 : Int32) = 0 := by decide
  have e7 : 7 < 2147483648 := by omega
  simp only [B77_0, B77_12, B77_15, B77_24, B77_25, kg8_4, kO_s, kaI_m ks58 ht e7, ep, krecv_m ks54, kcond_t, sp76, em, kidx_in hp (show m < 2147483648 by omega), kpush_s, e10, if_false, kg8_3, kaI_m ks57 (show p < 7 by omega) e7]
theorem sp77n {t : Nat} (ht : t < 7) (ep : I 58 t = -1) : kX xs (d + 1) 77 0 [some (.ref 54), some (.int (nI t)), none] [] (kmm I J rf g) R = R (some (.int (-1))) (kmm I J rf g) := by
  have e : (-1 : Int32) < 0 := by decide
  have e7 : 7 < 2147483648 := by omega
  simp only [B77_0, B77_12, B77_15, B77_24, B77_25, kg8_4, kO_s, kaI_m ks58 ht e7, ep, krecv_m ks54, kcond_t, sp76, kidx_out e, kpush_s, if_true]
/-- amountOf -/
theorem sp78 {t p s m : Nat} (hm : m ≤ 7) (em : I 54 0 = nI m) (ht : t < 7) (ep : I 58 t = nI p) (hp : p < m) (es : I 57 p = nI s) (hs : s < m) : kX xs (d + 2) 78 0 [some (.ref 54), some (.int (nI t))] [] (kmm I J rf g) R = R (some (.int (I 56 s))) (kmm I J rf g) := by
  simp only [B78_0, B78_6, B78_9, krecv_m ks54, kcond_t, sp77 hm em ht ep hp, es, kpush_s, sp74 hm em hs]
theorem sp78n {t : Nat} (ht : t < 7) (ep : I 58 t = -1) : kX xs (d + 2) 78 0 [some (.ref 54), some (.int (nI t))] [] (kmm I J rf g) R = R (some (.int (-1))) (kmm I J rf g) := by
  simp only [B78_0, B78_6, B78_9, krecv_m ks54, kcond_t, sp77n ht ep, kpush_s, sp74n]
end SIT2
