/-! Sitting.sitOn -/
section SIT
variable {xs : List Int32} {d a b : Nat} {I : Nat → Nat → Int32} {J : Nat → Nat → Int64} {rf : Nat → Nat} {g : Nat} {R : Option Value → KW → Prop}
/-- no State's and no Roll's cell is one of the sitting's -/
theorem kst_off {b k : Nat} (hb : kshp b = some (.inl 9)) (hk : k ≤ 4) : b + k < 54 ∨ 61 < b + k := by
  have := kad9 hb
  omega
theorem kro_off {a k : Nat} (ha : kshp a = some (.inl 6)) (hk : k ≤ 12) : a + k < 54 := by
  have := kad6 ha
  omega
/-- how many of the first t cases are heard -/
def hN (up : Nat → Int32) (day : Int32) (nj : Nat) : Nat → Nat
  | 0 => 0
  | t + 1 => if up t = day ∧ hN up day nj t < nj then hN up day nj t + 1 else hN up day nj t
theorem hN_le (up : Nat → Int32) (day : Int32) (nj : Nat) : ∀ t, hN up day nj t ≤ t ∧ hN up day nj t ≤ nj := by
  intro t
  induction t with
  | zero => exact ⟨Nat.le_refl _, Nat.zero_le _⟩
  | succ t ih =>
    unfold hN
    split <;> omega
/-- what the k-th chair's judge gives for case t (chairs hold judges) -/
def kgv (I : Nat → Nat → Int32) (a b k t : Nat) : Int32 := kverd (I (a + 3) (I (b + 4) k).toNatClampNeg) (I (a + 4) t) (I (b + 3) (I (b + 4) k).toNatClampNeg)
/-- the memory behind t cases -/
def kst (I : Nat → Nat → Int32) (a b : Nat) (day : Int32) (nj : Nat) : Nat → Nat → Nat → Int32
  | 0 => ku I 54 0 0
  | t + 1 => if I (b + 2) t = day ∧ hN (I (b + 2)) day nj t < nj then ku (ku (ku (ku (ku (kst I a b day nj t) 58 t (-1)) 55 (hN (I (b + 2)) day nj t) (nI t)) 56 (hN (I (b + 2)) day nj t) (kgv I a b (hN (I (b + 2)) day nj t) t)) 58 t (nI (hN (I (b + 2)) day nj t))) 54 0 (nI (hN (I (b + 2)) day nj t + 1)) else ku (kst I a b day nj t) 58 t (-1)
theorem kst_out {day : Int32} {nj : Nat} {x k : Nat} (hx : x < 54 ∨ 61 < x) : ∀ t, kst I a b day nj t x k = I x k := by
  intro t
  induction t with
  | zero => exact ku_nea (by omega)
  | succ t ih =>
    unfold kst
    split
    · rw [ku_nea (by omega), ku_nea (by omega), ku_nea (by omega), ku_nea (by omega), ku_nea (by omega), ih]
    · rw [ku_nea (by omega), ih]
theorem kst_many {day : Int32} {nj : Nat} : ∀ t, kst I a b day nj t 54 0 = nI (hN (I (b + 2)) day nj t) := by
  intro t
  induction t with
  | zero => exact ku_same _ _ _ _
  | succ t ih =>
    by_cases hq : I (b + 2) t = day ∧ hN (I (b + 2)) day nj t < nj
    · rw [kst, hN, if_pos hq, if_pos hq]
      exact ku_same _ _ _ _
    · rw [kst, hN, if_neg hq, if_neg hq, ku_nea (show 54 ≠ 58 by omega), ih]
theorem sp64_8 {day : Int32} {nj nc : Nat} {C : Nat → Nat} (ha : kshp a = some (.inl 6)) (hb : kshp b = some (.inl 9)) (hnj : nj ≤ 7) (hnc : nc ≤ 7) (ej : I a 0 = nI nj) (ec : I a 1 = nI nc) (hC : ∀ k, k < nj → I (b + 4) k = nI (C k) ∧ C k < nj) : ∀ n t, t + n = nc → kX xs (d + 3) 64 8 [some (.ref 54), some (.ref a), some (.ref b), some (.int day), some (.int (nI t))] [] (kmm (kst I a b day nj t) J rf g) R = R none (kmm (kst I a b day nj nc) J rf g) := by
  obtain ⟨r1, r2, r3, r4, r5, r8⟩ := kar6 ha
  obtain ⟨h1, h2, h3, h4⟩ := kar9 hb
  have e7 : 7 < 2147483648 := by omega
  have oa : ∀ k, k ≤ 12 → a + k < 54 ∨ 61 < a + k := fun k hk => Or.inl (kro_off ha hk)
  have oa0 : a < 54 ∨ 61 < a := oa 0 (by omega)
  have ob : ∀ k, k ≤ 4 → b + k < 54 ∨ 61 < b + k := fun k hk => kst_off hb hk
  intro n
  induction n with
  | zero =>
    intro t ht
    obtain rfl : t = nc := by omega
    have e1 : kst I a b day nj t a 1 = nI t := by rw [kst_out oa0, ec]
    rw [B64_8, kg6_1 ha, kO_s, e1, if_neg (nI_nlt (Nat.le_refl _) (by omega)), B64_126]
  | succ n ih =>
    intro t ht
    have e0 : kst I a b day nj t a 0 = nI nj := by rw [kst_out oa0, ej]
    have e1 : kst I a b day nj t a 1 = nI nc := by rw [kst_out oa0, ec]
    have eu : kst I a b day nj t (b + 2) t = I (b + 2) t := kst_out (ob 2 (by omega)) t
    obtain ⟨q1, q2⟩ := hN_le (I (b + 2)) day nj t
    have em := kst_many (I := I) (a := a) (b := b) (day := day) (nj := nj) t
    rw [B64_8, kg6_1 ha, kO_s, e1, if_pos (nI_lt (by omega) (by omega)), B64_17, c8_7, if_pos (nI_lt (by omega) (by omega)), B64_24, kg8_4, kO_s, ksI_m ks58 (show t < 7 by omega) e7, kO_s, kg9_3 hb, kO_s, kaI_m h2 (show t < 7 by omega) e7, kO_s, ku_nea (show b + 2 ≠ 58 by have := ob 2 (by omega); omega), eu]
    by_cases hd : I (b + 2) t = day
    · rw [if_pos hd, B64_43, kg8_0, kO_s, kg6_0 ha, kO_s, ku_nea (show 54 ≠ 58 by omega), ku_nea (show a ≠ 58 by have := oa 0 (by omega); omega), em, e0]
      by_cases hq : hN (I (b + 2)) day nj t < nj
      · obtain ⟨c1, c2⟩ := hC _ hq
        have ec4 : kst I a b day nj t (b + 4) (hN (I (b + 2)) day nj t) = nI (C (hN (I (b + 2)) day nj t)) := by rw [kst_out (ob 4 (by omega)), c1]
        have hm : hN (I (b + 2)) day nj t < 7 := by omega
        have hst : kst I a b day nj (t + 1) = ku (ku (ku (ku (ku (kst I a b day nj t) 58 t (-1)) 55 (hN (I (b + 2)) day nj t) (nI t)) 56 (hN (I (b + 2)) day nj t) (kgv I a b (hN (I (b + 2)) day nj t) t)) 58 t (nI (hN (I (b + 2)) day nj t))) 54 0 (nI (hN (I (b + 2)) day nj t + 1)) := by
          rw [kst, if_pos ⟨hd, hq⟩]
        rw [if_pos (nI_lt hq (by omega)), B64_54, kg8_0, kO_s, ku_nea (show 54 ≠ 58 by omega), em, c8_7, if_pos (nI_lt hm (by omega)), B64_63, kg8_1, kO_s, kg8_0, kO_s, ku_nea (show 54 ≠ 58 by omega), em, ksI_m ks55 hm e7, kO_s, kg8_2, kO_s, kg8_0, kO_s, kg9_5 hb, kO_s, kO_s, ku_nea (show 54 ≠ 55 by omega), ku_nea (show 54 ≠ 58 by omega), em, kaI_m h4 hm e7, kO_s, ku_nea (show b + 4 ≠ 55 by have := ob 4 (by omega); omega), ku_nea (show b + 4 ≠ 58 by have := ob 4 (by omega); omega), ec4, krecv_m ha, kcond_t]
        rw [sp58 (nj := nj) (nc := nc) ha hb c2 hnj (show t < nc by omega) hnc (by rw [ku_nea (show a ≠ 55 by have := oa 0 (by omega); omega), ku_nea (show a ≠ 58 by have := oa 0 (by omega); omega), e0]) (by rw [ku_nea (show a ≠ 55 by have := oa 0 (by omega); omega), ku_nea (show a ≠ 58 by have := oa 0 (by omega); omega), e1])]
        have ev : kverd (ku (ku (kst I a b day nj t) 58 t (-1)) 55 (hN (I (b + 2)) day nj t) (nI t) (a + 3) (C (hN (I (b + 2)) day nj t))) (ku (ku (kst I a b day nj t) 58 t (-1)) 55 (hN (I (b + 2)) day nj t) (nI t) (a + 4) t) (ku (ku (kst I a b day nj t) 58 t (-1)) 55 (hN (I (b + 2)) day nj t) (nI t) (b + 3) (C (hN (I (b + 2)) day nj t))) = kgv I a b (hN (I (b + 2)) day nj t) t := by
          have o3 := oa 3 (by omega)
          have o4 := oa 4 (by omega)
          have p3 := ob 3 (by omega)
          unfold kgv
          rw [c1, nI_clamp (show C (hN (I (b + 2)) day nj t) < 2 ^ 31 by omega), ku_nea (show a + 3 ≠ 55 by omega), ku_nea (show a + 3 ≠ 58 by omega), kst_out o3, ku_nea (show a + 4 ≠ 55 by omega), ku_nea (show a + 4 ≠ 58 by omega), kst_out o4, ku_nea (show b + 3 ≠ 55 by omega), ku_nea (show b + 3 ≠ 58 by omega), kst_out p3]
        rw [ev, kpush_s, B64_98, ksI_m ks56 hm e7, kO_s, kg8_4, kO_s, kg8_0, kO_s, ku_nea (show 54 ≠ 56 by omega), ku_nea (show 54 ≠ 55 by omega), ku_nea (show 54 ≠ 58 by omega), em, ksI_m ks58 (show t < 7 by omega) e7, kO_s, kg8_0, kO_s, ku_nea (show 54 ≠ 58 by omega), ku_nea (show 54 ≠ 56 by omega), ku_nea (show 54 ≠ 55 by omega), ku_nea (show 54 ≠ 58 by omega), em, nI_add1, kp8_0, kO_s, ← hst, B64_120, nI_add1, ih (t + 1) (by omega)]
      · have hst : kst I a b day nj (t + 1) = ku (kst I a b day nj t) 58 t (-1) := by
          rw [kst, if_neg (fun q => hq q.2)]
        rw [if_neg (nI_nlt (by omega) (by omega)), B64_120, nI_add1, ← hst, ih (t + 1) (by omega)]
    · have hst : kst I a b day nj (t + 1) = ku (kst I a b day nj t) 58 t (-1) := by
        rw [kst, if_neg (fun q => hd q.1)]
      rw [if_neg hd, B64_120, nI_add1, ← hst, ih (t + 1) (by omega)]
/-- Sitting.sitOn -/
theorem sp64 {day : Int32} {nj nc : Nat} {C : Nat → Nat} (ha : kshp a = some (.inl 6)) (hb : kshp b = some (.inl 9)) (hnj : nj ≤ 7) (hnc : nc ≤ 7) (ej : I a 0 = nI nj) (ec : I a 1 = nI nc) (hC : ∀ k, k < nj → I (b + 4) k = nI (C k) ∧ C k < nj) : kX xs (d + 3) 64 0 [some (.ref 54), some (.ref a), some (.ref b), some (.int day), none] [] (kmm I J rf g) R = R none (kmm (kst I a b day nj nc) J rf g) := by
  rw [B64_0, kp8_0, kO_s]
  exact sp64_8 ha hb hnj hnc ej ec hC nc 0 (by omega)
end SIT
