/-! rows for walking by simp: constants, small numbers, what typed memory answers -/
theorem kO_s {α : Type} (x : α) (k : α → Prop) : kO (some x) k = k x := rfl
theorem kcond_t (A : Prop) : (bif true then A else False) = A := rfl
theorem kpush_s (v : Value) (st : List Value) : kpush (some v) st = v :: st := rfl
theorem kpush_n (st : List Value) : kpush none st = st := rfl
theorem nI_lt_eq {a b : Nat} (ha : a < 2147483648) (hb : b < 2147483648) : (nI a < nI b) = (a < b) := by
  refine propext ⟨fun h => ?_, fun h => nI_lt h (by omega)⟩
  by_cases q : a < b
  · exact q
  · exact absurd h (nI_nlt (by omega) (by omega))
theorem nI_inj {a b : Nat} (ha : a < 2147483648) (hb : b < 2147483648) : (nI a = nI b) = (a = b) := by
  refine propext ⟨fun h => ?_, fun h => by rw [h]⟩
  have := congrArg Int32.toNatClampNeg h
  rw [nI_clamp (by omega), nI_clamp (by omega)] at this
  exact this
theorem c8_7 : (Int8.ofInt 7).toInt32 = nI 7 := by decide
theorem c8_6 : (Int8.ofInt 6).toInt32 = nI 6 := by decide
theorem n_0 : (0 : Int32) = nI 0 := rfl
theorem n_1 : (1 : Int32) = nI 1 := rfl
theorem nI_add1 (n : Nat) : nI n + 1 = nI (n + 1) := (nI_succ n).symm
/-- a State: its arrays -/
theorem kst_arr {a : Nat} (h : kshp a = some (.inl 9)) : kshp (a + 1) = some (.inr (0, 7)) ∧ kshp (a + 2) = some (.inr (0, 7)) ∧ kshp (a + 3) = some (.inr (0, 7)) ∧ kshp (a + 4) = some (.inr (0, 7)) := by
  have hl := kshp_lt h
  have key : (List.range 209).all (fun a => !(decide (kshp a = some (.inl 9))) || (decide (kshp (a + 1) = some (.inr (0, 7))) && decide (kshp (a + 2) = some (.inr (0, 7))) && decide (kshp (a + 3) = some (.inr (0, 7))) && decide (kshp (a + 4) = some (.inr (0, 7))))) = true := by decide +kernel
  have := List.all_eq_true.mp key a (List.mem_range.mpr hl)
  simp only [h, decide_true, Bool.not_true, Bool.false_or, Bool.and_eq_true, decide_eq_true_eq] at this
  exact ⟨this.1.1.1, this.1.1.2, this.1.2, this.2⟩
theorem krf9 {rf : Nat → Nat} {a k : Nat} (h : kshp a = some (.inl 9)) : krf rf a k = a + (k - 1) := by simp only [krf, h]
section KB
variable {I : Nat → Nat → Int32} {J : Nat → Nat → Int64} {rf : Nat → Nat} {g a : Nat}
theorem kg9_0 (h : kshp a = some (.inl 9)) : kgI (kmm I J rf g) a 9 0 = some (I a 0) := kgI_m h (by decide) rfl
theorem kg9_1 (h : kshp a = some (.inl 9)) : kgI (kmm I J rf g) a 9 1 = some (I a 1) := kgI_m h (by decide) rfl
theorem kg9_2 (h : kshp a = some (.inl 9)) : kgR (kmm I J rf g) a 9 2 = some (a + 1) := by rw [kgR_m h (by decide) rfl, krf9 h]
theorem kg9_3 (h : kshp a = some (.inl 9)) : kgR (kmm I J rf g) a 9 3 = some (a + 2) := by rw [kgR_m h (by decide) rfl, krf9 h]
theorem kg9_4 (h : kshp a = some (.inl 9)) : kgR (kmm I J rf g) a 9 4 = some (a + 3) := by rw [kgR_m h (by decide) rfl, krf9 h]
theorem kg9_5 (h : kshp a = some (.inl 9)) : kgR (kmm I J rf g) a 9 5 = some (a + 4) := by rw [kgR_m h (by decide) rfl, krf9 h]
theorem kp9_0 {x : Int32} (h : kshp a = some (.inl 9)) : kpf (kmm I J rf g) a 9 0 (.int x) = some (kmm (ku I a 0 x) J rf g) := kpI_m h (by decide) rfl
theorem kp9_1 {x : Int32} (h : kshp a = some (.inl 9)) : kpf (kmm I J rf g) a 9 1 (.int x) = some (kmm (ku I a 1 x) J rf g) := kpI_m h (by decide) rfl
end KB
/-! State.chairOf -/
/-- the first place from i on, of n, that holds j; or none -/
def kfind (c : Nat → Int32) (j : Int32) : Nat → Nat → Int32
  | _, 0 => -1
  | i, n + 1 => if c i = j then nI i else kfind c j (i + 1) n
theorem sp90_2 (xs : List Int32) (d a : Nat) (I : Nat → Nat → Int32) (J : Nat → Nat → Int64) (rf : Nat → Nat) (g : Nat) (j : Int32) (ha : kshp a = some (.inl 9)) (R : Option Value → KW → Prop) : ∀ n i, i + n = 7 → kX xs d 90 2 [some (.ref a), some (.int j), some (.int (nI i))] [] (kmm I J rf g) R = R (some (.int (kfind (I (a + 4)) j i n))) (kmm I J rf g) := by
  obtain ⟨h1, h2, h3, h4⟩ := kst_arr ha
  intro n
  induction n with
  | zero =>
    intro i hi
    obtain rfl : i = 7 := by omega
    rw [B90_2, c8_7, nI_lt_eq (by omega) (by omega), if_neg (by omega), B90_26]
    rfl
  | succ n ih =>
    intro i hi
    rw [B90_2, c8_7, nI_lt_eq (by omega) (by omega), if_pos (by omega), B90_8, kg9_5 ha, kO_s, kaI_m h4 (by omega) (by omega), kO_s]
    by_cases hc : I (a + 4) i = j
    · rw [if_pos hc, B90_18, kfind, if_pos hc]
    · rw [if_neg hc, B90_20, nI_add1, ih (i + 1) (by omega), kfind, if_neg hc]
theorem sp90 (xs : List Int32) (d a : Nat) (I : Nat → Nat → Int32) (J : Nat → Nat → Int64) (rf : Nat → Nat) (g : Nat) (j : Int32) (ha : kshp a = some (.inl 9)) (R : Option Value → KW → Prop) : kX xs d 90 0 [some (.ref a), some (.int j), none] [] (kmm I J rf g) R = R (some (.int (kfind (I (a + 4)) j 0 7))) (kmm I J rf g) := by
  rw [B90_0, n_0, sp90_2 xs d a I J rf g j ha R 7 0 rfl]
