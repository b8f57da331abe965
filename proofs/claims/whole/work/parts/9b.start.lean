/-! the class's lexer starts -/
section SX
variable {xs : List Int32} {d : Nat} {I I' I2 : Nat → Nat → Int32} {J J' : Nat → Nat → Int64} {rf : Nat → Nat} {g : Nat} {R : Option Value → KW → Prop} {w : KW} {T : aTp} {s : aPS} {a : Nat}
/-- Lexer.start -/
theorem c_15 {ll : Nat} {lo la : Nat → Nat} (v : vTp T) (ha : 3 ≤ a) (h : cTp I T) (hl : I a 0 = nI ll) (hc : ∀ n, n < ll → I (a + 1) n = enc (lo n) (la n)) : ∃ I' J', cPS I' J' T a (aPS.mk 0 0 ll lo la) ∧ cFr a I I' ∧ jFr J J' ∧ ∀ d R, kX xs (d + 5) 15 0 [some (.ref 1)] [] (kmm I J rf g) R = R none (kmm I' J' rf g) := by
  have h' : cTp (ku (ku I 1 2 0) 1 7 0) T := ⟨by rw [ku_nek (by omega), ku_nek (by omega)]; exact h.n, fun k hk => by rw [ku_nea (by omega), ku_nea (by omega)]; exact h.t k hk⟩
  have fr : ∀ x k, ¬ (x = 1 ∧ 2 ≤ k ∧ k ≤ 7) → ku (ku I 1 2 0) 1 7 0 x k = I x k := fun x k hx => by rw [ku_ne (by omega), ku_ne (by omega)]
  obtain ⟨I1, J1, t1, f1, j1, e1⟩ := sp18 (xs := xs) (J := J) (rf := rf) (g := g) (i := 0) h' v (Nat.zero_le _) (by rw [ku_nek (by omega), ku_same]; rfl)
  refine ⟨I1, J1, ⟨t1, ⟨by rw [f1 _ _ (by omega)]; exact h'.n, fun k hk => by rw [f1 _ _ (by omega)]; exact h'.t k hk⟩, ?_, ?_, fun n hn => ?_⟩, fun x k p _ _ => ?_, j1, fun d R => ?_⟩
  · rw [f1 _ _ (by omega), ku_same]; rfl
  · rw [f1 _ _ (by omega), fr _ _ (by omega)]; exact hl
  · rw [f1 _ _ (by omega), fr _ _ (by omega)]; exact hc n hn
  · rw [f1 _ _ (by omega), fr _ _ p]
  · rw [B15_0, kp2_2, kO_s, kp2_7, kO_s, krecv_m ks1, kcond_t, e1, kpush_n, B15_14]
end SX
