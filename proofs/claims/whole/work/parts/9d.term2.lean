/-! the class reads a term -/
def ln0 : aLn := aLn.mk 0 (fun _ => 0) (fun _ => 0) (fun _ => 0)
section TF
variable {xs : List Int32} {d : Nat} {I I' I2 : Nat → Nat → Int32} {J J' : Nat → Nat → Int64} {rf : Nat → Nat} {g : Nat} {R : Option Value → KW → Prop} {w : KW} {T : aTp} {a t ra nj nc : Nat} {N : aNm}
/-- Reader.readTerm -/
theorem c_42 {ll : Nat} {lo la : Nat → Nat} (v : vTp T) (ha : 4 ≤ a) (ht : kshp t = some (.inl 10)) (ht1 : 4 ≤ t) (hta : a + 1 < t ∨ t + 3 < a) (hr : kshp ra = some (.inl 6)) (hra : 4 ≤ ra ∧ ra ≠ a ∧ ra ≠ a + 1) (hrt : ra < t ∨ t + 3 < ra) (h7 : nj ≤ 7) (h7c : nc ≤ 7) (hv : vNm nj nc N) (h0 : I ra 0 = nI nj) (h1 : I ra 1 = nI nc) (hN : cNm J ra nj nc N) (h : cTp I T) (hl : I a 0 = nI ll) (hc : ∀ n, n < ll → I (a + 1) n = enc (lo n) (la n)) : ∃ I' J', cPS I' J' T a (rdL T N nj nc 1001 (aPS.mk 0 0 ll lo la, ln0)).1 ∧ cLn I' t (rdL T N nj nc 1001 (aPS.mk 0 0 ll lo la, ln0)).2 ∧ cFt a t I I' ∧ jFr J J' ∧ ∀ d R, kX xs (d + 8) 42 0 [some (.ref 3), some (.ref t), some (.ref ra), none, none] [] (kmm I J rf g) R = R (some (.int (nI (rdL T N nj nc 1001 (aPS.mk 0 0 ll lo la, ln0)).1.F))) (kmm I' J' rf g) := by
  have h' : cTp (ku I t 0 0) T := ⟨by rw [ku_nea (by omega)]; exact h.n, fun k hk => by rw [ku_nea (by omega)]; exact h.t k hk⟩
  obtain ⟨I1, J1, a1, a2, a3, a4⟩ := c_15 (xs := xs) (J := J) (rf := rf) (g := g) (a := a) (ll := ll) (lo := lo) (la := la) v (by omega) h' (by rw [ku_nea (by omega)]; exact hl) (fun n hn => by rw [ku_nea (by omega)]; exact hc n hn)
  have f1 : cFt a t I I1 := fun x k p1 p2 p3 p4 p5 => by rw [a2 x k p1 p3 p4, ku_nea (by omega)]
  have l1 : cLn I1 t ln0 := ⟨by rw [a2 _ _ (by omega) (by omega) (by omega), ku_same]; rfl, fun k hk => absurd hk (Nat.not_lt_zero k), fun k hk => absurd hk (Nat.not_lt_zero k), fun k hk => absurd hk (Nat.not_lt_zero k)⟩
  obtain ⟨I2, J2, b1, b0, b2, b3, b4⟩ := c_42l (xs := xs) (rf := rf) (g := g) v ha ht ht1 hta hr hra hrt h7 h7c hv 1001 0 I1 J1 (aPS.mk 0 0 ll lo la) ln0 (by omega) ((cFt_r hra hrt f1 0).trans h0) ((cFt_r hra hrt f1 1).trans h1) (cNm_k hra.1 a3 hN) a1 l1 (Nat.zero_le 40)
  refine ⟨I2, J2, b1, b0, f1.trans b2, a3.trans b3, fun d R => ?_⟩
  rw [B42_0, kp10_0 ht, kO_s, kg5_0, kO_s, krecv_m ks1, kcond_t, show d + 7 = d + 2 + 5 from rfl, a4, kpush_n, B42_12]
  exact b4 d R
end TF
