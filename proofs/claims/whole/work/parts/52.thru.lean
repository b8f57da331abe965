/-! holdThrough -/
section CTHRU
variable {xs : List Int32} {a b b2 : Nat} {I I' : Nat → Nat → Int32} {J : Nat → Nat → Int64} {rf : Nat → Nat} {g : Nat} {r : aRl} {s : aSt}
/-- Sitting.holdThrough -/
theorem sp66e (ha : kshp a = some (.inl 6)) (hb : kshp b = some (.inl 9)) (hb2 : kshp b2 = some (.inl 9)) (hbb : b2 ≠ b) (vr : vRl r) (vs : vSt r s) (hr : cRl I a r) (hs : cSt I b s) {day : Nat} (hd : day < 4) : ∃ I', cDealt I' r (nxt r s day) ∧ cSt I' b2 (pass r (nxt r s day)) ∧ (∀ x k, x < 54 ∨ 61 < x → x ≠ a + 7 → x < b2 ∨ b2 + 4 < x → I' x k = I x k) ∧ ∀ d R, kX xs (d + 5) 66 0 [some (.ref 54), some (.ref a), some (.ref b), some (.ref b2), some (.int (nI day)), none, none] [] (kmm I J rf g) R = R none (kmm I' J rf g) := by
  obtain ⟨o1, o2, o3⟩ := koff ha hb2
  have hnx := vs.nx
  obtain ⟨I1, c1, f1, e1⟩ := sp87e (xs := xs) (J := J) (rf := rf) (g := g) hb2 hb hbb hs
  have hk0 : (day + 4 - s.nx) % 4 < 4 := Nat.mod_lt _ (by omega)
  have L : ∃ I2, (cSt I2 b2 (adv r s ((day + 4 - s.nx) % 4)) ∧ ∀ x k, x < 54 ∨ 61 < x → x ≠ a + 7 → x < b2 ∨ b2 + 4 < x → I2 x k = I x k) ∧ (fun (d : Nat) (R : Option Value → KW → Prop) => kX xs (d + 5) 66 11 [some (.ref 54), some (.ref a), none, some (.ref b2), some (.int (nI day)), some (.int 0), some (.int (nI 0))] [] (kmm I1 J rf g) R) = (fun d R => kX xs (d + 5) 66 11 [some (.ref 54), some (.ref a), none, some (.ref b2), some (.int (nI day)), some (.int 0), some (.int (nI ((day + 4 - s.nx) % 4)))] [] (kmm I2 J rf g) R) := by
    refine kloop (n := (day + 4 - s.nx) % 4) (s0 := I1) (fun i I2 => cSt I2 b2 (adv r s i) ∧ ∀ x k, x < 54 ∨ 61 < x → x ≠ a + 7 → x < b2 ∨ b2 + 4 < x → I2 x k = I x k) (fun i I2 => fun (d : Nat) (R : Option Value → KW → Prop) => kX xs (d + 5) 66 11 [some (.ref 54), some (.ref a), none, some (.ref b2), some (.int (nI day)), some (.int 0), some (.int (nI i))] [] (kmm I2 J rf g) R) ⟨c1, fun x k _ _ h3 => f1 x k h3⟩ ?_
    intro i I2 hi ⟨c2, f2⟩
    have hr2 : cRl I2 a r := hr.keep (fun x k h1 h2 => f2 x k (by omega) (by omega) (by omega))
    obtain ⟨I3, q1, q2, q3, q4⟩ := sp65e (xs := xs) (J := J) (rf := rf) (g := g) ha hb2 vr (adv_v vr vs i) hr2 c2
    refine ⟨I3, ⟨q2, fun x k h1 h2 h3 => by rw [q3 x k h1 h2 h3, f2 x k h1 h2 h3]⟩, ?_⟩
    funext d R
    have hne : ¬ nI (adv r s i).nx = nI day := by
      have := adv_nx (r := r) hnx i
      rw [nI_inj (by omega) (by omega)]
      omega
    rw [B66_11, n_4, if_pos (nI_lt (by omega) (by omega)), B66_17, if_pos rfl, B66_22, kg9_0 hb2, kO_s, c2.nx, if_neg hne, B66_35, B66_36, krecv_m ks54, kcond_t, q4, kpush_n, B66_44, nI_add1]
  obtain ⟨I2, ⟨c2, f2⟩, e2⟩ := L
  have hr2 : cRl I2 a r := hr.keep (fun x k h1 h2 => f2 x k (by omega) (by omega) (by omega))
  obtain ⟨I3, q1, q2, q3, q4⟩ := sp65e (xs := xs) (J := J) (rf := rf) (g := g) ha hb2 vr (nxt_v (day := day) vr vs) hr2 c2
  refine ⟨I3, q1, q2, fun x k h1 h2 h3 => by rw [q3 x k h1 h2 h3, f2 x k h1 h2 h3], fun d R => ?_⟩
  have e0 : I2 b2 0 = nI day := by rw [c2.nx]; exact congrArg nI (nxt_nx hnx hd)
  have e10 : ¬ (1 : Int32) = 0 := by decide
  rw [B66_0, krecv_m hb2, kcond_t, e1, kpush_n, B66_5, show some (Value.int 0) = some (Value.int (nI 0)) from rfl]
  have e2' := congrFun (congrFun e2 d) R
  rw [show (some (Value.int 0) : Option Value) = some (Value.int (nI 0)) from rfl] at e2'
  rw [e2', B66_11, n_4, if_pos (nI_lt (by omega) (by omega)), B66_17, if_pos (show nI 0 = 0 from rfl), B66_22, kg9_0 hb2, kO_s, e0, if_pos rfl, B66_31, B66_36, krecv_m ks54, kcond_t, q4, kpush_n, B66_44, nI_add1, B66_11]
  by_cases hk : (day + 4 - s.nx) % 4 + 1 < 4
  · rw [n_4, if_pos (nI_lt hk (by omega)), B66_17, if_neg e10, B66_50]
  · rw [n_4, if_neg (nI_nlt (by omega) (by omega)), B66_50]
end CTHRU
