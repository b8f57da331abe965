/-! the lines of a term that is read are well made -/
section WA
variable {T : aTp} {s : aPS} {N : aNm} {l : aLn} {r : aRl}
theorem lnL_v (h : vLn r l) (hF : s.F = 0) : vLn r (lnL T N r.nj r.nc l s) := by
  have hn40 := lnL_le (T := T) (N := N) (nj := r.nj) (nc := r.nc) (s := s) h.n
  unfold lnL at hn40 ⊢
  by_cases z : (lnS T N r.nj r.nc l.n s).F = 0
  · rw [if_pos z] at hn40 ⊢
    unfold lnS at z
    by_cases q1 : 135 ≤ kdO T s ∧ kdO T s ≤ 138
    · rw [if_pos q1] at z
      by_cases q2 : l.n < 40
      · rw [if_pos q2] at z
        have f3 : (ln3 T N r.nj r.nc s).F = 0 := tak_F z
        have ww : kdO T s - 135 ≤ 3 := by omega
        have key : (kdO T s - 135 = 1 → lnX T N r.nj r.nc s < r.nc ∧ lnY T N r.nj r.nc s < 4) ∧ (kdO T s - 135 = 2 → lnX T N r.nj r.nc s < r.nj ∧ lnY T N r.nj r.nc s ≤ 20) ∧ (kdO T s - 135 = 3 → lnX T N r.nj r.nc s < r.nj ∧ lnY T N r.nj r.nc s < r.nj) := by
          by_cases q3 : kdO T s = 135
          · have e0 : kdO T s - 135 = 0 := by omega
            rw [e0]
            exact ⟨fun y => absurd y (by decide), fun y => absurd y (by decide), fun y => absurd y (by decide)⟩
          · unfold ln3 at f3
            rw [if_neg q3] at f3
            obtain ⟨f2, n2⟩ := iF_G f3
            have eY : lnY T N r.nj r.nc s = tm2v T N r.nj (kdO T s - 135) (ln2 T N r.nj r.nc s) := if_neg q3
            have f2' := f2
            have e2 : ln2 T N r.nj r.nc s = tm1 T N r.nj r.nc (kdO T s - 135) (stp s) := rfl
            rw [eY]
            generalize ln2 T N r.nj r.nc s = u at f2 f2' n2 e2
            have e1 : lnX T N r.nj r.nc s = tm1v T N r.nj r.nc (kdO T s - 135) (stp s) := rfl
            rw [e1]
            rw [e1] at n2
            rw [e2] at f2'
            refine ⟨fun y => ?_, fun y => ?_, fun y => ?_⟩
            · rw [y] at f2' n2 ⊢
              have b1 : fO N.c (tV T (pT T (stp s).k)) r.nc < r.nc := (tld_F (s := stp s) (bm := 0) hF f2').1
              have b2 : tV T (pT T u.k) ≤ 3 := tkN_F f2 n2
              refine ⟨b1, ?_⟩
              show tV T (pT T u.k) < 4
              omega
            · rw [y] at f2' n2 ⊢
              exact ⟨(tld_F (s := stp s) (bm := 0) hF f2').1, tkN_F f2 n2⟩
            · rw [y] at f2' n2 ⊢
              exact ⟨(tld_F (s := stp s) (bm := 0) hF f2').1, (tld_F f2 n2).1⟩
        obtain ⟨k1, k2, k3⟩ := key
        generalize kdO T s - 135 = w at ww k1 k2 k3 hn40
        generalize lnX T N r.nj r.nc s = x at k1 k2 k3 hn40
        generalize lnY T N r.nj r.nc s = y at k1 k2 k3 hn40
        have cs : ∀ k, k < l.n + 1 → k < l.n ∨ k = l.n := fun k hk => by omega
        refine ⟨hn40, fun k hk => ?_, fun k hk e => ?_, fun k hk e => ?_, fun k hk e => ?_⟩
        · rcases cs k hk with c | c
          · show ku1 l.w l.n w k ≤ 3
            rw [ku1_n (Nat.ne_of_lt c)]; exact h.w k c
          · show ku1 l.w l.n w k ≤ 3
            rw [c, ku1_s]; exact ww
        all_goals
          have e' : ku1 l.w l.n w k = _ := e
          first | show ku1 l.a l.n x k < _ ∧ ku1 l.v l.n y k < _ | show ku1 l.a l.n x k < _ ∧ ku1 l.v l.n y k ≤ _
          rcases cs k hk with c | c
          · rw [ku1_n (Nat.ne_of_lt c)] at e'
            rw [ku1_n (Nat.ne_of_lt c), ku1_n (Nat.ne_of_lt c)]
            first | exact h.p k c e' | exact h.q k c e' | exact h.c k c e'
          · rw [c, ku1_s] at e'
            rw [c, ku1_s, ku1_s]
            first | exact k1 e' | exact k2 e' | exact k3 e'
      · rw [if_neg q2] at z; exact absurd z (wrgF (by omega) hF)
    · rw [if_neg q1] at z; exact absurd z (wrgF (by omega) hF)
  · rw [if_neg z]; exact h
theorem rdL_v : ∀ f (p : aPS × aLn), vLn r p.2 → vLn r (rdL T N r.nj r.nc f p).2 := by
  intro f
  induction f with
  | zero => exact fun p h => h
  | succ f ih =>
    intro p h
    unfold rdL
    by_cases q : p.1.F = 0 ∧ kdO T p.1 ≠ 0
    · rw [if_pos q]; exact ih _ (lnL_v h q.1)
    · rw [if_neg q]; exact h
theorem tmT_v : vLn r (tmT T N r.nj r.nc).2 := rdL_v 1001 _ ⟨Nat.zero_le _, fun k hk => absurd hk (Nat.not_lt_zero k), fun k hk => absurd hk (Nat.not_lt_zero k), fun k hk => absurd hk (Nat.not_lt_zero k), fun k hk => absurd hk (Nat.not_lt_zero k)⟩
end WA
