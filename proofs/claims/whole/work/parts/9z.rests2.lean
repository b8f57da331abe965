/-! rests of the model -/
theorem rM_keep {B : Nat → Bool} {x : Int32} : ∀ f n k i, (∀ n', n ≤ n' → n' < n + f → nI n' ≠ x) → (rM B x f n k i).2 = i := by
  intro f
  induction f with
  | zero => intro n k i _; rfl
  | succ f ih =>
    intro n k i h
    rw [rM]
    by_cases q : B k = true
    · rw [if_pos q, if_neg (h n (Nat.le_refl _) (by omega)), ih (n + 1) (k + 1) i (fun n' h1 h2 => h n' (by omega) (by omega))]
    · rw [if_neg q, ih n (k + 1) i (fun n' h1 h2 => h n' h1 (by omega))]
theorem rM_1 {B : Nat → Bool} : ∀ f n k i, n + f ≤ 8 → rW B (-1) f n k = some (nI (rM B (-1) f n k i).1) := by
  intro f
  induction f with
  | zero => intro n k i _; rw [rW, if_pos rfl]; rfl
  | succ f ih =>
    intro n k i h
    rw [rW, rM]
    by_cases q : B k = true
    · have hn : ¬ nI n = -1 := by rw [nI_m1 (show n < 2147483648 by omega)]; exact fun z => z
      rw [if_pos q, if_pos q, if_neg hn, if_neg hn]
      exact ih (n + 1) (k + 1) i (by omega)
    · rw [if_neg q, if_neg q]
      exact ih n (k + 1) i (by omega)
theorem rM_2 {B : Nat → Bool} {x : Int32} (hx : ¬ x = -1) : ∀ f n k, n + f ≤ 8 → k + f ≤ 8 → rW B x f n k = if (rM B x f n k (-1)).2 < 0 then none else some (rM B x f n k (-1)).2 := by
  intro f
  induction f with
  | zero =>
    intro n k _ _
    rw [rW, if_neg hx]
    rfl
  | succ f ih =>
    intro n k h h'
    rw [rW, rM]
    by_cases q : B k = true
    · rw [if_pos q, if_pos q]
      by_cases q2 : nI n = x
      · rw [if_pos q2, if_pos q2, rM_keep f (n + 1) (k + 1) (nI k) (fun n' h1 h2 z => ?_), if_neg (nI_nn (by omega))]
        rw [← q2, nI_inj (by omega) (by omega)] at z
        omega
      · rw [if_neg q2, if_neg q2]
        exact ih (n + 1) (k + 1) (by omega) (by omega)
    · rw [if_neg q, if_neg q]
      exact ih n (k + 1) (by omega) (by omega)
def rsV (o : Option Int32) : Int32 := match o with
  | some v => v
  | none => 0
def rsT (o : Option Int32) : Int32 := match o with
  | some _ => 0
  | none => 1
section RT
variable {xs : List Int32} {d : Nat} {I : Nat → Nat → Int32} {J : Nat → Nat → Int64} {rf : Nat → Nat} {g : Nat} {R : Option Value → KW → Prop} {p q r x : Int32}
theorem m_268e {i0 : Nat} {i7 : Int32} {ok : Int32} (o : Option Int32) (h : (ok = 0 ∧ o = none) ∨ (¬ ok = 0 ∧ x < 0 ∧ o = some (nI i0)) ∨ (¬ ok = 0 ∧ ¬ x < 0 ∧ o = if i7 < 0 then none else some i7)) : kX xs d 268 174 [some (.ref 185), none, none, none, some (.int x), some (.int ok), some (.int (nI i0)), some (.int i7), none, none, none, none] [] (kmm I J rf g) R = R (some (.int (rsV o))) (kmm (ku I 185 0 (rsT o)) J rf g) := by
  have e1 : ∀ R, kX xs d 268 195 [some (.ref 185), none, none, none, some (.int x), none, some (.int (nI i0)), some (.int i7), none, none, none, none] [.int 1, .ref 185] (kmm I J rf g) R = R (some (.int 0)) (kmm (ku I 185 0 1) J rf g) := fun R => by rw [B268_195, kp12_0, kO_s, kg12_0, kO_s, ku_same, if_pos (by decide), B268_205, B268_221]
  have e0 : ∀ R, kX xs d 268 195 [some (.ref 185), none, none, none, some (.int x), none, some (.int (nI i0)), some (.int i7), none, none, none, none] [.int 0, .ref 185] (kmm I J rf g) R = if x < 0 then R (some (.int (nI i0))) (kmm (ku I 185 0 0) J rf g) else R (some (.int i7)) (kmm (ku I 185 0 0) J rf g) := fun R => by
    rw [B268_195, kp12_0, kO_s, kg12_0, kO_s, ku_same, if_neg (by decide), B268_209]
    by_cases z : x < 0
    · rw [if_pos z, if_pos z, B268_214, B268_221]
    · rw [if_neg z, if_neg z, B268_219, B268_221]
  rw [B268_174]
  rcases h with ⟨h1, h2⟩ | ⟨h1, h2, h3⟩ | ⟨h1, h2, h3⟩
  · rw [if_pos h1, B268_194, e1, h2]; rfl
  · rw [if_neg h1, B268_180, if_pos h2, B268_190, e0, if_pos h2, h3]; rfl
  · rw [if_neg h1, B268_180, if_neg h2, B268_185]
    by_cases z : i7 < 0
    · rw [if_pos z] at h3
      rw [if_pos z, B268_194, e1, h3]; rfl
    · rw [if_neg z] at h3
      rw [if_neg z, B268_190, e0, if_neg h2, h3]; rfl
theorem m_268 : kX xs (d + 1) 268 0 [some (.ref 185), some (.int p), some (.int q), some (.int r), some (.int x), none, none, none, none, none, none, none] [] (kmm I J rf g) R = R (some (.int (rsV (aRst p q r x)))) (kmm (ku I 185 0 (rsT (aRst p q r x))) J rf g) := by
  have kw : ∀ y : Int32, (if y < 0 then (0 : Int32) else if nI 9 < y then 0 else 1) = kwithin y 0 (nI 9) := fun _ => rfl
  have bad : ∀ R, kX xs (d + 1) 268 40 [some (.ref 185), some (.int p), some (.int q), some (.int r), some (.int x), none, none, none, none, none, none, none] [] (kmm I J rf g) R = R (some (.int (rsV none))) (kmm (ku I 185 0 (rsT none)) J rf g) := fun R => by
    rw [B268_40, B268_41, B268_52, if_pos (by decide), B268_58, if_pos rfl, n_0]
    exact m_268e (i0 := 0) none (Or.inl ⟨rfl, rfl⟩)
  unfold aRst
  rw [B268_0, c8_9, sp171w, kw, kpush_s, B268_7]
  by_cases h1 : kwithin p 0 (nI 9) = 0
  · rw [if_pos h1, if_pos h1, bad]
  · rw [if_neg h1, if_neg h1, B268_10, c8_9, sp171w, kw, kpush_s, B268_17]
    by_cases h2 : kwithin q 0 (nI 9) = 0
    · rw [if_pos h2, if_pos h2, bad]
    · rw [if_neg h2, if_neg h2, B268_20, c8_9, sp171w, kw, kpush_s, B268_27]
      by_cases h3 : kwithin r 0 (nI 9) = 0
      · rw [if_pos h3, if_pos h3, bad]
      · rw [if_neg h3, if_neg h3, B268_30]
        by_cases h4 : x < -1
        · rw [if_pos h4, if_pos h4, bad]
        · rw [if_neg h4, if_neg h4, B268_36, B268_41]
          have L := m_268l (xs := xs) (d := d) (w := kmm I J rf g) (R := R) (p := p) (q := q) (r := r) (x := x) (ok := 1) (by decide) 4 0 0 (-1) rfl (Nat.le_refl 0)
          have L' : kX xs (d + 1) 268 52 [some (.ref 185), some (.int p), some (.int q), some (.int r), some (.int x), some (.int 1), some (.int 0), some (.int (-1)), some (.int 0), none, none, none] [] (kmm I J rf g) R = kX xs (d + 1) 268 174 [some (.ref 185), none, none, none, some (.int x), some (.int 1), some (.int (nI (rM (rB p q r) x 4 0 0 (-1)).1)), some (.int (rM (rB p q r) x 4 0 0 (-1)).2), none, none, none, none] [] (kmm I J rf g) R := L
          rw [L']
          refine m_268e _ (Or.inr ?_)
          by_cases h5 : x = -1
          · refine Or.inl ⟨by decide, by rw [h5]; decide, ?_⟩
            rw [h5]
            exact rM_1 4 0 0 (-1) (by omega)
          · refine Or.inr ⟨by decide, fun z => ?_, rM_2 h5 4 0 0 (by omega) (by omega)⟩
            have a1 := Int32.lt_iff_toInt_lt.mp z
            have a2 : ¬ x.toInt < (-1 : Int32).toInt := fun y => h4 (Int32.lt_iff_toInt_lt.mpr y)
            have a3 : (-1 : Int32).toInt = -1 := by decide
            have a4 : (0 : Int32).toInt = 0 := by decide
            have a5 : x.toInt = -1 := by omega
            exact h5 (Int32.toInt_inj.mp (by rw [a5, a3]))
end RT
