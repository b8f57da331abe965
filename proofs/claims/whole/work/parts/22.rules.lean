/-! rules of the logical machine without its counter -/
theorem ex_if {c : Prop} {i : Decidable c} {A B : Nat → Prop} : (∃ n, @ite Prop c i (A n) (B n)) = @ite Prop c i (∃ n, A n) (∃ n, B n) := by split <;> rfl
theorem ex_kO {α : Type} {o : Option α} {A : Nat → α → Prop} : (∃ n, kO o (A n)) = kO o (fun x => ∃ n, A n x) := by
  cases o with
  | none => exact propext ⟨fun ⟨_, h⟩ => h, fun h => h.elim⟩
  | some x => rfl
theorem ex_cond {c : Bool} {A : Nat → Prop} : (∃ n, bif c then A n else False) = (bif c then (∃ n, A n) else False) := by
  cases c
  · exact propext ⟨fun ⟨_, h⟩ => h, fun h => h.elim⟩
  · rfl
theorem ex_const {P : Prop} : (∃ _ : Nat, P) = P := propext ⟨fun ⟨_, h⟩ => h, fun h => ⟨0, h⟩⟩
theorem ex_kE {xs : List Int32} {d m pc : Nat} {L : KL} {st : List Value} {w : KW} {Q : Option Value → KW → Prop} : (∃ n, kE xs (n + 0) d m pc L st w Q) = kX xs d m pc L st w Q := rfl
theorem ex_call {xs : List Int32} {d d' m pc m' : Nat} {L L' : KL} {st : List Value} {w : KW} {Q : Option Value → KW → Prop} : (∃ n, kE xs (n + 0) d' m' 0 L' [] w (fun r w' => kE xs (n + 0) d m pc L (kpush r st) w' Q)) = kX xs d' m' 0 L' [] w (fun r w' => kX xs d m pc L (kpush r st) w' Q) := by
  refine propext ⟨fun ⟨n, h⟩ => ?_, fun h => ?_⟩
  · obtain ⟨r, w', h1, h2⟩ := kE_out _ _ _ _ _ _ _ _ h
    exact ⟨n + 0, h2 (n + 0) _ (Nat.le_refl _) ⟨n + 0, h1⟩⟩
  · obtain ⟨n, h⟩ := h
    obtain ⟨r, w1, h1, h2⟩ := kE_out n _ _ _ _ _ _ _ h
    obtain ⟨n2, g⟩ := h1
    obtain ⟨r3, w3, g1, g2⟩ := kE_out n2 _ _ _ _ _ _ _ g
    exact ⟨n + n2, h2 (n + n2 + 0) _ (by omega) (g2 (n + n2 + 0) Q (by omega) g1)⟩
theorem kX_blk {xs : List Int32} {d m pc : Nat} {L : KL} {st : List Value} {w : KW} {Q : Option Value → KW → Prop} {F : Nat → Prop} {P : Prop} (K : Nat) (h : ∀ n, kE xs (n + K) d m pc L st w Q = F n) (hP : (∃ n, F n) = P) : kX xs d m pc L st w Q = P := by
  rw [← hP]
  refine propext ⟨fun hx => ?_, fun ⟨n, hn⟩ => kX.of K ⟨n, by rw [h n]; exact hn⟩⟩
  obtain ⟨n, hn⟩ := hx.at K
  exact ⟨n, by rw [← h n]; exact hn⟩
/-- one instruction, asked twice -/
theorem kstep_both {xs : List Int32} {m d : Nat} {i : Instr} {len pc : Nat} {L : KL} {st : List Value} {w : KW} {next next' : Nat → KL → List Value → KW → Prop} {ret ret' : Option Value → Prop} {call call' : Nat → List Value → List Value → Prop} (h : kstep xs m d i len pc L st w next ret call) (h' : kstep xs m d i len pc L st w next' ret' call') :
    (∃ a b c e, next a b c e ∧ next' a b c e) ∨ (∃ r, ret r ∧ ret' r) ∨ (∃ a b c, call a b c ∧ call' a b c) := by
  rcases kstep_out h with ⟨a, b, c, e, h1, h2⟩ | ⟨r, h1, h2⟩ | ⟨a, b, c, h1, h2⟩
  · rw [h2] at h'
    exact Or.inl ⟨a, b, c, e, h1, h'⟩
  · rw [h2] at h'
    exact Or.inr (Or.inl ⟨r, h1, h'⟩)
  · rw [h2] at h'
    exact Or.inr (Or.inr ⟨a, b, c, h1, h'⟩)
/-- two ends of one run are one -/
theorem kE_both {xs : List Int32} : ∀ (n d m pc : Nat) (L : KL) (st : List Value) (w : KW) (Q Q' : Option Value → KW → Prop), kE xs n d m pc L st w Q → kE xs n d m pc L st w Q' → ∃ r w', Q r w' ∧ Q' r w' := by
  intro n
  induction n with
  | zero => intro d m pc L st w Q Q' h; exact h.elim
  | succ n ih =>
    intro d m pc L st w Q Q' h h'
    obtain ⟨c, hc, h⟩ := kO_some (show kO (kcode m pc) _ from h)
    obtain ⟨c', hc', h'⟩ := kO_some (show kO (kcode m pc) _ from h')
    cases hc.symm.trans hc'
    have hb := kstep_both h h'
    rcases hb with ⟨a, b, c1, e, h1, h2⟩ | ⟨r, h1, h2⟩ | ⟨a, b, c1, h1, h2⟩
    · exact ih _ _ _ _ _ _ _ _ h1 h2
    · exact ⟨r, w, h1, h2⟩
    · cases d with
      | zero => exact h1.elim
      | succ d =>
        obtain ⟨r, w', g1, g2⟩ := ih _ _ _ _ _ _ _ _ h1 h2
        exact ih _ _ _ _ _ _ _ _ g1 g2
/-- an end that is known says all -/
theorem kX_eq {xs : List Int32} {d m pc : Nat} {L : KL} {st : List Value} {w w0 : KW} {r0 : Option Value} (h : kX xs d m pc L st w (fun r w' => r = r0 ∧ w' = w0)) (Q : Option Value → KW → Prop) : kX xs d m pc L st w Q = Q r0 w0 := by
  obtain ⟨n, h⟩ := h
  obtain ⟨r, w', ⟨rfl, rfl⟩, h2⟩ := kE_out n _ _ _ _ _ _ _ h
  refine propext ⟨fun ⟨n1, h1⟩ => ?_, fun hq => ⟨n, h2 n Q (Nat.le_refl n) hq⟩⟩
  obtain ⟨r3, w3, g1, g2⟩ := kE_out n1 _ _ _ _ _ _ _ h1
  have a1 := h2 (n + n1) (fun r4 w4 => r4 = r ∧ w4 = w') (by omega) ⟨rfl, rfl⟩
  have a2 := g2 (n + n1) (fun r4 w4 => r4 = r3 ∧ w4 = w3) (by omega) ⟨rfl, rfl⟩
  obtain ⟨r5, w5, ⟨rfl, rfl⟩, ⟨rfl, rfl⟩⟩ := kE_both _ _ _ _ _ _ _ _ _ a1 a2
  exact g1
