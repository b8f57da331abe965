/-! the logical machine goes on in one way: monotone, and its end is one -/
theorem kjmp_of {pc : Nat} {off : Int} {k : Nat → Prop} {t : Nat} (ht : (pc : Int) + off = (t : Int)) (h : k t) : kjmp pc off k := by
  unfold kjmp
  rw [ht]
  exact h
theorem kjmp_eq {pc : Nat} {off : Int} {k : Nat → Prop} {t : Nat} (ht : (pc : Int) + off = (t : Int)) : kjmp pc off k = k t := by
  unfold kjmp
  rw [ht]
theorem kswC_out {x : Int32} {k : Int → Prop} {dflt : Int} : ∀ (os : List Int) (lo : Int), kswC x lo os dflt k → ∃ off, k off ∧ ∀ k' : Int → Prop, kswC x lo os dflt k' = k' off := by
  intro os
  induction os with
  | nil => intro lo h; exact ⟨dflt, h, fun k' => rfl⟩
  | cons o os ih =>
    intro lo h
    simp only [kswC] at h
    split at h
    · rename_i hx
      exact ⟨o, h, fun k' => by simp only [kswC]; rw [if_pos hx]⟩
    · rename_i hx
      obtain ⟨off, h1, h2⟩ := ih _ h
      exact ⟨off, h1, fun k' => by simp only [kswC]; rw [if_neg hx]; exact h2 k'⟩
set_option maxHeartbeats 4000000 in
set_option maxRecDepth 100000 in
/-- an instruction goes on in one way -/
theorem kstep_out {xs : List Int32} {m d : Nat} {i : Instr} {len pc : Nat} {L : KL} {st : List Value} {w : KW} {next : Nat → KL → List Value → KW → Prop} {ret : Option Value → Prop} {call : Nat → List Value → List Value → Prop} (h : kstep xs m d i len pc L st w next ret call) :
    (∃ a b c e, next a b c e ∧ ∀ (next' : Nat → KL → List Value → KW → Prop) (ret' : Option Value → Prop) (call' : Nat → List Value → List Value → Prop), kstep xs m d i len pc L st w next' ret' call' = next' a b c e) ∨
    (∃ r, ret r ∧ ∀ (next' : Nat → KL → List Value → KW → Prop) (ret' : Option Value → Prop) (call' : Nat → List Value → List Value → Prop), kstep xs m d i len pc L st w next' ret' call' = ret' r) ∨
    (∃ a b c, call a b c ∧ ∀ (next' : Nat → KL → List Value → KW → Prop) (ret' : Option Value → Prop) (call' : Nat → List Value → List Value → Prop), kstep xs m d i len pc L st w next' ret' call' = call' a b c) := by
  cases i with
  | iadd =>
    dsimp only [kstep] at h
    split at h
    · exact Or.inl ⟨_, _, _, _, h, fun N' R' C' => by dsimp only [kstep]; first | done | rfl⟩
    · exact h.elim
  | isub =>
    dsimp only [kstep] at h
    split at h
    · exact Or.inl ⟨_, _, _, _, h, fun N' R' C' => by dsimp only [kstep]; first | done | rfl⟩
    · exact h.elim
  | imul =>
    dsimp only [kstep] at h
    split at h
    · exact Or.inl ⟨_, _, _, _, h, fun N' R' C' => by dsimp only [kstep]; first | done | rfl⟩
    · exact h.elim
  | iand =>
    dsimp only [kstep] at h
    split at h
    · exact Or.inl ⟨_, _, _, _, h, fun N' R' C' => by dsimp only [kstep]; first | done | rfl⟩
    · exact h.elim
  | ior =>
    dsimp only [kstep] at h
    split at h
    · exact Or.inl ⟨_, _, _, _, h, fun N' R' C' => by dsimp only [kstep]; first | done | rfl⟩
    · exact h.elim
  | ixor =>
    dsimp only [kstep] at h
    split at h
    · exact Or.inl ⟨_, _, _, _, h, fun N' R' C' => by dsimp only [kstep]; first | done | rfl⟩
    · exact h.elim
  | ishl =>
    dsimp only [kstep] at h
    split at h
    · exact Or.inl ⟨_, _, _, _, h, fun N' R' C' => by dsimp only [kstep]; first | done | rfl⟩
    · exact h.elim
  | ishr =>
    dsimp only [kstep] at h
    split at h
    · exact Or.inl ⟨_, _, _, _, h, fun N' R' C' => by dsimp only [kstep]; first | done | rfl⟩
    · exact h.elim
  | iushr =>
    dsimp only [kstep] at h
    split at h
    · exact Or.inl ⟨_, _, _, _, h, fun N' R' C' => by dsimp only [kstep]; first | done | rfl⟩
    · exact h.elim
  | ineg =>
    dsimp only [kstep] at h
    split at h
    · exact Or.inl ⟨_, _, _, _, h, fun N' R' C' => by dsimp only [kstep]; first | done | rfl⟩
    · exact h.elim
  | i2l =>
    dsimp only [kstep] at h
    split at h
    · exact Or.inl ⟨_, _, _, _, h, fun N' R' C' => by dsimp only [kstep]; first | done | rfl⟩
    · exact h.elim
  | l2i =>
    dsimp only [kstep] at h
    split at h
    · exact Or.inl ⟨_, _, _, _, h, fun N' R' C' => by dsimp only [kstep]; first | done | rfl⟩
    · exact h.elim
  | i2b =>
    dsimp only [kstep] at h
    split at h
    · exact Or.inl ⟨_, _, _, _, h, fun N' R' C' => by dsimp only [kstep]; first | done | rfl⟩
    · exact h.elim
  | i2c =>
    dsimp only [kstep] at h
    split at h
    · exact Or.inl ⟨_, _, _, _, h, fun N' R' C' => by dsimp only [kstep]; first | done | rfl⟩
    · exact h.elim
  | ladd =>
    dsimp only [kstep] at h
    split at h
    · exact Or.inl ⟨_, _, _, _, h, fun N' R' C' => by dsimp only [kstep]; first | done | rfl⟩
    · exact h.elim
  | lsub =>
    dsimp only [kstep] at h
    split at h
    · exact Or.inl ⟨_, _, _, _, h, fun N' R' C' => by dsimp only [kstep]; first | done | rfl⟩
    · exact h.elim
  | lmul =>
    dsimp only [kstep] at h
    split at h
    · exact Or.inl ⟨_, _, _, _, h, fun N' R' C' => by dsimp only [kstep]; first | done | rfl⟩
    · exact h.elim
  | land =>
    dsimp only [kstep] at h
    split at h
    · exact Or.inl ⟨_, _, _, _, h, fun N' R' C' => by dsimp only [kstep]; first | done | rfl⟩
    · exact h.elim
  | lor =>
    dsimp only [kstep] at h
    split at h
    · exact Or.inl ⟨_, _, _, _, h, fun N' R' C' => by dsimp only [kstep]; first | done | rfl⟩
    · exact h.elim
  | lshl =>
    dsimp only [kstep] at h
    split at h
    · exact Or.inl ⟨_, _, _, _, h, fun N' R' C' => by dsimp only [kstep]; first | done | rfl⟩
    · exact h.elim
  | lshr =>
    dsimp only [kstep] at h
    split at h
    · exact Or.inl ⟨_, _, _, _, h, fun N' R' C' => by dsimp only [kstep]; first | done | rfl⟩
    · exact h.elim
  | lcmp =>
    dsimp only [kstep] at h
    split at h
    · exact Or.inl ⟨_, _, _, _, h, fun N' R' C' => by dsimp only [kstep]; first | done | rfl⟩
    · exact h.elim
  | idiv =>
    dsimp only [kstep] at h
    split at h
    · split at h
      · exact h.elim
      · rename_i hne
        exact Or.inl ⟨_, _, _, _, h, fun N' R' C' => by dsimp only [kstep]; rw [if_neg hne]; first | done | rfl⟩
    · exact h.elim
  | irem =>
    dsimp only [kstep] at h
    split at h
    · split at h
      · exact h.elim
      · rename_i hne
        exact Or.inl ⟨_, _, _, _, h, fun N' R' C' => by dsimp only [kstep]; rw [if_neg hne]; first | done | rfl⟩
    · exact h.elim
  | ldiv =>
    dsimp only [kstep] at h
    split at h
    · split at h
      · exact h.elim
      · rename_i hne
        exact Or.inl ⟨_, _, _, _, h, fun N' R' C' => by dsimp only [kstep]; rw [if_neg hne]; first | done | rfl⟩
    · exact h.elim
  | lrem =>
    dsimp only [kstep] at h
    split at h
    · split at h
      · exact h.elim
      · rename_i hne
        exact Or.inl ⟨_, _, _, _, h, fun N' R' C' => by dsimp only [kstep]; rw [if_neg hne]; first | done | rfl⟩
    · exact h.elim
  | iconst k =>
    dsimp only [kstep] at h
    exact Or.inl ⟨_, _, _, _, h, fun N' R' C' => by dsimp only [kstep]; first | done | rfl⟩
  | bipush k =>
    dsimp only [kstep] at h
    exact Or.inl ⟨_, _, _, _, h, fun N' R' C' => by dsimp only [kstep]; first | done | rfl⟩
  | sipush k =>
    dsimp only [kstep] at h
    exact Or.inl ⟨_, _, _, _, h, fun N' R' C' => by dsimp only [kstep]; first | done | rfl⟩
  | lconst k =>
    dsimp only [kstep] at h
    exact Or.inl ⟨_, _, _, _, h, fun N' R' C' => by dsimp only [kstep]; first | done | rfl⟩
  | iload_n k =>
    dsimp only [kstep] at h
    split at h
    · rename_i x hx
      exact Or.inl ⟨_, _, _, _, h, fun N' R' C' => by dsimp only [kstep]; rw [hx]; first | done | rfl⟩
    · exact h.elim
  | iload k =>
    dsimp only [kstep] at h
    split at h
    · rename_i x hx
      exact Or.inl ⟨_, _, _, _, h, fun N' R' C' => by dsimp only [kstep]; rw [hx]; first | done | rfl⟩
    · exact h.elim
  | lload_n k =>
    dsimp only [kstep] at h
    split at h
    · rename_i x hx
      exact Or.inl ⟨_, _, _, _, h, fun N' R' C' => by dsimp only [kstep]; rw [hx]; first | done | rfl⟩
    · exact h.elim
  | lload k =>
    dsimp only [kstep] at h
    split at h
    · rename_i x hx
      exact Or.inl ⟨_, _, _, _, h, fun N' R' C' => by dsimp only [kstep]; rw [hx]; first | done | rfl⟩
    · exact h.elim
  | aload_n k =>
    dsimp only [kstep] at h
    obtain ⟨v, hv, h⟩ := kO_some h
    obtain ⟨hq, h⟩ := kcond h
    exact Or.inl ⟨_, _, _, _, h, fun N' R' C' => by dsimp only [kstep]; rw [hv]; dsimp only [kO]; rw [hq]; first | done | rfl⟩
  | aload k =>
    dsimp only [kstep] at h
    obtain ⟨v, hv, h⟩ := kO_some h
    obtain ⟨hq, h⟩ := kcond h
    exact Or.inl ⟨_, _, _, _, h, fun N' R' C' => by dsimp only [kstep]; rw [hv]; dsimp only [kO]; rw [hq]; first | done | rfl⟩
  | istore_n k =>
    dsimp only [kstep] at h
    split at h
    · obtain ⟨L', hL', h⟩ := kO_some h
      exact Or.inl ⟨_, _, _, _, h, fun N' R' C' => by dsimp only [kstep]; rw [hL']; first | done | rfl⟩
    · exact h.elim
  | istore k =>
    dsimp only [kstep] at h
    split at h
    · obtain ⟨L', hL', h⟩ := kO_some h
      exact Or.inl ⟨_, _, _, _, h, fun N' R' C' => by dsimp only [kstep]; rw [hL']; first | done | rfl⟩
    · exact h.elim
  | astore_n k =>
    dsimp only [kstep] at h
    split at h
    · obtain ⟨L', hL', h⟩ := kO_some h
      exact Or.inl ⟨_, _, _, _, h, fun N' R' C' => by dsimp only [kstep]; rw [hL']; first | done | rfl⟩
    · exact h.elim
  | astore k =>
    dsimp only [kstep] at h
    split at h
    · obtain ⟨L', hL', h⟩ := kO_some h
      exact Or.inl ⟨_, _, _, _, h, fun N' R' C' => by dsimp only [kstep]; rw [hL']; first | done | rfl⟩
    · exact h.elim
  | lstore_n k =>
    dsimp only [kstep] at h
    split at h
    · obtain ⟨L', hL', h⟩ := kO_some h
      exact Or.inl ⟨_, _, _, _, h, fun N' R' C' => by dsimp only [kstep]; rw [hL']; first | done | rfl⟩
    · exact h.elim
  | lstore k =>
    dsimp only [kstep] at h
    split at h
    · obtain ⟨L', hL', h⟩ := kO_some h
      exact Or.inl ⟨_, _, _, _, h, fun N' R' C' => by dsimp only [kstep]; rw [hL']; first | done | rfl⟩
    · exact h.elim
  | iinc k c =>
    dsimp only [kstep] at h
    split at h
    · rename_i x hx
      obtain ⟨L', hL', h⟩ := kO_some h
      exact Or.inl ⟨_, _, _, _, h, fun N' R' C' => by dsimp only [kstep]; rw [hx]; dsimp only; rw [hL']; first | done | rfl⟩
    · exact h.elim
  | ldc k =>
    dsimp only [kstep] at h
    cases hs : kcs (kown m) k with
    | true =>
      rw [hs] at h
      exact Or.inl ⟨_, _, _, _, h, fun N' R' C' => by dsimp only [kstep]; rw [hs]; first | done | rfl⟩
    | false =>
      rw [hs] at h
      obtain ⟨x, hx, h⟩ := kO_some h
      exact Or.inl ⟨_, _, _, _, h, fun N' R' C' => by dsimp only [kstep]; rw [hs]; dsimp only [cond_false]; rw [hx]; first | done | rfl⟩
  | ldc_w k =>
    dsimp only [kstep] at h
    obtain ⟨x, hx, h⟩ := kO_some h
    exact Or.inl ⟨_, _, _, _, h, fun N' R' C' => by dsimp only [kstep]; rw [hx]; first | done | rfl⟩
  | ldc2_w k =>
    dsimp only [kstep] at h
    obtain ⟨x, hx, h⟩ := kO_some h
    exact Or.inl ⟨_, _, _, _, h, fun N' R' C' => by dsimp only [kstep]; rw [hx]; first | done | rfl⟩
  | getstatic k =>
    dsimp only [kstep] at h
    obtain ⟨x, hx, h⟩ := kO_some h
    exact Or.inl ⟨_, _, _, _, h, fun N' R' C' => by dsimp only [kstep]; rw [hx]; first | done | rfl⟩
  | dup =>
    dsimp only [kstep] at h
    split at h
    · obtain ⟨hc, h⟩ := kcond h
      exact Or.inl ⟨_, _, _, _, h, fun N' R' C' => by dsimp only [kstep]; rw [hc]; first | done | rfl⟩
    · exact h.elim
  | pop =>
    dsimp only [kstep] at h
    split at h
    · obtain ⟨hc, h⟩ := kcond h
      exact Or.inl ⟨_, _, _, _, h, fun N' R' C' => by dsimp only [kstep]; rw [hc]; first | done | rfl⟩
    · exact h.elim
  | dup2 =>
    dsimp only [kstep] at h
    split at h
    · obtain ⟨hc, h⟩ := kcond h
      exact Or.inl ⟨_, _, _, _, h, fun N' R' C' => by dsimp only [kstep]; rw [hc]; first | done | rfl⟩
    · exact h.elim
  | goto off =>
    dsimp only [kstep] at h
    obtain ⟨t, ht, h⟩ := kjmp_some h
    exact Or.inl ⟨_, _, _, _, h, fun N' R' C' => by dsimp only [kstep]; exact kjmp_eq ht⟩
  | if_icmp c off =>
    dsimp only [kstep] at h
    split at h
    · cases c with
      | eq =>
        dsimp only [kif] at h
        split at h
        · rename_i hc
          obtain ⟨t, ht, h⟩ := kjmp_some h
          exact Or.inl ⟨_, _, _, _, h, fun N' R' C' => by dsimp only [kstep, kif]; rw [if_pos hc]; exact kjmp_eq ht⟩
        · rename_i hc
          exact Or.inl ⟨_, _, _, _, h, fun N' R' C' => by dsimp only [kstep, kif]; rw [if_neg hc]⟩
      | ne =>
        dsimp only [kif] at h
        split at h
        · rename_i hc
          exact Or.inl ⟨_, _, _, _, h, fun N' R' C' => by dsimp only [kstep, kif]; rw [if_pos hc]⟩
        · rename_i hc
          obtain ⟨t, ht, h⟩ := kjmp_some h
          exact Or.inl ⟨_, _, _, _, h, fun N' R' C' => by dsimp only [kstep, kif]; rw [if_neg hc]; exact kjmp_eq ht⟩
      | lt =>
        dsimp only [kif] at h
        split at h
        · rename_i hc
          obtain ⟨t, ht, h⟩ := kjmp_some h
          exact Or.inl ⟨_, _, _, _, h, fun N' R' C' => by dsimp only [kstep, kif]; rw [if_pos hc]; exact kjmp_eq ht⟩
        · rename_i hc
          exact Or.inl ⟨_, _, _, _, h, fun N' R' C' => by dsimp only [kstep, kif]; rw [if_neg hc]⟩
      | ge =>
        dsimp only [kif] at h
        split at h
        · rename_i hc
          exact Or.inl ⟨_, _, _, _, h, fun N' R' C' => by dsimp only [kstep, kif]; rw [if_pos hc]⟩
        · rename_i hc
          obtain ⟨t, ht, h⟩ := kjmp_some h
          exact Or.inl ⟨_, _, _, _, h, fun N' R' C' => by dsimp only [kstep, kif]; rw [if_neg hc]; exact kjmp_eq ht⟩
      | gt =>
        dsimp only [kif] at h
        split at h
        · rename_i hc
          obtain ⟨t, ht, h⟩ := kjmp_some h
          exact Or.inl ⟨_, _, _, _, h, fun N' R' C' => by dsimp only [kstep, kif]; rw [if_pos hc]; exact kjmp_eq ht⟩
        · rename_i hc
          exact Or.inl ⟨_, _, _, _, h, fun N' R' C' => by dsimp only [kstep, kif]; rw [if_neg hc]⟩
      | le =>
        dsimp only [kif] at h
        split at h
        · rename_i hc
          exact Or.inl ⟨_, _, _, _, h, fun N' R' C' => by dsimp only [kstep, kif]; rw [if_pos hc]⟩
        · rename_i hc
          obtain ⟨t, ht, h⟩ := kjmp_some h
          exact Or.inl ⟨_, _, _, _, h, fun N' R' C' => by dsimp only [kstep, kif]; rw [if_neg hc]; exact kjmp_eq ht⟩
    · exact h.elim
  | ifCond c off =>
    dsimp only [kstep] at h
    split at h
    · cases c with
      | eq =>
        dsimp only [kif] at h
        split at h
        · rename_i hc
          obtain ⟨t, ht, h⟩ := kjmp_some h
          exact Or.inl ⟨_, _, _, _, h, fun N' R' C' => by dsimp only [kstep, kif]; rw [if_pos hc]; exact kjmp_eq ht⟩
        · rename_i hc
          exact Or.inl ⟨_, _, _, _, h, fun N' R' C' => by dsimp only [kstep, kif]; rw [if_neg hc]⟩
      | ne =>
        dsimp only [kif] at h
        split at h
        · rename_i hc
          exact Or.inl ⟨_, _, _, _, h, fun N' R' C' => by dsimp only [kstep, kif]; rw [if_pos hc]⟩
        · rename_i hc
          obtain ⟨t, ht, h⟩ := kjmp_some h
          exact Or.inl ⟨_, _, _, _, h, fun N' R' C' => by dsimp only [kstep, kif]; rw [if_neg hc]; exact kjmp_eq ht⟩
      | lt =>
        dsimp only [kif] at h
        split at h
        · rename_i hc
          obtain ⟨t, ht, h⟩ := kjmp_some h
          exact Or.inl ⟨_, _, _, _, h, fun N' R' C' => by dsimp only [kstep, kif]; rw [if_pos hc]; exact kjmp_eq ht⟩
        · rename_i hc
          exact Or.inl ⟨_, _, _, _, h, fun N' R' C' => by dsimp only [kstep, kif]; rw [if_neg hc]⟩
      | ge =>
        dsimp only [kif] at h
        split at h
        · rename_i hc
          exact Or.inl ⟨_, _, _, _, h, fun N' R' C' => by dsimp only [kstep, kif]; rw [if_pos hc]⟩
        · rename_i hc
          obtain ⟨t, ht, h⟩ := kjmp_some h
          exact Or.inl ⟨_, _, _, _, h, fun N' R' C' => by dsimp only [kstep, kif]; rw [if_neg hc]; exact kjmp_eq ht⟩
      | gt =>
        dsimp only [kif] at h
        split at h
        · rename_i hc
          obtain ⟨t, ht, h⟩ := kjmp_some h
          exact Or.inl ⟨_, _, _, _, h, fun N' R' C' => by dsimp only [kstep, kif]; rw [if_pos hc]; exact kjmp_eq ht⟩
        · rename_i hc
          exact Or.inl ⟨_, _, _, _, h, fun N' R' C' => by dsimp only [kstep, kif]; rw [if_neg hc]⟩
      | le =>
        dsimp only [kif] at h
        split at h
        · rename_i hc
          exact Or.inl ⟨_, _, _, _, h, fun N' R' C' => by dsimp only [kstep, kif]; rw [if_pos hc]⟩
        · rename_i hc
          obtain ⟨t, ht, h⟩ := kjmp_some h
          exact Or.inl ⟨_, _, _, _, h, fun N' R' C' => by dsimp only [kstep, kif]; rw [if_neg hc]; exact kjmp_eq ht⟩
    · exact h.elim
  | tableswitch dflt lo hi offs =>
    dsimp only [kstep] at h
    split at h
    · obtain ⟨hc, h⟩ := kcond h
      obtain ⟨off, h, hsw⟩ := kswC_out _ _ h
      obtain ⟨t, ht, h⟩ := kjmp_some h
      exact Or.inl ⟨_, _, _, _, h, fun N' R' C' => by dsimp only [kstep]; rw [hc]; exact (hsw _).trans (kjmp_eq ht)⟩
    · exact h.elim
  | getfield k =>
    dsimp only [kstep] at h
    split at h
    · obtain ⟨⟨ci, kk, tg⟩, hf, h⟩ := kO_some h
      dsimp only at h
      split at h
      · obtain ⟨x, hx, h⟩ := kO_some h
        exact Or.inl ⟨_, _, _, _, h, fun N' R' C' => by dsimp only [kstep]; rw [hf]; dsimp only [kO]; rw [hx]; first | done | rfl⟩
      · obtain ⟨x, hx, h⟩ := kO_some h
        exact Or.inl ⟨_, _, _, _, h, fun N' R' C' => by dsimp only [kstep]; rw [hf]; dsimp only [kO]; rw [hx]; first | done | rfl⟩
      · rename_i q1 q2
        obtain ⟨x, hx, h⟩ := kO_some h
        exact Or.inl ⟨_, _, _, _, h, fun N' R' C' => by dsimp only [kstep]; rw [hf]; dsimp only [kO]; split <;> first | (exact absurd rfl q1) | (exact absurd rfl q2) | (rw [hx])⟩
    · obtain ⟨v, hv, h⟩ := kO_some h
      exact Or.inl ⟨_, _, _, _, h, fun N' R' C' => by dsimp only [kstep]; rw [hv]; first | done | rfl⟩
    · exact h.elim
  | putfield k =>
    dsimp only [kstep] at h
    split at h
    · obtain ⟨⟨ci, kk, tg⟩, hf, h⟩ := kO_some h
      dsimp only at h
      obtain ⟨hfn, h⟩ := kcond h
      split at h
      · obtain ⟨w1, hw1, h⟩ := kO_some h
        exact Or.inl ⟨_, _, _, _, h, fun N' R' C' => by dsimp only [kstep]; simp only [hf, kO, hfn, cond_true, hw1]; first | done | rfl⟩
      · obtain ⟨w1, hw1, h⟩ := kO_some h
        exact Or.inl ⟨_, _, _, _, h, fun N' R' C' => by dsimp only [kstep]; simp only [hf, kO, hfn, cond_true, hw1]; first | done | rfl⟩
      · obtain ⟨w1, hw1, h⟩ := kO_some h
        exact Or.inl ⟨_, _, _, _, h, fun N' R' C' => by dsimp only [kstep]; simp only [hf, kO, hfn, cond_true, hw1]; first | done | rfl⟩
      · split at h
        · rename_i hx1
          obtain ⟨w1, hw1, h⟩ := kO_some h
          exact Or.inl ⟨_, _, _, _, h, fun N' R' C' => by dsimp only [kstep]; simp only [hf, kO, hfn, cond_true, if_pos hx1, hw1]; first | done | rfl⟩
        · exact h.elim
      · exact h.elim
    · exact h.elim
  | iaload =>
    dsimp only [kstep] at h
    split at h
    · obtain ⟨x, hx, h⟩ := kO_some h
      exact Or.inl ⟨_, _, _, _, h, fun N' R' C' => by dsimp only [kstep]; rw [hx]; first | done | rfl⟩
    · obtain ⟨x, hx, h⟩ := kO_some h
      exact Or.inl ⟨_, _, _, _, h, fun N' R' C' => by dsimp only [kstep]; rw [hx]; first | done | rfl⟩
    · exact h.elim
  | baload =>
    dsimp only [kstep] at h
    split at h
    · obtain ⟨x, hx, h⟩ := kO_some h
      exact Or.inl ⟨_, _, _, _, h, fun N' R' C' => by dsimp only [kstep]; rw [hx]; first | done | rfl⟩
    · obtain ⟨x, hx, h⟩ := kO_some h
      exact Or.inl ⟨_, _, _, _, h, fun N' R' C' => by dsimp only [kstep]; rw [hx]; first | done | rfl⟩
    · exact h.elim
  | laload =>
    dsimp only [kstep] at h
    split at h
    · obtain ⟨x, hx, h⟩ := kO_some h
      exact Or.inl ⟨_, _, _, _, h, fun N' R' C' => by dsimp only [kstep]; rw [hx]; first | done | rfl⟩
    · obtain ⟨x, hx, h⟩ := kO_some h
      exact Or.inl ⟨_, _, _, _, h, fun N' R' C' => by dsimp only [kstep]; rw [hx]; first | done | rfl⟩
    · exact h.elim
  | arraylength =>
    dsimp only [kstep] at h
    split at h
    · obtain ⟨x, hx, h⟩ := kO_some h
      exact Or.inl ⟨_, _, _, _, h, fun N' R' C' => by dsimp only [kstep]; rw [hx]; first | done | rfl⟩
    · obtain ⟨x, hx, h⟩ := kO_some h
      exact Or.inl ⟨_, _, _, _, h, fun N' R' C' => by dsimp only [kstep]; rw [hx]; first | done | rfl⟩
    · exact h.elim
  | aaload =>
    dsimp only [kstep] at h
    split at h
    · obtain ⟨x, hx, h⟩ := kO_some h
      exact Or.inl ⟨_, _, _, _, h, fun N' R' C' => by dsimp only [kstep]; rw [hx]; first | done | rfl⟩
    · exact h.elim
  | iastore =>
    dsimp only [kstep] at h
    split at h
    · obtain ⟨x, hx, h⟩ := kO_some h
      exact Or.inl ⟨_, _, _, _, h, fun N' R' C' => by dsimp only [kstep]; rw [hx]; first | done | rfl⟩
    · exact h.elim
  | bastore =>
    dsimp only [kstep] at h
    split at h
    · obtain ⟨x, hx, h⟩ := kO_some h
      exact Or.inl ⟨_, _, _, _, h, fun N' R' C' => by dsimp only [kstep]; rw [hx]; first | done | rfl⟩
    · exact h.elim
  | lastore =>
    dsimp only [kstep] at h
    split at h
    · obtain ⟨x, hx, h⟩ := kO_some h
      exact Or.inl ⟨_, _, _, _, h, fun N' R' C' => by dsimp only [kstep]; rw [hx]; first | done | rfl⟩
    · exact h.elim
  | aastore =>
    dsimp only [kstep] at h
    split at h
    · obtain ⟨x, hx, h⟩ := kO_some h
      exact Or.inl ⟨_, _, _, _, h, fun N' R' C' => by dsimp only [kstep]; rw [hx]; first | done | rfl⟩
    · exact h.elim
  | new k =>
    dsimp only [kstep] at h
    obtain ⟨c, hc, h⟩ := kO_some h
    exact Or.inl ⟨_, _, _, _, h, fun N' R' C' => by dsimp only [kstep]; rw [hc]; first | done | rfl⟩
  | newarray t =>
    dsimp only [kstep] at h
    split at h
    · obtain ⟨t1, ht1, h⟩ := kO_some h
      split at h
      · exact h.elim
      · rename_i hb
        exact Or.inl ⟨_, _, _, _, h, fun N' R' C' => by dsimp only [kstep]; rw [ht1]; dsimp only [kO]; rw [if_neg hb]; first | done | rfl⟩
    · exact h.elim
  | anewarray k =>
    dsimp only [kstep] at h
    split at h
    · obtain ⟨t1, ht1, h⟩ := kO_some h
      split at h
      · exact h.elim
      · rename_i hb
        exact Or.inl ⟨_, _, _, _, h, fun N' R' C' => by dsimp only [kstep]; rw [ht1]; dsimp only [kO]; rw [if_neg hb]; first | done | rfl⟩
    · exact h.elim
  | invokestatic k =>
    dsimp only [kstep] at h
    obtain ⟨⟨kd, m', na⟩, hf, h⟩ := kO_some h
    dsimp only at h
    split at h
    · obtain ⟨⟨as, st1⟩, has, h⟩ := kO_some h
      obtain ⟨hc, h⟩ := kcond h
      exact Or.inr (Or.inr ⟨_, _, _, h, fun N' R' C' => by dsimp only [kstep]; rw [hf]; dsimp only [kO]; rw [has]; dsimp only; rw [hc]; first | done | rfl⟩)
    · obtain ⟨⟨as, st1⟩, has, h⟩ := kO_some h
      obtain ⟨hc, h⟩ := kcond h
      exact Or.inr (Or.inr ⟨_, _, _, h, fun N' R' C' => by dsimp only [kstep]; rw [hf]; dsimp only [kO]; rw [has]; dsimp only; rw [hc]; first | done | rfl⟩)
    · split at h
      · obtain ⟨hc, h⟩ := kcond h
        split at h
        · rename_i hz
          obtain ⟨w1, hw1, h⟩ := kO_some h
          exact Or.inl ⟨_, _, _, _, h, fun N' R' C' => by dsimp only [kstep]; rw [hf]; dsimp only [kO]; rw [hc]; dsimp only [cond_true]; rw [if_pos hz, hw1]; first | done | rfl⟩
        · exact h.elim
      · exact h.elim
    · exact h.elim
  | invokevirtual k =>
    dsimp only [kstep] at h
    obtain ⟨⟨kd, m', na⟩, hf, h⟩ := kO_some h
    dsimp only at h
    split at h
    · obtain ⟨⟨as, st1⟩, has, h⟩ := kO_some h
      dsimp only at h
      split at h
      · obtain ⟨hc, h⟩ := kcond h
        exact Or.inr (Or.inr ⟨_, _, _, h, fun N' R' C' => by dsimp only [kstep]; rw [hf]; dsimp only [kO]; rw [has]; dsimp only; rw [hc]; first | done | rfl⟩)
      · exact h.elim
    · exact h.elim
  | invokespecial k =>
    dsimp only [kstep] at h
    obtain ⟨⟨kd, m', na⟩, hf, h⟩ := kO_some h
    dsimp only at h
    split at h
    · obtain ⟨⟨as, st1⟩, has, h⟩ := kO_some h
      dsimp only at h
      split at h
      · obtain ⟨hc, h⟩ := kcond h
        exact Or.inr (Or.inr ⟨_, _, _, h, fun N' R' C' => by dsimp only [kstep]; rw [hf]; dsimp only [kO]; rw [has]; dsimp only; rw [hc]; first | done | rfl⟩)
      · exact h.elim
    · obtain ⟨⟨as, st1⟩, has, h⟩ := kO_some h
      dsimp only at h
      split at h
      · obtain ⟨hc, h⟩ := kcond h
        exact Or.inr (Or.inr ⟨_, _, _, h, fun N' R' C' => by dsimp only [kstep]; rw [hf]; dsimp only [kO]; rw [has]; dsimp only; rw [hc]; first | done | rfl⟩)
      · exact h.elim
    · split at h
      · obtain ⟨hc, h⟩ := kcond h
        exact Or.inl ⟨_, _, _, _, h, fun N' R' C' => by dsimp only [kstep]; rw [hf]; dsimp only [kO]; rw [hc]; first | done | rfl⟩
      · exact h.elim
    · exact h.elim
  | ireturn =>
    dsimp only [kstep] at h
    split at h
    · split at h
      · rename_i hq
        exact Or.inr (Or.inl ⟨_, h, fun N' R' C' => by dsimp only [kstep]; rw [hq]; first | done | rfl⟩)
      · rename_i t hq0 hq
        split at h
        · rename_i hq2
          exact Or.inr (Or.inl ⟨_, h, fun N' R' C' => by dsimp only [kstep]; rw [hq]; split <;> first | rfl | (rename_i e; cases e; rw [if_pos hq2]) | contradiction⟩)
        · exact h.elim
      · exact h.elim
    · exact h.elim
  | return_ =>
    dsimp only [kstep] at h
    split at h
    · split at h
      · rename_i hq
        exact Or.inr (Or.inl ⟨_, h, fun N' R' C' => by dsimp only [kstep]; rw [hq]; first | done | rfl⟩)
      · exact h.elim
    · exact h.elim
  | _ => exact h.elim
/-- the end is one -/
theorem kE_out {xs : List Int32} : ∀ (n d m pc : Nat) (L : KL) (st : List Value) (w : KW) (Q : Option Value → KW → Prop), kE xs n d m pc L st w Q → ∃ r w', Q r w' ∧ ∀ (n' : Nat) (Q' : Option Value → KW → Prop), n ≤ n' → Q' r w' → kE xs n' d m pc L st w Q' := by
  intro n
  induction n with
  | zero => intro d m pc L st w Q h; exact h.elim
  | succ n ih =>
    intro d m pc L st w Q h
    obtain ⟨c, hc, h⟩ := kO_some (show kO (kcode m pc) _ from h)
    have up : ∀ (n' : Nat) (Q' : Option Value → KW → Prop), n + 1 ≤ n' → (∀ n1, n ≤ n1 → kstep xs m d c.1 c.2 pc L st w (fun pc' L' st' w' => kE xs n1 d m pc' (kclr (kmk m pc') L') st' w' Q') (fun r => Q' r w) (fun m' as st' => match (generalizing := false) d with
      | 0 => False
      | d' + 1 => kE xs n1 d' m' 0 (kent as (kmax m')) [] w (fun r w' => kE xs n1 d m (pc + c.2) (kclr (kmk m (pc + c.2)) L) (kpush r st') w' Q'))) → kE xs n' d m pc L st w Q' := by
      intro n' Q' hn hk
      obtain ⟨n1, rfl⟩ : ∃ n1, n' = n1 + 1 := ⟨n' - 1, by omega⟩
      show kO (kcode m pc) _
      rw [hc]
      exact hk n1 (by omega)
    rcases kstep_out h with ⟨a, b, c', e, h1, h2⟩ | ⟨r, h1, h2⟩ | ⟨a, b, c', h1, h2⟩
    · obtain ⟨r, w', g1, g2⟩ := ih _ _ _ _ _ _ _ h1
      exact ⟨r, w', g1, fun n' Q' hn hQ => up n' Q' hn fun n1 hn1 => by rw [h2]; exact g2 n1 Q' hn1 hQ⟩
    · exact ⟨r, w, h1, fun n' Q' hn hQ => up n' Q' hn fun n1 hn1 => by rw [h2]; exact hQ⟩
    · cases d with
      | zero => exact h1.elim
      | succ d =>
        obtain ⟨r1, w1, g1, g2⟩ := ih _ _ _ _ _ _ _ h1
        obtain ⟨r, w', f1, f2⟩ := ih _ _ _ _ _ _ _ g1
        exact ⟨r, w', f1, fun n' Q' hn hQ => up n' Q' hn fun n1 hn1 => by rw [h2]; exact g2 n1 _ hn1 (f2 n1 Q' hn1 hQ)⟩
/-- the method ends, and Q holds -/
def kX (xs : List Int32) (d m pc : Nat) (L : KL) (st : List Value) (w : KW) (Q : Option Value → KW → Prop) : Prop := ∃ n, kE xs n d m pc L st w Q
theorem kX.mono {xs : List Int32} {d m pc : Nat} {L : KL} {st : List Value} {w : KW} {Q Q' : Option Value → KW → Prop} (h : kX xs d m pc L st w Q) (hQ : ∀ r w, Q r w → Q' r w) : kX xs d m pc L st w Q' := by
  obtain ⟨n, h⟩ := h
  obtain ⟨r, w', h1, h2⟩ := kE_out n _ _ _ _ _ _ _ h
  exact ⟨n, h2 n Q' (Nat.le_refl n) (hQ r w' h1)⟩
/-- a block: K instructions, then what the block's row says -/
theorem kX.of {xs : List Int32} {d m pc : Nat} {L : KL} {st : List Value} {w : KW} {Q : Option Value → KW → Prop} (K : Nat) (h : ∃ n, kE xs (n + K) d m pc L st w Q) : kX xs d m pc L st w Q := by
  obtain ⟨n, h⟩ := h
  exact ⟨n + K, h⟩
theorem kX.at {xs : List Int32} {d m pc : Nat} {L : KL} {st : List Value} {w : KW} {Q : Option Value → KW → Prop} (k : Nat) (h : kX xs d m pc L st w Q) : ∃ n, kE xs (n + k) d m pc L st w Q := by
  obtain ⟨n, h⟩ := h
  obtain ⟨r, w', h1, h2⟩ := kE_out n _ _ _ _ _ _ _ h
  exact ⟨n, h2 (n + k) Q (by omega) h1⟩
theorem kX.end {P : Prop} (h : P) : ∃ _ : Nat, P := ⟨0, h⟩
/-- a call inside a block -/
theorem kX.call {xs : List Int32} {d d' m pc m' : Nat} {L L' : KL} {f : Option Value → List Value} {w : KW} {Q : Option Value → KW → Prop} {P : Option Value → KW → Prop} (k k' : Nat) (h : kX xs d' m' 0 L' [] w P) (g : ∀ r w1, P r w1 → kX xs d m pc L (f r) w1 Q) : ∃ n, kE xs (n + k) d' m' 0 L' [] w (fun r w' => kE xs (n + k') d m pc L (f r) w' Q) := by
  obtain ⟨n, h⟩ := h
  obtain ⟨r, w1, h1, h2⟩ := kE_out n _ _ _ _ _ _ _ h
  obtain ⟨n2, g⟩ := g r w1 h1
  obtain ⟨r3, w3, g1, g2⟩ := kE_out n2 _ _ _ _ _ _ _ g
  exact ⟨n + n2, h2 (n + n2 + k) _ (by omega) (g2 (n + n2 + k') Q (by omega) g1)⟩
