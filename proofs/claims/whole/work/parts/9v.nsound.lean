/-! and its soundness -/
set_option maxHeartbeats 4000000 in
set_option maxRecDepth 100000 in
theorem ksoundN (xs : List Int32) (l : Launch) (D : va_G) (dA : Nat → ClassId) (b : Nat) (z : Nat → Nat) : ∀ (n d mid pc : Nat) (L : KL) (st : List Value) (w : KW) (Q : Option Value → KW → Prop), kE xs n d mid pc L st w Q → kGN xs l D dA b z d mid pc L st w Q := by
  intro n
  induction n with
  | zero => intro d mid pc L st w Q h; exact h.elim
  | succ n ih =>
    intro d mid pc L st w Q h
    obtain ⟨⟨i, len⟩, hcd, h⟩ := kO_some (show kO (kcode mid pc) _ from h)
    obtain ⟨hd, hln⟩ := kcode_ok hcd
    dsimp only at h
    cases i with
    | iadd =>
      obtain rfl : len = 1 := Nat.eq_of_beq_eq_true hln
      dsimp only [kstep] at h
      split at h
      · exact kdoneN (ih _ _ _ _ _ _ _ h) (ks_iadd hd) rfl rfl rfl
      · exact h.elim
    | isub =>
      obtain rfl : len = 1 := Nat.eq_of_beq_eq_true hln
      dsimp only [kstep] at h
      split at h
      · exact kdoneN (ih _ _ _ _ _ _ _ h) (ks_isub hd) rfl rfl rfl
      · exact h.elim
    | imul =>
      obtain rfl : len = 1 := Nat.eq_of_beq_eq_true hln
      dsimp only [kstep] at h
      split at h
      · exact kdoneN (ih _ _ _ _ _ _ _ h) (ks_imul hd) rfl rfl rfl
      · exact h.elim
    | iand =>
      obtain rfl : len = 1 := Nat.eq_of_beq_eq_true hln
      dsimp only [kstep] at h
      split at h
      · exact kdoneN (ih _ _ _ _ _ _ _ h) (ks_iand hd) rfl rfl rfl
      · exact h.elim
    | ior =>
      obtain rfl : len = 1 := Nat.eq_of_beq_eq_true hln
      dsimp only [kstep] at h
      split at h
      · exact kdoneN (ih _ _ _ _ _ _ _ h) (ks_ior hd) rfl rfl rfl
      · exact h.elim
    | ixor =>
      obtain rfl : len = 1 := Nat.eq_of_beq_eq_true hln
      dsimp only [kstep] at h
      split at h
      · exact kdoneN (ih _ _ _ _ _ _ _ h) (ks_ixor hd) rfl rfl rfl
      · exact h.elim
    | ishl =>
      obtain rfl : len = 1 := Nat.eq_of_beq_eq_true hln
      dsimp only [kstep] at h
      split at h
      · exact kdoneN (ih _ _ _ _ _ _ _ h) (ks_ishl hd) rfl rfl rfl
      · exact h.elim
    | ishr =>
      obtain rfl : len = 1 := Nat.eq_of_beq_eq_true hln
      dsimp only [kstep] at h
      split at h
      · exact kdoneN (ih _ _ _ _ _ _ _ h) (ks_ishr hd) rfl rfl rfl
      · exact h.elim
    | iushr =>
      obtain rfl : len = 1 := Nat.eq_of_beq_eq_true hln
      dsimp only [kstep] at h
      split at h
      · exact kdoneN (ih _ _ _ _ _ _ _ h) (ks_iushr hd) rfl rfl rfl
      · exact h.elim
    | ineg =>
      obtain rfl : len = 1 := Nat.eq_of_beq_eq_true hln
      dsimp only [kstep] at h
      split at h
      · exact kdoneN (ih _ _ _ _ _ _ _ h) (ks_ineg hd) rfl rfl rfl
      · exact h.elim
    | i2l =>
      obtain rfl : len = 1 := Nat.eq_of_beq_eq_true hln
      dsimp only [kstep] at h
      split at h
      · exact kdoneN (ih _ _ _ _ _ _ _ h) (ks_i2l hd) rfl rfl rfl
      · exact h.elim
    | l2i =>
      obtain rfl : len = 1 := Nat.eq_of_beq_eq_true hln
      dsimp only [kstep] at h
      split at h
      · exact kdoneN (ih _ _ _ _ _ _ _ h) (ks_l2i hd) rfl rfl rfl
      · exact h.elim
    | i2b =>
      obtain rfl : len = 1 := Nat.eq_of_beq_eq_true hln
      dsimp only [kstep] at h
      split at h
      · exact kdoneN (ih _ _ _ _ _ _ _ h) (ks_i2b hd) rfl rfl rfl
      · exact h.elim
    | i2c =>
      obtain rfl : len = 1 := Nat.eq_of_beq_eq_true hln
      dsimp only [kstep] at h
      split at h
      · exact kdoneN (ih _ _ _ _ _ _ _ h) (ks_i2c hd) rfl rfl rfl
      · exact h.elim
    | ladd =>
      obtain rfl : len = 1 := Nat.eq_of_beq_eq_true hln
      dsimp only [kstep] at h
      split at h
      · exact kdoneN (ih _ _ _ _ _ _ _ h) (ks_ladd hd) rfl rfl rfl
      · exact h.elim
    | lsub =>
      obtain rfl : len = 1 := Nat.eq_of_beq_eq_true hln
      dsimp only [kstep] at h
      split at h
      · exact kdoneN (ih _ _ _ _ _ _ _ h) (ks_lsub hd) rfl rfl rfl
      · exact h.elim
    | lmul =>
      obtain rfl : len = 1 := Nat.eq_of_beq_eq_true hln
      dsimp only [kstep] at h
      split at h
      · exact kdoneN (ih _ _ _ _ _ _ _ h) (ks_lmul hd) rfl rfl rfl
      · exact h.elim
    | land =>
      obtain rfl : len = 1 := Nat.eq_of_beq_eq_true hln
      dsimp only [kstep] at h
      split at h
      · exact kdoneN (ih _ _ _ _ _ _ _ h) (ks_land hd) rfl rfl rfl
      · exact h.elim
    | lor =>
      obtain rfl : len = 1 := Nat.eq_of_beq_eq_true hln
      dsimp only [kstep] at h
      split at h
      · exact kdoneN (ih _ _ _ _ _ _ _ h) (ks_lor hd) rfl rfl rfl
      · exact h.elim
    | lshl =>
      obtain rfl : len = 1 := Nat.eq_of_beq_eq_true hln
      dsimp only [kstep] at h
      split at h
      · exact kdoneN (ih _ _ _ _ _ _ _ h) (ks_lshl hd) rfl rfl rfl
      · exact h.elim
    | lshr =>
      obtain rfl : len = 1 := Nat.eq_of_beq_eq_true hln
      dsimp only [kstep] at h
      split at h
      · exact kdoneN (ih _ _ _ _ _ _ _ h) (ks_lshr hd) rfl rfl rfl
      · exact h.elim
    | lcmp =>
      obtain rfl : len = 1 := Nat.eq_of_beq_eq_true hln
      dsimp only [kstep] at h
      split at h
      · exact kdoneN (ih _ _ _ _ _ _ _ h) (ks_lcmp hd) rfl rfl rfl
      · exact h.elim
    | idiv =>
      obtain rfl : len = 1 := Nat.eq_of_beq_eq_true hln
      dsimp only [kstep] at h
      split at h
      · split at h
        · exact h.elim
        · rename_i hne
          exact kdoneN (ih _ _ _ _ _ _ _ h) (ks_idiv hne hd) rfl rfl rfl
      · exact h.elim
    | irem =>
      obtain rfl : len = 1 := Nat.eq_of_beq_eq_true hln
      dsimp only [kstep] at h
      split at h
      · split at h
        · exact h.elim
        · rename_i hne
          exact kdoneN (ih _ _ _ _ _ _ _ h) (ks_irem hne hd) rfl rfl rfl
      · exact h.elim
    | ldiv =>
      obtain rfl : len = 1 := Nat.eq_of_beq_eq_true hln
      dsimp only [kstep] at h
      split at h
      · split at h
        · exact h.elim
        · rename_i hne
          exact kdoneN (ih _ _ _ _ _ _ _ h) (ks_ldiv hne hd) rfl rfl rfl
      · exact h.elim
    | lrem =>
      obtain rfl : len = 1 := Nat.eq_of_beq_eq_true hln
      dsimp only [kstep] at h
      split at h
      · split at h
        · exact h.elim
        · rename_i hne
          exact kdoneN (ih _ _ _ _ _ _ _ h) (ks_lrem hne hd) rfl rfl rfl
      · exact h.elim
    | iconst k =>
      obtain rfl : len = 1 := Nat.eq_of_beq_eq_true hln
      dsimp only [kstep] at h
      exact kdoneN (ih _ _ _ _ _ _ _ h) (ks_iconst hd) rfl rfl rfl
    | bipush k =>
      obtain rfl : len = 2 := Nat.eq_of_beq_eq_true hln
      dsimp only [kstep] at h
      exact kdoneN (ih _ _ _ _ _ _ _ h) (ks_bipush hd) rfl rfl rfl
    | sipush k =>
      obtain rfl : len = 3 := Nat.eq_of_beq_eq_true hln
      dsimp only [kstep] at h
      exact kdoneN (ih _ _ _ _ _ _ _ h) (ks_sipush hd) rfl rfl rfl
    | lconst k =>
      obtain rfl : len = 1 := Nat.eq_of_beq_eq_true hln
      dsimp only [kstep] at h
      exact kdoneN (ih _ _ _ _ _ _ _ h) (ks_lconst hd) rfl rfl rfl
    | iload_n k =>
      obtain rfl : len = 1 := Nat.eq_of_beq_eq_true hln
      dsimp only [kstep] at h
      split at h
      · rename_i x hx
        exact kdoneN (ih _ _ _ _ _ _ _ h) (ks_iload_n hx hd) rfl rfl rfl
      · exact h.elim
    | iload k =>
      obtain rfl : len = 2 := Nat.eq_of_beq_eq_true hln
      dsimp only [kstep] at h
      split at h
      · rename_i x hx
        exact kdoneN (ih _ _ _ _ _ _ _ h) (ks_iload hx hd) rfl rfl rfl
      · exact h.elim
    | lload_n k =>
      obtain rfl : len = 1 := Nat.eq_of_beq_eq_true hln
      dsimp only [kstep] at h
      split at h
      · rename_i x hx
        exact kdoneN (ih _ _ _ _ _ _ _ h) (ks_lload_n hx hd) rfl rfl rfl
      · exact h.elim
    | lload k =>
      obtain rfl : len = 2 := Nat.eq_of_beq_eq_true hln
      dsimp only [kstep] at h
      split at h
      · rename_i x hx
        exact kdoneN (ih _ _ _ _ _ _ _ h) (ks_lload hx hd) rfl rfl rfl
      · exact h.elim
    | aload_n k =>
      obtain rfl : len = 1 := Nat.eq_of_beq_eq_true hln
      dsimp only [kstep] at h
      obtain ⟨v, hv, h⟩ := kO_some h
      obtain ⟨hr, h⟩ := kcond h
      exact kdoneN (ih _ _ _ _ _ _ _ h) (ks_aload_n hv hr hd) rfl rfl rfl
    | aload k =>
      obtain rfl : len = 2 := Nat.eq_of_beq_eq_true hln
      dsimp only [kstep] at h
      obtain ⟨v, hv, h⟩ := kO_some h
      obtain ⟨hr, h⟩ := kcond h
      exact kdoneN (ih _ _ _ _ _ _ _ h) (ks_aload hv hr hd) rfl rfl rfl
    | istore_n k =>
      obtain rfl : len = 1 := Nat.eq_of_beq_eq_true hln
      dsimp only [kstep] at h
      split at h
      · obtain ⟨L', hL', h⟩ := kO_some h
        exact kdoneN (ih _ _ _ _ _ _ _ h) (ks_istore_n hL' hd) rfl rfl (kst1_spec _ _ _ _ hL').1
      · exact h.elim
    | istore k =>
      obtain rfl : len = 2 := Nat.eq_of_beq_eq_true hln
      dsimp only [kstep] at h
      split at h
      · obtain ⟨L', hL', h⟩ := kO_some h
        exact kdoneN (ih _ _ _ _ _ _ _ h) (ks_istore hL' hd) rfl rfl (kst1_spec _ _ _ _ hL').1
      · exact h.elim
    | astore_n k =>
      obtain rfl : len = 1 := Nat.eq_of_beq_eq_true hln
      dsimp only [kstep] at h
      split at h
      · obtain ⟨L', hL', h⟩ := kO_some h
        exact kdoneN (ih _ _ _ _ _ _ _ h) (ks_astore_n hL' hd) rfl rfl (kst1_spec _ _ _ _ hL').1
      · exact h.elim
    | astore k =>
      obtain rfl : len = 2 := Nat.eq_of_beq_eq_true hln
      dsimp only [kstep] at h
      split at h
      · obtain ⟨L', hL', h⟩ := kO_some h
        exact kdoneN (ih _ _ _ _ _ _ _ h) (ks_astore hL' hd) rfl rfl (kst1_spec _ _ _ _ hL').1
      · exact h.elim
    | lstore_n k =>
      obtain rfl : len = 1 := Nat.eq_of_beq_eq_true hln
      dsimp only [kstep] at h
      split at h
      · obtain ⟨L', hL', h⟩ := kO_some h
        exact kdoneN (ih _ _ _ _ _ _ _ h) (ks_lstore_n hL' hd) rfl rfl (kst2_spec _ _ _ _ hL').1
      · exact h.elim
    | lstore k =>
      obtain rfl : len = 2 := Nat.eq_of_beq_eq_true hln
      dsimp only [kstep] at h
      split at h
      · obtain ⟨L', hL', h⟩ := kO_some h
        exact kdoneN (ih _ _ _ _ _ _ _ h) (ks_lstore hL' hd) rfl rfl (kst2_spec _ _ _ _ hL').1
      · exact h.elim
    | iinc k c =>
      obtain rfl : len = 3 := Nat.eq_of_beq_eq_true hln
      dsimp only [kstep] at h
      split at h
      · rename_i x hx
        obtain ⟨L', hL', h⟩ := kO_some h
        exact kdoneN (ih _ _ _ _ _ _ _ h) (ks_iinc hx hL' hd) rfl rfl (kst1_spec _ _ _ _ hL').1
      · exact h.elim
    | ldc k =>
      obtain rfl : len = 2 := Nat.eq_of_beq_eq_true hln
      dsimp only [kstep] at h
      cases hs : kcs (kown mid) k with
      | true =>
        rw [hs] at h
        exact kdoneN (ih _ _ _ _ _ _ _ h) (ks_ldcS hs hd) rfl rfl rfl
      | false =>
        rw [hs] at h
        obtain ⟨x, hx, h⟩ := kO_some h
        exact kdoneN (ih _ _ _ _ _ _ _ h) (ks_ldc hx hd) rfl rfl rfl
    | ldc_w k =>
      obtain rfl : len = 3 := Nat.eq_of_beq_eq_true hln
      dsimp only [kstep] at h
      obtain ⟨x, hx, h⟩ := kO_some h
      exact kdoneN (ih _ _ _ _ _ _ _ h) (ks_ldcw hx hd) rfl rfl rfl
    | ldc2_w k =>
      obtain rfl : len = 3 := Nat.eq_of_beq_eq_true hln
      dsimp only [kstep] at h
      obtain ⟨x, hx, h⟩ := kO_some h
      exact kdoneN (ih _ _ _ _ _ _ _ h) (ks_ldc2 hx hd) rfl rfl rfl
    | dup =>
      obtain rfl : len = 1 := Nat.eq_of_beq_eq_true hln
      dsimp only [kstep] at h
      split at h
      · obtain ⟨hc, h⟩ := kcond h
        exact kdoneN (ih _ _ _ _ _ _ _ h) (ks_dup (Nat.eq_of_beq_eq_true hc) hd) rfl rfl rfl
      · exact h.elim
    | pop =>
      obtain rfl : len = 1 := Nat.eq_of_beq_eq_true hln
      dsimp only [kstep] at h
      split at h
      · obtain ⟨hc, h⟩ := kcond h
        exact kdoneN (ih _ _ _ _ _ _ _ h) (ks_pop (Nat.eq_of_beq_eq_true hc) hd) rfl rfl rfl
      · exact h.elim
    | dup2 =>
      obtain rfl : len = 1 := Nat.eq_of_beq_eq_true hln
      dsimp only [kstep] at h
      split at h
      · obtain ⟨hc, h⟩ := kcond h
        simp only [Bool.and_eq_true] at hc
        exact kdoneN (ih _ _ _ _ _ _ _ h) (ks_dup2 (Nat.eq_of_beq_eq_true hc.1) (Nat.eq_of_beq_eq_true hc.2) hd) rfl rfl rfl
      · exact h.elim
    | goto off =>
      obtain rfl : len = 3 := Nat.eq_of_beq_eq_true hln
      dsimp only [kstep] at h
      obtain ⟨t, ht, h⟩ := kjmp_some h
      exact kdoneN (ih _ _ _ _ _ _ _ h) (ks_goto ht hd) rfl rfl rfl
    | if_icmp c off =>
      obtain rfl : len = 3 := Nat.eq_of_beq_eq_true hln
      dsimp only [kstep] at h
      split at h
      · cases c with
        | eq =>
          dsimp only [kif] at h
          split at h
          · rename_i hc
            obtain ⟨t, ht, h⟩ := kjmp_some h
            exact kdoneN (ih _ _ _ _ _ _ _ h) (ks_icmp_eq_t ht hc hd) rfl rfl rfl
          · rename_i hc
            obtain ⟨t, ht⟩ := kb_icmp hcd
            exact kdoneN (ih _ _ _ _ _ _ _ h) (ks_icmp_eq_f ht hc hd) rfl rfl rfl
        | ne =>
          dsimp only [kif] at h
          split at h
          · rename_i hc
            obtain ⟨t, ht⟩ := kb_icmp hcd
            exact kdoneN (ih _ _ _ _ _ _ _ h) (ks_icmp_ne_f ht hc hd) rfl rfl rfl
          · rename_i hc
            obtain ⟨t, ht, h⟩ := kjmp_some h
            exact kdoneN (ih _ _ _ _ _ _ _ h) (ks_icmp_ne_t ht hc hd) rfl rfl rfl
        | lt =>
          dsimp only [kif] at h
          split at h
          · rename_i hc
            obtain ⟨t, ht, h⟩ := kjmp_some h
            exact kdoneN (ih _ _ _ _ _ _ _ h) (ks_icmp_lt_t ht hc hd) rfl rfl rfl
          · rename_i hc
            obtain ⟨t, ht⟩ := kb_icmp hcd
            exact kdoneN (ih _ _ _ _ _ _ _ h) (ks_icmp_lt_f ht hc hd) rfl rfl rfl
        | ge =>
          dsimp only [kif] at h
          split at h
          · rename_i hc
            obtain ⟨t, ht⟩ := kb_icmp hcd
            exact kdoneN (ih _ _ _ _ _ _ _ h) (ks_icmp_ge_f ht hc hd) rfl rfl rfl
          · rename_i hc
            obtain ⟨t, ht, h⟩ := kjmp_some h
            exact kdoneN (ih _ _ _ _ _ _ _ h) (ks_icmp_ge_t ht hc hd) rfl rfl rfl
        | gt =>
          dsimp only [kif] at h
          split at h
          · rename_i hc
            obtain ⟨t, ht, h⟩ := kjmp_some h
            exact kdoneN (ih _ _ _ _ _ _ _ h) (ks_icmp_gt_t ht hc hd) rfl rfl rfl
          · rename_i hc
            obtain ⟨t, ht⟩ := kb_icmp hcd
            exact kdoneN (ih _ _ _ _ _ _ _ h) (ks_icmp_gt_f ht hc hd) rfl rfl rfl
        | le =>
          dsimp only [kif] at h
          split at h
          · rename_i hc
            obtain ⟨t, ht⟩ := kb_icmp hcd
            exact kdoneN (ih _ _ _ _ _ _ _ h) (ks_icmp_le_f ht hc hd) rfl rfl rfl
          · rename_i hc
            obtain ⟨t, ht, h⟩ := kjmp_some h
            exact kdoneN (ih _ _ _ _ _ _ _ h) (ks_icmp_le_t ht hc hd) rfl rfl rfl
      · exact h.elim
    | ifCond c off =>
      obtain rfl : len = 3 := Nat.eq_of_beq_eq_true hln
      dsimp only [kstep] at h
      split at h
      · cases c with
        | eq =>
          dsimp only [kif] at h
          split at h
          · rename_i hc
            obtain ⟨t, ht, h⟩ := kjmp_some h
            exact kdoneN (ih _ _ _ _ _ _ _ h) (ks_if_eq_t ht hc hd) rfl rfl rfl
          · rename_i hc
            obtain ⟨t, ht⟩ := kb_if hcd
            exact kdoneN (ih _ _ _ _ _ _ _ h) (ks_if_eq_f ht hc hd) rfl rfl rfl
        | ne =>
          dsimp only [kif] at h
          split at h
          · rename_i hc
            obtain ⟨t, ht⟩ := kb_if hcd
            exact kdoneN (ih _ _ _ _ _ _ _ h) (ks_if_ne_f ht hc hd) rfl rfl rfl
          · rename_i hc
            obtain ⟨t, ht, h⟩ := kjmp_some h
            exact kdoneN (ih _ _ _ _ _ _ _ h) (ks_if_ne_t ht hc hd) rfl rfl rfl
        | lt =>
          dsimp only [kif] at h
          split at h
          · rename_i hc
            obtain ⟨t, ht, h⟩ := kjmp_some h
            exact kdoneN (ih _ _ _ _ _ _ _ h) (ks_if_lt_t ht hc hd) rfl rfl rfl
          · rename_i hc
            obtain ⟨t, ht⟩ := kb_if hcd
            exact kdoneN (ih _ _ _ _ _ _ _ h) (ks_if_lt_f ht hc hd) rfl rfl rfl
        | ge =>
          dsimp only [kif] at h
          split at h
          · rename_i hc
            obtain ⟨t, ht⟩ := kb_if hcd
            exact kdoneN (ih _ _ _ _ _ _ _ h) (ks_if_ge_f ht hc hd) rfl rfl rfl
          · rename_i hc
            obtain ⟨t, ht, h⟩ := kjmp_some h
            exact kdoneN (ih _ _ _ _ _ _ _ h) (ks_if_ge_t ht hc hd) rfl rfl rfl
        | gt =>
          dsimp only [kif] at h
          split at h
          · rename_i hc
            obtain ⟨t, ht, h⟩ := kjmp_some h
            exact kdoneN (ih _ _ _ _ _ _ _ h) (ks_if_gt_t ht hc hd) rfl rfl rfl
          · rename_i hc
            obtain ⟨t, ht⟩ := kb_if hcd
            exact kdoneN (ih _ _ _ _ _ _ _ h) (ks_if_gt_f ht hc hd) rfl rfl rfl
        | le =>
          dsimp only [kif] at h
          split at h
          · rename_i hc
            obtain ⟨t, ht⟩ := kb_if hcd
            exact kdoneN (ih _ _ _ _ _ _ _ h) (ks_if_le_f ht hc hd) rfl rfl rfl
          · rename_i hc
            obtain ⟨t, ht, h⟩ := kjmp_some h
            exact kdoneN (ih _ _ _ _ _ _ _ h) (ks_if_le_t ht hc hd) rfl rfl rfl
      · exact h.elim
    | getfield k =>
      obtain rfl : len = 3 := Nat.eq_of_beq_eq_true hln
      dsimp only [kstep] at h
      split at h
      · obtain ⟨⟨ci, kk, tg⟩, hf, h⟩ := kO_some h
        dsimp only at h
        split at h
        · obtain ⟨x, hx, h⟩ := kO_some h
          exact kdoneN (ih _ _ _ _ _ _ _ h) (ks_getf hf (kgJ_some hx) hd) rfl rfl rfl
        · obtain ⟨x, hx, h⟩ := kO_some h
          exact kdoneN (ih _ _ _ _ _ _ _ h) (ks_getf hf (kgR_some hx) hd) rfl rfl rfl
        · obtain ⟨x, hx, h⟩ := kO_some h
          exact kdoneN (ih _ _ _ _ _ _ _ h) (ks_getf hf (kgI_some hx) hd) rfl rfl rfl
      · obtain ⟨v, hv, h⟩ := kO_some h
        exact kdoneN (ih _ _ _ _ _ _ _ h) (ks_gso hv hd) rfl rfl rfl
      · exact h.elim
    | getstatic k =>
      obtain rfl : len = 3 := Nat.eq_of_beq_eq_true hln
      dsimp only [kstep] at h
      obtain ⟨v, hv, h⟩ := kO_some h
      exact kdoneN (ih _ _ _ _ _ _ _ h) (ks_gets hv hd) rfl rfl rfl
    | putfield k =>
      obtain rfl : len = 3 := Nat.eq_of_beq_eq_true hln
      dsimp only [kstep] at h
      split at h
      · obtain ⟨⟨ci, kk, tg⟩, hf, h⟩ := kO_some h
        dsimp only at h
        obtain ⟨hfn, h⟩ := kcond h
        have hfin : kfin ci kk = false ∨ (kini mid = true ∧ kown mid = ci) := by
          simp only [Bool.or_eq_true, Bool.and_eq_true, Bool.not_eq_true'] at hfn
          exact hfn.imp id (fun e => ⟨e.1, Nat.eq_of_beq_eq_true e.2⟩)
        obtain ⟨-, -, -, hty⟩ := kfl_ok hf
        split at h
        · have ty : kFt ci kk = .int := by rcases hty with h0 | h0 | h0 | h0 <;> first | exact h0.2 | (exact absurd h0.1 (by decide))
          obtain ⟨w1, hw1, h⟩ := kO_some h
          obtain ⟨q1, q2⟩ := kpf_len hw1
          exact kdoneN (ih _ _ _ _ _ _ _ h) (ks_putf hf hfin (by rw [ty]; rfl) (by rw [ty]; rfl) hw1 hd) q1 q2 rfl
        · have ty : kFt ci kk = .long := by rcases hty with h0 | h0 | h0 | h0 <;> first | exact h0.2 | (exact absurd h0.1 (by decide))
          obtain ⟨w1, hw1, h⟩ := kO_some h
          obtain ⟨q1, q2⟩ := kpf_len hw1
          exact kdoneN (ih _ _ _ _ _ _ _ h) (ks_putf hf hfin (by rw [ty]; rfl) (by rw [ty]; rfl) hw1 hd) q1 q2 rfl
        · have ty : (∃ C, kFt ci kk = .object C) ∨ ∃ t, kFt ci kk = .array t := by rcases hty with h0 | h0 | h0 | h0 <;> first | exact h0.2 | (exact absurd h0.1 (by decide))
          obtain ⟨w1, hw1, h⟩ := kO_some h
          obtain ⟨q1, q2⟩ := kpf_len hw1
          exact kdoneN (ih _ _ _ _ _ _ _ h) (ks_putf hf hfin (by rcases ty with ⟨C, ty⟩ | ⟨t, ty⟩ <;> rw [ty] <;> rfl) (by rcases ty with ⟨C, ty⟩ | ⟨t, ty⟩ <;> rw [ty] <;> rfl) hw1 hd) q1 q2 rfl
        · have ty : kFt ci kk = .boolean := by rcases hty with h0 | h0 | h0 | h0 <;> first | exact h0.2 | (exact absurd h0.1 (by decide))
          split at h
          · rename_i hx1
            obtain ⟨w1, hw1, h⟩ := kO_some h
            obtain ⟨q1, q2⟩ := kpf_len hw1
            exact kdoneN (ih _ _ _ _ _ _ _ h) (ks_putf hf hfin (by rw [ty]; exact knar_z hx1) (by rw [ty]; exact kfit_z hx1) hw1 hd) q1 q2 rfl
          · exact h.elim
        · exact h.elim
      · exact h.elim
    | iaload =>
      obtain rfl : len = 1 := Nat.eq_of_beq_eq_true hln
      dsimp only [kstep] at h
      split at h
      · obtain ⟨x, hx, h⟩ := kO_some h
        exact kdoneN (ih _ _ _ _ _ _ _ h) (ks_iald hx hd) rfl rfl rfl
      · obtain ⟨x, hx, h⟩ := kO_some h
        exact kdoneN (ih _ _ _ _ _ _ _ h) (ks_ti hx hd) rfl rfl rfl
      · exact h.elim
    | baload =>
      obtain rfl : len = 1 := Nat.eq_of_beq_eq_true hln
      dsimp only [kstep] at h
      split at h
      · obtain ⟨x, hx, h⟩ := kO_some h
        exact kdoneN (ih _ _ _ _ _ _ _ h) (ks_bald hx hd) rfl rfl rfl
      · obtain ⟨x, hx, h⟩ := kO_some h
        exact kdoneN (ih _ _ _ _ _ _ _ h) (ks_tb hx hd) rfl rfl rfl
      · exact h.elim
    | laload =>
      obtain rfl : len = 1 := Nat.eq_of_beq_eq_true hln
      dsimp only [kstep] at h
      split at h
      · obtain ⟨x, hx, h⟩ := kO_some h
        exact kdoneN (ih _ _ _ _ _ _ _ h) (ks_lald hx hd) rfl rfl rfl
      · obtain ⟨x, hx, h⟩ := kO_some h
        exact kdoneN (ih _ _ _ _ _ _ _ h) (ks_tl hx hd) rfl rfl rfl
      · exact h.elim
    | aaload =>
      obtain rfl : len = 1 := Nat.eq_of_beq_eq_true hln
      dsimp only [kstep] at h
      split at h
      · obtain ⟨x, hx, h⟩ := kO_some h
        exact kdoneN (ih _ _ _ _ _ _ _ h) (ks_aald hx hd) rfl rfl rfl
      · exact h.elim
    | iastore =>
      obtain rfl : len = 1 := Nat.eq_of_beq_eq_true hln
      dsimp only [kstep] at h
      split at h
      · obtain ⟨w1, hw1, h⟩ := kO_some h
        obtain ⟨q1, q2⟩ := ksI_len hw1
        exact kdoneN (ih _ _ _ _ _ _ _ h) (ks_iast hw1 hd) q1 q2 rfl
      · exact h.elim
    | bastore =>
      obtain rfl : len = 1 := Nat.eq_of_beq_eq_true hln
      dsimp only [kstep] at h
      split at h
      · obtain ⟨w1, hw1, h⟩ := kO_some h
        obtain ⟨q1, q2⟩ := ksB_len hw1
        exact kdoneN (ih _ _ _ _ _ _ _ h) (ks_bast hw1 hd) q1 q2 rfl
      · exact h.elim
    | lastore =>
      obtain rfl : len = 1 := Nat.eq_of_beq_eq_true hln
      dsimp only [kstep] at h
      split at h
      · obtain ⟨w1, hw1, h⟩ := kO_some h
        obtain ⟨q1, q2⟩ := ksJ_len hw1
        exact kdoneN (ih _ _ _ _ _ _ _ h) (ks_last hw1 hd) q1 q2 rfl
      · exact h.elim
    | aastore =>
      obtain rfl : len = 1 := Nat.eq_of_beq_eq_true hln
      dsimp only [kstep] at h
      split at h
      · obtain ⟨w1, hw1, h⟩ := kO_some h
        obtain ⟨q1, q2⟩ := ksR_len hw1
        exact kdoneN (ih _ _ _ _ _ _ _ h) (ks_aast hw1 hd) q1 q2 rfl
      · exact h.elim
    | arraylength =>
      obtain rfl : len = 1 := Nat.eq_of_beq_eq_true hln
      dsimp only [kstep] at h
      split at h
      · obtain ⟨x, hx, h⟩ := kO_some h
        exact kdoneN (ih _ _ _ _ _ _ _ h) (ks_alen hx hd) rfl rfl rfl
      · obtain ⟨x, hx, h⟩ := kO_some h
        exact kdoneN (ih _ _ _ _ _ _ _ h) (ks_tlen hx hd) rfl rfl rfl
      · exact h.elim
    | new k =>
      obtain rfl : len = 3 := Nat.eq_of_beq_eq_true hln
      dsimp only [kstep] at h
      obtain ⟨c, hc, h⟩ := kO_some h
      exact knewN (ih _ _ _ _ _ _ _ h) (by rw [List.length_append]; rfl)
    | newarray t =>
      obtain rfl : len = 2 := Nat.eq_of_beq_eq_true hln
      dsimp only [kstep] at h
      split at h
      · obtain ⟨t1, ht1, h⟩ := kO_some h
        split at h
        · exact h.elim
        · rename_i hb
          simp only [not_or, Nat.not_lt] at hb
          cases t <;> simp only [kat, Option.some.injEq, reduceCtorEq] at ht1 <;> subst ht1
          · exact knewN (ih _ _ _ _ _ _ _ h) (by rw [List.length_append]; rfl)
          · exact knewN (ih _ _ _ _ _ _ _ h) (by rw [List.length_append]; rfl)
          · exact knewN (ih _ _ _ _ _ _ _ h) (by rw [List.length_append]; rfl)
          · exact knewN (ih _ _ _ _ _ _ _ h) (by rw [List.length_append]; rfl)
      · exact h.elim
    | anewarray k =>
      obtain rfl : len = 3 := Nat.eq_of_beq_eq_true hln
      dsimp only [kstep] at h
      split at h
      · obtain ⟨t1, ht1, h⟩ := kO_some h
        split at h
        · exact h.elim
        · rename_i hb
          simp only [not_or, Nat.not_lt] at hb
          exact knewN (ih _ _ _ _ _ _ _ h) (by rw [List.length_append]; rfl)
      · exact h.elim
    | invokestatic k =>
      obtain rfl : len = 3 := Nat.eq_of_beq_eq_true hln
      dsimp only [kstep] at h
      obtain ⟨⟨kd, m', na⟩, hf, h⟩ := kO_some h
      dsimp only at h
      split at h
      · obtain ⟨⟨as, st1⟩, has, h⟩ := kO_some h
        dsimp only at h
        obtain ⟨hs1, hs2⟩ := kargs_spec _ _ _ _ _ has
        obtain ⟨hm, hk1, hk2, hk3⟩ := klink_ok_0 hf
        obtain ⟨hc, h⟩ := kcond h
        simp only [Bool.and_eq_true] at hc
        cases d with
        | zero => exact h.elim
        | succ d =>
          obtain ⟨r1, w1, h1, f1, g1⟩ := ih _ _ _ _ _ _ _ h
          exact kcallN_go hm (Or.inl ⟨rfl, hk1, by rw [hs2, hk2]; rfl, Or.inl hk3⟩) hs1 (Nat.le_of_ble_eq_true hc.1) (Nat.le_of_ble_eq_true hc.2) hd f1 g1 (ih _ _ _ _ _ _ _ h1)
      · obtain ⟨⟨as, st1⟩, has, h⟩ := kO_some h
        dsimp only at h
        obtain ⟨hs1, hs2⟩ := kargs_spec _ _ _ _ _ has
        obtain ⟨hm, hk1, hk2, hk3⟩ := klink_ok_4 hf
        obtain ⟨hc, h⟩ := kcond h
        simp only [Bool.and_eq_true] at hc
        cases d with
        | zero => exact h.elim
        | succ d =>
          obtain ⟨r1, w1, h1, f1, g1⟩ := ih _ _ _ _ _ _ _ h
          exact kcallN_go hm (Or.inl ⟨rfl, hk1, by rw [hs2, hk2]; rfl, Or.inr hk3⟩) hs1 (Nat.le_of_ble_eq_true hc.1) (Nat.le_of_ble_eq_true hc.2) hd f1 g1 (ih _ _ _ _ _ _ _ h1)
      · split at h
        · obtain ⟨hc, h5⟩ := kcond h
          clear h
          split at h5
          · rename_i hz
            obtain ⟨z1, z2⟩ := hz
            obtain ⟨w1, hw1, h6⟩ := kO_some h5
            clear h5
            subst z1
            subst z2
            obtain ⟨q1, q2⟩ := kcopy_len hw1
            exact kdoneN (ih _ _ _ _ _ _ _ h6) (ks_copy (klink_ok_6 hf) (Nat.le_of_ble_eq_true hc) hw1 hd) q1 q2 rfl
          · exact h5.elim
        · exact h.elim
      · exact h.elim
    | invokevirtual k =>
      obtain rfl : len = 3 := Nat.eq_of_beq_eq_true hln
      dsimp only [kstep] at h
      obtain ⟨⟨kd, m', na⟩, hf, h⟩ := kO_some h
      dsimp only at h
      split at h
      · obtain ⟨⟨as, st1⟩, has, h⟩ := kO_some h
        dsimp only at h
        obtain ⟨hs1, hs2⟩ := kargs_spec _ _ _ _ _ has
        obtain ⟨hm, hk1, hk2, hk3⟩ := klink_ok_1 hf
        split at h
        · rename_i r0 as0
          obtain ⟨hc, h⟩ := kcond h
          simp only [Bool.and_eq_true] at hc
          cases d with
          | zero => exact h.elim
          | succ d =>
            obtain ⟨r1, w1, h1, f1, g1⟩ := ih _ _ _ _ _ _ _ h
            exact kcallN_go hm (Or.inr (Or.inl ⟨rfl, hk1, by rw [hs2, hk2]; rfl, ⟨_, _, rfl, hc.2⟩, hk3⟩)) hs1 (Nat.le_of_ble_eq_true hc.1.1) (Nat.le_of_ble_eq_true hc.1.2) hd f1 g1 (ih _ _ _ _ _ _ _ h1)
        · exact h.elim
      · exact h.elim
    | invokespecial k =>
      obtain rfl : len = 3 := Nat.eq_of_beq_eq_true hln
      dsimp only [kstep] at h
      obtain ⟨⟨kd, m', na⟩, hf, h⟩ := kO_some h
      dsimp only at h
      split at h
      · obtain ⟨⟨as, st1⟩, has, h⟩ := kO_some h
        dsimp only at h
        obtain ⟨hs1, hs2⟩ := kargs_spec _ _ _ _ _ has
        obtain ⟨hm, hk1, hk2, hk3⟩ := klink_ok_2 hf
        split at h
        · obtain ⟨hc, h⟩ := kcond h
          simp only [Bool.and_eq_true] at hc
          cases d with
          | zero => exact h.elim
          | succ d =>
            obtain ⟨r1, w1, h1, f1, g1⟩ := ih _ _ _ _ _ _ _ h
            exact kcallN_go hm (Or.inr (Or.inr ⟨rfl, hk1, by rw [hs2, hk2]; rfl, ⟨_, _, rfl⟩, Or.inl hk3⟩)) hs1 (Nat.le_of_ble_eq_true hc.1) (Nat.le_of_ble_eq_true hc.2) hd f1 g1 (ih _ _ _ _ _ _ _ h1)
        · exact h.elim
      · obtain ⟨⟨as, st1⟩, has, h⟩ := kO_some h
        dsimp only at h
        obtain ⟨hs1, hs2⟩ := kargs_spec _ _ _ _ _ has
        obtain ⟨hm, hk1, hk2, hk3⟩ := klink_ok_3 hf
        split at h
        · obtain ⟨hc, h⟩ := kcond h
          simp only [Bool.and_eq_true] at hc
          cases d with
          | zero => exact h.elim
          | succ d =>
            obtain ⟨r1, w1, h1, f1, g1⟩ := ih _ _ _ _ _ _ _ h
            exact kcallN_go hm (Or.inr (Or.inr ⟨rfl, hk1, by rw [hs2, hk2]; rfl, ⟨_, _, rfl⟩, Or.inr hk3⟩)) hs1 (Nat.le_of_ble_eq_true hc.1) (Nat.le_of_ble_eq_true hc.2) hd f1 g1 (ih _ _ _ _ _ _ _ h1)
        · exact h.elim
      · split at h
        · obtain ⟨hc, h⟩ := kcond h
          exact kdoneN (ih _ _ _ _ _ _ _ h) (ks_oi (klink_ok_5 hf) (Nat.le_of_ble_eq_true hc) hd) rfl rfl rfl
        · exact h.elim
      · exact h.elim
    | ireturn =>
      obtain rfl : len = 1 := Nat.eq_of_beq_eq_true hln
      dsimp only [kstep] at h
      split at h
      · split at h
        · rename_i hr0
          exact kretN_go hr0 rfl h hd
        · rename_i t hr0
          split at h
          · rename_i hn
            exact kretN_go hr0 hn h hd
          · exact h.elim
        · exact h.elim
      · exact h.elim
    | return_ =>
      obtain rfl : len = 1 := Nat.eq_of_beq_eq_true hln
      dsimp only [kstep] at h
      split at h
      · split at h
        · rename_i hr0
          exact kretvN_go hr0 h hd
        · exact h.elim
      · exact h.elim
    | tableswitch dflt lo hi offs =>
      dsimp only [kstep] at h
      split at h
      · obtain ⟨hc, h⟩ := kcond h
        simp only [Bool.and_eq_true, decide_eq_true_eq] at hc
        rcases kswC_spec _ _ h with ⟨j, off, h1, h2, h⟩ | ⟨h1, h⟩
        · obtain ⟨t, ht, h⟩ := kjmp_some h
          exact kdoneN (ih _ _ _ _ _ _ _ h) (ks_swIn hc.1.1 hc.1.2 hc.2 h1 h2 ht hd) rfl rfl rfl
        · obtain ⟨t, ht, h⟩ := kjmp_some h
          exact kdoneN (ih _ _ _ _ _ _ _ h) (ks_swOut hc.1.1 h1 ht hd) rfl rfl rfl
      · exact h.elim
    | _ => exact h.elim
