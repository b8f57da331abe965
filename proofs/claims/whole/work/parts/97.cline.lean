/-! a line of a term: the class -/
def addL (l : aLn) (w x y : Nat) : aLn := aLn.mk (l.n + 1) (ku1 l.w l.n w) (ku1 l.a l.n x) (ku1 l.v l.n y)
def lnX (T : aTp) (N : aNm) (nj nc : Nat) (s : aPS) : Nat := tm1v T N nj nc (kdO T s - 135) (stp s)
def ln2 (T : aTp) (N : aNm) (nj nc : Nat) (s : aPS) : aPS := tm1 T N nj nc (kdO T s - 135) (stp s)
def lnY (T : aTp) (N : aNm) (nj nc : Nat) (s : aPS) : Nat := if kdO T s = 135 then 0 else tm2v T N nj (kdO T s - 135) (ln2 T N nj nc s)
def ln3 (T : aTp) (N : aNm) (nj nc : Nat) (s : aPS) : aPS := if kdO T s = 135 then ln2 T N nj nc s else iF (tm2 T N nj (kdO T s - 135) (lnX T N nj nc s)) (ln2 T N nj nc s)
def lnS (T : aTp) (N : aNm) (nj nc n : Nat) (s : aPS) : aPS := if 135 ≤ kdO T s ∧ kdO T s ≤ 138 then if n < 40 then tak T 59 (ln3 T N nj nc s) else wrg T 5 s else wrg T 1 s
def lnL (T : aTp) (N : aNm) (nj nc : Nat) (l : aLn) (s : aPS) : aLn := if (lnS T N nj nc l.n s).F = 0 then addL l (kdO T s - 135) (lnX T N nj nc s) (lnY T N nj nc s) else l
abbrev cFt (a t : Nat) (I I' : Nat → Nat → Int32) : Prop := ∀ x k, ¬ (x = 1 ∧ 2 ≤ k ∧ k ≤ 7) → ¬ (x = 3 ∧ k = 3) → x ≠ a → x ≠ a + 1 → x < t ∨ t + 3 < x → I' x k = I x k
section CL
variable {xs : List Int32} {d : Nat} {I I' I2 : Nat → Nat → Int32} {J J' : Nat → Nat → Int64} {rf : Nat → Nat} {g : Nat} {R : Option Value → KW → Prop} {w : KW} {T : aTp} {s : aPS} {a t ra nj nc : Nat} {N : aNm} {l : aLn}
theorem cFt.of (h1 : cFs a I I') : cFt a t I I' := fun x k p q r u _ => h1 x k p q r u
theorem cFt.trans (h1 : cFt a t I I') (h2 : cFt a t I' I2) : cFt a t I I2 := fun x k p q r u o => by rw [h2 x k p q r u o, h1 x k p q r u o]
theorem cLn.keep4 (h : cLn I t l) (h1 : ∀ x k, t ≤ x → x ≤ t + 3 → I' x k = I x k) : cLn I' t l := ⟨by rw [h1 _ _ (by omega) (by omega)]; exact h.n, fun k hk => by rw [h1 _ _ (by omega) (by omega)]; exact h.w k hk, fun k hk => by rw [h1 _ _ (by omega) (by omega)]; exact h.a k hk, fun k hk => by rw [h1 _ _ (by omega) (by omega)]; exact h.v k hk⟩
/-- Term.add -/
theorem c_98 {wd x y : Nat} (ht : kshp t = some (.inl 10)) (hl : cLn I t l) (hn : l.n < 40) : ∃ I', cLn I' t (addL l wd x y) ∧ (∀ z k, z < t ∨ t + 3 < z → I' z k = I z k) ∧ ∀ d R, kX xs d 98 0 [some (.ref t), some (.int (nI (135 + wd))), some (.int (nI x)), some (.int (nI y))] [] (kmm I J rf g) R = R none (kmm I' J rf g) := by
  have en := hl.n
  refine ⟨ku (ku (ku (ku I (t + 1) l.n (nI (135 + wd))) (t + 2) l.n (nI x)) (t + 3) l.n (nI y)) t 0 (nI (l.n + 1)), ⟨?_, fun k hk => ?_, fun k hk => ?_, fun k hk => ?_⟩, fun z k hz => by rw [ku_nea (by omega), ku_nea (by omega), ku_nea (by omega), ku_nea (by omega)], fun d R => ?_⟩
  · rw [ku_same]; rfl
  · have hk' : k < l.n + 1 := hk
    rw [ku_nea (by omega), ku_nea (by omega), ku_nea (by omega)]
    show _ = nI (135 + ku1 l.w l.n wd k)
    by_cases q : k = l.n
    · rw [q, ku_same, ku1_s]
    · rw [ku_nek q, ku1_n q]; exact hl.w k (by omega)
  · have hk' : k < l.n + 1 := hk
    rw [ku_nea (by omega), ku_nea (by omega)]
    show _ = nI (ku1 l.a l.n x k)
    by_cases q : k = l.n
    · rw [q, ku_same, ku1_s]
    · rw [ku_nek q, ku1_n q, ku_nea (by omega)]; exact hl.a k (by omega)
  · have hk' : k < l.n + 1 := hk
    rw [ku_nea (by omega)]
    show _ = nI (ku1 l.v l.n y k)
    by_cases q : k = l.n
    · rw [q, ku_same, ku1_s]
    · rw [ku_nek q, ku1_n q, ku_nea (by omega), ku_nea (by omega)]; exact hl.v k (by omega)
  · rw [B98_0, kg10_0 ht, kO_s, en, c8_40, if_pos (nI_lt hn (by omega)), B98_9, kg10_1 ht, kO_s, kg10_0 ht, kO_s, en, kw10_1 ht hn, kO_s, kg10_2 ht, kO_s, kg10_0 ht, kO_s, ku_nea (show t ≠ t + 1 by omega), en, kw10_2 ht hn, kO_s, kg10_3 ht, kO_s, kg10_0 ht, kO_s, ku_nea (show t ≠ t + 2 by omega), ku_nea (show t ≠ t + 1 by omega), en, kw10_3 ht hn, kO_s, kg10_0 ht, kO_s, ku_nea (show t ≠ t + 3 by omega), ku_nea (show t ≠ t + 2 by omega), ku_nea (show t ≠ t + 1 by omega), en, nI_add1, kp10_0 ht, kO_s, B98_49]
/-- the first name of a line -/
theorem c_43a {wd : Nat} (v : vTp T) (ha : 4 ≤ a) (hr : kshp ra = some (.inl 6)) (h0 : I ra 0 = nI nj) (h1 : I ra 1 = nI nc) (h7 : nj ≤ 7) (h7c : nc ≤ 7) (hv : vNm nj nc N) (hN : cNm J ra nj nc N) (h : cPS I J T a s) (hF : s.F = 0) (hw : wd = 1 ∨ wd = 2 ∨ wd = 3) : ∃ I' J', cPS I' J' T a (tm1 T N nj nc wd s) ∧ ((tm1 T N nj nc wd s).F = 0 → tm1v T N nj nc wd s < 7) ∧ cFs a I I' ∧ jFr J J' ∧ ∀ d R, kX xs (d + 7) 43 71 [some (.ref 3), some (.ref t), some (.ref ra), some (.int (nI (135 + wd))), some (.int 0)] [] (kmm I J rf g) R = if (tm1 T N nj nc wd s).F = 0 then kX xs (d + 7) 43 112 [some (.ref 3), some (.ref t), some (.ref ra), some (.int (nI (135 + wd))), some (.int (nI (tm1v T N nj nc wd s)))] [] (kmm I' J' rf g) R else R (some (.int 0)) (kmm I' J' rf g) := by
  unfold tm1 tm1v
  by_cases e : wd = 1
  · subst e
    rw [if_neg (by omega), if_pos rfl, if_neg (by omega), if_pos rfl]
    obtain ⟨I1, a1, a0, a2, a4⟩ := c_48 (xs := xs) (rf := rf) (g := g) v ha hr h1 h7c hv hN h hF
    have ent : ∀ d R, kX xs (d + 7) 43 71 [some (.ref 3), some (.ref t), some (.ref ra), some (.int (nI (135 + 1))), some (.int 0)] [] (kmm I J rf g) R = kX xs (d + 7) 43 83 [some (.ref 3), some (.ref t), some (.ref ra), some (.int (nI (135 + 1))), none] [.int (bz (fdS T N.c nc s))] (kmm I1 J rf g) R := by
      intro d R
      rw [B43_71, c16_136, if_pos rfl, B43_78, krecv_m ks3, kcond_t, a4, kpush_s]
    by_cases q : okN (kdO T s) ∧ fO N.c (tV T (pT T s.k)) nc < nc
    · have q' : (fdS T N.c nc s).F = 0 := (fdS_F hF).mpr q
      have e3 := a0 q'
      rw [fdS_s q] at a1
      obtain ⟨I2, J2, b1, b2, b3, b4⟩ := c_stp (xs := xs) (rf := rf) (g := g) v (by omega) a1
      have et : tld T N.c nc 0 s = stp s := by rw [tld_s q, Nat.zero_testBit, if_neg (by decide)]
      rw [et]
      refine ⟨I2, J2, b1, fun _ => by omega, a2.trans (cFs.of b2), b3, fun d R => ?_⟩
      rw [ent, B43_83, bz_1 q', if_neg (by decide), B43_86, B43_99, kg5_3, kO_s, e3, kg5_0, kO_s, krecv_m ks1, kcond_t, b4, kpush_n, if_pos (show (stp s).F = 0 from hF)]
    · have q' : ¬ (fdS T N.c nc s).F = 0 := fun z => q ((fdS_F hF).mp z)
      rw [tld_f q]
      refine ⟨I1, J, a1, fun z => absurd z q', a2, jFr.refl, fun d R => ?_⟩
      rw [ent, B43_83, bz_0 q', if_pos rfl, B43_97, if_pos nar0, if_neg q']
  · rw [if_neg (by omega), if_neg e, if_neg (by omega), if_neg e]
    obtain ⟨I1, a1, a0, a2, a4⟩ := c_47 (xs := xs) (rf := rf) (g := g) v ha hr h0 h7 hv hN h hF
    have ent : ∀ d R, kX xs (d + 7) 43 71 [some (.ref 3), some (.ref t), some (.ref ra), some (.int (nI (135 + wd))), some (.int 0)] [] (kmm I J rf g) R = kX xs (d + 7) 43 94 [some (.ref 3), some (.ref t), some (.ref ra), some (.int (nI (135 + wd))), none] [.int (bz (fdS T N.j nj s))] (kmm I1 J rf g) R := by
      intro d R
      rw [B43_71, c16_136, if_neg (fun z => e (by rw [nI_inj (by omega) (by omega)] at z; omega)), B43_89, krecv_m ks3, kcond_t, a4, kpush_s]
    by_cases q : okN (kdO T s) ∧ fO N.j (tV T (pT T s.k)) nj < nj
    · have q' : (fdS T N.j nj s).F = 0 := (fdS_F hF).mpr q
      have e3 := a0 q'
      rw [fdS_s q] at a1
      obtain ⟨I2, J2, b1, b2, b3, b4⟩ := c_stp (xs := xs) (rf := rf) (g := g) v (by omega) a1
      have et : tld T N.j nj 0 s = stp s := by rw [tld_s q, Nat.zero_testBit, if_neg (by decide)]
      rw [et]
      refine ⟨I2, J2, b1, fun _ => by omega, a2.trans (cFs.of b2), b3, fun d R => ?_⟩
      rw [ent, B43_94, bz_1 q', if_neg (by decide), B43_99, kg5_3, kO_s, e3, kg5_0, kO_s, krecv_m ks1, kcond_t, b4, kpush_n, if_pos (show (stp s).F = 0 from hF)]
    · have q' : ¬ (fdS T N.j nj s).F = 0 := fun z => q ((fdS_F hF).mp z)
      rw [tld_f q]
      refine ⟨I1, J, a1, fun z => absurd z q', a2, jFr.refl, fun d R => ?_⟩
      rw [ent, B43_94, bz_0 q', if_pos rfl, B43_97, if_pos nar0, if_neg q']
end CL
