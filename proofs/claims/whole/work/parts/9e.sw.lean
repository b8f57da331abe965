/-! with another law's steps; how far a line goes; references of SwapAssize written -/
def sW (s l : aPS) : aPS := aPS.mk s.k s.F l.ll l.lo l.la
section SW
variable {T : aTp} {s l u : aPS} {N : aNm} {nj nc w m bm n x : Nat} {f : Nat → Nat}
theorem sW_k : (sW s l).k = s.k := rfl
theorem sW_F : (sW s l).F = s.F := rfl
theorem sW_d : kdO T (sW s l) = kdO T s := rfl
theorem sW_stp : stp (sW s l) = sW (stp s) l := rfl
theorem sW_wrg {c : Nat} : wrg T c (sW s l) = sW (wrg T c s) l := rfl
theorem sW_tak {c : Nat} : tak T c (sW s l) = sW (tak T c s) l := by
  unfold tak
  rw [sW_F, sW_d]
  by_cases q : s.F = 0
  · rw [if_pos q, if_pos q]
    by_cases q2 : kdO T s = c
    · rw [if_pos q2, if_pos q2]; rfl
    · rw [if_neg q2, if_neg q2]; rfl
  · rw [if_neg q, if_neg q]
theorem sW_tkN : tkN T m (sW s l) = sW (tkN T m s) l := by
  unfold tkN
  rw [sW_d, sW_k]
  by_cases q : kdO T s = 2
  · rw [if_pos q, if_pos q]
    by_cases q2 : tV T (pT T s.k) ≤ m
    · rw [if_pos q2, if_pos q2]; rfl
    · rw [if_neg q2, if_neg q2]; rfl
  · rw [if_neg q, if_neg q]; rfl
theorem sW_tld : tld T f n bm (sW s l) = sW (tld T f n bm s) l := by
  unfold tld
  rw [sW_d, sW_k]
  by_cases q : okN (kdO T s)
  · rw [if_pos q, if_pos q]
    by_cases q2 : fO f (tV T (pT T s.k)) n < n
    · rw [if_pos q2, if_pos q2]
      by_cases q3 : bm.testBit (fO f (tV T (pT T s.k)) n) = true
      · rw [if_pos q3, if_pos q3]; rfl
      · rw [if_neg q3, if_neg q3]; rfl
    · rw [if_neg q2, if_neg q2]; rfl
  · rw [if_neg q, if_neg q]; rfl
theorem sW_iF {fn : aPS → aPS} (h : fn (sW s l) = sW (fn s) l) : iF fn (sW s l) = sW (iF fn s) l := by
  unfold iF
  rw [sW_F]
  by_cases q : s.F = 0
  · rw [if_pos q, if_pos q, h]
  · rw [if_neg q, if_neg q]
theorem sW_tm1 : tm1 T N nj nc w (sW s l) = sW (tm1 T N nj nc w s) l := by
  unfold tm1
  by_cases q : w = 0
  · rw [if_pos q, if_pos q]
  · rw [if_neg q, if_neg q]
    by_cases q2 : w = 1
    · rw [if_pos q2, if_pos q2, sW_tld]
    · rw [if_neg q2, if_neg q2, sW_tld]
theorem sW_tm2 : tm2 T N nj w x (sW s l) = sW (tm2 T N nj w x s) l := by
  unfold tm2
  by_cases q : w = 1
  · rw [if_pos q, if_pos q, sW_tkN]
  · rw [if_neg q, if_neg q]
    by_cases q2 : w = 2
    · rw [if_pos q2, if_pos q2, sW_tkN]
    · rw [if_neg q2, if_neg q2, sW_tld]
theorem sW_ln2 : ln2 T N nj nc (sW s l) = sW (ln2 T N nj nc s) l := by
  unfold ln2
  rw [sW_d, sW_stp, sW_tm1]
theorem sW_lnX : lnX T N nj nc (sW s l) = lnX T N nj nc s := rfl
theorem sW_tm2v : tm2v T N nj w (sW s l) = tm2v T N nj w s := rfl
theorem sW_lnY : lnY T N nj nc (sW s l) = lnY T N nj nc s := by
  unfold lnY
  rw [sW_d, sW_ln2, sW_tm2v]
theorem sW_ln3 : ln3 T N nj nc (sW s l) = sW (ln3 T N nj nc s) l := by
  unfold ln3
  rw [sW_d, sW_ln2, sW_lnX]
  by_cases q : kdO T s = 135
  · rw [if_pos q, if_pos q]
  · rw [if_neg q, if_neg q, sW_iF sW_tm2]
theorem sW_lnS : lnS T N nj nc n (sW s l) = sW (lnS T N nj nc n s) l := by
  unfold lnS
  rw [sW_d]
  by_cases q : 135 ≤ kdO T s ∧ kdO T s ≤ 138
  · rw [if_pos q, if_pos q]
    by_cases q2 : n < 40
    · rw [if_pos q2, if_pos q2, sW_ln3, sW_tak]
    · rw [if_neg q2, if_neg q2]; rfl
  · rw [if_neg q, if_neg q]; rfl
theorem sW_lnL {L : aLn} : lnL T N nj nc L (sW s l) = lnL T N nj nc L s := by
  unfold lnL
  rw [sW_lnS, sW_F, sW_lnX, sW_lnY, sW_d]
theorem sW_rdL : ∀ f (s : aPS) (L : aLn), rdL T N nj nc f (sW s l, L) = (sW (rdL T N nj nc f (s, L)).1 l, (rdL T N nj nc f (s, L)).2) := by
  intro f
  induction f with
  | zero => intro s L; rfl
  | succ f ih =>
    intro s L
    have e1 : rdL T N nj nc (f + 1) (sW s l, L) = if s.F = 0 ∧ kdO T s ≠ 0 then rdL T N nj nc f (lnS T N nj nc L.n (sW s l), lnL T N nj nc L (sW s l)) else (sW s l, L) := rfl
    have e2 : rdL T N nj nc (f + 1) (s, L) = if s.F = 0 ∧ kdO T s ≠ 0 then rdL T N nj nc f (lnS T N nj nc L.n s, lnL T N nj nc L s) else (s, L) := rfl
    rw [e1, e2]
    by_cases q : s.F = 0 ∧ kdO T s ≠ 0
    · rw [if_pos q, if_pos q, sW_lnS, sW_lnL, ih]
    · rw [if_neg q, if_neg q]
theorem rdL_F {p : aPS × aLn} (h : ¬ p.1.F = 0) : ∀ f, rdL T N nj nc f p = p := by
  intro f
  cases f with
  | zero => rfl
  | succ f => rw [rdL, if_neg (fun z => h z.1)]
/-! how far -/
abbrev kle (T : aTp) (s u : aPS) : Prop := s.k ≤ u.k ∧ u.k ≤ nT T
theorem kle.trans {v : aPS} (h1 : kle T s u) (h2 : kle T u v) : kle T s v := ⟨Nat.le_trans h1.1 h2.1, h2.2⟩
theorem kle_stp (h : s.k < nT T) : kle T s (stp s) := ⟨Nat.le_succ _, h⟩
theorem kle_wrg {c : Nat} (h : s.k ≤ nT T) : kle T s (wrg T c s) := ⟨Nat.le_refl _, h⟩
theorem kle_tak {c : Nat} (h : s.k ≤ nT T) (hc : c ≠ 0) : kle T s (tak T c s) := ⟨(avn_tak h hc).k, (avn_tak h hc).n⟩
theorem kle_tkN (h : s.k ≤ nT T) : kle T s (tkN T m s) := by
  unfold tkN
  by_cases q : kdO T s = 2
  · rw [if_pos q]
    by_cases q2 : tV T (pT T s.k) ≤ m
    · rw [if_pos q2]; exact kle_stp (kdO_lt h (by omega))
    · rw [if_neg q2]; exact kle_wrg h
  · rw [if_neg q]; exact kle_wrg h
theorem okN_0 (q : okN (kdO T s)) : kdO T s ≠ 0 := fun z => by unfold okN okF at q; omega
theorem kle_tld (h : s.k ≤ nT T) : kle T s (tld T f n bm s) := by
  unfold tld
  by_cases q : okN (kdO T s)
  · rw [if_pos q]
    by_cases q2 : fO f (tV T (pT T s.k)) n < n
    · rw [if_pos q2]
      by_cases q3 : bm.testBit (fO f (tV T (pT T s.k)) n) = true
      · rw [if_pos q3]; exact kle_wrg h
      · rw [if_neg q3]; exact kle_stp (kdO_lt h (okN_0 q))
    · rw [if_neg q2]; exact kle_wrg h
  · rw [if_neg q]; exact kle_wrg h
theorem kle_iF {fn : aPS → aPS} (h : s.k ≤ nT T) (hf : kle T s (fn s)) : kle T s (iF fn s) := by
  unfold iF
  by_cases q : s.F = 0
  · rw [if_pos q]; exact hf
  · rw [if_neg q]; exact ⟨Nat.le_refl _, h⟩
theorem kle_tm1 (h : s.k ≤ nT T) : kle T s (tm1 T N nj nc w s) := by
  unfold tm1
  by_cases q : w = 0
  · rw [if_pos q]; exact ⟨Nat.le_refl _, h⟩
  · rw [if_neg q]
    by_cases q2 : w = 1
    · rw [if_pos q2]; exact kle_tld h
    · rw [if_neg q2]; exact kle_tld h
theorem kle_tm2 (h : s.k ≤ nT T) : kle T s (tm2 T N nj w x s) := by
  unfold tm2
  by_cases q : w = 1
  · rw [if_pos q]; exact kle_tkN h
  · rw [if_neg q]
    by_cases q2 : w = 2
    · rw [if_pos q2]; exact kle_tkN h
    · rw [if_neg q2]; exact kle_tld h
theorem kle_lnS (h : s.k ≤ nT T) (hF : s.F = 0) : (lnS T N nj nc n s).k ≤ nT T ∧ ((lnS T N nj nc n s).F = 0 → s.k + 1 ≤ (lnS T N nj nc n s).k) := by
  unfold lnS
  by_cases q : 135 ≤ kdO T s ∧ kdO T s ≤ 138
  · rw [if_pos q]
    by_cases q2 : n < 40
    · rw [if_pos q2]
      have h1 : s.k < nT T := kdO_lt h (by omega)
      have k2 : kle T (stp s) (ln2 T N nj nc s) := kle_tm1 h1
      have k3 : kle T (stp s) (ln3 T N nj nc s) := by
        unfold ln3
        by_cases q3 : kdO T s = 135
        · rw [if_pos q3]; exact k2
        · rw [if_neg q3]; exact k2.trans (kle_iF k2.2 (kle_tm2 k2.2))
      have k4 := k3.trans (kle_tak (c := 59) k3.2 (by omega))
      exact ⟨k4.2, fun _ => k4.1⟩
    · rw [if_neg q2]; exact ⟨h, fun z => absurd z (wrgF (by omega) hF)⟩
  · rw [if_neg q]; exact ⟨h, fun z => absurd z (wrgF (by omega) hF)⟩
theorem tak_F {c : Nat} (h : (tak T c s).F = 0) : s.F = 0 := by
  refine Classical.byContradiction (fun q => ?_)
  unfold tak at h
  rw [if_neg q] at h
  exact q h
theorem iF_F {fn : aPS → aPS} (h : (iF fn s).F = 0) : s.F = 0 := by
  refine Classical.byContradiction (fun q => ?_)
  unfold iF at h
  rw [if_neg q] at h
  exact q h
/-- every int is one of the naturals' -/
def nO (x : Int32) : Nat := x.toBitVec.toNat
theorem nO_n (x : Int32) : nI (nO x) = x := by
  refine Int32.toBitVec_inj.mp ?_
  show BitVec.ofNat 32 x.toBitVec.toNat = x.toBitVec
  rw [BitVec.ofNat_toNat, BitVec.setWidth_eq]
end SW
/-! references of SwapAssize written -/
theorem kshp_11 {a : Nat} (h : kshp a = some (.inl 11)) : a = 0 := by
  have key : ∀ a : Fin 209, kshp a.val = some (.inl 11) → a.val = 0 := by decide +kernel
  exact key ⟨a, kshp_lt h⟩ h
theorem krf_ku {rf : Nat → Nat} {k x a : Nat} (ha : a ≠ 0) (j : Nat) : krf (ku1 rf k x) a j = krf rf a j := by
  unfold krf
  split
  all_goals first
    | rfl
    | (rename_i h; exact absurd (kshp_11 h) ha)
theorem krf_0 {rf : Nat → Nat} {k x j : Nat} (hj : j ≠ k) : krf (ku1 rf k x) 0 j = krf rf 0 j := by
  show (bif Nat.blt 1 j && Nat.blt j 6 then ku1 rf k x j else _) = (bif Nat.blt 1 j && Nat.blt j 6 then rf j else _)
  rw [ku1_n hj]
theorem kpR_m {I : Nat → Nat → Int32} {J : Nat → Nat → Int64} {rf : Nat → Nat} {g k x : Nat} (h1 : 2 ≤ k) (h2 : k < 6) : kpf (kmm I J rf g) 0 11 k (.ref x) = some (kmm I J (ku1 rf k x) g) := by
  have hk : k < kN 11 := Nat.lt_of_lt_of_le h2 (by decide)
  have e2 : kfk 11 k = 2 := by
    have key : ∀ k : Fin 6, 2 ≤ k.val → kfk 11 k.val = 2 := by decide
    exact key ⟨k, h2⟩ h1
  unfold kpf
  rw [kmm_get (kshp_lt ks0), kcell_obj ks0]
  simp only [Nat.beq_refl, List.length_map, List.length_range, Bool.true_and]
  rw [show Nat.blt k (kN 11) = true by simpa using hk]
  simp only [cond_true, Option.some.injEq]
  refine kmm_set (kshp_lt ks0) ?_ (fun a' ha => kcell_ku rfl rfl (fun j => krf_ku ha j))
  rw [kcell_obj ks0]
  congr 2
  apply List.ext_getElem?
  intro j
  rw [List.getElem?_set]
  by_cases hj : k = j
  · subst hj
    have e3 : krf (ku1 rf k x) 0 k = x := by
      show (bif Nat.blt 1 k && Nat.blt k 6 then ku1 rf k x k else _) = x
      rw [ku1_s, show Nat.blt 1 k = true by rw [Nat.blt_eq]; omega, show Nat.blt k 6 = true by rw [Nat.blt_eq]; omega]
      rfl
    simp [hk, kfv, e2, e3]
  · rw [if_neg hj]
    by_cases hl : j < kN 11
    · simp only [List.getElem?_map, List.getElem?_range hl, Option.map_some, Option.some.injEq]
      unfold kfv
      rw [krf_0 (Ne.symm hj)]
    · simp [hl]
