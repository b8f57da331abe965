/-! the class reads a term's lines -/
def rdL (T : aTp) (N : aNm) (nj nc : Nat) : Nat → aPS × aLn → aPS × aLn
  | 0, p => p
  | f + 1, p => if p.1.F = 0 ∧ kdO T p.1 ≠ 0 then rdL T N nj nc f (lnS T N nj nc p.2.n p.1, lnL T N nj nc p.2 p.1) else p
section TE
variable {xs : List Int32} {d : Nat} {I I' I2 : Nat → Nat → Int32} {J J' : Nat → Nat → Int64} {rf : Nat → Nat} {g : Nat} {R : Option Value → KW → Prop} {w : KW} {T : aTp} {s : aPS} {a t ra nj nc : Nat} {N : aNm} {l : aLn}
theorem lnL_le (hn : l.n ≤ 40) : (lnL T N nj nc l s).n ≤ 40 := by
  unfold lnL
  by_cases q : (lnS T N nj nc l.n s).F = 0
  · rw [if_pos q]
    show l.n + 1 ≤ 40
    refine Classical.byContradiction (fun z => ?_)
    have e : ¬ l.n < 40 := fun y => z (by omega)
    unfold lnS at q
    by_cases q1 : 135 ≤ kdO T s ∧ kdO T s ≤ 138
    · rw [if_pos q1, if_neg e] at q
      have q' : (if s.F = 0 then 5 + 16 * pT T s.k else s.F) = 0 := q
      by_cases q2 : s.F = 0
      · rw [if_pos q2] at q'; omega
      · rw [if_neg q2] at q'; exact q2 q'
    · rw [if_neg q1] at q
      have q' : (if s.F = 0 then 1 + 16 * pT T s.k else s.F) = 0 := q
      by_cases q2 : s.F = 0
      · rw [if_pos q2] at q'; omega
      · rw [if_neg q2] at q'; exact q2 q'
  · rw [if_neg q]; exact hn
theorem cFt_r (hra : 4 ≤ ra ∧ ra ≠ a ∧ ra ≠ a + 1) (hrt : ra < t ∨ t + 3 < ra) (h : cFt a t I I') (k : Nat) : I' ra k = I ra k := h ra k (by omega) (by omega) hra.2.1 hra.2.2 hrt
/-- the loop of Reader.readTerm -/
theorem c_42l (v : vTp T) (ha : 4 ≤ a) (ht : kshp t = some (.inl 10)) (ht1 : 4 ≤ t) (hta : a + 1 < t ∨ t + 3 < a) (hr : kshp ra = some (.inl 6)) (hra : 4 ≤ ra ∧ ra ≠ a ∧ ra ≠ a + 1) (hrt : ra < t ∨ t + 3 < ra) (h7 : nj ≤ 7) (h7c : nc ≤ 7) (hv : vNm nj nc N) : ∀ f i I J s l, i + f = 1001 → I ra 0 = nI nj → I ra 1 = nI nc → cNm J ra nj nc N → cPS I J T a s → cLn I t l → l.n ≤ 40 → ∃ I' J', cPS I' J' T a (rdL T N nj nc f (s, l)).1 ∧ cLn I' t (rdL T N nj nc f (s, l)).2 ∧ cFt a t I I' ∧ jFr J J' ∧ ∀ d R, kX xs (d + 8) 42 17 [some (.ref 3), some (.ref t), some (.ref ra), some (.int (bz s)), some (.int (nI i))] [] (kmm I J rf g) R = R (some (.int (nI (rdL T N nj nc f (s, l)).1.F))) (kmm I' J' rf g) := by
  intro f
  induction f with
  | zero =>
    intro i I J s l hi h0 h1 hN h hl hn
    refine ⟨I, J, h, hl, fun _ _ _ _ _ _ _ => rfl, jFr.refl, fun d R => ?_⟩
    rw [B42_17, c16_1000, if_pos (nI_lt (by omega) (by omega)), B42_52, kg5_0, kO_s, kg2_7, kO_s, h.f]
    rfl
  | succ f ih =>
    intro i I J s l hi h0 h1 hN h hl hn
    have ek := c_kd h
    have e0 : (nI (kdO T s) = 0) = (kdO T s = 0) := kd_eq (c := 0) v (by omega)
    rw [rdL]
    by_cases q : s.F = 0 ∧ kdO T s ≠ 0
    · rw [if_pos q]
      obtain ⟨I1, J1, a1, a0, a2, a3, a4⟩ := c_43 (xs := xs) (rf := rf) (g := g) v ha ht ht1 hta hr hra h0 h1 h7 h7c hv hN h q.1 hl hn
      obtain ⟨I2, J2, b1, b0, b2, b3, b4⟩ := ih (i + 1) I1 J1 _ _ (by omega) ((cFt_r hra hrt a2 0).trans h0) ((cFt_r hra hrt a2 1).trans h1) (cNm_k hra.1 a3 hN) a1 a0 (lnL_le hn)
      refine ⟨I2, J2, b1, b0, a2.trans b2, a3.trans b3, fun d R => ?_⟩
      rw [B42_17, c16_1000, if_neg (nI_nlt (by omega) (by omega)), B42_25, bz_1 q.1, if_neg (by decide), B42_29, kg5_0, kO_s, kg2_3, kO_s, ek, if_neg (fun z => q.2 (e0.mp z)), B42_39, krecv_m ks3, kcond_t, a4, kpush_s, B42_45, nI_add1]
      exact b4 d R
    · rw [if_neg q]
      refine ⟨I, J, h, hl, fun _ _ _ _ _ _ _ => rfl, jFr.refl, fun d R => ?_⟩
      rw [B42_17, c16_1000, if_neg (nI_nlt (by omega) (by omega)), B42_25]
      by_cases z : s.F = 0
      · have z2 : kdO T s = 0 := Classical.byContradiction (fun y => q ⟨z, y⟩)
        rw [bz_1 z, if_neg (by decide), B42_29, kg5_0, kO_s, kg2_3, kO_s, ek, if_pos (e0.mpr z2), B42_52, kg5_0, kO_s, kg2_7, kO_s, h.f]
      · rw [bz_0 z, if_pos rfl, B42_52, kg5_0, kO_s, kg2_7, kO_s, h.f]
end TE
