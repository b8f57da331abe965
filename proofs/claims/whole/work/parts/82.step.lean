/-! the class's lexer: one token -/
theorem ku_id {α : Type} {I : Nat → Nat → α} {a k : Nat} {x : α} (h : I a k = x) : ku I a k x = I := by
  funext a' k'
  by_cases q : a' = a ∧ k' = k
  · rw [q.1, q.2, ku_same, h]
  · rw [ku_ne q]
theorem nI_ml (a b : Nat) : nI a * nI b = nI (a * b) := (Int32.ofNat_mul a b).symm
theorem nI_dg {a c : Nat} (h : 48 ≤ c) : nI a * nI 10 + nI c - nI 48 = nI (a * 10 + (c - 48)) := by
  rw [nI_ml, nI_add, nI_sb (by omega), show a * 10 + c - 48 = a * 10 + (c - 48) by omega]
abbrev cTk (I : Nat → Nat → Int32) (J : Nat → Nat → Int64) (T : aTp) (p : Nat) : Prop := (I 1 2 = nI (tE T p)) ∧ (I 1 3 = nI (tK T p)) ∧ (I 1 4 = nI p) ∧ (tK T p = 2 → I 1 5 = nI (tV T p)) ∧ (tK T p = 3 ∨ 128 ≤ tK T p → J 1 6 = nJ (cnv 8 (tV T p)) ∧ vWd (tV T p))
theorem cTk.e {I : Nat → Nat → Int32} {J : Nat → Nat → Int64} {T : aTp} {p : Nat} (h : cTk I J T p) : I 1 2 = nI (tE T p) := h.1
theorem cTk.k {I : Nat → Nat → Int32} {J : Nat → Nat → Int64} {T : aTp} {p : Nat} (h : cTk I J T p) : I 1 3 = nI (tK T p) := h.2.1
theorem cTk.p {I : Nat → Nat → Int32} {J : Nat → Nat → Int64} {T : aTp} {p : Nat} (h : cTk I J T p) : I 1 4 = nI p := h.2.2.1
theorem cTk.n {I : Nat → Nat → Int32} {J : Nat → Nat → Int64} {T : aTp} {p : Nat} (h : cTk I J T p) : tK T p = 2 → I 1 5 = nI (tV T p) := h.2.2.2.1
theorem cTk.w {I : Nat → Nat → Int32} {J : Nat → Nat → Int64} {T : aTp} {p : Nat} (h : cTk I J T p) : tK T p = 3 ∨ 128 ≤ tK T p → J 1 6 = nJ (cnv 8 (tV T p)) ∧ vWd (tV T p) := h.2.2.2.2
theorem wIx_2 {v : Nat} : ∀ ws i, wIx v ws i = 3 ∨ 128 ≤ wIx v ws i := by
  intro ws
  induction ws with
  | nil => intro i; exact Or.inl rfl
  | cons u ws ih =>
    intro i
    rw [wIx]
    by_cases h : u = v
    · rw [if_pos h]; omega
    · rw [if_neg h]; exact ih _
theorem wKd_2 {v : Nat} (e : wKd v = 2) : False := by
  have h : wKd v = 3 ∨ 128 ≤ wKd v := wIx_2 wrd37 0
  omega
section ST
variable {xs : List Int32} {d : Nat} {I I' I2 : Nat → Nat → Int32} {J J' : Nat → Nat → Int64} {rf : Nat → Nat} {g : Nat} {R : Option Value → KW → Prop} {w : KW} {T : aTp} {c p i : Nat}
theorem vTp.chr (v : vTp T) {k : Nat} (h : k < T.n) : T.t k < 127 := by have := v.t k h; unfold isC at this; omega
/-- Lexer.takeWord -/
theorem sp19 (h : cTp I T) (v : vTp T) (h0 : p < T.n) (h1 : isL (T.t p) = true) (e2 : I 1 2 = nI p) (e4 : I 1 4 = nI p) : kX xs (d + 1) 19 0 [some (.ref 1)] [] (kmm I J rf g) R = R none (kmm (ku (ku I 1 2 (nI (wdE T p))) 1 3 (nI (tK T p))) (ku J 1 6 (nJ (f256 T.t p (wdE T p - p)))) rf g) := by
  have hn := v.n
  obtain ⟨q1, q2, q3, q4⟩ := rnE_ok (p := fun k => isL (T.t k)) (show p ≤ T.n by omega)
  have fold : rnE (fun k => isL (T.t k)) T.n p = wdE T p := rfl
  rw [fold] at q1 q2 q3 q4
  have x0 : ∀ v, ku I 1 2 v 1 0 = nI T.n := fun v => by rw [ku_nek (by omega), h.n]
  have xt : ∀ v k, k < T.n → ku I 1 2 v 2 k = nI (T.t k) := fun v k hk => by rw [ku_nea (by omega), h.t k hk]
  have xp : ∀ v, ku I 1 2 v 1 4 = nI p := fun v => by rw [ku_nek (by omega), e4]
  have L : kX xs (d + 1) 19 5 [some (.ref 1)] [] (kmm (ku I 1 2 (nI (p + 0))) (ku J 1 6 (nJ (f256 T.t p 0))) rf g) R = kX xs (d + 1) 19 5 [some (.ref 1)] [] (kmm (ku I 1 2 (nI (p + (wdE T p - p)))) (ku J 1 6 (nJ (f256 T.t p (wdE T p - p)))) rf g) R := by
    refine kchain (n := wdE T p - p) (fun j => kX xs (d + 1) 19 5 [some (.ref 1)] [] (kmm (ku I 1 2 (nI (p + j))) (ku J 1 6 (nJ (f256 T.t p j))) rf g) R) ?_
    intro j hj
    have hl := q3 (p + j) (by omega) (by omega)
    have hc := v.chr (show p + j < T.n by omega)
    show kX _ _ _ _ _ _ _ _ = kX _ _ _ _ _ _ _ _
    rw [B19_5, kg2_2, kO_s, ku_same, kg2_0, kO_s, x0, if_pos (nI_lt (show p + j < T.n by omega) (by omega)), B19_16, kg2_1, kO_s, kg2_2, kO_s, ku_same, kb2 (by omega), kO_s, xt _ _ (by omega), sp22 hc, kpush_s, B19_28, if_neg (by rw [hl]; decide), B19_31, kg2_6, kO_s, ku_same, kg2_1, kO_s, kg2_2, kO_s, ku_same, kb2 (by omega), kO_s, xt _ _ (by omega), c8_8, jW_or (by omega), kp2_6, kO_s, kg2_2, kO_s, ku_same, nI_add1, kp2_2, kO_s, ku_ku, ku_ku]
    rfl
  rw [show p + (wdE T p - p) = wdE T p by omega] at L
  rw [B19_0, kp2_6, kO_s]
  have L0 : kmm I (ku J 1 6 0) rf g = kmm (ku I 1 2 (nI (p + 0))) (ku J 1 6 (nJ (f256 T.t p 0))) rf g := by
    rw [ku_id (show I 1 2 = nI (p + 0) from e2)]; rfl
  rw [L0, L]
  have out : ∀ d R, kX xs (d + 1) 19 5 [some (.ref 1)] [] (kmm (ku I 1 2 (nI (wdE T p))) (ku J 1 6 (nJ (f256 T.t p (wdE T p - p)))) rf g) R = kX xs (d + 1) 19 66 [some (.ref 1)] [] (kmm (ku I 1 2 (nI (wdE T p))) (ku J 1 6 (nJ (f256 T.t p (wdE T p - p)))) rf g) R := by
    intro d R
    rw [B19_5, kg2_2, kO_s, ku_same, kg2_0, kO_s, x0]
    by_cases q : wdE T p < T.n
    · rw [if_pos (nI_lt q (by omega)), B19_16, kg2_1, kO_s, kg2_2, kO_s, ku_same, kb2 (by omega), kO_s, xt _ _ q, sp22 (v.chr q), kpush_s, B19_28, if_pos (by rw [q4 q]; rfl)]
    · rw [if_neg (nI_nlt (by omega) (by omega))]
  rw [out, B19_66, kg2_2, kO_s, ku_same, kg2_4, kO_s, xp, c8_8, nI_sb q1]
  unfold tK
  rw [if_pos h0, if_pos h1]
  by_cases q : 8 < wdE T p - p
  · rw [if_pos (nI_lt q (by omega)), if_pos q, B19_81, B19_92, kp2_3, kO_s]
    rfl
  · have hv : vWd (tV T p) := tV_w h0 h1
    have ev : tV T p = f37 T.t p (wdE T p - p) := by
      unfold tV
      rw [if_pos h1, show min (wdE T p - p) 8 = wdE T p - p by omega]
    have ec : f256 T.t p (wdE T p - p) = cnv 8 (tV T p) := by
      rw [ev, cnv_f _ 8 (by omega) (fun j hj => q3 (p + j) (by omega) (by omega))]
    rw [if_neg (nI_nlt (by omega) (by omega)), if_neg q, B19_85, kg2_6, kO_s, ku_same, ec, sp21 hv, kpush_s, B19_92, kp2_3, kO_s]
/-- Lexer.takeNumber -/
theorem sp20 (h : cTp I T) (v : vTp T) (h0 : p < T.n) (hL : isL (T.t p) = false) (h1 : isD (T.t p) = true) (e2 : I 1 2 = nI p) (e4 : I 1 4 = nI p) : kX xs (d + 1) 20 0 [some (.ref 1)] [] (kmm I J rf g) R = R none (kmm (ku (ku (ku I 1 5 (nI (f10 T.t p (dgE T p - p)))) 1 2 (nI (dgE T p))) 1 3 (nI (tK T p))) J rf g) := by
  have hn := v.n
  obtain ⟨q1, q2, q3, q4⟩ := rnE_ok (p := fun k => isD (T.t k)) (show p ≤ T.n by omega)
  have fold : rnE (fun k => isD (T.t k)) T.n p = dgE T p := rfl
  rw [fold] at q1 q2 q3 q4
  have x0 : ∀ u v, ku (ku I 1 5 u) 1 2 v 1 0 = nI T.n := fun u v => by rw [ku_nek (by omega), ku_nek (by omega), h.n]
  have x5 : ∀ u v, ku (ku I 1 5 u) 1 2 v 1 5 = u := fun u v => by rw [ku_nek (by omega), ku_same]
  have xt : ∀ u v k, k < T.n → ku (ku I 1 5 u) 1 2 v 2 k = nI (T.t k) := fun u v k hk => by rw [ku_nea (by omega), ku_nea (by omega), h.t k hk]
  have xp : ∀ u v, ku (ku I 1 5 u) 1 2 v 1 4 = nI p := fun u v => by rw [ku_nek (by omega), ku_nek (by omega), e4]
  have cm : ∀ (u v u' v' : Int32), ku (ku (ku (ku I 1 5 u) 1 2 v) 1 5 u') 1 2 v' = ku (ku I 1 5 u') 1 2 v' := fun u v u' v' => by
    funext a k
    by_cases z : a = 1 ∧ k = 2
    · rw [z.1, z.2, ku_same, ku_same]
    · rw [ku_ne z, ku_ne z]
      by_cases z2 : a = 1 ∧ k = 5
      · rw [z2.1, z2.2, ku_same, ku_same]
      · rw [ku_ne z2, ku_ne z, ku_ne z2, ku_ne z2]
  have L : kX xs (d + 1) 20 5 [some (.ref 1)] [] (kmm (ku (ku I 1 5 (nI (f10 T.t p 0))) 1 2 (nI (p + 0))) J rf g) R = kX xs (d + 1) 20 5 [some (.ref 1)] [] (kmm (ku (ku I 1 5 (nI (f10 T.t p (dgE T p - p)))) 1 2 (nI (p + (dgE T p - p)))) J rf g) R := by
    refine kchain (n := dgE T p - p) (fun j => kX xs (d + 1) 20 5 [some (.ref 1)] [] (kmm (ku (ku I 1 5 (nI (f10 T.t p j))) 1 2 (nI (p + j))) J rf g) R) ?_
    intro j hj
    have hl := q3 (p + j) (by omega) (by omega)
    have hc := v.chr (show p + j < T.n by omega)
    have hd := isD_iff.mp hl
    show kX _ _ _ _ _ _ _ _ = kX _ _ _ _ _ _ _ _
    rw [B20_5, kg2_2, kO_s, ku_same, kg2_0, kO_s, x0, if_pos (nI_lt (show p + j < T.n by omega) (by omega)), B20_16, kg2_1, kO_s, kg2_2, kO_s, ku_same, kb2 (by omega), kO_s, xt _ _ _ (by omega), sp23 hc, kpush_s, B20_28, if_neg (by rw [hl]; decide), B20_31, kg2_5, kO_s, x5, kg2_1, kO_s, kg2_2, kO_s, ku_same, kb2 (by omega), kO_s, xt _ _ _ (by omega), c8_10, c8_48, nI_dg hd.1, kp2_5, kO_s, kg2_2, kO_s, ku_nek (show (2 : Nat) ≠ 5 by omega), ku_same, nI_add1, kp2_2, kO_s, cm]
    rfl
  rw [show p + (dgE T p - p) = dgE T p by omega] at L
  rw [B20_0, kp2_5, kO_s]
  have L0 : kmm (ku I 1 5 0) J rf g = kmm (ku (ku I 1 5 (nI (f10 T.t p 0))) 1 2 (nI (p + 0))) J rf g := by
    rw [ku_id (show (ku I 1 5 (nI (f10 T.t p 0))) 1 2 = nI (p + 0) by rw [ku_nek (by omega)]; exact e2)]; rfl
  rw [L0, L]
  have out : ∀ d R, kX xs (d + 1) 20 5 [some (.ref 1)] [] (kmm (ku (ku I 1 5 (nI (f10 T.t p (dgE T p - p)))) 1 2 (nI (dgE T p))) J rf g) R = kX xs (d + 1) 20 68 [some (.ref 1)] [] (kmm (ku (ku I 1 5 (nI (f10 T.t p (dgE T p - p)))) 1 2 (nI (dgE T p))) J rf g) R := by
    intro d R
    rw [B20_5, kg2_2, kO_s, ku_same, kg2_0, kO_s, x0]
    by_cases q : dgE T p < T.n
    · rw [if_pos (nI_lt q (by omega)), B20_16, kg2_1, kO_s, kg2_2, kO_s, ku_same, kb2 (by omega), kO_s, xt _ _ _ q, sp23 (v.chr q), kpush_s, B20_28, if_pos (by rw [q4 q]; rfl)]
    · rw [if_neg (nI_nlt (by omega) (by omega))]
  rw [out, B20_68, kg2_2, kO_s, ku_same, kg2_4, kO_s, xp, nI_sb q1]
  unfold tK
  have hL' : ¬ isL (T.t p) = true := by rw [hL]; decide
  rw [if_pos h0, if_neg hL', if_pos h1]
  by_cases q : 4 < dgE T p - p
  · rw [if_pos (show (4 : Int32) < nI (dgE T p - p) from nI_lt (a := 4) q (by omega)), if_pos q, B20_82, B20_87, kp2_3, kO_s]
    rfl
  · rw [if_neg (show ¬ (4 : Int32) < nI (dgE T p - p) from nI_nlt (a := 4) (by omega) (by omega)), if_neg q, B20_86, B20_87, kp2_3, kO_s]
    rfl
/-- Lexer.step -/
theorem sp18 (h : cTp I T) (v : vTp T) (hi : i ≤ T.n) (e2 : I 1 2 = nI i) : ∃ I' J', cTk I' J' T (skp T i) ∧ (∀ x k, ¬ (x = 1 ∧ 2 ≤ k ∧ k ≤ 5) → I' x k = I x k) ∧ (∀ x k, ¬ (x = 1 ∧ k = 6) → J' x k = J x k) ∧ ∀ d R, kX xs (d + 4) 18 0 [some (.ref 1)] [] (kmm I J rf g) R = R none (kmm I' J' rf g) := by
  have hn := v.n
  obtain ⟨q1, q2, q3, q4⟩ := rnE_ok (p := fun k => isB (T.t k)) hi
  have fold : rnE (fun k => isB (T.t k)) T.n i = skp T i := rfl
  rw [fold] at q1 q2 q3 q4
  have x0 : ∀ v, ku I 1 2 v 1 0 = nI T.n := fun v => by rw [ku_nek (by omega), h.n]
  have xt : ∀ v k, k < T.n → ku I 1 2 v 2 k = nI (T.t k) := fun v k hk => by rw [ku_nea (by omega), h.t k hk]
  have one : ∀ d R k, k < T.n → kX xs d 18 11 [some (.ref 1)] [] (kmm (ku I 1 2 (nI k)) J rf g) R = if isB (T.t k) = true then kX xs d 18 39 [some (.ref 1)] [] (kmm (ku I 1 2 (nI k)) J rf g) R else kX xs d 18 52 [some (.ref 1)] [] (kmm (ku I 1 2 (nI k)) J rf g) R := by
    intro d R k hk
    have hc := v.chr hk
    rw [B18_11, kg2_1, kO_s, kg2_2, kO_s, ku_same, kb2 (by omega), kO_s, xt _ _ hk, c8_10]
    by_cases z : T.t k = 10
    · rw [if_pos (congrArg nI z), if_pos (isB_iff.mpr (Or.inl z))]
    · rw [if_neg (fun e => z (by rw [nI_inj (by omega) (by omega)] at e; exact e)), B18_25, kg2_1, kO_s, kg2_2, kO_s, ku_same, kb2 (by omega), kO_s, xt _ _ hk, c8_32]
      by_cases z2 : T.t k = 32
      · rw [if_pos (congrArg nI z2), if_pos (isB_iff.mpr (Or.inr z2))]
      · rw [if_neg (fun e => z2 (by rw [nI_inj (by omega) (by omega)] at e; exact e)), if_neg (fun e => (isB_iff.mp e).elim z z2)]
  have L : ∀ d R, kX xs d 18 0 [some (.ref 1)] [] (kmm I J rf g) R = kX xs d 18 52 [some (.ref 1)] [] (kmm (ku I 1 2 (nI (skp T i))) J rf g) R := by
    intro d R
    have L1 : kX xs d 18 0 [some (.ref 1)] [] (kmm (ku I 1 2 (nI (i + 0))) J rf g) R = kX xs d 18 0 [some (.ref 1)] [] (kmm (ku I 1 2 (nI (i + (skp T i - i)))) J rf g) R := by
      refine kchain (n := skp T i - i) (fun j => kX xs d 18 0 [some (.ref 1)] [] (kmm (ku I 1 2 (nI (i + j))) J rf g) R) ?_
      intro j hj
      show kX _ _ _ _ _ _ _ _ = kX _ _ _ _ _ _ _ _
      rw [B18_0, kg2_2, kO_s, ku_same, kg2_0, kO_s, x0, if_pos (nI_lt (show i + j < T.n by omega) (by omega)), one _ _ _ (by omega), if_pos (q3 (i + j) (by omega) (by omega)), B18_39, kg2_2, kO_s, ku_same, nI_add1, kp2_2, kO_s, ku_ku]
      rfl
    rw [show i + (skp T i - i) = skp T i by omega, ku_id (show I 1 2 = nI (i + 0) from e2)] at L1
    rw [L1, B18_0, kg2_2, kO_s, ku_same, kg2_0, kO_s, x0]
    by_cases z : skp T i < T.n
    · rw [if_pos (nI_lt z (by omega)), one _ _ _ z, if_neg (by have := q4 z; intro e; rw [this] at e; exact absurd e (by decide))]
    · rw [if_neg (nI_nlt (by omega) (by omega))]
  generalize skp T i = p at *
  have e52 : ∀ d R, kX xs d 18 52 [some (.ref 1)] [] (kmm (ku I 1 2 (nI p)) J rf g) R = if p < T.n then kX xs d 18 79 [some (.ref 1)] [] (kmm (ku (ku I 1 2 (nI p)) 1 4 (nI p)) J rf g) R else kX xs d 18 71 [some (.ref 1)] [] (kmm (ku (ku I 1 2 (nI p)) 1 4 (nI p)) J rf g) R := by
    intro d R
    rw [B18_52, kg2_2, kO_s, ku_same, kp2_4, kO_s, kg2_2, kO_s, ku_nek (by omega), ku_same, kg2_0, kO_s, ku_nek (by omega), x0]
    by_cases z : p < T.n
    · rw [if_pos (nI_lt z (by omega)), if_pos z]
    · rw [if_neg (nI_nlt (by omega) (by omega)), if_neg z]
  have hT : cTp (ku (ku I 1 2 (nI p)) 1 4 (nI p)) T := ⟨by rw [ku_nek (by omega), x0], fun k hk => by rw [ku_nea (by omega), xt _ _ hk]⟩
  have g2 : ku (ku I 1 2 (nI p)) 1 4 (nI p) 1 2 = nI p := by rw [ku_nek (by omega), ku_same]
  have g4 : ku (ku I 1 2 (nI p)) 1 4 (nI p) 1 4 = nI p := ku_same _ _ _ _
  have gf : ∀ x k, ¬ (x = 1 ∧ 2 ≤ k ∧ k ≤ 5) → ku (ku I 1 2 (nI p)) 1 4 (nI p) x k = I x k := fun x k hx => by rw [ku_ne (by omega), ku_ne (by omega)]
  generalize ku (ku I 1 2 (nI p)) 1 4 (nI p) = K at *
  have eE : tE T p = if p < T.n then if isL (T.t p) = true then wdE T p else if isD (T.t p) = true then dgE T p else p + 1 else p := rfl
  have eK : tK T p = if p < T.n then if isL (T.t p) = true then if 8 < wdE T p - p then 1 else wKd (tV T p) else if isD (T.t p) = true then if 4 < dgE T p - p then 1 else 2 else if isS (T.t p) = true then T.t p else 1 else 0 := rfl
  by_cases z : p < T.n
  · have hc := v.chr z
    have ch : ∀ d R, kX xs (d + 1) 18 79 [some (.ref 1)] [] (kmm K J rf g) R = if isL (T.t p) = true then kX xs (d + 1) 18 94 [some (.ref 1)] [] (kmm K J rf g) R else if isD (T.t p) = true then kX xs (d + 1) 18 116 [some (.ref 1)] [] (kmm K J rf g) R else kX xs (d + 1) 18 123 [some (.ref 1)] [] (kmm K J rf g) R := by
      intro d R
      rw [B18_79, kg2_1, kO_s, kg2_2, kO_s, g2, kb2 (by omega), kO_s, hT.t p z, sp22 hc, kpush_s, B18_91]
      by_cases y : isL (T.t p) = true
      · rw [if_pos y, if_neg (by rw [y]; decide)]
      · rw [if_neg y, if_pos (by rw [bfalse y]; rfl), B18_101, kg2_1, kO_s, kg2_2, kO_s, g2, kb2 (by omega), kO_s, hT.t p z, sp23 hc, kpush_s, B18_113]
        by_cases y2 : isD (T.t p) = true
        · rw [if_pos y2, if_neg (by rw [y2]; decide)]
        · rw [if_neg y2, if_pos (by rw [bfalse y2]; rfl)]
    rw [if_pos z] at eE eK
    by_cases y : isL (T.t p) = true
    · rw [if_pos y] at eE eK
      refine ⟨_, _, ⟨?_, ?_, ?_, ?_, ?_⟩, fun x k hx => ?_, fun x k hx => ?_, fun d R => by rw [L, e52, if_pos z, ch, if_pos y, B18_94, krecv_m ks1, kcond_t, sp19 hT v z y g2 g4, kpush_n, B18_98, B18_168]⟩
      · rw [ku_nek (by omega), ku_same, eE]
      · rw [ku_same]
      · rw [ku_nek (by omega), ku_nek (by omega), g4]
      · intro e
        exfalso
        rw [eK] at e
        by_cases y8 : 8 < wdE T p - p
        · rw [if_pos y8] at e; omega
        · rw [if_neg y8] at e
          exact wKd_2 e
      · intro e
        by_cases y8 : 8 < wdE T p - p
        · rw [eK, if_pos y8] at e; omega
        · have q5 := (rnE_ok (p := fun k => isL (T.t k)) (show p ≤ T.n by omega)).2.2.1
          have fold2 : rnE (fun k => isL (T.t k)) T.n p = wdE T p := rfl
          rw [fold2] at q5
          refine ⟨?_, tV_w z y⟩
          have ev : tV T p = f37 T.t p (wdE T p - p) := by
            unfold tV
            rw [if_pos y, show min (wdE T p - p) 8 = wdE T p - p by omega]
          rw [ku_same, ev, cnv_f _ 8 (by omega) (fun j hj => q5 (p + j) (by omega) (by omega))]
      · rw [ku_ne (by omega), ku_ne (by omega), gf x k hx]
      · rw [ku_ne hx]
    · rw [if_neg y] at eE eK
      by_cases y2 : isD (T.t p) = true
      · rw [if_pos y2] at eE eK
        refine ⟨_, J, ⟨?_, ?_, ?_, ?_, ?_⟩, fun x k hx => ?_, fun x k hx => rfl, fun d R => by rw [L, e52, if_pos z, ch, if_neg y, if_pos y2, B18_116, krecv_m ks1, kcond_t, sp20 hT v z (bfalse y) y2 g2 g4, kpush_n, B18_120, B18_168]⟩
        · rw [ku_nek (by omega), ku_same, eE]
        · rw [ku_same]
        · rw [ku_nek (by omega), ku_nek (by omega), ku_nek (by omega), g4]
        · intro e
          by_cases y4 : 4 < dgE T p - p
          · rw [eK, if_pos y4] at e; omega
          · have ev : tV T p = f10 T.t p (dgE T p - p) := by
              unfold tV
              rw [if_neg y, if_pos y2, show min (dgE T p - p) 4 = dgE T p - p by omega]
            rw [ku_nek (by omega), ku_nek (by omega), ku_same, ev]
        · intro e
          exfalso
          rw [eK] at e
          by_cases y4 : 4 < dgE T p - p
          · rw [if_pos y4] at e; omega
          · rw [if_neg y4] at e; omega
        · rw [ku_ne (by omega), ku_ne (by omega), ku_ne (by omega), gf x k hx]
      · rw [if_neg y2] at eE eK
        have fin : ∀ d R, kX xs (d + 4) 18 123 [some (.ref 1)] [] (kmm K J rf g) R = R none (kmm (ku (ku K 1 3 (nI (tK T p))) 1 2 (nI (p + 1))) J rf g) := by
          intro d R
          rw [B18_123, kg2_1, kO_s, kg2_2, kO_s, g2, kb2 (by omega), kO_s, hT.t p z, ksr2, kcond_t, ksr3 hc, sp281 hc, kpush_s, B18_139]
          by_cases y3 : isS (T.t p) = true
          · rw [if_neg (fun e => by rw [sIx_s hc, y3] at e; exact absurd e (by decide)), B18_142, kg2_1, kO_s, kg2_2, kO_s, g2, kb2 (by omega), kO_s, hT.t p z, B18_155, kp2_3, kO_s, kg2_2, kO_s, ku_nek (by omega), g2, nI_add1, kp2_2, kO_s, B18_168, eK, if_pos y3]
          · rw [if_pos ((sIx_s hc).mpr (bfalse y3)), B18_154, B18_155, kp2_3, kO_s, kg2_2, kO_s, ku_nek (by omega), g2, nI_add1, kp2_2, kO_s, B18_168, eK, if_neg y3]
            rfl
        have eK2 : tK T p ≠ 2 ∧ tK T p ≠ 3 ∧ tK T p < 128 := by
          rw [eK]
          by_cases y3 : isS (T.t p) = true
          · rw [if_pos y3]
            have key : ∀ c, c ∈ sgn8 → c ≠ 2 ∧ c ≠ 3 ∧ c < 128 := by decide
            exact key _ (List.contains_iff_mem.mp y3)
          · rw [if_neg y3]; omega
        refine ⟨_, J, ⟨?_, ?_, ?_, ?_, ?_⟩, fun x k hx => ?_, fun x k hx => rfl, fun d R => by rw [L, e52, if_pos z, ch, if_neg y, if_neg y2, fin]⟩
        · rw [ku_same, eE]
        · rw [ku_nek (by omega), ku_same]
        · rw [ku_nek (by omega), ku_nek (by omega), g4]
        · intro e; exact absurd e eK2.1
        · intro e; omega
        · rw [ku_ne (by omega), ku_ne (by omega), gf x k hx]
  · rw [if_neg z] at eE eK
    refine ⟨_, J, ⟨?_, ?_, ?_, ?_, ?_⟩, fun x k hx => ?_, fun x k hx => rfl, fun d R => by rw [L, e52, if_neg z, B18_71, kp2_3, kO_s, B18_168]⟩
    · rw [ku_nek (by omega), g2, eE]
    · rw [ku_same, eK]; rfl
    · rw [ku_nek (by omega), g4]
    · intro e; omega
    · intro e; omega
    · rw [ku_ne (by omega), gf x k hx]
end ST
