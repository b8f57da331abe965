/-! lightest -/
/-- how many bits, of seven -/
def pc (t : Nat) : Nat := bN (t.testBit 0) + bN (t.testBit 1) + bN (t.testBit 2) + bN (t.testBit 3) + bN (t.testBit 4) + bN (t.testBit 5) + bN (t.testBit 6)
def bc32 (x : Int32) : Int32 :=
  let a := x - ((kushr x 1) &&& 1431655765)
  let b := (a &&& 858993459) + ((kushr a 2) &&& 858993459)
  let c := (b + (kushr b 4)) &&& 252645135
  let e := c + kushr c (Int8.ofInt 8).toInt32
  (e + kushr e (Int8.ofInt 16).toInt32) &&& (Int8.ofInt 63).toInt32
theorem bc32_pc {t : Nat} (h : t < 128) : bc32 (nI t) = nI (pc t) := by
  have key : ∀ t : Fin 128, bc32 (nI t.val) = nI (pc t.val) := by decide +kernel
  exact key ⟨t, h⟩
theorem pc_or {t i : Nat} (ht : t < 128) (hi : i < 7) (hb : t.testBit i = false) : pc (t ||| 2 ^ i) = pc t + 1 ∧ t < t ||| 2 ^ i := by
  have key : ∀ t : Fin 128, ∀ i : Fin 7, t.val.testBit i.val = false → pc (t.val ||| 2 ^ i.val) = pc t.val + 1 ∧ t.val < t.val ||| 2 ^ i.val := by decide +kernel
  exact key ⟨t, ht⟩ ⟨i, hi⟩ hb
theorem pc_lt {t m : Nat} (hm : m ≤ 7) (ht : t < 2 ^ m - 1) : pc t < m := by
  have key : ∀ m : Fin 8, ∀ t : Fin 128, t.val < 2 ^ m.val - 1 → pc t.val < m.val := by decide +kernel
  have h7 : 2 ^ m ≤ 2 ^ 7 := Nat.pow_le_pow_right (by omega) hm
  exact key ⟨m, by omega⟩ ⟨t, by omega⟩ ht
theorem pc_all {m : Nat} (hm : m ≤ 7) : pc (2 ^ m - 1) = m := by
  have key : ∀ m : Fin 8, pc (2 ^ m.val - 1) = m.val := by decide +kernel
  exact key ⟨m, by omega⟩
def ad (a b : Nat) : Nat := if a < b then b - a else a - b
def lwi (g : Nat → Nat) (P : Nat → Bool) : Nat → Nat
  | 0 => 99
  | i + 1 => if P i = true then min (lwi g P i) (g i) else lwi g P i
def lwP (k t i : Nat) : Bool := decide (i ≠ k) && !t.testBit i
/-- the least of the greatest differences from the k-th on, f being left (99: there is none) -/
def lw (A : Nat → Nat) (m : Nat) : Nat → Nat → Nat → Nat
  | 0, _, _ => 0
  | f + 1, k, t => lwi (fun i => max (ad (A i) (A k)) (lw A m f (k + 1) (t ||| 2 ^ i))) (lwP k t) m
theorem lwi_le99 (g : Nat → Nat) (P : Nat → Bool) : ∀ n, lwi g P n ≤ 99 := by
  intro n
  induction n with
  | zero => exact Nat.le_refl _
  | succ n ih =>
    rw [lwi]
    split <;> omega
theorem lw_le99 (A : Nat → Nat) (m f k t : Nat) : lw A m f k t ≤ 99 := by
  cases f with
  | zero => exact Nat.zero_le _
  | succ f => exact lwi_le99 _ _ _
theorem ad_le {a b : Nat} (ha : a ≤ 40) (hb : b ≤ 40) : ad a b ≤ 40 := by
  unfold ad
  split <;> omega
theorem lwi_le {g : Nat → Nat} {P : Nat → Bool} {i : Nat} (hi : P i = true) : ∀ n, i < n → lwi g P n ≤ g i := by
  intro n
  induction n with
  | zero => intro h; omega
  | succ n ih =>
    intro h
    rw [lwi]
    by_cases e : i = n
    · rw [← e, if_pos hi]; omega
    · have := ih (by omega)
      split <;> omega
def fe (m : Nat) : Nat → Nat → Nat → Bool
  | 0, _, _ => true
  | f + 1, k, t => (List.range m).any (fun i => lwP k t i && fe m f (k + 1) (t ||| 2 ^ i))
theorem lw_fe {A : Nat → Nat} {m : Nat} (hA : ∀ i, i < m → A i ≤ 40) : ∀ f k t, k + f ≤ m → fe m f k t = true → lw A m f k t ≤ 40 := by
  intro f
  induction f with
  | zero => intro k t _ _; exact Nat.zero_le _
  | succ f ih =>
    intro k t hk h
    rw [fe, List.any_eq_true] at h
    obtain ⟨i, h1, h2⟩ := h
    rw [List.mem_range] at h1
    rw [Bool.and_eq_true] at h2
    have a := ih (k + 1) (t ||| 2 ^ i) (by omega) h2.2
    have b := lwi_le (g := fun i => max (ad (A i) (A k)) (lw A m f (k + 1) (t ||| 2 ^ i))) h2.1 m h1
    have c := ad_le (hA i h1) (hA k (by omega))
    rw [lw]
    refine Nat.le_trans b ?_
    show max (ad (A i) (A k)) (lw A m f (k + 1) (t ||| 2 ^ i)) ≤ 40
    omega
theorem fe_ok {m : Nat} (h2 : 2 ≤ m) (h7 : m ≤ 7) : fe m m 0 0 = true := by
  rcases (by omega : m = 2 ∨ m = 3 ∨ m = 4 ∨ m = 5 ∨ m = 6 ∨ m = 7) with rfl | rfl | rfl | rfl | rfl | rfl <;> decide +kernel
theorem or_lt {t i m : Nat} (ht : t < 2 ^ m) (hi : i < m) : t ||| 2 ^ i < 2 ^ m := Nat.or_lt_two_pow ht (Nat.pow_lt_pow_right (by omega) hi)
/-- what it comes to behind those taken -/
def wW (A : Nat → Nat) (m t : Nat) : Nat := lw A m (m - pc t) (pc t) t
def aLight (r : aRl) (s : aSt) (x : Int32) : Int32 := if kidx x (nI 4) = 0 then -1 else if dM r s x.toNatClampNeg < 2 then -1 else nI (lw (dA r s x.toNatClampNeg) (dM r s x.toNatClampNeg) (dM r s x.toNatClampNeg) 0 0)
theorem sub_lt0 {a b : Nat} (ha : a ≤ 40) (hb : b ≤ 40) : (nI a - nI b < 0) = (a < b) := by
  refine propext ⟨fun h => ?_, fun h => pk_sneg (by omega) h⟩
  by_cases q : a < b
  · exact q
  · rw [pk_sub (by omega)] at h
    exact absurd h (nI_pos (by omega))
theorem ad_n {a b : Nat} (ha : a ≤ 40) (hb : b ≤ 40) : (if nI a - nI b < 0 then -(nI a - nI b) else nI a - nI b) = nI (ad a b) := by
  unfold ad
  by_cases q : a < b
  · rw [if_pos (by rw [sub_lt0 ha hb]; exact q), if_pos q, Int32.neg_sub, pk_sub (by omega)]
  · rw [if_neg (by rw [sub_lt0 ha hb]; exact q), if_neg q, pk_sub (by omega)]
section LI
variable {xs : List Int32} {d : Nat} {I I' I2 : Nat → Nat → Int32} {J : Nat → Nat → Int64} {rf : Nat → Nat} {g : Nat} {R : Option Value → KW → Prop} {r : aRl} {s u : aSt} {w : KW}
theorem sp275 (x : Int32) : kX xs d 275 0 [some (.int x)] [] w R = R (some (.int (bc32 x))) w := by
  rw [B275_0, B275_34]
  rfl
theorem sp277 {a b : Nat} (ha : a ≤ 40) (hb : b ≤ 40) : kX xs d 277 0 [some (.int (nI a - nI b))] [] w R = R (some (.int (nI (ad a b)))) w := by
  rw [← ad_n ha hb, B277_0]
  by_cases q : nI a - nI b < 0
  · rw [if_pos q, if_pos q, B277_4, B277_10]
  · rw [if_neg q, if_neg q, B277_9, B277_10]
/-- leastWorstBehind -/
theorem sp81 {A : Nat → Nat} {m t : Nat} (hm : m ≤ 7) (em : I 54 0 = nI m) (ea : ∀ i, i < m → I 56 i = nI (A i)) (hA : ∀ i, i < m → A i ≤ 40) (ht : t < 2 ^ m - 1) (ew : ∀ t', t < t' → t' ≤ 2 ^ m - 1 → I 61 t' = nI (wW A m t')) : kX xs (d + 1) 81 0 [some (.ref 54), some (.int (nI t)), none, none, none, none] [] (kmm I J rf g) R = R (some (.int (nI (wW A m t)))) (kmm I J rf g) := by
  have p7 : 2 ^ m ≤ 2 ^ 7 := Nat.pow_le_pow_right (by omega) hm
  have hp := pc_lt hm ht
  have hf : m - pc t = (m - pc t - 1) + 1 := by omega
  have L := kchain (n := m) (fun i => kX xs (d + 1) 81 11 [some (.ref 54), some (.int (nI t)), some (.int (nI (pc t))), some (.int (nI (lwi (fun i => max (ad (A i) (A (pc t))) (lw A m (m - pc t - 1) (pc t + 1) (t ||| 2 ^ i))) (lwP (pc t) t) i))), some (.int (nI i)), none] [] (kmm I J rf g) R) (by
    intro i hi
    show kX xs (d + 1) 81 11 _ _ _ _ = kX xs (d + 1) 81 11 _ _ _ _
    rw [B81_11, kg8_0, kO_s, em, if_pos (nI_lt hi (by omega)), B81_20, lwi]
    by_cases e1 : i = pc t
    · have hP : ¬ lwP (pc t) t i = true := by unfold lwP; simp [e1]
      rw [if_pos (congrArg nI e1), if_neg hP, B81_75, nI_add1]
    · rw [if_neg (fun q => e1 (by rw [nI_inj (by omega) (by omega)] at q; exact q)), B81_26, nI_tb (by omega) (by omega)]
      cases hb : t.testBit i with
      | true =>
        have hP : ¬ lwP (pc t) t i = true := by unfold lwP; simp [hb]
        rw [if_neg (show ¬ nI (bN true) = 0 by decide), if_neg hP, B81_75, nI_add1]
      | false =>
        have hP : lwP (pc t) t i = true := by unfold lwP; simp [hb, e1]
        obtain ⟨c1, c2⟩ := pc_or (show t < 128 by omega) (show i < 7 by omega) hb
        have hor : t ||| 2 ^ i < 2 ^ m := or_lt (by omega) hi
        have ew' := ew (t ||| 2 ^ i) c2 (by omega)
        have eW : wW A m (t ||| 2 ^ i) = lw A m (m - pc t - 1) (pc t + 1) (t ||| 2 ^ i) := by
          unfold wW
          rw [c1, show m - (pc t + 1) = m - pc t - 1 by omega]
        rw [eW] at ew'
        have b1 := lw_le99 A m (m - pc t - 1) (pc t + 1) (t ||| 2 ^ i)
        have b2 := ad_le (hA i hi) (hA (pc t) hp)
        have b3 := lwi_le99 (fun i => max (ad (A i) (A (pc t))) (lw A m (m - pc t - 1) (pc t + 1) (t ||| 2 ^ i))) (lwP (pc t) t) i
        rw [if_pos (show nI (bN false) = 0 by decide), if_pos hP, B81_35, kg8_2, kO_s, ka56 (by omega), kO_s, ea i hi, kO_s, ka56 (by omega), kO_s, ea _ hp, sp277 (hA i hi) (hA _ hp), kpush_s, B81_52, kg8_7, kO_s, nI_bit (by omega), nI_or, ka61 (by omega), kO_s, ew', sp278, kmax_n (by omega) (by omega), kpush_s, B81_71, sp279, kmin_n (by omega) (by omega), kpush_s, B81_74, B81_75, nI_add1])
  rw [B81_0, sp275, bc32_pc (by omega), kpush_s, B81_4, c8_99]
  refine Eq.trans L ?_
  rw [B81_11, kg8_0, kO_s, em, if_neg (nI_nlt (Nat.le_refl _) (by omega)), B81_81, wW, hf, lw]
  rfl
/-- leastWorst -/
theorem sp80_30 {A : Nat → Nat} {m : Nat} (hm : m ≤ 7) (h0 : 0 < m) (hA : ∀ i, i < m → A i ≤ 40) : ∀ t, t ≤ 2 ^ m - 1 → ∀ I : Nat → Nat → Int32, I 54 0 = nI m → (∀ i, i < m → I 56 i = nI (A i)) → (∀ t', t ≤ t' → t' ≤ 2 ^ m - 1 → I 61 t' = nI (wW A m t')) → ∃ I', (∀ x k, x ≠ 61 → I' x k = I x k) ∧ ∀ d R, kX xs (d + 2) 80 30 [some (.ref 54), none, some (.int (if t = 0 then -1 else nI (t - 1)))] [] (kmm I J rf g) R = R (some (.int (nI (wW A m 0)))) (kmm I' J rf g) := by
  intro t
  have p7 : 2 ^ m ≤ 2 ^ 7 := Nat.pow_le_pow_right (by omega) hm
  induction t with
  | zero =>
    intro ht I em ea ew
    refine ⟨I, fun _ _ _ => rfl, fun d R => ?_⟩
    rw [if_pos rfl, B80_30, if_pos (by decide), B80_51, kg8_7, kO_s, n_0, ka61 (by omega), kO_s, ew 0 (by omega) (by omega)]
  | succ t ih =>
    intro ht I em ea ew
    obtain ⟨I', a1, a2⟩ := ih (by omega) (ku I 61 t (nI (wW A m t))) (by rw [ku_nea (by omega), em]) (fun i hi => by rw [ku_nea (by omega), ea i hi]) (fun t' h1 h2 => by
      by_cases e : t' = t
      · rw [e, ku_same]
      · rw [ku_nek e, ew t' (by omega) h2])
    refine ⟨I', fun x k hx => by rw [a1 x k hx, ku_nea hx], fun d R => ?_⟩
    have h81 : ∀ R, kX xs (d + 1) 81 0 [some (.ref 54), some (.int (nI t)), none, none, none, none] [] (kmm I J rf g) R = _ := fun R => sp81 hm em ea hA (show t < 2 ^ m - 1 by omega) (fun t' h1 h2 => ew t' (by omega) h2)
    have hl : nI t + Int32.ofInt (-1) = if t = 0 then -1 else nI (t - 1) := by
      by_cases e : t = 0
      · rw [if_pos e, e]; decide
      · rw [if_neg e]
        obtain ⟨q, hq⟩ : ∃ q, t = q + 1 := ⟨t - 1, by omega⟩
        rw [hq, nI_dec, Nat.add_sub_cancel]
    rw [if_neg (by omega), Nat.add_sub_cancel, B80_30, if_neg (nI_pos (by omega)), B80_34, kg8_7, kO_s, krecv_m ks54, kcond_t, h81, kpush_s, B80_44, kw61 (by omega), kO_s, B80_45, hl, a2]
theorem sp80 {A : Nat → Nat} {m : Nat} (hm : m ≤ 7) (em : I 54 0 = nI m) (ea : ∀ i, i < m → I 56 i = nI (A i)) (hA : ∀ i, i < m → A i ≤ 40) : ∃ I', (∀ x k, x ≠ 61 → I' x k = I x k) ∧ ∀ d R, kX xs (d + 2) 80 0 [some (.ref 54), none, none] [] (kmm I J rf g) R = R (some (.int (if m < 2 then -1 else nI (lw A m m 0 0)))) (kmm I' J rf g) := by
  by_cases h2 : m < 2
  · refine ⟨I, fun _ _ _ => rfl, fun d R => ?_⟩
    rw [if_pos h2, B80_0, kg8_0, kO_s, em, n_2, if_pos (nI_lt h2 (by omega)), B80_8]
  · have p7 : 2 ^ m ≤ 2 ^ 7 := Nat.pow_le_pow_right (by omega) hm
    have p2 : 2 ^ 2 ≤ 2 ^ m := Nat.pow_le_pow_right (by omega) (by omega)
    obtain ⟨I', a1, a2⟩ := sp80_30 (xs := xs) (J := J) (rf := rf) (g := g) hm (by omega) hA (2 ^ m - 1) (Nat.le_refl _) (ku I 61 (2 ^ m - 1) (nI 0)) (by rw [ku_nea (by omega), em]) (fun i hi => by rw [ku_nea (by omega), ea i hi]) (fun t' h1 h2 => by
      obtain rfl : t' = 2 ^ m - 1 := by omega
      rw [ku_same]
      unfold wW
      rw [pc_all hm, Nat.sub_self]
      rfl)
    refine ⟨I', fun x k hx => by rw [a1 x k hx, ku_nea hx], fun d R => ?_⟩
    have w0 : wW A m 0 = lw A m m 0 0 := rfl
    obtain ⟨q, hq⟩ : ∃ q, 2 ^ m = q + 2 := ⟨2 ^ m - 2, by omega⟩
    have e1 : nI (2 ^ m) - 1 = nI (2 ^ m - 1) := by rw [hq, nI_pred]; rfl
    have e2 : nI (2 ^ m - 1) - 1 = if 2 ^ m - 1 = 0 then -1 else nI (2 ^ m - 1 - 1) := by
      rw [if_neg (by omega), hq, show q + 2 - 1 = q + 1 from rfl, nI_pred]; rfl
    rw [if_neg h2, B80_0, kg8_0, kO_s, em, n_2, if_neg (nI_nlt (by omega) (by omega)), B80_10, kg8_0, kO_s, em, kg8_7, kO_s, nI_bit (by omega), e1, n_0, kw61 (by omega), kO_s, e2, a2, w0]
theorem sp123 (h : cB I rf r s) (x : Int32) : ∃ I', cQ I I' ∧ ∀ d R, kX xs (d + 4) 123 0 [some (.ref 0), some (.int x)] [] (kmm I J rf g) R = R (some (.int (aLight r s x))) (kmm I' J rf g) := by
  unfold aLight
  rcases kidx_c x (show 4 < 2147483648 by omega) with ⟨n, hn, rfl⟩ | h0
  · obtain ⟨I1, q1, q3, q4⟩ := sp64q (xs := xs) (J := J) (g := g) h hn
    obtain ⟨I2, a1, a2⟩ := sp80 (xs := xs) (J := J) (rf := rf) (g := g) (dM7 h.vr s n) q1.m q1.a (fun i _ => dA_le r s n i)
    refine ⟨I2, q3.trans (fun x k h1 h2 h3 h4 => a1 x k (by omega)), fun d R => ?_⟩
    have hk := kidx_in hn (show 4 < 2147483648 by omega)
    rw [hk, if_neg (by decide), nI_clamp (by omega)]
    rw [B123_0, sp153, hk, kpush_s, B123_4, if_neg (by decide), B123_9, kg11_9, kO_s, kg11_2, kO_s, kg11_6, kO_s, krecv_m ks54, kcond_t, q4, kpush_n, B123_25, kg11_9, kO_s, krecv_m ks54, kcond_t, a2, kpush_s, B123_32]
  · refine ⟨I, cQ.refl I, fun d R => ?_⟩
    rw [h0, if_pos rfl, B123_0, sp153, h0, kpush_s, B123_4, if_pos rfl, B123_7]
/-- lightFrom -/
def lfA (L w : Nat) : Int32 := if L = 99 then -1 else nI (max w L)
theorem sp236 (h : mB I r s) {day : Nat} (hd : mDay I r s day) : ∀ f k t w d R, k + f = dM r s day → t < 128 → w ≤ 40 → kX xs (d + f + 2) 236 0 [some (.ref 185), some (.int (nI k)), some (.int (nI t)), some (.int (nI w)), none, none, none, none] [] (kmm I J rf g) R = R (some (.int (lfA (lw (dA r s day) (dM r s day) f k t) w))) (kmm I J rf g) := by
  have hm7 := dM7 h.vr s day
  have em := hd.m
  have p7 : 2 ^ dM r s day ≤ 2 ^ 7 := Nat.pow_le_pow_right (by omega) hm7
  intro f
  induction f with
  | zero =>
    intro k t w d R hk ht hw
    rw [B236_0, kg12_28, kO_s, em, if_pos (by rw [← hk]; rfl), B236_8, lw]
    unfold lfA
    rw [if_neg (by omega), Nat.max_eq_left (by omega)]
  | succ f ih =>
    intro k t w d R hk ht hw
    have hkm : k < dM r s day := by omega
    have L := kchain (n := dM r s day) (fun i => kX xs (d + f + 2 + 1) 236 16 [some (.ref 185), some (.int (nI k)), some (.int (nI t)), some (.int (nI w)), some (.int (lfA (lwi (fun i => max (ad (dA r s day i) (dA r s day k)) (lw (dA r s day) (dM r s day) f (k + 1) (t ||| 2 ^ i))) (lwP k t) i) w)), some (.int (nI i)), none, none] [] (kmm I J rf g) R) (by
      intro i hi
      show kX xs (d + f + 2 + 1) 236 16 _ _ _ _ = kX xs (d + f + 2 + 1) 236 16 _ _ _ _
      have b3 := lwi_le99 (fun i => max (ad (dA r s day i) (dA r s day k)) (lw (dA r s day) (dM r s day) f (k + 1) (t ||| 2 ^ i))) (lwP k t) i
      rw [B236_16, kg12_28, kO_s, em, if_pos (nI_lt hi (by omega)), B236_25, lwi]
      generalize lwi (fun i => max (ad (dA r s day i) (dA r s day k)) (lw (dA r s day) (dM r s day) f (k + 1) (t ||| 2 ^ i))) (lwP k t) i = B at *
      by_cases e1 : i = k
      · have hP : ¬ lwP k t i = true := by unfold lwP; simp [e1]
        rw [if_pos (congrArg nI e1), if_neg hP, B236_124, nI_add1]
      · rw [if_neg (fun q => e1 (by rw [nI_inj (by omega) (by omega)] at q; exact q)), B236_31, nI_tb (by omega) (by omega)]
        cases hb : t.testBit i with
        | true =>
          have hP : ¬ lwP k t i = true := by unfold lwP; simp [hb]
          rw [if_neg (show ¬ nI (bN true) = 0 by decide), if_neg hP, B236_124, nI_add1]
        | false =>
          have hP : lwP k t i = true := by unfold lwP; simp [hb, e1]
          have hor : t ||| 2 ^ i < 2 ^ 7 := or_lt (show t < 2 ^ 7 by omega) (show i < 7 by omega)
          have c1 := dA_le r s day i
          have c2 := dA_le r s day k
          have b1 := lw_le99 (dA r s day) (dM r s day) f (k + 1) (t ||| 2 ^ i)
          have b2 := ad_le c1 c2
          have h214 : ∀ i, i < dM r s day → ∀ R, kX xs (d + f + 2) 214 0 [some (.ref 185), some (.int (nI 0)), some (.int (nI i))] [] (kmm I J rf g) R = R (some (.int (nI (dA r s day i)))) (kmm I J rf g) := fun i hi R => sp214 (by omega) h.vr h.vs h.rl h.st hd hi
          rw [if_pos (show nI (bN false) = 0 by decide), if_pos hP, B236_40, krecv_m ks185, kcond_t, n_0, h214 i hi, kpush_s, B236_47, krecv_m ks185, kcond_t, n_0, h214 k hkm, kpush_s, B236_53]
          have key : ∀ a, a ≤ 40 → a = ad (dA r s day i) (dA r s day k) → kX xs (d + f + 2 + 1) 236 69 [some (.ref 185), some (.int (nI k)), some (.int (nI t)), some (.int (nI w)), some (.int (lfA B w)), some (.int (nI i)), none, none] [.int (nI a)] (kmm I J rf g) R = kX xs (d + f + 2 + 1) 236 16 [some (.ref 185), some (.int (nI k)), some (.int (nI t)), some (.int (nI w)), some (.int (lfA (min B (max (ad (dA r s day i) (dA r s day k)) (lw (dA r s day) (dM r s day) f (k + 1) (t ||| 2 ^ i)))) w)), some (.int (nI (i + 1))), none, none] [] (kmm I J rf g) R := by
            intro a ha ea
            rw [← ea]
            have rec1 : ∀ v, v = max w a → kX xs (d + f + 2 + 1) 236 93 [some (.ref 185), some (.int (nI k)), some (.int (nI t)), some (.int (nI w)), some (.int (lfA B w)), some (.int (nI i)), none, none] [.int (nI v), .int (nI (t ||| 2 ^ i)), .int (nI (k + 1)), .ref 185] (kmm I J rf g) R = kX xs (d + f + 2 + 1) 236 96 [some (.ref 185), some (.int (nI k)), some (.int (nI t)), some (.int (nI w)), some (.int (lfA B w)), some (.int (nI i)), none, none] [.int (lfA (lw (dA r s day) (dM r s day) f (k + 1) (t ||| 2 ^ i)) (max w a))] (kmm I J rf g) R := by
              intro v ev
              rw [B236_93, krecv_m ks185, kcond_t, ih (k + 1) (t ||| 2 ^ i) v d _ (by omega) (by omega) (by omega), kpush_s, ev]
            have e69 : kX xs (d + f + 2 + 1) 236 69 [some (.ref 185), some (.int (nI k)), some (.int (nI t)), some (.int (nI w)), some (.int (lfA B w)), some (.int (nI i)), none, none] [.int (nI a)] (kmm I J rf g) R = kX xs (d + f + 2 + 1) 236 96 [some (.ref 185), some (.int (nI k)), some (.int (nI t)), some (.int (nI w)), some (.int (lfA B w)), some (.int (nI i)), none, none] [.int (lfA (lw (dA r s day) (dM r s day) f (k + 1) (t ||| 2 ^ i)) (max w a))] (kmm I J rf g) R := by
              rw [B236_69, nI_bit (by omega), nI_or, nI_add1]
              by_cases q : w < a
              · rw [if_pos (nI_lt q (by omega)), B236_87, rec1 a (by omega)]
              · rw [if_neg (nI_nlt (by omega) (by omega)), B236_92, rec1 w (by omega)]
            rw [e69, B236_96]
            generalize lw (dA r s day) (dM r s day) f (k + 1) (t ||| 2 ^ i) = L at *
            by_cases hL : L = 99
            · have z1 : lfA L (max w a) = -1 := if_pos hL
              rw [z1, if_pos (by decide), B236_120, B236_122, B236_124, nI_add1, show min B (max a L) = B by omega]
            · have z1 : lfA L (max w a) = nI (max (max w a) L) := if_neg hL
              have hL99 : max (max w a) L < 99 := by omega
              rw [z1, if_neg (nI_pos (by omega)), B236_103]
              by_cases hB : B = 99
              · have z2 : lfA B w = -1 := if_pos hB
                have z3 : lfA (min B (max a L)) w = nI (max (max w a) L) := by
                  unfold lfA
                  rw [if_neg (by omega), show max w (min B (max a L)) = max (max w a) L by omega]
                rw [z2, if_pos (by decide), B236_115, B236_122, B236_124, nI_add1, z3]
              · have z2 : lfA B w = nI (max w B) := if_neg hB
                have z3 : lfA (min B (max a L)) w = nI (max w (min B (max a L))) := if_neg (by omega)
                rw [z2, if_neg (nI_pos (by omega)), B236_108, z3]
                by_cases q : max (max w a) L < max w B
                · rw [if_pos (nI_lt q (by omega)), B236_115, B236_122, B236_124, nI_add1, show max w (min B (max a L)) = max (max w a) L by omega]
                · rw [if_neg (nI_nlt (by omega) (by omega)), B236_120, B236_122, B236_124, nI_add1, show max w (min B (max a L)) = max w B by omega]
          have ea := ad_n c1 c2
          by_cases q : nI (dA r s day i) - nI (dA r s day k) < 0
          · rw [if_pos q] at ea
            rw [if_pos q, B236_61, ea]
            exact key _ b2 rfl
          · rw [if_neg q] at ea
            rw [if_neg q, B236_67, ea]
            exact key _ b2 rfl)
    rw [show d + (f + 1) + 2 = d + f + 2 + 1 by omega, B236_0, kg12_28, kO_s, em, if_neg (fun q => by rw [nI_inj (by omega) (by omega)] at q; omega), B236_10]
    refine Eq.trans L ?_
    rw [B236_16, kg12_28, kO_s, em, if_neg (nI_nlt (Nat.le_refl _) (by omega)), B236_130, lw]
theorem sp237 (h : mB I r s) (x : Int32) : ∃ I', mQ I I' ∧ ∀ d R, kX xs (d + 10) 237 0 [some (.ref 185), some (.int x)] [] (kmm I J rf g) R = R (some (.int (aLight r s x))) (kmm I' J rf g) := by
  have hq := mQ.thr I (nI 0)
  have h' := h.keep hq
  unfold aLight
  rcases kidx_c x (show 4 < 2147483648 by omega) with ⟨n, hn, rfl⟩ | h0
  · obtain ⟨I1, q1, q3, q4⟩ := sp210q (xs := xs) (J := J) (rf := rf) (g := g) h' hn
    refine ⟨I1, hq.trans q3, fun d R => ?_⟩
    have h1 := h'.keep q3
    have hk := kidx_in hn (show 4 < 2147483648 by omega)
    have hm7 := dM7 h.vr s n
    rw [hk, if_neg (by decide), nI_clamp (by omega)]
    rw [B237_0, kp12_0, kO_s, n_0, sp205, n_4, hk, kpush_s, B237_9, ← n_0, if_neg (by decide), B237_14, krecv_m ks185, kcond_t, n_0, q4, kpush_n, B237_20, kg12_28, kO_s, q1.m]
    by_cases hz : dM r s n = 0
    · rw [hz, if_pos (show nI 0 = 0 from rfl), if_pos (by omega), B237_27, B237_38]
    · have h236 := sp236 (xs := xs) (J := J) (rf := rf) (g := g) h1 q1 (dM r s n) 0 0 0 (d + 7 - dM r s n)
      rw [show d + 7 - dM r s n + dM r s n + 2 = d + 9 by omega] at h236
      rw [if_neg (nI_ne0 (by omega) (by omega)), B237_31, krecv_m ks185, kcond_t, n_0]
      refine Eq.trans (h236 _ (by omega) (by omega) (by omega)) ?_
      rw [kpush_s, B237_38]
      congr 3
      by_cases h2 : dM r s n < 2
      · rw [if_pos h2]
        have e1 : dM r s n = 1 := by omega
        unfold lfA
        rw [e1]
        rw [if_pos]
        rfl
      · rw [if_neg h2]
        have b1 := lw_fe (A := dA r s n) (m := dM r s n) (fun i _ => dA_le r s n i) (dM r s n) 0 0 (by omega) (fe_ok (by omega) hm7)
        unfold lfA
        rw [if_neg (by omega), Nat.max_eq_right (by omega)]
  · refine ⟨_, hq, fun d R => ?_⟩
    rw [h0, if_pos rfl, B237_0, kp12_0, kO_s, n_0, sp205, n_4, h0, kpush_s, B237_9, if_pos rfl, B237_12]
end LI
