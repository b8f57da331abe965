/-! feed -/
abbrev aTp : Type := (Nat) × (Nat → Nat)
def aTp.mk (n : Nat) (t : Nat → Nat) : aTp := (n, t)
def aTp.n (s : aTp) : Nat := s.1
def aTp.t (s : aTp) : Nat → Nat := s.2
abbrev isC (c : Nat) : Prop := c = 10 ∨ (32 ≤ c ∧ c ≤ 126)
abbrev vTp (T : aTp) : Prop := (T.n ≤ 1000) ∧ (∀ k, k < T.n → isC (T.t k))
theorem vTp.n {T : aTp} (h : vTp T) : T.n ≤ 1000 := h.1
theorem vTp.t {T : aTp} (h : vTp T) : ∀ k, k < T.n → isC (T.t k) := h.2
abbrev cTp (I : Nat → Nat → Int32) (T : aTp) : Prop := (I 1 0 = nI T.n) ∧ (∀ k, k < T.n → I 2 k = nI (T.t k))
theorem cTp.n {I : Nat → Nat → Int32} {T : aTp} (h : cTp I T) : I 1 0 = nI T.n := h.1
theorem cTp.t {I : Nat → Nat → Int32} {T : aTp} (h : cTp I T) : ∀ k, k < T.n → I 2 k = nI (T.t k) := h.2
abbrev mTp (I : Nat → Nat → Int32) (T : aTp) : Prop := (I 185 2 = nI T.n) ∧ (∀ k, k < T.n → I 186 k = nI (T.t k))
theorem mTp.n {I : Nat → Nat → Int32} {T : aTp} (h : mTp I T) : I 185 2 = nI T.n := h.1
theorem mTp.t {I : Nat → Nat → Int32} {T : aTp} (h : mTp I T) : ∀ k, k < T.n → I 186 k = nI (T.t k) := h.2
def pushC (T : aTp) (c : Nat) : aTp := if isC c ∧ T.n < 1000 then aTp.mk (T.n + 1) (ku1 T.t T.n c) else T
def byt (x : Int64) (s : Int32) : Nat := (x >>> (s.toInt64 &&& 63)).toInt32.toBitVec.toNat % 2 ^ 8
def lay8 (T : aTp) (x : Int64) : Nat → aTp
  | 0 => T
  | k + 1 => pushC (lay8 T x k) (byt x (nI (56 - 8 * k)))
def feedT (T : aTp) (a b c : Int64) : aTp := lay8 (lay8 (lay8 T a 8) b 8) c 8
theorem pushC_v {T : aTp} (v : vTp T) (c : Nat) : vTp (pushC T c) := by
  unfold pushC
  by_cases h : isC c ∧ T.n < 1000
  · rw [if_pos h]
    refine ⟨show T.n + 1 ≤ 1000 by omega, fun k hk => ?_⟩
    have hk' : k < T.n + 1 := hk
    show isC (ku1 T.t T.n c k)
    by_cases e : k = T.n
    · rw [e, ku1_s]; exact h.1
    · rw [ku1_n e]; exact v.t k (by omega)
  · rw [if_neg h]; exact v
theorem lay8_v {T : aTp} (v : vTp T) (x : Int64) : ∀ k, vTp (lay8 T x k) := by
  intro k
  induction k with
  | zero => exact v
  | succ k ih => exact pushC_v ih _
theorem byt_lt (x : Int64) (s : Int32) : byt x s < 256 := Nat.mod_lt _ (by decide)
theorem byt_m (x : Int64) (s : Int32) : (x >>> (s.toInt64 &&& 63)).toInt32 &&& nI 255 = nI (byt x s) := pk_and _ 8 (by decide)
theorem byt_c (x : Int64) (s : Int32) : ((x >>> (s.toInt64 &&& 63)) &&& 255).toInt32 = nI (byt x s) := by
  rw [← byt_m]
  generalize x >>> (s.toInt64 &&& 63) = y
  refine Int32.toBitVec_inj.mp ?_
  show (y.toBitVec &&& (255 : Int64).toBitVec).signExtend 32 = (y.toBitVec.signExtend 32) &&& (nI 255).toBitVec
  refine BitVec.eq_of_getLsbD_eq (fun i hi => ?_)
  rw [BitVec.getLsbD_and, BitVec.getLsbD_signExtend, BitVec.getLsbD_signExtend]
  have h64 : i < 64 := by omega
  have e1 : (255 : Int64).toBitVec.getLsbD i = (nI 255).toBitVec.getLsbD i := by
    have key : ∀ i : Fin 32, (255 : Int64).toBitVec.getLsbD i.val = (nI 255).toBitVec.getLsbD i.val := by decide
    exact key ⟨i, hi⟩
  rw [if_pos h64, if_pos h64, BitVec.getLsbD_and, e1, Bool.and_assoc]
theorem chr_b {c : Nat} (h : c < 127) : vp_nar (kty 2) (nI c).toInt8.toInt32 = nI c := by
  have key : ∀ c : Fin 127, vp_nar (kty 2) (nI c.val).toInt8.toInt32 = nI c.val := by decide +kernel
  exact key ⟨c, h⟩
theorem nI_m8 (a : Nat) : nI (a + 8) + Int32.ofInt (-8) = nI a := by
  rw [← nI_add, Int32.add_assoc, show nI 8 + Int32.ofInt (-8) = 0 by decide, Int32.add_zero]
section FE
variable {xs : List Int32} {d : Nat} {I I' I2 : Nat → Nat → Int32} {J : Nat → Nat → Int64} {rf : Nat → Nat} {g : Nat} {R : Option Value → KW → Prop} {w : KW} {T : aTp}
theorem cTp.keep (h : cTp I T) (h1 : ∀ x k, x = 1 ∨ x = 2 → I' x k = I x k) : cTp I' T := ⟨by rw [h1 _ _ (by omega), h.n], fun k hk => by rw [h1 _ _ (by omega), h.t k hk]⟩
/-- Lexer.put -/
theorem sp14 (h : cTp I T) (v : vTp T) {c : Nat} (hc : c < 256) : ∃ I', cTp I' (pushC T c) ∧ (∀ x k, ¬ (x = 1 ∧ k = 0) → x ≠ 2 → I' x k = I x k) ∧ ∀ d R, kX xs d 14 0 [some (.ref 1), some (.int (nI c)), none] [] (kmm I J rf g) R = R none (kmm I' J rf g) := by
  have hn := v.n
  have en := h.n
  unfold pushC
  have ent : ∀ d R, kX xs d 14 0 [some (.ref 1), some (.int (nI c)), none] [] (kmm I J rf g) R = if isC c then kX xs d 14 28 [some (.ref 1), some (.int (nI c)), some (.int 1)] [] (kmm I J rf g) R else R none (kmm I J rf g) := by
    intro d R
    rw [B14_0, c8_10]
    by_cases c1 : c = 10
    · rw [if_pos (congrArg nI c1), if_pos (Or.inl c1), B14_18, B14_23, if_neg (by decide)]
    · rw [if_neg (fun q => c1 (by rw [nI_inj (by omega) (by omega)] at q; exact q)), B14_6, c8_32]
      by_cases c2 : c < 32
      · rw [if_pos (nI_lt c2 (by omega)), B14_22, B14_23, if_pos rfl, B14_59, if_neg (fun q => by omega)]
      · rw [if_neg (nI_nlt (by omega) (by omega)), B14_12, c8_126]
        by_cases c3 : 126 < c
        · rw [if_pos (nI_lt c3 (by omega)), B14_22, B14_23, if_pos rfl, B14_59, if_neg (fun q => by omega)]
        · rw [if_neg (nI_nlt (by omega) (by omega)), B14_18, B14_23, if_neg (by decide), if_pos (Or.inr ⟨by omega, by omega⟩)]
  by_cases q : isC c
  · by_cases q2 : T.n < 1000
    · rw [if_pos ⟨q, q2⟩]
      refine ⟨ku (ku I 2 T.n (nI c)) 1 0 (nI (T.n + 1)), ⟨by rw [ku_same]; rfl, fun k hk => ?_⟩, fun x k h1 h2 => by rw [ku_ne h1, ku_nea h2], fun d R => ?_⟩
      · have hk' : k < T.n + 1 := hk
        rw [ku_nea (by omega)]
        show _ = nI (ku1 T.t T.n c k)
        by_cases e : k = T.n
        · rw [e, ku_same, ku1_s]
        · rw [ku_nek e, ku1_n e, h.t k (by omega)]
      · have e1 : ∀ v, ku I 2 T.n v 1 0 = nI T.n := fun v => by rw [ku_nea (by omega), en]
        rw [ent, if_pos q, B14_28, kg2_0, kO_s, en, c16_1000, if_pos (nI_lt q2 (by omega)), B14_38, kg2_1, kO_s, kg2_0, kO_s, en, kv2 (by omega), kO_s, chr_b (by omega), kg2_0, kO_s, e1, nI_add1, kp2_0, kO_s, B14_59]
    · rw [if_neg (fun t => q2 t.2)]
      refine ⟨I, h, fun _ _ _ _ => rfl, fun d R => ?_⟩
      rw [ent, if_pos q, B14_28, kg2_0, kO_s, en, c16_1000, if_neg (nI_nlt (by omega) (by omega)), B14_59]
  · rw [if_neg (fun t => q t.1)]
    refine ⟨I, h, fun _ _ _ _ => rfl, fun d R => ?_⟩
    rw [ent, if_neg q]
def sft (k : Nat) : Int32 := if k ≤ 7 then nI (56 - 8 * k) else -8
theorem sft_s {k : Nat} (h : k < 8) : nI (56 - 8 * k) + Int32.ofInt (-8) = sft (k + 1) := by
  unfold sft
  by_cases q : k + 1 ≤ 7
  · rw [if_pos q, show 56 - 8 * k = (56 - 8 * (k + 1)) + 8 by omega, nI_m8]
  · rw [if_neg q, show k = 7 by omega]; decide
/-- putSigns -/
theorem sp103 (h : cTp I T) (v : vTp T) (x : Int64) : ∃ I', cTp I' (lay8 T x 8) ∧ (∀ y k, ¬ (y = 1 ∧ k = 0) → y ≠ 2 → I' y k = I y k) ∧ ∀ d R, kX xs (d + 1) 103 0 [some (.ref 0), some (.long x), none, none] [] (kmm I J rf g) R = R none (kmm I' J rf g) := by
  have L : ∃ I2, (cTp I2 (lay8 T x 8) ∧ ∀ y k, ¬ (y = 1 ∧ k = 0) → y ≠ 2 → I2 y k = I y k) ∧ (fun (d : Nat) (R : Option Value → KW → Prop) => kX xs (d + 1) 103 3 [some (.ref 0), some (.long x), none, some (.int (sft 0))] [] (kmm I J rf g) R) = (fun d R => kX xs (d + 1) 103 3 [some (.ref 0), some (.long x), none, some (.int (sft 8))] [] (kmm I2 J rf g) R) := by
    refine kloop (n := 8) (s0 := I) (fun i I2 => cTp I2 (lay8 T x i) ∧ ∀ y k, ¬ (y = 1 ∧ k = 0) → y ≠ 2 → I2 y k = I y k) (fun i I2 => fun (d : Nat) (R : Option Value → KW → Prop) => kX xs (d + 1) 103 3 [some (.ref 0), some (.long x), none, some (.int (sft i))] [] (kmm I2 J rf g) R) ⟨h, fun _ _ _ _ => rfl⟩ ?_
    intro i I2 hi ⟨g1, g2⟩
    have es : sft i = nI (56 - 8 * i) := if_pos (by omega)
    obtain ⟨I3, a1, a2, a3⟩ := sp14 (xs := xs) (J := J) (rf := rf) (g := g) g1 (lay8_v v x i) (byt_lt x (nI (56 - 8 * i)))
    refine ⟨I3, ⟨a1, fun y k h1 h2 => by rw [a2 y k h1 h2, g2 y k h1 h2]⟩, ?_⟩
    funext d R
    rw [es, B103_3, if_neg (nI_pos (by omega)), B103_7, kg11_0, kO_s, krecv_m ks1, kcond_t, byt_c, a3, kpush_n, B103_22, sft_s hi]
  obtain ⟨I2, ⟨g1, g2⟩, e2⟩ := L
  refine ⟨I2, g1, g2, fun d R => ?_⟩
  have e2' := congrFun (congrFun e2 d) R
  rw [B103_0, c8_56]
  refine Eq.trans e2' ?_
  rw [B103_3, if_pos (by decide), B103_28]
theorem sp102 (h : cTp I T) (v : vTp T) (a b c : Int64) : ∃ I', cTp I' (feedT T a b c) ∧ (∀ y k, ¬ (y = 1 ∧ k = 0) → y ≠ 2 → I' y k = I y k) ∧ ∀ d R, kX xs (d + 2) 102 0 [some (.ref 0), some (.long a), none, some (.long b), none, some (.long c), none] [] (kmm I J rf g) R = R (some (.int (nI (feedT T a b c).n))) (kmm I' J rf g) := by
  obtain ⟨I1, a1, a2, a3⟩ := sp103 (xs := xs) (J := J) (rf := rf) (g := g) h v a
  obtain ⟨I2, b1, b2, b3⟩ := sp103 (xs := xs) (J := J) (rf := rf) (g := g) a1 (lay8_v v a 8) b
  obtain ⟨I3, c1, c2, c3⟩ := sp103 (xs := xs) (J := J) (rf := rf) (g := g) b1 (lay8_v (lay8_v v a 8) b 8) c
  refine ⟨I3, c1, fun y k h1 h2 => by rw [c2 y k h1 h2, b2 y k h1 h2, a2 y k h1 h2], fun d R => ?_⟩
  rw [B102_0, krecv_m ks0, kcond_t, a3, kpush_n, B102_5, krecv_m ks0, kcond_t, b3, kpush_n, B102_10, krecv_m ks0, kcond_t, c3, kpush_n, B102_16, kg11_0, kO_s, kg2_0, kO_s, c1.n]
  rfl
/-- lay -/
theorem sp157 (h : mTp I T) (v : vTp T) (x : Int64) : ∃ I', mTp I' (lay8 T x 8) ∧ (∀ y k, ¬ (y = 185 ∧ k = 2) → y ≠ 186 → I' y k = I y k) ∧ ∀ d R, kX xs d 157 0 [some (.ref 185), some (.long x), none, none, none] [] (kmm I J rf g) R = R none (kmm I' J rf g) := by
  have L : ∃ I2, (mTp I2 (lay8 T x 8) ∧ ∀ y k, ¬ (y = 185 ∧ k = 2) → y ≠ 186 → I2 y k = I y k) ∧ (fun (d : Nat) (R : Option Value → KW → Prop) => kX xs d 157 3 [some (.ref 185), some (.long x), none, some (.int (sft 0)), none] [] (kmm I J rf g) R) = (fun d R => kX xs d 157 3 [some (.ref 185), some (.long x), none, some (.int (sft 8)), none] [] (kmm I2 J rf g) R) := by
    refine kloop (n := 8) (s0 := I) (fun i I2 => mTp I2 (lay8 T x i) ∧ ∀ y k, ¬ (y = 185 ∧ k = 2) → y ≠ 186 → I2 y k = I y k) (fun i I2 => fun (d : Nat) (R : Option Value → KW → Prop) => kX xs d 157 3 [some (.ref 185), some (.long x), none, some (.int (sft i)), none] [] (kmm I2 J rf g) R) ⟨h, fun _ _ _ _ => rfl⟩ ?_
    intro i I2 hi ⟨g1, g2⟩
    have es : sft i = nI (56 - 8 * i) := if_pos (by omega)
    have vi := lay8_v v x i
    have hn := vi.n
    have en := g1.n
    have hc := byt_lt x (nI (56 - 8 * i))
    have ep : lay8 T x (i + 1) = pushC (lay8 T x i) (byt x (nI (56 - 8 * i))) := rfl
    rw [ep]
    have ent : ∀ d R, kX xs d 157 3 [some (.ref 185), some (.long x), none, some (.int (sft i)), none] [] (kmm I2 J rf g) R = if isC (byt x (nI (56 - 8 * i))) then kX xs d 157 38 [some (.ref 185), some (.long x), none, some (.int (nI (56 - 8 * i))), some (.int (nI (byt x (nI (56 - 8 * i)))))] [] (kmm I2 J rf g) R else kX xs d 157 69 [some (.ref 185), some (.long x), none, some (.int (nI (56 - 8 * i))), none] [] (kmm I2 J rf g) R := by
      intro d R
      rw [es, B157_3, if_neg (nI_pos (by omega)), B157_7, c16_255, byt_m, c8_10]
      generalize byt x (nI (56 - 8 * i)) = c at *
      by_cases c1 : c = 10
      · rw [if_pos (congrArg nI c1), if_pos (Or.inl c1)]
      · rw [if_neg (fun q => c1 (by rw [nI_inj (by omega) (by omega)] at q; exact q)), B157_24, c8_32]
        by_cases c2 : c < 32
        · rw [if_pos (nI_lt c2 (by omega)), if_neg (fun q => by omega)]
        · rw [if_neg (nI_nlt (by omega) (by omega)), B157_31, c8_126]
          by_cases c3 : 126 < c
          · rw [if_pos (nI_lt c3 (by omega)), if_neg (fun q => by omega)]
          · rw [if_neg (nI_nlt (by omega) (by omega)), if_pos (Or.inr ⟨by omega, by omega⟩)]
    generalize byt x (nI (56 - 8 * i)) = c at *
    unfold pushC
    by_cases q : isC c
    · by_cases q2 : (lay8 T x i).n < 1000
      · rw [if_pos ⟨q, q2⟩]
        refine ⟨ku (ku I2 186 (lay8 T x i).n (nI c)) 185 2 (nI ((lay8 T x i).n + 1)), ⟨⟨by rw [ku_same]; rfl, fun k hk => ?_⟩, fun y k h1 h2 => by rw [ku_ne h1, ku_nea h2, g2 y k h1 h2]⟩, ?_⟩
        · have hk' : k < (lay8 T x i).n + 1 := hk
          rw [ku_nea (by omega)]
          show _ = nI (ku1 (lay8 T x i).t (lay8 T x i).n c k)
          by_cases e : k = (lay8 T x i).n
          · rw [e, ku_same, ku1_s]
          · rw [ku_nek e, ku1_n e, g1.t k (by omega)]
        · funext d R
          have e1 : ∀ v, ku I2 186 (lay8 T x i).n v 185 2 = nI (lay8 T x i).n := fun v => by rw [ku_nea (by omega), en]
          rw [ent, if_pos q, B157_38, kg12_2, kO_s, en, c16_1000, if_pos (nI_lt q2 (by omega)), B157_48, kg12_1, kO_s, kg12_2, kO_s, en, kw186 (by omega), kO_s, kg12_2, kO_s, e1, nI_add1, kp12_2, kO_s, B157_69, sft_s hi]
      · rw [if_neg (fun t => q2 t.2)]
        refine ⟨I2, ⟨g1, g2⟩, ?_⟩
        funext d R
        rw [ent, if_pos q, B157_38, kg12_2, kO_s, en, c16_1000, if_neg (nI_nlt (by omega) (by omega)), B157_69, sft_s hi]
    · rw [if_neg (fun t => q t.1)]
      refine ⟨I2, ⟨g1, g2⟩, ?_⟩
      funext d R
      rw [ent, if_neg q, B157_69, sft_s hi]
  obtain ⟨I2, ⟨g1, g2⟩, e2⟩ := L
  refine ⟨I2, g1, g2, fun d R => ?_⟩
  have e2' := congrFun (congrFun e2 d) R
  rw [B157_0, c8_56]
  refine Eq.trans e2' ?_
  rw [B157_3, if_pos (by decide), B157_75]
theorem sp156 (h : mTp I T) (v : vTp T) (a b c : Int64) : ∃ I', mTp I' (feedT T a b c) ∧ (∀ y k, ¬ (y = 185 ∧ (k = 0 ∨ k = 2)) → y ≠ 186 → I' y k = I y k) ∧ ∀ d R, kX xs (d + 1) 156 0 [some (.ref 185), some (.long a), none, some (.long b), none, some (.long c), none] [] (kmm I J rf g) R = R (some (.int (nI (feedT T a b c).n))) (kmm I' J rf g) := by
  have h0 : mTp (ku I 185 0 (nI 0)) T := ⟨by rw [ku_nek (by omega), h.n], fun k hk => by rw [ku_nea (by omega), h.t k hk]⟩
  obtain ⟨I1, a1, a2, a3⟩ := sp157 (xs := xs) (J := J) (rf := rf) (g := g) h0 v a
  obtain ⟨I2, b1, b2, b3⟩ := sp157 (xs := xs) (J := J) (rf := rf) (g := g) a1 (lay8_v v a 8) b
  obtain ⟨I3, c1, c2, c3⟩ := sp157 (xs := xs) (J := J) (rf := rf) (g := g) b1 (lay8_v (lay8_v v a 8) b 8) c
  refine ⟨I3, c1, fun y k h1 h2 => by rw [c2 y k (by omega) h2, b2 y k (by omega) h2, a2 y k (by omega) h2, ku_ne (by omega)], fun d R => ?_⟩
  rw [B156_0, kp12_0, kO_s, n_0, krecv_m ks185, kcond_t, a3, kpush_n, B156_10, krecv_m ks185, kcond_t, b3, kpush_n, B156_15, krecv_m ks185, kcond_t, c3, kpush_n, B156_21, kg12_2, kO_s, c1.n]
  rfl
end FE
