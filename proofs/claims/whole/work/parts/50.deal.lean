/-! Math.floorMod, and the deal at the class's side -/
theorem rem_toI (x : Int32) {m : Nat} (h0 : 0 < m) (hm : m < 1000) : (x - x / nI m * nI m).toInt = x.toInt.tmod m := by
  have em : (nI m).toInt = (m : Int) := nI_toInt (by omega)
  have hne : nI m ≠ -1 := by
    intro h
    rw [h] at em
    have : (-1 : Int32).toInt = -1 := by decide
    omega
  rw [Int32.toInt_sub, Int32.toInt_mul, Int32.toInt_div_of_ne_right _ _ hne, em, Int.sub_bmod_bmod]
  have e : x.toInt - x.toInt.tdiv m * m = x.toInt.tmod m := by
    have := Int.tmod_def x.toInt m
    rw [Int.mul_comm] at this
    omega
  rw [e]
  have b1 := Int.tmod_lt_of_pos x.toInt (show (0 : Int) < m by omega)
  have b2 : -(m : Int) < x.toInt.tmod m := Int.lt_tmod_of_pos x.toInt (show (0 : Int) < m by omega)
  refine Int.bmod_eq_of_le ?_ ?_
  · omega
  · omega
theorem neg_msb (y : Int32) : (y < 0) = (y.toBitVec.msb = true) := by
  rw [Int32.lt_iff_toInt_lt]
  refine propext ?_
  show y.toBitVec.toInt < 0 ↔ _
  refine BitVec.toInt_neg_iff.trans ?_
  rw [BitVec.msb_eq_decide, decide_eq_true_eq]
  omega
theorem xor_neg (x : Int32) {m : Nat} (hm : m < 1000) : (x ^^^ nI m < 0) = (x < 0) := by
  rw [neg_msb, neg_msb]
  have hx : (x ^^^ nI m).toBitVec = x.toBitVec ^^^ (nI m).toBitVec := rfl
  have hz : (nI m).toBitVec.msb = false := by
    have := nI_pos (n := m) (by omega)
    rw [neg_msb] at this
    simpa using this
  rw [hx, BitVec.msb_xor, hz, Bool.xor_false]
theorem nI_of_toInt {x : Int32} {n : Nat} (h : x.toInt = n) (hn : n < 2147483648) : x = nI n := by
  refine Int32.toInt_inj.mp ?_
  rw [h, nI_toInt (by omega)]
/-- the rest is never less than 0, floor style -/
def fmd (x : Int32) (m : Nat) : Nat := (x.toInt % (m : Int)).toNat
theorem fmd_lt (x : Int32) {m : Nat} (h0 : 0 < m) : fmd x m < m := by
  unfold fmd
  have a := Int.emod_nonneg x.toInt (show (m : Int) ≠ 0 by omega)
  have b := Int.emod_lt_of_pos x.toInt (show (0 : Int) < m by omega)
  omega
section FMOD
variable {xs : List Int32} {d : Nat} {R : Option Value → KW → Prop} {w : KW}
theorem sp276 {x : Int32} {m : Nat} (h0 : 0 < m) (hm : m < 1000) : kX xs d 276 0 [some (.int x), some (.int (nI m)), none] [] w R = R (some (.int (nI (fmd x m)))) w := by
  have hr := rem_toI x h0 hm
  have b1 := Int.tmod_lt_of_pos x.toInt (show (0 : Int) < m by omega)
  have b2 : -(m : Int) < x.toInt.tmod m := Int.lt_tmod_of_pos x.toInt (show (0 : Int) < m by omega)
  have c1 := Int.emod_nonneg x.toInt (show (m : Int) ≠ 0 by omega)
  have c2 := Int.emod_lt_of_pos x.toInt (show (0 : Int) < m by omega)
  have em : (nI m).toInt = (m : Int) := nI_toInt (by omega)
  have hz : (0 : Int32).toInt = 0 := by decide
  have htm := Int.tmod_eq_emod (a := x.toInt) (b := (m : Int))
  rw [B276_0, if_neg (nI_ne0 h0 (by omega))]
  by_cases hx : x < 0
  · rw [if_pos (by rw [xor_neg x hm]; exact hx), B276_10]
    have hx' : x.toInt < 0 := by rw [Int32.lt_iff_toInt_lt, hz] at hx; exact hx
    by_cases hq : x - x / nI m * nI m = 0
    · rw [if_pos hq, B276_18, hq]
      rw [hq, hz] at hr
      have : fmd x m = 0 := by
        unfold fmd
        have hd : (m : Int) ∣ x.toInt := Int.dvd_of_tmod_eq_zero hr.symm
        rw [Int.emod_eq_zero_of_dvd hd]
        rfl
      rw [this]
      rfl
    · rw [if_neg hq, B276_14]
      have hne : x.toInt.tmod m ≠ 0 := by
        intro h
        rw [h] at hr
        exact hq (Int32.toInt_inj.mp (by rw [hr, hz]))
      have hnd : ¬ (m : Int) ∣ x.toInt := fun hd => hne (Int.tmod_eq_zero_of_dvd hd)
      rw [if_neg (by intro h; rcases h with h | h; · omega
                     · exact hnd h)] at htm
      have : (x - x / nI m * nI m + nI m) = nI (fmd x m) := by
        refine nI_of_toInt ?_ (by have := fmd_lt x h0; omega)
        rw [Int32.toInt_add, hr, em]
        unfold fmd
        rw [Int.bmod_eq_of_le (by omega) (by omega), htm]
        omega
      rw [this]
  · rw [if_neg (by rw [xor_neg x hm]; exact hx), B276_18]
    have hx' : 0 ≤ x.toInt := by rw [Int32.lt_iff_toInt_lt, hz] at hx; omega
    rw [if_pos (Or.inl hx')] at htm
    have : (x - x / nI m * nI m) = nI (fmd x m) := by
      refine nI_of_toInt ?_ (by have := fmd_lt x h0; omega)
      rw [hr, htm]
      unfold fmd
      omega
    rw [this]
end FMOD
section CDEAL
variable {xs : List Int32} {a b : Nat} {I I' : Nat → Nat → Int32} {J : Nat → Nat → Int64} {rf : Nat → Nat} {g : Nat} {r : aRl} {s : aSt} {d : Nat} {R : Option Value → KW → Prop}
/-- freeFrom -/
theorem sp68_4 {f : Nat → Nat} {m : Nat} (hm : m ≤ 7) (em : I 54 0 = nI m) (hr : ∀ p, p < m → I 59 p = nI (if f p = 0 then 0 else 1)) : ∀ k n p, n + k = m → p < m → kX xs d 68 4 [some (.ref 54), none, some (.int (nI p)), some (.int (nI n))] [] (kmm I J rf g) R = R (some (.int (nI (dF f m k p)))) (kmm I J rf g) := by
  intro k
  induction k with
  | zero =>
    intro n p hn hp
    rw [B68_4, kg8_0, kO_s, em, if_neg (nI_nlt (by omega) (by omega)), B68_45]
    rfl
  | succ k ih =>
    intro n p hn hp
    rw [B68_4, kg8_0, kO_s, em, if_pos (nI_lt (by omega) (by omega)), B68_12, kg8_5, kO_s, kb59 (by omega), kO_s, hr p hp, dF]
    by_cases hf : f p = 0
    · rw [if_pos hf, if_pos hf, if_pos (show nI 0 = 0 from rfl), B68_45]
    · rw [if_neg hf, if_neg hf, if_neg (by decide), B68_21, kg8_0, kO_s, em, nI_add1]
      by_cases hp1 : p + 1 < m
      · rw [if_pos (nI_lt hp1 (by omega)), B68_31, nI_add1, B68_38, nI_add1, ih (n + 1) (p + 1) (by omega) hp1, Nat.mod_eq_of_lt hp1]
      · rw [if_neg (nI_nlt (by omega) (by omega)), B68_37, B68_38, nI_add1, n_0, ih (n + 1) 0 (by omega) (by omega)]
        rw [show p + 1 = m by omega, Nat.mod_self]
theorem sp68 {f : Nat → Nat} {m p : Nat} (hm : m ≤ 7) (em : I 54 0 = nI m) (hr : ∀ p, p < m → I 59 p = nI (if f p = 0 then 0 else 1)) (hp : p < m) : kX xs d 68 0 [some (.ref 54), some (.int (nI p)), none, none] [] (kmm I J rf g) R = R (some (.int (nI (dF f m m p)))) (kmm I J rf g) := by
  rw [B68_0, n_0]
  exact sp68_4 hm em hr m 0 p (by omega) hp
theorem ksum_n {f : Nat → Int32} {h : Nat → Nat} : ∀ n, (∀ k, k < n → f k = nI (h k)) → ksum f n = nI (nsum h n) := by
  intro n
  induction n with
  | zero => intro _; rfl
  | succ n ih =>
    intro hk
    rw [ksum, nsum, ih (fun k h => hk k (by omega)), hk n (by omega), nI_add]
/-- deal -/
theorem sp67e (ha : kshp a = some (.inl 6)) (hb : kshp b = some (.inl 9)) (vr : vRl r) (vs : vSt r s) (hr : cRl I a r) (hs : cSt I b s) {m : Nat} (hm : m ≤ 7) (em : I 54 0 = nI m) : ∃ I', (∀ p, p < m → I' 57 p = nI (dSr r s m p)) ∧ (∀ x k, x ≠ 57 → x ≠ 59 → x ≠ a + 7 → I' x k = I x k) ∧ ∀ d R, kX xs (d + 2) 67 0 [some (.ref 54), some (.ref (a + 5)), some (.ref b), none, none, none, none] [] (kmm I J rf g) R = R none (kmm I' J rf g) := by
  obtain ⟨o1, o2, o3⟩ := koff ha hb
  have r5 := (kar6 ha).2.2.2.2.1
  -- nobody is reached yet
  have L1 : ∃ I1, ((∀ x k, x ≠ 59 → I1 x k = I x k) ∧ ∀ p, p < m → I1 59 p = nI 0) ∧ (fun (d : Nat) (R : Option Value → KW → Prop) => kX xs (d + 2) 67 8 [some (.ref 54), some (.ref (a + 5)), some (.ref b), some (.int (nI (grf s))), some (.int (nI 0)), none, none] [] (kmm I J rf g) R) = (fun d R => kX xs (d + 2) 67 8 [some (.ref 54), some (.ref (a + 5)), some (.ref b), some (.int (nI (grf s))), some (.int (nI m)), none, none] [] (kmm I1 J rf g) R) := by
    refine kloop (n := m) (s0 := I) (fun i I1 => (∀ x k, x ≠ 59 → I1 x k = I x k) ∧ ∀ p, p < i → I1 59 p = nI 0) (fun i I1 => fun (d : Nat) (R : Option Value → KW → Prop) => kX xs (d + 2) 67 8 [some (.ref 54), some (.ref (a + 5)), some (.ref b), some (.int (nI (grf s))), some (.int (nI i)), none, none] [] (kmm I1 J rf g) R) ⟨fun _ _ _ => rfl, fun p hp => absurd hp (by omega)⟩ ?_
    intro i I1 hi ⟨f1, f2⟩
    refine ⟨ku I1 59 i (nI 0), ⟨fun x k hx => by rw [ku_nea hx, f1 x k hx], fun p hp => ?_⟩, ?_⟩
    · by_cases hpi : p = i
      · rw [hpi, ku_same]
      · rw [ku_nek hpi, f2 p (by omega)]
    · funext d R
      rw [B67_8, kg8_0, kO_s, f1 54 0 (by omega), em, if_pos (nI_lt hi (by omega)), B67_17, kg8_5, kO_s, kv59 (by omega), kO_s, kvz0, nI_add1]
  obtain ⟨I1, ⟨f1, f2⟩, e1⟩ := L1
  -- they are dealt
  have L2 : ∃ I2, ((∀ x k, x ≠ 57 → x ≠ 59 → x ≠ a + 7 → I2 x k = I x k) ∧ (∀ p, p < m → I2 59 p = nI (if dD (dT r s m) m m p = 0 then 0 else 1)) ∧ ∀ p, p < m → 0 < dD (dT r s m) m m p → I2 57 p = nI (dD (dT r s m) m m p - 1)) ∧ (fun (d : Nat) (R : Option Value → KW → Prop) => kX xs (d + 2) 67 34 [some (.ref 54), some (.ref (a + 5)), some (.ref b), some (.int (nI (grf s))), some (.int (nI 0)), none, none] [] (kmm I1 J rf g) R) = (fun d R => kX xs (d + 2) 67 34 [some (.ref 54), some (.ref (a + 5)), some (.ref b), some (.int (nI (grf s))), some (.int (nI m)), none, none] [] (kmm I2 J rf g) R) := by
    refine kloop (n := m) (s0 := I1) (fun i I2 => (∀ x k, x ≠ 57 → x ≠ 59 → x ≠ a + 7 → I2 x k = I x k) ∧ (∀ p, p < m → I2 59 p = nI (if dD (dT r s m) m i p = 0 then 0 else 1)) ∧ ∀ p, p < m → 0 < dD (dT r s m) m i p → I2 57 p = nI (dD (dT r s m) m i p - 1)) (fun i I2 => fun (d : Nat) (R : Option Value → KW → Prop) => kX xs (d + 2) 67 34 [some (.ref 54), some (.ref (a + 5)), some (.ref b), some (.int (nI (grf s))), some (.int (nI i)), none, none] [] (kmm I2 J rf g) R) ⟨fun x k _ h2 _ => f1 x k h2, fun p hp => by rw [f2 p hp]; rfl, fun p hp h => absurd h (by simp [dD])⟩ ?_
    intro i I2 hi ⟨g1, g2, g3⟩
    have em2 : I2 54 0 = nI m := by rw [g1 54 0 (by omega) (by omega) (by omega), em]
    have hr2 : cRl I2 a r := hr.keep (fun x k h1 h2 => g1 x k (by omega) (by omega) (by omega))
    have hs2 : cSt I2 b s := hs.keep (fun x k h1 h2 => g1 x k (by omega) (by omega) (by omega))
    obtain ⟨I3, k1, k2⟩ := sp2e (xs := xs) (J := J) (rf := rf) (g := g) r5 vr.lw hr2.ll hr2.lc (nI i) (nI m) (nI s.nx) (nI (grf s))
    have em3 : I3 54 0 = nI m := by rw [k1 54 0 (by omega), em2]
    have hq : (i + dT r s m i) % m < m := Nat.mod_lt _ (by omega)
    have hT : fmd (lv r (nI i) (nI m) (nI s.nx) (nI (grf s))) m = dT r s m i := rfl
    have hTl : dT r s m i < m := by rw [← hT]; exact fmd_lt _ (by omega)
    have h59 : ∀ p, p < m → I3 59 p = nI (if dD (dT r s m) m i p = 0 then 0 else 1) := fun p hp => by rw [k1 59 p (by omega), g2 p hp]
    obtain ⟨q1, q2⟩ := dD_at (T := dT r s m) hi
    refine ⟨ku (ku I3 59 (dF (dD (dT r s m) m i) m m ((i + dT r s m i) % m)) (nI 1)) 57 (dF (dD (dT r s m) m i) m m ((i + dT r s m i) % m)) (nI i), ⟨fun x k h1 h2 h3 => by rw [ku_nea h1, ku_nea h2, k1 x k (by omega), g1 x k h1 h2 h3], fun p hp => ?_, fun p hp h0 => ?_⟩, ?_⟩
    · rw [ku_nea (by omega), dD]
      by_cases hpe : p = dF (dD (dT r s m) m i) m m ((i + dT r s m i) % m)
      · rw [← hpe, ku_same, ku1_s, if_neg (by omega)]
      · rw [ku_nek hpe, ku1_n hpe, h59 p hp]
    · rw [dD] at h0 ⊢
      by_cases hpe : p = dF (dD (dT r s m) m i) m m ((i + dT r s m i) % m)
      · rw [← hpe, ku_same, ku1_s]
        rfl
      · rw [ku1_n hpe] at h0 ⊢
        rw [ku_nek hpe, ku_nea (by omega), k1 57 p (by omega), g3 p hp h0]
    · funext d R
      rw [B67_34, kg8_0, kO_s, em2, if_pos (nI_lt hi (by omega)), B67_43, kg8_0, kO_s, em2, kg9_0 hb, kO_s, hs2.nx, krecv_m r5, kcond_t, k2, kpush_s, B67_58, kg8_0, kO_s, em3, sp276 (by omega) (by omega), kpush_s, hT, B67_72, kg8_0, kO_s, em3, if_neg (nI_ne0 (by omega) (by omega)), krecv_m ks54, kcond_t, nI_add, pk_rem (by omega) (by omega) (by omega), sp68 hm em3 h59 hq, kpush_s, B67_81, kg8_5, kO_s, kv59 (by omega), kO_s, kvz1, kg8_3, kO_s, kw57 (by omega), kO_s, nI_add1]
  obtain ⟨I2, ⟨g1, g2, g3⟩, e2⟩ := L2
  refine ⟨I2, fun p hp => g3 p hp (dD_all hp), g1, fun d R => ?_⟩
  have hg : ksum (I (b + 1)) 7 = nI (grf s) := ksum_n 7 hs.hd
  rw [B67_0, krecv_m hb, kcond_t, sp94 hb, kpush_s, B67_4, hg, n_0, congrFun (congrFun e1 d) R, B67_8, kg8_0, kO_s, f1 54 0 (by omega), em, if_neg (nI_nlt (Nat.le_refl _) (by omega)), B67_31, n_0, congrFun (congrFun e2 d) R, B67_34, kg8_0, kO_s, g1 54 0 (by omega) (by omega) (by omega), em, if_neg (nI_nlt (Nat.le_refl _) (by omega)), B67_106]
end CDEAL
