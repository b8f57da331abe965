/-! the deal at the model's side -/
theorem mto (v : Int32) {m k : Nat} (h0 : 0 < m) (hm : m < 1000) (hk : k < 1000) : (v - v / nI m * nI m + nI m + nI k) - (v - v / nI m * nI m + nI m + nI k) / nI m * nI m = nI ((k + fmd v m) % m) := by
  have hr := rem_toI v h0 hm
  have b1 := Int.tmod_lt_of_pos v.toInt (show (0 : Int) < m by omega)
  have b2 : -(m : Int) < v.toInt.tmod m := Int.lt_tmod_of_pos v.toInt (show (0 : Int) < m by omega)
  have em : (nI m).toInt = (m : Int) := nI_toInt (by omega)
  have htm := Int.tmod_eq_emod (a := v.toInt) (b := (m : Int))
  have c1 := Int.emod_nonneg v.toInt (show (m : Int) ≠ 0 by omega)
  have c2 := Int.emod_lt_of_pos v.toInt (show (0 : Int) < m by omega)
  have hq : v - v / nI m * nI m + nI m = nI ((v.toInt.tmod m + m).toNat) := by
    refine nI_of_toInt ?_ (by omega)
    rw [Int32.toInt_add, hr, em, Int.bmod_eq_of_le (by omega) (by omega)]
    omega
  rw [hq, nI_add, pk_rem (by omega) h0 (by omega)]
  congr 1
  unfold fmd
  by_cases h : 0 ≤ v.toInt ∨ (m : Int) ∣ v.toInt
  · rw [if_pos h] at htm
    have htm' : v.toInt.tmod m = v.toInt % (m : Int) := by omega
    rw [htm']
    have : (v.toInt % (m : Int) + m).toNat + k = k + (v.toInt % (m : Int)).toNat + m := by omega
    rw [this, Nat.add_mod_right]
  · rw [if_neg h] at htm
    rw [htm]
    have : (v.toInt % (m : Int) - ((m : Int).natAbs : Int) + m).toNat + k = k + (v.toInt % (m : Int)).toNat := by omega
    rw [this]
theorem add_n0 (x : Int32) : x + nI 0 = x := by rw [nI_0, Int32.add_zero]
section MDEAL
variable {xs : List Int32} {d : Nat} {I I' : Nat → Nat → Int32} {J : Nat → Nat → Int64} {rf : Nat → Nat} {g : Nat} {R : Option Value → KW → Prop} {r : aRl} {s : aSt} {w : KW} {b : Nat}
/-- the next free place -/
theorem sp212_120 {f : Nat → Nat} {m : Nat} {l1 l2 l3 : Int32} (hm : m ≤ 7) (em : I 185 28 = nI m) (hf : ∀ p, p < m → I 204 p = if f p = 0 then -1 else nI (f p - 1)) (hl : ∀ p, f p ≤ 7) : ∀ n p, p < m → (∃ k, k < n ∧ f ((p + k) % m) = 0) → kX xs d 212 120 [some (.ref 185), some (.int l1), some (.int l2), some (.int l3), none, some (.int (nI p))] [] (kmm I J rf g) R = kX xs d 212 144 [some (.ref 185), some (.int l1), some (.int l2), some (.int l3), none, some (.int (nI (dF f m n p)))] [] (kmm I J rf g) R := by
  intro n
  induction n with
  | zero => intro p _ ⟨k, hk, _⟩; exact absurd hk (by omega)
  | succ n ih =>
    intro p hp ⟨k, hk, hf0⟩
    have e := hf p hp
    have hm0 : ¬ nI m = nI 0 := by rw [nI_inj (by omega) (by omega)]; omega
    rw [B212_120, dF]
    by_cases h0 : f p = 0
    · rw [if_pos h0] at e
      rw [if_pos h0, kg12_27, kO_s, ka204 (by omega), kO_s, e, if_pos (by decide)]
    · rw [if_neg h0] at e
      rw [if_neg h0, kg12_27, kO_s, ka204 (by omega), kO_s, e, if_neg (nI_pos (by have := hl p; omega)), B212_130, kg12_28, kO_s, em, n_0, if_neg hm0, nI_add1, pk_rem (by omega) (by omega) (by omega)]
      refine ih _ (Nat.mod_lt _ (by omega)) ?_
      cases k with
      | zero => rw [Nat.add_zero, Nat.mod_eq_of_lt hp] at hf0; exact absurd hf0 h0
      | succ k =>
        refine ⟨k, by omega, ?_⟩
        rw [Nat.mod_add_mod, show p + 1 + k = p + (k + 1) by omega]
        exact hf0
theorem dF_ex {f : Nat → Nat} {m p : Nat} (hp : p < m) (h : 0 < nfree f m) : ∃ k, k < m ∧ f ((p + k) % m) = 0 := by
  obtain ⟨k, h1, h2⟩ := nsum_ex m h
  have h3 : f k = 0 := by
    by_cases q : f k = 0
    · exact q
    · rw [if_neg q] at h2; omega
  by_cases hk : p ≤ k
  · exact ⟨k - p, by omega, by rw [show p + (k - p) = k by omega, Nat.mod_eq_of_lt h1]; exact h3⟩
  · refine ⟨k + m - p, by omega, ?_⟩
    rw [show p + (k + m - p) = k + m by omega, Nat.add_mod_right, Nat.mod_eq_of_lt h1]
    exact h3
/-- deals, on the day that is next -/
theorem sp212 (hb : b ≤ 1235) (vr : vRl r) (vs : vSt r s) (hr : mRl I r) (hs : mSt I b r s) : ∃ I', mDay I' r s s.nx ∧ (∀ p, p < dM r s s.nx → I' 204 p = nI (dS r s p)) ∧ (∀ x k, x ≠ 199 → x ≠ 200 → x ≠ 203 → x ≠ 204 → ¬ (x = 185 ∧ k = 28) → I' x k = I x k) ∧ ∀ d R, kX xs (d + 2) 212 0 [some (.ref 185), some (.int (nI b)), some (.int (nI s.nx)), none, none, none] [] (kmm I J rf g) R = R none (kmm I' J rf g) := by
  have hnx := vs.nx
  have hc7 := vr.c
  have hm7 := dM7 vr s s.nx
  obtain ⟨I1, d1, f1, e1⟩ := sp210 (xs := xs) (J := J) (rf := rf) (g := g) hb vr (fun k hk => vs.up k (by omega)) hr hs vs.nx
  generalize hM : dM r s s.nx = m at hm7
  have em1 : I1 185 28 = nI m := by rw [d1.m, hM]
  -- nobody is reached yet
  have L1 : ∃ I2, ((∀ x k, x ≠ 204 → I2 x k = I1 x k) ∧ ∀ p, p < m → I2 204 p = -1) ∧ (fun (d : Nat) (R : Option Value → KW → Prop) => kX xs (d + 2) 212 8 [some (.ref 185), some (.int (nI b)), some (.int (nI s.nx)), some (.int (nI 0)), none, none] [] (kmm I1 J rf g) R) = (fun d R => kX xs (d + 2) 212 8 [some (.ref 185), some (.int (nI b)), some (.int (nI s.nx)), some (.int (nI m)), none, none] [] (kmm I2 J rf g) R) := by
    refine kloop (n := m) (s0 := I1) (fun i I2 => (∀ x k, x ≠ 204 → I2 x k = I1 x k) ∧ ∀ p, p < i → I2 204 p = -1) (fun i I2 => fun (d : Nat) (R : Option Value → KW → Prop) => kX xs (d + 2) 212 8 [some (.ref 185), some (.int (nI b)), some (.int (nI s.nx)), some (.int (nI i)), none, none] [] (kmm I2 J rf g) R) ⟨fun _ _ _ => rfl, fun p hp => absurd hp (by omega)⟩ ?_
    intro i I2 hi ⟨g1, g2⟩
    refine ⟨ku I2 204 i (-1), ⟨fun x k hx => by rw [ku_nea hx, g1 x k hx], fun p hp => ?_⟩, ?_⟩
    · by_cases hpi : p = i
      · rw [hpi, ku_same]
      · rw [ku_nek hpi, g2 p (by omega)]
    · funext d R
      rw [B212_8, kg12_28, kO_s, g1 185 28 (by omega), em1, if_pos (nI_lt hi (by omega)), B212_16, kg12_27, kO_s, kw204 (by omega), kO_s, nI_add1]
  obtain ⟨I2, ⟨g1, g2⟩, e2⟩ := L1
  -- they are dealt
  have L2 : ∃ I3, ((∀ x k, x ≠ 199 → x ≠ 200 → x ≠ 204 → I3 x k = I1 x k) ∧ ∀ p, p < m → I3 204 p = if dD (dT r s m) m m p = 0 then -1 else nI (dD (dT r s m) m m p - 1)) ∧ (fun (d : Nat) (R : Option Value → KW → Prop) => kX xs (d + 2) 212 31 [some (.ref 185), some (.int (nI b)), some (.int (nI s.nx)), some (.int (nI 0)), none, none] [] (kmm I2 J rf g) R) = (fun d R => kX xs (d + 2) 212 31 [some (.ref 185), some (.int (nI b)), some (.int (nI s.nx)), some (.int (nI m)), none, none] [] (kmm I3 J rf g) R) := by
    refine kloop (n := m) (s0 := I2) (fun i I3 => (∀ x k, x ≠ 199 → x ≠ 200 → x ≠ 204 → I3 x k = I1 x k) ∧ ∀ p, p < m → I3 204 p = if dD (dT r s m) m i p = 0 then -1 else nI (dD (dT r s m) m i p - 1)) (fun i I3 => fun (d : Nat) (R : Option Value → KW → Prop) => kX xs (d + 2) 212 31 [some (.ref 185), some (.int (nI b)), some (.int (nI s.nx)), some (.int (nI i)), none, none] [] (kmm I3 J rf g) R) ⟨fun x k _ _ h3 => g1 x k h3, fun p hp => by rw [g2 p hp]; rfl⟩ ?_
    intro i I3 hi ⟨k1, k2⟩
    have em3 : I3 185 28 = nI m := by rw [k1 _ _ (by omega) (by omega) (by omega), em1]
    have hm0 : ¬ nI m = nI 0 := by rw [nI_inj (by omega) (by omega)]; omega
    -- the facts
    have F : ∃ I4, I4 = ku (ku (ku I3 199 0 (nI i)) 199 1 (nI m)) 199 2 (nI s.nx) := ⟨_, rfl⟩
    obtain ⟨I4, hI4⟩ := F
    have k4 : ∀ x k, x ≠ 199 → I4 x k = I3 x k := fun x k hx => by rw [hI4, ku_nea hx, ku_nea hx, ku_nea hx]
    have hr4 : mRl I4 r := hr.keep (fun x k h1 h2 => by rw [k4 _ _ (by omega), k1 _ _ (by omega) (by omega) (by omega), f1 _ _ (by omega) (by omega)])
    have hs4 : mSt I4 b r s := hs.keep vr (fun k h1 h2 => by rw [k4 _ _ (by omega), k1 _ _ (by omega) (by omega) (by omega), f1 _ _ (by omega) (by omega)])
    obtain ⟨I5, hI5⟩ : ∃ I5, I5 = ku I4 199 3 (nI (grf s)) := ⟨_, rfl⟩
    have k5 : ∀ x k, x ≠ 199 → I5 x k = I3 x k := fun x k hx => by rw [hI5, ku_nea hx, k4 x k hx]
    have hr5 : mRl I5 r := hr.keep (fun x k h1 h2 => by rw [k5 _ _ (by omega), k1 _ _ (by omega) (by omega) (by omega), f1 _ _ (by omega) (by omega)])
    have a0 : I5 199 0 = nI i := by rw [hI5, hI4, ku_nek (by omega), ku_nek (by omega), ku_nek (by omega), ku_same]
    have a1 : I5 199 1 = nI m := by rw [hI5, hI4, ku_nek (by omega), ku_nek (by omega), ku_same]
    have a2 : I5 199 2 = nI s.nx := by rw [hI5, hI4, ku_nek (by omega), ku_same]
    have a3 : I5 199 3 = nI (grf s) := by rw [hI5, ku_same]
    -- what the law tells
    have W : ∃ I6, (∀ x k, x ≠ 200 → I6 x k = I5 x k) ∧ ∀ d R, kX xs (d + 2) 212 73 [some (.ref 185), some (.int (nI b)), some (.int (nI s.nx)), some (.int (nI i)), none, none] [.int (nI (grf s)), .int 3, .ref 199] (kmm I4 J rf g) R = kX xs (d + 2) 212 97 [some (.ref 185), some (.int (nI b)), some (.int (nI s.nx)), some (.int (nI i)), none, none] [.int (lv r (nI i) (nI m) (nI s.nx) (nI (grf s)))] (kmm I6 J rf g) R := by
      have hlw := hr5.lw
      by_cases hl0 : r.ll = 0
      · rw [if_pos hl0] at hlw
        refine ⟨I5, fun _ _ _ => rfl, fun d R => ?_⟩
        have hlv : lv r (nI i) (nI m) (nI s.nx) (nI (grf s)) = 1 := by unfold lv; rw [if_pos hl0]
        rw [hlv, B212_73, n_3, kw199 (by omega), kO_s, ← hI5, kg12_10, kO_s, ka191 (by omega), kO_s, hlw, if_pos (by decide), B212_83]
      · rw [if_neg hl0] at hlw
        obtain ⟨I6, q1, q2⟩ := sp193 (xs := xs) (J := J) (rf := rf) (g := g) vr hr5 (by omega) a0 a1 a2 a3
        refine ⟨I6, q1, fun d R => ?_⟩
        rw [B212_73, n_3, kw199 (by omega), kO_s, ← hI5, kg12_10, kO_s, ka191 (by omega), kO_s, hlw, if_neg (nI_pos (by omega)), B212_87, kg12_10, kO_s, n_3, ka191 (by omega), kO_s, hlw, krecv_m ks185, kcond_t, q2, kpush_s]
    obtain ⟨I6, q1, q2⟩ := W
    have hT : fmd (lv r (nI i) (nI m) (nI s.nx) (nI (grf s))) m = dT r s m i := rfl
    have hq : (i + dT r s m i) % m < m := Nat.mod_lt _ (by omega)
    have em6 : I6 185 28 = nI m := by rw [q1 _ _ (by omega), k5 _ _ (by omega), em3]
    have h204 : ∀ p, p < m → I6 204 p = if dD (dT r s m) m i p = 0 then -1 else nI (dD (dT r s m) m i p - 1) := fun p hp => by rw [q1 _ _ (by omega), k5 _ _ (by omega), k2 p hp]
    have hle : ∀ p, dD (dT r s m) m i p ≤ 7 := fun p => by have := dD_le (T := dT r s m) (m := m) i p; omega
    have hex := dF_ex (f := dD (dT r s m) m i) hq (by rw [dD_free i (by omega)]; omega)
    obtain ⟨p1, p2⟩ := dD_at (T := dT r s m) hi
    have h120 : ∀ d R, kX xs d 212 120 [some (.ref 185), some (.int (nI b)), some (.int (nI s.nx)), some (.int (nI i)), none, some (.int (nI ((i + dT r s m i) % m)))] [] (kmm I6 J rf g) R = _ := fun d R => sp212_120 hm7 em6 h204 hle m _ hq hex
    generalize hto : dF (dD (dT r s m) m i) m m ((i + dT r s m i) % m) = to at p1 p2 h120
    refine ⟨ku I6 204 to (nI i), ⟨fun x k h1 h2 h3 => by rw [ku_nea h3, q1 x k h2, k5 x k h1, k1 x k h1 h2 h3], fun p hp => ?_⟩, ?_⟩
    · rw [dD, hto]
      by_cases hpe : p = to
      · rw [hpe, ku_same, ku1_s, if_neg (by omega)]
        rfl
      · rw [ku_nek hpe, ku1_n hpe, h204 p hp]
    · funext d R
      have h211 : ∀ R, kX xs (d + 1) 211 0 [some (.ref 185), some (.int (nI b)), none, none] [] (kmm I4 J rf g) R = _ := fun R => sp211 hb vr vs hr4 hs4
      have z1 : ku I3 199 0 (nI i) 185 28 = nI m := by rw [ku_nea (by omega), em3]
      rw [B212_31, kg12_28, kO_s, em3, if_pos (nI_lt hi (by omega)), B212_39, kg12_21, kO_s, n_0, kw199 (by omega), kO_s, kg12_21, kO_s, kg12_28, kO_s, z1, n_1, kw199 (by omega), kO_s, kg12_21, kO_s, n_2, kw199 (by omega), kO_s, kg12_21, kO_s, krecv_m ks185, kcond_t, ← hI4, h211, kpush_s, q2, B212_97, kg12_28, kO_s, em6, n_0, if_neg hm0, kO_s, kO_s, if_neg hm0, mto _ (by omega) (by omega) (by omega), hT, h120, B212_144, kg12_27, kO_s, kw204 (by omega), kO_s, nI_add1]
  obtain ⟨I3, ⟨k1, k2⟩, e3⟩ := L2
  have em3 : I3 185 28 = nI m := by rw [k1 _ _ (by omega) (by omega) (by omega), em1]
  refine ⟨I3, ⟨by rw [em3, hM], fun p hp => by rw [k1 _ _ (by omega) (by omega) (by omega), d1.h p hp]⟩, fun p hp => ?_, fun x k h1 h2 h3 h4 h5 => by rw [k1 x k h1 h2 h4, f1 x k h3 h5], fun d R => ?_⟩
  · have hd0 := dD_all (T := dT r s m) hp
    rw [k2 p hp, if_neg (by omega)]
    unfold dS dSr
    rw [hM]
  · have e2' := congrFun (congrFun e2 d) R
    have e3' := congrFun (congrFun e3 d) R
    rw [B212_0, krecv_m ks185, kcond_t, e1, kpush_n, B212_6, n_0]
    refine Eq.trans e2' ?_
    rw [B212_8, kg12_28, kO_s, g1 185 28 (by omega), em1, if_neg (nI_nlt (Nat.le_refl _) (by omega)), B212_29, n_0]
    refine Eq.trans e3' ?_
    rw [B212_31, kg12_28, kO_s, em3, if_neg (nI_nlt (Nat.le_refl _) (by omega)), B212_158]
end MDEAL
