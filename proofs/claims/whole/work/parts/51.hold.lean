/-! holdNext, holdThrough -/
theorem hF_le {hd h A : Nat → Nat} (h0 : ∀ t, t < 7 → hd t ≤ 9999) : ∀ n t, t < 7 → hF hd h A n t ≤ 9999 := by
  intro n
  induction n with
  | zero => intro t ht; exact h0 t ht
  | succ n ih =>
    intro t ht
    rw [hF]
    by_cases he : t = h n
    · rw [he, ku1_s]; exact Nat.min_le_right _ _
    · rw [ku1_n he]; exact ih t ht
theorem hF_out {hd h A : Nat → Nat} {t : Nat} : ∀ n, (∀ p, p < n → h p ≠ t) → hF hd h A n t = hd t := by
  intro n
  induction n with
  | zero => intro _; rfl
  | succ n ih =>
    intro hn
    rw [hF, ku1_n (fun e => hn n (by omega) e.symm), ih (fun p hp => hn p (by omega))]
theorem pass_v {r : aRl} {s : aSt} (vr : vRl r) (vs : vSt r s) : vSt r (pass r s) := by
  refine ⟨Nat.mod_lt _ (by omega), fun k hk => hF_le vs.hd _ k hk, fun k hk hc => ?_, vs.up, vs.ln, vs.ch, vs.cj, vs.ci⟩
  show hF s.hd _ _ _ k = 0
  rw [hF_out _ (fun p hp => ?_), vs.h0 k hk hc]
  have := (hH_at s.up s.nx r.nj r.nc p hp).1
  unfold dH
  omega
/-- days go by -/
def adv (r : aRl) (s : aSt) : Nat → aSt
  | 0 => s
  | n + 1 => pass r (adv r s n)
theorem adv_v {r : aRl} {s : aSt} (vr : vRl r) (vs : vSt r s) : ∀ n, vSt r (adv r s n) := by
  intro n
  induction n with
  | zero => exact vs
  | succ n ih => exact pass_v vr ih
theorem adv_nx {r : aRl} {s : aSt} (hs : s.nx < 4) : ∀ n, (adv r s n).nx = (s.nx + n) % 4 := by
  intro n
  induction n with
  | zero => rw [adv, Nat.add_zero, Nat.mod_eq_of_lt hs]
  | succ n ih =>
    show ((adv r s n).nx + 1) % 4 = _
    rw [ih]
    omega
/-- the next time that it is that day -/
def nxt (r : aRl) (s : aSt) (day : Nat) : aSt := adv r s ((day + 4 - s.nx) % 4)
theorem nxt_nx {r : aRl} {s : aSt} {day : Nat} (hs : s.nx < 4) (hd : day < 4) : (nxt r s day).nx = day := by
  unfold nxt
  rw [adv_nx hs]
  omega
theorem nxt_v {r : aRl} {s : aSt} {day : Nat} (vr : vRl r) (vs : vSt r s) : vSt r (nxt r s day) := adv_v vr vs _
theorem kmin_n {x y : Nat} (hx : x < 2147483648) (hy : y < 2147483648) : kmin32 (nI x) (nI y) = nI (min x y) := by
  unfold kmin32
  by_cases h : y < x
  · rw [if_pos (nI_lt h (by omega)), Nat.min_eq_right (by omega)]
  · rw [if_neg (nI_nlt (by omega) (by omega)), Nat.min_eq_left (by omega)]
theorem kmax_n {x y : Nat} (hx : x < 2147483648) (hy : y < 2147483648) : kmax32 (nI x) (nI y) = nI (max x y) := by
  unfold kmax32
  by_cases h : x < y
  · rw [if_pos (nI_lt h (by omega)), Nat.max_eq_right (by omega)]
  · rw [if_neg (nI_nlt (by omega) (by omega)), Nat.max_eq_left (by omega)]
theorem kst9 {a : Nat} (h : kshp a = some (.inl 9)) : a = 13 ∨ a = 26 ∨ (39 ≤ a ∧ a ≤ 49 ∧ (a - 39) % 5 = 0) ∨ (67 ≤ a ∧ a ≤ 142 ∧ (a - 67) % 5 = 0) ∨ (153 ≤ a ∧ a ≤ 177 ∧ (a - 153) % 8 = 0) := by
  have := kad9 h
  omega
/-- two States lie apart -/
theorem koff9 {a b : Nat} (ha : kshp a = some (.inl 9)) (hb : kshp b = some (.inl 9)) (h : a ≠ b) : a + 4 < b ∨ b + 4 < a := by
  have h1 := kst9 ha
  have h2 := kst9 hb
  omega
section CHOLD
variable {xs : List Int32} {a b b2 : Nat} {I I' : Nat → Nat → Int32} {J : Nat → Nat → Int64} {rf : Nat → Nat} {g : Nat} {r : aRl} {s : aSt}
/-- State.copyOf -/
theorem sp87e (ha : kshp a = some (.inl 9)) (hb : kshp b = some (.inl 9)) (hab : a ≠ b) (hs : cSt I b s) : ∃ I', cSt I' a s ∧ (∀ x k, x < a ∨ a + 4 < x → I' x k = I x k) ∧ ∀ d R, kX xs (d + 1) 87 0 [some (.ref a), some (.ref b)] [] (kmm I J rf g) R = R none (kmm I' J rf g) := by
  have h := koff9 ha hb hab
  have cpn : ∀ (I : Nat → Nat → Int32) (x y n u k : Nat), u ≠ y → kcp I x y n u k = I u k := fun I x y n u k hu => if_neg (fun q => hu q.1)
  have cps : ∀ (I : Nat → Nat → Int32) (x y n k : Nat), k < n → kcp I x y n y k = I x k := fun I x y n k hk => if_pos ⟨rfl, hk⟩
  refine ⟨kcpS I a b, ⟨?_, ?_, fun k hk => ?_, fun k hk => ?_, fun k hk => ?_, fun k hk => ?_⟩, fun x k hx => ?_, fun d R => sp87 ha hb⟩
  · unfold kcpS
    rw [cpn _ _ _ _ _ _ (by omega), cpn _ _ _ _ _ _ (by omega), cpn _ _ _ _ _ _ (by omega), cpn _ _ _ _ _ _ (by omega), ku_nek (by omega), ku_same, hs.nx]
  · unfold kcpS
    rw [cpn _ _ _ _ _ _ (by omega), cpn _ _ _ _ _ _ (by omega), cpn _ _ _ _ _ _ (by omega), cpn _ _ _ _ _ _ (by omega), ku_same, ku_nek (by omega), hs.rd]
  · unfold kcpS
    rw [cpn _ _ _ _ _ _ (by omega), cpn _ _ _ _ _ _ (by omega), cpn _ _ _ _ _ _ (by omega), cps _ _ _ _ _ hk, ku_nea (by omega), ku_nea (by omega), hs.hd k hk]
  · unfold kcpS
    rw [cpn _ _ _ _ _ _ (by omega), cpn _ _ _ _ _ _ (by omega), cps _ _ _ _ _ hk, cpn _ _ _ _ _ _ (by omega), ku_nea (by omega), ku_nea (by omega), hs.up k hk]
  · unfold kcpS
    rw [cpn _ _ _ _ _ _ (by omega), cps _ _ _ _ _ hk, cpn _ _ _ _ _ _ (by omega), cpn _ _ _ _ _ _ (by omega), ku_nea (by omega), ku_nea (by omega), hs.ln k hk]
  · unfold kcpS
    rw [cps _ _ _ _ _ hk, cpn _ _ _ _ _ _ (by omega), cpn _ _ _ _ _ _ (by omega), cpn _ _ _ _ _ _ (by omega), ku_nea (by omega), ku_nea (by omega), hs.ch k hk]
  · unfold kcpS
    rw [cpn _ _ _ _ _ _ (by omega), cpn _ _ _ _ _ _ (by omega), cpn _ _ _ _ _ _ (by omega), cpn _ _ _ _ _ _ (by omega), ku_nea (by omega), ku_nea (by omega)]
/-- the day that was held: who sat, and whose each gets -/
abbrev cDealt (I : Nat → Nat → Int32) (r : aRl) (s : aSt) : Prop := (cDay I r s s.nx) ∧ (∀ p, p < dM r s s.nx → I 57 p = nI (dS r s p))
theorem cDealt.day {I : Nat → Nat → Int32} {r : aRl} {s : aSt} (h : cDealt I r s) : cDay I r s s.nx := h.1
theorem cDealt.so {I : Nat → Nat → Int32} {r : aRl} {s : aSt} (h : cDealt I r s) : ∀ p, p < dM r s s.nx → I 57 p = nI (dS r s p) := h.2
theorem dM7 (vr : vRl r) (s : aSt) (day : Nat) : dM r s day ≤ 7 := by
  have := dM_le r s day
  have := vr.j
  omega
theorem dH7 (vr : vRl r) {s : aSt} {day p : Nat} (hp : p < dM r s day) : dH r s day p < r.nc ∧ dH r s day p < 7 := by
  have := (hH_at s.up day r.nj r.nc p hp).1
  have := vr.c
  unfold dH
  omega
theorem dS_lt {r : aRl} {s : aSt} {p : Nat} (hp : p < dM r s s.nx) : dS r s p < dM r s s.nx := dSr_lt hp
/-- Sitting.holdNext -/
theorem sp65e (ha : kshp a = some (.inl 6)) (hb : kshp b = some (.inl 9)) (vr : vRl r) (vs : vSt r s) (hr : cRl I a r) (hs : cSt I b s) : ∃ I', cDealt I' r s ∧ cSt I' b (pass r s) ∧ (∀ x k, x < 54 ∨ 61 < x → x ≠ a + 7 → x < b ∨ b + 4 < x → I' x k = I x k) ∧ ∀ d R, kX xs (d + 4) 65 0 [some (.ref 54), some (.ref a), some (.ref b), none] [] (kmm I J rf g) R = R none (kmm I' J rf g) := by
  obtain ⟨o1, o2, o3⟩ := koff ha hb
  have hm7 := dM7 vr s s.nx
  have r5 := (kar6 ha).2.2.2.2.1
  obtain ⟨I1, d1, f1, e1⟩ := sp64e (xs := xs) (J := J) (rf := rf) (g := g) ha hb vr vs hr hs vs.nx
  have hr1 : cRl I1 a r := hr.keep (fun x k h1 h2 => f1 x k (by omega))
  have hs1 : cSt I1 b s := hs.keep (fun x k h1 h2 => f1 x k (by omega))
  obtain ⟨I2, s2, f2, e2⟩ := sp67e (xs := xs) (J := J) (rf := rf) (g := g) ha hb vr vs hr1 hs1 hm7 d1.m
  have hs2 : cSt I2 b s := hs1.keep (fun x k h1 h2 => f2 x k (by omega) (by omega) (by omega))
  have d2 : cDay I2 r s s.nx := d1.keep (funext fun k => f2 54 k (by omega) (by omega) (by omega)) (funext fun k => f2 55 k (by omega) (by omega) (by omega)) (funext fun k => f2 56 k (by omega) (by omega) (by omega)) (funext fun k => f2 58 k (by omega) (by omega) (by omega))
  have L : ∃ I3, ((∀ x k, x ≠ b + 1 → I3 x k = I2 x k) ∧ ∀ t, t < 7 → I3 (b + 1) t = nI (hF s.hd (dH r s s.nx) (fun p => dA r s s.nx (dS r s p)) (dM r s s.nx) t)) ∧ (fun (d : Nat) (R : Option Value → KW → Prop) => kX xs (d + 2) 65 21 [some (.ref 54), none, some (.ref b), some (.int (nI 0))] [] (kmm I2 J rf g) R) = (fun d R => kX xs (d + 2) 65 21 [some (.ref 54), none, some (.ref b), some (.int (nI (dM r s s.nx)))] [] (kmm I3 J rf g) R) := by
    refine kloop (n := dM r s s.nx) (s0 := I2) (fun i I3 => (∀ x k, x ≠ b + 1 → I3 x k = I2 x k) ∧ ∀ t, t < 7 → I3 (b + 1) t = nI (hF s.hd (dH r s s.nx) (fun p => dA r s s.nx (dS r s p)) i t)) (fun i I3 => fun (d : Nat) (R : Option Value → KW → Prop) => kX xs (d + 2) 65 21 [some (.ref 54), none, some (.ref b), some (.int (nI i))] [] (kmm I3 J rf g) R) ⟨fun _ _ _ => rfl, hs2.hd⟩ ?_
    intro i I3 hi ⟨g1, g2⟩
    obtain ⟨q1, q2⟩ := dH7 vr hi
    have q3 := dS_lt (r := r) (s := s) hi
    have q4 := hF_le (h := dH r s s.nx) (A := fun p => dA r s s.nx (dS r s p)) vs.hd i _ q2
    have q5 := dA_le r s s.nx (dS r s i)
    refine ⟨ku I3 (b + 1) (dH r s s.nx i) (nI (min (hF s.hd (dH r s s.nx) (fun p => dA r s s.nx (dS r s p)) i (dH r s s.nx i) + dA r s s.nx (dS r s i)) 9999)), ⟨fun x k hx => by rw [ku_nea hx, g1 x k hx], fun t ht => ?_⟩, ?_⟩
    · rw [hF]
      by_cases he : t = dH r s s.nx i
      · rw [he, ku_same, ku1_s]
      · rw [ku_nek he, ku1_n he, g2 t ht]
    · funext d R
      have hso : I2 57 i = nI (dS r s i) := s2 i hi
      rw [B65_21, kg8_0, kO_s, g1 54 0 (by omega), d2.m, if_pos (nI_lt hi (by omega)), B65_29, kg8_1, kO_s, ka55 (by omega), kO_s, g1 55 i (by omega), d2.h i hi, kg8_2, kO_s, kg8_3, kO_s, ka57 (by omega), kO_s, g1 57 i (by omega), hso, ka56 (by omega), kO_s, g1 56 _ (by omega), d2.a _ q3, krecv_m hb, kcond_t, sp92 hb q2, kpush_n, B65_50, nI_add1, g2 _ q2, nI_add, kmin_n (by omega) (by omega)]
  obtain ⟨I3, ⟨g1, g2⟩, e3⟩ := L
  have h30 : I3 b 0 = nI s.nx := by rw [g1 b 0 (by omega), hs2.nx]
  have h31 : I3 b 1 = s.rd := by rw [g1 b 1 (by omega), hs2.rd]
  have hnx := vs.nx
  refine ⟨if I3 b 0 + 1 < 4 then ku I3 b 0 (I3 b 0 + 1) else ku (ku (ku I3 b 0 (I3 b 0 + 1)) b 0 0) b 1 (I3 b 1 + 1), ?_, ?_, ?_, fun d R => ?_⟩
  · have hk : ∀ x k, x ≠ b → x ≠ b + 1 → (if I3 b 0 + 1 < 4 then ku I3 b 0 (I3 b 0 + 1) else ku (ku (ku I3 b 0 (I3 b 0 + 1)) b 0 0) b 1 (I3 b 1 + 1)) x k = I2 x k := by
      intro x k h1 h2
      split
      · rw [ku_nea h1, g1 x k h2]
      · rw [ku_nea h1, ku_nea h1, ku_nea h1, g1 x k h2]
    exact ⟨d2.keep (funext fun k => hk 54 k (by omega) (by omega)) (funext fun k => hk 55 k (by omega) (by omega)) (funext fun k => hk 56 k (by omega) (by omega)) (funext fun k => hk 58 k (by omega) (by omega)), fun p hp => by rw [hk 57 p (by omega) (by omega)]; exact s2 p hp⟩
  · rw [h30, h31, n_4, nI_add1]
    by_cases h3 : s.nx = 3
    · rw [if_neg (nI_nlt (by omega) (by omega))]
      refine ⟨?_, ?_, fun k hk => ?_, fun k hk => ?_, fun k hk => ?_, fun k hk => ?_⟩
      · rw [ku_nek (by omega), ku_same]
        show (0 : Int32) = nI ((s.nx + 1) % 4)
        rw [h3]
        rfl
      · rw [ku_same]
        show s.rd + 1 = if s.nx = 3 then s.rd + 1 else s.rd
        rw [if_pos h3]
      · rw [ku_nea (by omega), ku_nea (by omega), ku_nea (by omega), g2 k hk]; rfl
      · rw [ku_nea (by omega), ku_nea (by omega), ku_nea (by omega), g1 _ _ (by omega), hs2.up k hk]; rfl
      · rw [ku_nea (by omega), ku_nea (by omega), ku_nea (by omega), g1 _ _ (by omega), hs2.ln k hk]; rfl
      · rw [ku_nea (by omega), ku_nea (by omega), ku_nea (by omega), g1 _ _ (by omega), hs2.ch k hk]; rfl
    · rw [if_pos (nI_lt (by omega) (by omega))]
      refine ⟨?_, ?_, fun k hk => ?_, fun k hk => ?_, fun k hk => ?_, fun k hk => ?_⟩
      · rw [ku_same]
        show nI (s.nx + 1) = nI ((s.nx + 1) % 4)
        rw [Nat.mod_eq_of_lt (by omega)]
      · rw [ku_nek (by omega), h31]
        show s.rd = if s.nx = 3 then s.rd + 1 else s.rd
        rw [if_neg h3]
      · rw [ku_nea (by omega), g2 k hk]; rfl
      · rw [ku_nea (by omega), g1 _ _ (by omega), hs2.up k hk]; rfl
      · rw [ku_nea (by omega), g1 _ _ (by omega), hs2.ln k hk]; rfl
      · rw [ku_nea (by omega), g1 _ _ (by omega), hs2.ch k hk]; rfl
  · intro x k h1 h2 h3
    split
    · rw [ku_nea (by omega), g1 x k (by omega), f2 x k (by omega) (by omega) h2, f1 x k h1]
    · rw [ku_nea (by omega), ku_nea (by omega), ku_nea (by omega), g1 x k (by omega), f2 x k (by omega) (by omega) h2, f1 x k h1]
  · have hmm : I3 54 0 = nI (dM r s s.nx) := by rw [g1 54 0 (by omega), d2.m]
    rw [B65_0, kg9_0 hb, kO_s, hs.nx, krecv_m ks54, kcond_t, e1, kpush_n, B65_10, kg6_6 ha, kO_s, krecv_m ks54, kcond_t, e2, kpush_n, B65_19, n_0, congrFun (congrFun e3 (d + 2)) R, B65_21, kg8_0, kO_s, hmm, if_neg (nI_nlt (Nat.le_refl _) (by omega)), B65_56, krecv_m hb, kcond_t, sp93 hb, kpush_n, B65_60]
    rfl
end CHOLD
