/-! the day at the class's side -/
abbrev cSt (I : Nat → Nat → Int32) (b : Nat) (s : aSt) : Prop := (I b 0 = nI s.nx) ∧ (I b 1 = s.rd) ∧ (∀ k, k < 7 → I (b + 1) k = nI (s.hd k)) ∧ (∀ k, k < 7 → I (b + 2) k = nI (s.up k)) ∧ (∀ k, k < 7 → I (b + 3) k = nI (s.ln k)) ∧ (∀ k, k < 7 → I (b + 4) k = nI (s.ch k))
theorem cSt.nx {I : Nat → Nat → Int32} {b : Nat} {s : aSt} (h : cSt I b s) : I b 0 = nI s.nx := h.1
theorem cSt.rd {I : Nat → Nat → Int32} {b : Nat} {s : aSt} (h : cSt I b s) : I b 1 = s.rd := h.2.1
theorem cSt.hd {I : Nat → Nat → Int32} {b : Nat} {s : aSt} (h : cSt I b s) : ∀ k, k < 7 → I (b + 1) k = nI (s.hd k) := h.2.2.1
theorem cSt.up {I : Nat → Nat → Int32} {b : Nat} {s : aSt} (h : cSt I b s) : ∀ k, k < 7 → I (b + 2) k = nI (s.up k) := h.2.2.2.1
theorem cSt.ln {I : Nat → Nat → Int32} {b : Nat} {s : aSt} (h : cSt I b s) : ∀ k, k < 7 → I (b + 3) k = nI (s.ln k) := h.2.2.2.2.1
theorem cSt.ch {I : Nat → Nat → Int32} {b : Nat} {s : aSt} (h : cSt I b s) : ∀ k, k < 7 → I (b + 4) k = nI (s.ch k) := h.2.2.2.2.2
def enc (o a : Nat) : Int32 := if o = 1 then nI a else if o = 2 then -1 - nI a else if o = 3 then -10 else if o = 4 then -15 else if o = 5 then -16 else if o = 6 then -17 else if o = 7 then -13 else if o = 8 then -14 else if o = 9 then -11 else -12
abbrev cRl (I : Nat → Nat → Int32) (a : Nat) (r : aRl) : Prop := (I a 0 = nI r.nj) ∧ (I a 1 = nI r.nc) ∧ (∀ k, k < 7 → I (a + 3) k = nI (r.kd k)) ∧ (∀ k, k < 7 → I (a + 4) k = nI (r.gu k)) ∧ (I (a + 5) 0 = nI r.ll) ∧ (∀ n, n < r.ll → I (a + 5 + 1) n = enc (r.lo n) (r.la n))
theorem cRl.nj {I : Nat → Nat → Int32} {a : Nat} {r : aRl} (h : cRl I a r) : I a 0 = nI r.nj := h.1
theorem cRl.nc {I : Nat → Nat → Int32} {a : Nat} {r : aRl} (h : cRl I a r) : I a 1 = nI r.nc := h.2.1
theorem cRl.kd {I : Nat → Nat → Int32} {a : Nat} {r : aRl} (h : cRl I a r) : ∀ k, k < 7 → I (a + 3) k = nI (r.kd k) := h.2.2.1
theorem cRl.gu {I : Nat → Nat → Int32} {a : Nat} {r : aRl} (h : cRl I a r) : ∀ k, k < 7 → I (a + 4) k = nI (r.gu k) := h.2.2.2.1
theorem cRl.ll {I : Nat → Nat → Int32} {a : Nat} {r : aRl} (h : cRl I a r) : I (a + 5) 0 = nI r.ll := h.2.2.2.2.1
theorem cRl.lc {I : Nat → Nat → Int32} {a : Nat} {r : aRl} (h : cRl I a r) : ∀ n, n < r.ll → I (a + 5 + 1) n = enc (r.lo n) (r.la n) := h.2.2.2.2.2
/-- who sits, and what is given -/
abbrev cDay (I : Nat → Nat → Int32) (r : aRl) (s : aSt) (day : Nat) : Prop := (I 54 0 = nI (dM r s day)) ∧ (∀ p, p < dM r s day → I 55 p = nI (dH r s day p)) ∧ (∀ p, p < dM r s day → I 56 p = nI (dA r s day p)) ∧ (∀ t, t < r.nc → I 58 t = if s.up t = day ∧ hC s.up day r.nj t < r.nj then nI (hC s.up day r.nj t) else -1)
theorem cDay.m {I : Nat → Nat → Int32} {r : aRl} {s : aSt} {day : Nat} (h : cDay I r s day) : I 54 0 = nI (dM r s day) := h.1
theorem cDay.h {I : Nat → Nat → Int32} {r : aRl} {s : aSt} {day : Nat} (h : cDay I r s day) : ∀ p, p < dM r s day → I 55 p = nI (dH r s day p) := h.2.1
theorem cDay.a {I : Nat → Nat → Int32} {r : aRl} {s : aSt} {day : Nat} (h : cDay I r s day) : ∀ p, p < dM r s day → I 56 p = nI (dA r s day p) := h.2.2.1
theorem cDay.pl {I : Nat → Nat → Int32} {r : aRl} {s : aSt} {day : Nat} (h : cDay I r s day) : ∀ t, t < r.nc → I 58 t = if s.up t = day ∧ hC s.up day r.nj t < r.nj then nI (hC s.up day r.nj t) else -1 := h.2.2.2
section CDAY
variable {xs : List Int32} {a b : Nat} {I I' : Nat → Nat → Int32} {J : Nat → Nat → Int64} {rf : Nat → Nat} {g : Nat} {r : aRl} {s : aSt}
theorem cSt.keep (h : cSt I b s) (hI : ∀ x k, b ≤ x → x ≤ b + 4 → I' x k = I x k) : cSt I' b s :=
  ⟨by rw [hI b 0 (by omega) (by omega), h.nx], by rw [hI b 1 (by omega) (by omega), h.rd], fun k hk => by rw [hI (b + 1) k (by omega) (by omega), h.hd k hk], fun k hk => by rw [hI (b + 2) k (by omega) (by omega), h.up k hk], fun k hk => by rw [hI (b + 3) k (by omega) (by omega), h.ln k hk], fun k hk => by rw [hI (b + 4) k (by omega) (by omega), h.ch k hk]⟩
theorem cRl.keep (h : cRl I a r) (hI : ∀ x k, a ≤ x → x ≤ a + 6 → I' x k = I x k) : cRl I' a r :=
  ⟨by rw [hI a 0 (by omega) (by omega), h.nj], by rw [hI a 1 (by omega) (by omega), h.nc], fun k hk => by rw [hI (a + 3) k (by omega) (by omega), h.kd k hk], fun k hk => by rw [hI (a + 4) k (by omega) (by omega), h.gu k hk], by rw [hI (a + 5) 0 (by omega) (by omega), h.ll], fun k hk => by rw [hI (a + 5 + 1) k (by omega) (by omega), h.lc k hk]⟩
theorem cDay.keep {day : Nat} (h : cDay I r s day) (h1 : I' 54 = I 54) (h2 : I' 55 = I 55) (h3 : I' 56 = I 56) (h4 : I' 58 = I 58) : cDay I' r s day :=
  ⟨by rw [h1, h.m], fun p hp => by rw [h2, h.h p hp], fun p hp => by rw [h3, h.a p hp], fun t ht => by rw [h4, h.pl t ht]⟩
/-- a State lies off the sitting and off a Roll's law -/
theorem koff (ha : kshp a = some (.inl 6)) (hb : kshp b = some (.inl 9)) : (b + 4 < 54 ∨ 61 < b) ∧ (b + 4 < a ∨ a + 7 < b) ∧ a + 12 < 54 := by
  rcases kad6 ha with rfl | rfl <;> (have := kad9 hb; omega)
/-! the law -/
theorem enc2 {k : Nat} (h : k ≤ 3) : (-10 : Int32) < enc 2 k ∧ enc 2 k < 0 ∧ ∀ n1 n2 n3 n4, kfact (enc 2 k) n1 n2 n3 n4 = fct k n1 n2 n3 n4 := by
  rcases (by omega : k = 0 ∨ k = 1 ∨ k = 2 ∨ k = 3) with rfl | rfl | rfl | rfl
  all_goals exact ⟨by decide, by decide, fun _ _ _ _ => rfl⟩
theorem enc4 {o k : Nat} (h : 4 ≤ o) (h2 : o ≤ 10) : ¬ (-10 : Int32) < enc o k ∧ ¬ enc o k = -10 ∧ ∀ x y, kjoin (enc o k) x y = jn o x y := by
  rcases (by omega : o = 4 ∨ o = 5 ∨ o = 6 ∨ o = 7 ∨ o = 8 ∨ o = 9 ∨ o = 10) with rfl | rfl | rfl | rfl | rfl | rfl | rfl
  all_goals exact ⟨by simp [enc], by simp [enc], fun _ _ => rfl⟩
theorem ku_kuf {T : Nat → Nat → Int32} {S : Nat → Int32} {c h k : Nat} {v : Int32} (e : ∀ i, i < h → T c i = S i) : ∀ i, i < h ∨ i = k → ku T c k v c i = kuf S k v i := by
  intro i hi
  by_cases hk : i = k
  · rw [hk, ku_same, kuf_s]
  · rw [ku_nek hk, kuf_n hk, e i (by omega)]
theorem kte_l {n1 n2 n3 n4 : Int32} (hw : lwf r) (hc : ∀ n, n < r.ll → I (a + 1) n = enc (r.lo n) (r.la n)) : ∀ n, n ≤ r.ll → (kte I a n1 n2 n3 n4 n).1 = lH r.lo n ∧ ∀ i, i < lH r.lo n → (kte I a n1 n2 n3 n4 n).2 (a + 2) i = lS r.lo r.la n1 n2 n3 n4 n i := by
  intro n
  induction n with
  | zero => intro _; exact ⟨rfl, fun i hi => absurd hi (by simp [lH])⟩
  | succ n ih =>
    intro hn
    obtain ⟨e1, e2⟩ := ih (by omega)
    have c := hc n (by omega)
    have ho := hw.op n (by omega)
    have hhi := hw.hi n (by omega)
    have hs := kte.eq_2 I a n1 n2 n3 n4 n
    rw [c] at hs
    generalize kte I a n1 n2 n3 n4 (n + 1) = T1 at hs ⊢
    generalize kte I a n1 n2 n3 n4 n = T at *
    by_cases o1 : r.lo n = 1
    · have hu := hw.nu n (by omega) o1
      have hx : enc (r.lo n) (r.la n) = nI (r.la n) := by rw [o1]; rfl
      have hl : (-10 : Int32) < nI (r.la n) := by
        rw [Int32.lt_iff_toInt_lt, nI_toInt (by omega)]
        have : (-10 : Int32).toInt = -10 := by decide
        omega
      rw [hx, if_pos hl, if_pos (by omega), if_neg (nI_pos (by omega)), e1] at hs
      rw [hs, lH, lS, if_pos (Or.inl o1), if_pos o1]
      exact ⟨rfl, fun i hi => ku_kuf e2 i (by omega)⟩
    by_cases o2 : r.lo n = 2
    · have hu := hw.fc n (by omega) o2
      obtain ⟨q1, q2, q3⟩ := enc2 hu
      rw [o2, if_pos q1, if_pos (by omega), if_pos q2, q3, e1] at hs
      rw [hs, lH, lS, if_pos (Or.inr o2), if_neg o1, if_pos o2]
      exact ⟨rfl, fun i hi => ku_kuf e2 i (by omega)⟩
    by_cases o3 : r.lo n = 3
    · have hu := hw.h1 n (by omega) o3
      rw [o3, show enc 3 (r.la n) = -10 from rfl, if_neg (by decide), if_pos rfl, if_pos (by omega), e1, e2 _ (by omega)] at hs
      rw [hs, lH, lS, if_neg (show ¬ (r.lo n = 1 ∨ r.lo n = 2) by omega), if_pos o3, if_neg o1, if_neg o2, if_pos o3]
      exact ⟨rfl, fun i hi => ku_kuf e2 i (by omega)⟩
    · have hu := hw.h2 n (by omega) (by omega)
      obtain ⟨q1, q2, q3⟩ := enc4 (o := r.lo n) (k := r.la n) (by omega) ho.2
      rw [if_neg q1, if_neg q2, if_pos (by omega), q3, e1, e2 _ (by omega), e2 _ (by omega)] at hs
      rw [hs, lH, lS, if_neg (show ¬ (r.lo n = 1 ∨ r.lo n = 2) by omega), if_neg o3, if_neg o1, if_neg o2, if_neg o3]
      exact ⟨rfl, fun i hi => ku_kuf e2 i (by omega)⟩
/-- Law.tells -/
theorem sp2e (ha : kshp a = some (.inl 0)) (hw : lwf r) (e0 : I a 0 = nI r.ll) (hc : ∀ n, n < r.ll → I (a + 1) n = enc (r.lo n) (r.la n)) (n1 n2 n3 n4 : Int32) : ∃ I', (∀ x k, x ≠ a + 2 → I' x k = I x k) ∧ ∀ d R, kX xs (d + 1) 2 0 [some (.ref a), some (.int n1), some (.int n2), some (.int n3), some (.int n4), none, none, none] [] (kmm I J rf g) R = R (some (.int (lv r n1 n2 n3 n4))) (kmm I' J rf g) := by
  refine ⟨(kte I a n1 n2 n3 n4 r.ll).2, fun x k hx => kte_out hx _, fun d R => ?_⟩
  rw [sp2 ha e0 hw.len]
  obtain ⟨q1, q2⟩ := kte_l (n1 := n1) (n2 := n2) (n3 := n3) (n4 := n4) hw hc r.ll (Nat.le_refl _)
  unfold lv
  by_cases h0 : r.ll = 0
  · rw [if_pos h0, if_neg (by rw [q1, h0]; simp [lH])]
  · have := hw.en (by omega)
    rw [if_neg h0, if_pos (by omega), q2 0 (by omega)]
/-! sitOn -/
theorem hN_hC {day nj : Nat} (hu : ∀ k, k < 7 → I (b + 2) k = nI (s.up k)) (hs : ∀ k, k < 7 → s.up k < 4) (hd : day < 4) : ∀ t, t ≤ 7 → hN (I (b + 2)) (nI day) nj t = hC s.up day nj t := by
  intro t
  induction t with
  | zero => intro _; rfl
  | succ t ih =>
    intro ht
    have hs' := hs t (by omega)
    rw [hN, hC, ih (by omega), hu t (by omega)]
    simp (disch := omega) only [nI_inj]
theorem kst_day {day : Nat} (vr : vRl r) (vs : vSt r s) (hr : cRl I a r) (hs : cSt I b s) (hd : day < 4) : ∀ t, t ≤ r.nc → (∀ p, p < hC s.up day r.nj t → kst I a b (nI day) r.nj t 55 p = nI (hH s.up day r.nj t p) ∧ kst I a b (nI day) r.nj t 56 p = nI (gvn r s p (hH s.up day r.nj t p))) ∧ (∀ u, u < t → kst I a b (nI day) r.nj t 58 u = if s.up u = day ∧ hC s.up day r.nj u < r.nj then nI (hC s.up day r.nj u) else -1) := by
  intro t
  induction t with
  | zero => intro _; exact ⟨fun p hp => absurd hp (by simp [hC]), fun u hu => absurd hu (by omega)⟩
  | succ t ih =>
    intro ht
    obtain ⟨i1, i2⟩ := ih (by omega)
    have hc := vr.c
    have hj := vr.j
    have hu := vs.up t (by omega)
    have e := hN_hC (nj := r.nj) hs.up vs.up hd t (by omega)
    have hle := hC_le s.up day r.nj t
    rw [kst, hC, hH, e, hs.up t (by omega)]
    simp (disch := omega) only [nI_inj]
    by_cases hq : s.up t = day ∧ hC s.up day r.nj t < r.nj
    · rw [if_pos hq, if_pos hq, if_pos hq]
      have c1 := hs.ch (hC s.up day r.nj t) (by omega)
      have c2 := vs.ch (hC s.up day r.nj t) (by omega)
      have ev : kgv I a b (hC s.up day r.nj t) t = nI (gvn r s (hC s.up day r.nj t) t) := by
        unfold kgv gvn
        rw [c1, nI_clamp (by omega), hr.kd _ c2, hr.gu t (by omega), hs.ln _ c2, kverd_vd (vr.kd _ c2) (vr.gu t (by omega)) (vs.ln _ c2)]
      rw [ev]
      refine ⟨fun p hp => ?_, fun u hu2 => ?_⟩
      · by_cases hpe : p = hC s.up day r.nj t
        · rw [hpe, ku1_s, ku_nea (by omega), ku_nea (by omega), ku_nea (by omega), ku_same, ku_nea (by omega), ku_nea (by omega), ku_same]
          exact ⟨rfl, rfl⟩
        · rw [ku1_n hpe, ku_nea (by omega), ku_nea (by omega), ku_nea (by omega), ku_nek hpe, ku_nea (by omega), ku_nea (by omega), ku_nea (by omega), ku_nek hpe, ku_nea (by omega), ku_nea (by omega)]
          exact i1 p (by omega)
      · rw [ku_nea (by omega)]
        by_cases hue : u = t
        · rw [hue, ku_same, if_pos hq]
        · rw [ku_nek hue, ku_nea (by omega), ku_nea (by omega), ku_nek hue]
          exact i2 u (by omega)
    · rw [if_neg hq, if_neg hq, if_neg hq]
      refine ⟨fun p hp => ?_, fun u hu2 => ?_⟩
      · rw [ku_nea (by omega), ku_nea (by omega)]
        exact i1 p hp
      · by_cases hue : u = t
        · rw [hue, ku_same, if_neg hq]
        · rw [ku_nek hue]
          exact i2 u (by omega)
/-- Sitting.sitOn -/
theorem sp64e (ha : kshp a = some (.inl 6)) (hb : kshp b = some (.inl 9)) (vr : vRl r) (vs : vSt r s) (hr : cRl I a r) (hs : cSt I b s) {day : Nat} (hd : day < 4) : ∃ I', cDay I' r s day ∧ (∀ x k, x < 54 ∨ 61 < x → I' x k = I x k) ∧ ∀ d R, kX xs (d + 3) 64 0 [some (.ref 54), some (.ref a), some (.ref b), some (.int (nI day)), none] [] (kmm I J rf g) R = R none (kmm I' J rf g) := by
  have hj := vr.j
  have hc := vr.c
  refine ⟨kst I a b (nI day) r.nj r.nc, ?_, fun x k hx => kst_out hx _, fun d R => ?_⟩
  · obtain ⟨q1, q2⟩ := kst_day vr vs hr hs hd r.nc (Nat.le_refl _)
    refine ⟨?_, fun p hp => (q1 p hp).1, fun p hp => (q1 p hp).2, fun t ht => q2 t ht⟩
    rw [kst_many, hN_hC hs.up vs.up hd r.nc hc]
    rfl
  · exact sp64 (C := s.ch) ha hb hj hc hr.nj hr.nc (fun k hk => ⟨hs.ch k (by omega), vs.cj k hk⟩)
end CDAY
