/-! assize of the model -/
section MA
variable {xs : List Int32} {d : Nat} {I I' I2 : Nat → Nat → Int32} {J J' J2 : Nat → Nat → Int64} {rf : Nat → Nat} {g : Nat} {R : Option Value → KW → Prop} {T : aTp} {s u L : aPS} {D D' : aDr}
theorem m_endA (vt : vTp T) (h : mPS I J T s) (hk : s.k ≤ nT T) (q : ¬ (s.F = 0 ∧ kdO T s ≠ 0)) : kX xs d 180 25 [some (.ref 185), none] [] (kmm I J rf g) R = kX xs d 180 57 [some (.ref 185), none] [] (kmm I J rf g) R := by
  have hn := (nT_ok T).1
  have hn2 := vt.n
  have ek := h.k
  rw [B180_25, kg12_8, kO_s]
  by_cases z : s.F = 0
  · have z2 : tK T (pT T s.k) = 0 := Classical.byContradiction (fun y => q ⟨z, y⟩)
    rw [if_pos ((mF0 h).mpr z), B180_32, kg12_4, kO_s, kg12_7, kO_s, ek, ka187 (by omega), kO_s, h.tk.s _ hk, z2, if_pos (by decide)]
  · rw [if_neg (fun y => z ((mF0 h).mp y))]
theorem srt_0 {K : Nat} (h : K ≠ 0) : ¬ nI (srt K) = 0 := fun z => by
  have e : (nI (srt K) = nI 0) = (srt K = 0) := srt_eq (by omega)
  have z2 := e.mp z
  unfold srt at z2
  rw [if_neg h] at z2
  revert z2
  repeat' split
  all_goals omega
theorem m_180l (vt : vTp T) : ∀ f I J s D L, vDr D → vLw s D → lInv L s D → mDr I J D → mPS I J T (sW s L) → s.k ≤ nT T → s.F = 0 → nT T ≤ s.k + f → ∃ I' J' L', mPS I' J' T (sW (rdA T f (s, D)).1 L') ∧ ((rdA T f (s, D)).1.F = 0 → mDr I' J' (rdA T f (s, D)).2 ∧ lInv L' (rdA T f (s, D)).1 (rdA T f (s, D)).2) ∧ mFa I I' ∧ nFa J J' ∧ ∀ d R, kX xs (d + 34) 180 25 [some (.ref 185), none] [] (kmm I J rf g) R = kX xs (d + 34) 180 57 [some (.ref 185), none] [] (kmm I' J' rf g) R := by
  intro f
  induction f with
  | zero =>
    intro I J s D L hv hw hL hd h hk hF hf
    have q : ¬ ((sW s L).F = 0 ∧ kdO T (sW s L) ≠ 0) := fun z => absurd (kdO_lt (s := s) hk z.2) (Nat.not_lt_of_le hf)
    exact ⟨I, J, L, h, fun _ => ⟨hd, hL⟩, mFa.refl, nFa.refl, fun d R => m_endA vt h hk q⟩
  | succ f ih =>
    intro I J s D L hv hw hL hd h hk hF hf
    have hn := (nT_ok T).1
    have hn2 := vt.n
    have hk1 : s.k < 1002 := Nat.lt_of_le_of_lt (Nat.le_trans hk (Nat.le_trans hn hn2)) (by decide)
    have e2 : rdA T (f + 1) (s, D) = if s.F = 0 ∧ kdO T s ≠ 0 then rdA T f (ayS T D s, ayD T D s) else (s, D) := rfl
    rw [e2]
    by_cases q : s.F = 0 ∧ kdO T s ≠ 0
    · rw [if_pos q]
      obtain ⟨I1, J1, L1, a1, a2, a3, a5, a4⟩ := m_linA (xs := xs) (rf := rf) (g := g) vt hv hw hL hd h hk hF q.2
      obtain ⟨k1, k2⟩ := kle_ayS (T := T) (D := D) hk hF
      have ek : I 185 7 = nI s.k := h.k
      have es : I 187 s.k = nI (srt (tK T (pT T s.k))) := h.tk.s _ hk
      have ent : ∀ d R, kX xs (d + 34) 180 25 [some (.ref 185), none] [] (kmm I J rf g) R = kX xs (d + 34) 180 25 [some (.ref 185), none] [] (kmm I1 J1 rf g) R := by
        intro d R
        rw [B180_25, kg12_8, kO_s, if_pos ((mF0 h).mpr hF), B180_32, kg12_4, kO_s, kg12_7, kO_s, ek, ka187 hk1, kO_s, es, if_neg (srt_0 (K := tK T (pT T s.k)) q.2), a4]
      by_cases z : (ayS T D s).F = 0
      · obtain ⟨I2, J2, L2, b1, b2, b3, b5, b4⟩ := ih I1 J1 _ _ L1 (ayD_v hv hF) (ayL vt hw hk hF z) (a2 z).2 (a2 z).1 a1 k1 z (Nat.le_trans hf (by rw [show s.k + (f + 1) = (s.k + 1) + f from (Nat.add_right_comm s.k 1 f).symm ▸ rfl]; exact Nat.add_le_add_right (k2 z) f))
        refine ⟨I2, J2, L2, b1, b2, a3.trans b3, a5.trans b5, fun d R => ?_⟩
        rw [ent]
        exact b4 d R
      · have e : rdA T f (ayS T D s, ayD T D s) = (ayS T D s, ayD T D s) := rdA_F z f
        rw [e]
        refine ⟨I1, J1, L1, a1, fun y => absurd y z, a3, a5, fun d R => ?_⟩
        rw [ent]
        exact m_endA vt a1 k1 (fun y => z y.1)
    · rw [if_neg q]
      exact ⟨I, J, L, h, fun _ => ⟨hd, hL⟩, mFa.refl, nFa.refl, fun d R => m_endA vt h hk q⟩
/-- standsAsAlways -/
theorem m_172 {b : Nat} (hb : b + 90 ≤ 180) : ∃ I', (∀ k, k < 90 → k ≠ 3 → I' 191 (b + k) = nI 0) ∧ I' 191 (b + 3) = -1 ∧ (∀ x k, ¬ (x = 191 ∧ b ≤ k ∧ k < b + 90) → I' x k = I x k) ∧ ∀ d R, kX xs d 172 0 [some (.ref 185), some (.int (nI b)), none] [] (kmm I J rf g) R = R none (kmm I' J rf g) := by
  have Lp : ∃ I2, ((∀ k, k < 90 → I2 191 (b + k) = nI 0) ∧ ∀ x k, ¬ (x = 191 ∧ b ≤ k ∧ k < b + 90) → I2 x k = I x k) ∧ (fun (d : Nat) (R : Option Value → KW → Prop) => kX xs d 172 2 [some (.ref 185), some (.int (nI b)), some (.int (nI 0))] [] (kmm I J rf g) R) = (fun d R => kX xs d 172 2 [some (.ref 185), some (.int (nI b)), some (.int (nI 90))] [] (kmm I2 J rf g) R) := by
    refine kloop (n := 90) (s0 := I) (fun i I2 => (∀ k, k < i → I2 191 (b + k) = nI 0) ∧ ∀ x k, ¬ (x = 191 ∧ b ≤ k ∧ k < b + 90) → I2 x k = I x k) (fun i I2 => fun (d : Nat) (R : Option Value → KW → Prop) => kX xs d 172 2 [some (.ref 185), some (.int (nI b)), some (.int (nI i))] [] (kmm I2 J rf g) R) ⟨fun k hk => by omega, fun _ _ _ => rfl⟩ ?_
    intro i I2 hi ⟨g1, g2⟩
    refine ⟨ku I2 191 (b + i) (nI 0), ⟨fun k hk => ?_, fun x k hx => by rw [ku_ne (by omega), g2 x k hx]⟩, ?_⟩
    · by_cases e : k = i
      · rw [e, ku_same]
      · rw [ku_nek (by omega), g1 k (by omega)]
    · funext d R
      rw [B172_2, c8_90, if_pos (nI_lt hi (by omega)), B172_8, kg12_10, kO_s, nI_add, kw191 (by omega), kO_s, nI_add1]
      rfl
  obtain ⟨I2, ⟨g1, g2⟩, e2⟩ := Lp
  refine ⟨ku I2 191 (b + 3) (-1), fun k hk h3 => by rw [ku_nek (by omega)]; exact g1 k hk, ku_same _ _ _ _, fun x k hx => by rw [ku_ne (by omega), g2 x k hx], fun d R => ?_⟩
  rw [B172_0]
  refine Eq.trans (congrFun (congrFun e2 d) R) ?_
  rw [B172_2, c8_90, if_neg (nI_nlt (Nat.le_refl _) (by omega)), B172_23, kg12_10, kO_s, n_3, nI_add, kw191 (by omega), kO_s]
theorem mDr_0 {kd gu : Nat → Nat} (h1 : ∀ k, k < 90 → k ≠ 3 → I 191 (90 + k) = nI 0) (h2 : I 191 93 = -1) (h3 : I 185 19 = nI 0) : mDr I J (dr0 kd gu) := by
  refine ⟨h1 0 (by omega) (by omega), h1 1 (by omega) (by omega), h1 2 (by omega) (by omega), h2, fun k hk => absurd hk (Nat.not_lt_zero k), fun k hk => absurd hk (Nat.not_lt_zero k), fun k hk => ?_, fun k hk => absurd hk (Nat.not_lt_zero k), fun k hk => absurd hk (Nat.not_lt_zero k), fun k hk => absurd hk (Nat.not_lt_zero k), fun k hk => absurd hk (Nat.not_lt_zero k), fun _ => 0, fun _ => 0, h3, ⟨fun k hk => absurd hk (Nat.not_lt_zero k), fun k hk => absurd hk (Nat.not_lt_zero k), fun k hk => absurd hk (Nat.not_lt_zero k)⟩, fun k hk => absurd hk (Nat.not_lt_zero k), fun k hk => absurd hk (Nat.not_lt_zero k)⟩
  have := h1 (4 + 3 * k + 2) (by omega) (by omega)
  rw [show 94 + 3 * k + 2 = 90 + (4 + 3 * k + 2) by omega]
  exact this
/-- what was read is told -/
theorem m_copy {q n : Nat} (hq : q ≤ 1001) (hn : n ≤ 14) (e13 : I 185 13 = nI q) (e19 : I 185 19 = nI n) : ∃ I' J', (∀ k, k < 90 → I' 191 k = I 191 (90 + k)) ∧ (∀ k, k < q → I' 192 k = I 192 (1100 + k) ∧ I' 193 k = I 193 (1100 + k)) ∧ (∀ k, k < n → J' 194 k = J 195 k ∧ I' 196 k = I 197 k) ∧ I' 185 18 = nI n ∧ (∀ x k, ¬ (x = 191 ∧ k < 90) → ¬ (x = 192 ∧ k < 1100) → ¬ (x = 193 ∧ k < 1100) → x ≠ 196 → ¬ (x = 185 ∧ k = 18) → I' x k = I x k) ∧ (∀ x k, x ≠ 194 → J' x k = J x k) ∧ ∀ d R, kX xs (d + 1) 180 69 [some (.ref 185), none] [] (kmm I J rf g) R = kX xs d 197 0 [some (.ref 185), none] [] (kmm I' J' rf g) (fun r w' => kX xs (d + 1) 180 198 [none, none] (kpush r []) w' R) := by
  have L1 : ∃ I2, ((∀ k, k < 90 → I2 191 k = I 191 (90 + k)) ∧ ∀ x k, ¬ (x = 191 ∧ k < 90) → I2 x k = I x k) ∧ (fun (d : Nat) (R : Option Value → KW → Prop) => kX xs d 180 71 [some (.ref 185), some (.int (nI 0))] [] (kmm I J rf g) R) = (fun d R => kX xs d 180 71 [some (.ref 185), some (.int (nI 90))] [] (kmm I2 J rf g) R) := by
    refine kloop (n := 90) (s0 := I) (fun i I2 => (∀ k, k < i → I2 191 k = I 191 (90 + k)) ∧ ∀ x k, ¬ (x = 191 ∧ k < 90) → I2 x k = I x k) (fun i I2 => fun (d : Nat) (R : Option Value → KW → Prop) => kX xs d 180 71 [some (.ref 185), some (.int (nI i))] [] (kmm I2 J rf g) R) ⟨fun k hk => by omega, fun _ _ _ => rfl⟩ ?_
    intro i I2 hi ⟨g1, g2⟩
    refine ⟨ku I2 191 i (I 191 (90 + i)), ⟨fun k hk => ?_, fun x k hx => by rw [ku_ne (by omega), g2 x k hx]⟩, ?_⟩
    · by_cases e : k = i
      · rw [e, ku_same]
      · rw [ku_nek (by omega), g1 k (by omega)]
    · funext d R
      have e9 : I2 191 (90 + i) = I 191 (90 + i) := g2 _ _ (by omega)
      rw [B180_71, c8_90, if_pos (nI_lt hi (by omega)), B180_77, kg12_10, kO_s, kO_s, c8_90, nI_add, ka191 (by omega), kO_s, e9, kw191 (by omega), kO_s, nI_add1]
  obtain ⟨I2, ⟨g1, g2⟩, e2⟩ := L1
  have L2 : ∃ I3, ((∀ k, k < q → I3 192 k = I 192 (1100 + k) ∧ I3 193 k = I 193 (1100 + k)) ∧ ∀ x k, ¬ (x = 192 ∧ k < 1100) → ¬ (x = 193 ∧ k < 1100) → I3 x k = I2 x k) ∧ (fun (d : Nat) (R : Option Value → KW → Prop) => kX xs d 180 100 [some (.ref 185), some (.int (nI 0))] [] (kmm I2 J rf g) R) = (fun d R => kX xs d 180 100 [some (.ref 185), some (.int (nI q))] [] (kmm I3 J rf g) R) := by
    refine kloop (n := q) (s0 := I2) (fun i I3 => (∀ k, k < i → I3 192 k = I 192 (1100 + k) ∧ I3 193 k = I 193 (1100 + k)) ∧ ∀ x k, ¬ (x = 192 ∧ k < 1100) → ¬ (x = 193 ∧ k < 1100) → I3 x k = I2 x k) (fun i I3 => fun (d : Nat) (R : Option Value → KW → Prop) => kX xs d 180 100 [some (.ref 185), some (.int (nI i))] [] (kmm I3 J rf g) R) ⟨fun k hk => by omega, fun _ _ _ _ => rfl⟩ ?_
    intro i I3 hi ⟨k1, k2⟩
    refine ⟨ku (ku I3 192 i (I 192 (1100 + i))) 193 i (I 193 (1100 + i)), ⟨fun k hk => ?_, fun x k h1 h2 => by rw [ku_ne (by omega), ku_ne (by omega), k2 x k h1 h2]⟩, ?_⟩
    · by_cases e : k = i
      · rw [e, ku_same, ku_nea (by omega), ku_same]; exact ⟨rfl, rfl⟩
      · rw [ku_nek (by omega), ku_nek (by omega), ku_nek (by omega), ku_nek (by omega)]; exact k1 k (by omega)
    · funext d R
      have e13' : I3 185 13 = nI q := by rw [k2 _ _ (by omega) (by omega), g2 _ _ (by omega)]; exact e13
      have x1 : I3 192 (1100 + i) = I 192 (1100 + i) := by rw [k2 _ _ (by omega) (by omega), g2 _ _ (by omega)]
      have x2 : ku I3 192 i (I 192 (1100 + i)) 193 (1100 + i) = I 193 (1100 + i) := by rw [ku_nea (by omega), k2 _ _ (by omega) (by omega), g2 _ _ (by omega)]
      rw [B180_100, kg12_13, kO_s, e13', if_pos (nI_lt hi (by omega)), B180_108, kg12_11, kO_s, kO_s, c16_1100, nI_add, ka192 (by omega), kO_s, x1, kw192 (by omega), kO_s, kg12_12, kO_s, kO_s, ka193 (by omega), kO_s, x2, kw193 (by omega), kO_s, nI_add1]
  obtain ⟨I3, ⟨k1, k2⟩, e3⟩ := L2
  have L3 : ∃ s : (Nat → Nat → Int32) × (Nat → Nat → Int64), ((∀ k, k < n → s.2 194 k = J 195 k ∧ s.1 196 k = I 197 k) ∧ (∀ x k, x ≠ 196 → s.1 x k = I3 x k) ∧ ∀ x k, x ≠ 194 → s.2 x k = J x k) ∧ (fun (d : Nat) (R : Option Value → KW → Prop) => kX xs d 180 148 [some (.ref 185), some (.int (nI 0))] [] (kmm I3 J rf g) R) = (fun d R => kX xs d 180 148 [some (.ref 185), some (.int (nI n))] [] (kmm s.1 s.2 rf g) R) := by
    refine kloop (n := n) (s0 := (I3, J)) (fun i s => (∀ k, k < i → s.2 194 k = J 195 k ∧ s.1 196 k = I 197 k) ∧ (∀ x k, x ≠ 196 → s.1 x k = I3 x k) ∧ ∀ x k, x ≠ 194 → s.2 x k = J x k) (fun i s => fun (d : Nat) (R : Option Value → KW → Prop) => kX xs d 180 148 [some (.ref 185), some (.int (nI i))] [] (kmm s.1 s.2 rf g) R) ⟨fun k hk => by omega, fun _ _ _ => rfl, fun _ _ _ => rfl⟩ ?_
    intro i s hi ⟨p1, p2, p3⟩
    refine ⟨(ku s.1 196 i (I 197 i), ku s.2 194 i (J 195 i)), ⟨fun k hk => ?_, fun x k hx => by show ku s.1 196 i (I 197 i) x k = _; rw [ku_nea hx, p2 x k hx], fun x k hx => by show ku s.2 194 i (J 195 i) x k = _; rw [ku_nea hx, p3 x k hx]⟩, ?_⟩
    · show ku s.2 194 i (J 195 i) 194 k = _ ∧ ku s.1 196 i (I 197 i) 196 k = _
      by_cases e : k = i
      · rw [e, ku_same, ku_same]; exact ⟨rfl, rfl⟩
      · rw [ku_nek (by omega), ku_nek (by omega)]; exact p1 k (by omega)
    · funext d R
      have e19' : s.1 185 19 = nI n := by rw [p2 _ _ (by omega), k2 _ _ (by omega) (by omega), g2 _ _ (by omega)]; exact e19
      have x1 : s.2 195 i = J 195 i := p3 _ _ (by omega)
      have x2 : s.1 197 i = I 197 i := by rw [p2 _ _ (by omega), k2 _ _ (by omega) (by omega), g2 _ _ (by omega)]
      rw [B180_148, kg12_19, kO_s, e19', if_pos (nI_lt hi (by omega)), B180_156, kg12_14, kO_s, kg12_15, kO_s, kj195 (by omega), kO_s, x1, kk194 (by omega), kO_s, kg12_16, kO_s, kg12_17, kO_s, ka197 (by omega), kO_s, x2, kw196 (by omega), kO_s, nI_add1]
  obtain ⟨S, ⟨p1, p2, p3⟩, e4⟩ := L3
  have eI : S.1 185 19 = nI n := by rw [p2 _ _ (by omega), k2 _ _ (by omega) (by omega), g2 _ _ (by omega)]; exact e19
  refine ⟨ku S.1 185 18 (nI n), S.2, fun k hk => ?_, fun k hk => ?_, fun k hk => ?_, ku_same _ _ _ _, fun x k h1 h2 h3 h4 h5 => ?_, p3, fun d R => ?_⟩
  · rw [ku_nea (by omega), p2 _ _ (by omega), k2 _ _ (by omega) (by omega)]; exact g1 k hk
  · rw [ku_nea (by omega), ku_nea (by omega), p2 _ _ (by omega), p2 _ _ (by omega)]; exact k1 k hk
  · rw [ku_nea (by omega)]; exact p1 k hk
  · rw [ku_ne h5, p2 _ _ h4, k2 _ _ h2 h3, g2 _ _ h1]
  · have x13 : I3 185 13 = nI q := by rw [k2 _ _ (by omega) (by omega), g2 _ _ (by omega)]; exact e13
    rw [B180_69]
    refine Eq.trans (congrFun (congrFun e2 (d + 1)) R) ?_
    rw [B180_71, c8_90, if_neg (nI_nlt (Nat.le_refl _) (by omega)), B180_98]
    refine Eq.trans (congrFun (congrFun e3 (d + 1)) R) ?_
    rw [B180_100, kg12_13, kO_s, x13, if_neg (nI_nlt (Nat.le_refl _) (by omega)), B180_146]
    refine Eq.trans (congrFun (congrFun e4 (d + 1)) R) ?_
    rw [B180_148, kg12_19, kO_s, eI, if_neg (nI_nlt (Nat.le_refl _) (by omega)), B180_186, kg12_19, kO_s, eI, kp12_18, kO_s, krecv_m ks185, kcond_t]
end MA
