/-! the class reads an assize -/
def bg0 : aSt := aSt.mk 0 0 (fun _ => 0) (fun _ => 0) (fun _ => 0) (fun k => k)
def dr0 (kd gu : Nat → Nat) : aDr := aDr.mk 0 0 kd gu (aNm.mk (fun _ => 0) (fun _ => 0)) bg0 0 0 (fun _ => 0) (fun _ => 0) (fun _ => 0)
theorem dr0_v {kd gu : Nat → Nat} (hk : ∀ k, k < 7 → kd k < 4) (hg : ∀ k, k < 7 → gu k ≤ 20) : vDr (dr0 kd gu) := by
  refine ⟨Nat.zero_le _, Nat.zero_le _, hk, hg, ⟨fun i hi => absurd hi (Nat.not_lt_zero _), fun i hi => absurd hi (Nat.not_lt_zero _), fun i k hi => absurd hi (Nat.not_lt_zero _), fun i k hi => absurd hi (Nat.not_lt_zero _), fun i k hi => absurd hi (Nat.not_lt_zero _)⟩, ⟨by show 0 < 4; omega, fun _ _ => by show 0 ≤ 9999; omega, fun _ _ _ => rfl, fun _ _ => by show 0 < 4; omega, fun _ _ => by show 0 ≤ 20; omega, fun k hk => hk, fun k hk => absurd hk (Nat.not_lt_zero _), fun i j _ _ e => e⟩, rfl, rfl, fun _ _ => rfl, rfl, fun k hk => absurd hk (Nat.not_lt_zero _), fun k hk => absurd hk (Nat.not_lt_zero _), fun _ _ => by show 0 < 128; omega, fun _ _ _ _ => by show (0 : Nat).testBit _ = (0 : Nat).testBit _; rw [Nat.zero_testBit, Nat.zero_testBit], fun _ _ => Nat.zero_testBit _, ?_⟩
  show 0 = cntP (fun _ => 0)
  decide
theorem dr0_w {kd gu : Nat → Nat} : vLw z0 (dr0 kd gu) := ⟨fun _ => rfl, fun z => absurd rfl z, Nat.zero_le _⟩
/-- what the tape tells of an assize -/
def asT (T : aTp) (kd gu : Nat → Nat) : aPS × aDr := rdA T 1001 (z0, dr0 kd gu)
theorem rdA_v {T : aTp} (v : vTp T) : ∀ f (s : aPS) (D : aDr), vDr D → s.k ≤ nT T → s.F = 0 → vLw s D → vDr (rdA T f (s, D)).2 ∧ ((rdA T f (s, D)).1.F = 0 → vLw (rdA T f (s, D)).1 (rdA T f (s, D)).2) := by
  intro f
  induction f with
  | zero => intro s D h1 _ _ h3; exact ⟨h1, fun _ => h3⟩
  | succ f ih =>
    intro s D h1 h2 hF h3
    have e2 : rdA T (f + 1) (s, D) = if s.F = 0 ∧ kdO T s ≠ 0 then rdA T f (ayS T D s, ayD T D s) else (s, D) := rfl
    rw [e2]
    by_cases q : s.F = 0 ∧ kdO T s ≠ 0
    · rw [if_pos q]
      by_cases z : (ayS T D s).F = 0
      · exact ih _ _ (ayD_v h1 q.1) (kle_ayS h2 q.1).1 z (ayL v h3 h2 q.1 z)
      · have e : rdA T f (ayS T D s, ayD T D s) = (ayS T D s, ayD T D s) := rdA_F z f
        rw [e]
        exact ⟨ayD_v h1 q.1, fun y => absurd y z⟩
    · rw [if_neg q]; exact ⟨h1, fun _ => h3⟩
section CR
variable {xs : List Int32} {d : Nat} {I I' I2 : Nat → Nat → Int32} {J J' J2 : Nat → Nat → Int64} {rf : Nat → Nat} {g : Nat} {R : Option Value → KW → Prop} {T : aTp} {s u : aPS} {D : aDr} {ra : Nat} {w : KW}
/-- State.seatByNumbers -/
theorem c_85 {b : Nat} (hb : kshp b = some (.inl 9)) : ∃ I', (∀ k, k < 7 → I' (b + 4) k = nI k) ∧ (∀ x k, x ≠ b + 4 → I' x k = I x k) ∧ ∀ d R, kX xs d 85 0 [some (.ref b), none] [] (kmm I J rf g) R = R none (kmm I' J rf g) := by
  have L : ∃ I2, ((∀ k, k < 7 → I2 (b + 4) k = nI k) ∧ ∀ x k, x ≠ b + 4 → I2 x k = I x k) ∧ (fun (d : Nat) (R : Option Value → KW → Prop) => kX xs d 85 2 [some (.ref b), some (.int (nI 0))] [] (kmm I J rf g) R) = (fun d R => kX xs d 85 2 [some (.ref b), some (.int (nI 7))] [] (kmm I2 J rf g) R) := by
    refine kloop (n := 7) (s0 := I) (fun i I2 => (∀ k, k < i → I2 (b + 4) k = nI k) ∧ ∀ x k, x ≠ b + 4 → I2 x k = I x k) (fun i I2 => fun (d : Nat) (R : Option Value → KW → Prop) => kX xs d 85 2 [some (.ref b), some (.int (nI i))] [] (kmm I2 J rf g) R) ⟨fun k hk => by omega, fun _ _ _ => rfl⟩ ?_
    intro i I2 hi ⟨g1, g2⟩
    refine ⟨ku I2 (b + 4) i (nI i), ⟨fun k hk => ?_, fun x k hx => by rw [ku_nea hx, g2 x k hx]⟩, ?_⟩
    · by_cases e : k = i
      · rw [e, ku_same]
      · rw [ku_nek e, g1 k (by omega)]
    · funext d R
      rw [B85_2, c8_7, if_pos (nI_lt hi (by omega)), B85_8, kg9_5 hb, kO_s, kw9_4 hb hi, kO_s, nI_add1]
  obtain ⟨I2, ⟨g1, g2⟩, e2⟩ := L
  refine ⟨I2, g1, g2, fun d R => ?_⟩
  rw [B85_0]
  refine Eq.trans (congrFun (congrFun e2 d) R) ?_
  rw [B85_2, c8_7, if_neg (nI_nlt (Nat.le_refl _) (by omega)), B85_21]
/-- State.clear -/
theorem c_86 {b : Nat} (hb : kshp b = some (.inl 9)) : ∃ I', cSt I' b bg0 ∧ (∀ x k, x < b ∨ b + 4 < x → I' x k = I x k) ∧ ∀ d R, kX xs (d + 1) 86 0 [some (.ref b), none] [] (kmm I J rf g) R = R none (kmm I' J rf g) := by
  have L : ∃ I2, ((∀ k, k < 7 → I2 (b + 1) k = 0 ∧ I2 (b + 2) k = 0 ∧ I2 (b + 3) k = 0) ∧ ∀ x k, x ≤ b ∨ b + 3 < x → I2 x k = ku (ku I b 0 0) b 1 0 x k) ∧ (fun (d : Nat) (R : Option Value → KW → Prop) => kX xs d 86 12 [some (.ref b), some (.int (nI 0))] [] (kmm (ku (ku I b 0 0) b 1 0) J rf g) R) = (fun d R => kX xs d 86 12 [some (.ref b), some (.int (nI 7))] [] (kmm I2 J rf g) R) := by
    refine kloop (n := 7) (s0 := ku (ku I b 0 0) b 1 0) (fun i I2 => (∀ k, k < i → I2 (b + 1) k = 0 ∧ I2 (b + 2) k = 0 ∧ I2 (b + 3) k = 0) ∧ ∀ x k, x ≤ b ∨ b + 3 < x → I2 x k = ku (ku I b 0 0) b 1 0 x k) (fun i I2 => fun (d : Nat) (R : Option Value → KW → Prop) => kX xs d 86 12 [some (.ref b), some (.int (nI i))] [] (kmm I2 J rf g) R) ⟨fun k hk => by omega, fun _ _ _ => rfl⟩ ?_
    intro i I2 hi ⟨g1, g2⟩
    refine ⟨ku (ku (ku I2 (b + 1) i 0) (b + 2) i 0) (b + 3) i 0, ⟨fun k hk => ?_, fun x k hx => by rw [ku_nea (by omega), ku_nea (by omega), ku_nea (by omega), g2 x k hx]⟩, ?_⟩
    · by_cases e : k = i
      · rw [e]
        refine ⟨?_, ?_, ku_same _ _ _ _⟩
        · rw [ku_nea (by omega), ku_nea (by omega), ku_same]
        · rw [ku_nea (by omega), ku_same]
      · rw [ku_nek e, ku_nek e, ku_nek e, ku_nek e, ku_nek e, ku_nek e, ku_nek e, ku_nek e, ku_nek e]; exact g1 k (by omega)
    · funext d R
      rw [B86_12, c8_7, if_pos (nI_lt hi (by omega)), B86_18, kg9_2 hb, kO_s, kw9_1 hb hi, kO_s, kg9_3 hb, kO_s, kw9_2 hb hi, kO_s, kg9_4 hb, kO_s, kw9_3 hb hi, kO_s, nI_add1]
  obtain ⟨I2, ⟨g1, g2⟩, e2⟩ := L
  obtain ⟨I3, q1, q2, q3⟩ := c_85 (xs := xs) (J := J) (rf := rf) (g := g) (I := I2) hb
  refine ⟨I3, ⟨?_, ?_, fun k hk => ?_, fun k hk => ?_, fun k hk => ?_, q1⟩, fun x k hx => by rw [q2 _ _ (by omega), g2 _ _ (by omega), ku_nea (by omega), ku_nea (by omega)], fun d R => ?_⟩
  · rw [q2 _ _ (by omega), g2 _ _ (by omega), ku_nek (by omega), ku_same]; rfl
  · rw [q2 _ _ (by omega), g2 _ _ (by omega), ku_same]; rfl
  · rw [q2 _ _ (by omega)]; exact (g1 k hk).1
  · rw [q2 _ _ (by omega)]; exact (g1 k hk).2.1
  · rw [q2 _ _ (by omega)]; exact (g1 k hk).2.2
  · rw [B86_0, kp9_0 hb, kO_s, kp9_1 hb, kO_s]
    refine Eq.trans (congrFun (congrFun e2 (d + 1)) R) ?_
    rw [B86_12, c8_7, if_neg (nI_nlt (Nat.le_refl _) (by omega)), B86_45, krecv_m hb, kcond_t, q3, kpush_n, B86_49]
theorem kad65 (hr : kshp ra = some (.inl 6)) : kshp (ra + 5) = some (.inl 0) := by
  rcases kad6 hr with e | e <;> subst e <;> rfl
/-- Roll.clear -/
theorem c_50 (hr : kshp ra = some (.inl 6)) : ∃ I', I' ra 0 = 0 ∧ I' ra 1 = 0 ∧ I' (ra + 5) 0 = 0 ∧ cSt I' (ra + 8) bg0 ∧ (∀ x k, x ≠ ra → x ≠ ra + 5 → x < ra + 8 ∨ ra + 12 < x → I' x k = I x k) ∧ ∀ d R, kX xs (d + 2) 50 0 [some (.ref ra)] [] (kmm I J rf g) R = R none (kmm I' J rf g) := by
  obtain ⟨I1, a1, a2, a3⟩ := c_86 (xs := xs) (J := J) (rf := rf) (g := g) (I := ku (ku (ku I ra 0 0) ra 1 0) (ra + 5) 0 0) (kad68 hr)
  refine ⟨I1, ?_, ?_, ?_, a1, fun x k h1 h2 h3 => by rw [a2 _ _ (by omega), ku_nea h2, ku_nea h1, ku_nea h1], fun d R => ?_⟩
  · rw [a2 _ _ (by omega), ku_nea (by omega), ku_nek (by omega), ku_same]
  · rw [a2 _ _ (by omega), ku_nea (by omega), ku_same]
  · rw [a2 _ _ (by omega), ku_same]
  · rw [B50_0, kp6_0 hr, kO_s, kp6_1 hr, kO_s, kg6_6 hr, kO_s, kp0_0 (kad65 hr), kO_s, kg6_7 hr, kO_s, krecv_m (kad68 hr), kcond_t, a3, kpush_n, B50_25]
/-- a line -/
theorem c_lin (v : vTp T) (hr : kshp ra = some (.inl 6)) (hv : vDr D) (hw : vLw s D) (h : cAS I J T ra s D) (hF : s.F = 0) (hk : s.k ≤ nT T) : ∃ I' J' D', cAS I' J' T ra (ayS T D s) D' ∧ ((ayS T D s).F = 0 → D' = ayD T D s) ∧ D'.kd = (ayD T D s).kd ∧ D'.gu = (ayD T D s).gu ∧ cFa ra I I' ∧ jFa ra J J' ∧ ∀ d n l2 R, kX xs (d + 38) 37 46 [some (.ref 3), some (.ref ra), some (.int l2), some (.int n)] [] (kmm I J rf g) R = kX xs (d + 38) 37 144 [some (.ref 3), some (.ref ra), some (.int (bz (ayS T D s))), some (.int n)] [] (kmm I' J' rf g) R := by
  have ha := kad6 hr
  have hq : 4 ≤ ra := by omega
  have ek := c_kd h.p
  have n128 : kdO T s ≠ 128 → ¬ nI (kdO T s) = 128 := fun q z => q ((kd_eq (c := 128) v (by decide)).mp z)
  have n129 : kdO T s ≠ 129 → ¬ nI (kdO T s) = 129 := fun q z => q ((kd_eq (c := 129) v (by decide)).mp z)
  have n130 : kdO T s ≠ 130 → ¬ nI (kdO T s) = 130 := fun q z => q ((kd_eq (c := 130) v (by decide)).mp z)
  have n131 : kdO T s ≠ 131 → ¬ nI (kdO T s) = 131 := fun q z => q ((kd_eq (c := 131) v (by decide)).mp z)
  have n132 : kdO T s ≠ 132 → ¬ nI (kdO T s) = 132 := fun q z => q ((kd_eq (c := 132) v (by decide)).mp z)
  have n133 : kdO T s ≠ 133 → ¬ nI (kdO T s) = 133 := fun q z => q ((kd_eq (c := 133) v (by decide)).mp z)
  have n134 : kdO T s ≠ 134 → ¬ nI (kdO T s) = 134 := fun q z => q ((kd_eq (c := 134) v (by decide)).mp z)
  have p128 : kdO T s = 128 → nI (kdO T s) = 128 := fun q => by rw [q]; rfl
  have p130 : kdO T s = 130 → nI (kdO T s) = 130 := fun q => by rw [q]; rfl
  have p133 : kdO T s = 133 → nI (kdO T s) = 133 := fun q => by rw [q]; rfl
  have p134 : kdO T s = 134 → nI (kdO T s) = 134 := fun q => by rw [q]; rfl
  unfold ayD
  by_cases q1 : kdO T s = 128
  · rw [if_pos q1]
    have ec : ayS T D s = if D.nj < 7 then jgS T D s else wrg T 5 s := if_pos q1
    rw [ec]
    by_cases q2 : D.nj < 7
    · rw [if_pos q2]
      obtain ⟨I1, J1, a1, a2, a3, a4⟩ := c_38 (xs := xs) (rf := rf) (g := g) v hr hv h hF q2
      refine ⟨I1, J1, _, a1, fun _ => rfl, rfl, rfl, a2, a3, fun d n l2 R => ?_⟩
      rw [B37_46, kg5_0, kO_s, kg2_3, kO_s, ek, if_pos (p128 q1), B37_96, krecv_m ks3, kcond_t, show d + 37 = d + 31 + 6 from rfl, a4, kpush_s, B37_101]
    · rw [if_neg q2]
      obtain ⟨I1, a1, a2, a4⟩ := a_wrg (xs := xs) (rf := rf) (g := g) (c := 5) hq h hF
      have wF := wrgF (T := T) (c := 5) (by decide) hF
      have a4' : ∀ d R, kX xs d 17 0 [some (.ref 1), some (.int 5)] [] (kmm I J rf g) R = R (some (.int 0)) (kmm I1 J rf g) := a4
      rw [if_neg wF]
      refine ⟨I1, J, D, a1, fun _ => rfl, rfl, rfl, cFa.fr a2, fun _ _ _ _ _ _ => rfl, fun d n l2 R => ?_⟩
      rw [B37_46, kg5_0, kO_s, kg2_3, kO_s, ek, if_pos (p128 q1), B37_96, krecv_m ks3, kcond_t, B38_0, kg6_0 hr, kO_s, h.d.nj, c8_7, if_neg (nI_nlt (Nat.le_of_not_lt q2) (Nat.lt_of_le_of_lt hv.j (by decide))), B38_9, kg5_0, kO_s, krecv_m ks1, kcond_t, a4', kpush_s, B38_17, if_pos nar0, kpush_s, B37_101, bz_0 wF]
  · rw [if_neg q1]
    by_cases q3 : kdO T s = 130
    · rw [if_pos q3]
      have ec : ayS T D s = if D.nc < 7 then csS T D s else wrg T 5 s := by unfold ayS; rw [if_neg q1, if_pos q3]
      rw [ec]
      by_cases q2 : D.nc < 7
      · rw [if_pos q2]
        obtain ⟨I1, J1, a1, a2, a3, a4⟩ := c_39 (xs := xs) (rf := rf) (g := g) v hr hv h hF q2
        refine ⟨I1, J1, _, a1, fun _ => rfl, rfl, rfl, a2, a3, fun d n l2 R => ?_⟩
        rw [B37_46, kg5_0, kO_s, kg2_3, kO_s, ek, if_neg (n128 (by rw [q3]; decide)), if_neg (n129 (by rw [q3]; decide)), if_pos (p130 q3), B37_105, krecv_m ks3, kcond_t, show d + 37 = d + 31 + 6 from rfl, a4, kpush_s, B37_110]
      · rw [if_neg q2]
        obtain ⟨I1, a1, a2, a4⟩ := a_wrg (xs := xs) (rf := rf) (g := g) (c := 5) hq h hF
        have wF := wrgF (T := T) (c := 5) (by decide) hF
        have a4' : ∀ d R, kX xs d 17 0 [some (.ref 1), some (.int 5)] [] (kmm I J rf g) R = R (some (.int 0)) (kmm I1 J rf g) := a4
        rw [if_neg wF]
        refine ⟨I1, J, D, a1, fun _ => rfl, rfl, rfl, cFa.fr a2, fun _ _ _ _ _ _ => rfl, fun d n l2 R => ?_⟩
        rw [B37_46, kg5_0, kO_s, kg2_3, kO_s, ek, if_neg (n128 (by rw [q3]; decide)), if_neg (n129 (by rw [q3]; decide)), if_pos (p130 q3), B37_105, krecv_m ks3, kcond_t, B39_0, kg6_1 hr, kO_s, h.d.nc, c8_7, if_neg (nI_nlt (Nat.le_of_not_lt q2) (Nat.lt_of_le_of_lt hv.c (by decide))), B39_9, kg5_0, kO_s, krecv_m ks1, kcond_t, a4', kpush_s, B39_17, if_pos nar0, kpush_s, B37_110, bz_0 wF]
    · rw [if_neg q3]
      by_cases q4 : kdO T s = 133
      · rw [if_pos q4]
        have ec : ayS T D s = chS T D s := by unfold ayS; rw [if_neg q1, if_neg q3, if_pos q4]
        rw [ec]
        obtain ⟨I1, J1, a1, a2, a3, a4⟩ := c_40 (xs := xs) (rf := rf) (g := g) v hr hv h hF
        refine ⟨I1, J1, _, a1, fun _ => rfl, rfl, rfl, a2, a3, fun d n l2 R => ?_⟩
        rw [B37_46, kg5_0, kO_s, kg2_3, kO_s, ek, if_neg (n128 (by rw [q4]; decide)), if_neg (n129 (by rw [q4]; decide)), if_neg (n130 (by rw [q4]; decide)), if_neg (n131 (by rw [q4]; decide)), if_neg (n132 (by rw [q4]; decide)), if_pos (p133 q4), B37_114, krecv_m ks3, kcond_t, show d + 37 = d + 31 + 6 from rfl, a4, kpush_s, B37_119]
      · rw [if_neg q4]
        by_cases q5 : kdO T s = 134
        · have ec : ayS T D s = dlS T D s := by unfold ayS; rw [if_neg q1, if_neg q3, if_neg q4, if_pos q5]
          rw [ec]
          have hlt : s.k < nT T := kdO_lt hk (by rw [q5]; decide)
          obtain ⟨I1, J1, a1, a2, a3, a4⟩ := c_41 (xs := xs) (rf := rf) (g := g) v hr h hF hlt hw.1 hw.2.2
          have e1 : (dlS T D s).F = 0 → (if D.lt = 0 then dlD D else D) = (if (dlS T D s).F = 0 then dlD D else D) := by
            intro z
            rw [if_pos z]
            by_cases y : D.lt = 0
            · rw [if_pos y]
            · have e : dlS T D s = wrg T 3 s := if_neg y
              rw [e] at z
              exact absurd z (wrgF (by decide) hF)
          have e2 : ∀ (P Q : Prop) [Decidable P] [Decidable Q], (if P then dlD D else D).kd = (if Q then dlD D else D).kd ∧ (if P then dlD D else D).gu = (if Q then dlD D else D).gu := by
            intro P Q _ _
            by_cases y : P <;> by_cases x : Q
            · rw [if_pos y, if_pos x]; exact ⟨rfl, rfl⟩
            · rw [if_pos y, if_neg x]; exact ⟨rfl, rfl⟩
            · rw [if_neg y, if_pos x]; exact ⟨rfl, rfl⟩
            · rw [if_neg y, if_neg x]; exact ⟨rfl, rfl⟩
          refine ⟨I1, J1, _, a1, e1, (e2 _ _).1, (e2 _ _).2, a2, a3, fun d n l2 R => ?_⟩
          rw [B37_46, kg5_0, kO_s, kg2_3, kO_s, ek, if_neg (n128 (by rw [q5]; decide)), if_neg (n129 (by rw [q5]; decide)), if_neg (n130 (by rw [q5]; decide)), if_neg (n131 (by rw [q5]; decide)), if_neg (n132 (by rw [q5]; decide)), if_neg (n133 (by rw [q5]; decide)), if_pos (p134 q5), B37_123, kg6_6 hr, kO_s, krecv_m ks3, kcond_t, a4, kpush_s, B37_131]
        · have ec : ayS T D s = wrg T 1 s := by unfold ayS; rw [if_neg q1, if_neg q3, if_neg q4, if_neg q5]
          rw [ec]
          obtain ⟨I1, a1, a2, a4⟩ := a_wrg (xs := xs) (rf := rf) (g := g) (c := 1) hq h hF
          have wF := wrgF (T := T) (c := 1) (by decide) hF
          have a4' : ∀ d R, kX xs d 17 0 [some (.ref 1), some (.int 1)] [] (kmm I J rf g) R = R (some (.int 0)) (kmm I1 J rf g) := a4
          rw [if_neg wF]
          refine ⟨I1, J, D, a1, fun z => absurd z wF, rfl, rfl, cFa.fr a2, fun _ _ _ _ _ _ => rfl, fun d n l2 R => ?_⟩
          have fin : kX xs (d + 38) 37 135 [some (.ref 3), some (.ref ra), none, some (.int n)] [] (kmm I J rf g) R = kX xs (d + 38) 37 144 [some (.ref 3), some (.ref ra), some (.int (bz (wrg T 1 s))), some (.int n)] [] (kmm I1 J rf g) R := by
            rw [B37_135, kg5_0, kO_s, krecv_m ks1, kcond_t, a4', kpush_s, B37_143, bz_0 wF]
          rw [B37_46, kg5_0, kO_s, kg2_3, kO_s, ek, if_neg (n128 q1)]
          by_cases x1 : nI (kdO T s) = 129
          · rw [if_pos x1, fin]
          · rw [if_neg x1, if_neg (n130 q3)]
            by_cases x2 : nI (kdO T s) = 131
            · rw [if_pos x2, fin]
            · rw [if_neg x2]
              by_cases x3 : nI (kdO T s) = 132
              · rw [if_pos x3, fin]
              · rw [if_neg x3, if_neg (n133 q4), if_neg (n134 q5), fin]
/-- where a fault stands the reader ends -/
theorem c_37x {i : Int32} : kX xs d 37 25 [some (.ref 3), some (.ref ra), some (.int 0), some (.int i)] [] w R = kX xs d 37 150 [some (.ref 3), none, none, none] [] w R := by
  rw [B37_25]
  by_cases z : (Int16.ofInt 1000).toInt32 < i
  · rw [if_pos z]
  · rw [if_neg z, B37_32, if_pos rfl]
theorem c_37l (v : vTp T) (hr : kshp ra = some (.inl 6)) : ∀ f i I J s D, i + f = 1001 → vDr D → vLw s D → s.k ≤ nT T → s.F = 0 → cAS I J T ra s D → ∃ I' J' D', cAS I' J' T ra (rdA T f (s, D)).1 D' ∧ ((rdA T f (s, D)).1.F = 0 → D' = (rdA T f (s, D)).2) ∧ D'.kd = (rdA T f (s, D)).2.kd ∧ D'.gu = (rdA T f (s, D)).2.gu ∧ cFa ra I I' ∧ jFa ra J J' ∧ ∀ d R, kX xs (d + 38) 37 25 [some (.ref 3), some (.ref ra), some (.int 1), some (.int (nI i))] [] (kmm I J rf g) R = kX xs (d + 38) 37 150 [some (.ref 3), none, none, none] [] (kmm I' J' rf g) R := by
  intro f
  induction f with
  | zero =>
    intro i I J s D hi hv hw hk hF h
    refine ⟨I, J, D, h, fun _ => rfl, rfl, rfl, fun _ _ _ _ _ => rfl, fun _ _ _ _ _ _ => rfl, fun d R => ?_⟩
    rw [B37_25, c16_1000, if_pos (nI_lt (by omega) (by omega))]
  | succ f ih =>
    intro i I J s D hi hv hw hk hF h
    have e2 : rdA T (f + 1) (s, D) = if s.F = 0 ∧ kdO T s ≠ 0 then rdA T f (ayS T D s, ayD T D s) else (s, D) := rfl
    rw [e2]
    have ek := c_kd h.p
    have e0 : (nI (kdO T s) = 0) = (kdO T s = 0) := kd_eq (c := 0) v (by decide)
    have ent : ∀ d R, kX xs (d + 38) 37 25 [some (.ref 3), some (.ref ra), some (.int 1), some (.int (nI i))] [] (kmm I J rf g) R = if kdO T s = 0 then kX xs (d + 38) 37 150 [some (.ref 3), none, none, none] [] (kmm I J rf g) R else kX xs (d + 38) 37 46 [some (.ref 3), some (.ref ra), some (.int 1), some (.int (nI i))] [] (kmm I J rf g) R := by
      intro d R
      rw [B37_25, c16_1000, if_neg (nI_nlt (by omega) (by omega)), B37_32, if_neg (by decide), B37_36, kg5_0, kO_s, kg2_3, kO_s, ek]
      by_cases z : kdO T s = 0
      · rw [if_pos (e0.mpr z), if_pos z]
      · rw [if_neg (fun y => z (e0.mp y)), if_neg z]
    by_cases q : s.F = 0 ∧ kdO T s ≠ 0
    · rw [if_pos q]
      obtain ⟨I1, J1, D1, a1, a2, a3, a5, a6, a7, a4⟩ := c_lin (xs := xs) (rf := rf) (g := g) v hr hv hw h hF hk
      by_cases z : (ayS T D s).F = 0
      · rw [a2 z] at a1
        obtain ⟨I2, J2, D2, b1, b2, b3, b5, b6, b7, b4⟩ := ih (i + 1) I1 J1 _ _ (by clear z q hF; omega) (ayD_v hv hF) (ayL v hw hk hF z) (kle_ayS hk hF).1 z a1
        refine ⟨I2, J2, D2, b1, b2, b3, b5, a6.trans b6, a7.trans b7, fun d R => ?_⟩
        rw [ent, if_neg q.2, a4, bz_1 z, B37_144, nI_add1]
        exact b4 d R
      · have e : rdA T f (ayS T D s, ayD T D s) = (ayS T D s, ayD T D s) := rdA_F z f
        rw [e]
        refine ⟨I1, J1, D1, a1, fun y => absurd y z, a3, a5, a6, a7, fun d R => ?_⟩
        rw [ent, if_neg q.2, a4, bz_0 z, B37_144, c_37x]
    · rw [if_neg q]
      have z : kdO T s = 0 := Classical.byContradiction (fun y => q ⟨hF, y⟩)
      refine ⟨I, J, D, h, fun _ => rfl, rfl, rfl, fun _ _ _ _ _ => rfl, fun _ _ _ _ _ _ => rfl, fun d R => ?_⟩
      rw [ent, if_pos z]
/-- Reader.readAssize -/
theorem c_37 {kd gu : Nat → Nat} (v : vTp T) (hr : kshp ra = some (.inl 6)) (hT : cTp I T) (hk : ∀ k, k < 7 → I (ra + 3) k = nI (kd k)) (hg : ∀ k, k < 7 → I (ra + 4) k = nI (gu k)) (vk : ∀ k, k < 7 → kd k < 4) (vg : ∀ k, k < 7 → gu k ≤ 20) : ∃ I' J' D', cAS I' J' T ra (asT T kd gu).1 D' ∧ ((asT T kd gu).1.F = 0 → D' = (asT T kd gu).2) ∧ D'.kd = (asT T kd gu).2.kd ∧ D'.gu = (asT T kd gu).2.gu ∧ cFa ra I I' ∧ jFa ra J J' ∧ ∀ d R, kX xs (d + 38) 37 0 [some (.ref 3), some (.ref ra), none, none] [] (kmm I J rf g) R = R (some (.int (nI (asT T kd gu).1.F))) (kmm I' J' rf g) := by
  have ha := kad6 hr
  obtain ⟨I1, a1, a2, a3, a4, a5, a6⟩ := c_50 (xs := xs) (J := J) (rf := rf) (g := g) (I := I) hr
  have G1 : ∀ x k, x ≠ ra → x ≠ ra + 5 → x < ra + 8 ∨ ra + 12 < x → ku I1 3 4 0 x k = if x = 3 ∧ k = 4 then 0 else I x k := by
    intro x k h1 h2 h3
    by_cases q : x = 3 ∧ k = 4
    · rw [if_pos q, q.1, q.2, ku_same]
    · rw [if_neg q, ku_ne q, a5 x k h1 h2 h3]
  have hT1 : cTp (ku I1 3 4 0) T := ⟨by rw [ku_nea (by omega), a5 _ _ (by omega) (by omega) (by omega)]; exact hT.n, fun k hk => by rw [ku_nea (by omega), a5 _ _ (by omega) (by omega) (by omega)]; exact hT.t k hk⟩
  obtain ⟨I2, J2, b1, b2, b3, b4⟩ := c_15 (xs := xs) (rf := rf) (g := g) (I := ku I1 3 4 0) (J := ku J 3 5 0) (a := ra + 5) (ll := 0) (lo := fun _ => 0) (la := fun _ => 0) v (by omega) hT1 (by rw [ku_nea (by omega)]; exact a3) (fun n hn => absurd hn (Nat.not_lt_zero n))
  have D2 : cDr I2 J2 ra (dr0 kd gu) := by
    have G2 : ∀ x k, x ≠ 1 → x ≠ ra + 5 → x ≠ ra + 5 + 1 → I2 x k = ku I1 3 4 0 x k := fun x k p q r => b2 x k (fun z => p z.1) q r
    refine ⟨?_, ?_, fun k hk' => ?_, fun k hk' => ?_, ⟨fun i hi => absurd hi (Nat.not_lt_zero i), fun i hi => absurd hi (Nat.not_lt_zero i)⟩, a4.keep (fun x k p q => ?_), ?_, ⟨0, Nat.pow_pos (by decide), ?_, fun a b _ _ => ?_⟩⟩
    · rw [G2 _ _ (by omega) (by omega) (by omega), ku_nea (by omega)]; exact a1
    · rw [G2 _ _ (by omega) (by omega) (by omega), ku_nea (by omega)]; exact a2
    · rw [G2 _ _ (by omega) (by omega) (by omega), ku_nea (by omega), a5 _ _ (by omega) (by omega) (by omega)]; exact hk k hk'
    · rw [G2 _ _ (by omega) (by omega) (by omega), ku_nea (by omega), a5 _ _ (by omega) (by omega) (by omega)]; exact hg k hk'
    · rw [G2 _ _ (by omega) (by omega) (by omega), ku_nea (by omega)]
    · rw [G2 _ _ (by omega) (by omega) (by omega), ku_same]; rfl
    · rw [b3 _ _ (by omega), ku_same]; rfl
    · show (0 : Nat).testBit _ = (0 : Nat).testBit _
      rw [Nat.zero_testBit, Nat.zero_testBit]
  have h2 : cAS I2 J2 T ra z0 (dr0 kd gu) := ⟨b1, D2⟩
  obtain ⟨I3, J3, D3, c1, c2, c3, c5, c6, c7, c4⟩ := c_37l (xs := xs) (rf := rf) (g := g) v hr 1001 0 I2 J2 z0 (dr0 kd gu) rfl (dr0_v vk vg) dr0_w (Nat.zero_le _) rfl h2
  refine ⟨I3, J3, D3, c1, c2, c3, c5, fun x k p q r => ?_, fun x k p q r t => ?_, fun d R => ?_⟩
  · rw [c6 x k p q r, b2 x k p (by omega) (by omega), ku_ne (by omega), a5 x k (by omega) (by omega) (by omega)]
  · rw [c7 x k p q r t, b3 x k p, ku_ne (by omega)]
  · have c4' : ∀ d R, kX xs (d + 38) 37 25 [some (.ref 3), some (.ref ra), some (.int 1), some (.int 0)] [] (kmm I2 J2 rf g) R = kX xs (d + 38) 37 150 [some (.ref 3), none, none, none] [] (kmm I3 J3 rf g) R := c4
    rw [B37_0, krecv_m hr, kcond_t, show d + 37 = d + 35 + 2 from rfl, a6, kpush_n, B37_4, if_pos (by decide), kp5_4, kO_s, kp5_5, kO_s, kg5_0, kO_s, krecv_m ks1, kcond_t, show d + 37 = d + 32 + 5 from rfl, b4, kpush_n, B37_21, c4', B37_150, kg5_0, kO_s, kg2_7, kO_s, c1.p.f]
    rfl
end CR
