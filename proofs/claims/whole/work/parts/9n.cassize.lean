/-! assize of the class -/
section CA
variable {xs : List Int32} {d : Nat} {I I' I2 : Nat → Nat → Int32} {J J' J2 : Nat → Nat → Int64} {rf : Nat → Nat} {g : Nat} {R : Option Value → KW → Prop} {T : aTp} {bg : aSt}
/-- beginAnew -/
theorem c_105 (h2 : kshp (rf 2) = some (.inl 6)) (h4 : kshp (rf 4) = some (.inl 10)) (hs : cSt I (rf 2 + 8) bg) : ∃ I', cSt I' 39 bg ∧ I' (rf 4) 0 = nI 0 ∧ I' 147 0 = nI 0 ∧ I' 65 0 = nI 0 ∧ (∀ m, m < 4 → I' 152 m = nI 0) ∧ (∀ x k, x < 39 ∨ 43 < x → ¬ (x = rf 4 ∧ k = 0) → ¬ (x = 147 ∧ k = 0) → ¬ (x = 65 ∧ k = 0) → x ≠ 152 → I' x k = I x k) ∧ ∀ d R, kX xs (d + 2) 105 0 [some (.ref 0), none] [] (kmm I J rf g) R = R none (kmm I' J rf g) := by
  have a2 := kad6 h2
  have a4 := kad10 h4
  obtain ⟨I1, s1, f1, e1⟩ := sp87e (xs := xs) (J := J) (rf := rf) (g := g) ks39 (kad68 h2) (by omega) hs
  have L : ∃ I2, ((∀ m, m < 4 → I2 152 m = nI 0) ∧ ∀ x k, x ≠ 152 → I2 x k = ku (ku (ku I1 (rf 4) 0 0) 147 0 0) 65 0 0 x k) ∧ (fun (d : Nat) (R : Option Value → KW → Prop) => kX xs d 105 40 [some (.ref 0), some (.int (nI 0))] [] (kmm (ku (ku (ku I1 (rf 4) 0 0) 147 0 0) 65 0 0) J rf g) R) = (fun d R => kX xs d 105 40 [some (.ref 0), some (.int (nI 4))] [] (kmm I2 J rf g) R) := by
    refine kloop (n := 4) (s0 := ku (ku (ku I1 (rf 4) 0 0) 147 0 0) 65 0 0) (fun i I2 => (∀ m, m < i → I2 152 m = nI 0) ∧ ∀ x k, x ≠ 152 → I2 x k = ku (ku (ku I1 (rf 4) 0 0) 147 0 0) 65 0 0 x k) (fun i I2 => fun (d : Nat) (R : Option Value → KW → Prop) => kX xs d 105 40 [some (.ref 0), some (.int (nI i))] [] (kmm I2 J rf g) R) ⟨fun k hk => by omega, fun _ _ _ => rfl⟩ ?_
    intro i I2 hi ⟨g1, g2⟩
    refine ⟨ku I2 152 i (nI 0), ⟨fun k hk => ?_, fun x k hx => by rw [ku_nea hx, g2 x k hx]⟩, ?_⟩
    · by_cases e : k = i
      · rw [e, ku_same]
      · rw [ku_nek e, g1 k (by omega)]
    · funext d R
      rw [B105_40, n_4, if_pos (nI_lt hi (by omega)), B105_45, kg11_15, kO_s, kv152 hi, kO_s, kvz0, nI_add1]
  obtain ⟨I2, ⟨g1, g2⟩, e2⟩ := L
  refine ⟨I2, s1.keep (fun x k p q => by rw [g2 _ _ (by omega), ku_nea (by omega), ku_nea (by omega), ku_nea (by omega)]), ?_, ?_, ?_, g1, fun x k p1 p2 p3 p4 p5 => by rw [g2 _ _ p5, ku_ne p4, ku_ne p3, ku_ne p2, f1 _ _ p1], fun d R => ?_⟩
  · rw [g2 _ _ (by omega), ku_nea (by omega), ku_nea (by omega), ku_same]; rfl
  · rw [g2 _ _ (by omega), ku_nea (by omega), ku_same]; rfl
  · rw [g2 _ _ (by omega), ku_same]; rfl
  · rw [B105_0, kg11_6, kO_s, kg11_2, kO_s, kg6_7 h2, kO_s, krecv_m ks39, kcond_t, e1, kpush_n, B105_14, kg11_4, kO_s, kp10_0 h4, kO_s, kg11_12, kO_s, kp7_0 ks147, kO_s, kg11_11, kO_s, kp3_0, kO_s]
    refine Eq.trans (congrFun (congrFun e2 (d + 2)) R) ?_
    rw [B105_40, n_4, if_neg (nI_nlt (Nat.le_refl _) (by omega)), B105_58]
/-- assize -/
theorem c_104 {kd gu : Nat → Nat} (v : vTp T) (h2 : kshp (rf 2) = some (.inl 6)) (h3 : kshp (rf 3) = some (.inl 6)) (h4 : kshp (rf 4) = some (.inl 10)) (hT : cTp I T) (hk : ∀ k, k < 7 → I (rf 3 + 3) k = nI (kd k)) (hg : ∀ k, k < 7 → I (rf 3 + 4) k = nI (gu k)) (vk : ∀ k, k < 7 → kd k < 4) (vg : ∀ k, k < 7 → gu k ≤ 20) (hb : (asT T kd gu).1.F ≤ 20000) : ∃ I' J', I' 1 0 = nI 0 ∧
    ((asT T kd gu).1.F = 0 → cRl I' (rf 3) (rO (asT T kd gu).1 (asT T kd gu).2) ∧ cNm J' (rf 3) (asT T kd gu).2.nj (asT T kd gu).2.nc (asT T kd gu).2.N ∧ cSt I' (rf 3 + 8) (asT T kd gu).2.bg ∧ cSt I' 39 (asT T kd gu).2.bg ∧ I' (rf 4) 0 = nI 0 ∧ I' 147 0 = nI 0 ∧ I' 65 0 = nI 0 ∧ (∀ m, m < 4 → I' 152 m = nI 0)) ∧
    (¬ (asT T kd gu).1.F = 0 → (∀ k, k < 7 → I' (rf 3 + 3) k = nI ((asT T kd gu).2.kd k)) ∧ (∀ k, k < 7 → I' (rf 3 + 4) k = nI ((asT T kd gu).2.gu k)) ∧ (∀ x k, x ≠ 1 → x ≠ 3 → x < rf 3 ∨ rf 3 + 12 < x → I' x k = I x k)) ∧
    (∀ x k, x ≠ 1 → x ≠ 3 → x < rf 3 ∨ rf 3 + 12 < x → x < 39 ∨ 43 < x → ¬ (x = rf 4 ∧ k = 0) → ¬ (x = 147 ∧ k = 0) → ¬ (x = 65 ∧ k = 0) → x ≠ 152 → I' x k = I x k) ∧ jFa (rf 3) J J' ∧
    ∀ d R, kX xs (d + 39) 104 0 [some (.ref 0), none, none] [] (kmm I J rf g) R = R (some (.int (nI (asT T kd gu).1.F))) (kmm I' J' (if (asT T kd gu).1.F = 0 then swR rf 2 3 else rf) g) := by
  have a3 := kad6 h3
  have a4 := kad10 h4
  obtain ⟨I1, J1, D1, b1, b2, b3, b5, b6, b7, b4⟩ := c_37 (xs := xs) (J := J) (rf := rf) (g := g) v h3 hT hk hg vk vg
  generalize (asT T kd gu).1 = S at *
  generalize (asT T kd gu).2 = D at *
  have F0 : (nI S.F = 0) = (S.F = 0) := nI_inj (b := 0) (Nat.lt_of_le_of_lt hb (by decide)) (by decide)
  have ent : ∀ d R, kX xs (d + 39) 104 0 [some (.ref 0), none, none] [] (kmm I J rf g) R = if S.F = 0 then kX xs (d + 39) 104 24 [some (.ref 0), some (.int (nI S.F)), none] [] (kmm (ku I1 1 0 0) J1 rf g) R else kX xs (d + 39) 104 46 [none, some (.int (nI S.F)), none] [] (kmm (ku I1 1 0 0) J1 rf g) R := by
    intro d R
    rw [B104_0, kg11_1, kO_s, kg11_3, kO_s, krecv_m ks3, kcond_t, b4, kpush_s, B104_11, kg11_0, kO_s, kp2_0, kO_s]
    by_cases z : S.F = 0
    · rw [if_pos (F0.mpr z), if_pos z]
    · rw [if_neg (fun y => z (F0.mp y)), if_neg z]
  have G : ∀ x k, x ≠ 1 → x ≠ 3 → x < rf 3 ∨ rf 3 + 12 < x → ku I1 1 0 0 x k = I x k := fun x k p q r => by rw [ku_nea p, b6 x k (fun z => p z.1) (fun z => q z.1) r]
  by_cases z : S.F = 0
  · have e := b2 z
    rw [e] at b1
    have hr1 : cRl (ku I1 1 0 0) (rf 3) (rO S D) := ⟨by rw [ku_nea (by omega)]; exact b1.d.nj, by rw [ku_nea (by omega)]; exact b1.d.nc, fun k hk => by rw [ku_nea (by omega)]; exact b1.d.kd k hk, fun k hk => by rw [ku_nea (by omega)]; exact b1.d.gu k hk, by rw [ku_nea (by omega)]; exact b1.p.l, fun n hn => by rw [ku_nea (by omega)]; exact b1.p.c n hn⟩
    have hs1 : cSt (ku I1 1 0 0) (rf 3 + 8) D.bg := b1.d.st.keep (fun x k p q => by rw [ku_nea (by omega)])
    have s2 : swR rf 2 3 2 = rf 3 := by unfold swR; rw [ku1_n (by omega), ku1_s]
    have s4 : swR rf 2 3 4 = rf 4 := by unfold swR; rw [ku1_n (by omega), ku1_n (by omega)]
    obtain ⟨I2, c1, c2, c3, c5, c6, c7, c4⟩ := c_105 (xs := xs) (J := J1) (rf := swR rf 2 3) (g := g) (I := ku I1 1 0 0) (bg := D.bg) (by rw [s2]; exact h3) (by rw [s4]; exact h4) (by rw [s2]; exact hs1)
    rw [s4] at c2 c7
    have K : ∀ x k, rf 3 ≤ x → x ≤ rf 3 + 12 → I2 x k = ku I1 1 0 0 x k := fun x k p q => c7 x k (by omega) (by omega) (by omega) (by omega) (by omega)
    refine ⟨I2, J1, by rw [c7 _ _ (by omega) (by omega) (by omega) (by omega) (by omega), ku_same]; rfl, fun _ => ⟨hr1.keep (fun x k p q => K x k (by omega) (by omega)), b1.d.nm, hs1.keep (fun x k p q => K x k (by omega) (by omega)), c1, c2, c3, c5, c6⟩, fun y => absurd z y, fun x k p1 p2 p3 p4 p5 p6 p7 p8 => by rw [c7 x k p4 p5 p6 p7 p8, G x k p1 p2 p3], b7, fun d R => ?_⟩
    rw [ent, if_pos z, if_pos z, B104_24, kg11_2, kO_s, kg11_3, kO_s, kpR_m (by omega) (by omega), kO_s, kpR_m (by omega) (by omega), kO_s, krecv_m ks0, kcond_t, show d + 38 = d + 36 + 2 from rfl]
    refine Eq.trans (c4 (d + 36) _) ?_
    rw [kpush_n, B104_46]
  · refine ⟨ku I1 1 0 0, J1, ku_same _ _ _ _, fun y => absurd y z, fun _ => ⟨fun k hk => ?_, fun k hk => ?_, G⟩, fun x k p1 p2 p3 _ _ _ _ _ => G x k p1 p2 p3, b7, fun d R => ?_⟩
    · rw [ku_nea (by omega), ← b3]; exact b1.d.kd k hk
    · rw [ku_nea (by omega), ← b5]; exact b1.d.gu k hk
    · rw [ent, if_neg z, if_neg z, B104_46]
end CA
