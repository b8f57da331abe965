/-! plan at the model's side -/
def lgv : Option Nat → Int32
  | none => -1
  | some L => nI L
def bet : Option Nat → Nat → Bool
  | none, _ => true
  | some L, v => decide (v < L)
/-- what plans leaves: the least, and its days -/
abbrev plP (I K : Nat → Nat → Int32) (r : aRl) (c : Nat) (o : Option Nat) (v : Nat) (P : Nat → Nat) : Prop := (bet o v = true → K 185 32 = nI v) ∧ (bet o v = true → ∀ k, k < c → K 207 k = I 206 k) ∧ (bet o v = true → ∀ k, c ≤ k → k < r.nc → K 207 k = nI (P k)) ∧ (bet o v = false → K 185 32 = lgv o) ∧ (bet o v = false → ∀ k, K 207 k = I 207 k)
theorem plP.y {I K : Nat → Nat → Int32} {r : aRl} {c : Nat} {o : Option Nat} {v : Nat} {P : Nat → Nat} (h : plP I K r c o v P) : bet o v = true → K 185 32 = nI v := h.1
theorem plP.a {I K : Nat → Nat → Int32} {r : aRl} {c : Nat} {o : Option Nat} {v : Nat} {P : Nat → Nat} (h : plP I K r c o v P) : bet o v = true → ∀ k, k < c → K 207 k = I 206 k := h.2.1
theorem plP.b {I K : Nat → Nat → Int32} {r : aRl} {c : Nat} {o : Option Nat} {v : Nat} {P : Nat → Nat} (h : plP I K r c o v P) : bet o v = true → ∀ k, c ≤ k → k < r.nc → K 207 k = nI (P k) := h.2.2.1
theorem plP.n {I K : Nat → Nat → Int32} {r : aRl} {c : Nat} {o : Option Nat} {v : Nat} {P : Nat → Nat} (h : plP I K r c o v P) : bet o v = false → K 185 32 = lgv o := h.2.2.2.1
theorem plP.q {I K : Nat → Nat → Int32} {r : aRl} {c : Nat} {o : Option Nat} {v : Nat} {P : Nat → Nat} (h : plP I K r c o v P) : bet o v = false → ∀ k, K 207 k = I 207 k := h.2.2.2.2
abbrev mQp (I I' : Nat → Nat → Int32) : Prop := ∀ x k, x ≠ 199 → x ≠ 200 → x < 203 ∨ 207 < x → ¬ (x = 185 ∧ (k = 0 ∨ k = 28 ∨ k = 32)) → ¬ (x = 201 ∧ 1155 ≤ k) → I' x k = I x k
section MPL
variable {xs : List Int32} {d : Nat} {I I' I2 : Nat → Nat → Int32} {J : Nat → Nat → Int64} {rf : Nat → Nat} {g : Nat} {R : Option Value → KW → Prop} {r : aRl} {s u : aSt} {w : KW}
theorem mQp.refl (I : Nat → Nat → Int32) : mQp I I := fun _ _ _ _ _ _ _ => rfl
theorem mQp.trans (h : mQp I I') (h2 : mQp I' I2) : mQp I I2 := fun x k a b c e f => by rw [h2 x k a b c e f, h x k a b c e f]
theorem mQp.of (h : mQ I I') : mQp I I' := fun x k a b c e f => h x k a b (by omega) e f
theorem mB.keepP (h : mB I r s) (q : mQp I I') : mB I' r s :=
  ⟨h.vr, h.vs, h.rl.keep (fun x k h1 h2 => q x k (by omega) (by omega) (by omega) (by omega) (by omega)), h.st.keep h.vr (fun k h1 h2 => q 201 k (by omega) (by omega) (by omega) (by omega) (by omega))⟩
theorem sp233 (h7 : r.nc ≤ 7) : ∀ f c D sum o (I : Nat → Nat → Int32), c + f = r.nc → sdg D = c → D < 4096 → sum ≤ 40 * c → mB I r s → (∀ day, day < 4 → I 205 day = nI (dg D day)) → I 185 32 = lgv o → (∀ L, o = some L → L ≤ 1000) → ∃ I', mQp I I' ∧ (∀ day, day < 4 → I' 205 day = nI (dg D day)) ∧ (∀ k, k < c → I' 206 k = I 206 k) ∧ plP I I' r c o (sum + ls r s f c D / 4) (pr r s f c D) ∧ ∀ d R, kX xs (d + f + 2) 233 0 [some (.ref 185), some (.int (nI c)), some (.int (nI sum)), none, none] [] (kmm I J rf g) R = R none (kmm I' J rf g) := by
  intro f
  induction f with
  | zero =>
    intro c D sum o I hc hs hD hsum h eu eo hoL
    have hcn : c = r.nc := by omega
    have ent : ∀ d R, bet o sum = true → kX xs (d + 2) 233 0 [some (.ref 185), some (.int (nI c)), some (.int (nI sum)), none, none] [] (kmm I J rf g) R = kX xs (d + 2) 233 16 [some (.ref 185), some (.int (nI c)), some (.int (nI sum)), none, none] [] (kmm I J rf g) R := by
      intro d R hb
      rw [B233_0, kg12_32, kO_s, eo]
      cases o with
      | none => rw [if_pos (show lgv none < 0 by decide)]
      | some L =>
        have hL := hoL L rfl
        have hlt : sum < L := of_decide_eq_true hb
        rw [if_neg (show ¬ lgv (some L) < 0 from nI_pos (by omega)), B233_7, kg12_32, kO_s, eo, if_pos (show nI sum < lgv (some L) from nI_lt hlt (by omega))]
    have e0 : sum + ls r s 0 c D / 4 = sum := by rw [ls, Nat.zero_div, Nat.add_zero]
    rw [e0]
    cases hb : bet o sum with
    | true =>
      have L : ∃ I2, ((∀ k, k < 7 → I2 207 k = I 206 k) ∧ ∀ x k, x ≠ 207 → I2 x k = ku I 185 32 (nI sum) x k) ∧ (fun (d : Nat) (R : Option Value → KW → Prop) => kX xs d 233 31 [some (.ref 185), none, none, some (.int (nI 0)), none] [] (kmm (ku I 185 32 (nI sum)) J rf g) R) = (fun d R => kX xs d 233 31 [some (.ref 185), none, none, some (.int (nI 7)), none] [] (kmm I2 J rf g) R) := by
        refine kloop (n := 7) (s0 := ku I 185 32 (nI sum)) (fun i I2 => (∀ k, k < i → I2 207 k = I 206 k) ∧ ∀ x k, x ≠ 207 → I2 x k = ku I 185 32 (nI sum) x k) (fun i I2 => fun (d : Nat) (R : Option Value → KW → Prop) => kX xs d 233 31 [some (.ref 185), none, none, some (.int (nI i)), none] [] (kmm I2 J rf g) R) ⟨fun k hk => by omega, fun _ _ _ => rfl⟩ ?_
        intro i I2 hi ⟨g1, g2⟩
        have e6 : I2 206 i = I 206 i := by rw [g2 _ _ (by omega), ku_nea (by omega)]
        refine ⟨ku I2 207 i (I 206 i), ⟨fun k hk => ?_, fun x k hx => by rw [ku_nea hx, g2 x k hx]⟩, ?_⟩
        · by_cases e : k = i
          · rw [e, ku_same]
          · rw [ku_nek e, g1 k (by omega)]
        · funext d R
          rw [B233_31, c8_7, if_pos (nI_lt hi (by omega)), B233_37, kg12_31, kO_s, kg12_30, kO_s, ka206 (by omega), kO_s, e6, kw207 (by omega), kO_s, nI_add1]
      obtain ⟨I2, ⟨g1, g2⟩, e2⟩ := L
      have F : ∀ x k, x ≠ 207 → ¬ (x = 185 ∧ k = 32) → I2 x k = I x k := fun x k h1 h2 => by rw [g2 x k h1, ku_ne h2]
      refine ⟨I2, fun x k h1 h2 h3 h4 h5 => F x k (by omega) (by omega), fun day hd => by rw [F _ _ (by omega) (by omega), eu day hd], fun k _ => F _ _ (by omega) (by omega), ⟨fun _ => by rw [g2 _ _ (by omega), ku_same], fun _ k hk => g1 k (by omega), fun _ k h1 h2 => by omega, fun q => by rw [hb] at q; exact absurd q (by decide), fun q => by rw [hb] at q; exact absurd q (by decide)⟩, fun d R => ?_⟩
      have e2' := congrFun (congrFun e2 (d + 2)) R
      have hn := h.rl.nc
      rw [show d + 0 + 2 = d + 2 from rfl, ent d R hb, B233_16, krecv_m ks185, kcond_t, sp200, kpush_s, B233_21, hn, if_pos (congrArg nI hcn), B233_24, kp12_32, kO_s]
      refine Eq.trans e2' ?_
      rw [B233_31, c8_7, if_neg (nI_nlt (Nat.le_refl _) (by omega)), B233_55]
    | false =>
      refine ⟨I, mQp.refl I, eu, fun _ _ => rfl, ⟨fun q => by rw [hb] at q; exact absurd q (by decide), fun q => by rw [hb] at q; exact absurd q (by decide), fun q => by rw [hb] at q; exact absurd q (by decide), fun _ => eo, fun _ _ => rfl⟩, fun d R => ?_⟩
      cases o with
      | none => exact absurd (show true = false from hb) (by decide)
      | some L =>
        have hL := hoL L rfl
        have hge : ¬ sum < L := of_decide_eq_false hb
        rw [B233_0, kg12_32, kO_s, eo, if_neg (show ¬ lgv (some L) < 0 from nI_pos (by omega)), B233_7, kg12_32, kO_s, eo, if_neg (show ¬ nI sum < lgv (some L) from nI_nlt (by omega) (by omega)), B233_15]
  | succ f ih =>
    intro c D sum o I hc hs hD hsum h eu eo hoL
    have hcn : c < r.nc := by omega
    have hX : ∀ j, j < 4 → pX r s f c D j ≤ 1000 := fun j _ => pX_le r s (by omega) j
    have bX : ∀ j, pX r s f c D j ≤ 280 := by
      intro j
      have a := amt_le r s c (dg D j)
      have b := ls_le r s f (c + 1) (D + 2 ^ (3 * j)) (by omega)
      unfold pX
      omega
    -- the prune
    cases hpr : bet o sum with
    | false =>
      have hbv : ∀ v, bet o (sum + v) = false := by
        intro v
        cases o with
        | none => exact absurd (show true = false from hpr) (by decide)
        | some L =>
          have hge : ¬ sum < L := of_decide_eq_false hpr
          exact decide_eq_false (by omega)
      refine ⟨I, mQp.refl I, eu, fun _ _ => rfl, ⟨fun q => by rw [hbv] at q; exact absurd q (by decide), fun q => by rw [hbv] at q; exact absurd q (by decide), fun q => by rw [hbv] at q; exact absurd q (by decide), fun _ => eo, fun _ _ => rfl⟩, fun d R => ?_⟩
      cases o with
      | none => exact absurd (show true = false from hpr) (by decide)
      | some L =>
        have hL := hoL L rfl
        have hge : ¬ sum < L := of_decide_eq_false hpr
        rw [B233_0, kg12_32, kO_s, eo, if_neg (show ¬ lgv (some L) < 0 from nI_pos (by omega)), B233_7, kg12_32, kO_s, eo, if_neg (show ¬ nI sum < lgv (some L) from nI_nlt (by omega) (by omega)), B233_15]
    | true =>
    have ent : ∀ d R, kX xs (d + f + 2 + 1) 233 0 [some (.ref 185), some (.int (nI c)), some (.int (nI sum)), none, none] [] (kmm I J rf g) R = kX xs (d + f + 2 + 1) 233 58 [some (.ref 185), some (.int (nI c)), some (.int (nI sum)), some (.int (nI 0)), none] [] (kmm I J rf g) R := by
      intro d R
      have hn := h.rl.nc
      have e16 : kX xs (d + f + 2 + 1) 233 0 [some (.ref 185), some (.int (nI c)), some (.int (nI sum)), none, none] [] (kmm I J rf g) R = kX xs (d + f + 2 + 1) 233 16 [some (.ref 185), some (.int (nI c)), some (.int (nI sum)), none, none] [] (kmm I J rf g) R := by
        rw [B233_0, kg12_32, kO_s, eo]
        cases o with
        | none => rw [if_pos (show lgv none < 0 by decide)]
        | some L =>
          have hL := hoL L rfl
          have hlt : sum < L := of_decide_eq_true hpr
          rw [if_neg (show ¬ lgv (some L) < 0 from nI_pos (by omega)), B233_7, kg12_32, kO_s, eo, if_pos (show nI sum < lgv (some L) from nI_lt hlt (by omega))]
      rw [e16, B233_16, krecv_m ks185, kcond_t, sp200, kpush_s, B233_21, hn, if_neg (fun q => by rw [nI_inj (by omega) (by omega)] at q; omega), B233_56]
      rfl
    -- the days
    have L : ∃ I2, (mQp I I2 ∧ (∀ day, day < 4 → I2 205 day = nI (dg D day)) ∧ (∀ k, k < c → I2 206 k = I 206 k) ∧ (0 < 4 ∧ bet o (sum + lsf (pX r s f c D) 4 / 4) = true → I2 185 32 = nI (sum + lsf (pX r s f c D) 4 / 4) ∧ (∀ k, k < c → I2 207 k = I 206 k) ∧ I2 207 c = nI (lsf (pX r s f c D) 4 % 4) ∧ ∀ k, c < k → k < r.nc → I2 207 k = nI (pr r s f (c + 1) (D + 2 ^ (3 * (lsf (pX r s f c D) 4 % 4))) k)) ∧ (¬ (0 < 4 ∧ bet o (sum + lsf (pX r s f c D) 4 / 4) = true) → I2 185 32 = lgv o ∧ ∀ k, I2 207 k = I 207 k)) ∧ (fun (d : Nat) (R : Option Value → KW → Prop) => kX xs (d + f + 2 + 1) 233 58 [some (.ref 185), some (.int (nI c)), some (.int (nI sum)), some (.int (nI 0)), none] [] (kmm I J rf g) R) = (fun d R => kX xs (d + f + 2 + 1) 233 58 [some (.ref 185), some (.int (nI c)), some (.int (nI sum)), some (.int (nI 4)), none] [] (kmm I2 J rf g) R) := by
      refine kloop (n := 4) (s0 := I) (fun i I2 => mQp I I2 ∧ (∀ day, day < 4 → I2 205 day = nI (dg D day)) ∧ (∀ k, k < c → I2 206 k = I 206 k) ∧ (0 < i ∧ bet o (sum + lsf (pX r s f c D) i / 4) = true → I2 185 32 = nI (sum + lsf (pX r s f c D) i / 4) ∧ (∀ k, k < c → I2 207 k = I 206 k) ∧ I2 207 c = nI (lsf (pX r s f c D) i % 4) ∧ ∀ k, c < k → k < r.nc → I2 207 k = nI (pr r s f (c + 1) (D + 2 ^ (3 * (lsf (pX r s f c D) i % 4))) k)) ∧ (¬ (0 < i ∧ bet o (sum + lsf (pX r s f c D) i / 4) = true) → I2 185 32 = lgv o ∧ ∀ k, I2 207 k = I 207 k)) (fun i I2 => fun (d : Nat) (R : Option Value → KW → Prop) => kX xs (d + f + 2 + 1) 233 58 [some (.ref 185), some (.int (nI c)), some (.int (nI sum)), some (.int (nI i)), none] [] (kmm I2 J rf g) R) ⟨mQp.refl I, eu, fun _ _ => rfl, fun q => by omega, fun _ => ⟨eo, fun _ => rfl⟩⟩ ?_
      intro i I2 hi ⟨g1, g2, g3, g4, g5⟩
      have hdl := dg_le (D := D) hi
      obtain ⟨x1, x2, x3⟩ := dg_add hD hi (by omega)
      have h2 := h.keepP g1
      -- the memory at the call
      have q3 : mQp I2 (ku (ku I2 205 i (nI (dg D i + 1))) 206 c (nI i)) := fun x k p1 p2 p3 p4 p5 => by rw [ku_nea (by omega), ku_nea (by omega)]
      have h3 := h2.keepP q3
      have e5 : ∀ day, day < 4 → ku (ku I2 205 i (nI (dg D i + 1))) 206 c (nI i) 205 day = nI (dg (D + 2 ^ (3 * i)) day) := by
        intro day hd
        rw [ku_nea (by omega), x1 day hd]
        by_cases e : day = i
        · rw [e, ku_same, if_pos rfl]
        · rw [ku_nek e, if_neg e, g2 day hd]
      obtain ⟨o', ho', ho1, ho2⟩ : ∃ o' : Option Nat, I2 185 32 = lgv o' ∧ (0 < i ∧ bet o (sum + lsf (pX r s f c D) i / 4) = true → o' = some (sum + lsf (pX r s f c D) i / 4)) ∧ (¬ (0 < i ∧ bet o (sum + lsf (pX r s f c D) i / 4) = true) → o' = o) := by
        by_cases q : 0 < i ∧ bet o (sum + lsf (pX r s f c D) i / 4) = true
        · exact ⟨some (sum + lsf (pX r s f c D) i / 4), (g4 q).1, fun _ => rfl, fun q' => absurd q q'⟩
        · exact ⟨o, (g5 q).1, fun q' => absurd q' q, fun _ => rfl⟩
      have hoL' : ∀ L, o' = some L → L ≤ 1000 := by
        intro L e
        by_cases q : 0 < i ∧ bet o (sum + lsf (pX r s f c D) i / 4) = true
        · rw [ho1 q] at e
          obtain ⟨⟨j, j1, j2⟩, -⟩ := lsf_sp hX i (by omega) (by omega)
          have := bX j
          have : sum + lsf (pX r s f c D) i / 4 = L := Option.some.inj e
          omega
        · rw [ho2 q] at e
          exact hoL L e
      have ba := amt_le r s c (dg D i)
      have o3 : ku (ku I2 205 i (nI (dg D i + 1))) 206 c (nI i) 185 32 = lgv o' := by rw [ku_nea (by omega), ku_nea (by omega), ho']
      obtain ⟨I4, k1, k2, k3, k4, k5⟩ := ih (c + 1) (D + 2 ^ (3 * i)) (sum + amt r s c (dg D i)) o' (ku (ku I2 205 i (nI (dg D i + 1))) 206 c (nI i)) (by omega) (by omega) x3 (by omega) h3 e5 o3 hoL'
      have hv : sum + amt r s c (dg D i) + ls r s f (c + 1) (D + 2 ^ (3 * i)) / 4 = sum + pX r s f c D i := by unfold pX; omega
      rw [hv] at k4
      have e4i := k2 i hi
      rw [x1 i hi, if_pos rfl] at e4i
      -- behind the call
      have F : ∀ x k, ¬ (x = 205 ∧ k = i) → ku I4 205 i (nI (dg D i)) x k = I4 x k := fun x k hx => ku_ne hx
      have r6 : ∀ k, k < c → I4 206 k = I 206 k := fun k hk => by rw [k3 k (by omega), ku_nek (by omega), ku_nea (by omega), g3 k hk]
      have r6c : I4 206 c = nI i := by rw [k3 c (by omega), ku_same]
      refine ⟨ku I4 205 i (nI (dg D i)), ⟨fun x k p1 p2 p3 p4 p5 => by rw [F x k (by omega), k1 x k p1 p2 p3 p4 p5, q3 x k p1 p2 p3 p4 p5, g1 x k p1 p2 p3 p4 p5], fun day hd => ?_, fun k hk => by rw [F _ _ (by omega), r6 k hk], fun q => ?_, fun q => ?_⟩, ?_⟩
      · by_cases e : day = i
        · rw [e, ku_same]
        · rw [ku_nek e, k2 day hd, x1 day hd, if_neg e]
      · -- better
        have hl : lsf (pX r s f c D) (i + 1) = min (lsf (pX r s f c D) i) (pX r s f c D i * 4 + i) := rfl
        have bXi := bX i
        by_cases hb : bet o' (sum + pX r s f c D i) = true
        · have hl2 : lsf (pX r s f c D) (i + 1) = pX r s f c D i * 4 + i := by
            rw [hl]
            by_cases h0 : i = 0
            · rw [h0, lsf]
              have := bX 0
              omega
            · obtain ⟨⟨j, j1, j2⟩, -⟩ := lsf_sp hX i (by omega) (by omega)
              by_cases q' : 0 < i ∧ bet o (sum + lsf (pX r s f c D) i / 4) = true
              · rw [ho1 q'] at hb
                have := of_decide_eq_true hb
                omega
              · rw [ho2 q'] at hb
                cases o with
                | none => exact absurd ⟨by omega, rfl⟩ q'
                | some L =>
                  have t1 := of_decide_eq_true hb
                  have t2 : ¬ sum + lsf (pX r s f c D) i / 4 < L := fun t => q' ⟨by omega, decide_eq_true t⟩
                  omega
          have hd4 : lsf (pX r s f c D) (i + 1) / 4 = pX r s f c D i := by rw [hl2]; omega
          have hm4 : lsf (pX r s f c D) (i + 1) % 4 = i := by rw [hl2]; omega
          rw [hd4, hm4]
          refine ⟨by rw [F _ _ (by omega), k4.y hb], fun k hk => ?_, ?_, fun k c1 c2 => ?_⟩
          · rw [F _ _ (by omega), k4.a hb k (by omega), ku_nek (by omega), ku_nea (by omega), g3 k hk]
          · rw [F _ _ (by omega), k4.a hb c (by omega), ku_same]
          · rw [F _ _ (by omega), k4.b hb k (by omega) c2]
        · have hbf : bet o' (sum + pX r s f c D i) = false := by
            cases t : bet o' (sum + pX r s f c D i) with
            | true => exact absurd t hb
            | false => rfl
          have z1 := k4.n hbf
          have z2 := k4.q hbf
          by_cases q' : 0 < i ∧ bet o (sum + lsf (pX r s f c D) i / 4) = true
          · obtain ⟨⟨j, j1, j2⟩, -⟩ := lsf_sp hX i (by omega) (by omega)
            rw [ho1 q'] at hbf z1
            have t1 : ¬ sum + pX r s f c D i < sum + lsf (pX r s f c D) i / 4 := of_decide_eq_false hbf
            have hl2 : lsf (pX r s f c D) (i + 1) = lsf (pX r s f c D) i := by rw [hl]; omega
            rw [hl2]
            obtain ⟨y1, y2, y3, y4⟩ := g4 q'
            refine ⟨by rw [F _ _ (by omega), z1]; rfl, fun k hk => ?_, ?_, fun k c1 c2 => ?_⟩
            · rw [F _ _ (by omega), z2, ku_nea (by omega), ku_nea (by omega), y2 k hk]
            · rw [F _ _ (by omega), z2, ku_nea (by omega), ku_nea (by omega), y3]
            · rw [F _ _ (by omega), z2, ku_nea (by omega), ku_nea (by omega), y4 k c1 c2]
          · -- it can't be better now
            exfalso
            rw [ho2 q'] at hbf
            cases o with
            | none => exact absurd (show true = false from hbf) (by decide)
            | some L =>
              have t1 : ¬ sum + pX r s f c D i < L := of_decide_eq_false hbf
              have t3 := of_decide_eq_true q.2
              by_cases h0 : i = 0
              · subst h0
                have hl0 : lsf (pX r s f c D) (0 + 1) = pX r s f c D 0 * 4 := by
                  rw [hl, lsf]
                  have := bX 0
                  omega
                rw [hl0] at t3
                omega
              · have t2 : ¬ sum + lsf (pX r s f c D) i / 4 < L := fun t => q' ⟨by omega, decide_eq_true t⟩
                rw [hl] at t3
                omega
      · -- not better
        have hl : lsf (pX r s f c D) (i + 1) = min (lsf (pX r s f c D) i) (pX r s f c D i * 4 + i) := rfl
        have bXi := bX i
        have hq : bet o (sum + lsf (pX r s f c D) (i + 1) / 4) = false := by
          cases t : bet o (sum + lsf (pX r s f c D) (i + 1) / 4) with
          | true => exact absurd ⟨by omega, t⟩ q
          | false => rfl
        cases o with
        | none => exact absurd (show true = false from hq) (by decide)
        | some L =>
          have t3 : ¬ sum + lsf (pX r s f c D) (i + 1) / 4 < L := of_decide_eq_false hq
          have q' : ¬ (0 < i ∧ bet (some L) (sum + lsf (pX r s f c D) i / 4) = true) := by
            intro ⟨c1, c2⟩
            have t4 := of_decide_eq_true c2
            rw [hl] at t3
            omega
          have hbf : bet o' (sum + pX r s f c D i) = false := by
            rw [ho2 q']
            refine decide_eq_false (fun t => ?_)
            rw [hl] at t3
            omega
          obtain ⟨y1, y2⟩ := g5 q'
          refine ⟨by rw [F _ _ (by omega), k4.n hbf, ho2 q'], fun k => ?_⟩
          rw [F _ _ (by omega), k4.q hbf, ku_nea (by omega), ku_nea (by omega), y2 k]
      · funext d R
        have e2i := g2 i hi
        have ej := h3.rl.nj
        have back : ∀ R, kX xs (d + f + 2 + 1) 233 126 [some (.ref 185), some (.int (nI c)), some (.int (nI sum)), some (.int (nI i)), none] [] (kmm I4 J rf g) R = kX xs (d + f + 2 + 1) 233 58 [some (.ref 185), some (.int (nI c)), some (.int (nI sum)), some (.int (nI (i + 1))), none] [] (kmm (ku I4 205 i (nI (dg D i))) J rf g) R := by
          intro R
          rw [B233_126, kg12_29, kO_s, ka205 (by omega), kO_s, e4i, nI_pred, kw205 (by omega), kO_s, nI_add1]
        have call : ∀ v : Nat, v = amt r s c (dg D i) → kX xs (d + f + 2 + 1) 233 122 [some (.ref 185), some (.int (nI c)), some (.int (nI sum)), some (.int (nI i)), none] [.int (nI v), .int (nI sum), .int (nI (c + 1)), .ref 185] (kmm (ku (ku I2 205 i (nI (dg D i + 1))) 206 c (nI i)) J rf g) R = kX xs (d + f + 2 + 1) 233 58 [some (.ref 185), some (.int (nI c)), some (.int (nI sum)), some (.int (nI (i + 1))), none] [] (kmm (ku I4 205 i (nI (dg D i))) J rf g) R := by
          intro v ev
          rw [B233_122, krecv_m ks185, kcond_t, nI_add, ev, k5, kpush_n, back]
        have h199 : ∀ d R, kX xs d 199 0 [some (.ref 185)] [] (kmm (ku (ku I2 205 i (nI (dg D i + 1))) 206 c (nI i)) J rf g) R = R (some (.int (nI r.nj))) (kmm (ku (ku I2 205 i (nI (dg D i + 1))) 206 c (nI i)) J rf g) := fun d R => by rw [sp199, ej]
        rw [B233_58, n_4, if_pos (nI_lt hi (by omega)), B233_63, kg12_29, kO_s, ka205 (by omega), kO_s, e2i, kO_s, ka205 (by omega), kO_s, e2i, nI_add1, nI_add1, kw205 (by omega), kO_s, kg12_30, kO_s, kw206 (by omega), kO_s, krecv_m ks185, kcond_t, h199, kpush_s, B233_99]
        by_cases hk : dg D i < r.nj
        · have hj7 := h.vr.j
          have hch := h3.st.ch (dg D i) hk
          rw [show 0 + 16 + dg D i = 16 + dg D i by omega] at hch
          have hcj := h.vs.cj (dg D i) hk
          have ev : vf r s c (s.ch (dg D i)) = amt r s c (dg D i) := by unfold amt; rw [if_pos hk]; rfl
          have h209 : ∀ R, kX xs (d + f + 2) 209 0 [some (.ref 185), some (.int (nI 0)), some (.int (nI (s.ch (dg D i)))), some (.int (nI c)), none, none] [] (kmm (ku (ku I2 205 i (nI (dg D i + 1))) 206 c (nI i)) J rf g) R = _ := fun R => sp209q (d := d + f + 1) h3 hcj hcn
          rw [if_pos (nI_lt hk (by omega)), B233_102, kg12_23, kO_s, c8_16, nI_add, ka201 (by omega), kO_s, hch, krecv_m ks185, kcond_t, n_0, h209, kpush_s, B233_118]
          exact call _ ev
        · have ev : 0 = amt r s c (dg D i) := by unfold amt; rw [if_neg hk]
          rw [if_neg (nI_nlt (by omega) (by omega)), B233_121]
          exact call 0 ev
    obtain ⟨I2, ⟨g1, g2, g3, g4, g5⟩, e2⟩ := L
    have ePk : ∀ k, c ≤ k → k < r.nc → pr r s (f + 1) c D k = if k = c then lsf (pX r s f c D) 4 % 4 else pr r s f (c + 1) (D + 2 ^ (3 * (lsf (pX r s f c D) 4 % 4))) k := fun k _ _ => rfl
    refine ⟨I2, g1, g2, g3, ⟨fun q => (g4 ⟨by omega, q⟩).1, fun q => (g4 ⟨by omega, q⟩).2.1, fun q k c1 c2 => ?_, fun q => (g5 (fun t => by rw [ls_s] at q; rw [t.2] at q; exact absurd q (by decide))).1, fun q => (g5 (fun t => by rw [ls_s] at q; rw [t.2] at q; exact absurd q (by decide))).2⟩, fun d R => ?_⟩
    · obtain ⟨y1, y2, y3, y4⟩ := g4 ⟨by omega, q⟩
      rw [ePk k c1 c2]
      by_cases e : k = c
      · rw [if_pos e, e, y3]
      · rw [if_neg e, y4 k (by omega) c2]
    · have e2' := congrFun (congrFun e2 d) R
      rw [show d + (f + 1) + 2 = d + f + 2 + 1 by omega, ent d R]
      refine Eq.trans e2' ?_
      rw [B233_58, n_4, if_neg (nI_nlt (Nat.le_refl _) (by omega)), B233_142]
/-- plan -/
theorem sp234 (h : mB I r s) (h5 : ∀ day, day < 4 → I 205 day = nI 0) (x : Int32) : ∃ I', mQp I I' ∧ (∀ day, day < 4 → I' 205 day = nI 0) ∧ ∀ d R, kX xs (d + 10) 234 0 [some (.ref 185), some (.int x)] [] (kmm I J rf g) R = R (some (.int (aPlan r s x))) (kmm I' J rf g) := by
  have hq := mQp.of (mQ.thr I (nI 0))
  have h' := h.keepP hq
  have hc7 := h.vr.c
  have e0 := h'.rl.nc
  have q2 : mQp I (ku (ku I 185 0 (nI 0)) 185 32 (-1)) := hq.trans (fun x k _ _ _ p4 _ => ku_ne (by omega))
  have dg0 : ∀ day, day < 4 → dg 0 day = 0 := by intro day hd; unfold dg; rw [Nat.zero_div]
  obtain ⟨I2, k1, k2, k3, k4, k5⟩ := sp233 (xs := xs) (J := J) (rf := rf) (g := g) hc7 r.nc 0 0 0 none (ku (ku I 185 0 (nI 0)) 185 32 (-1)) (by omega) rfl (by omega) (by omega) (h.keepP q2) (fun day hd => by rw [ku_nea (by omega), ku_nea (by omega), h5 day hd, dg0 day hd]) (ku_same _ _ _ _) (fun L e => by cases e)
  have k5' : ∀ d R, kX xs (d + 9) 233 0 [some (.ref 185), some (.int (nI 0)), some (.int (nI 0)), none, none] [] (kmm (ku (ku I 185 0 (nI 0)) 185 32 (-1)) J rf g) R = R none (kmm I2 J rf g) := by
    intro d R
    have := k5 (d + 7 - r.nc) R
    rw [show d + 7 - r.nc + r.nc + 2 = d + 9 by omega] at this
    exact this
  have z205 : ∀ day, day < 4 → I2 205 day = nI 0 := fun day hd => by rw [k2 day hd, dg0 day hd]
  unfold aPlan
  by_cases hx : x = -1
  · refine ⟨I2, q2.trans k1, z205, fun d R => ?_⟩
    have ey := k4.y rfl
    rw [Nat.zero_add] at ey
    rw [if_pos hx, B234_0, kp12_0, kO_s, if_pos hx, B234_21, kp12_32, kO_s, krecv_m ks185, kcond_t]
    refine Eq.trans (k5' d _) ?_
    rw [kpush_n, B234_32, if_pos hx, B234_37, kg12_32, kO_s, ey, B234_50]
  · rcases kidx_c x (show r.nc < 2147483648 by omega) with ⟨c, hc, rfl⟩ | h0
    · have hk := kidx_in hc (show r.nc < 2147483648 by omega)
      refine ⟨I2, q2.trans k1, z205, fun d R => ?_⟩
      have ey := k4.b rfl c (by omega) hc
      rw [if_neg hx, hk, if_neg (by decide), nI_clamp (by omega)]
      rw [B234_0, kp12_0, kO_s, if_neg hx, B234_10, krecv_m ks185, kcond_t, show (0 : Int32) = nI 0 from rfl, sp204, e0, hk, kpush_s, B234_15, ← n_0, if_neg (by decide), B234_21, kp12_32, kO_s, krecv_m ks185, kcond_t]
      refine Eq.trans (k5' d _) ?_
      rw [kpush_n, B234_32, if_neg hx, B234_44, kg12_31, kO_s, ka207 (by omega), kO_s, ey, B234_50]
    · refine ⟨_, hq, fun day hd => by rw [ku_nea (by omega), h5 day hd], fun d R => ?_⟩
      rw [if_neg hx, h0, if_pos rfl]
      rw [B234_0, kp12_0, kO_s, if_neg hx, B234_10, krecv_m ks185, kcond_t, show (0 : Int32) = nI 0 from rfl, sp204, e0, h0, kpush_s, B234_15, ← n_0, if_pos rfl, B234_18, c8_m2]
end MPL
