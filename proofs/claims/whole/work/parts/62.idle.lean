/-! idle, spared -/
section QI
variable {xs : List Int32} {d : Nat} {I I' I2 : Nat → Nat → Int32} {J : Nat → Nat → Int64} {rf : Nat → Nat} {g : Nat} {R : Option Value → KW → Prop} {r : aRl} {s u : aSt}
/-- idle -/
theorem sp146 (h : cB I rf r s) : ∃ I', cQ I I' ∧ ∀ d R, kX xs (d + 4) 146 0 [some (.ref 0), none, none, none] [] (kmm I J rf g) R = R (some (.int (aIdle r s))) (kmm I' J rf g) := by
  have ht := h.t
  have hj7 := h.vr.j
  have L : ∃ I2, cQ I I2 ∧ (fun (d : Nat) (R : Option Value → KW → Prop) => kX xs (d + 4) 146 4 [some (.ref 0), some (.int (nI (bzC r s 0))), some (.int (nI 0)), none] [] (kmm I J rf g) R) = (fun d R => kX xs (d + 4) 146 4 [some (.ref 0), some (.int (nI (bzC r s 4))), some (.int (nI 4)), none] [] (kmm I2 J rf g) R) := by
    refine kloop (n := 4) (s0 := I) (fun i I2 => cQ I I2) (fun i I2 => fun (d : Nat) (R : Option Value → KW → Prop) => kX xs (d + 4) 146 4 [some (.ref 0), some (.int (nI (bzC r s i))), some (.int (nI i)), none] [] (kmm I2 J rf g) R) (cQ.refl I) ?_
    intro i I2 hi g2
    obtain ⟨I3, q1, q3, q4⟩ := sp64q (xs := xs) (J := J) (g := g) (h.keep g2) hi
    refine ⟨I3, g2.trans q3, ?_⟩
    funext d R
    have b1 := bzC_le (r := r) (s := s) i
    have b2 := dM7 h.vr s i
    rw [B146_4, n_4, if_pos (nI_lt hi (by omega)), B146_9, kg11_9, kO_s, kg11_2, kO_s, kg11_6, kO_s, krecv_m ks54, kcond_t, q4, kpush_n, B146_25, kg11_9, kO_s, kg8_0, kO_s, q1.m, sp278, kmax_n (by omega) (by omega), kpush_s, B146_36, nI_add1]
    rfl
  obtain ⟨I2, g2, e2⟩ := L
  refine ⟨I2, g2, fun d R => ?_⟩
  have h2 := h.keep g2
  have e1 := h2.rl.nj
  have b4 := bzC_le (r := r) (s := s) 4
  have e2' := congrFun (congrFun e2 d) R
  have L2 := kchain (n := r.nj - bzC r s 4) (fun t => kX xs (d + 4) 146 47 [some (.ref 0), none, some (.int (idF r s (bzC r s 4 + t))), some (.int (nI (bzC r s 4 + t)))] [] (kmm I2 J rf g) R) (by
    intro t ht'
    have ec := h2.st.ch (bzC r s 4 + t) (by omega)
    show kX xs (d + 4) 146 47 _ _ _ _ = kX xs (d + 4) 146 47 _ _ _ _
    have hf : idF r s (bzC r s 4 + (t + 1)) = idF r s (bzC r s 4 + t) ||| (1 <<< (nI (s.ch (bzC r s 4 + t)) &&& 31)) := if_pos (Nat.le_add_right _ _)
    rw [B146_47, kg11_2, kO_s, kg6_0 ht, kO_s, e1, if_pos (nI_lt (by omega) (by omega)), B146_58, kg11_6, kO_s, kg9_5 ks39, kO_s, ka9_4 ks39 (by omega), kO_s, ec, nI_add1, hf]
    rfl)
  rw [B146_0]
  refine Eq.trans e2' ?_
  rw [B146_4, n_4, if_neg (nI_nlt (Nat.le_refl _) (by omega)), B146_43]
  refine Eq.trans (Eq.trans ?_ L2) ?_
  · show _ = kX xs (d + 4) 146 47 _ _ _ _
    rw [show bzC r s 4 + 0 = bzC r s 4 from rfl, idF_0 _ (Nat.le_refl _)]
    rfl
  · show kX xs (d + 4) 146 47 _ _ _ _ = _
    rw [show bzC r s 4 + (r.nj - bzC r s 4) = r.nj by omega, B146_47, kg11_2, kO_s, kg6_0 ht, kO_s, e1, if_neg (nI_nlt (Nat.le_refl _) (by omega)), B146_78]
    rfl
theorem sp265 (h : mB I r s) : ∃ I', mQ I I' ∧ ∀ d R, kX xs (d + 2) 265 0 [some (.ref 185), none, none, none, none] [] (kmm I J rf g) R = R (some (.int (aIdle r s))) (kmm I' J rf g) := by
  have hq := mQ.thr I (nI 0)
  have hj7 := h.vr.j
  have L : ∃ I2, mQ I I2 ∧ (fun (d : Nat) (R : Option Value → KW → Prop) => kX xs (d + 2) 265 9 [some (.ref 185), some (.int (idF r s 0)), some (.int (nI 0)), none, none] [] (kmm (ku I 185 0 (nI 0)) J rf g) R) = (fun d R => kX xs (d + 2) 265 9 [some (.ref 185), some (.int (idF r s r.nj)), some (.int (nI r.nj)), none, none] [] (kmm I2 J rf g) R) := by
    refine kloop (n := r.nj) (s0 := ku I 185 0 (nI 0)) (fun i I2 => mQ I I2) (fun i I2 => fun (d : Nat) (R : Option Value → KW → Prop) => kX xs (d + 2) 265 9 [some (.ref 185), some (.int (idF r s i)), some (.int (nI i)), none, none] [] (kmm I2 J rf g) R) hq ?_
    intro k I2 hk g2
    have L2 : ∃ I3, mQ I I3 ∧ (fun (d : Nat) (R : Option Value → KW → Prop) => kX xs (d + 2) 265 22 [some (.ref 185), some (.int (idF r s k)), some (.int (nI k)), some (.int (if bzC r s 0 ≤ k then 1 else nI 0)), some (.int (nI 0))] [] (kmm I2 J rf g) R) = (fun d R => kX xs (d + 2) 265 22 [some (.ref 185), some (.int (idF r s k)), some (.int (nI k)), some (.int (if bzC r s 4 ≤ k then 1 else nI 0)), some (.int (nI 4))] [] (kmm I3 J rf g) R) := by
      refine kloop (n := 4) (s0 := I2) (fun i I3 => mQ I I3) (fun i I3 => fun (d : Nat) (R : Option Value → KW → Prop) => kX xs (d + 2) 265 22 [some (.ref 185), some (.int (idF r s k)), some (.int (nI k)), some (.int (if bzC r s i ≤ k then 1 else nI 0)), some (.int (nI i))] [] (kmm I3 J rf g) R) g2 ?_
      intro i I3 hi g3
      obtain ⟨I4, q1, q3, q4⟩ := sp210q (xs := xs) (J := J) (rf := rf) (g := g) (h.keep g3) hi
      refine ⟨I4, g3.trans q3, ?_⟩
      funext d R
      have b2 := dM7 h.vr s i
      rw [B265_22, n_4, if_pos (nI_lt hi (by omega)), B265_28, krecv_m ks185, kcond_t, n_0, q4, kpush_n, B265_35, bzC]
      by_cases q : bzC r s i ≤ k
      · rw [if_pos q, if_neg (show ¬ (1 : Int32) = 0 by decide), B265_39, kg12_28, kO_s, q1.m]
        by_cases q' : k < dM r s i
        · rw [if_pos (nI_lt q' (by omega)), B265_51, B265_52, nI_add1, if_neg (show ¬ max (bzC r s i) (dM r s i) ≤ k by omega)]
          rfl
        · rw [if_neg (nI_nlt (by omega) (by omega)), B265_47, B265_52, nI_add1, if_pos (show max (bzC r s i) (dM r s i) ≤ k by omega)]
      · rw [if_neg q, if_pos (show nI 0 = 0 from rfl), B265_51, B265_52, nI_add1, if_neg (show ¬ max (bzC r s i) (dM r s i) ≤ k by omega)]
        rfl
    obtain ⟨I3, g3, e3⟩ := L2
    refine ⟨I3, g3, ?_⟩
    funext d R
    have e3' := congrFun (congrFun e3 d) R
    have e1 := (h.keep g2).rl.nj
    have ec := (h.keep g3).st.ch k hk
    rw [show 0 + 16 + k = 16 + k by omega] at ec
    rw [B265_9, krecv_m ks185, kcond_t, sp199, kpush_s, B265_14, e1, if_pos (nI_lt hk (by omega)), B265_17]
    refine Eq.trans e3' ?_
    rw [B265_22, n_4, if_neg (nI_nlt (Nat.le_refl _) (by omega)), B265_59]
    by_cases q : bzC r s 4 ≤ k
    · have hf : idF r s (k + 1) = idF r s k ||| (1 <<< (nI (s.ch k) &&& 31)) := if_pos q
      rw [if_pos q, if_neg (show ¬ (1 : Int32) = 0 by decide), B265_64, kg12_23, kO_s, c8_16, nI_add, ka201 (by omega), kO_s, ec, B265_79, nI_add1, hf]
    · have hf : idF r s (k + 1) = idF r s k := if_neg q
      rw [if_neg q, if_pos (show nI 0 = 0 from rfl), B265_78, B265_79, nI_add1, hf, n_0, or_n0]
  obtain ⟨I2, g2, e2⟩ := L
  refine ⟨I2, g2, fun d R => ?_⟩
  have e2' := congrFun (congrFun e2 d) R
  have e1 := (h.keep g2).rl.nj
  rw [B265_0, kp12_0, kO_s, n_0]
  refine Eq.trans e2' ?_
  rw [B265_9, krecv_m ks185, kcond_t, sp199, kpush_s, B265_14, e1, if_neg (nI_nlt (Nat.le_refl _) (by omega)), B265_87]
  rfl
/-- spared -/
theorem sp71g (vr : vRl r) (q : cDealt I r u) : kX xs d 71 0 [some (.ref 54), none, none] [] (kmm I J rf g) R = R (some (.int (sprF r u))) (kmm I J rf g) := by
  have hm7 := dM7 vr u u.nx
  have e : kfold (fun p x => if I 56 (dS r u p) < I 56 p then x ||| (1 <<< (I 55 p &&& 31)) else x) (dM r u u.nx) = sprF r u := by
    refine kfold_eq _ (fun p x hp => ?_)
    have hs := dS_lt (r := r) (s := u) hp
    have b1 := dA_le r u u.nx (dS r u p)
    have b2 := dA_le r u u.nx p
    have e1 := q.day.a _ hs
    have e2 := q.day.h p hp
    have e3 := q.day.a p hp
    rw [e1, e2, e3]
    by_cases hq : dA r u u.nx (dS r u p) < dA r u u.nx p
    · rw [if_pos hq, if_pos (nI_lt hq (by omega))]
    · rw [if_neg hq, if_neg (nI_nlt (by omega) (by omega))]
  rw [sp71 hm7 q.day.m (S := dS r u) (fun p hp => ⟨q.so p hp, by have := dS_lt (r := r) (s := u) hp; omega⟩), e]
theorem sp134 (h : cB I rf r s) : ∃ I', cQ I I' ∧ ∀ d R, kX xs (d + 5) 134 0 [some (.ref 0), none, none] [] (kmm I J rf g) R = R (some (.int (aSpared r s))) (kmm I' J rf g) := by
  obtain ⟨I1, s1, f1, e1⟩ := sp87q (xs := xs) (J := J) (g := g) h (Or.inl rfl)
  have L : ∃ I2, (cSt I2 44 (adv r s 4) ∧ cQ I I2) ∧ (fun (d : Nat) (R : Option Value → KW → Prop) => kX xs (d + 5) 134 15 [some (.ref 0), some (.int (orN (fun n => sprF r (adv r s n)) 0)), some (.int (nI 0))] [] (kmm I1 J rf g) R) = (fun d R => kX xs (d + 5) 134 15 [some (.ref 0), some (.int (orN (fun n => sprF r (adv r s n)) 4)), some (.int (nI 4))] [] (kmm I2 J rf g) R) := by
    refine kloop (n := 4) (s0 := I1) (fun i I2 => cSt I2 44 (adv r s i) ∧ cQ I I2) (fun i I2 => fun (d : Nat) (R : Option Value → KW → Prop) => kX xs (d + 5) 134 15 [some (.ref 0), some (.int (orN (fun n => sprF r (adv r s n)) i)), some (.int (nI i))] [] (kmm I2 J rf g) R) ⟨s1, f1⟩ ?_
    intro i I2 hi ⟨g1, g2⟩
    obtain ⟨I3, q1, q2, q3, q4⟩ := sp65q (xs := xs) (J := J) (g := g) (h.keep g2) (adv_v h.vr h.vs i) g1
    refine ⟨I3, ⟨q2, g2.trans q3⟩, ?_⟩
    funext d R
    rw [B134_15, n_4, if_pos (nI_lt hi (by omega)), B134_20, kg11_9, kO_s, kg11_2, kO_s, kg11_7, kO_s, krecv_m ks54, kcond_t, q4, kpush_n, B134_35, kg11_9, kO_s, krecv_m ks54, kcond_t, sp71g h.vr q1, kpush_s, B134_43, nI_add1]
    rfl
  obtain ⟨I2, ⟨g1, g2⟩, e2⟩ := L
  refine ⟨I2, g2, fun d R => ?_⟩
  have e2' := congrFun (congrFun e2 d) R
  rw [B134_0, kg11_7, kO_s, kg11_6, kO_s, krecv_m ks44, kcond_t, e1, kpush_n, B134_13]
  refine Eq.trans e2' ?_
  rw [B134_15, n_4, if_neg (nI_nlt (Nat.le_refl _) (by omega)), B134_51]
  rfl
theorem sp240 (h : mB I r s) : ∃ I', mQ I I' ∧ ∀ d R, kX xs (d + 6) 240 0 [some (.ref 185), none, none, none] [] (kmm I J rf g) R = R (some (.int (aSpared r s))) (kmm I' J rf g) := by
  have hq := mQ.thr I (nI 0)
  have L : ∃ I2, mQ I I2 ∧ (fun (d : Nat) (R : Option Value → KW → Prop) => kX xs (d + 6) 240 9 [some (.ref 185), some (.int (orN (fun n => sprF r (nxt r s n)) 0)), some (.int (nI 0)), none] [] (kmm (ku I 185 0 (nI 0)) J rf g) R) = (fun d R => kX xs (d + 6) 240 9 [some (.ref 185), some (.int (orN (fun n => sprF r (nxt r s n)) 4)), some (.int (nI 4)), none] [] (kmm I2 J rf g) R) := by
    refine kloop (n := 4) (s0 := ku I 185 0 (nI 0)) (fun i I2 => mQ I I2) (fun i I2 => fun (d : Nat) (R : Option Value → KW → Prop) => kX xs (d + 6) 240 9 [some (.ref 185), some (.int (orN (fun n => sprF r (nxt r s n)) i)), some (.int (nI i)), none] [] (kmm I2 J rf g) R) hq ?_
    intro i I2 hi g2
    obtain ⟨I3, a1, a2, a3, a4⟩ := sp238 (xs := xs) (J := J) (rf := rf) (g := g) (h.keep g2) hi
    refine ⟨I3, g2.trans a3, ?_⟩
    funext d R
    have h3 := h.keep (g2.trans a3)
    have hm7 := dM7 h.vr (nxt r s i) (nxt r s i).nx
    have em := a2.day.m
    have L2 := fun l1 => kchain (n := dM r (nxt r s i) (nxt r s i).nx) (fun t => kX xs (d + 6) 240 21 [some (.ref 185), some (.int (l1 ||| kfold (fun p x => if dA r (nxt r s i) (nxt r s i).nx (dS r (nxt r s i) p) < dA r (nxt r s i) (nxt r s i).nx p then x ||| (1 <<< (nI (dH r (nxt r s i) (nxt r s i).nx p) &&& 31)) else x) t)), some (.int (nI i)), some (.int (nI t))] [] (kmm I3 J rf g) R) (by
      intro t ht
      have z1 := a2.so t ht
      have z2 := a2.day.h t ht
      have hs := dS_lt (r := r) (s := nxt r s i) ht
      have b1 := dA_le r (nxt r s i) (nxt r s i).nx (dS r (nxt r s i) t)
      have b2 := dA_le r (nxt r s i) (nxt r s i).nx t
      show kX xs (d + 6) 240 21 _ _ _ _ = kX xs (d + 6) 240 21 _ _ _ _
      rw [B240_21, kg12_28, kO_s, em, if_pos (nI_lt ht (by omega)), B240_29, kg12_27, kO_s, ka204 (by omega), kO_s, z1, krecv_m ks185, kcond_t, c16_1155, sp214 (by omega) h.vr (nxt_v h.vr h.vs) h3.rl a1 a2.day hs, kpush_s, B240_43, krecv_m ks185, kcond_t, c16_1155, sp214 (by omega) h.vr (nxt_v h.vr h.vs) h3.rl a1 a2.day ht, kpush_s, B240_51, kfold]
      by_cases q : dA r (nxt r s i) (nxt r s i).nx (dS r (nxt r s i) t) < dA r (nxt r s i) (nxt r s i).nx t
      · rw [if_pos (nI_lt q (by omega)), if_pos q, B240_54, kg12_26, kO_s, ka203 (by omega), kO_s, z2, B240_66, nI_add1, Int32.or_assoc]
      · rw [if_neg (nI_nlt (by omega) (by omega)), if_neg q, B240_65, B240_66, nI_add1, n_0, or_n0])
    rw [B240_9, n_4, if_pos (nI_lt hi (by omega)), B240_14, krecv_m ks185, kcond_t, a4, kpush_n, B240_19]
    refine Eq.trans (Eq.trans ?_ (L2 (orN (fun n => sprF r (nxt r s n)) i))) ?_
    · show _ = kX xs (d + 6) 240 21 _ _ _ _
      rw [kfold, n_0, or_n0]
    · show kX xs (d + 6) 240 21 _ _ _ _ = _
      rw [B240_21, kg12_28, kO_s, em, if_neg (nI_nlt (Nat.le_refl _) (by omega)), B240_74, nI_add1]
      rfl
  obtain ⟨I2, g2, e2⟩ := L
  refine ⟨I2, g2, fun d R => ?_⟩
  have e2' := congrFun (congrFun e2 d) R
  rw [B240_0, kp12_0, kO_s, n_0]
  refine Eq.trans e2' ?_
  rw [B240_9, n_4, if_neg (nI_nlt (Nat.le_refl _) (by omega)), B240_80, spared_days h.vs.nx]
end QI
