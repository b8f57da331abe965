/-! folds, bests; own, strange, crowd, heavy -/
theorem kfold_eq {f f' : Nat → Int32 → Int32} : ∀ n, (∀ k x, k < n → f k x = f' k x) → kfold f n = kfold f' n := by
  intro n
  induction n with
  | zero => intro _; rfl
  | succ n ih =>
    intro h
    rw [kfold, kfold, ih (fun k x hk => h k x (by omega)), h n _ (by omega)]
theorem nI_m1 {a : Nat} (h : a < 2147483648) : (nI a = -1) = False := by
  refine eq_false (fun e => ?_)
  have e2 := congrArg Int32.toInt e
  rw [nI_toInt (by omega)] at e2
  have : (-1 : Int32).toInt = -1 := by decide
  omega
theorem or_n0 (x : Int32) : x ||| nI 0 = x := by
  rw [nI_0]
  exact Int32.or_zero
/-- the best of the first n + 1 -/
def abN (f : Nat → Nat → Bool) : Nat → Nat
  | 0 => 0
  | n + 1 => if f (n + 1) (abN f n) then n + 1 else abN f n
def abI (f : Nat → Nat → Bool) : Nat → Int32
  | 0 => -1
  | n + 1 => nI (abN f n)
theorem abN_le (f : Nat → Nat → Bool) : ∀ n, abN f n ≤ n := by
  intro n
  induction n with
  | zero => exact Nat.le_refl _
  | succ n ih =>
    rw [abN]
    split <;> omega
abbrev mDealt (I : Nat → Nat → Int32) (r : aRl) (u : aSt) : Prop := (mDay I r u u.nx) ∧ (∀ p, p < dM r u u.nx → I 204 p = nI (dS r u p))
theorem mDealt.day {I : Nat → Nat → Int32} {r : aRl} {u : aSt} (h : mDealt I r u) : mDay I r u u.nx := h.1
theorem mDealt.so {I : Nat → Nat → Int32} {r : aRl} {u : aSt} (h : mDealt I r u) : ∀ p, p < dM r u u.nx → I 204 p = nI (dS r u p) := h.2
def ownF (r : aRl) (u : aSt) : Int32 := kfold (fun p x => if dS r u p = p then x ||| (1 <<< (nI (dH r u u.nx p) &&& 31)) else x) (dM r u u.nx)
def aOwn (r : aRl) (s : aSt) (x : Int32) : Int32 := if kidx x (nI 4) = 0 then -1 else ownF r (nxt r s x.toNatClampNeg)
/-- in how many ways none gets their own -/
def drg : Nat → Nat
  | 0 => 1
  | 1 => 0
  | n + 2 => (n + 1) * (drg n + drg (n + 1))
def aStrange (r : aRl) (s : aSt) (x : Int32) : Int32 := if kidx x (nI 4) = 0 then -1 else nI (drg (dM r s x.toNatClampNeg))
def crF (r : aRl) (s : aSt) (day : Nat) : Int32 := kfold (fun t x => if s.up t = day then x ||| (1 <<< (nI t &&& 31)) else x) r.nc
def aCrowd (r : aRl) (s : aSt) (x : Int32) : Int32 := if kidx x (nI 4) = 0 then -1 else crF r s x.toNatClampNeg
/-- what a day gives, together -/
def gvD (r : aRl) (s : aSt) (day : Nat) : Nat := nsum (dA r s day) (dM r s day)
theorem gvD_le {r : aRl} (vr : vRl r) (s : aSt) (day : Nat) : gvD r s day ≤ 280 := by
  have h := nsum_le (f := dA r s day) (b := 40) (dM r s day) (fun k _ => dA_le r s day k)
  have h7 := dM7 vr s day
  unfold gvD
  omega
def hvD (r : aRl) (s : aSt) : Nat → Nat
  | 0 => 0
  | n + 1 => if gvD r s (hvD r s n) < gvD r s n then n else hvD r s n
theorem hvD_lt (r : aRl) (s : aSt) : ∀ n, hvD r s n ≤ n := by
  intro n
  induction n with
  | zero => exact Nat.le_refl _
  | succ n ih =>
    rw [hvD]
    split <;> omega
def aHeavy (r : aRl) (s : aSt) : Int32 := nI (hvD r s 4)
section QS
variable {xs : List Int32} {d : Nat} {I I' I2 : Nat → Nat → Int32} {J : Nat → Nat → Int64} {rf : Nat → Nat} {g : Nat} {R : Option Value → KW → Prop} {r : aRl} {s u : aSt}
/-- sitOn, by the base -/
theorem sp64q (h : cB I rf r s) {day : Nat} (hd : day < 4) : ∃ I', cDay I' r s day ∧ cQ I I' ∧ ∀ d R, kX xs (d + 3) 64 0 [some (.ref 54), some (.ref (rf 2)), some (.ref 39), some (.int (nI day)), none] [] (kmm I J rf g) R = R none (kmm I' J rf g) := by
  obtain ⟨I', q1, q3, q4⟩ := sp64e (xs := xs) (J := J) (rf := rf) (g := g) h.t ks39 h.vr h.vs h.rl h.st hd
  exact ⟨I', q1, cQ_sit q3, q4⟩
theorem sp210q (h : mB I r s) {day : Nat} (hd : day < 4) : ∃ I', mDay I' r s day ∧ mQ I I' ∧ ∀ d R, kX xs (d + 1) 210 0 [some (.ref 185), some (.int (nI 0)), some (.int (nI day)), none] [] (kmm I J rf g) R = R none (kmm I' J rf g) := by
  have hc := h.vr.c
  obtain ⟨I2, a1, a2, a3⟩ := sp210 (xs := xs) (J := J) (rf := rf) (g := g) (b := 0) (by omega) h.vr (fun k hk => h.vs.up k (by omega)) h.rl h.st hd
  exact ⟨I2, a1, mQ_lis a2, a3⟩
theorem sp66q (h : cB I rf r s) {day : Nat} (hd : day < 4) : ∃ I', cDealt I' r (nxt r s day) ∧ cQ I I' ∧ ∀ d R, kX xs (d + 5) 66 0 [some (.ref 54), some (.ref (rf 2)), some (.ref 39), some (.ref 44), some (.int (nI day)), none, none] [] (kmm I J rf g) R = R none (kmm I' J rf g) := by
  obtain ⟨I', q1, q2, q3, q4⟩ := sp66e (xs := xs) (J := J) (rf := rf) (g := g) h.t ks39 ks44 (by decide) h.vr h.vs h.rl h.st hd
  exact ⟨I', q1, cQ_of h.t (Or.inl rfl) q3, q4⟩
/-- dealsNext -/
theorem sp238 (h : mB I r s) {day : Nat} (hd : day < 4) : ∃ I', mSt I' 1155 r (nxt r s day) ∧ mDealt I' r (nxt r s day) ∧ mQ I I' ∧ ∀ d R, kX xs (d + 5) 238 0 [some (.ref 185), some (.int (nI day))] [] (kmm I J rf g) R = R none (kmm I' J rf g) := by
  obtain ⟨I1, s1, f1, e1⟩ := sp217 (xs := xs) (J := J) (rf := rf) (g := g) h.vr h.st
  have hr1 : mRl I1 r := h.rl.keep (fun x k h1 h2 => f1 x k (by omega))
  obtain ⟨I2, a1, a2, a3, a4, a5⟩ := sp216 (xs := xs) (J := J) (rf := rf) (g := g) h.vr h.vs hr1 s1 hd
  have hn := nxt_nx (r := r) h.vs.nx hd
  refine ⟨I2, a1, ⟨by rw [hn]; exact a2, by rw [hn]; exact a3⟩, (mQ_cp f1).trans (mQ_of a4), fun d R => ?_⟩
  rw [B238_0, krecv_m ks185, kcond_t, e1, kpush_n, B238_4, krecv_m ks185, kcond_t, a5, kpush_n, B238_9]
theorem sp70g (vr : vRl r) (q : cDealt I r u) : kX xs d 70 0 [some (.ref 54), none, none] [] (kmm I J rf g) R = R (some (.int (ownF r u))) (kmm I J rf g) := by
  have hm7 := dM7 vr u u.nx
  have e : kfold (fun p x => if I 57 p = nI p then x ||| (1 <<< (I 55 p &&& 31)) else x) (dM r u u.nx) = ownF r u := by
    refine kfold_eq _ (fun p x hp => ?_)
    have hs := dS_lt (r := r) (s := u) hp
    have e1 := q.so p hp
    have e2 := q.day.h p hp
    rw [e1, e2]
    by_cases hq : dS r u p = p
    · rw [if_pos hq, if_pos (congrArg nI hq)]
    · rw [if_neg hq, if_neg (fun e => hq (by rw [nI_inj (by omega) (by omega)] at e; exact e))]
  rw [sp70 hm7 q.day.m, e]
/-- own -/
theorem sp124 (h : cB I rf r s) (x : Int32) : ∃ I', cQ I I' ∧ ∀ d R, kX xs (d + 6) 124 0 [some (.ref 0), some (.int x)] [] (kmm I J rf g) R = R (some (.int (aOwn r s x))) (kmm I' J rf g) := by
  unfold aOwn
  rcases kidx_c x (show 4 < 2147483648 by omega) with ⟨n, hn, rfl⟩ | h0
  · obtain ⟨I', q1, q3, q4⟩ := sp66q (xs := xs) (J := J) (g := g) h hn
    refine ⟨I', q3, fun d R => ?_⟩
    have hk := kidx_in hn (show 4 < 2147483648 by omega)
    have h70 : ∀ d R, kX xs d 70 0 [some (.ref 54), none, none] [] (kmm I' J rf g) R = _ := fun d R => sp70g h.vr q1
    rw [hk, if_neg (by decide), nI_clamp (by omega)]
    simp (disch := omega) only [B124_0, B124_4, B124_7, B124_9, B124_29, B124_36, kO_s, kcond_t, kpush_s, kpush_n, nI_add, nI_add1, pk_mul, n_0, n_2, n_3, n_4, n_5, if_true, if_false, Nat.add_zero, krecv_m ks0, krecv_m ks54, kg1_0, kg2_0, kp2_0, kg2_1, kg2_2, kp2_2, kg2_3, kp2_3, kg2_4, kp2_4, kg2_5, kp2_5, kg2_6, kp2_6, kg2_7, kp2_7, kg3_0, kp3_0, kg3_1, kp3_1, kg3_2, kg4_0, kg4_1, kg5_0, kg5_1, kg5_2, kp5_2, kg5_3, kp5_3, kg5_4, kp5_4, kg5_5, kp5_5, kg8_0, kp8_0, kg8_1, kg8_2, kg8_3, kg8_4, kg8_5, kg8_6, kg8_7, kg11_0, kg11_1, kg11_2, kg11_3, kg11_4, kg11_5, kg11_6, kg11_7, kg11_8, kg11_9, kg11_10, kg11_11, kg11_12, kg11_13, kg11_14, kg11_15, kg11_16, kp11_16, kb2, kv2, ka55, kw55, ka56, kw56, ka57, kw57, ka58, kw58, kb59, kv59, ka60, kw60, ka61, kw61, ka63, kw63, ka64, kw64, kr66, kr150, kr151, kb152, kv152, c8_m17, c8_m16, c8_m15, c8_m14, c8_m13, c8_m12, c8_m11, c8_m10, c8_m2, c8_6, c8_7, c8_8, c8_9, c8_10, c8_11, c8_12, c8_13, c8_14, c8_15, c8_16, c8_17, c8_18, c8_19, c8_20, c8_21, c8_22, c8_23, c8_25, c8_30, c8_31, c8_32, c8_39, c8_40, c8_41, c8_42, c8_43, c8_45, c8_48, c8_55, c8_56, c8_57, c8_59, c8_60, c8_61, c8_63, c8_70, c8_90, c8_91, c8_92, c8_93, c8_94, c8_96, c8_97, c8_99, c8_115, c8_122, c8_125, c8_126, c8_127, c16_128, c16_129, c16_131, c16_132, c16_135, c16_136, c16_137, c16_138, c16_139, c16_142, c16_143, c16_144, c16_145, c16_146, c16_149, c16_180, c16_250, c16_255, c16_1000, c16_1002, c16_1100, c16_1155, c16_1157, c16_1164, c16_1178, c16_1210, c16_1212, c16_1219, c16_1233, c16_1265, c16_2200, c16_4095, c16_4096, c16_9999, c16_12345, one0, m1_lt0, nI20, nI40, sp153, hk, q4, h70]
  · refine ⟨I, cQ.refl I, fun d R => ?_⟩
    rw [h0, if_pos rfl]
    simp (disch := omega) only [B124_0, B124_4, B124_7, B124_9, B124_29, B124_36, kO_s, kcond_t, kpush_s, kpush_n, nI_add, nI_add1, pk_mul, n_0, n_2, n_3, n_4, n_5, if_true, if_false, Nat.add_zero, krecv_m ks0, krecv_m ks54, kg1_0, kg2_0, kp2_0, kg2_1, kg2_2, kp2_2, kg2_3, kp2_3, kg2_4, kp2_4, kg2_5, kp2_5, kg2_6, kp2_6, kg2_7, kp2_7, kg3_0, kp3_0, kg3_1, kp3_1, kg3_2, kg4_0, kg4_1, kg5_0, kg5_1, kg5_2, kp5_2, kg5_3, kp5_3, kg5_4, kp5_4, kg5_5, kp5_5, kg8_0, kp8_0, kg8_1, kg8_2, kg8_3, kg8_4, kg8_5, kg8_6, kg8_7, kg11_0, kg11_1, kg11_2, kg11_3, kg11_4, kg11_5, kg11_6, kg11_7, kg11_8, kg11_9, kg11_10, kg11_11, kg11_12, kg11_13, kg11_14, kg11_15, kg11_16, kp11_16, kb2, kv2, ka55, kw55, ka56, kw56, ka57, kw57, ka58, kw58, kb59, kv59, ka60, kw60, ka61, kw61, ka63, kw63, ka64, kw64, kr66, kr150, kr151, kb152, kv152, c8_m17, c8_m16, c8_m15, c8_m14, c8_m13, c8_m12, c8_m11, c8_m10, c8_m2, c8_6, c8_7, c8_8, c8_9, c8_10, c8_11, c8_12, c8_13, c8_14, c8_15, c8_16, c8_17, c8_18, c8_19, c8_20, c8_21, c8_22, c8_23, c8_25, c8_30, c8_31, c8_32, c8_39, c8_40, c8_41, c8_42, c8_43, c8_45, c8_48, c8_55, c8_56, c8_57, c8_59, c8_60, c8_61, c8_63, c8_70, c8_90, c8_91, c8_92, c8_93, c8_94, c8_96, c8_97, c8_99, c8_115, c8_122, c8_125, c8_126, c8_127, c16_128, c16_129, c16_131, c16_132, c16_135, c16_136, c16_137, c16_138, c16_139, c16_142, c16_143, c16_144, c16_145, c16_146, c16_149, c16_180, c16_250, c16_255, c16_1000, c16_1002, c16_1100, c16_1155, c16_1157, c16_1164, c16_1178, c16_1210, c16_1212, c16_1219, c16_1233, c16_1265, c16_2200, c16_4095, c16_4096, c16_9999, c16_12345, one0, m1_lt0, nI20, nI40, sp153, h0]
theorem sp239 (h : mB I r s) (x : Int32) : ∃ I', mQ I I' ∧ ∀ d R, kX xs (d + 6) 239 0 [some (.ref 185), some (.int x), none, none] [] (kmm I J rf g) R = R (some (.int (aOwn r s x))) (kmm I' J rf g) := by
  have hq := mQ.thr I (nI 0)
  have h' := h.keep hq
  unfold aOwn
  rcases kidx_c x (show 4 < 2147483648 by omega) with ⟨n, hn, rfl⟩ | h0
  · obtain ⟨I', -, q1, q3, q4⟩ := sp238 (xs := xs) (J := J) (rf := rf) (g := g) h' hn
    refine ⟨I', hq.trans q3, fun d R => ?_⟩
    have hk := kidx_in hn (show 4 < 2147483648 by omega)
    rw [hk, if_neg (by decide), nI_clamp (by omega)]
    have hm7 := dM7 h.vr (nxt r s n) (nxt r s n).nx
    have em := q1.day.m
    have L := kchain (n := dM r (nxt r s n) (nxt r s n).nx) (fun t => kX xs (d + 6) 239 23 [some (.ref 185), none, some (.int (kfold (fun p x => if dS r (nxt r s n) p = p then x ||| (1 <<< (nI (dH r (nxt r s n) (nxt r s n).nx p) &&& 31)) else x) t)), some (.int (nI t))] [] (kmm I' J rf g) R) (by
      intro t ht
      have e1 := q1.so t ht
      have e2 := q1.day.h t ht
      have hs := dS_lt (r := r) (s := nxt r s n) ht
      show kX xs (d + 6) 239 23 _ _ _ _ = kX xs (d + 6) 239 23 _ _ _ _
      rw [B239_23, kfold]
      by_cases hq : dS r (nxt r s n) t = t
      · simp (disch := omega) only [B239_0, B239_9, B239_12, B239_14, B239_19, B239_31, B239_42, B239_53, B239_54, B239_62, kO_s, kcond_t, kpush_s, kpush_n, nI_add, nI_add1, pk_mul, n_0, n_2, n_3, n_4, n_5, if_true, if_false, Nat.add_zero, krecv_m ks185, kg12_0, kp12_0, kg12_1, kg12_2, kp12_2, kg12_3, kp12_3, kg12_4, kg12_5, kg12_6, kg12_7, kp12_7, kg12_8, kp12_8, kg12_9, kg12_10, kg12_11, kg12_12, kg12_13, kp12_13, kg12_14, kg12_15, kg12_16, kg12_17, kg12_18, kp12_18, kg12_19, kp12_19, kg12_20, kg12_21, kg12_22, kg12_23, kg12_24, kp12_24, kg12_25, kg12_26, kg12_27, kg12_28, kp12_28, kg12_29, kg12_30, kg12_31, kg12_32, kp12_32, kg12_33, kp12_33, ka186, kw186, ka187, kw187, ka188, kw188, kj189, kk189, kj190, kk190, ka191, kw191, ka192, kw192, ka193, kw193, kj194, kk194, kj195, kk195, ka196, kw196, ka197, kw197, ka198, kw198, ka199, kw199, ka200, kw200, ka201, kw201, kb202, kv202, ka203, kw203, ka204, kw204, ka205, kw205, ka206, kw206, ka207, kw207, kj208, kk208, c8_m17, c8_m16, c8_m15, c8_m14, c8_m13, c8_m12, c8_m11, c8_m10, c8_m2, c8_6, c8_7, c8_8, c8_9, c8_10, c8_11, c8_12, c8_13, c8_14, c8_15, c8_16, c8_17, c8_18, c8_19, c8_20, c8_21, c8_22, c8_23, c8_25, c8_30, c8_31, c8_32, c8_39, c8_40, c8_41, c8_42, c8_43, c8_45, c8_48, c8_55, c8_56, c8_57, c8_59, c8_60, c8_61, c8_63, c8_70, c8_90, c8_91, c8_92, c8_93, c8_94, c8_96, c8_97, c8_99, c8_115, c8_122, c8_125, c8_126, c8_127, c16_128, c16_129, c16_131, c16_132, c16_135, c16_136, c16_137, c16_138, c16_139, c16_142, c16_143, c16_144, c16_145, c16_146, c16_149, c16_180, c16_250, c16_255, c16_1000, c16_1002, c16_1100, c16_1155, c16_1157, c16_1164, c16_1178, c16_1210, c16_1212, c16_1219, c16_1233, c16_1265, c16_2200, c16_4095, c16_4096, c16_9999, c16_12345, nI_inj, nI_lt_eq, nI_eq1, Nat.reduceEqDiff, em, ht, e1, e2, hq]
      · simp (disch := omega) only [B239_0, B239_9, B239_12, B239_14, B239_19, B239_31, B239_42, B239_53, B239_54, B239_62, kO_s, kcond_t, kpush_s, kpush_n, nI_add, nI_add1, pk_mul, n_0, n_2, n_3, n_4, n_5, if_true, if_false, Nat.add_zero, krecv_m ks185, kg12_0, kp12_0, kg12_1, kg12_2, kp12_2, kg12_3, kp12_3, kg12_4, kg12_5, kg12_6, kg12_7, kp12_7, kg12_8, kp12_8, kg12_9, kg12_10, kg12_11, kg12_12, kg12_13, kp12_13, kg12_14, kg12_15, kg12_16, kg12_17, kg12_18, kp12_18, kg12_19, kp12_19, kg12_20, kg12_21, kg12_22, kg12_23, kg12_24, kp12_24, kg12_25, kg12_26, kg12_27, kg12_28, kp12_28, kg12_29, kg12_30, kg12_31, kg12_32, kp12_32, kg12_33, kp12_33, ka186, kw186, ka187, kw187, ka188, kw188, kj189, kk189, kj190, kk190, ka191, kw191, ka192, kw192, ka193, kw193, kj194, kk194, kj195, kk195, ka196, kw196, ka197, kw197, ka198, kw198, ka199, kw199, ka200, kw200, ka201, kw201, kb202, kv202, ka203, kw203, ka204, kw204, ka205, kw205, ka206, kw206, ka207, kw207, kj208, kk208, c8_m17, c8_m16, c8_m15, c8_m14, c8_m13, c8_m12, c8_m11, c8_m10, c8_m2, c8_6, c8_7, c8_8, c8_9, c8_10, c8_11, c8_12, c8_13, c8_14, c8_15, c8_16, c8_17, c8_18, c8_19, c8_20, c8_21, c8_22, c8_23, c8_25, c8_30, c8_31, c8_32, c8_39, c8_40, c8_41, c8_42, c8_43, c8_45, c8_48, c8_55, c8_56, c8_57, c8_59, c8_60, c8_61, c8_63, c8_70, c8_90, c8_91, c8_92, c8_93, c8_94, c8_96, c8_97, c8_99, c8_115, c8_122, c8_125, c8_126, c8_127, c16_128, c16_129, c16_131, c16_132, c16_135, c16_136, c16_137, c16_138, c16_139, c16_142, c16_143, c16_144, c16_145, c16_146, c16_149, c16_180, c16_250, c16_255, c16_1000, c16_1002, c16_1100, c16_1155, c16_1157, c16_1164, c16_1178, c16_1210, c16_1212, c16_1219, c16_1233, c16_1265, c16_2200, c16_4095, c16_4096, c16_9999, c16_12345, nI_inj, nI_lt_eq, nI_eq1, Nat.reduceEqDiff, em, ht, e1, e2, hq, or_n0])
    rw [B239_0]
    simp (disch := omega) only [B239_9, B239_12, B239_14, B239_19, kO_s, kcond_t, kpush_s, kpush_n, nI_add, nI_add1, pk_mul, n_0, n_2, n_3, n_4, n_5, if_true, if_false, Nat.add_zero, krecv_m ks185, kg12_0, kp12_0, kg12_1, kg12_2, kp12_2, kg12_3, kp12_3, kg12_4, kg12_5, kg12_6, kg12_7, kp12_7, kg12_8, kp12_8, kg12_9, kg12_10, kg12_11, kg12_12, kg12_13, kp12_13, kg12_14, kg12_15, kg12_16, kg12_17, kg12_18, kp12_18, kg12_19, kp12_19, kg12_20, kg12_21, kg12_22, kg12_23, kg12_24, kp12_24, kg12_25, kg12_26, kg12_27, kg12_28, kp12_28, kg12_29, kg12_30, kg12_31, kg12_32, kp12_32, kg12_33, kp12_33, ka186, kw186, ka187, kw187, ka188, kw188, kj189, kk189, kj190, kk190, ka191, kw191, ka192, kw192, ka193, kw193, kj194, kk194, kj195, kk195, ka196, kw196, ka197, kw197, ka198, kw198, ka199, kw199, ka200, kw200, ka201, kw201, kb202, kv202, ka203, kw203, ka204, kw204, ka205, kw205, ka206, kw206, ka207, kw207, kj208, kk208, c8_m17, c8_m16, c8_m15, c8_m14, c8_m13, c8_m12, c8_m11, c8_m10, c8_m2, c8_6, c8_7, c8_8, c8_9, c8_10, c8_11, c8_12, c8_13, c8_14, c8_15, c8_16, c8_17, c8_18, c8_19, c8_20, c8_21, c8_22, c8_23, c8_25, c8_30, c8_31, c8_32, c8_39, c8_40, c8_41, c8_42, c8_43, c8_45, c8_48, c8_55, c8_56, c8_57, c8_59, c8_60, c8_61, c8_63, c8_70, c8_90, c8_91, c8_92, c8_93, c8_94, c8_96, c8_97, c8_99, c8_115, c8_122, c8_125, c8_126, c8_127, c16_128, c16_129, c16_131, c16_132, c16_135, c16_136, c16_137, c16_138, c16_139, c16_142, c16_143, c16_144, c16_145, c16_146, c16_149, c16_180, c16_250, c16_255, c16_1000, c16_1002, c16_1100, c16_1155, c16_1157, c16_1164, c16_1178, c16_1210, c16_1212, c16_1219, c16_1233, c16_1265, c16_2200, c16_4095, c16_4096, c16_9999, c16_12345, one0, m1_lt0, nI20, nI40, sp205, hk, q4]
    refine Eq.trans L ?_
    rw [B239_23]
    simp (disch := omega) only [B239_0, B239_9, B239_12, B239_14, B239_19, B239_31, B239_42, B239_53, B239_54, B239_62, kO_s, kcond_t, kpush_s, kpush_n, nI_add, nI_add1, pk_mul, n_0, n_2, n_3, n_4, n_5, if_true, if_false, Nat.add_zero, krecv_m ks185, kg12_0, kp12_0, kg12_1, kg12_2, kp12_2, kg12_3, kp12_3, kg12_4, kg12_5, kg12_6, kg12_7, kp12_7, kg12_8, kp12_8, kg12_9, kg12_10, kg12_11, kg12_12, kg12_13, kp12_13, kg12_14, kg12_15, kg12_16, kg12_17, kg12_18, kp12_18, kg12_19, kp12_19, kg12_20, kg12_21, kg12_22, kg12_23, kg12_24, kp12_24, kg12_25, kg12_26, kg12_27, kg12_28, kp12_28, kg12_29, kg12_30, kg12_31, kg12_32, kp12_32, kg12_33, kp12_33, ka186, kw186, ka187, kw187, ka188, kw188, kj189, kk189, kj190, kk190, ka191, kw191, ka192, kw192, ka193, kw193, kj194, kk194, kj195, kk195, ka196, kw196, ka197, kw197, ka198, kw198, ka199, kw199, ka200, kw200, ka201, kw201, kb202, kv202, ka203, kw203, ka204, kw204, ka205, kw205, ka206, kw206, ka207, kw207, kj208, kk208, c8_m17, c8_m16, c8_m15, c8_m14, c8_m13, c8_m12, c8_m11, c8_m10, c8_m2, c8_6, c8_7, c8_8, c8_9, c8_10, c8_11, c8_12, c8_13, c8_14, c8_15, c8_16, c8_17, c8_18, c8_19, c8_20, c8_21, c8_22, c8_23, c8_25, c8_30, c8_31, c8_32, c8_39, c8_40, c8_41, c8_42, c8_43, c8_45, c8_48, c8_55, c8_56, c8_57, c8_59, c8_60, c8_61, c8_63, c8_70, c8_90, c8_91, c8_92, c8_93, c8_94, c8_96, c8_97, c8_99, c8_115, c8_122, c8_125, c8_126, c8_127, c16_128, c16_129, c16_131, c16_132, c16_135, c16_136, c16_137, c16_138, c16_139, c16_142, c16_143, c16_144, c16_145, c16_146, c16_149, c16_180, c16_250, c16_255, c16_1000, c16_1002, c16_1100, c16_1155, c16_1157, c16_1164, c16_1178, c16_1210, c16_1212, c16_1219, c16_1233, c16_1265, c16_2200, c16_4095, c16_4096, c16_9999, c16_12345, nI_inj, nI_lt_eq, nI_eq1, Nat.reduceEqDiff, em, Nat.lt_irrefl, ownF]
  · refine ⟨_, hq, fun d R => ?_⟩
    rw [h0, if_pos rfl]
    simp (disch := omega) only [B239_0, B239_9, B239_12, kO_s, kcond_t, kpush_s, kpush_n, nI_add, nI_add1, pk_mul, n_0, n_2, n_3, n_4, n_5, if_true, if_false, Nat.add_zero, krecv_m ks185, kg12_0, kp12_0, kg12_1, kg12_2, kp12_2, kg12_3, kp12_3, kg12_4, kg12_5, kg12_6, kg12_7, kp12_7, kg12_8, kp12_8, kg12_9, kg12_10, kg12_11, kg12_12, kg12_13, kp12_13, kg12_14, kg12_15, kg12_16, kg12_17, kg12_18, kp12_18, kg12_19, kp12_19, kg12_20, kg12_21, kg12_22, kg12_23, kg12_24, kp12_24, kg12_25, kg12_26, kg12_27, kg12_28, kp12_28, kg12_29, kg12_30, kg12_31, kg12_32, kp12_32, kg12_33, kp12_33, ka186, kw186, ka187, kw187, ka188, kw188, kj189, kk189, kj190, kk190, ka191, kw191, ka192, kw192, ka193, kw193, kj194, kk194, kj195, kk195, ka196, kw196, ka197, kw197, ka198, kw198, ka199, kw199, ka200, kw200, ka201, kw201, kb202, kv202, ka203, kw203, ka204, kw204, ka205, kw205, ka206, kw206, ka207, kw207, kj208, kk208, c8_m17, c8_m16, c8_m15, c8_m14, c8_m13, c8_m12, c8_m11, c8_m10, c8_m2, c8_6, c8_7, c8_8, c8_9, c8_10, c8_11, c8_12, c8_13, c8_14, c8_15, c8_16, c8_17, c8_18, c8_19, c8_20, c8_21, c8_22, c8_23, c8_25, c8_30, c8_31, c8_32, c8_39, c8_40, c8_41, c8_42, c8_43, c8_45, c8_48, c8_55, c8_56, c8_57, c8_59, c8_60, c8_61, c8_63, c8_70, c8_90, c8_91, c8_92, c8_93, c8_94, c8_96, c8_97, c8_99, c8_115, c8_122, c8_125, c8_126, c8_127, c16_128, c16_129, c16_131, c16_132, c16_135, c16_136, c16_137, c16_138, c16_139, c16_142, c16_143, c16_144, c16_145, c16_146, c16_149, c16_180, c16_250, c16_255, c16_1000, c16_1002, c16_1100, c16_1155, c16_1157, c16_1164, c16_1178, c16_1210, c16_1212, c16_1219, c16_1233, c16_1265, c16_2200, c16_4095, c16_4096, c16_9999, c16_12345, one0, m1_lt0, nI20, nI40, sp205, h0]
/-- strange -/
theorem sp127 (h : cB I rf r s) (x : Int32) : ∃ I', cQ I I' ∧ ∀ d R, kX xs (d + 4) 127 0 [some (.ref 0), some (.int x)] [] (kmm I J rf g) R = R (some (.int (aStrange r s x))) (kmm I' J rf g) := by
  unfold aStrange
  rcases kidx_c x (show 4 < 2147483648 by omega) with ⟨n, hn, rfl⟩ | h0
  · obtain ⟨I', q1, q3, q4⟩ := sp64q (xs := xs) (J := J) (g := g) h hn
    refine ⟨I', q3, fun d R => ?_⟩
    have hk := kidx_in hn (show 4 < 2147483648 by omega)
    have em := q1.m
    have hm7 := dM7 h.vr s n
    rw [hk, if_neg (by decide), nI_clamp (by omega)]
    generalize dM r s n = m at *
    have t1 : ktlen xs 1 = some 8 := rfl
    have t2 : ktI xs 1 (nI m) = some (nI (drg m)) := by
      rcases (by omega : m = 0 ∨ m = 1 ∨ m = 2 ∨ m = 3 ∨ m = 4 ∨ m = 5 ∨ m = 6 ∨ m = 7) with rfl | rfl | rfl | rfl | rfl | rfl | rfl | rfl <;> rfl
    have hm8 : m < 8 := by omega
    simp (disch := omega) only [B127_0, B127_4, B127_7, B127_9, B127_25, B127_39, B127_53, B127_54, kO_s, kcond_t, kpush_s, kpush_n, nI_add, nI_add1, pk_mul, n_0, n_2, n_3, n_4, n_5, if_true, if_false, Nat.add_zero, krecv_m ks0, krecv_m ks54, kg1_0, kg2_0, kp2_0, kg2_1, kg2_2, kp2_2, kg2_3, kp2_3, kg2_4, kp2_4, kg2_5, kp2_5, kg2_6, kp2_6, kg2_7, kp2_7, kg3_0, kp3_0, kg3_1, kp3_1, kg3_2, kg4_0, kg4_1, kg5_0, kg5_1, kg5_2, kp5_2, kg5_3, kp5_3, kg5_4, kp5_4, kg5_5, kp5_5, kg8_0, kp8_0, kg8_1, kg8_2, kg8_3, kg8_4, kg8_5, kg8_6, kg8_7, kg11_0, kg11_1, kg11_2, kg11_3, kg11_4, kg11_5, kg11_6, kg11_7, kg11_8, kg11_9, kg11_10, kg11_11, kg11_12, kg11_13, kg11_14, kg11_15, kg11_16, kp11_16, kb2, kv2, ka55, kw55, ka56, kw56, ka57, kw57, ka58, kw58, kb59, kv59, ka60, kw60, ka61, kw61, ka63, kw63, ka64, kw64, kr66, kr150, kr151, kb152, kv152, c8_m17, c8_m16, c8_m15, c8_m14, c8_m13, c8_m12, c8_m11, c8_m10, c8_m2, c8_6, c8_7, c8_8, c8_9, c8_10, c8_11, c8_12, c8_13, c8_14, c8_15, c8_16, c8_17, c8_18, c8_19, c8_20, c8_21, c8_22, c8_23, c8_25, c8_30, c8_31, c8_32, c8_39, c8_40, c8_41, c8_42, c8_43, c8_45, c8_48, c8_55, c8_56, c8_57, c8_59, c8_60, c8_61, c8_63, c8_70, c8_90, c8_91, c8_92, c8_93, c8_94, c8_96, c8_97, c8_99, c8_115, c8_122, c8_125, c8_126, c8_127, c16_128, c16_129, c16_131, c16_132, c16_135, c16_136, c16_137, c16_138, c16_139, c16_142, c16_143, c16_144, c16_145, c16_146, c16_149, c16_180, c16_250, c16_255, c16_1000, c16_1002, c16_1100, c16_1155, c16_1157, c16_1164, c16_1178, c16_1210, c16_1212, c16_1219, c16_1233, c16_1265, c16_2200, c16_4095, c16_4096, c16_9999, c16_12345, one0, m1_lt0, nI20, nI40, nI_inj, nI_lt_eq, nI_eq1, Nat.reduceEqDiff, sp153, hk, q4, em, t1, t2, ofN, hm8]
  · refine ⟨I, cQ.refl I, fun d R => ?_⟩
    rw [h0, if_pos rfl]
    simp (disch := omega) only [B127_0, B127_4, B127_7, B127_9, B127_25, B127_39, B127_53, B127_54, kO_s, kcond_t, kpush_s, kpush_n, nI_add, nI_add1, pk_mul, n_0, n_2, n_3, n_4, n_5, if_true, if_false, Nat.add_zero, krecv_m ks0, krecv_m ks54, kg1_0, kg2_0, kp2_0, kg2_1, kg2_2, kp2_2, kg2_3, kp2_3, kg2_4, kp2_4, kg2_5, kp2_5, kg2_6, kp2_6, kg2_7, kp2_7, kg3_0, kp3_0, kg3_1, kp3_1, kg3_2, kg4_0, kg4_1, kg5_0, kg5_1, kg5_2, kp5_2, kg5_3, kp5_3, kg5_4, kp5_4, kg5_5, kp5_5, kg8_0, kp8_0, kg8_1, kg8_2, kg8_3, kg8_4, kg8_5, kg8_6, kg8_7, kg11_0, kg11_1, kg11_2, kg11_3, kg11_4, kg11_5, kg11_6, kg11_7, kg11_8, kg11_9, kg11_10, kg11_11, kg11_12, kg11_13, kg11_14, kg11_15, kg11_16, kp11_16, kb2, kv2, ka55, kw55, ka56, kw56, ka57, kw57, ka58, kw58, kb59, kv59, ka60, kw60, ka61, kw61, ka63, kw63, ka64, kw64, kr66, kr150, kr151, kb152, kv152, c8_m17, c8_m16, c8_m15, c8_m14, c8_m13, c8_m12, c8_m11, c8_m10, c8_m2, c8_6, c8_7, c8_8, c8_9, c8_10, c8_11, c8_12, c8_13, c8_14, c8_15, c8_16, c8_17, c8_18, c8_19, c8_20, c8_21, c8_22, c8_23, c8_25, c8_30, c8_31, c8_32, c8_39, c8_40, c8_41, c8_42, c8_43, c8_45, c8_48, c8_55, c8_56, c8_57, c8_59, c8_60, c8_61, c8_63, c8_70, c8_90, c8_91, c8_92, c8_93, c8_94, c8_96, c8_97, c8_99, c8_115, c8_122, c8_125, c8_126, c8_127, c16_128, c16_129, c16_131, c16_132, c16_135, c16_136, c16_137, c16_138, c16_139, c16_142, c16_143, c16_144, c16_145, c16_146, c16_149, c16_180, c16_250, c16_255, c16_1000, c16_1002, c16_1100, c16_1155, c16_1157, c16_1164, c16_1178, c16_1210, c16_1212, c16_1219, c16_1233, c16_1265, c16_2200, c16_4095, c16_4096, c16_9999, c16_12345, one0, m1_lt0, nI20, nI40, sp153, h0]
theorem sp249 (h : mB I r s) (x : Int32) : ∃ I', mQ I I' ∧ ∀ d R, kX xs (d + 2) 249 0 [some (.ref 185), some (.int x), none, none, none, none] [] (kmm I J rf g) R = R (some (.int (aStrange r s x))) (kmm I' J rf g) := by
  have hq := mQ.thr I (nI 0)
  have h' := h.keep hq
  unfold aStrange
  rcases kidx_c x (show 4 < 2147483648 by omega) with ⟨n, hn, rfl⟩ | h0
  · obtain ⟨I', q1, q3, q4⟩ := sp210q (xs := xs) (J := J) (rf := rf) (g := g) h' hn
    refine ⟨I', hq.trans q3, fun d R => ?_⟩
    have hk := kidx_in hn (show 4 < 2147483648 by omega)
    have em := q1.m
    have hm7 := dM7 h.vr s n
    rw [hk, if_neg (by decide), nI_clamp (by omega)]
    generalize dM r s n = m at *
    have L := kchain (n := m - 1) (fun t => kX xs (d + 2) 249 27 [some (.ref 185), none, some (.int (nI (drg t))), some (.int (nI (drg (t + 1)))), some (.int (nI (t + 2))), none] [] (kmm I' J rf g) R) (by
      intro t ht
      show kX xs (d + 2) 249 27 _ _ _ _ = kX xs (d + 2) 249 27 _ _ _ _
      have h2 : ¬ m < t + 2 := by omega
      rw [B249_27, kg12_28, kO_s, em, if_neg (nI_nlt (by omega) (by omega)), B249_36, show t + 2 = (t + 1) + 1 from rfl, nI_pred, nI_add, pk_mul, nI_add1]
      rfl)
    rw [B249_0]
    simp (disch := omega) only [B249_9, B249_12, B249_14, B249_20, kO_s, kcond_t, kpush_s, kpush_n, nI_add, nI_add1, pk_mul, n_0, n_2, n_3, n_4, n_5, if_true, if_false, Nat.add_zero, krecv_m ks185, kg12_0, kp12_0, kg12_1, kg12_2, kp12_2, kg12_3, kp12_3, kg12_4, kg12_5, kg12_6, kg12_7, kp12_7, kg12_8, kp12_8, kg12_9, kg12_10, kg12_11, kg12_12, kg12_13, kp12_13, kg12_14, kg12_15, kg12_16, kg12_17, kg12_18, kp12_18, kg12_19, kp12_19, kg12_20, kg12_21, kg12_22, kg12_23, kg12_24, kp12_24, kg12_25, kg12_26, kg12_27, kg12_28, kp12_28, kg12_29, kg12_30, kg12_31, kg12_32, kp12_32, kg12_33, kp12_33, ka186, kw186, ka187, kw187, ka188, kw188, kj189, kk189, kj190, kk190, ka191, kw191, ka192, kw192, ka193, kw193, kj194, kk194, kj195, kk195, ka196, kw196, ka197, kw197, ka198, kw198, ka199, kw199, ka200, kw200, ka201, kw201, kb202, kv202, ka203, kw203, ka204, kw204, ka205, kw205, ka206, kw206, ka207, kw207, kj208, kk208, c8_m17, c8_m16, c8_m15, c8_m14, c8_m13, c8_m12, c8_m11, c8_m10, c8_m2, c8_6, c8_7, c8_8, c8_9, c8_10, c8_11, c8_12, c8_13, c8_14, c8_15, c8_16, c8_17, c8_18, c8_19, c8_20, c8_21, c8_22, c8_23, c8_25, c8_30, c8_31, c8_32, c8_39, c8_40, c8_41, c8_42, c8_43, c8_45, c8_48, c8_55, c8_56, c8_57, c8_59, c8_60, c8_61, c8_63, c8_70, c8_90, c8_91, c8_92, c8_93, c8_94, c8_96, c8_97, c8_99, c8_115, c8_122, c8_125, c8_126, c8_127, c16_128, c16_129, c16_131, c16_132, c16_135, c16_136, c16_137, c16_138, c16_139, c16_142, c16_143, c16_144, c16_145, c16_146, c16_149, c16_180, c16_250, c16_255, c16_1000, c16_1002, c16_1100, c16_1155, c16_1157, c16_1164, c16_1178, c16_1210, c16_1212, c16_1219, c16_1233, c16_1265, c16_2200, c16_4095, c16_4096, c16_9999, c16_12345, one0, m1_lt0, nI20, nI40, sp205, hk, q4]
    refine Eq.trans L ?_
    by_cases h0 : m = 0
    · subst h0
      rw [B249_27, kg12_28, kO_s, em, if_pos (by decide), B249_57, kg12_28, kO_s, em, if_pos (by decide), B249_64, B249_69]
    · rw [B249_27, kg12_28, kO_s, em, if_pos (nI_lt (by omega) (by omega)), B249_57, kg12_28, kO_s, em, if_neg (nI_ne0 (by omega) (by omega)), B249_68, B249_69, show m - 1 + 1 = m by omega]
  · refine ⟨_, hq, fun d R => ?_⟩
    rw [h0, if_pos rfl]
    simp (disch := omega) only [B249_0, B249_9, B249_12, kO_s, kcond_t, kpush_s, kpush_n, nI_add, nI_add1, pk_mul, n_0, n_2, n_3, n_4, n_5, if_true, if_false, Nat.add_zero, krecv_m ks185, kg12_0, kp12_0, kg12_1, kg12_2, kp12_2, kg12_3, kp12_3, kg12_4, kg12_5, kg12_6, kg12_7, kp12_7, kg12_8, kp12_8, kg12_9, kg12_10, kg12_11, kg12_12, kg12_13, kp12_13, kg12_14, kg12_15, kg12_16, kg12_17, kg12_18, kp12_18, kg12_19, kp12_19, kg12_20, kg12_21, kg12_22, kg12_23, kg12_24, kp12_24, kg12_25, kg12_26, kg12_27, kg12_28, kp12_28, kg12_29, kg12_30, kg12_31, kg12_32, kp12_32, kg12_33, kp12_33, ka186, kw186, ka187, kw187, ka188, kw188, kj189, kk189, kj190, kk190, ka191, kw191, ka192, kw192, ka193, kw193, kj194, kk194, kj195, kk195, ka196, kw196, ka197, kw197, ka198, kw198, ka199, kw199, ka200, kw200, ka201, kw201, kb202, kv202, ka203, kw203, ka204, kw204, ka205, kw205, ka206, kw206, ka207, kw207, kj208, kk208, c8_m17, c8_m16, c8_m15, c8_m14, c8_m13, c8_m12, c8_m11, c8_m10, c8_m2, c8_6, c8_7, c8_8, c8_9, c8_10, c8_11, c8_12, c8_13, c8_14, c8_15, c8_16, c8_17, c8_18, c8_19, c8_20, c8_21, c8_22, c8_23, c8_25, c8_30, c8_31, c8_32, c8_39, c8_40, c8_41, c8_42, c8_43, c8_45, c8_48, c8_55, c8_56, c8_57, c8_59, c8_60, c8_61, c8_63, c8_70, c8_90, c8_91, c8_92, c8_93, c8_94, c8_96, c8_97, c8_99, c8_115, c8_122, c8_125, c8_126, c8_127, c16_128, c16_129, c16_131, c16_132, c16_135, c16_136, c16_137, c16_138, c16_139, c16_142, c16_143, c16_144, c16_145, c16_146, c16_149, c16_180, c16_250, c16_255, c16_1000, c16_1002, c16_1100, c16_1155, c16_1157, c16_1164, c16_1178, c16_1210, c16_1212, c16_1219, c16_1233, c16_1265, c16_2200, c16_4095, c16_4096, c16_9999, c16_12345, one0, m1_lt0, nI20, nI40, sp205, h0]
/-- crowd -/
theorem sp128 (h : cB I rf r s) (x : Int32) : kX xs (d + 2) 128 0 [some (.ref 0), some (.int x), none, none] [] (kmm I J rf g) R = R (some (.int (aCrowd r s x))) (kmm I J rf g) := by
  unfold aCrowd
  have ht := h.t
  have e0 := h.rl.nc
  have hc7 := h.vr.c
  rcases kidx_c x (show 4 < 2147483648 by omega) with ⟨n, hn, rfl⟩ | h0
  · have hk := kidx_in hn (show 4 < 2147483648 by omega)
    rw [hk, if_neg (by decide), nI_clamp (by omega)]
    have L := kchain (n := r.nc) (fun t => kX xs (d + 2) 128 13 [some (.ref 0), some (.int (nI n)), some (.int (kfold (fun t x => if s.up t = n then x ||| (1 <<< (nI t &&& 31)) else x) t)), some (.int (nI t))] [] (kmm I J rf g) R) (by
      intro t ht'
      have hu := h.st.up t (by omega)
      have hu4 := h.vs.up t (by omega)
      show kX xs (d + 2) 128 13 _ _ _ _ = kX xs (d + 2) 128 13 _ _ _ _
      rw [B128_13, kfold]
      by_cases hq : s.up t = n
      · simp (disch := omega) only [B128_0, B128_4, B128_7, B128_9, B128_24, B128_37, B128_43, B128_49, kO_s, kcond_t, kpush_s, kpush_n, nI_add, nI_add1, pk_mul, n_0, n_2, n_3, n_4, n_5, if_true, if_false, Nat.add_zero, krecv_m ks0, krecv_m ks54, kg1_0, kg2_0, kp2_0, kg2_1, kg2_2, kp2_2, kg2_3, kp2_3, kg2_4, kp2_4, kg2_5, kp2_5, kg2_6, kp2_6, kg2_7, kp2_7, kg3_0, kp3_0, kg3_1, kp3_1, kg3_2, kg4_0, kg4_1, kg5_0, kg5_1, kg5_2, kp5_2, kg5_3, kp5_3, kg5_4, kp5_4, kg5_5, kp5_5, kg8_0, kp8_0, kg8_1, kg8_2, kg8_3, kg8_4, kg8_5, kg8_6, kg8_7, kg11_0, kg11_1, kg11_2, kg11_3, kg11_4, kg11_5, kg11_6, kg11_7, kg11_8, kg11_9, kg11_10, kg11_11, kg11_12, kg11_13, kg11_14, kg11_15, kg11_16, kp11_16, kb2, kv2, ka55, kw55, ka56, kw56, ka57, kw57, ka58, kw58, kb59, kv59, ka60, kw60, ka61, kw61, ka63, kw63, ka64, kw64, kr66, kr150, kr151, kb152, kv152, c8_m17, c8_m16, c8_m15, c8_m14, c8_m13, c8_m12, c8_m11, c8_m10, c8_m2, c8_6, c8_7, c8_8, c8_9, c8_10, c8_11, c8_12, c8_13, c8_14, c8_15, c8_16, c8_17, c8_18, c8_19, c8_20, c8_21, c8_22, c8_23, c8_25, c8_30, c8_31, c8_32, c8_39, c8_40, c8_41, c8_42, c8_43, c8_45, c8_48, c8_55, c8_56, c8_57, c8_59, c8_60, c8_61, c8_63, c8_70, c8_90, c8_91, c8_92, c8_93, c8_94, c8_96, c8_97, c8_99, c8_115, c8_122, c8_125, c8_126, c8_127, c16_128, c16_129, c16_131, c16_132, c16_135, c16_136, c16_137, c16_138, c16_139, c16_142, c16_143, c16_144, c16_145, c16_146, c16_149, c16_180, c16_250, c16_255, c16_1000, c16_1002, c16_1100, c16_1155, c16_1157, c16_1164, c16_1178, c16_1210, c16_1212, c16_1219, c16_1233, c16_1265, c16_2200, c16_4095, c16_4096, c16_9999, c16_12345, krecv_m ht, sp51 ht, sp52 ht, kg6_0 ht, kg6_1 ht, kg6_2 ht, kg6_3 ht, kg6_4 ht, kg6_5 ht, kg6_6 ht, kg6_7 ht, kj6_1 ht, kj6_2 ht, ka6_3 ht, ka6_4 ht, krecv_m ks39, kg9_0 ks39, kp9_0 ks39, kg9_1 ks39, kp9_1 ks39, kg9_2 ks39, kg9_3 ks39, kg9_4 ks39, kg9_5 ks39, ka9_1 ks39, kw9_1 ks39, ka9_2 ks39, kw9_2 ks39, ka9_3 ks39, kw9_3 ks39, ka9_4 ks39, kw9_4 ks39, nI_inj, nI_lt_eq, nI_eq1, Nat.reduceEqDiff, e0, ht', hu, hq]
      · simp (disch := omega) only [B128_0, B128_4, B128_7, B128_9, B128_24, B128_37, B128_43, B128_49, kO_s, kcond_t, kpush_s, kpush_n, nI_add, nI_add1, pk_mul, n_0, n_2, n_3, n_4, n_5, if_true, if_false, Nat.add_zero, krecv_m ks0, krecv_m ks54, kg1_0, kg2_0, kp2_0, kg2_1, kg2_2, kp2_2, kg2_3, kp2_3, kg2_4, kp2_4, kg2_5, kp2_5, kg2_6, kp2_6, kg2_7, kp2_7, kg3_0, kp3_0, kg3_1, kp3_1, kg3_2, kg4_0, kg4_1, kg5_0, kg5_1, kg5_2, kp5_2, kg5_3, kp5_3, kg5_4, kp5_4, kg5_5, kp5_5, kg8_0, kp8_0, kg8_1, kg8_2, kg8_3, kg8_4, kg8_5, kg8_6, kg8_7, kg11_0, kg11_1, kg11_2, kg11_3, kg11_4, kg11_5, kg11_6, kg11_7, kg11_8, kg11_9, kg11_10, kg11_11, kg11_12, kg11_13, kg11_14, kg11_15, kg11_16, kp11_16, kb2, kv2, ka55, kw55, ka56, kw56, ka57, kw57, ka58, kw58, kb59, kv59, ka60, kw60, ka61, kw61, ka63, kw63, ka64, kw64, kr66, kr150, kr151, kb152, kv152, c8_m17, c8_m16, c8_m15, c8_m14, c8_m13, c8_m12, c8_m11, c8_m10, c8_m2, c8_6, c8_7, c8_8, c8_9, c8_10, c8_11, c8_12, c8_13, c8_14, c8_15, c8_16, c8_17, c8_18, c8_19, c8_20, c8_21, c8_22, c8_23, c8_25, c8_30, c8_31, c8_32, c8_39, c8_40, c8_41, c8_42, c8_43, c8_45, c8_48, c8_55, c8_56, c8_57, c8_59, c8_60, c8_61, c8_63, c8_70, c8_90, c8_91, c8_92, c8_93, c8_94, c8_96, c8_97, c8_99, c8_115, c8_122, c8_125, c8_126, c8_127, c16_128, c16_129, c16_131, c16_132, c16_135, c16_136, c16_137, c16_138, c16_139, c16_142, c16_143, c16_144, c16_145, c16_146, c16_149, c16_180, c16_250, c16_255, c16_1000, c16_1002, c16_1100, c16_1155, c16_1157, c16_1164, c16_1178, c16_1210, c16_1212, c16_1219, c16_1233, c16_1265, c16_2200, c16_4095, c16_4096, c16_9999, c16_12345, krecv_m ht, sp51 ht, sp52 ht, kg6_0 ht, kg6_1 ht, kg6_2 ht, kg6_3 ht, kg6_4 ht, kg6_5 ht, kg6_6 ht, kg6_7 ht, kj6_1 ht, kj6_2 ht, ka6_3 ht, ka6_4 ht, krecv_m ks39, kg9_0 ks39, kp9_0 ks39, kg9_1 ks39, kp9_1 ks39, kg9_2 ks39, kg9_3 ks39, kg9_4 ks39, kg9_5 ks39, ka9_1 ks39, kw9_1 ks39, ka9_2 ks39, kw9_2 ks39, ka9_3 ks39, kw9_3 ks39, ka9_4 ks39, kw9_4 ks39, nI_inj, nI_lt_eq, nI_eq1, Nat.reduceEqDiff, e0, ht', hu, hq])
    rw [B128_0]
    simp (disch := omega) only [B128_4, B128_7, B128_9, kO_s, kcond_t, kpush_s, kpush_n, nI_add, nI_add1, pk_mul, n_0, n_2, n_3, n_4, n_5, if_true, if_false, Nat.add_zero, krecv_m ks0, krecv_m ks54, kg1_0, kg2_0, kp2_0, kg2_1, kg2_2, kp2_2, kg2_3, kp2_3, kg2_4, kp2_4, kg2_5, kp2_5, kg2_6, kp2_6, kg2_7, kp2_7, kg3_0, kp3_0, kg3_1, kp3_1, kg3_2, kg4_0, kg4_1, kg5_0, kg5_1, kg5_2, kp5_2, kg5_3, kp5_3, kg5_4, kp5_4, kg5_5, kp5_5, kg8_0, kp8_0, kg8_1, kg8_2, kg8_3, kg8_4, kg8_5, kg8_6, kg8_7, kg11_0, kg11_1, kg11_2, kg11_3, kg11_4, kg11_5, kg11_6, kg11_7, kg11_8, kg11_9, kg11_10, kg11_11, kg11_12, kg11_13, kg11_14, kg11_15, kg11_16, kp11_16, kb2, kv2, ka55, kw55, ka56, kw56, ka57, kw57, ka58, kw58, kb59, kv59, ka60, kw60, ka61, kw61, ka63, kw63, ka64, kw64, kr66, kr150, kr151, kb152, kv152, c8_m17, c8_m16, c8_m15, c8_m14, c8_m13, c8_m12, c8_m11, c8_m10, c8_m2, c8_6, c8_7, c8_8, c8_9, c8_10, c8_11, c8_12, c8_13, c8_14, c8_15, c8_16, c8_17, c8_18, c8_19, c8_20, c8_21, c8_22, c8_23, c8_25, c8_30, c8_31, c8_32, c8_39, c8_40, c8_41, c8_42, c8_43, c8_45, c8_48, c8_55, c8_56, c8_57, c8_59, c8_60, c8_61, c8_63, c8_70, c8_90, c8_91, c8_92, c8_93, c8_94, c8_96, c8_97, c8_99, c8_115, c8_122, c8_125, c8_126, c8_127, c16_128, c16_129, c16_131, c16_132, c16_135, c16_136, c16_137, c16_138, c16_139, c16_142, c16_143, c16_144, c16_145, c16_146, c16_149, c16_180, c16_250, c16_255, c16_1000, c16_1002, c16_1100, c16_1155, c16_1157, c16_1164, c16_1178, c16_1210, c16_1212, c16_1219, c16_1233, c16_1265, c16_2200, c16_4095, c16_4096, c16_9999, c16_12345, one0, m1_lt0, nI20, nI40, sp153, hk]
    refine Eq.trans L ?_
    rw [B128_13]
    simp (disch := omega) only [B128_0, B128_4, B128_7, B128_9, B128_24, B128_37, B128_43, B128_49, kO_s, kcond_t, kpush_s, kpush_n, nI_add, nI_add1, pk_mul, n_0, n_2, n_3, n_4, n_5, if_true, if_false, Nat.add_zero, krecv_m ks0, krecv_m ks54, kg1_0, kg2_0, kp2_0, kg2_1, kg2_2, kp2_2, kg2_3, kp2_3, kg2_4, kp2_4, kg2_5, kp2_5, kg2_6, kp2_6, kg2_7, kp2_7, kg3_0, kp3_0, kg3_1, kp3_1, kg3_2, kg4_0, kg4_1, kg5_0, kg5_1, kg5_2, kp5_2, kg5_3, kp5_3, kg5_4, kp5_4, kg5_5, kp5_5, kg8_0, kp8_0, kg8_1, kg8_2, kg8_3, kg8_4, kg8_5, kg8_6, kg8_7, kg11_0, kg11_1, kg11_2, kg11_3, kg11_4, kg11_5, kg11_6, kg11_7, kg11_8, kg11_9, kg11_10, kg11_11, kg11_12, kg11_13, kg11_14, kg11_15, kg11_16, kp11_16, kb2, kv2, ka55, kw55, ka56, kw56, ka57, kw57, ka58, kw58, kb59, kv59, ka60, kw60, ka61, kw61, ka63, kw63, ka64, kw64, kr66, kr150, kr151, kb152, kv152, c8_m17, c8_m16, c8_m15, c8_m14, c8_m13, c8_m12, c8_m11, c8_m10, c8_m2, c8_6, c8_7, c8_8, c8_9, c8_10, c8_11, c8_12, c8_13, c8_14, c8_15, c8_16, c8_17, c8_18, c8_19, c8_20, c8_21, c8_22, c8_23, c8_25, c8_30, c8_31, c8_32, c8_39, c8_40, c8_41, c8_42, c8_43, c8_45, c8_48, c8_55, c8_56, c8_57, c8_59, c8_60, c8_61, c8_63, c8_70, c8_90, c8_91, c8_92, c8_93, c8_94, c8_96, c8_97, c8_99, c8_115, c8_122, c8_125, c8_126, c8_127, c16_128, c16_129, c16_131, c16_132, c16_135, c16_136, c16_137, c16_138, c16_139, c16_142, c16_143, c16_144, c16_145, c16_146, c16_149, c16_180, c16_250, c16_255, c16_1000, c16_1002, c16_1100, c16_1155, c16_1157, c16_1164, c16_1178, c16_1210, c16_1212, c16_1219, c16_1233, c16_1265, c16_2200, c16_4095, c16_4096, c16_9999, c16_12345, krecv_m ht, sp51 ht, sp52 ht, kg6_0 ht, kg6_1 ht, kg6_2 ht, kg6_3 ht, kg6_4 ht, kg6_5 ht, kg6_6 ht, kg6_7 ht, kj6_1 ht, kj6_2 ht, ka6_3 ht, ka6_4 ht, nI_inj, nI_lt_eq, nI_eq1, Nat.reduceEqDiff, e0, Nat.lt_irrefl, crF]
  · rw [h0, if_pos rfl]
    simp (disch := omega) only [B128_0, B128_4, B128_7, kO_s, kcond_t, kpush_s, kpush_n, nI_add, nI_add1, pk_mul, n_0, n_2, n_3, n_4, n_5, if_true, if_false, Nat.add_zero, krecv_m ks0, krecv_m ks54, kg1_0, kg2_0, kp2_0, kg2_1, kg2_2, kp2_2, kg2_3, kp2_3, kg2_4, kp2_4, kg2_5, kp2_5, kg2_6, kp2_6, kg2_7, kp2_7, kg3_0, kp3_0, kg3_1, kp3_1, kg3_2, kg4_0, kg4_1, kg5_0, kg5_1, kg5_2, kp5_2, kg5_3, kp5_3, kg5_4, kp5_4, kg5_5, kp5_5, kg8_0, kp8_0, kg8_1, kg8_2, kg8_3, kg8_4, kg8_5, kg8_6, kg8_7, kg11_0, kg11_1, kg11_2, kg11_3, kg11_4, kg11_5, kg11_6, kg11_7, kg11_8, kg11_9, kg11_10, kg11_11, kg11_12, kg11_13, kg11_14, kg11_15, kg11_16, kp11_16, kb2, kv2, ka55, kw55, ka56, kw56, ka57, kw57, ka58, kw58, kb59, kv59, ka60, kw60, ka61, kw61, ka63, kw63, ka64, kw64, kr66, kr150, kr151, kb152, kv152, c8_m17, c8_m16, c8_m15, c8_m14, c8_m13, c8_m12, c8_m11, c8_m10, c8_m2, c8_6, c8_7, c8_8, c8_9, c8_10, c8_11, c8_12, c8_13, c8_14, c8_15, c8_16, c8_17, c8_18, c8_19, c8_20, c8_21, c8_22, c8_23, c8_25, c8_30, c8_31, c8_32, c8_39, c8_40, c8_41, c8_42, c8_43, c8_45, c8_48, c8_55, c8_56, c8_57, c8_59, c8_60, c8_61, c8_63, c8_70, c8_90, c8_91, c8_92, c8_93, c8_94, c8_96, c8_97, c8_99, c8_115, c8_122, c8_125, c8_126, c8_127, c16_128, c16_129, c16_131, c16_132, c16_135, c16_136, c16_137, c16_138, c16_139, c16_142, c16_143, c16_144, c16_145, c16_146, c16_149, c16_180, c16_250, c16_255, c16_1000, c16_1002, c16_1100, c16_1155, c16_1157, c16_1164, c16_1178, c16_1210, c16_1212, c16_1219, c16_1233, c16_1265, c16_2200, c16_4095, c16_4096, c16_9999, c16_12345, one0, m1_lt0, nI20, nI40, sp153, h0]
theorem sp264 (h : mB I r s) (x : Int32) : ∃ I', mQ I I' ∧ ∀ d R, kX xs (d + 2) 264 0 [some (.ref 185), some (.int x), none, none] [] (kmm I J rf g) R = R (some (.int (aCrowd r s x))) (kmm I' J rf g) := by
  have hq := mQ.thr I (nI 0)
  have h' := h.keep hq
  have e0 := h'.rl.nc
  have hc7 := h.vr.c
  refine ⟨_, hq, fun d R => ?_⟩
  have L := kchain (n := r.nc) (fun t => kX xs (d + 2) 264 9 [some (.ref 185), some (.int x), some (.int (kfold (fun t y => if nI (s.up t) = x then y ||| (1 <<< (nI t &&& 31)) else y) t)), some (.int (nI t))] [] (kmm (ku I 185 0 (nI 0)) J rf g) R) (by
    intro t ht'
    have hu := h'.st.up t ht'
    rw [show 0 + 23 + t = 23 + t by omega] at hu
    show kX xs (d + 2) 264 9 _ _ _ _ = kX xs (d + 2) 264 9 _ _ _ _
    rw [B264_9, kfold]
    by_cases hq : nI (s.up t) = x
    · simp (disch := omega) only [B264_0, B264_14, B264_17, B264_31, B264_37, B264_38, B264_46, B264_50, B264_53, B264_57, B264_58, kO_s, kcond_t, kpush_s, kpush_n, nI_add, nI_add1, pk_mul, n_0, n_2, n_3, n_4, n_5, if_true, if_false, Nat.add_zero, krecv_m ks185, kg12_0, kp12_0, kg12_1, kg12_2, kp12_2, kg12_3, kp12_3, kg12_4, kg12_5, kg12_6, kg12_7, kp12_7, kg12_8, kp12_8, kg12_9, kg12_10, kg12_11, kg12_12, kg12_13, kp12_13, kg12_14, kg12_15, kg12_16, kg12_17, kg12_18, kp12_18, kg12_19, kp12_19, kg12_20, kg12_21, kg12_22, kg12_23, kg12_24, kp12_24, kg12_25, kg12_26, kg12_27, kg12_28, kp12_28, kg12_29, kg12_30, kg12_31, kg12_32, kp12_32, kg12_33, kp12_33, ka186, kw186, ka187, kw187, ka188, kw188, kj189, kk189, kj190, kk190, ka191, kw191, ka192, kw192, ka193, kw193, kj194, kk194, kj195, kk195, ka196, kw196, ka197, kw197, ka198, kw198, ka199, kw199, ka200, kw200, ka201, kw201, kb202, kv202, ka203, kw203, ka204, kw204, ka205, kw205, ka206, kw206, ka207, kw207, kj208, kk208, c8_m17, c8_m16, c8_m15, c8_m14, c8_m13, c8_m12, c8_m11, c8_m10, c8_m2, c8_6, c8_7, c8_8, c8_9, c8_10, c8_11, c8_12, c8_13, c8_14, c8_15, c8_16, c8_17, c8_18, c8_19, c8_20, c8_21, c8_22, c8_23, c8_25, c8_30, c8_31, c8_32, c8_39, c8_40, c8_41, c8_42, c8_43, c8_45, c8_48, c8_55, c8_56, c8_57, c8_59, c8_60, c8_61, c8_63, c8_70, c8_90, c8_91, c8_92, c8_93, c8_94, c8_96, c8_97, c8_99, c8_115, c8_122, c8_125, c8_126, c8_127, c16_128, c16_129, c16_131, c16_132, c16_135, c16_136, c16_137, c16_138, c16_139, c16_142, c16_143, c16_144, c16_145, c16_146, c16_149, c16_180, c16_250, c16_255, c16_1000, c16_1002, c16_1100, c16_1155, c16_1157, c16_1164, c16_1178, c16_1210, c16_1212, c16_1219, c16_1233, c16_1265, c16_2200, c16_4095, c16_4096, c16_9999, c16_12345, nI_lt_eq, sp200, e0, ht', hu, hq]
    · simp (disch := omega) only [B264_0, B264_14, B264_17, B264_31, B264_37, B264_38, B264_46, B264_50, B264_53, B264_57, B264_58, kO_s, kcond_t, kpush_s, kpush_n, nI_add, nI_add1, pk_mul, n_0, n_2, n_3, n_4, n_5, if_true, if_false, Nat.add_zero, krecv_m ks185, kg12_0, kp12_0, kg12_1, kg12_2, kp12_2, kg12_3, kp12_3, kg12_4, kg12_5, kg12_6, kg12_7, kp12_7, kg12_8, kp12_8, kg12_9, kg12_10, kg12_11, kg12_12, kg12_13, kp12_13, kg12_14, kg12_15, kg12_16, kg12_17, kg12_18, kp12_18, kg12_19, kp12_19, kg12_20, kg12_21, kg12_22, kg12_23, kg12_24, kp12_24, kg12_25, kg12_26, kg12_27, kg12_28, kp12_28, kg12_29, kg12_30, kg12_31, kg12_32, kp12_32, kg12_33, kp12_33, ka186, kw186, ka187, kw187, ka188, kw188, kj189, kk189, kj190, kk190, ka191, kw191, ka192, kw192, ka193, kw193, kj194, kk194, kj195, kk195, ka196, kw196, ka197, kw197, ka198, kw198, ka199, kw199, ka200, kw200, ka201, kw201, kb202, kv202, ka203, kw203, ka204, kw204, ka205, kw205, ka206, kw206, ka207, kw207, kj208, kk208, c8_m17, c8_m16, c8_m15, c8_m14, c8_m13, c8_m12, c8_m11, c8_m10, c8_m2, c8_6, c8_7, c8_8, c8_9, c8_10, c8_11, c8_12, c8_13, c8_14, c8_15, c8_16, c8_17, c8_18, c8_19, c8_20, c8_21, c8_22, c8_23, c8_25, c8_30, c8_31, c8_32, c8_39, c8_40, c8_41, c8_42, c8_43, c8_45, c8_48, c8_55, c8_56, c8_57, c8_59, c8_60, c8_61, c8_63, c8_70, c8_90, c8_91, c8_92, c8_93, c8_94, c8_96, c8_97, c8_99, c8_115, c8_122, c8_125, c8_126, c8_127, c16_128, c16_129, c16_131, c16_132, c16_135, c16_136, c16_137, c16_138, c16_139, c16_142, c16_143, c16_144, c16_145, c16_146, c16_149, c16_180, c16_250, c16_255, c16_1000, c16_1002, c16_1100, c16_1155, c16_1157, c16_1164, c16_1178, c16_1210, c16_1212, c16_1219, c16_1233, c16_1265, c16_2200, c16_4095, c16_4096, c16_9999, c16_12345, nI_lt_eq, sp200, e0, ht', hu, hq, or_n0])
  have L' : kX xs (d + 2) 264 9 [some (.ref 185), some (.int x), some (.int (nI 0)), some (.int (nI 0))] [] (kmm (ku I 185 0 (nI 0)) J rf g) R = kX xs (d + 2) 264 9 [some (.ref 185), some (.int x), some (.int (kfold (fun t y => if nI (s.up t) = x then y ||| (1 <<< (nI t &&& 31)) else y) r.nc)), some (.int (nI r.nc))] [] (kmm (ku I 185 0 (nI 0)) J rf g) R := L
  unfold aCrowd
  rcases kidx_c x (show 4 < 2147483648 by omega) with ⟨n, hn, rfl⟩ | h0
  · have hk := kidx_in hn (show 4 < 2147483648 by omega)
    rw [hk, if_neg (by decide), nI_clamp (by omega)]
    have ec : kfold (fun t y => if nI (s.up t) = nI n then y ||| (1 <<< (nI t &&& 31)) else y) r.nc = crF r s n := by
      refine kfold_eq _ (fun p x hp => ?_)
      have hu4 := h.vs.up p (by omega)
      by_cases hq : s.up p = n
      · rw [if_pos hq, if_pos (congrArg nI hq)]
      · rw [if_neg hq, if_neg (fun e => hq (by rw [nI_inj (by omega) (by omega)] at e; exact e))]
    rw [ec] at L'
    rw [B264_0, kp12_0, kO_s, n_0, L', B264_9]
    simp (disch := omega) only [B264_0, B264_14, B264_17, B264_31, B264_37, B264_38, B264_46, B264_50, B264_53, B264_57, B264_58, kO_s, kcond_t, kpush_s, kpush_n, nI_add, nI_add1, pk_mul, n_0, n_2, n_3, n_4, n_5, if_true, if_false, Nat.add_zero, krecv_m ks185, kg12_0, kp12_0, kg12_1, kg12_2, kp12_2, kg12_3, kp12_3, kg12_4, kg12_5, kg12_6, kg12_7, kp12_7, kg12_8, kp12_8, kg12_9, kg12_10, kg12_11, kg12_12, kg12_13, kp12_13, kg12_14, kg12_15, kg12_16, kg12_17, kg12_18, kp12_18, kg12_19, kp12_19, kg12_20, kg12_21, kg12_22, kg12_23, kg12_24, kp12_24, kg12_25, kg12_26, kg12_27, kg12_28, kp12_28, kg12_29, kg12_30, kg12_31, kg12_32, kp12_32, kg12_33, kp12_33, ka186, kw186, ka187, kw187, ka188, kw188, kj189, kk189, kj190, kk190, ka191, kw191, ka192, kw192, ka193, kw193, kj194, kk194, kj195, kk195, ka196, kw196, ka197, kw197, ka198, kw198, ka199, kw199, ka200, kw200, ka201, kw201, kb202, kv202, ka203, kw203, ka204, kw204, ka205, kw205, ka206, kw206, ka207, kw207, kj208, kk208, c8_m17, c8_m16, c8_m15, c8_m14, c8_m13, c8_m12, c8_m11, c8_m10, c8_m2, c8_6, c8_7, c8_8, c8_9, c8_10, c8_11, c8_12, c8_13, c8_14, c8_15, c8_16, c8_17, c8_18, c8_19, c8_20, c8_21, c8_22, c8_23, c8_25, c8_30, c8_31, c8_32, c8_39, c8_40, c8_41, c8_42, c8_43, c8_45, c8_48, c8_55, c8_56, c8_57, c8_59, c8_60, c8_61, c8_63, c8_70, c8_90, c8_91, c8_92, c8_93, c8_94, c8_96, c8_97, c8_99, c8_115, c8_122, c8_125, c8_126, c8_127, c16_128, c16_129, c16_131, c16_132, c16_135, c16_136, c16_137, c16_138, c16_139, c16_142, c16_143, c16_144, c16_145, c16_146, c16_149, c16_180, c16_250, c16_255, c16_1000, c16_1002, c16_1100, c16_1155, c16_1157, c16_1164, c16_1178, c16_1210, c16_1212, c16_1219, c16_1233, c16_1265, c16_2200, c16_4095, c16_4096, c16_9999, c16_12345, one0, m1_lt0, nI20, nI40, nI_lt_eq, sp200, e0, Nat.lt_irrefl, sp205, hk]
  · rw [h0, if_pos rfl, B264_0, kp12_0, kO_s, n_0, L', B264_9]
    simp (disch := omega) only [B264_0, B264_14, B264_17, B264_31, B264_37, B264_38, B264_46, B264_50, B264_53, B264_57, B264_58, kO_s, kcond_t, kpush_s, kpush_n, nI_add, nI_add1, pk_mul, n_0, n_2, n_3, n_4, n_5, if_true, if_false, Nat.add_zero, krecv_m ks185, kg12_0, kp12_0, kg12_1, kg12_2, kp12_2, kg12_3, kp12_3, kg12_4, kg12_5, kg12_6, kg12_7, kp12_7, kg12_8, kp12_8, kg12_9, kg12_10, kg12_11, kg12_12, kg12_13, kp12_13, kg12_14, kg12_15, kg12_16, kg12_17, kg12_18, kp12_18, kg12_19, kp12_19, kg12_20, kg12_21, kg12_22, kg12_23, kg12_24, kp12_24, kg12_25, kg12_26, kg12_27, kg12_28, kp12_28, kg12_29, kg12_30, kg12_31, kg12_32, kp12_32, kg12_33, kp12_33, ka186, kw186, ka187, kw187, ka188, kw188, kj189, kk189, kj190, kk190, ka191, kw191, ka192, kw192, ka193, kw193, kj194, kk194, kj195, kk195, ka196, kw196, ka197, kw197, ka198, kw198, ka199, kw199, ka200, kw200, ka201, kw201, kb202, kv202, ka203, kw203, ka204, kw204, ka205, kw205, ka206, kw206, ka207, kw207, kj208, kk208, c8_m17, c8_m16, c8_m15, c8_m14, c8_m13, c8_m12, c8_m11, c8_m10, c8_m2, c8_6, c8_7, c8_8, c8_9, c8_10, c8_11, c8_12, c8_13, c8_14, c8_15, c8_16, c8_17, c8_18, c8_19, c8_20, c8_21, c8_22, c8_23, c8_25, c8_30, c8_31, c8_32, c8_39, c8_40, c8_41, c8_42, c8_43, c8_45, c8_48, c8_55, c8_56, c8_57, c8_59, c8_60, c8_61, c8_63, c8_70, c8_90, c8_91, c8_92, c8_93, c8_94, c8_96, c8_97, c8_99, c8_115, c8_122, c8_125, c8_126, c8_127, c16_128, c16_129, c16_131, c16_132, c16_135, c16_136, c16_137, c16_138, c16_139, c16_142, c16_143, c16_144, c16_145, c16_146, c16_149, c16_180, c16_250, c16_255, c16_1000, c16_1002, c16_1100, c16_1155, c16_1157, c16_1164, c16_1178, c16_1210, c16_1212, c16_1219, c16_1233, c16_1265, c16_2200, c16_4095, c16_4096, c16_9999, c16_12345, one0, m1_lt0, nI20, nI40, nI_lt_eq, sp200, e0, Nat.lt_irrefl, sp205, h0]
/-- given, givenOn -/
theorem ksum_m {f : Nat → Int32} {h : Nat → Nat} : ∀ n, (∀ k, k < n → f k = nI (h k)) → ksum f n = nI (nsum h n) := by
  intro n
  induction n with
  | zero => intro _; rfl
  | succ n ih =>
    intro hk
    rw [ksum, nsum, ih (fun k hk' => hk k (by omega)), hk n (by omega), nI_add]
theorem sp72g (vr : vRl r) {day : Nat} (q : cDay I r u day) : kX xs d 72 0 [some (.ref 54), none, none] [] (kmm I J rf g) R = R (some (.int (nI (gvD r u day)))) (kmm I J rf g) := by
  rw [sp72 (dM7 vr u day) q.m, ksum_m _ q.a]
  rfl
theorem sp235 {b : Nat} (hb : b ≤ 1235) (vr : vRl r) (vs : vSt r s) (hr : mRl I r) (hs : mSt I b r s) {day : Nat} (hd : day < 4) : ∃ I', mDay I' r s day ∧ (∀ x k, x ≠ 203 → ¬ (x = 185 ∧ k = 28) → I' x k = I x k) ∧ ∀ d R, kX xs (d + 3) 235 0 [some (.ref 185), some (.int (nI b)), some (.int (nI day)), none, none] [] (kmm I J rf g) R = R (some (.int (nI (gvD r s day)))) (kmm I' J rf g) := by
  have hc := vr.c
  obtain ⟨I', a1, a2, a3⟩ := sp210 (xs := xs) (J := J) (rf := rf) (g := g) hb vr (fun k hk => vs.up k (by omega)) hr hs hd
  refine ⟨I', a1, a2, fun d R => ?_⟩
  have hr' : mRl I' r := hr.keep (fun x k h1 h2 => a2 x k (by omega) (by omega))
  have hs' : mSt I' b r s := hs.keep vr (fun k h1 h2 => a2 _ _ (by omega) (by omega))
  have hm7 := dM7 vr s day
  have em := a1.m
  have L := kchain (n := dM r s day) (fun t => kX xs (d + 3) 235 11 [some (.ref 185), some (.int (nI b)), none, some (.int (nI (nsum (dA r s day) t))), some (.int (nI t))] [] (kmm I' J rf g) R) (by
    intro t ht
    show kX xs (d + 3) 235 11 _ _ _ _ = kX xs (d + 3) 235 11 _ _ _ _
    rw [B235_11, kg12_28, kO_s, em, if_pos (nI_lt ht (by omega)), B235_20, krecv_m ks185, kcond_t, sp214 hb vr vs hr' hs' a1 ht, kpush_s, B235_28, nI_add, nI_add1]
    rfl)
  rw [B235_0, krecv_m ks185, kcond_t, a3, kpush_n, B235_6]
  refine Eq.trans L ?_
  rw [B235_11, kg12_28, kO_s, em, if_neg (nI_nlt (Nat.le_refl _) (by omega)), B235_36]
  rfl
theorem sp235q (h : mB I r s) {day : Nat} (hd : day < 4) : ∃ I', mQ I I' ∧ ∀ d R, kX xs (d + 3) 235 0 [some (.ref 185), some (.int (nI 0)), some (.int (nI day)), none, none] [] (kmm I J rf g) R = R (some (.int (nI (gvD r s day)))) (kmm I' J rf g) := by
  obtain ⟨I', -, a2, a3⟩ := sp235 (xs := xs) (J := J) (rf := rf) (g := g) (b := 0) (by omega) h.vr h.vs h.rl h.st hd
  exact ⟨I', mQ_lis a2, a3⟩
/-- heavy -/
theorem sp129 (h : cB I rf r s) : ∃ I', cQ I I' ∧ ∀ d R, kX xs (d + 4) 129 0 [some (.ref 0), none, none, none, none] [] (kmm I J rf g) R = R (some (.int (aHeavy r s))) (kmm I' J rf g) := by
  have L : ∃ I2, cQ I I2 ∧ (fun (d : Nat) (R : Option Value → KW → Prop) => kX xs (d + 4) 129 6 [some (.ref 0), some (.int (nI (hvD r s 0))), some (.int (nI (if 0 = 0 then 0 else gvD r s (hvD r s 0)))), some (.int (nI 0)), none] [] (kmm I J rf g) R) = (fun d R => kX xs (d + 4) 129 6 [some (.ref 0), some (.int (nI (hvD r s 4))), some (.int (nI (if 4 = 0 then 0 else gvD r s (hvD r s 4)))), some (.int (nI 4)), none] [] (kmm I2 J rf g) R) := by
    refine kloop (n := 4) (s0 := I) (fun i I2 => cQ I I2) (fun i I2 => fun (d : Nat) (R : Option Value → KW → Prop) => kX xs (d + 4) 129 6 [some (.ref 0), some (.int (nI (hvD r s i))), some (.int (nI (if i = 0 then 0 else gvD r s (hvD r s i)))), some (.int (nI i)), none] [] (kmm I2 J rf g) R) (cQ.refl I) ?_
    intro i I2 hi g2
    obtain ⟨I3, q1, q3, q4⟩ := sp64q (xs := xs) (J := J) (g := g) (h.keep g2) hi
    refine ⟨I3, g2.trans q3, ?_⟩
    funext d R
    have b1 := gvD_le h.vr s i
    have b2 := gvD_le h.vr s (hvD r s i)
    have h72 : ∀ d R, kX xs d 72 0 [some (.ref 54), none, none] [] (kmm I3 J rf g) R = _ := fun d R => sp72g h.vr q1
    rw [B129_6, n_4, if_pos (nI_lt hi (by omega)), B129_11, kg11_9, kO_s, kg11_2, kO_s, kg11_6, kO_s, krecv_m ks54, kcond_t, q4, kpush_n, B129_27, kg11_9, kO_s, krecv_m ks54, kcond_t, h72, kpush_s, B129_34, if_neg (show ¬ (i + 1 = 0) by omega), hvD]
    by_cases h0 : i = 0
    · subst h0
      rw [if_pos rfl, if_neg (show ¬ gvD r s (hvD r s 0) < gvD r s 0 from Nat.lt_irrefl _)]
      by_cases hz : 0 < gvD r s 0
      · rw [if_pos (nI_lt hz (by omega)), B129_42, B129_47, nI_add1]
        rfl
      · rw [if_neg (nI_nlt (by omega) (by omega)), B129_47, nI_add1, show gvD r s (hvD r s 0) = 0 from (by show gvD r s 0 = 0; omega)]
    · rw [if_neg h0]
      by_cases hz : gvD r s (hvD r s i) < gvD r s i
      · rw [if_pos (nI_lt hz (by omega)), B129_42, B129_47, nI_add1, if_pos hz]
      · rw [if_neg (nI_nlt (by omega) (by omega)), B129_47, nI_add1, if_neg hz]
  obtain ⟨I2, g2, e2⟩ := L
  refine ⟨I2, g2, fun d R => ?_⟩
  have e2' := congrFun (congrFun e2 d) R
  rw [B129_0]
  refine Eq.trans e2' ?_
  rw [B129_6, n_4, if_neg (nI_nlt (Nat.le_refl _) (by omega)), B129_53]
  rfl
theorem sp245 (h : mB I r s) : ∃ I', mQ I I' ∧ ∀ d R, kX xs (d + 4) 245 0 [some (.ref 185), none, none] [] (kmm I J rf g) R = R (some (.int (aHeavy r s))) (kmm I' J rf g) := by
  have hq := mQ.thr I (nI 0)
  have L : ∃ I2, mQ I I2 ∧ (fun (d : Nat) (R : Option Value → KW → Prop) => kX xs (d + 4) 245 9 [some (.ref 185), some (.int (nI (hvD r s (0 + 1)))), some (.int (nI (0 + 1)))] [] (kmm (ku I 185 0 (nI 0)) J rf g) R) = (fun d R => kX xs (d + 4) 245 9 [some (.ref 185), some (.int (nI (hvD r s (3 + 1)))), some (.int (nI (3 + 1)))] [] (kmm I2 J rf g) R) := by
    refine kloop (n := 3) (s0 := ku I 185 0 (nI 0)) (fun i I2 => mQ I I2) (fun i I2 => fun (d : Nat) (R : Option Value → KW → Prop) => kX xs (d + 4) 245 9 [some (.ref 185), some (.int (nI (hvD r s (i + 1)))), some (.int (nI (i + 1)))] [] (kmm I2 J rf g) R) hq ?_
    intro i I2 hi g2
    have hv := hvD_lt r s (i + 1)
    have hv4 : hvD r s (i + 1) < 4 := by omega
    obtain ⟨I3, q3, q4⟩ := sp235q (xs := xs) (J := J) (rf := rf) (g := g) (h.keep g2) (show i + 1 < 4 by omega)
    obtain ⟨I4, q5, q6⟩ := sp235q (xs := xs) (J := J) (rf := rf) (g := g) (h.keep (g2.trans q3)) hv4
    refine ⟨I4, (g2.trans q3).trans q5, ?_⟩
    funext d R
    have b1 := gvD_le h.vr s (i + 1)
    have b2 := gvD_le h.vr s (hvD r s (i + 1))
    rw [B245_9, n_4, if_pos (nI_lt (show i + 1 < 4 by omega) (by omega)), B245_14, krecv_m ks185, kcond_t, n_0, q4, kpush_s, B245_20, krecv_m ks185, kcond_t, n_0, q6, kpush_s, B245_26, show hvD r s (i + 1 + 1) = if gvD r s (hvD r s (i + 1)) < gvD r s (i + 1) then i + 1 else hvD r s (i + 1) from rfl]
    by_cases hz : gvD r s (hvD r s (i + 1)) < gvD r s (i + 1)
    · rw [if_pos (nI_lt hz (by omega)), B245_29, B245_34, nI_add1, if_pos hz]
    · rw [if_neg (nI_nlt (by omega) (by omega)), B245_33, B245_34, nI_add1, if_neg hz]
  obtain ⟨I2, g2, e2⟩ := L
  refine ⟨I2, g2, fun d R => ?_⟩
  have e2' := congrFun (congrFun e2 d) R
  have z1 : hvD r s (0 + 1) = 0 := by
    rw [hvD, if_neg (show ¬ gvD r s (hvD r s 0) < gvD r s 0 from Nat.lt_irrefl _)]
    rfl
  rw [z1] at e2'
  rw [B245_0, kp12_0, kO_s, n_0]
  refine Eq.trans e2' ?_
  rw [B245_9, n_4, if_neg (nI_nlt (Nat.le_refl _) (by omega)), B245_41]
  rfl
end QS
