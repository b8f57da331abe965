/-! the day at the model's side -/
section MLAW
variable {xs : List Int32} {d : Nat} {I I' : Nat → Nat → Int32} {J : Nat → Nat → Int64} {rf : Nat → Nat} {g : Nat} {R : Option Value → KW → Prop} {r : aRl} {s : aSt} {w : KW} {b : Nat}
/-- both -/
theorem sp194 {o : Nat} (h4 : 4 ≤ o) (h10 : o ≤ 10) {x y : Int32} : kX xs d 194 0 [some (.int (nI o)), some (.int x), some (.int y)] [] w R = R (some (.int (jn o x y))) w := by
  rcases (by omega : o = 4 ∨ o = 5 ∨ o = 6 ∨ o = 7 ∨ o = 8 ∨ o = 9 ∨ o = 10) with rfl | rfl | rfl | rfl | rfl | rfl | rfl
  · rw [B194_0, if_pos (by decide), B194_40]; rfl
  · rw [B194_0, if_neg (by decide), if_pos (by decide), B194_44]; rfl
  · rw [B194_0, if_neg (by decide), if_neg (by decide), if_pos (by decide), B194_48]; rfl
  · rw [B194_0, if_neg (by decide), if_neg (by decide), if_neg (by decide), if_pos (by decide), B194_52]
    show _ = R (some (.int (if x < y then 1 else 0))) w
    by_cases h : x < y
    · rw [if_pos h, if_pos h, B194_57, B194_62]
    · rw [if_neg h, if_neg h, B194_61, B194_62]
  · rw [B194_0, if_neg (by decide), if_neg (by decide), if_neg (by decide), if_neg (by decide), if_pos (by decide), B194_63]
    show _ = R (some (.int (if x = y then 1 else 0))) w
    by_cases h : x = y
    · rw [if_pos h, if_pos h, B194_68, B194_73]
    · rw [if_neg h, if_neg h, B194_72, B194_73]
  · rw [B194_0, if_neg (by decide), if_neg (by decide), if_neg (by decide), if_neg (by decide), if_neg (by decide), if_pos (by decide), B194_74]
    show _ = R (some (.int (if x = 0 then 0 else if y = 0 then 0 else 1))) w
    by_cases h : x = 0
    · rw [if_pos h, if_pos h, B194_86, B194_87]
    · rw [if_neg h, if_neg h, B194_78]
      by_cases h2 : y = 0
      · rw [if_pos h2, if_pos h2, B194_86, B194_87]
      · rw [if_neg h2, if_neg h2, B194_82, B194_87]
  · rw [B194_0, if_neg (by decide), if_neg (by decide), if_neg (by decide), if_neg (by decide), if_neg (by decide), if_neg (by decide), B194_88]
    show _ = R (some (.int (if x = 0 then (if y = 0 then 0 else 1) else 1))) w
    by_cases h : x = 0
    · rw [if_pos h, if_pos h, B194_92]
      by_cases h2 : y = 0
      · rw [if_pos h2, if_pos h2, B194_100, B194_101]
      · rw [if_neg h2, if_neg h2, B194_96, B194_101]
    · rw [if_neg h, if_neg h, B194_96, B194_101]
theorem fct_at {n1 n2 n3 n4 : Int32} {k : Nat} (hk : k ≤ 3) (f0 : I 199 0 = n1) (f1 : I 199 1 = n2) (f2 : I 199 2 = n3) (f3 : I 199 3 = n4) : I 199 k = fct k n1 n2 n3 n4 := by
  rcases (by omega : k = 0 ∨ k = 1 ∨ k = 2 ∨ k = 3) with rfl | rfl | rfl | rfl
  · rw [f0]; rfl
  · rw [f1]; rfl
  · rw [f2]; rfl
  · rw [f3]; rfl
theorem sp193_1 {n h a : Nat} (hn : n < 1000) (hh : h ≤ 31) (e1 : I 192 n = nI 1) (e2 : I 193 n = nI a) : kX xs d 193 4 [some (.ref 185), none, some (.int (nI h)), some (.int (nI n)), none] [] (kmm I J rf g) R = kX xs d 193 4 [some (.ref 185), none, some (.int (nI (h + 1))), some (.int (nI (n + 1))), none] [] (kmm (ku I 200 h (nI a)) J rf g) R := by
  rw [B193_4]
  simp (disch := omega) only [B193_0, B193_13, B193_27, B193_33, B193_44, B193_53, B193_64, B193_71, B193_77, B193_95, B193_99, B193_100, B193_104, B193_133, B193_134, B193_140, kO_s, kcond_t, kpush_s, kpush_n, nI_add, nI_add1, pk_mul, n_0, n_2, n_3, n_4, n_5, if_true, if_false, Nat.add_zero, krecv_m ks185, kg12_0, kp12_0, kg12_1, kg12_2, kp12_2, kg12_3, kp12_3, kg12_4, kg12_5, kg12_6, kg12_7, kp12_7, kg12_8, kp12_8, kg12_9, kg12_10, kg12_11, kg12_12, kg12_13, kp12_13, kg12_14, kg12_15, kg12_16, kg12_17, kg12_18, kp12_18, kg12_19, kp12_19, kg12_20, kg12_21, kg12_22, kg12_23, kg12_24, kp12_24, kg12_25, kg12_26, kg12_27, kg12_28, kp12_28, kg12_29, kg12_30, kg12_31, kg12_32, kp12_32, kg12_33, kp12_33, ka186, kw186, ka187, kw187, ka188, kw188, kj189, kk189, kj190, kk190, ka191, kw191, ka192, kw192, ka193, kw193, kj194, kk194, kj195, kk195, ka196, kw196, ka197, kw197, ka198, kw198, ka199, kw199, ka200, kw200, ka201, kw201, kb202, kv202, ka203, kw203, ka204, kw204, ka205, kw205, ka206, kw206, ka207, kw207, kj208, kk208, c8_m17, c8_m16, c8_m15, c8_m14, c8_m13, c8_m12, c8_m11, c8_m10, c8_m2, c8_6, c8_7, c8_8, c8_9, c8_10, c8_11, c8_12, c8_13, c8_14, c8_15, c8_16, c8_17, c8_18, c8_19, c8_20, c8_21, c8_22, c8_23, c8_25, c8_30, c8_31, c8_32, c8_39, c8_40, c8_41, c8_42, c8_43, c8_45, c8_48, c8_55, c8_56, c8_57, c8_59, c8_60, c8_61, c8_63, c8_70, c8_90, c8_91, c8_92, c8_93, c8_94, c8_96, c8_97, c8_99, c8_115, c8_122, c8_125, c8_126, c8_127, c16_128, c16_129, c16_131, c16_132, c16_135, c16_136, c16_137, c16_138, c16_139, c16_142, c16_143, c16_144, c16_145, c16_146, c16_149, c16_180, c16_250, c16_255, c16_1000, c16_1002, c16_1100, c16_1155, c16_1157, c16_1164, c16_1178, c16_1210, c16_1212, c16_1219, c16_1233, c16_1265, c16_2200, c16_4095, c16_4096, c16_9999, c16_12345, nI_inj, nI_lt_eq, nI_eq1, Nat.reduceEqDiff, e1, e2]
theorem sp193_2 {n h a : Nat} {v : Int32} (hn : n < 1000) (hh : h ≤ 31) (ha : a ≤ 3) (e1 : I 192 n = nI 2) (e2 : I 193 n = nI a) (e3 : I 199 a = v) : kX xs d 193 4 [some (.ref 185), none, some (.int (nI h)), some (.int (nI n)), none] [] (kmm I J rf g) R = kX xs d 193 4 [some (.ref 185), none, some (.int (nI (h + 1))), some (.int (nI (n + 1))), none] [] (kmm (ku I 200 h v) J rf g) R := by
  rw [B193_4]
  simp (disch := omega) only [B193_0, B193_13, B193_27, B193_33, B193_44, B193_53, B193_64, B193_71, B193_77, B193_95, B193_99, B193_100, B193_104, B193_133, B193_134, B193_140, kO_s, kcond_t, kpush_s, kpush_n, nI_add, nI_add1, pk_mul, n_0, n_2, n_3, n_4, n_5, if_true, if_false, Nat.add_zero, krecv_m ks185, kg12_0, kp12_0, kg12_1, kg12_2, kp12_2, kg12_3, kp12_3, kg12_4, kg12_5, kg12_6, kg12_7, kp12_7, kg12_8, kp12_8, kg12_9, kg12_10, kg12_11, kg12_12, kg12_13, kp12_13, kg12_14, kg12_15, kg12_16, kg12_17, kg12_18, kp12_18, kg12_19, kp12_19, kg12_20, kg12_21, kg12_22, kg12_23, kg12_24, kp12_24, kg12_25, kg12_26, kg12_27, kg12_28, kp12_28, kg12_29, kg12_30, kg12_31, kg12_32, kp12_32, kg12_33, kp12_33, ka186, kw186, ka187, kw187, ka188, kw188, kj189, kk189, kj190, kk190, ka191, kw191, ka192, kw192, ka193, kw193, kj194, kk194, kj195, kk195, ka196, kw196, ka197, kw197, ka198, kw198, ka199, kw199, ka200, kw200, ka201, kw201, kb202, kv202, ka203, kw203, ka204, kw204, ka205, kw205, ka206, kw206, ka207, kw207, kj208, kk208, c8_m17, c8_m16, c8_m15, c8_m14, c8_m13, c8_m12, c8_m11, c8_m10, c8_m2, c8_6, c8_7, c8_8, c8_9, c8_10, c8_11, c8_12, c8_13, c8_14, c8_15, c8_16, c8_17, c8_18, c8_19, c8_20, c8_21, c8_22, c8_23, c8_25, c8_30, c8_31, c8_32, c8_39, c8_40, c8_41, c8_42, c8_43, c8_45, c8_48, c8_55, c8_56, c8_57, c8_59, c8_60, c8_61, c8_63, c8_70, c8_90, c8_91, c8_92, c8_93, c8_94, c8_96, c8_97, c8_99, c8_115, c8_122, c8_125, c8_126, c8_127, c16_128, c16_129, c16_131, c16_132, c16_135, c16_136, c16_137, c16_138, c16_139, c16_142, c16_143, c16_144, c16_145, c16_146, c16_149, c16_180, c16_250, c16_255, c16_1000, c16_1002, c16_1100, c16_1155, c16_1157, c16_1164, c16_1178, c16_1210, c16_1212, c16_1219, c16_1233, c16_1265, c16_2200, c16_4095, c16_4096, c16_9999, c16_12345, nI_inj, nI_lt_eq, nI_eq1, Nat.reduceEqDiff, e1, e2, e3]
theorem sp193_3 {n h : Nat} (hn : n < 1000) (hh : h ≤ 30) (e1 : I 192 n = nI 3) : kX xs d 193 4 [some (.ref 185), none, some (.int (nI (h + 1))), some (.int (nI n)), none] [] (kmm I J rf g) R = kX xs d 193 4 [some (.ref 185), none, some (.int (nI (h + 1))), some (.int (nI (n + 1))), none] [] (kmm (ku I 200 h (if I 200 h = nI 0 then 1 else nI 0)) J rf g) R := by
  rw [B193_4]
  by_cases hz : I 200 h = nI 0
  · simp (disch := omega) only [B193_0, B193_13, B193_27, B193_33, B193_44, B193_53, B193_64, B193_71, B193_77, B193_95, B193_99, B193_100, B193_104, B193_133, B193_134, B193_140, kO_s, kcond_t, kpush_s, kpush_n, nI_add, nI_add1, pk_mul, n_0, n_2, n_3, n_4, n_5, if_true, if_false, Nat.add_zero, krecv_m ks185, kg12_0, kp12_0, kg12_1, kg12_2, kp12_2, kg12_3, kp12_3, kg12_4, kg12_5, kg12_6, kg12_7, kp12_7, kg12_8, kp12_8, kg12_9, kg12_10, kg12_11, kg12_12, kg12_13, kp12_13, kg12_14, kg12_15, kg12_16, kg12_17, kg12_18, kp12_18, kg12_19, kp12_19, kg12_20, kg12_21, kg12_22, kg12_23, kg12_24, kp12_24, kg12_25, kg12_26, kg12_27, kg12_28, kp12_28, kg12_29, kg12_30, kg12_31, kg12_32, kp12_32, kg12_33, kp12_33, ka186, kw186, ka187, kw187, ka188, kw188, kj189, kk189, kj190, kk190, ka191, kw191, ka192, kw192, ka193, kw193, kj194, kk194, kj195, kk195, ka196, kw196, ka197, kw197, ka198, kw198, ka199, kw199, ka200, kw200, ka201, kw201, kb202, kv202, ka203, kw203, ka204, kw204, ka205, kw205, ka206, kw206, ka207, kw207, kj208, kk208, c8_m17, c8_m16, c8_m15, c8_m14, c8_m13, c8_m12, c8_m11, c8_m10, c8_m2, c8_6, c8_7, c8_8, c8_9, c8_10, c8_11, c8_12, c8_13, c8_14, c8_15, c8_16, c8_17, c8_18, c8_19, c8_20, c8_21, c8_22, c8_23, c8_25, c8_30, c8_31, c8_32, c8_39, c8_40, c8_41, c8_42, c8_43, c8_45, c8_48, c8_55, c8_56, c8_57, c8_59, c8_60, c8_61, c8_63, c8_70, c8_90, c8_91, c8_92, c8_93, c8_94, c8_96, c8_97, c8_99, c8_115, c8_122, c8_125, c8_126, c8_127, c16_128, c16_129, c16_131, c16_132, c16_135, c16_136, c16_137, c16_138, c16_139, c16_142, c16_143, c16_144, c16_145, c16_146, c16_149, c16_180, c16_250, c16_255, c16_1000, c16_1002, c16_1100, c16_1155, c16_1157, c16_1164, c16_1178, c16_1210, c16_1212, c16_1219, c16_1233, c16_1265, c16_2200, c16_4095, c16_4096, c16_9999, c16_12345, nI_inj, nI_lt_eq, nI_eq1, Nat.reduceEqDiff, e1, hz, nI_pred]
  · simp (disch := omega) only [B193_0, B193_13, B193_27, B193_33, B193_44, B193_53, B193_64, B193_71, B193_77, B193_95, B193_99, B193_100, B193_104, B193_133, B193_134, B193_140, kO_s, kcond_t, kpush_s, kpush_n, nI_add, nI_add1, pk_mul, n_0, n_2, n_3, n_4, n_5, if_true, if_false, Nat.add_zero, krecv_m ks185, kg12_0, kp12_0, kg12_1, kg12_2, kp12_2, kg12_3, kp12_3, kg12_4, kg12_5, kg12_6, kg12_7, kp12_7, kg12_8, kp12_8, kg12_9, kg12_10, kg12_11, kg12_12, kg12_13, kp12_13, kg12_14, kg12_15, kg12_16, kg12_17, kg12_18, kp12_18, kg12_19, kp12_19, kg12_20, kg12_21, kg12_22, kg12_23, kg12_24, kp12_24, kg12_25, kg12_26, kg12_27, kg12_28, kp12_28, kg12_29, kg12_30, kg12_31, kg12_32, kp12_32, kg12_33, kp12_33, ka186, kw186, ka187, kw187, ka188, kw188, kj189, kk189, kj190, kk190, ka191, kw191, ka192, kw192, ka193, kw193, kj194, kk194, kj195, kk195, ka196, kw196, ka197, kw197, ka198, kw198, ka199, kw199, ka200, kw200, ka201, kw201, kb202, kv202, ka203, kw203, ka204, kw204, ka205, kw205, ka206, kw206, ka207, kw207, kj208, kk208, c8_m17, c8_m16, c8_m15, c8_m14, c8_m13, c8_m12, c8_m11, c8_m10, c8_m2, c8_6, c8_7, c8_8, c8_9, c8_10, c8_11, c8_12, c8_13, c8_14, c8_15, c8_16, c8_17, c8_18, c8_19, c8_20, c8_21, c8_22, c8_23, c8_25, c8_30, c8_31, c8_32, c8_39, c8_40, c8_41, c8_42, c8_43, c8_45, c8_48, c8_55, c8_56, c8_57, c8_59, c8_60, c8_61, c8_63, c8_70, c8_90, c8_91, c8_92, c8_93, c8_94, c8_96, c8_97, c8_99, c8_115, c8_122, c8_125, c8_126, c8_127, c16_128, c16_129, c16_131, c16_132, c16_135, c16_136, c16_137, c16_138, c16_139, c16_142, c16_143, c16_144, c16_145, c16_146, c16_149, c16_180, c16_250, c16_255, c16_1000, c16_1002, c16_1100, c16_1155, c16_1157, c16_1164, c16_1178, c16_1210, c16_1212, c16_1219, c16_1233, c16_1265, c16_2200, c16_4095, c16_4096, c16_9999, c16_12345, nI_inj, nI_lt_eq, nI_eq1, Nat.reduceEqDiff, e1, hz, nI_pred]
theorem sp193_4 {n h o : Nat} (hn : n < 1000) (hh : h ≤ 29) (o4 : 4 ≤ o) (o10 : o ≤ 10) (e1 : I 192 n = nI o) : kX xs (d + 1) 193 4 [some (.ref 185), none, some (.int (nI (h + 2))), some (.int (nI n)), none] [] (kmm I J rf g) R = kX xs (d + 1) 193 4 [some (.ref 185), none, some (.int (nI (h + 1))), some (.int (nI (n + 1))), none] [] (kmm (ku I 200 h (jn o (I 200 h) (I 200 (h + 1)))) J rf g) R := by
  have b1 : ¬ nI o = 0 := by rw [n_0, nI_inj (by omega) (by omega)]; omega
  have b2 : ¬ nI o = 1 := by rw [nI_eq1 (by omega)]; omega
  have b3 : ¬ nI o = 2 := by rw [n_2, nI_inj (by omega) (by omega)]; omega
  have b4 : ¬ nI o = 3 := by rw [n_3, nI_inj (by omega) (by omega)]; omega
  rw [B193_4, kg12_11, kO_s, ka192 (by omega), kO_s, e1, if_neg b1, B193_13, kg12_11, kO_s, ka192 (by omega), kO_s, e1, if_neg b2, B193_27, if_neg b3, B193_71, if_neg b4, B193_104, kg12_22, kO_s, kO_s, show h + 2 = (h + 1) + 1 from rfl, nI_dec, nI_pred, ka200 (by omega), kO_s, kO_s, ka200 (by omega), kO_s, sp194 o4 o10, kpush_s, B193_133, kw200 (by omega), kO_s, B193_134, nI_add1]
/-- worthAt -/
theorem sp193 (vr : vRl r) (hr : mRl I r) (h0 : 0 < r.ll) {n1 n2 n3 n4 : Int32} (f0 : I 199 0 = n1) (f1 : I 199 1 = n2) (f2 : I 199 2 = n3) (f3 : I 199 3 = n4) : ∃ I', (∀ x k, x ≠ 200 → I' x k = I x k) ∧ ∀ d R, kX xs (d + 1) 193 0 [some (.ref 185), some (.int (nI 0)), none, none, none] [] (kmm I J rf g) R = R (some (.int (lv r n1 n2 n3 n4))) (kmm I' J rf g) := by
  have hw := vr.lw
  have hlen := hw.len
  have L : ∃ I1, ((∀ x k, x ≠ 200 → I1 x k = I x k) ∧ ∀ i, i < lH r.lo r.ll → I1 200 i = lS r.lo r.la n1 n2 n3 n4 r.ll i) ∧ (fun (d : Nat) (R : Option Value → KW → Prop) => kX xs (d + 1) 193 4 [some (.ref 185), none, some (.int (nI (lH r.lo 0))), some (.int (nI 0)), none] [] (kmm I J rf g) R) = (fun d R => kX xs (d + 1) 193 4 [some (.ref 185), none, some (.int (nI (lH r.lo r.ll))), some (.int (nI r.ll)), none] [] (kmm I1 J rf g) R) := by
    refine kloop (n := r.ll) (s0 := I) (fun n I1 => (∀ x k, x ≠ 200 → I1 x k = I x k) ∧ ∀ i, i < lH r.lo n → I1 200 i = lS r.lo r.la n1 n2 n3 n4 n i) (fun n I1 => fun (d : Nat) (R : Option Value → KW → Prop) => kX xs (d + 1) 193 4 [some (.ref 185), none, some (.int (nI (lH r.lo n))), some (.int (nI n)), none] [] (kmm I1 J rf g) R) ⟨fun _ _ _ => rfl, fun i hi => absurd hi (by simp [lH])⟩ ?_
    intro n I1 hn ⟨g1, g2⟩
    have ho := hw.op n hn
    have hhi := hw.hi n (by omega)
    have e1 : I1 192 n = nI (r.lo n) := by rw [g1 _ _ (by omega), hr.op n hn]
    have e2 : I1 193 n = nI (r.la n) := by rw [g1 _ _ (by omega), hr.ar n hn]
    by_cases o1 : r.lo n = 1
    · rw [o1] at e1
      refine ⟨ku I1 200 (lH r.lo n) (nI (r.la n)), ⟨fun x k hx => by rw [ku_nea hx, g1 x k hx], fun i hi => ?_⟩, ?_⟩
      · rw [lH, if_pos (Or.inl o1)] at hi
        rw [lS, if_pos o1]
        exact ku_kuf g2 i (by omega)
      · funext d R
        rw [lH, if_pos (Or.inl o1)]
        exact sp193_1 (by omega) hhi e1 e2
    by_cases o2 : r.lo n = 2
    · rw [o2] at e1
      have hla := hw.fc n hn o2
      have e3 : I1 199 (r.la n) = fct (r.la n) n1 n2 n3 n4 := by rw [g1 _ _ (by omega)]; exact fct_at hla f0 f1 f2 f3
      refine ⟨ku I1 200 (lH r.lo n) (fct (r.la n) n1 n2 n3 n4), ⟨fun x k hx => by rw [ku_nea hx, g1 x k hx], fun i hi => ?_⟩, ?_⟩
      · rw [lH, if_pos (Or.inr o2)] at hi
        rw [lS, if_neg o1, if_pos o2]
        exact ku_kuf g2 i (by omega)
      · funext d R
        rw [lH, if_pos (Or.inr o2)]
        exact sp193_2 (by omega) hhi hla e1 e2 e3
    by_cases o3 : r.lo n = 3
    · rw [o3] at e1
      have hu := hw.h1 n hn o3
      obtain ⟨q, hq⟩ : ∃ q, lH r.lo n = q + 1 := ⟨lH r.lo n - 1, by omega⟩
      have e3 : I1 200 q = lS r.lo r.la n1 n2 n3 n4 n q := g2 q (by omega)
      refine ⟨ku I1 200 q (if I1 200 q = nI 0 then 1 else nI 0), ⟨fun x k hx => by rw [ku_nea hx, g1 x k hx], fun i hi => ?_⟩, ?_⟩
      · rw [lH, if_neg (show ¬ (r.lo n = 1 ∨ r.lo n = 2) by omega), if_pos o3] at hi
        rw [lS, if_neg o1, if_neg o2, if_pos o3, hq, Nat.add_sub_cancel, e3]
        exact ku_kuf g2 i (by omega)
      · funext d R
        rw [lH, if_neg (show ¬ (r.lo n = 1 ∨ r.lo n = 2) by omega), if_pos o3, hq]
        exact sp193_3 (by omega) (by omega) e1
    · have hu := hw.h2 n hn (by omega)
      obtain ⟨q, hq⟩ : ∃ q, lH r.lo n = q + 2 := ⟨lH r.lo n - 2, by omega⟩
      have e3 : I1 200 q = lS r.lo r.la n1 n2 n3 n4 n q := g2 q (by omega)
      have e4 : I1 200 (q + 1) = lS r.lo r.la n1 n2 n3 n4 n (q + 1) := g2 (q + 1) (by omega)
      refine ⟨ku I1 200 q (jn (r.lo n) (I1 200 q) (I1 200 (q + 1))), ⟨fun x k hx => by rw [ku_nea hx, g1 x k hx], fun i hi => ?_⟩, ?_⟩
      · rw [lH, if_neg (show ¬ (r.lo n = 1 ∨ r.lo n = 2) by omega), if_neg o3] at hi
        rw [lS, if_neg o1, if_neg o2, if_neg o3, hq, show q + 2 - 2 = q by omega, show q + 2 - 1 = q + 1 by omega, e3, e4]
        exact ku_kuf g2 i (by omega)
      · funext d R
        rw [lH, if_neg (show ¬ (r.lo n = 1 ∨ r.lo n = 2) by omega), if_neg o3, hq, show q + 2 - 1 = q + 1 by omega]
        exact sp193_4 (by omega) (by omega) (by omega) ho.2 e1
  obtain ⟨I1, ⟨g1, g2⟩, e⟩ := L
  refine ⟨I1, g1, fun d R => ?_⟩
  have hen := hw.en h0
  have hhi := hw.hi r.ll (Nat.le_refl _)
  have e1 : I1 192 r.ll = nI 0 := by rw [g1 _ _ (by omega), hr.en h0]
  have e2 : I1 200 0 = lv r n1 n2 n3 n4 := by unfold lv; rw [if_neg (by omega)]; exact g2 0 (by omega)
  have e' : kX xs (d + 1) 193 4 [some (.ref 185), none, some (.int (nI (lH r.lo 0))), some (.int (nI 0)), none] [] (kmm I J rf g) R = _ := congrFun (congrFun e d) R
  rw [B193_0, show (0 : Int32) = nI (lH r.lo 0) from rfl, e', B193_4, kg12_11, kO_s, ka192 (by omega), kO_s, e1, if_pos (show nI 0 = 0 from rfl), B193_140, kg12_22, kO_s, n_0, ka200 (by omega), kO_s, e2]
end MLAW
section MDAY
variable {xs : List Int32} {d : Nat} {I I' : Nat → Nat → Int32} {J : Nat → Nat → Int64} {rf : Nat → Nat} {g : Nat} {R : Option Value → KW → Prop} {r : aRl} {s : aSt} {w : KW} {b : Nat}
/-- who is heard -/
abbrev mDay (I : Nat → Nat → Int32) (r : aRl) (s : aSt) (day : Nat) : Prop := (I 185 28 = nI (dM r s day)) ∧ (∀ p, p < dM r s day → I 203 p = nI (dH r s day p))
theorem mDay.m {I : Nat → Nat → Int32} {r : aRl} {s : aSt} {day : Nat} (h : mDay I r s day) : I 185 28 = nI (dM r s day) := h.1
theorem mDay.h {I : Nat → Nat → Int32} {r : aRl} {s : aSt} {day : Nat} (h : mDay I r s day) : ∀ p, p < dM r s day → I 203 p = nI (dH r s day p) := h.2
/-- listens -/
theorem sp210 (hb : b ≤ 1235) (vr : vRl r) (vs : ∀ k, k < r.nc → s.up k < 4) (hr : mRl I r) (hs : mSt I b r s) {day : Nat} (hd : day < 4) : ∃ I', mDay I' r s day ∧ (∀ x k, x ≠ 203 → ¬ (x = 185 ∧ k = 28) → I' x k = I x k) ∧ ∀ d R, kX xs (d + 1) 210 0 [some (.ref 185), some (.int (nI b)), some (.int (nI day)), none] [] (kmm I J rf g) R = R none (kmm I' J rf g) := by
  have hj := vr.j
  have hc := vr.c
  have L : ∃ I1, ((∀ x k, x ≠ 203 → ¬ (x = 185 ∧ k = 28) → I1 x k = I x k) ∧ I1 185 28 = nI (hC s.up day r.nj r.nc) ∧ ∀ p, p < hC s.up day r.nj r.nc → I1 203 p = nI (hH s.up day r.nj r.nc p)) ∧ (fun (d : Nat) (R : Option Value → KW → Prop) => kX xs (d + 1) 210 7 [some (.ref 185), some (.int (nI b)), some (.int (nI day)), some (.int (nI 0))] [] (kmm (ku I 185 28 (nI 0)) J rf g) R) = (fun d R => kX xs (d + 1) 210 7 [some (.ref 185), some (.int (nI b)), some (.int (nI day)), some (.int (nI r.nc))] [] (kmm I1 J rf g) R) := by
    refine kloop (n := r.nc) (s0 := ku I 185 28 (nI 0)) (fun t I1 => (∀ x k, x ≠ 203 → ¬ (x = 185 ∧ k = 28) → I1 x k = I x k) ∧ I1 185 28 = nI (hC s.up day r.nj t) ∧ ∀ p, p < hC s.up day r.nj t → I1 203 p = nI (hH s.up day r.nj t p)) (fun t I1 => fun (d : Nat) (R : Option Value → KW → Prop) => kX xs (d + 1) 210 7 [some (.ref 185), some (.int (nI b)), some (.int (nI day)), some (.int (nI t))] [] (kmm I1 J rf g) R) ⟨fun x k _ h2 => ku_ne h2, ku_same _ _ _ _, fun p hp => absurd hp (by simp [hC])⟩ ?_
    intro t I1 ht ⟨g1, g2, g3⟩
    have hle := hC_le s.up day r.nj t
    have hu := vs t ht
    have e1 : I1 191 1 = nI r.nc := by rw [g1 _ _ (by omega) (by omega), hr.nc]
    have e0 : I1 191 0 = nI r.nj := by rw [g1 _ _ (by omega) (by omega), hr.nj]
    have eu : I1 201 (b + 23 + t) = nI (s.up t) := by rw [g1 _ _ (by omega) (by omega), hs.up t ht]
    by_cases hq : s.up t = day ∧ hC s.up day r.nj t < r.nj
    · refine ⟨ku (ku I1 203 (hC s.up day r.nj t) (nI t)) 185 28 (nI (hC s.up day r.nj t + 1)), ⟨fun x k h1 h2 => by rw [ku_ne h2, ku_nea h1, g1 x k h1 h2], ?_, fun p hp => ?_⟩, ?_⟩
      · rw [hC, if_pos hq, ku_same]
      · rw [hC, if_pos hq] at hp
        rw [hH, if_pos hq, ku_nea (by omega)]
        by_cases hpe : p = hC s.up day r.nj t
        · rw [hpe, ku_same, ku1_s]
        · rw [ku_nek hpe, ku1_n hpe, g3 p (by omega)]
      · funext d R
        rw [B210_7]
        have q1 := hq.1
        have q2 := hq.2
        have k1 : ∀ x, ku I1 203 (hC s.up day r.nj t) x 185 28 = nI (hC s.up day r.nj t) := fun x => by rw [ku_nea (by omega), g2]
        simp (disch := omega) only [B210_0, B210_12, B210_15, B210_30, B210_38, B210_41, B210_61, B210_67, kO_s, kcond_t, kpush_s, kpush_n, nI_add, nI_add1, pk_mul, n_0, n_2, n_3, n_4, n_5, if_true, if_false, Nat.add_zero, krecv_m ks185, kg12_0, kp12_0, kg12_1, kg12_2, kp12_2, kg12_3, kp12_3, kg12_4, kg12_5, kg12_6, kg12_7, kp12_7, kg12_8, kp12_8, kg12_9, kg12_10, kg12_11, kg12_12, kg12_13, kp12_13, kg12_14, kg12_15, kg12_16, kg12_17, kg12_18, kp12_18, kg12_19, kp12_19, kg12_20, kg12_21, kg12_22, kg12_23, kg12_24, kp12_24, kg12_25, kg12_26, kg12_27, kg12_28, kp12_28, kg12_29, kg12_30, kg12_31, kg12_32, kp12_32, kg12_33, kp12_33, ka186, kw186, ka187, kw187, ka188, kw188, kj189, kk189, kj190, kk190, ka191, kw191, ka192, kw192, ka193, kw193, kj194, kk194, kj195, kk195, ka196, kw196, ka197, kw197, ka198, kw198, ka199, kw199, ka200, kw200, ka201, kw201, kb202, kv202, ka203, kw203, ka204, kw204, ka205, kw205, ka206, kw206, ka207, kw207, kj208, kk208, c8_m17, c8_m16, c8_m15, c8_m14, c8_m13, c8_m12, c8_m11, c8_m10, c8_m2, c8_6, c8_7, c8_8, c8_9, c8_10, c8_11, c8_12, c8_13, c8_14, c8_15, c8_16, c8_17, c8_18, c8_19, c8_20, c8_21, c8_22, c8_23, c8_25, c8_30, c8_31, c8_32, c8_39, c8_40, c8_41, c8_42, c8_43, c8_45, c8_48, c8_55, c8_56, c8_57, c8_59, c8_60, c8_61, c8_63, c8_70, c8_90, c8_91, c8_92, c8_93, c8_94, c8_96, c8_97, c8_99, c8_115, c8_122, c8_125, c8_126, c8_127, c16_128, c16_129, c16_131, c16_132, c16_135, c16_136, c16_137, c16_138, c16_139, c16_142, c16_143, c16_144, c16_145, c16_146, c16_149, c16_180, c16_250, c16_255, c16_1000, c16_1002, c16_1100, c16_1155, c16_1157, c16_1164, c16_1178, c16_1210, c16_1212, c16_1219, c16_1233, c16_1265, c16_2200, c16_4095, c16_4096, c16_9999, c16_12345, nI_inj, nI_lt_eq, nI_eq1, Nat.reduceEqDiff, sp200, sp199, e1, e0, eu, g2, k1, q1, q2, ht]
    · refine ⟨I1, ⟨g1, by rw [hC, if_neg hq, g2], fun p hp => ?_⟩, ?_⟩
      · rw [hC, if_neg hq] at hp
        rw [hH, if_neg hq, g3 p hp]
      · funext d R
        rw [B210_7]
        by_cases q1 : s.up t = day
        · have q2 : ¬ hC s.up day r.nj t < r.nj := fun h => hq ⟨q1, h⟩
          simp (disch := omega) only [B210_0, B210_12, B210_15, B210_30, B210_38, B210_41, B210_61, B210_67, kO_s, kcond_t, kpush_s, kpush_n, nI_add, nI_add1, pk_mul, n_0, n_2, n_3, n_4, n_5, if_true, if_false, Nat.add_zero, krecv_m ks185, kg12_0, kp12_0, kg12_1, kg12_2, kp12_2, kg12_3, kp12_3, kg12_4, kg12_5, kg12_6, kg12_7, kp12_7, kg12_8, kp12_8, kg12_9, kg12_10, kg12_11, kg12_12, kg12_13, kp12_13, kg12_14, kg12_15, kg12_16, kg12_17, kg12_18, kp12_18, kg12_19, kp12_19, kg12_20, kg12_21, kg12_22, kg12_23, kg12_24, kp12_24, kg12_25, kg12_26, kg12_27, kg12_28, kp12_28, kg12_29, kg12_30, kg12_31, kg12_32, kp12_32, kg12_33, kp12_33, ka186, kw186, ka187, kw187, ka188, kw188, kj189, kk189, kj190, kk190, ka191, kw191, ka192, kw192, ka193, kw193, kj194, kk194, kj195, kk195, ka196, kw196, ka197, kw197, ka198, kw198, ka199, kw199, ka200, kw200, ka201, kw201, kb202, kv202, ka203, kw203, ka204, kw204, ka205, kw205, ka206, kw206, ka207, kw207, kj208, kk208, c8_m17, c8_m16, c8_m15, c8_m14, c8_m13, c8_m12, c8_m11, c8_m10, c8_m2, c8_6, c8_7, c8_8, c8_9, c8_10, c8_11, c8_12, c8_13, c8_14, c8_15, c8_16, c8_17, c8_18, c8_19, c8_20, c8_21, c8_22, c8_23, c8_25, c8_30, c8_31, c8_32, c8_39, c8_40, c8_41, c8_42, c8_43, c8_45, c8_48, c8_55, c8_56, c8_57, c8_59, c8_60, c8_61, c8_63, c8_70, c8_90, c8_91, c8_92, c8_93, c8_94, c8_96, c8_97, c8_99, c8_115, c8_122, c8_125, c8_126, c8_127, c16_128, c16_129, c16_131, c16_132, c16_135, c16_136, c16_137, c16_138, c16_139, c16_142, c16_143, c16_144, c16_145, c16_146, c16_149, c16_180, c16_250, c16_255, c16_1000, c16_1002, c16_1100, c16_1155, c16_1157, c16_1164, c16_1178, c16_1210, c16_1212, c16_1219, c16_1233, c16_1265, c16_2200, c16_4095, c16_4096, c16_9999, c16_12345, nI_inj, nI_lt_eq, nI_eq1, Nat.reduceEqDiff, sp200, sp199, e1, e0, eu, g2, q1, q2, ht]
        · simp (disch := omega) only [B210_0, B210_12, B210_15, B210_30, B210_38, B210_41, B210_61, B210_67, kO_s, kcond_t, kpush_s, kpush_n, nI_add, nI_add1, pk_mul, n_0, n_2, n_3, n_4, n_5, if_true, if_false, Nat.add_zero, krecv_m ks185, kg12_0, kp12_0, kg12_1, kg12_2, kp12_2, kg12_3, kp12_3, kg12_4, kg12_5, kg12_6, kg12_7, kp12_7, kg12_8, kp12_8, kg12_9, kg12_10, kg12_11, kg12_12, kg12_13, kp12_13, kg12_14, kg12_15, kg12_16, kg12_17, kg12_18, kp12_18, kg12_19, kp12_19, kg12_20, kg12_21, kg12_22, kg12_23, kg12_24, kp12_24, kg12_25, kg12_26, kg12_27, kg12_28, kp12_28, kg12_29, kg12_30, kg12_31, kg12_32, kp12_32, kg12_33, kp12_33, ka186, kw186, ka187, kw187, ka188, kw188, kj189, kk189, kj190, kk190, ka191, kw191, ka192, kw192, ka193, kw193, kj194, kk194, kj195, kk195, ka196, kw196, ka197, kw197, ka198, kw198, ka199, kw199, ka200, kw200, ka201, kw201, kb202, kv202, ka203, kw203, ka204, kw204, ka205, kw205, ka206, kw206, ka207, kw207, kj208, kk208, c8_m17, c8_m16, c8_m15, c8_m14, c8_m13, c8_m12, c8_m11, c8_m10, c8_m2, c8_6, c8_7, c8_8, c8_9, c8_10, c8_11, c8_12, c8_13, c8_14, c8_15, c8_16, c8_17, c8_18, c8_19, c8_20, c8_21, c8_22, c8_23, c8_25, c8_30, c8_31, c8_32, c8_39, c8_40, c8_41, c8_42, c8_43, c8_45, c8_48, c8_55, c8_56, c8_57, c8_59, c8_60, c8_61, c8_63, c8_70, c8_90, c8_91, c8_92, c8_93, c8_94, c8_96, c8_97, c8_99, c8_115, c8_122, c8_125, c8_126, c8_127, c16_128, c16_129, c16_131, c16_132, c16_135, c16_136, c16_137, c16_138, c16_139, c16_142, c16_143, c16_144, c16_145, c16_146, c16_149, c16_180, c16_250, c16_255, c16_1000, c16_1002, c16_1100, c16_1155, c16_1157, c16_1164, c16_1178, c16_1210, c16_1212, c16_1219, c16_1233, c16_1265, c16_2200, c16_4095, c16_4096, c16_9999, c16_12345, nI_inj, nI_lt_eq, nI_eq1, Nat.reduceEqDiff, sp200, sp199, e1, e0, eu, g2, q1, ht]
  obtain ⟨I1, ⟨g1, g2, g3⟩, e⟩ := L
  refine ⟨I1, ⟨g2, g3⟩, g1, fun d R => ?_⟩
  have e1 : I1 191 1 = nI r.nc := by rw [g1 _ _ (by omega) (by omega), hr.nc]
  have e' := congrFun (congrFun e d) R
  rw [B210_0, kp12_28, kO_s]
  refine Eq.trans e' ?_
  rw [B210_7]
  have hn : ¬ r.nc < r.nc := by omega
  simp (disch := omega) only [B210_0, B210_12, B210_15, B210_30, B210_38, B210_41, B210_61, B210_67, kO_s, kcond_t, kpush_s, kpush_n, nI_add, nI_add1, pk_mul, n_0, n_2, n_3, n_4, n_5, if_true, if_false, Nat.add_zero, krecv_m ks185, kg12_0, kp12_0, kg12_1, kg12_2, kp12_2, kg12_3, kp12_3, kg12_4, kg12_5, kg12_6, kg12_7, kp12_7, kg12_8, kp12_8, kg12_9, kg12_10, kg12_11, kg12_12, kg12_13, kp12_13, kg12_14, kg12_15, kg12_16, kg12_17, kg12_18, kp12_18, kg12_19, kp12_19, kg12_20, kg12_21, kg12_22, kg12_23, kg12_24, kp12_24, kg12_25, kg12_26, kg12_27, kg12_28, kp12_28, kg12_29, kg12_30, kg12_31, kg12_32, kp12_32, kg12_33, kp12_33, ka186, kw186, ka187, kw187, ka188, kw188, kj189, kk189, kj190, kk190, ka191, kw191, ka192, kw192, ka193, kw193, kj194, kk194, kj195, kk195, ka196, kw196, ka197, kw197, ka198, kw198, ka199, kw199, ka200, kw200, ka201, kw201, kb202, kv202, ka203, kw203, ka204, kw204, ka205, kw205, ka206, kw206, ka207, kw207, kj208, kk208, c8_m17, c8_m16, c8_m15, c8_m14, c8_m13, c8_m12, c8_m11, c8_m10, c8_m2, c8_6, c8_7, c8_8, c8_9, c8_10, c8_11, c8_12, c8_13, c8_14, c8_15, c8_16, c8_17, c8_18, c8_19, c8_20, c8_21, c8_22, c8_23, c8_25, c8_30, c8_31, c8_32, c8_39, c8_40, c8_41, c8_42, c8_43, c8_45, c8_48, c8_55, c8_56, c8_57, c8_59, c8_60, c8_61, c8_63, c8_70, c8_90, c8_91, c8_92, c8_93, c8_94, c8_96, c8_97, c8_99, c8_115, c8_122, c8_125, c8_126, c8_127, c16_128, c16_129, c16_131, c16_132, c16_135, c16_136, c16_137, c16_138, c16_139, c16_142, c16_143, c16_144, c16_145, c16_146, c16_149, c16_180, c16_250, c16_255, c16_1000, c16_1002, c16_1100, c16_1155, c16_1157, c16_1164, c16_1178, c16_1210, c16_1212, c16_1219, c16_1233, c16_1265, c16_2200, c16_4095, c16_4096, c16_9999, c16_12345, nI_inj, nI_lt_eq, nI_eq1, Nat.reduceEqDiff, sp200, e1, hn]
/-- griefOf -/
theorem sp211 (hb : b ≤ 1235) (vr : vRl r) (vs : vSt r s) (hr : mRl I r) (hs : mSt I b r s) : kX xs (d + 1) 211 0 [some (.ref 185), some (.int (nI b)), none, none] [] (kmm I J rf g) R = R (some (.int (nI (grf s)))) (kmm I J rf g) := by
  have hc := vr.c
  have L := kchain (n := r.nc) (fun t => kX xs (d + 1) 211 4 [some (.ref 185), some (.int (nI b)), some (.int (nI (nsum s.hd t))), some (.int (nI t))] [] (kmm I J rf g) R) (by
    intro t ht
    have e1 := hr.nc
    have eh := hs.hd t (by omega)
    show kX xs (d + 1) 211 4 _ _ _ _ = kX xs (d + 1) 211 4 _ _ _ _
    rw [B211_4]
    simp (disch := omega) only [B211_0, B211_9, B211_12, B211_31, kO_s, kcond_t, kpush_s, kpush_n, nI_add, nI_add1, pk_mul, n_0, n_2, n_3, n_4, n_5, if_true, if_false, Nat.add_zero, krecv_m ks185, kg12_0, kp12_0, kg12_1, kg12_2, kp12_2, kg12_3, kp12_3, kg12_4, kg12_5, kg12_6, kg12_7, kp12_7, kg12_8, kp12_8, kg12_9, kg12_10, kg12_11, kg12_12, kg12_13, kp12_13, kg12_14, kg12_15, kg12_16, kg12_17, kg12_18, kp12_18, kg12_19, kp12_19, kg12_20, kg12_21, kg12_22, kg12_23, kg12_24, kp12_24, kg12_25, kg12_26, kg12_27, kg12_28, kp12_28, kg12_29, kg12_30, kg12_31, kg12_32, kp12_32, kg12_33, kp12_33, ka186, kw186, ka187, kw187, ka188, kw188, kj189, kk189, kj190, kk190, ka191, kw191, ka192, kw192, ka193, kw193, kj194, kk194, kj195, kk195, ka196, kw196, ka197, kw197, ka198, kw198, ka199, kw199, ka200, kw200, ka201, kw201, kb202, kv202, ka203, kw203, ka204, kw204, ka205, kw205, ka206, kw206, ka207, kw207, kj208, kk208, c8_m17, c8_m16, c8_m15, c8_m14, c8_m13, c8_m12, c8_m11, c8_m10, c8_m2, c8_6, c8_7, c8_8, c8_9, c8_10, c8_11, c8_12, c8_13, c8_14, c8_15, c8_16, c8_17, c8_18, c8_19, c8_20, c8_21, c8_22, c8_23, c8_25, c8_30, c8_31, c8_32, c8_39, c8_40, c8_41, c8_42, c8_43, c8_45, c8_48, c8_55, c8_56, c8_57, c8_59, c8_60, c8_61, c8_63, c8_70, c8_90, c8_91, c8_92, c8_93, c8_94, c8_96, c8_97, c8_99, c8_115, c8_122, c8_125, c8_126, c8_127, c16_128, c16_129, c16_131, c16_132, c16_135, c16_136, c16_137, c16_138, c16_139, c16_142, c16_143, c16_144, c16_145, c16_146, c16_149, c16_180, c16_250, c16_255, c16_1000, c16_1002, c16_1100, c16_1155, c16_1157, c16_1164, c16_1178, c16_1210, c16_1212, c16_1219, c16_1233, c16_1265, c16_2200, c16_4095, c16_4096, c16_9999, c16_12345, nI_inj, nI_lt_eq, nI_eq1, Nat.reduceEqDiff, sp200, e1, eh, ht, nsum])
  rw [B211_0]
  refine Eq.trans L ?_
  have e1 := hr.nc
  have hn : ¬ r.nc < r.nc := by omega
  rw [B211_4]
  simp (disch := omega) only [B211_0, B211_9, B211_12, B211_31, kO_s, kcond_t, kpush_s, kpush_n, nI_add, nI_add1, pk_mul, n_0, n_2, n_3, n_4, n_5, if_true, if_false, Nat.add_zero, krecv_m ks185, kg12_0, kp12_0, kg12_1, kg12_2, kp12_2, kg12_3, kp12_3, kg12_4, kg12_5, kg12_6, kg12_7, kp12_7, kg12_8, kp12_8, kg12_9, kg12_10, kg12_11, kg12_12, kg12_13, kp12_13, kg12_14, kg12_15, kg12_16, kg12_17, kg12_18, kp12_18, kg12_19, kp12_19, kg12_20, kg12_21, kg12_22, kg12_23, kg12_24, kp12_24, kg12_25, kg12_26, kg12_27, kg12_28, kp12_28, kg12_29, kg12_30, kg12_31, kg12_32, kp12_32, kg12_33, kp12_33, ka186, kw186, ka187, kw187, ka188, kw188, kj189, kk189, kj190, kk190, ka191, kw191, ka192, kw192, ka193, kw193, kj194, kk194, kj195, kk195, ka196, kw196, ka197, kw197, ka198, kw198, ka199, kw199, ka200, kw200, ka201, kw201, kb202, kv202, ka203, kw203, ka204, kw204, ka205, kw205, ka206, kw206, ka207, kw207, kj208, kk208, c8_m17, c8_m16, c8_m15, c8_m14, c8_m13, c8_m12, c8_m11, c8_m10, c8_m2, c8_6, c8_7, c8_8, c8_9, c8_10, c8_11, c8_12, c8_13, c8_14, c8_15, c8_16, c8_17, c8_18, c8_19, c8_20, c8_21, c8_22, c8_23, c8_25, c8_30, c8_31, c8_32, c8_39, c8_40, c8_41, c8_42, c8_43, c8_45, c8_48, c8_55, c8_56, c8_57, c8_59, c8_60, c8_61, c8_63, c8_70, c8_90, c8_91, c8_92, c8_93, c8_94, c8_96, c8_97, c8_99, c8_115, c8_122, c8_125, c8_126, c8_127, c16_128, c16_129, c16_131, c16_132, c16_135, c16_136, c16_137, c16_138, c16_139, c16_142, c16_143, c16_144, c16_145, c16_146, c16_149, c16_180, c16_250, c16_255, c16_1000, c16_1002, c16_1100, c16_1155, c16_1157, c16_1164, c16_1178, c16_1210, c16_1212, c16_1219, c16_1233, c16_1265, c16_2200, c16_4095, c16_4096, c16_9999, c16_12345, nI_inj, nI_lt_eq, nI_eq1, Nat.reduceEqDiff, sp200, e1, hn, grf_nc vr vs]
end MDAY
