/-! the model's side: small methods -/
theorem nI_eq1 {a : Nat} (h : a < 2147483648) : (nI a = 1) = (a = 1) := nI_inj (b := 1) h (by omega)
theorem m1_lt0 : ((-1 : Int32) < nI 0) = True := eq_true (by decide)
theorem m1_lt : ((-1 : Int32) < 0) = True := eq_true (by decide)
theorem nI20 : (nI 2 = nI 0) = False := eq_false (by decide)
theorem nI40 : (nI 4 = nI 0) = False := eq_false (by decide)
theorem kzn0 : narrow .boolean (.int (nI 0)) = .int (nI 0) := rfl
theorem kzn1 : narrow .boolean (.int 1) = .int 1 := rfl
theorem iteR {R : Option Value → KW → Prop} {w : KW} {c : Prop} {i : Decidable c} {a b : Int32} : (@ite Prop c i (R (some (.int a)) w) (R (some (.int b)) w)) = R (some (.int (@ite Int32 c i a b))) w := by cases i <;> rfl
abbrev mRl (I : Nat → Nat → Int32) (r : aRl) : Prop := (I 191 0 = nI r.nj) ∧ (I 191 1 = nI r.nc) ∧ (I 191 3 = if r.ll = 0 then -1 else nI 0) ∧ (∀ k, k < r.nj → I 191 (4 + 3 * k) = nI (r.kd k)) ∧ (∀ k, k < r.nc → I 191 (25 + 2 * k) = nI (r.gu k)) ∧ (∀ n, n < r.ll → I 192 n = nI (r.lo n)) ∧ (0 < r.ll → I 192 r.ll = nI 0) ∧ (∀ n, n < r.ll → I 193 n = nI (r.la n))
theorem mRl.nj {I : Nat → Nat → Int32} {r : aRl} (h : mRl I r) : I 191 0 = nI r.nj := h.1
theorem mRl.nc {I : Nat → Nat → Int32} {r : aRl} (h : mRl I r) : I 191 1 = nI r.nc := h.2.1
theorem mRl.lw {I : Nat → Nat → Int32} {r : aRl} (h : mRl I r) : I 191 3 = if r.ll = 0 then -1 else nI 0 := h.2.2.1
theorem mRl.kd {I : Nat → Nat → Int32} {r : aRl} (h : mRl I r) : ∀ k, k < r.nj → I 191 (4 + 3 * k) = nI (r.kd k) := h.2.2.2.1
theorem mRl.gu {I : Nat → Nat → Int32} {r : aRl} (h : mRl I r) : ∀ k, k < r.nc → I 191 (25 + 2 * k) = nI (r.gu k) := h.2.2.2.2.1
theorem mRl.op {I : Nat → Nat → Int32} {r : aRl} (h : mRl I r) : ∀ n, n < r.ll → I 192 n = nI (r.lo n) := h.2.2.2.2.2.1
theorem mRl.en {I : Nat → Nat → Int32} {r : aRl} (h : mRl I r) : 0 < r.ll → I 192 r.ll = nI 0 := h.2.2.2.2.2.2.1
theorem mRl.ar {I : Nat → Nat → Int32} {r : aRl} (h : mRl I r) : ∀ n, n < r.ll → I 193 n = nI (r.la n) := h.2.2.2.2.2.2.2
abbrev mSt (I : Nat → Nat → Int32) (b : Nat) (r : aRl) (s : aSt) : Prop := (I 201 b = nI s.nx) ∧ (I 201 (b + 1) = s.rd) ∧ (∀ k, k < 7 → I 201 (b + 2 + k) = nI (s.hd k)) ∧ (∀ k, k < r.nj → I 201 (b + 9 + k) = nI (s.ln k)) ∧ (∀ k, k < r.nj → I 201 (b + 16 + k) = nI (s.ch k)) ∧ (∀ k, k < r.nc → I 201 (b + 23 + k) = nI (s.up k))
theorem mSt.nx {I : Nat → Nat → Int32} {b : Nat} {r : aRl} {s : aSt} (h : mSt I b r s) : I 201 b = nI s.nx := h.1
theorem mSt.rd {I : Nat → Nat → Int32} {b : Nat} {r : aRl} {s : aSt} (h : mSt I b r s) : I 201 (b + 1) = s.rd := h.2.1
theorem mSt.hd {I : Nat → Nat → Int32} {b : Nat} {r : aRl} {s : aSt} (h : mSt I b r s) : ∀ k, k < 7 → I 201 (b + 2 + k) = nI (s.hd k) := h.2.2.1
theorem mSt.ln {I : Nat → Nat → Int32} {b : Nat} {r : aRl} {s : aSt} (h : mSt I b r s) : ∀ k, k < r.nj → I 201 (b + 9 + k) = nI (s.ln k) := h.2.2.2.1
theorem mSt.ch {I : Nat → Nat → Int32} {b : Nat} {r : aRl} {s : aSt} (h : mSt I b r s) : ∀ k, k < r.nj → I 201 (b + 16 + k) = nI (s.ch k) := h.2.2.2.2.1
theorem mSt.up {I : Nat → Nat → Int32} {b : Nat} {r : aRl} {s : aSt} (h : mSt I b r s) : ∀ k, k < r.nc → I 201 (b + 23 + k) = nI (s.up k) := h.2.2.2.2.2
def mvF (u : Int32) : Int32 := if u < nI 0 then nI 0 else if nI 40 < u then nI 40 else u
def mvd (k g l : Int32) : Int32 := if k = nI 3 then mvF (nI 10) else if k = 1 then mvF (g + l - nI 10 + nI 5) else if k = nI 2 then (if nI 0 < g + l - nI 10 then mvF ((g + l - nI 10) / nI 2) else mvF (g + l - nI 10)) else mvF (g + l - nI 10)
theorem mvd_vd {k g l : Nat} (hk : k < 4) (hg : g ≤ 20) (hl : l ≤ 20) : mvd (nI k) (nI g) (nI l) = nI (vd k g l) := by
  have key : ∀ k : Fin 4, ∀ g : Fin 21, ∀ l : Fin 21, mvd (nI k.val) (nI g.val) (nI l.val) = nI (vd k.val g.val l.val) := by decide +kernel
  exact key ⟨k, hk⟩ ⟨g, by omega⟩ ⟨l, by omega⟩
section MBASE
variable {xs : List Int32} {d : Nat} {I I' : Nat → Nat → Int32} {J : Nat → Nat → Int64} {rf : Nat → Nat} {g : Nat} {R : Option Value → KW → Prop} {r : aRl} {s : aSt} {w : KW} {b : Nat}
theorem mRl.keep (h : mRl I r) (hI : ∀ x k, 191 ≤ x → x ≤ 193 → I' x k = I x k) : mRl I' r :=
  ⟨by rw [hI _ _ (by omega) (by omega), h.nj], by rw [hI _ _ (by omega) (by omega), h.nc], by rw [hI _ _ (by omega) (by omega), h.lw], fun k hk => by rw [hI _ _ (by omega) (by omega), h.kd k hk], fun k hk => by rw [hI _ _ (by omega) (by omega), h.gu k hk], fun k hk => by rw [hI _ _ (by omega) (by omega), h.op k hk], fun k => by rw [hI _ _ (by omega) (by omega), h.en k], fun k hk => by rw [hI _ _ (by omega) (by omega), h.ar k hk]⟩
theorem mSt.keep (vr : vRl r) (h : mSt I b r s) (hI : ∀ k, b ≤ k → k < b + 30 → I' 201 k = I 201 k) : mSt I' b r s := by
  have hj := vr.j
  have hc := vr.c
  exact ⟨by rw [hI _ (by omega) (by omega), h.nx], by rw [hI _ (by omega) (by omega), h.rd], fun k hk => by rw [hI _ (by omega) (by omega), h.hd k hk], fun k hk => by rw [hI _ (by omega) (by omega), h.ln k hk], fun k hk => by rw [hI _ (by omega) (by omega), h.ch k hk], fun k hk => by rw [hI _ (by omega) (by omega), h.up k hk]⟩
theorem sp155 : kX xs d 155 0 [some (.ref 185)] [] (kmm I J rf g) R = R (some (.int (I 185 0))) (kmm I J rf g) := by
  simp (disch := omega) only [B155_0, kO_s, kcond_t, kpush_s, kpush_n, nI_add, nI_add1, pk_mul, n_0, n_2, n_3, n_4, n_5, if_true, if_false, Nat.add_zero, krecv_m ks185, kg12_0, kp12_0, kg12_1, kg12_2, kp12_2, kg12_3, kp12_3, kg12_4, kg12_5, kg12_6, kg12_7, kp12_7, kg12_8, kp12_8, kg12_9, kg12_10, kg12_11, kg12_12, kg12_13, kp12_13, kg12_14, kg12_15, kg12_16, kg12_17, kg12_18, kp12_18, kg12_19, kp12_19, kg12_20, kg12_21, kg12_22, kg12_23, kg12_24, kp12_24, kg12_25, kg12_26, kg12_27, kg12_28, kp12_28, kg12_29, kg12_30, kg12_31, kg12_32, kp12_32, kg12_33, kp12_33, ka186, kw186, ka187, kw187, ka188, kw188, kj189, kk189, kj190, kk190, ka191, kw191, ka192, kw192, ka193, kw193, kj194, kk194, kj195, kk195, ka196, kw196, ka197, kw197, ka198, kw198, ka199, kw199, ka200, kw200, ka201, kw201, kb202, kv202, ka203, kw203, ka204, kw204, ka205, kw205, ka206, kw206, ka207, kw207, kj208, kk208, c8_m17, c8_m16, c8_m15, c8_m14, c8_m13, c8_m12, c8_m11, c8_m10, c8_m2, c8_6, c8_7, c8_8, c8_9, c8_10, c8_11, c8_12, c8_13, c8_14, c8_15, c8_16, c8_17, c8_18, c8_19, c8_20, c8_21, c8_22, c8_23, c8_25, c8_30, c8_31, c8_32, c8_39, c8_40, c8_41, c8_42, c8_43, c8_45, c8_48, c8_55, c8_56, c8_57, c8_59, c8_60, c8_61, c8_63, c8_70, c8_90, c8_91, c8_92, c8_93, c8_94, c8_96, c8_97, c8_99, c8_115, c8_122, c8_125, c8_126, c8_127, c16_128, c16_129, c16_131, c16_132, c16_135, c16_136, c16_137, c16_138, c16_139, c16_142, c16_143, c16_144, c16_145, c16_146, c16_149, c16_180, c16_250, c16_255, c16_1000, c16_1002, c16_1100, c16_1155, c16_1157, c16_1164, c16_1178, c16_1210, c16_1212, c16_1219, c16_1233, c16_1265, c16_2200, c16_4095, c16_4096, c16_9999, c16_12345]
theorem sp199 : kX xs d 199 0 [some (.ref 185)] [] (kmm I J rf g) R = R (some (.int (I 191 0))) (kmm I J rf g) := by
  simp (disch := omega) only [B199_0, kO_s, kcond_t, kpush_s, kpush_n, nI_add, nI_add1, pk_mul, n_0, n_2, n_3, n_4, n_5, if_true, if_false, Nat.add_zero, krecv_m ks185, kg12_0, kp12_0, kg12_1, kg12_2, kp12_2, kg12_3, kp12_3, kg12_4, kg12_5, kg12_6, kg12_7, kp12_7, kg12_8, kp12_8, kg12_9, kg12_10, kg12_11, kg12_12, kg12_13, kp12_13, kg12_14, kg12_15, kg12_16, kg12_17, kg12_18, kp12_18, kg12_19, kp12_19, kg12_20, kg12_21, kg12_22, kg12_23, kg12_24, kp12_24, kg12_25, kg12_26, kg12_27, kg12_28, kp12_28, kg12_29, kg12_30, kg12_31, kg12_32, kp12_32, kg12_33, kp12_33, ka186, kw186, ka187, kw187, ka188, kw188, kj189, kk189, kj190, kk190, ka191, kw191, ka192, kw192, ka193, kw193, kj194, kk194, kj195, kk195, ka196, kw196, ka197, kw197, ka198, kw198, ka199, kw199, ka200, kw200, ka201, kw201, kb202, kv202, ka203, kw203, ka204, kw204, ka205, kw205, ka206, kw206, ka207, kw207, kj208, kk208, c8_m17, c8_m16, c8_m15, c8_m14, c8_m13, c8_m12, c8_m11, c8_m10, c8_m2, c8_6, c8_7, c8_8, c8_9, c8_10, c8_11, c8_12, c8_13, c8_14, c8_15, c8_16, c8_17, c8_18, c8_19, c8_20, c8_21, c8_22, c8_23, c8_25, c8_30, c8_31, c8_32, c8_39, c8_40, c8_41, c8_42, c8_43, c8_45, c8_48, c8_55, c8_56, c8_57, c8_59, c8_60, c8_61, c8_63, c8_70, c8_90, c8_91, c8_92, c8_93, c8_94, c8_96, c8_97, c8_99, c8_115, c8_122, c8_125, c8_126, c8_127, c16_128, c16_129, c16_131, c16_132, c16_135, c16_136, c16_137, c16_138, c16_139, c16_142, c16_143, c16_144, c16_145, c16_146, c16_149, c16_180, c16_250, c16_255, c16_1000, c16_1002, c16_1100, c16_1155, c16_1157, c16_1164, c16_1178, c16_1210, c16_1212, c16_1219, c16_1233, c16_1265, c16_2200, c16_4095, c16_4096, c16_9999, c16_12345]
theorem sp200 : kX xs d 200 0 [some (.ref 185)] [] (kmm I J rf g) R = R (some (.int (I 191 1))) (kmm I J rf g) := by
  simp only [B200_0, kg12_10, kO_s, n_1]
  rw [ka191 (by omega), kO_s]
theorem sp201 {j k : Nat} (h : 4 + 3 * j + k < 180) : kX xs d 201 0 [some (.ref 185), some (.int (nI j)), some (.int (nI k))] [] (kmm I J rf g) R = R (some (.int (I 191 (4 + 3 * j + k)))) (kmm I J rf g) := by
  simp (disch := omega) only [B201_0, kO_s, kcond_t, kpush_s, kpush_n, nI_add, nI_add1, pk_mul, n_0, n_2, n_3, n_4, n_5, if_true, if_false, Nat.add_zero, krecv_m ks185, kg12_0, kp12_0, kg12_1, kg12_2, kp12_2, kg12_3, kp12_3, kg12_4, kg12_5, kg12_6, kg12_7, kp12_7, kg12_8, kp12_8, kg12_9, kg12_10, kg12_11, kg12_12, kg12_13, kp12_13, kg12_14, kg12_15, kg12_16, kg12_17, kg12_18, kp12_18, kg12_19, kp12_19, kg12_20, kg12_21, kg12_22, kg12_23, kg12_24, kp12_24, kg12_25, kg12_26, kg12_27, kg12_28, kp12_28, kg12_29, kg12_30, kg12_31, kg12_32, kp12_32, kg12_33, kp12_33, ka186, kw186, ka187, kw187, ka188, kw188, kj189, kk189, kj190, kk190, ka191, kw191, ka192, kw192, ka193, kw193, kj194, kk194, kj195, kk195, ka196, kw196, ka197, kw197, ka198, kw198, ka199, kw199, ka200, kw200, ka201, kw201, kb202, kv202, ka203, kw203, ka204, kw204, ka205, kw205, ka206, kw206, ka207, kw207, kj208, kk208, c8_m17, c8_m16, c8_m15, c8_m14, c8_m13, c8_m12, c8_m11, c8_m10, c8_m2, c8_6, c8_7, c8_8, c8_9, c8_10, c8_11, c8_12, c8_13, c8_14, c8_15, c8_16, c8_17, c8_18, c8_19, c8_20, c8_21, c8_22, c8_23, c8_25, c8_30, c8_31, c8_32, c8_39, c8_40, c8_41, c8_42, c8_43, c8_45, c8_48, c8_55, c8_56, c8_57, c8_59, c8_60, c8_61, c8_63, c8_70, c8_90, c8_91, c8_92, c8_93, c8_94, c8_96, c8_97, c8_99, c8_115, c8_122, c8_125, c8_126, c8_127, c16_128, c16_129, c16_131, c16_132, c16_135, c16_136, c16_137, c16_138, c16_139, c16_142, c16_143, c16_144, c16_145, c16_146, c16_149, c16_180, c16_250, c16_255, c16_1000, c16_1002, c16_1100, c16_1155, c16_1157, c16_1164, c16_1178, c16_1210, c16_1212, c16_1219, c16_1233, c16_1265, c16_2200, c16_4095, c16_4096, c16_9999, c16_12345]
theorem sp202 {j k : Nat} (h : 25 + 2 * j + k < 180) : kX xs d 202 0 [some (.ref 185), some (.int (nI j)), some (.int (nI k))] [] (kmm I J rf g) R = R (some (.int (I 191 (25 + 2 * j + k)))) (kmm I J rf g) := by
  simp (disch := omega) only [B202_0, kO_s, kcond_t, kpush_s, kpush_n, nI_add, nI_add1, pk_mul, n_0, n_2, n_3, n_4, n_5, if_true, if_false, Nat.add_zero, krecv_m ks185, kg12_0, kp12_0, kg12_1, kg12_2, kp12_2, kg12_3, kp12_3, kg12_4, kg12_5, kg12_6, kg12_7, kp12_7, kg12_8, kp12_8, kg12_9, kg12_10, kg12_11, kg12_12, kg12_13, kp12_13, kg12_14, kg12_15, kg12_16, kg12_17, kg12_18, kp12_18, kg12_19, kp12_19, kg12_20, kg12_21, kg12_22, kg12_23, kg12_24, kp12_24, kg12_25, kg12_26, kg12_27, kg12_28, kp12_28, kg12_29, kg12_30, kg12_31, kg12_32, kp12_32, kg12_33, kp12_33, ka186, kw186, ka187, kw187, ka188, kw188, kj189, kk189, kj190, kk190, ka191, kw191, ka192, kw192, ka193, kw193, kj194, kk194, kj195, kk195, ka196, kw196, ka197, kw197, ka198, kw198, ka199, kw199, ka200, kw200, ka201, kw201, kb202, kv202, ka203, kw203, ka204, kw204, ka205, kw205, ka206, kw206, ka207, kw207, kj208, kk208, c8_m17, c8_m16, c8_m15, c8_m14, c8_m13, c8_m12, c8_m11, c8_m10, c8_m2, c8_6, c8_7, c8_8, c8_9, c8_10, c8_11, c8_12, c8_13, c8_14, c8_15, c8_16, c8_17, c8_18, c8_19, c8_20, c8_21, c8_22, c8_23, c8_25, c8_30, c8_31, c8_32, c8_39, c8_40, c8_41, c8_42, c8_43, c8_45, c8_48, c8_55, c8_56, c8_57, c8_59, c8_60, c8_61, c8_63, c8_70, c8_90, c8_91, c8_92, c8_93, c8_94, c8_96, c8_97, c8_99, c8_115, c8_122, c8_125, c8_126, c8_127, c16_128, c16_129, c16_131, c16_132, c16_135, c16_136, c16_137, c16_138, c16_139, c16_142, c16_143, c16_144, c16_145, c16_146, c16_149, c16_180, c16_250, c16_255, c16_1000, c16_1002, c16_1100, c16_1155, c16_1157, c16_1164, c16_1178, c16_1210, c16_1212, c16_1219, c16_1233, c16_1265, c16_2200, c16_4095, c16_4096, c16_9999, c16_12345]
theorem sp171 (x a b : Int32) : kX xs d 171 0 [some (.int x), some (.int a), some (.int b)] [] w R = R (some (.int (kwithin x a b))) w := by
  unfold kwithin
  by_cases h : x < a
  · simp only [B171_0, B171_5, B171_10, B171_14, B171_15, h, if_true, kz_0]
  · by_cases h2 : b < x
    · simp only [B171_0, B171_5, B171_10, B171_14, B171_15, h, h2, if_true, if_false, kz_0]
    · simp only [B171_0, B171_5, B171_10, B171_14, B171_15, h, h2, if_true, if_false, kz_1]
theorem sp203 {j : Int32} : kX xs (d + 1) 203 0 [some (.ref 185), some (.int j)] [] (kmm I J rf g) R = R (some (.int (kidx j (I 191 0)))) (kmm I J rf g) := by
  unfold kidx
  by_cases h : j < 0
  · simp only [B203_0, B203_4, B203_9, B203_12, B203_16, B203_17, h, if_true, kz_0]
  · by_cases h2 : j < I 191 0
    · simp only [B203_0, B203_4, B203_9, B203_12, B203_16, B203_17, h, h2, if_true, if_false, kz_1, krecv_m ks185, kcond_t, sp199, kpush_s]
    · simp only [B203_0, B203_4, B203_9, B203_12, B203_16, B203_17, h, h2, if_true, if_false, kz_0, krecv_m ks185, kcond_t, sp199, kpush_s]
theorem sp204 {j : Int32} : kX xs (d + 1) 204 0 [some (.ref 185), some (.int j)] [] (kmm I J rf g) R = R (some (.int (kidx j (I 191 1)))) (kmm I J rf g) := by
  unfold kidx
  by_cases h : j < 0
  · simp only [B204_0, B204_4, B204_9, B204_12, B204_16, B204_17, h, if_true, kz_0]
  · by_cases h2 : j < I 191 1
    · simp only [B204_0, B204_4, B204_9, B204_12, B204_16, B204_17, h, h2, if_true, if_false, kz_1, krecv_m ks185, kcond_t, sp200, kpush_s]
    · simp only [B204_0, B204_4, B204_9, B204_12, B204_16, B204_17, h, h2, if_true, if_false, kz_0, krecv_m ks185, kcond_t, sp200, kpush_s]
theorem sp205 {j : Int32} : kX xs d 205 0 [some (.int j)] [] w R = R (some (.int (kidx j 4))) w := by
  unfold kidx
  by_cases h : j < 0
  · simp only [B205_0, B205_4, B205_9, B205_13, B205_14, h, if_true, kz_0]
  · by_cases h2 : j < 4
    · simp only [B205_0, B205_4, B205_9, B205_13, B205_14, h, h2, if_true, if_false, kz_1]
    · simp only [B205_0, B205_4, B205_9, B205_13, B205_14, h, h2, if_true, if_false, kz_0]
/-- givesBy -/
theorem sp209 {j c : Nat} (hb : b ≤ 1235) (vr : vRl r) (hr : mRl I r) (hs : mSt I b r s) (hj : j < r.nj) (hc : c < r.nc) (hl : s.ln j ≤ 20) : kX xs (d + 1) 209 0 [some (.ref 185), some (.int (nI b)), some (.int (nI j)), some (.int (nI c)), none, none] [] (kmm I J rf g) R = R (some (.int (nI (vd (r.kd j) (r.gu c) (s.ln j))))) (kmm I J rf g) := by
  have h7 := vr.j
  have c7 := vr.c
  have e1 := hr.kd j hj
  have e2 := hr.gu c hc
  have e3 := hs.ln j hj
  rw [← mvd_vd (vr.kd j (by omega)) (vr.gu c (by omega)) hl]
  have h1 : ∀ R, kX xs d 201 0 [some (.ref 185), some (.int (nI j)), some (.int (nI 0))] [] (kmm I J rf g) R = R (some (.int (nI (r.kd j)))) (kmm I J rf g) := fun R => by rw [sp201 (by omega), Nat.add_zero, e1]
  have h2 : ∀ R, kX xs d 202 0 [some (.ref 185), some (.int (nI c)), some (.int (nI 0))] [] (kmm I J rf g) R = R (some (.int (nI (r.gu c)))) (kmm I J rf g) := fun R => by rw [sp202 (by omega), Nat.add_zero, e2]
  unfold mvd mvF
  simp (disch := omega) only [B209_0, B209_6, B209_14, B209_37, B209_42, B209_48, B209_55, B209_61, B209_66, B209_73, B209_75, B209_82, B209_86, B209_93, B209_98, B209_100, kO_s, kcond_t, kpush_s, kpush_n, nI_add, nI_add1, pk_mul, n_0, n_2, n_3, n_4, n_5, if_true, if_false, Nat.add_zero, krecv_m ks185, kg12_0, kp12_0, kg12_1, kg12_2, kp12_2, kg12_3, kp12_3, kg12_4, kg12_5, kg12_6, kg12_7, kp12_7, kg12_8, kp12_8, kg12_9, kg12_10, kg12_11, kg12_12, kg12_13, kp12_13, kg12_14, kg12_15, kg12_16, kg12_17, kg12_18, kp12_18, kg12_19, kp12_19, kg12_20, kg12_21, kg12_22, kg12_23, kg12_24, kp12_24, kg12_25, kg12_26, kg12_27, kg12_28, kp12_28, kg12_29, kg12_30, kg12_31, kg12_32, kp12_32, kg12_33, kp12_33, ka186, kw186, ka187, kw187, ka188, kw188, kj189, kk189, kj190, kk190, ka191, kw191, ka192, kw192, ka193, kw193, kj194, kk194, kj195, kk195, ka196, kw196, ka197, kw197, ka198, kw198, ka199, kw199, ka200, kw200, ka201, kw201, kb202, kv202, ka203, kw203, ka204, kw204, ka205, kw205, ka206, kw206, ka207, kw207, kj208, kk208, c8_m17, c8_m16, c8_m15, c8_m14, c8_m13, c8_m12, c8_m11, c8_m10, c8_m2, c8_6, c8_7, c8_8, c8_9, c8_10, c8_11, c8_12, c8_13, c8_14, c8_15, c8_16, c8_17, c8_18, c8_19, c8_20, c8_21, c8_22, c8_23, c8_25, c8_30, c8_31, c8_32, c8_39, c8_40, c8_41, c8_42, c8_43, c8_45, c8_48, c8_55, c8_56, c8_57, c8_59, c8_60, c8_61, c8_63, c8_70, c8_90, c8_91, c8_92, c8_93, c8_94, c8_96, c8_97, c8_99, c8_115, c8_122, c8_125, c8_126, c8_127, c16_128, c16_129, c16_131, c16_132, c16_135, c16_136, c16_137, c16_138, c16_139, c16_142, c16_143, c16_144, c16_145, c16_146, c16_149, c16_180, c16_250, c16_255, c16_1000, c16_1002, c16_1100, c16_1155, c16_1157, c16_1164, c16_1178, c16_1210, c16_1212, c16_1219, c16_1233, c16_1265, c16_2200, c16_4095, c16_4096, c16_9999, c16_12345, h1, h2, e3, iteR, nI20]
end MBASE
