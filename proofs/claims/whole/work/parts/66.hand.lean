/-! by hand: day, plead, lean, change, undo -/
def aDay (r : aRl) (s : aSt) : Int32 := bw (dH r s s.nx) (dM r s s.nx)
def hDay (r : aRl) (H : aH) : aH := kpH H (pass r H.s)
def aPlead (r : aRl) (s : aSt) (x y : Int32) : Int32 := if kidx x (nI r.nc) = 0 then -1 else if kidx y (nI 4) = 0 then -1 else nI (s.up x.toNatClampNeg)
def hPlead (r : aRl) (H : aH) (x y : Int32) : aH := if kidx x (nI r.nc) = 0 then H else if kidx y (nI 4) = 0 then H else kpH H (pld H.s x.toNatClampNeg y.toNatClampNeg)
def aLean (r : aRl) (s : aSt) (x y : Int32) : Int32 := if kidx x (nI r.nj) = 0 then -1 else if kidx y (nI 21) = 0 then -1 else nI (s.ln x.toNatClampNeg)
def hLean (r : aRl) (H : aH) (x y : Int32) : aH := if kidx x (nI r.nj) = 0 then H else if kidx y (nI 21) = 0 then H else kpH H (lnd H.s x.toNatClampNeg y.toNatClampNeg)
def aChange (r : aRl) (x y : Int32) : Int32 := if kidx x (nI r.nj) = 0 then 0 else if kidx y (nI r.nj) = 0 then 0 else if x = y then 0 else 1
def hChange (r : aRl) (H : aH) (x y : Int32) : aH := if kidx x (nI r.nj) = 0 then H else if kidx y (nI r.nj) = 0 then H else if x = y then H else kpH H (chg H.s x.toNatClampNeg y.toNatClampNeg)
def aUndo (H : aH) : Int32 := if H.pn = 0 then 0 else 1
def hUndo (H : aH) : aH := if H.pn = 0 then H else aH.mk (H.ps (H.pn - 1)) (H.pn - 1) H.ps
theorem i10 : ((1 : Int32) = 0) = False := eq_false (by decide)
section HA
variable {xs : List Int32} {d : Nat} {I I' I2 : Nat → Nat → Int32} {J : Nat → Nat → Int64} {rf : Nat → Nat} {g : Nat} {R : Option Value → KW → Prop} {r : aRl} {s u : aSt} {b : Nat} {H : aH}
/-- kept, and another state made -/
theorem cH.kept {top : Nat} {s' : aSt} (h : cH I rf r H) (hp : cPa I' (kpN H.pn) top (kpS H.pn H.ps H.s)) (hr : cRl I' (rf 2) r) (vs : vSt r s') (hs : cSt I' 39 s') (hn : H.pn ≤ 16) : cH I' rf r (kpH H s') :=
  ⟨⟨h.b.t, h.b.vr, vs, hr, hs⟩, ⟨top, hp⟩, kpS_v h.b.vs h.v hn⟩
theorem mH.kept {s' : aSt} (h : mH I r H) (hp : mPa I' r (kpN H.pn) (kpS H.pn H.ps H.s)) (hr : mRl I' r) (vs : vSt r s') (hs : mSt I' 0 r s') : mH I' r (kpH H s') :=
  ⟨⟨h.b.vr, vs, hr, hs⟩, hp, kpS_v h.b.vs h.v h.p.nl⟩
/-- heardBits -/
theorem sp69g (vr : vRl r) {day : Nat} (q : cDay I r u day) : kX xs d 69 0 [some (.ref 54), none, none] [] (kmm I J rf g) R = R (some (.int (bw (dH r u day) (dM r u day)))) (kmm I J rf g) := by
  have e : ∀ n, n ≤ dM r u day → kfold (fun p x => x ||| (1 <<< (I 55 p &&& 31))) n = bw (dH r u day) n := by
    intro n
    induction n with
    | zero => intro _; rfl
    | succ n ih =>
      intro hn
      rw [kfold, bw, ih (by omega), q.h n (by omega)]
  rw [sp69 (dM7 vr u day) q.m, e _ (Nat.le_refl _)]
/-- day -/
theorem sp110 (h : cH I rf r H) : ∃ I', cH I' rf r (hDay r H) ∧ cK I I' ∧ ∀ d R, kX xs (d + 5) 110 0 [some (.ref 0)] [] (kmm I J rf g) R = R (some (.int (aDay r H.s))) (kmm I' J rf g) := by
  obtain ⟨top, hp⟩ := h.p
  have ha := kad6 h.b.t
  obtain ⟨I1, p1, f1, e1⟩ := sp27e (xs := xs) (J := J) (rf := rf) (g := g) h.b.st hp
  have hr1 : cRl I1 (rf 2) r := h.b.rl.keep (fun x k h1 h2 => f1 x k (by omega))
  have hs1 : cSt I1 39 H.s := h.b.st.keep (fun x k h1 h2 => f1 x k (by omega))
  obtain ⟨I2, q1, q2, q3, q4⟩ := sp65e (xs := xs) (J := J) (rf := rf) (g := g) h.b.t ks39 h.b.vr h.b.vs hr1 hs1
  refine ⟨I2, h.kept (p1.keep (fun x k h1 h2 => q3 x k (by omega) (by omega) (by omega))) (hr1.keep (fun x k h1 h2 => q3 x k (by omega) (by omega) (by omega))) (pass_v h.b.vr h.b.vs) q2 hp.nl, fun x k h1 h2 h3 h4 => by rw [q3 x k (by omega) (by omega) (by omega), f1 x k (by omega)], fun d R => ?_⟩
  rw [B110_0, kg11_11, kO_s, kg11_6, kO_s, krecv_m ks65, kcond_t, e1, kpush_n, B110_11, kg11_9, kO_s, kg11_2, kO_s, kg11_6, kO_s, krecv_m ks54, kcond_t, q4, kpush_n, B110_26, kg11_9, kO_s, krecv_m ks54, kcond_t, sp69g h.b.vr q1.day, kpush_s, B110_33]
  rfl
theorem sp222 (h : mH I r H) : ∃ I', mH I' r (hDay r H) ∧ mK I I' ∧ ∀ d R, kX xs (d + 4) 222 0 [some (.ref 185)] [] (kmm I J rf g) R = R (some (.int (aDay r H.s))) (kmm I' J rf g) := by
  have hq := mQ.thr I (nI 0)
  have h' := h.keep hq
  have vr := h.b.vr
  obtain ⟨I1, p1, f1, e1⟩ := sp198 (xs := xs) (J := J) (rf := rf) (g := g) vr h'.b.st h'.p
  have hr1 : mRl I1 r := h'.b.rl.keep (fun x k h1 h2 => f1 x k (by omega) (by omega))
  have hs1 : mSt I1 0 r H.s := h'.b.st.keep vr (fun k h1 h2 => f1 _ _ (by omega) (by omega))
  obtain ⟨I2, q1, q2, q3⟩ := sp215 (xs := xs) (J := J) (rf := rf) (g := g) (show 0 ≤ 1235 by omega) vr h.b.vs hr1 hs1
  refine ⟨I2, h.kept (p1.keep vr (q2 _ _ (by omega) (by omega) (by omega) (by omega) (by omega) (by omega)) (fun k h1 h2 => q2 _ _ (by omega) (by omega) (by omega) (by omega) (by omega) (by omega))) (hr1.keep (fun x k h1 h2 => q2 x k (by omega) (by omega) (by omega) (by omega) (by omega) (by omega))) (pass_v vr h.b.vs) q1, fun x k h1 h2 h3 h4 h5 => by rw [q2 x k (by omega) (by omega) (by omega) (by omega) (by omega) (by omega), f1 x k (by omega) (by omega), hq x k (by omega) (by omega) (by omega) (by omega) (by omega)], fun d R => ?_⟩
  rw [B222_0, kp12_0, kO_s, n_0, krecv_m ks185, kcond_t, e1, kpush_n, B222_9, krecv_m ks185, kcond_t, n_0, q3, kpush_s, B222_14]
  rfl
/-- plead -/
theorem sp111 (h : cH I rf r H) (x y : Int32) : ∃ I', cH I' rf r (hPlead r H x y) ∧ cK I I' ∧ ∀ d R, kX xs (d + 3) 111 0 [some (.ref 0), some (.int x), some (.int y), none] [] (kmm I J rf g) R = R (some (.int (aPlead r H.s x y))) (kmm I' J rf g) := by
  have ht := h.b.t
  have hc7 := h.b.vr.c
  have e0 := h.b.rl.nc
  unfold hPlead aPlead
  rcases kidx_c x (show r.nc < 2147483648 by omega) with ⟨c, hc, rfl⟩ | h0
  · have hk := kidx_in hc (show r.nc < 2147483648 by omega)
    rcases kidx_c y (show 4 < 2147483648 by omega) with ⟨n, hn, rfl⟩ | h1
    · have hk2 := kidx_in hn (show 4 < 2147483648 by omega)
      obtain ⟨top, hp⟩ := h.p
      have ha := kad6 ht
      obtain ⟨I1, p1, f1, e1⟩ := sp27e (xs := xs) (J := J) (rf := rf) (g := g) h.b.st hp
      have hr1 : cRl I1 (rf 2) r := h.b.rl.keep (fun x k h1 h2 => f1 x k (by omega))
      have hs1 : cSt I1 39 H.s := h.b.st.keep (fun x k h1 h2 => f1 x k (by omega))
      obtain ⟨I2, q1, q2, q3⟩ := sp88e (xs := xs) (J := J) (rf := rf) (g := g) (day := n) ks39 hs1 (show c < 7 by omega)
      have eu := hs1.up c (by omega)
      simp only [hk, hk2, i10, if_false]
      rw [nI_clamp (by omega), nI_clamp (by omega)]
      refine ⟨I2, h.kept (p1.keep (fun x k h1 h2 => q2 x k (by omega))) (hr1.keep (fun x k h1 h2 => q2 x k (by omega))) (pld_v h.b.vs hn) q1 hp.nl, fun x k h1 h2 h3 h4 => by rw [q2 x k (by omega), f1 x k (by omega)], fun d R => ?_⟩
      simp (disch := omega) only [B111_0, B111_8, B111_11, B111_15, B111_18, B111_20, B111_31, B111_50, kO_s, kcond_t, kpush_s, kpush_n, nI_add, nI_add1, pk_mul, n_0, n_2, n_3, n_4, n_5, if_true, if_false, Nat.add_zero, krecv_m ks0, krecv_m ks54, kg1_0, kg2_0, kp2_0, kg2_1, kg2_2, kp2_2, kg2_3, kp2_3, kg2_4, kp2_4, kg2_5, kp2_5, kg2_6, kp2_6, kg2_7, kp2_7, kg3_0, kp3_0, kg3_1, kp3_1, kg3_2, kg4_0, kg4_1, kg5_0, kg5_1, kg5_2, kp5_2, kg5_3, kp5_3, kg5_4, kp5_4, kg5_5, kp5_5, kg8_0, kp8_0, kg8_1, kg8_2, kg8_3, kg8_4, kg8_5, kg8_6, kg8_7, kg11_0, kg11_1, kg11_2, kg11_3, kg11_4, kg11_5, kg11_6, kg11_7, kg11_8, kg11_9, kg11_10, kg11_11, kg11_12, kg11_13, kg11_14, kg11_15, kg11_16, kp11_16, kb2, kv2, ka55, kw55, ka56, kw56, ka57, kw57, ka58, kw58, kb59, kv59, ka60, kw60, ka61, kw61, ka63, kw63, ka64, kw64, kr66, kr150, kr151, kb152, kv152, c8_m17, c8_m16, c8_m15, c8_m14, c8_m13, c8_m12, c8_m11, c8_m10, c8_m2, c8_6, c8_7, c8_8, c8_9, c8_10, c8_11, c8_12, c8_13, c8_14, c8_15, c8_16, c8_17, c8_18, c8_19, c8_20, c8_21, c8_22, c8_23, c8_25, c8_30, c8_31, c8_32, c8_39, c8_40, c8_41, c8_42, c8_43, c8_45, c8_48, c8_55, c8_56, c8_57, c8_59, c8_60, c8_61, c8_63, c8_70, c8_90, c8_91, c8_92, c8_93, c8_94, c8_96, c8_97, c8_99, c8_115, c8_122, c8_125, c8_126, c8_127, c16_128, c16_129, c16_131, c16_132, c16_135, c16_136, c16_137, c16_138, c16_139, c16_142, c16_143, c16_144, c16_145, c16_146, c16_149, c16_180, c16_250, c16_255, c16_1000, c16_1002, c16_1100, c16_1155, c16_1157, c16_1164, c16_1178, c16_1210, c16_1212, c16_1219, c16_1233, c16_1265, c16_2200, c16_4095, c16_4096, c16_9999, c16_12345, krecv_m ks65, krecv_m ht, sp51 ht, sp52 ht, kg6_0 ht, kg6_1 ht, kg6_2 ht, kg6_3 ht, kg6_4 ht, kg6_5 ht, kg6_6 ht, kg6_7 ht, kj6_1 ht, kj6_2 ht, ka6_3 ht, ka6_4 ht, krecv_m ks39, kg9_0 ks39, kp9_0 ks39, kg9_1 ks39, kp9_1 ks39, kg9_2 ks39, kg9_3 ks39, kg9_4 ks39, kg9_5 ks39, ka9_1 ks39, kw9_1 ks39, ka9_2 ks39, kw9_2 ks39, ka9_3 ks39, kw9_3 ks39, ka9_4 ks39, kw9_4 ks39, one0, m1_lt0, nI20, nI40, e0, hk, sp153, hk2, e1, eu, q3]
    · simp only [hk, h1, i10, if_true, if_false]
      refine ⟨I, h, cK.refl I, fun d R => ?_⟩
      simp (disch := omega) only [B111_0, B111_8, B111_11, B111_15, B111_18, B111_20, B111_31, B111_50, kO_s, kcond_t, kpush_s, kpush_n, nI_add, nI_add1, pk_mul, n_0, n_2, n_3, n_4, n_5, if_true, if_false, Nat.add_zero, krecv_m ks0, krecv_m ks54, kg1_0, kg2_0, kp2_0, kg2_1, kg2_2, kp2_2, kg2_3, kp2_3, kg2_4, kp2_4, kg2_5, kp2_5, kg2_6, kp2_6, kg2_7, kp2_7, kg3_0, kp3_0, kg3_1, kp3_1, kg3_2, kg4_0, kg4_1, kg5_0, kg5_1, kg5_2, kp5_2, kg5_3, kp5_3, kg5_4, kp5_4, kg5_5, kp5_5, kg8_0, kp8_0, kg8_1, kg8_2, kg8_3, kg8_4, kg8_5, kg8_6, kg8_7, kg11_0, kg11_1, kg11_2, kg11_3, kg11_4, kg11_5, kg11_6, kg11_7, kg11_8, kg11_9, kg11_10, kg11_11, kg11_12, kg11_13, kg11_14, kg11_15, kg11_16, kp11_16, kb2, kv2, ka55, kw55, ka56, kw56, ka57, kw57, ka58, kw58, kb59, kv59, ka60, kw60, ka61, kw61, ka63, kw63, ka64, kw64, kr66, kr150, kr151, kb152, kv152, c8_m17, c8_m16, c8_m15, c8_m14, c8_m13, c8_m12, c8_m11, c8_m10, c8_m2, c8_6, c8_7, c8_8, c8_9, c8_10, c8_11, c8_12, c8_13, c8_14, c8_15, c8_16, c8_17, c8_18, c8_19, c8_20, c8_21, c8_22, c8_23, c8_25, c8_30, c8_31, c8_32, c8_39, c8_40, c8_41, c8_42, c8_43, c8_45, c8_48, c8_55, c8_56, c8_57, c8_59, c8_60, c8_61, c8_63, c8_70, c8_90, c8_91, c8_92, c8_93, c8_94, c8_96, c8_97, c8_99, c8_115, c8_122, c8_125, c8_126, c8_127, c16_128, c16_129, c16_131, c16_132, c16_135, c16_136, c16_137, c16_138, c16_139, c16_142, c16_143, c16_144, c16_145, c16_146, c16_149, c16_180, c16_250, c16_255, c16_1000, c16_1002, c16_1100, c16_1155, c16_1157, c16_1164, c16_1178, c16_1210, c16_1212, c16_1219, c16_1233, c16_1265, c16_2200, c16_4095, c16_4096, c16_9999, c16_12345, krecv_m ht, sp51 ht, sp52 ht, kg6_0 ht, kg6_1 ht, kg6_2 ht, kg6_3 ht, kg6_4 ht, kg6_5 ht, kg6_6 ht, kg6_7 ht, kj6_1 ht, kj6_2 ht, ka6_3 ht, ka6_4 ht, one0, m1_lt0, nI20, nI40, e0, hk, sp153, h1]
  · simp only [h0, if_true]
    refine ⟨I, h, cK.refl I, fun d R => ?_⟩
    simp (disch := omega) only [B111_0, B111_8, B111_11, B111_15, B111_18, B111_20, B111_31, B111_50, kO_s, kcond_t, kpush_s, kpush_n, nI_add, nI_add1, pk_mul, n_0, n_2, n_3, n_4, n_5, if_true, if_false, Nat.add_zero, krecv_m ks0, krecv_m ks54, kg1_0, kg2_0, kp2_0, kg2_1, kg2_2, kp2_2, kg2_3, kp2_3, kg2_4, kp2_4, kg2_5, kp2_5, kg2_6, kp2_6, kg2_7, kp2_7, kg3_0, kp3_0, kg3_1, kp3_1, kg3_2, kg4_0, kg4_1, kg5_0, kg5_1, kg5_2, kp5_2, kg5_3, kp5_3, kg5_4, kp5_4, kg5_5, kp5_5, kg8_0, kp8_0, kg8_1, kg8_2, kg8_3, kg8_4, kg8_5, kg8_6, kg8_7, kg11_0, kg11_1, kg11_2, kg11_3, kg11_4, kg11_5, kg11_6, kg11_7, kg11_8, kg11_9, kg11_10, kg11_11, kg11_12, kg11_13, kg11_14, kg11_15, kg11_16, kp11_16, kb2, kv2, ka55, kw55, ka56, kw56, ka57, kw57, ka58, kw58, kb59, kv59, ka60, kw60, ka61, kw61, ka63, kw63, ka64, kw64, kr66, kr150, kr151, kb152, kv152, c8_m17, c8_m16, c8_m15, c8_m14, c8_m13, c8_m12, c8_m11, c8_m10, c8_m2, c8_6, c8_7, c8_8, c8_9, c8_10, c8_11, c8_12, c8_13, c8_14, c8_15, c8_16, c8_17, c8_18, c8_19, c8_20, c8_21, c8_22, c8_23, c8_25, c8_30, c8_31, c8_32, c8_39, c8_40, c8_41, c8_42, c8_43, c8_45, c8_48, c8_55, c8_56, c8_57, c8_59, c8_60, c8_61, c8_63, c8_70, c8_90, c8_91, c8_92, c8_93, c8_94, c8_96, c8_97, c8_99, c8_115, c8_122, c8_125, c8_126, c8_127, c16_128, c16_129, c16_131, c16_132, c16_135, c16_136, c16_137, c16_138, c16_139, c16_142, c16_143, c16_144, c16_145, c16_146, c16_149, c16_180, c16_250, c16_255, c16_1000, c16_1002, c16_1100, c16_1155, c16_1157, c16_1164, c16_1178, c16_1210, c16_1212, c16_1219, c16_1233, c16_1265, c16_2200, c16_4095, c16_4096, c16_9999, c16_12345, krecv_m ht, sp51 ht, sp52 ht, kg6_0 ht, kg6_1 ht, kg6_2 ht, kg6_3 ht, kg6_4 ht, kg6_5 ht, kg6_6 ht, kg6_7 ht, kj6_1 ht, kj6_2 ht, ka6_3 ht, ka6_4 ht, one0, m1_lt0, nI20, nI40, e0, h0]
theorem mSt_pld (vr : vRl r) (h : mSt I 0 r s) {c n : Nat} (hc : c < r.nc) : mSt (ku I 201 (23 + c) (nI n)) 0 r (pld s c n) := by
  have hj7 := vr.j
  have hc7 := vr.c
  refine ⟨?_, ?_, fun k hk => ?_, fun k hk => ?_, fun k hk => ?_, fun k hk => ?_⟩
  · rw [ku_nek (by omega), h.nx]; rfl
  · rw [ku_nek (by omega), h.rd]; rfl
  · rw [ku_nek (by omega), h.hd k hk]; rfl
  · rw [ku_nek (by omega), h.ln k hk]; rfl
  · rw [ku_nek (by omega), h.ch k hk]; rfl
  · show _ = nI (ku1 s.up c n k)
    by_cases e1 : k = c
    · rw [e1, show 0 + 23 + c = 23 + c by omega, ku_same, ku1_s]
    · rw [ku_nek (by omega), ku1_n e1, h.up k hk]
theorem mSt_lnd (vr : vRl r) (h : mSt I 0 r s) {j n : Nat} (hj : j < r.nj) : mSt (ku I 201 (9 + j) (nI n)) 0 r (lnd s j n) := by
  have hj7 := vr.j
  have hc7 := vr.c
  refine ⟨?_, ?_, fun k hk => ?_, fun k hk => ?_, fun k hk => ?_, fun k hk => ?_⟩
  · rw [ku_nek (by omega), h.nx]; rfl
  · rw [ku_nek (by omega), h.rd]; rfl
  · rw [ku_nek (by omega), h.hd k hk]; rfl
  · show _ = nI (ku1 s.ln j n k)
    by_cases e1 : k = j
    · rw [e1, show 0 + 9 + j = 9 + j by omega, ku_same, ku1_s]
    · rw [ku_nek (by omega), ku1_n e1, h.ln k hk]
  · rw [ku_nek (by omega), h.ch k hk]; rfl
  · rw [ku_nek (by omega), h.up k hk]; rfl
theorem sp223 (h : mH I r H) (x y : Int32) : ∃ I', mH I' r (hPlead r H x y) ∧ mK I I' ∧ ∀ d R, kX xs (d + 2) 223 0 [some (.ref 185), some (.int x), some (.int y), none] [] (kmm I J rf g) R = R (some (.int (aPlead r H.s x y))) (kmm I' J rf g) := by
  have hq := mQ.thr I (nI 0)
  have h' := h.keep hq
  have vr := h.b.vr
  have hc7 := vr.c
  have e0 := h'.b.rl.nc
  unfold hPlead aPlead
  rcases kidx_c x (show r.nc < 2147483648 by omega) with ⟨c, hc, rfl⟩ | h0
  · have hk := kidx_in hc (show r.nc < 2147483648 by omega)
    rcases kidx_c y (show 4 < 2147483648 by omega) with ⟨n, hn, rfl⟩ | h1
    · have hk2 := kidx_in hn (show 4 < 2147483648 by omega)
      obtain ⟨I1, p1, f1, e1⟩ := sp198 (xs := xs) (J := J) (rf := rf) (g := g) vr h'.b.st h'.p
      have hr1 : mRl I1 r := h'.b.rl.keep (fun x k h1 h2 => f1 x k (by omega) (by omega))
      have hs1 : mSt I1 0 r H.s := h'.b.st.keep vr (fun k h1 h2 => f1 _ _ (by omega) (by omega))
      have eu := hs1.up c hc
      rw [show 0 + 23 + c = 23 + c by omega] at eu
      simp only [hk, hk2, i10, if_false]
      rw [nI_clamp (by omega), nI_clamp (by omega)]
      refine ⟨ku I1 201 (23 + c) (nI n), h.kept (p1.keep vr (ku_nea (by omega)) (fun k h1 h2 => ku_nek (by omega))) (hr1.keep (fun x k h1 h2 => ku_nea (by omega))) (pld_v h.b.vs hn) (mSt_pld vr hs1 hc), fun x k h1 h2 h3 h4 h5 => by rw [ku_ne (by omega), f1 x k (by omega) (by omega), hq x k (by omega) (by omega) (by omega) (by omega) (by omega)], fun d R => ?_⟩
      simp (disch := omega) only [B223_0, B223_10, B223_13, B223_17, B223_20, B223_22, B223_26, kO_s, kcond_t, kpush_s, kpush_n, nI_add, nI_add1, pk_mul, n_0, n_2, n_3, n_4, n_5, if_true, if_false, Nat.add_zero, krecv_m ks185, kg12_0, kp12_0, kg12_1, kg12_2, kp12_2, kg12_3, kp12_3, kg12_4, kg12_5, kg12_6, kg12_7, kp12_7, kg12_8, kp12_8, kg12_9, kg12_10, kg12_11, kg12_12, kg12_13, kp12_13, kg12_14, kg12_15, kg12_16, kg12_17, kg12_18, kp12_18, kg12_19, kp12_19, kg12_20, kg12_21, kg12_22, kg12_23, kg12_24, kp12_24, kg12_25, kg12_26, kg12_27, kg12_28, kp12_28, kg12_29, kg12_30, kg12_31, kg12_32, kp12_32, kg12_33, kp12_33, ka186, kw186, ka187, kw187, ka188, kw188, kj189, kk189, kj190, kk190, ka191, kw191, ka192, kw192, ka193, kw193, kj194, kk194, kj195, kk195, ka196, kw196, ka197, kw197, ka198, kw198, ka199, kw199, ka200, kw200, ka201, kw201, kb202, kv202, ka203, kw203, ka204, kw204, ka205, kw205, ka206, kw206, ka207, kw207, kj208, kk208, c8_m17, c8_m16, c8_m15, c8_m14, c8_m13, c8_m12, c8_m11, c8_m10, c8_m2, c8_6, c8_7, c8_8, c8_9, c8_10, c8_11, c8_12, c8_13, c8_14, c8_15, c8_16, c8_17, c8_18, c8_19, c8_20, c8_21, c8_22, c8_23, c8_25, c8_30, c8_31, c8_32, c8_39, c8_40, c8_41, c8_42, c8_43, c8_45, c8_48, c8_55, c8_56, c8_57, c8_59, c8_60, c8_61, c8_63, c8_70, c8_90, c8_91, c8_92, c8_93, c8_94, c8_96, c8_97, c8_99, c8_115, c8_122, c8_125, c8_126, c8_127, c16_128, c16_129, c16_131, c16_132, c16_135, c16_136, c16_137, c16_138, c16_139, c16_142, c16_143, c16_144, c16_145, c16_146, c16_149, c16_180, c16_250, c16_255, c16_1000, c16_1002, c16_1100, c16_1155, c16_1157, c16_1164, c16_1178, c16_1210, c16_1212, c16_1219, c16_1233, c16_1265, c16_2200, c16_4095, c16_4096, c16_9999, c16_12345, one0, m1_lt0, nI20, nI40, sp204, sp205, e0, hk, hk2, e1, eu]
    · simp only [hk, h1, i10, if_true, if_false]
      refine ⟨_, h', mK.of hq, fun d R => ?_⟩
      simp (disch := omega) only [B223_0, B223_10, B223_13, B223_17, B223_20, B223_22, B223_26, kO_s, kcond_t, kpush_s, kpush_n, nI_add, nI_add1, pk_mul, n_0, n_2, n_3, n_4, n_5, if_true, if_false, Nat.add_zero, krecv_m ks185, kg12_0, kp12_0, kg12_1, kg12_2, kp12_2, kg12_3, kp12_3, kg12_4, kg12_5, kg12_6, kg12_7, kp12_7, kg12_8, kp12_8, kg12_9, kg12_10, kg12_11, kg12_12, kg12_13, kp12_13, kg12_14, kg12_15, kg12_16, kg12_17, kg12_18, kp12_18, kg12_19, kp12_19, kg12_20, kg12_21, kg12_22, kg12_23, kg12_24, kp12_24, kg12_25, kg12_26, kg12_27, kg12_28, kp12_28, kg12_29, kg12_30, kg12_31, kg12_32, kp12_32, kg12_33, kp12_33, ka186, kw186, ka187, kw187, ka188, kw188, kj189, kk189, kj190, kk190, ka191, kw191, ka192, kw192, ka193, kw193, kj194, kk194, kj195, kk195, ka196, kw196, ka197, kw197, ka198, kw198, ka199, kw199, ka200, kw200, ka201, kw201, kb202, kv202, ka203, kw203, ka204, kw204, ka205, kw205, ka206, kw206, ka207, kw207, kj208, kk208, c8_m17, c8_m16, c8_m15, c8_m14, c8_m13, c8_m12, c8_m11, c8_m10, c8_m2, c8_6, c8_7, c8_8, c8_9, c8_10, c8_11, c8_12, c8_13, c8_14, c8_15, c8_16, c8_17, c8_18, c8_19, c8_20, c8_21, c8_22, c8_23, c8_25, c8_30, c8_31, c8_32, c8_39, c8_40, c8_41, c8_42, c8_43, c8_45, c8_48, c8_55, c8_56, c8_57, c8_59, c8_60, c8_61, c8_63, c8_70, c8_90, c8_91, c8_92, c8_93, c8_94, c8_96, c8_97, c8_99, c8_115, c8_122, c8_125, c8_126, c8_127, c16_128, c16_129, c16_131, c16_132, c16_135, c16_136, c16_137, c16_138, c16_139, c16_142, c16_143, c16_144, c16_145, c16_146, c16_149, c16_180, c16_250, c16_255, c16_1000, c16_1002, c16_1100, c16_1155, c16_1157, c16_1164, c16_1178, c16_1210, c16_1212, c16_1219, c16_1233, c16_1265, c16_2200, c16_4095, c16_4096, c16_9999, c16_12345, one0, m1_lt0, nI20, nI40, sp204, sp205, e0, hk, h1]
  · simp only [h0, if_true]
    refine ⟨_, h', mK.of hq, fun d R => ?_⟩
    simp (disch := omega) only [B223_0, B223_10, B223_13, B223_17, B223_20, B223_22, B223_26, kO_s, kcond_t, kpush_s, kpush_n, nI_add, nI_add1, pk_mul, n_0, n_2, n_3, n_4, n_5, if_true, if_false, Nat.add_zero, krecv_m ks185, kg12_0, kp12_0, kg12_1, kg12_2, kp12_2, kg12_3, kp12_3, kg12_4, kg12_5, kg12_6, kg12_7, kp12_7, kg12_8, kp12_8, kg12_9, kg12_10, kg12_11, kg12_12, kg12_13, kp12_13, kg12_14, kg12_15, kg12_16, kg12_17, kg12_18, kp12_18, kg12_19, kp12_19, kg12_20, kg12_21, kg12_22, kg12_23, kg12_24, kp12_24, kg12_25, kg12_26, kg12_27, kg12_28, kp12_28, kg12_29, kg12_30, kg12_31, kg12_32, kp12_32, kg12_33, kp12_33, ka186, kw186, ka187, kw187, ka188, kw188, kj189, kk189, kj190, kk190, ka191, kw191, ka192, kw192, ka193, kw193, kj194, kk194, kj195, kk195, ka196, kw196, ka197, kw197, ka198, kw198, ka199, kw199, ka200, kw200, ka201, kw201, kb202, kv202, ka203, kw203, ka204, kw204, ka205, kw205, ka206, kw206, ka207, kw207, kj208, kk208, c8_m17, c8_m16, c8_m15, c8_m14, c8_m13, c8_m12, c8_m11, c8_m10, c8_m2, c8_6, c8_7, c8_8, c8_9, c8_10, c8_11, c8_12, c8_13, c8_14, c8_15, c8_16, c8_17, c8_18, c8_19, c8_20, c8_21, c8_22, c8_23, c8_25, c8_30, c8_31, c8_32, c8_39, c8_40, c8_41, c8_42, c8_43, c8_45, c8_48, c8_55, c8_56, c8_57, c8_59, c8_60, c8_61, c8_63, c8_70, c8_90, c8_91, c8_92, c8_93, c8_94, c8_96, c8_97, c8_99, c8_115, c8_122, c8_125, c8_126, c8_127, c16_128, c16_129, c16_131, c16_132, c16_135, c16_136, c16_137, c16_138, c16_139, c16_142, c16_143, c16_144, c16_145, c16_146, c16_149, c16_180, c16_250, c16_255, c16_1000, c16_1002, c16_1100, c16_1155, c16_1157, c16_1164, c16_1178, c16_1210, c16_1212, c16_1219, c16_1233, c16_1265, c16_2200, c16_4095, c16_4096, c16_9999, c16_12345, one0, m1_lt0, nI20, nI40, sp204, e0, h0]
/-- lean -/
theorem sp112 (h : cH I rf r H) (x y : Int32) : ∃ I', cH I' rf r (hLean r H x y) ∧ cK I I' ∧ ∀ d R, kX xs (d + 3) 112 0 [some (.ref 0), some (.int x), some (.int y), none] [] (kmm I J rf g) R = R (some (.int (aLean r H.s x y))) (kmm I' J rf g) := by
  have ht := h.b.t
  have hj7 := h.b.vr.j
  have e0 := h.b.rl.nj
  unfold hLean aLean
  rcases kidx_c x (show r.nj < 2147483648 by omega) with ⟨c, hc, rfl⟩ | h0
  · have hk := kidx_in hc (show r.nj < 2147483648 by omega)
    rcases kidx_c y (show 21 < 2147483648 by omega) with ⟨n, hn, rfl⟩ | h1
    · have hk2 := kidx_in hn (show 21 < 2147483648 by omega)
      obtain ⟨top, hp⟩ := h.p
      have ha := kad6 ht
      obtain ⟨I1, p1, f1, e1⟩ := sp27e (xs := xs) (J := J) (rf := rf) (g := g) h.b.st hp
      have hr1 : cRl I1 (rf 2) r := h.b.rl.keep (fun x k h1 h2 => f1 x k (by omega))
      have hs1 : cSt I1 39 H.s := h.b.st.keep (fun x k h1 h2 => f1 x k (by omega))
      obtain ⟨I2, q1, q2, q3⟩ := sp89e (xs := xs) (J := J) (rf := rf) (g := g) (l := n) ks39 hs1 (show c < 7 by omega)
      have eu := hs1.ln c (by omega)
      simp only [hk, hk2, i10, if_false]
      rw [nI_clamp (by omega), nI_clamp (by omega)]
      refine ⟨I2, h.kept (p1.keep (fun x k h1 h2 => q2 x k (by omega))) (hr1.keep (fun x k h1 h2 => q2 x k (by omega))) (lnd_v h.b.vs (by omega)) q1 hp.nl, fun x k h1 h2 h3 h4 => by rw [q2 x k (by omega), f1 x k (by omega)], fun d R => ?_⟩
      simp (disch := omega) only [B112_0, B112_8, B112_11, B112_18, B112_21, B112_23, B112_34, B112_53, kO_s, kcond_t, kpush_s, kpush_n, nI_add, nI_add1, pk_mul, n_0, n_2, n_3, n_4, n_5, if_true, if_false, Nat.add_zero, krecv_m ks0, krecv_m ks54, kg1_0, kg2_0, kp2_0, kg2_1, kg2_2, kp2_2, kg2_3, kp2_3, kg2_4, kp2_4, kg2_5, kp2_5, kg2_6, kp2_6, kg2_7, kp2_7, kg3_0, kp3_0, kg3_1, kp3_1, kg3_2, kg4_0, kg4_1, kg5_0, kg5_1, kg5_2, kp5_2, kg5_3, kp5_3, kg5_4, kp5_4, kg5_5, kp5_5, kg8_0, kp8_0, kg8_1, kg8_2, kg8_3, kg8_4, kg8_5, kg8_6, kg8_7, kg11_0, kg11_1, kg11_2, kg11_3, kg11_4, kg11_5, kg11_6, kg11_7, kg11_8, kg11_9, kg11_10, kg11_11, kg11_12, kg11_13, kg11_14, kg11_15, kg11_16, kp11_16, kb2, kv2, ka55, kw55, ka56, kw56, ka57, kw57, ka58, kw58, kb59, kv59, ka60, kw60, ka61, kw61, ka63, kw63, ka64, kw64, kr66, kr150, kr151, kb152, kv152, c8_m17, c8_m16, c8_m15, c8_m14, c8_m13, c8_m12, c8_m11, c8_m10, c8_m2, c8_6, c8_7, c8_8, c8_9, c8_10, c8_11, c8_12, c8_13, c8_14, c8_15, c8_16, c8_17, c8_18, c8_19, c8_20, c8_21, c8_22, c8_23, c8_25, c8_30, c8_31, c8_32, c8_39, c8_40, c8_41, c8_42, c8_43, c8_45, c8_48, c8_55, c8_56, c8_57, c8_59, c8_60, c8_61, c8_63, c8_70, c8_90, c8_91, c8_92, c8_93, c8_94, c8_96, c8_97, c8_99, c8_115, c8_122, c8_125, c8_126, c8_127, c16_128, c16_129, c16_131, c16_132, c16_135, c16_136, c16_137, c16_138, c16_139, c16_142, c16_143, c16_144, c16_145, c16_146, c16_149, c16_180, c16_250, c16_255, c16_1000, c16_1002, c16_1100, c16_1155, c16_1157, c16_1164, c16_1178, c16_1210, c16_1212, c16_1219, c16_1233, c16_1265, c16_2200, c16_4095, c16_4096, c16_9999, c16_12345, krecv_m ks65, krecv_m ht, sp51 ht, sp52 ht, kg6_0 ht, kg6_1 ht, kg6_2 ht, kg6_3 ht, kg6_4 ht, kg6_5 ht, kg6_6 ht, kg6_7 ht, kj6_1 ht, kj6_2 ht, ka6_3 ht, ka6_4 ht, krecv_m ks39, kg9_0 ks39, kp9_0 ks39, kg9_1 ks39, kp9_1 ks39, kg9_2 ks39, kg9_3 ks39, kg9_4 ks39, kg9_5 ks39, ka9_1 ks39, kw9_1 ks39, ka9_2 ks39, kw9_2 ks39, ka9_3 ks39, kw9_3 ks39, ka9_4 ks39, kw9_4 ks39, one0, m1_lt0, nI20, nI40, e0, hk, sp154, kwi20, hk2, e1, eu, q3]
    · simp only [hk, h1, i10, if_true, if_false]
      refine ⟨I, h, cK.refl I, fun d R => ?_⟩
      simp (disch := omega) only [B112_0, B112_8, B112_11, B112_18, B112_21, B112_23, B112_34, B112_53, kO_s, kcond_t, kpush_s, kpush_n, nI_add, nI_add1, pk_mul, n_0, n_2, n_3, n_4, n_5, if_true, if_false, Nat.add_zero, krecv_m ks0, krecv_m ks54, kg1_0, kg2_0, kp2_0, kg2_1, kg2_2, kp2_2, kg2_3, kp2_3, kg2_4, kp2_4, kg2_5, kp2_5, kg2_6, kp2_6, kg2_7, kp2_7, kg3_0, kp3_0, kg3_1, kp3_1, kg3_2, kg4_0, kg4_1, kg5_0, kg5_1, kg5_2, kp5_2, kg5_3, kp5_3, kg5_4, kp5_4, kg5_5, kp5_5, kg8_0, kp8_0, kg8_1, kg8_2, kg8_3, kg8_4, kg8_5, kg8_6, kg8_7, kg11_0, kg11_1, kg11_2, kg11_3, kg11_4, kg11_5, kg11_6, kg11_7, kg11_8, kg11_9, kg11_10, kg11_11, kg11_12, kg11_13, kg11_14, kg11_15, kg11_16, kp11_16, kb2, kv2, ka55, kw55, ka56, kw56, ka57, kw57, ka58, kw58, kb59, kv59, ka60, kw60, ka61, kw61, ka63, kw63, ka64, kw64, kr66, kr150, kr151, kb152, kv152, c8_m17, c8_m16, c8_m15, c8_m14, c8_m13, c8_m12, c8_m11, c8_m10, c8_m2, c8_6, c8_7, c8_8, c8_9, c8_10, c8_11, c8_12, c8_13, c8_14, c8_15, c8_16, c8_17, c8_18, c8_19, c8_20, c8_21, c8_22, c8_23, c8_25, c8_30, c8_31, c8_32, c8_39, c8_40, c8_41, c8_42, c8_43, c8_45, c8_48, c8_55, c8_56, c8_57, c8_59, c8_60, c8_61, c8_63, c8_70, c8_90, c8_91, c8_92, c8_93, c8_94, c8_96, c8_97, c8_99, c8_115, c8_122, c8_125, c8_126, c8_127, c16_128, c16_129, c16_131, c16_132, c16_135, c16_136, c16_137, c16_138, c16_139, c16_142, c16_143, c16_144, c16_145, c16_146, c16_149, c16_180, c16_250, c16_255, c16_1000, c16_1002, c16_1100, c16_1155, c16_1157, c16_1164, c16_1178, c16_1210, c16_1212, c16_1219, c16_1233, c16_1265, c16_2200, c16_4095, c16_4096, c16_9999, c16_12345, krecv_m ht, sp51 ht, sp52 ht, kg6_0 ht, kg6_1 ht, kg6_2 ht, kg6_3 ht, kg6_4 ht, kg6_5 ht, kg6_6 ht, kg6_7 ht, kj6_1 ht, kj6_2 ht, ka6_3 ht, ka6_4 ht, one0, m1_lt0, nI20, nI40, e0, hk, sp154, kwi20, h1]
  · simp only [h0, if_true]
    refine ⟨I, h, cK.refl I, fun d R => ?_⟩
    simp (disch := omega) only [B112_0, B112_8, B112_11, B112_18, B112_21, B112_23, B112_34, B112_53, kO_s, kcond_t, kpush_s, kpush_n, nI_add, nI_add1, pk_mul, n_0, n_2, n_3, n_4, n_5, if_true, if_false, Nat.add_zero, krecv_m ks0, krecv_m ks54, kg1_0, kg2_0, kp2_0, kg2_1, kg2_2, kp2_2, kg2_3, kp2_3, kg2_4, kp2_4, kg2_5, kp2_5, kg2_6, kp2_6, kg2_7, kp2_7, kg3_0, kp3_0, kg3_1, kp3_1, kg3_2, kg4_0, kg4_1, kg5_0, kg5_1, kg5_2, kp5_2, kg5_3, kp5_3, kg5_4, kp5_4, kg5_5, kp5_5, kg8_0, kp8_0, kg8_1, kg8_2, kg8_3, kg8_4, kg8_5, kg8_6, kg8_7, kg11_0, kg11_1, kg11_2, kg11_3, kg11_4, kg11_5, kg11_6, kg11_7, kg11_8, kg11_9, kg11_10, kg11_11, kg11_12, kg11_13, kg11_14, kg11_15, kg11_16, kp11_16, kb2, kv2, ka55, kw55, ka56, kw56, ka57, kw57, ka58, kw58, kb59, kv59, ka60, kw60, ka61, kw61, ka63, kw63, ka64, kw64, kr66, kr150, kr151, kb152, kv152, c8_m17, c8_m16, c8_m15, c8_m14, c8_m13, c8_m12, c8_m11, c8_m10, c8_m2, c8_6, c8_7, c8_8, c8_9, c8_10, c8_11, c8_12, c8_13, c8_14, c8_15, c8_16, c8_17, c8_18, c8_19, c8_20, c8_21, c8_22, c8_23, c8_25, c8_30, c8_31, c8_32, c8_39, c8_40, c8_41, c8_42, c8_43, c8_45, c8_48, c8_55, c8_56, c8_57, c8_59, c8_60, c8_61, c8_63, c8_70, c8_90, c8_91, c8_92, c8_93, c8_94, c8_96, c8_97, c8_99, c8_115, c8_122, c8_125, c8_126, c8_127, c16_128, c16_129, c16_131, c16_132, c16_135, c16_136, c16_137, c16_138, c16_139, c16_142, c16_143, c16_144, c16_145, c16_146, c16_149, c16_180, c16_250, c16_255, c16_1000, c16_1002, c16_1100, c16_1155, c16_1157, c16_1164, c16_1178, c16_1210, c16_1212, c16_1219, c16_1233, c16_1265, c16_2200, c16_4095, c16_4096, c16_9999, c16_12345, krecv_m ht, sp51 ht, sp52 ht, kg6_0 ht, kg6_1 ht, kg6_2 ht, kg6_3 ht, kg6_4 ht, kg6_5 ht, kg6_6 ht, kg6_7 ht, kj6_1 ht, kj6_2 ht, ka6_3 ht, ka6_4 ht, one0, m1_lt0, nI20, nI40, e0, h0]
theorem sp224 (h : mH I r H) (x y : Int32) : ∃ I', mH I' r (hLean r H x y) ∧ mK I I' ∧ ∀ d R, kX xs (d + 2) 224 0 [some (.ref 185), some (.int x), some (.int y), none] [] (kmm I J rf g) R = R (some (.int (aLean r H.s x y))) (kmm I' J rf g) := by
  have hq := mQ.thr I (nI 0)
  have h' := h.keep hq
  have vr := h.b.vr
  have hj7 := vr.j
  have e0 := h'.b.rl.nj
  unfold hLean aLean
  rcases kidx_c x (show r.nj < 2147483648 by omega) with ⟨c, hc, rfl⟩ | h0
  · have hk := kidx_in hc (show r.nj < 2147483648 by omega)
    rcases kidx_c y (show 21 < 2147483648 by omega) with ⟨n, hn, rfl⟩ | h1
    · have hk2 := kidx_in hn (show 21 < 2147483648 by omega)
      obtain ⟨I1, p1, f1, e1⟩ := sp198 (xs := xs) (J := J) (rf := rf) (g := g) vr h'.b.st h'.p
      have hr1 : mRl I1 r := h'.b.rl.keep (fun x k h1 h2 => f1 x k (by omega) (by omega))
      have hs1 : mSt I1 0 r H.s := h'.b.st.keep vr (fun k h1 h2 => f1 _ _ (by omega) (by omega))
      have eu := hs1.ln c hc
      rw [show 0 + 9 + c = 9 + c by omega] at eu
      simp only [hk, hk2, i10, if_false]
      rw [nI_clamp (by omega), nI_clamp (by omega)]
      refine ⟨ku I1 201 (9 + c) (nI n), h.kept (p1.keep vr (ku_nea (by omega)) (fun k h1 h2 => ku_nek (by omega))) (hr1.keep (fun x k h1 h2 => ku_nea (by omega))) (lnd_v h.b.vs (by omega)) (mSt_lnd vr hs1 hc), fun x k h1 h2 h3 h4 h5 => by rw [ku_ne (by omega), f1 x k (by omega) (by omega), hq x k (by omega) (by omega) (by omega) (by omega) (by omega)], fun d R => ?_⟩
      simp (disch := omega) only [B224_0, B224_10, B224_13, B224_20, B224_23, B224_25, B224_29, kO_s, kcond_t, kpush_s, kpush_n, nI_add, nI_add1, pk_mul, n_0, n_2, n_3, n_4, n_5, if_true, if_false, Nat.add_zero, krecv_m ks185, kg12_0, kp12_0, kg12_1, kg12_2, kp12_2, kg12_3, kp12_3, kg12_4, kg12_5, kg12_6, kg12_7, kp12_7, kg12_8, kp12_8, kg12_9, kg12_10, kg12_11, kg12_12, kg12_13, kp12_13, kg12_14, kg12_15, kg12_16, kg12_17, kg12_18, kp12_18, kg12_19, kp12_19, kg12_20, kg12_21, kg12_22, kg12_23, kg12_24, kp12_24, kg12_25, kg12_26, kg12_27, kg12_28, kp12_28, kg12_29, kg12_30, kg12_31, kg12_32, kp12_32, kg12_33, kp12_33, ka186, kw186, ka187, kw187, ka188, kw188, kj189, kk189, kj190, kk190, ka191, kw191, ka192, kw192, ka193, kw193, kj194, kk194, kj195, kk195, ka196, kw196, ka197, kw197, ka198, kw198, ka199, kw199, ka200, kw200, ka201, kw201, kb202, kv202, ka203, kw203, ka204, kw204, ka205, kw205, ka206, kw206, ka207, kw207, kj208, kk208, c8_m17, c8_m16, c8_m15, c8_m14, c8_m13, c8_m12, c8_m11, c8_m10, c8_m2, c8_6, c8_7, c8_8, c8_9, c8_10, c8_11, c8_12, c8_13, c8_14, c8_15, c8_16, c8_17, c8_18, c8_19, c8_20, c8_21, c8_22, c8_23, c8_25, c8_30, c8_31, c8_32, c8_39, c8_40, c8_41, c8_42, c8_43, c8_45, c8_48, c8_55, c8_56, c8_57, c8_59, c8_60, c8_61, c8_63, c8_70, c8_90, c8_91, c8_92, c8_93, c8_94, c8_96, c8_97, c8_99, c8_115, c8_122, c8_125, c8_126, c8_127, c16_128, c16_129, c16_131, c16_132, c16_135, c16_136, c16_137, c16_138, c16_139, c16_142, c16_143, c16_144, c16_145, c16_146, c16_149, c16_180, c16_250, c16_255, c16_1000, c16_1002, c16_1100, c16_1155, c16_1157, c16_1164, c16_1178, c16_1210, c16_1212, c16_1219, c16_1233, c16_1265, c16_2200, c16_4095, c16_4096, c16_9999, c16_12345, one0, m1_lt0, nI20, nI40, sp203, sp171, kwi20, e0, hk, hk2, e1, eu]
    · simp only [hk, h1, i10, if_true, if_false]
      refine ⟨_, h', mK.of hq, fun d R => ?_⟩
      simp (disch := omega) only [B224_0, B224_10, B224_13, B224_20, B224_23, B224_25, B224_29, kO_s, kcond_t, kpush_s, kpush_n, nI_add, nI_add1, pk_mul, n_0, n_2, n_3, n_4, n_5, if_true, if_false, Nat.add_zero, krecv_m ks185, kg12_0, kp12_0, kg12_1, kg12_2, kp12_2, kg12_3, kp12_3, kg12_4, kg12_5, kg12_6, kg12_7, kp12_7, kg12_8, kp12_8, kg12_9, kg12_10, kg12_11, kg12_12, kg12_13, kp12_13, kg12_14, kg12_15, kg12_16, kg12_17, kg12_18, kp12_18, kg12_19, kp12_19, kg12_20, kg12_21, kg12_22, kg12_23, kg12_24, kp12_24, kg12_25, kg12_26, kg12_27, kg12_28, kp12_28, kg12_29, kg12_30, kg12_31, kg12_32, kp12_32, kg12_33, kp12_33, ka186, kw186, ka187, kw187, ka188, kw188, kj189, kk189, kj190, kk190, ka191, kw191, ka192, kw192, ka193, kw193, kj194, kk194, kj195, kk195, ka196, kw196, ka197, kw197, ka198, kw198, ka199, kw199, ka200, kw200, ka201, kw201, kb202, kv202, ka203, kw203, ka204, kw204, ka205, kw205, ka206, kw206, ka207, kw207, kj208, kk208, c8_m17, c8_m16, c8_m15, c8_m14, c8_m13, c8_m12, c8_m11, c8_m10, c8_m2, c8_6, c8_7, c8_8, c8_9, c8_10, c8_11, c8_12, c8_13, c8_14, c8_15, c8_16, c8_17, c8_18, c8_19, c8_20, c8_21, c8_22, c8_23, c8_25, c8_30, c8_31, c8_32, c8_39, c8_40, c8_41, c8_42, c8_43, c8_45, c8_48, c8_55, c8_56, c8_57, c8_59, c8_60, c8_61, c8_63, c8_70, c8_90, c8_91, c8_92, c8_93, c8_94, c8_96, c8_97, c8_99, c8_115, c8_122, c8_125, c8_126, c8_127, c16_128, c16_129, c16_131, c16_132, c16_135, c16_136, c16_137, c16_138, c16_139, c16_142, c16_143, c16_144, c16_145, c16_146, c16_149, c16_180, c16_250, c16_255, c16_1000, c16_1002, c16_1100, c16_1155, c16_1157, c16_1164, c16_1178, c16_1210, c16_1212, c16_1219, c16_1233, c16_1265, c16_2200, c16_4095, c16_4096, c16_9999, c16_12345, one0, m1_lt0, nI20, nI40, sp203, sp171, kwi20, e0, hk, h1]
  · simp only [h0, if_true]
    refine ⟨_, h', mK.of hq, fun d R => ?_⟩
    simp (disch := omega) only [B224_0, B224_10, B224_13, B224_20, B224_23, B224_25, B224_29, kO_s, kcond_t, kpush_s, kpush_n, nI_add, nI_add1, pk_mul, n_0, n_2, n_3, n_4, n_5, if_true, if_false, Nat.add_zero, krecv_m ks185, kg12_0, kp12_0, kg12_1, kg12_2, kp12_2, kg12_3, kp12_3, kg12_4, kg12_5, kg12_6, kg12_7, kp12_7, kg12_8, kp12_8, kg12_9, kg12_10, kg12_11, kg12_12, kg12_13, kp12_13, kg12_14, kg12_15, kg12_16, kg12_17, kg12_18, kp12_18, kg12_19, kp12_19, kg12_20, kg12_21, kg12_22, kg12_23, kg12_24, kp12_24, kg12_25, kg12_26, kg12_27, kg12_28, kp12_28, kg12_29, kg12_30, kg12_31, kg12_32, kp12_32, kg12_33, kp12_33, ka186, kw186, ka187, kw187, ka188, kw188, kj189, kk189, kj190, kk190, ka191, kw191, ka192, kw192, ka193, kw193, kj194, kk194, kj195, kk195, ka196, kw196, ka197, kw197, ka198, kw198, ka199, kw199, ka200, kw200, ka201, kw201, kb202, kv202, ka203, kw203, ka204, kw204, ka205, kw205, ka206, kw206, ka207, kw207, kj208, kk208, c8_m17, c8_m16, c8_m15, c8_m14, c8_m13, c8_m12, c8_m11, c8_m10, c8_m2, c8_6, c8_7, c8_8, c8_9, c8_10, c8_11, c8_12, c8_13, c8_14, c8_15, c8_16, c8_17, c8_18, c8_19, c8_20, c8_21, c8_22, c8_23, c8_25, c8_30, c8_31, c8_32, c8_39, c8_40, c8_41, c8_42, c8_43, c8_45, c8_48, c8_55, c8_56, c8_57, c8_59, c8_60, c8_61, c8_63, c8_70, c8_90, c8_91, c8_92, c8_93, c8_94, c8_96, c8_97, c8_99, c8_115, c8_122, c8_125, c8_126, c8_127, c16_128, c16_129, c16_131, c16_132, c16_135, c16_136, c16_137, c16_138, c16_139, c16_142, c16_143, c16_144, c16_145, c16_146, c16_149, c16_180, c16_250, c16_255, c16_1000, c16_1002, c16_1100, c16_1155, c16_1157, c16_1164, c16_1178, c16_1210, c16_1212, c16_1219, c16_1233, c16_1265, c16_2200, c16_4095, c16_4096, c16_9999, c16_12345, one0, m1_lt0, nI20, nI40, sp203, e0, h0]
/-- change -/
theorem sp113 (h : cH I rf r H) (x y : Int32) : ∃ I', cH I' rf r (hChange r H x y) ∧ cK I I' ∧ ∀ d R, kX xs (d + 3) 113 0 [some (.ref 0), some (.int x), some (.int y)] [] (kmm I J rf g) R = R (some (.int (aChange r x y))) (kmm I' J rf g) := by
  have ht := h.b.t
  have vr := h.b.vr
  have hj7 := vr.j
  have e0 := h.b.rl.nj
  unfold hChange aChange
  rcases kidx_c x (show r.nj < 2147483648 by omega) with ⟨c, hc, rfl⟩ | h0
  · have hk := kidx_in hc (show r.nj < 2147483648 by omega)
    rcases kidx_c y (show r.nj < 2147483648 by omega) with ⟨n, hn, rfl⟩ | h1
    · have hk2 := kidx_in hn (show r.nj < 2147483648 by omega)
      by_cases hxy : nI c = nI n
      · simp only [hk, hk2, i10, if_false, hxy, if_true]
        refine ⟨I, h, cK.refl I, fun d R => ?_⟩
        rw [hxy] at hk
        simp (disch := omega) only [B113_0, B113_8, B113_11, B113_19, B113_22, B113_27, B113_29, B113_40, B113_49, kO_s, kcond_t, kpush_s, kpush_n, nI_add, nI_add1, pk_mul, n_0, n_2, n_3, n_4, n_5, if_true, if_false, Nat.add_zero, krecv_m ks0, krecv_m ks54, kg1_0, kg2_0, kp2_0, kg2_1, kg2_2, kp2_2, kg2_3, kp2_3, kg2_4, kp2_4, kg2_5, kp2_5, kg2_6, kp2_6, kg2_7, kp2_7, kg3_0, kp3_0, kg3_1, kp3_1, kg3_2, kg4_0, kg4_1, kg5_0, kg5_1, kg5_2, kp5_2, kg5_3, kp5_3, kg5_4, kp5_4, kg5_5, kp5_5, kg8_0, kp8_0, kg8_1, kg8_2, kg8_3, kg8_4, kg8_5, kg8_6, kg8_7, kg11_0, kg11_1, kg11_2, kg11_3, kg11_4, kg11_5, kg11_6, kg11_7, kg11_8, kg11_9, kg11_10, kg11_11, kg11_12, kg11_13, kg11_14, kg11_15, kg11_16, kp11_16, kb2, kv2, ka55, kw55, ka56, kw56, ka57, kw57, ka58, kw58, kb59, kv59, ka60, kw60, ka61, kw61, ka63, kw63, ka64, kw64, kr66, kr150, kr151, kb152, kv152, c8_m17, c8_m16, c8_m15, c8_m14, c8_m13, c8_m12, c8_m11, c8_m10, c8_m2, c8_6, c8_7, c8_8, c8_9, c8_10, c8_11, c8_12, c8_13, c8_14, c8_15, c8_16, c8_17, c8_18, c8_19, c8_20, c8_21, c8_22, c8_23, c8_25, c8_30, c8_31, c8_32, c8_39, c8_40, c8_41, c8_42, c8_43, c8_45, c8_48, c8_55, c8_56, c8_57, c8_59, c8_60, c8_61, c8_63, c8_70, c8_90, c8_91, c8_92, c8_93, c8_94, c8_96, c8_97, c8_99, c8_115, c8_122, c8_125, c8_126, c8_127, c16_128, c16_129, c16_131, c16_132, c16_135, c16_136, c16_137, c16_138, c16_139, c16_142, c16_143, c16_144, c16_145, c16_146, c16_149, c16_180, c16_250, c16_255, c16_1000, c16_1002, c16_1100, c16_1155, c16_1157, c16_1164, c16_1178, c16_1210, c16_1212, c16_1219, c16_1233, c16_1265, c16_2200, c16_4095, c16_4096, c16_9999, c16_12345, krecv_m ht, sp51 ht, sp52 ht, kg6_0 ht, kg6_1 ht, kg6_2 ht, kg6_3 ht, kg6_4 ht, kg6_5 ht, kg6_6 ht, kg6_7 ht, kj6_1 ht, kj6_2 ht, ka6_3 ht, ka6_4 ht, one0, m1_lt0, nI20, nI40, e0, hk, kz_0, kzn0]
      · obtain ⟨top, hp⟩ := h.p
        have ha := kad6 ht
        obtain ⟨I1, p1, f1, e1⟩ := sp27e (xs := xs) (J := J) (rf := rf) (g := g) h.b.st hp
        have hr1 : cRl I1 (rf 2) r := h.b.rl.keep (fun x k h1 h2 => f1 x k (by omega))
        have hs1 : cSt I1 39 H.s := h.b.st.keep (fun x k h1 h2 => f1 x k (by omega))
        obtain ⟨I2, q1, q2, q3⟩ := sp91e (xs := xs) (J := J) (rf := rf) (g := g) ks39 vr h.b.vs hs1 hc hn
        simp only [hk, hk2, i10, if_false, hxy]
        rw [nI_clamp (by omega), nI_clamp (by omega)]
        refine ⟨I2, h.kept (p1.keep (fun x k h1 h2 => q2 x k (by omega))) (hr1.keep (fun x k h1 h2 => q2 x k (by omega))) (chg_v vr h.b.vs hc hn) q1 hp.nl, fun x k h1 h2 h3 h4 => by rw [q2 x k (by omega), f1 x k (by omega)], fun d R => ?_⟩
        simp (disch := omega) only [B113_0, B113_8, B113_11, B113_19, B113_22, B113_27, B113_29, B113_40, B113_49, kO_s, kcond_t, kpush_s, kpush_n, nI_add, nI_add1, pk_mul, n_0, n_2, n_3, n_4, n_5, if_true, if_false, Nat.add_zero, krecv_m ks0, krecv_m ks54, kg1_0, kg2_0, kp2_0, kg2_1, kg2_2, kp2_2, kg2_3, kp2_3, kg2_4, kp2_4, kg2_5, kp2_5, kg2_6, kp2_6, kg2_7, kp2_7, kg3_0, kp3_0, kg3_1, kp3_1, kg3_2, kg4_0, kg4_1, kg5_0, kg5_1, kg5_2, kp5_2, kg5_3, kp5_3, kg5_4, kp5_4, kg5_5, kp5_5, kg8_0, kp8_0, kg8_1, kg8_2, kg8_3, kg8_4, kg8_5, kg8_6, kg8_7, kg11_0, kg11_1, kg11_2, kg11_3, kg11_4, kg11_5, kg11_6, kg11_7, kg11_8, kg11_9, kg11_10, kg11_11, kg11_12, kg11_13, kg11_14, kg11_15, kg11_16, kp11_16, kb2, kv2, ka55, kw55, ka56, kw56, ka57, kw57, ka58, kw58, kb59, kv59, ka60, kw60, ka61, kw61, ka63, kw63, ka64, kw64, kr66, kr150, kr151, kb152, kv152, c8_m17, c8_m16, c8_m15, c8_m14, c8_m13, c8_m12, c8_m11, c8_m10, c8_m2, c8_6, c8_7, c8_8, c8_9, c8_10, c8_11, c8_12, c8_13, c8_14, c8_15, c8_16, c8_17, c8_18, c8_19, c8_20, c8_21, c8_22, c8_23, c8_25, c8_30, c8_31, c8_32, c8_39, c8_40, c8_41, c8_42, c8_43, c8_45, c8_48, c8_55, c8_56, c8_57, c8_59, c8_60, c8_61, c8_63, c8_70, c8_90, c8_91, c8_92, c8_93, c8_94, c8_96, c8_97, c8_99, c8_115, c8_122, c8_125, c8_126, c8_127, c16_128, c16_129, c16_131, c16_132, c16_135, c16_136, c16_137, c16_138, c16_139, c16_142, c16_143, c16_144, c16_145, c16_146, c16_149, c16_180, c16_250, c16_255, c16_1000, c16_1002, c16_1100, c16_1155, c16_1157, c16_1164, c16_1178, c16_1210, c16_1212, c16_1219, c16_1233, c16_1265, c16_2200, c16_4095, c16_4096, c16_9999, c16_12345, krecv_m ks65, krecv_m ht, sp51 ht, sp52 ht, kg6_0 ht, kg6_1 ht, kg6_2 ht, kg6_3 ht, kg6_4 ht, kg6_5 ht, kg6_6 ht, kg6_7 ht, kj6_1 ht, kj6_2 ht, ka6_3 ht, ka6_4 ht, krecv_m ks39, kg9_0 ks39, kp9_0 ks39, kg9_1 ks39, kp9_1 ks39, kg9_2 ks39, kg9_3 ks39, kg9_4 ks39, kg9_5 ks39, ka9_1 ks39, kw9_1 ks39, ka9_2 ks39, kw9_2 ks39, ka9_3 ks39, kw9_3 ks39, ka9_4 ks39, kw9_4 ks39, one0, m1_lt0, nI20, nI40, e0, hk, hk2, hxy, e1, q3, kz_1]
    · simp only [hk, h1, i10, if_true, if_false]
      refine ⟨I, h, cK.refl I, fun d R => ?_⟩
      simp (disch := omega) only [B113_0, B113_8, B113_11, B113_19, B113_22, B113_27, B113_29, B113_40, B113_49, kO_s, kcond_t, kpush_s, kpush_n, nI_add, nI_add1, pk_mul, n_0, n_2, n_3, n_4, n_5, if_true, if_false, Nat.add_zero, krecv_m ks0, krecv_m ks54, kg1_0, kg2_0, kp2_0, kg2_1, kg2_2, kp2_2, kg2_3, kp2_3, kg2_4, kp2_4, kg2_5, kp2_5, kg2_6, kp2_6, kg2_7, kp2_7, kg3_0, kp3_0, kg3_1, kp3_1, kg3_2, kg4_0, kg4_1, kg5_0, kg5_1, kg5_2, kp5_2, kg5_3, kp5_3, kg5_4, kp5_4, kg5_5, kp5_5, kg8_0, kp8_0, kg8_1, kg8_2, kg8_3, kg8_4, kg8_5, kg8_6, kg8_7, kg11_0, kg11_1, kg11_2, kg11_3, kg11_4, kg11_5, kg11_6, kg11_7, kg11_8, kg11_9, kg11_10, kg11_11, kg11_12, kg11_13, kg11_14, kg11_15, kg11_16, kp11_16, kb2, kv2, ka55, kw55, ka56, kw56, ka57, kw57, ka58, kw58, kb59, kv59, ka60, kw60, ka61, kw61, ka63, kw63, ka64, kw64, kr66, kr150, kr151, kb152, kv152, c8_m17, c8_m16, c8_m15, c8_m14, c8_m13, c8_m12, c8_m11, c8_m10, c8_m2, c8_6, c8_7, c8_8, c8_9, c8_10, c8_11, c8_12, c8_13, c8_14, c8_15, c8_16, c8_17, c8_18, c8_19, c8_20, c8_21, c8_22, c8_23, c8_25, c8_30, c8_31, c8_32, c8_39, c8_40, c8_41, c8_42, c8_43, c8_45, c8_48, c8_55, c8_56, c8_57, c8_59, c8_60, c8_61, c8_63, c8_70, c8_90, c8_91, c8_92, c8_93, c8_94, c8_96, c8_97, c8_99, c8_115, c8_122, c8_125, c8_126, c8_127, c16_128, c16_129, c16_131, c16_132, c16_135, c16_136, c16_137, c16_138, c16_139, c16_142, c16_143, c16_144, c16_145, c16_146, c16_149, c16_180, c16_250, c16_255, c16_1000, c16_1002, c16_1100, c16_1155, c16_1157, c16_1164, c16_1178, c16_1210, c16_1212, c16_1219, c16_1233, c16_1265, c16_2200, c16_4095, c16_4096, c16_9999, c16_12345, krecv_m ht, sp51 ht, sp52 ht, kg6_0 ht, kg6_1 ht, kg6_2 ht, kg6_3 ht, kg6_4 ht, kg6_5 ht, kg6_6 ht, kg6_7 ht, kj6_1 ht, kj6_2 ht, ka6_3 ht, ka6_4 ht, one0, m1_lt0, nI20, nI40, e0, hk, h1, kz_0, kzn0]
  · simp only [h0, if_true]
    refine ⟨I, h, cK.refl I, fun d R => ?_⟩
    simp (disch := omega) only [B113_0, B113_8, B113_11, B113_19, B113_22, B113_27, B113_29, B113_40, B113_49, kO_s, kcond_t, kpush_s, kpush_n, nI_add, nI_add1, pk_mul, n_0, n_2, n_3, n_4, n_5, if_true, if_false, Nat.add_zero, krecv_m ks0, krecv_m ks54, kg1_0, kg2_0, kp2_0, kg2_1, kg2_2, kp2_2, kg2_3, kp2_3, kg2_4, kp2_4, kg2_5, kp2_5, kg2_6, kp2_6, kg2_7, kp2_7, kg3_0, kp3_0, kg3_1, kp3_1, kg3_2, kg4_0, kg4_1, kg5_0, kg5_1, kg5_2, kp5_2, kg5_3, kp5_3, kg5_4, kp5_4, kg5_5, kp5_5, kg8_0, kp8_0, kg8_1, kg8_2, kg8_3, kg8_4, kg8_5, kg8_6, kg8_7, kg11_0, kg11_1, kg11_2, kg11_3, kg11_4, kg11_5, kg11_6, kg11_7, kg11_8, kg11_9, kg11_10, kg11_11, kg11_12, kg11_13, kg11_14, kg11_15, kg11_16, kp11_16, kb2, kv2, ka55, kw55, ka56, kw56, ka57, kw57, ka58, kw58, kb59, kv59, ka60, kw60, ka61, kw61, ka63, kw63, ka64, kw64, kr66, kr150, kr151, kb152, kv152, c8_m17, c8_m16, c8_m15, c8_m14, c8_m13, c8_m12, c8_m11, c8_m10, c8_m2, c8_6, c8_7, c8_8, c8_9, c8_10, c8_11, c8_12, c8_13, c8_14, c8_15, c8_16, c8_17, c8_18, c8_19, c8_20, c8_21, c8_22, c8_23, c8_25, c8_30, c8_31, c8_32, c8_39, c8_40, c8_41, c8_42, c8_43, c8_45, c8_48, c8_55, c8_56, c8_57, c8_59, c8_60, c8_61, c8_63, c8_70, c8_90, c8_91, c8_92, c8_93, c8_94, c8_96, c8_97, c8_99, c8_115, c8_122, c8_125, c8_126, c8_127, c16_128, c16_129, c16_131, c16_132, c16_135, c16_136, c16_137, c16_138, c16_139, c16_142, c16_143, c16_144, c16_145, c16_146, c16_149, c16_180, c16_250, c16_255, c16_1000, c16_1002, c16_1100, c16_1155, c16_1157, c16_1164, c16_1178, c16_1210, c16_1212, c16_1219, c16_1233, c16_1265, c16_2200, c16_4095, c16_4096, c16_9999, c16_12345, krecv_m ht, sp51 ht, sp52 ht, kg6_0 ht, kg6_1 ht, kg6_2 ht, kg6_3 ht, kg6_4 ht, kg6_5 ht, kg6_6 ht, kg6_7 ht, kj6_1 ht, kj6_2 ht, ka6_3 ht, ka6_4 ht, one0, m1_lt0, nI20, nI40, e0, h0, kz_0, kzn0]
theorem sp225 (h : mH I r H) (x y : Int32) : ∃ I', mH I' r (hChange r H x y) ∧ mK I I' ∧ ∀ d R, kX xs (d + 2) 225 0 [some (.ref 185), some (.int x), some (.int y)] [] (kmm I J rf g) R = R (some (.int (aChange r x y))) (kmm I' J rf g) := by
  have hq := mQ.thr I (nI 0)
  have h' := h.keep hq
  have vr := h.b.vr
  have hj7 := vr.j
  have e0 := h'.b.rl.nj
  unfold hChange aChange
  rcases kidx_c x (show r.nj < 2147483648 by omega) with ⟨c, hc, rfl⟩ | h0
  · have hk := kidx_in hc (show r.nj < 2147483648 by omega)
    rcases kidx_c y (show r.nj < 2147483648 by omega) with ⟨n, hn, rfl⟩ | h1
    · have hk2 := kidx_in hn (show r.nj < 2147483648 by omega)
      by_cases hxy : nI c = nI n
      · simp only [hk, hk2, i10, if_false, hxy, if_true]
        refine ⟨_, h', mK.of hq, fun d R => ?_⟩
        rw [hxy] at hk
        simp (disch := omega) only [B225_0, B225_10, B225_13, B225_18, B225_21, B225_26, B225_28, B225_32, B225_39, kO_s, kcond_t, kpush_s, kpush_n, nI_add, nI_add1, pk_mul, n_0, n_2, n_3, n_4, n_5, if_true, if_false, Nat.add_zero, krecv_m ks185, kg12_0, kp12_0, kg12_1, kg12_2, kp12_2, kg12_3, kp12_3, kg12_4, kg12_5, kg12_6, kg12_7, kp12_7, kg12_8, kp12_8, kg12_9, kg12_10, kg12_11, kg12_12, kg12_13, kp12_13, kg12_14, kg12_15, kg12_16, kg12_17, kg12_18, kp12_18, kg12_19, kp12_19, kg12_20, kg12_21, kg12_22, kg12_23, kg12_24, kp12_24, kg12_25, kg12_26, kg12_27, kg12_28, kp12_28, kg12_29, kg12_30, kg12_31, kg12_32, kp12_32, kg12_33, kp12_33, ka186, kw186, ka187, kw187, ka188, kw188, kj189, kk189, kj190, kk190, ka191, kw191, ka192, kw192, ka193, kw193, kj194, kk194, kj195, kk195, ka196, kw196, ka197, kw197, ka198, kw198, ka199, kw199, ka200, kw200, ka201, kw201, kb202, kv202, ka203, kw203, ka204, kw204, ka205, kw205, ka206, kw206, ka207, kw207, kj208, kk208, c8_m17, c8_m16, c8_m15, c8_m14, c8_m13, c8_m12, c8_m11, c8_m10, c8_m2, c8_6, c8_7, c8_8, c8_9, c8_10, c8_11, c8_12, c8_13, c8_14, c8_15, c8_16, c8_17, c8_18, c8_19, c8_20, c8_21, c8_22, c8_23, c8_25, c8_30, c8_31, c8_32, c8_39, c8_40, c8_41, c8_42, c8_43, c8_45, c8_48, c8_55, c8_56, c8_57, c8_59, c8_60, c8_61, c8_63, c8_70, c8_90, c8_91, c8_92, c8_93, c8_94, c8_96, c8_97, c8_99, c8_115, c8_122, c8_125, c8_126, c8_127, c16_128, c16_129, c16_131, c16_132, c16_135, c16_136, c16_137, c16_138, c16_139, c16_142, c16_143, c16_144, c16_145, c16_146, c16_149, c16_180, c16_250, c16_255, c16_1000, c16_1002, c16_1100, c16_1155, c16_1157, c16_1164, c16_1178, c16_1210, c16_1212, c16_1219, c16_1233, c16_1265, c16_2200, c16_4095, c16_4096, c16_9999, c16_12345, one0, m1_lt0, nI20, nI40, sp203, e0, hk, kz_0, kzn0]
      · obtain ⟨I1, p1, f1, e1⟩ := sp198 (xs := xs) (J := J) (rf := rf) (g := g) vr h'.b.st h'.p
        have hr1 : mRl I1 r := h'.b.rl.keep (fun x k h1 h2 => f1 x k (by omega) (by omega))
        have hs1 : mSt I1 0 r H.s := h'.b.st.keep vr (fun k h1 h2 => f1 _ _ (by omega) (by omega))
        obtain ⟨I2, q1, q2, q3⟩ := sp208 (xs := xs) (J := J) (rf := rf) (g := g) (b := 0) (by omega) vr h.b.vs hs1 hc hn
        simp only [hk, hk2, i10, if_false, hxy]
        rw [nI_clamp (by omega), nI_clamp (by omega)]
        refine ⟨I2, h.kept (p1.keep vr (q2 _ _ (by omega)) (fun k h1 h2 => q2 _ _ (by omega))) (hr1.keep (fun x k h1 h2 => q2 _ _ (by omega))) (chg_v vr h.b.vs hc hn) q1, fun x k h1 h2 h3 h4 h5 => by rw [q2 x k (by omega), f1 x k (by omega) (by omega), hq x k (by omega) (by omega) (by omega) (by omega) (by omega)], fun d R => ?_⟩
        simp (disch := omega) only [B225_0, B225_10, B225_13, B225_18, B225_21, B225_26, B225_28, B225_32, B225_39, kO_s, kcond_t, kpush_s, kpush_n, nI_add, nI_add1, pk_mul, n_0, n_2, n_3, n_4, n_5, if_true, if_false, Nat.add_zero, krecv_m ks185, kg12_0, kp12_0, kg12_1, kg12_2, kp12_2, kg12_3, kp12_3, kg12_4, kg12_5, kg12_6, kg12_7, kp12_7, kg12_8, kp12_8, kg12_9, kg12_10, kg12_11, kg12_12, kg12_13, kp12_13, kg12_14, kg12_15, kg12_16, kg12_17, kg12_18, kp12_18, kg12_19, kp12_19, kg12_20, kg12_21, kg12_22, kg12_23, kg12_24, kp12_24, kg12_25, kg12_26, kg12_27, kg12_28, kp12_28, kg12_29, kg12_30, kg12_31, kg12_32, kp12_32, kg12_33, kp12_33, ka186, kw186, ka187, kw187, ka188, kw188, kj189, kk189, kj190, kk190, ka191, kw191, ka192, kw192, ka193, kw193, kj194, kk194, kj195, kk195, ka196, kw196, ka197, kw197, ka198, kw198, ka199, kw199, ka200, kw200, ka201, kw201, kb202, kv202, ka203, kw203, ka204, kw204, ka205, kw205, ka206, kw206, ka207, kw207, kj208, kk208, c8_m17, c8_m16, c8_m15, c8_m14, c8_m13, c8_m12, c8_m11, c8_m10, c8_m2, c8_6, c8_7, c8_8, c8_9, c8_10, c8_11, c8_12, c8_13, c8_14, c8_15, c8_16, c8_17, c8_18, c8_19, c8_20, c8_21, c8_22, c8_23, c8_25, c8_30, c8_31, c8_32, c8_39, c8_40, c8_41, c8_42, c8_43, c8_45, c8_48, c8_55, c8_56, c8_57, c8_59, c8_60, c8_61, c8_63, c8_70, c8_90, c8_91, c8_92, c8_93, c8_94, c8_96, c8_97, c8_99, c8_115, c8_122, c8_125, c8_126, c8_127, c16_128, c16_129, c16_131, c16_132, c16_135, c16_136, c16_137, c16_138, c16_139, c16_142, c16_143, c16_144, c16_145, c16_146, c16_149, c16_180, c16_250, c16_255, c16_1000, c16_1002, c16_1100, c16_1155, c16_1157, c16_1164, c16_1178, c16_1210, c16_1212, c16_1219, c16_1233, c16_1265, c16_2200, c16_4095, c16_4096, c16_9999, c16_12345, one0, m1_lt0, nI20, nI40, sp203, e0, hk, hk2, hxy, e1, q3, kz_1]
    · simp only [hk, h1, i10, if_true, if_false]
      refine ⟨_, h', mK.of hq, fun d R => ?_⟩
      simp (disch := omega) only [B225_0, B225_10, B225_13, B225_18, B225_21, B225_26, B225_28, B225_32, B225_39, kO_s, kcond_t, kpush_s, kpush_n, nI_add, nI_add1, pk_mul, n_0, n_2, n_3, n_4, n_5, if_true, if_false, Nat.add_zero, krecv_m ks185, kg12_0, kp12_0, kg12_1, kg12_2, kp12_2, kg12_3, kp12_3, kg12_4, kg12_5, kg12_6, kg12_7, kp12_7, kg12_8, kp12_8, kg12_9, kg12_10, kg12_11, kg12_12, kg12_13, kp12_13, kg12_14, kg12_15, kg12_16, kg12_17, kg12_18, kp12_18, kg12_19, kp12_19, kg12_20, kg12_21, kg12_22, kg12_23, kg12_24, kp12_24, kg12_25, kg12_26, kg12_27, kg12_28, kp12_28, kg12_29, kg12_30, kg12_31, kg12_32, kp12_32, kg12_33, kp12_33, ka186, kw186, ka187, kw187, ka188, kw188, kj189, kk189, kj190, kk190, ka191, kw191, ka192, kw192, ka193, kw193, kj194, kk194, kj195, kk195, ka196, kw196, ka197, kw197, ka198, kw198, ka199, kw199, ka200, kw200, ka201, kw201, kb202, kv202, ka203, kw203, ka204, kw204, ka205, kw205, ka206, kw206, ka207, kw207, kj208, kk208, c8_m17, c8_m16, c8_m15, c8_m14, c8_m13, c8_m12, c8_m11, c8_m10, c8_m2, c8_6, c8_7, c8_8, c8_9, c8_10, c8_11, c8_12, c8_13, c8_14, c8_15, c8_16, c8_17, c8_18, c8_19, c8_20, c8_21, c8_22, c8_23, c8_25, c8_30, c8_31, c8_32, c8_39, c8_40, c8_41, c8_42, c8_43, c8_45, c8_48, c8_55, c8_56, c8_57, c8_59, c8_60, c8_61, c8_63, c8_70, c8_90, c8_91, c8_92, c8_93, c8_94, c8_96, c8_97, c8_99, c8_115, c8_122, c8_125, c8_126, c8_127, c16_128, c16_129, c16_131, c16_132, c16_135, c16_136, c16_137, c16_138, c16_139, c16_142, c16_143, c16_144, c16_145, c16_146, c16_149, c16_180, c16_250, c16_255, c16_1000, c16_1002, c16_1100, c16_1155, c16_1157, c16_1164, c16_1178, c16_1210, c16_1212, c16_1219, c16_1233, c16_1265, c16_2200, c16_4095, c16_4096, c16_9999, c16_12345, one0, m1_lt0, nI20, nI40, sp203, e0, hk, h1, kz_0, kzn0]
  · simp only [h0, if_true]
    refine ⟨_, h', mK.of hq, fun d R => ?_⟩
    simp (disch := omega) only [B225_0, B225_10, B225_13, B225_18, B225_21, B225_26, B225_28, B225_32, B225_39, kO_s, kcond_t, kpush_s, kpush_n, nI_add, nI_add1, pk_mul, n_0, n_2, n_3, n_4, n_5, if_true, if_false, Nat.add_zero, krecv_m ks185, kg12_0, kp12_0, kg12_1, kg12_2, kp12_2, kg12_3, kp12_3, kg12_4, kg12_5, kg12_6, kg12_7, kp12_7, kg12_8, kp12_8, kg12_9, kg12_10, kg12_11, kg12_12, kg12_13, kp12_13, kg12_14, kg12_15, kg12_16, kg12_17, kg12_18, kp12_18, kg12_19, kp12_19, kg12_20, kg12_21, kg12_22, kg12_23, kg12_24, kp12_24, kg12_25, kg12_26, kg12_27, kg12_28, kp12_28, kg12_29, kg12_30, kg12_31, kg12_32, kp12_32, kg12_33, kp12_33, ka186, kw186, ka187, kw187, ka188, kw188, kj189, kk189, kj190, kk190, ka191, kw191, ka192, kw192, ka193, kw193, kj194, kk194, kj195, kk195, ka196, kw196, ka197, kw197, ka198, kw198, ka199, kw199, ka200, kw200, ka201, kw201, kb202, kv202, ka203, kw203, ka204, kw204, ka205, kw205, ka206, kw206, ka207, kw207, kj208, kk208, c8_m17, c8_m16, c8_m15, c8_m14, c8_m13, c8_m12, c8_m11, c8_m10, c8_m2, c8_6, c8_7, c8_8, c8_9, c8_10, c8_11, c8_12, c8_13, c8_14, c8_15, c8_16, c8_17, c8_18, c8_19, c8_20, c8_21, c8_22, c8_23, c8_25, c8_30, c8_31, c8_32, c8_39, c8_40, c8_41, c8_42, c8_43, c8_45, c8_48, c8_55, c8_56, c8_57, c8_59, c8_60, c8_61, c8_63, c8_70, c8_90, c8_91, c8_92, c8_93, c8_94, c8_96, c8_97, c8_99, c8_115, c8_122, c8_125, c8_126, c8_127, c16_128, c16_129, c16_131, c16_132, c16_135, c16_136, c16_137, c16_138, c16_139, c16_142, c16_143, c16_144, c16_145, c16_146, c16_149, c16_180, c16_250, c16_255, c16_1000, c16_1002, c16_1100, c16_1155, c16_1157, c16_1164, c16_1178, c16_1210, c16_1212, c16_1219, c16_1233, c16_1265, c16_2200, c16_4095, c16_4096, c16_9999, c16_12345, one0, m1_lt0, nI20, nI40, sp203, e0, h0, kz_0, kzn0]
/-- undo -/
theorem sp114 (h : cH I rf r H) : ∃ I', cH I' rf r (hUndo H) ∧ cK I I' ∧ ∀ d R, kX xs (d + 3) 114 0 [some (.ref 0)] [] (kmm I J rf g) R = R (some (.int (aUndo H))) (kmm I' J rf g) := by
  obtain ⟨top, hp⟩ := h.p
  have ha := kad6 h.b.t
  have hn := hp.nl
  unfold hUndo aUndo
  by_cases h0 : H.pn = 0
  · rw [if_pos h0, if_pos h0]
    refine ⟨I, h, cK.refl I, fun d R => ?_⟩
    have hx := hp.n
    rw [h0] at hx
    rw [B114_0, kg11_11, kO_s, kg11_6, kO_s, krecv_m ks65, kcond_t, B28_0, kg3_0, kO_s, hx, if_pos (show nI 0 = 0 from rfl), B28_7, if_pos kz_0, kpush_s, B114_11, if_pos kz_0]
  · obtain ⟨I1, s1, p1, f1, e1⟩ := sp28e (xs := xs) (J := J) (rf := rf) (g := g) hp (by omega)
    rw [if_neg h0, if_neg h0]
    refine ⟨I1, ⟨⟨h.b.t, h.b.vr, h.v _ (by omega), h.b.rl.keep (fun x k h1 h2 => f1 x k (by omega) (by omega)), s1⟩, ⟨_, p1⟩, fun k hk => h.v k (by have : k < H.pn - 1 := hk; omega)⟩, fun x k h1 h2 h3 h4 => f1 x k (by omega) (by omega), fun d R => ?_⟩
    rw [B114_0, kg11_11, kO_s, kg11_6, kO_s, krecv_m ks65, kcond_t, e1, kpush_s, B114_11, if_pos kz_1]
theorem sp226 (h : mH I r H) : ∃ I', mH I' r (hUndo H) ∧ mK I I' ∧ ∀ d R, kX xs (d + 1) 226 0 [some (.ref 185)] [] (kmm I J rf g) R = R (some (.int (aUndo H))) (kmm I' J rf g) := by
  have hq := mQ.thr I (nI 0)
  have h' := h.keep hq
  have vr := h.b.vr
  have hn := h.p.nl
  have hx := h'.p.n
  unfold hUndo aUndo
  by_cases h0 : H.pn = 0
  · rw [if_pos h0, if_pos h0]
    refine ⟨_, h', mK.of hq, fun d R => ?_⟩
    rw [h0] at hx
    rw [B226_0, kp12_0, kO_s, kg12_24, kO_s, n_0, hx, if_pos rfl, B226_12, ← n_0, if_pos kz_0]
  · rw [if_neg h0, if_neg h0]
    obtain ⟨p, hpn⟩ : ∃ p, H.pn = p + 1 := ⟨H.pn - 1, by omega⟩
    have hp1 : H.pn - 1 = p := by omega
    rw [hp1]
    obtain ⟨I1, c1, c2, c3⟩ := sp195 (xs := xs) (J := J) (rf := rf) (g := g) (I := ku (ku I 185 0 (nI 0)) 185 24 (nI p)) (fr := 55 * (5 + p)) (to := 0) (n := 30) (by omega) (by omega) (by omega)
    have a := h'.p.s p (by omega)
    have a' : mSt (ku (ku I 185 0 (nI 0)) 185 24 (nI p)) (55 * (5 + p)) r (H.ps p) := by
      rw [show 275 + 55 * p = 55 * (5 + p) by omega] at a
      exact a.keep vr (fun k' _ _ => by rw [ku_nea (by omega)])
    refine ⟨I1, ⟨⟨vr, h.v p (by omega), h'.b.rl.keep (fun x k h1 h2 => by rw [c2 x k (by omega), ku_nea (by omega)]), a'.copy vr c1⟩, ⟨?_, ?_, fun k hk => ?_⟩, fun k hk => h.v k (by have : k < p := hk; omega)⟩, fun x k h1 h2 h3 h4 h5 => by rw [c2 x k (by omega), ku_ne (by omega), hq x k (by omega) (by omega) (by omega) (by omega) (by omega)], fun d R => ?_⟩
    · rw [c2 _ _ (by omega), ku_same]; rfl
    · show p ≤ 16
      omega
    · have hk' : k < p := hk
      exact (h'.p.s k (by omega)).keep vr (fun k' _ _ => by rw [c2 _ _ (by omega), ku_nea (by omega)])
    · rw [hpn] at hx
      rw [B226_0, kp12_0, kO_s, kg12_24, kO_s, n_0, hx, ← n_0, if_neg (nI_ne0 (by omega) (by omega)), B226_14, kg12_24, kO_s, n_0, hx, nI_pred, kp12_24, kO_s, kg12_24, kO_s, ku_same, krecv_m ks185, kcond_t, c8_55, n_5, nI_add, pk_mul, c8_30, c3, kpush_n, B226_40, if_pos kz_1]
end HA
