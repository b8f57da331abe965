/-! what is asked: the base -/
theorem one0 : ((1 : Int32) = nI 0) = False := eq_false (by decide)
theorem adv_up (r : aRl) (s : aSt) : ∀ n, (adv r s n).up = s.up := by
  intro n
  induction n with
  | zero => rfl
  | succ n ih => exact ih
theorem adv_ln (r : aRl) (s : aSt) : ∀ n, (adv r s n).ln = s.ln := by
  intro n
  induction n with
  | zero => rfl
  | succ n ih => exact ih
theorem adv_ch (r : aRl) (s : aSt) : ∀ n, (adv r s n).ch = s.ch := by
  intro n
  induction n with
  | zero => rfl
  | succ n ih => exact ih
theorem nxt_up (r : aRl) (s : aSt) (d : Nat) : (nxt r s d).up = s.up := adv_up r s _
theorem nxt_ch (r : aRl) (s : aSt) (d : Nat) : (nxt r s d).ch = s.ch := adv_ch r s _
theorem nxt_ln (r : aRl) (s : aSt) (d : Nat) : (nxt r s d).ln = s.ln := adv_ln r s _
/-- an index that is one, or is none -/
theorem kidx_c (x : Int32) {n : Nat} (hn : n < 2147483648) : (∃ j : Nat, j < n ∧ x = nI j) ∨ kidx x (nI n) = 0 := by
  rcases pk_ix x (n := n) (by omega) with h | h | h
  · right; unfold kidx; rw [if_pos h]
  · right
    unfold kidx
    rw [if_neg, if_neg]
    · rw [Int32.lt_iff_toInt_lt]
      rw [Int32.le_iff_toInt_le] at h
      omega
    · rw [Int32.le_iff_toInt_le, nI_toInt (by omega)] at h
      rw [Int32.lt_iff_toInt_lt]
      have : (0 : Int32).toInt = 0 := by decide
      omega
  · exact Or.inl h
theorem kwithin_idx (x : Int32) {n : Nat} (hn : n < 2147483647) : kwithin x (nI 0) (nI n) = kidx x (nI (n + 1)) := by
  rcases kidx_c x (n := n + 1) (by omega) with ⟨j, hj, rfl⟩ | h0
  · have hw : kwithin (nI j) 0 (nI n) = 1 := kwithin_in (show j ≤ n by omega) (by omega)
    rw [kidx_in hj (by omega), nI_0, hw]
  · rw [h0]
    unfold kwithin
    unfold kidx at h0
    rw [nI_0]
    by_cases h : x < 0
    · rw [if_pos h]
    · rw [if_neg h] at h0 ⊢
      by_cases h2 : x < nI (n + 1)
      · rw [if_pos h2] at h0
        exact absurd h0 (by decide)
      · rw [if_pos]
        rw [Int32.lt_iff_toInt_lt, nI_toInt (by omega)] at h2
        rw [Int32.lt_iff_toInt_lt, nI_toInt (by omega)]
        omega
abbrev cB (I : Nat → Nat → Int32) (rf : Nat → Nat) (r : aRl) (s : aSt) : Prop := (kshp (rf 2) = some (.inl 6)) ∧ (vRl r) ∧ (vSt r s) ∧ (cRl I (rf 2) r) ∧ (cSt I 39 s)
theorem cB.t {I : Nat → Nat → Int32} {rf : Nat → Nat} {r : aRl} {s : aSt} (h : cB I rf r s) : kshp (rf 2) = some (.inl 6) := h.1
theorem cB.vr {I : Nat → Nat → Int32} {rf : Nat → Nat} {r : aRl} {s : aSt} (h : cB I rf r s) : vRl r := h.2.1
theorem cB.vs {I : Nat → Nat → Int32} {rf : Nat → Nat} {r : aRl} {s : aSt} (h : cB I rf r s) : vSt r s := h.2.2.1
theorem cB.rl {I : Nat → Nat → Int32} {rf : Nat → Nat} {r : aRl} {s : aSt} (h : cB I rf r s) : cRl I (rf 2) r := h.2.2.2.1
theorem cB.st {I : Nat → Nat → Int32} {rf : Nat → Nat} {r : aRl} {s : aSt} (h : cB I rf r s) : cSt I 39 s := h.2.2.2.2
abbrev cQ (I I' : Nat → Nat → Int32) : Prop := ∀ x k, x ≠ 0 → x ≠ 12 → x ≠ 25 → x < 44 ∨ 64 < x → I' x k = I x k
abbrev mB (I : Nat → Nat → Int32) (r : aRl) (s : aSt) : Prop := (vRl r) ∧ (vSt r s) ∧ (mRl I r) ∧ (mSt I 0 r s)
theorem mB.vr {I : Nat → Nat → Int32} {r : aRl} {s : aSt} (h : mB I r s) : vRl r := h.1
theorem mB.vs {I : Nat → Nat → Int32} {r : aRl} {s : aSt} (h : mB I r s) : vSt r s := h.2.1
theorem mB.rl {I : Nat → Nat → Int32} {r : aRl} {s : aSt} (h : mB I r s) : mRl I r := h.2.2.1
theorem mB.st {I : Nat → Nat → Int32} {r : aRl} {s : aSt} (h : mB I r s) : mSt I 0 r s := h.2.2.2
abbrev mQ (I I' : Nat → Nat → Int32) : Prop := ∀ x k, x ≠ 199 → x ≠ 200 → x < 203 ∨ 204 < x → ¬ (x = 185 ∧ (k = 0 ∨ k = 28 ∨ k = 32)) → ¬ (x = 201 ∧ 1155 ≤ k) → I' x k = I x k
/-- is a case heard on a day -/
abbrev hrd (r : aRl) (s : aSt) (day c : Nat) : Prop := s.up c = day ∧ hC s.up day r.nj c < r.nj
theorem hrd_lt {r : aRl} {s : aSt} {day c : Nat} (hc : c < r.nc) (h : hrd r s day c) : hC s.up day r.nj c < dM r s day ∧ dH r s day (hC s.up day r.nj c) = c := hH_of s.up day r.nj h.1 h.2 r.nc hc
/-- what a case gets, on the day that is next -/
def gtN (r : aRl) (u : aSt) (c : Nat) : Int32 := if hrd r u u.nx c then nI (dA r u u.nx (dS r u (hC u.up u.nx r.nj c))) else -1
def frN (r : aRl) (u : aSt) (c : Nat) : Int32 := if hrd r u u.nx c then nI (u.ch (dS r u (hC u.up u.nx r.nj c))) else -1
def aGets (r : aRl) (s : aSt) (x : Int32) : Int32 := if kidx x (nI r.nc) = 0 then -1 else gtN r (nxt r s (s.up x.toNatClampNeg)) x.toNatClampNeg
def aFrom (r : aRl) (s : aSt) (x : Int32) : Int32 := if kidx x (nI r.nc) = 0 then -1 else frN r (nxt r s (s.up x.toNatClampNeg)) x.toNatClampNeg
def hrN (r : aRl) (s : aSt) (c : Nat) : Int32 := if hrd r s (s.up c) c then nI (s.ch (hC s.up (s.up c) r.nj c)) else -1
def aHears (r : aRl) (s : aSt) (x : Int32) : Int32 := if kidx x (nI r.nc) = 0 then -1 else hrN r s x.toNatClampNeg
def aGives (r : aRl) (s : aSt) (j c : Int32) : Int32 := if kidx j (nI r.nj) = 0 then -1 else if kidx c (nI r.nc) = 0 then -1 else nI (vd (r.kd j.toNatClampNeg) (r.gu c.toNatClampNeg) (s.ln j.toNatClampNeg))
theorem ans_in {n j : Nat} {A : Int32} {B : Int32 → Int32} (hj : j < n) (hn : n < 2147483648) : (if kidx (nI j) (nI n) = 0 then A else B (nI j)) = B (nI j) := by rw [kidx_in hj hn, if_neg (by decide)]
theorem ans_in2 {n j : Nat} {A : Int32} {B : Nat → Int32} (hj : j < n) (hn : n < 2147483648) : (if kidx (nI j) (nI n) = 0 then A else B (nI j).toNatClampNeg) = B j := by rw [kidx_in hj hn, if_neg (by decide), nI_clamp (by omega)]
section QB
variable {xs : List Int32} {d : Nat} {I I' I2 : Nat → Nat → Int32} {J : Nat → Nat → Int64} {rf : Nat → Nat} {g : Nat} {R : Option Value → KW → Prop} {r : aRl} {s u : aSt}
theorem cQ.refl (I : Nat → Nat → Int32) : cQ I I := fun _ _ _ _ _ _ => rfl
theorem cQ.trans (h : cQ I I') (h2 : cQ I' I2) : cQ I I2 := fun x k a b c e => by rw [h2 x k a b c e, h x k a b c e]
theorem mQ.refl (I : Nat → Nat → Int32) : mQ I I := fun _ _ _ _ _ _ _ => rfl
theorem mQ.trans (h : mQ I I') (h2 : mQ I' I2) : mQ I I2 := fun x k a b c e f => by rw [h2 x k a b c e f, h x k a b c e f]
theorem cB.keep (h : cB I rf r s) (q : cQ I I') : cB I' rf r s := by
  have ha := kad6 h.t
  exact ⟨h.t, h.vr, h.vs, h.rl.keep (fun x k h1 h2 => q x k (by omega) (by omega) (by omega) (by omega)), h.st.keep (fun x k h1 h2 => q x k (by omega) (by omega) (by omega) (by omega))⟩
theorem mB.keep (h : mB I r s) (q : mQ I I') : mB I' r s :=
  ⟨h.vr, h.vs, h.rl.keep (fun x k h1 h2 => q x k (by omega) (by omega) (by omega) (by omega) (by omega)), h.st.keep h.vr (fun k h1 h2 => q 201 k (by omega) (by omega) (by omega) (by omega) (by omega))⟩
theorem mQ.thr (I : Nat → Nat → Int32) (v : Int32) : mQ I (ku I 185 0 v) := fun x k _ _ _ h _ => ku_ne (by omega)
theorem cQ_of {a b : Nat} (ha : kshp a = some (.inl 6)) (hb : b = 44 ∨ b = 49) (h : ∀ x k, x < 54 ∨ 61 < x → x ≠ a + 7 → x < b ∨ b + 4 < x → I' x k = I x k) : cQ I I' := by
  have := kad6 ha
  exact fun x k h1 h2 h3 h4 => h x k (by omega) (by omega) (by omega)
theorem cQ_sit (h : ∀ x k, x < 54 ∨ 61 < x → I' x k = I x k) : cQ I I' := fun x k h1 h2 h3 h4 => h x k (by omega)
theorem mQ_of (h : mF 1155 I I') : mQ I I' := fun x k h1 h2 h3 h4 h5 => h x k h1 h2 (by omega) (by omega) (by omega) (by omega)
theorem mQ_lis (h : ∀ x k, x ≠ 203 → ¬ (x = 185 ∧ k = 28) → I' x k = I x k) : mQ I I' := fun x k h1 h2 h3 h4 h5 => h x k (by omega) (by omega)
theorem mQ_cp (h : ∀ x k, ¬ (x = 201 ∧ 1155 ≤ k ∧ k < 1185) → I' x k = I x k) : mQ I I' := fun x k h1 h2 h3 h4 h5 => h x k (by omega)
/-- isDay -/
theorem sp153 {x : Int32} {w : KW} : kX xs (d + 1) 153 0 [some (.int x)] [] w R = R (some (.int (kidx x (nI 4)))) w := by
  have h : kwithin x 0 3 = kidx x (nI 4) := kwithin_idx x (n := 3) (by omega)
  have hz : ∀ y : Int32, (narrow .boolean (.int (kidx x y)) = .int (kidx x y)) := by
    intro y
    unfold kidx
    split
    · rfl
    · split <;> rfl
  simp only [B153_0, B153_6, sp154, kpush_s, h, hz, if_true]
/-- what a case gets, at the class's side -/
theorem sp78g (vr : vRl r) (h : cDealt I r u) {c : Nat} (hc : c < r.nc) : kX xs (d + 2) 78 0 [some (.ref 54), some (.int (nI c))] [] (kmm I J rf g) R = R (some (.int (gtN r u c))) (kmm I J rf g) := by
  have hc7 := vr.c
  have hm7 := dM7 vr u u.nx
  have hp := h.day.pl c hc
  unfold gtN
  by_cases hh : hrd r u u.nx c
  · obtain ⟨q1, q2⟩ := hrd_lt hc hh
    rw [if_pos hh] at hp ⊢
    have hs := dS_lt (r := r) (s := u) q1
    rw [sp78 hm7 h.day.m (by omega) hp q1 (h.so _ q1) hs, h.day.a _ hs]
  · rw [if_neg hh] at hp ⊢
    rw [sp78n (by omega) hp]
theorem sp75g (vr : vRl r) (h : cDealt I r u) {b : Nat} (hb : kshp b = some (.inl 9)) (hch : ∀ k, k < 7 → I (b + 4) k = nI (u.ch k)) {c : Nat} (hc : c < r.nc) : kX xs (d + 1) 77 0 [some (.ref 54), some (.int (nI c)), none] [] (kmm I J rf g) (fun r w' => kX xs (d + 1) 75 0 [some (.ref 54), some (.ref b), some ((kpush r []).headD .null)] [] w' R) = R (some (.int (frN r u c))) (kmm I J rf g) := by
  have hc7 := vr.c
  have hm7 := dM7 vr u u.nx
  have hp := h.day.pl c hc
  unfold frN
  by_cases hh : hrd r u u.nx c
  · obtain ⟨q1, q2⟩ := hrd_lt hc hh
    rw [if_pos hh] at hp ⊢
    have hs := dS_lt (r := r) (s := u) q1
    rw [sp77 hm7 h.day.m (by omega) hp q1, h.so _ q1]
    show kX xs (d + 1) 75 0 [some (.ref 54), some (.ref b), some (.int (nI (dS r u (hC u.up u.nx r.nj c))))] [] _ R = _
    rw [sp75 hb hm7 h.day.m hs, hch _ (by omega)]
  · rw [if_neg hh] at hp ⊢
    rw [sp77n (by omega) hp]
    show kX xs (d + 1) 75 0 [some (.ref 54), some (.ref b), some (.int (-1))] [] _ R = _
    rw [sp75n]
/-- gets -/
theorem sp120 (h : cB I rf r s) (x : Int32) : ∃ I', cQ I I' ∧ ∀ d R, kX xs (d + 6) 120 0 [some (.ref 0), some (.int x)] [] (kmm I J rf g) R = R (some (.int (aGets r s x))) (kmm I' J rf g) := by
  obtain ⟨ht, vr, vs, hr, hs⟩ := h
  have hc7 := vr.c
  have e0 := hr.nc
  rcases kidx_c x (show r.nc < 2147483648 by omega) with ⟨c, hc, rfl⟩ | h0
  · obtain ⟨I', q1, q2, q3, q4⟩ := sp66e (xs := xs) (J := J) (rf := rf) (g := g) ht ks39 ks44 (by decide) vr vs hr hs (vs.up c (by omega))
    refine ⟨I', cQ_of ht (Or.inl rfl) q3, fun d R => ?_⟩
    have e1 := hs.up c (by omega)
    have hk := kidx_in hc (show r.nc < 2147483648 by omega)
    have h78 : ∀ d R, kX xs (d + 2) 78 0 [some (.ref 54), some (.int (nI c))] [] (kmm I' J rf g) R = _ := fun d R => sp78g vr q1 hc
    unfold aGets
    rw [ans_in2 (B := fun c => gtN r (nxt r s (s.up c)) c) hc (by omega)]
    simp (disch := omega) only [B120_0, B120_8, B120_11, B120_13, B120_41, B120_49, kO_s, kcond_t, kpush_s, kpush_n, nI_add, nI_add1, pk_mul, n_0, n_2, n_3, n_4, n_5, if_true, if_false, Nat.add_zero, krecv_m ks0, krecv_m ks54, kg1_0, kg2_0, kp2_0, kg2_1, kg2_2, kp2_2, kg2_3, kp2_3, kg2_4, kp2_4, kg2_5, kp2_5, kg2_6, kp2_6, kg2_7, kp2_7, kg3_0, kp3_0, kg3_1, kp3_1, kg3_2, kg4_0, kg4_1, kg5_0, kg5_1, kg5_2, kp5_2, kg5_3, kp5_3, kg5_4, kp5_4, kg5_5, kp5_5, kg8_0, kp8_0, kg8_1, kg8_2, kg8_3, kg8_4, kg8_5, kg8_6, kg8_7, kg11_0, kg11_1, kg11_2, kg11_3, kg11_4, kg11_5, kg11_6, kg11_7, kg11_8, kg11_9, kg11_10, kg11_11, kg11_12, kg11_13, kg11_14, kg11_15, kg11_16, kp11_16, kb2, kv2, ka55, kw55, ka56, kw56, ka57, kw57, ka58, kw58, kb59, kv59, ka60, kw60, ka61, kw61, ka63, kw63, ka64, kw64, kr66, kr150, kr151, kb152, kv152, c8_m17, c8_m16, c8_m15, c8_m14, c8_m13, c8_m12, c8_m11, c8_m10, c8_m2, c8_6, c8_7, c8_8, c8_9, c8_10, c8_11, c8_12, c8_13, c8_14, c8_15, c8_16, c8_17, c8_18, c8_19, c8_20, c8_21, c8_22, c8_23, c8_25, c8_30, c8_31, c8_32, c8_39, c8_40, c8_41, c8_42, c8_43, c8_45, c8_48, c8_55, c8_56, c8_57, c8_59, c8_60, c8_61, c8_63, c8_70, c8_90, c8_91, c8_92, c8_93, c8_94, c8_96, c8_97, c8_99, c8_115, c8_122, c8_125, c8_126, c8_127, c16_128, c16_129, c16_131, c16_132, c16_135, c16_136, c16_137, c16_138, c16_139, c16_142, c16_143, c16_144, c16_145, c16_146, c16_149, c16_180, c16_250, c16_255, c16_1000, c16_1002, c16_1100, c16_1155, c16_1157, c16_1164, c16_1178, c16_1210, c16_1212, c16_1219, c16_1233, c16_1265, c16_2200, c16_4095, c16_4096, c16_9999, c16_12345, krecv_m ht, sp51 ht, sp52 ht, kg6_0 ht, kg6_1 ht, kg6_2 ht, kg6_3 ht, kg6_4 ht, kg6_5 ht, kg6_6 ht, kg6_7 ht, kj6_1 ht, kj6_2 ht, ka6_3 ht, ka6_4 ht, krecv_m ks39, kg9_0 ks39, kp9_0 ks39, kg9_1 ks39, kp9_1 ks39, kg9_2 ks39, kg9_3 ks39, kg9_4 ks39, kg9_5 ks39, ka9_1 ks39, kw9_1 ks39, ka9_2 ks39, kw9_2 ks39, ka9_3 ks39, kw9_3 ks39, ka9_4 ks39, kw9_4 ks39, one0, m1_lt0, nI20, nI40, e0, e1, hk, q4, h78]
  · refine ⟨I, cQ.refl I, fun d R => ?_⟩
    unfold aGets
    rw [if_pos h0]
    simp (disch := omega) only [B120_0, B120_8, B120_11, B120_13, B120_41, B120_49, kO_s, kcond_t, kpush_s, kpush_n, nI_add, nI_add1, pk_mul, n_0, n_2, n_3, n_4, n_5, if_true, if_false, Nat.add_zero, krecv_m ks0, krecv_m ks54, kg1_0, kg2_0, kp2_0, kg2_1, kg2_2, kp2_2, kg2_3, kp2_3, kg2_4, kp2_4, kg2_5, kp2_5, kg2_6, kp2_6, kg2_7, kp2_7, kg3_0, kp3_0, kg3_1, kp3_1, kg3_2, kg4_0, kg4_1, kg5_0, kg5_1, kg5_2, kp5_2, kg5_3, kp5_3, kg5_4, kp5_4, kg5_5, kp5_5, kg8_0, kp8_0, kg8_1, kg8_2, kg8_3, kg8_4, kg8_5, kg8_6, kg8_7, kg11_0, kg11_1, kg11_2, kg11_3, kg11_4, kg11_5, kg11_6, kg11_7, kg11_8, kg11_9, kg11_10, kg11_11, kg11_12, kg11_13, kg11_14, kg11_15, kg11_16, kp11_16, kb2, kv2, ka55, kw55, ka56, kw56, ka57, kw57, ka58, kw58, kb59, kv59, ka60, kw60, ka61, kw61, ka63, kw63, ka64, kw64, kr66, kr150, kr151, kb152, kv152, c8_m17, c8_m16, c8_m15, c8_m14, c8_m13, c8_m12, c8_m11, c8_m10, c8_m2, c8_6, c8_7, c8_8, c8_9, c8_10, c8_11, c8_12, c8_13, c8_14, c8_15, c8_16, c8_17, c8_18, c8_19, c8_20, c8_21, c8_22, c8_23, c8_25, c8_30, c8_31, c8_32, c8_39, c8_40, c8_41, c8_42, c8_43, c8_45, c8_48, c8_55, c8_56, c8_57, c8_59, c8_60, c8_61, c8_63, c8_70, c8_90, c8_91, c8_92, c8_93, c8_94, c8_96, c8_97, c8_99, c8_115, c8_122, c8_125, c8_126, c8_127, c16_128, c16_129, c16_131, c16_132, c16_135, c16_136, c16_137, c16_138, c16_139, c16_142, c16_143, c16_144, c16_145, c16_146, c16_149, c16_180, c16_250, c16_255, c16_1000, c16_1002, c16_1100, c16_1155, c16_1157, c16_1164, c16_1178, c16_1210, c16_1212, c16_1219, c16_1233, c16_1265, c16_2200, c16_4095, c16_4096, c16_9999, c16_12345, krecv_m ht, sp51 ht, sp52 ht, kg6_0 ht, kg6_1 ht, kg6_2 ht, kg6_3 ht, kg6_4 ht, kg6_5 ht, kg6_6 ht, kg6_7 ht, kj6_1 ht, kj6_2 ht, ka6_3 ht, ka6_4 ht, e0, h0]
/-- getsIn, getsNow -/
theorem sp218 (vr : vRl r) (vs : vSt r s) (hr : mRl I r) (hs : mSt I 1155 r s) {c : Nat} (hc : c < r.nc) : ∃ I', mSt I' 1155 r (nxt r s (s.up c)) ∧ mDay I' r (nxt r s (s.up c)) (s.up c) ∧ (∀ p, p < dM r (nxt r s (s.up c)) (s.up c) → I' 204 p = nI (dS r (nxt r s (s.up c)) p)) ∧ mF 1155 I I' ∧ ∀ d R, kX xs (d + 5) 218 0 [some (.ref 185), some (.int (nI c)), none] [] (kmm I J rf g) R = R (some (.int (gtN r (nxt r s (s.up c)) c))) (kmm I' J rf g) := by
  have hc7 := vr.c
  have hu := vs.up c (by omega)
  obtain ⟨I', s1, d1, z1, f1, e1⟩ := sp216 (xs := xs) (J := J) (rf := rf) (g := g) vr vs hr hs hu
  refine ⟨I', s1, d1, z1, f1, fun d R => ?_⟩
  have eu := hs.up c hc
  have hr' : mRl I' r := hr.keep (fun x k h1 h2 => f1 x k (by omega) (by omega) (by omega) (by omega) (by omega) (by omega))
  have hn := nxt_nx (r := r) vs.nx hu
  have hm7 := dM7 vr (nxt r s (s.up c)) (s.up c)
  rw [B218_0, kg12_23, kO_s, c16_1178, nI_add, ka201 (by omega), kO_s, show 1178 + c = 1155 + 23 + c from rfl, eu, krecv_m ks185, kcond_t, e1, kpush_n, B218_14, krecv_m ks185, kcond_t, sp213 vr d1 hc, kpush_s, B218_19]
  unfold gtN pl
  rw [hn]
  by_cases hh : hrd r (nxt r s (s.up c)) (s.up c) c
  · obtain ⟨q1, q2⟩ := hrd_lt hc hh
    have hq : dS r (nxt r s (s.up c)) (hC (nxt r s (s.up c)).up (s.up c) r.nj c) < dM r (nxt r s (s.up c)) (s.up c) := by
      have := dS_lt (r := r) (s := nxt r s (s.up c)) (p := hC (nxt r s (s.up c)).up (s.up c) r.nj c)
      rw [hn] at this
      exact this q1
    have h214 : ∀ d R, kX xs (d + 2) 214 0 [some (.ref 185), some (.int (nI 1155)), some (.int (nI (dS r (nxt r s (s.up c)) (hC (nxt r s (s.up c)).up (s.up c) r.nj c))))] [] (kmm I' J rf g) R = _ := fun d R => sp214 (by omega) vr (nxt_v vr vs) hr' s1 d1 hq
    rw [if_pos hh, if_pos hh, if_neg (nI_pos (by omega)), B218_28, kg12_27, kO_s, ka204 (by omega), kO_s, z1 _ q1, krecv_m ks185, kcond_t, c16_1155, h214, kpush_s, B218_41]
  · rw [if_neg hh, if_neg hh, if_pos (by decide), B218_24, B218_41]
theorem sp219 (h : mB I r s) {c : Nat} (hc : c < r.nc) : ∃ I', mSt I' 1155 r (nxt r s (s.up c)) ∧ mDay I' r (nxt r s (s.up c)) (s.up c) ∧ (∀ p, p < dM r (nxt r s (s.up c)) (s.up c) → I' 204 p = nI (dS r (nxt r s (s.up c)) p)) ∧ mQ I I' ∧ ∀ d R, kX xs (d + 6) 219 0 [some (.ref 185), some (.int (nI c))] [] (kmm I J rf g) R = R (some (.int (gtN r (nxt r s (s.up c)) c))) (kmm I' J rf g) := by
  obtain ⟨I1, s1, f1, e1⟩ := sp217 (xs := xs) (J := J) (rf := rf) (g := g) h.vr h.st
  have hr1 : mRl I1 r := h.rl.keep (fun x k h1 h2 => f1 x k (by omega))
  obtain ⟨I2, a1, a2, a3, a4, a5⟩ := sp218 (xs := xs) (J := J) (rf := rf) (g := g) h.vr h.vs hr1 s1 hc
  refine ⟨I2, a1, a2, a3, (mQ_cp f1).trans (mQ_of a4), fun d R => ?_⟩
  rw [B219_0, krecv_m ks185, kcond_t, e1, kpush_n, B219_4, krecv_m ks185, kcond_t, a5, kpush_s, B219_9]
theorem sp231 (h : mB I r s) (x : Int32) : ∃ I', mQ I I' ∧ ∀ d R, kX xs (d + 7) 231 0 [some (.ref 185), some (.int x)] [] (kmm I J rf g) R = R (some (.int (aGets r s x))) (kmm I' J rf g) := by
  have hq := mQ.thr I (nI 0)
  have h1 := h.keep hq
  have hc7 := h.vr.c
  have e0 := h1.rl.nc
  rcases kidx_c x (show r.nc < 2147483648 by omega) with ⟨c, hc, rfl⟩ | h0
  · obtain ⟨I2, a1, a2, a3, a4, a5⟩ := sp219 (xs := xs) (J := J) (rf := rf) (g := g) h1 hc
    refine ⟨I2, hq.trans a4, fun d R => ?_⟩
    have hk := kidx_in hc (show r.nc < 2147483648 by omega)
    unfold aGets
    rw [ans_in2 (B := fun c => gtN r (nxt r s (s.up c)) c) hc (by omega)]
    simp (disch := omega) only [B231_0, B231_10, B231_13, B231_18, B231_21, B231_22, kO_s, kcond_t, kpush_s, kpush_n, nI_add, nI_add1, pk_mul, n_0, n_2, n_3, n_4, n_5, if_true, if_false, Nat.add_zero, krecv_m ks185, kg12_0, kp12_0, kg12_1, kg12_2, kp12_2, kg12_3, kp12_3, kg12_4, kg12_5, kg12_6, kg12_7, kp12_7, kg12_8, kp12_8, kg12_9, kg12_10, kg12_11, kg12_12, kg12_13, kp12_13, kg12_14, kg12_15, kg12_16, kg12_17, kg12_18, kp12_18, kg12_19, kp12_19, kg12_20, kg12_21, kg12_22, kg12_23, kg12_24, kp12_24, kg12_25, kg12_26, kg12_27, kg12_28, kp12_28, kg12_29, kg12_30, kg12_31, kg12_32, kp12_32, kg12_33, kp12_33, ka186, kw186, ka187, kw187, ka188, kw188, kj189, kk189, kj190, kk190, ka191, kw191, ka192, kw192, ka193, kw193, kj194, kk194, kj195, kk195, ka196, kw196, ka197, kw197, ka198, kw198, ka199, kw199, ka200, kw200, ka201, kw201, kb202, kv202, ka203, kw203, ka204, kw204, ka205, kw205, ka206, kw206, ka207, kw207, kj208, kk208, c8_m17, c8_m16, c8_m15, c8_m14, c8_m13, c8_m12, c8_m11, c8_m10, c8_m2, c8_6, c8_7, c8_8, c8_9, c8_10, c8_11, c8_12, c8_13, c8_14, c8_15, c8_16, c8_17, c8_18, c8_19, c8_20, c8_21, c8_22, c8_23, c8_25, c8_30, c8_31, c8_32, c8_39, c8_40, c8_41, c8_42, c8_43, c8_45, c8_48, c8_55, c8_56, c8_57, c8_59, c8_60, c8_61, c8_63, c8_70, c8_90, c8_91, c8_92, c8_93, c8_94, c8_96, c8_97, c8_99, c8_115, c8_122, c8_125, c8_126, c8_127, c16_128, c16_129, c16_131, c16_132, c16_135, c16_136, c16_137, c16_138, c16_139, c16_142, c16_143, c16_144, c16_145, c16_146, c16_149, c16_180, c16_250, c16_255, c16_1000, c16_1002, c16_1100, c16_1155, c16_1157, c16_1164, c16_1178, c16_1210, c16_1212, c16_1219, c16_1233, c16_1265, c16_2200, c16_4095, c16_4096, c16_9999, c16_12345, one0, m1_lt0, nI20, nI40, sp204, e0, hk, a5]
  · refine ⟨_, hq, fun d R => ?_⟩
    unfold aGets
    rw [if_pos h0]
    simp (disch := omega) only [B231_0, B231_10, B231_13, B231_18, B231_21, B231_22, kO_s, kcond_t, kpush_s, kpush_n, nI_add, nI_add1, pk_mul, n_0, n_2, n_3, n_4, n_5, if_true, if_false, Nat.add_zero, krecv_m ks185, kg12_0, kp12_0, kg12_1, kg12_2, kp12_2, kg12_3, kp12_3, kg12_4, kg12_5, kg12_6, kg12_7, kp12_7, kg12_8, kp12_8, kg12_9, kg12_10, kg12_11, kg12_12, kg12_13, kp12_13, kg12_14, kg12_15, kg12_16, kg12_17, kg12_18, kp12_18, kg12_19, kp12_19, kg12_20, kg12_21, kg12_22, kg12_23, kg12_24, kp12_24, kg12_25, kg12_26, kg12_27, kg12_28, kp12_28, kg12_29, kg12_30, kg12_31, kg12_32, kp12_32, kg12_33, kp12_33, ka186, kw186, ka187, kw187, ka188, kw188, kj189, kk189, kj190, kk190, ka191, kw191, ka192, kw192, ka193, kw193, kj194, kk194, kj195, kk195, ka196, kw196, ka197, kw197, ka198, kw198, ka199, kw199, ka200, kw200, ka201, kw201, kb202, kv202, ka203, kw203, ka204, kw204, ka205, kw205, ka206, kw206, ka207, kw207, kj208, kk208, c8_m17, c8_m16, c8_m15, c8_m14, c8_m13, c8_m12, c8_m11, c8_m10, c8_m2, c8_6, c8_7, c8_8, c8_9, c8_10, c8_11, c8_12, c8_13, c8_14, c8_15, c8_16, c8_17, c8_18, c8_19, c8_20, c8_21, c8_22, c8_23, c8_25, c8_30, c8_31, c8_32, c8_39, c8_40, c8_41, c8_42, c8_43, c8_45, c8_48, c8_55, c8_56, c8_57, c8_59, c8_60, c8_61, c8_63, c8_70, c8_90, c8_91, c8_92, c8_93, c8_94, c8_96, c8_97, c8_99, c8_115, c8_122, c8_125, c8_126, c8_127, c16_128, c16_129, c16_131, c16_132, c16_135, c16_136, c16_137, c16_138, c16_139, c16_142, c16_143, c16_144, c16_145, c16_146, c16_149, c16_180, c16_250, c16_255, c16_1000, c16_1002, c16_1100, c16_1155, c16_1157, c16_1164, c16_1178, c16_1210, c16_1212, c16_1219, c16_1233, c16_1265, c16_2200, c16_4095, c16_4096, c16_9999, c16_12345, sp204, e0, h0]
end QB
