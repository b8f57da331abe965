/-! the model reads chairs, the law -/
abbrev lInv (L s : aPS) (D : aDr) : Prop := (D.lt = 0 → eqL L s) ∧ (¬ D.lt = 0 → L.ll = s.ll + 1 ∧ (∀ n, n < s.ll → L.lo n = s.lo n ∧ L.la n = s.la n) ∧ L.lo s.ll = 0)
def dl2 (T : aTp) (D : aDr) (s : aPS) : aPS := if kdO T s = 134 then (if D.lt = 0 then emi 0 0 (who T (par T 5) (stp s)) else wrg T 3 s) else wrg T 1 s
section MP
variable {xs : List Int32} {d : Nat} {I I' I2 : Nat → Nat → Int32} {J J' J2 : Nat → Nat → Int64} {rf : Nat → Nat} {g : Nat} {R : Option Value → KW → Prop} {T : aTp} {s u L : aPS} {D D' : aDr}
theorem lInv.e (h : lInv L s D) (he : eqL u s) (hd : D'.lt = D.lt) : lInv L u D' := by
  refine ⟨fun z => ?_, fun z => ?_⟩
  · have a := h.1 (by rw [← hd]; exact z)
    exact ⟨a.1.trans he.1.symm, a.2.1.trans he.2.1.symm, a.2.2.trans he.2.2.symm⟩
  · obtain ⟨a, b, c⟩ := h.2 (by rw [← hd]; exact z)
    rw [he.1, he.2.1, he.2.2]
    exact ⟨a, b, c⟩
theorem mDr.keep (h : mDr I J D) (h1 : ∀ k, 90 ≤ k → I' 191 k = I 191 k) (h2 : I' 185 19 = I 185 19) (h3 : ∀ k, I' 197 k = I 197 k) : mDr I' J D := by
  obtain ⟨nm, no, hN⟩ := h.nm
  exact ⟨by rw [h1 _ (by omega)]; exact h.nj, by rw [h1 _ (by omega)]; exact h.nc, by rw [h1 _ (by omega)]; exact h.np, by rw [h1 _ (by omega)]; exact h.lw, fun k hk => by rw [h1 _ (by omega)]; exact h.kd k hk, fun k hk => by rw [h1 _ (by omega)]; exact h.ln k hk, fun k hk => by rw [h1 _ (by omega)]; exact h.ms k hk, fun k hk => by rw [h1 _ (by omega)]; exact h.gu k hk, fun k hk => by rw [h1 _ (by omega)]; exact h.up k hk, fun k hk => by rw [h1 _ (by omega)]; exact h.pa k hk, fun k hk => by rw [h1 _ (by omega)]; exact h.pb k hk, nm, no, by rw [h2]; exact hN.m, hN.l, hN.n, fun k hk => by rw [h3]; exact hN.o k hk⟩
theorem mDr.fr (h : mDr I J D) (h1 : mFr I I') : mDr I' J D := h.keep (fun k _ => h1 _ _ (by omega) (by omega) (by omega)) (h1 _ _ (by omega) (by omega) (by omega)) (fun k => h1 _ _ (by omega) (by omega) (by omega))
abbrev pairI (I : Nat → Nat → Int32) (D : aDr) (a b : Nat) : Nat → Nat → Int32 := ku (ku (ku (ku (ku I 191 (129 + 2 * D.np) (nI a)) 191 (129 + 2 * D.np + 1) (nI b)) 191 92 (nI (D.np + 1))) 191 (94 + 3 * a + 2) (nI (D.ms a ||| 2 ^ b))) 191 (94 + 3 * b + 2) (nI (D.ms b ||| 2 ^ a))
theorem mDr_pair {a b : Nat} (h : mDr I J D) (hj : D.nj ≤ 7) (hc : D.nc ≤ 7) (ha : a < 7) (hb : b < 7) (hab : a ≠ b) : mDr (pairI I D a b) J (prD D a b) := by
  unfold pairI
  obtain ⟨nm, no, hN⟩ := h.nm
  refine ⟨?_, ?_, ?_, ?_, fun k hk => ?_, fun k hk => ?_, fun k hk => ?_, fun k hk => ?_, fun k hk => ?_, fun k hk => ?_, fun k hk => ?_, nm, no, ?_, hN.l, hN.n, fun k hk => ?_⟩
  · rw [ku_nek (by omega), ku_nek (by omega), ku_nek (by omega), ku_nek (by omega), ku_nek (by omega)]; exact h.nj
  · rw [ku_nek (by omega), ku_nek (by omega), ku_nek (by omega), ku_nek (by omega), ku_nek (by omega)]; exact h.nc
  · rw [ku_nek (by omega), ku_nek (by omega), ku_same]; rfl
  · rw [ku_nek (by omega), ku_nek (by omega), ku_nek (by omega), ku_nek (by omega), ku_nek (by omega)]; exact h.lw
  · have hk' : k < D.nj := hk
    rw [ku_nek (by omega), ku_nek (by omega), ku_nek (by omega), ku_nek (by omega), ku_nek (by omega)]; exact h.kd k hk
  · have hk' : k < D.nj := hk
    rw [ku_nek (by omega), ku_nek (by omega), ku_nek (by omega), ku_nek (by omega), ku_nek (by omega)]; exact h.ln k hk
  · show _ = nI (ku1 (ku1 D.ms a (D.ms a ||| 2 ^ b)) b (D.ms b ||| 2 ^ a) k)
    by_cases e : k = b
    · rw [e, ku_same, ku1_s]
    · rw [ku_nek (by omega), ku1_n e]
      by_cases e2 : k = a
      · rw [e2, ku_same, ku1_s]
      · rw [ku_nek (by omega), ku1_n e2, ku_nek (by omega), ku_nek (by omega), ku_nek (by omega)]; exact h.ms k hk
  · have hk' : k < D.nc := hk
    rw [ku_nek (by omega), ku_nek (by omega), ku_nek (by omega), ku_nek (by omega), ku_nek (by omega)]; exact h.gu k hk
  · have hk' : k < D.nc := hk
    rw [ku_nek (by omega), ku_nek (by omega), ku_nek (by omega), ku_nek (by omega), ku_nek (by omega)]; exact h.up k hk
  · have hk' : k < D.np + 1 := hk
    show _ = nI (ku1 D.pa D.np a k)
    rw [ku_nek (by omega), ku_nek (by omega), ku_nek (by omega)]
    by_cases e : k = D.np
    · rw [e, ku_nek (by omega), ku_same, ku1_s]
    · rw [ku_nek (by omega), ku_nek (by omega), ku1_n e]; exact h.pa k (by omega)
  · have hk' : k < D.np + 1 := hk
    show _ = nI (ku1 D.pb D.np b k)
    rw [ku_nek (by omega), ku_nek (by omega), ku_nek (by omega)]
    by_cases e : k = D.np
    · rw [e, ku_same, ku1_s]
    · rw [ku_nek (by omega), ku_nek (by omega), ku1_n e]; exact h.pb k (by omega)
  · rw [ku_nea (by omega), ku_nea (by omega), ku_nea (by omega), ku_nea (by omega), ku_nea (by omega)]; exact hN.m
  · rw [ku_nea (by omega), ku_nea (by omega), ku_nea (by omega), ku_nea (by omega), ku_nea (by omega)]; exact hN.o k hk
theorem pairI_f {a b : Nat} : ∀ x k, x ≠ 191 → pairI I D a b x k = I x k := fun x k hx => by unfold pairI; rw [ku_nea hx, ku_nea hx, ku_nea hx, ku_nea hx, ku_nea hx]
theorem pairI_g {a b : Nat} : ∀ x k, ¬ (x = 191 ∧ 90 ≤ k) → pairI I D a b x k = I x k := fun x k hx => by unfold pairI; rw [ku_ne (by omega), ku_ne (by omega), ku_ne (by omega), ku_ne (by omega), ku_ne (by omega)]
theorem ch2_f (hF : s.F = 0) (f2 : (ch2 T D s).F = 0) : (ch1 T D s).F = 0 ∧ chA T D s < D.nj ∧ chB T D s < D.nj ∧ chA T D s ≠ chB T D s ∧ (D.ms (chA T D s)).testBit (chB T D s) = false := by
  obtain ⟨f1, n1⟩ := iF_G f2
  obtain ⟨a1, a2⟩ := tld_F (s := stp s) hF f1
  obtain ⟨b1, b2⟩ := tld_F f1 n1
  have b1' : chB T D s < D.nj := b1
  have b2' : (D.ms (chA T D s) ||| 2 ^ chA T D s).testBit (chB T D s) = false := b2
  rw [Nat.testBit_or, tb_two, Bool.or_eq_false_iff, decide_eq_false_iff_not] at b2'
  exact ⟨f1, a1, b1', b2'.2, b2'.1⟩
/-- the pair's cells -/
theorem m_183w {a b : Nat} (h : mDr I J D) (ha : a < 7) (hb : b < 7) (hab : a ≠ b) (hp : D.np ≤ 20) : kX xs d 183 51 [some (.ref 185), some (.int (nI a)), some (.int (nI (94 + 3 * a + 2))), some (.int (nI b)), none] [] (kmm I J rf g) R = R none (kmm (pairI I D a b) J rf g) := by
  have e92 : ku (ku I 191 (129 + 2 * D.np) (nI a)) 191 (129 + 2 * D.np + 1) (nI b) 191 92 = nI D.np := by rw [ku_nek (by omega), ku_nek (by omega)]; exact h.np
  have ea : ku (ku (ku I 191 (129 + 2 * D.np) (nI a)) 191 (129 + 2 * D.np + 1) (nI b)) 191 92 (nI (D.np + 1)) 191 (94 + 3 * a + 2) = nI (D.ms a) := by rw [ku_nek (by omega), ku_nek (by omega), ku_nek (by omega)]; exact h.ms a ha
  have eb : ku (ku (ku (ku I 191 (129 + 2 * D.np) (nI a)) 191 (129 + 2 * D.np + 1) (nI b)) 191 92 (nI (D.np + 1))) 191 (94 + 3 * a + 2) (nI (D.ms a ||| 2 ^ b)) 191 (94 + 3 * b + 2) = nI (D.ms b) := by rw [ku_nek (by omega), ku_nek (by omega), ku_nek (by omega), ku_nek (by omega)]; exact h.ms b hb
  rw [B183_51, kg12_10, kO_s, c8_92, ka191 (by omega), kO_s, h.np, kO_s, c16_129, n_2, pk_mul, nI_add, kw191 (by omega), kO_s, kg12_10, kO_s, n_1, nI_add, kw191 (by omega), kO_s, kg12_10, kO_s, ka191 (by omega), kO_s, e92, nI_add, kw191 (by omega), kO_s, B183_95, kg12_10, kO_s, ka191 (by omega), kO_s, ea, nI_bit (by omega), nI_or, kw191 (by omega), kO_s, kg12_10, kO_s, c8_94, n_3, pk_mul, nI_add, n_2, nI_add, ka191 (by omega), kO_s, eb, nI_bit (by omega), nI_or, kw191 (by omega), kO_s, B183_126]
/-- readPair -/
theorem m_183 (vt : vTp T) (hv : vDr D) (hd : mDr I J D) (h : mPS I J T s) (hk : s.k < nT T) (hF : s.F = 0) : ∃ I', mPS I' J T (ch2 T D s) ∧ ((ch2 T D s).F = 0 → mDr I' J (prD D (chA T D s) (chB T D s))) ∧ mFa I I' ∧ ∀ d R, kX xs (d + 4) 183 0 [some (.ref 185), none, none, none, none] [] (kmm I J rf g) R = R none (kmm I' J rf g) := by
  have ek := h.k
  have hj := hv.j
  have hc := hv.c
  obtain ⟨nm, no, hN⟩ := hd.nm
  obtain ⟨a1, a2⟩ := m_stp h
  have nmk : ∀ K, mFr I K → mNm K J 19 195 197 D.nj D.nc D.N nm no := fun K hK => ⟨by rw [hK _ _ (by omega) (by omega) (by omega)]; exact hN.m, hN.l, hN.n, fun k hk => by rw [hK _ _ (by omega) (by omega) (by omega)]; exact hN.o k hk⟩
  obtain ⟨I2, b1, b2, b4⟩ := m_179r (xs := xs) (rf := rf) (g := g) (bm := 0) vt (by decide) hj hc hv.nm (nmk _ a2) a1 hk
  have ec1 : iF (tld T D.N.j D.nj 0) (stp s) = ch1 T D s := iF_p (s := stp s) hF
  rw [ec1] at b1 b4
  have k1 : (ch1 T D s).k ≤ nT T := (kle_ch1 hk).2
  -- the first one's number, or 0
  obtain ⟨a', ea', ha7⟩ : ∃ a', a' = (if (ch1 T D s).F = 0 then chA T D s else 0) ∧ a' < 7 := by
    refine ⟨_, rfl, ?_⟩
    by_cases z : (ch1 T D s).F = 0
    · rw [if_pos z]
      exact Nat.lt_of_lt_of_le (tld_F (s := stp s) hF z).1 hj
    · rw [if_neg z]; decide
  have b4' : ∀ d R, kX xs (d + 3) 179 0 [some (.ref 185), some (.int 1), some (.int 0), some (.int 0), none] [] (kmm (ku I 185 7 (nI (s.k + 1))) J rf g) R = R (some (.int (nI a'))) (kmm I2 J rf g) := by
    intro d R
    have ev : (if (ch1 T D s).F = 0 then nI (fO D.N.j (tV T (pT T (stp s).k)) D.nj) else 0) = nI a' := by
      rw [ea']
      by_cases z : (ch1 T D s).F = 0
      · rw [if_pos z, if_pos z]; rfl
      · rw [if_neg z, if_neg z]; rfl
    rw [← ev]
    exact b4 d R
  have F2 : mFr I I2 := a2.trans b2
  have hm7 := hv.m7 a' ha7
  have hbm : D.ms a' ||| 2 ^ a' < 2 ^ 31 := Nat.lt_trans (or_lt (m := 7) hm7 ha7) (by decide)
  obtain ⟨I3, c1, c2, c4⟩ := m_179r (xs := xs) (rf := rf) (g := g) (bm := D.ms a' ||| 2 ^ a') vt hbm hj hc hv.nm (nmk _ F2) b1 k1
  have ec2 : iF (tld T D.N.j D.nj (D.ms a' ||| 2 ^ a')) (ch1 T D s) = ch2 T D s := by
    by_cases z : (ch1 T D s).F = 0
    · rw [ea', if_pos z]; rfl
    · unfold ch2; rw [iF_n z, iF_n z]
  rw [ec2] at c1 c4
  have F3 : mFr I I3 := F2.trans c2
  have e96 : I2 191 (94 + 3 * a' + 2) = nI (D.ms a') := by
    rw [F2 _ _ (by clear c1 c4 ec2; omega) (by clear c1 c4 ec2; omega) (by clear c1 c4 ec2; omega)]; exact hd.ms a' ha7
  have hi96 : 94 + 3 * a' + 2 < 180 := by clear c1 c4 ec2 ec1 ea' hF; omega
  have ent : ∀ d R, kX xs (d + 4) 183 0 [some (.ref 185), none, none, none, none] [] (kmm I J rf g) R = kX xs (d + 4) 183 43 [some (.ref 185), some (.int (nI a')), some (.int (nI (94 + 3 * a' + 2))), none, none] [.int (if (ch2 T D s).F = 0 then nI (chB T D s) else 0)] (kmm I3 J rf g) R := by
    intro d R
    rw [B183_0, kg12_7, kO_s, ek, nI_add1, kp12_7, kO_s, krecv_m ks185, kcond_t, b4', kpush_s, B183_17, kg12_10, kO_s, c8_94, n_3, pk_mul, nI_add, n_2, nI_add, ka191 hi96, kO_s, e96, nI_bit (Nat.lt_trans ha7 (by decide)), nI_or, krecv_m ks185, kcond_t, c4, kpush_s]
    rfl
  by_cases z : (ch2 T D s).F = 0
  · obtain ⟨f1, p1, p2, p3, p4⟩ := ch2_f hF z
    have eA : a' = chA T D s := by rw [ea', if_pos f1]
    have vp := prD_v hv p1 p2 p3 p4
    have hp : D.np ≤ 20 := by
      have e1 : D.np + 1 = cntP (prD D (chA T D s) (chB T D s)).ms := vp.ct
      have e2 := cnt_21 (prD D (chA T D s) (chB T D s)).ms
      exact Nat.le_of_succ_le_succ (Nat.le_trans (Nat.le_of_eq e1) e2)
    have B7 : chB T D s < 7 := Nat.lt_of_lt_of_le p2 hj
    have A7 : chA T D s < 7 := Nat.lt_of_lt_of_le p1 hj
    refine ⟨pairI I3 D (chA T D s) (chB T D s), c1.ik (fun x k _ h2 _ => pairI_f x k h2), fun _ => mDr_pair (hd.fr F3) hj hc A7 B7 p3, (mFa.of F3).trans (fun x k _ _ _ _ q => pairI_g x k q), fun d R => ?_⟩
    rw [ent, if_pos z, B183_43, kg12_8, kO_s, if_pos ((mF0 c1).mpr z), eA, m_183w (hd.fr F3) A7 B7 p3 hp]
  · refine ⟨I3, c1, fun y => absurd y z, mFa.of F3, fun d R => ?_⟩
    rw [ent, B183_43, kg12_8, kO_s, if_neg (fun y => z ((mF0 c1).mp y)), B183_126]
/-- readDeals -/
theorem m_184 (vt : vTp T) (hd : mDr I J D) (h : mPS I J T s) (hk : s.k ≤ nT T) (hF : s.F = 0) (hl : D.lt = 0 → s.ll = 0) : ∃ I', mPS I' J T (dl2 T D s) ∧ ((dl2 T D s).F = 0 → mDr I' J (dlD D)) ∧ mFa I I' ∧ ∀ d R, kX xs (d + 32) 184 0 [some (.ref 185)] [] (kmm I J rf g) R = R none (kmm I' J rf g) := by
  have ek := h.k
  have hn1 := (nT_ok T).1
  have hn2 := vt.n
  have isW : ∀ d R, kX xs d 166 0 [some (.ref 185), some (.int (nI 6))] [] (kmm I J rf g) R = R (some (.int (nI (bN (decide (s.F = 0 ∧ kdO T s = 128 + 6)))))) (kmm I J rf g) := fun d R => sp166 (c := 6) vt (by omega) h hk
  have bad : ∀ c : Nat, 0 < c → c ≤ 5 → ∃ I', mPS I' J T (wrg T c s) ∧ mFr I I' ∧ (∀ d R, kX xs d 164 0 [some (.ref 185), some (.int (nI c))] [] (kmm I J rf g) R = R none (kmm I' J rf g)) ∧ ∀ d R, kX xs d 184 32 [some (.ref 185)] [] (kmm I' J rf g) R = R none (kmm I' J rf g) := by
    intro c c0 c5
    obtain ⟨I1, b1, b2, b4⟩ := m_wrg (xs := xs) (rf := rf) (g := g) (c := c) vt c0 (by omega) h hk
    refine ⟨I1, b1, b2, b4, fun d R => ?_⟩
    rw [B184_32, kg12_8, kO_s, if_pos ((mFp b1).mpr (wrgF c0 hF)), B184_39]
  unfold dl2
  by_cases q : kdO T s = 134
  · rw [if_pos q]
    have hlt : s.k < nT T := kdO_lt hk (by omega)
    have ent : ∀ d R, kX xs (d + 32) 184 0 [some (.ref 185)] [] (kmm I J rf g) R = kX xs (d + 32) 184 17 [some (.ref 185)] [] (kmm I J rf g) R := by
      intro d R
      rw [B184_0, krecv_m ks185, kcond_t, c8_6, isW, kpush_s, B184_6, if_neg (by rw [decide_eq_true ⟨hF, q⟩]; decide)]
    by_cases q2 : D.lt = 0
    · rw [if_pos q2]
      have e93 : I 191 93 = -1 := by rw [hd.lw, if_pos q2]
      have l0 : I 185 13 = nI 0 := by rw [h.l, hl q2]
      obtain ⟨a1, a2⟩ := m_stp h
      have b1 : mPS (ku (ku I 185 7 (nI (s.k + 1))) 191 93 (nI 0)) J T (stp s) := a1.ik (fun x k _ h2 _ => ku_nea h2)
      obtain ⟨I2, c1, c2, c4⟩ := m_law (xs := xs) (J := J) (rf := rf) (g := g) vt _ (stp s) b1 hlt (by show s.ll ≤ s.k + 1; rw [hl q2]; exact Nat.zero_le _) (Nat.le_add_left 1 s.k) hF
      have av := avn_who (avn_par (T := T) 5) (stp s) hlt
      have sl : (stp s).ll = 0 := hl q2
      have wl : (who T (par T 5) (stp s)).ll < 1100 := by
        have e1 := avnL av (by rw [sl]; exact Nat.zero_le _)
        have e2 := av.n
        exact Nat.lt_of_le_of_lt (Nat.le_trans (Nat.le_trans (Nat.le_add_right _ 0) e1) (Nat.le_trans e2 (Nat.le_trans hn1 hn2))) (by decide)
      clear av
      generalize who T (par T 5) (stp s) = W at *
      obtain ⟨I3, d1, d2, d4⟩ := m_emi (xs := xs) (rf := rf) (g := g) (o := 0) (x := 0) c1 wl
      have d4' : ∀ d R, kX xs d 187 0 [some (.ref 185), some (.int 0), some (.int 0)] [] (kmm I2 J rf g) R = R none (kmm I3 J rf g) := d4
      have c4' : ∀ d R, kX xs (d + 31) 188 0 [some (.ref 185), some (.int 0), none] [] (kmm (ku (ku I 185 7 (nI (s.k + 1))) 191 93 (nI 0)) J rf g) R = R none (kmm I2 J rf g) := c4
      refine ⟨I3, d1, fun _ => ?_, (mFa.of a2).trans (mFa.trans (fun x k _ _ _ _ p => ku_ne (by omega)) ((mFa.of c2).trans (mFa.of d2))), fun d R => ?_⟩
      · have h1 := hd.fr a2
        have F : mFr (ku (ku I 185 7 (nI (s.k + 1))) 191 93 (nI 0)) I3 := c2.trans d2
        refine mDr.fr (I := ku (ku I 185 7 (nI (s.k + 1))) 191 93 (nI 0)) ?_ F
        obtain ⟨nm, no, hN⟩ := h1.nm
        exact ⟨by rw [ku_nek (by omega)]; exact h1.nj, by rw [ku_nek (by omega)]; exact h1.nc, by rw [ku_nek (by omega)]; exact h1.np, by rw [ku_same]; rfl, fun k hk => by rw [ku_nek (by omega)]; exact h1.kd k hk, fun k hk => by rw [ku_nek (by omega)]; exact h1.ln k hk, fun k hk => by rw [ku_nek (by omega)]; exact h1.ms k hk, fun k hk => by rw [ku_nek (by omega)]; exact h1.gu k hk, fun k hk => by rw [ku_nek (by omega)]; exact h1.up k hk, fun k hk => by rw [ku_nek (by omega)]; exact h1.pa k hk, fun k hk => by rw [ku_nek (by omega)]; exact h1.pb k hk, nm, no, by rw [ku_nea (by omega)]; exact hN.m, hN.l, hN.n, fun k hk => by rw [ku_nea (by omega)]; exact hN.o k hk⟩
      · rw [ent, B184_17, kg12_10, kO_s, c8_93, ka191 (by omega), kO_s, e93, if_pos (by decide), B184_32, kg12_8, kO_s, if_neg (fun z => ((mFp h).mp z) hF), B184_40, kg12_7, kO_s, ek, nI_add1, kp12_7, kO_s, kg12_10, kO_s, kg12_13, kO_s, ku_nek (show 13 ≠ 7 by omega), l0, c8_93, kw191 (by omega), kO_s, krecv_m ks185, kcond_t, c4', kpush_n, B184_66, krecv_m ks185, kcond_t, d4', kpush_n, B184_72]
    · rw [if_neg q2]
      have e93 : I 191 93 = nI 0 := by rw [hd.lw, if_neg q2]
      obtain ⟨I1, b1, b2, b4, b5⟩ := bad 3 (by omega) (by omega)
      have b4' : ∀ d R, kX xs d 164 0 [some (.ref 185), some (.int 3)] [] (kmm I J rf g) R = R none (kmm I1 J rf g) := b4
      refine ⟨I1, b1, fun z => absurd z (wrgF (by decide) hF), mFa.of b2, fun d R => ?_⟩
      rw [ent, B184_17, kg12_10, kO_s, c8_93, ka191 (by omega), kO_s, e93, if_neg (by decide), B184_27, krecv_m ks185, kcond_t, b4', kpush_n, b5]
  · rw [if_neg q]
    obtain ⟨I1, b1, b2, b4, b5⟩ := bad 1 (by omega) (by omega)
    have b4' : ∀ d R, kX xs d 164 0 [some (.ref 185), some (.int 1)] [] (kmm I J rf g) R = R none (kmm I1 J rf g) := b4
    refine ⟨I1, b1, fun z => absurd z (wrgF (by decide) hF), mFa.of b2, fun d R => ?_⟩
    rw [B184_0, krecv_m ks185, kcond_t, c8_6, isW, kpush_s, B184_6, if_pos (by rw [decide_eq_false (fun z => q z.2)]; rfl), B184_9, krecv_m ks185, kcond_t, b4', kpush_n, B184_14, b5]
end MP
