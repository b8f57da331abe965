/-! days go by at the model's side -/
/-- the place of a case on a day; none -/
def pl (r : aRl) (s : aSt) (day c : Nat) : Int32 := if s.up c = day ∧ hC s.up day r.nj c < r.nj then nI (hC s.up day r.nj c) else -1
/-- bits of cases -/
def bw (h : Nat → Nat) : Nat → Int32
  | 0 => nI 0
  | n + 1 => bw h n ||| (1 <<< (nI (h n) &&& 31))
/-- what a day's going by leaves alone, b being the state's place -/
abbrev mF (b : Nat) (I I' : Nat → Nat → Int32) : Prop := ∀ x k, x ≠ 199 → x ≠ 200 → x ≠ 203 → x ≠ 204 → ¬ (x = 185 ∧ k = 28) → ¬ (x = 201 ∧ b ≤ k ∧ k < b + 30) → I' x k = I x k
section MPASS
variable {xs : List Int32} {d : Nat} {I I' : Nat → Nat → Int32} {J : Nat → Nat → Int64} {rf : Nat → Nat} {g : Nat} {R : Option Value → KW → Prop} {r : aRl} {s : aSt} {w : KW} {b : Nat}
/-- placeOf -/
theorem sp213 (vr : vRl r) {day : Nat} (hd : mDay I r s day) {c : Nat} (hc : c < r.nc) : kX xs d 213 0 [some (.ref 185), some (.int (nI c)), none, none] [] (kmm I J rf g) R = R (some (.int (pl r s day c))) (kmm I J rf g) := by
  have hm7 := dM7 vr s day
  have hc7 := vr.c
  have hle := dM_le r s day
  have L := kchain (n := dM r s day) (fun t => kX xs d 213 4 [some (.ref 185), some (.int (nI c)), some (.int (if (s.up c = day ∧ hC s.up day r.nj c < r.nj) ∧ hC s.up day r.nj c < t then nI (hC s.up day r.nj c) else -1)), some (.int (nI t))] [] (kmm I J rf g) R) (by
    intro t ht
    have hh := hd.h t ht
    obtain ⟨a1, a2, a3⟩ := hH_at s.up day r.nj r.nc t ht
    have hcc : dH r s day t < 7 := by unfold dH; omega
    show kX xs d 213 4 _ _ _ _ = kX xs d 213 4 _ _ _ _
    rw [B213_4, kg12_28, kO_s, hd.m, if_pos (nI_lt ht (by omega)), B213_12, kg12_26, kO_s, ka203 (by omega), kO_s, hh]
    by_cases hq : dH r s day t = c
    · have hq' : hH s.up day r.nj r.nc t = c := hq
      rw [hq'] at a2 a3
      have hlt : hC s.up day r.nj c < r.nj := by omega
      rw [if_pos (congrArg nI hq), B213_22, B213_27, if_pos (show (s.up c = day ∧ hC s.up day r.nj c < r.nj) ∧ hC s.up day r.nj c < t + 1 from ⟨⟨a2, hlt⟩, by omega⟩), a3, nI_add1]
    · rw [if_neg (by rw [nI_inj (by omega) (by omega)]; exact hq), B213_26, B213_27, nI_add1]
      by_cases hp : s.up c = day ∧ hC s.up day r.nj c < r.nj
      · have ho := hH_of s.up day r.nj hp.1 hp.2 r.nc hc
        have hne : hC s.up day r.nj c ≠ t := fun e => hq (by have := ho.2; rw [e] at this; exact this)
        by_cases hlt : hC s.up day r.nj c < t
        · rw [if_pos ⟨hp, hlt⟩, if_pos ⟨hp, by omega⟩]
        · rw [if_neg (fun q => hlt q.2), if_neg (fun q => by omega)]
      · rw [if_neg (fun q => hp q.1), if_neg (fun q => hp q.1)])
  rw [B213_0]
  refine Eq.trans ?_ (Eq.trans L ?_)
  · show _ = kX xs d 213 4 _ _ _ _
    rw [if_neg (fun q => by omega), n_0]
  · show kX xs d 213 4 _ _ _ _ = _
    rw [B213_4, kg12_28, kO_s, hd.m, if_neg (nI_nlt (Nat.le_refl _) (by omega)), B213_34]
    unfold pl
    by_cases hp : s.up c = day ∧ hC s.up day r.nj c < r.nj
    · have ho := hH_of s.up day r.nj hp.1 hp.2 r.nc hc
      rw [if_pos ⟨hp, ho.1⟩, if_pos hp]
    · rw [if_neg (fun q => hp q.1), if_neg hp]
/-- verdictOf -/
theorem sp214 (hb : b ≤ 1235) (vr : vRl r) (vs : vSt r s) (hr : mRl I r) (hs : mSt I b r s) {day : Nat} (hd : mDay I r s day) {k : Nat} (hk : k < dM r s day) : kX xs (d + 2) 214 0 [some (.ref 185), some (.int (nI b)), some (.int (nI k))] [] (kmm I J rf g) R = R (some (.int (nI (dA r s day k)))) (kmm I J rf g) := by
  have hm7 := dM7 vr s day
  have hle := dM_le r s day
  have hj7 := vr.j
  have hch := vs.cj k (by omega)
  have e1 := hs.ch k (by omega)
  have e2 := hd.h k hk
  have hh := (dH7 vr hk).1
  have h209 : ∀ R, kX xs (d + 1) 209 0 [some (.ref 185), some (.int (nI b)), some (.int (nI (s.ch k))), some (.int (nI (dH r s day k))), none, none] [] (kmm I J rf g) R = _ := fun R => sp209 hb vr hr hs hch hh (vs.ln _ (by omega))
  rw [B214_0, c8_16, kg12_23, kO_s, nI_add, nI_add, ka201 (by omega), kO_s, e1, kg12_26, kO_s, ka203 (by omega), kO_s, e2, krecv_m ks185, kcond_t, h209, kpush_s, B214_22]
  rfl
/-- passes -/
theorem sp215 (hb : b ≤ 1235) (vr : vRl r) (vs : vSt r s) (hr : mRl I r) (hs : mSt I b r s) : ∃ I', mSt I' b r (pass r s) ∧ mF b I I' ∧ ∀ d R, kX xs (d + 3) 215 0 [some (.ref 185), some (.int (nI b)), none, none, none, none] [] (kmm I J rf g) R = R (some (.int (bw (dH r s s.nx) (dM r s s.nx)))) (kmm I' J rf g) := by
  have hnx := vs.nx
  have hm7 := dM7 vr s s.nx
  obtain ⟨I1, d1, s1, f1, e1⟩ := sp212 (xs := xs) (J := J) (rf := rf) (g := g) hb vr vs hr hs
  have L : ∃ I2, ((∀ x k, ¬ (x = 201 ∧ b + 2 ≤ k ∧ k < b + 9) → I2 x k = I1 x k) ∧ ∀ t, t < 7 → I2 201 (b + 2 + t) = nI (hF s.hd (dH r s s.nx) (fun p => dA r s s.nx (dS r s p)) (dM r s s.nx) t)) ∧ (fun (d : Nat) (R : Option Value → KW → Prop) => kX xs (d + 3) 215 17 [some (.ref 185), some (.int (nI b)), some (.int (bw (dH r s s.nx) 0)), some (.int (nI 0)), none, none] [] (kmm I1 J rf g) R) = (fun d R => kX xs (d + 3) 215 17 [some (.ref 185), some (.int (nI b)), some (.int (bw (dH r s s.nx) (dM r s s.nx))), some (.int (nI (dM r s s.nx))), none, none] [] (kmm I2 J rf g) R) := by
    refine kloop (n := dM r s s.nx) (s0 := I1) (fun i I2 => (∀ x k, ¬ (x = 201 ∧ b + 2 ≤ k ∧ k < b + 9) → I2 x k = I1 x k) ∧ ∀ t, t < 7 → I2 201 (b + 2 + t) = nI (hF s.hd (dH r s s.nx) (fun p => dA r s s.nx (dS r s p)) i t)) (fun i I2 => fun (d : Nat) (R : Option Value → KW → Prop) => kX xs (d + 3) 215 17 [some (.ref 185), some (.int (nI b)), some (.int (bw (dH r s s.nx) i)), some (.int (nI i)), none, none] [] (kmm I2 J rf g) R) ⟨fun _ _ _ => rfl, fun t ht => by rw [f1 _ _ (by omega) (by omega) (by omega) (by omega) (by omega), hs.hd t ht]; rfl⟩ ?_
    intro i I2 hi ⟨g1, g2⟩
    obtain ⟨q1, q2⟩ := dH7 vr hi
    have q3 := dS_lt (r := r) (s := s) hi
    have q4 := hF_le (h := dH r s s.nx) (A := fun p => dA r s s.nx (dS r s p)) vs.hd i _ q2
    have q5 := dA_le r s s.nx (dS r s i)
    have hr2 : mRl I2 r := hr.keep (fun x k h1 h2 => by rw [g1 _ _ (by omega), f1 _ _ (by omega) (by omega) (by omega) (by omega) (by omega)])
    have hd2 : mDay I2 r s s.nx := ⟨by rw [g1 _ _ (by omega), d1.m], fun p hp => by rw [g1 _ _ (by omega), d1.h p hp]⟩
    have hso : I2 204 i = nI (dS r s i) := by rw [g1 _ _ (by omega), s1 i hi]
    have hhi : I2 203 i = nI (dH r s s.nx i) := hd2.h i hi
    -- the judge's leaning and chair are as they were, so his verdict is
    have h214 : ∀ d R, kX xs (d + 2) 214 0 [some (.ref 185), some (.int (nI b)), some (.int (nI (dS r s i)))] [] (kmm I2 J rf g) R = R (some (.int (nI (dA r s s.nx (dS r s i))))) (kmm I2 J rf g) := by
      intro d R
      have hj7 := vr.j
      have hle := dM_le r s s.nx
      have hch := vs.cj (dS r s i) (by omega)
      have e1 : I2 201 (b + 16 + dS r s i) = nI (s.ch (dS r s i)) := by rw [g1 _ _ (by omega), f1 _ _ (by omega) (by omega) (by omega) (by omega) (by omega), hs.ch _ (by omega)]
      have e2 := hd2.h (dS r s i) q3
      have hh := (dH7 vr q3).1
      have hs3 : mSt I2 b r (aSt.mk s.nx s.rd (hF s.hd (dH r s s.nx) (fun p => dA r s s.nx (dS r s p)) i) s.up s.ln s.ch) := by
        refine ⟨?_, ?_, fun k hk => g2 k hk, fun k hk => ?_, fun k hk => ?_, fun k hk => ?_⟩
        · rw [g1 _ _ (by omega), f1 _ _ (by omega) (by omega) (by omega) (by omega) (by omega), hs.nx]; rfl
        · rw [g1 _ _ (by omega), f1 _ _ (by omega) (by omega) (by omega) (by omega) (by omega), hs.rd]; rfl
        · rw [g1 _ _ (by omega), f1 _ _ (by omega) (by omega) (by omega) (by omega) (by omega), hs.ln k hk]; rfl
        · rw [g1 _ _ (by omega), f1 _ _ (by omega) (by omega) (by omega) (by omega) (by omega), hs.ch k hk]; rfl
        · rw [g1 _ _ (by omega), f1 _ _ (by omega) (by omega) (by omega) (by omega) (by omega), hs.up k hk]; rfl
      have h209 : ∀ R, kX xs (d + 1) 209 0 [some (.ref 185), some (.int (nI b)), some (.int (nI (s.ch (dS r s i)))), some (.int (nI (dH r s s.nx (dS r s i)))), none, none] [] (kmm I2 J rf g) R = _ := fun R => sp209 hb vr hr2 hs3 hch hh (vs.ln _ (by omega))
      rw [B214_0, c8_16, kg12_23, kO_s, nI_add, nI_add, ka201 (by omega), kO_s, e1, kg12_26, kO_s, ka203 (by omega), kO_s, e2, krecv_m ks185, kcond_t, h209, kpush_s, B214_22]
      rfl
    refine ⟨ku I2 201 (b + 2 + dH r s s.nx i) (nI (min (hF s.hd (dH r s s.nx) (fun p => dA r s s.nx (dS r s p)) i (dH r s s.nx i) + dA r s s.nx (dS r s i)) 9999)), ⟨fun x k hx => by rw [ku_ne (by omega), g1 x k hx], fun t ht => ?_⟩, ?_⟩
    · rw [hF]
      by_cases he : t = dH r s s.nx i
      · rw [he, ku_same, ku1_s]
      · rw [ku_nek (by omega), ku1_n he, g2 t ht]
    · funext d R
      have e3 := g2 _ q2
      generalize hF s.hd (dH r s s.nx) (fun p => dA r s s.nx (dS r s p)) i (dH r s s.nx i) = h0 at q4 e3
      rw [B215_17, kg12_28, kO_s, hd2.m, if_pos (nI_lt hi (by omega)), B215_25, kg12_26, kO_s, ka203 (by omega), kO_s, hhi, kg12_23, kO_s, n_2, nI_add, nI_add, ka201 (by omega), kO_s, e3, kg12_27, kO_s, ka204 (by omega), kO_s, hso, krecv_m ks185, kcond_t, h214, kpush_s, B215_55, kg12_23, kO_s, c16_9999, nI_add, bw]
      have k203 : ∀ v, ku I2 201 (b + 2 + dH r s s.nx i) v 203 i = nI (dH r s s.nx i) := fun v => by rw [ku_nea (by omega), hhi]
      by_cases hg : 9999 < h0 + dA r s s.nx (dS r s i)
      · rw [if_pos (nI_lt hg (by omega)), B215_72, B215_80, kw201 (by omega), kO_s, kg12_26, kO_s, ka203 (by omega), kO_s, k203, c16_9999, Nat.min_eq_right (by omega), nI_add1]
      · rw [if_neg (nI_nlt (by omega) (by omega)), B215_78, B215_80, kw201 (by omega), kO_s, kg12_26, kO_s, ka203 (by omega), kO_s, k203, Nat.min_eq_left (by omega), nI_add1]
  obtain ⟨I2, ⟨g1, g2⟩, e2⟩ := L
  have x0 : I2 201 b = nI s.nx := by rw [g1 _ _ (by omega), f1 _ _ (by omega) (by omega) (by omega) (by omega) (by omega), hs.nx]
  have x1 : I2 201 (b + 1) = s.rd := by rw [g1 _ _ (by omega), f1 _ _ (by omega) (by omega) (by omega) (by omega) (by omega), hs.rd]
  refine ⟨ku (ku I2 201 b (nI ((s.nx + 1) % 4))) 201 (b + 1) (if s.nx = 3 then s.rd + 1 else s.rd), ⟨?_, ?_, fun k hk => ?_, fun k hk => ?_, fun k hk => ?_, fun k hk => ?_⟩, ?_, fun d R => ?_⟩
  · rw [ku_nek (by omega), ku_same]; rfl
  · rw [ku_same]; rfl
  · rw [ku_nek (by omega), ku_nek (by omega), g2 k hk]; rfl
  · rw [ku_nek (by omega), ku_nek (by omega), g1 _ _ (by omega), f1 _ _ (by omega) (by omega) (by omega) (by omega) (by omega), hs.ln k hk]; rfl
  · rw [ku_nek (by omega), ku_nek (by omega), g1 _ _ (by omega), f1 _ _ (by omega) (by omega) (by omega) (by omega) (by omega), hs.ch k hk]; rfl
  · rw [ku_nek (by omega), ku_nek (by omega), g1 _ _ (by omega), f1 _ _ (by omega) (by omega) (by omega) (by omega) (by omega), hs.up k hk]; rfl
  · intro x k h1 h2 h3 h4 h5 h6
    rw [ku_ne (by omega), ku_ne (by omega), g1 x k (by omega), f1 x k h1 h2 h3 h4 h5]
  · have hmm : I2 185 28 = nI (dM r s s.nx) := by rw [g1 _ _ (by omega), d1.m]
    have e2' := congrFun (congrFun e2 d) R
    have b0 : bw (dH r s s.nx) 0 = nI 0 := rfl
    rw [b0] at e2'
    have y0 : ∀ v, ku I2 201 b v 201 (b + 1) = s.rd := fun v => by rw [ku_nek (by omega), x1]
    rw [B215_0, kg12_23, kO_s, n_0, nI_add, Nat.add_zero, ka201 (by omega), kO_s, hs.nx, krecv_m ks185, kcond_t, e1, kpush_n, B215_13, n_0, e2', B215_17, kg12_28, kO_s, hmm, if_neg (nI_nlt (Nat.le_refl _) (by omega)), B215_98]
    by_cases h3 : s.nx = 3
    · rw [if_pos h3]
      have hz : (s.nx + 1) % 4 = 0 := by omega
      simp (disch := omega) only [B215_13, B215_25, B215_55, B215_72, B215_78, B215_80, B215_98, B215_138, B215_142, B215_143, kO_s, kcond_t, kpush_s, kpush_n, nI_add, nI_add1, pk_mul, n_0, n_2, n_3, n_4, n_5, if_true, if_false, Nat.add_zero, krecv_m ks185, kg12_0, kp12_0, kg12_1, kg12_2, kp12_2, kg12_3, kp12_3, kg12_4, kg12_5, kg12_6, kg12_7, kp12_7, kg12_8, kp12_8, kg12_9, kg12_10, kg12_11, kg12_12, kg12_13, kp12_13, kg12_14, kg12_15, kg12_16, kg12_17, kg12_18, kp12_18, kg12_19, kp12_19, kg12_20, kg12_21, kg12_22, kg12_23, kg12_24, kp12_24, kg12_25, kg12_26, kg12_27, kg12_28, kp12_28, kg12_29, kg12_30, kg12_31, kg12_32, kp12_32, kg12_33, kp12_33, ka186, kw186, ka187, kw187, ka188, kw188, kj189, kk189, kj190, kk190, ka191, kw191, ka192, kw192, ka193, kw193, kj194, kk194, kj195, kk195, ka196, kw196, ka197, kw197, ka198, kw198, ka199, kw199, ka200, kw200, ka201, kw201, kb202, kv202, ka203, kw203, ka204, kw204, ka205, kw205, ka206, kw206, ka207, kw207, kj208, kk208, c8_m17, c8_m16, c8_m15, c8_m14, c8_m13, c8_m12, c8_m11, c8_m10, c8_m2, c8_6, c8_7, c8_8, c8_9, c8_10, c8_11, c8_12, c8_13, c8_14, c8_15, c8_16, c8_17, c8_18, c8_19, c8_20, c8_21, c8_22, c8_23, c8_25, c8_30, c8_31, c8_32, c8_39, c8_40, c8_41, c8_42, c8_43, c8_45, c8_48, c8_55, c8_56, c8_57, c8_59, c8_60, c8_61, c8_63, c8_70, c8_90, c8_91, c8_92, c8_93, c8_94, c8_96, c8_97, c8_99, c8_115, c8_122, c8_125, c8_126, c8_127, c16_128, c16_129, c16_131, c16_132, c16_135, c16_136, c16_137, c16_138, c16_139, c16_142, c16_143, c16_144, c16_145, c16_146, c16_149, c16_180, c16_250, c16_255, c16_1000, c16_1002, c16_1100, c16_1155, c16_1157, c16_1164, c16_1178, c16_1210, c16_1212, c16_1219, c16_1233, c16_1265, c16_2200, c16_4095, c16_4096, c16_9999, c16_12345, ku_same, ku_nea, ku_nek, x0, x1, pk_rem, nI40, hz]
    · rw [if_neg h3]
      have hz : ¬ (s.nx + 1) % 4 = 0 := by omega
      simp (disch := omega) only [B215_13, B215_25, B215_55, B215_72, B215_78, B215_80, B215_98, B215_138, B215_142, B215_143, kO_s, kcond_t, kpush_s, kpush_n, nI_add, nI_add1, pk_mul, n_0, n_2, n_3, n_4, n_5, if_true, if_false, Nat.add_zero, krecv_m ks185, kg12_0, kp12_0, kg12_1, kg12_2, kp12_2, kg12_3, kp12_3, kg12_4, kg12_5, kg12_6, kg12_7, kp12_7, kg12_8, kp12_8, kg12_9, kg12_10, kg12_11, kg12_12, kg12_13, kp12_13, kg12_14, kg12_15, kg12_16, kg12_17, kg12_18, kp12_18, kg12_19, kp12_19, kg12_20, kg12_21, kg12_22, kg12_23, kg12_24, kp12_24, kg12_25, kg12_26, kg12_27, kg12_28, kp12_28, kg12_29, kg12_30, kg12_31, kg12_32, kp12_32, kg12_33, kp12_33, ka186, kw186, ka187, kw187, ka188, kw188, kj189, kk189, kj190, kk190, ka191, kw191, ka192, kw192, ka193, kw193, kj194, kk194, kj195, kk195, ka196, kw196, ka197, kw197, ka198, kw198, ka199, kw199, ka200, kw200, ka201, kw201, kb202, kv202, ka203, kw203, ka204, kw204, ka205, kw205, ka206, kw206, ka207, kw207, kj208, kk208, c8_m17, c8_m16, c8_m15, c8_m14, c8_m13, c8_m12, c8_m11, c8_m10, c8_m2, c8_6, c8_7, c8_8, c8_9, c8_10, c8_11, c8_12, c8_13, c8_14, c8_15, c8_16, c8_17, c8_18, c8_19, c8_20, c8_21, c8_22, c8_23, c8_25, c8_30, c8_31, c8_32, c8_39, c8_40, c8_41, c8_42, c8_43, c8_45, c8_48, c8_55, c8_56, c8_57, c8_59, c8_60, c8_61, c8_63, c8_70, c8_90, c8_91, c8_92, c8_93, c8_94, c8_96, c8_97, c8_99, c8_115, c8_122, c8_125, c8_126, c8_127, c16_128, c16_129, c16_131, c16_132, c16_135, c16_136, c16_137, c16_138, c16_139, c16_142, c16_143, c16_144, c16_145, c16_146, c16_149, c16_180, c16_250, c16_255, c16_1000, c16_1002, c16_1100, c16_1155, c16_1157, c16_1164, c16_1178, c16_1210, c16_1212, c16_1219, c16_1233, c16_1265, c16_2200, c16_4095, c16_4096, c16_9999, c16_12345, ku_same, ku_nea, ku_nek, nI_inj, nI_lt_eq, nI_eq1, Nat.reduceEqDiff, x0, x1, pk_rem, nI40, hz, add_n0]
/-- copies -/
theorem sp195 {fr to n : Nat} (h1 : fr + n ≤ 1265) (h2 : to + n ≤ 1265) (ha : fr + n ≤ to ∨ to + n ≤ fr) : ∃ I', (∀ i, i < n → I' 201 (to + i) = I 201 (fr + i)) ∧ (∀ x k, ¬ (x = 201 ∧ to ≤ k ∧ k < to + n) → I' x k = I x k) ∧ ∀ d R, kX xs d 195 0 [some (.ref 185), some (.int (nI fr)), some (.int (nI to)), some (.int (nI n)), none] [] (kmm I J rf g) R = R none (kmm I' J rf g) := by
  have L : ∃ I2, ((∀ i, i < n → I2 201 (to + i) = I 201 (fr + i)) ∧ ∀ x k, ¬ (x = 201 ∧ to ≤ k ∧ k < to + n) → I2 x k = I x k) ∧ (fun (d : Nat) (R : Option Value → KW → Prop) => kX xs d 195 3 [some (.ref 185), some (.int (nI fr)), some (.int (nI to)), some (.int (nI n)), some (.int (nI 0))] [] (kmm I J rf g) R) = (fun d R => kX xs d 195 3 [some (.ref 185), some (.int (nI fr)), some (.int (nI to)), some (.int (nI n)), some (.int (nI n))] [] (kmm I2 J rf g) R) := by
    refine kloop (n := n) (s0 := I) (fun i I2 => (∀ j, j < i → I2 201 (to + j) = I 201 (fr + j)) ∧ ∀ x k, ¬ (x = 201 ∧ to ≤ k ∧ k < to + i) → I2 x k = I x k) (fun i I2 => fun (d : Nat) (R : Option Value → KW → Prop) => kX xs d 195 3 [some (.ref 185), some (.int (nI fr)), some (.int (nI to)), some (.int (nI n)), some (.int (nI i))] [] (kmm I2 J rf g) R) ⟨fun _ hj => absurd hj (by omega), fun _ _ _ => rfl⟩ ?_
    intro i I2 hi ⟨g1, g2⟩
    refine ⟨ku I2 201 (to + i) (I2 201 (fr + i)), ⟨fun j hj => ?_, fun x k hx => by rw [ku_ne (by omega), g2 x k (by omega)]⟩, ?_⟩
    · by_cases he : j = i
      · rw [he, ku_same, g2 _ _ (by omega)]
      · rw [ku_nek (by omega), g1 j (by omega)]
    · funext d R
      rw [B195_3, if_pos (nI_lt hi (by omega)), B195_9, kg12_23, kO_s, kO_s, nI_add, ka201 (by omega), kO_s, nI_add, kw201 (by omega), kO_s, nI_add1]
  obtain ⟨I2, ⟨g1, g2⟩, e2⟩ := L
  refine ⟨I2, g1, g2, fun d R => ?_⟩
  have e2' := congrFun (congrFun e2 d) R
  rw [B195_0, n_0]
  refine Eq.trans e2' ?_
  rw [B195_3, if_neg (nI_nlt (Nat.le_refl _) (by omega)), B195_33]
theorem mSt.copy {fr to : Nat} (vr : vRl r) (h : mSt I fr r s) (hI : ∀ i, i < 30 → I' 201 (to + i) = I 201 (fr + i)) : mSt I' to r s := by
  have hj := vr.j
  have hc := vr.c
  refine ⟨by have := hI 0 (by omega); rw [Nat.add_zero, Nat.add_zero] at this; rw [this, h.nx], by rw [hI 1 (by omega), h.rd], fun k hk => ?_, fun k hk => ?_, fun k hk => ?_, fun k hk => ?_⟩
  · rw [show to + 2 + k = to + (2 + k) by omega, hI _ (by omega), show fr + (2 + k) = fr + 2 + k by omega, h.hd k hk]
  · rw [show to + 9 + k = to + (9 + k) by omega, hI _ (by omega), show fr + (9 + k) = fr + 9 + k by omega, h.ln k hk]
  · rw [show to + 16 + k = to + (16 + k) by omega, hI _ (by omega), show fr + (16 + k) = fr + 16 + k by omega, h.ch k hk]
  · rw [show to + 23 + k = to + (23 + k) by omega, hI _ (by omega), show fr + (23 + k) = fr + 23 + k by omega, h.up k hk]
/-- triesNow -/
theorem sp217 (vr : vRl r) (hs : mSt I 0 r s) : ∃ I', mSt I' 1155 r s ∧ (∀ x k, ¬ (x = 201 ∧ 1155 ≤ k ∧ k < 1185) → I' x k = I x k) ∧ ∀ d R, kX xs (d + 1) 217 0 [some (.ref 185)] [] (kmm I J rf g) R = R none (kmm I' J rf g) := by
  obtain ⟨I', h1, h2, h3⟩ := sp195 (xs := xs) (J := J) (rf := rf) (g := g) (I := I) (fr := 0) (to := 1155) (n := 30) (by omega) (by omega) (by omega)
  refine ⟨I', hs.copy vr h1, fun x k hx => h2 x k (by omega), fun d R => ?_⟩
  rw [B217_0, krecv_m ks185, kcond_t, n_0, c16_1155, c8_30, h3, kpush_n, B217_10]
/-- nextTime -/
theorem sp216 (vr : vRl r) (vs : vSt r s) (hr : mRl I r) (hs : mSt I 1155 r s) {day : Nat} (hd : day < 4) : ∃ I', mSt I' 1155 r (nxt r s day) ∧ mDay I' r (nxt r s day) day ∧ (∀ p, p < dM r (nxt r s day) day → I' 204 p = nI (dS r (nxt r s day) p)) ∧ mF 1155 I I' ∧ ∀ d R, kX xs (d + 4) 216 0 [some (.ref 185), some (.int (nI day))] [] (kmm I J rf g) R = R none (kmm I' J rf g) := by
  have hnx := vs.nx
  have L : ∃ I2, (mSt I2 1155 r (nxt r s day) ∧ mF 1155 I I2) ∧ (fun (d : Nat) (R : Option Value → KW → Prop) => kX xs (d + 4) 216 0 [some (.ref 185), some (.int (nI day))] [] (kmm I J rf g) R) = (fun d R => kX xs (d + 4) 216 0 [some (.ref 185), some (.int (nI day))] [] (kmm I2 J rf g) R) := by
    refine kloop (n := (day + 4 - s.nx) % 4) (s0 := I) (fun i I2 => mSt I2 1155 r (adv r s i) ∧ mF 1155 I I2) (fun _ I2 => fun (d : Nat) (R : Option Value → KW → Prop) => kX xs (d + 4) 216 0 [some (.ref 185), some (.int (nI day))] [] (kmm I2 J rf g) R) ⟨hs, fun _ _ _ _ _ _ _ _ => rfl⟩ ?_
    intro i I2 hi ⟨g1, g2⟩
    have hr2 : mRl I2 r := hr.keep (fun x k h1 h2 => g2 x k (by omega) (by omega) (by omega) (by omega) (by omega) (by omega))
    obtain ⟨I3, q1, q2, q3⟩ := sp215 (xs := xs) (J := J) (rf := rf) (g := g) (show 1155 ≤ 1235 by omega) vr (adv_v vr vs i) hr2 g1
    refine ⟨I3, ⟨q1, fun x k h1 h2 h3 h4 h5 h6 => by rw [q2 x k h1 h2 h3 h4 h5 h6, g2 x k h1 h2 h3 h4 h5 h6]⟩, ?_⟩
    funext d R
    have hne : ¬ nI (adv r s i).nx = nI day := by
      have := adv_nx (r := r) hnx i
      rw [nI_inj (by omega) (by omega)]
      omega
    rw [B216_0, kg12_23, kO_s, c16_1155, ka201 (by omega), kO_s, g1.nx, if_neg hne, B216_12, krecv_m ks185, kcond_t, c16_1155, q3, kpush_s, B216_19]
  obtain ⟨I2, ⟨g1, g2⟩, e⟩ := L
  have hr2 : mRl I2 r := hr.keep (fun x k h1 h2 => g2 x k (by omega) (by omega) (by omega) (by omega) (by omega) (by omega))
  obtain ⟨I3, d1, s1, f1, e1⟩ := sp212 (xs := xs) (J := J) (rf := rf) (g := g) (show 1155 ≤ 1235 by omega) vr (nxt_v (day := day) vr vs) hr2 g1
  have hn := nxt_nx (r := r) hnx hd
  rw [hn] at d1 s1
  refine ⟨I3, g1.keep vr (fun k h1 h2 => f1 _ _ (by omega) (by omega) (by omega) (by omega) (by omega)), d1, s1, fun x k h1 h2 h3 h4 h5 h6 => by rw [f1 x k h1 h2 h3 h4 h5, g2 x k h1 h2 h3 h4 h5 h6], fun d R => ?_⟩
  have e' := congrFun (congrFun e d) R
  refine Eq.trans e' ?_
  have hx := g1.nx
  rw [hn] at hx e1
  rw [B216_0, kg12_23, kO_s, c16_1155, ka201 (by omega), kO_s, hx, if_pos rfl, B216_23, krecv_m ks185, kcond_t, c16_1155, e1, kpush_n, B216_31]
end MPASS
