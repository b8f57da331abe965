/-! starts, begins, judged at the model's side -/
def mu (b : Bool) (x : Int32) (i : Nat) : Int32 := if x = -1 ∧ b = true then nI i else x
theorem mu_t {x : Int32} (h : x = -1) (i : Nat) : mu true x i = nI i := if_pos ⟨h, rfl⟩
theorem mu_f (x : Int32) (i : Nat) : mu false x i = x := if_neg (fun t => absurd t.2 (by decide))
theorem mu_n {x : Int32} (h : ¬ x = -1) (b : Bool) (i : Nat) : mu b x i = x := if_neg (fun t => h t.1)
section MJD
variable {xs : List Int32} {d : Nat} {I I' I2 : Nat → Nat → Int32} {J : Nat → Nat → Int64} {rf : Nat → Nat} {g : Nat} {R : Option Value → KW → Prop} {r : aRl} {s u bg : aSt} {w : KW} {l : aLn} {b np : Nat} {pa pb : Nat → Nat}
theorem mBg.keep (h : mBg I r bg np pa pb) (hI : ∀ k, I' 191 k = I 191 k) : mBg I' r bg np pa pb :=
  ⟨by rw [hI, h.n], h.nl, fun k hk => by rw [hI, h.a k hk], fun k hk => by rw [hI, h.b k hk], h.al, h.bl, fun k hk => by rw [hI, h.ln k hk], fun k hk => by rw [hI, h.up k hk], h.nx, h.rd, h.hd, h.ch⟩
/-- starts -/
theorem sp196 (hb : b ≤ 1235) (vr : vRl r) (vb : vSt r bg) (hr : mRl I r) (hg : mBg I r bg np pa pb) : ∃ I', mSt I' b r bg ∧ (∀ x k, ¬ (x = 201 ∧ b ≤ k ∧ k < b + 30) → I' x k = I x k) ∧ ∀ d R, kX xs (d + 2) 196 0 [some (.ref 185), some (.int (nI b)), none] [] (kmm I J rf g) R = R none (kmm I' J rf g) := by
  have hj7 := vr.j
  have hc7 := vr.c
  have np21 := hg.nl
  -- all is nothing
  have L1 : ∃ I2, ((∀ k, k < 30 → I2 201 (b + k) = nI 0) ∧ ∀ x k, ¬ (x = 201 ∧ b ≤ k ∧ k < b + 30) → I2 x k = I x k) ∧ (fun (d : Nat) (R : Option Value → KW → Prop) => kX xs (d + 2) 196 2 [some (.ref 185), some (.int (nI b)), some (.int (nI 0))] [] (kmm I J rf g) R) = (fun d R => kX xs (d + 2) 196 2 [some (.ref 185), some (.int (nI b)), some (.int (nI 30))] [] (kmm I2 J rf g) R) := by
    refine kloop (n := 30) (s0 := I) (fun i I2 => (∀ k, k < i → I2 201 (b + k) = nI 0) ∧ ∀ x k, ¬ (x = 201 ∧ b ≤ k ∧ k < b + 30) → I2 x k = I x k) (fun i I2 => fun (d : Nat) (R : Option Value → KW → Prop) => kX xs (d + 2) 196 2 [some (.ref 185), some (.int (nI b)), some (.int (nI i))] [] (kmm I2 J rf g) R) ⟨fun k hk => by omega, fun _ _ _ => rfl⟩ ?_
    intro i I2 hi ⟨g1, g2⟩
    refine ⟨ku I2 201 (b + i) (nI 0), ⟨fun k hk => ?_, fun x k hx => by rw [ku_ne (by omega), g2 x k hx]⟩, ?_⟩
    · by_cases e : k = i
      · rw [e, ku_same]
      · rw [ku_nek (by omega), g1 k (by omega)]
    · funext d R
      rw [B196_2, c8_30, if_pos (nI_lt hi (by omega)), B196_8, kg12_23, kO_s, nI_add, kw201 (by omega), kO_s, nI_add1]
      rfl
  obtain ⟨I2, ⟨g1, g2⟩, e2⟩ := L1
  -- the judges
  have L2 : ∃ I3, ((∀ k, k < r.nj → I3 201 (b + 9 + k) = nI (bg.ln k) ∧ I3 201 (b + 16 + k) = nI k) ∧ ∀ x k, ¬ (x = 201 ∧ b + 9 ≤ k ∧ k < b + 23) → I3 x k = I2 x k) ∧ (fun (d : Nat) (R : Option Value → KW → Prop) => kX xs (d + 2) 196 25 [some (.ref 185), some (.int (nI b)), some (.int (nI 0))] [] (kmm I2 J rf g) R) = (fun d R => kX xs (d + 2) 196 25 [some (.ref 185), some (.int (nI b)), some (.int (nI r.nj))] [] (kmm I3 J rf g) R) := by
    refine kloop (n := r.nj) (s0 := I2) (fun i I3 => (∀ k, k < i → I3 201 (b + 9 + k) = nI (bg.ln k) ∧ I3 201 (b + 16 + k) = nI k) ∧ ∀ x k, ¬ (x = 201 ∧ b + 9 ≤ k ∧ k < b + 23) → I3 x k = I2 x k) (fun i I3 => fun (d : Nat) (R : Option Value → KW → Prop) => kX xs (d + 2) 196 25 [some (.ref 185), some (.int (nI b)), some (.int (nI i))] [] (kmm I3 J rf g) R) ⟨fun k hk => by omega, fun _ _ _ => rfl⟩ ?_
    intro i I3 hi ⟨k1, k2⟩
    have ej : I3 191 0 = nI r.nj := by rw [k2 _ _ (by omega), g2 _ _ (by omega), hr.nj]
    have el : I3 191 (4 + 3 * i + 1) = nI (bg.ln i) := by rw [k2 _ _ (by omega), g2 _ _ (by omega), hg.ln i hi]
    refine ⟨ku (ku I3 201 (b + 9 + i) (nI (bg.ln i))) 201 (b + 16 + i) (nI i), ⟨fun k hk => ?_, fun x k hx => by rw [ku_ne (by omega), ku_ne (by omega), k2 x k hx]⟩, ?_⟩
    · by_cases e : k = i
      · rw [e, ku_same, ku_nek (by omega), ku_same]; exact ⟨rfl, rfl⟩
      · rw [ku_nek (by omega), ku_nek (by omega), ku_nek (by omega), ku_nek (by omega)]; exact k1 k (by omega)
    · funext d R
      rw [B196_25, krecv_m ks185, kcond_t, sp199, ej, kpush_s, B196_30, if_pos (nI_lt hi (by omega)), B196_33, kg12_23, kO_s, krecv_m ks185, kcond_t, n_1, sp201 (by omega), el, kpush_s, c8_9, nI_add, nI_add, B196_49, kw201 (by omega), kO_s, kg12_23, kO_s, c8_16, nI_add, nI_add, kw201 (by omega), kO_s, nI_add1]
  obtain ⟨I3, ⟨k1, k2⟩, e3⟩ := L2
  have s3 : mSt I3 b r (bgK bg.ln pa pb 0) := by
    refine ⟨?_, ?_, fun k hk => ?_, fun k hk => (k1 k hk).1, fun k hk => (k1 k hk).2, fun k hk => ?_⟩
    · rw [k2 _ _ (by omega)]; exact g1 0 (by omega)
    · rw [k2 _ _ (by omega), g1 1 (by omega)]; rfl
    · rw [k2 _ _ (by omega), show b + 2 + k = b + (2 + k) by omega, g1 _ (by omega)]; rfl
    · rw [k2 _ _ (by omega), show b + 23 + k = b + (23 + k) by omega, g1 _ (by omega)]; rfl
  -- the pairs
  have vK := bgK_v (pa := pa) (pb := pb) (np := np) vr vb.ln hg.al hg.bl
  have L3 : ∃ I4, (mSt I4 b r (bgK bg.ln pa pb np) ∧ ∀ x k, ¬ (x = 201 ∧ b ≤ k ∧ k < b + 30) → I4 x k = I3 x k) ∧ (fun (d : Nat) (R : Option Value → KW → Prop) => kX xs (d + 2) 196 70 [some (.ref 185), some (.int (nI b)), some (.int (nI 0))] [] (kmm I3 J rf g) R) = (fun d R => kX xs (d + 2) 196 70 [some (.ref 185), some (.int (nI b)), some (.int (nI np))] [] (kmm I4 J rf g) R) := by
    refine kloop (n := np) (s0 := I3) (fun i I4 => mSt I4 b r (bgK bg.ln pa pb i) ∧ ∀ x k, ¬ (x = 201 ∧ b ≤ k ∧ k < b + 30) → I4 x k = I3 x k) (fun i I4 => fun (d : Nat) (R : Option Value → KW → Prop) => kX xs (d + 2) 196 70 [some (.ref 185), some (.int (nI b)), some (.int (nI i))] [] (kmm I4 J rf g) R) ⟨s3, fun _ _ _ => rfl⟩ ?_
    intro i I4 hi ⟨q1, q2⟩
    have F : ∀ k, I4 191 k = I 191 k := fun k => by rw [q2 _ _ (by omega), k2 _ _ (by omega), g2 _ _ (by omega)]
    obtain ⟨I5, c1, c2, c3⟩ := sp208 (xs := xs) (J := J) (rf := rf) (g := g) hb vr (vK i (by omega)) q1 (hg.al i hi) (hg.bl i hi)
    refine ⟨I5, ⟨c1, fun x k hx => by rw [c2 x k (by omega), q2 x k hx]⟩, ?_⟩
    funext d R
    rw [B196_70, kg12_10, kO_s, n_2, ka191 (by omega), kO_s, F, hg.n, if_pos (nI_lt hi (by omega)), B196_80, kg12_10, kO_s, c8_39, n_2, pk_mul, nI_add, ka191 (by omega), kO_s, F, hg.a i hi, kO_s, nI_add1, ka191 (by omega), kO_s, F, hg.b i hi, krecv_m ks185, kcond_t, c3, kpush_n, B196_109, nI_add1]
  obtain ⟨I4, ⟨q1, q2⟩, e4⟩ := L3
  -- the days
  have L4 : ∃ I5, ((∀ k, k < r.nc → I5 201 (b + 23 + k) = nI (bg.up k)) ∧ ∀ x k, ¬ (x = 201 ∧ b + 23 ≤ k ∧ k < b + 30) → I5 x k = I4 x k) ∧ (fun (d : Nat) (R : Option Value → KW → Prop) => kX xs (d + 2) 196 117 [some (.ref 185), some (.int (nI b)), some (.int (nI 0))] [] (kmm I4 J rf g) R) = (fun d R => kX xs (d + 2) 196 117 [some (.ref 185), some (.int (nI b)), some (.int (nI r.nc))] [] (kmm I5 J rf g) R) := by
    refine kloop (n := r.nc) (s0 := I4) (fun i I5 => (∀ k, k < i → I5 201 (b + 23 + k) = nI (bg.up k)) ∧ ∀ x k, ¬ (x = 201 ∧ b + 23 ≤ k ∧ k < b + 30) → I5 x k = I4 x k) (fun i I5 => fun (d : Nat) (R : Option Value → KW → Prop) => kX xs (d + 2) 196 117 [some (.ref 185), some (.int (nI b)), some (.int (nI i))] [] (kmm I5 J rf g) R) ⟨fun k hk => by omega, fun _ _ _ => rfl⟩ ?_
    intro i I5 hi ⟨p1, p2⟩
    have F : ∀ k, I5 191 k = I 191 k := fun k => by rw [p2 _ _ (by omega), q2 _ _ (by omega), k2 _ _ (by omega), g2 _ _ (by omega)]
    refine ⟨ku I5 201 (b + 23 + i) (nI (bg.up i)), ⟨fun k hk => ?_, fun x k hx => by rw [ku_ne (by omega), p2 x k hx]⟩, ?_⟩
    · by_cases e : k = i
      · rw [e, ku_same]
      · rw [ku_nek (by omega), p1 k (by omega)]
    · funext d R
      rw [B196_117, krecv_m ks185, kcond_t, sp200, F, hr.nc, kpush_s, B196_122, if_pos (nI_lt hi (by omega)), B196_125, kg12_23, kO_s, krecv_m ks185, kcond_t, n_1, sp202 (by omega), F, hg.up i hi, kpush_s, c8_23, nI_add, nI_add, B196_141, kw201 (by omega), kO_s, nI_add1]
  obtain ⟨I5, ⟨p1, p2⟩, e5⟩ := L4
  obtain ⟨z1, z2, z3, z4⟩ := bgK_f bg.ln pa pb np
  refine ⟨I5, ⟨?_, ?_, fun k hk => ?_, fun k hk => ?_, fun k hk => ?_, p1⟩, fun x k hx => by rw [p2 x k (by omega), q2 x k hx, k2 x k (by omega), g2 x k hx], fun d R => ?_⟩
  · rw [p2 _ _ (by omega), q1.nx, z1, hg.nx]
  · rw [p2 _ _ (by omega), q1.rd, z2, hg.rd]
  · rw [p2 _ _ (by omega), q1.hd k hk, z3, hg.hd k hk]
  · rw [p2 _ _ (by omega), q1.ln k hk, z4]
  · rw [p2 _ _ (by omega), q1.ch k hk, hg.ch]
  · have F : ∀ k, I4 191 k = I 191 k := fun k => by rw [q2 _ _ (by omega), k2 _ _ (by omega), g2 _ _ (by omega)]
    have F3 : ∀ k, I3 191 k = I 191 k := fun k => by rw [k2 _ _ (by omega), g2 _ _ (by omega)]
    have F5 : ∀ k, I5 191 k = I 191 k := fun k => by rw [p2 _ _ (by omega), F]
    rw [B196_0]
    refine Eq.trans (congrFun (congrFun e2 d) R) ?_
    rw [B196_2, c8_30, if_neg (nI_nlt (Nat.le_refl _) (by omega)), B196_23]
    refine Eq.trans (congrFun (congrFun e3 d) R) ?_
    rw [B196_25, krecv_m ks185, kcond_t, sp199, F3, hr.nj, kpush_s, B196_30, if_neg (nI_nlt (Nat.le_refl _) (by omega)), B196_68]
    refine Eq.trans (congrFun (congrFun e4 d) R) ?_
    rw [B196_70, kg12_10, kO_s, n_2, ka191 (by omega), kO_s, F, hg.n, if_neg (nI_nlt (Nat.le_refl _) (by omega)), B196_115]
    refine Eq.trans (congrFun (congrFun e5 d) R) ?_
    rw [B196_117, krecv_m ks185, kcond_t, sp200, F5, hr.nc, kpush_s, B196_122, if_neg (nI_nlt (Nat.le_refl _) (by omega)), B196_148]
/-- begins -/
theorem sp197 (vr : vRl r) (vb : vSt r bg) (hr : mRl I r) (hg : mBg I r bg np pa pb) : ∃ I', mSt I' 0 r bg ∧ I' 201 30 = nI 0 ∧ I' 198 0 = nI 0 ∧ I' 185 24 = nI 0 ∧ (∀ m, m < 4 → I' 202 m = nI 0) ∧ (∀ x k, ¬ (x = 201 ∧ k ≤ 30) → ¬ (x = 198 ∧ k = 0) → ¬ (x = 185 ∧ k = 24) → x ≠ 202 → I' x k = I x k) ∧ ∀ d R, kX xs (d + 3) 197 0 [some (.ref 185), none] [] (kmm I J rf g) R = R none (kmm I' J rf g) := by
  obtain ⟨I1, a1, a2, a3⟩ := sp196 (xs := xs) (J := J) (rf := rf) (g := g) (b := 0) (by omega) vr vb hr hg
  have L : ∃ I2, ((∀ m, m < 4 → I2 202 m = nI 0) ∧ ∀ x k, x ≠ 202 → I2 x k = ku (ku (ku I1 201 30 (nI 0)) 198 0 (nI 0)) 185 24 (nI 0) x k) ∧ (fun (d : Nat) (R : Option Value → KW → Prop) => kX xs d 197 27 [some (.ref 185), some (.int (nI 0))] [] (kmm (ku (ku (ku I1 201 30 (nI 0)) 198 0 (nI 0)) 185 24 (nI 0)) J rf g) R) = (fun d R => kX xs d 197 27 [some (.ref 185), some (.int (nI 4))] [] (kmm I2 J rf g) R) := by
    refine kloop (n := 4) (s0 := ku (ku (ku I1 201 30 (nI 0)) 198 0 (nI 0)) 185 24 (nI 0)) (fun i I2 => (∀ m, m < i → I2 202 m = nI 0) ∧ ∀ x k, x ≠ 202 → I2 x k = ku (ku (ku I1 201 30 (nI 0)) 198 0 (nI 0)) 185 24 (nI 0) x k) (fun i I2 => fun (d : Nat) (R : Option Value → KW → Prop) => kX xs d 197 27 [some (.ref 185), some (.int (nI i))] [] (kmm I2 J rf g) R) ⟨fun m hm => by omega, fun _ _ _ => rfl⟩ ?_
    intro i I2 hi ⟨g1, g2⟩
    refine ⟨ku I2 202 i (nI 0), ⟨fun m hm => ?_, fun x k hx => by rw [ku_nea hx, g2 x k hx]⟩, ?_⟩
    · by_cases e : m = i
      · rw [e, ku_same]
      · rw [ku_nek e, g1 m (by omega)]
    · funext d R
      rw [B197_27, n_4, if_pos (nI_lt hi (by omega)), B197_32, kg12_25, kO_s, kv202 (by omega), kO_s, kvz0, nI_add1]
  obtain ⟨I2, ⟨g1, g2⟩, e2⟩ := L
  refine ⟨I2, a1.keep vr (fun k h1 h2 => by rw [g2 _ _ (by omega), ku_nea (by omega), ku_nea (by omega), ku_nek (by omega)]), by rw [g2 _ _ (by omega), ku_nea (by omega), ku_nea (by omega), ku_same], by rw [g2 _ _ (by omega), ku_nea (by omega), ku_same], by rw [g2 _ _ (by omega), ku_same], g1, fun x k h1 h2 h3 h4 => by rw [g2 x k h4, ku_ne h3, ku_ne h2, ku_ne (by omega), a2 x k (by omega)], fun d R => ?_⟩
  have e2' := congrFun (congrFun e2 (d + 3)) R
  rw [B197_0, krecv_m ks185, kcond_t, n_0, a3, kpush_n, B197_5, kg12_23, kO_s, c8_30, n_0, kw201 (by omega), kO_s, kg12_20, kO_s, kw198 (by omega), kO_s, kp12_24, kO_s]
  refine Eq.trans e2' ?_
  rw [B197_27, n_4, if_neg (nI_nlt (Nat.le_refl _) (by omega)), B197_45]
/-- judged -/
theorem sp227 (h : mB I r s) (vb : vSt r bg) (hg : mBg I r bg np pa pb) (hl : mLn I l) (vl : vLn r l) (x : Int32) : ∃ I', mQ I I' ∧ ∀ d R, kX xs (d + 4) 227 0 [some (.ref 185), some (.int x), none, none, none, none, none, none, none] [] (kmm I J rf g) R = R (some (.int (aJudged r bg l x))) (kmm I' J rf g) := by
  have hq0 := mQ.thr I (nI 0)
  have h' := h.keep hq0
  have vr := h.vr
  have hj7 := vr.j
  have hc7 := vr.c
  have ln40 := vl.n
  unfold aJudged
  rcases kidx_c x (show 3 < 2147483648 by omega) with ⟨v, hv, rfl⟩ | h0
  · have hk := kidx_in hv (show 3 < 2147483648 by omega)
    have hw3 : kwithin (nI v) 0 2 = 1 := kwithin_in (n := 2) (by omega) (by omega)
    obtain ⟨I1, s1, f1, e1⟩ := sp196 (xs := xs) (J := J) (rf := rf) (g := g) (b := 1155) (by omega) vr vb h'.rl (hg.keep (fun k => ku_nea (by omega)))
    have q1 : mQ I I1 := hq0.trans (fun x k p1 p2 p3 p4 p5 => f1 x k (by omega))
    have L : ∃ I2, (mQ I I2 ∧ mSt I2 1155 r (jdS r bg l l.n).1) ∧ (fun (d : Nat) (R : Option Value → KW → Prop) => kX xs (d + 4) 227 31 [some (.ref 185), some (.int (nI v)), some (.int (jdS r bg l 0).2.1), some (.int (jdS r bg l 0).2.2), some (.int (nI 0)), none, none, none, none] [] (kmm I1 J rf g) R) = (fun d R => kX xs (d + 4) 227 31 [some (.ref 185), some (.int (nI v)), some (.int (jdS r bg l l.n).2.1), some (.int (jdS r bg l l.n).2.2), some (.int (nI l.n)), none, none, none, none] [] (kmm I2 J rf g) R) := by
      refine kloop (n := l.n) (s0 := I1) (fun i I2 => mQ I I2 ∧ mSt I2 1155 r (jdS r bg l i).1) (fun i I2 => fun (d : Nat) (R : Option Value → KW → Prop) => kX xs (d + 4) 227 31 [some (.ref 185), some (.int (nI v)), some (.int (jdS r bg l i).2.1), some (.int (jdS r bg l i).2.2), some (.int (nI i)), none, none, none, none] [] (kmm I2 J rf g) R) ⟨q1, s1⟩ ?_
      intro i I2 hi ⟨g1, g2⟩
      have h2 := h.keep g1
      obtain ⟨vi, n1, n2⟩ := jdS_ok vr vb vl i (by omega)
      have hl2 : mLn I2 l := hl.keep (fun k => g1 _ _ (by omega) (by omega) (by omega) (by omega) (by omega))
      have en := hl2.n
      have ew := hl2.w i hi
      have ea := hl2.a i hi
      have ev := hl2.v i hi
      have w3 := vl.w i hi
      have hJ : jdS r bg l (i + 1) = if l.w i = 0 then jdD r i (jdS r bg l i) else if l.w i = 1 then (pld (jdS r bg l i).1 (l.a i) (l.v i), (jdS r bg l i).2) else if l.w i = 2 then (lnd (jdS r bg l i).1 (l.a i) (l.v i), (jdS r bg l i).2) else (chg (jdS r bg l i).1 (l.a i) (l.v i), (jdS r bg l i).2) := rfl
      have ent : ∀ d R, kX xs (d + 4) 227 31 [some (.ref 185), some (.int (nI v)), some (.int (jdS r bg l i).2.1), some (.int (jdS r bg l i).2.2), some (.int (nI i)), none, none, none, none] [] (kmm I2 J rf g) R = kX xs (d + 4) 227 81 [some (.ref 185), some (.int (nI v)), some (.int (jdS r bg l i).2.1), some (.int (jdS r bg l i).2.2), some (.int (nI i)), some (.int (nI (l.w i))), some (.int (nI (l.a i))), some (.int (nI (l.v i))), none] [] (kmm I2 J rf g) R := by
        intro d R
        rw [B227_31, kg12_20, kO_s, n_0, ka198 (by omega), kO_s, en, if_pos (nI_lt hi (by omega)), B227_42, kg12_20, kO_s, n_3, pk_mul, n_1, nI_add, ka198 (by omega), kO_s, ew, kO_s, n_2, nI_add, ka198 (by omega), kO_s, ea, kO_s, nI_add, ka198 (by omega), kO_s, ev]
      by_cases w0 : l.w i = 0
      · rw [if_pos w0] at hJ
        obtain ⟨I3, d3, s3, f3, e3⟩ := sp212 (xs := xs) (J := J) (rf := rf) (g := g) (b := 1155) (by omega) vr vi h2.rl g2
        have q3 : mQ I2 I3 := fun x k p1 p2 p3 p4 p5 => f3 x k p1 p2 (by omega) (by omega) (by omega)
        have h3 := h2.keep q3
        have g3 : mSt I3 1155 r (jdS r bg l i).1 := g2.keep vr (fun k _ _ => f3 _ _ (by omega) (by omega) (by omega) (by omega) (by omega))
        obtain ⟨I4, b1, b2, b3⟩ := sp215 (xs := xs) (J := J) (rf := rf) (g := g) (b := 1155) (by omega) vr vi h3.rl g3
        rw [hJ]
        refine ⟨I4, ⟨(g1.trans q3).trans (mQ_of b2), b1⟩, ?_⟩
        funext d R
        have hm7 := dM7 vr (jdS r bg l i).1 (jdS r bg l i).1.nx
        have enx := g2.nx
        have hprm : prm (dS r (jdS r bg l i).1) (dM r (jdS r bg l i).1 (jdS r bg l i).1.nx) := dS_prm
        have ent' := ent d R
        generalize jdS r bg l i = p at *
        have hperm := anyB_perm hprm (fun q => decide (20 ≤ dA r p.1 p.1.nx q))
        have L2 := kchain (n := dM r p.1 p.1.nx) (fun t => kX xs (d + 4) 227 104 [some (.ref 185), some (.int (nI v)), some (.int (mu (anyB (fun q => decide (20 ≤ dA r p.1 p.1.nx (dS r p.1 q))) t) p.2.1 i)), some (.int (mu (decide (1 < dM r p.1 p.1.nx) && anyB (fun q => decide (dS r p.1 q = q)) t) p.2.2 i)), some (.int (nI i)), none, none, none, some (.int (nI t))] [] (kmm I3 J rf g) R) (by
          intro t htm
          have hs := dS_lt (r := r) (s := p.1) htm
          have z1 := s3 t htm
          have bA := dA_le r p.1 p.1.nx (dS r p.1 t)
          have h214 : ∀ R, kX xs (d + 3) 214 0 [some (.ref 185), some (.int (nI 1155)), some (.int (nI (dS r p.1 t)))] [] (kmm I3 J rf g) R = R (some (.int (nI (dA r p.1 p.1.nx (dS r p.1 t))))) (kmm I3 J rf g) := fun R => sp214 (d := d + 1) (by omega) vr vi h3.rl g3 d3 hs
          show kX xs (d + 4) 227 104 _ _ _ _ = kX xs (d + 4) 227 104 _ _ _ _
          rw [B227_104, kg12_28, kO_s, d3.m, if_pos (nI_lt htm (by omega)), B227_113]
          have A : ∀ l3, kX xs (d + 4) 227 113 [some (.ref 185), some (.int (nI v)), some (.int (mu (anyB (fun q => decide (20 ≤ dA r p.1 p.1.nx (dS r p.1 q))) t) p.2.1 i)), some (.int l3), some (.int (nI i)), none, none, none, some (.int (nI t))] [] (kmm I3 J rf g) R = kX xs (d + 4) 227 142 [some (.ref 185), some (.int (nI v)), none, some (.int l3), some (.int (nI i)), none, none, none, some (.int (nI t))] [.int (mu (anyB (fun q => decide (20 ≤ dA r p.1 p.1.nx (dS r p.1 q))) (t + 1)) p.2.1 i)] (kmm I3 J rf g) R := by
            intro l3
            rw [B227_113, anyB]
            by_cases c1 : p.2.1 = -1
            · cases c2 : anyB (fun q => decide (20 ≤ dA r p.1 p.1.nx (dS r p.1 q))) t with
              | true =>
                rw [Bool.true_or, mu_t c1, if_neg (nI_pos (by omega)), B227_141]
              | false =>
                rw [Bool.false_or, mu_f, if_pos (by rw [c1]; decide), B227_117, kg12_27, kO_s, ka204 (by omega), kO_s, z1, krecv_m ks185, kcond_t, c16_1155, h214, kpush_s, B227_131, c8_20]
                by_cases c3 : 20 ≤ dA r p.1 p.1.nx (dS r p.1 t)
                · rw [if_neg (nI_nlt (by omega) (by omega)), B227_136, decide_eq_true c3, mu_t c1]
                · rw [if_pos (nI_lt (by omega) (by omega)), B227_141, show decide (20 ≤ dA r p.1 p.1.nx (dS r p.1 t)) = false from decide_eq_false c3, mu_f]
            · have c4 : ¬ p.2.1 < 0 := by rw [nn_neg n1]; exact c1
              rw [mu_n c1, mu_n c1, if_neg c4, B227_141]
          have B : ∀ s0, kX xs (d + 4) 227 142 [some (.ref 185), some (.int (nI v)), none, some (.int (mu (decide (1 < dM r p.1 p.1.nx) && anyB (fun q => decide (dS r p.1 q = q)) t) p.2.2 i)), some (.int (nI i)), none, none, none, some (.int (nI t))] [.int s0] (kmm I3 J rf g) R = kX xs (d + 4) 227 173 [some (.ref 185), some (.int (nI v)), some (.int s0), none, some (.int (nI i)), none, none, none, some (.int (nI t))] [.int (mu (decide (1 < dM r p.1 p.1.nx) && anyB (fun q => decide (dS r p.1 q = q)) (t + 1)) p.2.2 i)] (kmm I3 J rf g) R := by
            intro s0
            rw [B227_142, anyB]
            by_cases c1 : p.2.2 = -1
            · by_cases c0 : 1 < dM r p.1 p.1.nx
              · rw [decide_eq_true c0, Bool.true_and, Bool.true_and]
                cases c2 : anyB (fun q => decide (dS r p.1 q = q)) t with
                | true =>
                  rw [Bool.true_or, mu_t c1, if_neg (nI_pos (by omega)), B227_172]
                | false =>
                  rw [Bool.false_or, mu_f, if_pos (by rw [c1]; decide), B227_147, kg12_28, kO_s, d3.m, n_1, if_pos (nI_lt c0 (by omega)), B227_155, kg12_27, kO_s, ka204 (by omega), kO_s, z1]
                  by_cases c3 : dS r p.1 t = t
                  · rw [if_pos (congrArg nI c3), B227_167, decide_eq_true c3, mu_t c1]
                  · rw [if_neg (fun q => c3 (by rw [nI_inj (by omega) (by omega)] at q; exact q)), B227_172, show decide (dS r p.1 t = t) = false from decide_eq_false c3, mu_f]
              · rw [show decide (1 < dM r p.1 p.1.nx) = false from decide_eq_false c0, Bool.false_and, Bool.false_and, mu_f, if_pos (by rw [c1]; decide), B227_147, kg12_28, kO_s, d3.m, n_1, if_neg (nI_nlt (by omega) (by omega)), B227_172]
            · have c4 : ¬ p.2.2 < 0 := by rw [nn_neg n2]; exact c1
              rw [mu_n c1, mu_n c1, if_neg c4, B227_172]
          have A' := A (mu (decide (1 < dM r p.1 p.1.nx) && anyB (fun q => decide (dS r p.1 q = q)) t) p.2.2 i)
          rw [B227_113] at A'
          rw [A', B, B227_173, nI_add1])
        have hx : anyB (fun q => decide (20 ≤ dA r p.1 p.1.nx (dS r p.1 q))) (dM r p.1 p.1.nx) = hxB r p.1 := hperm
        have ho : (decide (1 < dM r p.1 p.1.nx) && anyB (fun q => decide (dS r p.1 q = q)) (dM r p.1 p.1.nx)) = owB r p.1 := rfl
        rw [hx, ho] at L2
        rw [ent', B227_81, if_pos (by rw [w0]; rfl), B227_86, kg12_23, kO_s, c16_1155, ka201 (by omega), kO_s, enx, krecv_m ks185, kcond_t, e3, kpush_n, B227_101]
        refine Eq.trans (Eq.trans ?_ L2) ?_
        · show _ = kX xs (d + 4) 227 104 _ _ _ _
          rw [show anyB (fun q => decide (20 ≤ dA r p.1 p.1.nx (dS r p.1 q))) 0 = false from rfl, show anyB (fun q => decide (dS r p.1 q = q)) 0 = false from rfl, Bool.and_false, mu_f, mu_f]
          rfl
        · show kX xs (d + 4) 227 104 _ _ _ _ = _
          rw [B227_104, kg12_28, kO_s, d3.m, if_neg (nI_nlt (Nat.le_refl _) (by omega)), B227_180, krecv_m ks185, kcond_t, c16_1155, b3, kpush_s, B227_187, B227_246, nI_add1]
          rfl
      · rw [if_neg w0] at hJ
        have g0 : ¬ nI (l.w i) = 0 := nI_ne0 (by omega) (by omega)
        by_cases w1 : l.w i = 1
        · rw [if_pos w1] at hJ
          obtain ⟨c1, c2⟩ := vl.p i hi w1
          rw [hJ]
          refine ⟨ku I2 201 (1155 + 23 + l.a i) (nI (l.v i)), ⟨g1.trans (fun x k p1 p2 p3 p4 p5 => ku_ne (by omega)), g2.pldB vr c1⟩, ?_⟩
          funext d R
          rw [ent, B227_81, if_neg g0, B227_191, if_pos (by rw [w1]; rfl), B227_197, kg12_23, kO_s, c16_1178, nI_add, kw201 (by omega), kO_s, B227_246, nI_add1]
        · rw [if_neg w1] at hJ
          have g1' : ¬ nI (l.w i) = 1 := by rw [n_1, nI_inj (by omega) (by omega)]; exact w1
          by_cases w2 : l.w i = 2
          · rw [if_pos w2] at hJ
            obtain ⟨c1, c2⟩ := vl.q i hi w2
            rw [hJ]
            refine ⟨ku I2 201 (1155 + 9 + l.a i) (nI (l.v i)), ⟨g1.trans (fun x k p1 p2 p3 p4 p5 => ku_ne (by omega)), g2.lndB vr c1⟩, ?_⟩
            funext d R
            rw [ent, B227_81, if_neg g0, B227_191, if_neg g1', B227_213, if_pos (by rw [w2]; rfl), B227_219, kg12_23, kO_s, c16_1164, nI_add, kw201 (by omega), kO_s, B227_246, nI_add1]
          · rw [if_neg w2] at hJ
            have w3' : l.w i = 3 := by omega
            obtain ⟨c1, c2⟩ := vl.c i hi w3'
            obtain ⟨I3, a1, a2, a3⟩ := sp208 (xs := xs) (J := J) (rf := rf) (g := g) (b := 1155) (by omega) vr vi g2 c1 c2
            rw [hJ]
            refine ⟨I3, ⟨g1.trans (fun x k p1 p2 p3 p4 p5 => a2 x k (by omega)), a1⟩, ?_⟩
            funext d R
            rw [ent, B227_81, if_neg g0, B227_191, if_neg g1', B227_213, if_neg (by rw [w3']; decide), B227_235, krecv_m ks185, kcond_t, c16_1155, a3, kpush_n, B227_246, nI_add1]
    obtain ⟨I2, ⟨g1, g2⟩, e2⟩ := L
    refine ⟨I2, g1, fun d R => ?_⟩
    have h2 := h.keep g1
    obtain ⟨vi, n1, n2⟩ := jdS_ok vr vb vl l.n (Nat.le_refl _)
    have e2' := congrFun (congrFun e2 d) R
    have en : I2 198 0 = nI l.n := by rw [g1 _ _ (by omega) (by omega) (by omega) (by omega) (by omega), hl.n]
    rw [hk, if_neg (by decide)]
    rw [B227_0, kp12_0, kO_s, sp171, hw3, kpush_s, B227_11, if_neg (by decide), B227_17, krecv_m ks185, kcond_t, c16_1155, show (0 : Int32) = nI 0 from rfl, e1, kpush_n, B227_24]
    refine Eq.trans e2' ?_
    rw [B227_31, kg12_20, kO_s, n_0, ka198 (by omega), kO_s, en, if_neg (nI_nlt (Nat.le_refl _) (by omega)), B227_252]
    rcases (by omega : v = 0 ∨ v = 1 ∨ v = 2) with rfl | rfl | rfl
    · rw [if_pos (show nI 0 = 0 from rfl), if_neg (by decide), if_pos rfl, B227_256, B227_276]
    · rw [if_neg (by decide), if_neg (by decide), if_neg (by decide), B227_260, if_pos (show nI 1 = 1 from rfl), B227_265, B227_276]
    · rw [if_neg (by decide), if_pos rfl, B227_260, if_neg (by decide), B227_269, krecv_m ks185, kcond_t, c16_1155, sp211 (b := 1155) (by omega) vr vi h2.rl g2, kpush_s, B227_276]
  · refine ⟨_, hq0, fun d R => ?_⟩
    have hw3 : kwithin x 0 2 = 0 := by have := kwi2 x; rw [h0] at this; exact this
    rw [h0, if_pos rfl, B227_0, kp12_0, kO_s, sp171, hw3, kpush_s, B227_11, if_pos rfl, B227_14, c8_m2]
    rfl
end MJD
