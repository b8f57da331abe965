/-! swap, best -/
def gv4 (r : aRl) (s : aSt) : Nat := nsum (gvD r s) 4
theorem gv4_le {r : aRl} (vr : vRl r) (s : aSt) : gv4 r s ≤ 1120 := by
  have h := nsum_le (f := gvD r s) (b := 280) 4 (fun k _ => gvD_le vr s k)
  unfold gv4
  omega
def swI (r : aRl) (s : aSt) (j : Nat) (a : Nat × Int32) : Nat → Nat × Int32
  | 0 => a
  | t + 1 => if gv4 r (chg s j (j + 1 + t)) < (swI r s j a t).1 then (gv4 r (chg s j (j + 1 + t)), nI (8 * j + (j + 1 + t))) else swI r s j a t
def swO (r : aRl) (s : aSt) : Nat → Nat × Int32
  | 0 => (gv4 r s, -1)
  | j + 1 => swI r s j (swO r s j) (r.nj - (j + 1))
def aSwap (r : aRl) (s : aSt) : Int32 := (swO r s r.nj).2
theorem swI_le {r : aRl} {s : aSt} (vr : vRl r) {j : Nat} {a : Nat × Int32} (ha : a.1 ≤ 1120) : ∀ t, (swI r s j a t).1 ≤ 1120 := by
  intro t
  induction t with
  | zero => exact ha
  | succ t ih =>
    rw [swI]
    split
    · exact gv4_le vr _
    · exact ih
theorem swO_le {r : aRl} {s : aSt} (vr : vRl r) : ∀ j, (swO r s j).1 ≤ 1120 := by
  intro j
  induction j with
  | zero => exact gv4_le vr s
  | succ j ih => exact swI_le vr ih _
/-- what a case gets on a day, if anything -/
def gA (r : aRl) (u : aSt) (c : Nat) : Nat := if hrd r u u.nx c then dA r u u.nx (dS r u (hC u.up u.nx r.nj c)) else 0
theorem gA_le (r : aRl) (u : aSt) (c : Nat) : gA r u c ≤ 40 := by
  unfold gA
  split
  · exact dA_le _ _ _ _
  · omega
theorem gtN_c (r : aRl) (u : aSt) (c : Nat) : (gtN r u c = nI (gA r u c)) ∨ (gtN r u c = -1 ∧ gA r u c = 0) := by
  unfold gtN gA
  by_cases h : hrd r u u.nx c
  · rw [if_pos h, if_pos h]; exact Or.inl rfl
  · rw [if_neg h, if_neg h]; exact Or.inr ⟨rfl, rfl⟩
def bsF (r : aRl) (s : aSt) (c day : Nat) : Nat := gA r (nxt r (pld s c day) day) c
def bsB (r : aRl) (s : aSt) (c day b : Nat) : Bool := decide (bsF r s c day < bsF r s c b)
def aBest (r : aRl) (s : aSt) (x : Int32) : Int32 := if kidx x (nI r.nc) = 0 then -1 else abI (bsB r s x.toNatClampNeg) 4
def abZ (f : Nat → Nat → Bool) : Nat → Int32
  | 0 => 0
  | n + 1 => nI (abN f n)
section QW
variable {xs : List Int32} {d : Nat} {I I' I2 : Nat → Nat → Int32} {J : Nat → Nat → Int64} {rf : Nat → Nat} {g : Nat} {R : Option Value → KW → Prop} {r : aRl} {s u : aSt} {b : Nat}
/-- fourDaysGive, givenIn -/
theorem sp143 (h : cB I rf r s) (hb : kshp b = some (.inl 9)) (vu : vSt r u) (hu : cSt I b u) : ∃ I', (∀ x k, x < 54 ∨ 61 < x → I' x k = I x k) ∧ ∀ d R, kX xs (d + 4) 143 0 [some (.ref 0), some (.ref b), none, none] [] (kmm I J rf g) R = R (some (.int (nI (gv4 r u)))) (kmm I' J rf g) := by
  obtain ⟨o1, o2, o3⟩ := koff h.t hb
  have L : ∃ I2, (∀ x k, x < 54 ∨ 61 < x → I2 x k = I x k) ∧ (fun (d : Nat) (R : Option Value → KW → Prop) => kX xs (d + 4) 143 4 [some (.ref 0), some (.ref b), some (.int (nI (nsum (gvD r u) 0))), some (.int (nI 0))] [] (kmm I J rf g) R) = (fun d R => kX xs (d + 4) 143 4 [some (.ref 0), some (.ref b), some (.int (nI (nsum (gvD r u) 4))), some (.int (nI 4))] [] (kmm I2 J rf g) R) := by
    refine kloop (n := 4) (s0 := I) (fun i I2 => ∀ x k, x < 54 ∨ 61 < x → I2 x k = I x k) (fun i I2 => fun (d : Nat) (R : Option Value → KW → Prop) => kX xs (d + 4) 143 4 [some (.ref 0), some (.ref b), some (.int (nI (nsum (gvD r u) i))), some (.int (nI i))] [] (kmm I2 J rf g) R) (fun _ _ _ => rfl) ?_
    intro i I2 hi g2
    obtain ⟨I3, q1, q3, q4⟩ := sp64e (xs := xs) (J := J) (rf := rf) (g := g) h.t hb h.vr vu (h.rl.keep (fun x k h1 h2 => g2 x k (by omega))) (hu.keep (fun x k h1 h2 => g2 x k (by omega))) hi
    refine ⟨I3, fun x k hx => by rw [q3 x k hx, g2 x k hx], ?_⟩
    funext d R
    rw [B143_4, n_4, if_pos (nI_lt hi (by omega)), B143_9, kg11_9, kO_s, kg11_2, kO_s, krecv_m ks54, kcond_t, q4, kpush_n, B143_22, kg11_9, kO_s, krecv_m ks54, kcond_t, sp72g h.vr q1, kpush_s, B143_30, nI_add, nI_add1]
    rfl
  obtain ⟨I2, g2, e2⟩ := L
  refine ⟨I2, g2, fun d R => ?_⟩
  have e2' := congrFun (congrFun e2 d) R
  rw [B143_0]
  refine Eq.trans e2' ?_
  rw [B143_4, n_4, if_neg (nI_nlt (Nat.le_refl _) (by omega)), B143_38]
  rfl
theorem sp260 (hb : b ≤ 1235) (vr : vRl r) (vs : vSt r s) (hr : mRl I r) (hs : mSt I b r s) : ∃ I', (∀ x k, x ≠ 203 → ¬ (x = 185 ∧ k = 28) → I' x k = I x k) ∧ ∀ d R, kX xs (d + 4) 260 0 [some (.ref 185), some (.int (nI b)), none, none] [] (kmm I J rf g) R = R (some (.int (nI (gv4 r s)))) (kmm I' J rf g) := by
  have L : ∃ I2, (∀ x k, x ≠ 203 → ¬ (x = 185 ∧ k = 28) → I2 x k = I x k) ∧ (fun (d : Nat) (R : Option Value → KW → Prop) => kX xs (d + 4) 260 4 [some (.ref 185), some (.int (nI b)), some (.int (nI (nsum (gvD r s) 0))), some (.int (nI 0))] [] (kmm I J rf g) R) = (fun d R => kX xs (d + 4) 260 4 [some (.ref 185), some (.int (nI b)), some (.int (nI (nsum (gvD r s) 4))), some (.int (nI 4))] [] (kmm I2 J rf g) R) := by
    refine kloop (n := 4) (s0 := I) (fun i I2 => ∀ x k, x ≠ 203 → ¬ (x = 185 ∧ k = 28) → I2 x k = I x k) (fun i I2 => fun (d : Nat) (R : Option Value → KW → Prop) => kX xs (d + 4) 260 4 [some (.ref 185), some (.int (nI b)), some (.int (nI (nsum (gvD r s) i))), some (.int (nI i))] [] (kmm I2 J rf g) R) (fun _ _ _ _ => rfl) ?_
    intro i I2 hi g2
    obtain ⟨I3, -, q3, q4⟩ := sp235 (xs := xs) (J := J) (rf := rf) (g := g) hb vr vs (hr.keep (fun x k h1 h2 => g2 x k (by omega) (by omega))) (hs.keep vr (fun k h1 h2 => g2 _ _ (by omega) (by omega))) hi
    refine ⟨I3, fun x k hx hy => by rw [q3 x k hx hy, g2 x k hx hy], ?_⟩
    funext d R
    rw [B260_4, n_4, if_pos (nI_lt hi (by omega)), B260_9, krecv_m ks185, kcond_t, q4, kpush_s, B260_16, nI_add, nI_add1]
    rfl
  obtain ⟨I2, g2, e2⟩ := L
  refine ⟨I2, g2, fun d R => ?_⟩
  have e2' := congrFun (congrFun e2 d) R
  rw [B260_0]
  refine Eq.trans e2' ?_
  rw [B260_4, n_4, if_neg (nI_nlt (Nat.le_refl _) (by omega)), B260_24]
  rfl
/-- swap -/
theorem sp142 (h : cB I rf r s) : ∃ I', cQ I I' ∧ ∀ d R, kX xs (d + 5) 142 0 [some (.ref 0), none, none, none, none, none] [] (kmm I J rf g) R = R (some (.int (aSwap r s))) (kmm I' J rf g) := by
  have ht := h.t
  have hj7 := h.vr.j
  obtain ⟨I0, f0, e0⟩ := sp143 (xs := xs) (J := J) (g := g) h ks39 h.vs h.st
  have c0 := cQ_sit f0
  have L : ∃ I2, cQ I I2 ∧ (fun (d : Nat) (R : Option Value → KW → Prop) => kX xs (d + 5) 142 13 [some (.ref 0), some (.int (nI (swO r s 0).1)), some (.int (swO r s 0).2), some (.int (nI 0)), none, none] [] (kmm I0 J rf g) R) = (fun d R => kX xs (d + 5) 142 13 [some (.ref 0), some (.int (nI (swO r s r.nj).1)), some (.int (swO r s r.nj).2), some (.int (nI r.nj)), none, none] [] (kmm I2 J rf g) R) := by
    refine kloop (n := r.nj) (s0 := I0) (fun i I2 => cQ I I2) (fun i I2 => fun (d : Nat) (R : Option Value → KW → Prop) => kX xs (d + 5) 142 13 [some (.ref 0), some (.int (nI (swO r s i).1)), some (.int (swO r s i).2), some (.int (nI i)), none, none] [] (kmm I2 J rf g) R) c0 ?_
    intro j I2 hj g2
    have L2 : ∃ I3, cQ I I3 ∧ (fun (d : Nat) (R : Option Value → KW → Prop) => kX xs (d + 5) 142 29 [some (.ref 0), some (.int (nI (swI r s j (swO r s j) 0).1)), some (.int (swI r s j (swO r s j) 0).2), some (.int (nI j)), some (.int (nI (j + 1 + 0))), none] [] (kmm I2 J rf g) R) = (fun d R => kX xs (d + 5) 142 29 [some (.ref 0), some (.int (nI (swI r s j (swO r s j) (r.nj - (j + 1))).1)), some (.int (swI r s j (swO r s j) (r.nj - (j + 1))).2), some (.int (nI j)), some (.int (nI (j + 1 + (r.nj - (j + 1))))), none] [] (kmm I3 J rf g) R) := by
      refine kloop (n := r.nj - (j + 1)) (s0 := I2) (fun t I3 => cQ I I3) (fun t I3 => fun (d : Nat) (R : Option Value → KW → Prop) => kX xs (d + 5) 142 29 [some (.ref 0), some (.int (nI (swI r s j (swO r s j) t).1)), some (.int (swI r s j (swO r s j) t).2), some (.int (nI j)), some (.int (nI (j + 1 + t))), none] [] (kmm I3 J rf g) R) g2 ?_
      intro t I3 ht' g3
      have h3 := h.keep g3
      obtain ⟨I4, s4, f4, e4⟩ := sp87q (xs := xs) (J := J) (g := g) h3 (Or.inr rfl)
      obtain ⟨I5, s5, f5, e5⟩ := sp91e (xs := xs) (J := J) (rf := rf) (g := g) ks49 h.vr h.vs s4 hj (show j + 1 + t < r.nj by omega)
      have g5 : cQ I I5 := (g3.trans f4).trans (fun x k h1 h2 h3 h4 => f5 x k (by omega))
      obtain ⟨I6, f6, e6⟩ := sp143 (xs := xs) (J := J) (g := g) (h.keep g5) ks49 (chg_v h.vr h.vs hj (show j + 1 + t < r.nj by omega)) s5
      refine ⟨I6, g5.trans (cQ_sit f6), ?_⟩
      funext d R
      have b1 := swI_le (s := s) (j := j) h.vr (swO_le (s := s) h.vr j) t
      have b2 := gv4_le h.vr (chg s j (j + 1 + t))
      have en := h3.rl.nj
      rw [B142_29, kg11_2, kO_s, kg6_0 ht, kO_s, en, if_pos (nI_lt (by omega) (by omega)), B142_41, kg11_8, kO_s, kg11_6, kO_s, krecv_m ks49, kcond_t, e4, kpush_n, B142_52, kg11_8, kO_s, krecv_m ks49, kcond_t, e5, kpush_n, B142_62, kg11_8, kO_s, krecv_m ks0, kcond_t, e6, kpush_s, B142_70, swI]
      by_cases q : gv4 r (chg s j (j + 1 + t)) < (swI r s j (swO r s j) t).1
      · rw [if_pos (nI_lt q (by omega)), if_pos q, B142_78, c8_8, pk_mul, nI_add, B142_89, nI_add1]
        rfl
      · rw [if_neg (nI_nlt (by omega) (by omega)), if_neg q, B142_89, nI_add1]
        rfl
    obtain ⟨I3, g3, e3⟩ := L2
    refine ⟨I3, g3, ?_⟩
    funext d R
    have e3' := congrFun (congrFun e3 d) R
    have en := (h.keep g2).rl.nj
    have en3 := (h.keep g3).rl.nj
    rw [B142_13, kg11_2, kO_s, kg6_0 ht, kO_s, en, if_pos (nI_lt hj (by omega)), B142_24, nI_add1]
    refine Eq.trans e3' ?_
    rw [B142_29, kg11_2, kO_s, kg6_0 ht, kO_s, en3, if_neg (nI_nlt (by omega) (by omega)), B142_95, nI_add1]
    rfl
  obtain ⟨I2, g2, e2⟩ := L
  refine ⟨I2, g2, fun d R => ?_⟩
  have e2' := congrFun (congrFun e2 d) R
  have en := (h.keep g2).rl.nj
  rw [B142_0, kg11_6, kO_s, krecv_m ks0, kcond_t, e0, kpush_s, B142_8]
  refine Eq.trans e2' ?_
  rw [B142_13, kg11_2, kO_s, kg6_0 ht, kO_s, en, if_neg (nI_nlt (Nat.le_refl _) (by omega)), B142_101]
  rfl
theorem sp261 (h : mB I r s) : ∃ I', mQ I I' ∧ ∀ d R, kX xs (d + 5) 261 0 [some (.ref 185), none, none, none, none, none] [] (kmm I J rf g) R = R (some (.int (aSwap r s))) (kmm I' J rf g) := by
  have hq := mQ.thr I (nI 0)
  have h' := h.keep hq
  have hj7 := h.vr.j
  obtain ⟨I0, f0, e0⟩ := sp260 (xs := xs) (J := J) (rf := rf) (g := g) (b := 0) (by omega) h.vr h.vs h'.rl h'.st
  have c0 := hq.trans (mQ_lis f0)
  have L : ∃ I2, mQ I I2 ∧ (fun (d : Nat) (R : Option Value → KW → Prop) => kX xs (d + 5) 261 15 [some (.ref 185), some (.int (swO r s 0).2), some (.int (nI (swO r s 0).1)), some (.int (nI 0)), none, none] [] (kmm I0 J rf g) R) = (fun d R => kX xs (d + 5) 261 15 [some (.ref 185), some (.int (swO r s r.nj).2), some (.int (nI (swO r s r.nj).1)), some (.int (nI r.nj)), none, none] [] (kmm I2 J rf g) R) := by
    refine kloop (n := r.nj) (s0 := I0) (fun i I2 => mQ I I2) (fun i I2 => fun (d : Nat) (R : Option Value → KW → Prop) => kX xs (d + 5) 261 15 [some (.ref 185), some (.int (swO r s i).2), some (.int (nI (swO r s i).1)), some (.int (nI i)), none, none] [] (kmm I2 J rf g) R) c0 ?_
    intro j I2 hj g2
    have L2 : ∃ I3, mQ I I3 ∧ (fun (d : Nat) (R : Option Value → KW → Prop) => kX xs (d + 5) 261 28 [some (.ref 185), some (.int (swI r s j (swO r s j) 0).2), some (.int (nI (swI r s j (swO r s j) 0).1)), some (.int (nI j)), some (.int (nI (j + 1 + 0))), none] [] (kmm I2 J rf g) R) = (fun d R => kX xs (d + 5) 261 28 [some (.ref 185), some (.int (swI r s j (swO r s j) (r.nj - (j + 1))).2), some (.int (nI (swI r s j (swO r s j) (r.nj - (j + 1))).1)), some (.int (nI j)), some (.int (nI (j + 1 + (r.nj - (j + 1))))), none] [] (kmm I3 J rf g) R) := by
      refine kloop (n := r.nj - (j + 1)) (s0 := I2) (fun t I3 => mQ I I3) (fun t I3 => fun (d : Nat) (R : Option Value → KW → Prop) => kX xs (d + 5) 261 28 [some (.ref 185), some (.int (swI r s j (swO r s j) t).2), some (.int (nI (swI r s j (swO r s j) t).1)), some (.int (nI j)), some (.int (nI (j + 1 + t))), none] [] (kmm I3 J rf g) R) g2 ?_
      intro t I3 ht' g3
      have h3 := h.keep g3
      obtain ⟨I4, s4, f4, e4⟩ := sp217 (xs := xs) (J := J) (rf := rf) (g := g) h.vr h3.st
      obtain ⟨I5, s5, f5, e5⟩ := sp208 (xs := xs) (J := J) (rf := rf) (g := g) (b := 1155) (by omega) h.vr h.vs s4 hj (show j + 1 + t < r.nj by omega)
      have g5 : mQ I I5 := (g3.trans (mQ_cp f4)).trans (fun x k h1 h2 h3 h4 h5 => f5 x k (by omega))
      obtain ⟨I6, f6, e6⟩ := sp260 (xs := xs) (J := J) (rf := rf) (g := g) (b := 1155) (by omega) h.vr (chg_v h.vr h.vs hj (show j + 1 + t < r.nj by omega)) (h.keep g5).rl s5
      refine ⟨I6, g5.trans (mQ_lis f6), ?_⟩
      funext d R
      have b1 := swI_le (s := s) (j := j) h.vr (swO_le (s := s) h.vr j) t
      have b2 := gv4_le h.vr (chg s j (j + 1 + t))
      have en := h3.rl.nj
      rw [B261_28, krecv_m ks185, kcond_t, sp199, kpush_s, B261_34, en, if_pos (nI_lt (by omega) (by omega)), B261_37, krecv_m ks185, kcond_t, e4, kpush_n, B261_41, krecv_m ks185, kcond_t, c16_1155, e5, kpush_n, B261_51, krecv_m ks185, kcond_t, c16_1155, e6, kpush_s, B261_58, swI]
      by_cases q : gv4 r (chg s j (j + 1 + t)) < (swI r s j (swO r s j) t).1
      · rw [if_pos (nI_lt q (by omega)), if_pos q, B261_66, c8_8, pk_mul, nI_add, B261_77, if_pos (nI_lt q (by omega)), B261_84, B261_90, nI_add1]
        rfl
      · rw [if_neg (nI_nlt (by omega) (by omega)), if_neg q, B261_76, B261_77, if_neg (nI_nlt (by omega) (by omega)), B261_89, B261_90, nI_add1]
        rfl
    obtain ⟨I3, g3, e3⟩ := L2
    refine ⟨I3, g3, ?_⟩
    funext d R
    have e3' := congrFun (congrFun e3 d) R
    have en := (h.keep g2).rl.nj
    have en3 := (h.keep g3).rl.nj
    rw [B261_15, krecv_m ks185, kcond_t, sp199, kpush_s, B261_20, en, if_pos (nI_lt hj (by omega)), B261_23, nI_add1]
    refine Eq.trans e3' ?_
    rw [B261_28, krecv_m ks185, kcond_t, sp199, kpush_s, B261_34, en3, if_neg (nI_nlt (by omega) (by omega)), B261_97, nI_add1]
    rfl
  obtain ⟨I2, g2, e2⟩ := L
  refine ⟨I2, g2, fun d R => ?_⟩
  have e2' := congrFun (congrFun e2 d) R
  have en := (h.keep g2).rl.nj
  rw [B261_0, kp12_0, kO_s, krecv_m ks185, kcond_t, n_0, e0, kpush_s, B261_12]
  refine Eq.trans e2' ?_
  rw [B261_15, krecv_m ks185, kcond_t, sp199, kpush_s, B261_20, en, if_neg (nI_nlt (Nat.le_refl _) (by omega)), B261_103]
  rfl
/-- best -/
theorem kmx_g (r : aRl) (u : aSt) (c : Nat) : kmax32 (gtN r u c) 0 = nI (gA r u c) := by
  have hb := gA_le r u c
  rcases gtN_c r u c with h | ⟨h, h2⟩
  · rw [h, n_0, kmax_n (by omega) (by omega), Nat.max_eq_left (by omega)]
  · rw [h, h2]
    rfl
theorem pld_up (s : aSt) (c day : Nat) : (pld s c day).up c = day := ku1_s _ _ _
theorem sp121 (h : cB I rf r s) (x : Int32) : ∃ I', cQ I I' ∧ ∀ d R, kX xs (d + 6) 121 0 [some (.ref 0), some (.int x), none, none, none, none] [] (kmm I J rf g) R = R (some (.int (aBest r s x))) (kmm I' J rf g) := by
  have ht := h.t
  have hc7 := h.vr.c
  have e0 := h.rl.nc
  unfold aBest
  rcases kidx_c x (show r.nc < 2147483648 by omega) with ⟨c, hc, rfl⟩ | h0
  · have hk := kidx_in hc (show r.nc < 2147483648 by omega)
    have L : ∃ I2, cQ I I2 ∧ (fun (d : Nat) (R : Option Value → KW → Prop) => kX xs (d + 6) 121 20 [some (.ref 0), some (.int (nI c)), some (.int (abZ (bsB r s c) 0)), some (.int (abV (bsB r s c) (fun y => nI (bsF r s c y)) 0)), some (.int (nI 0)), none] [] (kmm I J rf g) R) = (fun d R => kX xs (d + 6) 121 20 [some (.ref 0), some (.int (nI c)), some (.int (abZ (bsB r s c) 4)), some (.int (abV (bsB r s c) (fun y => nI (bsF r s c y)) 4)), some (.int (nI 4)), none] [] (kmm I2 J rf g) R) := by
      refine kloop (n := 4) (s0 := I) (fun t I2 => cQ I I2) (fun t I2 => fun (d : Nat) (R : Option Value → KW → Prop) => kX xs (d + 6) 121 20 [some (.ref 0), some (.int (nI c)), some (.int (abZ (bsB r s c) t)), some (.int (abV (bsB r s c) (fun y => nI (bsF r s c y)) t)), some (.int (nI t)), none] [] (kmm I2 J rf g) R) (cQ.refl I) ?_
      intro t I2 ht' g2
      have h2 := h.keep g2
      obtain ⟨I4, s4, f4, e4⟩ := sp87q (xs := xs) (J := J) (g := g) h2 (Or.inr rfl)
      obtain ⟨I5, s5, f5, e5⟩ := sp88e (xs := xs) (J := J) (rf := rf) (g := g) (day := t) ks49 s4 (show c < 7 by omega)
      have g5 : cQ I I5 := (g2.trans f4).trans (fun x k h1 h2 h3 h4 => f5 x k (by omega))
      have h5 := h.keep g5
      obtain ⟨I6, q1, -, q3, q4⟩ := sp66e (xs := xs) (J := J) (rf := rf) (g := g) h.t ks49 ks44 (by decide) h.vr (pld_v (c := c) h.vs ht') h5.rl s5 ht'
      refine ⟨I6, g5.trans (cQ_of h.t (Or.inl rfl) q3), ?_⟩
      funext d R
      have b1 := gA_le r (nxt r (pld s c t) t) c
      rw [B121_20, n_4, if_pos (nI_lt ht' (by omega)), B121_26, kg11_8, kO_s, kg11_6, kO_s, krecv_m ks49, kcond_t, e4, kpush_n, B121_37, kg11_8, kO_s, krecv_m ks49, kcond_t, e5, kpush_n, B121_47, kg11_9, kO_s, kg11_2, kO_s, kg11_8, kO_s, kg11_7, kO_s, krecv_m ks54, kcond_t, q4, kpush_n, B121_68, kg11_9, kO_s, krecv_m ks54, kcond_t, sp78g h.vr q1 hc, kpush_s, B121_76, sp278, kmx_g, kpush_s, B121_80, show gA r (nxt r (pld s c t) t) c = bsF r s c t from rfl]
      cases t with
      | zero =>
        rw [if_pos (show nI 0 = 0 from rfl), B121_93, B121_99, nI_add1]
        rfl
      | succ n =>
        have b2 := gA_le r (nxt r (pld s c (abN (bsB r s c) n)) (abN (bsB r s c) n)) c
        rw [if_neg (nI_ne0 (by omega) (by omega)), B121_87, show abV (bsB r s c) (fun y => nI (bsF r s c y)) (n + 1) = nI (bsF r s c (abN (bsB r s c) n)) from rfl]
        by_cases q : bsF r s c (n + 1) < bsF r s c (abN (bsB r s c) n)
        · have hN := abN_t (f := bsB r s c) (n := n) (decide_eq_true q)
          rw [if_pos (nI_lt q (by unfold bsF; omega)), B121_93, B121_99, nI_add1, show abZ (bsB r s c) (n + 1 + 1) = nI (abN (bsB r s c) (n + 1)) from rfl, show abV (bsB r s c) (fun y => nI (bsF r s c y)) (n + 1 + 1) = nI (bsF r s c (abN (bsB r s c) (n + 1))) from rfl, hN]
        · have hN := abN_f (f := bsB r s c) (n := n) (fun e => q (of_decide_eq_true e))
          rw [if_neg (nI_nlt (by omega) (by unfold bsF; omega)), B121_99, nI_add1, show abZ (bsB r s c) (n + 1 + 1) = nI (abN (bsB r s c) (n + 1)) from rfl, show abV (bsB r s c) (fun y => nI (bsF r s c y)) (n + 1 + 1) = nI (bsF r s c (abN (bsB r s c) (n + 1))) from rfl, hN]
          rfl
    obtain ⟨I2, g2, e2⟩ := L
    refine ⟨I2, g2, fun d R => ?_⟩
    have e2' := congrFun (congrFun e2 d) R
    rw [hk, if_neg (by decide), nI_clamp (by omega)]
    have e10 : ¬ (1 : Int32) = 0 := by decide
    rw [B121_0, kg11_2, kO_s, krecv_m ht, kcond_t, sp52 ht, e0, hk, kpush_s, B121_8, if_neg e10, B121_13]
    refine Eq.trans e2' ?_
    rw [B121_20, n_4, if_neg (nI_nlt (Nat.le_refl _) (by omega)), B121_105]
    rfl
  · refine ⟨I, cQ.refl I, fun d R => ?_⟩
    rw [h0, if_pos rfl]
    rw [B121_0, kg11_2, kO_s, krecv_m ht, kcond_t, sp52 ht, e0, h0, kpush_s, B121_8, if_pos rfl, B121_11]
theorem sp232 (h : mB I r s) (x : Int32) : ∃ I', mQ I I' ∧ ∀ d R, kX xs (d + 6) 232 0 [some (.ref 185), some (.int x), none, none, none, none, none] [] (kmm I J rf g) R = R (some (.int (aBest r s x))) (kmm I' J rf g) := by
  have hq := mQ.thr I (nI 0)
  have h' := h.keep hq
  have hc7 := h.vr.c
  have e0 := h'.rl.nc
  unfold aBest
  have e10 : ¬ (1 : Int32) = 0 := by decide
  rcases kidx_c x (show r.nc < 2147483648 by omega) with ⟨c, hc, rfl⟩ | h0
  · have hk := kidx_in hc (show r.nc < 2147483648 by omega)
    have L : ∃ I2, mQ I I2 ∧ (fun (d : Nat) (R : Option Value → KW → Prop) => kX xs (d + 6) 232 12 [some (.ref 185), some (.int (nI c)), some (.int (abI (bsB r s c) 0)), some (.int (abV (bsB r s c) (fun y => nI (bsF r s c y)) 0)), some (.int (nI 0)), none, none] [] (kmm (ku I 185 0 (nI 0)) J rf g) R) = (fun d R => kX xs (d + 6) 232 12 [some (.ref 185), some (.int (nI c)), some (.int (abI (bsB r s c) 4)), some (.int (abV (bsB r s c) (fun y => nI (bsF r s c y)) 4)), some (.int (nI 4)), none, none] [] (kmm I2 J rf g) R) := by
      refine kloop (n := 4) (s0 := ku I 185 0 (nI 0)) (fun t I2 => mQ I I2) (fun t I2 => fun (d : Nat) (R : Option Value → KW → Prop) => kX xs (d + 6) 232 12 [some (.ref 185), some (.int (nI c)), some (.int (abI (bsB r s c) t)), some (.int (abV (bsB r s c) (fun y => nI (bsF r s c y)) t)), some (.int (nI t)), none, none] [] (kmm I2 J rf g) R) hq ?_
      intro t I2 ht' g2
      have h2 := h.keep g2
      have en := h2.rl.nc
      obtain ⟨I4, s4, f4, e4⟩ := sp217 (xs := xs) (J := J) (rf := rf) (g := g) h.vr h2.st
      have g4 := g2.trans (mQ_cp f4)
      have s5 : mSt (ku I4 201 (1178 + c) (nI t)) 1155 r (pld s c t) := by
        have hj7 := h.vr.j
        refine ⟨?_, ?_, fun k hk => ?_, fun k hk => ?_, fun k hk => ?_, fun k hk => ?_⟩
        · rw [ku_nek (by omega), s4.nx]; rfl
        · rw [ku_nek (by omega), s4.rd]; rfl
        · rw [ku_nek (by omega), s4.hd k hk]; rfl
        · rw [ku_nek (by omega), s4.ln k hk]; rfl
        · rw [ku_nek (by omega), s4.ch k hk]; rfl
        · show _ = nI (ku1 s.up c t k)
          by_cases e1 : k = c
          · rw [e1, show 1155 + 23 + c = 1178 + c by omega, ku_same, ku1_s]
          · rw [ku_nek (by omega), ku1_n e1, s4.up k hk]
      have g5 : mQ I (ku I4 201 (1178 + c) (nI t)) := g4.trans (fun x k h1 h2 h3 h4 h5 => ku_ne (by omega))
      have hu := pld_up s c t
      obtain ⟨I6, -, -, -, q3, q4⟩ := sp218 (xs := xs) (J := J) (rf := rf) (g := g) h.vr (pld_v (c := c) h.vs ht') (h.keep g5).rl s5 hc
      rw [hu] at q4
      refine ⟨I6, g5.trans (mQ_of q3), ?_⟩
      funext d R
      have b1 := gA_le r (nxt r (pld s c t) t) c
      rw [B232_12, n_4, if_pos (nI_lt ht' (by omega)), B232_18, krecv_m ks185, kcond_t, sp204, en, hk, kpush_s, B232_23, if_neg e10, B232_26, krecv_m ks185, kcond_t, e4, kpush_n, B232_30, kg12_23, kO_s, c16_1178, nI_add, kw201 (by omega), kO_s, krecv_m ks185, kcond_t, q4, kpush_s, B232_47]
      have key : kX xs (d + 6) 232 60 [some (.ref 185), some (.int (nI c)), some (.int (abI (bsB r s c) t)), some (.int (abV (bsB r s c) (fun y => nI (bsF r s c y)) t)), some (.int (nI t)), none, none] [.int (nI (bsF r s c t))] (kmm I6 J rf g) R = kX xs (d + 6) 232 12 [some (.ref 185), some (.int (nI c)), some (.int (abI (bsB r s c) (t + 1))), some (.int (abV (bsB r s c) (fun y => nI (bsF r s c y)) (t + 1))), some (.int (nI (t + 1))), none, none] [] (kmm I6 J rf g) R := by
        rw [B232_60]
        cases t with
        | zero =>
          rw [show abI (bsB r s c) 0 = -1 from rfl, if_pos (by decide), B232_72, B232_77, if_neg e10, B232_84, B232_90, if_neg e10, B232_96, B232_102, nI_add1]
          rfl
        | succ n =>
          have hle := abN_le (bsB r s c) n
          have b2 := gA_le r (nxt r (pld s c (abN (bsB r s c) n)) (abN (bsB r s c) n)) c
          rw [show abI (bsB r s c) (n + 1) = nI (abN (bsB r s c) n) from rfl, if_neg (nI_pos (by omega)), B232_66, show abV (bsB r s c) (fun y => nI (bsF r s c y)) (n + 1) = nI (bsF r s c (abN (bsB r s c) n)) from rfl]
          by_cases q : bsF r s c (n + 1) < bsF r s c (abN (bsB r s c) n)
          · have hN := abN_t (f := bsB r s c) (n := n) (decide_eq_true q)
            rw [if_pos (nI_lt q (by unfold bsF; omega)), B232_72, B232_77, if_neg e10, B232_84, B232_90, if_neg e10, B232_96, B232_102, nI_add1, show abI (bsB r s c) (n + 1 + 1) = nI (abN (bsB r s c) (n + 1)) from rfl, show abV (bsB r s c) (fun y => nI (bsF r s c y)) (n + 1 + 1) = nI (bsF r s c (abN (bsB r s c) (n + 1))) from rfl, hN]
          · have hN := abN_f (f := bsB r s c) (n := n) (fun e => q (of_decide_eq_true e))
            rw [if_neg (nI_nlt (by omega) (by unfold bsF; omega)), B232_76, B232_77, if_pos rfl, B232_89, B232_90, if_pos rfl, B232_101, B232_102, nI_add1, show abI (bsB r s c) (n + 1 + 1) = nI (abN (bsB r s c) (n + 1)) from rfl, show abV (bsB r s c) (fun y => nI (bsF r s c y)) (n + 1 + 1) = nI (bsF r s c (abN (bsB r s c) (n + 1))) from rfl, hN]
      rcases gtN_c r (nxt r (pld s c t) t) c with hg | ⟨hg, hg2⟩
      · rw [hg, if_neg (nI_pos (by omega)), B232_58]
        exact key
      · have hg3 : bsF r s c t = 0 := hg2
        rw [hg3] at key
        rw [hg, if_pos (by decide), B232_54]
        exact key
    obtain ⟨I2, g2, e2⟩ := L
    refine ⟨I2, g2, fun d R => ?_⟩
    have e2' := congrFun (congrFun e2 d) R
    rw [hk, if_neg (by decide), nI_clamp (by omega)]
    rw [B232_0, kp12_0, kO_s]
    refine Eq.trans e2' ?_
    rw [B232_12, n_4, if_neg (nI_nlt (Nat.le_refl _) (by omega)), B232_109]
  · refine ⟨_, hq, fun d R => ?_⟩
    rw [h0, if_pos rfl]
    rw [B232_0, kp12_0, kO_s, n_0, B232_12, n_4, if_pos (by decide), B232_18, krecv_m ks185, kcond_t, sp204, e0, h0, kpush_s, B232_23, if_pos rfl, B232_109]
end QW
