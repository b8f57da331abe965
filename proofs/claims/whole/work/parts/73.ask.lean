/-! ask, chance -/
def cnN (r : aRl) (s : aSt) (c y : Nat) : Nat → Nat := nsum (fun sh => bN (decide (y ≤ dA r s (s.up c) (srcN r s c sh))))
def amN (r : aRl) (s : aSt) (c : Nat) : Nat := dA r (nxt r s (s.up c)) (s.up c) (dS r (nxt r s (s.up c)) (hC s.up (s.up c) r.nj c))
def chN (r : aRl) (s : aSt) (c y o : Nat) : Nat := (o * (if y ≤ amN r s c then 7 else 0) + (10 - o) * cnN r s c y 7) * 1000000 / 70
def aChance (r : aRl) (s : aSt) (x y o : Int32) : Int32 := if kidx x (nI r.nc) = 0 then -1 else if kwithin y 1 (nI 40) = 0 then -1 else if kidx o (nI 11) = 0 then -1 else if hrd r s (s.up x.toNatClampNeg) x.toNatClampNeg then nI (chN r s x.toNatClampNeg y.toNatClampNeg o.toNatClampNeg) else -1
theorem kwith_c (y : Int32) : (∃ n : Nat, 1 ≤ n ∧ n ≤ 40 ∧ y = nI n ∧ kwithin y 1 (nI 40) = 1) ∨ kwithin y 1 (nI 40) = 0 := by
  unfold kwithin
  by_cases h1 : y < 1
  · exact Or.inr (if_pos h1)
  · by_cases h2 : nI 40 < y
    · rw [if_neg h1, if_pos h2]; exact Or.inr rfl
    · have z1 : (1 : Int32).toInt = 1 := by decide
      have z0 : (0 : Int32).toInt = 0 := by decide
      have z40 : (nI 40).toInt = 40 := by decide
      have h0 : ¬ y < 0 := by rw [Int32.lt_iff_toInt_lt] at h1 ⊢; omega
      obtain ⟨j, hj, rfl⟩ := nI_of h0
      have hj2 : (nI j).toInt = j := nI_toInt hj
      rw [Int32.lt_iff_toInt_lt] at h1 h2
      rw [if_neg (by rw [Int32.lt_iff_toInt_lt]; exact h1), if_neg (by rw [Int32.lt_iff_toInt_lt]; exact h2)]
      exact Or.inl ⟨j, by omega, by omega, rfl, rfl⟩
theorem srcN_nxt (r : aRl) (s : aSt) (d c sh : Nat) : srcN r (nxt r s d) c sh = srcN r s c sh := by
  unfold srcN dM
  rw [nxt_up]
theorem dA_nxt (r : aRl) (s : aSt) (d day p : Nat) : dA r (nxt r s d) day p = dA r s day p := by
  unfold dA gvn dH
  rw [nxt_up, nxt_ch, nxt_ln]
theorem dM_nxt (r : aRl) (s : aSt) (d day : Nat) : dM r (nxt r s d) day = dM r s day := by
  unfold dM
  rw [nxt_up]
theorem cnN_le (r : aRl) (s : aSt) (c y : Nat) : ∀ n, cnN r s c y n ≤ n := by
  intro n
  have := nsum_le (f := fun sh => bN (decide (y ≤ dA r s (s.up c) (srcN r s c sh)))) (b := 1) n (fun k _ => bN_le _)
  unfold cnN
  omega
section ASK
variable {xs : List Int32} {d : Nat} {I I' I2 : Nat → Nat → Int32} {J : Nat → Nat → Int64} {rf : Nat → Nat} {g : Nat} {R : Option Value → KW → Prop} {r : aRl} {s u : aSt} {w : KW} {z : aSn} {M : aM}
theorem idx_div {c j n : Nat} (hj : j < n) : (c * n + j) / n = c ∧ (c * n + j) % n = j := by
  have hn : 0 < n := by omega
  constructor
  · rw [Nat.add_comm, Nat.add_mul_div_right _ _ hn, Nat.div_eq_of_lt hj, Nat.zero_add]
  · rw [Nat.add_comm, Nat.add_mul_mod_self_right, Nat.mod_eq_of_lt hj]
/-- ask -/
theorem sp140 (h : cM I rf r M) : ∃ I', cQ I I' ∧ ∀ d R, kX xs (d + 6) 140 0 [some (.ref 0), none, none, none, none, none, none, none] [] (kmm I J rf g) R = R (some (.int (aAsk r M.H.s M.z))) (kmm I' J rf g) := by
  have ht := h.h.b.t
  have vr := h.h.b.vr
  have hc7 := vr.c
  have hj7 := vr.j
  obtain ⟨I0, f0, e0⟩ := sp138 (xs := xs) (J := J) (g := g) h
  have hL := bs_lt (okB r M.H.s M.z M.z.n) 7
  have L : ∃ I2, cQ I I2 ∧ (fun (d : Nat) (R : Option Value → KW → Prop) => kX xs (d + 6) 140 15 [some (.ref 0), some (.int (nI (shN r M.H.s M.z))), some (.int (nI (asS r M.H.s M.z (0 * r.nj)).1)), some (.int (asS r M.H.s M.z (0 * r.nj)).2), some (.int (nI 0)), none, none, none] [] (kmm I0 J rf g) R) = (fun d R => kX xs (d + 6) 140 15 [some (.ref 0), some (.int (nI (shN r M.H.s M.z))), some (.int (nI (asS r M.H.s M.z (r.nc * r.nj)).1)), some (.int (asS r M.H.s M.z (r.nc * r.nj)).2), some (.int (nI r.nc)), none, none, none] [] (kmm I2 J rf g) R) := by
    refine kloop (n := r.nc) (s0 := I0) (fun i I2 => cQ I I2) (fun i I2 => fun (d : Nat) (R : Option Value → KW → Prop) => kX xs (d + 6) 140 15 [some (.ref 0), some (.int (nI (shN r M.H.s M.z))), some (.int (nI (asS r M.H.s M.z (i * r.nj)).1)), some (.int (asS r M.H.s M.z (i * r.nj)).2), some (.int (nI i)), none, none, none] [] (kmm I2 J rf g) R) f0 ?_
    intro c I2 hc g2
    have L2 : ∃ I3, cQ I I3 ∧ (fun (d : Nat) (R : Option Value → KW → Prop) => kX xs (d + 6) 140 30 [some (.ref 0), some (.int (nI (shN r M.H.s M.z))), some (.int (nI (asS r M.H.s M.z (c * r.nj + 0)).1)), some (.int (asS r M.H.s M.z (c * r.nj + 0)).2), some (.int (nI c)), some (.int (nI 0)), none, none] [] (kmm I2 J rf g) R) = (fun d R => kX xs (d + 6) 140 30 [some (.ref 0), some (.int (nI (shN r M.H.s M.z))), some (.int (nI (asS r M.H.s M.z (c * r.nj + r.nj)).1)), some (.int (asS r M.H.s M.z (c * r.nj + r.nj)).2), some (.int (nI c)), some (.int (nI r.nj)), none, none] [] (kmm I3 J rf g) R) := by
      refine kloop (n := r.nj) (s0 := I2) (fun j I3 => cQ I I3) (fun j I3 => fun (d : Nat) (R : Option Value → KW → Prop) => kX xs (d + 6) 140 30 [some (.ref 0), some (.int (nI (shN r M.H.s M.z))), some (.int (nI (asS r M.H.s M.z (c * r.nj + j)).1)), some (.int (asS r M.H.s M.z (c * r.nj + j)).2), some (.int (nI c)), some (.int (nI j)), none, none] [] (kmm I3 J rf g) R) g2 ?_
      intro j I3 hj g3
      have h3 := h.keep g3
      obtain ⟨I4, q3, q4⟩ := sp139 (xs := xs) (J := J) (g := g) h3.h.b hc hj
      refine ⟨I4, g3.trans q3, ?_⟩
      funext d R
      have en := h3.h.b.rl.nj
      obtain ⟨i1, i2, i3⟩ := in_le r M.H.s M.z c j
      obtain ⟨x1, x2⟩ := idx_div (c := c) hj
      have b7 := pc_le (shN r M.H.s M.z)
      have a7 := asS_le r M.H.s M.z (c * r.nj + j)
      have b1 := bs_lt (fun sh => okB r M.H.s M.z M.z.n sh && gotB r M.H.s c j sh) 7
      have b2 := bs_lt (fun sh => okB r M.H.s M.z M.z.n sh && !gotB r M.H.s c j sh) 7
      have g7 := grN_le r M.H.s M.z c j
      have hgr : max (inN r M.H.s M.z c j) (pc (shN r M.H.s M.z) - inN r M.H.s M.z c j) = grN r M.H.s M.z c j := rfl
      have eAS : asS r M.H.s M.z (c * r.nj + (j + 1)) = if grN r M.H.s M.z c j < (asS r M.H.s M.z (c * r.nj + j)).1 then (grN r M.H.s M.z c j, nI (8 * c + j)) else asS r M.H.s M.z (c * r.nj + j) := by
        rw [← Nat.add_assoc, asS, x1, x2]
      have z1 : nI (shN r M.H.s M.z) &&& nI (bs (gotB r M.H.s c j) 7) = nI (bs (fun sh => okB r M.H.s M.z M.z.n sh && gotB r M.H.s c j sh) 7) := by
        rw [nI_and]; unfold shN; rw [bs_and]
      have z2 : nI (shN r M.H.s M.z) &&& (nI (bs (gotB r M.H.s c j) 7) ^^^ (-1)) = nI (bs (fun sh => okB r M.H.s M.z M.z.n sh && !gotB r M.H.s c j sh) 7) := by
        rw [nI_m1n, nI_xor, nI_and]; unfold shN; rw [bs_ann]
      rw [B140_30, kg11_2, kO_s, kg6_0 ht, kO_s, en, if_pos (nI_lt hj (by omega)), B140_42, krecv_m ks0, kcond_t, q4, kpush_s, B140_50, z1, sp275, bc32_pc (by omega), i3, kpush_s, B140_59, z2, sp275, bc32_pc (by omega), i2, kpush_s, B140_68, sp278, kmax_n (by omega) (by omega), hgr, kpush_s, B140_71, eAS]
      by_cases q : grN r M.H.s M.z c j < (asS r M.H.s M.z (c * r.nj + j)).1
      · rw [if_pos (nI_lt q (by omega)), if_pos q, B140_79, c8_8, pk_mul, nI_add, B140_91, nI_add1]
      · rw [if_neg (nI_nlt (by omega) (by omega)), if_neg q, B140_91, nI_add1]
    obtain ⟨I3, g3, e3⟩ := L2
    refine ⟨I3, g3, ?_⟩
    funext d R
    have e3' := congrFun (congrFun e3 d) R
    have en := (h.keep g2).h.b.rl.nc
    have en3 := (h.keep g3).h.b.rl.nj
    rw [B140_15, kg11_2, kO_s, kg6_1 ht, kO_s, en, if_pos (nI_lt hc (by omega)), B140_27]
    refine Eq.trans e3' ?_
    rw [B140_30, kg11_2, kO_s, kg6_0 ht, kO_s, en3, if_neg (nI_nlt (Nat.le_refl _) (by omega)), B140_97, nI_add1, Nat.succ_mul]
  obtain ⟨I2, g2, e2⟩ := L
  refine ⟨I2, g2, fun d R => ?_⟩
  have e2' := congrFun (congrFun e2 d) R
  have en := (h.keep g2).h.b.rl.nc
  have e0' : ∀ R, kX xs (d + 5) 138 0 [some (.ref 0), none, none, none] [] (kmm I J rf g) R = R (some (.int (nI (shN r M.H.s M.z)))) (kmm I0 J rf g) := e0 d
  rw [B140_0, krecv_m ks0, kcond_t, e0', kpush_s, B140_4, sp275, bc32_pc (show shN r M.H.s M.z < 128 from hL), kpush_s, B140_9]
  rw [Nat.zero_mul] at e2'
  refine Eq.trans e2' ?_
  rw [B140_15, kg11_2, kO_s, kg6_1 ht, kO_s, en, if_neg (nI_nlt (Nat.le_refl _) (by omega)), B140_103]
  rfl
/-- bits -/
theorem sp206 {t : Nat} (h : t < 128) : kX xs d 206 0 [some (.int (nI t)), none, none] [] w R = R (some (.int (nI (pc t)))) w := by
  have L := kchain (n := 30) (fun i => kX xs d 206 4 [some (.int (nI t)), some (.int (nI (nsum (fun k => bN (t.testBit k)) i))), some (.int (nI i))] [] w R) (by
    intro i hi
    show kX xs d 206 4 _ _ _ _ = kX xs d 206 4 _ _ _ _
    rw [B206_4, c8_30, if_pos (nI_lt hi (by omega)), B206_10, nI_tb (by omega) (by omega), nI_add, nI_add1]
    rfl)
  have e30 : nsum (fun k => bN (t.testBit k)) 30 = pc t := by
    have := nsum_0 (f := fun k => bN (t.testBit k)) (m := 7) 23 (fun k h1 _ => by show bN (t.testBit k) = 0; rw [tb_low (n := 7) h h1]; rfl)
    rw [show 7 + 23 = 30 from rfl] at this
    rw [this]
    show 0 + bN (t.testBit 0) + bN (t.testBit 1) + bN (t.testBit 2) + bN (t.testBit 3) + bN (t.testBit 4) + bN (t.testBit 5) + bN (t.testBit 6) = _
    unfold pc
    omega
  rw [B206_0]
  refine Eq.trans L ?_
  rw [B206_4, c8_30, if_neg (nI_nlt (Nat.le_refl _) (by omega)), B206_24, e30]
theorem sp258 (h : mM I r M) : ∃ I', mQ I I' ∧ ∀ d R, kX xs (d + 5) 258 0 [some (.ref 185), none, none, none, none, none, none, none, none, none] [] (kmm I J rf g) R = R (some (.int (aAsk r M.H.s M.z))) (kmm I' J rf g) := by
  have hq := mQ.thr I (nI 0)
  have vr := h.h.b.vr
  have hc7 := vr.c
  have hj7 := vr.j
  obtain ⟨I0, f0, e0⟩ := sp256 (xs := xs) (J := J) (rf := rf) (g := g) (h.keep hq)
  have hL := bs_lt (okB r M.H.s M.z M.z.n) 7
  have b7 := pc_le (shN r M.H.s M.z)
  have hcj : r.nc * r.nj ≤ 49 := Nat.mul_le_mul hc7 hj7
  have L : ∃ I2, mQ I I2 ∧ (fun (d : Nat) (R : Option Value → KW → Prop) => kX xs (d + 5) 258 23 [some (.ref 185), some (.int (nI (shN r M.H.s M.z))), some (.int (nI (pc (shN r M.H.s M.z)))), some (.int (asS r M.H.s M.z 0).2), some (.int (nI (asS r M.H.s M.z 0).1)), some (.int (nI 0)), none, none, none, none] [] (kmm I0 J rf g) R) = (fun d R => kX xs (d + 5) 258 23 [some (.ref 185), some (.int (nI (shN r M.H.s M.z))), some (.int (nI (pc (shN r M.H.s M.z)))), some (.int (asS r M.H.s M.z (r.nc * r.nj)).2), some (.int (nI (asS r M.H.s M.z (r.nc * r.nj)).1)), some (.int (nI (r.nc * r.nj))), none, none, none, none] [] (kmm I2 J rf g) R) := by
    refine kloop (n := r.nc * r.nj) (s0 := I0) (fun i I2 => mQ I I2) (fun i I2 => fun (d : Nat) (R : Option Value → KW → Prop) => kX xs (d + 5) 258 23 [some (.ref 185), some (.int (nI (shN r M.H.s M.z))), some (.int (nI (pc (shN r M.H.s M.z)))), some (.int (asS r M.H.s M.z i).2), some (.int (nI (asS r M.H.s M.z i).1)), some (.int (nI i)), none, none, none, none] [] (kmm I2 J rf g) R) (hq.trans f0) ?_
    intro k I2 hk g2
    have h2 := h.keep g2
    have hnj : 0 < r.nj := by
      rcases Nat.eq_zero_or_pos r.nj with e | e
      · rw [e, Nat.mul_zero] at hk; omega
      · exact e
    have hc : k / r.nj < r.nc := by rw [Nat.div_lt_iff_lt_mul hnj]; exact hk
    have hj : k % r.nj < r.nj := Nat.mod_lt _ hnj
    have L2 : ∃ I3, mQ I I3 ∧ (fun (d : Nat) (R : Option Value → KW → Prop) => kX xs (d + 5) 258 61 [some (.ref 185), some (.int (nI (shN r M.H.s M.z))), some (.int (nI (pc (shN r M.H.s M.z)))), some (.int (asS r M.H.s M.z k).2), some (.int (nI (asS r M.H.s M.z k).1)), some (.int (nI k)), some (.int (nI (k / r.nj))), some (.int (nI (k % r.nj))), some (.int (nI (nsum (fun sh => bN (okB r M.H.s M.z M.z.n sh && gotB r M.H.s (k / r.nj) (k % r.nj) sh)) 0))), some (.int (nI 0))] [] (kmm I2 J rf g) R) = (fun d R => kX xs (d + 5) 258 61 [some (.ref 185), some (.int (nI (shN r M.H.s M.z))), some (.int (nI (pc (shN r M.H.s M.z)))), some (.int (asS r M.H.s M.z k).2), some (.int (nI (asS r M.H.s M.z k).1)), some (.int (nI k)), some (.int (nI (k / r.nj))), some (.int (nI (k % r.nj))), some (.int (nI (nsum (fun sh => bN (okB r M.H.s M.z M.z.n sh && gotB r M.H.s (k / r.nj) (k % r.nj) sh)) 7))), some (.int (nI 7))] [] (kmm I3 J rf g) R) := by
      refine kloop (n := 7) (s0 := I2) (fun i I3 => mQ I I3) (fun i I3 => fun (d : Nat) (R : Option Value → KW → Prop) => kX xs (d + 5) 258 61 [some (.ref 185), some (.int (nI (shN r M.H.s M.z))), some (.int (nI (pc (shN r M.H.s M.z)))), some (.int (asS r M.H.s M.z k).2), some (.int (nI (asS r M.H.s M.z k).1)), some (.int (nI k)), some (.int (nI (k / r.nj))), some (.int (nI (k % r.nj))), some (.int (nI (nsum (fun sh => bN (okB r M.H.s M.z M.z.n sh && gotB r M.H.s (k / r.nj) (k % r.nj) sh)) i))), some (.int (nI i))] [] (kmm I3 J rf g) R) g2 ?_
      intro sh I3 hsh g3
      have tb : (shN r M.H.s M.z).testBit sh = okB r M.H.s M.z M.z.n sh := by
        unfold shN
        rw [bs_tb, decide_eq_true hsh, Bool.true_and]
      have hl31 : shN r M.H.s M.z < 2 ^ 31 := by
        have : shN r M.H.s M.z < 2 ^ 7 := hL
        omega
      cases hok : okB r M.H.s M.z M.z.n sh with
      | false =>
        rw [hok] at tb
        refine ⟨I3, g3, ?_⟩
        funext d R
        rw [B258_61, c8_7, if_pos (nI_lt hsh (by omega)), B258_68, nI_tb hl31 (by omega), tb, if_neg (show ¬ nI (bN false) = 1 by decide), B258_97, B258_98, nI_add1, nsum, hok, n_0, nI_add]
        rfl
      | true =>
        rw [hok] at tb
        obtain ⟨I4, q3, q4⟩ := sp255 (xs := xs) (J := J) (rf := rf) (g := g) (h.keep g3).h.b hc hj (show sh ≤ 6 by omega)
        refine ⟨I4, g3.trans q3, ?_⟩
        funext d R
        rw [B258_61, c8_7, if_pos (nI_lt hsh (by omega)), B258_68, nI_tb hl31 (by omega), tb, if_pos (show nI (bN true) = 1 from rfl), B258_80, krecv_m ks185, kcond_t, q4, kpush_s, B258_90, nsum, hok]
        cases gotB r M.H.s (k / r.nj) (k % r.nj) sh with
        | false => rw [if_pos (show nI (bN false) = 0 from rfl), B258_97, B258_98, nI_add1, n_0, nI_add]; rfl
        | true => rw [if_neg (show ¬ nI (bN true) = 0 by decide), B258_93, B258_98, nI_add1, nI_add1]; rfl
    obtain ⟨I3, g3, e3⟩ := L2
    refine ⟨I3, g3, ?_⟩
    funext d R
    have e3' := congrFun (congrFun e3 d) R
    have e0c := h2.h.b.rl.nc
    have e0j := h2.h.b.rl.nj
    obtain ⟨i1, i2, i3⟩ := in_le r M.H.s M.z (k / r.nj) (k % r.nj)
    have a7 := asS_le r M.H.s M.z k
    have g7 := grN_le r M.H.s M.z (k / r.nj) (k % r.nj)
    have nj0 : ¬ nI r.nj = 0 := nI_ne0 hnj (by omega)
    rw [B258_23, krecv_m ks185, kcond_t, sp200, kpush_s, B258_29, krecv_m ks185, kcond_t, sp199, kpush_s, B258_33, e0c, e0j, pk_mul, if_pos (nI_lt hk (by omega)), B258_37, krecv_m ks185, kcond_t, sp199, kpush_s, B258_43, e0j, if_neg nj0, krecv_m ks185, kcond_t, sp199, kpush_s, B258_52, e0j, if_neg nj0, pk_rem (by omega) hnj (by omega), pk_div (by omega) hnj (by omega)]
    refine Eq.trans e3' ?_
    rw [show nsum (fun sh => bN (okB r M.H.s M.z M.z.n sh && gotB r M.H.s (k / r.nj) (k % r.nj) sh)) 7 = inN r M.H.s M.z (k / r.nj) (k % r.nj) from rfl, B258_61, c8_7, if_neg (nI_nlt (Nat.le_refl _) (by omega)), B258_107, pk_sub i1]
    have key : kX xs (d + 5) 258 125 [some (.ref 185), some (.int (nI (shN r M.H.s M.z))), some (.int (nI (pc (shN r M.H.s M.z)))), some (.int (asS r M.H.s M.z k).2), some (.int (nI (asS r M.H.s M.z k).1)), some (.int (nI k)), some (.int (nI (k / r.nj))), some (.int (nI (k % r.nj))), none, none] [.int (nI (grN r M.H.s M.z (k / r.nj) (k % r.nj)))] (kmm I3 J rf g) R = kX xs (d + 5) 258 23 [some (.ref 185), some (.int (nI (shN r M.H.s M.z))), some (.int (nI (pc (shN r M.H.s M.z)))), some (.int (asS r M.H.s M.z (k + 1)).2), some (.int (nI (asS r M.H.s M.z (k + 1)).1)), some (.int (nI (k + 1))), none, none, none, none] [] (kmm I3 J rf g) R := by
      rw [B258_125, asS]
      by_cases q : grN r M.H.s M.z (k / r.nj) (k % r.nj) < (asS r M.H.s M.z k).1
      · rw [if_pos (nI_lt q (by omega)), if_pos q, B258_134, c8_8, pk_mul, nI_add, B258_146, if_pos (nI_lt q (by omega)), B258_154, B258_161, nI_add1]
      · rw [if_neg (nI_nlt (by omega) (by omega)), if_neg q, B258_145, B258_146, if_neg (nI_nlt (by omega) (by omega)), B258_159, B258_161, nI_add1]
    by_cases q : pc (shN r M.H.s M.z) - inN r M.H.s M.z (k / r.nj) (k % r.nj) < inN r M.H.s M.z (k / r.nj) (k % r.nj)
    · have hg : grN r M.H.s M.z (k / r.nj) (k % r.nj) = inN r M.H.s M.z (k / r.nj) (k % r.nj) := by unfold grN; omega
      rw [hg] at key
      rw [if_pos (nI_lt q (by omega)), B258_116]
      exact key
    · have hg : grN r M.H.s M.z (k / r.nj) (k % r.nj) = pc (shN r M.H.s M.z) - inN r M.H.s M.z (k / r.nj) (k % r.nj) := by unfold grN; omega
      rw [hg] at key
      rw [if_neg (nI_nlt (by omega) (by omega)), B258_121, pk_sub i1]
      exact key
  obtain ⟨I2, g2, e2⟩ := L
  refine ⟨I2, g2, fun d R => ?_⟩
  have e2' := congrFun (congrFun e2 d) R
  have e0c := (h.keep g2).h.b.rl.nc
  have e0j := (h.keep g2).h.b.rl.nj
  rw [B258_0, kp12_0, kO_s, n_0, krecv_m ks185, kcond_t, e0, kpush_s, B258_9, sp206 (show shN r M.H.s M.z < 128 from hL), kpush_s, B258_14]
  refine Eq.trans e2' ?_
  rw [B258_23, krecv_m ks185, kcond_t, sp200, kpush_s, B258_29, krecv_m ks185, kcond_t, sp199, kpush_s, B258_33, e0c, e0j, pk_mul, if_neg (nI_nlt (Nat.le_refl _) (by omega)), B258_169]
  rfl
/-- chance -/
theorem ch_bound (o X C : Nat) (ho : o ≤ 10) (hX : X = 0 ∨ X = 7) (hC : C ≤ 7) : o * X ≤ 70 ∧ (10 - o) * C ≤ 70 := by
  constructor
  · rcases hX with rfl | rfl <;> omega
  · exact Nat.mul_le_mul (show 10 - o ≤ 10 by omega) hC
theorem sp141 (h : cB I rf r s) (x y o : Int32) : ∃ I', cQ I I' ∧ ∀ d R, kX xs (d + 6) 141 0 [some (.ref 0), some (.int x), some (.int y), some (.int o), none, none, none] [] (kmm I J rf g) R = R (some (.int (aChance r s x y o))) (kmm I' J rf g) := by
  have ht := h.t
  have hc7 := h.vr.c
  have e0 := h.rl.nc
  unfold aChance
  rcases kidx_c x (show r.nc < 2147483648 by omega) with ⟨c, hc, rfl⟩ | h0
  · have hk := kidx_in hc (show r.nc < 2147483648 by omega)
    rcases kwith_c y with ⟨n, hn1, hn2, rfl, hk2⟩ | h1
    · rcases kidx_c o (show 11 < 2147483648 by omega) with ⟨v, hv, rfl⟩ | h2
      · have hk3 := kidx_in hv (show 11 < 2147483648 by omega)
        have hw3 : kwithin (nI v) 0 (nI 10) = 1 := kwithin_in (n := 10) (show v ≤ 10 by omega) (by omega)
        have hu := h.vs.up c (by omega)
        obtain ⟨I1, q1, q3, q4⟩ := sp66q (xs := xs) (J := J) (g := g) h hu
        refine ⟨I1, q3, fun d R => ?_⟩
        have hnx := nxt_nx (r := r) h.vs.nx hu
        have eu := h.st.up c (by omega)
        have hm7 := dM7 h.vr (nxt r s (s.up c)) (nxt r s (s.up c)).nx
        simp only [hk, hk2, hk3, i10, if_false]
        rw [nI_clamp (by omega), nI_clamp (by omega), nI_clamp (by omega)]
        rw [B141_0, kg11_2, kO_s, krecv_m ht, kcond_t, sp52 ht, e0, hk, kpush_s, B141_8, if_neg (by decide), B141_11, c8_40, sp154, hk2, kpush_s, B141_18, if_neg (by decide), B141_21, c8_10, sp154, hw3, kpush_s, B141_28, if_neg (by decide), B141_33, kg11_9, kO_s, kg11_2, kO_s, kg11_6, kO_s, kg11_7, kO_s, kO_s, kg9_3 ks39, kO_s, ka9_2 ks39 (by omega), kO_s, eu, krecv_m ks54, kcond_t, q4, kpush_n, B141_61, kg11_9, kO_s, krecv_m ks54, kcond_t, sp78g h.vr q1 hc, kpush_s, B141_69]
        unfold gtN
        have hiff : hrd r (nxt r s (s.up c)) (nxt r s (s.up c)).nx c = hrd r s (s.up c) c := by unfold hrd; rw [hnx, nxt_up]
        by_cases hh : hrd r s (s.up c) c
        · have hh' : hrd r (nxt r s (s.up c)) (nxt r s (s.up c)).nx c := by rw [hiff]; exact hh
          have hh2 : hrd r (nxt r s (s.up c)) ((nxt r s (s.up c)).up c) c := by rw [nxt_up]; unfold hrd; rw [nxt_up]; exact hh
          have hA : dA r (nxt r s (s.up c)) (nxt r s (s.up c)).nx (dS r (nxt r s (s.up c)) (hC (nxt r s (s.up c)).up (nxt r s (s.up c)).nx r.nj c)) = amN r s c := by
            unfold amN
            rw [nxt_up, hnx]
          have bA := dA_le r (nxt r s (s.up c)) (s.up c) (dS r (nxt r s (s.up c)) (hC s.up (s.up c) r.nj c))
          have bA' : amN r s c ≤ 40 := bA
          rw [if_pos hh', if_pos hh, hA, if_neg (by rw [nI_m1 (by omega)]; exact id), B141_79]
          have L := kchain (n := 7) (fun sh => kX xs (d + 6) 141 85 [some (.ref 0), some (.int (nI c)), some (.int (nI n)), some (.int (nI v)), some (.int (nI (amN r s c))), some (.int (nI (cnN r s c n sh))), some (.int (nI sh))] [] (kmm I1 J rf g) R) (by
            intro sh hsh
            show kX xs (d + 6) 141 85 _ _ _ _ = kX xs (d + 6) 141 85 _ _ _ _
            have hlt := srcN_lt (sh := sh) hc hh2
            have hup : (nxt r s (s.up c)).up c = (nxt r s (s.up c)).nx := by rw [nxt_up, hnx]
            rw [hup] at hlt
            have ea := q1.day.a _ hlt
            have ea' : I1 56 (srcN r (nxt r s (s.up c)) c sh) = nI (dA r s (s.up c) (srcN r s c sh)) := by rw [ea, dA_nxt, hnx, srcN_nxt]
            have bD := dA_le r s (s.up c) (srcN r s c sh)
            have hcn : cnN r s c n (sh + 1) = cnN r s c n sh + bN (decide (n ≤ dA r s (s.up c) (srcN r s c sh))) := rfl
            rw [B141_85, c8_7, if_pos (nI_lt hsh (by omega)), B141_92, kg11_9, kO_s, kO_s, krecv_m ks54, kcond_t, sp79g h.vr q1.day hup hc (by omega), if_pos hh', kpush_s, B141_106, krecv_m ks54, kcond_t, sp74 hm7 q1.day.m hlt, ea', kpush_s, B141_109, hcn]
            by_cases q : dA r s (s.up c) (srcN r s c sh) < n
            · rw [if_pos (nI_lt q (by omega)), B141_116, nI_add1, show decide (n ≤ dA r s (s.up c) (srcN r s c sh)) = false from decide_eq_false (by omega)]; rfl
            · rw [if_neg (nI_nlt (by omega) (by omega)), B141_113, B141_116, nI_add1, nI_add1, show decide (n ≤ dA r s (s.up c) (srcN r s c sh)) = true from decide_eq_true (by omega)]; rfl)
          refine Eq.trans L ?_
          have bc := cnN_le r s c n 7
          have e6 : (1000000 : Int32) = nI 1000000 := rfl
          rw [B141_85, c8_7, if_neg (nI_nlt (Nat.le_refl _) (by omega)), B141_122]
          unfold chN
          by_cases q : amN r s c < n
          · obtain ⟨y1, y2⟩ := ch_bound v 0 (cnN r s c n 7) (by omega) (Or.inl rfl) bc
            rw [if_pos (nI_lt q (by omega)), B141_133, B141_134, c8_70, if_neg (by decide), c8_10, n_0, pk_mul, pk_sub (by omega), pk_mul, nI_add, e6, pk_mul, pk_div (by omega) (by omega) (by omega), if_neg (by omega)]
          · obtain ⟨y1, y2⟩ := ch_bound v 7 (cnN r s c n 7) (by omega) (Or.inr rfl) bc
            rw [if_neg (nI_nlt (by omega) (by omega)), B141_128, B141_134, c8_70, if_neg (by decide), c8_10, c8_7, pk_mul, pk_sub (by omega), pk_mul, nI_add, e6, pk_mul, pk_div (by omega) (by omega) (by omega), if_pos (by omega)]
        · have hh' : ¬ hrd r (nxt r s (s.up c)) (nxt r s (s.up c)).nx c := by rw [hiff]; exact hh
          rw [if_neg hh', if_neg hh, if_pos rfl, B141_77]
      · refine ⟨I, cQ.refl I, fun d R => ?_⟩
        have hw3 : kwithin o 0 (nI 10) = 0 := by have := kwi10 o; rw [h2] at this; exact this
        simp only [hk, hk2, h2, i10, if_false, if_true]
        rw [B141_0, kg11_2, kO_s, krecv_m ht, kcond_t, sp52 ht, e0, hk, kpush_s, B141_8, if_neg (by decide), B141_11, c8_40, sp154, hk2, kpush_s, B141_18, if_neg (by decide), B141_21, c8_10, sp154, hw3, kpush_s, B141_28, if_pos rfl, B141_31]
    · refine ⟨I, cQ.refl I, fun d R => ?_⟩
      simp only [hk, h1, i10, if_false, if_true]
      rw [B141_0, kg11_2, kO_s, krecv_m ht, kcond_t, sp52 ht, e0, hk, kpush_s, B141_8, if_neg (by decide), B141_11, c8_40, sp154, h1, kpush_s, B141_18, if_pos rfl, B141_31]
  · refine ⟨I, cQ.refl I, fun d R => ?_⟩
    simp only [h0, if_true]
    rw [B141_0, kg11_2, kO_s, krecv_m ht, kcond_t, sp52 ht, e0, h0, kpush_s, B141_8, if_pos rfl, B141_31]
theorem sp259 (h : mB I r s) (x y o : Int32) : ∃ I', mQ I I' ∧ ∀ d R, kX xs (d + 7) 259 0 [some (.ref 185), some (.int x), some (.int y), some (.int o), none, none, none] [] (kmm I J rf g) R = R (some (.int (aChance r s x y o))) (kmm I' J rf g) := by
  have hq := mQ.thr I (nI 0)
  have h' := h.keep hq
  have hc7 := h.vr.c
  have e0 := h'.rl.nc
  unfold aChance
  rcases kidx_c x (show r.nc < 2147483648 by omega) with ⟨c, hc, rfl⟩ | h0
  · have hk := kidx_in hc (show r.nc < 2147483648 by omega)
    rcases kwith_c y with ⟨n, hn1, hn2, rfl, hk2⟩ | h1
    · rcases kidx_c o (show 11 < 2147483648 by omega) with ⟨v, hv, rfl⟩ | h2
      · have hk3 := kidx_in hv (show 11 < 2147483648 by omega)
        have hw3 : kwithin (nI v) 0 (nI 10) = 1 := kwithin_in (n := 10) (show v ≤ 10 by omega) (by omega)
        have hu := h.vs.up c (by omega)
        have hnx := nxt_nx (r := r) h.vs.nx hu
        have hiff : hrd r (nxt r s (s.up c)) (nxt r s (s.up c)).nx c = hrd r s (s.up c) c := by unfold hrd; rw [hnx, nxt_up]
        obtain ⟨I1, a1, a2, a3, a4, a5⟩ := sp219 (xs := xs) (J := J) (rf := rf) (g := g) h' hc
        have h1 := h'.keep a4
        have ent : ∀ d R, kX xs (d + 7) 259 0 [some (.ref 185), some (.int (nI c)), some (.int (nI n)), some (.int (nI v)), none, none, none] [] (kmm I J rf g) R = kX xs (d + 7) 259 38 [some (.ref 185), some (.int (nI c)), some (.int (nI n)), some (.int (nI v)), none, none, none] [.int (gtN r (nxt r s (s.up c)) c)] (kmm I1 J rf g) R := by
          intro d R
          rw [B259_0, kp12_0, kO_s, krecv_m ks185, kcond_t, show (0 : Int32) = nI 0 from rfl, sp204, e0, hk, kpush_s, B259_10, ← n_0, if_neg (by decide), B259_13, c8_40, sp171, hk2, kpush_s, B259_20, if_neg (by decide), B259_23, c8_10, sp171, hw3, kpush_s, B259_30, if_neg (by decide), B259_33, krecv_m ks185, kcond_t]
          exact a5 d _
        by_cases hh : hrd r s (s.up c) c
        · have hh' : hrd r (nxt r s (s.up c)) (nxt r s (s.up c)).nx c := by rw [hiff]; exact hh
          have hG : gtN r (nxt r s (s.up c)) c = nI (amN r s c) := by
            unfold gtN amN
            rw [if_pos hh', nxt_up, hnx]
          have bA : amN r s c ≤ 40 := dA_le _ _ _ _
          obtain ⟨I2, b1, b2, b3, b4, b5⟩ := sp219 (xs := xs) (J := J) (rf := rf) (g := g) h1 hc
          have h2 := h1.keep b4
          have L : ∃ I3, mQ I2 I3 ∧ (fun (d : Nat) (R : Option Value → KW → Prop) => kX xs (d + 7) 259 67 [some (.ref 185), some (.int (nI c)), some (.int (nI n)), some (.int (nI v)), some (.long (lN (v * (if n ≤ amN r s c then 7 else 0) + (10 - v) * cnN r s c n 0))), none, some (.int (nI 0))] [] (kmm I2 J rf g) R) = (fun d R => kX xs (d + 7) 259 67 [some (.ref 185), some (.int (nI c)), some (.int (nI n)), some (.int (nI v)), some (.long (lN (v * (if n ≤ amN r s c then 7 else 0) + (10 - v) * cnN r s c n 7))), none, some (.int (nI 7))] [] (kmm I3 J rf g) R) := by
            refine kloop (n := 7) (s0 := I2) (fun i I3 => mQ I2 I3) (fun i I3 => fun (d : Nat) (R : Option Value → KW → Prop) => kX xs (d + 7) 259 67 [some (.ref 185), some (.int (nI c)), some (.int (nI n)), some (.int (nI v)), some (.long (lN (v * (if n ≤ amN r s c then 7 else 0) + (10 - v) * cnN r s c n i))), none, some (.int (nI i))] [] (kmm I3 J rf g) R) (mQ.refl I2) ?_
            intro sh I3 hsh g3
            have h3 := h2.keep g3
            obtain ⟨I4, q1, q3, q4⟩ := sp254 (xs := xs) (J := J) (rf := rf) (g := g) h3 hc (show sh ≤ 6 by omega)
            refine ⟨I4, g3.trans q3, ?_⟩
            have h4 := h3.keep q3
            have hlt := srcN_lt (sh := sh) hc hh
            have bD := dA_le r s (s.up c) (srcN r s c sh)
            have hcn : cnN r s c n (sh + 1) = cnN r s c n sh + bN (decide (n ≤ dA r s (s.up c) (srcN r s c sh))) := rfl
            have e9 : ∀ A, A + (10 - v) * cnN r s c n sh + (10 - v) = A + (10 - v) * (cnN r s c n sh + 1) := fun A => by rw [Nat.mul_succ, Nat.add_assoc]
            funext d R
            rw [B259_67, c8_7, if_pos (nI_lt hsh (by omega)), B259_74, krecv_m ks185, kcond_t, q4, if_pos hh, kpush_s, B259_85, krecv_m ks185, kcond_t, show (0 : Int32) = nI 0 from rfl, sp214 (b := 0) (by omega) h.vr h.vs h4.rl h4.st q1 hlt, kpush_s, B259_88, hcn]
            by_cases q : dA r s (s.up c) (srcN r s c sh) < n
            · rw [if_pos (nI_lt q (by omega)), B259_101, B259_102, nI_add1, show decide (n ≤ dA r s (s.up c) (srcN r s c sh)) = false from decide_eq_false (by omega), show (0 : Int64) = lN 0 from rfl, lN_add]; rfl
            · rw [if_neg (nI_nlt (by omega) (by omega)), B259_92, B259_102, nI_add1, show decide (n ≤ dA r s (s.up c) (srcN r s c sh)) = true from decide_eq_true (by omega), nI_l (by omega), show (10 : Int64) = lN 10 from rfl, lN_sub (by omega), lN_add, e9]; rfl
          obtain ⟨I3, g3, e3⟩ := L
          refine ⟨I3, ((hq.trans a4).trans b4).trans g3, fun d R => ?_⟩
          have e3' := congrFun (congrFun e3 d) R
          simp only [hk, hk2, hk3, i10, if_false]
          rw [nI_clamp (by omega), nI_clamp (by omega), nI_clamp (by omega), if_pos hh]
          rw [ent, hG, B259_38, if_neg (nI_pos (by omega)), B259_43, krecv_m ks185, kcond_t, b5, hG, kpush_s, B259_48]
          have key : kX xs (d + 7) 259 62 [some (.ref 185), some (.int (nI c)), some (.int (nI n)), some (.int (nI v)), none, none, none] [.long (lN (v * (if n ≤ amN r s c then 7 else 0)))] (kmm I2 J rf g) R = R (some (.int (nI (chN r s c n v)))) (kmm I3 J rf g) := by
            rw [B259_62]
            refine Eq.trans e3' ?_
            have bc := cnN_le r s c n 7
            rw [B259_67, c8_7, if_neg (nI_nlt (Nat.le_refl _) (by omega)), B259_111, if_neg (by decide), show (1000000 : Int64) = lN 1000000 from rfl, lN_mul, show (70 : Int64) = lN 70 from rfl]
            have bd : v * (if n ≤ amN r s c then 7 else 0) ≤ 70 ∧ (10 - v) * cnN r s c n 7 ≤ 70 := ch_bound v _ (cnN r s c n 7) (by omega) (by split; exact Or.inr rfl; exact Or.inl rfl) bc
            rw [pk_lDiv (by omega) (by omega) (by omega), lN_i]
            rfl
          by_cases q : amN r s c < n
          · rw [if_neg (show ¬ n ≤ amN r s c by omega)] at key
            rw [if_pos (nI_lt q (by omega)), B259_61]
            exact key
          · rw [if_pos (show n ≤ amN r s c by omega)] at key
            rw [if_neg (nI_nlt (by omega) (by omega)), B259_52, nI_l (by omega), show (7 : Int64) = lN 7 from rfl, lN_mul, Nat.mul_comm]
            exact key
        · have hh' : ¬ hrd r (nxt r s (s.up c)) (nxt r s (s.up c)).nx c := by rw [hiff]; exact hh
          have hG : gtN r (nxt r s (s.up c)) c = -1 := by unfold gtN; rw [if_neg hh']
          refine ⟨I1, hq.trans a4, fun d R => ?_⟩
          simp only [hk, hk2, hk3, i10, if_false]
          rw [nI_clamp (by omega), if_neg hh, ent, hG, B259_38, if_pos (by decide), B259_41]
      · refine ⟨_, hq, fun d R => ?_⟩
        have hw3 : kwithin o 0 (nI 10) = 0 := by have := kwi10 o; rw [h2] at this; exact this
        simp only [hk, hk2, h2, i10, if_false, if_true]
        rw [B259_0, kp12_0, kO_s, krecv_m ks185, kcond_t, show (0 : Int32) = nI 0 from rfl, sp204, e0, hk, kpush_s, B259_10, ← n_0, if_neg (by decide), B259_13, c8_40, sp171, hk2, kpush_s, B259_20, if_neg (by decide), B259_23, c8_10, sp171, hw3, kpush_s, B259_30, if_pos rfl, B259_41]
    · refine ⟨_, hq, fun d R => ?_⟩
      simp only [hk, h1, i10, if_false, if_true]
      rw [B259_0, kp12_0, kO_s, krecv_m ks185, kcond_t, show (0 : Int32) = nI 0 from rfl, sp204, e0, hk, kpush_s, B259_10, ← n_0, if_neg (by decide), B259_13, c8_40, sp171, h1, kpush_s, B259_20, if_pos rfl, B259_41]
  · refine ⟨_, hq, fun d R => ?_⟩
    simp only [h0, if_true]
    rw [B259_0, kp12_0, kO_s, krecv_m ks185, kcond_t, show (0 : Int32) = nI 0 from rfl, sp204, e0, h0, kpush_s, B259_10, ← n_0, if_pos rfl, B259_41]
end ASK
