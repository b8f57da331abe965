/-! how far it was dealt: shifts, ask, chance -/
def srcN (r : aRl) (s : aSt) (c sh : Nat) : Nat := (hC s.up (s.up c) r.nj c + 7 * dM r s (s.up c) - sh) % dM r s (s.up c)
def gotB (r : aRl) (s : aSt) (c j sh : Nat) : Bool := decide (hrd r s (s.up c) c) && decide (s.ch (srcN r s c sh) = j)
/-- a set, as bits -/
def bs (P : Nat → Bool) : Nat → Nat
  | 0 => 0
  | n + 1 => if P n = true then bs P n ||| 2 ^ n else bs P n
theorem bs_tb (P : Nat → Bool) : ∀ n k, (bs P n).testBit k = (decide (k < n) && P k) := by
  intro n
  induction n with
  | zero => intro k; rw [bs, Nat.zero_testBit]; simp
  | succ n ih =>
    intro k
    rw [bs]
    by_cases h : P n = true
    · rw [if_pos h, Nat.testBit_or, tb_two, ih]
      by_cases e : n = k
      · rw [← e]; simp [h]
      · by_cases q : k < n
        · have q' : k < n + 1 := by omega
          simp [e, q, q']
        · have q' : ¬ k < n + 1 := by omega
          simp [e, q, q']
    · rw [if_neg h, ih]
      by_cases e : n = k
      · rw [← e]; simp [h]
      · by_cases q : k < n
        · have q' : k < n + 1 := by omega
          simp [q, q']
        · have q' : ¬ k < n + 1 := by omega
          simp [q, q']
theorem bs_lt (P : Nat → Bool) : ∀ n, bs P n < 2 ^ n := by
  intro n
  induction n with
  | zero => exact Nat.lt_succ_self _
  | succ n ih =>
    have h2 : 2 ^ n < 2 ^ (n + 1) := Nat.pow_lt_pow_right (by omega) (by omega)
    rw [bs]
    split
    · exact or_lt (by omega) (by omega)
    · omega
theorem bs_and (P Q : Nat → Bool) : bs P 7 &&& bs Q 7 = bs (fun k => P k && Q k) 7 := by
  refine Nat.eq_of_testBit_eq (fun k => ?_)
  rw [Nat.testBit_and, bs_tb, bs_tb, bs_tb]
  cases decide (k < 7) <;> simp
theorem bs_ann (P Q : Nat → Bool) : bs P 7 &&& (bs Q 7 ^^^ (2 ^ 32 - 1)) = bs (fun k => P k && !Q k) 7 := by
  refine Nat.eq_of_testBit_eq (fun k => ?_)
  rw [Nat.testBit_and, Nat.testBit_xor, bs_tb, bs_tb, bs_tb, tb_all]
  by_cases h : k < 7
  · have h2 : k < 32 := by omega
    simp [h, h2]
  · simp [h]
theorem bs_eq {P Q : Nat → Bool} : ∀ n, (∀ k, k < n → P k = Q k) → bs P n = bs Q n := by
  intro n
  induction n with
  | zero => intro _; rfl
  | succ n ih =>
    intro h
    rw [bs, bs, ih (fun k hk => h k (by omega)), h n (by omega)]
theorem pc_bs (P : Nat → Bool) : pc (bs P 7) = nsum (fun k => bN (P k)) 7 := by
  unfold pc
  simp only [bs_tb]
  show _ = 0 + bN (P 0) + bN (P 1) + bN (P 2) + bN (P 3) + bN (P 4) + bN (P 5) + bN (P 6)
  simp
def okB (r : aRl) (s : aSt) (z : aSn) : Nat → Nat → Bool
  | 0, _ => true
  | k + 1, sh => okB r s z k sh && (gotB r s (z.c k) (z.j k) sh == z.g k)
/-- the numbers of places that are left -/
def shN (r : aRl) (s : aSt) (z : aSn) : Nat := bs (okB r s z z.n) 7
def aShifts (r : aRl) (s : aSt) (z : aSn) : Int32 := nI (shN r s z)
def inN (r : aRl) (s : aSt) (z : aSn) (c j : Nat) : Nat := nsum (fun sh => bN (okB r s z z.n sh && gotB r s c j sh)) 7
def grN (r : aRl) (s : aSt) (z : aSn) (c j : Nat) : Nat := max (inN r s z c j) (pc (shN r s z) - inN r s z c j)
def asS (r : aRl) (s : aSt) (z : aSn) : Nat → Nat × Int32
  | 0 => (pc (shN r s z), -1)
  | k + 1 => if grN r s z (k / r.nj) (k % r.nj) < (asS r s z k).1 then (grN r s z (k / r.nj) (k % r.nj), nI (8 * (k / r.nj) + k % r.nj)) else asS r s z k
def aAsk (r : aRl) (s : aSt) (z : aSn) : Int32 := (asS r s z (r.nc * r.nj)).2
theorem pc_le (t : Nat) : pc t ≤ 7 := by
  have h0 := bN_le (t.testBit 0)
  have h1 := bN_le (t.testBit 1)
  have h2 := bN_le (t.testBit 2)
  have h3 := bN_le (t.testBit 3)
  have h4 := bN_le (t.testBit 4)
  have h5 := bN_le (t.testBit 5)
  have h6 := bN_le (t.testBit 6)
  unfold pc
  omega
theorem bN_split (a b : Bool) : bN (a && b) + bN (a && !b) = bN a := by cases a <;> cases b <;> rfl
theorem in_split (P Q : Nat → Bool) : ∀ n, nsum (fun k => bN (P k && Q k)) n + nsum (fun k => bN (P k && !Q k)) n = nsum (fun k => bN (P k)) n := by
  intro n
  induction n with
  | zero => rfl
  | succ n ih =>
    have := bN_split (P n) (Q n)
    rw [nsum, nsum, nsum]
    omega
theorem in_le (r : aRl) (s : aSt) (z : aSn) (c j : Nat) : inN r s z c j ≤ pc (shN r s z) ∧ pc (bs (fun sh => okB r s z z.n sh && !gotB r s c j sh) 7) = pc (shN r s z) - inN r s z c j ∧ pc (bs (fun sh => okB r s z z.n sh && gotB r s c j sh) 7) = inN r s z c j := by
  have h := in_split (okB r s z z.n) (gotB r s c j) 7
  unfold shN inN
  rw [pc_bs, pc_bs, pc_bs]
  omega
theorem grN_le (r : aRl) (s : aSt) (z : aSn) (c j : Nat) : grN r s z c j ≤ 7 := by
  have h := in_le r s z c j
  have h7 := pc_le (shN r s z)
  unfold grN
  omega
theorem asS_le (r : aRl) (s : aSt) (z : aSn) : ∀ k, (asS r s z k).1 ≤ 7 := by
  intro k
  induction k with
  | zero => exact pc_le _
  | succ k ih =>
    rw [asS]
    split
    · exact grN_le _ _ _ _ _
    · exact ih
theorem fmd_src {p sh m : Nat} (hp : p < m) (hm : m ≤ 7) (hs : sh ≤ 6) : fmd (nI p - nI sh) m = (p + 7 * m - sh) % m := by
  unfold fmd
  rw [pk_sub_toInt (by omega) (by omega)]
  have e : ((p + 7 * m - sh : Nat) : Int) = ((p : Int) - sh) + (m : Int) * 7 := by omega
  have e2 : ((p : Int) - sh) % (m : Int) = (((p + 7 * m - sh) % m : Nat) : Int) := by
    rw [Int.natCast_emod, e, Int.add_mul_emod_self_left]
  rw [e2]
  rfl
section SH
variable {xs : List Int32} {d : Nat} {I I' I2 : Nat → Nat → Int32} {J : Nat → Nat → Int64} {rf : Nat → Nat} {g : Nat} {R : Option Value → KW → Prop} {r : aRl} {s u : aSt} {w : KW} {z : aSn} {M : aM}
/-- sourceByShift -/
theorem sp79g (vr : vRl r) {c sh day : Nat} (q : cDay I r u day) (hday : u.up c = day) (hc : c < r.nc) (hs : sh ≤ 6) : kX xs (d + 1) 79 0 [some (.ref 54), some (.int (nI c)), some (.int (nI sh)), none] [] (kmm I J rf g) R = R (some (.int (if hrd r u day c then nI (srcN r u c sh) else -1))) (kmm I J rf g) := by
  have hc7 := vr.c
  have hm7 := dM7 vr u day
  have hp := q.pl c hc
  by_cases hh : hrd r u day c
  · obtain ⟨q1, q2⟩ := hrd_lt hc hh
    rw [if_pos hh] at hp ⊢
    rw [B79_0, kg8_4, kO_s, ka58 (by omega), kO_s, hp, krecv_m ks54, kcond_t, sp76, q.m, kidx_in q1 (by omega), kpush_s, B79_12, if_neg (by decide), B79_15, kg8_0, kO_s, q.m, sp276 (by omega) (by omega), kpush_s, B79_25, B79_29, fmd_src q1 hm7 hs]
    unfold srcN
    rw [hday]
  · rw [if_neg hh] at hp ⊢
    rw [B79_0, kg8_4, kO_s, ka58 (by omega), kO_s, hp, krecv_m ks54, kcond_t, sp76, kidx_out (by decide), kpush_s, B79_12, if_pos rfl, B79_28, B79_29]
theorem srcN_lt {c sh : Nat} (hc : c < r.nc) (hh : hrd r u (u.up c) c) : srcN r u c sh < dM r u (u.up c) := by
  have := (hrd_lt hc hh).1
  exact Nat.mod_lt _ (by omega)
/-- placesByWhichGot -/
theorem sp139 (h : cB I rf r s) {c j : Nat} (hc : c < r.nc) (hj : j < r.nj) : ∃ I', cQ I I' ∧ ∀ d R, kX xs (d + 4) 139 0 [some (.ref 0), some (.int (nI c)), some (.int (nI j)), none, none, none] [] (kmm I J rf g) R = R (some (.int (nI (bs (gotB r s c j) 7)))) (kmm I' J rf g) := by
  have hc7 := h.vr.c
  have hj7 := h.vr.j
  have hu := h.vs.up c (by omega)
  obtain ⟨I1, q1, q3, q4⟩ := sp64q (xs := xs) (J := J) (g := g) h hu
  refine ⟨I1, q3, fun d R => ?_⟩
  have h1 := h.keep q3
  have hm7 := dM7 h.vr s (s.up c)
  have eu := h.st.up c (by omega)
  have L := kchain (n := 7) (fun sh => kX xs (d + 4) 139 29 [some (.ref 0), some (.int (nI c)), some (.int (nI j)), some (.int (nI (bs (gotB r s c j) sh))), some (.int (nI sh)), none] [] (kmm I1 J rf g) R) (by
    intro sh hsh
    show kX xs (d + 4) 139 29 _ _ _ _ = kX xs (d + 4) 139 29 _ _ _ _
    rw [B139_29, c8_7, if_pos (nI_lt hsh (by omega)), B139_36, kg11_9, kO_s, krecv_m ks54, kcond_t, sp79g h.vr q1 rfl hc (by omega), kpush_s, B139_46, kg11_9, kO_s, kg11_6, kO_s, krecv_m ks54, kcond_t, bs]
    by_cases hh : hrd r s (s.up c) c
    · have hlt := srcN_lt (sh := sh) hc hh
      have hch := h1.st.ch (srcN r s c sh) (by omega)
      have hc7' := h.vs.ch (srcN r s c sh) (by omega)
      rw [if_pos hh, sp75 ks39 hm7 q1.m hlt, kpush_s, B139_61, hch]
      by_cases e : s.ch (srcN r s c sh) = j
      · have hg : gotB r s c j sh = true := by unfold gotB; simp only [decide_eq_true hh, decide_eq_true e, Bool.and_self]
        rw [if_pos (congrArg nI e), if_pos hg, B139_65, nI_bit (by omega), nI_or, B139_72, nI_add1]
      · have hg : ¬ gotB r s c j sh = true := by unfold gotB; simp [e]
        rw [if_neg (fun q => e (by rw [nI_inj (by omega) (by omega)] at q; exact q)), if_neg hg, B139_72, nI_add1]
    · have hg : ¬ gotB r s c j sh = true := by unfold gotB; rw [decide_eq_false hh]; simp
      rw [if_neg hh, sp75n, kpush_s, B139_61, if_neg (fun q => by have := nI_m1 (a := j) (by omega); rw [← q] at this; simp at this), if_neg hg, B139_72, nI_add1])
  rw [B139_0, kg11_9, kO_s, kg11_2, kO_s, kg11_6, kO_s, kO_s, kg9_3 ks39, kO_s, ka9_2 ks39 (by omega), kO_s, eu, krecv_m ks54, kcond_t, q4, kpush_n, B139_24]
  refine Eq.trans L ?_
  rw [B139_29, c8_7, if_neg (nI_nlt (Nat.le_refl _) (by omega)), B139_78]
theorem sp61 {a G k : Nat} (ha : kshp a = some (.inl 7)) (hz : cSn I a G z) (hk : k < z.n) : kX xs d 61 0 [some (.ref a), some (.int (nI k))] [] (kmm I J rf g) R = R (some (.int (nI (bN (z.g k))))) (kmm I J rf g) := by
  have h8 := hz.nl
  have hG := hz.gl
  rw [B61_0, kg7_3 ha, kO_s, hz.gt, nI_tb (by omega) (by omega), hz.gb k hk]
  cases z.g k with
  | true => rw [if_pos (show nI (bN true) = 1 from rfl), B61_12, B61_17, if_pos kz_1]; rfl
  | false => rw [if_neg (show ¬ nI (bN false) = 1 by decide), B61_16, B61_17, if_pos kz_0]; rfl
/-- shifts -/
theorem sp138 (h : cM I rf r M) : ∃ I', cQ I I' ∧ ∀ d R, kX xs (d + 5) 138 0 [some (.ref 0), none, none, none] [] (kmm I J rf g) R = R (some (.int (aShifts r M.H.s M.z))) (kmm I' J rf g) := by
  have h8 := h.v.z.n
  have L : ∃ I2, cQ I I2 ∧ (fun (d : Nat) (R : Option Value → KW → Prop) => kX xs (d + 5) 138 5 [some (.ref 0), some (.int (nI (bs (okB r M.H.s M.z 0) 7))), some (.int (nI 0)), none] [] (kmm I J rf g) R) = (fun d R => kX xs (d + 5) 138 5 [some (.ref 0), some (.int (nI (bs (okB r M.H.s M.z M.z.n) 7))), some (.int (nI M.z.n)), none] [] (kmm I2 J rf g) R) := by
    refine kloop (n := M.z.n) (s0 := I) (fun i I2 => cQ I I2) (fun i I2 => fun (d : Nat) (R : Option Value → KW → Prop) => kX xs (d + 5) 138 5 [some (.ref 0), some (.int (nI (bs (okB r M.H.s M.z i) 7))), some (.int (nI i)), none] [] (kmm I2 J rf g) R) (cQ.refl I) ?_
    intro i I2 hi g2
    have h2 := h.keep g2
    obtain ⟨G, hz⟩ := h2.z
    obtain ⟨I3, q3, q4⟩ := sp139 (xs := xs) (J := J) (g := g) h2.h.b (h.v.z.c i hi) (h.v.z.j i hi)
    have h3 := h2.keep q3
    obtain ⟨G3, hz3⟩ := h3.z
    refine ⟨I3, g2.trans q3, ?_⟩
    funext d R
    rw [B138_5, kg11_12, kO_s, kg7_0 ks147, kO_s, hz.n, if_pos (nI_lt hi (by omega)), B138_16, kg11_12, kO_s, kg7_1 ks147, kO_s, ka7_1 ks147 (by omega), kO_s, hz.c i hi, kO_s, kg7_2 ks147, kO_s, ka7_2 ks147 (by omega), kO_s, hz.j i hi, krecv_m ks0, kcond_t, q4, kpush_s, B138_38, kg11_12, kO_s, krecv_m ks147, kcond_t, sp61 ks147 hz3 hi, kpush_s, B138_48]
    cases hg : M.z.g i with
    | true =>
      have e : (fun k => okB r M.H.s M.z i k && gotB r M.H.s (M.z.c i) (M.z.j i) k) = okB r M.H.s M.z (i + 1) := by funext k; rw [okB, hg]; simp
      rw [if_neg (show ¬ nI (bN true) = 0 by decide), B138_51, B138_58, nI_and, bs_and, nI_add1, e]
    | false =>
      have e : (fun k => okB r M.H.s M.z i k && !gotB r M.H.s (M.z.c i) (M.z.j i) k) = okB r M.H.s M.z (i + 1) := by funext k; rw [okB, hg]; simp
      rw [if_pos (show nI (bN false) = 0 from rfl), B138_55, B138_58, nI_m1n, nI_xor, nI_and, bs_ann, nI_add1, e]
  obtain ⟨I2, g2, e2⟩ := L
  refine ⟨I2, g2, fun d R => ?_⟩
  obtain ⟨G, hz⟩ := (h.keep g2).z
  have e2' := congrFun (congrFun e2 d) R
  have e127 : bs (okB r M.H.s M.z 0) 7 = 127 := (bs_eq (Q := fun _ => true) 7 (fun k _ => rfl)).trans (by decide)
  rw [e127] at e2'
  rw [B138_0, c8_127]
  refine Eq.trans e2' ?_
  rw [B138_5, kg11_12, kO_s, kg7_0 ks147, kO_s, hz.n, if_neg (nI_nlt (Nat.le_refl _) (by omega)), B138_66]
  rfl
/-- placeBy, isGot -/
theorem sp254 (h : mB I r s) {c sh : Nat} (hc : c < r.nc) (hs : sh ≤ 6) : ∃ I', mDay I' r s (s.up c) ∧ mQ I I' ∧ ∀ d R, kX xs (d + 2) 254 0 [some (.ref 185), some (.int (nI c)), some (.int (nI sh)), none] [] (kmm I J rf g) R = R (some (.int (if hrd r s (s.up c) c then nI (srcN r s c sh) else -1))) (kmm I' J rf g) := by
  have hc7 := h.vr.c
  have hu := h.vs.up c (by omega)
  obtain ⟨I1, q1, q3, q4⟩ := sp210q (xs := xs) (J := J) (rf := rf) (g := g) h hu
  refine ⟨I1, q1, q3, fun d R => ?_⟩
  have hm7 := dM7 h.vr s (s.up c)
  have eu := h.st.up c hc
  rw [show 0 + 23 + c = 23 + c by omega] at eu
  rw [B254_0, kg12_23, kO_s, c8_23, nI_add, ka201 (by omega), kO_s, eu, krecv_m ks185, kcond_t, n_0, q4, kpush_n, B254_14, krecv_m ks185, kcond_t, sp213 h.vr q1 hc, kpush_s, B254_19]
  unfold pl
  by_cases hh : hrd r s (s.up c) c
  · obtain ⟨p1, p2⟩ := hrd_lt hc hh
    rw [if_pos hh, if_pos hh, if_neg (nI_pos (by omega)), B254_28, kg12_28, kO_s, kO_s, q1.m, if_neg (nI_ne0 (by omega) (by omega)), c8_7, pk_mul, nI_add, pk_sub (by omega), pk_rem (by omega) (by omega) (by omega), B254_44]
    rfl
  · rw [if_neg hh, if_neg hh, if_pos (by decide), B254_24, B254_44]
theorem sp255 (h : mB I r s) {c j sh : Nat} (hc : c < r.nc) (hj : j < r.nj) (hs : sh ≤ 6) : ∃ I', mQ I I' ∧ ∀ d R, kX xs (d + 3) 255 0 [some (.ref 185), some (.int (nI c)), some (.int (nI j)), some (.int (nI sh)), none] [] (kmm I J rf g) R = R (some (.int (nI (bN (gotB r s c j sh))))) (kmm I' J rf g) := by
  have hj7 := h.vr.j
  obtain ⟨I1, q1, q3, q4⟩ := sp254 (xs := xs) (J := J) (rf := rf) (g := g) h hc hs
  refine ⟨I1, q3, fun d R => ?_⟩
  have h1 := h.keep q3
  rw [B255_0, krecv_m ks185, kcond_t, q4, kpush_s, B255_6]
  by_cases hh : hrd r s (s.up c) c
  · have hlt := srcN_lt (sh := sh) hc hh
    have hle := dM_le r s (s.up c)
    have hch := h1.st.ch (srcN r s c sh) (by omega)
    rw [show 0 + 16 + srcN r s c sh = 16 + srcN r s c sh by omega] at hch
    have hc7' := h.vs.ch (srcN r s c sh) (by omega)
    rw [if_pos hh, if_neg (nI_pos (by omega)), B255_13, kg12_23, kO_s, c8_16, nI_add, ka201 (by omega), kO_s, hch]
    by_cases e : s.ch (srcN r s c sh) = j
    · have hg : gotB r s c j sh = true := by unfold gotB; simp only [decide_eq_true hh, decide_eq_true e, Bool.and_self]
      rw [if_pos (congrArg nI e), hg, B255_27, B255_32, if_pos kz_1]; rfl
    · have hg : gotB r s c j sh = false := by unfold gotB; simp [e]
      rw [if_neg (fun q => e (by rw [nI_inj (by omega) (by omega)] at q; exact q)), hg, B255_31, B255_32, if_pos kz_0]; rfl
  · have hg : gotB r s c j sh = false := by unfold gotB; rw [decide_eq_false hh]; rfl
    rw [if_neg hh, if_pos (by decide), hg, B255_31, B255_32, if_pos kz_0]; rfl
/-- shiftsNow -/
theorem sp256 (h : mM I r M) : ∃ I', mQ I I' ∧ ∀ d R, kX xs (d + 4) 256 0 [some (.ref 185), none, none, none, none, none] [] (kmm I J rf g) R = R (some (.int (nI (shN r M.H.s M.z)))) (kmm I' J rf g) := by
  have h8 := h.v.z.n
  have L : ∃ I2, mQ I I2 ∧ (fun (d : Nat) (R : Option Value → KW → Prop) => kX xs (d + 4) 256 4 [some (.ref 185), some (.int (nI (bs (okB r M.H.s M.z M.z.n) 0))), some (.int (nI 0)), none, none, none] [] (kmm I J rf g) R) = (fun d R => kX xs (d + 4) 256 4 [some (.ref 185), some (.int (nI (bs (okB r M.H.s M.z M.z.n) 7))), some (.int (nI 7)), none, none, none] [] (kmm I2 J rf g) R) := by
    refine kloop (n := 7) (s0 := I) (fun i I2 => mQ I I2) (fun i I2 => fun (d : Nat) (R : Option Value → KW → Prop) => kX xs (d + 4) 256 4 [some (.ref 185), some (.int (nI (bs (okB r M.H.s M.z M.z.n) i))), some (.int (nI i)), none, none, none] [] (kmm I2 J rf g) R) (mQ.refl I) ?_
    intro sh I2 hsh g2
    have L2 : ∃ I3, mQ I I3 ∧ (fun (d : Nat) (R : Option Value → KW → Prop) => kX xs (d + 4) 256 15 [some (.ref 185), some (.int (nI (bs (okB r M.H.s M.z M.z.n) sh))), some (.int (nI sh)), some (.int (nI (bN (okB r M.H.s M.z 0 sh)))), some (.int (nI 0)), none] [] (kmm I2 J rf g) R) = (fun d R => kX xs (d + 4) 256 15 [some (.ref 185), some (.int (nI (bs (okB r M.H.s M.z M.z.n) sh))), some (.int (nI sh)), some (.int (nI (bN (okB r M.H.s M.z M.z.n sh)))), some (.int (nI M.z.n)), none] [] (kmm I3 J rf g) R) := by
      refine kloop (n := M.z.n) (s0 := I2) (fun i I3 => mQ I I3) (fun i I3 => fun (d : Nat) (R : Option Value → KW → Prop) => kX xs (d + 4) 256 15 [some (.ref 185), some (.int (nI (bs (okB r M.H.s M.z M.z.n) sh))), some (.int (nI sh)), some (.int (nI (bN (okB r M.H.s M.z i sh)))), some (.int (nI i)), none] [] (kmm I3 J rf g) R) g2 ?_
      intro i I3 hi g3
      have h3 := h.keep g3
      have en : I3 201 30 = nI M.z.n := h3.z.n
      cases hok : okB r M.H.s M.z i sh with
      | false =>
        refine ⟨I3, g3, ?_⟩
        funext d R
        rw [B256_15, kg12_23, kO_s, c8_30, ka201 (by omega), kO_s, en, if_pos (nI_lt hi (by omega)), B256_27, if_pos (show nI (bN false) = 0 from rfl), B256_86, B256_87, nI_add1, okB, hok]
        rfl
      | true =>
        obtain ⟨I4, q3, q4⟩ := sp255 (xs := xs) (J := J) (rf := rf) (g := g) h3.h.b (h.v.z.c i hi) (h.v.z.j i hi) (show sh ≤ 6 by omega)
        refine ⟨I4, g3.trans q3, ?_⟩
        have h4 := h3.keep q3
        funext d R
        have z1 : I3 201 (31 + 3 * i) = nI (M.z.c i) := by have := h3.z.c i hi; rw [show 0 + 31 + 3 * i = 31 + 3 * i by omega] at this; exact this
        have z2 : I3 201 (31 + 3 * i + 1) = nI (M.z.j i) := by have := h3.z.j i hi; rw [show 0 + 31 + 3 * i + 1 = 31 + 3 * i + 1 by omega] at this; exact this
        have z3 : I4 201 (31 + 3 * i + 2) = nI (bN (M.z.g i)) := by have := h4.z.g i hi; rw [show 0 + 31 + 3 * i + 2 = 31 + 3 * i + 2 by omega] at this; exact this
        rw [B256_15, kg12_23, kO_s, c8_30, ka201 (by omega), kO_s, en, if_pos (nI_lt hi (by omega)), B256_27, if_neg (show ¬ nI (bN true) = 0 by decide), c8_31, n_3, pk_mul, nI_add, B256_40, kg12_23, kO_s, ka201 (by omega), kO_s, z1, kO_s, nI_add1, ka201 (by omega), kO_s, z2, krecv_m ks185, kcond_t, q4, kpush_s, B256_61, kg12_23, kO_s, n_2, nI_add, ka201 (by omega), kO_s, z3, okB, hok]
        cases gotB r M.H.s (M.z.c i) (M.z.j i) sh <;> cases M.z.g i
        · rw [if_neg (show ¬ nI (bN false) = 1 by decide), B256_78, B256_79, if_pos (show nI (bN false) = 0 from rfl), B256_82, B256_87, nI_add1]; rfl
        · rw [if_pos (show nI (bN true) = 1 from rfl), B256_74, B256_79, if_neg (show ¬ nI (bN false) = 1 by decide), B256_86, B256_87, nI_add1]; rfl
        · rw [if_neg (show ¬ nI (bN false) = 1 by decide), B256_78, B256_79, if_neg (show ¬ nI (bN true) = 0 by decide), B256_86, B256_87, nI_add1]; rfl
        · rw [if_pos (show nI (bN true) = 1 from rfl), B256_74, B256_79, if_pos (show nI (bN true) = 1 from rfl), B256_82, B256_87, nI_add1]; rfl
    obtain ⟨I3, g3, e3⟩ := L2
    refine ⟨I3, g3, ?_⟩
    funext d R
    have e3' := congrFun (congrFun e3 d) R
    have en : I3 201 30 = nI M.z.n := (h.keep g3).z.n
    rw [B256_4, c8_7, if_pos (nI_lt hsh (by omega)), B256_10]
    refine Eq.trans e3' ?_
    rw [B256_15, kg12_23, kO_s, c8_30, ka201 (by omega), kO_s, en, if_neg (nI_nlt (Nat.le_refl _) (by omega)), B256_94, bs]
    cases okB r M.H.s M.z M.z.n sh with
    | true => rw [if_neg (show ¬ nI (bN true) = 0 by decide), B256_99, B256_106, nI_bit (by omega), nI_or, nI_add1, if_pos rfl]
    | false => rw [if_pos (show nI (bN false) = 0 from rfl), B256_105, B256_106, n_0, or_n0, nI_add1, if_neg (by decide)]
  obtain ⟨I2, g2, e2⟩ := L
  refine ⟨I2, g2, fun d R => ?_⟩
  have e2' := congrFun (congrFun e2 d) R
  rw [B256_0]
  refine Eq.trans e2' ?_
  rw [B256_4, c8_7, if_neg (nI_nlt (Nat.le_refl _) (by omega)), B256_114]
  rfl
theorem sp257 (h : mM I r M) : ∃ I', mQ I I' ∧ ∀ d R, kX xs (d + 5) 257 0 [some (.ref 185)] [] (kmm I J rf g) R = R (some (.int (aShifts r M.H.s M.z))) (kmm I' J rf g) := by
  have hq := mQ.thr I (nI 0)
  obtain ⟨I1, q3, q4⟩ := sp256 (xs := xs) (J := J) (rf := rf) (g := g) (h.keep hq)
  refine ⟨I1, hq.trans q3, fun d R => ?_⟩
  rw [B257_0, kp12_0, kO_s, n_0, krecv_m ks185, kcond_t, q4, kpush_s, B257_9]
  rfl
end SH
