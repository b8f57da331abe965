/-! terms by draws -/
def nxG (G : Nat) : Nat := (G * 1103515245 + 12345) % 2147483648
def drw (G m : Nat) : Nat := nxG G / 65536 % m
def deed (r : aRl) (p : Nat × aSt) : Nat × aSt :=
  if drw p.1 5 = 0 then (nxG (nxG (nxG p.1)), pld p.2 (drw (nxG p.1) r.nc) (drw (nxG (nxG p.1)) 4))
  else if drw p.1 5 = 1 then (nxG (nxG (nxG p.1)), lnd p.2 (drw (nxG p.1) r.nj) (drw (nxG (nxG p.1)) 21))
  else if drw p.1 5 = 2 then (nxG (nxG (nxG p.1)), chg p.2 (drw (nxG p.1) r.nj) (drw (nxG (nxG p.1)) r.nj))
  else (nxG p.1, p.2)
def tmP (r : aRl) (p : Nat × aSt) : Nat × aSt := if 0 < r.nj ∧ 0 < r.nc then deed r p else p
def tmS (r : aRl) (G : Nat) (s : aSt) : Nat → Nat × aSt
  | 0 => (G, s)
  | n + 1 => ((tmP r (tmS r G s n)).1, pass r (tmP r (tmS r G s n)).2)
def lnB (u : aSt) (j b : Nat) : Bool := decide (u.ln b < u.ln j)
def aTerms (r : aRl) (s : aSt) (x y w : Int32) : Int32 := if kidx x (nI 10000) = 0 then -2 else if kwithin y 1 (nI 99) = 0 then -2 else if kidx w (nI 3) = 0 then -2 else if w = nI 0 then nI (grf (tmS r x.toNatClampNeg s y.toNatClampNeg).2) - nI (grf s) else if w = 1 then nI (nmx (tmS r x.toNatClampNeg s y.toNatClampNeg).2.hd r.nc) else abI (lnB (tmS r x.toNatClampNeg s y.toNatClampNeg).2) r.nj
theorem nxG_lt (G : Nat) : nxG G < 2147483648 := Nat.mod_lt _ (by omega)
theorem drw_lt {G m : Nat} (h : 0 < m) : drw G m < m := Nat.mod_lt _ h
theorem ku_ku {α : Type} (I : Nat → Nat → α) (a k : Nat) (x y : α) : ku (ku I a k x) a k y = ku I a k y := by
  funext a' k'
  unfold ku
  split <;> rfl
theorem kwith_cN (y : Int32) {N : Nat} (hN : N < 2 ^ 30) : (∃ n : Nat, 1 ≤ n ∧ n ≤ N ∧ y = nI n ∧ kwithin y 1 (nI N) = 1) ∨ kwithin y 1 (nI N) = 0 := by
  unfold kwithin
  by_cases h1 : y < 1
  · exact Or.inr (if_pos h1)
  · by_cases h2 : nI N < y
    · rw [if_neg h1, if_pos h2]; exact Or.inr rfl
    · have z1 : (1 : Int32).toInt = 1 := by decide
      have z0 : (0 : Int32).toInt = 0 := by decide
      have z40 : (nI N).toInt = N := nI_toInt (by omega)
      have h0 : ¬ y < 0 := by rw [Int32.lt_iff_toInt_lt] at h1 ⊢; omega
      obtain ⟨j, hj, rfl⟩ := nI_of h0
      have hj2 : (nI j).toInt = j := nI_toInt hj
      rw [Int32.lt_iff_toInt_lt] at h1 h2
      rw [if_neg (by rw [Int32.lt_iff_toInt_lt]; exact h1), if_neg (by rw [Int32.lt_iff_toInt_lt]; exact h2)]
      exact Or.inl ⟨j, by omega, by omega, rfl, rfl⟩
theorem chg_self {r : aRl} {s : aSt} (vr : vRl r) (vs : vSt r s) {j : Nat} (hj : j < r.nj) : chg s j j = s := by
  obtain ⟨a1, a2⟩ := chO_ok vr vs hj
  have e : ku1 (ku1 s.ch (chO s.ch j) j) (chO s.ch j) j = s.ch := by
    funext i
    by_cases q : i = chO s.ch j
    · rw [q, ku1_s, a1]
    · rw [ku1_n q, ku1_n q]
  unfold chg
  rw [e]
  rfl
theorem deed_v {r : aRl} (vr : vRl r) (hj : 0 < r.nj) (hc : 0 < r.nc) {p : Nat × aSt} (vs : vSt r p.2) : vSt r (deed r p).2 := by
  unfold deed
  by_cases h0 : drw p.1 5 = 0
  · rw [if_pos h0]; exact pld_v vs (drw_lt (by omega))
  · rw [if_neg h0]
    by_cases h1 : drw p.1 5 = 1
    · rw [if_pos h1]; exact lnd_v vs (by have := drw_lt (G := nxG (nxG p.1)) (show 0 < 21 by omega); omega)
    · rw [if_neg h1]
      by_cases h2 : drw p.1 5 = 2
      · rw [if_pos h2]; exact chg_v vr vs (drw_lt hj) (drw_lt hj)
      · rw [if_neg h2]; exact vs
theorem tmP_v {r : aRl} (vr : vRl r) {p : Nat × aSt} (vs : vSt r p.2) : vSt r (tmP r p).2 := by
  unfold tmP
  by_cases h : 0 < r.nj ∧ 0 < r.nc
  · rw [if_pos h]; exact deed_v vr h.1 h.2 vs
  · rw [if_neg h]; exact vs
theorem deed_lt {r : aRl} {p : Nat × aSt} : (deed r p).1 < 2147483648 := by
  unfold deed
  split
  · exact nxG_lt _
  · split
    · exact nxG_lt _
    · split
      · exact nxG_lt _
      · exact nxG_lt _
theorem tmP_lt {r : aRl} {p : Nat × aSt} (h : p.1 < 2147483648) : (tmP r p).1 < 2147483648 := by
  unfold tmP
  split
  · exact deed_lt
  · exact h
theorem tmS_ok {r : aRl} (vr : vRl r) {s : aSt} (vs : vSt r s) {G : Nat} (hG : G < 2147483648) : ∀ n, vSt r (tmS r G s n).2 ∧ (tmS r G s n).1 < 2147483648 := by
  intro n
  induction n with
  | zero => exact ⟨vs, hG⟩
  | succ n ih => exact ⟨pass_v vr (tmP_v vr ih.1), tmP_lt ih.2⟩
section TE
variable {xs : List Int32} {d : Nat} {I I' I2 : Nat → Nat → Int32} {J : Nat → Nat → Int64} {rf : Nat → Nat} {g : Nat} {R : Option Value → KW → Prop} {r : aRl} {s u : aSt} {w : KW}
/-- draw -/
theorem sp152 {G m : Nat} (hG : G < 2147483648) (eG : I 0 16 = nI G) (hm : 0 < m) (hm2 : m < 1000) : kX xs d 152 0 [some (.ref 0), some (.int (nI m))] [] (kmm I J rf g) R = R (some (.int (nI (drw G m)))) (kmm (ku I 0 16 (nI (nxG G))) J rf g) := by
  have h1 := nxG_lt G
  have e1 : (nI G * 1103515245 + (Int16.ofInt 12345).toInt32) &&& 2147483647 = nI (nxG G) := by
    rw [show (1103515245 : Int32) = nI 1103515245 from rfl, show (Int16.ofInt 12345).toInt32 = nI 12345 from rfl, show (2147483647 : Int32) = nI (2 ^ 31 - 1) from rfl, pk_mul, nI_add, nI_and, Nat.and_two_pow_sub_one_eq_mod]
    rfl
  have hd : nxG G / 65536 < 2147483648 := by omega
  rw [B152_0, kg11_16, kO_s, eG, e1, kp11_16, kO_s, n_0, if_pos (nI_lt hm (by omega)), B152_24, kg11_16, kO_s, ku_same, show (65536 : Int32) = nI 65536 from rfl, if_neg (by decide), if_neg (nI_ne0 hm (by omega)), pk_div (by omega) (by omega) (by omega), pk_rem (by omega) hm (by omega), B152_38]
  rfl
theorem sp269 {G m : Nat} (hG : G < 2147483648) (hm : 0 < m) (hm2 : m < 1000) : kX xs d 269 0 [some (.ref 185), some (.int (nI m))] [] (kmm I (ku J 185 33 (lN G)) rf g) R = R (some (.int (nI (drw G m)))) (kmm I (ku J 185 33 (lN (nxG G))) rf g) := by
  have h1 := nxG_lt G
  have e1 : (lN G * 1103515245 + 12345) - (lN G * 1103515245 + 12345) / 2147483648 * 2147483648 = lN (nxG G) := by
    rw [show (1103515245 : Int64) = lN 1103515245 from rfl, show (12345 : Int64) = lN 12345 from rfl, show (2147483648 : Int64) = lN 2147483648 from rfl, lN_mul, lN_add, pk_lRem (by omega) (by omega) (by omega)]
    rfl
  have hl0 : ¬ lN m = 0 := by rw [show (0 : Int64) = lN 0 from rfl, lN_eq (by omega) (by omega)]; omega
  rw [B269_0, kg12_33, kO_s, ku_same, if_neg (by decide), e1, kp12_33, kO_s, kg12_33, kO_s, ku_same, ku_ku, show (65536 : Int64) = lN 65536 from rfl, if_neg (by decide), nI_l (by omega), if_neg hl0, pk_lDiv (by omega) (by omega) (by omega), pk_lRem (by omega) hm (by omega), lN_i]
  rfl
/-- actByDraws -/
theorem sp151 (h : cB I rf r s) (vu : vSt r u) (hu : cSt I 44 u) {G : Nat} (hG : G < 2147483648) (eG : I 0 16 = nI G) (hj : 0 < r.nj) (hc : 0 < r.nc) : ∃ I', cQ I I' ∧ cSt I' 44 (deed r (G, u)).2 ∧ I' 0 16 = nI (deed r (G, u)).1 ∧ ∀ d R, kX xs (d + 3) 151 0 [some (.ref 0), none, none, none] [] (kmm I J rf g) R = R none (kmm I' J rf g) := by
  have ht := h.t
  have ha := kad6 ht
  have hc7 := h.vr.c
  have hj7 := h.vr.j
  have n1 := nxG_lt G
  have n2 := nxG_lt (nxG G)
  have k5 := drw_lt (G := G) (show 0 < 5 by omega)
  have e0c : ∀ v, ku I 0 16 v (rf 2) 1 = nI r.nc := fun v => by rw [ku_nea (by omega), h.rl.nc]
  have e0j : ∀ v, ku I 0 16 v (rf 2) 0 = nI r.nj := fun v => by rw [ku_nea (by omega), h.rl.nj]
  have e0j2 : ∀ v v', ku (ku I 0 16 v) 0 16 v' (rf 2) 0 = nI r.nj := fun v v' => by rw [ku_nea (by omega), ku_nea (by omega), h.rl.nj]
  have q1 : ∀ v, cQ I (ku I 0 16 v) := fun v x k p _ _ _ => ku_nea p
  have F3 : ∀ v x k, x ≠ 0 → ku (ku (ku I 0 16 (nI (nxG G))) 0 16 (nI (nxG (nxG G)))) 0 16 v x k = I x k := fun v x k hx => by rw [ku_nea hx, ku_nea hx, ku_nea hx]
  have hu3 : cSt (ku (ku (ku I 0 16 (nI (nxG G))) 0 16 (nI (nxG (nxG G)))) 0 16 (nI (nxG (nxG (nxG G))))) 44 u := hu.keep (fun x k _ _ => F3 _ x k (by omega))
  by_cases h0 : drw G 5 = 0
  · have eD : deed r (G, u) = (nxG (nxG (nxG G)), pld u (drw (nxG G) r.nc) (drw (nxG (nxG G)) 4)) := if_pos h0
    rw [eD]
    obtain ⟨I4, s4, f4, e4⟩ := sp88e (xs := xs) (J := J) (rf := rf) (g := g) (day := drw (nxG (nxG G)) 4) ks44 hu3 (show drw (nxG G) r.nc < 7 by have := drw_lt (G := nxG G) hc; omega)
    refine ⟨I4, fun x k p1 p2 p3 p4 => by rw [f4 x k (by omega), F3 _ x k p1], s4, by rw [f4 _ _ (by omega), ku_same], fun d R => ?_⟩
    rw [B151_0, krecv_m ks0, kcond_t, n_5, sp152 hG eG (by omega) (by omega), kpush_s, B151_5, h0, if_pos (show nI 0 = 0 from rfl), B151_32, kg11_2, kO_s, kg6_1 ht, kO_s, e0c, krecv_m ks0, kcond_t, sp152 n1 (ku_same _ _ _ _) hc (by omega), kpush_s, B151_43, kg11_7, kO_s, krecv_m ks0, kcond_t, n_4, sp152 n2 (ku_same _ _ _ _) (by omega) (by omega), kpush_s, B151_54, krecv_m ks44, kcond_t, e4, kpush_n, B151_57, B151_123]
  · by_cases h1 : drw G 5 = 1
    · have eD : deed r (G, u) = (nxG (nxG (nxG G)), lnd u (drw (nxG G) r.nj) (drw (nxG (nxG G)) 21)) := (if_neg h0).trans (if_pos h1)
      rw [eD]
      obtain ⟨I4, s4, f4, e4⟩ := sp89e (xs := xs) (J := J) (rf := rf) (g := g) (l := drw (nxG (nxG G)) 21) ks44 hu3 (show drw (nxG G) r.nj < 7 by have := drw_lt (G := nxG G) hj; omega)
      refine ⟨I4, fun x k p1 p2 p3 p4 => by rw [f4 x k (by omega), F3 _ x k p1], s4, by rw [f4 _ _ (by omega), ku_same], fun d R => ?_⟩
      rw [B151_0, krecv_m ks0, kcond_t, n_5, sp152 hG eG (by omega) (by omega), kpush_s, B151_5, h1, if_neg (by decide), if_pos (show nI 1 = 1 from rfl), B151_60, kg11_2, kO_s, kg6_0 ht, kO_s, e0j, krecv_m ks0, kcond_t, sp152 n1 (ku_same _ _ _ _) hj (by omega), kpush_s, B151_71, kg11_7, kO_s, krecv_m ks0, kcond_t, c8_21, sp152 n2 (ku_same _ _ _ _) (by omega) (by omega), kpush_s, B151_83, krecv_m ks44, kcond_t, e4, kpush_n, B151_86, B151_123]
    · by_cases h2 : drw G 5 = 2
      · have eD : deed r (G, u) = (nxG (nxG (nxG G)), chg u (drw (nxG G) r.nj) (drw (nxG (nxG G)) r.nj)) := (if_neg h0).trans ((if_neg h1).trans (if_pos h2))
        rw [eD]
        obtain ⟨I4, s4, f4, e4⟩ := sp91e (xs := xs) (J := J) (rf := rf) (g := g) ks44 h.vr vu hu3 (drw_lt (G := nxG G) hj) (drw_lt (G := nxG (nxG G)) hj)
        refine ⟨I4, fun x k p1 p2 p3 p4 => by rw [f4 x k (by omega), F3 _ x k p1], s4, by rw [f4 _ _ (by omega), ku_same], fun d R => ?_⟩
        rw [B151_0, krecv_m ks0, kcond_t, n_5, sp152 hG eG (by omega) (by omega), kpush_s, B151_5, h2, if_neg (by decide), if_neg (by decide), if_pos (show nI 2 = 2 from rfl), B151_89, kg11_2, kO_s, kg6_0 ht, kO_s, e0j, krecv_m ks0, kcond_t, sp152 n1 (ku_same _ _ _ _) hj (by omega), kpush_s, B151_100, kg11_7, kO_s, kg11_2, kO_s, kg6_0 ht, kO_s, e0j2, krecv_m ks0, kcond_t, sp152 n2 (ku_same _ _ _ _) hj (by omega), kpush_s, B151_117, krecv_m ks44, kcond_t, e4, kpush_n, B151_120, B151_123]
      · have eD : deed r (G, u) = (nxG G, u) := (if_neg h0).trans ((if_neg h1).trans (if_neg h2))
        rw [eD]
        refine ⟨ku I 0 16 (nI (nxG G)), q1 _, hu.keep (fun x k _ _ => ku_nea (by omega)), ku_same _ _ _ _, fun d R => ?_⟩
        have g0 : ¬ nI (drw G 5) = 0 := nI_ne0 (by omega) (by omega)
        have g1 : ¬ nI (drw G 5) = 1 := by rw [n_1, nI_inj (by omega) (by omega)]; exact h1
        have g2 : ¬ nI (drw G 5) = 2 := by rw [n_2, nI_inj (by omega) (by omega)]; exact h2
        rw [B151_0, krecv_m ks0, kcond_t, n_5, sp152 hG eG (by omega) (by omega), kpush_s, B151_5, if_neg g0, if_neg g1, if_neg g2, B151_123]
/-- drawsDeed -/
theorem mSt.pldB {b : Nat} (vr : vRl r) (h : mSt I b r s) {c n : Nat} (hc : c < r.nc) : mSt (ku I 201 (b + 23 + c) (nI n)) b r (pld s c n) := by
  have hj7 := vr.j
  have hc7 := vr.c
  refine ⟨?_, ?_, fun k hk => ?_, fun k hk => ?_, fun k hk => ?_, fun k hk => ?_⟩
  · rw [ku_nek (by omega), h.nx]; rfl
  · rw [ku_nek (by omega), h.rd]; rfl
  · rw [ku_nek (by omega), h.hd k hk]; rfl
  · rw [ku_nek (by omega), h.ln k hk]; rfl
  · rw [ku_nek (by omega), h.ch k hk]; rfl
  · show _ = nI (ku1 s.up c n k)
    by_cases e1 : k = c
    · rw [e1, ku_same, ku1_s]
    · rw [ku_nek (by omega), ku1_n e1, h.up k hk]
theorem mSt.lndB {b : Nat} (vr : vRl r) (h : mSt I b r s) {j n : Nat} (hj : j < r.nj) : mSt (ku I 201 (b + 9 + j) (nI n)) b r (lnd s j n) := by
  have hj7 := vr.j
  have hc7 := vr.c
  refine ⟨?_, ?_, fun k hk => ?_, fun k hk => ?_, fun k hk => ?_, fun k hk => ?_⟩
  · rw [ku_nek (by omega), h.nx]; rfl
  · rw [ku_nek (by omega), h.rd]; rfl
  · rw [ku_nek (by omega), h.hd k hk]; rfl
  · show _ = nI (ku1 s.ln j n k)
    by_cases e1 : k = j
    · rw [e1, ku_same, ku1_s]
    · rw [ku_nek (by omega), ku1_n e1, h.ln k hk]
  · rw [ku_nek (by omega), h.ch k hk]; rfl
  · rw [ku_nek (by omega), h.up k hk]; rfl
theorem sp270 (h : mB I r s) (vu : vSt r u) (hu : mSt I 1210 r u) {G : Nat} (hG : G < 2147483648) (hj : 0 < r.nj) (hc : 0 < r.nc) : ∃ I', mQ I I' ∧ mSt I' 1210 r (deed r (G, u)).2 ∧ ∀ d R, kX xs (d + 2) 270 0 [some (.ref 185), none, none, none] [] (kmm I (ku J 185 33 (lN G)) rf g) R = R none (kmm I' (ku J 185 33 (lN (deed r (G, u)).1)) rf g) := by
  have vr := h.vr
  have hc7 := vr.c
  have hj7 := vr.j
  have n1 := nxG_lt G
  have n2 := nxG_lt (nxG G)
  have k5 := drw_lt (G := G) (show 0 < 5 by omega)
  have ec := h.rl.nc
  have ej := h.rl.nj
  by_cases h0 : drw G 5 = 0
  · have eD : deed r (G, u) = (nxG (nxG (nxG G)), pld u (drw (nxG G) r.nc) (drw (nxG (nxG G)) 4)) := if_pos h0
    rw [eD]
    have hx := drw_lt (G := nxG G) hc
    refine ⟨ku I 201 (1210 + 23 + drw (nxG G) r.nc) (nI (drw (nxG (nxG G)) 4)), fun x k p1 p2 p3 p4 p5 => ku_ne (by omega), hu.pldB vr hx, fun d R => ?_⟩
    rw [B270_0, krecv_m ks185, kcond_t, n_5, sp269 hG (by omega) (by omega), kpush_s, B270_5, h0, if_pos (show nI 0 = 0 from rfl), B270_10, krecv_m ks185, kcond_t, sp200, ec, kpush_s, B270_15, krecv_m ks185, kcond_t, sp269 n1 hc (by omega), kpush_s, B270_18, kg12_23, kO_s, krecv_m ks185, kcond_t, n_4, sp269 n2 (by omega) (by omega), kpush_s, c16_1233, nI_add, B270_33, kw201 (by omega), kO_s, B270_107]
  · by_cases h1 : drw G 5 = 1
    · have eD : deed r (G, u) = (nxG (nxG (nxG G)), lnd u (drw (nxG G) r.nj) (drw (nxG (nxG G)) 21)) := (if_neg h0).trans (if_pos h1)
      rw [eD]
      have hx := drw_lt (G := nxG G) hj
      refine ⟨ku I 201 (1210 + 9 + drw (nxG G) r.nj) (nI (drw (nxG (nxG G)) 21)), fun x k p1 p2 p3 p4 p5 => ku_ne (by omega), hu.lndB vr hx, fun d R => ?_⟩
      rw [B270_0, krecv_m ks185, kcond_t, n_5, sp269 hG (by omega) (by omega), kpush_s, B270_5, h1, if_neg (by decide), B270_37, if_pos (show nI 1 = 1 from rfl), B270_42, krecv_m ks185, kcond_t, sp199, ej, kpush_s, B270_47, krecv_m ks185, kcond_t, sp269 n1 hj (by omega), kpush_s, B270_50, kg12_23, kO_s, krecv_m ks185, kcond_t, c8_21, sp269 n2 (by omega) (by omega), kpush_s, c16_1219, nI_add, B270_66, kw201 (by omega), kO_s, B270_107]
    · by_cases h2 : drw G 5 = 2
      · have eD : deed r (G, u) = (nxG (nxG (nxG G)), chg u (drw (nxG G) r.nj) (drw (nxG (nxG G)) r.nj)) := (if_neg h0).trans ((if_neg h1).trans (if_pos h2))
        rw [eD]
        have hx := drw_lt (G := nxG G) hj
        have hy := drw_lt (G := nxG (nxG G)) hj
        have ent : ∀ d R, kX xs (d + 2) 270 0 [some (.ref 185), none, none, none] [] (kmm I (ku J 185 33 (lN G)) rf g) R = kX xs (d + 2) 270 92 [some (.ref 185), none, some (.int (nI (drw (nxG G) r.nj))), none] [.int (nI (drw (nxG (nxG G)) r.nj))] (kmm I (ku J 185 33 (lN (nxG (nxG (nxG G))))) rf g) R := by
          intro d R
          rw [B270_0, krecv_m ks185, kcond_t, n_5, sp269 hG (by omega) (by omega), kpush_s, B270_5, h2, if_neg (by decide), B270_37, if_neg (by decide), B270_70, if_pos (show nI 2 = 2 from rfl), B270_75, krecv_m ks185, kcond_t, sp199, ej, kpush_s, B270_80, krecv_m ks185, kcond_t, sp269 n1 hj (by omega), kpush_s, B270_83, krecv_m ks185, kcond_t, sp199, ej, kpush_s, B270_89, krecv_m ks185, kcond_t, sp269 n2 hj (by omega), kpush_s]
        by_cases he : drw (nxG G) r.nj = drw (nxG (nxG G)) r.nj
        · refine ⟨I, mQ.refl I, ?_, fun d R => ?_⟩
          · show mSt I 1210 r (chg u (drw (nxG G) r.nj) (drw (nxG (nxG G)) r.nj))
            rw [← he, chg_self vr vu hx]; exact hu
          · rw [ent, B270_92, if_pos (congrArg nI he), B270_107]
        · obtain ⟨I4, s4, f4, e4⟩ := sp208 (xs := xs) (J := ku J 185 33 (lN (nxG (nxG (nxG G))))) (rf := rf) (g := g) (b := 1210) (by omega) vr vu hu hx hy
          refine ⟨I4, fun x k p1 p2 p3 p4 p5 => f4 x k (by omega), s4, fun d R => ?_⟩
          rw [ent, B270_92, if_neg (fun q => he (by rw [nI_inj (by omega) (by omega)] at q; exact q)), B270_98, krecv_m ks185, kcond_t, c16_1210, e4, kpush_n, B270_107]
      · have eD : deed r (G, u) = (nxG G, u) := (if_neg h0).trans ((if_neg h1).trans (if_neg h2))
        rw [eD]
        refine ⟨I, mQ.refl I, hu, fun d R => ?_⟩
        have g0 : ¬ nI (drw G 5) = 0 := nI_ne0 (by omega) (by omega)
        have g1 : ¬ nI (drw G 5) = 1 := by rw [n_1, nI_inj (by omega) (by omega)]; exact h1
        have g2 : ¬ nI (drw G 5) = 2 := by rw [n_2, nI_inj (by omega) (by omega)]; exact h2
        rw [B270_0, krecv_m ks185, kcond_t, n_5, sp269 hG (by omega) (by omega), kpush_s, B270_5, if_neg g0, B270_37, if_neg g1, B270_70, if_neg g2, B270_107]
/-- leansMost -/
theorem sp96 {b : Nat} (hb : kshp b = some (.inl 9)) (vr : vRl r) (vu : vSt r u) (hu : cSt I b u) : kX xs d 96 0 [some (.ref b), some (.int (nI r.nj)), none, none] [] (kmm I J rf g) R = R (some (.int (abI (lnB u) r.nj))) (kmm I J rf g) := by
  have hj7 := vr.j
  have L := kchain (n := r.nj) (fun t => kX xs d 96 4 [some (.ref b), some (.int (nI r.nj)), some (.int (abI (lnB u) t)), some (.int (nI t))] [] (kmm I J rf g) R) (by
    intro t ht
    show kX xs d 96 4 _ _ _ _ = kX xs d 96 4 _ _ _ _
    rw [B96_4, if_pos (nI_lt ht (by omega)), B96_9, c8_7, if_pos (nI_lt (by omega) (by omega)), B96_15]
    cases t with
    | zero => rw [show abI (lnB u) 0 = -1 from rfl, if_pos rfl, B96_35, B96_37, nI_add1]; rfl
    | succ n =>
      have hle := abN_le (lnB u) n
      have e1 := hu.ln (n + 1) (by omega)
      have e2 := hu.ln (abN (lnB u) n) (by omega)
      have b1 := vu.ln (n + 1) (by omega)
      have b2 := vu.ln (abN (lnB u) n) (by omega)
      rw [show abI (lnB u) (n + 1) = nI (abN (lnB u) n) from rfl, if_neg (by rw [nI_m1 (by omega)]; exact id), B96_20, kg9_4 hb, kO_s, ka9_3 hb (by omega), kO_s, e1, kO_s, ka9_3 hb (by omega), kO_s, e2]
      by_cases q : u.ln (abN (lnB u) n) < u.ln (n + 1)
      · have hN := abN_t (f := lnB u) (n := n) (decide_eq_true q)
        rw [if_pos (nI_lt q (by omega)), B96_35, B96_37, nI_add1, show abI (lnB u) (n + 1 + 1) = nI (abN (lnB u) (n + 1)) from rfl, hN]
      · have hN := abN_f (f := lnB u) (n := n) (fun e => q (of_decide_eq_true e))
        rw [if_neg (nI_nlt (by omega) (by omega)), B96_37, nI_add1, show abI (lnB u) (n + 1 + 1) = nI (abN (lnB u) (n + 1)) from rfl, hN])
  rw [B96_0]
  refine Eq.trans L ?_
  rw [B96_4, if_neg (nI_nlt (Nat.le_refl _) (by omega)), B96_43]
/-- terms -/
theorem sp150 (h : cB I rf r s) (x y v : Int32) : ∃ I', cQ I I' ∧ ∀ d R, kX xs (d + 5) 150 0 [some (.ref 0), some (.int x), some (.int y), some (.int v), none] [] (kmm I J rf g) R = R (some (.int (aTerms r s x y v))) (kmm I' J rf g) := by
  have ht := h.t
  have ha := kad6 ht
  have vr := h.vr
  have hc7 := vr.c
  have hj7 := vr.j
  unfold aTerms
  rcases kidx_c x (show 10000 < 2147483648 by omega) with ⟨G, hG, rfl⟩ | h0
  · have hk := kidx_in hG (show 10000 < 2147483648 by omega)
    have hw1 : kwithin (nI G) 0 (nI 9999) = 1 := kwithin_in (n := 9999) (by omega) (by omega)
    rcases kwith_cN y (N := 99) (by omega) with ⟨n, hn1, hn2, rfl, hk2⟩ | h1
    · rcases kidx_c v (show 3 < 2147483648 by omega) with ⟨q, hq, rfl⟩ | h2
      · have hk3 := kidx_in hq (show 3 < 2147483648 by omega)
        have hw3 : kwithin (nI q) 0 2 = 1 := kwithin_in (n := 2) (by omega) (by omega)
        obtain ⟨I1, s1, f1, e1⟩ := sp87q (xs := xs) (J := J) (g := g) h (Or.inl rfl)
        have L : ∃ I2, (cQ I I2 ∧ cSt I2 44 (tmS r G s n).2 ∧ I2 0 16 = nI (tmS r G s n).1) ∧ (fun (d : Nat) (R : Option Value → KW → Prop) => kX xs (d + 5) 150 52 [some (.ref 0), none, some (.int (nI n)), some (.int (nI q)), some (.int (nI 0))] [] (kmm (ku I1 0 16 (nI G)) J rf g) R) = (fun d R => kX xs (d + 5) 150 52 [some (.ref 0), none, some (.int (nI n)), some (.int (nI q)), some (.int (nI n))] [] (kmm I2 J rf g) R) := by
          refine kloop (n := n) (s0 := ku I1 0 16 (nI G)) (fun i I2 => cQ I I2 ∧ cSt I2 44 (tmS r G s i).2 ∧ I2 0 16 = nI (tmS r G s i).1) (fun i I2 => fun (d : Nat) (R : Option Value → KW → Prop) => kX xs (d + 5) 150 52 [some (.ref 0), none, some (.int (nI n)), some (.int (nI q)), some (.int (nI i))] [] (kmm I2 J rf g) R) ⟨fun x k p1 p2 p3 p4 => by rw [ku_nea p1, f1 x k p1 p2 p3 p4], s1.keep (fun x k _ _ => ku_nea (by omega)), ku_same _ _ _ _⟩ ?_
          intro i I2 hi ⟨g1, g2, g3⟩
          have h2 := h.keep g1
          obtain ⟨vi, li⟩ := tmS_ok vr h.vs (show G < 2147483648 by omega) i
          have e0c := h2.rl.nc
          have e0j := h2.rl.nj
          have A : ∃ I3, cQ I2 I3 ∧ cSt I3 44 (tmP r (tmS r G s i)).2 ∧ I3 0 16 = nI (tmP r (tmS r G s i)).1 ∧ ∀ d R, kX xs (d + 5) 150 58 [some (.ref 0), none, some (.int (nI n)), some (.int (nI q)), some (.int (nI i))] [] (kmm I2 J rf g) R = kX xs (d + 5) 150 82 [some (.ref 0), none, some (.int (nI n)), some (.int (nI q)), some (.int (nI i))] [] (kmm I3 J rf g) R := by
            unfold tmP
            by_cases hjj : 0 < r.nj
            · by_cases hcc : 0 < r.nc
              · obtain ⟨I3, a1, a2, a3, a4⟩ := sp151 (xs := xs) (J := J) (g := g) h2 vi g2 li g3 hjj hcc
                rw [if_pos ⟨hjj, hcc⟩]
                refine ⟨I3, a1, a2, a3, fun d R => ?_⟩
                rw [B150_58, kg11_2, kO_s, kg6_0 ht, kO_s, e0j, n_0, if_pos (nI_lt hjj (by omega)), B150_68, kg11_2, kO_s, kg6_1 ht, kO_s, e0c, n_0, if_pos (nI_lt hcc (by omega)), B150_78, krecv_m ks0, kcond_t, a4, kpush_n]
              · rw [if_neg (fun t => hcc t.2)]
                refine ⟨I2, cQ.refl I2, g2, g3, fun d R => ?_⟩
                rw [B150_58, kg11_2, kO_s, kg6_0 ht, kO_s, e0j, n_0, if_pos (nI_lt hjj (by omega)), B150_68, kg11_2, kO_s, kg6_1 ht, kO_s, e0c, n_0, if_neg (nI_nlt (by omega) (by omega))]
            · rw [if_neg (fun t => hjj t.1)]
              refine ⟨I2, cQ.refl I2, g2, g3, fun d R => ?_⟩
              rw [B150_58, kg11_2, kO_s, kg6_0 ht, kO_s, e0j, n_0, if_neg (nI_nlt (by omega) (by omega))]
          obtain ⟨I3, a1, a2, a3, a4⟩ := A
          obtain ⟨I4, -, q2, q3, q4⟩ := sp65e (xs := xs) (J := J) (rf := rf) (g := g) ht ks44 vr (tmP_v vr vi) (h2.keep a1).rl a2
          refine ⟨I4, ⟨(g1.trans a1).trans (cQ_of ht (Or.inl rfl) q3), q2, ?_⟩, ?_⟩
          · rw [q3 _ _ (by omega) (by omega) (by omega), a3]; rfl
          · funext d R
            rw [B150_52, if_pos (nI_lt hi (by omega)), a4, B150_82, kg11_9, kO_s, kg11_2, kO_s, kg11_7, kO_s, krecv_m ks54, kcond_t, q4, kpush_n, B150_97, nI_add1]
        obtain ⟨I2, ⟨g1, g2, g3⟩, e2⟩ := L
        refine ⟨I2, g1, fun d R => ?_⟩
        have h2 := h.keep g1
        obtain ⟨vi, li⟩ := tmS_ok vr h.vs (show G < 2147483648 by omega) n
        have e2' := congrFun (congrFun e2 d) R
        simp only [hk, hk2, hk3, i10, if_false]
        rw [nI_clamp (by omega), nI_clamp (by omega)]
        rw [B150_0, c16_9999, sp154, hw1, kpush_s, B150_8, if_neg (by decide), B150_11, c8_99, sp154, hk2, kpush_s, B150_18, if_neg (by decide), B150_21, sp154, hw3, kpush_s, B150_27, if_neg (by decide), B150_33, kg11_7, kO_s, kg11_6, kO_s, krecv_m ks44, kcond_t, e1, kpush_n, B150_44, kp11_16, kO_s]
        refine Eq.trans e2' ?_
        rw [B150_52, if_neg (nI_nlt (Nat.le_refl _) (by omega)), B150_103]
        have eg : ksum (I2 (44 + 1)) 7 = nI (grf (tmS r G s n).2) := ksum_n 7 g2.hd
        have eg0 : ksum (I2 (39 + 1)) 7 = nI (grf s) := ksum_n 7 h2.st.hd
        have e95 : kmost (I2 (44 + 1)) 7 = nI (nmx (tmS r G s n).2.hd r.nc) := by
          rw [kmost_n 7 g2.hd vi.hd]
          have := nmx_0 (f := (tmS r G s n).2.hd) (m := r.nc) (7 - r.nc) (fun k h1 h2 => vi.h0 k (by omega) h1)
          rw [show r.nc + (7 - r.nc) = 7 by omega] at this
          rw [this]
        rcases (by omega : q = 0 ∨ q = 1 ∨ q = 2) with rfl | rfl | rfl
        · rw [if_pos (show nI 0 = 0 from rfl), if_pos rfl, B150_107, kg11_7, kO_s, krecv_m ks44, kcond_t, sp94 ks44, eg, kpush_s, B150_114, kg11_6, kO_s, krecv_m ks39, kcond_t, sp94 ks39, eg0, kpush_s, B150_121]
        · rw [if_neg (by decide), if_neg (by decide), if_pos (show nI 1 = 1 from rfl), B150_123, if_pos (show nI 1 = 1 from rfl), B150_128, kg11_7, kO_s, krecv_m ks44, kcond_t, sp95 ks44, e95, kpush_s, B150_135, B150_152]
        · rw [if_neg (by decide), if_neg (by decide), if_neg (by decide), B150_123, if_neg (by decide), B150_138, kg11_7, kO_s, kg11_2, kO_s, kg6_0 ht, kO_s, h2.rl.nj, krecv_m ks44, kcond_t, sp96 ks44 vr vi g2, kpush_s, B150_152]
      · refine ⟨I, cQ.refl I, fun d R => ?_⟩
        have hw3 : kwithin v 0 2 = 0 := by have := kwi2 v; rw [h2] at this; exact this
        simp only [hk, hk2, h2, i10, if_false, if_true]
        rw [B150_0, c16_9999, sp154, hw1, kpush_s, B150_8, if_neg (by decide), B150_11, c8_99, sp154, hk2, kpush_s, B150_18, if_neg (by decide), B150_21, sp154, hw3, kpush_s, B150_27, if_pos rfl, B150_30, c8_m2]
    · refine ⟨I, cQ.refl I, fun d R => ?_⟩
      simp only [hk, h1, i10, if_false, if_true]
      rw [B150_0, c16_9999, sp154, hw1, kpush_s, B150_8, if_neg (by decide), B150_11, c8_99, sp154, h1, kpush_s, B150_18, if_pos rfl, B150_30, c8_m2]
  · refine ⟨I, cQ.refl I, fun d R => ?_⟩
    have hw1 : kwithin x 0 (nI 9999) = 0 := by have := kwi9999 x; rw [h0] at this; exact this
    simp only [h0, if_true]
    rw [B150_0, c16_9999, sp154, hw1, kpush_s, B150_8, if_pos rfl, B150_30, c8_m2]
theorem sp271 (h : mB I r s) (x y v : Int32) : ∃ I' t, mQ I I' ∧ ∀ d R, kX xs (d + 4) 271 0 [some (.ref 185), some (.int x), some (.int y), some (.int v), none, none, none] [] (kmm I J rf g) R = R (some (.int (aTerms r s x y v))) (kmm I' (ku J 185 33 t) rf g) := by
  have hq0 := mQ.thr I (nI 0)
  have h' := h.keep hq0
  have vr := h.vr
  have hc7 := vr.c
  have hj7 := vr.j
  have kJ : ku J 185 33 (J 185 33) = J := by
    funext a k
    by_cases q : a = 185 ∧ k = 33
    · rw [q.1, q.2, ku_same]
    · rw [ku_ne q]
  unfold aTerms
  rcases kidx_c x (show 10000 < 2147483648 by omega) with ⟨G, hG, rfl⟩ | h0
  · have hk := kidx_in hG (show 10000 < 2147483648 by omega)
    have hw1 : kwithin (nI G) 0 (nI 9999) = 1 := kwithin_in (n := 9999) (by omega) (by omega)
    rcases kwith_cN y (N := 99) (by omega) with ⟨n, hn1, hn2, rfl, hk2⟩ | h1
    · rcases kidx_c v (show 3 < 2147483648 by omega) with ⟨q, hq, rfl⟩ | h2
      · have hk3 := kidx_in hq (show 3 < 2147483648 by omega)
        have hw3 : kwithin (nI q) 0 2 = 1 := kwithin_in (n := 2) (by omega) (by omega)
        obtain ⟨I1, c1, c2, c3⟩ := sp195 (xs := xs) (J := J) (rf := rf) (g := g) (I := ku I 185 0 (nI 0)) (fr := 0) (to := 1210) (n := 30) (by omega) (by omega) (by omega)
        have q1 : mQ I I1 := hq0.trans (fun x k p1 p2 p3 p4 p5 => c2 x k (by omega))
        have L : ∃ pI : (Nat → Nat → Int32) × Nat, (mQ I pI.1 ∧ mSt pI.1 1210 r (tmS r G s n).2 ∧ pI.2 = (tmS r G s n).1) ∧ (fun (d : Nat) (R : Option Value → KW → Prop) => kX xs (d + 4) 271 57 [some (.ref 185), none, some (.int (nI n)), some (.int (nI q)), some (.int (nI 0)), none, none] [] (kmm (I1, G).1 (ku J 185 33 (lN (I1, G).2)) rf g) R) = (fun d R => kX xs (d + 4) 271 57 [some (.ref 185), none, some (.int (nI n)), some (.int (nI q)), some (.int (nI n)), none, none] [] (kmm pI.1 (ku J 185 33 (lN pI.2)) rf g) R) := by
          refine kloop (n := n) (s0 := (I1, G)) (fun i (pI : (Nat → Nat → Int32) × Nat) => mQ I pI.1 ∧ mSt pI.1 1210 r (tmS r G s i).2 ∧ pI.2 = (tmS r G s i).1) (fun i pI => fun (d : Nat) (R : Option Value → KW → Prop) => kX xs (d + 4) 271 57 [some (.ref 185), none, some (.int (nI n)), some (.int (nI q)), some (.int (nI i)), none, none] [] (kmm pI.1 (ku J 185 33 (lN pI.2)) rf g) R) ⟨q1, h'.st.copy vr c1, rfl⟩ ?_
          intro i ⟨I2, G2⟩ hi ⟨g1, g2, g3⟩
          have g3' : G2 = (tmS r G s i).1 := g3
          have g1' : mQ I I2 := g1
          have g2' : mSt I2 1210 r (tmS r G s i).2 := g2
          have h2 := h.keep g1'
          obtain ⟨vi, li⟩ := tmS_ok vr h.vs (show G < 2147483648 by omega) i
          have e0c := h2.rl.nc
          have e0j := h2.rl.nj
          have A : ∃ I3, mQ I2 I3 ∧ mSt I3 1210 r (tmP r (tmS r G s i)).2 ∧ ∀ d R, kX xs (d + 4) 271 63 [some (.ref 185), none, some (.int (nI n)), some (.int (nI q)), some (.int (nI i)), none, none] [] (kmm I2 (ku J 185 33 (lN (tmS r G s i).1)) rf g) R = kX xs (d + 4) 271 81 [some (.ref 185), none, some (.int (nI n)), some (.int (nI q)), some (.int (nI i)), none, none] [] (kmm I3 (ku J 185 33 (lN (tmP r (tmS r G s i)).1)) rf g) R := by
            unfold tmP
            by_cases hjj : 0 < r.nj
            · by_cases hcc : 0 < r.nc
              · obtain ⟨I3, a1, a2, a4⟩ := sp270 (xs := xs) (J := J) (rf := rf) (g := g) h2 vi g2' li hjj hcc
                rw [if_pos ⟨hjj, hcc⟩]
                refine ⟨I3, a1, a2, fun d R => ?_⟩
                rw [B271_63, krecv_m ks185, kcond_t, sp199, e0j, kpush_s, B271_67, n_0, if_pos (nI_lt hjj (by omega)), B271_70, krecv_m ks185, kcond_t, sp200, e0c, kpush_s, B271_74, n_0, if_pos (nI_lt hcc (by omega)), B271_77, krecv_m ks185, kcond_t, a4, kpush_n]
              · rw [if_neg (fun t => hcc t.2)]
                refine ⟨I2, mQ.refl I2, g2', fun d R => ?_⟩
                rw [B271_63, krecv_m ks185, kcond_t, sp199, e0j, kpush_s, B271_67, n_0, if_pos (nI_lt hjj (by omega)), B271_70, krecv_m ks185, kcond_t, sp200, e0c, kpush_s, B271_74, n_0, if_neg (nI_nlt (by omega) (by omega))]
            · rw [if_neg (fun t => hjj t.1)]
              refine ⟨I2, mQ.refl I2, g2', fun d R => ?_⟩
              rw [B271_63, krecv_m ks185, kcond_t, sp199, e0j, kpush_s, B271_67, n_0, if_neg (nI_nlt (by omega) (by omega))]
          obtain ⟨I3, a1, a2, a4⟩ := A
          obtain ⟨I4, b1, b2, b3⟩ := sp215 (xs := xs) (J := ku J 185 33 (lN (tmP r (tmS r G s i)).1)) (rf := rf) (g := g) (b := 1210) (by omega) vr (tmP_v vr vi) (h2.keep a1).rl a2
          refine ⟨(I4, (tmP r (tmS r G s i)).1), ⟨(g1'.trans a1).trans (fun x k p1 p2 p3 p4 p5 => b2 x k p1 p2 (by omega) (by omega) (by omega) (by omega)), b1, rfl⟩, ?_⟩
          funext d R
          show kX xs (d + 4) 271 57 _ _ (kmm I2 (ku J 185 33 (lN G2)) rf g) R = kX xs (d + 4) 271 57 _ _ (kmm I4 (ku J 185 33 (lN (tmP r (tmS r G s i)).1)) rf g) R
          rw [g3', B271_57, if_pos (nI_lt hi (by omega)), a4, B271_81, krecv_m ks185, kcond_t, c16_1210, b3, kpush_s, B271_88, nI_add1]
        obtain ⟨⟨I2, G2⟩, ⟨g1, g2, g3⟩, e2⟩ := L
        have g1' : mQ I I2 := g1
        have g2' : mSt I2 1210 r (tmS r G s n).2 := g2
        refine ⟨I2, lN G2, g1', fun d R => ?_⟩
        have h2 := h.keep g1'
        obtain ⟨vi, li⟩ := tmS_ok vr h.vs (show G < 2147483648 by omega) n
        have e2' := congrFun (congrFun e2 d) R
        have e0c := h2.rl.nc
        have e0j := h2.rl.nj
        have L3 := kchain (n := r.nc) (fun t => kX xs (d + 4) 271 101 [some (.ref 185), none, none, some (.int (nI q)), some (.int (nI (nmx (tmS r G s n).2.hd t))), some (.int (nI t)), none] [] (kmm I2 (ku J 185 33 (lN G2)) rf g) R) (by
          intro t ht
          show kX xs (d + 4) 271 101 _ _ _ _ = kX xs (d + 4) 271 101 _ _ _ _
          have eh := g2'.hd t (by omega)
          rw [show 1210 + 2 + t = 1212 + t by omega] at eh
          have b9 := vi.hd t (by omega)
          have bx := nmx_le (f := (tmS r G s n).2.hd) (b := 9999) t (fun k hk => vi.hd k (by omega))
          rw [B271_101, krecv_m ks185, kcond_t, sp200, e0c, kpush_s, B271_107, if_pos (nI_lt ht (by omega)), B271_110, kg12_23, kO_s, c16_1212, nI_add, ka201 (by omega), kO_s, eh, nmx]
          by_cases z : nmx (tmS r G s n).2.hd t < (tmS r G s n).2.hd t
          · rw [if_pos (nI_lt z (by omega)), B271_126, kg12_23, kO_s, c16_1212, nI_add, ka201 (by omega), kO_s, eh, B271_142, nI_add1, Nat.max_eq_right (by omega)]
          · rw [if_neg (nI_nlt (by omega) (by omega)), B271_140, B271_142, nI_add1, Nat.max_eq_left (by omega)])
        have L4 := kchain (n := r.nj) (fun t => kX xs (d + 4) 271 156 [some (.ref 185), none, none, some (.int (nI q)), some (.int (nI (nmx (tmS r G s n).2.hd r.nc))), some (.int (abI (lnB (tmS r G s n).2) t)), some (.int (nI t))] [] (kmm I2 (ku J 185 33 (lN G2)) rf g) R) (by
          intro t ht
          show kX xs (d + 4) 271 156 _ _ _ _ = kX xs (d + 4) 271 156 _ _ _ _
          rw [B271_156, krecv_m ks185, kcond_t, sp199, e0j, kpush_s, B271_162, if_pos (nI_lt ht (by omega)), B271_165]
          cases t with
          | zero => rw [show abI (lnB (tmS r G s n).2) 0 = -1 from rfl, if_pos (by decide), B271_195, B271_202, nI_add1]; rfl
          | succ k =>
            have hle := abN_le (lnB (tmS r G s n).2) k
            have e1 := g2'.ln (k + 1) ht
            rw [show 1210 + 9 + (k + 1) = 1219 + (k + 1) by omega] at e1
            have e2 := g2'.ln (abN (lnB (tmS r G s n).2) k) (by omega)
            rw [show 1210 + 9 + abN (lnB (tmS r G s n).2) k = 1219 + abN (lnB (tmS r G s n).2) k by omega] at e2
            have b1 := vi.ln (k + 1) (by omega)
            have b2 := vi.ln (abN (lnB (tmS r G s n).2) k) (by omega)
            rw [show abI (lnB (tmS r G s n).2) (k + 1) = nI (abN (lnB (tmS r G s n).2) k) from rfl, if_neg (nI_pos (by omega)), B271_170, kg12_23, kO_s, c16_1219, nI_add, ka201 (by omega), kO_s, e1, kO_s, nI_add, ka201 (by omega), kO_s, e2]
            by_cases z : (tmS r G s n).2.ln (abN (lnB (tmS r G s n).2) k) < (tmS r G s n).2.ln (k + 1)
            · have hN := abN_t (f := lnB (tmS r G s n).2) (n := k) (decide_eq_true z)
              rw [if_pos (nI_lt z (by omega)), B271_195, B271_202, nI_add1, show abI (lnB (tmS r G s n).2) (k + 1 + 1) = nI (abN (lnB (tmS r G s n).2) (k + 1)) from rfl, hN]
            · have hN := abN_f (f := lnB (tmS r G s n).2) (n := k) (fun e => z (of_decide_eq_true e))
              rw [if_neg (nI_nlt (by omega) (by omega)), B271_200, B271_202, nI_add1, show abI (lnB (tmS r G s n).2) (k + 1 + 1) = nI (abN (lnB (tmS r G s n).2) (k + 1)) from rfl, hN])
        simp only [hk, hk2, hk3, i10, if_false]
        rw [nI_clamp (by omega), nI_clamp (by omega)]
        rw [B271_0, kp12_0, kO_s, c16_9999, sp171, hw1, kpush_s, B271_13, if_neg (by decide), B271_16, c8_99, sp171, hk2, kpush_s, B271_23, if_neg (by decide), B271_26, sp171, hw3, kpush_s, B271_32, if_neg (by decide), B271_38, krecv_m ks185, kcond_t, c16_1210, c8_30, show (0 : Int32) = nI 0 from rfl, c3, kpush_n, B271_48, nI_l (by omega), kp12_33, kO_s]
        refine Eq.trans e2' ?_
        show kX xs (d + 4) 271 57 _ _ (kmm I2 (ku J 185 33 (lN G2)) rf g) R = _
        rw [B271_57, if_neg (nI_nlt (Nat.le_refl _) (by omega)), B271_95]
        refine Eq.trans L3 ?_
        rw [B271_101, krecv_m ks185, kcond_t, sp200, e0c, kpush_s, B271_107, if_neg (nI_nlt (Nat.le_refl _) (by omega)), B271_150]
        refine Eq.trans L4 ?_
        rw [B271_156, krecv_m ks185, kcond_t, sp199, e0j, kpush_s, B271_162, if_neg (nI_nlt (Nat.le_refl _) (by omega)), B271_210]
        rcases (by omega : q = 0 ∨ q = 1 ∨ q = 2) with rfl | rfl | rfl
        · rw [if_pos (show nI 0 = 0 from rfl), if_pos rfl, B271_214, krecv_m ks185, kcond_t, c16_1210, sp211 (b := 1210) (by omega) vr vi h2.rl g2', kpush_s, B271_221, krecv_m ks185, kcond_t, show (0 : Int32) = nI 0 from rfl, sp211 (b := 0) (by omega) vr h.vs h2.rl h2.st, kpush_s, B271_226, B271_242]
        · rw [if_neg (by decide), if_neg (by decide), if_pos (show nI 1 = 1 from rfl), B271_230, if_pos (show nI 1 = 1 from rfl), B271_235, B271_242]
        · rw [if_neg (by decide), if_neg (by decide), if_neg (by decide), B271_230, if_neg (by decide), B271_240, B271_242]
      · refine ⟨_, J 185 33, hq0, fun d R => ?_⟩
        have hw3 : kwithin v 0 2 = 0 := by have := kwi2 v; rw [h2] at this; exact this
        simp only [hk, hk2, h2, i10, if_false, if_true]
        rw [kJ, B271_0, kp12_0, kO_s, c16_9999, sp171, hw1, kpush_s, B271_13, if_neg (by decide), B271_16, c8_99, sp171, hk2, kpush_s, B271_23, if_neg (by decide), B271_26, sp171, hw3, kpush_s, B271_32, if_pos rfl, B271_35, c8_m2]
        rfl
    · refine ⟨_, J 185 33, hq0, fun d R => ?_⟩
      simp only [hk, h1, i10, if_false, if_true]
      rw [kJ, B271_0, kp12_0, kO_s, c16_9999, sp171, hw1, kpush_s, B271_13, if_neg (by decide), B271_16, c8_99, sp171, h1, kpush_s, B271_23, if_pos rfl, B271_35, c8_m2]
      rfl
  · refine ⟨_, J 185 33, hq0, fun d R => ?_⟩
    have hw1 : kwithin x 0 (nI 9999) = 0 := by have := kwi9999 x; rw [h0] at this; exact this
    simp only [h0, if_true]
    rw [kJ, B271_0, kp12_0, kO_s, c16_9999, sp171, hw1, kpush_s, B271_13, if_pos rfl, B271_35, c8_m2]
    rfl
end TE
