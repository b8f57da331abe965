/-! plan -/
/-- how many have a day, three bits a day -/
def dg (D k : Nat) : Nat := D / 2 ^ (3 * k) % 8
def sdg (D : Nat) : Nat := dg D 0 + dg D 1 + dg D 2 + dg D 3
theorem dg_e (D : Nat) : dg D 0 = D % 8 ∧ dg D 1 = D / 8 % 8 ∧ dg D 2 = D / 64 % 8 ∧ dg D 3 = D / 512 % 8 := by
  unfold dg
  refine ⟨?_, rfl, rfl, rfl⟩
  show D / 1 % 8 = D % 8
  rw [Nat.div_one]
theorem dg_add {D k : Nat} (hD : D < 4096) (hk : k < 4) (h7 : dg D k < 7) : (∀ j, j < 4 → dg (D + 2 ^ (3 * k)) j = if j = k then dg D j + 1 else dg D j) ∧ sdg (D + 2 ^ (3 * k)) = sdg D + 1 ∧ D + 2 ^ (3 * k) < 4096 := by
  obtain ⟨a0, a1, a2, a3⟩ := dg_e D
  obtain ⟨b0, b1, b2, b3⟩ := dg_e (D + 2 ^ (3 * k))
  have key : (dg (D + 2 ^ (3 * k)) 0 = if 0 = k then dg D 0 + 1 else dg D 0) ∧ (dg (D + 2 ^ (3 * k)) 1 = if 1 = k then dg D 1 + 1 else dg D 1) ∧ (dg (D + 2 ^ (3 * k)) 2 = if 2 = k then dg D 2 + 1 else dg D 2) ∧ (dg (D + 2 ^ (3 * k)) 3 = if 3 = k then dg D 3 + 1 else dg D 3) ∧ D + 2 ^ (3 * k) < 4096 := by
    rw [b0, b1, b2, b3]
    rcases (by omega : k = 0 ∨ k = 1 ∨ k = 2 ∨ k = 3) with rfl | rfl | rfl | rfl
    · rw [a0] at h7
      rw [a0, a1, a2, a3, show 2 ^ (3 * 0) = 1 from rfl]
      refine ⟨?_, ?_, ?_, ?_, ?_⟩ <;> first | (rw [if_pos rfl]; omega) | (rw [if_neg (by omega)]; omega) | omega
    · rw [a1] at h7
      rw [a0, a1, a2, a3, show 2 ^ (3 * 1) = 8 from rfl]
      refine ⟨?_, ?_, ?_, ?_, ?_⟩ <;> first | (rw [if_pos rfl]; omega) | (rw [if_neg (by omega)]; omega) | omega
    · rw [a2] at h7
      rw [a0, a1, a2, a3, show 2 ^ (3 * 2) = 64 from rfl]
      refine ⟨?_, ?_, ?_, ?_, ?_⟩ <;> first | (rw [if_pos rfl]; omega) | (rw [if_neg (by omega)]; omega) | omega
    · rw [a3] at h7
      rw [a0, a1, a2, a3, show 2 ^ (3 * 3) = 512 from rfl]
      refine ⟨?_, ?_, ?_, ?_, ?_⟩ <;> first | (rw [if_pos rfl]; omega) | (rw [if_neg (by omega)]; omega) | omega
  obtain ⟨k0, k1, k2, k3, k4⟩ := key
  refine ⟨fun j hj => ?_, ?_, k4⟩
  · rcases (by omega : j = 0 ∨ j = 1 ∨ j = 2 ∨ j = 3) with rfl | rfl | rfl | rfl
    · exact k0
    · exact k1
    · exact k2
    · exact k3
  · unfold sdg
    rw [k0, k1, k2, k3]
    rcases (by omega : k = 0 ∨ k = 1 ∨ k = 2 ∨ k = 3) with rfl | rfl | rfl | rfl <;> simp <;> omega
theorem sdg_le {D n : Nat} (hD : D < 4096) (h : sdg D ≤ n) : D ≤ n * 512 := by
  obtain ⟨a0, a1, a2, a3⟩ := dg_e D
  unfold sdg at h
  rw [a0, a1, a2, a3] at h
  have e1 : D / 64 = D / 8 / 8 := by rw [Nat.div_div_eq_div_mul]
  have e2 : D / 512 = D / 8 / 8 / 8 := by rw [Nat.div_div_eq_div_mul, Nat.div_div_eq_div_mul]
  rw [e1, e2] at h
  clear a0 a1 a2 a3 e1 e2
  have e3 : D = D % 8 + 8 * (D / 8 % 8) + 64 * (D / 8 / 8 % 8) + 512 * (D / 8 / 8 / 8) := by omega
  have e4 : D / 8 / 8 / 8 < 8 := by omega
  rw [Nat.mod_eq_of_lt e4] at h
  generalize D % 8 = x0 at *
  generalize D / 8 % 8 = x1 at *
  generalize D / 8 / 8 % 8 = x2 at *
  generalize D / 8 / 8 / 8 = x3 at *
  omega
theorem dg_le {D k : Nat} (hk : k < 4) : dg D k ≤ sdg D := by
  unfold sdg
  rcases (by omega : k = 0 ∨ k = 1 ∨ k = 2 ∨ k = 3) with rfl | rfl | rfl | rfl <;> omega
def amt (r : aRl) (s : aSt) (c k : Nat) : Nat := if k < r.nj then gvn r s k c else 0
theorem amt_le (r : aRl) (s : aSt) (c k : Nat) : amt r s c k ≤ 40 := by
  unfold amt
  split
  · exact vd_le _ _ _
  · omega
def lsf (X : Nat → Nat) : Nat → Nat
  | 0 => 2147483647
  | i + 1 => min (lsf X i) (X i * 4 + i)
/-- what the cases behind are given at least, times four, and the first day by which they are -/
def ls (r : aRl) (s : aSt) : Nat → Nat → Nat → Nat
  | 0, _, _ => 0
  | f + 1, c, D => lsf (fun day => amt r s c (dg D day) + ls r s f (c + 1) (D + 2 ^ (3 * day)) / 4) 4
/-- the first days by which the least is given -/
def pr (r : aRl) (s : aSt) : Nat → Nat → Nat → Nat → Nat
  | 0, _, _, _ => 0
  | f + 1, c, D, k => if k = c then ls r s (f + 1) c D % 4 else pr r s f (c + 1) (D + 2 ^ (3 * (ls r s (f + 1) c D % 4))) k
def pX (r : aRl) (s : aSt) (f c D day : Nat) : Nat := amt r s c (dg D day) + ls r s f (c + 1) (D + 2 ^ (3 * day)) / 4
theorem lsf_sp {X : Nat → Nat} (hX : ∀ j, j < 4 → X j ≤ 1000) : ∀ i, 1 ≤ i → i ≤ 4 → (∃ j, j < i ∧ lsf X i = X j * 4 + j) ∧ ∀ j, j < i → lsf X i ≤ X j * 4 + j := by
  intro i
  induction i with
  | zero => intro h; omega
  | succ i ih =>
    intro _ hi
    have hx := hX i (by omega)
    rw [lsf]
    by_cases h0 : i = 0
    · subst h0
      refine ⟨⟨0, by omega, ?_⟩, fun j hj => ?_⟩
      · rw [lsf]; omega
      · obtain rfl : j = 0 := by omega
        omega
    · obtain ⟨⟨j, h1, h2⟩, h3⟩ := ih (by omega) (by omega)
      refine ⟨?_, fun j' hj' => ?_⟩
      · by_cases q : lsf X i ≤ X i * 4 + i
        · exact ⟨j, by omega, by omega⟩
        · exact ⟨i, by omega, by omega⟩
      · by_cases e : j' = i
        · rw [e]; omega
        · have := h3 j' (by omega); omega
theorem ls_le (r : aRl) (s : aSt) : ∀ f c D, f ≤ 7 → ls r s f c D ≤ 160 * f + 3 := by
  intro f
  induction f with
  | zero => intro c D _; exact Nat.zero_le _
  | succ f ih =>
    intro c D hf
    have hX : ∀ j, j < 4 → pX r s f c D j ≤ 1000 := by
      intro j _
      have a := amt_le r s c (dg D j)
      have b := ih (c + 1) (D + 2 ^ (3 * j)) (by omega)
      unfold pX
      omega
    have h := (lsf_sp hX 4 (by omega) (by omega)).2 0 (by omega)
    have a := amt_le r s c (dg D 0)
    have b := ih (c + 1) (D + 2 ^ (3 * 0)) (by omega)
    show lsf (pX r s f c D) 4 ≤ _
    unfold pX at h ⊢
    omega
theorem pX_le (r : aRl) (s : aSt) {f c D : Nat} (hf : f ≤ 7) (day : Nat) : pX r s f c D day ≤ 1000 := by
  have a := amt_le r s c (dg D day)
  have b := ls_le r s f (c + 1) (D + 2 ^ (3 * day)) hf
  unfold pX
  omega
theorem ls_s (r : aRl) (s : aSt) (f c D : Nat) : ls r s (f + 1) c D = lsf (pX r s f c D) 4 := rfl
def aPlan (r : aRl) (s : aSt) (x : Int32) : Int32 := if x = -1 then nI (ls r s r.nc 0 0 / 4) else if kidx x (nI r.nc) = 0 then -2 else nI (pr r s r.nc 0 0 x.toNatClampNeg)
theorem nI_and7 (a : Nat) : nI a &&& nI 7 = nI (a % 8) := by
  rw [nI_and, show 7 = 2 ^ 3 - 1 from rfl, Nat.and_two_pow_sub_one_eq_mod]
theorem nI_and4095 (a : Nat) : nI a &&& nI 4095 = nI (a % 4096) := by
  rw [nI_and, show 4095 = 2 ^ 12 - 1 from rfl, Nat.and_two_pow_sub_one_eq_mod]
section PL
variable {xs : List Int32} {d : Nat} {I I' I2 : Nat → Nat → Int32} {J : Nat → Nat → Int64} {rf : Nat → Nat} {g : Nat} {R : Option Value → KW → Prop} {r : aRl} {s u : aSt} {w : KW} {z : aSn} {M : aM}
/-- verdict, for no case -/
theorem sp58z {a b j t nj nc : Nat} (ha : kshp a = some (.inl 6)) (hj : j < nj) (hnj : nj ≤ 7) (ht : nc ≤ t) (ht7 : t < 7) (ej : I a 0 = nI nj) (ec : I a 1 = nI nc) : kX xs (d + 2) 58 0 [some (.ref a), some (.ref b), some (.int (nI j)), some (.int (nI t)), none] [] (kmm I J rf g) R = R (some (.int 0)) (kmm I J rf g) := by
  have hk : kidx (nI t) (nI nc) = 0 := by
    unfold kidx
    rw [if_neg (nI_pos (by omega)), if_neg (nI_nlt ht (by omega))]
  have e10 : ¬ (1 : Int32) = 0 := by decide
  simp only [B58_0, B58_5, B58_8, B58_13, B58_16, B58_18, B58_28, B58_31, B58_59, B58_65, B58_75, B58_80, B58_86, B58_92, B58_97, krecv_m ha, kcond_t, sp51 ha, sp52 ha, ej, ec, kidx_in hj (show nj < 2147483648 by omega), hk, kpush_s, e10, if_false, if_true]
theorem sp33 {D day : Nat} (hD : D < 4096) (hd : day < 4) (h : D + 2 ^ (3 * day) < 4096) : kX xs d 33 0 [some (.int (nI D)), some (.int (nI day))] [] w R = R (some (.int (nI (D + 2 ^ (3 * day))))) w := by
  rw [B33_0, n_3, pk_mul, nI_bit (by omega), nI_add, c16_4095, nI_and4095, Nat.mod_eq_of_lt h]
/-- setAmounts -/
theorem sp31 (h : cB I rf r s) : ∃ I', (∀ t k, t < r.nc → k < 7 → I' 64 (8 * t + k) = nI (amt r s t k)) ∧ (∀ x k, x ≠ 64 → I' x k = I x k) ∧ ∀ d R, kX xs (d + 3) 31 0 [some (.ref 62), some (.ref (rf 2)), some (.ref 39), none, none, none] [] (kmm I J rf g) R = R none (kmm I' J rf g) := by
  have ht := h.t
  have ha := kad6 ht
  have hc7 := h.vr.c
  have hj7 := h.vr.j
  have L : ∃ I2, ((∀ t k, t < 7 → t < r.nc → k < 7 → I2 64 (8 * t + k) = nI (amt r s t k)) ∧ ∀ x k, x ≠ 64 → I2 x k = I x k) ∧ (fun (d : Nat) (R : Option Value → KW → Prop) => kX xs (d + 3) 31 2 [some (.ref 62), some (.ref (rf 2)), some (.ref 39), some (.int (nI 0)), none, none] [] (kmm I J rf g) R) = (fun d R => kX xs (d + 3) 31 2 [some (.ref 62), some (.ref (rf 2)), some (.ref 39), some (.int (nI 7)), none, none] [] (kmm I2 J rf g) R) := by
    refine kloop (n := 7) (s0 := I) (fun i I2 => (∀ t k, t < i → t < r.nc → k < 7 → I2 64 (8 * t + k) = nI (amt r s t k)) ∧ ∀ x k, x ≠ 64 → I2 x k = I x k) (fun i I2 => fun (d : Nat) (R : Option Value → KW → Prop) => kX xs (d + 3) 31 2 [some (.ref 62), some (.ref (rf 2)), some (.ref 39), some (.int (nI i)), none, none] [] (kmm I2 J rf g) R) ⟨fun t k h1 => by omega, fun _ _ _ => rfl⟩ ?_
    intro i I2 hi ⟨g1, g2⟩
    have L2 : ∃ I3, ((∀ k, k < 7 → i < r.nc → I3 64 (8 * i + k) = nI (amt r s i k)) ∧ ∀ x k, ¬ (x = 64 ∧ 8 * i ≤ k ∧ k < 8 * i + 8) → I3 x k = I2 x k) ∧ (fun (d : Nat) (R : Option Value → KW → Prop) => kX xs (d + 3) 31 11 [some (.ref 62), some (.ref (rf 2)), some (.ref 39), some (.int (nI i)), some (.int (nI 0)), none] [] (kmm I2 J rf g) R) = (fun d R => kX xs (d + 3) 31 11 [some (.ref 62), some (.ref (rf 2)), some (.ref 39), some (.int (nI i)), some (.int (nI 7)), none] [] (kmm I3 J rf g) R) := by
      refine kloop (n := 7) (s0 := I2) (fun k I3 => (∀ k', k' < k → i < r.nc → I3 64 (8 * i + k') = nI (amt r s i k')) ∧ ∀ x k, ¬ (x = 64 ∧ 8 * i ≤ k ∧ k < 8 * i + 8) → I3 x k = I2 x k) (fun k I3 => fun (d : Nat) (R : Option Value → KW → Prop) => kX xs (d + 3) 31 11 [some (.ref 62), some (.ref (rf 2)), some (.ref 39), some (.int (nI i)), some (.int (nI k)), none] [] (kmm I3 J rf g) R) ⟨fun k h1 => by omega, fun _ _ _ => rfl⟩ ?_
      intro k I3 hk ⟨g3, g4⟩
      have hb : cB I3 rf r s := ⟨ht, h.vr, h.vs, h.rl.keep (fun x k _ _ => by rw [g4 x k (by omega), g2 x k (by omega)]), h.st.keep (fun x k _ _ => by rw [g4 x k (by omega), g2 x k (by omega)])⟩
      have en := hb.rl.nj
      by_cases hkj : k < r.nj
      · have hch := hb.st.ch k hk
        have hcj := h.vs.cj k hkj
        by_cases hic : i < r.nc
        · have ev : vd (r.kd (s.ch k)) (r.gu i) (s.ln (s.ch k)) = amt r s i k := by unfold amt; rw [if_pos hkj]; rfl
          refine ⟨ku I3 64 (8 * i + k) (nI (amt r s i k)), ⟨fun k' h1 h2 => ?_, fun x k' hx => by rw [ku_ne (by omega), g4 x k' hx]⟩, ?_⟩
          · by_cases e : k' = k
            · rw [e, ku_same]
            · rw [ku_nek (by omega), g3 k' (by omega) h2]
          · funext d R
            rw [B31_11, c8_7, if_pos (nI_lt hk (by omega)), B31_18, kg6_0 ht, kO_s, en, if_pos (nI_lt hkj (by omega)), B31_27, B31_32, kg4_1, kO_s, c8_8, pk_mul, nI_add, if_neg (by decide), B31_50, kg9_5 ks39, kO_s, ka9_4 ks39 (by omega), kO_s, hch, krecv_m ht, kcond_t, sp58e hb hcj hic, ev, kpush_s, B31_63, B31_67, kw64 (by omega), kO_s, nI_add1]
        · refine ⟨ku I3 64 (8 * i + k) (nI 0), ⟨fun k' h1 h2 => absurd h2 hic, fun x k' hx => by rw [ku_ne (by omega), g4 x k' hx]⟩, ?_⟩
          funext d R
          rw [B31_11, c8_7, if_pos (nI_lt hk (by omega)), B31_18, kg6_0 ht, kO_s, en, if_pos (nI_lt hkj (by omega)), B31_27, B31_32, kg4_1, kO_s, c8_8, pk_mul, nI_add, if_neg (by decide), B31_50, kg9_5 ks39, kO_s, ka9_4 ks39 (by omega), kO_s, hch, krecv_m ht, kcond_t, sp58z ht hcj hj7 (by omega) hi en hb.rl.nc, kpush_s, B31_63, B31_67, kw64 (by omega), kO_s, nI_add1]
          rfl
      · have ev : amt r s i k = 0 := by unfold amt; rw [if_neg hkj]
        refine ⟨ku I3 64 (8 * i + k) (nI 0), ⟨fun k' h1 h2 => ?_, fun x k' hx => by rw [ku_ne (by omega), g4 x k' hx]⟩, ?_⟩
        · by_cases e : k' = k
          · rw [e, ku_same, ev]
          · rw [ku_nek (by omega), g3 k' (by omega) h2]
        · funext d R
          rw [B31_11, c8_7, if_pos (nI_lt hk (by omega)), B31_18, kg6_0 ht, kO_s, en, if_neg (nI_nlt (by omega) (by omega)), B31_31, B31_32, kg4_1, kO_s, c8_8, pk_mul, nI_add, if_pos rfl, B31_66, B31_67, kw64 (by omega), kO_s, nI_add1]
          rfl
    obtain ⟨I3, ⟨g3, g4⟩, e3⟩ := L2
    refine ⟨I3, ⟨fun t k h1 h2 h3 => ?_, fun x k hx => by rw [g4 x k (by omega), g2 x k hx]⟩, ?_⟩
    · by_cases e : t = i
      · rw [e]; exact g3 k h3 (e ▸ h2)
      · rw [g4 _ _ (by omega), g1 t k (by omega) h2 h3]
    · funext d R
      have e3' := congrFun (congrFun e3 d) R
      rw [B31_2, c8_7, if_pos (nI_lt hi (by omega)), B31_8]
      refine Eq.trans e3' ?_
      rw [B31_11, c8_7, if_neg (nI_nlt (Nat.le_refl _) (by omega)), B31_74, nI_add1]
  obtain ⟨I2, ⟨g1, g2⟩, e2⟩ := L
  refine ⟨I2, fun t k h1 h2 => g1 t k (by omega) h1 h2, g2, fun d R => ?_⟩
  have e2' := congrFun (congrFun e2 d) R
  rw [B31_0]
  refine Eq.trans e2' ?_
  rw [B31_2, c8_7, if_neg (nI_nlt (Nat.le_refl _) (by omega)), B31_80]
/-- leastFrom -/
theorem sp32 {D c : Nat} (hD : D < 4096) (hs : sdg D = c) (hc : c < r.nc) (hc7 : r.nc ≤ 7) (ea : ∀ t k, t < r.nc → k < 7 → I 64 (8 * t + k) = nI (amt r s t k)) (el : ∀ D', D < D' → D' < 4096 → sdg D' ≤ r.nc → I 63 D' = nI (ls r s (r.nc - sdg D') (sdg D') D')) : kX xs (d + 1) 32 0 [some (.ref 62), some (.int (nI D)), some (.int (nI c)), none, none, none, none] [] (kmm I J rf g) R = R (some (.int (nI (ls r s (r.nc - c) c D)))) (kmm I J rf g) := by
  obtain ⟨f, hf⟩ : ∃ f, r.nc - c = f + 1 := ⟨r.nc - c - 1, by omega⟩
  have hX : ∀ j, j < 4 → pX r s f c D j ≤ 1000 := fun j _ => pX_le r s (by omega) j
  have L := kchain (n := 4) (fun i => kX xs (d + 1) 32 6 [some (.ref 62), some (.int (nI D)), some (.int (nI c)), some (.int (nI (lsf (pX r s f c D) i))), some (.int (nI i)), none, none] [] (kmm I J rf g) R) (by
    intro i hi
    show kX xs (d + 1) 32 6 _ _ _ _ = kX xs (d + 1) 32 6 _ _ _ _
    have hdl := dg_le (D := D) hi
    obtain ⟨x1, x2, x3⟩ := dg_add hD hi (by omega)
    have hp : 0 < 2 ^ (3 * i) := Nat.pow_pos (by omega)
    have el' := el (D + 2 ^ (3 * i)) (by omega) x3 (by omega)
    rw [x2, show r.nc - (sdg D + 1) = f by omega, hs] at el'
    have ea' := ea c (dg D i) hc (by omega)
    have bl := ls_le r s f (c + 1) (D + 2 ^ (3 * i)) (by omega)
    have hXi := hX i hi
    have hlsf : lsf (pX r s f c D) i < 2147483648 := by
      by_cases h0 : i = 0
      · rw [h0, lsf]; omega
      · obtain ⟨⟨j, h1, h2⟩, -⟩ := lsf_sp hX i (by omega) (by omega)
        have := hX j (by omega)
        omega
    have hx : amt r s c (dg D i) + ls r s f (c + 1) (D + 2 ^ (3 * i)) / 4 = pX r s f c D i := rfl
    rw [B32_6, n_4, if_pos (nI_lt hi (by omega)), B32_12, kg4_1, kO_s, n_3, pk_mul, nI_shr (by omega) (by omega), c8_7, nI_and7, c8_8, pk_mul, nI_add, show D / 2 ^ (3 * i) % 8 = dg D i from rfl, ka64 (by omega), kO_s, ea', kg4_0, kO_s, sp33 hD hi x3, kpush_s, B32_43, ka63 (by omega), kO_s, el', n_4, if_neg (by decide), pk_div (by omega) (by omega) (by omega), nI_add, hx, pk_mul, nI_add, sp279, kmin_n hlsf (by omega), kpush_s, B32_62, nI_add1]
    rfl)
  rw [hf, ls_s, B32_0]
  refine Eq.trans L ?_
  rw [B32_6, n_4, if_neg (nI_nlt (Nat.le_refl _) (by omega)), B32_69]
/-- work -/
theorem sp30_22 (hc7 : r.nc ≤ 7) : ∀ t, t ≤ r.nc * 512 + 1 → ∀ I : Nat → Nat → Int32, (∀ t k, t < r.nc → k < 7 → I 64 (8 * t + k) = nI (amt r s t k)) → (∀ D', t ≤ D' → D' < 4096 → sdg D' ≤ r.nc → I 63 D' = nI (ls r s (r.nc - sdg D') (sdg D') D')) → ∃ I', (∀ x k, x ≠ 63 → I' x k = I x k) ∧ (∀ D', D' < 4096 → sdg D' ≤ r.nc → I' 63 D' = nI (ls r s (r.nc - sdg D') (sdg D') D')) ∧ ∀ d R, kX xs (d + 2) 30 22 [some (.ref 62), none, none, some (.int (nI r.nc)), some (.int (if t = 0 then -1 else nI (t - 1))), none] [] (kmm I J rf g) R = R none (kmm I' J rf g) := by
  intro t
  induction t with
  | zero =>
    intro _ I ea el
    refine ⟨I, fun _ _ _ => rfl, fun D' h1 h2 => el D' (by omega) h1 h2, fun d R => ?_⟩
    rw [if_pos rfl, B30_22, if_pos (by decide), B30_91]
  | succ t ih =>
    intro ht I ea el
    obtain ⟨a0, a1, a2, a3⟩ := dg_e t
    have hl : nI t + Int32.ofInt (-1) = if t = 0 then -1 else nI (t - 1) := by
      by_cases e : t = 0
      · rw [if_pos e, e]; decide
      · rw [if_neg e]
        obtain ⟨q, hq⟩ : ∃ q, t = q + 1 := ⟨t - 1, by omega⟩
        rw [hq, nI_dec, Nat.add_sub_cancel]
    have hsd : sdg t = t % 8 + t / 2 ^ 3 % 8 + t / 2 ^ 6 % 8 + t / 2 ^ 9 % 8 := by unfold sdg; rw [a0, a1, a2, a3]
    have hs29 : sdg t < 29 := by rw [hsd]; omega
    have e27 : ∀ l4 : Int32, l4 = nI t → ((((l4 &&& (nI 7)) + ((l4 >>> (nI 3 &&& 31)) &&& (nI 7))) + ((l4 >>> (nI 6 &&& 31)) &&& (nI 7))) + ((l4 >>> (nI 9 &&& 31)) &&& (nI 7))) = nI (sdg t) := by
      intro l4 e
      rw [e, nI_and7, nI_shr (by omega) (by omega), nI_and7, nI_shr (by omega) (by omega), nI_and7, nI_shr (by omega) (by omega), nI_and7, nI_add, nI_add, nI_add, hsd]
    have e27' := e27 (nI t) rfl
    have fin : ∀ v : Nat, (sdg t ≤ r.nc → v = ls r s (r.nc - sdg t) (sdg t) t) → ∃ I', (∀ x k, x ≠ 63 → I' x k = I x k) ∧ (∀ D', D' < 4096 → sdg D' ≤ r.nc → I' 63 D' = nI (ls r s (r.nc - sdg D') (sdg D') D')) ∧ ∀ d R, kX xs (d + 2) 30 84 [some (.ref 62), none, none, some (.int (nI r.nc)), some (.int (nI t)), none] [.int (nI v), .int (nI t), .ref 63] (kmm I J rf g) R = R none (kmm I' J rf g) := by
      intro v hv
      obtain ⟨I', b1, b2, b3⟩ := ih (by omega) (ku I 63 t (nI v)) (fun t k h1 h2 => by rw [ku_nea (by omega), ea t k h1 h2]) (fun D' h1 h2 h3 => by
        by_cases e : D' = t
        · rw [e, ku_same, hv (e ▸ h3)]
        · rw [ku_nek e, el D' (by omega) h2 h3])
      refine ⟨I', fun x k hx => by rw [b1 x k hx, ku_nea hx], b2, fun d R => ?_⟩
      rw [B30_84, kw63 (by omega), kO_s, B30_85, hl, b3]
    by_cases hlt : sdg t < r.nc
    · obtain ⟨I', b1, b2, b3⟩ := fin (ls r s (r.nc - sdg t) (sdg t) t) (fun _ => rfl)
      refine ⟨I', b1, b2, fun d R => ?_⟩
      have h32 : ∀ R, kX xs (d + 1) 32 0 [some (.ref 62), some (.int (nI t)), some (.int (nI (sdg t))), none, none, none, none] [] (kmm I J rf g) R = _ := fun R => sp32 (r := r) (s := s) (show t < 4096 by omega) rfl hlt hc7 ea (fun D' h1 h2 h3 => el D' (by omega) h2 h3)
      rw [if_neg (by omega), Nat.add_sub_cancel, B30_22, if_neg (nI_pos (by omega)), B30_27, kg4_0, kO_s, c8_7, c8_6, c8_9, n_3, e27', if_pos (nI_lt hlt (by omega)), B30_72, krecv_m ks62, kcond_t, h32, kpush_s, B30_80, b3]
    · obtain ⟨I', b1, b2, b3⟩ := fin 0 (fun hle => by rw [show r.nc - sdg t = 0 by omega]; rfl)
      refine ⟨I', b1, b2, fun d R => ?_⟩
      rw [if_neg (by omega), Nat.add_sub_cancel, B30_22, if_neg (nI_pos (by omega)), B30_27, kg4_0, kO_s, c8_7, c8_6, c8_9, n_3, e27', if_neg (nI_nlt (by omega) (by omega)), B30_83]
      exact b3 d R
theorem sp30 (h : cB I rf r s) : ∃ I', (∀ D', D' < 4096 → sdg D' ≤ r.nc → I' 63 D' = nI (ls r s (r.nc - sdg D') (sdg D') D')) ∧ (∀ x k, x ≠ 63 → x ≠ 64 → I' x k = I x k) ∧ ∀ d R, kX xs (d + 4) 30 0 [some (.ref 62), some (.ref (rf 2)), some (.ref 39), none, none, none] [] (kmm I J rf g) R = R none (kmm I' J rf g) := by
  have ht := h.t
  have ha := kad6 ht
  have hc7 := h.vr.c
  obtain ⟨I1, a1, a2, a3⟩ := sp31 (xs := xs) (J := J) (g := g) h
  obtain ⟨I2, b1, b2, b3⟩ := sp30_22 (xs := xs) (J := J) (rf := rf) (g := g) (s := s) hc7 (r.nc * 512 + 1) (Nat.le_refl _) I1 a1 (fun D' h1 h2 h3 => by have := sdg_le h2 h3; omega)
  refine ⟨I2, b2, fun x k h1 h2 => by rw [b1 x k h1, a2 x k h2], fun d R => ?_⟩
  have e1 : I1 (rf 2) 1 = nI r.nc := by rw [a2 _ _ (by omega), h.rl.nc]
  have hs : nI r.nc <<< (nI 9 &&& 31) = nI (r.nc * 512) := nI_shl (by omega) (by omega)
  have b3' := b3 (d + 2) R
  rw [if_neg (by omega), Nat.add_sub_cancel] at b3'
  rw [B30_0, krecv_m ks62, kcond_t, a3, kpush_n, B30_6, kg6_1 ht, kO_s, e1, c8_7, sp279, kmin_n (by omega) (by omega), Nat.min_eq_left (by omega), kpush_s, B30_15, c8_9, hs]
  exact b3'
/-- dayOf -/
theorem sp35 {k : Nat} (hc7 : r.nc ≤ 7) (hk : k < r.nc) (el : ∀ D', D' < 4096 → sdg D' ≤ r.nc → I 63 D' = nI (ls r s (r.nc - sdg D') (sdg D') D')) : kX xs (d + 1) 35 0 [some (.ref 62), some (.int (nI k)), none, none] [] (kmm I J rf g) R = R (some (.int (nI (pr r s r.nc 0 0 k)))) (kmm I J rf g) := by
  have key : ∀ j n D, n + j = k → D < 4096 → sdg D = n → kX xs (d + 1) 35 4 [some (.ref 62), some (.int (nI k)), some (.int (nI D)), some (.int (nI n))] [] (kmm I J rf g) R = R (some (.int (nI (pr r s (r.nc - n) n D k)))) (kmm I J rf g) := by
    intro j
    induction j with
    | zero =>
      intro n D hn hD hs
      obtain ⟨f, hf⟩ : ∃ f, r.nc - n = f + 1 := ⟨r.nc - n - 1, by omega⟩
      have e := el D hD (by omega)
      have bl := ls_le r s (f + 1) n D (by omega)
      rw [hs, hf] at e
      rw [hf, pr, if_pos (by omega), B35_4, if_neg (nI_nlt (by omega) (by omega)), B35_28, kg4_0, kO_s, ka63 hD, kO_s, e, n_4, if_neg (by decide), pk_rem (by omega) (by omega) (by omega)]
    | succ j ih =>
      intro n D hn hD hs
      obtain ⟨f, hf⟩ : ∃ f, r.nc - n = f + 1 := ⟨r.nc - n - 1, by omega⟩
      have e := el D hD (by omega)
      have bl := ls_le r s (f + 1) n D (by omega)
      rw [hs, hf] at e
      have hm := Nat.mod_lt (ls r s (f + 1) n D) (show 4 > 0 by omega)
      have hdl := dg_le (D := D) hm
      obtain ⟨x1, x2, x3⟩ := dg_add hD hm (by omega)
      have ih' := ih (n + 1) (D + 2 ^ (3 * (ls r s (f + 1) n D % 4))) (by omega) x3 (by omega)
      rw [show r.nc - (n + 1) = f by omega] at ih'
      rw [hf, pr, if_neg (by omega), B35_4, if_pos (nI_lt (by omega) (by omega)), B35_9, kg4_0, kO_s, ka63 hD, kO_s, e, n_4, if_neg (by decide), pk_rem (by omega) (by omega) (by omega), sp33 hD hm x3, kpush_s, B35_21, nI_add1, ih']
  rw [B35_0]
  exact key k 0 0 (by omega) (by omega) rfl
theorem sp122 (h : cB I rf r s) (x : Int32) : ∃ I', cQ I I' ∧ ∀ d R, kX xs (d + 5) 122 0 [some (.ref 0), some (.int x)] [] (kmm I J rf g) R = R (some (.int (aPlan r s x))) (kmm I' J rf g) := by
  have ht := h.t
  have hc7 := h.vr.c
  have e0 := h.rl.nc
  obtain ⟨I1, a1, a2, a3⟩ := sp30 (xs := xs) (J := J) (g := g) h
  have q : cQ I I1 := fun x k h1 h2 h3 h4 => a2 x k (by omega) (by omega)
  unfold aPlan
  by_cases hx : x = -1
  · refine ⟨I1, q, fun d R => ?_⟩
    have el := a1 0 (by omega) (show sdg 0 ≤ r.nc from Nat.zero_le _)
    have el' : I1 63 0 = nI (ls r s r.nc 0 0) := el
    have bl := ls_le r s r.nc 0 0 hc7
    rw [if_pos hx, B122_0, if_pos hx, B122_19, kg11_10, kO_s, kg11_2, kO_s, kg11_6, kO_s, krecv_m ks62, kcond_t, a3, kpush_n, B122_34, if_pos hx, B122_39, kg11_10, kO_s, krecv_m ks62, kcond_t, B34_0, kg4_0, kO_s, n_0, ka63 (by omega), kO_s, el', n_4, if_neg (by decide), pk_div (by omega) (by omega) (by omega), kpush_s, B122_46, B122_57]
  · rcases kidx_c x (show r.nc < 2147483648 by omega) with ⟨c, hc, rfl⟩ | h0
    · have hk := kidx_in hc (show r.nc < 2147483648 by omega)
      refine ⟨I1, q, fun d R => ?_⟩
      rw [if_neg hx, hk, if_neg (by decide), nI_clamp (by omega), B122_0, if_neg hx, B122_5, kg11_2, kO_s, krecv_m ht, kcond_t, sp52 ht, e0, hk, kpush_s, B122_13, if_neg (by decide), B122_19, kg11_10, kO_s, kg11_2, kO_s, kg11_6, kO_s, krecv_m ks62, kcond_t, a3, kpush_n, B122_34, if_neg hx, B122_49, kg11_10, kO_s, krecv_m ks62, kcond_t, sp35 hc7 hc a1, kpush_s, B122_57]
    · refine ⟨I, cQ.refl I, fun d R => ?_⟩
      rw [if_neg hx, h0, if_pos rfl, B122_0, if_neg hx, B122_5, kg11_2, kO_s, krecv_m ht, kcond_t, sp52 ht, e0, h0, kpush_s, B122_13, if_pos rfl, B122_16, c8_m2]
end PL
