/-! the model reads a line of an assize -/
def lnA (T : aTp) (D : aDr) (s : aPS) : aPS := if kdO T s = 128 then (if D.nj < 7 then jg4 T D s else wrg T 5 s) else if kdO T s = 130 then (if D.nc < 7 then cs5 T D s else wrg T 5 s) else if kdO T s = 133 then ch2 T D s else dl2 T D s
def lnD (T : aTp) (D : aDr) (s : aPS) : aDr := if kdO T s = 128 then jgD T D s else if kdO T s = 130 then csD T D s else if kdO T s = 133 then prD D (chA T D s) (chB T D s) else dlD D
theorem lNm_j {nj nc v : Nat} {N : aNm} {nm no : Nat → Nat} (h : lNm (nj + nc) nj nc N nm no) (hj : nj < 7) : lNm (nj + 1 + nc) (nj + 1) nc (aNm.mk (ku1 N.j nj v) N.c) (ku1 nm (nj + nc) v) (ku1 no (nj + nc) nj) := by
  refine ⟨fun k hk => ?_, fun i hi => ?_, fun i hi => ?_⟩
  · by_cases e : k = nj + nc
    · rw [e, ku1_s, ku1_s]
      exact Or.inl ⟨by omega, (ku1_s _ _ _).symm⟩
    · rw [ku1_n e, ku1_n e]
      rcases h.s k (by omega) with z | z
      · refine Or.inl ⟨by omega, ?_⟩
        show nm k = ku1 N.j nj v (no k)
        rw [ku1_n (by omega)]; exact z.2
      · exact Or.inr z
  · by_cases e : i = nj
    · exact ⟨nj + nc, by omega, by rw [ku1_s, e]⟩
    · obtain ⟨k, k1, k2⟩ := h.j i (by omega)
      exact ⟨k, by omega, by rw [ku1_n (by omega)]; exact k2⟩
  · obtain ⟨k, k1, k2⟩ := h.c i hi
    exact ⟨k, by omega, by rw [ku1_n (by omega)]; exact k2⟩
theorem lNm_c {nj nc v : Nat} {N : aNm} {nm no : Nat → Nat} (h : lNm (nj + nc) nj nc N nm no) : lNm (nj + (nc + 1)) nj (nc + 1) (aNm.mk N.j (ku1 N.c nc v)) (ku1 nm (nj + nc) v) (ku1 no (nj + nc) (20 + nc)) := by
  refine ⟨fun k hk => ?_, fun i hi => ?_, fun i hi => ?_⟩
  · by_cases e : k = nj + nc
    · rw [e, ku1_s, ku1_s]
      refine Or.inr ⟨by omega, by omega, ?_⟩
      show v = ku1 N.c nc v (20 + nc - 20)
      rw [show 20 + nc - 20 = nc by omega, ku1_s]
    · rw [ku1_n e, ku1_n e]
      rcases h.s k (by omega) with z | z
      · exact Or.inl z
      · refine Or.inr ⟨z.1, by omega, ?_⟩
        show nm k = ku1 N.c nc v (no k - 20)
        rw [ku1_n (by omega)]; exact z.2.2
  · obtain ⟨k, k1, k2⟩ := h.j i hi
    exact ⟨k, by omega, by rw [ku1_n (by omega)]; exact k2⟩
  · by_cases e : i = nc
    · exact ⟨nj + nc, by omega, by rw [ku1_s, e]⟩
    · obtain ⟨k, k1, k2⟩ := h.c i (by omega)
      exact ⟨k, by omega, by rw [ku1_n (by omega)]; exact k2⟩
section MQ
variable {xs : List Int32} {d : Nat} {I I' I2 : Nat → Nat → Int32} {J J' J2 : Nat → Nat → Int64} {rf : Nat → Nat} {g : Nat} {R : Option Value → KW → Prop} {T : aTp} {s u L : aPS} {D D' : aDr}
theorem mDr_j {v kd ln : Nat} (h : mDr I J D) (hj : D.nj < 7) (hc : D.nc ≤ 7) (f90 : I' 191 90 = nI (D.nj + 1)) (fk : I' 191 (94 + 3 * D.nj) = nI kd) (fl : I' 191 (94 + 3 * D.nj + 1) = nI ln) (fo : ∀ k, 90 < k → k ≠ 94 + 3 * D.nj → k ≠ 94 + 3 * D.nj + 1 → I' 191 k = I 191 k) (f19 : I' 185 19 = nI (D.nj + D.nc + 1)) (f7 : I' 197 (D.nj + D.nc) = nI (0 + D.nj)) (o7 : ∀ k, k ≠ D.nj + D.nc → I' 197 k = I 197 k) (j5 : J' 195 (D.nj + D.nc) = nJ v) (o5 : ∀ k, k ≠ D.nj + D.nc → J' 195 k = J 195 k) : mDr I' J' (adJ D v kd ln) := by
  obtain ⟨nm, no, hN⟩ := h.nm
  refine ⟨f90, ?_, ?_, ?_, fun k hk => ?_, fun k hk => ?_, fun k hk => ?_, fun k hk => ?_, fun k hk => ?_, fun k hk => ?_, fun k hk => ?_, ku1 nm (D.nj + D.nc) v, ku1 no (D.nj + D.nc) D.nj, ?_, lNm_j hN.l hj, fun k hk => ?_, fun k hk => ?_⟩
  · rw [fo _ (by omega) (by omega) (by omega)]; exact h.nc
  · rw [fo _ (by omega) (by omega) (by omega)]; exact h.np
  · rw [fo _ (by omega) (by omega) (by omega)]; exact h.lw
  · have hk' : k < D.nj + 1 := hk
    show _ = nI (ku1 D.kd D.nj kd k)
    by_cases e : k = D.nj
    · rw [e, ku1_s]; exact fk
    · rw [ku1_n e, fo _ (by omega) (by omega) (by omega)]; exact h.kd k (by omega)
  · have hk' : k < D.nj + 1 := hk
    show _ = nI (ku1 D.bg.ln D.nj ln k)
    by_cases e : k = D.nj
    · rw [e, ku1_s]; exact fl
    · rw [ku1_n e, fo _ (by omega) (by omega) (by omega)]; exact h.ln k (by omega)
  · rw [fo _ (by omega) (by omega) (by omega)]; exact h.ms k hk
  · rw [fo _ (by omega) (by omega) (by omega)]; exact h.gu k hk
  · rw [fo _ (by omega) (by omega) (by omega)]; exact h.up k hk
  · rw [fo _ (by omega) (by omega) (by omega)]; exact h.pa k hk
  · rw [fo _ (by omega) (by omega) (by omega)]; exact h.pb k hk
  · show _ = nI (D.nj + 1 + D.nc)
    rw [f19, show D.nj + D.nc + 1 = D.nj + 1 + D.nc by omega]
  · have hk' : k < D.nj + 1 + D.nc := hk
    by_cases e : k = D.nj + D.nc
    · rw [e, ku1_s]; exact j5
    · rw [ku1_n e, o5 k e]; exact hN.n k (by omega)
  · have hk' : k < D.nj + 1 + D.nc := hk
    by_cases e : k = D.nj + D.nc
    · rw [e, ku1_s, f7, Nat.zero_add]
    · rw [ku1_n e, o7 k e]; exact hN.o k (by omega)
theorem mDr_c {v gu up : Nat} (h : mDr I J D) (hj : D.nj ≤ 7) (hc : D.nc < 7) (f91 : I' 191 91 = nI (D.nc + 1)) (fk : I' 191 (115 + 2 * D.nc) = nI gu) (fl : I' 191 (115 + 2 * D.nc + 1) = nI up) (fo : ∀ k, 90 ≤ k → k ≠ 91 → k ≠ 115 + 2 * D.nc → k ≠ 115 + 2 * D.nc + 1 → I' 191 k = I 191 k) (f19 : I' 185 19 = nI (D.nj + D.nc + 1)) (f7 : I' 197 (D.nj + D.nc) = nI (20 + D.nc)) (o7 : ∀ k, k ≠ D.nj + D.nc → I' 197 k = I 197 k) (j5 : J' 195 (D.nj + D.nc) = nJ v) (o5 : ∀ k, k ≠ D.nj + D.nc → J' 195 k = J 195 k) : mDr I' J' (adC D v gu up) := by
  obtain ⟨nm, no, hN⟩ := h.nm
  refine ⟨?_, f91, ?_, ?_, fun k hk => ?_, fun k hk => ?_, fun k hk => ?_, fun k hk => ?_, fun k hk => ?_, fun k hk => ?_, fun k hk => ?_, ku1 nm (D.nj + D.nc) v, ku1 no (D.nj + D.nc) (20 + D.nc), ?_, lNm_c hN.l, fun k hk => ?_, fun k hk => ?_⟩
  · rw [fo _ (by omega) (by omega) (by omega) (by omega)]; exact h.nj
  · rw [fo _ (by omega) (by omega) (by omega) (by omega)]; exact h.np
  · rw [fo _ (by omega) (by omega) (by omega) (by omega)]; exact h.lw
  · have hk' : k < D.nj := hk
    rw [fo _ (by omega) (by omega) (by omega) (by omega)]; exact h.kd k hk
  · have hk' : k < D.nj := hk
    rw [fo _ (by omega) (by omega) (by omega) (by omega)]; exact h.ln k hk
  · rw [fo _ (by omega) (by omega) (by omega) (by omega)]; exact h.ms k hk
  · have hk' : k < D.nc + 1 := hk
    show _ = nI (ku1 D.gu D.nc gu k)
    by_cases e : k = D.nc
    · rw [e, ku1_s]; exact fk
    · rw [ku1_n e, fo _ (by omega) (by omega) (by omega) (by omega)]; exact h.gu k (by omega)
  · have hk' : k < D.nc + 1 := hk
    show _ = nI (ku1 D.bg.up D.nc up k)
    by_cases e : k = D.nc
    · rw [e, ku1_s]; exact fl
    · rw [ku1_n e, fo _ (by omega) (by omega) (by omega) (by omega)]; exact h.up k (by omega)
  · rw [fo _ (by omega) (by omega) (by omega) (by omega)]; exact h.pa k hk
  · rw [fo _ (by omega) (by omega) (by omega) (by omega)]; exact h.pb k hk
  · show _ = nI (D.nj + (D.nc + 1))
    rw [f19, show D.nj + D.nc + 1 = D.nj + (D.nc + 1) by omega]
  · have hk' : k < D.nj + (D.nc + 1) := hk
    by_cases e : k = D.nj + D.nc
    · rw [e, ku1_s]; exact j5
    · rw [ku1_n e, o5 k e]; exact hN.n k (by omega)
  · have hk' : k < D.nj + (D.nc + 1) := hk
    by_cases e : k = D.nj + D.nc
    · rw [e, ku1_s]; exact f7
    · rw [ku1_n e, o7 k e]; exact hN.o k (by omega)
/-- what follows a judge's name -/
theorem m_jr {i : Nat} (vt : vTp T) (h : mPS I J T u) (hk : u.k ≤ nT T) (hi : i + 1 < 180) (hi2 : 90 ≤ i) : ∃ I', mPS I' J T (iF (tkN T 20) (tak T 129 (iF (tkK T) u))) ∧ ((iF (tkN T 20) (tak T 129 (iF (tkK T) u))).F = 0 → I' 191 i = nI (kdO T u - 139) ∧ I' 191 (i + 1) = nI (tV T (pT T (tak T 129 (iF (tkK T) u)).k))) ∧ (∀ x k, ¬ (x = 185 ∧ (k = 7 ∨ k = 8 ∨ k = 13)) → ¬ (x = 192 ∧ 1100 ≤ k) → ¬ (x = 193 ∧ 1100 ≤ k) → ¬ (x = 191 ∧ (k = i ∨ k = i + 1)) → I' x k = I x k) ∧ ∀ d R, kX xs (d + 4) 181 29 [some (.ref 185), some (.int (nI i)), none, none] [] (kmm I J rf g) R = kX xs (d + 4) 181 164 [none, none, none, none] [] (kmm I' J rf g) R := by
  obtain ⟨I1, a1, a2, a4⟩ := m_176 (xs := xs) (rf := rf) (g := g) vt h hk
  have k1 := (kle_iF hk (kle_tkK hk)).2
  obtain ⟨I2, b1, b2, b4⟩ := m_174 (xs := xs) (rf := rf) (g := g) (c := 1) (m := 20) vt (by decide) (by decide) a1 k1
  have b4' : ∀ d R, kX xs (d + 3) 174 0 [some (.ref 185), some (.int 1), some (.int 0), some (.int (nI 20))] [] (kmm I1 J rf g) R = R (some (.int (if (iF (tkN T 20) (tak T 129 (iF (tkK T) u))).F = 0 then nI (tV T (pT T (tak T 129 (iF (tkK T) u)).k)) else 0))) (kmm I2 J rf g) := b4
  have b1' : mPS I2 J T (iF (tkN T 20) (tak T 129 (iF (tkK T) u))) := b1
  have ent : ∀ d R, kX xs (d + 4) 181 29 [some (.ref 185), some (.int (nI i)), none, none] [] (kmm I J rf g) R = kX xs (d + 4) 181 45 [some (.ref 185), some (.int (nI i)), some (.int (if (iF (tkK T) u).F = 0 then nI (kdO T u - 139) else 0)), none] [.int (if (iF (tkN T 20) (tak T 129 (iF (tkK T) u))).F = 0 then nI (tV T (pT T (tak T 129 (iF (tkK T) u)).k)) else 0)] (kmm I2 J rf g) R := by
    intro d R
    rw [B181_29, krecv_m ks185, kcond_t, c8_11, show d + 3 = d + 1 + 2 from rfl, a4, kpush_s, B181_36, krecv_m ks185, kcond_t, c8_20, b4', kpush_s]
  by_cases z : (iF (tkN T 20) (tak T 129 (iF (tkK T) u))).F = 0
  · have z3 : (iF (tkK T) u).F = 0 := tak_F (iF_F z)
    refine ⟨ku (ku I2 191 i (nI (kdO T u - 139))) 191 (i + 1) (nI (tV T (pT T (tak T 129 (iF (tkK T) u)).k))), b1'.ik (fun x k _ p _ => by rw [ku_nea p, ku_nea p]), fun _ => ⟨?_, ku_same _ _ _ _⟩, fun x k p1 p2 p3 p4 => ?_, fun d R => ?_⟩
    · rw [ku_nek (Nat.ne_of_lt (Nat.lt_succ_self i)), ku_same]
    · rw [ku_ne (fun y => p4 ⟨y.1, Or.inr y.2⟩), ku_ne (fun y => p4 ⟨y.1, Or.inl y.2⟩), b2 x k p1 p2 p3, a2 x k p1 p2 p3]
    · rw [ent, if_pos z, if_pos z3, B181_45, kg12_8, kO_s, if_pos ((mF0 b1').mpr z), B181_53, kg12_10, kO_s, kw191 (Nat.lt_trans (Nat.lt_succ_self i) hi), kO_s, kg12_10, kO_s, nI_add1, kw191 hi, kO_s, B181_69]
  · refine ⟨I2, b1', fun y => absurd y z, fun x k p1 p2 p3 _ => by rw [b2 x k p1 p2 p3, a2 x k p1 p2 p3], fun d R => ?_⟩
    rw [ent, B181_45, kg12_8, kO_s, if_neg (fun y => z ((mF0 b1').mp y)), B181_69]
/-- what follows a case's name -/
theorem m_cr {i : Nat} (vt : vTp T) (h : mPS I J T u) (hk : u.k ≤ nT T) (hi : i + 1 < 180) (hi2 : 90 ≤ i) : ∃ I', mPS I' J T (iF (tkN T 3) (tak T 132 (iF (tkN T 20) (tak T 131 u)))) ∧ ((iF (tkN T 3) (tak T 132 (iF (tkN T 20) (tak T 131 u)))).F = 0 → I' 191 i = nI (tV T (pT T (tak T 131 u).k)) ∧ I' 191 (i + 1) = nI (tV T (pT T (tak T 132 (iF (tkN T 20) (tak T 131 u))).k))) ∧ (∀ x k, ¬ (x = 185 ∧ (k = 7 ∨ k = 8 ∨ k = 13)) → ¬ (x = 192 ∧ 1100 ≤ k) → ¬ (x = 193 ∧ 1100 ≤ k) → ¬ (x = 191 ∧ (k = i ∨ k = i + 1)) → I' x k = I x k) ∧ ∀ d R, kX xs (d + 4) 181 102 [some (.ref 185), some (.int (nI i)), none, none] [] (kmm I J rf g) R = kX xs (d + 4) 181 164 [none, none, none, none] [] (kmm I' J rf g) R := by
  obtain ⟨I1, a1, a2, a4⟩ := m_174 (xs := xs) (rf := rf) (g := g) (c := 3) (m := 20) vt (by decide) (by decide) h hk
  have k0 := (kle_tak (T := T) (s := u) (c := 131) hk (by decide)).2
  have k1 : (iF (tkN T 20) (tak T 131 u)).k ≤ nT T := (kle_iF k0 (kle_tkN k0)).2
  have a1' : mPS I1 J T (iF (tkN T 20) (tak T 131 u)) := a1
  have a4' : ∀ d R, kX xs (d + 3) 174 0 [some (.ref 185), some (.int 3), some (.int 0), some (.int (nI 20))] [] (kmm I J rf g) R = R (some (.int (if (iF (tkN T 20) (tak T 131 u)).F = 0 then nI (tV T (pT T (tak T 131 u).k)) else 0))) (kmm I1 J rf g) := a4
  obtain ⟨I2, b1, b2, b4⟩ := m_174 (xs := xs) (rf := rf) (g := g) (c := 4) (m := 3) vt (by decide) (by decide) a1' k1
  have b4' : ∀ d R, kX xs (d + 3) 174 0 [some (.ref 185), some (.int 4), some (.int 0), some (.int 3)] [] (kmm I1 J rf g) R = R (some (.int (if (iF (tkN T 3) (tak T 132 (iF (tkN T 20) (tak T 131 u)))).F = 0 then nI (tV T (pT T (tak T 132 (iF (tkN T 20) (tak T 131 u))).k)) else 0))) (kmm I2 J rf g) := b4
  have b1' : mPS I2 J T (iF (tkN T 3) (tak T 132 (iF (tkN T 20) (tak T 131 u)))) := b1
  have ent : ∀ d R, kX xs (d + 4) 181 102 [some (.ref 185), some (.int (nI i)), none, none] [] (kmm I J rf g) R = kX xs (d + 4) 181 118 [some (.ref 185), some (.int (nI i)), some (.int (if (iF (tkN T 20) (tak T 131 u)).F = 0 then nI (tV T (pT T (tak T 131 u).k)) else 0)), none] [.int (if (iF (tkN T 3) (tak T 132 (iF (tkN T 20) (tak T 131 u)))).F = 0 then nI (tV T (pT T (tak T 132 (iF (tkN T 20) (tak T 131 u))).k)) else 0)] (kmm I2 J rf g) R := by
    intro d R
    rw [B181_102, krecv_m ks185, kcond_t, c8_20, a4', kpush_s, B181_110, krecv_m ks185, kcond_t, b4', kpush_s]
  by_cases z : (iF (tkN T 3) (tak T 132 (iF (tkN T 20) (tak T 131 u)))).F = 0
  · have z3 : (iF (tkN T 20) (tak T 131 u)).F = 0 := tak_F (iF_F z)
    refine ⟨ku (ku I2 191 i (nI (tV T (pT T (tak T 131 u).k)))) 191 (i + 1) (nI (tV T (pT T (tak T 132 (iF (tkN T 20) (tak T 131 u))).k))), b1'.ik (fun x k _ p _ => by rw [ku_nea p, ku_nea p]), fun _ => ⟨?_, ku_same _ _ _ _⟩, fun x k p1 p2 p3 p4 => ?_, fun d R => ?_⟩
    · rw [ku_nek (Nat.ne_of_lt (Nat.lt_succ_self i)), ku_same]
    · rw [ku_ne (fun y => p4 ⟨y.1, Or.inr y.2⟩), ku_ne (fun y => p4 ⟨y.1, Or.inl y.2⟩), b2 x k p1 p2 p3, a2 x k p1 p2 p3]
    · rw [ent, if_pos z, if_pos z3, B181_118, kg12_8, kO_s, if_pos ((mF0 b1').mpr z), B181_126, kg12_10, kO_s, kw191 (Nat.lt_trans (Nat.lt_succ_self i) hi), kO_s, kg12_10, kO_s, nI_add1, kw191 hi, kO_s, B181_142]
  · refine ⟨I2, b1', fun y => absurd y z, fun x k p1 p2 p3 _ => by rw [b2 x k p1 p2 p3, a2 x k p1 p2 p3], fun d R => ?_⟩
    rw [ent, B181_118, kg12_8, kO_s, if_neg (fun y => z ((mF0 b1').mp y)), B181_142]
end MQ
