/-! what was done can be undone -/
def kpN (pn : Nat) : Nat := min (pn + 1) 16
def kpS (pn : Nat) (ps : Nat → aSt) (s : aSt) : Nat → aSt := fun k => if k + 1 = kpN pn then s else if pn = 16 then ps (k + 1) else ps k
abbrev aH : Type := (aSt) × (Nat) × (Nat → aSt)
def aH.mk (s : aSt) (pn : Nat) (ps : Nat → aSt) : aH := (s, pn, ps)
def aH.s (s : aH) : aSt := s.1
def aH.pn (s : aH) : Nat := s.2.1
def aH.ps (s : aH) : Nat → aSt := s.2.2
def kpH (H : aH) (s' : aSt) : aH := aH.mk s' (kpN H.pn) (kpS H.pn H.ps H.s)
abbrev cPa (I : Nat → Nat → Int32) (pn top : Nat) (ps : Nat → aSt) : Prop := (I 65 0 = nI pn) ∧ (I 65 1 = nI top) ∧ (top < 16) ∧ (pn ≤ 16) ∧ (∀ k, k < pn → cSt I (67 + 5 * ((top + 16 - pn + k) % 16)) (ps k))
theorem cPa.n {I : Nat → Nat → Int32} {pn top : Nat} {ps : Nat → aSt} (h : cPa I pn top ps) : I 65 0 = nI pn := h.1
theorem cPa.t {I : Nat → Nat → Int32} {pn top : Nat} {ps : Nat → aSt} (h : cPa I pn top ps) : I 65 1 = nI top := h.2.1
theorem cPa.tl {I : Nat → Nat → Int32} {pn top : Nat} {ps : Nat → aSt} (h : cPa I pn top ps) : top < 16 := h.2.2.1
theorem cPa.nl {I : Nat → Nat → Int32} {pn top : Nat} {ps : Nat → aSt} (h : cPa I pn top ps) : pn ≤ 16 := h.2.2.2.1
theorem cPa.s {I : Nat → Nat → Int32} {pn top : Nat} {ps : Nat → aSt} (h : cPa I pn top ps) : ∀ k, k < pn → cSt I (67 + 5 * ((top + 16 - pn + k) % 16)) (ps k) := h.2.2.2.2
abbrev mPa (I : Nat → Nat → Int32) (r : aRl) (pn : Nat) (ps : Nat → aSt) : Prop := (I 185 24 = nI pn) ∧ (pn ≤ 16) ∧ (∀ k, k < pn → mSt I (275 + 55 * k) r (ps k))
theorem mPa.n {I : Nat → Nat → Int32} {r : aRl} {pn : Nat} {ps : Nat → aSt} (h : mPa I r pn ps) : I 185 24 = nI pn := h.1
theorem mPa.nl {I : Nat → Nat → Int32} {r : aRl} {pn : Nat} {ps : Nat → aSt} (h : mPa I r pn ps) : pn ≤ 16 := h.2.1
theorem mPa.s {I : Nat → Nat → Int32} {r : aRl} {pn : Nat} {ps : Nat → aSt} (h : mPa I r pn ps) : ∀ k, k < pn → mSt I (275 + 55 * k) r (ps k) := h.2.2
abbrev vPa (r : aRl) (pn : Nat) (ps : Nat → aSt) : Prop := ∀ k, k < pn → vSt r (ps k)
abbrev cH (I : Nat → Nat → Int32) (rf : Nat → Nat) (r : aRl) (H : aH) : Prop := (cB I rf r H.s) ∧ (∃ top, cPa I H.pn top H.ps) ∧ (vPa r H.pn H.ps)
theorem cH.b {I : Nat → Nat → Int32} {rf : Nat → Nat} {r : aRl} {H : aH} (h : cH I rf r H) : cB I rf r H.s := h.1
theorem cH.p {I : Nat → Nat → Int32} {rf : Nat → Nat} {r : aRl} {H : aH} (h : cH I rf r H) : ∃ top, cPa I H.pn top H.ps := h.2.1
theorem cH.v {I : Nat → Nat → Int32} {rf : Nat → Nat} {r : aRl} {H : aH} (h : cH I rf r H) : vPa r H.pn H.ps := h.2.2
abbrev mH (I : Nat → Nat → Int32) (r : aRl) (H : aH) : Prop := (mB I r H.s) ∧ (mPa I r H.pn H.ps) ∧ (vPa r H.pn H.ps)
theorem mH.b {I : Nat → Nat → Int32} {r : aRl} {H : aH} (h : mH I r H) : mB I r H.s := h.1
theorem mH.p {I : Nat → Nat → Int32} {r : aRl} {H : aH} (h : mH I r H) : mPa I r H.pn H.ps := h.2.1
theorem mH.v {I : Nat → Nat → Int32} {r : aRl} {H : aH} (h : mH I r H) : vPa r H.pn H.ps := h.2.2
abbrev cK (I I' : Nat → Nat → Int32) : Prop := ∀ x k, x ≠ 0 → x ≠ 12 → x ≠ 25 → x < 39 ∨ 146 < x → I' x k = I x k
abbrev mK (I I' : Nat → Nat → Int32) : Prop := ∀ x k, x ≠ 199 → x ≠ 200 → x < 203 ∨ 204 < x → ¬ (x = 185 ∧ (k = 0 ∨ k = 24 ∨ k = 28 ∨ k = 32)) → ¬ (x = 201 ∧ (k < 30 ∨ 275 ≤ k)) → I' x k = I x k
theorem kpS_v {r : aRl} {H : aH} (vs : vSt r H.s) (v : vPa r H.pn H.ps) (hl : H.pn ≤ 16) : vPa r (kpN H.pn) (kpS H.pn H.ps H.s) := by
  intro k hk
  unfold kpS
  unfold kpN at hk ⊢
  by_cases h1 : k + 1 = min (H.pn + 1) 16
  · rw [if_pos h1]; exact vs
  · rw [if_neg h1]
    by_cases h2 : H.pn = 16
    · rw [if_pos h2]; exact v _ (by omega)
    · rw [if_neg h2]; exact v _ (by omega)
section PA
variable {xs : List Int32} {d : Nat} {I I' I2 : Nat → Nat → Int32} {J : Nat → Nat → Int64} {rf : Nat → Nat} {g : Nat} {R : Option Value → KW → Prop} {r : aRl} {s u : aSt} {b : Nat} {H : aH}
theorem cK.refl (I : Nat → Nat → Int32) : cK I I := fun _ _ _ _ _ _ => rfl
theorem cK.trans (h : cK I I') (h2 : cK I' I2) : cK I I2 := fun x k a b c e => by rw [h2 x k a b c e, h x k a b c e]
theorem mK.refl (I : Nat → Nat → Int32) : mK I I := fun _ _ _ _ _ _ _ => rfl
theorem mK.trans (h : mK I I') (h2 : mK I' I2) : mK I I2 := fun x k a b c e f => by rw [h2 x k a b c e f, h x k a b c e f]
theorem cK.of (h : cQ I I') : cK I I' := fun x k a b c e => h x k a b c (by omega)
theorem mK.of (h : mQ I I') : mK I I' := fun x k a b c e f => h x k a b c (by omega) (by omega)
theorem cPa.keep {pn top : Nat} {ps : Nat → aSt} (h : cPa I pn top ps) (hI : ∀ x k, 65 ≤ x → x ≤ 146 → I' x k = I x k) : cPa I' pn top ps :=
  ⟨by rw [hI _ _ (by omega) (by omega), h.n], by rw [hI _ _ (by omega) (by omega), h.t], h.tl, h.nl, fun k hk => (h.s k hk).keep (fun x k' h1 h2 => hI x k' (by omega) (by have := Nat.mod_lt (top + 16 - pn + k) (show 16 > 0 by omega); omega))⟩
theorem mPa.keep {pn : Nat} {ps : Nat → aSt} (vr : vRl r) (h : mPa I r pn ps) (h1 : I' 185 24 = I 185 24) (hI : ∀ k, 275 ≤ k → k < 1155 → I' 201 k = I 201 k) : mPa I' r pn ps := by
  have hl := h.nl
  exact ⟨by rw [h1, h.n], h.nl, fun k hk => (h.s k hk).keep vr (fun k' h1 h2 => hI k' (by omega) (by omega))⟩
theorem cH.keep (h : cH I rf r H) (q : cQ I I') : cH I' rf r H := by
  obtain ⟨top, hp⟩ := h.p
  exact ⟨h.b.keep q, ⟨top, hp.keep (fun x k h1 h2 => q x k (by omega) (by omega) (by omega) (by omega))⟩, h.v⟩
theorem mH.keep (h : mH I r H) (q : mQ I I') : mH I' r H :=
  ⟨h.b.keep q, h.p.keep h.b.vr (q _ _ (by omega) (by omega) (by omega) (by omega) (by omega)) (fun k h1 h2 => q _ _ (by omega) (by omega) (by omega) (by omega) (by omega)), h.v⟩
theorem kpa9 {t : Nat} (h : t < 16) : kshp (67 + 5 * t) = some (.inl 9) := by
  have key : ∀ t : Fin 16, kshp (67 + 5 * t.val) = some (.inl 9) := by decide
  exact key ⟨t, h⟩
theorem krf66 (rf : Nat → Nat) (t : Nat) : krf rf 66 t = 67 + 5 * t := rfl
theorem n16_0 : ¬ nI 16 = 0 := by decide
/-- Past.keep -/
theorem sp27e {pn top : Nat} {ps : Nat → aSt} (hs : cSt I 39 s) (hp : cPa I pn top ps) : ∃ I', cPa I' (kpN pn) ((top + 1) % 16) (kpS pn ps s) ∧ (∀ x k, x < 65 ∨ 146 < x → I' x k = I x k) ∧ ∀ d R, kX xs (d + 2) 27 0 [some (.ref 65), some (.ref 39)] [] (kmm I J rf g) R = R none (kmm I' J rf g) := by
  have ht := hp.tl
  have hn := hp.nl
  obtain ⟨I1, s1, f1, e1⟩ := sp87e (xs := xs) (J := J) (rf := rf) (g := g) (kpa9 ht) ks39 (by omega) hs
  have x0 : I1 65 0 = nI pn := by rw [f1 _ _ (by omega), hp.n]
  have x1 : I1 65 1 = nI top := by rw [f1 _ _ (by omega), hp.t]
  have x2 : ∀ v, ku I1 65 1 v 65 0 = nI pn := fun v => by rw [ku_nek (by omega), x0]
  refine ⟨ku (ku I1 65 1 (nI ((top + 1) % 16))) 65 0 (nI (kpN pn)), ⟨?_, ?_, ?_, ?_, fun k hk => ?_⟩, fun x k hx => ?_, fun d R => ?_⟩
  · rw [ku_same]
  · rw [ku_nek (by omega), ku_same]
  · omega
  · unfold kpN; omega
  · have q := Nat.mod_lt ((top + 1) % 16 + 16 - kpN pn + k) (show 16 > 0 by omega)
    have kk : ∀ x k, 67 ≤ x → ku (ku I1 65 1 (nI ((top + 1) % 16))) 65 0 (nI (kpN pn)) x k = I1 x k := fun x k hx => by rw [ku_nea (by omega), ku_nea (by omega)]
    unfold kpS
    unfold kpN at hk q ⊢
    by_cases h1 : k + 1 = min (pn + 1) 16
    · rw [if_pos h1, show ((top + 1) % 16 + 16 - min (pn + 1) 16 + k) % 16 = top by omega]
      exact s1.keep (fun x k h1 h2 => kk x k (by omega))
    · rw [if_neg h1]
      by_cases h2 : pn = 16
      · rw [if_pos h2]
        have a := hp.s (k + 1) (by omega)
        rw [show (top + 16 - pn + (k + 1)) % 16 = ((top + 1) % 16 + 16 - min (pn + 1) 16 + k) % 16 by omega] at a
        exact a.keep (fun x k' h3 h4 => (kk x k' (by omega)).trans (f1 x k' (by omega)))
      · rw [if_neg h2]
        have a := hp.s k (by omega)
        rw [show (top + 16 - pn + k) % 16 = ((top + 1) % 16 + 16 - min (pn + 1) 16 + k) % 16 by omega] at a
        exact a.keep (fun x k' h3 h4 => (kk x k' (by omega)).trans (f1 x k' (by omega)))
  · rw [ku_nea (by omega), ku_nea (by omega), f1 x k (by omega)]
  · rw [B27_0, kg3_2, kO_s, kg3_1, kO_s, hp.t, kr66 ht, kO_s, krf66, krecv_m (kpa9 ht), kcond_t, e1, kpush_n, B27_13, kg3_1, kO_s, x1, c8_16, if_neg n16_0, nI_add1, pk_rem (by omega) (by omega) (by omega), kp3_1, kO_s, kg3_0, kO_s, x2, nI_add1, sp279, kmin_n (by omega) (by omega), kpush_s, B27_38, kp3_0, kO_s]
    rfl
/-- Past.bringBack -/
theorem sp28e {pn top : Nat} {ps : Nat → aSt} (hp : cPa I pn top ps) (h0 : 0 < pn) : ∃ I', cSt I' 39 (ps (pn - 1)) ∧ cPa I' (pn - 1) ((top + 15) % 16) ps ∧ (∀ x k, x ≠ 65 → x < 39 ∨ 43 < x → I' x k = I x k) ∧ ∀ d R, kX xs (d + 2) 28 0 [some (.ref 65), some (.ref 39)] [] (kmm I J rf g) R = R (some (.int 1)) (kmm I' J rf g) := by
  have ht := hp.tl
  have hn := hp.nl
  have q := Nat.mod_lt (top + 15) (show 16 > 0 by omega)
  have a := hp.s (pn - 1) (by omega)
  rw [show (top + 16 - pn + (pn - 1)) % 16 = (top + 15) % 16 by omega] at a
  have kk : ∀ x k, x ≠ 65 → ku (ku I 65 0 (nI (pn - 1))) 65 1 (nI ((top + 15) % 16)) x k = I x k := fun x k hx => by rw [ku_nea hx, ku_nea hx]
  have a' : cSt (ku (ku I 65 0 (nI (pn - 1))) 65 1 (nI ((top + 15) % 16))) (67 + 5 * ((top + 15) % 16)) (ps (pn - 1)) := a.keep (fun x k h1 h2 => kk x k (by omega))
  obtain ⟨I1, s1, f1, e1⟩ := sp87e (xs := xs) (J := J) (rf := rf) (g := g) ks39 (kpa9 q) (by omega) a'
  refine ⟨I1, s1, ⟨?_, ?_, q, by omega, fun k hk => ?_⟩, fun x k hx hy => by rw [f1 x k (by omega), kk x k hx], fun d R => ?_⟩
  · rw [f1 _ _ (by omega), ku_nek (by omega), ku_same]
  · rw [f1 _ _ (by omega), ku_same]
  · have q2 := Nat.mod_lt ((top + 15) % 16 + 16 - (pn - 1) + k) (show 16 > 0 by omega)
    have a := hp.s k (by omega)
    rw [show (top + 16 - pn + k) % 16 = ((top + 15) % 16 + 16 - (pn - 1) + k) % 16 by omega] at a
    exact a.keep (fun x k' h3 h4 => by rw [f1 x k' (by omega), kk x k' (by omega)])
  · have x1 : ∀ v, ku I 65 0 v 65 1 = nI top := fun v => by rw [ku_nek (by omega), hp.t]
    obtain ⟨p, hpn⟩ : ∃ p, pn = p + 1 := ⟨pn - 1, by omega⟩
    have hx := hp.n
    rw [B28_0, kg3_0, kO_s, hx, if_neg (nI_ne0 h0 (by omega)), B28_9, kg3_0, kO_s, hx, hpn, nI_pred, kp3_0, kO_s, kg3_1, kO_s, x1, c8_16, if_neg n16_0, nI_add, show top + 16 = (top + 15) + 1 from rfl, nI_pred, pk_rem (by omega) (by omega) (by omega), kp3_1, kO_s, kg3_2, kO_s, kg3_1, kO_s, ku_same, kr66 q, kO_s, krf66, krecv_m ks39, kcond_t]
    rw [hpn, Nat.add_sub_cancel] at e1
    rw [e1, kpush_n, B28_48, if_pos kz_1]
/-- keeps -/
theorem sp198 {pn : Nat} {ps : Nat → aSt} (vr : vRl r) (hs : mSt I 0 r s) (hp : mPa I r pn ps) : ∃ I', mPa I' r (kpN pn) (kpS pn ps s) ∧ (∀ x k, ¬ (x = 185 ∧ k = 24) → ¬ (x = 201 ∧ 275 ≤ k ∧ k < 1155) → I' x k = I x k) ∧ ∀ d R, kX xs (d + 1) 198 0 [some (.ref 185), none] [] (kmm I J rf g) R = R none (kmm I' J rf g) := by
  have hn := hp.nl
  have key : ∀ (I1 : Nat → Nat → Int32) (n : Nat), n < 16 → I1 185 24 = nI n → mSt I1 0 r s → (∀ k, k < n → mSt I1 (275 + 55 * k) r (if pn = 16 then ps (k + 1) else ps k)) → n + 1 = kpN pn → (∀ x k, ¬ (x = 185 ∧ k = 24) → ¬ (x = 201 ∧ 275 ≤ k ∧ k < 1155) → I1 x k = I x k) → ∃ I', mPa I' r (kpN pn) (kpS pn ps s) ∧ (∀ x k, ¬ (x = 185 ∧ k = 24) → ¬ (x = 201 ∧ 275 ≤ k ∧ k < 1155) → I' x k = I x k) ∧ ∀ d R, kX xs (d + 1) 198 53 [some (.ref 185), none] [] (kmm I1 J rf g) R = R none (kmm I' J rf g) := by
    intro I1 n hn16 x0 s0 hk hkp f0
    obtain ⟨I2, c1, c2, c3⟩ := sp195 (xs := xs) (J := J) (rf := rf) (g := g) (I := I1) (fr := 0) (to := 55 * (5 + n)) (n := 30) (by omega) (by omega) (by omega)
    have x2 : I2 185 24 = nI n := by rw [c2 _ _ (by omega), x0]
    refine ⟨ku I2 185 24 (nI (n + 1)), ⟨by rw [ku_same, hkp], by unfold kpN; omega, fun k hk' => ?_⟩, fun x k h1 h2 => by rw [ku_ne h1, c2 x k (by omega), f0 x k h1 h2], fun d R => ?_⟩
    · unfold kpS
      by_cases h1 : k + 1 = kpN pn
      · rw [if_pos h1, show 275 + 55 * k = 55 * (5 + n) by omega]
        exact (s0.copy vr c1).keep vr (fun k' _ _ => by rw [ku_nea (by omega)])
      · rw [if_neg h1]
        exact (hk k (by omega)).keep vr (fun k' _ _ => by rw [ku_nea (by omega), c2 _ _ (by omega)])
    · rw [B198_53, kg12_24, kO_s, x0, krecv_m ks185, kcond_t, c8_55, n_5, nI_add, pk_mul, n_0, c8_30, c3, kpush_n, B198_69, kg12_24, kO_s, x2, nI_add1, kp12_24, kO_s]
  by_cases h16 : pn = 16
  · have L : ∃ I2, ((∀ k, k < 15 → mSt I2 (275 + 55 * k) r (ps (k + 1))) ∧ (∀ k, 15 ≤ k → k < 16 → mSt I2 (275 + 55 * k) r (ps k)) ∧ ∀ x k, ¬ (x = 201 ∧ 275 ≤ k ∧ k < 1155) → I2 x k = I x k) ∧ (fun (d : Nat) (R : Option Value → KW → Prop) => kX xs (d + 1) 198 11 [some (.ref 185), some (.int (nI (0 + 1)))] [] (kmm I J rf g) R) = (fun d R => kX xs (d + 1) 198 11 [some (.ref 185), some (.int (nI (15 + 1)))] [] (kmm I2 J rf g) R) := by
      refine kloop (n := 15) (s0 := I) (fun i I2 => (∀ k, k < i → mSt I2 (275 + 55 * k) r (ps (k + 1))) ∧ (∀ k, i ≤ k → k < 16 → mSt I2 (275 + 55 * k) r (ps k)) ∧ ∀ x k, ¬ (x = 201 ∧ 275 ≤ k ∧ k < 1155) → I2 x k = I x k) (fun i I2 => fun (d : Nat) (R : Option Value → KW → Prop) => kX xs (d + 1) 198 11 [some (.ref 185), some (.int (nI (i + 1)))] [] (kmm I2 J rf g) R) ⟨fun k hk => by omega, fun k _ hk => hp.s k (by omega), fun _ _ _ => rfl⟩ ?_
      intro i I2 hi ⟨g1, g2, g3⟩
      obtain ⟨I3, c1, c2, c3⟩ := sp195 (xs := xs) (J := J) (rf := rf) (g := g) (I := I2) (fr := 55 * (5 + (i + 1))) (to := 55 * (5 + i)) (n := 30) (by omega) (by omega) (by omega)
      refine ⟨I3, ⟨fun k hk => ?_, fun k h1 h2 => ?_, fun x k hx => by rw [c2 x k (by omega), g3 x k hx]⟩, ?_⟩
      · by_cases he : k = i
        · rw [he]
          have a := g2 (i + 1) (by omega) (by omega)
          rw [show 275 + 55 * (i + 1) = 55 * (5 + (i + 1)) by omega] at a
          rw [show 275 + 55 * i = 55 * (5 + i) by omega]
          exact a.copy vr c1
        · exact (g1 k (by omega)).keep vr (fun k' _ _ => by rw [c2 _ _ (by omega)])
      · exact (g2 k (by omega) h2).keep vr (fun k' _ _ => by rw [c2 _ _ (by omega)])
      · funext d R
        rw [B198_11, c8_16, if_pos (nI_lt (by omega) (by omega)), B198_17, krecv_m ks185, kcond_t, c8_55, n_5, nI_add, show 5 + (i + 1) = (5 + i) + 1 from rfl, nI_pred, pk_mul, pk_mul, c8_30]
        rw [show 5 + (i + 1) = (5 + i) + 1 from rfl] at c3
        rw [c3, kpush_n, B198_37, nI_add1]
    obtain ⟨I2, ⟨g1, g2, g3⟩, e2⟩ := L
    have x2 : I2 185 24 = nI 16 := by rw [g3 _ _ (by omega), hp.n, h16]
    obtain ⟨I3, a1, a2, a3⟩ := key (ku I2 185 24 (nI 15)) 15 (by omega) (ku_same _ _ _ _) (hs.keep vr (fun k h1 h2 => by rw [ku_nea (by omega), g3 _ _ (by omega)])) (fun k hk => by rw [if_pos h16]; exact (g1 k hk).keep vr (fun k' _ _ => by rw [ku_nea (by omega)])) (by unfold kpN; omega) (fun x k h1 h2 => by rw [ku_ne h1, g3 x k h2])
    refine ⟨I3, a1, a2, fun d R => ?_⟩
    have e2' := congrFun (congrFun e2 d) R
    rw [B198_0, kg12_24, kO_s, hp.n, h16, c8_16, if_pos rfl, B198_9]
    refine Eq.trans e2' ?_
    rw [B198_11, c8_16, if_neg (nI_nlt (by omega) (by omega)), B198_43, kg12_24, kO_s, x2, show nI 16 - 1 = nI 15 from rfl, kp12_24, kO_s, a3]
  · obtain ⟨I3, a1, a2, a3⟩ := key I pn (by omega) hp.n hs (fun k hk => by rw [if_neg h16]; exact hp.s k hk) (by unfold kpN; omega) (fun _ _ _ _ => rfl)
    refine ⟨I3, a1, a2, fun d R => ?_⟩
    rw [B198_0, kg12_24, kO_s, hp.n, c8_16, if_neg (fun e => h16 (by rw [nI_inj (by omega) (by omega)] at e; exact e)), a3]
end PA
