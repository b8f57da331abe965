/-! a law that is read is well made -/
theorem lH_ext {p q : Nat → Nat} : ∀ n, (∀ j, j < n → p j = q j) → lH p n = lH q n := by
  intro n
  induction n with
  | zero => intro _; rfl
  | succ n ih => intro h; rw [lH, lH, ih (fun j hj => h j (by omega)), h n (by omega)]
abbrev okS (H o a h : Nat) : Prop := 1 ≤ o ∧ o ≤ 10 ∧ (o = 1 → a ≤ 9999) ∧ (o = 2 → a ≤ 3) ∧ (o = 3 → H + 1 ≤ h) ∧ (4 ≤ o → H + 2 ≤ h)
abbrev sg (B H c : Nat) (u : aPS) : Prop := (lH u.lo c = H) ∧ (c ≤ u.ll) ∧ (lH u.lo u.ll = H + 1) ∧ (∀ n, c ≤ n → n < u.ll → okS H (u.lo n) (u.la n) (lH u.lo n)) ∧ (∀ n, c ≤ n → n ≤ u.ll → lH u.lo n ≤ H + B)
theorem sg.b {B H c : Nat} {u : aPS} (h : sg B H c u) : lH u.lo c = H := h.1
theorem sg.l {B H c : Nat} {u : aPS} (h : sg B H c u) : c ≤ u.ll := h.2.1
theorem sg.h {B H c : Nat} {u : aPS} (h : sg B H c u) : lH u.lo u.ll = H + 1 := h.2.2.1
theorem sg.p {B H c : Nat} {u : aPS} (h : sg B H c u) : ∀ n, c ≤ n → n < u.ll → okS H (u.lo n) (u.la n) (lH u.lo n) := h.2.2.2.1
theorem sg.hi {B H c : Nat} {u : aPS} (h : sg B H c u) : ∀ n, c ≤ n → n ≤ u.ll → lH u.lo n ≤ H + B := h.2.2.2.2
abbrev hgt (T : aTp) (B : Nat) (one : aPS → aPS) : Prop := ∀ s, s.k ≤ nT T → s.F = 0 → (one s).F = 0 → sg B (lH s.lo s.ll) s.ll (one s)
theorem lH_emi {o a : Nat} {u : aPS} {n : Nat} (h : n ≤ u.ll) : lH (emi o a u).lo n = lH u.lo n := lH_ext n (fun j hj => by show ku1 u.lo u.ll o j = u.lo j; rw [ku1_n (by omega)])
theorem lH_top {o a : Nat} {u : aPS} : lH (emi o a u).lo (u.ll + 1) = if o = 1 ∨ o = 2 then lH u.lo u.ll + 1 else if o = 3 then lH u.lo u.ll else lH u.lo u.ll - 1 := by
  rw [lH, lH_emi (Nat.le_refl _)]
  have e : (emi o a u).lo u.ll = o := ku1_s _ _ _
  rw [e]
theorem emi_lo {o a : Nat} {u : aPS} {n : Nat} (h : n < u.ll) : (emi o a u).lo n = u.lo n ∧ (emi o a u).la n = u.la n := ⟨ku1_n (by omega), ku1_n (by omega)⟩
theorem emi_t {o a : Nat} {u : aPS} : (emi o a u).lo u.ll = o ∧ (emi o a u).la u.ll = a := ⟨ku1_s _ _ _, ku1_s _ _ _⟩
/-- one more joined to what there is -/
theorem sg_join {T : aTp} {B B1 H c o : Nat} {s s1 u : aPS} (h : sg B H c s) (e1 : s1.ll = s.ll) (e2 : s1.lo = s.lo) (e3 : s1.la = s.la) (ha : avn T 0 s1 u) (h1 : sg B1 (H + 1) s.ll u) (hB : B1 + 1 ≤ B) (ho : 4 ≤ o) (ho2 : o ≤ 10) : sg B H c (emi o 0 u) := by
  have l0 := h.l
  have l1 := h1.l
  have ag : ∀ n, n < s.ll → u.lo n = s.lo n ∧ u.la n = s.la n := fun n hn => by
    have a := ha.o n (by omega)
    rw [e2, e3] at a
    exact a
  have hx : ∀ n, n ≤ s.ll → lH u.lo n = lH s.lo n := fun n hn => lH_ext n (fun j hj => (ag j (by omega)).1)
  have ht := h1.h
  have top : lH (emi o 0 u).lo (u.ll + 1) = H + 1 := by
    rw [lH_top, if_neg (by omega), if_neg (by omega), ht]; omega
  refine ⟨?_, ?_, top, fun n h2 h3 => ?_, fun n h2 h3 => ?_⟩
  · rw [lH_emi (by omega), hx c (by omega), h.b]
  · show c ≤ u.ll + 1
    omega
  · have h3' : n < u.ll + 1 := h3
    by_cases q : n = u.ll
    · rw [q, emi_t.1, emi_t.2, lH_emi (Nat.le_refl _), ht]
      exact ⟨by omega, ho2, fun _ => by omega, fun _ => by omega, fun _ => by omega, fun _ => by omega⟩
    · rw [(emi_lo (show n < u.ll by omega)).1, (emi_lo (show n < u.ll by omega)).2, lH_emi (by omega)]
      by_cases q2 : n < s.ll
      · rw [(ag n q2).1, (ag n q2).2, hx n (by omega)]
        exact h.p n h2 q2
      · have z := h1.p n (by omega) (by omega)
        exact ⟨z.1, z.2.1, z.2.2.1, z.2.2.2.1, fun y => by have := z.2.2.2.2.1 y; omega, fun y => by have := z.2.2.2.2.2 y; omega⟩
  · have h3' : n ≤ u.ll + 1 := h3
    by_cases q : n = u.ll + 1
    · have z := h.hi s.ll l0 (Nat.le_refl _)
      have z2 := h.h
      rw [q, top]; omega
    · rw [lH_emi (by omega)]
      by_cases q2 : n ≤ s.ll
      · rw [hx n q2]; exact h.hi n h2 q2
      · have z := h1.hi n (by omega) (by omega)
        omega
theorem lop_F {T : aTp} {op : Nat → Nat} {one : aPS → aPS} {s : aPS} (h : ¬ s.F = 0) : ∀ f, lop T op one f s = s := by
  intro f
  cases f with
  | zero => rfl
  | succ f => rw [lop, if_neg (fun z => h z.1)]
abbrev opk (op : Nat → Nat) : Prop := ∀ K, op K ≠ 0 → 4 ≤ op K ∧ op K ≤ 10
theorem sg_lop {T : aTp} {op : Nat → Nat} {one : aPS → aPS} {B B1 : Nat} (hz : opz op) (ho : opk op) (hg : aGo T one) (hh : hgt T B1 one) (hB : B1 + 1 ≤ B) : ∀ f s H c, sg B H c s → s.k ≤ nT T → s.F = 0 → (lop T op one f s).F = 0 → sg B H c (lop T op one f s) := by
  intro f
  induction f with
  | zero => intro s H c h _ _ _; exact h
  | succ f ih =>
    intro s H c h hk hF hE
    rw [lop] at hE ⊢
    by_cases q : s.F = 0 ∧ op (kdO T s) ≠ 0
    · rw [if_pos q] at hE ⊢
      have hlt := kdO_lt hk (fun e => q.2 (by rw [e]; exact hz))
      have v1 := avn_stp hlt
      have v2 := hg (stp s) v1.n
      have oF : (one (stp s)).F = 0 := by
        refine Classical.byContradiction (fun z => ?_)
        have z' : ¬ (emi (op (kdO T s)) 0 (one (stp s))).F = 0 := z
        rw [lop_F z'] at hE
        exact z' hE
      have a := hh (stp s) v1.n hF oF
      have e : lH (stp s).lo (stp s).ll = H + 1 := h.h
      rw [e] at a
      have b := sg_join (T := T) (s1 := stp s) h rfl rfl rfl v2 a hB (ho _ q.2).1 (ho _ q.2).2
      exact ih _ H c b v2.n oF hE
    · rw [if_neg q]
      exact h
theorem sg_up {B B2 H c : Nat} {u : aPS} (h : sg B H c u) (hB : B ≤ B2) : sg B2 H c u := ⟨h.b, h.l, h.h, h.p, fun n h1 h2 => by have := h.hi n h1 h2; omega⟩
theorem hgt_lop {T : aTp} {op : Nat → Nat} {one : aPS → aPS} {B f : Nat} (hz : opz op) (ho : opk op) (hg : aGo T one) (hh : hgt T B one) : hgt T (B + 1) (fun s => lop T op one f (one s)) := by
  intro s hk hF hE
  have hE' : (lop T op one f (one s)).F = 0 := hE
  have oF : (one s).F = 0 := by
    refine Classical.byContradiction (fun z => ?_)
    rw [lop_F z] at hE'
    exact z hE'
  exact sg_lop hz ho hg hh (Nat.le_refl _) f (one s) _ _ (sg_up (hh s hk hF oF) (by omega)) (hg s hk).n oF hE'
theorem oP_k : opk oP := by
  intro K h
  unfold oP at *
  by_cases q : K = 42
  · rw [if_pos q]; omega
  · rw [if_neg q] at h; exact absurd rfl h
theorem oS_k : opk oS := by
  intro K h
  unfold oS at *
  by_cases q : K = 43
  · rw [if_pos q]; omega
  · rw [if_neg q] at h ⊢
    by_cases q2 : K = 45
    · rw [if_pos q2]; omega
    · rw [if_neg q2] at h; exact absurd rfl h
theorem oT_k : opk oT := by
  intro K h
  unfold oT at *
  by_cases q : K = 60
  · rw [if_pos q]; omega
  · rw [if_neg q] at h ⊢
    by_cases q2 : K = 61
    · rw [if_pos q2]; omega
    · rw [if_neg q2] at h; exact absurd rfl h
theorem oW_k : opk oW := by
  intro K h
  unfold oW at *
  by_cases q : K = 144
  · rw [if_pos q]; omega
  · rw [if_neg q] at h ⊢
    by_cases q2 : K = 145
    · rw [if_pos q2]; omega
    · rw [if_neg q2] at h; exact absurd rfl h
theorem hgt_who {T : aTp} {one : aPS → aPS} {B : Nat} (hg : aGo T one) (hh : hgt T B one) : hgt T (B + 4) (who T one) := by
  have h1 : hgt T (B + 1) (prd T one) := hgt_lop (op := oP) (f := 1000) rfl oP_k hg hh
  have h2 : hgt T (B + 2) (sms T one) := hgt_lop (op := oS) (f := 1000) rfl oS_k (avn_prd hg) h1
  have h3 : hgt T (B + 3) (tst T one) := hgt_lop (op := oT) (f := 1) rfl oT_k (avn_sms hg) h2
  exact hgt_lop (op := oW) (f := 1000) rfl oW_k (avn_tst hg) h3
theorem tk2 {T : aTp} {p : Nat} (h : tK T p = 2) : tV T p ≤ 9999 := by
  by_cases h0 : p < T.n
  · by_cases h1 : isL (T.t p) = true
    · exfalso
      unfold tK at h
      rw [if_pos h0, if_pos h1] at h
      by_cases h8 : 8 < wdE T p - p
      · rw [if_pos h8] at h; omega
      · rw [if_neg h8] at h; exact wKd_2 h
    · by_cases h2 : isD (T.t p) = true
      · unfold tV
        rw [if_neg h1, if_pos h2]
        have a := rnE_ok (p := fun k => isD (T.t k)) (show p ≤ T.n by omega)
        have z := f10_lt (t := T.t) (p := p) (min (dgE T p - p) 4) (fun j hj => a.2.2.1 (p + j) (by omega) (by unfold dgE at hj; omega))
        have z2 : (10 : Nat) ^ (min (dgE T p - p) 4) ≤ 10 ^ 4 := Nat.pow_le_pow_right (by decide) (by omega)
        have z3 : (10 : Nat) ^ 4 = 10000 := by decide
        omega
      · exfalso
        unfold tK at h
        rw [if_pos h0, if_neg h1, if_neg h2] at h
        by_cases h3 : isS (T.t p) = true
        · rw [if_pos h3] at h
          have key : ∀ c, c ∈ sgn8 → c ≠ 2 := by decide
          exact key _ (List.contains_iff_mem.mp h3) h
        · rw [if_neg h3] at h; omega
  · exfalso
    unfold tK at h
    rw [if_neg h0] at h
    omega
theorem sg_leaf {o a : Nat} {s : aPS} (h : (o = 1 ∧ a ≤ 9999) ∨ (o = 2 ∧ a ≤ 3)) : sg 1 (lH s.lo s.ll) s.ll (emi o a s) := by
  have top : lH (emi o a s).lo (s.ll + 1) = lH s.lo s.ll + 1 := by rw [lH_top, if_pos (by omega)]
  refine ⟨lH_emi (Nat.le_refl _), by show s.ll ≤ s.ll + 1; omega, top, fun n h1 h2 => ?_, fun n h1 h2 => ?_⟩
  · have h2' : n < s.ll + 1 := h2
    have e : n = s.ll := by omega
    rw [e, emi_t.1, emi_t.2]
    exact ⟨by omega, by omega, fun _ => by omega, fun _ => by omega, fun _ => by omega, fun _ => by omega⟩
  · have h2' : n ≤ s.ll + 1 := h2
    by_cases q : n = s.ll
    · rw [q, lH_emi (Nat.le_refl _)]; omega
    · rw [show n = s.ll + 1 by omega, top]; omega
theorem hgt_par {T : aTp} : ∀ f, hgt T (4 * f + 1) (par T f) := by
  intro f
  induction f with
  | zero =>
    intro s hk hF hE
    exfalso
    rw [par] at hE
    by_cases q : okP (kdO T s)
    · rw [if_pos q] at hE; exact wrgF (by omega) hF hE
    · rw [if_neg q] at hE; exact wrgF (by omega) hF hE
  | succ f ih =>
    intro s hk hF hE
    rw [par] at hE ⊢
    by_cases q : okP (kdO T s)
    · rw [if_pos q] at hE ⊢
      have hlt := kdO_lt hk (fun e => by rw [e] at q; unfold okP okF at q; omega)
      have v1 := avn_stp hlt
      by_cases q1 : kdO T s = 2
      · rw [if_pos q1]
        exact sg_up (sg_leaf (Or.inl ⟨rfl, tk2 q1⟩)) (by omega)
      · rw [if_neg q1] at hE ⊢
        by_cases q2 : okF (kdO T s)
        · rw [if_pos q2]
          exact sg_up (sg_leaf (Or.inr ⟨rfl, by unfold okF at q2; omega⟩)) (by omega)
        · rw [if_neg q2] at hE ⊢
          by_cases q3 : kdO T s = 40
          · rw [if_pos q3] at hE ⊢
            have wF : (who T (par T f) (stp s)).F = 0 := by
              refine Classical.byContradiction (fun z => ?_)
              unfold tak at hE
              rw [if_neg z] at hE
              exact z hE
            have a := hgt_who (avn_par f) ih (stp s) v1.n hF wF
            unfold tak at hE ⊢
            rw [if_pos wF] at hE ⊢
            by_cases q4 : kdO T (who T (par T f) (stp s)) = 41
            · rw [if_pos q4]
              exact sg_up a (by omega)
            · rw [if_neg q4] at hE
              exact absurd hE (wrgF (by omega) wF)
          · rw [if_neg q3] at hE ⊢
            have pF : (par T f (stp s)).F = 0 := hE
            have a := ih (stp s) v1.n hF pF
            generalize par T f (stp s) = u at *
            have a' : sg (4 * f + 1) (lH s.lo s.ll) s.ll u := a
            have top : lH (emi 3 0 u).lo (u.ll + 1) = lH s.lo s.ll + 1 := by rw [lH_top, if_neg (by omega), if_pos rfl, a'.h]
            have l1 := a'.l
            refine ⟨by rw [lH_emi l1]; exact a'.b, by show s.ll ≤ u.ll + 1; omega, top, fun n h1 h2 => ?_, fun n h1 h2 => ?_⟩
            · have h2' : n < u.ll + 1 := h2
              by_cases z : n = u.ll
              · rw [z, emi_t.1, emi_t.2, lH_emi (Nat.le_refl _), a'.h]
                exact ⟨by omega, by omega, fun _ => by omega, fun _ => by omega, fun _ => by omega, fun _ => by omega⟩
              · rw [(emi_lo (show n < u.ll by omega)).1, (emi_lo (show n < u.ll by omega)).2, lH_emi (by omega)]
                exact a'.p n h1 (by omega)
            · have h2' : n ≤ u.ll + 1 := h2
              by_cases z : n = u.ll + 1
              · rw [z, top]; omega
              · rw [lH_emi (by omega)]
                have := a'.hi n h1 (by omega)
                omega
    · rw [if_neg q] at hE
      exact absurd hE (wrgF (by omega) hF)
/-- the law that is read -/
theorem law_wf {T : aTp} {s u : aPS} {r : aRl} (v : vTp T) (hs : s.k ≤ nT T) (hl : s.ll = 0) (hF : s.F = 0) (eu : u = who T (par T 5) s) (hE : u.F = 0) (e1 : r.ll = u.ll) (e2 : r.lo = u.lo) (e3 : r.la = u.la) : lwf r ∧ 0 < r.ll := by
  have a := hgt_who (avn_par 5) (hgt_par 5) s hs hF (by rw [← eu]; exact hE)
  have b := avn_who (avn_par 5) s hs
  rw [← eu] at a b
  rw [hl] at a
  have e0 : lH s.lo 0 = 0 := rfl
  rw [e0] at a
  have hn := (nT_ok T).1
  have hn2 := v.n
  have bb := b.b
  have bn := b.n
  have hh := a.h
  have hpos : 0 < u.ll := by
    refine Classical.byContradiction (fun z => ?_)
    have z' : u.ll = 0 := by omega
    rw [z'] at hh
    have : lH u.lo 0 = 0 := rfl
    omega
  refine ⟨⟨by omega, fun n hn => ?_, fun n hn => ?_, fun n hn => ?_, fun n hn => ?_, fun n hn => ?_, fun n hn => ?_, fun _ => ?_⟩, by omega⟩
  · rw [e2]; have z := a.p n (by omega) (by omega); exact ⟨z.1, z.2.1⟩
  · rw [e2, e3]; exact (a.p n (by omega) (by omega)).2.2.1
  · rw [e2, e3]; exact (a.p n (by omega) (by omega)).2.2.2.1
  · rw [e2]; intro q; have z := (a.p n (by omega) (by omega)).2.2.2.2.1 q; omega
  · rw [e2]; intro q; have z := (a.p n (by omega) (by omega)).2.2.2.2.2 q; omega
  · rw [e2]; have z := a.hi n (by omega) (by omega); omega
  · rw [e1, e2]; omega
