/-! chairs; judge, trial -/
/-- what maps the first n into themselves, no two to one, reaches all -/
theorem surj_inj : ∀ (n : Nat) (f : Nat → Nat), (∀ k, k < n → f k < n) → (∀ i j, i < n → j < n → f i = f j → i = j) → ∀ j, j < n → ∃ k, k < n ∧ f k = j := by
  intro n
  induction n with
  | zero => intro f _ _ j hj; omega
  | succ n ih =>
    intro f h1 h2 j hj
    have hv := h1 n (by omega)
    by_cases hn : f n = n
    · by_cases hjn : j = n
      · exact ⟨n, by omega, by omega⟩
      · obtain ⟨k, a1, a2⟩ := ih f (fun k hk => by
          have b1 := h1 k (by omega)
          have b2 : f k ≠ n := fun e => by have := h2 k n (by omega) (by omega) (by omega); omega
          omega) (fun i j hi hj e => h2 i j (by omega) (by omega) e) j (by omega)
        exact ⟨k, by omega, a2⟩
    · have g1 : ∀ k, k < n → (if f k = n then f n else f k) < n := by
        intro k hk
        have b1 := h1 k (by omega)
        split <;> omega
      have g2 : ∀ i j, i < n → j < n → (if f i = n then f n else f i) = (if f j = n then f n else f j) → i = j := by
        intro i j hi hj e
        by_cases e1 : f i = n
        · by_cases e2 : f j = n
          · exact h2 i j (by omega) (by omega) (by omega)
          · rw [if_pos e1, if_neg e2] at e
            have := h2 n j (by omega) (by omega) e
            omega
        · by_cases e2 : f j = n
          · rw [if_neg e1, if_pos e2] at e
            have := h2 i n (by omega) (by omega) e
            omega
          · rw [if_neg e1, if_neg e2] at e
            exact h2 i j (by omega) (by omega) e
      have key := ih (fun k => if f k = n then f n else f k) g1 g2
      by_cases hjv : j = f n
      · exact ⟨n, by omega, by omega⟩
      · by_cases hjn : j = n
        · obtain ⟨k, a1, a2⟩ := key (f n) (by omega)
          by_cases e1 : f k = n
          · exact ⟨k, by omega, by omega⟩
          · have a3 : (if f k = n then f n else f k) = f n := a2
            rw [if_neg e1] at a3
            have := h2 k n (by omega) (by omega) a3
            omega
        · obtain ⟨k, a1, a2⟩ := key j (by omega)
          have a3 : (if f k = n then f n else f k) = j := a2
          by_cases e1 : f k = n
          · rw [if_pos e1] at a3
            omega
          · rw [if_neg e1] at a3
            exact ⟨k, by omega, a3⟩
def fch (ch : Nat → Nat) (j : Nat) : Nat → Nat → Nat
  | 0, k => k
  | f + 1, k => if ch k = j then k else fch ch j f (k + 1)
/-- the chair of a judge -/
def chO (ch : Nat → Nat) (j : Nat) : Nat := fch ch j 7 0
theorem fch_ok {ch : Nat → Nat} {j : Nat} : ∀ f k, (∃ i, k ≤ i ∧ i < k + f ∧ ch i = j) → ch (fch ch j f k) = j ∧ k ≤ fch ch j f k ∧ ∀ i, k ≤ i → ch i = j → fch ch j f k ≤ i := by
  intro f
  induction f with
  | zero => intro k ⟨i, h1, h2, _⟩; omega
  | succ f ih =>
    intro k ⟨i, h1, h2, h3⟩
    rw [fch]
    by_cases hk : ch k = j
    · rw [if_pos hk]
      exact ⟨hk, Nat.le_refl _, fun i hi _ => hi⟩
    · rw [if_neg hk]
      have hik : i ≠ k := fun e => hk (e ▸ h3)
      obtain ⟨a1, a2, a3⟩ := ih (k + 1) ⟨i, by omega, by omega, h3⟩
      refine ⟨a1, by omega, fun i' hi' e => ?_⟩
      have : i' ≠ k := fun e' => hk (e' ▸ e)
      exact a3 i' (by omega) e
theorem chO_ok {r : aRl} {s : aSt} (vr : vRl r) (vs : vSt r s) {j : Nat} (hj : j < r.nj) : s.ch (chO s.ch j) = j ∧ chO s.ch j < r.nj := by
  have h7 := vr.j
  obtain ⟨k, h1, h2⟩ := surj_inj r.nj s.ch vs.cj (fun i j hi hj e => vs.ci i j (by omega) (by omega) e) j hj
  obtain ⟨a1, a2, a3⟩ := fch_ok (ch := s.ch) (j := j) 7 0 ⟨k, by omega, by omega, h2⟩
  have := a3 k (by omega) h2
  unfold chO
  exact ⟨a1, by omega⟩
/-- two change chairs -/
def chg (s : aSt) (j o : Nat) : aSt := aSt.mk s.nx s.rd s.hd s.up s.ln (ku1 (ku1 s.ch (chO s.ch j) o) (chO s.ch o) j)
def pld (s : aSt) (c day : Nat) : aSt := aSt.mk s.nx s.rd s.hd (ku1 s.up c day) s.ln s.ch
def lnd (s : aSt) (j l : Nat) : aSt := aSt.mk s.nx s.rd s.hd s.up (ku1 s.ln j l) s.ch
theorem ku1_le {f : Nat → Nat} {k x b : Nat} (hx : x < b) (h : ∀ i, i < 7 → f i < b) : ∀ i, i < 7 → ku1 f k x i < b := by
  intro i hi
  by_cases e : i = k
  · rw [e, ku1_s]; exact hx
  · rw [ku1_n e]; exact h i hi
theorem pld_v {r : aRl} {s : aSt} {c day : Nat} (vs : vSt r s) (hd : day < 4) : vSt r (pld s c day) :=
  ⟨vs.nx, vs.hd, vs.h0, ku1_le hd vs.up, vs.ln, vs.ch, vs.cj, vs.ci⟩
theorem lnd_v {r : aRl} {s : aSt} {j l : Nat} (vs : vSt r s) (hl : l ≤ 20) : vSt r (lnd s j l) :=
  ⟨vs.nx, vs.hd, vs.h0, vs.up, fun i hi => by have := ku1_le (f := s.ln) (k := j) (b := 21) (show l < 21 by omega) (fun i hi => by have := vs.ln i hi; omega) i hi; show ku1 s.ln j l i ≤ 20; omega, vs.ch, vs.cj, vs.ci⟩
theorem chg_at {r : aRl} {s : aSt} (vr : vRl r) (vs : vSt r s) {j o : Nat} (hj : j < r.nj) (ho : o < r.nj) (i : Nat) : (chg s j o).ch i = s.ch (if i = chO s.ch o then chO s.ch j else if i = chO s.ch j then chO s.ch o else i) := by
  obtain ⟨a1, a2⟩ := chO_ok vr vs hj
  obtain ⟨b1, b2⟩ := chO_ok vr vs ho
  show ku1 (ku1 s.ch (chO s.ch j) o) (chO s.ch o) j i = _
  by_cases e1 : i = chO s.ch o
  · rw [if_pos e1, e1, ku1_s, a1]
  · rw [if_neg e1, ku1_n e1]
    by_cases e2 : i = chO s.ch j
    · rw [if_pos e2, e2, ku1_s, b1]
    · rw [if_neg e2, ku1_n e2]
theorem chg_v {r : aRl} {s : aSt} (vr : vRl r) (vs : vSt r s) {j o : Nat} (hj : j < r.nj) (ho : o < r.nj) : vSt r (chg s j o) := by
  have h7 := vr.j
  obtain ⟨a1, a2⟩ := chO_ok vr vs hj
  obtain ⟨b1, b2⟩ := chO_ok vr vs ho
  refine ⟨vs.nx, vs.hd, vs.h0, vs.up, vs.ln, fun k hk => ?_, fun k hk => ?_, fun i k hi hk e => ?_⟩
  · rw [chg_at vr vs hj ho]
    refine vs.ch _ ?_
    split
    · omega
    · split <;> omega
  · rw [chg_at vr vs hj ho]
    refine vs.cj _ ?_
    split
    · omega
    · split <;> omega
  · rw [chg_at vr vs hj ho, chg_at vr vs hj ho] at e
    have e' := vs.ci _ _ (by split; · omega
                             · split <;> omega) (by split; · omega
                                                    · split <;> omega) e
    revert e'
    split <;> split <;> intro e' <;> (try split at e') <;> (try split at e') <;> omega
theorem kfind_n {c : Nat → Int32} {ch : Nat → Nat} {j : Nat} (hc : ∀ k, k < 7 → c k = nI (ch k)) (h7 : ∀ k, k < 7 → ch k < 7) (hj : j < 7) : ∀ f k, k + f = 7 → (∃ i, k ≤ i ∧ i < k + f ∧ ch i = j) → kfind c (nI j) k f = nI (fch ch j f k) := by
  intro f
  induction f with
  | zero => intro k _ ⟨i, h1, h2, _⟩; omega
  | succ f ih =>
    intro k hk ⟨i, h1, h2, h3⟩
    have hk7 := h7 k (by omega)
    rw [kfind, fch, hc k (by omega)]
    by_cases e : ch k = j
    · rw [if_pos e, if_pos (congrArg nI e)]
    · have hik : i ≠ k := fun e' => e (e' ▸ h3)
      rw [if_neg e, if_neg (fun q => e (by rw [nI_inj (by omega) (by omega)] at q; exact q)), ih (k + 1) (by omega) ⟨i, by omega, by omega, h3⟩]
def aJudge (r : aRl) (s : aSt) (j w : Int32) : Int32 := if kidx j (nI r.nj) = 0 then -1 else if w = nI 0 then nI (r.kd j.toNatClampNeg) else if w = 1 then nI (s.ln j.toNatClampNeg) else if w = nI 2 then nI (chO s.ch j.toNatClampNeg) else -1
def aTrial (r : aRl) (s : aSt) (c w : Int32) : Int32 := if kidx c (nI r.nc) = 0 then -2 else if w = nI 0 then nI (r.gu c.toNatClampNeg) else if w = 1 then nI (s.up c.toNatClampNeg) else if w = nI 2 then nI (s.hd c.toNatClampNeg) else if w = nI 3 then aGets r s c else -2
section QCH
variable {xs : List Int32} {d : Nat} {I I' I2 : Nat → Nat → Int32} {J : Nat → Nat → Int64} {rf : Nat → Nat} {g : Nat} {R : Option Value → KW → Prop} {r : aRl} {s u : aSt} {b : Nat}
theorem kfind_c (vr : vRl r) (vs : vSt r s) (hs : cSt I b s) {j : Nat} (hj : j < r.nj) : kfind (I (b + 4)) (nI j) 0 7 = nI (chO s.ch j) := by
  have h7 := vr.j
  obtain ⟨a1, a2⟩ := chO_ok vr vs hj
  exact kfind_n hs.ch vs.ch (by omega) 7 0 rfl ⟨chO s.ch j, by omega, by omega, a1⟩
/-- State.changeChairs -/
theorem sp91e (hb : kshp b = some (.inl 9)) (vr : vRl r) (vs : vSt r s) (hs : cSt I b s) {j o : Nat} (hj : j < r.nj) (ho : o < r.nj) : ∃ I', cSt I' b (chg s j o) ∧ (∀ x k, x ≠ b + 4 → I' x k = I x k) ∧ ∀ d R, kX xs (d + 1) 91 0 [some (.ref b), some (.int (nI j)), some (.int (nI o)), none, none] [] (kmm I J rf g) R = R none (kmm I' J rf g) := by
  have h7 := vr.j
  obtain ⟨a1, a2⟩ := chO_ok vr vs hj
  obtain ⟨b1, b2⟩ := chO_ok vr vs ho
  refine ⟨ku (ku I (b + 4) (chO s.ch j) (nI o)) (b + 4) (chO s.ch o) (nI j), ⟨?_, ?_, fun k hk => ?_, fun k hk => ?_, fun k hk => ?_, fun k hk => ?_⟩, fun x k hx => by rw [ku_nea hx, ku_nea hx], fun d R => sp91 hb (kfind_c vr vs hs hj) (kfind_c vr vs hs ho) (by omega) (by omega)⟩
  · rw [ku_nea (by omega), ku_nea (by omega), hs.nx]; rfl
  · rw [ku_nea (by omega), ku_nea (by omega), hs.rd]; rfl
  · rw [ku_nea (by omega), ku_nea (by omega), hs.hd k hk]; rfl
  · rw [ku_nea (by omega), ku_nea (by omega), hs.up k hk]; rfl
  · rw [ku_nea (by omega), ku_nea (by omega), hs.ln k hk]; rfl
  · show _ = nI (ku1 (ku1 s.ch (chO s.ch j) o) (chO s.ch o) j k)
    by_cases e1 : k = chO s.ch o
    · rw [e1, ku_same, ku1_s]
    · rw [ku_nek e1, ku1_n e1]
      by_cases e2 : k = chO s.ch j
      · rw [e2, ku_same, ku1_s]
      · rw [ku_nek e2, ku1_n e2, hs.ch k hk]
/-- State.pleadFor, leanTo -/
theorem sp88e (hb : kshp b = some (.inl 9)) (hs : cSt I b s) {t day : Nat} (ht : t < 7) : ∃ I', cSt I' b (pld s t day) ∧ (∀ x k, x ≠ b + 2 → I' x k = I x k) ∧ ∀ d R, kX xs (d + 1) 88 0 [some (.ref b), some (.int (nI t)), some (.int (nI day))] [] (kmm I J rf g) R = R none (kmm I' J rf g) := by
  refine ⟨ku I (b + 2) t (nI day), ⟨?_, ?_, fun k hk => ?_, fun k hk => ?_, fun k hk => ?_, fun k hk => ?_⟩, fun x k hx => by rw [ku_nea hx], fun d R => sp88 hb ht⟩
  · rw [ku_nea (by omega), hs.nx]; rfl
  · rw [ku_nea (by omega), hs.rd]; rfl
  · rw [ku_nea (by omega), hs.hd k hk]; rfl
  · show _ = nI (ku1 s.up t day k)
    by_cases e1 : k = t
    · rw [e1, ku_same, ku1_s]
    · rw [ku_nek e1, ku1_n e1, hs.up k hk]
  · rw [ku_nea (by omega), hs.ln k hk]; rfl
  · rw [ku_nea (by omega), hs.ch k hk]; rfl
theorem sp89e (hb : kshp b = some (.inl 9)) (hs : cSt I b s) {t l : Nat} (ht : t < 7) : ∃ I', cSt I' b (lnd s t l) ∧ (∀ x k, x ≠ b + 3 → I' x k = I x k) ∧ ∀ d R, kX xs (d + 1) 89 0 [some (.ref b), some (.int (nI t)), some (.int (nI l))] [] (kmm I J rf g) R = R none (kmm I' J rf g) := by
  refine ⟨ku I (b + 3) t (nI l), ⟨?_, ?_, fun k hk => ?_, fun k hk => ?_, fun k hk => ?_, fun k hk => ?_⟩, fun x k hx => by rw [ku_nea hx], fun d R => sp89 hb ht⟩
  · rw [ku_nea (by omega), hs.nx]; rfl
  · rw [ku_nea (by omega), hs.rd]; rfl
  · rw [ku_nea (by omega), hs.hd k hk]; rfl
  · rw [ku_nea (by omega), hs.up k hk]; rfl
  · show _ = nI (ku1 s.ln t l k)
    by_cases e1 : k = t
    · rw [e1, ku_same, ku1_s]
    · rw [ku_nek e1, ku1_n e1, hs.ln k hk]
  · rw [ku_nea (by omega), hs.ch k hk]; rfl
/-- chairOf, changes -/
theorem sp207 (hb : b ≤ 1235) (vr : vRl r) (vs : vSt r s) (hs : mSt I b r s) {j : Nat} (hj : j < r.nj) : kX xs d 207 0 [some (.ref 185), some (.int (nI b)), some (.int (nI j)), none] [] (kmm I J rf g) R = R (some (.int (nI (chO s.ch j)))) (kmm I J rf g) := by
  have h7 := vr.j
  obtain ⟨a1, a2⟩ := chO_ok vr vs hj
  have key : ∀ f k, (∃ i, k ≤ i ∧ i < k + f ∧ s.ch i = j ∧ i < r.nj) → kX xs d 207 2 [some (.ref 185), some (.int (nI b)), some (.int (nI j)), some (.int (nI k))] [] (kmm I J rf g) R = R (some (.int (nI (fch s.ch j f k)))) (kmm I J rf g) := by
    intro f
    induction f with
    | zero => intro k ⟨i, h1, h2, _⟩; omega
    | succ f ih =>
      intro k ⟨i, h1, h2, h3, h4⟩
      have hk : k < r.nj := by omega
      have hc := hs.ch k hk
      have hc7 := vs.ch k (by omega)
      rw [B207_2, kg12_23, kO_s, c8_16, nI_add, nI_add, ka201 (by omega), kO_s, hc, fch]
      by_cases e : s.ch k = j
      · rw [if_pos e, if_pos (congrArg nI e), B207_23]
      · have hik : i ≠ k := fun e' => e (e' ▸ h3)
        rw [if_neg e, if_neg (fun q => e (by rw [nI_inj (by omega) (by omega)] at q; exact q)), B207_17, nI_add1, ih (k + 1) ⟨i, by omega, by omega, h3, h4⟩]
  rw [B207_0, n_0]
  exact key 7 0 ⟨chO s.ch j, by omega, by omega, a1, a2⟩
theorem sp208 (hb : b ≤ 1235) (vr : vRl r) (vs : vSt r s) (hs : mSt I b r s) {j o : Nat} (hj : j < r.nj) (ho : o < r.nj) : ∃ I', mSt I' b r (chg s j o) ∧ (∀ x k, ¬ (x = 201 ∧ b + 16 ≤ k ∧ k < b + 23) → I' x k = I x k) ∧ ∀ d R, kX xs (d + 1) 208 0 [some (.ref 185), some (.int (nI b)), some (.int (nI j)), some (.int (nI o)), none, none] [] (kmm I J rf g) R = R none (kmm I' J rf g) := by
  have h7 := vr.j
  have c7 := vr.c
  obtain ⟨a1, a2⟩ := chO_ok vr vs hj
  obtain ⟨b1, b2⟩ := chO_ok vr vs ho
  refine ⟨ku (ku I 201 (b + 16 + chO s.ch j) (nI o)) 201 (b + 16 + chO s.ch o) (nI j), ⟨?_, ?_, fun k hk => ?_, fun k hk => ?_, fun k hk => ?_, fun k hk => ?_⟩, fun x k hx => by rw [ku_ne (by omega), ku_ne (by omega)], fun d R => ?_⟩
  · rw [ku_nek (by omega), ku_nek (by omega), hs.nx]; rfl
  · rw [ku_nek (by omega), ku_nek (by omega), hs.rd]; rfl
  · rw [ku_nek (by omega), ku_nek (by omega), hs.hd k hk]; rfl
  · rw [ku_nek (by omega), ku_nek (by omega), hs.ln k hk]; rfl
  · show _ = nI (ku1 (ku1 s.ch (chO s.ch j) o) (chO s.ch o) j k)
    by_cases e1 : k = chO s.ch o
    · rw [e1, ku_same, ku1_s]
    · rw [ku_nek (by omega), ku1_n e1]
      by_cases e2 : k = chO s.ch j
      · rw [e2, ku_same, ku1_s]
      · rw [ku_nek (by omega), ku1_n e2, hs.ch k hk]
  · rw [ku_nek (by omega), ku_nek (by omega), hs.up k hk]; rfl
  · rw [B208_0, krecv_m ks185, kcond_t, sp207 hb vr vs hs hj, kpush_s, B208_6, krecv_m ks185, kcond_t, sp207 hb vr vs hs ho, kpush_s, B208_14, kg12_23, kO_s, c8_16, nI_add, nI_add, kw201 (by omega), kO_s, kg12_23, kO_s, nI_add, kw201 (by omega), kO_s]
theorem kidx3_out {w : Int32} (h : kidx w (nI 3) = 0) : ¬ w = nI 0 ∧ ¬ w = 1 ∧ ¬ w = nI 2 := by
  refine ⟨fun e => ?_, fun e => ?_, fun e => ?_⟩ <;> (subst e; exact absurd h (by decide))
theorem kidx4_out {w : Int32} (h : kidx w (nI 4) = 0) : ¬ w = nI 0 ∧ ¬ w = 1 ∧ ¬ w = nI 2 ∧ ¬ w = nI 3 := by
  refine ⟨fun e => ?_, fun e => ?_, fun e => ?_, fun e => ?_⟩ <;> (subst e; exact absurd h (by decide))
theorem n21 : (nI 2 = 1) = False := eq_false (by decide)
theorem n31 : (nI 3 = 1) = False := eq_false (by decide)
theorem n01 : (nI 0 = 1) = False := eq_false (by decide)
theorem n10 : ((1 : Int32) = nI 0) = False := eq_false (by decide)
theorem n12 : ((1 : Int32) = nI 2) = False := eq_false (by decide)
theorem n32 : (nI 3 = nI 2) = False := eq_false (by decide)
theorem n30 : (nI 3 = nI 0) = False := eq_false (by decide)
/-- judge -/
theorem sp107 (h : cB I rf r s) (x y : Int32) : kX xs (d + 2) 107 0 [some (.ref 0), some (.int x), some (.int y)] [] (kmm I J rf g) R = R (some (.int (aJudge r s x y))) (kmm I J rf g) := by
  have ht := h.t
  have hj7 := h.vr.j
  have e0 := h.rl.nj
  unfold aJudge
  rcases kidx_c x (show r.nj < 2147483648 by omega) with ⟨j, hj, rfl⟩ | h0
  · have hk := kidx_in hj (show r.nj < 2147483648 by omega)
    have e1 := h.rl.kd j (by omega)
    have e2 := h.st.ln j (by omega)
    have e3 := kfind_c h.vr h.vs h.st hj
    have e4 : ∀ d R, kX xs d 90 0 [some (.ref 39), some (.int (nI j)), none] [] (kmm I J rf g) R = _ := fun d R => sp90 ks39
    rw [hk, if_neg (by decide), nI_clamp (by omega)]
    by_cases w0 : y = nI 0
    · subst w0
      simp (disch := omega) only [B107_0, B107_8, B107_11, B107_13, B107_40, B107_50, B107_60, B107_68, B107_69, kO_s, kcond_t, kpush_s, kpush_n, nI_add, nI_add1, pk_mul, n_0, n_2, n_3, n_4, n_5, if_true, if_false, Nat.add_zero, krecv_m ks0, krecv_m ks54, kg1_0, kg2_0, kp2_0, kg2_1, kg2_2, kp2_2, kg2_3, kp2_3, kg2_4, kp2_4, kg2_5, kp2_5, kg2_6, kp2_6, kg2_7, kp2_7, kg3_0, kp3_0, kg3_1, kp3_1, kg3_2, kg4_0, kg4_1, kg5_0, kg5_1, kg5_2, kp5_2, kg5_3, kp5_3, kg5_4, kp5_4, kg5_5, kp5_5, kg8_0, kp8_0, kg8_1, kg8_2, kg8_3, kg8_4, kg8_5, kg8_6, kg8_7, kg11_0, kg11_1, kg11_2, kg11_3, kg11_4, kg11_5, kg11_6, kg11_7, kg11_8, kg11_9, kg11_10, kg11_11, kg11_12, kg11_13, kg11_14, kg11_15, kg11_16, kp11_16, kb2, kv2, ka55, kw55, ka56, kw56, ka57, kw57, ka58, kw58, kb59, kv59, ka60, kw60, ka61, kw61, ka63, kw63, ka64, kw64, kr66, kr150, kr151, kb152, kv152, c8_m17, c8_m16, c8_m15, c8_m14, c8_m13, c8_m12, c8_m11, c8_m10, c8_m2, c8_6, c8_7, c8_8, c8_9, c8_10, c8_11, c8_12, c8_13, c8_14, c8_15, c8_16, c8_17, c8_18, c8_19, c8_20, c8_21, c8_22, c8_23, c8_25, c8_30, c8_31, c8_32, c8_39, c8_40, c8_41, c8_42, c8_43, c8_45, c8_48, c8_55, c8_56, c8_57, c8_59, c8_60, c8_61, c8_63, c8_70, c8_90, c8_91, c8_92, c8_93, c8_94, c8_96, c8_97, c8_99, c8_115, c8_122, c8_125, c8_126, c8_127, c16_128, c16_129, c16_131, c16_132, c16_135, c16_136, c16_137, c16_138, c16_139, c16_142, c16_143, c16_144, c16_145, c16_146, c16_149, c16_180, c16_250, c16_255, c16_1000, c16_1002, c16_1100, c16_1155, c16_1157, c16_1164, c16_1178, c16_1210, c16_1212, c16_1219, c16_1233, c16_1265, c16_2200, c16_4095, c16_4096, c16_9999, c16_12345, krecv_m ht, sp51 ht, sp52 ht, kg6_0 ht, kg6_1 ht, kg6_2 ht, kg6_3 ht, kg6_4 ht, kg6_5 ht, kg6_6 ht, kg6_7 ht, kj6_1 ht, kj6_2 ht, ka6_3 ht, ka6_4 ht, krecv_m ks39, kg9_0 ks39, kp9_0 ks39, kg9_1 ks39, kp9_1 ks39, kg9_2 ks39, kg9_3 ks39, kg9_4 ks39, kg9_5 ks39, ka9_1 ks39, kw9_1 ks39, ka9_2 ks39, kw9_2 ks39, ka9_3 ks39, kw9_3 ks39, ka9_4 ks39, kw9_4 ks39, one0, m1_lt0, nI20, nI40, e0, hk, e1]
    · by_cases w1 : y = 1
      · subst w1
        simp (disch := omega) only [B107_0, B107_8, B107_11, B107_13, B107_40, B107_50, B107_60, B107_68, B107_69, kO_s, kcond_t, kpush_s, kpush_n, nI_add, nI_add1, pk_mul, n_0, n_2, n_3, n_4, n_5, if_true, if_false, Nat.add_zero, krecv_m ks0, krecv_m ks54, kg1_0, kg2_0, kp2_0, kg2_1, kg2_2, kp2_2, kg2_3, kp2_3, kg2_4, kp2_4, kg2_5, kp2_5, kg2_6, kp2_6, kg2_7, kp2_7, kg3_0, kp3_0, kg3_1, kp3_1, kg3_2, kg4_0, kg4_1, kg5_0, kg5_1, kg5_2, kp5_2, kg5_3, kp5_3, kg5_4, kp5_4, kg5_5, kp5_5, kg8_0, kp8_0, kg8_1, kg8_2, kg8_3, kg8_4, kg8_5, kg8_6, kg8_7, kg11_0, kg11_1, kg11_2, kg11_3, kg11_4, kg11_5, kg11_6, kg11_7, kg11_8, kg11_9, kg11_10, kg11_11, kg11_12, kg11_13, kg11_14, kg11_15, kg11_16, kp11_16, kb2, kv2, ka55, kw55, ka56, kw56, ka57, kw57, ka58, kw58, kb59, kv59, ka60, kw60, ka61, kw61, ka63, kw63, ka64, kw64, kr66, kr150, kr151, kb152, kv152, c8_m17, c8_m16, c8_m15, c8_m14, c8_m13, c8_m12, c8_m11, c8_m10, c8_m2, c8_6, c8_7, c8_8, c8_9, c8_10, c8_11, c8_12, c8_13, c8_14, c8_15, c8_16, c8_17, c8_18, c8_19, c8_20, c8_21, c8_22, c8_23, c8_25, c8_30, c8_31, c8_32, c8_39, c8_40, c8_41, c8_42, c8_43, c8_45, c8_48, c8_55, c8_56, c8_57, c8_59, c8_60, c8_61, c8_63, c8_70, c8_90, c8_91, c8_92, c8_93, c8_94, c8_96, c8_97, c8_99, c8_115, c8_122, c8_125, c8_126, c8_127, c16_128, c16_129, c16_131, c16_132, c16_135, c16_136, c16_137, c16_138, c16_139, c16_142, c16_143, c16_144, c16_145, c16_146, c16_149, c16_180, c16_250, c16_255, c16_1000, c16_1002, c16_1100, c16_1155, c16_1157, c16_1164, c16_1178, c16_1210, c16_1212, c16_1219, c16_1233, c16_1265, c16_2200, c16_4095, c16_4096, c16_9999, c16_12345, krecv_m ht, sp51 ht, sp52 ht, kg6_0 ht, kg6_1 ht, kg6_2 ht, kg6_3 ht, kg6_4 ht, kg6_5 ht, kg6_6 ht, kg6_7 ht, kj6_1 ht, kj6_2 ht, ka6_3 ht, ka6_4 ht, krecv_m ks39, kg9_0 ks39, kp9_0 ks39, kg9_1 ks39, kp9_1 ks39, kg9_2 ks39, kg9_3 ks39, kg9_4 ks39, kg9_5 ks39, ka9_1 ks39, kw9_1 ks39, ka9_2 ks39, kw9_2 ks39, ka9_3 ks39, kw9_3 ks39, ka9_4 ks39, kw9_4 ks39, one0, m1_lt0, nI20, nI40, e0, hk, e2]
      · by_cases w2 : y = nI 2
        · subst w2
          simp (disch := omega) only [B107_0, B107_8, B107_11, B107_13, B107_40, B107_50, B107_60, B107_68, B107_69, kO_s, kcond_t, kpush_s, kpush_n, nI_add, nI_add1, pk_mul, n_0, n_2, n_3, n_4, n_5, if_true, if_false, Nat.add_zero, krecv_m ks0, krecv_m ks54, kg1_0, kg2_0, kp2_0, kg2_1, kg2_2, kp2_2, kg2_3, kp2_3, kg2_4, kp2_4, kg2_5, kp2_5, kg2_6, kp2_6, kg2_7, kp2_7, kg3_0, kp3_0, kg3_1, kp3_1, kg3_2, kg4_0, kg4_1, kg5_0, kg5_1, kg5_2, kp5_2, kg5_3, kp5_3, kg5_4, kp5_4, kg5_5, kp5_5, kg8_0, kp8_0, kg8_1, kg8_2, kg8_3, kg8_4, kg8_5, kg8_6, kg8_7, kg11_0, kg11_1, kg11_2, kg11_3, kg11_4, kg11_5, kg11_6, kg11_7, kg11_8, kg11_9, kg11_10, kg11_11, kg11_12, kg11_13, kg11_14, kg11_15, kg11_16, kp11_16, kb2, kv2, ka55, kw55, ka56, kw56, ka57, kw57, ka58, kw58, kb59, kv59, ka60, kw60, ka61, kw61, ka63, kw63, ka64, kw64, kr66, kr150, kr151, kb152, kv152, c8_m17, c8_m16, c8_m15, c8_m14, c8_m13, c8_m12, c8_m11, c8_m10, c8_m2, c8_6, c8_7, c8_8, c8_9, c8_10, c8_11, c8_12, c8_13, c8_14, c8_15, c8_16, c8_17, c8_18, c8_19, c8_20, c8_21, c8_22, c8_23, c8_25, c8_30, c8_31, c8_32, c8_39, c8_40, c8_41, c8_42, c8_43, c8_45, c8_48, c8_55, c8_56, c8_57, c8_59, c8_60, c8_61, c8_63, c8_70, c8_90, c8_91, c8_92, c8_93, c8_94, c8_96, c8_97, c8_99, c8_115, c8_122, c8_125, c8_126, c8_127, c16_128, c16_129, c16_131, c16_132, c16_135, c16_136, c16_137, c16_138, c16_139, c16_142, c16_143, c16_144, c16_145, c16_146, c16_149, c16_180, c16_250, c16_255, c16_1000, c16_1002, c16_1100, c16_1155, c16_1157, c16_1164, c16_1178, c16_1210, c16_1212, c16_1219, c16_1233, c16_1265, c16_2200, c16_4095, c16_4096, c16_9999, c16_12345, krecv_m ht, sp51 ht, sp52 ht, kg6_0 ht, kg6_1 ht, kg6_2 ht, kg6_3 ht, kg6_4 ht, kg6_5 ht, kg6_6 ht, kg6_7 ht, kj6_1 ht, kj6_2 ht, ka6_3 ht, ka6_4 ht, krecv_m ks39, kg9_0 ks39, kp9_0 ks39, kg9_1 ks39, kp9_1 ks39, kg9_2 ks39, kg9_3 ks39, kg9_4 ks39, kg9_5 ks39, ka9_1 ks39, kw9_1 ks39, ka9_2 ks39, kw9_2 ks39, ka9_3 ks39, kw9_3 ks39, ka9_4 ks39, kw9_4 ks39, one0, m1_lt0, nI20, nI40, n21, e0, hk, e4, e3]
        · simp (disch := omega) only [B107_0, B107_8, B107_11, B107_13, B107_40, B107_50, B107_60, B107_68, B107_69, kO_s, kcond_t, kpush_s, kpush_n, nI_add, nI_add1, pk_mul, n_0, n_2, n_3, n_4, n_5, if_true, if_false, Nat.add_zero, krecv_m ks0, krecv_m ks54, kg1_0, kg2_0, kp2_0, kg2_1, kg2_2, kp2_2, kg2_3, kp2_3, kg2_4, kp2_4, kg2_5, kp2_5, kg2_6, kp2_6, kg2_7, kp2_7, kg3_0, kp3_0, kg3_1, kp3_1, kg3_2, kg4_0, kg4_1, kg5_0, kg5_1, kg5_2, kp5_2, kg5_3, kp5_3, kg5_4, kp5_4, kg5_5, kp5_5, kg8_0, kp8_0, kg8_1, kg8_2, kg8_3, kg8_4, kg8_5, kg8_6, kg8_7, kg11_0, kg11_1, kg11_2, kg11_3, kg11_4, kg11_5, kg11_6, kg11_7, kg11_8, kg11_9, kg11_10, kg11_11, kg11_12, kg11_13, kg11_14, kg11_15, kg11_16, kp11_16, kb2, kv2, ka55, kw55, ka56, kw56, ka57, kw57, ka58, kw58, kb59, kv59, ka60, kw60, ka61, kw61, ka63, kw63, ka64, kw64, kr66, kr150, kr151, kb152, kv152, c8_m17, c8_m16, c8_m15, c8_m14, c8_m13, c8_m12, c8_m11, c8_m10, c8_m2, c8_6, c8_7, c8_8, c8_9, c8_10, c8_11, c8_12, c8_13, c8_14, c8_15, c8_16, c8_17, c8_18, c8_19, c8_20, c8_21, c8_22, c8_23, c8_25, c8_30, c8_31, c8_32, c8_39, c8_40, c8_41, c8_42, c8_43, c8_45, c8_48, c8_55, c8_56, c8_57, c8_59, c8_60, c8_61, c8_63, c8_70, c8_90, c8_91, c8_92, c8_93, c8_94, c8_96, c8_97, c8_99, c8_115, c8_122, c8_125, c8_126, c8_127, c16_128, c16_129, c16_131, c16_132, c16_135, c16_136, c16_137, c16_138, c16_139, c16_142, c16_143, c16_144, c16_145, c16_146, c16_149, c16_180, c16_250, c16_255, c16_1000, c16_1002, c16_1100, c16_1155, c16_1157, c16_1164, c16_1178, c16_1210, c16_1212, c16_1219, c16_1233, c16_1265, c16_2200, c16_4095, c16_4096, c16_9999, c16_12345, krecv_m ht, sp51 ht, sp52 ht, kg6_0 ht, kg6_1 ht, kg6_2 ht, kg6_3 ht, kg6_4 ht, kg6_5 ht, kg6_6 ht, kg6_7 ht, kj6_1 ht, kj6_2 ht, ka6_3 ht, ka6_4 ht, one0, m1_lt0, nI20, nI40, e0, hk, w0, w1, w2]
  · rw [h0, if_pos rfl]
    simp (disch := omega) only [B107_0, B107_8, B107_11, B107_13, B107_40, B107_50, B107_60, B107_68, B107_69, kO_s, kcond_t, kpush_s, kpush_n, nI_add, nI_add1, pk_mul, n_0, n_2, n_3, n_4, n_5, if_true, if_false, Nat.add_zero, krecv_m ks0, krecv_m ks54, kg1_0, kg2_0, kp2_0, kg2_1, kg2_2, kp2_2, kg2_3, kp2_3, kg2_4, kp2_4, kg2_5, kp2_5, kg2_6, kp2_6, kg2_7, kp2_7, kg3_0, kp3_0, kg3_1, kp3_1, kg3_2, kg4_0, kg4_1, kg5_0, kg5_1, kg5_2, kp5_2, kg5_3, kp5_3, kg5_4, kp5_4, kg5_5, kp5_5, kg8_0, kp8_0, kg8_1, kg8_2, kg8_3, kg8_4, kg8_5, kg8_6, kg8_7, kg11_0, kg11_1, kg11_2, kg11_3, kg11_4, kg11_5, kg11_6, kg11_7, kg11_8, kg11_9, kg11_10, kg11_11, kg11_12, kg11_13, kg11_14, kg11_15, kg11_16, kp11_16, kb2, kv2, ka55, kw55, ka56, kw56, ka57, kw57, ka58, kw58, kb59, kv59, ka60, kw60, ka61, kw61, ka63, kw63, ka64, kw64, kr66, kr150, kr151, kb152, kv152, c8_m17, c8_m16, c8_m15, c8_m14, c8_m13, c8_m12, c8_m11, c8_m10, c8_m2, c8_6, c8_7, c8_8, c8_9, c8_10, c8_11, c8_12, c8_13, c8_14, c8_15, c8_16, c8_17, c8_18, c8_19, c8_20, c8_21, c8_22, c8_23, c8_25, c8_30, c8_31, c8_32, c8_39, c8_40, c8_41, c8_42, c8_43, c8_45, c8_48, c8_55, c8_56, c8_57, c8_59, c8_60, c8_61, c8_63, c8_70, c8_90, c8_91, c8_92, c8_93, c8_94, c8_96, c8_97, c8_99, c8_115, c8_122, c8_125, c8_126, c8_127, c16_128, c16_129, c16_131, c16_132, c16_135, c16_136, c16_137, c16_138, c16_139, c16_142, c16_143, c16_144, c16_145, c16_146, c16_149, c16_180, c16_250, c16_255, c16_1000, c16_1002, c16_1100, c16_1155, c16_1157, c16_1164, c16_1178, c16_1210, c16_1212, c16_1219, c16_1233, c16_1265, c16_2200, c16_4095, c16_4096, c16_9999, c16_12345, krecv_m ht, sp51 ht, sp52 ht, kg6_0 ht, kg6_1 ht, kg6_2 ht, kg6_3 ht, kg6_4 ht, kg6_5 ht, kg6_6 ht, kg6_7 ht, kj6_1 ht, kj6_2 ht, ka6_3 ht, ka6_4 ht, one0, m1_lt0, nI20, nI40, e0, h0]
theorem sp220 (h : mB I r s) (x y : Int32) : ∃ I', mQ I I' ∧ ∀ d R, kX xs (d + 2) 220 0 [some (.ref 185), some (.int x), some (.int y)] [] (kmm I J rf g) R = R (some (.int (aJudge r s x y))) (kmm I' J rf g) := by
  have hq := mQ.thr I (nI 0)
  have h' := h.keep hq
  have hj7 := h.vr.j
  have e0 := h'.rl.nj
  refine ⟨_, hq, fun d R => ?_⟩
  unfold aJudge
  rcases kidx_c x (show r.nj < 2147483648 by omega) with ⟨j, hj, rfl⟩ | h0
  · have hk := kidx_in hj (show r.nj < 2147483648 by omega)
    have e1 := h'.rl.kd j hj
    have e2 := h'.st.ln j hj
    rw [show 0 + 9 + j = 9 + j by omega] at e2
    have e4 : ∀ d R, kX xs d 207 0 [some (.ref 185), some (.int (nI 0)), some (.int (nI j)), none] [] (kmm (ku I 185 0 (nI 0)) J rf g) R = _ := fun d R => sp207 (by omega) h.vr h.vs h'.st hj
    rw [hk, if_neg (by decide), nI_clamp (by omega)]
    rcases kidx_c y (show 3 < 2147483648 by omega) with ⟨k, hk3, rfl⟩ | h2
    · have hk2 := kidx_in hk3 (show 3 < 2147483648 by omega)
      rcases (by omega : k = 0 ∨ k = 1 ∨ k = 2) with rfl | rfl | rfl
      · simp (disch := omega) only [B220_0, B220_10, B220_13, B220_19, B220_22, B220_24, B220_28, B220_34, B220_37, B220_42, B220_54, B220_60, kO_s, kcond_t, kpush_s, kpush_n, nI_add, nI_add1, pk_mul, n_0, n_2, n_3, n_4, n_5, if_true, if_false, Nat.add_zero, krecv_m ks185, kg12_0, kp12_0, kg12_1, kg12_2, kp12_2, kg12_3, kp12_3, kg12_4, kg12_5, kg12_6, kg12_7, kp12_7, kg12_8, kp12_8, kg12_9, kg12_10, kg12_11, kg12_12, kg12_13, kp12_13, kg12_14, kg12_15, kg12_16, kg12_17, kg12_18, kp12_18, kg12_19, kp12_19, kg12_20, kg12_21, kg12_22, kg12_23, kg12_24, kp12_24, kg12_25, kg12_26, kg12_27, kg12_28, kp12_28, kg12_29, kg12_30, kg12_31, kg12_32, kp12_32, kg12_33, kp12_33, ka186, kw186, ka187, kw187, ka188, kw188, kj189, kk189, kj190, kk190, ka191, kw191, ka192, kw192, ka193, kw193, kj194, kk194, kj195, kk195, ka196, kw196, ka197, kw197, ka198, kw198, ka199, kw199, ka200, kw200, ka201, kw201, kb202, kv202, ka203, kw203, ka204, kw204, ka205, kw205, ka206, kw206, ka207, kw207, kj208, kk208, c8_m17, c8_m16, c8_m15, c8_m14, c8_m13, c8_m12, c8_m11, c8_m10, c8_m2, c8_6, c8_7, c8_8, c8_9, c8_10, c8_11, c8_12, c8_13, c8_14, c8_15, c8_16, c8_17, c8_18, c8_19, c8_20, c8_21, c8_22, c8_23, c8_25, c8_30, c8_31, c8_32, c8_39, c8_40, c8_41, c8_42, c8_43, c8_45, c8_48, c8_55, c8_56, c8_57, c8_59, c8_60, c8_61, c8_63, c8_70, c8_90, c8_91, c8_92, c8_93, c8_94, c8_96, c8_97, c8_99, c8_115, c8_122, c8_125, c8_126, c8_127, c16_128, c16_129, c16_131, c16_132, c16_135, c16_136, c16_137, c16_138, c16_139, c16_142, c16_143, c16_144, c16_145, c16_146, c16_149, c16_180, c16_250, c16_255, c16_1000, c16_1002, c16_1100, c16_1155, c16_1157, c16_1164, c16_1178, c16_1210, c16_1212, c16_1219, c16_1233, c16_1265, c16_2200, c16_4095, c16_4096, c16_9999, c16_12345, one0, m1_lt0, nI20, nI40, sp203, sp171, kwi2, hk2, e0, hk, sp201, e1]
      · rw [show nI 1 = 1 from rfl] at hk2 ⊢
        simp (disch := omega) only [B220_0, B220_10, B220_13, B220_19, B220_22, B220_24, B220_28, B220_34, B220_37, B220_42, B220_54, B220_60, kO_s, kcond_t, kpush_s, kpush_n, nI_add, nI_add1, pk_mul, n_0, n_2, n_3, n_4, n_5, if_true, if_false, Nat.add_zero, krecv_m ks185, kg12_0, kp12_0, kg12_1, kg12_2, kp12_2, kg12_3, kp12_3, kg12_4, kg12_5, kg12_6, kg12_7, kp12_7, kg12_8, kp12_8, kg12_9, kg12_10, kg12_11, kg12_12, kg12_13, kp12_13, kg12_14, kg12_15, kg12_16, kg12_17, kg12_18, kp12_18, kg12_19, kp12_19, kg12_20, kg12_21, kg12_22, kg12_23, kg12_24, kp12_24, kg12_25, kg12_26, kg12_27, kg12_28, kp12_28, kg12_29, kg12_30, kg12_31, kg12_32, kp12_32, kg12_33, kp12_33, ka186, kw186, ka187, kw187, ka188, kw188, kj189, kk189, kj190, kk190, ka191, kw191, ka192, kw192, ka193, kw193, kj194, kk194, kj195, kk195, ka196, kw196, ka197, kw197, ka198, kw198, ka199, kw199, ka200, kw200, ka201, kw201, kb202, kv202, ka203, kw203, ka204, kw204, ka205, kw205, ka206, kw206, ka207, kw207, kj208, kk208, c8_m17, c8_m16, c8_m15, c8_m14, c8_m13, c8_m12, c8_m11, c8_m10, c8_m2, c8_6, c8_7, c8_8, c8_9, c8_10, c8_11, c8_12, c8_13, c8_14, c8_15, c8_16, c8_17, c8_18, c8_19, c8_20, c8_21, c8_22, c8_23, c8_25, c8_30, c8_31, c8_32, c8_39, c8_40, c8_41, c8_42, c8_43, c8_45, c8_48, c8_55, c8_56, c8_57, c8_59, c8_60, c8_61, c8_63, c8_70, c8_90, c8_91, c8_92, c8_93, c8_94, c8_96, c8_97, c8_99, c8_115, c8_122, c8_125, c8_126, c8_127, c16_128, c16_129, c16_131, c16_132, c16_135, c16_136, c16_137, c16_138, c16_139, c16_142, c16_143, c16_144, c16_145, c16_146, c16_149, c16_180, c16_250, c16_255, c16_1000, c16_1002, c16_1100, c16_1155, c16_1157, c16_1164, c16_1178, c16_1210, c16_1212, c16_1219, c16_1233, c16_1265, c16_2200, c16_4095, c16_4096, c16_9999, c16_12345, one0, m1_lt0, nI20, nI40, sp203, sp171, kwi2, hk2, e0, hk, e2]
      · simp (disch := omega) only [B220_0, B220_10, B220_13, B220_19, B220_22, B220_24, B220_28, B220_34, B220_37, B220_42, B220_54, B220_60, kO_s, kcond_t, kpush_s, kpush_n, nI_add, nI_add1, pk_mul, n_0, n_2, n_3, n_4, n_5, if_true, if_false, Nat.add_zero, krecv_m ks185, kg12_0, kp12_0, kg12_1, kg12_2, kp12_2, kg12_3, kp12_3, kg12_4, kg12_5, kg12_6, kg12_7, kp12_7, kg12_8, kp12_8, kg12_9, kg12_10, kg12_11, kg12_12, kg12_13, kp12_13, kg12_14, kg12_15, kg12_16, kg12_17, kg12_18, kp12_18, kg12_19, kp12_19, kg12_20, kg12_21, kg12_22, kg12_23, kg12_24, kp12_24, kg12_25, kg12_26, kg12_27, kg12_28, kp12_28, kg12_29, kg12_30, kg12_31, kg12_32, kp12_32, kg12_33, kp12_33, ka186, kw186, ka187, kw187, ka188, kw188, kj189, kk189, kj190, kk190, ka191, kw191, ka192, kw192, ka193, kw193, kj194, kk194, kj195, kk195, ka196, kw196, ka197, kw197, ka198, kw198, ka199, kw199, ka200, kw200, ka201, kw201, kb202, kv202, ka203, kw203, ka204, kw204, ka205, kw205, ka206, kw206, ka207, kw207, kj208, kk208, c8_m17, c8_m16, c8_m15, c8_m14, c8_m13, c8_m12, c8_m11, c8_m10, c8_m2, c8_6, c8_7, c8_8, c8_9, c8_10, c8_11, c8_12, c8_13, c8_14, c8_15, c8_16, c8_17, c8_18, c8_19, c8_20, c8_21, c8_22, c8_23, c8_25, c8_30, c8_31, c8_32, c8_39, c8_40, c8_41, c8_42, c8_43, c8_45, c8_48, c8_55, c8_56, c8_57, c8_59, c8_60, c8_61, c8_63, c8_70, c8_90, c8_91, c8_92, c8_93, c8_94, c8_96, c8_97, c8_99, c8_115, c8_122, c8_125, c8_126, c8_127, c16_128, c16_129, c16_131, c16_132, c16_135, c16_136, c16_137, c16_138, c16_139, c16_142, c16_143, c16_144, c16_145, c16_146, c16_149, c16_180, c16_250, c16_255, c16_1000, c16_1002, c16_1100, c16_1155, c16_1157, c16_1164, c16_1178, c16_1210, c16_1212, c16_1219, c16_1233, c16_1265, c16_2200, c16_4095, c16_4096, c16_9999, c16_12345, one0, m1_lt0, nI20, nI40, n21, sp203, sp171, kwi2, hk2, e0, hk, e4]
    · obtain ⟨w0, w1, w2⟩ := kidx3_out h2
      simp (disch := omega) only [B220_0, B220_10, B220_13, B220_19, B220_22, B220_24, B220_28, B220_34, B220_37, B220_42, B220_54, B220_60, kO_s, kcond_t, kpush_s, kpush_n, nI_add, nI_add1, pk_mul, n_0, n_2, n_3, n_4, n_5, if_true, if_false, Nat.add_zero, krecv_m ks185, kg12_0, kp12_0, kg12_1, kg12_2, kp12_2, kg12_3, kp12_3, kg12_4, kg12_5, kg12_6, kg12_7, kp12_7, kg12_8, kp12_8, kg12_9, kg12_10, kg12_11, kg12_12, kg12_13, kp12_13, kg12_14, kg12_15, kg12_16, kg12_17, kg12_18, kp12_18, kg12_19, kp12_19, kg12_20, kg12_21, kg12_22, kg12_23, kg12_24, kp12_24, kg12_25, kg12_26, kg12_27, kg12_28, kp12_28, kg12_29, kg12_30, kg12_31, kg12_32, kp12_32, kg12_33, kp12_33, ka186, kw186, ka187, kw187, ka188, kw188, kj189, kk189, kj190, kk190, ka191, kw191, ka192, kw192, ka193, kw193, kj194, kk194, kj195, kk195, ka196, kw196, ka197, kw197, ka198, kw198, ka199, kw199, ka200, kw200, ka201, kw201, kb202, kv202, ka203, kw203, ka204, kw204, ka205, kw205, ka206, kw206, ka207, kw207, kj208, kk208, c8_m17, c8_m16, c8_m15, c8_m14, c8_m13, c8_m12, c8_m11, c8_m10, c8_m2, c8_6, c8_7, c8_8, c8_9, c8_10, c8_11, c8_12, c8_13, c8_14, c8_15, c8_16, c8_17, c8_18, c8_19, c8_20, c8_21, c8_22, c8_23, c8_25, c8_30, c8_31, c8_32, c8_39, c8_40, c8_41, c8_42, c8_43, c8_45, c8_48, c8_55, c8_56, c8_57, c8_59, c8_60, c8_61, c8_63, c8_70, c8_90, c8_91, c8_92, c8_93, c8_94, c8_96, c8_97, c8_99, c8_115, c8_122, c8_125, c8_126, c8_127, c16_128, c16_129, c16_131, c16_132, c16_135, c16_136, c16_137, c16_138, c16_139, c16_142, c16_143, c16_144, c16_145, c16_146, c16_149, c16_180, c16_250, c16_255, c16_1000, c16_1002, c16_1100, c16_1155, c16_1157, c16_1164, c16_1178, c16_1210, c16_1212, c16_1219, c16_1233, c16_1265, c16_2200, c16_4095, c16_4096, c16_9999, c16_12345, one0, m1_lt0, nI20, nI40, sp203, sp171, kwi2, h2, e0, hk, w0, w1, w2]
  · rw [h0, if_pos rfl]
    simp (disch := omega) only [B220_0, B220_10, B220_13, B220_19, B220_22, B220_24, B220_28, B220_34, B220_37, B220_42, B220_54, B220_60, kO_s, kcond_t, kpush_s, kpush_n, nI_add, nI_add1, pk_mul, n_0, n_2, n_3, n_4, n_5, if_true, if_false, Nat.add_zero, krecv_m ks185, kg12_0, kp12_0, kg12_1, kg12_2, kp12_2, kg12_3, kp12_3, kg12_4, kg12_5, kg12_6, kg12_7, kp12_7, kg12_8, kp12_8, kg12_9, kg12_10, kg12_11, kg12_12, kg12_13, kp12_13, kg12_14, kg12_15, kg12_16, kg12_17, kg12_18, kp12_18, kg12_19, kp12_19, kg12_20, kg12_21, kg12_22, kg12_23, kg12_24, kp12_24, kg12_25, kg12_26, kg12_27, kg12_28, kp12_28, kg12_29, kg12_30, kg12_31, kg12_32, kp12_32, kg12_33, kp12_33, ka186, kw186, ka187, kw187, ka188, kw188, kj189, kk189, kj190, kk190, ka191, kw191, ka192, kw192, ka193, kw193, kj194, kk194, kj195, kk195, ka196, kw196, ka197, kw197, ka198, kw198, ka199, kw199, ka200, kw200, ka201, kw201, kb202, kv202, ka203, kw203, ka204, kw204, ka205, kw205, ka206, kw206, ka207, kw207, kj208, kk208, c8_m17, c8_m16, c8_m15, c8_m14, c8_m13, c8_m12, c8_m11, c8_m10, c8_m2, c8_6, c8_7, c8_8, c8_9, c8_10, c8_11, c8_12, c8_13, c8_14, c8_15, c8_16, c8_17, c8_18, c8_19, c8_20, c8_21, c8_22, c8_23, c8_25, c8_30, c8_31, c8_32, c8_39, c8_40, c8_41, c8_42, c8_43, c8_45, c8_48, c8_55, c8_56, c8_57, c8_59, c8_60, c8_61, c8_63, c8_70, c8_90, c8_91, c8_92, c8_93, c8_94, c8_96, c8_97, c8_99, c8_115, c8_122, c8_125, c8_126, c8_127, c16_128, c16_129, c16_131, c16_132, c16_135, c16_136, c16_137, c16_138, c16_139, c16_142, c16_143, c16_144, c16_145, c16_146, c16_149, c16_180, c16_250, c16_255, c16_1000, c16_1002, c16_1100, c16_1155, c16_1157, c16_1164, c16_1178, c16_1210, c16_1212, c16_1219, c16_1233, c16_1265, c16_2200, c16_4095, c16_4096, c16_9999, c16_12345, one0, m1_lt0, nI20, nI40, sp203, e0, h0]
/-- trial -/
theorem sp108 (h : cB I rf r s) (x y : Int32) : ∃ I', cQ I I' ∧ ∀ d R, kX xs (d + 7) 108 0 [some (.ref 0), some (.int x), some (.int y)] [] (kmm I J rf g) R = R (some (.int (aTrial r s x y))) (kmm I' J rf g) := by
  have ht := h.t
  have hc7 := h.vr.c
  have e0 := h.rl.nc
  unfold aTrial
  rcases kidx_c x (show r.nc < 2147483648 by omega) with ⟨c, hc, rfl⟩ | h0
  · have hk := kidx_in hc (show r.nc < 2147483648 by omega)
    have e1 := h.rl.gu c (by omega)
    have e2 := h.st.up c (by omega)
    have e3 := h.st.hd c (by omega)
    by_cases w0 : y = nI 0
    · subst w0
      refine ⟨I, cQ.refl I, fun d R => ?_⟩
      rw [hk, if_neg (by decide), nI_clamp (by omega)]
      simp (disch := omega) only [B108_0, B108_8, B108_11, B108_14, B108_44, B108_54, B108_64, B108_74, B108_79, B108_80, kO_s, kcond_t, kpush_s, kpush_n, nI_add, nI_add1, pk_mul, n_0, n_2, n_3, n_4, n_5, if_true, if_false, Nat.add_zero, krecv_m ks0, krecv_m ks54, kg1_0, kg2_0, kp2_0, kg2_1, kg2_2, kp2_2, kg2_3, kp2_3, kg2_4, kp2_4, kg2_5, kp2_5, kg2_6, kp2_6, kg2_7, kp2_7, kg3_0, kp3_0, kg3_1, kp3_1, kg3_2, kg4_0, kg4_1, kg5_0, kg5_1, kg5_2, kp5_2, kg5_3, kp5_3, kg5_4, kp5_4, kg5_5, kp5_5, kg8_0, kp8_0, kg8_1, kg8_2, kg8_3, kg8_4, kg8_5, kg8_6, kg8_7, kg11_0, kg11_1, kg11_2, kg11_3, kg11_4, kg11_5, kg11_6, kg11_7, kg11_8, kg11_9, kg11_10, kg11_11, kg11_12, kg11_13, kg11_14, kg11_15, kg11_16, kp11_16, kb2, kv2, ka55, kw55, ka56, kw56, ka57, kw57, ka58, kw58, kb59, kv59, ka60, kw60, ka61, kw61, ka63, kw63, ka64, kw64, kr66, kr150, kr151, kb152, kv152, c8_m17, c8_m16, c8_m15, c8_m14, c8_m13, c8_m12, c8_m11, c8_m10, c8_m2, c8_6, c8_7, c8_8, c8_9, c8_10, c8_11, c8_12, c8_13, c8_14, c8_15, c8_16, c8_17, c8_18, c8_19, c8_20, c8_21, c8_22, c8_23, c8_25, c8_30, c8_31, c8_32, c8_39, c8_40, c8_41, c8_42, c8_43, c8_45, c8_48, c8_55, c8_56, c8_57, c8_59, c8_60, c8_61, c8_63, c8_70, c8_90, c8_91, c8_92, c8_93, c8_94, c8_96, c8_97, c8_99, c8_115, c8_122, c8_125, c8_126, c8_127, c16_128, c16_129, c16_131, c16_132, c16_135, c16_136, c16_137, c16_138, c16_139, c16_142, c16_143, c16_144, c16_145, c16_146, c16_149, c16_180, c16_250, c16_255, c16_1000, c16_1002, c16_1100, c16_1155, c16_1157, c16_1164, c16_1178, c16_1210, c16_1212, c16_1219, c16_1233, c16_1265, c16_2200, c16_4095, c16_4096, c16_9999, c16_12345, krecv_m ht, sp51 ht, sp52 ht, kg6_0 ht, kg6_1 ht, kg6_2 ht, kg6_3 ht, kg6_4 ht, kg6_5 ht, kg6_6 ht, kg6_7 ht, kj6_1 ht, kj6_2 ht, ka6_3 ht, ka6_4 ht, krecv_m ks39, kg9_0 ks39, kp9_0 ks39, kg9_1 ks39, kp9_1 ks39, kg9_2 ks39, kg9_3 ks39, kg9_4 ks39, kg9_5 ks39, ka9_1 ks39, kw9_1 ks39, ka9_2 ks39, kw9_2 ks39, ka9_3 ks39, kw9_3 ks39, ka9_4 ks39, kw9_4 ks39, one0, m1_lt0, nI20, nI40, e0, hk, e1]
    · by_cases w1 : y = 1
      · subst w1
        refine ⟨I, cQ.refl I, fun d R => ?_⟩
        rw [hk, if_neg (by decide), nI_clamp (by omega)]
        simp (disch := omega) only [B108_0, B108_8, B108_11, B108_14, B108_44, B108_54, B108_64, B108_74, B108_79, B108_80, kO_s, kcond_t, kpush_s, kpush_n, nI_add, nI_add1, pk_mul, n_0, n_2, n_3, n_4, n_5, if_true, if_false, Nat.add_zero, krecv_m ks0, krecv_m ks54, kg1_0, kg2_0, kp2_0, kg2_1, kg2_2, kp2_2, kg2_3, kp2_3, kg2_4, kp2_4, kg2_5, kp2_5, kg2_6, kp2_6, kg2_7, kp2_7, kg3_0, kp3_0, kg3_1, kp3_1, kg3_2, kg4_0, kg4_1, kg5_0, kg5_1, kg5_2, kp5_2, kg5_3, kp5_3, kg5_4, kp5_4, kg5_5, kp5_5, kg8_0, kp8_0, kg8_1, kg8_2, kg8_3, kg8_4, kg8_5, kg8_6, kg8_7, kg11_0, kg11_1, kg11_2, kg11_3, kg11_4, kg11_5, kg11_6, kg11_7, kg11_8, kg11_9, kg11_10, kg11_11, kg11_12, kg11_13, kg11_14, kg11_15, kg11_16, kp11_16, kb2, kv2, ka55, kw55, ka56, kw56, ka57, kw57, ka58, kw58, kb59, kv59, ka60, kw60, ka61, kw61, ka63, kw63, ka64, kw64, kr66, kr150, kr151, kb152, kv152, c8_m17, c8_m16, c8_m15, c8_m14, c8_m13, c8_m12, c8_m11, c8_m10, c8_m2, c8_6, c8_7, c8_8, c8_9, c8_10, c8_11, c8_12, c8_13, c8_14, c8_15, c8_16, c8_17, c8_18, c8_19, c8_20, c8_21, c8_22, c8_23, c8_25, c8_30, c8_31, c8_32, c8_39, c8_40, c8_41, c8_42, c8_43, c8_45, c8_48, c8_55, c8_56, c8_57, c8_59, c8_60, c8_61, c8_63, c8_70, c8_90, c8_91, c8_92, c8_93, c8_94, c8_96, c8_97, c8_99, c8_115, c8_122, c8_125, c8_126, c8_127, c16_128, c16_129, c16_131, c16_132, c16_135, c16_136, c16_137, c16_138, c16_139, c16_142, c16_143, c16_144, c16_145, c16_146, c16_149, c16_180, c16_250, c16_255, c16_1000, c16_1002, c16_1100, c16_1155, c16_1157, c16_1164, c16_1178, c16_1210, c16_1212, c16_1219, c16_1233, c16_1265, c16_2200, c16_4095, c16_4096, c16_9999, c16_12345, krecv_m ht, sp51 ht, sp52 ht, kg6_0 ht, kg6_1 ht, kg6_2 ht, kg6_3 ht, kg6_4 ht, kg6_5 ht, kg6_6 ht, kg6_7 ht, kj6_1 ht, kj6_2 ht, ka6_3 ht, ka6_4 ht, krecv_m ks39, kg9_0 ks39, kp9_0 ks39, kg9_1 ks39, kp9_1 ks39, kg9_2 ks39, kg9_3 ks39, kg9_4 ks39, kg9_5 ks39, ka9_1 ks39, kw9_1 ks39, ka9_2 ks39, kw9_2 ks39, ka9_3 ks39, kw9_3 ks39, ka9_4 ks39, kw9_4 ks39, one0, m1_lt0, nI20, nI40, e0, hk, e2]
      · by_cases w2 : y = nI 2
        · subst w2
          refine ⟨I, cQ.refl I, fun d R => ?_⟩
          rw [hk, if_neg (by decide), nI_clamp (by omega)]
          simp (disch := omega) only [B108_0, B108_8, B108_11, B108_14, B108_44, B108_54, B108_64, B108_74, B108_79, B108_80, kO_s, kcond_t, kpush_s, kpush_n, nI_add, nI_add1, pk_mul, n_0, n_2, n_3, n_4, n_5, if_true, if_false, Nat.add_zero, krecv_m ks0, krecv_m ks54, kg1_0, kg2_0, kp2_0, kg2_1, kg2_2, kp2_2, kg2_3, kp2_3, kg2_4, kp2_4, kg2_5, kp2_5, kg2_6, kp2_6, kg2_7, kp2_7, kg3_0, kp3_0, kg3_1, kp3_1, kg3_2, kg4_0, kg4_1, kg5_0, kg5_1, kg5_2, kp5_2, kg5_3, kp5_3, kg5_4, kp5_4, kg5_5, kp5_5, kg8_0, kp8_0, kg8_1, kg8_2, kg8_3, kg8_4, kg8_5, kg8_6, kg8_7, kg11_0, kg11_1, kg11_2, kg11_3, kg11_4, kg11_5, kg11_6, kg11_7, kg11_8, kg11_9, kg11_10, kg11_11, kg11_12, kg11_13, kg11_14, kg11_15, kg11_16, kp11_16, kb2, kv2, ka55, kw55, ka56, kw56, ka57, kw57, ka58, kw58, kb59, kv59, ka60, kw60, ka61, kw61, ka63, kw63, ka64, kw64, kr66, kr150, kr151, kb152, kv152, c8_m17, c8_m16, c8_m15, c8_m14, c8_m13, c8_m12, c8_m11, c8_m10, c8_m2, c8_6, c8_7, c8_8, c8_9, c8_10, c8_11, c8_12, c8_13, c8_14, c8_15, c8_16, c8_17, c8_18, c8_19, c8_20, c8_21, c8_22, c8_23, c8_25, c8_30, c8_31, c8_32, c8_39, c8_40, c8_41, c8_42, c8_43, c8_45, c8_48, c8_55, c8_56, c8_57, c8_59, c8_60, c8_61, c8_63, c8_70, c8_90, c8_91, c8_92, c8_93, c8_94, c8_96, c8_97, c8_99, c8_115, c8_122, c8_125, c8_126, c8_127, c16_128, c16_129, c16_131, c16_132, c16_135, c16_136, c16_137, c16_138, c16_139, c16_142, c16_143, c16_144, c16_145, c16_146, c16_149, c16_180, c16_250, c16_255, c16_1000, c16_1002, c16_1100, c16_1155, c16_1157, c16_1164, c16_1178, c16_1210, c16_1212, c16_1219, c16_1233, c16_1265, c16_2200, c16_4095, c16_4096, c16_9999, c16_12345, krecv_m ht, sp51 ht, sp52 ht, kg6_0 ht, kg6_1 ht, kg6_2 ht, kg6_3 ht, kg6_4 ht, kg6_5 ht, kg6_6 ht, kg6_7 ht, kj6_1 ht, kj6_2 ht, ka6_3 ht, ka6_4 ht, krecv_m ks39, kg9_0 ks39, kp9_0 ks39, kg9_1 ks39, kp9_1 ks39, kg9_2 ks39, kg9_3 ks39, kg9_4 ks39, kg9_5 ks39, ka9_1 ks39, kw9_1 ks39, ka9_2 ks39, kw9_2 ks39, ka9_3 ks39, kw9_3 ks39, ka9_4 ks39, kw9_4 ks39, one0, m1_lt0, nI20, nI40, n21, e0, hk, e3]
        · by_cases w3 : y = nI 3
          · subst w3
            obtain ⟨I', q1, q2⟩ := sp120 (xs := xs) (J := J) (g := g) h (nI c)
            refine ⟨I', q1, fun d R => ?_⟩
            rw [hk, if_neg (by decide), nI_clamp (by omega)]
            simp (disch := omega) only [B108_0, B108_8, B108_11, B108_14, B108_44, B108_54, B108_64, B108_74, B108_79, B108_80, kO_s, kcond_t, kpush_s, kpush_n, nI_add, nI_add1, pk_mul, n_0, n_2, n_3, n_4, n_5, if_true, if_false, Nat.add_zero, krecv_m ks0, krecv_m ks54, kg1_0, kg2_0, kp2_0, kg2_1, kg2_2, kp2_2, kg2_3, kp2_3, kg2_4, kp2_4, kg2_5, kp2_5, kg2_6, kp2_6, kg2_7, kp2_7, kg3_0, kp3_0, kg3_1, kp3_1, kg3_2, kg4_0, kg4_1, kg5_0, kg5_1, kg5_2, kp5_2, kg5_3, kp5_3, kg5_4, kp5_4, kg5_5, kp5_5, kg8_0, kp8_0, kg8_1, kg8_2, kg8_3, kg8_4, kg8_5, kg8_6, kg8_7, kg11_0, kg11_1, kg11_2, kg11_3, kg11_4, kg11_5, kg11_6, kg11_7, kg11_8, kg11_9, kg11_10, kg11_11, kg11_12, kg11_13, kg11_14, kg11_15, kg11_16, kp11_16, kb2, kv2, ka55, kw55, ka56, kw56, ka57, kw57, ka58, kw58, kb59, kv59, ka60, kw60, ka61, kw61, ka63, kw63, ka64, kw64, kr66, kr150, kr151, kb152, kv152, c8_m17, c8_m16, c8_m15, c8_m14, c8_m13, c8_m12, c8_m11, c8_m10, c8_m2, c8_6, c8_7, c8_8, c8_9, c8_10, c8_11, c8_12, c8_13, c8_14, c8_15, c8_16, c8_17, c8_18, c8_19, c8_20, c8_21, c8_22, c8_23, c8_25, c8_30, c8_31, c8_32, c8_39, c8_40, c8_41, c8_42, c8_43, c8_45, c8_48, c8_55, c8_56, c8_57, c8_59, c8_60, c8_61, c8_63, c8_70, c8_90, c8_91, c8_92, c8_93, c8_94, c8_96, c8_97, c8_99, c8_115, c8_122, c8_125, c8_126, c8_127, c16_128, c16_129, c16_131, c16_132, c16_135, c16_136, c16_137, c16_138, c16_139, c16_142, c16_143, c16_144, c16_145, c16_146, c16_149, c16_180, c16_250, c16_255, c16_1000, c16_1002, c16_1100, c16_1155, c16_1157, c16_1164, c16_1178, c16_1210, c16_1212, c16_1219, c16_1233, c16_1265, c16_2200, c16_4095, c16_4096, c16_9999, c16_12345, krecv_m ht, sp51 ht, sp52 ht, kg6_0 ht, kg6_1 ht, kg6_2 ht, kg6_3 ht, kg6_4 ht, kg6_5 ht, kg6_6 ht, kg6_7 ht, kj6_1 ht, kj6_2 ht, ka6_3 ht, ka6_4 ht, krecv_m ks39, kg9_0 ks39, kp9_0 ks39, kg9_1 ks39, kp9_1 ks39, kg9_2 ks39, kg9_3 ks39, kg9_4 ks39, kg9_5 ks39, ka9_1 ks39, kw9_1 ks39, ka9_2 ks39, kw9_2 ks39, ka9_3 ks39, kw9_3 ks39, ka9_4 ks39, kw9_4 ks39, one0, m1_lt0, nI20, nI40, n30, n31, n32, e0, hk, q2]
          · refine ⟨I, cQ.refl I, fun d R => ?_⟩
            rw [hk, if_neg (by decide), nI_clamp (by omega)]
            simp (disch := omega) only [B108_0, B108_8, B108_11, B108_14, B108_44, B108_54, B108_64, B108_74, B108_79, B108_80, kO_s, kcond_t, kpush_s, kpush_n, nI_add, nI_add1, pk_mul, n_0, n_2, n_3, n_4, n_5, if_true, if_false, Nat.add_zero, krecv_m ks0, krecv_m ks54, kg1_0, kg2_0, kp2_0, kg2_1, kg2_2, kp2_2, kg2_3, kp2_3, kg2_4, kp2_4, kg2_5, kp2_5, kg2_6, kp2_6, kg2_7, kp2_7, kg3_0, kp3_0, kg3_1, kp3_1, kg3_2, kg4_0, kg4_1, kg5_0, kg5_1, kg5_2, kp5_2, kg5_3, kp5_3, kg5_4, kp5_4, kg5_5, kp5_5, kg8_0, kp8_0, kg8_1, kg8_2, kg8_3, kg8_4, kg8_5, kg8_6, kg8_7, kg11_0, kg11_1, kg11_2, kg11_3, kg11_4, kg11_5, kg11_6, kg11_7, kg11_8, kg11_9, kg11_10, kg11_11, kg11_12, kg11_13, kg11_14, kg11_15, kg11_16, kp11_16, kb2, kv2, ka55, kw55, ka56, kw56, ka57, kw57, ka58, kw58, kb59, kv59, ka60, kw60, ka61, kw61, ka63, kw63, ka64, kw64, kr66, kr150, kr151, kb152, kv152, c8_m17, c8_m16, c8_m15, c8_m14, c8_m13, c8_m12, c8_m11, c8_m10, c8_m2, c8_6, c8_7, c8_8, c8_9, c8_10, c8_11, c8_12, c8_13, c8_14, c8_15, c8_16, c8_17, c8_18, c8_19, c8_20, c8_21, c8_22, c8_23, c8_25, c8_30, c8_31, c8_32, c8_39, c8_40, c8_41, c8_42, c8_43, c8_45, c8_48, c8_55, c8_56, c8_57, c8_59, c8_60, c8_61, c8_63, c8_70, c8_90, c8_91, c8_92, c8_93, c8_94, c8_96, c8_97, c8_99, c8_115, c8_122, c8_125, c8_126, c8_127, c16_128, c16_129, c16_131, c16_132, c16_135, c16_136, c16_137, c16_138, c16_139, c16_142, c16_143, c16_144, c16_145, c16_146, c16_149, c16_180, c16_250, c16_255, c16_1000, c16_1002, c16_1100, c16_1155, c16_1157, c16_1164, c16_1178, c16_1210, c16_1212, c16_1219, c16_1233, c16_1265, c16_2200, c16_4095, c16_4096, c16_9999, c16_12345, krecv_m ht, sp51 ht, sp52 ht, kg6_0 ht, kg6_1 ht, kg6_2 ht, kg6_3 ht, kg6_4 ht, kg6_5 ht, kg6_6 ht, kg6_7 ht, kj6_1 ht, kj6_2 ht, ka6_3 ht, ka6_4 ht, one0, m1_lt0, nI20, nI40, e0, hk, w0, w1, w2, w3]
  · refine ⟨I, cQ.refl I, fun d R => ?_⟩
    rw [h0, if_pos rfl]
    simp (disch := omega) only [B108_0, B108_8, B108_11, B108_14, B108_44, B108_54, B108_64, B108_74, B108_79, B108_80, kO_s, kcond_t, kpush_s, kpush_n, nI_add, nI_add1, pk_mul, n_0, n_2, n_3, n_4, n_5, if_true, if_false, Nat.add_zero, krecv_m ks0, krecv_m ks54, kg1_0, kg2_0, kp2_0, kg2_1, kg2_2, kp2_2, kg2_3, kp2_3, kg2_4, kp2_4, kg2_5, kp2_5, kg2_6, kp2_6, kg2_7, kp2_7, kg3_0, kp3_0, kg3_1, kp3_1, kg3_2, kg4_0, kg4_1, kg5_0, kg5_1, kg5_2, kp5_2, kg5_3, kp5_3, kg5_4, kp5_4, kg5_5, kp5_5, kg8_0, kp8_0, kg8_1, kg8_2, kg8_3, kg8_4, kg8_5, kg8_6, kg8_7, kg11_0, kg11_1, kg11_2, kg11_3, kg11_4, kg11_5, kg11_6, kg11_7, kg11_8, kg11_9, kg11_10, kg11_11, kg11_12, kg11_13, kg11_14, kg11_15, kg11_16, kp11_16, kb2, kv2, ka55, kw55, ka56, kw56, ka57, kw57, ka58, kw58, kb59, kv59, ka60, kw60, ka61, kw61, ka63, kw63, ka64, kw64, kr66, kr150, kr151, kb152, kv152, c8_m17, c8_m16, c8_m15, c8_m14, c8_m13, c8_m12, c8_m11, c8_m10, c8_m2, c8_6, c8_7, c8_8, c8_9, c8_10, c8_11, c8_12, c8_13, c8_14, c8_15, c8_16, c8_17, c8_18, c8_19, c8_20, c8_21, c8_22, c8_23, c8_25, c8_30, c8_31, c8_32, c8_39, c8_40, c8_41, c8_42, c8_43, c8_45, c8_48, c8_55, c8_56, c8_57, c8_59, c8_60, c8_61, c8_63, c8_70, c8_90, c8_91, c8_92, c8_93, c8_94, c8_96, c8_97, c8_99, c8_115, c8_122, c8_125, c8_126, c8_127, c16_128, c16_129, c16_131, c16_132, c16_135, c16_136, c16_137, c16_138, c16_139, c16_142, c16_143, c16_144, c16_145, c16_146, c16_149, c16_180, c16_250, c16_255, c16_1000, c16_1002, c16_1100, c16_1155, c16_1157, c16_1164, c16_1178, c16_1210, c16_1212, c16_1219, c16_1233, c16_1265, c16_2200, c16_4095, c16_4096, c16_9999, c16_12345, krecv_m ht, sp51 ht, sp52 ht, kg6_0 ht, kg6_1 ht, kg6_2 ht, kg6_3 ht, kg6_4 ht, kg6_5 ht, kg6_6 ht, kg6_7 ht, kj6_1 ht, kj6_2 ht, ka6_3 ht, ka6_4 ht, one0, m1_lt0, nI20, nI40, e0, h0]
theorem sp221 (h : mB I r s) (x y : Int32) : ∃ I', mQ I I' ∧ ∀ d R, kX xs (d + 7) 221 0 [some (.ref 185), some (.int x), some (.int y)] [] (kmm I J rf g) R = R (some (.int (aTrial r s x y))) (kmm I' J rf g) := by
  have hq := mQ.thr I (nI 0)
  have h' := h.keep hq
  have hc7 := h.vr.c
  have e0 := h'.rl.nc
  unfold aTrial
  rcases kidx_c x (show r.nc < 2147483648 by omega) with ⟨c, hc, rfl⟩ | h0
  · have hk := kidx_in hc (show r.nc < 2147483648 by omega)
    have e1 := h'.rl.gu c hc
    have e2 := h'.st.up c hc
    rw [show 0 + 23 + c = 23 + c by omega] at e2
    have e3 := h'.st.hd c (by omega)
    rw [show 0 + 2 + c = 2 + c by omega] at e3
    rcases kidx_c y (show 4 < 2147483648 by omega) with ⟨k, hk4, rfl⟩ | h2
    · have hk2 := kidx_in hk4 (show 4 < 2147483648 by omega)
      rcases (by omega : k = 0 ∨ k = 1 ∨ k = 2 ∨ k = 3) with rfl | rfl | rfl | rfl
      · refine ⟨_, hq, fun d R => ?_⟩
        rw [hk, if_neg (by decide), nI_clamp (by omega)]
        simp (disch := omega) only [B221_0, B221_10, B221_13, B221_19, B221_22, B221_25, B221_29, B221_35, B221_38, B221_43, B221_55, B221_60, B221_71, B221_76, kO_s, kcond_t, kpush_s, kpush_n, nI_add, nI_add1, pk_mul, n_0, n_2, n_3, n_4, n_5, if_true, if_false, Nat.add_zero, krecv_m ks185, kg12_0, kp12_0, kg12_1, kg12_2, kp12_2, kg12_3, kp12_3, kg12_4, kg12_5, kg12_6, kg12_7, kp12_7, kg12_8, kp12_8, kg12_9, kg12_10, kg12_11, kg12_12, kg12_13, kp12_13, kg12_14, kg12_15, kg12_16, kg12_17, kg12_18, kp12_18, kg12_19, kp12_19, kg12_20, kg12_21, kg12_22, kg12_23, kg12_24, kp12_24, kg12_25, kg12_26, kg12_27, kg12_28, kp12_28, kg12_29, kg12_30, kg12_31, kg12_32, kp12_32, kg12_33, kp12_33, ka186, kw186, ka187, kw187, ka188, kw188, kj189, kk189, kj190, kk190, ka191, kw191, ka192, kw192, ka193, kw193, kj194, kk194, kj195, kk195, ka196, kw196, ka197, kw197, ka198, kw198, ka199, kw199, ka200, kw200, ka201, kw201, kb202, kv202, ka203, kw203, ka204, kw204, ka205, kw205, ka206, kw206, ka207, kw207, kj208, kk208, c8_m17, c8_m16, c8_m15, c8_m14, c8_m13, c8_m12, c8_m11, c8_m10, c8_m2, c8_6, c8_7, c8_8, c8_9, c8_10, c8_11, c8_12, c8_13, c8_14, c8_15, c8_16, c8_17, c8_18, c8_19, c8_20, c8_21, c8_22, c8_23, c8_25, c8_30, c8_31, c8_32, c8_39, c8_40, c8_41, c8_42, c8_43, c8_45, c8_48, c8_55, c8_56, c8_57, c8_59, c8_60, c8_61, c8_63, c8_70, c8_90, c8_91, c8_92, c8_93, c8_94, c8_96, c8_97, c8_99, c8_115, c8_122, c8_125, c8_126, c8_127, c16_128, c16_129, c16_131, c16_132, c16_135, c16_136, c16_137, c16_138, c16_139, c16_142, c16_143, c16_144, c16_145, c16_146, c16_149, c16_180, c16_250, c16_255, c16_1000, c16_1002, c16_1100, c16_1155, c16_1157, c16_1164, c16_1178, c16_1210, c16_1212, c16_1219, c16_1233, c16_1265, c16_2200, c16_4095, c16_4096, c16_9999, c16_12345, one0, m1_lt0, nI20, nI40, sp204, sp171, kwi3, hk2, e0, hk, sp202, e1]
      · refine ⟨_, hq, fun d R => ?_⟩
        rw [hk, if_neg (by decide), nI_clamp (by omega)]
        rw [show nI 1 = 1 from rfl] at hk2 ⊢
        simp (disch := omega) only [B221_0, B221_10, B221_13, B221_19, B221_22, B221_25, B221_29, B221_35, B221_38, B221_43, B221_55, B221_60, B221_71, B221_76, kO_s, kcond_t, kpush_s, kpush_n, nI_add, nI_add1, pk_mul, n_0, n_2, n_3, n_4, n_5, if_true, if_false, Nat.add_zero, krecv_m ks185, kg12_0, kp12_0, kg12_1, kg12_2, kp12_2, kg12_3, kp12_3, kg12_4, kg12_5, kg12_6, kg12_7, kp12_7, kg12_8, kp12_8, kg12_9, kg12_10, kg12_11, kg12_12, kg12_13, kp12_13, kg12_14, kg12_15, kg12_16, kg12_17, kg12_18, kp12_18, kg12_19, kp12_19, kg12_20, kg12_21, kg12_22, kg12_23, kg12_24, kp12_24, kg12_25, kg12_26, kg12_27, kg12_28, kp12_28, kg12_29, kg12_30, kg12_31, kg12_32, kp12_32, kg12_33, kp12_33, ka186, kw186, ka187, kw187, ka188, kw188, kj189, kk189, kj190, kk190, ka191, kw191, ka192, kw192, ka193, kw193, kj194, kk194, kj195, kk195, ka196, kw196, ka197, kw197, ka198, kw198, ka199, kw199, ka200, kw200, ka201, kw201, kb202, kv202, ka203, kw203, ka204, kw204, ka205, kw205, ka206, kw206, ka207, kw207, kj208, kk208, c8_m17, c8_m16, c8_m15, c8_m14, c8_m13, c8_m12, c8_m11, c8_m10, c8_m2, c8_6, c8_7, c8_8, c8_9, c8_10, c8_11, c8_12, c8_13, c8_14, c8_15, c8_16, c8_17, c8_18, c8_19, c8_20, c8_21, c8_22, c8_23, c8_25, c8_30, c8_31, c8_32, c8_39, c8_40, c8_41, c8_42, c8_43, c8_45, c8_48, c8_55, c8_56, c8_57, c8_59, c8_60, c8_61, c8_63, c8_70, c8_90, c8_91, c8_92, c8_93, c8_94, c8_96, c8_97, c8_99, c8_115, c8_122, c8_125, c8_126, c8_127, c16_128, c16_129, c16_131, c16_132, c16_135, c16_136, c16_137, c16_138, c16_139, c16_142, c16_143, c16_144, c16_145, c16_146, c16_149, c16_180, c16_250, c16_255, c16_1000, c16_1002, c16_1100, c16_1155, c16_1157, c16_1164, c16_1178, c16_1210, c16_1212, c16_1219, c16_1233, c16_1265, c16_2200, c16_4095, c16_4096, c16_9999, c16_12345, one0, m1_lt0, nI20, nI40, sp204, sp171, kwi3, hk2, e0, hk, e2]
      · refine ⟨_, hq, fun d R => ?_⟩
        rw [hk, if_neg (by decide), nI_clamp (by omega)]
        simp (disch := omega) only [B221_0, B221_10, B221_13, B221_19, B221_22, B221_25, B221_29, B221_35, B221_38, B221_43, B221_55, B221_60, B221_71, B221_76, kO_s, kcond_t, kpush_s, kpush_n, nI_add, nI_add1, pk_mul, n_0, n_2, n_3, n_4, n_5, if_true, if_false, Nat.add_zero, krecv_m ks185, kg12_0, kp12_0, kg12_1, kg12_2, kp12_2, kg12_3, kp12_3, kg12_4, kg12_5, kg12_6, kg12_7, kp12_7, kg12_8, kp12_8, kg12_9, kg12_10, kg12_11, kg12_12, kg12_13, kp12_13, kg12_14, kg12_15, kg12_16, kg12_17, kg12_18, kp12_18, kg12_19, kp12_19, kg12_20, kg12_21, kg12_22, kg12_23, kg12_24, kp12_24, kg12_25, kg12_26, kg12_27, kg12_28, kp12_28, kg12_29, kg12_30, kg12_31, kg12_32, kp12_32, kg12_33, kp12_33, ka186, kw186, ka187, kw187, ka188, kw188, kj189, kk189, kj190, kk190, ka191, kw191, ka192, kw192, ka193, kw193, kj194, kk194, kj195, kk195, ka196, kw196, ka197, kw197, ka198, kw198, ka199, kw199, ka200, kw200, ka201, kw201, kb202, kv202, ka203, kw203, ka204, kw204, ka205, kw205, ka206, kw206, ka207, kw207, kj208, kk208, c8_m17, c8_m16, c8_m15, c8_m14, c8_m13, c8_m12, c8_m11, c8_m10, c8_m2, c8_6, c8_7, c8_8, c8_9, c8_10, c8_11, c8_12, c8_13, c8_14, c8_15, c8_16, c8_17, c8_18, c8_19, c8_20, c8_21, c8_22, c8_23, c8_25, c8_30, c8_31, c8_32, c8_39, c8_40, c8_41, c8_42, c8_43, c8_45, c8_48, c8_55, c8_56, c8_57, c8_59, c8_60, c8_61, c8_63, c8_70, c8_90, c8_91, c8_92, c8_93, c8_94, c8_96, c8_97, c8_99, c8_115, c8_122, c8_125, c8_126, c8_127, c16_128, c16_129, c16_131, c16_132, c16_135, c16_136, c16_137, c16_138, c16_139, c16_142, c16_143, c16_144, c16_145, c16_146, c16_149, c16_180, c16_250, c16_255, c16_1000, c16_1002, c16_1100, c16_1155, c16_1157, c16_1164, c16_1178, c16_1210, c16_1212, c16_1219, c16_1233, c16_1265, c16_2200, c16_4095, c16_4096, c16_9999, c16_12345, one0, m1_lt0, nI20, nI40, n21, sp204, sp171, kwi3, hk2, e0, hk, e3]
      · obtain ⟨I2, a1, a2, a3, a4, a5⟩ := sp219 (xs := xs) (J := J) (rf := rf) (g := g) h' hc
        refine ⟨I2, hq.trans a4, fun d R => ?_⟩
        have e5 : aGets r s (nI c) = gtN r (nxt r s (s.up c)) c := by
          unfold aGets
          rw [ans_in2 (B := fun c => gtN r (nxt r s (s.up c)) c) hc (by omega)]
        rw [hk, if_neg (by decide), nI_clamp (by omega), e5]
        simp (disch := omega) only [B221_0, B221_10, B221_13, B221_19, B221_22, B221_25, B221_29, B221_35, B221_38, B221_43, B221_55, B221_60, B221_71, B221_76, kO_s, kcond_t, kpush_s, kpush_n, nI_add, nI_add1, pk_mul, n_0, n_2, n_3, n_4, n_5, if_true, if_false, Nat.add_zero, krecv_m ks185, kg12_0, kp12_0, kg12_1, kg12_2, kp12_2, kg12_3, kp12_3, kg12_4, kg12_5, kg12_6, kg12_7, kp12_7, kg12_8, kp12_8, kg12_9, kg12_10, kg12_11, kg12_12, kg12_13, kp12_13, kg12_14, kg12_15, kg12_16, kg12_17, kg12_18, kp12_18, kg12_19, kp12_19, kg12_20, kg12_21, kg12_22, kg12_23, kg12_24, kp12_24, kg12_25, kg12_26, kg12_27, kg12_28, kp12_28, kg12_29, kg12_30, kg12_31, kg12_32, kp12_32, kg12_33, kp12_33, ka186, kw186, ka187, kw187, ka188, kw188, kj189, kk189, kj190, kk190, ka191, kw191, ka192, kw192, ka193, kw193, kj194, kk194, kj195, kk195, ka196, kw196, ka197, kw197, ka198, kw198, ka199, kw199, ka200, kw200, ka201, kw201, kb202, kv202, ka203, kw203, ka204, kw204, ka205, kw205, ka206, kw206, ka207, kw207, kj208, kk208, c8_m17, c8_m16, c8_m15, c8_m14, c8_m13, c8_m12, c8_m11, c8_m10, c8_m2, c8_6, c8_7, c8_8, c8_9, c8_10, c8_11, c8_12, c8_13, c8_14, c8_15, c8_16, c8_17, c8_18, c8_19, c8_20, c8_21, c8_22, c8_23, c8_25, c8_30, c8_31, c8_32, c8_39, c8_40, c8_41, c8_42, c8_43, c8_45, c8_48, c8_55, c8_56, c8_57, c8_59, c8_60, c8_61, c8_63, c8_70, c8_90, c8_91, c8_92, c8_93, c8_94, c8_96, c8_97, c8_99, c8_115, c8_122, c8_125, c8_126, c8_127, c16_128, c16_129, c16_131, c16_132, c16_135, c16_136, c16_137, c16_138, c16_139, c16_142, c16_143, c16_144, c16_145, c16_146, c16_149, c16_180, c16_250, c16_255, c16_1000, c16_1002, c16_1100, c16_1155, c16_1157, c16_1164, c16_1178, c16_1210, c16_1212, c16_1219, c16_1233, c16_1265, c16_2200, c16_4095, c16_4096, c16_9999, c16_12345, one0, m1_lt0, nI20, nI40, n30, n31, n32, sp204, sp171, kwi3, hk2, e0, hk, a5]
    · obtain ⟨w0, w1, w2, w3⟩ := kidx4_out h2
      refine ⟨_, hq, fun d R => ?_⟩
      rw [hk, if_neg (by decide), nI_clamp (by omega)]
      simp (disch := omega) only [B221_0, B221_10, B221_13, B221_19, B221_22, B221_25, B221_29, B221_35, B221_38, B221_43, B221_55, B221_60, B221_71, B221_76, kO_s, kcond_t, kpush_s, kpush_n, nI_add, nI_add1, pk_mul, n_0, n_2, n_3, n_4, n_5, if_true, if_false, Nat.add_zero, krecv_m ks185, kg12_0, kp12_0, kg12_1, kg12_2, kp12_2, kg12_3, kp12_3, kg12_4, kg12_5, kg12_6, kg12_7, kp12_7, kg12_8, kp12_8, kg12_9, kg12_10, kg12_11, kg12_12, kg12_13, kp12_13, kg12_14, kg12_15, kg12_16, kg12_17, kg12_18, kp12_18, kg12_19, kp12_19, kg12_20, kg12_21, kg12_22, kg12_23, kg12_24, kp12_24, kg12_25, kg12_26, kg12_27, kg12_28, kp12_28, kg12_29, kg12_30, kg12_31, kg12_32, kp12_32, kg12_33, kp12_33, ka186, kw186, ka187, kw187, ka188, kw188, kj189, kk189, kj190, kk190, ka191, kw191, ka192, kw192, ka193, kw193, kj194, kk194, kj195, kk195, ka196, kw196, ka197, kw197, ka198, kw198, ka199, kw199, ka200, kw200, ka201, kw201, kb202, kv202, ka203, kw203, ka204, kw204, ka205, kw205, ka206, kw206, ka207, kw207, kj208, kk208, c8_m17, c8_m16, c8_m15, c8_m14, c8_m13, c8_m12, c8_m11, c8_m10, c8_m2, c8_6, c8_7, c8_8, c8_9, c8_10, c8_11, c8_12, c8_13, c8_14, c8_15, c8_16, c8_17, c8_18, c8_19, c8_20, c8_21, c8_22, c8_23, c8_25, c8_30, c8_31, c8_32, c8_39, c8_40, c8_41, c8_42, c8_43, c8_45, c8_48, c8_55, c8_56, c8_57, c8_59, c8_60, c8_61, c8_63, c8_70, c8_90, c8_91, c8_92, c8_93, c8_94, c8_96, c8_97, c8_99, c8_115, c8_122, c8_125, c8_126, c8_127, c16_128, c16_129, c16_131, c16_132, c16_135, c16_136, c16_137, c16_138, c16_139, c16_142, c16_143, c16_144, c16_145, c16_146, c16_149, c16_180, c16_250, c16_255, c16_1000, c16_1002, c16_1100, c16_1155, c16_1157, c16_1164, c16_1178, c16_1210, c16_1212, c16_1219, c16_1233, c16_1265, c16_2200, c16_4095, c16_4096, c16_9999, c16_12345, one0, m1_lt0, nI20, nI40, sp204, sp171, kwi3, h2, e0, hk, w0, w1, w2, w3]
  · refine ⟨_, hq, fun d R => ?_⟩
    rw [h0, if_pos rfl]
    simp (disch := omega) only [B221_0, B221_10, B221_13, B221_19, B221_22, B221_25, B221_29, B221_35, B221_38, B221_43, B221_55, B221_60, B221_71, B221_76, kO_s, kcond_t, kpush_s, kpush_n, nI_add, nI_add1, pk_mul, n_0, n_2, n_3, n_4, n_5, if_true, if_false, Nat.add_zero, krecv_m ks185, kg12_0, kp12_0, kg12_1, kg12_2, kp12_2, kg12_3, kp12_3, kg12_4, kg12_5, kg12_6, kg12_7, kp12_7, kg12_8, kp12_8, kg12_9, kg12_10, kg12_11, kg12_12, kg12_13, kp12_13, kg12_14, kg12_15, kg12_16, kg12_17, kg12_18, kp12_18, kg12_19, kp12_19, kg12_20, kg12_21, kg12_22, kg12_23, kg12_24, kp12_24, kg12_25, kg12_26, kg12_27, kg12_28, kp12_28, kg12_29, kg12_30, kg12_31, kg12_32, kp12_32, kg12_33, kp12_33, ka186, kw186, ka187, kw187, ka188, kw188, kj189, kk189, kj190, kk190, ka191, kw191, ka192, kw192, ka193, kw193, kj194, kk194, kj195, kk195, ka196, kw196, ka197, kw197, ka198, kw198, ka199, kw199, ka200, kw200, ka201, kw201, kb202, kv202, ka203, kw203, ka204, kw204, ka205, kw205, ka206, kw206, ka207, kw207, kj208, kk208, c8_m17, c8_m16, c8_m15, c8_m14, c8_m13, c8_m12, c8_m11, c8_m10, c8_m2, c8_6, c8_7, c8_8, c8_9, c8_10, c8_11, c8_12, c8_13, c8_14, c8_15, c8_16, c8_17, c8_18, c8_19, c8_20, c8_21, c8_22, c8_23, c8_25, c8_30, c8_31, c8_32, c8_39, c8_40, c8_41, c8_42, c8_43, c8_45, c8_48, c8_55, c8_56, c8_57, c8_59, c8_60, c8_61, c8_63, c8_70, c8_90, c8_91, c8_92, c8_93, c8_94, c8_96, c8_97, c8_99, c8_115, c8_122, c8_125, c8_126, c8_127, c16_128, c16_129, c16_131, c16_132, c16_135, c16_136, c16_137, c16_138, c16_139, c16_142, c16_143, c16_144, c16_145, c16_146, c16_149, c16_180, c16_250, c16_255, c16_1000, c16_1002, c16_1100, c16_1155, c16_1157, c16_1164, c16_1178, c16_1210, c16_1212, c16_1219, c16_1233, c16_1265, c16_2200, c16_4095, c16_4096, c16_9999, c16_12345, one0, m1_lt0, nI20, nI40, sp204, e0, h0]
end QCH
