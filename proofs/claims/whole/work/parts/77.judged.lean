/-! a told term judged; how an assize begins, at the model's side -/
def anyB (P : Nat → Bool) : Nat → Bool
  | 0 => false
  | n + 1 => anyB P n || P n
theorem anyB_iff (P : Nat → Bool) : ∀ n, anyB P n = true ↔ ∃ i, i < n ∧ P i = true := by
  intro n
  induction n with
  | zero => exact ⟨fun h => absurd (show false = true from h) (by decide), fun ⟨i, h, _⟩ => by omega⟩
  | succ n ih =>
    rw [anyB, Bool.or_eq_true, ih]
    constructor
    · rintro (⟨i, h1, h2⟩ | h)
      · exact ⟨i, by omega, h2⟩
      · exact ⟨n, by omega, h⟩
    · rintro ⟨i, h1, h2⟩
      by_cases e : i = n
      · exact Or.inr (e ▸ h2)
      · exact Or.inl ⟨i, by omega, h2⟩
theorem anyB_perm {S : Nat → Nat} {m : Nat} (h : prm S m) (P : Nat → Bool) : anyB (fun i => P (S i)) m = anyB P m := by
  have key : anyB (fun i => P (S i)) m = true ↔ anyB P m = true := by
    rw [anyB_iff, anyB_iff]
    constructor
    · rintro ⟨i, h1, h2⟩
      exact ⟨S i, h.1 i h1, h2⟩
    · rintro ⟨i, h1, h2⟩
      obtain ⟨k, k1, k2⟩ := surj_inj m S h.1 h.2 i h1
      exact ⟨k, k1, by show P (S k) = true; rw [k2]; exact h2⟩
  cases e1 : anyB (fun i => P (S i)) m <;> cases e2 : anyB P m
  · rfl
  · rw [e1, e2] at key; exact absurd (key.mpr rfl) (by decide)
  · rw [e1, e2] at key; exact absurd (key.mp rfl) (by decide)
  · rfl
theorem nmx_any {f : Nat → Nat} : ∀ n, (20 ≤ nmx f n) ↔ anyB (fun p => decide (20 ≤ f p)) n = true := by
  intro n
  induction n with
  | zero => exact ⟨fun h => absurd h (by rw [nmx]; omega), fun h => absurd (show false = true from h) (by decide)⟩
  | succ n ih =>
    rw [nmx, anyB, Bool.or_eq_true, ← ih, decide_eq_true_eq]
    omega
def hxB (r : aRl) (u : aSt) : Bool := anyB (fun p => decide (20 ≤ dA r u u.nx p)) (dM r u u.nx)
def owB (r : aRl) (u : aSt) : Bool := decide (1 < dM r u u.nx) && anyB (fun p => decide (dS r u p = p)) (dM r u u.nx)
theorem own_any {r : aRl} {u : aSt} (vr : vRl r) : (ownF r u = 0) ↔ anyB (fun p => decide (dS r u p = p)) (dM r u u.nx) = false := by
  have key : ∀ n, n ≤ dM r u u.nx → ∃ N, N < 2 ^ 7 ∧ kfold (fun p x => if dS r u p = p then x ||| (1 <<< (nI (dH r u u.nx p) &&& 31)) else x) n = nI N ∧ (N = 0 ↔ anyB (fun p => decide (dS r u p = p)) n = false) := by
    intro n
    induction n with
    | zero => intro _; exact ⟨0, by omega, rfl, ⟨fun _ => rfl, fun _ => rfl⟩⟩
    | succ n ih =>
      intro hn
      obtain ⟨N, h1, h2, h3⟩ := ih (by omega)
      have h7 := (dH7 vr (s := u) (day := u.nx) (show n < dM r u u.nx by omega)).2
      rw [kfold, anyB, h2]
      by_cases q : dS r u n = n
      · refine ⟨N ||| 2 ^ dH r u u.nx n, or_lt h1 h7, ?_, ?_⟩
        · rw [if_pos q, nI_bit (by omega), nI_or]
        · rw [decide_eq_true q, Bool.or_true]
          constructor
          · intro e
            have t : (N ||| 2 ^ dH r u u.nx n).testBit (dH r u u.nx n) = true := by rw [Nat.testBit_or, tb_two]; simp
            rw [e, Nat.zero_testBit] at t
            exact absurd t (by decide)
          · intro e; exact absurd e (by decide)
      · refine ⟨N, h1, by rw [if_neg q], ?_⟩
        rw [show decide (dS r u n = n) = false from decide_eq_false q, Bool.or_false]
        exact h3
  obtain ⟨N, h1, h2, h3⟩ := key _ (Nat.le_refl _)
  have e : ownF r u = nI N := h2
  rw [e, ← h3]
  constructor
  · intro q
    rw [show (0 : Int32) = nI 0 from rfl, nI_inj (by omega) (by omega)] at q
    exact q
  · intro q; rw [q]; rfl
abbrev aLn : Type := (Nat) × (Nat → Nat) × (Nat → Nat) × (Nat → Nat)
def aLn.mk (n : Nat) (w : Nat → Nat) (a : Nat → Nat) (v : Nat → Nat) : aLn := (n, w, a, v)
def aLn.n (s : aLn) : Nat := s.1
def aLn.w (s : aLn) : Nat → Nat := s.2.1
def aLn.a (s : aLn) : Nat → Nat := s.2.2.1
def aLn.v (s : aLn) : Nat → Nat := s.2.2.2
abbrev vLn (r : aRl) (l : aLn) : Prop := (l.n ≤ 40) ∧ (∀ k, k < l.n → l.w k ≤ 3) ∧ (∀ k, k < l.n → l.w k = 1 → l.a k < r.nc ∧ l.v k < 4) ∧ (∀ k, k < l.n → l.w k = 2 → l.a k < r.nj ∧ l.v k ≤ 20) ∧ (∀ k, k < l.n → l.w k = 3 → l.a k < r.nj ∧ l.v k < r.nj)
theorem vLn.n {r : aRl} {l : aLn} (h : vLn r l) : l.n ≤ 40 := h.1
theorem vLn.w {r : aRl} {l : aLn} (h : vLn r l) : ∀ k, k < l.n → l.w k ≤ 3 := h.2.1
theorem vLn.p {r : aRl} {l : aLn} (h : vLn r l) : ∀ k, k < l.n → l.w k = 1 → l.a k < r.nc ∧ l.v k < 4 := h.2.2.1
theorem vLn.q {r : aRl} {l : aLn} (h : vLn r l) : ∀ k, k < l.n → l.w k = 2 → l.a k < r.nj ∧ l.v k ≤ 20 := h.2.2.2.1
theorem vLn.c {r : aRl} {l : aLn} (h : vLn r l) : ∀ k, k < l.n → l.w k = 3 → l.a k < r.nj ∧ l.v k < r.nj := h.2.2.2.2
abbrev cLn (I : Nat → Nat → Int32) (t : Nat) (l : aLn) : Prop := (I t 0 = nI l.n) ∧ (∀ k, k < l.n → I (t + 1) k = nI (135 + l.w k)) ∧ (∀ k, k < l.n → I (t + 2) k = nI (l.a k)) ∧ (∀ k, k < l.n → I (t + 3) k = nI (l.v k))
theorem cLn.n {I : Nat → Nat → Int32} {t : Nat} {l : aLn} (h : cLn I t l) : I t 0 = nI l.n := h.1
theorem cLn.w {I : Nat → Nat → Int32} {t : Nat} {l : aLn} (h : cLn I t l) : ∀ k, k < l.n → I (t + 1) k = nI (135 + l.w k) := h.2.1
theorem cLn.a {I : Nat → Nat → Int32} {t : Nat} {l : aLn} (h : cLn I t l) : ∀ k, k < l.n → I (t + 2) k = nI (l.a k) := h.2.2.1
theorem cLn.v {I : Nat → Nat → Int32} {t : Nat} {l : aLn} (h : cLn I t l) : ∀ k, k < l.n → I (t + 3) k = nI (l.v k) := h.2.2.2
abbrev mLn (I : Nat → Nat → Int32) (l : aLn) : Prop := (I 198 0 = nI l.n) ∧ (∀ k, k < l.n → I 198 (1 + 3 * k) = nI (l.w k)) ∧ (∀ k, k < l.n → I 198 (2 + 3 * k) = nI (l.a k)) ∧ (∀ k, k < l.n → I 198 (3 + 3 * k) = nI (l.v k))
theorem mLn.n {I : Nat → Nat → Int32} {l : aLn} (h : mLn I l) : I 198 0 = nI l.n := h.1
theorem mLn.w {I : Nat → Nat → Int32} {l : aLn} (h : mLn I l) : ∀ k, k < l.n → I 198 (1 + 3 * k) = nI (l.w k) := h.2.1
theorem mLn.a {I : Nat → Nat → Int32} {l : aLn} (h : mLn I l) : ∀ k, k < l.n → I 198 (2 + 3 * k) = nI (l.a k) := h.2.2.1
theorem mLn.v {I : Nat → Nat → Int32} {l : aLn} (h : mLn I l) : ∀ k, k < l.n → I 198 (3 + 3 * k) = nI (l.v k) := h.2.2.2
def jdD (r : aRl) (k : Nat) (p : aSt × Int32 × Int32) : aSt × Int32 × Int32 := (pass r p.1, (if p.2.1 = -1 ∧ hxB r p.1 = true then nI k else p.2.1), (if p.2.2 = -1 ∧ owB r p.1 = true then nI k else p.2.2))
def jdS (r : aRl) (b : aSt) (l : aLn) : Nat → aSt × Int32 × Int32
  | 0 => (b, -1, -1)
  | k + 1 => if l.w k = 0 then jdD r k (jdS r b l k) else if l.w k = 1 then (pld (jdS r b l k).1 (l.a k) (l.v k), (jdS r b l k).2) else if l.w k = 2 then (lnd (jdS r b l k).1 (l.a k) (l.v k), (jdS r b l k).2) else (chg (jdS r b l k).1 (l.a k) (l.v k), (jdS r b l k).2)
def aJudged (r : aRl) (b : aSt) (l : aLn) (x : Int32) : Int32 := if kidx x (nI 3) = 0 then -2 else if x = nI 2 then nI (grf (jdS r b l l.n).1) else if x = nI 0 then (jdS r b l l.n).2.1 else (jdS r b l l.n).2.2
abbrev nn (x : Int32) : Prop := x = -1 ∨ ∃ q : Nat, q < 40 ∧ x = nI q
theorem jdS_ok {r : aRl} {b : aSt} {l : aLn} (vr : vRl r) (vb : vSt r b) (vl : vLn r l) : ∀ k, k ≤ l.n → vSt r (jdS r b l k).1 ∧ nn (jdS r b l k).2.1 ∧ nn (jdS r b l k).2.2 := by
  intro k
  induction k with
  | zero => intro _; exact ⟨vb, Or.inl rfl, Or.inl rfl⟩
  | succ k ih =>
    intro hk
    obtain ⟨a1, a2, a3⟩ := ih (by omega)
    have hn := vl.n
    have h3 := vl.w k (by omega)
    rw [jdS]
    by_cases w0 : l.w k = 0
    · rw [if_pos w0]
      refine ⟨pass_v vr a1, ?_, ?_⟩
      · show nn (if _ then _ else _)
        split
        · exact Or.inr ⟨k, by omega, rfl⟩
        · exact a2
      · show nn (if _ then _ else _)
        split
        · exact Or.inr ⟨k, by omega, rfl⟩
        · exact a3
    · rw [if_neg w0]
      by_cases w1 : l.w k = 1
      · rw [if_pos w1]; exact ⟨pld_v a1 (vl.p k (by omega) w1).2, a2, a3⟩
      · rw [if_neg w1]
        by_cases w2 : l.w k = 2
        · rw [if_pos w2]; exact ⟨lnd_v a1 (vl.q k (by omega) w2).2, a2, a3⟩
        · rw [if_neg w2]
          obtain ⟨c1, c2⟩ := vl.c k (by omega) (by omega)
          exact ⟨chg_v vr a1 c1 c2, a2, a3⟩
theorem nn_neg {x : Int32} (h : nn x) : (x < 0) = (x = -1) := by
  rcases h with rfl | ⟨q, hq, rfl⟩
  · exact propext ⟨fun _ => rfl, fun _ => by decide⟩
  · refine propext ⟨fun h => absurd h (nI_pos (by omega)), fun h => ?_⟩
    rw [nI_m1 (by omega)] at h
    exact h.elim
/-- how an assize begins, pair by pair -/
def bgK (ln : Nat → Nat) (pa pb : Nat → Nat) : Nat → aSt
  | 0 => aSt.mk 0 0 (fun _ => 0) (fun _ => 0) ln (fun k => k)
  | k + 1 => chg (bgK ln pa pb k) (pa k) (pb k)
abbrev mBg (I : Nat → Nat → Int32) (r : aRl) (bg : aSt) (np : Nat) (pa : Nat → Nat) (pb : Nat → Nat) : Prop := (I 191 2 = nI np) ∧ (np ≤ 21) ∧ (∀ k, k < np → I 191 (39 + 2 * k) = nI (pa k)) ∧ (∀ k, k < np → I 191 (39 + 2 * k + 1) = nI (pb k)) ∧ (∀ k, k < np → pa k < r.nj) ∧ (∀ k, k < np → pb k < r.nj) ∧ (∀ j, j < r.nj → I 191 (4 + 3 * j + 1) = nI (bg.ln j)) ∧ (∀ c, c < r.nc → I 191 (25 + 2 * c + 1) = nI (bg.up c)) ∧ (bg.nx = 0) ∧ (bg.rd = 0) ∧ (∀ k, k < 7 → bg.hd k = 0) ∧ (bg.ch = (bgK bg.ln pa pb np).ch)
theorem mBg.n {I : Nat → Nat → Int32} {r : aRl} {bg : aSt} {np : Nat} {pa : Nat → Nat} {pb : Nat → Nat} (h : mBg I r bg np pa pb) : I 191 2 = nI np := h.1
theorem mBg.nl {I : Nat → Nat → Int32} {r : aRl} {bg : aSt} {np : Nat} {pa : Nat → Nat} {pb : Nat → Nat} (h : mBg I r bg np pa pb) : np ≤ 21 := h.2.1
theorem mBg.a {I : Nat → Nat → Int32} {r : aRl} {bg : aSt} {np : Nat} {pa : Nat → Nat} {pb : Nat → Nat} (h : mBg I r bg np pa pb) : ∀ k, k < np → I 191 (39 + 2 * k) = nI (pa k) := h.2.2.1
theorem mBg.b {I : Nat → Nat → Int32} {r : aRl} {bg : aSt} {np : Nat} {pa : Nat → Nat} {pb : Nat → Nat} (h : mBg I r bg np pa pb) : ∀ k, k < np → I 191 (39 + 2 * k + 1) = nI (pb k) := h.2.2.2.1
theorem mBg.al {I : Nat → Nat → Int32} {r : aRl} {bg : aSt} {np : Nat} {pa : Nat → Nat} {pb : Nat → Nat} (h : mBg I r bg np pa pb) : ∀ k, k < np → pa k < r.nj := h.2.2.2.2.1
theorem mBg.bl {I : Nat → Nat → Int32} {r : aRl} {bg : aSt} {np : Nat} {pa : Nat → Nat} {pb : Nat → Nat} (h : mBg I r bg np pa pb) : ∀ k, k < np → pb k < r.nj := h.2.2.2.2.2.1
theorem mBg.ln {I : Nat → Nat → Int32} {r : aRl} {bg : aSt} {np : Nat} {pa : Nat → Nat} {pb : Nat → Nat} (h : mBg I r bg np pa pb) : ∀ j, j < r.nj → I 191 (4 + 3 * j + 1) = nI (bg.ln j) := h.2.2.2.2.2.2.1
theorem mBg.up {I : Nat → Nat → Int32} {r : aRl} {bg : aSt} {np : Nat} {pa : Nat → Nat} {pb : Nat → Nat} (h : mBg I r bg np pa pb) : ∀ c, c < r.nc → I 191 (25 + 2 * c + 1) = nI (bg.up c) := h.2.2.2.2.2.2.2.1
theorem mBg.nx {I : Nat → Nat → Int32} {r : aRl} {bg : aSt} {np : Nat} {pa : Nat → Nat} {pb : Nat → Nat} (h : mBg I r bg np pa pb) : bg.nx = 0 := h.2.2.2.2.2.2.2.2.1
theorem mBg.rd {I : Nat → Nat → Int32} {r : aRl} {bg : aSt} {np : Nat} {pa : Nat → Nat} {pb : Nat → Nat} (h : mBg I r bg np pa pb) : bg.rd = 0 := h.2.2.2.2.2.2.2.2.2.1
theorem mBg.hd {I : Nat → Nat → Int32} {r : aRl} {bg : aSt} {np : Nat} {pa : Nat → Nat} {pb : Nat → Nat} (h : mBg I r bg np pa pb) : ∀ k, k < 7 → bg.hd k = 0 := h.2.2.2.2.2.2.2.2.2.2.1
theorem mBg.ch {I : Nat → Nat → Int32} {r : aRl} {bg : aSt} {np : Nat} {pa : Nat → Nat} {pb : Nat → Nat} (h : mBg I r bg np pa pb) : bg.ch = (bgK bg.ln pa pb np).ch := h.2.2.2.2.2.2.2.2.2.2.2
theorem bgK_v {r : aRl} (vr : vRl r) {ln pa pb : Nat → Nat} {np : Nat} (hl : ∀ k, k < 7 → ln k ≤ 20) (ha : ∀ k, k < np → pa k < r.nj) (hb : ∀ k, k < np → pb k < r.nj) : ∀ k, k ≤ np → vSt r (bgK ln pa pb k) := by
  intro k
  induction k with
  | zero => intro _; exact ⟨by show 0 < 4; omega, fun _ _ => by show 0 ≤ 9999; omega, fun _ _ _ => rfl, fun _ _ => by show 0 < 4; omega, hl, fun k hk => hk, fun k hk => hk, fun i j _ _ e => e⟩
  | succ k ih => intro hk; exact chg_v vr (ih (by omega)) (ha k (by omega)) (hb k (by omega))
theorem bgK_f (ln pa pb : Nat → Nat) : ∀ k, (bgK ln pa pb k).nx = 0 ∧ (bgK ln pa pb k).rd = 0 ∧ (bgK ln pa pb k).hd = (fun _ => 0) ∧ (bgK ln pa pb k).ln = ln := by
  intro k
  induction k with
  | zero => exact ⟨rfl, rfl, rfl, rfl⟩
  | succ k ih => exact ih
section JD
variable {xs : List Int32} {d : Nat} {I I' I2 : Nat → Nat → Int32} {J : Nat → Nat → Int64} {rf : Nat → Nat} {g : Nat} {R : Option Value → KW → Prop} {r : aRl} {s u bg : aSt} {w : KW} {l : aLn}
theorem cLn.keep {t : Nat} (h : cLn I t l) (hI : ∀ x k, t ≤ x → x ≤ t + 3 → I' x k = I x k) : cLn I' t l :=
  ⟨by rw [hI _ _ (by omega) (by omega), h.n], fun k hk => by rw [hI _ _ (by omega) (by omega), h.w k hk], fun k hk => by rw [hI _ _ (by omega) (by omega), h.a k hk], fun k hk => by rw [hI _ _ (by omega) (by omega), h.v k hk]⟩
theorem mLn.keep (h : mLn I l) (hI : ∀ k, I' 198 k = I 198 k) : mLn I' l :=
  ⟨by rw [hI, h.n], fun k hk => by rw [hI, h.w k hk], fun k hk => by rw [hI, h.a k hk], fun k hk => by rw [hI, h.v k hk]⟩
/-- judged -/
theorem sp116 (h : cB I rf r s) (h4 : kshp (rf 4) = some (.inl 10)) (hb : cSt I (rf 2 + 8) bg) (vb : vSt r bg) (hl : cLn I (rf 4) l) (vl : vLn r l) (x : Int32) : ∃ I', cQ I I' ∧ ∀ d R, kX xs (d + 5) 116 0 [some (.ref 0), some (.int x), none, none, none] [] (kmm I J rf g) R = R (some (.int (aJudged r bg l x))) (kmm I' J rf g) := by
  have ht := h.t
  have ha := kad6 ht
  have ha4 := kad10 h4
  have vr := h.vr
  have hj7 := vr.j
  have hc7 := vr.c
  have ln40 := vl.n
  unfold aJudged
  rcases kidx_c x (show 3 < 2147483648 by omega) with ⟨v, hv, rfl⟩ | h0
  · have hk := kidx_in hv (show 3 < 2147483648 by omega)
    have hw3 : kwithin (nI v) 0 2 = 1 := kwithin_in (n := 2) (by omega) (by omega)
    have hbs : kshp (rf 2 + 8) = some (.inl 9) := (kar6 ht).2.2.2.2.2
    obtain ⟨I1, s1, f1, e1⟩ := sp87e (xs := xs) (J := J) (rf := rf) (g := g) ks44 hbs (by omega) hb
    have q1 : cQ I I1 := fun x k p1 p2 p3 p4 => f1 x k (by omega)
    have L : ∃ I2, (cQ I I2 ∧ cSt I2 44 (jdS r bg l l.n).1) ∧ (fun (d : Nat) (R : Option Value → KW → Prop) => kX xs (d + 5) 116 33 [some (.ref 0), some (.int (nI v)), some (.int (jdS r bg l 0).2.1), some (.int (jdS r bg l 0).2.2), some (.int (nI 0))] [] (kmm I1 J rf g) R) = (fun d R => kX xs (d + 5) 116 33 [some (.ref 0), some (.int (nI v)), some (.int (jdS r bg l l.n).2.1), some (.int (jdS r bg l l.n).2.2), some (.int (nI l.n))] [] (kmm I2 J rf g) R) := by
      refine kloop (n := l.n) (s0 := I1) (fun i I2 => cQ I I2 ∧ cSt I2 44 (jdS r bg l i).1) (fun i I2 => fun (d : Nat) (R : Option Value → KW → Prop) => kX xs (d + 5) 116 33 [some (.ref 0), some (.int (nI v)), some (.int (jdS r bg l i).2.1), some (.int (jdS r bg l i).2.2), some (.int (nI i))] [] (kmm I2 J rf g) R) ⟨q1, s1⟩ ?_
      intro i I2 hi ⟨g1, g2⟩
      have h2 := h.keep g1
      obtain ⟨vi, n1, n2⟩ := jdS_ok vr vb vl i (by omega)
      have hl2 : cLn I2 (rf 4) l := hl.keep (fun x k _ _ => g1 x k (by omega) (by omega) (by omega) (by omega))
      have en := hl2.n
      have ew := hl2.w i hi
      have ea := hl2.a i hi
      have ev := hl2.v i hi
      have w3 := vl.w i hi
      have a40 : ∀ {t : Nat}, kshp t = some (.inl 10) → ∀ I : Nat → Nat → Int32, kaI (kmm I J rf g) (t + 1) 0 (nI i) = some (I (t + 1) i) ∧ kaI (kmm I J rf g) (t + 2) 0 (nI i) = some (I (t + 2) i) ∧ kaI (kmm I J rf g) (t + 3) 0 (nI i) = some (I (t + 3) i) := fun ht I => ⟨kaI_m (kar10 ht).1 (by omega) (by omega), kaI_m (kar10 ht).2.1 (by omega) (by omega), kaI_m (kar10 ht).2.2 (by omega) (by omega)⟩
      obtain ⟨z1, z2, z3⟩ := a40 h4 I2
      have e99 : ∀ d R, kX xs d 99 0 [some (.ref (rf 4)), some (.int (nI i))] [] (kmm I2 J rf g) R = R (some (.int (if l.w i = 0 then 1 else 0))) (kmm I2 J rf g) := by
        intro d R
        rw [B99_0, kg10_1 h4, kO_s, z1, kO_s, ew, c16_135]
        by_cases q : l.w i = 0
        · rw [if_pos (by rw [q]), if_pos q, B99_12, B99_17, if_pos kz_1]
        · rw [if_neg (fun e => q (by rw [nI_inj (by omega) (by omega)] at e; omega)), if_neg q, B99_16, B99_17, if_pos kz_0]
      have hJ : jdS r bg l (i + 1) = if l.w i = 0 then jdD r i (jdS r bg l i) else if l.w i = 1 then (pld (jdS r bg l i).1 (l.a i) (l.v i), (jdS r bg l i).2) else if l.w i = 2 then (lnd (jdS r bg l i).1 (l.a i) (l.v i), (jdS r bg l i).2) else (chg (jdS r bg l i).1 (l.a i) (l.v i), (jdS r bg l i).2) := rfl
      by_cases w0 : l.w i = 0
      · rw [if_pos w0] at hJ e99
        obtain ⟨I3, q2, q3, q4, q5⟩ := sp65q (xs := xs) (J := J) (g := g) h2 vi g2
        rw [hJ]
        refine ⟨I3, ⟨g1.trans q4, q3⟩, ?_⟩
        funext d R
        have hm7 := dM7 vr (jdS r bg l i).1 (jdS r bg l i).1.nx
        generalize jdS r bg l i = p at *
        have e73 : kmost (I3 56) (dM r p.1 p.1.nx) = nI (nmx (dA r p.1 p.1.nx) (dM r p.1 p.1.nx)) := kmost_n _ q2.day.a (fun k _ => by have := dA_le r p.1 p.1.nx k; omega)
        have b73 := nmx_le (f := dA r p.1 p.1.nx) (b := 40) (dM r p.1 p.1.nx) (fun k _ => dA_le _ _ _ _)
        have hx := nmx_any (f := dA r p.1 p.1.nx) (dM r p.1 p.1.nx)
        have A : kX xs (d + 5) 116 88 [some (.ref 0), some (.int (nI v)), some (.int p.2.1), some (.int p.2.2), some (.int (nI i))] [] (kmm I3 J rf g) R = kX xs (d + 5) 116 108 [some (.ref 0), some (.int (nI v)), some (.int (if p.2.1 = -1 ∧ hxB r p.1 = true then nI i else p.2.1)), some (.int p.2.2), some (.int (nI i))] [] (kmm I3 J rf g) R := by
          rw [B116_88]
          by_cases c1 : p.2.1 = -1
          · rw [if_pos c1, B116_93, kg11_9, kO_s, krecv_m ks54, kcond_t, sp73 hm7 q2.day.m, e73, kpush_s, B116_100, c8_20]
            by_cases c2 : 20 ≤ nmx (dA r p.1 p.1.nx) (dM r p.1 p.1.nx)
            · rw [if_neg (nI_nlt (by omega) (by omega)), B116_105, if_pos ⟨c1, hx.mp c2⟩]
            · rw [if_pos (nI_lt (by omega) (by omega)), if_neg (fun t => c2 (hx.mpr t.2))]
          · rw [if_neg c1, if_neg (fun t => c1 t.1)]
        have B : ∀ l2, kX xs (d + 5) 116 108 [some (.ref 0), some (.int (nI v)), some (.int l2), some (.int p.2.2), some (.int (nI i))] [] (kmm I3 J rf g) R = kX xs (d + 5) 116 137 [some (.ref 0), some (.int (nI v)), some (.int l2), some (.int (if p.2.2 = -1 ∧ owB r p.1 = true then nI i else p.2.2)), some (.int (nI i))] [] (kmm I3 J rf g) R := by
          intro l2
          rw [B116_108]
          by_cases c1 : p.2.2 = -1
          · rw [if_pos c1, B116_113, kg11_9, kO_s, kg8_0, kO_s, q2.day.m, n_1]
            by_cases c2 : 1 < dM r p.1 p.1.nx
            · rw [if_pos (nI_lt c2 (by omega)), B116_124, kg11_9, kO_s, krecv_m ks54, kcond_t, sp70g vr q2, kpush_s, B116_131]
              cases c3 : anyB (fun q => decide (dS r p.1 q = q)) (dM r p.1 p.1.nx) with
              | true =>
                have c4 : ¬ ownF r p.1 = 0 := fun t => by have := (own_any vr).mp t; rw [c3] at this; exact absurd this (by decide)
                have c5 : owB r p.1 = true := by unfold owB; rw [c3, decide_eq_true c2]; rfl
                rw [if_neg c4, B116_134, if_pos ⟨c1, c5⟩]
              | false =>
                have c5 : ¬ owB r p.1 = true := by unfold owB; rw [c3, Bool.and_false]; decide
                rw [if_pos ((own_any vr).mpr c3), if_neg (fun t => c5 t.2)]
            · have c5 : ¬ owB r p.1 = true := by unfold owB; rw [show decide (1 < dM r p.1 p.1.nx) = false from decide_eq_false c2, Bool.false_and]; decide
              rw [if_neg (nI_nlt (by omega) (by omega)), if_neg (fun t => c5 t.2)]
          · rw [if_neg c1, if_neg (fun t => c1 t.1)]
        rw [B116_33, kg11_4, kO_s, kg10_0 h4, kO_s, en, if_pos (nI_lt hi (by omega)), B116_45, kg11_4, kO_s, krecv_m h4, kcond_t, e99, kpush_s, B116_54, if_neg (by decide), B116_73, kg11_9, kO_s, kg11_2, kO_s, kg11_7, kO_s, krecv_m ks54, kcond_t, q5, kpush_n, A, B, B116_137, nI_add1]
        rfl
      · rw [if_neg w0] at hJ e99
        have K : ∃ I3, cQ I2 I3 ∧ cSt I3 44 (jdS r bg l (i + 1)).1 ∧ ∀ d R, kX xs (d + 2) 100 0 [some (.ref (rf 4)), some (.ref 44), some (.int (nI i)), none, none] [] (kmm I2 J rf g) R = R none (kmm I3 J rf g) := by
          by_cases w1 : l.w i = 1
          · rw [hJ, if_pos w1]
            obtain ⟨c1, c2⟩ := vl.p i hi w1
            obtain ⟨I3, a1, a2, a3⟩ := sp88e (xs := xs) (J := J) (rf := rf) (g := g) (day := l.v i) ks44 g2 (show l.a i < 7 by omega)
            refine ⟨I3, fun x k p1 p2 p3 p4 => a2 x k (by omega), a1, fun d R => ?_⟩
            rw [B100_0, kg10_2 h4, kO_s, z2, kO_s, ea, kg10_3 h4, kO_s, z3, kO_s, ev, kg10_1 h4, kO_s, z1, kO_s, ew, c16_136, if_pos (by rw [w1]), B100_27, krecv_m ks44, kcond_t, a3, kpush_n, B100_34, B100_66]
          · by_cases w2 : l.w i = 2
            · rw [hJ, if_neg w1, if_pos w2]
              obtain ⟨c1, c2⟩ := vl.q i hi w2
              obtain ⟨I3, a1, a2, a3⟩ := sp89e (xs := xs) (J := J) (rf := rf) (g := g) (l := l.v i) ks44 g2 (show l.a i < 7 by omega)
              refine ⟨I3, fun x k p1 p2 p3 p4 => a2 x k (by omega), a1, fun d R => ?_⟩
              rw [B100_0, kg10_2 h4, kO_s, z2, kO_s, ea, kg10_3 h4, kO_s, z3, kO_s, ev, kg10_1 h4, kO_s, z1, kO_s, ew, c16_136, if_neg (by rw [w2]; decide), B100_37, kg10_1 h4, kO_s, z1, kO_s, ew, c16_137, if_pos (by rw [w2]), B100_49, krecv_m ks44, kcond_t, a3, kpush_n, B100_56, B100_66]
            · have w3' : l.w i = 3 := by omega
              rw [hJ, if_neg w1, if_neg w2]
              obtain ⟨c1, c2⟩ := vl.c i hi w3'
              obtain ⟨I3, a1, a2, a3⟩ := sp91e (xs := xs) (J := J) (rf := rf) (g := g) ks44 vr vi g2 c1 c2
              refine ⟨I3, fun x k p1 p2 p3 p4 => a2 x k (by omega), a1, fun d R => ?_⟩
              rw [B100_0, kg10_2 h4, kO_s, z2, kO_s, ea, kg10_3 h4, kO_s, z3, kO_s, ev, kg10_1 h4, kO_s, z1, kO_s, ew, c16_136, if_neg (by rw [w3']; decide), B100_37, kg10_1 h4, kO_s, z1, kO_s, ew, c16_137, if_neg (by rw [w3']; decide), B100_59, krecv_m ks44, kcond_t, a3, kpush_n, B100_66]
        obtain ⟨I3, a1, a2, a3⟩ := K
        refine ⟨I3, ⟨g1.trans a1, a2⟩, ?_⟩
        have hJ2 : (jdS r bg l (i + 1)).2 = (jdS r bg l i).2 := by
          rw [hJ]
          by_cases w1 : l.w i = 1
          · rw [if_pos w1]
          · rw [if_neg w1]
            by_cases w2 : l.w i = 2
            · rw [if_pos w2]
            · rw [if_neg w2]
        funext d R
        rw [B116_33, kg11_4, kO_s, kg10_0 h4, kO_s, en, if_pos (nI_lt hi (by omega)), B116_45, kg11_4, kO_s, krecv_m h4, kcond_t, e99, kpush_s, B116_54, if_pos rfl, B116_57, kg11_4, kO_s, kg11_7, kO_s, krecv_m h4, kcond_t, a3, kpush_n, B116_70, B116_137, nI_add1, hJ2]
    obtain ⟨I2, ⟨g1, g2⟩, e2⟩ := L
    refine ⟨I2, g1, fun d R => ?_⟩
    have e2' := congrFun (congrFun e2 d) R
    have en : I2 (rf 4) 0 = nI l.n := by rw [g1 _ _ (by omega) (by omega) (by omega) (by omega), hl.n]
    have eg : ksum (I2 (44 + 1)) 7 = nI (grf (jdS r bg l l.n).1) := ksum_n 7 g2.hd
    rw [hk, if_neg (by decide)]
    rw [B116_0, sp154, hw3, kpush_s, B116_6, if_neg (by decide), B116_12, kg11_7, kO_s, kg11_2, kO_s, kg6_7 ht, kO_s, krecv_m ks44, kcond_t, e1, kpush_n, B116_30]
    refine Eq.trans e2' ?_
    rw [B116_33, kg11_4, kO_s, kg10_0 h4, kO_s, en, if_neg (nI_nlt (Nat.le_refl _) (by omega)), B116_143]
    rcases (by omega : v = 0 ∨ v = 1 ∨ v = 2) with rfl | rfl | rfl
    · rw [if_neg (by decide), if_neg (by decide), if_pos rfl, B116_156, if_pos (show nI 0 = 0 from rfl), B116_160, B116_165]
    · rw [if_neg (by decide), if_neg (by decide), if_neg (by decide), B116_156, if_neg (by decide), B116_164, B116_165]
    · rw [if_pos (show nI 2 = 2 from rfl), if_pos rfl, B116_148, kg11_7, kO_s, krecv_m ks44, kcond_t, sp94 ks44, eg, kpush_s, B116_155]
  · refine ⟨I, cQ.refl I, fun d R => ?_⟩
    have hw3 : kwithin x 0 2 = 0 := by have := kwi2 x; rw [h0] at this; exact this
    rw [h0, if_pos rfl, B116_0, sp154, hw3, kpush_s, B116_6, if_pos rfl, B116_9, c8_m2]
end JD
