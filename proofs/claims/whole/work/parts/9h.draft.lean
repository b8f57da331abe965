/-! an assize being read: pure -/
abbrev aDr : Type := (Nat) × (Nat) × (Nat → Nat) × (Nat → Nat) × (aNm) × (aSt) × (Nat) × (Nat) × (Nat → Nat) × (Nat → Nat) × (Nat → Nat)
def aDr.mk (nj : Nat) (nc : Nat) (kd : Nat → Nat) (gu : Nat → Nat) (N : aNm) (bg : aSt) (lt : Nat) (np : Nat) (pa : Nat → Nat) (pb : Nat → Nat) (ms : Nat → Nat) : aDr := (nj, nc, kd, gu, N, bg, lt, np, pa, pb, ms)
def aDr.nj (s : aDr) : Nat := s.1
def aDr.nc (s : aDr) : Nat := s.2.1
def aDr.kd (s : aDr) : Nat → Nat := s.2.2.1
def aDr.gu (s : aDr) : Nat → Nat := s.2.2.2.1
def aDr.N (s : aDr) : aNm := s.2.2.2.2.1
def aDr.bg (s : aDr) : aSt := s.2.2.2.2.2.1
def aDr.lt (s : aDr) : Nat := s.2.2.2.2.2.2.1
def aDr.np (s : aDr) : Nat := s.2.2.2.2.2.2.2.1
def aDr.pa (s : aDr) : Nat → Nat := s.2.2.2.2.2.2.2.2.1
def aDr.pb (s : aDr) : Nat → Nat := s.2.2.2.2.2.2.2.2.2.1
def aDr.ms (s : aDr) : Nat → Nat := s.2.2.2.2.2.2.2.2.2.2
/-- a name not told yet -/
def nwN (T : aTp) (D : aDr) (s : aPS) : aPS := if okN (kdO T s) then if fO D.N.j (tV T (pT T s.k)) D.nj < D.nj ∨ fO D.N.c (tV T (pT T s.k)) D.nc < D.nc then wrg T 3 s else stp s else wrg T 1 s
/-- a judge's kind -/
def tkK (T : aTp) (s : aPS) : aPS := if 139 ≤ kdO T s ∧ kdO T s ≤ 142 then stp s else wrg T 1 s
def nw1 (T : aTp) (D : aDr) (s : aPS) : aPS := nwN T D (stp s)
def jg2 (T : aTp) (D : aDr) (s : aPS) : aPS := iF (tkK T) (nw1 T D s)
def jg3 (T : aTp) (D : aDr) (s : aPS) : aPS := tak T 129 (jg2 T D s)
def jg4 (T : aTp) (D : aDr) (s : aPS) : aPS := iF (tkN T 20) (jg3 T D s)
def jgS (T : aTp) (D : aDr) (s : aPS) : aPS := tak T 59 (jg4 T D s)
def adJ (D : aDr) (v kd ln : Nat) : aDr := aDr.mk (D.nj + 1) D.nc (ku1 D.kd D.nj kd) D.gu (aNm.mk (ku1 D.N.j D.nj v) D.N.c) (lnd D.bg D.nj ln) D.lt D.np D.pa D.pb D.ms
def jgD (T : aTp) (D : aDr) (s : aPS) : aDr := adJ D (tV T (pT T (s.k + 1))) (kdO T (nw1 T D s) - 139) (tV T (pT T (jg3 T D s).k))
def cs2 (T : aTp) (D : aDr) (s : aPS) : aPS := tak T 131 (nw1 T D s)
def cs3 (T : aTp) (D : aDr) (s : aPS) : aPS := iF (tkN T 20) (cs2 T D s)
def cs4 (T : aTp) (D : aDr) (s : aPS) : aPS := tak T 132 (cs3 T D s)
def cs5 (T : aTp) (D : aDr) (s : aPS) : aPS := iF (tkN T 3) (cs4 T D s)
def csS (T : aTp) (D : aDr) (s : aPS) : aPS := tak T 59 (cs5 T D s)
def adC (D : aDr) (v gu day : Nat) : aDr := aDr.mk D.nj (D.nc + 1) D.kd (ku1 D.gu D.nc gu) (aNm.mk D.N.j (ku1 D.N.c D.nc v)) (pld D.bg D.nc day) D.lt D.np D.pa D.pb D.ms
def csD (T : aTp) (D : aDr) (s : aPS) : aDr := adC D (tV T (pT T (s.k + 1))) (tV T (pT T (cs2 T D s).k)) (tV T (pT T (cs4 T D s).k))
def ch1 (T : aTp) (D : aDr) (s : aPS) : aPS := tld T D.N.j D.nj 0 (stp s)
def chA (T : aTp) (D : aDr) (s : aPS) : Nat := fO D.N.j (tV T (pT T (s.k + 1))) D.nj
def ch2 (T : aTp) (D : aDr) (s : aPS) : aPS := iF (tld T D.N.j D.nj (D.ms (chA T D s) ||| 2 ^ chA T D s)) (ch1 T D s)
def chB (T : aTp) (D : aDr) (s : aPS) : Nat := fO D.N.j (tV T (pT T (ch1 T D s).k)) D.nj
def chS (T : aTp) (D : aDr) (s : aPS) : aPS := tak T 59 (ch2 T D s)
def prD (D : aDr) (a b : Nat) : aDr := aDr.mk D.nj D.nc D.kd D.gu D.N (chg D.bg a b) D.lt (D.np + 1) (ku1 D.pa D.np a) (ku1 D.pb D.np b) (ku1 (ku1 D.ms a (D.ms a ||| 2 ^ b)) b (D.ms b ||| 2 ^ a))
def dlS (T : aTp) (D : aDr) (s : aPS) : aPS := if D.lt = 0 then tak T 59 (who T (par T 5) (stp s)) else wrg T 3 s
def dlD (D : aDr) : aDr := aDr.mk D.nj D.nc D.kd D.gu D.N D.bg 1 D.np D.pa D.pb D.ms
/-- a line -/
def ayS (T : aTp) (D : aDr) (s : aPS) : aPS := if kdO T s = 128 then (if D.nj < 7 then jgS T D s else wrg T 5 s) else if kdO T s = 130 then (if D.nc < 7 then csS T D s else wrg T 5 s) else if kdO T s = 133 then chS T D s else if kdO T s = 134 then dlS T D s else wrg T 1 s
def ayD (T : aTp) (D : aDr) (s : aPS) : aDr := if (ayS T D s).F = 0 then (if kdO T s = 128 then jgD T D s else if kdO T s = 130 then csD T D s else if kdO T s = 133 then prD D (chA T D s) (chB T D s) else dlD D) else D
def rdA (T : aTp) : Nat → aPS × aDr → aPS × aDr
  | 0, p => p
  | f + 1, p => if p.1.F = 0 ∧ kdO T p.1 ≠ 0 then rdA T f (ayS T p.2 p.1, ayD T p.2 p.1) else p
theorem rdA_F {T : aTp} {p : aPS × aDr} (h : ¬ p.1.F = 0) : ∀ f, rdA T f p = p := by
  intro f
  cases f with
  | zero => rfl
  | succ f => rw [rdA, if_neg (fun z => h z.1)]
/-- the roll without its law -/
def rD (D : aDr) : aRl := aRl.mk D.nj D.nc D.kd D.gu 0 (fun _ => 0) (fun _ => 0)
/-- the roll with the law read -/
def rO (s : aPS) (D : aDr) : aRl := aRl.mk D.nj D.nc D.kd D.gu s.ll s.lo s.la
def cntP (ms : Nat → Nat) : Nat := nsum (fun i => bN (decide (i / 7 < i % 7) && (ms (i / 7)).testBit (i % 7))) 49
abbrev vDr (D : aDr) : Prop := (D.nj ≤ 7) ∧ (D.nc ≤ 7) ∧ (∀ k, k < 7 → D.kd k < 4) ∧ (∀ k, k < 7 → D.gu k ≤ 20) ∧ (vNm D.nj D.nc D.N) ∧ (vSt (rD D) D.bg) ∧ (D.bg.nx = 0) ∧ (D.bg.rd = 0) ∧ (∀ k, k < 7 → D.bg.hd k = 0) ∧ (D.bg.ch = (bgK D.bg.ln D.pa D.pb D.np).ch) ∧ (∀ k, k < D.np → D.pa k < D.nj) ∧ (∀ k, k < D.np → D.pb k < D.nj) ∧ (∀ a, a < 7 → D.ms a < 128) ∧ (∀ a b, a < 7 → b < 7 → (D.ms a).testBit b = (D.ms b).testBit a) ∧ (∀ a, a < 7 → (D.ms a).testBit a = false) ∧ (D.np = cntP D.ms)
theorem vDr.j {D : aDr} (h : vDr D) : D.nj ≤ 7 := h.1
theorem vDr.c {D : aDr} (h : vDr D) : D.nc ≤ 7 := h.2.1
theorem vDr.kd {D : aDr} (h : vDr D) : ∀ k, k < 7 → D.kd k < 4 := h.2.2.1
theorem vDr.gu {D : aDr} (h : vDr D) : ∀ k, k < 7 → D.gu k ≤ 20 := h.2.2.2.1
theorem vDr.nm {D : aDr} (h : vDr D) : vNm D.nj D.nc D.N := h.2.2.2.2.1
theorem vDr.st {D : aDr} (h : vDr D) : vSt (rD D) D.bg := h.2.2.2.2.2.1
theorem vDr.nx {D : aDr} (h : vDr D) : D.bg.nx = 0 := h.2.2.2.2.2.2.1
theorem vDr.rd {D : aDr} (h : vDr D) : D.bg.rd = 0 := h.2.2.2.2.2.2.2.1
theorem vDr.hd {D : aDr} (h : vDr D) : ∀ k, k < 7 → D.bg.hd k = 0 := h.2.2.2.2.2.2.2.2.1
theorem vDr.ch {D : aDr} (h : vDr D) : D.bg.ch = (bgK D.bg.ln D.pa D.pb D.np).ch := h.2.2.2.2.2.2.2.2.2.1
theorem vDr.al {D : aDr} (h : vDr D) : ∀ k, k < D.np → D.pa k < D.nj := h.2.2.2.2.2.2.2.2.2.2.1
theorem vDr.bl {D : aDr} (h : vDr D) : ∀ k, k < D.np → D.pb k < D.nj := h.2.2.2.2.2.2.2.2.2.2.2.1
theorem vDr.m7 {D : aDr} (h : vDr D) : ∀ a, a < 7 → D.ms a < 128 := h.2.2.2.2.2.2.2.2.2.2.2.2.1
theorem vDr.sy {D : aDr} (h : vDr D) : ∀ a b, a < 7 → b < 7 → (D.ms a).testBit b = (D.ms b).testBit a := h.2.2.2.2.2.2.2.2.2.2.2.2.2.1
theorem vDr.dg {D : aDr} (h : vDr D) : ∀ a, a < 7 → (D.ms a).testBit a = false := h.2.2.2.2.2.2.2.2.2.2.2.2.2.2.1
theorem vDr.ct {D : aDr} (h : vDr D) : D.np = cntP D.ms := h.2.2.2.2.2.2.2.2.2.2.2.2.2.2.2
theorem lwf_0 {r : aRl} (h : r.ll = 0) : lwf r := ⟨by omega, fun n hn => by omega, fun n hn => by omega, fun n hn => by omega, fun n hn => by omega, fun n hn => by omega, fun n hn => by rw [show n = 0 by omega]; show 0 ≤ 31; omega, fun hn => by omega⟩
theorem vDr.r {D : aDr} (h : vDr D) : vRl (rD D) := ⟨h.j, h.c, h.kd, h.gu, lwf_0 rfl⟩
theorem nsum_mo {f g : Nat → Nat} : ∀ n, (∀ i, i < n → f i ≤ g i) → nsum f n ≤ nsum g n := by
  intro n
  induction n with
  | zero => intro _; exact Nat.le_refl _
  | succ n ih => intro h; rw [nsum, nsum]; have := ih (fun i hi => h i (by omega)); have := h n (by omega); omega
theorem cnt_21 (ms : Nat → Nat) : cntP ms ≤ 21 := by
  have h : cntP ms ≤ nsum (fun i => bN (decide (i / 7 < i % 7))) 49 := by
    refine nsum_mo 49 (fun i _ => ?_)
    show bN (_ && _) ≤ bN _
    cases decide (i / 7 < i % 7) <;> cases (ms (i / 7)).testBit (i % 7) <;> decide
  have e : nsum (fun i => bN (decide (i / 7 < i % 7))) 49 = 21 := by decide
  omega
theorem nsum_one {f g : Nat → Nat} {c : Nat} : ∀ n, c < n → (∀ i, i < n → i ≠ c → f i = g i) → f c = g c + 1 → nsum f n = nsum g n + 1 := by
  intro n
  induction n with
  | zero => intro h; omega
  | succ n ih =>
    intro hc h e
    rw [nsum, nsum]
    by_cases q : c = n
    · rw [← q, e]
      have e2 : nsum f c = nsum g c := by
        have key : ∀ m, m ≤ c → nsum f m = nsum g m := by
          intro m
          induction m with
          | zero => intro _; rfl
          | succ m ihm => intro hm; rw [nsum, nsum, ihm (by omega), h m (by omega) (by omega)]
        exact key c (Nat.le_refl _)
      omega
    · have := ih (by omega) (fun i hi => h i (by omega)) e
      have := h n (by omega) (Ne.symm q)
      omega
theorem msN {ms : Nat → Nat} {a b x y : Nat} (hab : a ≠ b) (hb : b < 7) (ha : a < 7) (hx : x < 7) (hy : y < 7) : (ku1 (ku1 ms a (ms a ||| 2 ^ b)) b (ms b ||| 2 ^ a) x).testBit y = ((ms x).testBit y || decide ((x = a ∧ y = b) ∨ (x = b ∧ y = a))) := by
  by_cases e1 : x = b
  · subst e1
    rw [ku1_s, Nat.testBit_or, tb_two]
    congr 1
    exact decide_eq_decide.mpr ⟨fun h => Or.inr ⟨rfl, h.symm⟩, fun h => by omega⟩
  · rw [ku1_n e1]
    by_cases e2 : x = a
    · subst e2
      rw [ku1_s, Nat.testBit_or, tb_two]
      congr 1
      exact decide_eq_decide.mpr ⟨fun h => Or.inl ⟨rfl, h.symm⟩, fun h => by omega⟩
    · rw [ku1_n e2, decide_eq_false (by omega), Bool.or_false]
theorem cnt_add {ms : Nat → Nat} {a b : Nat} (hab : a ≠ b) (ha : a < 7) (hb : b < 7) (sy : ∀ a b, a < 7 → b < 7 → (ms a).testBit b = (ms b).testBit a) (hn : (ms a).testBit b = false) : cntP (ku1 (ku1 ms a (ms a ||| 2 ^ b)) b (ms b ||| 2 ^ a)) = cntP ms + 1 := by
  unfold cntP
  have hlt : min a b < max a b := by omega
  have hmx : max a b < 7 := by omega
  have e1 : (7 * min a b + max a b) / 7 = min a b := by omega
  have e2 : (7 * min a b + max a b) % 7 = max a b := by omega
  have hf : (ms (min a b)).testBit (max a b) = false := by
    by_cases q : a < b
    · rw [show min a b = a by omega, show max a b = b by omega]; exact hn
    · rw [show min a b = b by omega, show max a b = a by omega, sy b a hb ha]; exact hn
  refine nsum_one (c := 7 * min a b + max a b) 49 (by omega) (fun i hi hic => ?_) ?_
  · have h1 : i / 7 < 7 := by omega
    have h2 : i % 7 < 7 := by omega
    show bN (_ && _) = bN (_ && _)
    rw [msN hab hb ha h1 h2]
    by_cases q : i / 7 < i % 7
    · have q2 : ¬ ((i / 7 = a ∧ i % 7 = b) ∨ (i / 7 = b ∧ i % 7 = a)) := by omega
      rw [decide_eq_false q2, Bool.or_false]
    · rw [decide_eq_false q, Bool.false_and, Bool.false_and]
  · show bN (_ && _) = bN (_ && _) + 1
    rw [e1, e2, msN hab hb ha (by omega) hmx, hf, decide_eq_true hlt, decide_eq_true (show (min a b = a ∧ max a b = b) ∨ (min a b = b ∧ max a b = a) by omega)]
    rfl
theorem bgK_ch (ln ln' pa pb : Nat → Nat) : ∀ k, (bgK ln pa pb k).ch = (bgK ln' pa pb k).ch := by
  intro k
  induction k with
  | zero => rfl
  | succ k ih =>
    show ku1 (ku1 (bgK ln pa pb k).ch (chO (bgK ln pa pb k).ch (pa k)) (pb k)) (chO (bgK ln pa pb k).ch (pb k)) (pa k) = ku1 (ku1 (bgK ln' pa pb k).ch (chO (bgK ln' pa pb k).ch (pa k)) (pb k)) (chO (bgK ln' pa pb k).ch (pb k)) (pa k)
    rw [ih]
theorem bgK_ext {ln pa pb pa' pb' : Nat → Nat} : ∀ n, (∀ k, k < n → pa k = pa' k ∧ pb k = pb' k) → (bgK ln pa pb n).ch = (bgK ln pa' pb' n).ch := by
  intro n
  induction n with
  | zero => intro _; rfl
  | succ k ih =>
    intro h
    have e := ih (fun j hj => h j (by omega))
    obtain ⟨h1, h2⟩ := h k (by omega)
    show ku1 (ku1 (bgK ln pa pb k).ch (chO (bgK ln pa pb k).ch (pa k)) (pb k)) (chO (bgK ln pa pb k).ch (pb k)) (pa k) = ku1 (ku1 (bgK ln pa' pb' k).ch (chO (bgK ln pa' pb' k).ch (pa' k)) (pb' k)) (chO (bgK ln pa' pb' k).ch (pb' k)) (pa' k)
    rw [e, h1, h2]
/-- two judges change chairs as it is told -/
theorem prD_v {D : aDr} (h : vDr D) {a b : Nat} (ha : a < D.nj) (hb : b < D.nj) (hab : a ≠ b) (hn : (D.ms a).testBit b = false) : vDr (prD D a b) := by
  have h7 := h.j
  have e : ∀ x y, x < 7 → y < 7 → ((prD D a b).ms x).testBit y = ((D.ms x).testBit y || decide ((x = a ∧ y = b) ∨ (x = b ∧ y = a))) := fun x y hx hy => msN hab (by omega) (by omega) hx hy
  have hs := chg_v h.r h.st ha hb
  refine ⟨h.j, h.c, h.kd, h.gu, h.nm, ⟨hs.nx, hs.hd, hs.h0, hs.up, hs.ln, hs.ch, hs.cj, hs.ci⟩, h.nx, h.rd, h.hd, ?_, fun k hk => ?_, fun k hk => ?_, fun x hx => ?_, fun x y hx hy => ?_, fun x hx => ?_, ?_⟩
  · show ku1 (ku1 D.bg.ch (chO D.bg.ch a) b) (chO D.bg.ch b) a = (chg (bgK D.bg.ln (ku1 D.pa D.np a) (ku1 D.pb D.np b) D.np) (ku1 D.pa D.np a D.np) (ku1 D.pb D.np b D.np)).ch
    have ex : (bgK D.bg.ln (ku1 D.pa D.np a) (ku1 D.pb D.np b) D.np).ch = D.bg.ch := by
      rw [h.ch]
      exact bgK_ext D.np (fun k hk => ⟨ku1_n (by omega), ku1_n (by omega)⟩)
    rw [ku1_s, ku1_s]
    show _ = ku1 (ku1 (bgK D.bg.ln (ku1 D.pa D.np a) (ku1 D.pb D.np b) D.np).ch (chO (bgK D.bg.ln (ku1 D.pa D.np a) (ku1 D.pb D.np b) D.np).ch a) b) (chO (bgK D.bg.ln (ku1 D.pa D.np a) (ku1 D.pb D.np b) D.np).ch b) a
    rw [ex]
  · have hk' : k < D.np + 1 := hk
    show ku1 D.pa D.np a k < D.nj
    by_cases q : k = D.np
    · rw [q, ku1_s]; exact ha
    · rw [ku1_n q]; exact h.al k (by omega)
  · have hk' : k < D.np + 1 := hk
    show ku1 D.pb D.np b k < D.nj
    by_cases q : k = D.np
    · rw [q, ku1_s]; exact hb
    · rw [ku1_n q]; exact h.bl k (by omega)
  · show ku1 (ku1 D.ms a (D.ms a ||| 2 ^ b)) b (D.ms b ||| 2 ^ a) x < 128
    by_cases q : x = b
    · rw [q, ku1_s]; exact or_lt (m := 7) (h.m7 b (by omega)) (by omega)
    · rw [ku1_n q]
      by_cases q2 : x = a
      · rw [q2, ku1_s]; exact or_lt (m := 7) (h.m7 a (by omega)) (by omega)
      · rw [ku1_n q2]; exact h.m7 x hx
  · rw [e x y hx hy, e y x hy hx, h.sy x y hx hy]
    congr 1
    exact decide_eq_decide.mpr ⟨fun z => by omega, fun z => by omega⟩
  · rw [e x x hx hx, h.dg x hx, decide_eq_false (by omega)]; rfl
  · show D.np + 1 = cntP (ku1 (ku1 D.ms a (D.ms a ||| 2 ^ b)) b (D.ms b ||| 2 ^ a))
    rw [cnt_add hab (by omega) (by omega) h.sy hn, h.ct]
theorem bgK_id {D : aDr} (h : vDr D) : ∀ n, n ≤ D.np → ∀ k, D.nj ≤ k → (bgK D.bg.ln D.pa D.pb n).ch k = k := by
  intro n
  induction n with
  | zero => intro _ k _; rfl
  | succ n ih =>
    intro hn k hk
    have hv := bgK_v h.r h.st.ln h.al h.bl n (by omega)
    obtain ⟨a1, a2⟩ := chO_ok h.r hv (h.al n (by omega))
    obtain ⟨b1, b2⟩ := chO_ok h.r hv (h.bl n (by omega))
    have a2' : chO (bgK D.bg.ln D.pa D.pb n).ch (D.pa n) < D.nj := by first | exact a2 | exact a1
    have b2' : chO (bgK D.bg.ln D.pa D.pb n).ch (D.pb n) < D.nj := by first | exact b2 | exact b1
    show ku1 (ku1 (bgK D.bg.ln D.pa D.pb n).ch (chO (bgK D.bg.ln D.pa D.pb n).ch (D.pa n)) (D.pb n)) (chO (bgK D.bg.ln D.pa D.pb n).ch (D.pb n)) (D.pa n) k = k
    rw [ku1_n (by omega), ku1_n (by omega)]
    exact ih (by omega) k hk
theorem vNm_j {nj nc v : Nat} {N : aNm} (h : vNm nj nc N) (hv : vWd v) (h1 : ∀ i, i < nj → N.j i ≠ v) (h2 : ∀ i, i < nc → N.c i ≠ v) : vNm (nj + 1) nc (aNm.mk (ku1 N.j nj v) N.c) := by
  have g : ∀ i, i < nj → ku1 N.j nj v i = N.j i := fun i hi => ku1_n (by omega)
  refine ⟨fun i hi => ?_, h.vc, fun i k hi hk e => ?_, h.ic, fun i k hi hk e => ?_⟩
  · show vWd (ku1 N.j nj v i)
    by_cases q : i = nj
    · rw [q, ku1_s]; exact hv
    · rw [g i (by omega)]; exact h.vj i (by omega)
  · have e' : ku1 N.j nj v i = ku1 N.j nj v k := e
    by_cases q : i = nj
    · by_cases q2 : k = nj
      · omega
      · rw [q, ku1_s, g k (by omega)] at e'
        exact absurd e'.symm (h1 k (by omega))
    · by_cases q2 : k = nj
      · rw [q2, ku1_s, g i (by omega)] at e'
        exact absurd e' (h1 i (by omega))
      · rw [g i (by omega), g k (by omega)] at e'
        exact h.ij i k (by omega) (by omega) e'
  · have e' : ku1 N.j nj v i = N.c k := e
    by_cases q : i = nj
    · rw [q, ku1_s] at e'
      exact h2 k hk e'.symm
    · rw [g i (by omega)] at e'
      exact h.dj i k (by omega) hk e'
theorem vNm_c {nj nc v : Nat} {N : aNm} (h : vNm nj nc N) (hv : vWd v) (h1 : ∀ i, i < nj → N.j i ≠ v) (h2 : ∀ i, i < nc → N.c i ≠ v) : vNm nj (nc + 1) (aNm.mk N.j (ku1 N.c nc v)) := by
  have g : ∀ i, i < nc → ku1 N.c nc v i = N.c i := fun i hi => ku1_n (by omega)
  refine ⟨h.vj, fun i hi => ?_, h.ij, fun i k hi hk e => ?_, fun i k hi hk e => ?_⟩
  · show vWd (ku1 N.c nc v i)
    by_cases q : i = nc
    · rw [q, ku1_s]; exact hv
    · rw [g i (by omega)]; exact h.vc i (by omega)
  · have e' : ku1 N.c nc v i = ku1 N.c nc v k := e
    by_cases q : i = nc
    · by_cases q2 : k = nc
      · omega
      · rw [q, ku1_s, g k (by omega)] at e'
        exact absurd e'.symm (h2 k (by omega))
    · by_cases q2 : k = nc
      · rw [q2, ku1_s, g i (by omega)] at e'
        exact absurd e' (h2 i (by omega))
      · rw [g i (by omega), g k (by omega)] at e'
        exact h.ic i k (by omega) (by omega) e'
  · have e' : N.j i = ku1 N.c nc v k := e
    by_cases q : k = nc
    · rw [q, ku1_s] at e'
      exact h1 i hi e'
    · rw [g k (by omega)] at e'
      exact h.dj i k hi (by omega) e'
theorem adJ_v {D : aDr} {v kd ln : Nat} (h : vDr D) (hn : D.nj < 7) (hv : vWd v) (h1 : ∀ i, i < D.nj → D.N.j i ≠ v) (h2 : ∀ i, i < D.nc → D.N.c i ≠ v) (hk : kd < 4) (hl : ln ≤ 20) : vDr (adJ D v kd ln) := by
  have hid : D.bg.ch D.nj = D.nj := by rw [h.ch]; exact bgK_id h D.np (Nat.le_refl _) D.nj (Nat.le_refl _)
  refine ⟨hn, h.c, fun k hk' => ?_, h.gu, vNm_j h.nm hv h1 h2, ⟨h.st.nx, h.st.hd, h.st.h0, h.st.up, fun k hk' => ?_, h.st.ch, fun k hk' => ?_, h.st.ci⟩, h.nx, h.rd, h.hd, ?_, fun k hk' => ?_, fun k hk' => ?_, h.m7, h.sy, h.dg, h.ct⟩
  · show ku1 D.kd D.nj kd k < 4
    by_cases q : k = D.nj
    · rw [q, ku1_s]; exact hk
    · rw [ku1_n q]; exact h.kd k hk'
  · show ku1 D.bg.ln D.nj ln k ≤ 20
    by_cases q : k = D.nj
    · rw [q, ku1_s]; exact hl
    · rw [ku1_n q]; exact h.st.ln k hk'
  · have hk2 : k < D.nj + 1 := hk'
    show D.bg.ch k < D.nj + 1
    by_cases q : k = D.nj
    · rw [q, hid]; omega
    · have := h.st.cj k (show k < D.nj by omega)
      have this' : D.bg.ch k < D.nj := this
      omega
  · show D.bg.ch = (bgK (ku1 D.bg.ln D.nj ln) D.pa D.pb D.np).ch
    rw [bgK_ch _ D.bg.ln]; exact h.ch
  · show D.pa k < D.nj + 1
    have := h.al k hk'
    omega
  · show D.pb k < D.nj + 1
    have := h.bl k hk'
    omega
theorem adC_v {D : aDr} {v gu day : Nat} (h : vDr D) (hn : D.nc < 7) (hv : vWd v) (h1 : ∀ i, i < D.nj → D.N.j i ≠ v) (h2 : ∀ i, i < D.nc → D.N.c i ≠ v) (hk : gu ≤ 20) (hl : day < 4) : vDr (adC D v gu day) := by
  refine ⟨h.j, hn, h.kd, fun k hk' => ?_, vNm_c h.nm hv h1 h2, ⟨h.st.nx, h.st.hd, fun k hk' _ => h.hd k hk', fun k hk' => ?_, h.st.ln, h.st.ch, h.st.cj, h.st.ci⟩, h.nx, h.rd, h.hd, h.ch, h.al, h.bl, h.m7, h.sy, h.dg, h.ct⟩
  · show ku1 D.gu D.nc gu k ≤ 20
    by_cases q : k = D.nc
    · rw [q, ku1_s]; exact hk
    · rw [ku1_n q]; exact h.gu k hk'
  · show ku1 D.bg.up D.nc day k < 4
    by_cases q : k = D.nc
    · rw [q, ku1_s]; exact hl
    · rw [ku1_n q]; exact h.st.up k hk'
theorem dlD_v {D : aDr} (h : vDr D) : vDr (dlD D) := ⟨h.j, h.c, h.kd, h.gu, h.nm, ⟨h.st.nx, h.st.hd, h.st.h0, h.st.up, h.st.ln, h.st.ch, h.st.cj, h.st.ci⟩, h.nx, h.rd, h.hd, h.ch, h.al, h.bl, h.m7, h.sy, h.dg, h.ct⟩
