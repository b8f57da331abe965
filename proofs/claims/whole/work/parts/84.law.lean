/-! the law, read: pure -/
abbrev aPS : Type := (Nat) × (Nat) × (Nat) × (Nat → Nat) × (Nat → Nat)
def aPS.mk (k : Nat) (F : Nat) (ll : Nat) (lo : Nat → Nat) (la : Nat → Nat) : aPS := (k, F, ll, lo, la)
def aPS.k (s : aPS) : Nat := s.1
def aPS.F (s : aPS) : Nat := s.2.1
def aPS.ll (s : aPS) : Nat := s.2.2.1
def aPS.lo (s : aPS) : Nat → Nat := s.2.2.2.1
def aPS.la (s : aPS) : Nat → Nat := s.2.2.2.2
/-- the kind of the token that stands next -/
def kdO (T : aTp) (s : aPS) : Nat := tK T (pT T s.k)
def stp (s : aPS) : aPS := aPS.mk (s.k + 1) s.F s.ll s.lo s.la
def wrg (T : aTp) (c : Nat) (s : aPS) : aPS := aPS.mk s.k (if s.F = 0 then c + 16 * pT T s.k else s.F) s.ll s.lo s.la
def emi (o a : Nat) (s : aPS) : aPS := aPS.mk s.k s.F (s.ll + 1) (ku1 s.lo s.ll o) (ku1 s.la s.ll a)
def tak (T : aTp) (c : Nat) (s : aPS) : aPS := if s.F = 0 then if kdO T s = c then stp s else wrg T 1 s else s
def lop (T : aTp) (op : Nat → Nat) (one : aPS → aPS) : Nat → aPS → aPS
  | 0, s => s
  | f + 1, s => if s.F = 0 ∧ op (kdO T s) ≠ 0 then lop T op one f (emi (op (kdO T s)) 0 (one (stp s))) else s
def oP (K : Nat) : Nat := if K = 42 then 6 else 0
def oS (K : Nat) : Nat := if K = 43 then 4 else if K = 45 then 5 else 0
def oT (K : Nat) : Nat := if K = 60 then 7 else if K = 61 then 8 else 0
def oW (K : Nat) : Nat := if K = 144 then 9 else if K = 145 then 10 else 0
def prd (T : aTp) (one : aPS → aPS) (s : aPS) : aPS := lop T oP one 1000 (one s)
def sms (T : aTp) (one : aPS → aPS) (s : aPS) : aPS := lop T oS (prd T one) 1000 (prd T one s)
def tst (T : aTp) (one : aPS → aPS) (s : aPS) : aPS := lop T oT (sms T one) 1 (sms T one s)
def who (T : aTp) (one : aPS → aPS) (s : aPS) : aPS := lop T oW (tst T one) 1000 (tst T one s)
abbrev okF (K : Nat) : Prop := 146 ≤ K ∧ K ≤ 149
abbrev okP (K : Nat) : Prop := K = 2 ∨ okF K ∨ K = 143 ∨ K = 40
/-- a part; f: 5 less its depth -/
def par (T : aTp) : Nat → aPS → aPS
  | 0, s => if okP (kdO T s) then wrg T 5 s else wrg T 1 s
  | f + 1, s => if okP (kdO T s) then if kdO T s = 2 then stp (emi 1 (tV T (pT T s.k)) s) else if okF (kdO T s) then stp (emi 2 (kdO T s - 146) s) else if kdO T s = 40 then tak T 41 (who T (par T f) (stp s)) else emi 3 0 (par T f (stp s)) else wrg T 1 s
/-- from s to s': tokens taken, steps laid down, at most one for one (but c) -/
abbrev avn (T : aTp) (c : Nat) (s u : aPS) : Prop := (s.k ≤ u.k) ∧ (u.k ≤ nT T) ∧ (s.ll ≤ u.ll) ∧ (u.ll + s.k + c ≤ u.k + s.ll) ∧ (∀ n, n < s.ll → u.lo n = s.lo n ∧ u.la n = s.la n) ∧ (s.F ≠ 0 → u.F ≠ 0)
theorem avn.k {T : aTp} {c : Nat} {s u : aPS} (h : avn T c s u) : s.k ≤ u.k := h.1
theorem avn.n {T : aTp} {c : Nat} {s u : aPS} (h : avn T c s u) : u.k ≤ nT T := h.2.1
theorem avn.l {T : aTp} {c : Nat} {s u : aPS} (h : avn T c s u) : s.ll ≤ u.ll := h.2.2.1
theorem avn.b {T : aTp} {c : Nat} {s u : aPS} (h : avn T c s u) : u.ll + s.k + c ≤ u.k + s.ll := h.2.2.2.1
theorem avn.o {T : aTp} {c : Nat} {s u : aPS} (h : avn T c s u) : ∀ n, n < s.ll → u.lo n = s.lo n ∧ u.la n = s.la n := h.2.2.2.2.1
theorem avn.f {T : aTp} {c : Nat} {s u : aPS} (h : avn T c s u) : s.F ≠ 0 → u.F ≠ 0 := h.2.2.2.2.2
theorem avn.trans {T : aTp} {c c' : Nat} {s s' s2 : aPS} (h : avn T c s s') (h2 : avn T c' s' s2) : avn T (c + c') s s2 := by
  have h1k := h.k
  have h2k := h2.k
  have h1l := h.l
  have h2l := h2.l
  have h1b := h.b
  have h2b := h2.b
  refine ⟨by omega, h2.n, by omega, by omega, fun n hn => ?_, fun q => h2.f (h.f q)⟩
  have a := h.o n hn
  have b := h2.o n (by omega)
  exact ⟨by rw [b.1, a.1], by rw [b.2, a.2]⟩
theorem avn.refl {T : aTp} {s : aPS} (h : s.k ≤ nT T) : avn T 0 s s := ⟨Nat.le_refl _, h, Nat.le_refl _, by omega, fun _ _ => ⟨rfl, rfl⟩, fun q => q⟩
theorem avn_wrg {T : aTp} {c : Nat} {s : aPS} (h : s.k ≤ nT T) : avn T 0 s (wrg T c s) := ⟨Nat.le_refl _, h, Nat.le_refl _, by show s.ll + s.k + 0 ≤ s.k + s.ll; omega, fun _ _ => ⟨rfl, rfl⟩, fun q => by
  show (if s.F = 0 then c + 16 * pT T s.k else s.F) ≠ 0
  rw [if_neg q]; exact q⟩
theorem kdO_lt {T : aTp} {s : aPS} (h : s.k ≤ nT T) (q : kdO T s ≠ 0) : s.k < nT T := by
  refine Classical.byContradiction (fun z => q ?_)
  have e : s.k = nT T := by omega
  unfold kdO tK
  rw [e, (nT_ok T).2.2, if_neg (Nat.lt_irrefl _)]
theorem avn_stp {T : aTp} {s : aPS} (h : s.k < nT T) : avn T 1 s (stp s) := ⟨Nat.le_succ _, h, Nat.le_refl _, by show s.ll + s.k + 1 ≤ s.k + 1 + s.ll; omega, fun _ _ => ⟨rfl, rfl⟩, fun q => q⟩
theorem avn_emi {T : aTp} {c o a : Nat} {s s' : aPS} (h : avn T (c + 1) s s') : avn T c s (emi o a s') := by
  have hl := h.l
  have hb := h.b
  refine ⟨h.k, h.n, by show s.ll ≤ s'.ll + 1; omega, by show s'.ll + 1 + s.k + c ≤ s'.k + s.ll; omega, fun n hn => ?_, h.f⟩
  show ku1 s'.lo s'.ll o n = _ ∧ ku1 s'.la s'.ll a n = _
  rw [ku1_n (by omega), ku1_n (by omega)]
  exact h.o n hn
theorem avn_tak {T : aTp} {c : Nat} {s : aPS} (h : s.k ≤ nT T) (hc : c ≠ 0) : avn T 0 s (tak T c s) := by
  unfold tak
  by_cases q : s.F = 0
  · rw [if_pos q]
    by_cases q2 : kdO T s = c
    · rw [if_pos q2]
      have a := avn_stp (kdO_lt h (by omega))
      exact ⟨a.k, a.n, a.l, by have := a.b; omega, a.o, a.f⟩
    · rw [if_neg q2]; exact avn_wrg h
  · rw [if_neg q]; exact avn.refl h
abbrev aGo (T : aTp) (one : aPS → aPS) : Prop := ∀ s, s.k ≤ nT T → avn T 0 s (one s)
abbrev opz (op : Nat → Nat) : Prop := op 0 = 0
theorem avn_lop {T : aTp} {op : Nat → Nat} {one : aPS → aPS} (ho : opz op) (h : aGo T one) : ∀ f s, s.k ≤ nT T → avn T 0 s (lop T op one f s) := by
  intro f
  induction f with
  | zero => intro s hs; exact avn.refl hs
  | succ f ih =>
    intro s hs
    rw [lop]
    by_cases q : s.F = 0 ∧ op (kdO T s) ≠ 0
    · rw [if_pos q]
      have hk := kdO_lt hs (fun e => q.2 (by rw [e]; exact ho))
      have a := avn_stp hk
      have b := h (stp s) a.n
      have e := avn_emi (o := op (kdO T s)) (a := 0) (c := 0) (a.trans b)
      exact e.trans (ih _ e.n)
    · rw [if_neg q]; exact avn.refl hs
theorem avn_prd {T : aTp} {one : aPS → aPS} (h : aGo T one) : aGo T (prd T one) := fun s hs => (h s hs).trans (avn_lop rfl h 1000 _ (h s hs).n)
theorem avn_sms {T : aTp} {one : aPS → aPS} (h : aGo T one) : aGo T (sms T one) := fun s hs => (avn_prd h s hs).trans (avn_lop rfl (avn_prd h) 1000 _ (avn_prd h s hs).n)
theorem avn_tst {T : aTp} {one : aPS → aPS} (h : aGo T one) : aGo T (tst T one) := fun s hs => (avn_sms h s hs).trans (avn_lop rfl (avn_sms h) 1 _ (avn_sms h s hs).n)
theorem avn_who {T : aTp} {one : aPS → aPS} (h : aGo T one) : aGo T (who T one) := fun s hs => (avn_tst h s hs).trans (avn_lop rfl (avn_tst h) 1000 _ (avn_tst h s hs).n)
theorem avn_par {T : aTp} : ∀ f, aGo T (par T f) := by
  intro f
  induction f with
  | zero =>
    intro s hs
    rw [par]
    by_cases q : okP (kdO T s)
    · rw [if_pos q]; exact avn_wrg hs
    · rw [if_neg q]; exact avn_wrg hs
  | succ f ih =>
    intro s hs
    rw [par]
    by_cases q : okP (kdO T s)
    · rw [if_pos q]
      have hk := kdO_lt hs (fun e => by rw [e] at q; unfold okP okF at q; omega)
      have a := avn_stp hk
      by_cases q1 : kdO T s = 2
      · rw [if_pos q1]
        exact avn_emi a
      · rw [if_neg q1]
        by_cases q2 : okF (kdO T s)
        · rw [if_pos q2]
          exact avn_emi a
        · rw [if_neg q2]
          by_cases q3 : kdO T s = 40
          · rw [if_pos q3]
            have b := avn_who ih (stp s) a.n
            have c := a.trans (b.trans (avn_tak (c := 41) b.n (by omega)))
            exact ⟨c.k, c.n, c.l, by have := c.b; omega, c.o, c.f⟩
          · rw [if_neg q3]
            exact avn_emi (a.trans (ih (stp s) a.n))
    · rw [if_neg q]; exact avn_wrg hs
