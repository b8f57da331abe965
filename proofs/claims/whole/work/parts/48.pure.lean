/-! THE DAY, PURE: both sides are held against these -/
abbrev aSt : Type := (Nat) × (Int32) × (Nat → Nat) × (Nat → Nat) × (Nat → Nat) × (Nat → Nat)
def aSt.mk (nx : Nat) (rd : Int32) (hd : Nat → Nat) (up : Nat → Nat) (ln : Nat → Nat) (ch : Nat → Nat) : aSt := (nx, rd, hd, up, ln, ch)
def aSt.nx (s : aSt) : Nat := s.1
def aSt.rd (s : aSt) : Int32 := s.2.1
def aSt.hd (s : aSt) : Nat → Nat := s.2.2.1
def aSt.up (s : aSt) : Nat → Nat := s.2.2.2.1
def aSt.ln (s : aSt) : Nat → Nat := s.2.2.2.2.1
def aSt.ch (s : aSt) : Nat → Nat := s.2.2.2.2.2
abbrev aRl : Type := (Nat) × (Nat) × (Nat → Nat) × (Nat → Nat) × (Nat) × (Nat → Nat) × (Nat → Nat)
def aRl.mk (nj : Nat) (nc : Nat) (kd : Nat → Nat) (gu : Nat → Nat) (ll : Nat) (lo : Nat → Nat) (la : Nat → Nat) : aRl := (nj, nc, kd, gu, ll, lo, la)
def aRl.nj (s : aRl) : Nat := s.1
def aRl.nc (s : aRl) : Nat := s.2.1
def aRl.kd (s : aRl) : Nat → Nat := s.2.2.1
def aRl.gu (s : aRl) : Nat → Nat := s.2.2.2.1
def aRl.ll (s : aRl) : Nat := s.2.2.2.2.1
def aRl.lo (s : aRl) : Nat → Nat := s.2.2.2.2.2.1
def aRl.la (s : aRl) : Nat → Nat := s.2.2.2.2.2.2
theorem ku1_s (f : Nat → Nat) (k x : Nat) : ku1 f k x k = x := by simp [ku1]
theorem ku1_n {f : Nat → Nat} {k x j : Nat} (h : j ≠ k) : ku1 f k x j = f j := by simp [ku1, h]
/-- what a judge of a kind gives -/
def vd (k g l : Nat) : Nat := if k = 3 then 10 else if k = 1 then min (g + l + 5 - 10) 40 else if k = 2 then min ((g + l - 10) / 2) 40 else min (g + l - 10) 40
theorem vd_le (k g l : Nat) : vd k g l ≤ 40 := by
  unfold vd
  repeat' split
  all_goals omega
theorem kverd_vd {k g l : Nat} (hk : k < 4) (hg : g ≤ 20) (hl : l ≤ 20) : kverd (nI k) (nI g) (nI l) = nI (vd k g l) := by
  have key : ∀ k : Fin 4, ∀ g : Fin 21, ∀ l : Fin 21, kverd (nI k.val) (nI g.val) (nI l.val) = nI (vd k.val g.val l.val) := by decide +kernel
  exact key ⟨k, hk⟩ ⟨g, by omega⟩ ⟨l, by omega⟩
/-- what the law's steps do, two at a time -/
def jn (o : Nat) (x y : Int32) : Int32 := if o = 4 then x + y else if o = 5 then x - y else if o = 6 then x * y else if o = 7 then (if x < y then 1 else 0) else if o = 8 then (if x = y then 1 else 0) else if o = 9 then (if x = 0 then 0 else if y = 0 then 0 else 1) else (if x = 0 then (if y = 0 then 0 else 1) else 1)
def fct (k : Nat) (n1 n2 n3 n4 : Int32) : Int32 := if k = 0 then n1 else if k = 1 then n2 else if k = 2 then n3 else n4
/-- how high the pile is behind n steps -/
def lH (lo : Nat → Nat) : Nat → Nat
  | 0 => 0
  | n + 1 => if lo n = 1 ∨ lo n = 2 then lH lo n + 1 else if lo n = 3 then lH lo n else lH lo n - 1
def kuf (f : Nat → Int32) (k : Nat) (x : Int32) : Nat → Int32 := fun j => if j = k then x else f j
theorem kuf_s (f : Nat → Int32) (k : Nat) (x : Int32) : kuf f k x k = x := by simp [kuf]
theorem kuf_n {f : Nat → Int32} {k j : Nat} {x : Int32} (h : j ≠ k) : kuf f k x j = f j := by simp [kuf, h]
/-- the pile behind n steps -/
def lS (lo la : Nat → Nat) (n1 n2 n3 n4 : Int32) : Nat → Nat → Int32
  | 0 => fun _ => 0
  | n + 1 => if lo n = 1 then kuf (lS lo la n1 n2 n3 n4 n) (lH lo n) (nI (la n)) else if lo n = 2 then kuf (lS lo la n1 n2 n3 n4 n) (lH lo n) (fct (la n) n1 n2 n3 n4) else if lo n = 3 then kuf (lS lo la n1 n2 n3 n4 n) (lH lo n - 1) (if lS lo la n1 n2 n3 n4 n (lH lo n - 1) = 0 then 1 else 0) else kuf (lS lo la n1 n2 n3 n4 n) (lH lo n - 2) (jn (lo n) (lS lo la n1 n2 n3 n4 n (lH lo n - 2)) (lS lo la n1 n2 n3 n4 n (lH lo n - 1)))
/-- the law is well made -/
abbrev lwf (r : aRl) : Prop := (r.ll ≤ 1000) ∧ (∀ n, n < r.ll → 1 ≤ r.lo n ∧ r.lo n ≤ 10) ∧ (∀ n, n < r.ll → r.lo n = 1 → r.la n ≤ 9999) ∧ (∀ n, n < r.ll → r.lo n = 2 → r.la n ≤ 3) ∧ (∀ n, n < r.ll → r.lo n = 3 → 1 ≤ lH r.lo n) ∧ (∀ n, n < r.ll → 4 ≤ r.lo n → 2 ≤ lH r.lo n) ∧ (∀ n, n ≤ r.ll → lH r.lo n ≤ 31) ∧ (0 < r.ll → 1 ≤ lH r.lo r.ll)
theorem lwf.len {r : aRl} (h : lwf r) : r.ll ≤ 1000 := h.1
theorem lwf.op {r : aRl} (h : lwf r) : ∀ n, n < r.ll → 1 ≤ r.lo n ∧ r.lo n ≤ 10 := h.2.1
theorem lwf.nu {r : aRl} (h : lwf r) : ∀ n, n < r.ll → r.lo n = 1 → r.la n ≤ 9999 := h.2.2.1
theorem lwf.fc {r : aRl} (h : lwf r) : ∀ n, n < r.ll → r.lo n = 2 → r.la n ≤ 3 := h.2.2.2.1
theorem lwf.h1 {r : aRl} (h : lwf r) : ∀ n, n < r.ll → r.lo n = 3 → 1 ≤ lH r.lo n := h.2.2.2.2.1
theorem lwf.h2 {r : aRl} (h : lwf r) : ∀ n, n < r.ll → 4 ≤ r.lo n → 2 ≤ lH r.lo n := h.2.2.2.2.2.1
theorem lwf.hi {r : aRl} (h : lwf r) : ∀ n, n ≤ r.ll → lH r.lo n ≤ 31 := h.2.2.2.2.2.2.1
theorem lwf.en {r : aRl} (h : lwf r) : 0 < r.ll → 1 ≤ lH r.lo r.ll := h.2.2.2.2.2.2.2
/-- what the law tells -/
def lv (r : aRl) (n1 n2 n3 n4 : Int32) : Int32 := if r.ll = 0 then 1 else lS r.lo r.la n1 n2 n3 n4 r.ll 0
abbrev vRl (r : aRl) : Prop := (r.nj ≤ 7) ∧ (r.nc ≤ 7) ∧ (∀ k, k < 7 → r.kd k < 4) ∧ (∀ k, k < 7 → r.gu k ≤ 20) ∧ (lwf r)
theorem vRl.j {r : aRl} (h : vRl r) : r.nj ≤ 7 := h.1
theorem vRl.c {r : aRl} (h : vRl r) : r.nc ≤ 7 := h.2.1
theorem vRl.kd {r : aRl} (h : vRl r) : ∀ k, k < 7 → r.kd k < 4 := h.2.2.1
theorem vRl.gu {r : aRl} (h : vRl r) : ∀ k, k < 7 → r.gu k ≤ 20 := h.2.2.2.1
theorem vRl.lw {r : aRl} (h : vRl r) : lwf r := h.2.2.2.2
abbrev vSt (r : aRl) (s : aSt) : Prop := (s.nx < 4) ∧ (∀ k, k < 7 → s.hd k ≤ 9999) ∧ (∀ k, k < 7 → r.nc ≤ k → s.hd k = 0) ∧ (∀ k, k < 7 → s.up k < 4) ∧ (∀ k, k < 7 → s.ln k ≤ 20) ∧ (∀ k, k < 7 → s.ch k < 7) ∧ (∀ k, k < r.nj → s.ch k < r.nj) ∧ (∀ i j, i < 7 → j < 7 → s.ch i = s.ch j → i = j)
theorem vSt.nx {r : aRl} {s : aSt} (h : vSt r s) : s.nx < 4 := h.1
theorem vSt.hd {r : aRl} {s : aSt} (h : vSt r s) : ∀ k, k < 7 → s.hd k ≤ 9999 := h.2.1
theorem vSt.h0 {r : aRl} {s : aSt} (h : vSt r s) : ∀ k, k < 7 → r.nc ≤ k → s.hd k = 0 := h.2.2.1
theorem vSt.up {r : aRl} {s : aSt} (h : vSt r s) : ∀ k, k < 7 → s.up k < 4 := h.2.2.2.1
theorem vSt.ln {r : aRl} {s : aSt} (h : vSt r s) : ∀ k, k < 7 → s.ln k ≤ 20 := h.2.2.2.2.1
theorem vSt.ch {r : aRl} {s : aSt} (h : vSt r s) : ∀ k, k < 7 → s.ch k < 7 := h.2.2.2.2.2.1
theorem vSt.cj {r : aRl} {s : aSt} (h : vSt r s) : ∀ k, k < r.nj → s.ch k < r.nj := h.2.2.2.2.2.2.1
theorem vSt.ci {r : aRl} {s : aSt} (h : vSt r s) : ∀ i j, i < 7 → j < 7 → s.ch i = s.ch j → i = j := h.2.2.2.2.2.2.2
/-- how many of the first t cases are heard, and who -/
def hC (up : Nat → Nat) (day nj : Nat) : Nat → Nat
  | 0 => 0
  | t + 1 => if up t = day ∧ hC up day nj t < nj then hC up day nj t + 1 else hC up day nj t
def hH (up : Nat → Nat) (day nj : Nat) : Nat → Nat → Nat
  | 0 => fun _ => 0
  | t + 1 => if up t = day ∧ hC up day nj t < nj then ku1 (hH up day nj t) (hC up day nj t) t else hH up day nj t
theorem hC_le (up : Nat → Nat) (day nj : Nat) : ∀ t, hC up day nj t ≤ t ∧ hC up day nj t ≤ nj := by
  intro t
  induction t with
  | zero => exact ⟨Nat.le_refl _, Nat.zero_le _⟩
  | succ t ih =>
    unfold hC
    split <;> omega
theorem hC_mono (up : Nat → Nat) (day nj : Nat) : ∀ t n, hC up day nj t ≤ hC up day nj (t + n) := by
  intro t n
  induction n with
  | zero => exact Nat.le_refl _
  | succ n ih =>
    rw [← Nat.add_assoc, hC]
    split <;> omega
/-- who is heard at a place: a case before t, of that day, and its count is that place -/
theorem hH_at (up : Nat → Nat) (day nj : Nat) : ∀ t p, p < hC up day nj t → hH up day nj t p < t ∧ up (hH up day nj t p) = day ∧ hC up day nj (hH up day nj t p) = p := by
  intro t
  induction t with
  | zero => intro p hp; exact absurd hp (by simp [hC])
  | succ t ih =>
    intro p hp
    rw [hC] at hp
    rw [hH]
    by_cases hq : up t = day ∧ hC up day nj t < nj
    · rw [if_pos hq] at hp
      rw [if_pos hq]
      by_cases hpe : p = hC up day nj t
      · rw [hpe, ku1_s]
        exact ⟨by omega, hq.1, rfl⟩
      · rw [ku1_n hpe]
        obtain ⟨a1, a2, a3⟩ := ih p (by omega)
        exact ⟨by omega, a2, a3⟩
    · rw [if_neg hq] at hp
      rw [if_neg hq]
      obtain ⟨a1, a2, a3⟩ := ih p hp
      exact ⟨by omega, a2, a3⟩
/-- a case that is heard stands at its count -/
theorem hH_of (up : Nat → Nat) (day nj : Nat) {c : Nat} (h1 : up c = day) (h2 : hC up day nj c < nj) : ∀ t, c < t → hC up day nj c < hC up day nj t ∧ hH up day nj t (hC up day nj c) = c := by
  intro t
  induction t with
  | zero => intro h; exact absurd h (by omega)
  | succ t ih =>
    intro hc
    rw [hC, hH]
    by_cases hq : up t = day ∧ hC up day nj t < nj
    · rw [if_pos hq, if_pos hq]
      by_cases hce : c = t
      · rw [hce, ku1_s]
        exact ⟨by omega, rfl⟩
      · obtain ⟨a1, a2⟩ := ih (by omega)
        rw [ku1_n (by omega)]
        exact ⟨by omega, a2⟩
    · rw [if_neg hq, if_neg hq]
      by_cases hce : c = t
      · exact absurd ⟨hce ▸ h1, hce ▸ h2⟩ hq
      · exact ih (by omega)
theorem hH_inj (up : Nat → Nat) (day nj t : Nat) {p q : Nat} (hp : p < hC up day nj t) (hq : q < hC up day nj t) (h : hH up day nj t p = hH up day nj t q) : p = q := by
  have a := (hH_at up day nj t p hp).2.2
  have b := (hH_at up day nj t q hq).2.2
  rw [h] at a
  omega
/-- a day: how many, who, what the place's judge gives for who is there -/
def dM (r : aRl) (s : aSt) (day : Nat) : Nat := hC s.up day r.nj r.nc
def dH (r : aRl) (s : aSt) (day : Nat) : Nat → Nat := hH s.up day r.nj r.nc
def gvn (r : aRl) (s : aSt) (k t : Nat) : Nat := vd (r.kd (s.ch k)) (r.gu t) (s.ln (s.ch k))
def dA (r : aRl) (s : aSt) (day p : Nat) : Nat := gvn r s p (dH r s day p)
theorem dA_le (r : aRl) (s : aSt) (day p : Nat) : dA r s day p ≤ 40 := vd_le _ _ _
def nsum (f : Nat → Nat) : Nat → Nat
  | 0 => 0
  | n + 1 => nsum f n + f n
theorem nsum_le {f : Nat → Nat} {b : Nat} : ∀ n, (∀ k, k < n → f k ≤ b) → nsum f n ≤ n * b := by
  intro n
  induction n with
  | zero => intro _; exact Nat.zero_le _
  | succ n ih =>
    intro h
    have a := ih (fun k hk => h k (by omega))
    have b' := h n (by omega)
    rw [nsum, Nat.add_mul]
    omega
theorem nsum_eq {f f' : Nat → Nat} : ∀ n, (∀ k, k < n → f k = f' k) → nsum f n = nsum f' n := by
  intro n
  induction n with
  | zero => intro _; rfl
  | succ n ih =>
    intro h
    rw [nsum, nsum, ih (fun k hk => h k (by omega)), h n (by omega)]
theorem nsum_0 {f : Nat → Nat} {m : Nat} : ∀ n, (∀ k, m ≤ k → k < m + n → f k = 0) → nsum f (m + n) = nsum f m := by
  intro n
  induction n with
  | zero => intro _; rfl
  | succ n ih =>
    intro h
    rw [← Nat.add_assoc, nsum, ih (fun k h1 h2 => h k h1 (by omega)), h (m + n) (by omega) (by omega)]
    rfl
def grf (s : aSt) : Nat := nsum s.hd 7
theorem grf_nc {r : aRl} {s : aSt} (hr : vRl r) (hs : vSt r s) : nsum s.hd r.nc = grf s := by
  have hc := hr.c
  have := nsum_0 (f := s.hd) (m := r.nc) (7 - r.nc) (fun k h1 h2 => hs.h0 k (by omega) h1)
  rw [show r.nc + (7 - r.nc) = 7 by omega] at this
  exact this.symm
theorem grf_le {r : aRl} {s : aSt} (hs : vSt r s) : grf s ≤ 69993 := by
  have := nsum_le (f := s.hd) (b := 9999) 7 (fun k hk => hs.hd k hk)
  unfold grf
  omega
/-- the first free place from p on (0 is free) -/
def dF (f : Nat → Nat) (m : Nat) : Nat → Nat → Nat
  | 0, p => p
  | n + 1, p => if f p = 0 then p else dF f m n ((p + 1) % m)
/-- how far the n-th goes -/
def dT (r : aRl) (s : aSt) (m n : Nat) : Nat := ((lv r (nI n) (nI m) (nI s.nx) (nI (grf s))).toInt % (m : Int)).toNat
/-- who has reached which place behind n deals: 0 nobody, k + 1 the k-th -/
def dD (T : Nat → Nat) (m : Nat) : Nat → Nat → Nat
  | 0 => fun _ => 0
  | n + 1 => ku1 (dD T m n) (dF (dD T m n) m m ((n + T n) % m)) (n + 1)
def dSr (r : aRl) (s : aSt) (m p : Nat) : Nat := dD (dT r s m) m m p - 1
/-- what they have had behind n of those heard -/
def hF (hd h A : Nat → Nat) : Nat → Nat → Nat
  | 0 => hd
  | n + 1 => ku1 (hF hd h A n) (h n) (min (hF hd h A n (h n) + A n) 9999)
/-- the source of a place, on the next day -/
def dS (r : aRl) (s : aSt) : Nat → Nat := dSr r s (dM r s s.nx)
/-- a day goes by -/
def pass (r : aRl) (s : aSt) : aSt :=
  aSt.mk ((s.nx + 1) % 4) (if s.nx = 3 then s.rd + 1 else s.rd) (hF s.hd (dH r s s.nx) (fun p => dA r s s.nx (dS r s p)) (dM r s s.nx)) s.up s.ln s.ch
/-! the deal reaches every place once -/
def nfree (f : Nat → Nat) (m : Nat) : Nat := nsum (fun p => if f p = 0 then 1 else 0) m
theorem dF_lt {f : Nat → Nat} {m : Nat} (hm : 0 < m) : ∀ n p, p < m → dF f m n p < m := by
  intro n
  induction n with
  | zero => intro p hp; exact hp
  | succ n ih =>
    intro p hp
    rw [dF]
    split
    · exact hp
    · exact ih _ (Nat.mod_lt _ hm)
/-- if one of the next n is free, a free one is found -/
theorem dF_free {f : Nat → Nat} {m : Nat} : ∀ n p, p < m → (∃ k, k < n ∧ f ((p + k) % m) = 0) → f (dF f m n p) = 0 := by
  intro n
  induction n with
  | zero => intro p _ ⟨k, hk, _⟩; exact absurd hk (by omega)
  | succ n ih =>
    intro p hp ⟨k, hk, hf⟩
    rw [dF]
    by_cases h0 : f p = 0
    · rw [if_pos h0]; exact h0
    · rw [if_neg h0]
      have hm : 0 < m := by omega
      refine ih _ (Nat.mod_lt _ hm) ?_
      cases k with
      | zero => rw [Nat.add_zero, Nat.mod_eq_of_lt hp] at hf; exact absurd hf h0
      | succ k =>
        refine ⟨k, by omega, ?_⟩
        rw [Nat.mod_add_mod, show p + 1 + k = p + (k + 1) by omega]
        exact hf
theorem nsum_ex {f : Nat → Nat} : ∀ n, 0 < nsum f n → ∃ k, k < n ∧ 0 < f k := by
  intro n
  induction n with
  | zero => intro h; exact absurd h (by simp [nsum])
  | succ n ih =>
    intro h
    rw [nsum] at h
    by_cases hn : 0 < f n
    · exact ⟨n, by omega, hn⟩
    · obtain ⟨k, h1, h2⟩ := ih (by omega)
      exact ⟨k, by omega, h2⟩
theorem dF_ok {f : Nat → Nat} {m p : Nat} (hp : p < m) (h : 0 < nfree f m) : f (dF f m m p) = 0 := by
  obtain ⟨k, h1, h2⟩ := nsum_ex m h
  have h3 : f k = 0 := by
    by_cases q : f k = 0
    · exact q
    · rw [if_neg q] at h2; omega
  refine dF_free m p hp ?_
  by_cases hk : p ≤ k
  · exact ⟨k - p, by omega, by rw [show p + (k - p) = k by omega, Nat.mod_eq_of_lt h1]; exact h3⟩
  · refine ⟨k + m - p, by omega, ?_⟩
    rw [show p + (k + m - p) = k + m by omega, Nat.add_mod_right, Nat.mod_eq_of_lt h1]
    exact h3
theorem nfree_upd {f : Nat → Nat} {x q : Nat} (hx : 0 < x) : ∀ m, nfree (ku1 f q x) m + (if q < m ∧ f q = 0 then 1 else 0) = nfree f m := by
  intro m
  induction m with
  | zero => rw [if_neg (by omega)]; rfl
  | succ m ih =>
    unfold nfree at *
    rw [nsum, nsum]
    by_cases hq : q = m
    · subst hq
      have e1 : (if ku1 f q x q = 0 then (1 : Nat) else 0) = 0 := by rw [ku1_s, if_neg (by omega)]
      rw [if_neg (by omega)] at ih
      rw [e1, ← ih]
      by_cases hf : f q = 0
      · simp only [hf]; simp
      · simp only [hf]; simp
    · have e1 : (if ku1 f q x m = 0 then (1 : Nat) else 0) = (if f m = 0 then 1 else 0) := by rw [ku1_n (by omega)]
      have e2 : (if q < m + 1 ∧ f q = 0 then (1 : Nat) else 0) = (if q < m ∧ f q = 0 then 1 else 0) := by
        by_cases hf : q < m ∧ f q = 0
        · rw [if_pos hf, if_pos ⟨by omega, hf.2⟩]
        · rw [if_neg hf, if_neg (fun h => hf ⟨by omega, h.2⟩)]
      rw [e1, e2]
      omega
theorem nfree_0 : ∀ m, nfree (fun _ => 0) m = m := by
  intro m
  induction m with
  | zero => rfl
  | succ m ih => unfold nfree at *; rw [nsum, ih]; rfl
theorem dD_free {T : Nat → Nat} {m : Nat} : ∀ n, n ≤ m → nfree (dD T m n) m = m - n := by
  intro n
  induction n with
  | zero => intro _; rw [dD, nfree_0]; rfl
  | succ n ih =>
    intro hn
    have h1 := ih (by omega)
    have hm : 0 < m := by omega
    have hp : (n + T n) % m < m := Nat.mod_lt _ hm
    have h2 := dF_ok (f := dD T m n) hp (by omega)
    have h3 := dF_lt (f := dD T m n) hm m _ hp
    have h4 := nfree_upd (f := dD T m n) (q := dF (dD T m n) m m ((n + T n) % m)) (x := n + 1) (by omega) m
    rw [if_pos ⟨h3, h2⟩] at h4
    rw [dD]
    omega
/-- the place that the n-th reaches is free, and one of them -/
theorem dD_at {T : Nat → Nat} {m n : Nat} (hn : n < m) : dD T m n (dF (dD T m n) m m ((n + T n) % m)) = 0 ∧ dF (dD T m n) m m ((n + T n) % m) < m := by
  have hm : 0 < m := by omega
  have hp : (n + T n) % m < m := Nat.mod_lt _ hm
  exact ⟨dF_ok hp (by rw [dD_free n (by omega)]; omega), dF_lt hm m _ hp⟩
theorem dD_le {T : Nat → Nat} {m : Nat} : ∀ n p, dD T m n p ≤ n := by
  intro n
  induction n with
  | zero => intro p; exact Nat.le_refl _
  | succ n ih =>
    intro p
    rw [dD]
    by_cases h : p = dF (dD T m n) m m ((n + T n) % m)
    · rw [← h, ku1_s]; omega
    · rw [ku1_n h]; have := ih p; omega
theorem dD_inj {T : Nat → Nat} {m : Nat} : ∀ n p q, dD T m n p = dD T m n q → 0 < dD T m n p → p = q := by
  intro n
  induction n with
  | zero => intro p q _ h; exact absurd h (by simp [dD])
  | succ n ih =>
    intro p q h h0
    rw [dD] at h h0
    by_cases hp : p = dF (dD T m n) m m ((n + T n) % m)
    · by_cases hq : q = dF (dD T m n) m m ((n + T n) % m)
      · rw [hp, hq]
      · rw [← hp, ku1_s, ku1_n (by rw [hp]; exact hq)] at h
        have := dD_le (T := T) (m := m) n q
        omega
    · by_cases hq : q = dF (dD T m n) m m ((n + T n) % m)
      · rw [← hq, ku1_s, ku1_n (by rw [hq]; exact hp)] at h
        have := dD_le (T := T) (m := m) n p
        omega
      · rw [ku1_n hp, ku1_n hq] at h
        rw [ku1_n hp] at h0
        exact ih p q h h0
theorem nsum_pos {f : Nat → Nat} {k : Nat} (h : 0 < f k) : ∀ n, k < n → 0 < nsum f n := by
  intro n
  induction n with
  | zero => intro h; omega
  | succ n ih =>
    intro hk
    rw [nsum]
    by_cases hkn : k = n
    · rw [← hkn]; omega
    · have := ih (by omega); omega
/-- behind all deals every place has one -/
theorem dD_all {T : Nat → Nat} {m p : Nat} (hp : p < m) : 0 < dD T m m p := by
  have h := dD_free (T := T) (m := m) m (Nat.le_refl _)
  by_cases h0 : dD T m m p = 0
  · have := nsum_pos (f := fun p => if dD T m m p = 0 then 1 else 0) (k := p) (by rw [if_pos h0]; omega) m hp
    unfold nfree at h
    omega
  · omega
theorem dSr_lt {r : aRl} {s : aSt} {m p : Nat} (hp : p < m) : dSr r s m p < m := by
  have a := dD_all (T := dT r s m) hp
  have b := dD_le (T := dT r s m) (m := m) m p
  unfold dSr
  omega
theorem dSr_inj {r : aRl} {s : aSt} {m p q : Nat} (hp : p < m) (hq : q < m) (h : dSr r s m p = dSr r s m q) : p = q := by
  have a := dD_all (T := dT r s m) hp
  have b := dD_all (T := dT r s m) hq
  unfold dSr at h
  exact dD_inj m p q (by omega) a
theorem dM_le (r : aRl) (s : aSt) (day : Nat) : dM r s day ≤ r.nc ∧ dM r s day ≤ r.nj := hC_le _ _ _ _
