/-! back, loops: what a deal does, done again and again -/
def it (S : Nat → Nat) : Nat → Nat → Nat
  | 0, p => p
  | n + 1, p => S (it S n p)
theorem it_add (S : Nat → Nat) (k : Nat) : ∀ a b, it S (a + b) k = it S a (it S b k) := by
  intro a b
  induction a with
  | zero => rw [Nat.zero_add]; rfl
  | succ a ih => rw [Nat.succ_add, it, it, ih]
abbrev prm (S : Nat → Nat) (m : Nat) : Prop := (∀ p, p < m → S p < m) ∧ ∀ p q, p < m → q < m → S p = S q → p = q
theorem it_lt {S : Nat → Nat} {m : Nat} (h : prm S m) {k : Nat} (hk : k < m) : ∀ n, it S n k < m := by
  intro n
  induction n with
  | zero => exact hk
  | succ n ih => exact h.1 _ ih
theorem it_inj {S : Nat → Nat} {m : Nat} (h : prm S m) : ∀ n x y, x < m → y < m → it S n x = it S n y → x = y := by
  intro n
  induction n with
  | zero => intro x y _ _ e; exact e
  | succ n ih => intro x y hx hy e; exact ih x y hx hy (h.2 _ _ (it_lt h hx n) (it_lt h hy n) e)
theorem it_per {S : Nat → Nat} {m : Nat} (h : prm S m) {k : Nat} (hk : k < m) : ∃ n, 1 ≤ n ∧ n ≤ m ∧ it S n k = k := by
  refine Classical.byContradiction (fun hno => ?_)
  have key : ∀ i j, i < j → j < m → it S (i + 1) k ≠ it S (j + 1) k := by
    intro i j hij hj e
    have e2 : it S (j + 1) k = it S (i + 1) (it S (j - i) k) := by rw [← it_add, show i + 1 + (j - i) = j + 1 by omega]
    rw [e2] at e
    have := it_inj h (i + 1) _ _ hk (it_lt h hk _) e
    exact hno ⟨j - i, by omega, by omega, this.symm⟩
  obtain ⟨i, h1, h2⟩ := surj_inj m (fun i => it S (i + 1) k) (fun i _ => it_lt h hk _) (fun i j hi hj e => by
    rcases Nat.lt_trichotomy i j with q | q | q
    · exact absurd e (key i j q hj)
    · exact q
    · exact absurd e.symm (key j i q hi)) k hk
  exact hno ⟨i + 1, by omega, by omega, h2⟩
def rd (S : Nat → Nat) (k : Nat) : Nat → Nat → Nat
  | 0, n => n
  | f + 1, n => if it S n k = k then n else rd S k f (n + 1)
/-- behind how many deals what is at a place is back -/
def rdO (S : Nat → Nat) (k : Nat) : Nat := rd S k 7 1
theorem rd_ok {S : Nat → Nat} {k : Nat} : ∀ f n, (∃ i, n ≤ i ∧ i < n + f ∧ it S i k = k) → it S (rd S k f n) k = k ∧ n ≤ rd S k f n ∧ ∀ i, n ≤ i → it S i k = k → rd S k f n ≤ i := by
  intro f
  induction f with
  | zero => intro n ⟨i, h1, h2, _⟩; omega
  | succ f ih =>
    intro n ⟨i, h1, h2, h3⟩
    rw [rd]
    by_cases hn : it S n k = k
    · rw [if_pos hn]
      exact ⟨hn, Nat.le_refl _, fun i hi _ => hi⟩
    · rw [if_neg hn]
      have hin : i ≠ n := fun e => hn (e ▸ h3)
      obtain ⟨a1, a2, a3⟩ := ih (n + 1) ⟨i, by omega, by omega, h3⟩
      refine ⟨a1, by omega, fun i' hi' e => ?_⟩
      have : i' ≠ n := fun e' => hn (e' ▸ e)
      exact a3 i' (by omega) e
theorem rdO_ok {S : Nat → Nat} {m : Nat} (h : prm S m) (hm : m ≤ 7) {k : Nat} (hk : k < m) : it S (rdO S k) k = k ∧ 1 ≤ rdO S k ∧ rdO S k ≤ m ∧ ∀ i, 1 ≤ i → i < rdO S k → it S i k ≠ k := by
  obtain ⟨n, h1, h2, h3⟩ := it_per h hk
  obtain ⟨a1, a2, a3⟩ := rd_ok (S := S) (k := k) 7 1 ⟨n, h1, by omega, h3⟩
  have := a3 n h1 h3
  unfold rdO
  exact ⟨a1, a2, by omega, fun i hi hlt e => by have := a3 i hi e; omega⟩
theorem it_mul {S : Nat → Nat} {k c : Nat} (h : it S c k = k) : ∀ q, it S (c * q) k = k := by
  intro q
  induction q with
  | zero => rfl
  | succ q ih => rw [Nat.mul_succ, Nat.add_comm, it_add, ih, h]
theorem it_mod {S : Nat → Nat} {k c : Nat} (h : it S c k = k) (n : Nat) : it S n k = it S (n % c) k := by
  have e : n = n % c + c * (n / c) := by have := Nat.mod_add_div n c; omega
  have e2 : it S n k = it S (n % c + c * (n / c)) k := by rw [← e]
  rw [e2, it_add, it_mul h]
theorem it_iff {S : Nat → Nat} {m : Nat} (h : prm S m) (hm : m ≤ 7) {k : Nat} (hk : k < m) (n : Nat) : it S n k = k ↔ n % rdO S k = 0 := by
  obtain ⟨a1, a2, a3, a4⟩ := rdO_ok h hm hk
  have hl := Nat.mod_lt n (show rdO S k > 0 by omega)
  rw [it_mod a1 n]
  constructor
  · intro e
    by_cases q : n % rdO S k = 0
    · exact q
    · exact absurd e (a4 _ (by omega) hl)
  · intro e
    rw [e]
    rfl
theorem it_sym {S : Nat → Nat} {m : Nat} (h : prm S m) (hm : m ≤ 7) {k x j : Nat} (hk : k < m) (e : it S j k = x) : ∃ i, it S i x = k := by
  obtain ⟨a1, a2, a3, a4⟩ := rdO_ok h hm hk
  refine ⟨rdO S k * j - j, ?_⟩
  have hle : j ≤ rdO S k * j := by
    have := Nat.mul_le_mul_right j a2
    omega
  rw [← e, ← it_add, show rdO S k * j - j + j = rdO S k * j by omega, it_mul a1]
/-- is all back behind n deals, of the first p -/
def alB (S : Nat → Nat) (n : Nat) : Nat → Bool
  | 0 => true
  | p + 1 => alB S n p && decide (it S n p = p)
def bk (S : Nat → Nat) (m : Nat) : Nat → Nat → Int32
  | 0, _ => -1
  | f + 1, n => if alB S n m = true then nI n else bk S m f (n + 1)
def aBack (r : aRl) (s : aSt) (x : Int32) : Int32 := if kidx x (nI 4) = 0 then -1 else if dM r (nxt r s x.toNatClampNeg) (nxt r s x.toNatClampNeg).nx = 0 then -1 else bk (dS r (nxt r s x.toNatClampNeg)) (dM r (nxt r s x.toNatClampNeg) (nxt r s x.toNatClampNeg).nx) 12 1
/-- is k the least of those that it goes round with -/
def fsB (S : Nat → Nat) (k : Nat) : Nat → Bool
  | 0 => true
  | j + 1 => fsB S k j && decide (k < it S (j + 1) k)
def lpN (S : Nat → Nat) (m : Nat) : Nat := nsum (fun k => bN (fsB S k (rdO S k - 1))) m
def aLoops (r : aRl) (s : aSt) (x : Int32) : Int32 := if kidx x (nI 4) = 0 then -1 else nI (lpN (dS r (nxt r s x.toNatClampNeg)) (dM r (nxt r s x.toNatClampNeg) (nxt r s x.toNatClampNeg).nx))
theorem fsB_iff {S : Nat → Nat} {k : Nat} : ∀ n, fsB S k n = true ↔ ∀ j, 1 ≤ j → j ≤ n → k < it S j k := by
  intro n
  induction n with
  | zero => exact ⟨fun _ j h1 h2 => by omega, fun _ => rfl⟩
  | succ n ih =>
    rw [fsB, Bool.and_eq_true, ih, decide_eq_true_eq]
    constructor
    · intro ⟨h1, h2⟩ j h3 h4
      by_cases e : j = n + 1
      · rw [e]; exact h2
      · exact h1 j h3 (by omega)
    · intro h
      exact ⟨fun j h1 h2 => h j h1 (by omega), h (n + 1) (by omega) (by omega)⟩
theorem fst_iff {S : Nat → Nat} {m : Nat} (h : prm S m) (hm : m ≤ 7) {k : Nat} (hk : k < m) : fsB S k (rdO S k - 1) = true ↔ ¬ ∃ k', k' < k ∧ ∃ j, it S j k' = k := by
  obtain ⟨a1, a2, a3, a4⟩ := rdO_ok h hm hk
  rw [fsB_iff]
  constructor
  · intro hf ⟨k', h1, j, h2⟩
    obtain ⟨i, hi⟩ := it_sym h hm (show k' < m by omega) h2
    rw [it_mod a1] at hi
    have hl := Nat.mod_lt i (show rdO S k > 0 by omega)
    by_cases q : i % rdO S k = 0
    · rw [q] at hi
      have : k = k' := hi
      omega
    · have := hf (i % rdO S k) (by omega) (by omega)
      omega
  · intro hn j h1 h2
    refine Classical.byContradiction (fun hlt => ?_)
    have hne := a4 j h1 (by omega)
    exact hn ⟨it S j k, by omega, it_sym h hm hk rfl⟩
theorem dS_prm {r : aRl} {s : aSt} : prm (dS r s) (dM r s s.nx) := ⟨fun p hp => dS_lt hp, fun p q hp hq e => dSr_inj hp hq e⟩
section LO
variable {xs : List Int32} {d : Nat} {I I' I2 : Nat → Nat → Int32} {J : Nat → Nat → Int64} {rf : Nat → Nat} {g : Nat} {R : Option Value → KW → Prop} {r : aRl} {s u : aSt} {w : KW} {S : Nat → Nat} {m : Nat}
theorem bN_and (a b : Bool) : nI (bN a) &&& nI (bN b) = nI (bN (a && b)) := by cases a <;> cases b <;> decide
theorem bN_1 : nI (bN true) = 1 := rfl
theorem bN_0 : nI (bN false) = 0 := rfl
/-- dealsUntilOwn -/
theorem sp82_34 (hm : m ≤ 7) (h0 : 0 < m) (hp : prm S m) : ∀ f n, f + n = 12 → ∀ I : Nat → Nat → Int32, I 54 0 = nI m → (∀ p, p < m → I 57 p = nI (S p)) → (∀ p, p < m → I 60 p = nI (it S n p)) → ∃ I', (∀ x k, x ≠ 60 → I' x k = I x k) ∧ ∀ d R, kX xs d 82 34 [some (.ref 54), some (.int (nI (n + 1))), none, none] [] (kmm I J rf g) R = R (some (.int (bk S m f (n + 1)))) (kmm I' J rf g) := by
  intro f
  induction f with
  | zero =>
    intro n hf I em es eh
    refine ⟨I, fun _ _ _ => rfl, fun d R => ?_⟩
    rw [B82_34, c8_12, if_pos (nI_lt (by omega) (by omega)), B82_105]
    rfl
  | succ f ih =>
    intro n hf I em es eh
    have L : ∃ I2, ((∀ x k, x ≠ 60 → I2 x k = I x k) ∧ (∀ p, p < m → I2 60 p = nI (it S (n + 1) p)) ∧ ∀ p, m ≤ p → p < m → I2 60 p = nI (it S n p)) ∧ (fun (d : Nat) (R : Option Value → KW → Prop) => kX xs d 82 44 [some (.ref 54), some (.int (nI (n + 1))), some (.int (nI (bN (alB S (n + 1) 0)))), some (.int (nI 0))] [] (kmm I J rf g) R) = (fun d R => kX xs d 82 44 [some (.ref 54), some (.int (nI (n + 1))), some (.int (nI (bN (alB S (n + 1) m)))), some (.int (nI m))] [] (kmm I2 J rf g) R) := by
      refine kloop (n := m) (s0 := I) (fun i I2 => (∀ x k, x ≠ 60 → I2 x k = I x k) ∧ (∀ p, p < i → I2 60 p = nI (it S (n + 1) p)) ∧ ∀ p, i ≤ p → p < m → I2 60 p = nI (it S n p)) (fun i I2 => fun (d : Nat) (R : Option Value → KW → Prop) => kX xs d 82 44 [some (.ref 54), some (.int (nI (n + 1))), some (.int (nI (bN (alB S (n + 1) i)))), some (.int (nI i))] [] (kmm I2 J rf g) R) ⟨fun _ _ _ => rfl, fun p hp => by omega, fun p _ hp => eh p hp⟩ ?_
      intro i I2 hi ⟨g1, g2, g3⟩
      have hit := it_lt hp hi n
      have hit1 := it_lt hp hi (n + 1)
      have e1 : I2 60 i = nI (it S n i) := g3 i (Nat.le_refl _) hi
      have e2 : I2 57 (it S n i) = nI (S (it S n i)) := by rw [g1 _ _ (by omega), es _ hit]
      refine ⟨ku I2 60 i (nI (it S (n + 1) i)), ⟨fun x k hx => by rw [ku_nea hx, g1 x k hx], fun p hp' => ?_, fun p h1 h2 => by rw [ku_nek (by omega), g3 p (by omega) h2]⟩, ?_⟩
      · by_cases e : p = i
        · rw [e, ku_same]
        · rw [ku_nek e, g2 p (by omega)]
      · funext d R
        rw [B82_44, kg8_0, kO_s, g1 _ _ (by omega), em, if_pos (nI_lt hi (by omega)), B82_52, kg8_6, kO_s, kg8_3, kO_s, kO_s, ka60 (by omega), kO_s, e1, ka57 (by omega), kO_s, e2, kw60 (by omega), kO_s, kg8_6, kO_s, ka60 (by omega), kO_s, ku_same, alB]
        by_cases q : it S (n + 1) i = i
        · have q' : S (it S n i) = i := q
          rw [if_pos (congrArg nI q'), B82_80, B82_85, decide_eq_true q, nI_add1, ← bN_1, bN_and, q']
          rw [q]
        · have q' : ¬ S (it S n i) = i := q
          have hd : decide (it S (n + 1) i = i) = false := decide_eq_false q
          have hlt : S (it S n i) < 7 := by have : it S (n + 1) i = S (it S n i) := rfl; omega
          rw [if_neg (fun e => q' (by rw [nI_inj (by omega) (by omega)] at e; exact e)), B82_84, B82_85, hd, nI_add1, ← bN_0, bN_and]
          rfl
    obtain ⟨I2, ⟨g1, g2, g3⟩, e2⟩ := L
    have em2 : I2 54 0 = nI m := by rw [g1 _ _ (by omega), em]
    rw [bk]
    cases hal : alB S (n + 1) m with
    | true =>
      refine ⟨I2, g1, fun d R => ?_⟩
      have e2' := congrFun (congrFun e2 d) R
      rw [if_pos rfl, B82_34, c8_12, if_neg (nI_nlt (by omega) (by omega)), B82_40]
      refine Eq.trans e2' ?_
      rw [B82_44, kg8_0, kO_s, em2, if_neg (nI_nlt (Nat.le_refl _) (by omega)), B82_93, hal, if_neg (by decide), B82_97]
    | false =>
      obtain ⟨I3, a1, a2⟩ := ih (n + 1) (by omega) I2 em2 (fun p hp => by rw [g1 _ _ (by omega), es p hp]) g2
      refine ⟨I3, fun x k hx => by rw [a1 x k hx, g1 x k hx], fun d R => ?_⟩
      have e2' := congrFun (congrFun e2 d) R
      rw [if_neg (by decide), B82_34, c8_12, if_neg (nI_nlt (by omega) (by omega)), B82_40]
      refine Eq.trans e2' ?_
      rw [B82_44, kg8_0, kO_s, em2, if_neg (nI_nlt (Nat.le_refl _) (by omega)), B82_93, hal, if_pos (by decide), B82_99, nI_add1, a2]
theorem sp82 (hm : m ≤ 7) (hp : prm S m) (em : I 54 0 = nI m) (es : ∀ p, p < m → I 57 p = nI (S p)) : ∃ I', (∀ x k, x ≠ 60 → I' x k = I x k) ∧ ∀ d R, kX xs d 82 0 [some (.ref 54), none, none, none] [] (kmm I J rf g) R = R (some (.int (if m = 0 then -1 else bk S m 12 1))) (kmm I' J rf g) := by
  by_cases h0 : m = 0
  · refine ⟨I, fun _ _ _ => rfl, fun d R => ?_⟩
    rw [h0] at em
    rw [if_pos h0, B82_0, kg8_0, kO_s, em, if_pos (show nI 0 = 0 from rfl), B82_7]
  · have L : ∃ I2, ((∀ x k, x ≠ 60 → I2 x k = I x k) ∧ ∀ p, p < m → I2 60 p = nI p) ∧ (fun (d : Nat) (R : Option Value → KW → Prop) => kX xs d 82 11 [some (.ref 54), some (.int (nI 0)), none, none] [] (kmm I J rf g) R) = (fun d R => kX xs d 82 11 [some (.ref 54), some (.int (nI m)), none, none] [] (kmm I2 J rf g) R) := by
      refine kloop (n := m) (s0 := I) (fun i I2 => (∀ x k, x ≠ 60 → I2 x k = I x k) ∧ ∀ p, p < i → I2 60 p = nI p) (fun i I2 => fun (d : Nat) (R : Option Value → KW → Prop) => kX xs d 82 11 [some (.ref 54), some (.int (nI i)), none, none] [] (kmm I2 J rf g) R) ⟨fun _ _ _ => rfl, fun p hp => by omega⟩ ?_
      intro i I2 hi ⟨g1, g2⟩
      refine ⟨ku I2 60 i (nI i), ⟨fun x k hx => by rw [ku_nea hx, g1 x k hx], fun p hp' => ?_⟩, ?_⟩
      · by_cases e : p = i
        · rw [e, ku_same]
        · rw [ku_nek e, g2 p (by omega)]
      · funext d R
        rw [B82_11, kg8_0, kO_s, g1 _ _ (by omega), em, if_pos (nI_lt hi (by omega)), B82_19, kg8_6, kO_s, kw60 (by omega), kO_s, nI_add1]
    obtain ⟨I2, ⟨g1, g2⟩, e2⟩ := L
    obtain ⟨I3, a1, a2⟩ := sp82_34 (xs := xs) (J := J) (rf := rf) (g := g) hm (by omega) hp 12 0 rfl I2 (by rw [g1 _ _ (by omega), em]) (fun p hp => by rw [g1 _ _ (by omega), es p hp]) g2
    refine ⟨I3, fun x k hx => by rw [a1 x k hx, g1 x k hx], fun d R => ?_⟩
    have e2' := congrFun (congrFun e2 d) R
    rw [if_neg h0, B82_0, kg8_0, kO_s, em, if_neg (nI_ne0 (by omega) (by omega)), B82_9]
    refine Eq.trans e2' ?_
    rw [B82_11, kg8_0, kO_s, g1 _ _ (by omega), em, if_neg (nI_nlt (Nat.le_refl _) (by omega)), B82_32]
    exact a2 d R
theorem sp125 (h : cB I rf r s) (x : Int32) : ∃ I', cQ I I' ∧ ∀ d R, kX xs (d + 6) 125 0 [some (.ref 0), some (.int x)] [] (kmm I J rf g) R = R (some (.int (aBack r s x))) (kmm I' J rf g) := by
  unfold aBack
  rcases kidx_c x (show 4 < 2147483648 by omega) with ⟨n, hn, rfl⟩ | h0
  · obtain ⟨I1, q1, q3, q4⟩ := sp66q (xs := xs) (J := J) (g := g) h hn
    obtain ⟨I2, a1, a2⟩ := sp82 (xs := xs) (J := J) (rf := rf) (g := g) (dM7 h.vr _ _) dS_prm q1.day.m q1.so
    refine ⟨I2, q3.trans (fun x k h1 h2 h3 h4 => a1 x k (by omega)), fun d R => ?_⟩
    have hk := kidx_in hn (show 4 < 2147483648 by omega)
    rw [hk, if_neg (by decide), nI_clamp (by omega)]
    rw [B125_0, sp153, hk, kpush_s, B125_4, if_neg (by decide), B125_9, kg11_9, kO_s, kg11_2, kO_s, kg11_6, kO_s, kg11_7, kO_s, krecv_m ks54, kcond_t, q4, kpush_n, B125_29, kg11_9, kO_s, krecv_m ks54, kcond_t, a2, kpush_s, B125_36]
  · refine ⟨I, cQ.refl I, fun d R => ?_⟩
    rw [h0, if_pos rfl, B125_0, sp153, h0, kpush_s, B125_4, if_pos rfl, B125_7]
/-- roundOf -/
theorem sp246 (hm : m ≤ 7) (hp : prm S m) (es : ∀ p, p < m → I 204 p = nI (S p)) {k : Nat} (hk : k < m) : kX xs d 246 0 [some (.ref 185), some (.int (nI k)), none, none] [] (kmm I J rf g) R = R (some (.int (nI (rdO S k)))) (kmm I J rf g) := by
  have key : ∀ f n, (∃ i, n ≤ i ∧ i < n + f ∧ it S i k = k) → kX xs d 246 9 [some (.ref 185), some (.int (nI k)), some (.int (nI n)), some (.int (nI (it S n k)))] [] (kmm I J rf g) R = R (some (.int (nI (rd S k f n)))) (kmm I J rf g) := by
    intro f
    induction f with
    | zero => intro n ⟨i, h1, h2, _⟩; omega
    | succ f ih =>
      intro n ⟨i, h1, h2, h3⟩
      have hit := it_lt hp hk n
      rw [B246_9, rd]
      by_cases e : it S n k = k
      · rw [if_pos e, if_pos (congrArg nI e), B246_27]
      · have hin : i ≠ n := fun e' => e (e' ▸ h3)
        rw [if_neg e, if_neg (fun q => e (by rw [nI_inj (by omega) (by omega)] at q; exact q)), B246_14, kg12_27, kO_s, ka204 (by omega), kO_s, es _ hit, nI_add1]
        exact ih (n + 1) ⟨i, by omega, by omega, h3⟩
  obtain ⟨n, h1, h2, h3⟩ := it_per hp hk
  rw [B246_0, kg12_27, kO_s, ka204 (by omega), kO_s, es k hk]
  exact key 7 1 ⟨n, h1, by omega, h3⟩
theorem sp247 (h : mB I r s) (x : Int32) : ∃ I', mQ I I' ∧ ∀ d R, kX xs (d + 6) 247 0 [some (.ref 185), some (.int x), none, none, none] [] (kmm I J rf g) R = R (some (.int (aBack r s x))) (kmm I' J rf g) := by
  have hq := mQ.thr I (nI 0)
  have h' := h.keep hq
  unfold aBack
  rcases kidx_c x (show 4 < 2147483648 by omega) with ⟨n, hn, rfl⟩ | h0
  · obtain ⟨I1, -, q1, q3, q4⟩ := sp238 (xs := xs) (J := J) (rf := rf) (g := g) h' hn
    refine ⟨I1, hq.trans q3, fun d R => ?_⟩
    have hk := kidx_in hn (show 4 < 2147483648 by omega)
    rw [hk, if_neg (by decide), nI_clamp (by omega)]
    have hm7 := dM7 h.vr (nxt r s n) (nxt r s n).nx
    have em := q1.day.m
    have es := q1.so
    have hp : prm (dS r (nxt r s n)) (dM r (nxt r s n) (nxt r s n).nx) := dS_prm
    generalize dM r (nxt r s n) (nxt r s n).nx = m at *
    generalize dS r (nxt r s n) = S at *
    rw [B247_0, kp12_0, kO_s, n_0, sp205, n_4, hk, kpush_s, B247_9, ← n_0, if_neg (by decide), B247_14, krecv_m ks185, kcond_t]
    have q4' : ∀ R, kX xs (d + 5) 238 0 [some (.ref 185), some (.int (nI n))] [] (kmm (ku I 185 0 (0 : Int32)) J rf g) R = R none (kmm I1 J rf g) := q4 d
    rw [q4', kpush_n, B247_19]
    by_cases hz : m = 0
    · rw [hz] at em
      rw [if_pos hz, B247_21, c8_12, if_neg (by decide), B247_27, kg12_28, kO_s, em, if_neg (by decide), B247_87]
    · rw [if_neg hz]
      have key : ∀ f n, f + n = 12 → kX xs (d + 6) 247 21 [some (.ref 185), none, some (.int (nI (n + 1))), none, none] [] (kmm I1 J rf g) R = R (some (.int (bk S m f (n + 1)))) (kmm I1 J rf g) := by
        intro f
        induction f with
        | zero =>
          intro n hf
          rw [B247_21, c8_12, if_pos (nI_lt (by omega) (by omega)), B247_87]
          rfl
        | succ f ih =>
          intro n hf
          have L := kchain (n := m) (fun i => kX xs (d + 6) 247 39 [some (.ref 185), none, some (.int (nI (n + 1))), some (.int (nI (bN (alB S (n + 1) i)))), some (.int (nI i))] [] (kmm I1 J rf g) R) (by
            intro i hi
            show kX xs (d + 6) 247 39 _ _ _ _ = kX xs (d + 6) 247 39 _ _ _ _
            obtain ⟨a1, a2, a3, a4⟩ := rdO_ok hp hm7 hi
            rw [B247_39, kg12_28, kO_s, em, if_pos (nI_lt hi (by omega)), B247_48, alB]
            cases hb : alB S (n + 1) i with
            | false => rw [if_pos (show nI (bN false) = 0 from rfl), B247_67, B247_68, nI_add1]; rfl
            | true =>
              have hmod := Nat.mod_lt (n + 1) (show rdO S i > 0 by omega)
              rw [if_neg (show ¬ nI (bN true) = 0 by decide), B247_52, krecv_m ks185, kcond_t, sp246 hm7 hp es hi, kpush_s, B247_59, if_neg (nI_ne0 (by omega) (by omega)), pk_rem (by omega) (by omega) (by omega)]
              by_cases q : it S (n + 1) i = i
              · have q' := (it_iff hp hm7 hi (n + 1)).mp q
                rw [q', if_pos (show nI 0 = 0 from rfl), B247_63, B247_68, nI_add1, decide_eq_true q]; rfl
              · have q' : (n + 1) % rdO S i ≠ 0 := fun e => q ((it_iff hp hm7 hi (n + 1)).mpr e)
                rw [if_neg (nI_ne0 (by omega) (by omega)), B247_67, B247_68, nI_add1, show decide (it S (n + 1) i = i) = false from decide_eq_false q]; rfl)
          rw [B247_21, c8_12, if_neg (nI_nlt (by omega) (by omega)), B247_27, kg12_28, kO_s, em, n_0, if_pos (nI_lt (by omega) (by omega)), B247_34]
          refine Eq.trans L ?_
          rw [B247_39, kg12_28, kO_s, em, if_neg (nI_nlt (Nat.le_refl _) (by omega)), B247_75, bk]
          cases hb : alB S (n + 1) m with
          | true => rw [if_neg (show ¬ nI (bN true) = 0 by decide), B247_79, if_pos rfl]
          | false => rw [if_pos (show nI (bN false) = 0 from rfl), B247_81, nI_add1, if_neg (by decide)]; exact ih (n + 1) (by omega)
      exact key 12 0 rfl
  · refine ⟨_, hq, fun d R => ?_⟩
    rw [h0, if_pos rfl, B247_0, kp12_0, kO_s, n_0, sp205, n_4, h0, kpush_s, B247_9, if_pos rfl, B247_12]
/-- roundsOfCases -/
theorem sp83 (hm : m ≤ 7) (hp : prm S m) (em : I 54 0 = nI m) (es : ∀ p, p < m → I 57 p = nI (S p)) : kX xs d 83 0 [some (.ref 54), none, none, none, none, none] [] (kmm I J rf g) R = R (some (.int (nI (lpN S m)))) (kmm I J rf g) := by
  have key : ∀ f st G, st + f = m → G < 2 ^ 7 → (∀ x, x < m → (G.testBit x = true ↔ ∃ k, k < st ∧ ∃ j, it S j k = x)) → kX xs d 83 6 [some (.ref 54), some (.int (nI (nsum (fun k => bN (fsB S k (rdO S k - 1))) st))), some (.int (nI G)), some (.int (nI st)), none, none] [] (kmm I J rf g) R = R (some (.int (nI (lpN S m)))) (kmm I J rf g) := by
    intro f
    induction f with
    | zero =>
      intro st G hs hG hx
      obtain rfl : st = m := by omega
      rw [B83_6, kg8_0, kO_s, em, if_neg (nI_nlt (Nat.le_refl _) (by omega)), B83_77]
      rfl
    | succ f ih =>
      intro st G hs hG hx
      have hst : st < m := by omega
      obtain ⟨a1, a2, a3, a4⟩ := rdO_ok hp hm hst
      have hfi := fst_iff hp hm hst
      rw [B83_6, kg8_0, kO_s, em, if_pos (nI_lt hst (by omega)), B83_14, nI_tb (by omega) (by omega)]
      cases hb : G.testBit st with
      | true =>
        have hg := (hx st hst).mp hb
        have hf : fsB S st (rdO S st - 1) = false := by
          cases q : fsB S st (rdO S st - 1) with
          | true => exact absurd hg (hfi.mp q)
          | false => rfl
        rw [if_neg (show ¬ nI (bN true) = 0 by decide), B83_25, B83_31, kg8_0, kO_s, em, n_0, if_pos (nI_lt (by omega) (by omega)), B83_40, nI_tb (by omega) (by omega), hb, ← n_0, if_neg (show ¬ nI (bN true) = 0 by decide), B83_71, nI_add1]
        have e1 : nsum (fun k => bN (fsB S k (rdO S k - 1))) (st + 1) = nsum (fun k => bN (fsB S k (rdO S k - 1))) st := by rw [nsum, hf]; rfl
        rw [← e1]
        refine ih (st + 1) G (by omega) hG (fun x hxm => ⟨fun hg => ?_, fun ⟨k, h1, j, h2⟩ => ?_⟩)
        · obtain ⟨k, h1, h2⟩ := (hx x hxm).mp hg
          exact ⟨k, by omega, h2⟩
        · by_cases e : k = st
          · obtain ⟨k', h3, j', h4⟩ := hg
            refine (hx x hxm).mpr ⟨k', h3, j + j', ?_⟩
            rw [it_add, h4, ← e, h2]
          · exact (hx x hxm).mpr ⟨k, by omega, j, h2⟩
      | false =>
        have hng : ¬ ∃ k, k < st ∧ ∃ j, it S j k = st := fun q => by have := (hx st hst).mpr q; rw [hb] at this; exact absurd this (by decide)
        have hf : fsB S st (rdO S st - 1) = true := hfi.mpr hng
        have W : ∀ c, c ≤ rdO S st → ∃ G', G' < 2 ^ 7 ∧ (∀ x, x < m → (G'.testBit x = true ↔ (G.testBit x = true ∨ ∃ i, i < c ∧ it S i st = x))) ∧ ∀ l1, kX xs d 83 31 [some (.ref 54), some (.int l1), some (.int (nI G)), some (.int (nI st)), some (.int (nI st)), some (.int (nI 0))] [] (kmm I J rf g) R = kX xs d 83 31 [some (.ref 54), some (.int l1), some (.int (nI G')), some (.int (nI st)), some (.int (nI (it S c st))), some (.int (nI c))] [] (kmm I J rf g) R := by
          intro c
          induction c with
          | zero => intro _; exact ⟨G, hG, fun x _ => ⟨fun q => Or.inl q, fun q => by rcases q with q | ⟨i, hi, _⟩; exact q; omega⟩, fun _ => rfl⟩
          | succ c ihc =>
            intro hc
            obtain ⟨G', b1, b2, b3⟩ := ihc (by omega)
            have hit := it_lt hp hst c
            have hnb : G'.testBit (it S c st) = false := by
              cases q : G'.testBit (it S c st) with
              | false => rfl
              | true =>
                rcases (b2 _ hit).mp q with q | ⟨i, hi, e⟩
                · obtain ⟨k, h1, j, h2⟩ := (hx _ hit).mp q
                  obtain ⟨i, hi⟩ := it_sym hp hm hst (show it S c st = it S c st from rfl)
                  exact absurd ⟨k, h1, i + j, by rw [it_add, h2, hi]⟩ hng
                · have e2 : it S c st = it S i (it S (c - i) st) := by rw [← it_add, show i + (c - i) = c by omega]
                  rw [e2] at e
                  have := it_inj hp i _ _ hst (it_lt hp hst _) e
                  exact absurd this.symm (a4 (c - i) (by omega) (by omega))
            refine ⟨G' ||| 2 ^ it S c st, or_lt b1 (by omega), fun x hxm => ?_, fun l1 => ?_⟩
            · rw [Nat.testBit_or, tb_two, Bool.or_eq_true, b2 x hxm, decide_eq_true_eq]
              constructor
              · rintro ((q | ⟨i, hi, e⟩) | q)
                · exact Or.inl q
                · exact Or.inr ⟨i, by omega, e⟩
                · exact Or.inr ⟨c, by omega, q⟩
              · rintro (q | ⟨i, hi, e⟩)
                · exact Or.inl (Or.inl q)
                · by_cases ei : i = c
                  · exact Or.inr (ei ▸ e)
                  · exact Or.inl (Or.inr ⟨i, by omega, e⟩)
            · rw [b3, B83_31, kg8_0, kO_s, em, if_pos (nI_lt (by omega) (by omega)), B83_40, nI_tb (by omega) (by omega), hnb, if_pos (show nI (bN false) = 0 from rfl), B83_49, kg8_3, kO_s, ka57 (by omega), kO_s, es _ hit, nI_bit (by omega), nI_or, nI_add1]
              rfl
        obtain ⟨G', b1, b2, b3⟩ := W (rdO S st) (Nat.le_refl _)
        have e1 : nsum (fun k => bN (fsB S k (rdO S k - 1))) (st + 1) = nsum (fun k => bN (fsB S k (rdO S k - 1))) st + 1 := by rw [nsum, hf]; rfl
        have hend : kX xs d 83 31 [some (.ref 54), some (.int (nI (nsum (fun k => bN (fsB S k (rdO S k - 1))) (st + 1)))), some (.int (nI G')), some (.int (nI st)), some (.int (nI (it S (rdO S st) st))), some (.int (nI (rdO S st)))] [] (kmm I J rf g) R = kX xs d 83 71 [some (.ref 54), some (.int (nI (nsum (fun k => bN (fsB S k (rdO S k - 1))) (st + 1)))), some (.int (nI G')), some (.int (nI st)), none, none] [] (kmm I J rf g) R := by
          rw [B83_31, kg8_0, kO_s, em]
          by_cases q : rdO S st < m
          · have hb1 : G'.testBit st = true := (b2 st hst).mpr (Or.inr ⟨0, by omega, rfl⟩)
            rw [if_pos (nI_lt q (by omega)), B83_40, a1, nI_tb (by omega) (by omega), hb1, if_neg (show ¬ nI (bN true) = 0 by decide)]
          · rw [if_neg (nI_nlt (by omega) (by omega))]
        rw [if_pos (show nI (bN false) = 0 from rfl), B83_22, nI_add1, ← e1, B83_25]
        refine Eq.trans (b3 _) ?_
        rw [hend, B83_71, nI_add1]
        refine ih (st + 1) G' (by omega) b1 (fun x hxm => ⟨fun hg => ?_, fun ⟨k, h1, j, h2⟩ => ?_⟩)
        · rcases (b2 x hxm).mp hg with q | ⟨i, hi, e⟩
          · obtain ⟨k, h1, h2⟩ := (hx x hxm).mp q
            exact ⟨k, by omega, h2⟩
          · exact ⟨st, by omega, i, e⟩
        · by_cases e : k = st
          · refine (b2 x hxm).mpr (Or.inr ⟨j % rdO S st, Nat.mod_lt _ (by omega), ?_⟩)
            rw [← it_mod a1, ← e, h2]
          · exact (b2 x hxm).mpr (Or.inl ((hx x hxm).mpr ⟨k, by omega, j, h2⟩))
  rw [B83_0]
  exact key m 0 0 (by omega) (by omega) (fun x _ => ⟨fun q => by rw [Nat.zero_testBit] at q; exact absurd q (by decide), fun ⟨k, h1, _⟩ => by omega⟩)
theorem sp126 (h : cB I rf r s) (x : Int32) : ∃ I', cQ I I' ∧ ∀ d R, kX xs (d + 6) 126 0 [some (.ref 0), some (.int x)] [] (kmm I J rf g) R = R (some (.int (aLoops r s x))) (kmm I' J rf g) := by
  unfold aLoops
  rcases kidx_c x (show 4 < 2147483648 by omega) with ⟨n, hn, rfl⟩ | h0
  · obtain ⟨I1, q1, q3, q4⟩ := sp66q (xs := xs) (J := J) (g := g) h hn
    refine ⟨I1, q3, fun d R => ?_⟩
    have hk := kidx_in hn (show 4 < 2147483648 by omega)
    rw [hk, if_neg (by decide), nI_clamp (by omega)]
    rw [B126_0, sp153, hk, kpush_s, B126_4, if_neg (by decide), B126_9, kg11_9, kO_s, kg11_2, kO_s, kg11_6, kO_s, kg11_7, kO_s, krecv_m ks54, kcond_t, q4, kpush_n, B126_29, kg11_9, kO_s, krecv_m ks54, kcond_t, sp83 (dM7 h.vr _ _) dS_prm q1.day.m q1.so, kpush_s, B126_36]
  · refine ⟨I, cQ.refl I, fun d R => ?_⟩
    rw [h0, if_pos rfl, B126_0, sp153, h0, kpush_s, B126_4, if_pos rfl, B126_7]
theorem sp248 (h : mB I r s) (x : Int32) : ∃ I', mQ I I' ∧ ∀ d R, kX xs (d + 6) 248 0 [some (.ref 185), some (.int x), none, none, none, none] [] (kmm I J rf g) R = R (some (.int (aLoops r s x))) (kmm I' J rf g) := by
  have hq := mQ.thr I (nI 0)
  have h' := h.keep hq
  unfold aLoops
  rcases kidx_c x (show 4 < 2147483648 by omega) with ⟨n, hn, rfl⟩ | h0
  · obtain ⟨I1, -, q1, q3, q4⟩ := sp238 (xs := xs) (J := J) (rf := rf) (g := g) h' hn
    refine ⟨I1, hq.trans q3, fun d R => ?_⟩
    have hk := kidx_in hn (show 4 < 2147483648 by omega)
    rw [hk, if_neg (by decide), nI_clamp (by omega)]
    have hm7 := dM7 h.vr (nxt r s n) (nxt r s n).nx
    have em := q1.day.m
    have es := q1.so
    have hp : prm (dS r (nxt r s n)) (dM r (nxt r s n) (nxt r s n).nx) := dS_prm
    generalize dM r (nxt r s n) (nxt r s n).nx = m at *
    generalize dS r (nxt r s n) = S at *
    have L := kchain (n := m) (fun k => kX xs (d + 6) 248 23 [some (.ref 185), none, some (.int (nI (nsum (fun k => bN (fsB S k (rdO S k - 1))) k))), some (.int (nI k)), none, none] [] (kmm I1 J rf g) R) (by
      intro k hk
      show kX xs (d + 6) 248 23 _ _ _ _ = kX xs (d + 6) 248 23 _ _ _ _
      obtain ⟨a1, a2, a3, a4⟩ := rdO_ok hp hm7 hk
      have L2 := kchain (n := rdO S k - 1) (fun j => kX xs (d + 6) 248 42 [some (.ref 185), none, some (.int (nI (nsum (fun k => bN (fsB S k (rdO S k - 1))) k))), some (.int (nI k)), some (.int (nI (bN (fsB S k j)))), some (.int (nI (it S (j + 1) k)))] [] (kmm I1 J rf g) R) (by
        intro j hj
        show kX xs (d + 6) 248 42 _ _ _ _ = kX xs (d + 6) 248 42 _ _ _ _
        have hit := it_lt hp hk (j + 1)
        have hne := a4 (j + 1) (by omega) (by omega)
        rw [B248_42, if_neg (fun q => hne (by rw [nI_inj (by omega) (by omega)] at q; exact q)), B248_48, fsB]
        cases hb : fsB S k j with
        | false => rw [if_pos (show nI (bN false) = 0 from rfl), B248_63, B248_64, kg12_27, kO_s, ka204 (by omega), kO_s, es _ hit]; rfl
        | true =>
          rw [if_neg (show ¬ nI (bN true) = 0 by decide), B248_53]
          by_cases q : k < it S (j + 1) k
          · rw [if_pos (nI_lt q (by omega)), B248_59, B248_64, kg12_27, kO_s, ka204 (by omega), kO_s, es _ hit, decide_eq_true q]; rfl
          · rw [if_neg (nI_nlt (by omega) (by omega)), B248_63, B248_64, kg12_27, kO_s, ka204 (by omega), kO_s, es _ hit, show decide (k < it S (j + 1) k) = false from decide_eq_false q]; rfl)
      rw [B248_23, kg12_28, kO_s, em, if_pos (nI_lt hk (by omega)), B248_31, kg12_27, kO_s, ka204 (by omega), kO_s, es k hk]
      refine Eq.trans L2 ?_
      rw [show rdO S k - 1 + 1 = rdO S k by omega, a1, B248_42, if_pos rfl, B248_78, nsum]
      cases hb : fsB S k (rdO S k - 1) with
      | false => rw [if_pos (show nI (bN false) = 0 from rfl), B248_88, B248_89, n_0, nI_add, nI_add1]; rfl
      | true => rw [if_neg (show ¬ nI (bN true) = 0 by decide), B248_84, B248_89, nI_add1, nI_add1]; rfl)
    rw [B248_0, kp12_0, kO_s, n_0, sp205, n_4, hk, kpush_s, B248_9, ← n_0, if_neg (by decide), B248_14, krecv_m ks185, kcond_t]
    have q4' : ∀ R, kX xs (d + 5) 238 0 [some (.ref 185), some (.int (nI n))] [] (kmm (ku I 185 0 (0 : Int32)) J rf g) R = R none (kmm I1 J rf g) := q4 d
    rw [q4', kpush_n, B248_19]
    refine Eq.trans L ?_
    rw [B248_23, kg12_28, kO_s, em, if_neg (nI_nlt (Nat.le_refl _) (by omega)), B248_97]
    rfl
  · refine ⟨_, hq, fun d R => ?_⟩
    rw [h0, if_pos rfl, B248_0, kp12_0, kO_s, n_0, sp205, n_4, h0, kpush_s, B248_9, if_pos rfl, B248_12]
end LO
