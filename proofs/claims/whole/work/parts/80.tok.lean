/-! the tape cut into tokens: pure -/
def rnF (p : Nat → Bool) : Nat → Nat → Nat
  | 0, i => i
  | f + 1, i => if p i = true then rnF p f (i + 1) else i
/-- the first place from i on, before n, where p holds no more -/
def rnE (p : Nat → Bool) (n i : Nat) : Nat := rnF p (n - i) i
theorem rnE_end {p : Nat → Bool} {n i : Nat} (h : n ≤ i) : rnE p n i = i := by unfold rnE; rw [show n - i = 0 by omega]; rfl
theorem rnE_s {p : Nat → Bool} {n i : Nat} (h : i < n) (hp : p i = true) : rnE p n i = rnE p n (i + 1) := by
  unfold rnE
  rw [show n - i = (n - (i + 1)) + 1 by omega, rnF, if_pos hp]
theorem rnE_n {p : Nat → Bool} {n i : Nat} (hp : p i = false) : rnE p n i = i := by
  unfold rnE
  cases e : n - i with
  | zero => rfl
  | succ f => rw [rnF, if_neg (by rw [hp]; decide)]
theorem rnF_ok {p : Nat → Bool} : ∀ f i, i ≤ rnF p f i ∧ rnF p f i ≤ i + f ∧ (∀ k, i ≤ k → k < rnF p f i → p k = true) ∧ (rnF p f i < i + f → p (rnF p f i) = false) := by
  intro f
  induction f with
  | zero => intro i; exact ⟨Nat.le_refl _, Nat.le_refl _, fun k h1 h2 => by have h3 : k < i := h2; omega, fun h => absurd h (Nat.lt_irrefl _)⟩
  | succ f ih =>
    intro i
    rw [rnF]
    by_cases h : p i = true
    · rw [if_pos h]
      obtain ⟨a1, a2, a3, a4⟩ := ih (i + 1)
      refine ⟨by omega, by omega, fun k h1 h2 => ?_, fun h => a4 (by omega)⟩
      by_cases e : k = i
      · rw [e]; exact h
      · exact a3 k (by omega) h2
    · rw [if_neg h]
      refine ⟨Nat.le_refl _, by omega, fun k h1 h2 => by omega, fun _ => ?_⟩
      cases e : p i with
      | true => exact absurd e h
      | false => rfl
theorem rnE_ok {p : Nat → Bool} {n i : Nat} (h : i ≤ n) : i ≤ rnE p n i ∧ rnE p n i ≤ n ∧ (∀ k, i ≤ k → k < rnE p n i → p k = true) ∧ (rnE p n i < n → p (rnE p n i) = false) := by
  obtain ⟨a1, a2, a3, a4⟩ := rnF_ok (p := p) (n - i) i
  unfold rnE
  exact ⟨a1, by omega, a3, fun q => a4 (by omega)⟩
def isL (c : Nat) : Bool := decide (97 ≤ c) && decide (c ≤ 122)
def isD (c : Nat) : Bool := decide (48 ≤ c) && decide (c ≤ 57)
def isB (c : Nat) : Bool := decide (c = 10) || decide (c = 32)
def sgn8 : List Nat := [40, 41, 60, 61, 43, 45, 42, 59]
def isS (c : Nat) : Bool := sgn8.contains c
theorem isL_iff {c : Nat} : isL c = true ↔ 97 ≤ c ∧ c ≤ 122 := by unfold isL; rw [Bool.and_eq_true, decide_eq_true_eq, decide_eq_true_eq]
theorem isD_iff {c : Nat} : isD c = true ↔ 48 ≤ c ∧ c ≤ 57 := by unfold isD; rw [Bool.and_eq_true, decide_eq_true_eq, decide_eq_true_eq]
theorem isB_iff {c : Nat} : isB c = true ↔ c = 10 ∨ c = 32 := by unfold isB; rw [Bool.or_eq_true, decide_eq_true_eq, decide_eq_true_eq]
theorem bfalse {b : Bool} (h : ¬ b = true) : b = false := by cases b with
  | true => exact absurd rfl h
  | false => rfl
/-! words as numbers -/
def f37 (t : Nat → Nat) (p : Nat) : Nat → Nat
  | 0 => 0
  | k + 1 => f37 t p k * 37 + (t (p + k) - 96)
def f256 (t : Nat → Nat) (p : Nat) : Nat → Nat
  | 0 => 0
  | k + 1 => f256 t p k * 256 + t (p + k)
def f10 (t : Nat → Nat) (p : Nat) : Nat → Nat
  | 0 => 0
  | k + 1 => f10 t p k * 10 + (t (p + k) - 48)
def cnv : Nat → Nat → Nat
  | 0, _ => 0
  | f + 1, v => if v = 0 then 0 else cnv f (v / 37) * 256 + (v % 37 + 96)
def vnc : Nat → Nat → Nat
  | 0, _ => 0
  | f + 1, v => if v = 0 then 0 else vnc f (v / 256) * 37 + (v % 256 - 96)
theorem cnv_0 (f : Nat) : cnv f 0 = 0 := by cases f <;> rfl
theorem vnc_0 (f : Nat) : vnc f 0 = 0 := by cases f <;> rfl
theorem cnv_f {t : Nat → Nat} {p : Nat} : ∀ k f, k ≤ f → (∀ j, j < k → isL (t (p + j)) = true) → cnv f (f37 t p k) = f256 t p k := by
  intro k
  induction k with
  | zero => intro f _ _; exact cnv_0 f
  | succ k ih =>
    intro f hf hl
    obtain ⟨f', rfl⟩ : ∃ f', f = f' + 1 := ⟨f - 1, by omega⟩
    have h := isL_iff.mp (hl k (by omega))
    have e := ih f' (by omega) (fun j hj => hl j (by omega))
    rw [f37, f256, cnv, if_neg (by omega), show (f37 t p k * 37 + (t (p + k) - 96)) / 37 = f37 t p k by omega, show (f37 t p k * 37 + (t (p + k) - 96)) % 37 = t (p + k) - 96 by omega, e]
    omega
theorem vnc_f {t : Nat → Nat} {p : Nat} : ∀ k f, k ≤ f → (∀ j, j < k → isL (t (p + j)) = true) → vnc f (f256 t p k) = f37 t p k := by
  intro k
  induction k with
  | zero => intro f _ _; exact vnc_0 f
  | succ k ih =>
    intro f hf hl
    obtain ⟨f', rfl⟩ : ∃ f', f = f' + 1 := ⟨f - 1, by omega⟩
    have h := isL_iff.mp (hl k (by omega))
    have e := ih f' (by omega) (fun j hj => hl j (by omega))
    rw [f37, f256, vnc, if_neg (by omega), show (f256 t p k * 256 + t (p + k)) / 256 = f256 t p k by omega, show (f256 t p k * 256 + t (p + k)) % 256 = t (p + k) by omega, e]
theorem f256_le {t : Nat → Nat} {p : Nat} : ∀ k, (∀ j, j < k + 1 → isL (t (p + j)) = true) → f256 t p (k + 1) + 1 ≤ 123 * 256 ^ k := by
  intro k
  induction k with
  | zero =>
    intro hl
    have h := isL_iff.mp (hl 0 (by omega))
    show 0 * 256 + t (p + 0) + 1 ≤ 123 * 1
    omega
  | succ k ih =>
    intro hl
    have e := ih (fun j hj => hl j (by omega))
    have h := isL_iff.mp (hl (k + 1) (by omega))
    rw [f256, Nat.pow_succ]
    generalize f256 t p (k + 1) = x at *
    generalize 256 ^ k = y at *
    omega
theorem f37_le {t : Nat → Nat} {p : Nat} : ∀ k, f37 t p k ≤ f256 t p k := by
  intro k
  induction k with
  | zero => exact Nat.le_refl _
  | succ k ih => rw [f37, f256]; omega
theorem f256_lt {t : Nat → Nat} {p k : Nat} (hk : k ≤ 8) (hl : ∀ j, j < k → isL (t (p + j)) = true) : f256 t p k < 2 ^ 63 := by
  cases k with
  | zero => exact Nat.pow_pos (by decide)
  | succ k =>
    have h := f256_le k hl
    have h2 : (256 : Nat) ^ k ≤ 256 ^ 7 := Nat.pow_le_pow_right (by decide) (by omega)
    have e7 : (256 : Nat) ^ 7 = 72057594037927936 := by decide
    have e63 : (2 : Nat) ^ 63 = 9223372036854775808 := by decide
    omega
theorem f10_lt {t : Nat → Nat} {p : Nat} : ∀ k, (∀ j, j < k → isD (t (p + j)) = true) → f10 t p k < 10 ^ k := by
  intro k
  induction k with
  | zero => intro _; exact Nat.one_pos
  | succ k ih =>
    intro hl
    have e := ih (fun j hj => hl j (by omega))
    have h := isD_iff.mp (hl k (by omega))
    rw [f10, Nat.pow_succ]
    omega
/-- a word, as the number that the model makes of it -/
abbrev vWd (v : Nat) : Prop := (cnv 8 v < 2 ^ 63) ∧ (v < 2 ^ 63) ∧ (vnc 8 (cnv 8 v) = v)
theorem vWd.b {v : Nat} (h : vWd v) : cnv 8 v < 2 ^ 63 := h.1
theorem vWd.a {v : Nat} (h : vWd v) : v < 2 ^ 63 := h.2.1
theorem vWd.i {v : Nat} (h : vWd v) : vnc 8 (cnv 8 v) = v := h.2.2
theorem vWd_f {t : Nat → Nat} {p k : Nat} (hk : k ≤ 8) (hl : ∀ j, j < k → isL (t (p + j)) = true) : vWd (f37 t p k) := by
  have h := f256_lt hk hl
  have e := cnv_f k 8 hk hl
  exact ⟨by rw [e]; exact h, Nat.lt_of_le_of_lt (f37_le k) h, by rw [e]; exact vnc_f k 8 hk hl⟩
abbrev nJ (v : Nat) : Int64 := Int64.ofNat v
theorem nJ_n (v : Nat) : (nJ v).toBitVec.toNat = v % 2 ^ 64 := by
  show (BitVec.ofNat 64 v).toNat = v % 2 ^ 64
  rw [BitVec.toNat_ofNat]
theorem nJ_inj {a b : Nat} (ha : a < 2 ^ 63) (hb : b < 2 ^ 63) : (nJ a = nJ b) = (a = b) := by
  refine propext ⟨fun h => ?_, fun h => by rw [h]⟩
  have e := congrArg (fun x => x.toBitVec.toNat) h
  have e2 : (nJ a).toBitVec.toNat = (nJ b).toBitVec.toNat := e
  rw [nJ_n, nJ_n, Nat.mod_eq_of_lt (by omega), Nat.mod_eq_of_lt (by omega)] at e2
  exact e2
theorem cnv_inj {a b : Nat} (ha : vWd a) (hb : vWd b) : (cnv 8 a = cnv 8 b) = (a = b) := by
  refine propext ⟨fun h => ?_, fun h => by rw [h]⟩
  rw [← ha.i, ← hb.i, h]
/-- equal in the class iff equal in the model -/
theorem nJ_cnv {a b : Nat} (ha : vWd a) (hb : vWd b) : (nJ (cnv 8 a) = nJ (cnv 8 b)) = (a = b) := by rw [nJ_inj ha.b hb.b, cnv_inj ha hb]
theorem jW_or {a c : Nat} (hc : c < 256) : (nJ a <<< ((nI 8).toInt64 &&& 63)) ||| (nI c).toInt64 = nJ (a * 256 + c) := by
  refine Int64.toBitVec_inj.mp ?_
  have es : (((nI 8).toInt64 &&& 63).toBitVec.smod 64) = 8#64 := by decide
  have e2 : (nI c).toInt64.toBitVec.toNat = c := by
    have key : ∀ c : Fin 256, (nI c.val).toInt64.toBitVec.toNat = c.val := by decide +kernel
    exact key ⟨c, hc⟩
  refine BitVec.eq_of_toNat_eq ?_
  rw [Int64.toBitVec_or, BitVec.toNat_or, e2, nJ_n]
  show ((nJ a).toBitVec <<< (((nI 8).toInt64 &&& 63).toBitVec.smod 64)).toNat ||| c = _
  rw [es, BitVec.shiftLeft_eq', BitVec.toNat_shiftLeft, nJ_n, show (8#64).toNat = 8 from rfl]
  refine Nat.eq_of_testBit_eq (fun i => ?_)
  rw [Nat.testBit_or, Nat.testBit_mod_two_pow, Nat.testBit_mod_two_pow, Nat.testBit_shiftLeft, Nat.testBit_mod_two_pow, show a * 256 + c = 2 ^ 8 * a + c by omega, Nat.testBit_two_pow_mul_add a (show c < 2 ^ 8 by omega)]
  by_cases h : i < 8
  · rw [if_pos h, decide_eq_true (show i < 64 by omega), decide_eq_false (show ¬ i ≥ 8 by omega)]
    simp
  · rw [if_neg h, decide_eq_true (show i ≥ 8 by omega), Nat.testBit_lt_two_pow (x := c) (i := i) (Nat.lt_of_lt_of_le (show c < 2 ^ 8 by omega) (Nat.pow_le_pow_right (by decide) (by omega)))]
    by_cases h2 : i < 64
    · rw [decide_eq_true h2, decide_eq_true (show i - 8 < 64 by omega)]
      simp
    · rw [decide_eq_false h2]
      simp
def wrd37 : List Nat := [19811063, 22745103, 154036, 14195625, 569, 223088818, 7751741, 5538, 30601298, 614732, 223095242, 30596128, 36629644, 671258, 964262, 19741, 1891, 573, 19914, 660401, 38248553, 14043393]
theorem wrd_c : kwords = wrd37.map (fun v => nJ (cnv 8 v)) := by decide +kernel
theorem wrd_v : ∀ v, v ∈ wrd37 → vWd v := by
  have key : ∀ v, v ∈ wrd37 → (cnv 8 v < 2 ^ 63 ∧ v < 2 ^ 63 ∧ vnc 8 (cnv 8 v) = v) := by decide +kernel
  exact fun v h => ⟨(key v h).1, (key v h).2.1, (key v h).2.2⟩
def wIx (v : Nat) : List Nat → Nat → Nat
  | [], _ => 3
  | w :: ws, i => if w = v then 128 + i else wIx v ws (i + 1)
def wKd (v : Nat) : Nat := wIx v wrd37 0
def sIx (c : Nat) : List Nat → Nat → Int32
  | [], _ => -1
  | w :: ws, i => if w = c then nI i else sIx c ws (i + 1)
theorem sIx_s {c : Nat} (h : c < 127) : (sIx c sgn8 0 < 0) = (isS c = false) := by
  have key : ∀ c : Fin 127, decide (sIx c.val sgn8 0 < 0) = decide (isS c.val = false) := by decide +kernel
  exact decide_eq_decide.mp (key ⟨c, h⟩) |> propext
/-! a token: its kind as the class counts, where it ends, its value -/
def skp (T : aTp) (i : Nat) : Nat := rnE (fun k => isB (T.t k)) T.n i
def wdE (T : aTp) (p : Nat) : Nat := rnE (fun k => isL (T.t k)) T.n p
def dgE (T : aTp) (p : Nat) : Nat := rnE (fun k => isD (T.t k)) T.n p
def tE (T : aTp) (p : Nat) : Nat := if p < T.n then if isL (T.t p) = true then wdE T p else if isD (T.t p) = true then dgE T p else p + 1 else p
def tV (T : aTp) (p : Nat) : Nat := if isL (T.t p) = true then f37 T.t p (min (wdE T p - p) 8) else if isD (T.t p) = true then f10 T.t p (min (dgE T p - p) 4) else T.t p
def tK (T : aTp) (p : Nat) : Nat := if p < T.n then if isL (T.t p) = true then if 8 < wdE T p - p then 1 else wKd (tV T p) else if isD (T.t p) = true then if 4 < dgE T p - p then 1 else 2 else if isS (T.t p) = true then T.t p else 1 else 0
def pT (T : aTp) : Nat → Nat
  | 0 => skp T 0
  | k + 1 => skp T (tE T (pT T k))
theorem skp_le {T : aTp} {i : Nat} (h : i ≤ T.n) : i ≤ skp T i ∧ skp T i ≤ T.n := ⟨(rnE_ok h).1, (rnE_ok h).2.1⟩
theorem tE_le {T : aTp} {p : Nat} (h : p ≤ T.n) : p ≤ tE T p ∧ tE T p ≤ T.n ∧ (p < T.n → p < tE T p) := by
  unfold tE
  by_cases h0 : p < T.n
  · rw [if_pos h0]
    by_cases h1 : isL (T.t p) = true
    · rw [if_pos h1]
      unfold wdE
      rw [rnE_s h0 h1]
      have a := rnE_ok (p := fun k => isL (T.t k)) (show p + 1 ≤ T.n by omega)
      exact ⟨by omega, a.2.1, fun _ => by omega⟩
    · rw [if_neg h1]
      by_cases h2 : isD (T.t p) = true
      · rw [if_pos h2]
        unfold dgE
        rw [rnE_s h0 h2]
        have a := rnE_ok (p := fun k => isD (T.t k)) (show p + 1 ≤ T.n by omega)
        exact ⟨by omega, a.2.1, fun _ => by omega⟩
      · rw [if_neg h2]
        exact ⟨by omega, by omega, fun _ => by omega⟩
  · rw [if_neg h0]
    exact ⟨Nat.le_refl _, h, fun q => absurd q h0⟩
theorem pT_le {T : aTp} : ∀ k, pT T k ≤ T.n := by
  intro k
  induction k with
  | zero => exact (skp_le (Nat.zero_le _)).2
  | succ k ih => exact (skp_le (tE_le ih).2.1).2
theorem tV_w {T : aTp} {p : Nat} (h0 : p < T.n) (h1 : isL (T.t p) = true) : vWd (tV T p) := by
  unfold tV
  rw [if_pos h1]
  have a := rnE_ok (p := fun k => isL (T.t k)) (show p ≤ T.n by omega)
  refine vWd_f (by omega) (fun j hj => a.2.2.1 (p + j) (by omega) ?_)
  unfold wdE at hj
  omega
