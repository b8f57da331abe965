/-! what is seen; marks; count -/
abbrev aSn : Type := (Nat) × (Nat → Nat) × (Nat → Nat) × (Nat → Bool)
def aSn.mk (n : Nat) (c : Nat → Nat) (j : Nat → Nat) (g : Nat → Bool) : aSn := (n, c, j, g)
def aSn.n (s : aSn) : Nat := s.1
def aSn.c (s : aSn) : Nat → Nat := s.2.1
def aSn.j (s : aSn) : Nat → Nat := s.2.2.1
def aSn.g (s : aSn) : Nat → Bool := s.2.2.2
def kub (f : Nat → Bool) (k : Nat) (x : Bool) : Nat → Bool := fun i => if i = k then x else f i
theorem kub_s (f : Nat → Bool) (k : Nat) (x : Bool) : kub f k x k = x := by simp [kub]
theorem kub_n {f : Nat → Bool} {k j : Nat} {x : Bool} (h : j ≠ k) : kub f k x j = f j := by simp [kub, h]
abbrev cSn (I : Nat → Nat → Int32) (a G : Nat) (z : aSn) : Prop := (I a 0 = nI z.n) ∧ (z.n ≤ 8) ∧ (∀ k, k < z.n → I (a + 1) k = nI (z.c k)) ∧ (∀ k, k < z.n → I (a + 2) k = nI (z.j k)) ∧ (I a 3 = nI G) ∧ (G < 256) ∧ (∀ k, k < z.n → G.testBit k = z.g k)
theorem cSn.n {I : Nat → Nat → Int32} {a G : Nat} {z : aSn} (h : cSn I a G z) : I a 0 = nI z.n := h.1
theorem cSn.nl {I : Nat → Nat → Int32} {a G : Nat} {z : aSn} (h : cSn I a G z) : z.n ≤ 8 := h.2.1
theorem cSn.c {I : Nat → Nat → Int32} {a G : Nat} {z : aSn} (h : cSn I a G z) : ∀ k, k < z.n → I (a + 1) k = nI (z.c k) := h.2.2.1
theorem cSn.j {I : Nat → Nat → Int32} {a G : Nat} {z : aSn} (h : cSn I a G z) : ∀ k, k < z.n → I (a + 2) k = nI (z.j k) := h.2.2.2.1
theorem cSn.gt {I : Nat → Nat → Int32} {a G : Nat} {z : aSn} (h : cSn I a G z) : I a 3 = nI G := h.2.2.2.2.1
theorem cSn.gl {I : Nat → Nat → Int32} {a G : Nat} {z : aSn} (h : cSn I a G z) : G < 256 := h.2.2.2.2.2.1
theorem cSn.gb {I : Nat → Nat → Int32} {a G : Nat} {z : aSn} (h : cSn I a G z) : ∀ k, k < z.n → G.testBit k = z.g k := h.2.2.2.2.2.2
abbrev mSn (I : Nat → Nat → Int32) (b : Nat) (z : aSn) : Prop := (I 201 (b + 30) = nI z.n) ∧ (∀ k, k < z.n → I 201 (b + 31 + 3 * k) = nI (z.c k)) ∧ (∀ k, k < z.n → I 201 (b + 31 + 3 * k + 1) = nI (z.j k)) ∧ (∀ k, k < z.n → I 201 (b + 31 + 3 * k + 2) = nI (bN (z.g k)))
theorem mSn.n {I : Nat → Nat → Int32} {b : Nat} {z : aSn} (h : mSn I b z) : I 201 (b + 30) = nI z.n := h.1
theorem mSn.c {I : Nat → Nat → Int32} {b : Nat} {z : aSn} (h : mSn I b z) : ∀ k, k < z.n → I 201 (b + 31 + 3 * k) = nI (z.c k) := h.2.1
theorem mSn.j {I : Nat → Nat → Int32} {b : Nat} {z : aSn} (h : mSn I b z) : ∀ k, k < z.n → I 201 (b + 31 + 3 * k + 1) = nI (z.j k) := h.2.2.1
theorem mSn.g {I : Nat → Nat → Int32} {b : Nat} {z : aSn} (h : mSn I b z) : ∀ k, k < z.n → I 201 (b + 31 + 3 * k + 2) = nI (bN (z.g k)) := h.2.2.2
abbrev vSn (r : aRl) (z : aSn) : Prop := (z.n ≤ 8) ∧ (∀ k, k < z.n → z.c k < r.nc) ∧ (∀ k, k < z.n → z.j k < r.nj)
theorem vSn.n {r : aRl} {z : aSn} (h : vSn r z) : z.n ≤ 8 := h.1
theorem vSn.c {r : aRl} {z : aSn} (h : vSn r z) : ∀ k, k < z.n → z.c k < r.nc := h.2.1
theorem vSn.j {r : aRl} {z : aSn} (h : vSn r z) : ∀ k, k < z.n → z.j k < r.nj := h.2.2
abbrev aM : Type := (aH) × (aSn) × (Nat → Bool) × (Nat → aSt) × (Nat → aSn)
def aM.mk (H : aH) (z : aSn) (on : Nat → Bool) (ms : Nat → aSt) (mz : Nat → aSn) : aM := (H, z, on, ms, mz)
def aM.H (s : aM) : aH := s.1
def aM.z (s : aM) : aSn := s.2.1
def aM.on (s : aM) : Nat → Bool := s.2.2.1
def aM.ms (s : aM) : Nat → aSt := s.2.2.2.1
def aM.mz (s : aM) : Nat → aSn := s.2.2.2.2
abbrev vMk (r : aRl) (M : aM) : Prop := (vSn r M.z) ∧ (∀ m, m < 4 → M.on m = true → vSt r (M.ms m)) ∧ (∀ m, m < 4 → M.on m = true → vSn r (M.mz m))
theorem vMk.z {r : aRl} {M : aM} (h : vMk r M) : vSn r M.z := h.1
theorem vMk.s {r : aRl} {M : aM} (h : vMk r M) : ∀ m, m < 4 → M.on m = true → vSt r (M.ms m) := h.2.1
theorem vMk.k {r : aRl} {M : aM} (h : vMk r M) : ∀ m, m < 4 → M.on m = true → vSn r (M.mz m) := h.2.2
abbrev cM (I : Nat → Nat → Int32) (rf : Nat → Nat) (r : aRl) (M : aM) : Prop := (cH I rf r M.H) ∧ (∃ G, cSn I 147 G M.z) ∧ (∀ m, m < 4 → I 152 m = nI (bN (M.on m))) ∧ (∀ m, m < 4 → M.on m = true → cSt I (153 + 8 * m) (M.ms m)) ∧ (∀ m, m < 4 → M.on m = true → ∃ G, cSn I (158 + 8 * m) G (M.mz m)) ∧ (vMk r M)
theorem cM.h {I : Nat → Nat → Int32} {rf : Nat → Nat} {r : aRl} {M : aM} (h : cM I rf r M) : cH I rf r M.H := h.1
theorem cM.z {I : Nat → Nat → Int32} {rf : Nat → Nat} {r : aRl} {M : aM} (h : cM I rf r M) : ∃ G, cSn I 147 G M.z := h.2.1
theorem cM.o {I : Nat → Nat → Int32} {rf : Nat → Nat} {r : aRl} {M : aM} (h : cM I rf r M) : ∀ m, m < 4 → I 152 m = nI (bN (M.on m)) := h.2.2.1
theorem cM.s {I : Nat → Nat → Int32} {rf : Nat → Nat} {r : aRl} {M : aM} (h : cM I rf r M) : ∀ m, m < 4 → M.on m = true → cSt I (153 + 8 * m) (M.ms m) := h.2.2.2.1
theorem cM.k {I : Nat → Nat → Int32} {rf : Nat → Nat} {r : aRl} {M : aM} (h : cM I rf r M) : ∀ m, m < 4 → M.on m = true → ∃ G, cSn I (158 + 8 * m) G (M.mz m) := h.2.2.2.2.1
theorem cM.v {I : Nat → Nat → Int32} {rf : Nat → Nat} {r : aRl} {M : aM} (h : cM I rf r M) : vMk r M := h.2.2.2.2.2
abbrev mM (I : Nat → Nat → Int32) (r : aRl) (M : aM) : Prop := (mH I r M.H) ∧ (mSn I 0 M.z) ∧ (∀ m, m < 4 → I 202 m = nI (bN (M.on m))) ∧ (∀ m, m < 4 → M.on m = true → mSt I (55 * (1 + m)) r (M.ms m)) ∧ (∀ m, m < 4 → M.on m = true → mSn I (55 * (1 + m)) (M.mz m)) ∧ (vMk r M)
theorem mM.h {I : Nat → Nat → Int32} {r : aRl} {M : aM} (h : mM I r M) : mH I r M.H := h.1
theorem mM.z {I : Nat → Nat → Int32} {r : aRl} {M : aM} (h : mM I r M) : mSn I 0 M.z := h.2.1
theorem mM.o {I : Nat → Nat → Int32} {r : aRl} {M : aM} (h : mM I r M) : ∀ m, m < 4 → I 202 m = nI (bN (M.on m)) := h.2.2.1
theorem mM.s {I : Nat → Nat → Int32} {r : aRl} {M : aM} (h : mM I r M) : ∀ m, m < 4 → M.on m = true → mSt I (55 * (1 + m)) r (M.ms m) := h.2.2.2.1
theorem mM.k {I : Nat → Nat → Int32} {r : aRl} {M : aM} (h : mM I r M) : ∀ m, m < 4 → M.on m = true → mSn I (55 * (1 + m)) (M.mz m) := h.2.2.2.2.1
theorem mM.v {I : Nat → Nat → Int32} {r : aRl} {M : aM} (h : mM I r M) : vMk r M := h.2.2.2.2.2
/-- what a call leaves alone -/
abbrev cN (I I' : Nat → Nat → Int32) : Prop := ∀ x k, x ≠ 0 → x ≠ 12 → x ≠ 25 → x < 39 ∨ 184 < x → I' x k = I x k
abbrev mN (I I' : Nat → Nat → Int32) : Prop := ∀ x k, x ≠ 199 → x ≠ 200 → x < 201 ∨ 204 < x → ¬ (x = 185 ∧ (k = 0 ∨ k = 24 ∨ k = 28 ∨ k = 32)) → I' x k = I x k
section SN
variable {xs : List Int32} {d : Nat} {I I' I2 : Nat → Nat → Int32} {J : Nat → Nat → Int64} {rf : Nat → Nat} {g : Nat} {R : Option Value → KW → Prop} {r : aRl} {s u : aSt} {b : Nat} {H : aH} {M : aM} {z : aSn}
theorem cN.refl (I : Nat → Nat → Int32) : cN I I := fun _ _ _ _ _ _ => rfl
theorem cN.trans (h : cN I I') (h2 : cN I' I2) : cN I I2 := fun x k a b c e => by rw [h2 x k a b c e, h x k a b c e]
theorem mN.refl (I : Nat → Nat → Int32) : mN I I := fun _ _ _ _ _ _ => rfl
theorem mN.trans (h : mN I I') (h2 : mN I' I2) : mN I I2 := fun x k a b c e => by rw [h2 x k a b c e, h x k a b c e]
theorem cN.of (h : cK I I') : cN I I' := fun x k a b c e => h x k a b c (by omega)
theorem mN.of (h : mK I I') : mN I I' := fun x k a b c e => h x k a b (by omega) e (by omega)
theorem cSn.keep {a G : Nat} (h : cSn I a G z) (hI : ∀ x k, a ≤ x → x ≤ a + 2 → I' x k = I x k) : cSn I' a G z :=
  ⟨by rw [hI _ _ (by omega) (by omega), h.n], h.nl, fun k hk => by rw [hI _ _ (by omega) (by omega), h.c k hk], fun k hk => by rw [hI _ _ (by omega) (by omega), h.j k hk], by rw [hI _ _ (by omega) (by omega), h.gt], h.gl, h.gb⟩
theorem mSn.keep (h : mSn I b z) (hn : z.n ≤ 8) (hI : ∀ k, b + 30 ≤ k → k < b + 55 → I' 201 k = I 201 k) : mSn I' b z :=
  ⟨by rw [hI _ (by omega) (by omega), h.n], fun k hk => by rw [hI _ (by omega) (by omega), h.c k hk], fun k hk => by rw [hI _ (by omega) (by omega), h.j k hk], fun k hk => by rw [hI _ (by omega) (by omega), h.g k hk]⟩
theorem mSn.copy {fr to : Nat} (h : mSn I fr z) (hn : z.n ≤ 8) (hI : ∀ i, i < 55 → I' 201 (to + i) = I 201 (fr + i)) : mSn I' to z := by
  refine ⟨by rw [hI _ (by omega), h.n], fun k hk => ?_, fun k hk => ?_, fun k hk => ?_⟩
  · rw [show to + 31 + 3 * k = to + (31 + 3 * k) by omega, hI _ (by omega), show fr + (31 + 3 * k) = fr + 31 + 3 * k by omega, h.c k hk]
  · rw [show to + 31 + 3 * k + 1 = to + (31 + 3 * k + 1) by omega, hI _ (by omega), show fr + (31 + 3 * k + 1) = fr + 31 + 3 * k + 1 by omega, h.j k hk]
  · rw [show to + 31 + 3 * k + 2 = to + (31 + 3 * k + 2) by omega, hI _ (by omega), show fr + (31 + 3 * k + 2) = fr + 31 + 3 * k + 2 by omega, h.g k hk]
/-- another history -/
def aM.wH (M : aM) (H : aH) : aM := aM.mk H M.z M.on M.ms M.mz
theorem cM.kept (h : cM I rf r M) (hh : cH I' rf r H) (q : cK I I') : cM I' rf r (M.wH H) := by
  obtain ⟨G, hz⟩ := h.z
  refine ⟨hh, ⟨G, hz.keep (fun x k h1 h2 => q x k (by omega) (by omega) (by omega) (by omega))⟩, fun m hm => by rw [q _ _ (by omega) (by omega) (by omega) (by omega)]; exact h.o m hm, fun m hm ho => (h.s m hm ho).keep (fun x k h1 h2 => q x k (by omega) (by omega) (by omega) (by omega)), fun m hm ho => ?_, h.v⟩
  obtain ⟨G, hk⟩ := h.k m hm ho
  exact ⟨G, hk.keep (fun x k h1 h2 => q x k (by omega) (by omega) (by omega) (by omega))⟩
theorem mM.kept (h : mM I r M) (hh : mH I' r H) (q : mK I I') : mM I' r (M.wH H) :=
  ⟨hh, h.z.keep h.v.z.n (fun k h1 h2 => q _ _ (by omega) (by omega) (by omega) (by omega) (by omega)), fun m hm => by rw [q _ _ (by omega) (by omega) (by omega) (by omega) (by omega)]; exact h.o m hm, fun m hm ho => (h.s m hm ho).keep h.h.b.vr (fun k h1 h2 => q _ _ (by omega) (by omega) (by omega) (by omega) (by omega)), fun m hm ho => (h.k m hm ho).keep (h.v.k m hm ho).n (fun k h1 h2 => q _ _ (by omega) (by omega) (by omega) (by omega) (by omega)), h.v⟩
theorem cM.keep (h : cM I rf r M) (q : cQ I I') : cM I' rf r M := h.kept (h.h.keep q) (cK.of q)
theorem mM.keep (h : mM I r M) (q : mQ I I') : mM I' r M := h.kept (h.h.keep q) (mK.of q)
/-! see -/
def zSee (r : aRl) (z : aSn) (x y w : Int32) : aSn := if kidx x (nI r.nc) = 0 then z else if kidx y (nI r.nj) = 0 then z else if z.n = 8 then z else aSn.mk (z.n + 1) (ku1 z.c z.n x.toNatClampNeg) (ku1 z.j z.n y.toNatClampNeg) (kub z.g z.n (decide (w ≠ 0)))
def aSee (r : aRl) (z : aSn) (x y : Int32) : Int32 := if kidx x (nI r.nc) = 0 then 0 else if kidx y (nI r.nj) = 0 then 0 else if z.n = 8 then 0 else 1
def mSee (r : aRl) (M : aM) (x y w : Int32) : aM := aM.mk M.H (zSee r M.z x y w) M.on M.ms M.mz
theorem zSee_v (v : vSn r z) (x y w : Int32) (hc : r.nc ≤ 7) (hj : r.nj ≤ 7) : vSn r (zSee r z x y w) := by
  unfold zSee
  rcases kidx_c x (show r.nc < 2147483648 by omega) with ⟨c, hc', rfl⟩ | h0
  · rcases kidx_c y (show r.nj < 2147483648 by omega) with ⟨j, hj', rfl⟩ | h1
    · rw [kidx_in hc' (by omega), kidx_in hj' (by omega), if_neg (by decide), if_neg (by decide)]
      by_cases h8 : z.n = 8
      · rw [if_pos h8]; exact v
      · have := v.n
        rw [if_neg h8, nI_clamp (by omega), nI_clamp (by omega)]
        refine ⟨show z.n + 1 ≤ 8 by omega, fun k hk => ?_, fun k hk => ?_⟩
        · have hk' : k < z.n + 1 := hk
          show ku1 z.c z.n c k < r.nc
          by_cases e : k = z.n
          · rw [e, ku1_s]; exact hc'
          · rw [ku1_n e]; exact v.c k (by omega)
        · have hk' : k < z.n + 1 := hk
          show ku1 z.j z.n j k < r.nj
          by_cases e : k = z.n
          · rw [e, ku1_s]; exact hj'
          · rw [ku1_n e]; exact v.j k (by omega)
    · rw [kidx_in hc' (by omega), h1, if_neg (by decide), if_pos rfl]; exact v
  · rw [h0, if_pos rfl]; exact v
/-- Seen.add -/
theorem sp60 {G c j : Nat} {w : Int32} (h : cSn I 147 G z) (h8 : z.n < 8) : ∃ I' G', cSn I' 147 G' (aSn.mk (z.n + 1) (ku1 z.c z.n c) (ku1 z.j z.n j) (kub z.g z.n (decide (w ≠ 0)))) ∧ (∀ x k, x < 147 ∨ 149 < x → I' x k = I x k) ∧ ∀ d R, kX xs d 60 0 [some (.ref 147), some (.int (nI c)), some (.int (nI j)), some (.int w)] [] (kmm I J rf g) R = R (some (.int 1)) (kmm I' J rf g) := by
  have e0 := h.n
  have eg := h.gt
  have hG := h.gl
  have k0 : ∀ v, ku I 148 z.n v 147 0 = nI z.n := fun v => by rw [ku_nea (by omega), e0]
  have k1 : ∀ v v', ku (ku I 148 z.n v) 149 z.n v' 147 0 = nI z.n := fun v v' => by rw [ku_nea (by omega), k0]
  have k2 : ∀ v v', ku (ku I 148 z.n v) 149 z.n v' 147 3 = nI G := fun v v' => by rw [ku_nea (by omega), ku_nea (by omega), eg]
  have k3 : ∀ v v' v'', ku (ku (ku I 148 z.n v) 149 z.n v') 147 3 v'' 147 0 = nI z.n := fun v v' v'' => by rw [ku_nek (by omega), k1]
  have fin : ∀ G', G' < 256 → (∀ k, k < z.n + 1 → G'.testBit k = kub z.g z.n (decide (w ≠ 0)) k) → cSn (ku (ku (ku (ku I 148 z.n (nI c)) 149 z.n (nI j)) 147 3 (nI G')) 147 0 (nI (z.n + 1))) 147 G' (aSn.mk (z.n + 1) (ku1 z.c z.n c) (ku1 z.j z.n j) (kub z.g z.n (decide (w ≠ 0)))) := by
    intro G' h1 h2
    refine ⟨by rw [ku_same]; rfl, show z.n + 1 ≤ 8 by omega, fun k hk => ?_, fun k hk => ?_, by rw [ku_nek (by omega), ku_same], h1, h2⟩
    · have hk' : k < z.n + 1 := hk
      rw [ku_nea (by omega), ku_nea (by omega), ku_nea (by omega)]
      show _ = nI (ku1 z.c z.n c k)
      by_cases e : k = z.n
      · rw [e, show 147 + 1 = 148 from rfl, ku_same, ku1_s]
      · rw [show 147 + 1 = 148 from rfl, ku_nek e, ku1_n e]; exact h.c k (by omega)
    · have hk' : k < z.n + 1 := hk
      rw [ku_nea (by omega), ku_nea (by omega)]
      show _ = nI (ku1 z.j z.n j k)
      by_cases e : k = z.n
      · rw [e, show 147 + 2 = 149 from rfl, ku_same, ku1_s]
      · rw [show 147 + 2 = 149 from rfl, ku_nek e, ku_nea (by omega), ku1_n e]; exact h.j k (by omega)
  have p2 : 2 ^ z.n < 256 := Nat.pow_lt_pow_right (show 1 < 2 by omega) (show z.n < 8 by omega)
  by_cases hw : w = 0
  · have lem : G &&& (2 ^ z.n ^^^ (2 ^ 32 - 1)) < 256 := Nat.lt_of_le_of_lt Nat.and_le_left hG
    refine ⟨_, _, fin _ lem (fun k hk => ?_), fun x k hx => by rw [ku_nea (by omega), ku_nea (by omega), ku_nea (by omega), ku_nea (by omega)], fun d R => ?_⟩
    · rw [Nat.testBit_and, Nat.testBit_xor, tb_two, tb_all]
      by_cases e : k = z.n
      · rw [e, kub_s, hw]; simp; intro _; omega
      · rw [kub_n e, ← h.gb k (by omega)]
        have : ¬ z.n = k := fun q => e q.symm
        have h32 : k < 32 := by omega
        simp [this, h32]
    · rw [B60_0, kg7_0 ks147, kO_s, e0, c8_8, if_pos (nI_lt h8 (by omega)), B60_11, kg7_1 ks147, kO_s, kg7_0 ks147, kO_s, e0, kw7_1 ks147 (by omega), kO_s, kg7_2 ks147, kO_s, kg7_0 ks147, kO_s, k0, kw7_2 ks147 (by omega), kO_s, hw, if_pos rfl, B60_50, kg7_3 ks147, kO_s, k2, kg7_0 ks147, kO_s, k1, nI_bit (by omega), nI_m1n, nI_xor, nI_and, B60_63, kp7_3 ks147, kO_s, kg7_0 ks147, kO_s, k3, nI_add1, kp7_0 ks147, kO_s, if_pos kz_1]
  · have lem : G ||| 2 ^ z.n < 256 := by
      have := Nat.or_lt_two_pow (n := 8) (show G < 2 ^ 8 from hG) (show 2 ^ z.n < 2 ^ 8 from p2)
      exact this
    refine ⟨_, _, fin _ lem (fun k hk => ?_), fun x k hx => by rw [ku_nea (by omega), ku_nea (by omega), ku_nea (by omega), ku_nea (by omega)], fun d R => ?_⟩
    · rw [Nat.testBit_or, tb_two]
      by_cases e : k = z.n
      · rw [e, kub_s]; simp [hw]
      · rw [kub_n e, ← h.gb k (by omega)]
        have : ¬ z.n = k := fun q => e q.symm
        simp [this]
    · rw [B60_0, kg7_0 ks147, kO_s, e0, c8_8, if_pos (nI_lt h8 (by omega)), B60_11, kg7_1 ks147, kO_s, kg7_0 ks147, kO_s, e0, kw7_1 ks147 (by omega), kO_s, kg7_2 ks147, kO_s, kg7_0 ks147, kO_s, k0, kw7_2 ks147 (by omega), kO_s, if_neg hw, B60_36, kg7_3 ks147, kO_s, k2, kg7_0 ks147, kO_s, k1, nI_bit (by omega), nI_or, B60_63, kp7_3 ks147, kO_s, kg7_0 ks147, kO_s, k3, nI_add1, kp7_0 ks147, kO_s, if_pos kz_1]
theorem sp137 (h : cM I rf r M) (x y w : Int32) : ∃ I', cM I' rf r (mSee r M x y w) ∧ cN I I' ∧ ∀ d R, kX xs (d + 2) 137 0 [some (.ref 0), some (.int x), some (.int y), some (.int w)] [] (kmm I J rf g) R = R (some (.int (aSee r M.z x y))) (kmm I' J rf g) := by
  have ht := h.h.b.t
  have ha := kad6 ht
  have vr := h.h.b.vr
  have hc7 := vr.c
  have hj7 := vr.j
  have e0 := h.h.b.rl.nc
  have e1 := h.h.b.rl.nj
  obtain ⟨G, hz⟩ := h.z
  have hzv := zSee_v h.v.z x y w hc7 hj7
  have fin : ∀ I' G' z', zSee r M.z x y w = z' → cSn I' 147 G' z' → (∀ x k, x < 147 ∨ 149 < x → I' x k = I x k) → cM I' rf r (mSee r M x y w) := by
    intro I' G' z' ez h1 h2
    have hq : cH I' rf r M.H := by
      obtain ⟨top, hp⟩ := h.h.p
      exact ⟨⟨ht, vr, h.h.b.vs, h.h.b.rl.keep (fun x k _ _ => h2 x k (by omega)), h.h.b.st.keep (fun x k _ _ => h2 x k (by omega))⟩, ⟨top, hp.keep (fun x k _ _ => h2 x k (by omega))⟩, h.h.v⟩
    refine ⟨hq, ⟨G', by show cSn I' 147 G' (zSee r M.z x y w); rw [ez]; exact h1⟩, fun m hm => by rw [h2 _ _ (by omega)]; exact h.o m hm, fun m hm ho => (h.s m hm ho).keep (fun x k _ _ => h2 x k (by omega)), fun m hm ho => ?_, ⟨hzv, h.v.s, h.v.k⟩⟩
    obtain ⟨G2, hk⟩ := h.k m hm ho
    exact ⟨G2, hk.keep (fun x k _ _ => h2 x k (by omega))⟩
  unfold aSee
  rcases kidx_c x (show r.nc < 2147483648 by omega) with ⟨c, hc, rfl⟩ | h0
  · have hk := kidx_in hc (show r.nc < 2147483648 by omega)
    rcases kidx_c y (show r.nj < 2147483648 by omega) with ⟨j, hj, rfl⟩ | h1
    · have hk2 := kidx_in hj (show r.nj < 2147483648 by omega)
      by_cases h8 : M.z.n = 8
      · refine ⟨I, fin I G M.z (by unfold zSee; simp only [hk, hk2, i10, if_false, h8, if_true]) hz (fun _ _ _ => rfl), cN.refl I, fun d R => ?_⟩
        have hn := hz.n
        rw [h8] at hn
        simp only [hk, hk2, i10, if_false, h8, if_true]
        rw [B137_0, kg11_2, kO_s, krecv_m ht, kcond_t, sp52 ht, e0, hk, kpush_s, B137_8, if_neg (by decide), B137_11, kg11_2, kO_s, krecv_m ht, kcond_t, sp51 ht, e1, hk2, kpush_s, B137_19, if_neg (by decide), B137_22, kg11_12, kO_s, krecv_m ks147, kcond_t, B60_0, kg7_0 ks147, kO_s, hn, c8_8, if_neg (nI_nlt (Nat.le_refl _) (by omega)), B60_9, if_pos kz_0, kpush_s, B137_32, if_pos rfl, B137_39, B137_40, if_pos kz_0]
      · have hn8 := hz.nl
        obtain ⟨I', G', a1, a2, a3⟩ := sp60 (xs := xs) (J := J) (rf := rf) (g := g) (c := c) (j := j) (w := w) hz (by omega)
        refine ⟨I', fin I' G' _ (by unfold zSee; simp only [hk, hk2, i10, if_false, h8]; rw [nI_clamp (by omega), nI_clamp (by omega)]) a1 a2, fun x k h1 h2 h3 h4 => a2 x k (by omega), fun d R => ?_⟩
        simp only [hk, hk2, i10, if_false, h8]
        rw [B137_0, kg11_2, kO_s, krecv_m ht, kcond_t, sp52 ht, e0, hk, kpush_s, B137_8, if_neg (by decide), B137_11, kg11_2, kO_s, krecv_m ht, kcond_t, sp51 ht, e1, hk2, kpush_s, B137_19, if_neg (by decide), B137_22, kg11_12, kO_s, krecv_m ks147, kcond_t, a3, kpush_s, B137_32, if_neg (by decide), B137_35, B137_40, if_pos kz_1]
    · refine ⟨I, fin I G M.z (by unfold zSee; simp only [hk, h1, i10, if_false, if_true]) hz (fun _ _ _ => rfl), cN.refl I, fun d R => ?_⟩
      simp only [hk, h1, i10, if_false, if_true]
      rw [B137_0, kg11_2, kO_s, krecv_m ht, kcond_t, sp52 ht, e0, hk, kpush_s, B137_8, if_neg (by decide), B137_11, kg11_2, kO_s, krecv_m ht, kcond_t, sp51 ht, e1, h1, kpush_s, B137_19, if_pos rfl, B137_39, B137_40, if_pos kz_0]
  · refine ⟨I, fin I G M.z (by unfold zSee; simp only [h0, if_true]) hz (fun _ _ _ => rfl), cN.refl I, fun d R => ?_⟩
    simp only [h0, if_true]
    rw [B137_0, kg11_2, kO_s, krecv_m ht, kcond_t, sp52 ht, e0, h0, kpush_s, B137_8, if_pos rfl, B137_39, B137_40, if_pos kz_0]
theorem sp253 (h : mM I r M) (x y w : Int32) : ∃ I', mM I' r (mSee r M x y w) ∧ mN I I' ∧ ∀ d R, kX xs (d + 2) 253 0 [some (.ref 185), some (.int x), some (.int y), some (.int w), none] [] (kmm I J rf g) R = R (some (.int (aSee r M.z x y))) (kmm I' J rf g) := by
  have hq := mQ.thr I (nI 0)
  have h' := h.keep hq
  have vr := h.h.b.vr
  have hc7 := vr.c
  have hj7 := vr.j
  have e0 := h'.h.b.rl.nc
  have e1 := h'.h.b.rl.nj
  have en := h'.z.n
  have hn8 := h.v.z.n
  have hzv := zSee_v h.v.z x y w hc7 hj7
  have fin : ∀ I' z', zSee r M.z x y w = z' → mSn I' 0 z' → (∀ x k, ¬ (x = 201 ∧ 30 ≤ k ∧ k < 55) → I' x k = ku I 185 0 (nI 0) x k) → mM I' r (mSee r M x y w) := by
    intro I' z' ez h1 h2
    have hq : mH I' r M.H := ⟨⟨vr, h.h.b.vs, h'.h.b.rl.keep (fun x k _ _ => h2 x k (by omega)), h'.h.b.st.keep vr (fun k _ _ => h2 _ k (by omega))⟩, h'.h.p.keep vr (h2 _ _ (by omega)) (fun k _ _ => h2 _ _ (by omega)), h.h.v⟩
    exact ⟨hq, by show mSn I' 0 (zSee r M.z x y w); rw [ez]; exact h1, fun m hm => by rw [h2 _ _ (by omega)]; exact h'.o m hm, fun m hm ho => (h'.s m hm ho).keep vr (fun k _ _ => h2 _ k (by omega)), fun m hm ho => (h'.k m hm ho).keep (h.v.k m hm ho).n (fun k _ _ => h2 _ k (by omega)), ⟨hzv, h.v.s, h.v.k⟩⟩
  have frm : ∀ I', (∀ x k, ¬ (x = 201 ∧ 30 ≤ k ∧ k < 55) → I' x k = ku I 185 0 (nI 0) x k) → mN I I' := fun I' h2 x k h3 h4 h5 h6 => by rw [h2 x k (by omega), ku_ne (by omega)]
  unfold aSee
  rcases kidx_c x (show r.nc < 2147483648 by omega) with ⟨c, hc, rfl⟩ | h0
  · have hk := kidx_in hc (show r.nc < 2147483648 by omega)
    rcases kidx_c y (show r.nj < 2147483648 by omega) with ⟨j, hj, rfl⟩ | h1
    · have hk2 := kidx_in hj (show r.nj < 2147483648 by omega)
      by_cases h8 : M.z.n = 8
      · refine ⟨_, fin _ M.z (by unfold zSee; simp only [hk, hk2, i10, if_false, h8, if_true]) h'.z (fun _ _ _ => rfl), frm _ (fun _ _ _ => rfl), fun d R => ?_⟩
        rw [h8] at en
        simp only [hk, hk2, i10, if_false, h8, if_true]
        simp (disch := omega) only [B253_0, B253_10, B253_13, B253_18, B253_21, B253_33, B253_35, B253_79, B253_83, B253_84, kO_s, kcond_t, kpush_s, kpush_n, nI_add, nI_add1, pk_mul, n_0, n_2, n_3, n_4, n_5, if_true, if_false, Nat.add_zero, krecv_m ks185, kg12_0, kp12_0, kg12_1, kg12_2, kp12_2, kg12_3, kp12_3, kg12_4, kg12_5, kg12_6, kg12_7, kp12_7, kg12_8, kp12_8, kg12_9, kg12_10, kg12_11, kg12_12, kg12_13, kp12_13, kg12_14, kg12_15, kg12_16, kg12_17, kg12_18, kp12_18, kg12_19, kp12_19, kg12_20, kg12_21, kg12_22, kg12_23, kg12_24, kp12_24, kg12_25, kg12_26, kg12_27, kg12_28, kp12_28, kg12_29, kg12_30, kg12_31, kg12_32, kp12_32, kg12_33, kp12_33, ka186, kw186, ka187, kw187, ka188, kw188, kj189, kk189, kj190, kk190, ka191, kw191, ka192, kw192, ka193, kw193, kj194, kk194, kj195, kk195, ka196, kw196, ka197, kw197, ka198, kw198, ka199, kw199, ka200, kw200, ka201, kw201, kb202, kv202, ka203, kw203, ka204, kw204, ka205, kw205, ka206, kw206, ka207, kw207, kj208, kk208, c8_m17, c8_m16, c8_m15, c8_m14, c8_m13, c8_m12, c8_m11, c8_m10, c8_m2, c8_6, c8_7, c8_8, c8_9, c8_10, c8_11, c8_12, c8_13, c8_14, c8_15, c8_16, c8_17, c8_18, c8_19, c8_20, c8_21, c8_22, c8_23, c8_25, c8_30, c8_31, c8_32, c8_39, c8_40, c8_41, c8_42, c8_43, c8_45, c8_48, c8_55, c8_56, c8_57, c8_59, c8_60, c8_61, c8_63, c8_70, c8_90, c8_91, c8_92, c8_93, c8_94, c8_96, c8_97, c8_99, c8_115, c8_122, c8_125, c8_126, c8_127, c16_128, c16_129, c16_131, c16_132, c16_135, c16_136, c16_137, c16_138, c16_139, c16_142, c16_143, c16_144, c16_145, c16_146, c16_149, c16_180, c16_250, c16_255, c16_1000, c16_1002, c16_1100, c16_1155, c16_1157, c16_1164, c16_1178, c16_1210, c16_1212, c16_1219, c16_1233, c16_1265, c16_2200, c16_4095, c16_4096, c16_9999, c16_12345, one0, m1_lt0, nI20, nI40, sp203, sp204, e0, e1, hk, hk2, en, kzn0, show 0 + 30 = 30 from rfl]
      · have en' : ku I 185 0 (nI 0) 201 30 = nI M.z.n := en
        have n8 : ¬ nI M.z.n = nI 8 := by rw [nI_inj (by omega) (by omega)]; exact h8
        have q1 : ∀ v v' v'' : Int32, ku (ku (ku (ku I 185 0 (nI 0)) 201 (31 + 3 * M.z.n) v) 201 (31 + 3 * M.z.n + 1) v') 201 (31 + 3 * M.z.n + 2) v'' 201 30 = nI M.z.n := fun v v' v'' => by rw [ku_nek (by omega), ku_nek (by omega), ku_nek (by omega), en']
        refine ⟨ku (ku (ku (ku (ku I 185 0 (nI 0)) 201 (31 + 3 * M.z.n) (nI c)) 201 (31 + 3 * M.z.n + 1) (nI j)) 201 (31 + 3 * M.z.n + 2) (nI (bN (decide (w ≠ 0))))) 201 30 (nI (M.z.n + 1)), fin _ _ (by unfold zSee; simp only [hk, hk2, i10, if_false, h8]; rw [nI_clamp (by omega), nI_clamp (by omega)]) ⟨?_, fun k hk => ?_, fun k hk => ?_, fun k hk => ?_⟩ (fun x k hx => by rw [ku_ne (by omega), ku_ne (by omega), ku_ne (by omega), ku_ne (by omega)]), frm _ (fun x k hx => by rw [ku_ne (by omega), ku_ne (by omega), ku_ne (by omega), ku_ne (by omega)]), fun d R => ?_⟩
        · rw [ku_same]; rfl
        · have hk' : k < M.z.n + 1 := hk
          rw [ku_nek (by omega), ku_nek (by omega), ku_nek (by omega)]
          show _ = nI (ku1 M.z.c M.z.n c k)
          by_cases e : k = M.z.n
          · rw [e, show 0 + 31 + 3 * M.z.n = 31 + 3 * M.z.n by omega, ku_same, ku1_s]
          · rw [ku_nek (by omega), ku1_n e]; exact h'.z.c k (by omega)
        · have hk' : k < M.z.n + 1 := hk
          rw [ku_nek (by omega), ku_nek (by omega)]
          show _ = nI (ku1 M.z.j M.z.n j k)
          by_cases e : k = M.z.n
          · rw [e, show 0 + 31 + 3 * M.z.n + 1 = 31 + 3 * M.z.n + 1 by omega, ku_same, ku1_s]
          · rw [ku_nek (by omega), ku_nek (by omega), ku1_n e]; exact h'.z.j k (by omega)
        · have hk' : k < M.z.n + 1 := hk
          rw [ku_nek (by omega)]
          show _ = nI (bN (kub M.z.g M.z.n (decide (w ≠ 0)) k))
          by_cases e : k = M.z.n
          · rw [e, show 0 + 31 + 3 * M.z.n + 2 = 31 + 3 * M.z.n + 2 by omega, ku_same, kub_s]
          · rw [ku_nek (by omega), ku_nek (by omega), ku_nek (by omega), kub_n e]; exact h'.z.g k (by omega)
        · simp only [hk, hk2, i10, if_false, h8]
          generalize hbd : bN (decide (w ≠ 0)) = B
          rw [B253_0, kp12_0, kO_s, n_0, krecv_m ks185, kcond_t, sp204, e0, hk, kpush_s, B253_10, if_neg (by decide), B253_13, krecv_m ks185, kcond_t, sp203, e1, hk2, kpush_s, B253_18, if_neg (by decide), B253_21, kg12_23, kO_s, c8_30, ka201 (by omega), kO_s, en', c8_8, if_neg n8, B253_35, kg12_23, kO_s, c8_30, ka201 (by omega), kO_s, en', kO_s, c8_31, n_3, pk_mul, nI_add, kw201 (by omega), kO_s, kg12_23, kO_s, nI_add1, kw201 (by omega), kO_s, kg12_23, kO_s, n_2, nI_add]
          by_cases hw : w = 0
          · have hb : B = 0 := by rw [← hbd, hw]; rfl
            have q2 := q1 (nI c) (nI j) (nI 0)
            rw [hb, if_pos hw, B253_83, B253_84, n_0, kw201 (by omega), kO_s, kg12_23, kO_s, c8_30, ka201 (by omega), kO_s, q2, nI_add1, kw201 (by omega), kO_s, if_pos kz_1]
          · have hb : B = 1 := by rw [← hbd]; simp [hw, bN]
            have q2 := q1 (nI c) (nI j) (nI 1)
            rw [hb, if_neg hw, B253_79, B253_84, n_1, kw201 (by omega), kO_s, kg12_23, kO_s, c8_30, ka201 (by omega), kO_s, q2, ← n_1, nI_add1, kw201 (by omega), kO_s, if_pos kz_1]
    · refine ⟨_, fin _ M.z (by unfold zSee; simp only [hk, h1, i10, if_false, if_true]) h'.z (fun _ _ _ => rfl), frm _ (fun _ _ _ => rfl), fun d R => ?_⟩
      simp only [hk, h1, i10, if_false, if_true]
      simp (disch := omega) only [B253_0, B253_10, B253_13, B253_18, B253_21, B253_33, B253_35, B253_79, B253_83, B253_84, kO_s, kcond_t, kpush_s, kpush_n, nI_add, nI_add1, pk_mul, n_0, n_2, n_3, n_4, n_5, if_true, if_false, Nat.add_zero, krecv_m ks185, kg12_0, kp12_0, kg12_1, kg12_2, kp12_2, kg12_3, kp12_3, kg12_4, kg12_5, kg12_6, kg12_7, kp12_7, kg12_8, kp12_8, kg12_9, kg12_10, kg12_11, kg12_12, kg12_13, kp12_13, kg12_14, kg12_15, kg12_16, kg12_17, kg12_18, kp12_18, kg12_19, kp12_19, kg12_20, kg12_21, kg12_22, kg12_23, kg12_24, kp12_24, kg12_25, kg12_26, kg12_27, kg12_28, kp12_28, kg12_29, kg12_30, kg12_31, kg12_32, kp12_32, kg12_33, kp12_33, ka186, kw186, ka187, kw187, ka188, kw188, kj189, kk189, kj190, kk190, ka191, kw191, ka192, kw192, ka193, kw193, kj194, kk194, kj195, kk195, ka196, kw196, ka197, kw197, ka198, kw198, ka199, kw199, ka200, kw200, ka201, kw201, kb202, kv202, ka203, kw203, ka204, kw204, ka205, kw205, ka206, kw206, ka207, kw207, kj208, kk208, c8_m17, c8_m16, c8_m15, c8_m14, c8_m13, c8_m12, c8_m11, c8_m10, c8_m2, c8_6, c8_7, c8_8, c8_9, c8_10, c8_11, c8_12, c8_13, c8_14, c8_15, c8_16, c8_17, c8_18, c8_19, c8_20, c8_21, c8_22, c8_23, c8_25, c8_30, c8_31, c8_32, c8_39, c8_40, c8_41, c8_42, c8_43, c8_45, c8_48, c8_55, c8_56, c8_57, c8_59, c8_60, c8_61, c8_63, c8_70, c8_90, c8_91, c8_92, c8_93, c8_94, c8_96, c8_97, c8_99, c8_115, c8_122, c8_125, c8_126, c8_127, c16_128, c16_129, c16_131, c16_132, c16_135, c16_136, c16_137, c16_138, c16_139, c16_142, c16_143, c16_144, c16_145, c16_146, c16_149, c16_180, c16_250, c16_255, c16_1000, c16_1002, c16_1100, c16_1155, c16_1157, c16_1164, c16_1178, c16_1210, c16_1212, c16_1219, c16_1233, c16_1265, c16_2200, c16_4095, c16_4096, c16_9999, c16_12345, one0, m1_lt0, nI20, nI40, sp203, sp204, e0, e1, hk, h1, kzn0]
  · refine ⟨_, fin _ M.z (by unfold zSee; simp only [h0, if_true]) h'.z (fun _ _ _ => rfl), frm _ (fun _ _ _ => rfl), fun d R => ?_⟩
    simp only [h0, if_true]
    simp (disch := omega) only [B253_0, B253_10, B253_13, B253_18, B253_21, B253_33, B253_35, B253_79, B253_83, B253_84, kO_s, kcond_t, kpush_s, kpush_n, nI_add, nI_add1, pk_mul, n_0, n_2, n_3, n_4, n_5, if_true, if_false, Nat.add_zero, krecv_m ks185, kg12_0, kp12_0, kg12_1, kg12_2, kp12_2, kg12_3, kp12_3, kg12_4, kg12_5, kg12_6, kg12_7, kp12_7, kg12_8, kp12_8, kg12_9, kg12_10, kg12_11, kg12_12, kg12_13, kp12_13, kg12_14, kg12_15, kg12_16, kg12_17, kg12_18, kp12_18, kg12_19, kp12_19, kg12_20, kg12_21, kg12_22, kg12_23, kg12_24, kp12_24, kg12_25, kg12_26, kg12_27, kg12_28, kp12_28, kg12_29, kg12_30, kg12_31, kg12_32, kp12_32, kg12_33, kp12_33, ka186, kw186, ka187, kw187, ka188, kw188, kj189, kk189, kj190, kk190, ka191, kw191, ka192, kw192, ka193, kw193, kj194, kk194, kj195, kk195, ka196, kw196, ka197, kw197, ka198, kw198, ka199, kw199, ka200, kw200, ka201, kw201, kb202, kv202, ka203, kw203, ka204, kw204, ka205, kw205, ka206, kw206, ka207, kw207, kj208, kk208, c8_m17, c8_m16, c8_m15, c8_m14, c8_m13, c8_m12, c8_m11, c8_m10, c8_m2, c8_6, c8_7, c8_8, c8_9, c8_10, c8_11, c8_12, c8_13, c8_14, c8_15, c8_16, c8_17, c8_18, c8_19, c8_20, c8_21, c8_22, c8_23, c8_25, c8_30, c8_31, c8_32, c8_39, c8_40, c8_41, c8_42, c8_43, c8_45, c8_48, c8_55, c8_56, c8_57, c8_59, c8_60, c8_61, c8_63, c8_70, c8_90, c8_91, c8_92, c8_93, c8_94, c8_96, c8_97, c8_99, c8_115, c8_122, c8_125, c8_126, c8_127, c16_128, c16_129, c16_131, c16_132, c16_135, c16_136, c16_137, c16_138, c16_139, c16_142, c16_143, c16_144, c16_145, c16_146, c16_149, c16_180, c16_250, c16_255, c16_1000, c16_1002, c16_1100, c16_1155, c16_1157, c16_1164, c16_1178, c16_1210, c16_1212, c16_1219, c16_1233, c16_1265, c16_2200, c16_4095, c16_4096, c16_9999, c16_12345, one0, m1_lt0, nI20, nI40, sp203, sp204, e0, h0, kzn0]
end SN
