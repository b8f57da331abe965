/-! the whole world, both sides -/
abbrev aW : Type := (aRl) × (aM) × (aSt) × (Nat) × (Nat → Nat) × (Nat → Nat) × (aNm) × (aLn) × (aTp)
def aW.mk (r : aRl) (M : aM) (bg : aSt) (np : Nat) (pa : Nat → Nat) (pb : Nat → Nat) (N : aNm) (l : aLn) (T : aTp) : aW := (r, M, bg, np, pa, pb, N, l, T)
def aW.r (s : aW) : aRl := s.1
def aW.M (s : aW) : aM := s.2.1
def aW.bg (s : aW) : aSt := s.2.2.1
def aW.np (s : aW) : Nat := s.2.2.2.1
def aW.pa (s : aW) : Nat → Nat := s.2.2.2.2.1
def aW.pb (s : aW) : Nat → Nat := s.2.2.2.2.2.1
def aW.N (s : aW) : aNm := s.2.2.2.2.2.2.1
def aW.l (s : aW) : aLn := s.2.2.2.2.2.2.2.1
def aW.T (s : aW) : aTp := s.2.2.2.2.2.2.2.2
def aW.wM (A : aW) (M : aM) : aW := aW.mk A.r M A.bg A.np A.pa A.pb A.N A.l A.T
abbrev cW (I : Nat → Nat → Int32) (J : Nat → Nat → Int64) (rf : Nat → Nat) (A : aW) : Prop := (cM I rf A.r A.M) ∧ (cSt I (rf 2 + 8) A.bg) ∧ (cNm J (rf 2) A.r.nj A.r.nc A.N) ∧ (kshp (rf 3) = some (.inl 6)) ∧ (rf 2 ≠ rf 3) ∧ (kshp (rf 4) = some (.inl 10)) ∧ (kshp (rf 5) = some (.inl 10)) ∧ (rf 4 ≠ rf 5) ∧ (cLn I (rf 4) A.l) ∧ (cTp I A.T) ∧ (∃ kd gu : Nat → Nat, (∀ k, k < 7 → I (rf 3 + 3) k = nI (kd k)) ∧ (∀ k, k < 7 → I (rf 3 + 4) k = nI (gu k)) ∧ (∀ k, k < 7 → kd k < 4) ∧ (∀ k, k < 7 → gu k ≤ 20))
theorem cW.m {I : Nat → Nat → Int32} {J : Nat → Nat → Int64} {rf : Nat → Nat} {A : aW} (h : cW I J rf A) : cM I rf A.r A.M := h.1
theorem cW.bg {I : Nat → Nat → Int32} {J : Nat → Nat → Int64} {rf : Nat → Nat} {A : aW} (h : cW I J rf A) : cSt I (rf 2 + 8) A.bg := h.2.1
theorem cW.nm {I : Nat → Nat → Int32} {J : Nat → Nat → Int64} {rf : Nat → Nat} {A : aW} (h : cW I J rf A) : cNm J (rf 2) A.r.nj A.r.nc A.N := h.2.2.1
theorem cW.t3 {I : Nat → Nat → Int32} {J : Nat → Nat → Int64} {rf : Nat → Nat} {A : aW} (h : cW I J rf A) : kshp (rf 3) = some (.inl 6) := h.2.2.2.1
theorem cW.n23 {I : Nat → Nat → Int32} {J : Nat → Nat → Int64} {rf : Nat → Nat} {A : aW} (h : cW I J rf A) : rf 2 ≠ rf 3 := h.2.2.2.2.1
theorem cW.t4 {I : Nat → Nat → Int32} {J : Nat → Nat → Int64} {rf : Nat → Nat} {A : aW} (h : cW I J rf A) : kshp (rf 4) = some (.inl 10) := h.2.2.2.2.2.1
theorem cW.t5 {I : Nat → Nat → Int32} {J : Nat → Nat → Int64} {rf : Nat → Nat} {A : aW} (h : cW I J rf A) : kshp (rf 5) = some (.inl 10) := h.2.2.2.2.2.2.1
theorem cW.n45 {I : Nat → Nat → Int32} {J : Nat → Nat → Int64} {rf : Nat → Nat} {A : aW} (h : cW I J rf A) : rf 4 ≠ rf 5 := h.2.2.2.2.2.2.2.1
theorem cW.ln {I : Nat → Nat → Int32} {J : Nat → Nat → Int64} {rf : Nat → Nat} {A : aW} (h : cW I J rf A) : cLn I (rf 4) A.l := h.2.2.2.2.2.2.2.2.1
theorem cW.tp {I : Nat → Nat → Int32} {J : Nat → Nat → Int64} {rf : Nat → Nat} {A : aW} (h : cW I J rf A) : cTp I A.T := h.2.2.2.2.2.2.2.2.2.1
theorem cW.dr {I : Nat → Nat → Int32} {J : Nat → Nat → Int64} {rf : Nat → Nat} {A : aW} (h : cW I J rf A) : ∃ kd gu : Nat → Nat, (∀ k, k < 7 → I (rf 3 + 3) k = nI (kd k)) ∧ (∀ k, k < 7 → I (rf 3 + 4) k = nI (gu k)) ∧ (∀ k, k < 7 → kd k < 4) ∧ (∀ k, k < 7 → gu k ≤ 20) := h.2.2.2.2.2.2.2.2.2.2
abbrev mW (I : Nat → Nat → Int32) (J : Nat → Nat → Int64) (A : aW) : Prop := (mM I A.r A.M) ∧ (mBg I A.r A.bg A.np A.pa A.pb) ∧ (∃ nm no, mNm I J 18 194 196 A.r.nj A.r.nc A.N nm no) ∧ (mLn I A.l) ∧ (mTp I A.T) ∧ (∀ w, w < 22 → J 190 w = nJ (wrdN w)) ∧ (∀ day, day < 4 → I 205 day = nI 0)
theorem mW.m {I : Nat → Nat → Int32} {J : Nat → Nat → Int64} {A : aW} (h : mW I J A) : mM I A.r A.M := h.1
theorem mW.bg {I : Nat → Nat → Int32} {J : Nat → Nat → Int64} {A : aW} (h : mW I J A) : mBg I A.r A.bg A.np A.pa A.pb := h.2.1
theorem mW.nm {I : Nat → Nat → Int32} {J : Nat → Nat → Int64} {A : aW} (h : mW I J A) : ∃ nm no, mNm I J 18 194 196 A.r.nj A.r.nc A.N nm no := h.2.2.1
theorem mW.ln {I : Nat → Nat → Int32} {J : Nat → Nat → Int64} {A : aW} (h : mW I J A) : mLn I A.l := h.2.2.2.1
theorem mW.tp {I : Nat → Nat → Int32} {J : Nat → Nat → Int64} {A : aW} (h : mW I J A) : mTp I A.T := h.2.2.2.2.1
theorem mW.wd {I : Nat → Nat → Int32} {J : Nat → Nat → Int64} {A : aW} (h : mW I J A) : ∀ w, w < 22 → J 190 w = nJ (wrdN w) := h.2.2.2.2.2.1
theorem mW.zf {I : Nat → Nat → Int32} {J : Nat → Nat → Int64} {A : aW} (h : mW I J A) : ∀ day, day < 4 → I 205 day = nI 0 := h.2.2.2.2.2.2
abbrev vW (A : aW) : Prop := (vSt A.r A.bg) ∧ (vNm A.r.nj A.r.nc A.N) ∧ (vLn A.r A.l) ∧ (vTp A.T)
theorem vW.bg {A : aW} (h : vW A) : vSt A.r A.bg := h.1
theorem vW.nm {A : aW} (h : vW A) : vNm A.r.nj A.r.nc A.N := h.2.1
theorem vW.ln {A : aW} (h : vW A) : vLn A.r A.l := h.2.2.1
theorem vW.tp {A : aW} (h : vW A) : vTp A.T := h.2.2.2
abbrev wAl (I : Nat → Nat → Int32) (J : Nat → Nat → Int64) (rf : Nat → Nat) (A : aW) : Prop := (cW I J rf A) ∧ (mW I J A) ∧ (vW A)
theorem wAl.c {I : Nat → Nat → Int32} {J : Nat → Nat → Int64} {rf : Nat → Nat} {A : aW} (h : wAl I J rf A) : cW I J rf A := h.1
theorem wAl.m {I : Nat → Nat → Int32} {J : Nat → Nat → Int64} {rf : Nat → Nat} {A : aW} (h : wAl I J rf A) : mW I J A := h.2.1
theorem wAl.v {I : Nat → Nat → Int32} {J : Nat → Nat → Int64} {rf : Nat → Nat} {A : aW} (h : wAl I J rf A) : vW A := h.2.2
section WB
variable {I I' I2 : Nat → Nat → Int32} {J J' : Nat → Nat → Int64} {rf : Nat → Nat} {A : aW} {r : aRl} {M M' : aM} {H : aH} {T : aTp}
/-- the model's part lies at 185 to 207 -/
theorem mB.cell {s : aSt} (h : mB I r s) (q : ∀ x k, 185 ≤ x → I' x k = I x k) : mB I' r s :=
  ⟨h.vr, h.vs, h.rl.keep (fun x k h1 h2 => q x k (by omega)), h.st.keep h.vr (fun k h1 h2 => q 201 k (by omega))⟩
theorem mH.cell (h : mH I r H) (q : ∀ x k, 185 ≤ x → I' x k = I x k) : mH I' r H :=
  ⟨h.b.cell q, h.p.keep h.b.vr (q _ _ (by omega)) (fun k h1 h2 => q _ _ (by omega)), h.v⟩
theorem mM.cell (h : mM I r M) (q : ∀ x k, 185 ≤ x → I' x k = I x k) : mM I' r M :=
  ⟨h.h.cell q, h.z.keep h.v.z.n (fun k h1 h2 => q _ _ (by omega)), fun m hm => by rw [q _ _ (by omega)]; exact h.o m hm, fun m hm ho => (h.s m hm ho).keep h.h.b.vr (fun k h1 h2 => q _ _ (by omega)), fun m hm ho => (h.k m hm ho).keep (h.v.k m hm ho).n (fun k h1 h2 => q _ _ (by omega)), h.v⟩
theorem mTp.keep (h : mTp I T) (h1 : I' 185 2 = I 185 2) (h2 : ∀ k, I' 186 k = I 186 k) : mTp I' T := ⟨by rw [h1, h.n], fun k hk => by rw [h2, h.t k hk]⟩
theorem mW.cell (h : mW I J A) (q : ∀ x k, 185 ≤ x → I' x k = I x k) (hJ : ∀ x k, 185 ≤ x → J' x k = J x k) : mW I' J' A := by
  obtain ⟨nm, no, hn⟩ := h.nm
  exact ⟨h.m.cell q, h.bg.keep (fun k => q _ _ (by omega)), ⟨nm, no, ⟨by rw [q _ _ (by omega)]; exact hn.m, hn.l, fun k hk => by rw [hJ _ _ (by omega)]; exact hn.n k hk, fun k hk => by rw [q _ _ (by omega)]; exact hn.o k hk⟩⟩, h.ln.keep (fun k => q _ _ (by omega)), h.tp.keep (q _ _ (by omega)) (fun k => q _ _ (by omega)), fun w hw => by rw [hJ _ _ (by omega)]; exact h.wd w hw, fun k hk => by rw [q _ _ (by omega)]; exact h.zf k hk⟩
/-- the class's at 0 to 184 -/
theorem cB.cell {s : aSt} (h : cB I rf r s) (q : ∀ x k, x < 185 → I' x k = I x k) : cB I' rf r s := by
  have ha := kad6 h.t
  exact ⟨h.t, h.vr, h.vs, h.rl.keep (fun x k h1 h2 => q x k (by omega)), h.st.keep (fun x k h1 h2 => q x k (by omega))⟩
theorem cH.cell (h : cH I rf r H) (q : ∀ x k, x < 185 → I' x k = I x k) : cH I' rf r H := by
  obtain ⟨top, hp⟩ := h.p
  exact ⟨h.b.cell q, ⟨top, hp.keep (fun x k h1 h2 => q x k (by omega))⟩, h.v⟩
theorem cM.cell (h : cM I rf r M) (q : ∀ x k, x < 185 → I' x k = I x k) : cM I' rf r M := by
  obtain ⟨G, hz⟩ := h.z
  refine ⟨h.h.cell q, ⟨G, hz.keep (fun x k h1 h2 => q x k (by omega))⟩, fun m hm => by rw [q _ _ (by omega)]; exact h.o m hm, fun m hm ho => (h.s m hm ho).keep (fun x k h1 h2 => q x k (by omega)), fun m hm ho => ?_, h.v⟩
  obtain ⟨G, hk⟩ := h.k m hm ho
  exact ⟨G, hk.keep (fun x k h1 h2 => q x k (by omega))⟩
theorem cNm.keep {a nj nc : Nat} {N : aNm} (h : cNm J a nj nc N) (h1 : ∀ x k, x = a + 1 ∨ x = a + 2 → J' x k = J x k) : cNm J' a nj nc N := ⟨fun i hi => by rw [h1 _ _ (Or.inl rfl)]; exact h.j i hi, fun i hi => by rw [h1 _ _ (Or.inr rfl)]; exact h.c i hi⟩
theorem cW.cell (h : cW I J rf A) (q : ∀ x k, x < 185 → I' x k = I x k) (hJ : ∀ x k, x < 185 → J' x k = J x k) : cW I' J' rf A := by
  have a2 := kad6 h.m.h.b.t
  have a3 := kad6 h.t3
  have a4 := kad10 h.t4
  obtain ⟨kd, gu, d1, d2, d3, d4⟩ := h.dr
  exact ⟨h.m.cell q, h.bg.keep (fun x k h1 h2 => q x k (by omega)), h.nm.keep (fun x k hx => hJ x k (by omega)), h.t3, h.n23, h.t4, h.t5, h.n45, h.ln.keep (fun x k h1 h2 => q x k (by omega)), h.tp.keep (fun x k hx => q x k (by omega)), ⟨kd, gu, fun k hk => by rw [q _ _ (by omega)]; exact d1 k hk, fun k hk => by rw [q _ _ (by omega)]; exact d2 k hk, d3, d4⟩⟩
/-- what a question or a deed of the class leaves -/
theorem cW.fr (h : cW I J rf A) (hm : cM I' rf A.r M') (q : cN I I') : cW I' J rf (A.wM M') := by
  have a2 := kad6 h.m.h.b.t
  have a3 := kad6 h.t3
  have a4 := kad10 h.t4
  obtain ⟨kd, gu, d1, d2, d3, d4⟩ := h.dr
  exact ⟨hm, h.bg.keep (fun x k h1 h2 => q x k (by omega) (by omega) (by omega) (by omega)), h.nm, h.t3, h.n23, h.t4, h.t5, h.n45, h.ln.keep (fun x k h1 h2 => q x k (by omega) (by omega) (by omega) (by omega)), h.tp.keep (fun x k hx => q x k (by omega) (by omega) (by omega) (by omega)), ⟨kd, gu, fun k hk => by rw [q _ _ (by omega) (by omega) (by omega) (by omega)]; exact d1 k hk, fun k hk => by rw [q _ _ (by omega) (by omega) (by omega) (by omega)]; exact d2 k hk, d3, d4⟩⟩
abbrev mG (I I' : Nat → Nat → Int32) : Prop := ∀ x k, x ≠ 199 → x ≠ 200 → x < 201 ∨ 207 < x → ¬ (x = 185 ∧ (k = 0 ∨ k = 24 ∨ k = 28 ∨ k = 32)) → I' x k = I x k
theorem mW.fr (h : mW I J A) (hm : mM I' A.r M') (q : mG I I') (hz : ∀ day, day < 4 → I' 205 day = nI 0) : mW I' J (A.wM M') := by
  obtain ⟨nm, no, hn⟩ := h.nm
  exact ⟨hm, h.bg.keep (fun k => q _ _ (by omega) (by omega) (by omega) (by omega)), ⟨nm, no, hn.keep (fun x k hx => q _ _ (by omega) (by omega) (by omega) (by omega))⟩, h.ln.keep (fun k => q _ _ (by omega) (by omega) (by omega) (by omega)), h.tp.keep (q _ _ (by omega) (by omega) (by omega) (by omega)) (fun k => q _ _ (by omega) (by omega) (by omega) (by omega)), h.wd, hz⟩
theorem aW.wM_s : A.wM A.M = A := rfl
theorem wAl.cN (h : wAl I J rf A) (hm : cM I' rf A.r M') (q : cN I I') : cW I' J rf (A.wM M') ∧ mW I' J A := ⟨h.c.fr hm q, h.m.cell (fun x k hx => q x k (by omega) (by omega) (by omega) (by omega)) (fun _ _ _ => rfl)⟩
theorem mM.keepP (h : mM I r M) (q : mQp I I') : mM I' r M := by
  have hb := h.h.b.keepP q
  refine ⟨⟨hb, h.h.p.keep h.h.b.vr (q _ _ (by omega) (by omega) (by omega) (by omega) (by omega)) (fun k h1 h2 => q _ _ (by omega) (by omega) (by omega) (by omega) (by omega)), h.h.v⟩, h.z.keep h.v.z.n (fun k h1 h2 => q _ _ (by omega) (by omega) (by omega) (by omega) (by omega)), fun m hm => by rw [q _ _ (by omega) (by omega) (by omega) (by omega) (by omega)]; exact h.o m hm, fun m hm ho => (h.s m hm ho).keep h.h.b.vr (fun k h1 h2 => q _ _ (by omega) (by omega) (by omega) (by omega) (by omega)), fun m hm ho => (h.k m hm ho).keep (h.v.k m hm ho).n (fun k h1 h2 => q _ _ (by omega) (by omega) (by omega) (by omega) (by omega)), h.v⟩
/-- both have done the same -/
theorem wAl.mN (h : wAl I J rf A) (hc : cW I' J rf (A.wM M') ∧ mW I' J A) (hm : mM I2 A.r M') (q : mN I' I2) : wAl I2 J rf (A.wM M') :=
  ⟨hc.1.cell (fun x k hx => q x k (by omega) (by omega) (by omega) (by omega)) (fun _ _ _ => rfl), hc.2.fr hm (fun x k h1 h2 h3 h4 => q x k h1 h2 (by omega) h4) (fun day hd => by rw [q _ _ (by omega) (by omega) (by omega) (by omega)]; exact hc.2.zf day hd), ⟨h.v.bg, h.v.nm, h.v.ln, h.v.tp⟩⟩
theorem wAl.cq (h : wAl I J rf A) (q : cQ I I') : wAl I' J rf A := ⟨h.c.fr (h.c.m.keep q) (cN.of (cK.of q)), h.m.cell (fun x k hx => q x k (by omega) (by omega) (by omega) (by omega)) (fun _ _ _ => rfl), h.v⟩
theorem wAl.mq (h : wAl I J rf A) (q : mQ I I') : wAl I' J rf A :=
  ⟨h.c.cell (fun x k hx => q x k (by omega) (by omega) (by omega) (by omega) (by omega)) (fun _ _ _ => rfl), h.m.fr (h.m.m.keep q) (fun x k h1 h2 h3 h4 => q x k h1 h2 (by omega) (by omega) (by omega)) (fun day hd => by rw [q _ _ (by omega) (by omega) (by omega) (by omega) (by omega)]; exact h.m.zf day hd), h.v⟩
theorem wAl.mp (h : wAl I J rf A) (q : mQp I I') (hz : ∀ day, day < 4 → I' 205 day = nI 0) : wAl I' J rf A :=
  ⟨h.c.cell (fun x k hx => q x k (by omega) (by omega) (by omega) (by omega) (by omega)) (fun _ _ _ => rfl), h.m.fr (h.m.m.keepP q) (fun x k h1 h2 h3 h4 => q x k h1 h2 (by omega) (by omega) (by omega)) hz, h.v⟩
theorem wAl.j (h : wAl I J rf A) (t : Int64) : wAl I (ku J 185 33 t) rf A := by
  obtain ⟨nm, no, hn⟩ := h.m.nm
  exact ⟨h.c.cell (fun _ _ _ => rfl) (fun x k hx => ku_ne (by omega)), ⟨h.m.m, h.m.bg, ⟨nm, no, ⟨hn.m, hn.l, fun k hk => by rw [ku_ne (by omega)]; exact hn.n k hk, hn.o⟩⟩, h.m.ln, h.m.tp, fun w hw => by rw [ku_ne (by omega)]; exact h.m.wd w hw, h.m.zf⟩, h.v⟩
end WB
