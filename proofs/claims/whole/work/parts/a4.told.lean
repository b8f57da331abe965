/-! one step of the law: a term, an assize -/
section WE
variable {xs : List Int32} {d : Nat} {I I' I2 : Nat → Nat → Int32} {J J' : Nat → Nat → Int64} {rf rf' : Nat → Nat} {g : Nat} {A : aW} {P : Nat → KL → List Value → KW → Prop} {i a1 a2 a3 a4 a5 a6 : Int32} {r : aRl} {M : aM} {T : aTp} {l : aLn}
theorem mRl.re (vr : vRl r) (h : mRl I r) (h1 : ∀ k, I' 191 k = I 191 k) (h2 : ∀ x k, x = 192 ∨ x = 193 → k < 1100 → I' x k = I x k) : mRl I' r := by
  have hl := vr.lw.len
  exact ⟨by rw [h1, h.nj], by rw [h1, h.nc], by rw [h1, h.lw], fun k hk => by rw [h1, h.kd k hk], fun k hk => by rw [h1, h.gu k hk], fun k hk => by rw [h2 _ _ (by omega) (by omega), h.op k hk], fun k => by rw [h2 _ _ (by omega) (by omega), h.en k], fun k hk => by rw [h2 _ _ (by omega) (by omega), h.ar k hk]⟩
theorem mLn.re (hn : l.n ≤ 40) (h : mLn I l) (hI : ∀ k, k < 125 → I' 198 k = I 198 k) : mLn I' l :=
  ⟨by rw [hI _ (by omega), h.n], fun k hk => by rw [hI _ (by omega), h.w k hk], fun k hk => by rw [hI _ (by omega), h.a k hk], fun k hk => by rw [hI _ (by omega), h.v k hk]⟩
def tp0 : aTp := aTp.mk 0 (fun _ => 0)
theorem tp0_v : vTp tp0 := ⟨Nat.zero_le _, fun k hk => absurd hk (Nat.not_lt_zero k)⟩
theorem tp0_c (h : I 1 0 = nI 0) : cTp I tp0 := ⟨h, fun k hk => absurd hk (Nat.not_lt_zero k)⟩
theorem tp0_m (h : I 185 2 = nI 0) : mTp I tp0 := ⟨h, fun k hk => absurd hk (Nat.not_lt_zero k)⟩
theorem swR_a (rf : Nat → Nat) {a b : Nat} (h : a ≠ b) : swR rf a b a = rf b := by unfold swR; rw [ku1_n h, ku1_s]
theorem swR_b (rf : Nat → Nat) (a b : Nat) : swR rf a b b = rf a := by unfold swR; rw [ku1_s]
theorem swR_n (rf : Nat → Nat) {a b c : Nat} (h : c ≠ a) (h2 : c ≠ b) : swR rf a b c = rf c := by unfold swR; rw [ku1_n h2, ku1_n h]
theorem st_2 (h : wAl I J rf A) (hP : lwQ g i P) : kY kx288 xs (d + 40) 288 384 (lwL i) [] (kmm I J rf g) P := by
  obtain ⟨nm, no, hn⟩ := h.m.nm
  have vr := h.c.m.h.b.vr
  have hF := (m_185 (xs := xs) (rf := rf) (g := g) h.v.tp vr.j vr.c h.v.nm h.m.tp h.m.wd hn).1
  obtain ⟨I1, J1, b1, b2, b3, b4, b5, b6⟩ := c_106 (xs := xs) (g := g) h.v.tp h.c.m.h.b.t h.c.t5 vr h.c.m.h.b.rl h.v.nm h.c.nm h.c.tp hF
  have a2 := kad6 h.c.m.h.b.t
  have a3 := kad6 h.c.t3
  have a4 := kad10 h.c.t4
  have a5 := kad10 h.c.t5
  have n23 := h.c.n23
  have n45 := h.c.n45
  have hm : mW I1 J1 A := h.m.cell (fun x k hx => b4 x k (by omega) (by omega) (by omega) (by omega) (by omega)) (fun x k hx => b5 x k (by omega))
  obtain ⟨nm', no', hn'⟩ := hm.nm
  obtain ⟨kd, gu, d1, d2, d3, d4⟩ := h.c.dr
  have hmF := m_185 (xs := xs) (rf := if (tmT A.T A.N A.r.nj A.r.nc).1.F = 0 then swR rf 4 5 else rf) (g := g) h.v.tp vr.j vr.c h.v.nm hm.tp hm.wd hn'
  obtain ⟨_, I2, J2, c1, c2, c3, c4, c5, c6⟩ := hmF
  have q1 : ∀ R, kX xs (d + 39) 106 0 [some (.ref 0), none, none] [] (kmm I J rf g) R = R (some (.int (nI (tmT A.T A.N A.r.nj A.r.nc).1.F))) (kmm I1 J1 (if (tmT A.T A.N A.r.nj A.r.nc).1.F = 0 then swR rf 4 5 else rf) g) := fun R => b6 (d + 30) R
  have q2 : ∀ R, kX xs (d + 39) 185 0 [some (.ref 185), none, none] [] (kmm I1 J1 (if (tmT A.T A.N A.r.nj A.r.nc).1.F = 0 then swR rf 4 5 else rf) g) R = R (some (.int (nI (tmT A.T A.N A.r.nj A.r.nc).1.F))) (kmm I2 J2 (if (tmT A.T A.N A.r.nj A.r.nc).1.F = 0 then swR rf 4 5 else rf) g) := fun R => c6 (d + 33) R
  rw [Y288_384, krecv_m ks0, kcond_t, q1, kpush_s, Y288_388, krecv_m ks185, kcond_t, q2, kpush_s, Y288_392, if_pos rfl, Y288_1519]
  clear q1 q2 b6 c6 hF
  have vl := tmT_v (T := A.T) (N := A.N) (r := A.r)
  have e1 : ∀ x k, x < 185 → I2 x k = I1 x k := fun x k hx => c4 x k (by omega) (by omega) (by omega) (by omega) (by omega) (by omega)
  have eJ : ∀ x k, x < 185 → J2 x k = J1 x k := fun x k hx => c5 x k (by omega)
  have hmr : mM I2 A.r A.M := hm.m.re (hm.m.h.b.rl.re vr (fun k => c4 _ _ (by omega) (by omega) (by omega) (by omega) (by omega) (by omega)) (fun x k hx hk => c4 _ _ (by omega) (by omega) (by omega) (by omega) (by omega) (by omega))) (c4 _ _ (by omega) (by omega) (by omega) (by omega) (by omega) (by omega)) (fun x k hx => c4 _ _ (by omega) (by omega) (by omega) (by omega) (by omega) (by omega))
  have hbg : mBg I2 A.r A.bg A.np A.pa A.pb := hm.bg.keep (fun k => c4 _ _ (by omega) (by omega) (by omega) (by omega) (by omega) (by omega))
  have hnm : mNm I2 J2 18 194 196 A.r.nj A.r.nc A.N nm' no' := ⟨by rw [c4 _ _ (by omega) (by omega) (by omega) (by omega) (by omega) (by omega)]; exact hn'.m, hn'.l, fun k hk => by rw [c5 _ _ (by omega)]; exact hn'.n k hk, fun k hk => by rw [c4 _ _ (by omega) (by omega) (by omega) (by omega) (by omega) (by omega)]; exact hn'.o k hk⟩
  have hwd : ∀ w, w < 22 → J2 190 w = nJ (wrdN w) := fun w hw => by rw [c5 _ _ (by omega)]; exact hm.wd w hw
  have hzf : ∀ day, day < 4 → I2 205 day = nI 0 := fun k hk => by rw [c4 _ _ (by omega) (by omega) (by omega) (by omega) (by omega) (by omega)]; exact hm.zf k hk
  have hcbg : ∀ k, rf 2 + 8 ≤ k → True := fun _ _ => trivial
  by_cases z : (tmT A.T A.N A.r.nj A.r.nc).1.F = 0
  · rw [if_pos z]
    have l1 := b1 z
    have l2 := c1 z
    generalize (tmT A.T A.N A.r.nj A.r.nc).2 = lx at l1 l2 vl
    have r2 : swR rf 4 5 2 = rf 2 := swR_n rf (by decide) (by decide)
    have r3 : swR rf 4 5 3 = rf 3 := swR_n rf (by decide) (by decide)
    have r4 : swR rf 4 5 4 = rf 5 := swR_a rf (by decide)
    have r5 : swR rf 4 5 5 = rf 4 := swR_b rf 4 5
    have hc1 : cW I1 J1 (swR rf 4 5) (A.wL lx tp0) := by
      refine ⟨h.c.m.re r2 b2 (fun x k h1 h2 => b4 x k (by omega) (by omega) (by omega) (by omega) (by omega)), ?_, ?_, ?_, ?_, ?_, ?_, ?_, ?_, tp0_c b3, ?_⟩
      · rw [r2]; exact h.c.bg.keep (fun x k h1 h2 => b4 x k (by omega) (by omega) (by omega) (by omega) (by omega))
      · rw [r2]; exact h.c.nm.keep (fun x k hx => b5 x k (by omega))
      · rw [r3]; exact h.c.t3
      · rw [r2, r3]; exact n23
      · rw [r4]; exact h.c.t5
      · rw [r5]; exact h.c.t4
      · rw [r4, r5]; exact fun e => n45 e.symm
      · rw [r4]; exact l1
      · rw [r3]; exact ⟨kd, gu, fun k hk => by rw [b4 _ _ (by omega) (by omega) (by omega) (by omega) (by omega)]; exact d1 k hk, fun k hk => by rw [b4 _ _ (by omega) (by omega) (by omega) (by omega) (by omega)]; exact d2 k hk, d3, d4⟩
    exact hP _ _ _ (A.wL lx tp0) ⟨hc1.cell e1 eJ, ⟨hmr, hbg, ⟨nm', no', hnm⟩, l2, tp0_m c3, hwd, hzf⟩, ⟨h.v.bg, h.v.nm, vl, tp0_v⟩⟩
  · rw [if_neg z]
    have l2 := hm.ln.re h.v.ln.n (c2 z)
    have hc1 : cW I1 J1 rf (A.wL A.l tp0) := by
      refine ⟨h.c.m.re rfl b2 (fun x k h1 h2 => b4 x k (by omega) (by omega) (by omega) (by omega) (by omega)), ?_, ?_, h.c.t3, n23, h.c.t4, h.c.t5, n45, ?_, tp0_c b3, ?_⟩
      · exact h.c.bg.keep (fun x k h1 h2 => b4 x k (by omega) (by omega) (by omega) (by omega) (by omega))
      · exact h.c.nm.keep (fun x k hx => b5 x k (by omega))
      · exact h.c.ln.keep (fun x k h1 h2 => b4 x k (by omega) (by omega) (by omega) (by omega) (by omega))
      · exact ⟨kd, gu, fun k hk => by rw [b4 _ _ (by omega) (by omega) (by omega) (by omega) (by omega)]; exact d1 k hk, fun k hk => by rw [b4 _ _ (by omega) (by omega) (by omega) (by omega) (by omega)]; exact d2 k hk, d3, d4⟩
    exact hP _ _ _ (A.wL A.l tp0) ⟨hc1.cell e1 eJ, ⟨hmr, hbg, ⟨nm', no', hnm⟩, l2, tp0_m c3, hwd, hzf⟩, ⟨h.v.bg, h.v.nm, h.v.ln, tp0_v⟩⟩
end WE
