/-! one step of the law: an assize -/
section WF
variable {xs : List Int32} {d : Nat} {I I' I2 : Nat → Nat → Int32} {J J' : Nat → Nat → Int64} {rf rf' : Nat → Nat} {g : Nat} {A : aW} {P : Nat → KL → List Value → KW → Prop} {i : Int32} {r : aRl} {bg : aSt} {N : aNm} {np : Nat} {pa pb : Nat → Nat}
def nwM (bg : aSt) : aM := aM.mk (aH.mk bg 0 (fun _ => bg)) (aSn.mk 0 (fun _ => 0) (fun _ => 0) (fun _ => false)) (fun _ => false) (fun _ => bg) (fun _ => aSn.mk 0 (fun _ => 0) (fun _ => 0) (fun _ => false))
def nwW (r : aRl) (bg : aSt) (np : Nat) (pa pb : Nat → Nat) (N : aNm) : aW := aW.mk r (nwM bg) bg np pa pb N ln0 tp0
theorem no_lt {k : Nat} {Q : Prop} (h : k < 0) : Q := absurd h (Nat.not_lt_zero k)
theorem nwM_v : vMk r (nwM bg) := ⟨⟨Nat.zero_le _, fun k hk => no_lt hk, fun k hk => no_lt hk⟩, fun m _ h => (nomatch h), fun m _ h => (nomatch h)⟩
theorem cW_new (h : cW I J rf A) (vr : vRl r) (vs : vSt r bg) (hr : cRl I' (rf 3) r) (hN : cNm J' (rf 3) r.nj r.nc N) (hb : cSt I' (rf 3 + 8) bg) (hs : cSt I' 39 bg) (h4 : I' (rf 4) 0 = nI 0) (h7 : I' 147 0 = nI 0) (h5 : I' 65 0 = nI 0) (h2 : ∀ m, m < 4 → I' 152 m = nI 0) (h1 : I' 1 0 = nI 0)
    (fr : ∀ x k, x ≠ 1 → x ≠ 3 → x < rf 3 ∨ rf 3 + 12 < x → x < 39 ∨ 43 < x → ¬ (x = rf 4 ∧ k = 0) → ¬ (x = 147 ∧ k = 0) → ¬ (x = 65 ∧ k = 0) → x ≠ 152 → I' x k = I x k) : cW I' J' (swR rf 2 3) (nwW r bg np pa pb N) := by
  have a2 := kad6 h.m.h.b.t
  have a3 := kad6 h.t3
  have a4 := kad10 h.t4
  have n23 := h.n23
  have r2 : swR rf 2 3 2 = rf 3 := swR_a rf (by decide)
  have r3 : swR rf 2 3 3 = rf 2 := swR_b rf 2 3
  have r4 : swR rf 2 3 4 = rf 4 := swR_n rf (by decide) (by decide)
  have r5 : swR rf 2 3 5 = rf 5 := swR_n rf (by decide) (by decide)
  obtain ⟨G, hz⟩ := h.m.z
  obtain ⟨top, hp⟩ := h.m.h.p
  refine ⟨⟨⟨⟨by rw [r2]; exact h.t3, vr, vs, by rw [r2]; exact hr, hs⟩, ⟨top, ⟨h5, by rw [fr _ _ (by omega) (by omega) (by omega) (by omega) (by omega) (by omega) (by omega) (by omega)]; exact hp.t, hp.tl, Nat.zero_le _, fun k hk => no_lt hk⟩⟩, fun k hk => no_lt hk⟩, ⟨G, ⟨h7, Nat.zero_le _, fun k hk => no_lt hk, fun k hk => no_lt hk, by rw [fr _ _ (by omega) (by omega) (by omega) (by omega) (by omega) (by omega) (by omega) (by omega)]; exact hz.gt, hz.gl, fun k hk => no_lt hk⟩⟩, fun m hm => h2 m hm, fun m _ e => (nomatch e), fun m _ e => (nomatch e), nwM_v⟩, by rw [r2]; exact hb, by rw [r2]; exact hN, by rw [r3]; exact h.m.h.b.t, by rw [r2, r3]; exact fun e => n23 e.symm, by rw [r4]; exact h.t4, by rw [r5]; exact h.t5, by rw [r4, r5]; exact h.n45, by rw [r4]; exact ⟨h4, fun k hk => no_lt hk, fun k hk => no_lt hk, fun k hk => no_lt hk⟩, tp0_c h1, ?_⟩
  rw [r3]
  exact ⟨A.r.kd, A.r.gu, fun k hk => by rw [fr _ _ (by omega) (by omega) (by omega) (by omega) (by omega) (by omega) (by omega) (by omega)]; exact h.m.h.b.rl.kd k hk, fun k hk => by rw [fr _ _ (by omega) (by omega) (by omega) (by omega) (by omega) (by omega) (by omega) (by omega)]; exact h.m.h.b.rl.gu k hk, h.m.h.b.vr.kd, h.m.h.b.vr.gu⟩
theorem cW_old {kd gu : Nat → Nat} (h : cW I J rf A) (hk : ∀ k, k < 7 → I' (rf 3 + 3) k = nI (kd k)) (hg : ∀ k, k < 7 → I' (rf 3 + 4) k = nI (gu k)) (vk : ∀ k, k < 7 → kd k < 4) (vg : ∀ k, k < 7 → gu k ≤ 20) (h1 : I' 1 0 = nI 0) (hJ : jFa (rf 3) J J') (fr : ∀ x k, x ≠ 1 → x ≠ 3 → x < rf 3 ∨ rf 3 + 12 < x → I' x k = I x k) : cW I' J' rf (A.wT tp0) := by
  have a2 := kad6 h.m.h.b.t
  have a3 := kad6 h.t3
  have a4 := kad10 h.t4
  have n23 := h.n23
  exact ⟨h.m.re rfl (h.m.h.b.rl.keep (fun x k h1 h2 => fr x k (by omega) (by omega) (by omega))) (fun x k h1 h2 => fr x k (by omega) (by omega) (by omega)), h.bg.keep (fun x k h1 h2 => fr x k (by omega) (by omega) (by omega)), h.nm.keep (fun x k hx => hJ x k (by omega) (by omega) (by omega) (by omega)), h.t3, n23, h.t4, h.t5, h.n45, h.ln.keep (fun x k h1 h2 => fr x k (by omega) (by omega) (by omega)), tp0_c h1, ⟨kd, gu, hk, hg, vk, vg⟩⟩
theorem mW_new (h : mW I J A) (vr : vRl r) (vs : vSt r bg) (hr : mRl I' r) (hb : mBg I' r bg np pa pb) (hN : ∃ nm no, mNm I' J' 18 194 196 r.nj r.nc N nm no) (hs : mSt I' 0 r bg) (h3 : I' 201 30 = nI 0) (h4 : I' 198 0 = nI 0) (h5 : I' 185 24 = nI 0) (h2 : ∀ m, m < 4 → I' 202 m = nI 0) (h1 : I' 185 2 = nI 0) (hz : ∀ k, I' 205 k = I 205 k) (hw : ∀ k, J' 190 k = J 190 k) : mW I' J' (nwW r bg np pa pb N) :=
  ⟨⟨⟨⟨vr, vs, hr, hs⟩, ⟨h5, Nat.zero_le _, fun k hk => no_lt hk⟩, fun k hk => no_lt hk⟩, ⟨h3, fun k hk => no_lt hk, fun k hk => no_lt hk, fun k hk => no_lt hk⟩, fun m hm => h2 m hm, fun m _ e => (nomatch e), fun m _ e => (nomatch e), nwM_v⟩, hb, hN, ⟨h4, fun k hk => no_lt hk, fun k hk => no_lt hk, fun k hk => no_lt hk⟩, tp0_m h1, fun w hw' => by rw [hw]; exact h.wd w hw', fun k hk => by rw [hz]; exact h.zf k hk⟩
theorem mW_old (h : mW I J A) (h1 : I' 185 2 = nI 0) (fr : ∀ x k, ¬ (x = 185 ∧ (k = 0 ∨ k = 2 ∨ k = 3 ∨ k = 7 ∨ k = 8 ∨ k = 13 ∨ k = 19)) → x ≠ 187 → x ≠ 188 → ¬ (x = 191 ∧ 90 ≤ k) → ¬ (x = 192 ∧ 1100 ≤ k) → ¬ (x = 193 ∧ 1100 ≤ k) → x ≠ 197 → I' x k = I x k) (hJ : ∀ x k, x ≠ 189 → x ≠ 195 → J' x k = J x k) : mW I' J' (A.wT tp0) := by
  obtain ⟨nm, no, hn⟩ := h.nm
  have vr := h.m.h.b.vr
  have hj := vr.j
  have hc := vr.c
  have hl := vr.lw.len
  have hnp := h.bg.nl
  have f1 : ∀ k, k < 90 → I' 191 k = I 191 k := fun k hk => fr _ _ (by omega) (by omega) (by omega) (by omega) (by omega) (by omega) (by omega)
  have f2 : ∀ x k, x = 192 ∨ x = 193 → k < 1100 → I' x k = I x k := fun x k hx hk => fr _ _ (by omega) (by omega) (by omega) (by omega) (by omega) (by omega) (by omega)
  have f3 : ∀ x k, 198 ≤ x → I' x k = I x k := fun x k hx => fr _ _ (by omega) (by omega) (by omega) (by omega) (by omega) (by omega) (by omega)
  have rl := h.m.h.b.rl
  refine ⟨h.m.re ⟨by rw [f1 _ (by omega), rl.nj], by rw [f1 _ (by omega), rl.nc], by rw [f1 _ (by omega), rl.lw], fun k hk => by rw [f1 _ (by omega), rl.kd k hk], fun k hk => by rw [f1 _ (by omega), rl.gu k hk], fun k hk => by rw [f2 _ _ (by omega) (by omega), rl.op k hk], fun k => by rw [f2 _ _ (by omega) (by omega), rl.en k], fun k hk => by rw [f2 _ _ (by omega) (by omega), rl.ar k hk]⟩ (fr _ _ (by omega) (by omega) (by omega) (by omega) (by omega) (by omega) (by omega)) (fun x k hx => f3 x k (by omega)), ?_, ⟨nm, no, ⟨by rw [fr _ _ (by omega) (by omega) (by omega) (by omega) (by omega) (by omega) (by omega)]; exact hn.m, hn.l, fun k hk => by rw [hJ _ _ (by omega) (by omega)]; exact hn.n k hk, fun k hk => by rw [fr _ _ (by omega) (by omega) (by omega) (by omega) (by omega) (by omega) (by omega)]; exact hn.o k hk⟩⟩, h.ln.keep (fun k => f3 _ _ (by omega)), tp0_m h1, fun w hw => by rw [hJ _ _ (by omega) (by omega)]; exact h.wd w hw, fun k hk => by rw [f3 _ _ (by omega)]; exact h.zf k hk⟩
  show mBg I' A.r A.bg A.np A.pa A.pb
  exact ⟨by rw [f1 _ (by omega)]; exact h.bg.n, h.bg.nl, fun k hk => by rw [f1 _ (by omega)]; exact h.bg.a k hk, fun k hk => by rw [f1 _ (by omega)]; exact h.bg.b k hk, h.bg.al, h.bg.bl, fun j hj => by rw [f1 _ (by omega)]; exact h.bg.ln j hj, fun c hc => by rw [f1 _ (by omega)]; exact h.bg.up c hc, h.bg.nx, h.bg.rd, h.bg.hd, h.bg.ch⟩
theorem st_1 (h : wAl I J rf A) (hP : lwQ g i P) : kY kx288 xs (d + 40) 288 371 (lwL i) [] (kmm I J rf g) P := by
  obtain ⟨kd, gu, d1, d2, d3, d4⟩ := h.c.dr
  have hF := (m_180 (xs := xs) (rf := rf) (g := g) h.v.tp d3 d4 h.m.tp h.m.wd).1
  have hv := asT_v h.v.tp d3 d4
  obtain ⟨I1, J1, b1, b2, b3, b4, b5, b6⟩ := c_104 (xs := xs) (g := g) (rf := rf) (J := J) h.v.tp h.c.m.h.b.t h.c.t3 h.c.t4 h.c.tp d1 d2 d3 d4 hF
  have a3 := kad6 h.c.t3
  have a4 := kad10 h.c.t4
  have hm : mW I1 J1 A := by
    clear b2 b3 b6 hF hv
    exact h.m.cell (fun x k hx => b4 x k (by omega) (by omega) (by omega) (by omega) (by omega) (by omega) (by omega) (by omega)) (fun x k hx => b5 x k (by omega) (by omega) (by omega) (by omega))
  obtain ⟨_, I2, J2, c1, c2, c3, c4, c5, c6⟩ := m_180 (xs := xs) (rf := if (asT A.T kd gu).1.F = 0 then swR rf 2 3 else rf) (g := g) h.v.tp d3 d4 hm.tp hm.wd
  have q1 : ∀ R, kX xs (d + 39) 104 0 [some (.ref 0), none, none] [] (kmm I J rf g) R = R (some (.int (nI (asT A.T kd gu).1.F))) (kmm I1 J1 (if (asT A.T kd gu).1.F = 0 then swR rf 2 3 else rf) g) := fun R => b6 d R
  have q2 : ∀ R, kX xs (d + 39) 180 0 [some (.ref 185), none] [] (kmm I1 J1 (if (asT A.T kd gu).1.F = 0 then swR rf 2 3 else rf) g) R = R (some (.int (nI (asT A.T kd gu).1.F))) (kmm I2 J2 (if (asT A.T kd gu).1.F = 0 then swR rf 2 3 else rf) g) := fun R => c6 (d + 5) R
  rw [Y288_371, krecv_m ks0, kcond_t, q1, kpush_s, Y288_375, krecv_m ks185, kcond_t, q2, kpush_s, Y288_379, if_pos rfl, Y288_1519]
  clear q1 q2 b6 c6 hF
  generalize asT A.T kd gu = S at *
  obtain ⟨v1, v2⟩ := hv
  have e1 : ∀ x k, x < 185 → I2 x k = I1 x k := by
    clear b2 b3 c2 c3 v2
    exact fun x k hx => c4 x k (by omega) (by omega) (by omega) (by omega) (by omega) (by omega) (by omega) (by omega) (by omega) (by omega) (by omega)
  have eJ : ∀ x k, x < 185 → J2 x k = J1 x k := by
    clear b2 b3 c2 c3 v2
    exact fun x k hx => c5 x k (by omega) (by omega) (by omega)
  have ez : ∀ k, I2 205 k = I1 205 k := by
    clear b2 b3 c2 c3 v2
    exact fun k => c4 _ k (by omega) (by omega) (by omega) (by omega) (by omega) (by omega) (by omega) (by omega) (by omega) (by omega) (by omega)
  have ew : ∀ k, J2 190 k = J1 190 k := by
    clear b2 b3 c2 c3 v2
    exact fun k => c5 _ k (by omega) (by omega) (by omega)
  by_cases z : S.1.F = 0
  · rw [if_pos z]
    obtain ⟨p1, p2, p3, p4, p5, p6, p7, p8⟩ := b2 z
    obtain ⟨s1, s2, s3, s4, s5, s6, s7, s8⟩ := c2 z
    have vr := rO_v v1 (v2 z)
    have vs := rO_s (S := S.1) v1
    exact hP _ _ _ (nwW (rO S.1 S.2) S.2.bg S.2.np S.2.pa S.2.pb S.2.N) ⟨(cW_new h.c vr vs p1 p2 p3 p4 p5 p6 p7 p8 b1 b4).cell e1 eJ, mW_new hm vr vs s1 s2 s3 s4 s5 s6 s7 s8 c1 ez ew, ⟨vs, v1.nm, ⟨Nat.zero_le _, fun k hk => no_lt hk, fun k hk => no_lt hk, fun k hk => no_lt hk, fun k hk => no_lt hk⟩, tp0_v⟩⟩
  · rw [if_neg z]
    obtain ⟨p1, p2, p3⟩ := b3 z
    obtain ⟨s1, s2⟩ := c3 z
    exact hP _ _ _ (A.wT tp0) ⟨(cW_old h.c p1 p2 v1.kd v1.gu b1 b5 p3).cell e1 eJ, mW_old hm c1 s1 s2, ⟨h.v.bg, h.v.nm, h.v.ln, tp0_v⟩⟩
end WF
