/-! one step of the law: judged, count, see, mark, feed -/
section WD
variable {xs : List Int32} {d : Nat} {I I' I2 : Nat → Nat → Int32} {J J' : Nat → Nat → Int64} {rf rf' : Nat → Nat} {g : Nat} {A : aW} {P : Nat → KL → List Value → KW → Prop} {i a1 a2 a3 a4 a5 a6 : Int32} {r : aRl} {M : aM} {T : aTp}
theorem st_10 (h : wAl I J rf A) (hk : lwK xs i a1 a2 a3 a4 a5 a6) (hP : lwQ g i P) : kY kx288 xs (d + 40) 288 608 (lwL i) [] (kmm I J rf g) P := by
  obtain ⟨k1, k2, k3, k4, k5, k6⟩ := hk
  obtain ⟨I1, b2, b3⟩ := sp116 (xs := xs) (J := J) (g := g) h.c.m.h.b h.c.t4 h.c.bg h.v.bg h.c.ln h.v.ln a1
  have q1 : ∀ R, kX xs (d + 39) 116 0 [some (.ref 0), some (.int a1), none, none, none] [] (kmm I J rf g) R = R (some (.int (aJudged A.r A.bg A.l a1))) (kmm I1 J rf g) := fun R => b3 (d + 34) R
  have h1 := h.cq b2
  obtain ⟨I2, c2, c3⟩ := sp227 (xs := xs) (J := J) (rf := rf) (g := g) h1.m.m.h.b h.v.bg h1.m.bg h1.m.ln h.v.ln a1
  have q2 : ∀ R, kX xs (d + 39) 227 0 [some (.ref 185), some (.int a1), none, none, none, none, none, none, none] [] (kmm I1 J rf g) R = R (some (.int (aJudged A.r A.bg A.l a1))) (kmm I2 J rf g) := fun R => c3 (d + 35) R
  rw [Y288_608, k1, kO_s, krecv_m ks0, kcond_t, q1, kpush_s, Y288_618, k1, kO_s, krecv_m ks185, kcond_t, q2, kpush_s, Y288_628, if_pos rfl, Y288_1519]
  exact hP _ _ _ _ (h1.mq c2)
theorem st_41 (h : wAl I J rf A) (hk : lwK xs i a1 a2 a3 a4 a5 a6) (hP : lwQ g i P) : kY kx288 xs (d + 40) 288 1494 (lwL i) [] (kmm I J rf g) P := by
  obtain ⟨k1, k2, k3, k4, k5, k6⟩ := hk
  obtain ⟨I1, b2, b3⟩ := sp109 (xs := xs) (J := J) (g := g) h.c.m h.c.t4 h.c.ln.n h.c.tp.n a1
  have q1 : ∀ R, kX xs (d + 39) 109 0 [some (.ref 0), some (.int a1)] [] (kmm I J rf g) R = R (some (.int (aCount A.r A.M A.l.n A.T.n a1))) (kmm I1 J rf g) := fun R => b3 (d + 35) R
  have h1 := h.cq b2
  obtain ⟨I2, c2, c3⟩ := sp274 (xs := xs) (J := J) (rf := rf) (g := g) h1.m.m h1.m.ln.n h1.m.tp.n a1
  have q2 : ∀ R, kX xs (d + 39) 274 0 [some (.ref 185), some (.int a1)] [] (kmm I1 J rf g) R = R (some (.int (aCount A.r A.M A.l.n A.T.n a1))) (kmm I2 J rf g) := fun R => c3 (d + 36) R
  rw [Y288_1494, k1, kO_s, krecv_m ks0, kcond_t, q1, kpush_s, Y288_1504, k1, kO_s, krecv_m ks185, kcond_t, q2, kpush_s, Y288_1514, if_pos rfl, Y288_1519]
  exact hP _ _ _ _ (h1.mq c2)
theorem st_27 (h : wAl I J rf A) (hk : lwK xs i a1 a2 a3 a4 a5 a6) (hP : lwQ g i P) : kY kx288 xs (d + 40) 288 1033 (lwL i) [] (kmm I J rf g) P := by
  obtain ⟨k1, k2, k3, k4, k5, k6⟩ := hk
  have key : ∀ b : Int32, kY kx288 xs (d + 40) 288 1060 (lwL i) [.int b, .int a2, .int a1, .ref 0] (kmm I J rf g) P ↔ kY kx288 xs (d + 40) 288 1060 (lwL i) [.int b, .int a2, .int a1, .ref 0] (kmm I J rf g) P := fun b => Iff.rfl
  by_cases z : a3 = 0
  · obtain ⟨I1, b1, b2, b3⟩ := sp137 (xs := xs) (J := J) (g := g) h.c.m a1 a2 0
    have q1 : ∀ R, kX xs (d + 39) 137 0 [some (.ref 0), some (.int a1), some (.int a2), some (.int 0)] [] (kmm I J rf g) R = R (some (.int (aSee A.r A.M.z a1 a2))) (kmm I1 J rf g) := fun R => b3 (d + 37) R
    have h1 := h.cN b1 b2
    obtain ⟨I2, c1, c2, c3⟩ := sp253 (xs := xs) (J := J) (rf := rf) (g := g) h1.2.m a1 a2 0
    have q2 : ∀ R, kX xs (d + 39) 253 0 [some (.ref 185), some (.int a1), some (.int a2), some (.int 0), none] [] (kmm I1 J rf g) R = R (some (.int (aSee A.r A.M.z a1 a2))) (kmm I2 J rf g) := fun R => c3 (d + 37) R
    rw [Y288_1033, k1, kO_s, k2, kO_s, k3, kO_s, if_pos z, Y288_1059, Y288_1060, krecv_m ks0, kcond_t, q1, kpush_s, Y288_1063, k1, kO_s, k2, kO_s, k3, kO_s, if_pos z, Y288_1089, Y288_1090, krecv_m ks185, kcond_t, q2, kpush_s, Y288_1093, if_pos rfl, Y288_1519]
    exact hP _ _ _ _ (h.mN h1 c1 c2)
  · obtain ⟨I1, b1, b2, b3⟩ := sp137 (xs := xs) (J := J) (g := g) h.c.m a1 a2 1
    have q1 : ∀ R, kX xs (d + 39) 137 0 [some (.ref 0), some (.int a1), some (.int a2), some (.int 1)] [] (kmm I J rf g) R = R (some (.int (aSee A.r A.M.z a1 a2))) (kmm I1 J rf g) := fun R => b3 (d + 37) R
    have h1 := h.cN b1 b2
    obtain ⟨I2, c1, c2, c3⟩ := sp253 (xs := xs) (J := J) (rf := rf) (g := g) h1.2.m a1 a2 1
    have q2 : ∀ R, kX xs (d + 39) 253 0 [some (.ref 185), some (.int a1), some (.int a2), some (.int 1), none] [] (kmm I1 J rf g) R = R (some (.int (aSee A.r A.M.z a1 a2))) (kmm I2 J rf g) := fun R => c3 (d + 37) R
    rw [Y288_1033, k1, kO_s, k2, kO_s, k3, kO_s, if_neg z, Y288_1055, Y288_1060, krecv_m ks0, kcond_t, q1, kpush_s, Y288_1063, k1, kO_s, k2, kO_s, k3, kO_s, if_neg z, Y288_1085, Y288_1090, krecv_m ks185, kcond_t, q2, kpush_s, Y288_1093, if_pos rfl, Y288_1519]
    exact hP _ _ _ _ (h.mN h1 c1 c2)
theorem st_40 (h : wAl I J rf A) (hk : lwK xs i a1 a2 a3 a4 a5 a6) (hP : lwQ g i P) : kY kx288 xs (d + 40) 288 1441 (lwL i) [] (kmm I J rf g) P := by
  obtain ⟨k1, k2, k3, k4, k5, k6⟩ := hk
  by_cases z : a2 = 0
  · obtain ⟨I1, b1, b2, b3⟩ := sp115 (xs := xs) (J := J) (g := g) h.c.m a1 0
    have q1 : ∀ R, kX xs (d + 39) 115 0 [some (.ref 0), some (.int a1), some (.int 0)] [] (kmm I J rf g) R = R (some (.int (aMark A.M a1 0))) (kmm I1 J rf g) := fun R => b3 (d + 37) R
    have h1 := h.cN b1 b2
    obtain ⟨I2, c1, c2, c3⟩ := sp272 (xs := xs) (J := J) (rf := rf) (g := g) h1.2.m a1 0
    have q2 : ∀ R, kX xs (d + 39) 272 0 [some (.ref 185), some (.int a1), some (.int 0)] [] (kmm I1 J rf g) R = R (some (.int (aMark A.M a1 0))) (kmm I2 J rf g) := fun R => c3 (d + 38) R
    rw [Y288_1441, k1, kO_s, k2, kO_s, if_pos z, Y288_1461, Y288_1462, krecv_m ks0, kcond_t, q1, kpush_s, Y288_1465, k1, kO_s, k2, kO_s, if_pos z, Y288_1485, Y288_1486, krecv_m ks185, kcond_t, q2, kpush_s, Y288_1489, if_pos rfl, Y288_1519]
    exact hP _ _ _ _ (h.mN h1 c1 c2)
  · obtain ⟨I1, b1, b2, b3⟩ := sp115 (xs := xs) (J := J) (g := g) h.c.m a1 1
    have q1 : ∀ R, kX xs (d + 39) 115 0 [some (.ref 0), some (.int a1), some (.int 1)] [] (kmm I J rf g) R = R (some (.int (aMark A.M a1 1))) (kmm I1 J rf g) := fun R => b3 (d + 37) R
    have h1 := h.cN b1 b2
    obtain ⟨I2, c1, c2, c3⟩ := sp272 (xs := xs) (J := J) (rf := rf) (g := g) h1.2.m a1 1
    have q2 : ∀ R, kX xs (d + 39) 272 0 [some (.ref 185), some (.int a1), some (.int 1)] [] (kmm I1 J rf g) R = R (some (.int (aMark A.M a1 1))) (kmm I2 J rf g) := fun R => c3 (d + 38) R
    rw [Y288_1441, k1, kO_s, k2, kO_s, if_neg z, Y288_1457, Y288_1462, krecv_m ks0, kcond_t, q1, kpush_s, Y288_1465, k1, kO_s, k2, kO_s, if_neg z, Y288_1481, Y288_1486, krecv_m ks185, kcond_t, q2, kpush_s, Y288_1489, if_pos rfl, Y288_1519]
    exact hP _ _ _ _ (h.mN h1 c1 c2)
/-! the tape's own changes -/
def aW.wT (A : aW) (T : aTp) : aW := aW.mk A.r A.M A.bg A.np A.pa A.pb A.N A.l T
def aW.wL (A : aW) (l : aLn) (T : aTp) : aW := aW.mk A.r A.M A.bg A.np A.pa A.pb A.N l T
theorem cM.re (h : cM I rf r M) (e : rf' 2 = rf 2) (hr : cRl I' (rf 2) r) (q : ∀ x k, 39 ≤ x → x < 185 → I' x k = I x k) : cM I' rf' r M := by
  obtain ⟨G, hz⟩ := h.z
  obtain ⟨top, hp⟩ := h.h.p
  refine ⟨⟨⟨by rw [e]; exact h.h.b.t, h.h.b.vr, h.h.b.vs, by rw [e]; exact hr, h.h.b.st.keep (fun x k h1 h2 => q x k (by omega) (by omega))⟩, ⟨top, hp.keep (fun x k h1 h2 => q x k (by omega) (by omega))⟩, h.h.v⟩, ⟨G, hz.keep (fun x k h1 h2 => q x k (by omega) (by omega))⟩, fun m hm => by rw [q _ _ (by omega) (by omega)]; exact h.o m hm, fun m hm ho => (h.s m hm ho).keep (fun x k h1 h2 => q x k (by omega) (by omega)), fun m hm ho => ?_, h.v⟩
  obtain ⟨G, hk⟩ := h.k m hm ho
  exact ⟨G, hk.keep (fun x k h1 h2 => q x k (by omega) (by omega))⟩
theorem mM.re (h : mM I r M) (hr : mRl I' r) (q4 : I' 185 24 = I 185 24) (q : ∀ x k, x = 201 ∨ x = 202 → I' x k = I x k) : mM I' r M :=
  ⟨⟨⟨h.h.b.vr, h.h.b.vs, hr, h.h.b.st.keep h.h.b.vr (fun k h1 h2 => q _ _ (by omega))⟩, h.h.p.keep h.h.b.vr q4 (fun k h1 h2 => q _ _ (by omega)), h.h.v⟩, h.z.keep h.v.z.n (fun k h1 h2 => q _ _ (by omega)), fun m hm => by rw [q _ _ (by omega)]; exact h.o m hm, fun m hm ho => (h.s m hm ho).keep h.h.b.vr (fun k h1 h2 => q _ _ (by omega)), fun m hm ho => (h.k m hm ho).keep (h.v.k m hm ho).n (fun k h1 h2 => q _ _ (by omega)), h.v⟩
theorem cW.tape (h : cW I J rf A) (ht : cTp I' T) (q : ∀ x k, 4 ≤ x → x < 185 → I' x k = I x k) : cW I' J rf (A.wT T) := by
  have a2 := kad6 h.m.h.b.t
  have a3 := kad6 h.t3
  have a4 := kad10 h.t4
  obtain ⟨kd, gu, d1, d2, d3, d4⟩ := h.dr
  exact ⟨h.m.re rfl (h.m.h.b.rl.keep (fun x k h1 h2 => q x k (by omega) (by omega))) (fun x k h1 h2 => q x k (by omega) (by omega)), h.bg.keep (fun x k h1 h2 => q x k (by omega) (by omega)), h.nm, h.t3, h.n23, h.t4, h.t5, h.n45, h.ln.keep (fun x k h1 h2 => q x k (by omega) (by omega)), ht, ⟨kd, gu, fun k hk => by rw [q _ _ (by omega) (by omega)]; exact d1 k hk, fun k hk => by rw [q _ _ (by omega) (by omega)]; exact d2 k hk, d3, d4⟩⟩
theorem mW.tape (h : mW I J A) (ht : mTp I' T) (q : ∀ x k, 185 ≤ x → ¬ (x = 185 ∧ (k = 0 ∨ k = 2)) → x ≠ 186 → I' x k = I x k) : mW I' J (A.wT T) := by
  obtain ⟨nm, no, hn⟩ := h.nm
  exact ⟨h.m.re (h.m.h.b.rl.keep (fun x k h1 h2 => q x k (by omega) (by omega) (by omega))) (q _ _ (by omega) (by omega) (by omega)) (fun x k hx => q _ _ (by omega) (by omega) (by omega)), h.bg.keep (fun k => q _ _ (by omega) (by omega) (by omega)), ⟨nm, no, hn.keep (fun x k hx => q _ _ (by omega) (by omega) (by omega))⟩, h.ln.keep (fun k => q _ _ (by omega) (by omega) (by omega)), ht, h.wd, fun k hk => by rw [q _ _ (by omega) (by omega) (by omega)]; exact h.zf k hk⟩
theorem feedT_v (v : vTp T) (a b c : Int64) : vTp (feedT T a b c) := lay8_v (lay8_v (lay8_v v a 8) b 8) c 8
abbrev lgE (a b : Int32) : Int64 := (((a : Int32).toInt64) <<< ((((Int8.ofInt 32).toInt32) : Int32).toInt64 &&& 63)) ||| (((b : Int32).toInt64) &&& 4294967295)
theorem st_0 (h : wAl I J rf A) (hk : lwK xs i a1 a2 a3 a4 a5 a6) (hP : lwQ g i P) : kY kx288 xs (d + 40) 288 224 (lwL i) [] (kmm I J rf g) P := by
  obtain ⟨k1, k2, k3, k4, k5, k6⟩ := hk
  obtain ⟨I1, b1, b2, b3⟩ := sp102 (xs := xs) (J := J) (rf := rf) (g := g) h.c.tp h.v.tp (lgE a1 a2) (lgE a3 a4) (lgE a5 a6)
  have q1 : ∀ R, kX xs (d + 39) 102 0 [some (.ref 0), some (.long (lgE a1 a2)), none, some (.long (lgE a3 a4)), none, some (.long (lgE a5 a6)), none] [] (kmm I J rf g) R = R (some (.int (nI (feedT A.T (lgE a1 a2) (lgE a3 a4) (lgE a5 a6)).n))) (kmm I1 J rf g) := fun R => b3 (d + 37) R
  have hc := h.c.tape b1 (fun x k h1 h2 => b2 x k (by omega) (by omega))
  have hm := h.m.cell (I' := I1) (fun x k hx => b2 x k (by omega) (by omega)) (fun _ _ _ => rfl)
  obtain ⟨I2, c1, c2, c3⟩ := sp156 (xs := xs) (J := J) (rf := rf) (g := g) hm.tp h.v.tp (lgE a1 a2) (lgE a3 a4) (lgE a5 a6)
  have q2 : ∀ R, kX xs (d + 39) 156 0 [some (.ref 185), some (.long (lgE a1 a2)), none, some (.long (lgE a3 a4)), none, some (.long (lgE a5 a6)), none] [] (kmm I1 J rf g) R = R (some (.int (nI (feedT A.T (lgE a1 a2) (lgE a3 a4) (lgE a5 a6)).n))) (kmm I2 J rf g) := fun R => c3 (d + 38) R
  rw [Y288_224, k1, kO_s, k2, kO_s, k3, kO_s, k4, kO_s, Y288_270, k5, kO_s, k6, kO_s, krecv_m ks0, kcond_t, q1, kpush_s, Y288_295, k1, kO_s, k2, kO_s, k3, kO_s, k4, kO_s, Y288_341, k5, kO_s, k6, kO_s, krecv_m ks185, kcond_t, q2, kpush_s, Y288_366, if_pos rfl, Y288_1519]
  exact hP _ _ _ _ ⟨hc.cell (fun x k hx => c2 x k (by omega) (by omega)) (fun _ _ _ => rfl), hm.tape c1 (fun x k h1 h2 h3 => c2 x k h2 h3), ⟨h.v.bg, h.v.nm, h.v.ln, feedT_v h.v.tp _ _ _⟩⟩
end WD
