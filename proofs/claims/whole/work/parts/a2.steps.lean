/-! one step of the law: questions and deeds -/
section WC
variable {xs : List Int32} {d : Nat} {I : Nat → Nat → Int32} {J : Nat → Nat → Int64} {rf : Nat → Nat} {g : Nat} {A : aW} {P : Nat → KL → List Value → KW → Prop} {i a1 a2 a3 a4 a5 a6 : Int32}
abbrev lwL (i : Int32) : KL := [some (.retAddr 9), some (.ref 0), some (.ref 185), some (.ref 208), some (.int i), none, none]
abbrev lwQ (g : Nat) (i : Int32) (P : Nat → KL → List Value → KW → Prop) : Prop := ∀ I J rf A, wAl I J rf A → P 23 (lwL (i + Int32.ofInt 7)) [] (kmm I J rf g)
abbrev lwK (xs : List Int32) (i a1 a2 a3 a4 a5 a6 : Int32) : Prop := ktI xs 9 (i + 1) = some a1 ∧ ktI xs 9 (i + 2) = some a2 ∧ ktI xs 9 (i + 3) = some a3 ∧ ktI xs 9 (i + 4) = some a4 ∧ ktI xs 9 (i + 5) = some a5 ∧ ktI xs 9 (i + ((Int8.ofInt 6).toInt32)) = some a6
/-- opcode 3 -/
theorem st_3 (h : wAl I J rf A) (hk : lwK xs i a1 a2 a3 a4 a5 a6) (hP : lwQ g i P) : kY kx288 xs (d + 40) 288 397 (lwL i) [] (kmm I J rf g) P := by
  obtain ⟨k1, k2, k3, k4, k5, k6⟩ := hk
  have q1 : ∀ R, kX xs (d + 39) 107 0 [some (.ref 0), some (.int a1), some (.int a2)] [] (kmm I J rf g) R = R (some (.int ((aJudge A.r A.M.H.s a1 a2)))) (kmm I J rf g) := fun R => sp107 (d := d + 37) h.c.m.h.b a1 a2
  have h1 := h
  obtain ⟨I2, c2, c3⟩ := sp220 (xs := xs) (J := J) (rf := rf) (g := g) h1.m.m.h.b a1 a2
  have q2 : ∀ R, kX xs (d + 39) 220 0 [some (.ref 185), some (.int a1), some (.int a2)] [] (kmm I J rf g) R = R (some (.int ((aJudge A.r A.M.H.s a1 a2)))) (kmm I2 J rf g) := fun R => c3 (d + 37) R
  rw [Y288_397, k1, kO_s, k2, kO_s, krecv_m ks0, kcond_t, q1, kpush_s, Y288_413, k1, kO_s, k2, kO_s, krecv_m ks185, kcond_t, q2, kpush_s, Y288_429, if_pos rfl, Y288_1519]
  exact hP _ _ _ _ (h1.mq c2)
/-- opcode 4 -/
theorem st_4 (h : wAl I J rf A) (hk : lwK xs i a1 a2 a3 a4 a5 a6) (hP : lwQ g i P) : kY kx288 xs (d + 40) 288 434 (lwL i) [] (kmm I J rf g) P := by
  obtain ⟨k1, k2, k3, k4, k5, k6⟩ := hk
  obtain ⟨I1, b2, b3⟩ := sp108 (xs := xs) (J := J) (g := g) h.c.m.h.b a1 a2
  have q1 : ∀ R, kX xs (d + 39) 108 0 [some (.ref 0), some (.int a1), some (.int a2)] [] (kmm I J rf g) R = R (some (.int ((aTrial A.r A.M.H.s a1 a2)))) (kmm I1 J rf g) := fun R => b3 (d + 32) R
  have h1 := h.cq b2
  obtain ⟨I2, c2, c3⟩ := sp221 (xs := xs) (J := J) (rf := rf) (g := g) h1.m.m.h.b a1 a2
  have q2 : ∀ R, kX xs (d + 39) 221 0 [some (.ref 185), some (.int a1), some (.int a2)] [] (kmm I1 J rf g) R = R (some (.int ((aTrial A.r A.M.H.s a1 a2)))) (kmm I2 J rf g) := fun R => c3 (d + 32) R
  rw [Y288_434, k1, kO_s, k2, kO_s, krecv_m ks0, kcond_t, q1, kpush_s, Y288_450, k1, kO_s, k2, kO_s, krecv_m ks185, kcond_t, q2, kpush_s, Y288_466, if_pos rfl, Y288_1519]
  exact hP _ _ _ _ (h1.mq c2)
/-- opcode 5 -/
theorem st_5 (h : wAl I J rf A) (hk : lwK xs i a1 a2 a3 a4 a5 a6) (hP : lwQ g i P) : kY kx288 xs (d + 40) 288 471 (lwL i) [] (kmm I J rf g) P := by
  obtain ⟨k1, k2, k3, k4, k5, k6⟩ := hk
  obtain ⟨I1, b1, b2, b3⟩ := sp110 (xs := xs) (J := J) (g := g) h.c.m.h 
  have q1 : ∀ R, kX xs (d + 39) 110 0 [some (.ref 0)] [] (kmm I J rf g) R = R (some (.int ((aDay A.r A.M.H.s)))) (kmm I1 J rf g) := fun R => b3 (d + 34) R
  have h1 := h.cN (h.c.m.kept b1 b2) (cN.of b2)
  obtain ⟨I2, c1, c2, c3⟩ := sp222 (xs := xs) (J := J) (rf := rf) (g := g) h1.2.m.h 
  have q2 : ∀ R, kX xs (d + 39) 222 0 [some (.ref 185)] [] (kmm I1 J rf g) R = R (some (.int ((aDay A.r A.M.H.s)))) (kmm I2 J rf g) := fun R => c3 (d + 35) R
  rw [Y288_471, krecv_m ks0, kcond_t, q1, kpush_s, Y288_475, krecv_m ks185, kcond_t, q2, kpush_s, Y288_479, if_pos rfl, Y288_1519]
  exact hP _ _ _ _ (h.mN h1 (h1.2.m.kept c1 c2) (mN.of c2))
/-- opcode 6 -/
theorem st_6 (h : wAl I J rf A) (hk : lwK xs i a1 a2 a3 a4 a5 a6) (hP : lwQ g i P) : kY kx288 xs (d + 40) 288 484 (lwL i) [] (kmm I J rf g) P := by
  obtain ⟨k1, k2, k3, k4, k5, k6⟩ := hk
  obtain ⟨I1, b1, b2, b3⟩ := sp111 (xs := xs) (J := J) (g := g) h.c.m.h a1 a2
  have q1 : ∀ R, kX xs (d + 39) 111 0 [some (.ref 0), some (.int a1), some (.int a2), none] [] (kmm I J rf g) R = R (some (.int ((aPlead A.r A.M.H.s a1 a2)))) (kmm I1 J rf g) := fun R => b3 (d + 36) R
  have h1 := h.cN (h.c.m.kept b1 b2) (cN.of b2)
  obtain ⟨I2, c1, c2, c3⟩ := sp223 (xs := xs) (J := J) (rf := rf) (g := g) h1.2.m.h a1 a2
  have q2 : ∀ R, kX xs (d + 39) 223 0 [some (.ref 185), some (.int a1), some (.int a2), none] [] (kmm I1 J rf g) R = R (some (.int ((aPlead A.r A.M.H.s a1 a2)))) (kmm I2 J rf g) := fun R => c3 (d + 37) R
  rw [Y288_484, k1, kO_s, k2, kO_s, krecv_m ks0, kcond_t, q1, kpush_s, Y288_500, k1, kO_s, k2, kO_s, krecv_m ks185, kcond_t, q2, kpush_s, Y288_516, if_pos rfl, Y288_1519]
  exact hP _ _ _ _ (h.mN h1 (h1.2.m.kept c1 c2) (mN.of c2))
/-- opcode 7 -/
theorem st_7 (h : wAl I J rf A) (hk : lwK xs i a1 a2 a3 a4 a5 a6) (hP : lwQ g i P) : kY kx288 xs (d + 40) 288 521 (lwL i) [] (kmm I J rf g) P := by
  obtain ⟨k1, k2, k3, k4, k5, k6⟩ := hk
  obtain ⟨I1, b1, b2, b3⟩ := sp112 (xs := xs) (J := J) (g := g) h.c.m.h a1 a2
  have q1 : ∀ R, kX xs (d + 39) 112 0 [some (.ref 0), some (.int a1), some (.int a2), none] [] (kmm I J rf g) R = R (some (.int ((aLean A.r A.M.H.s a1 a2)))) (kmm I1 J rf g) := fun R => b3 (d + 36) R
  have h1 := h.cN (h.c.m.kept b1 b2) (cN.of b2)
  obtain ⟨I2, c1, c2, c3⟩ := sp224 (xs := xs) (J := J) (rf := rf) (g := g) h1.2.m.h a1 a2
  have q2 : ∀ R, kX xs (d + 39) 224 0 [some (.ref 185), some (.int a1), some (.int a2), none] [] (kmm I1 J rf g) R = R (some (.int ((aLean A.r A.M.H.s a1 a2)))) (kmm I2 J rf g) := fun R => c3 (d + 37) R
  rw [Y288_521, k1, kO_s, k2, kO_s, krecv_m ks0, kcond_t, q1, kpush_s, Y288_537, k1, kO_s, k2, kO_s, krecv_m ks185, kcond_t, q2, kpush_s, Y288_553, if_pos rfl, Y288_1519]
  exact hP _ _ _ _ (h.mN h1 (h1.2.m.kept c1 c2) (mN.of c2))
/-- opcode 8 -/
theorem st_8 (h : wAl I J rf A) (hk : lwK xs i a1 a2 a3 a4 a5 a6) (hP : lwQ g i P) : kY kx288 xs (d + 40) 288 558 (lwL i) [] (kmm I J rf g) P := by
  obtain ⟨k1, k2, k3, k4, k5, k6⟩ := hk
  obtain ⟨I1, b1, b2, b3⟩ := sp113 (xs := xs) (J := J) (g := g) h.c.m.h a1 a2
  have q1 : ∀ R, kX xs (d + 39) 113 0 [some (.ref 0), some (.int a1), some (.int a2)] [] (kmm I J rf g) R = R (some (.int ((aChange A.r a1 a2)))) (kmm I1 J rf g) := fun R => b3 (d + 36) R
  have h1 := h.cN (h.c.m.kept b1 b2) (cN.of b2)
  obtain ⟨I2, c1, c2, c3⟩ := sp225 (xs := xs) (J := J) (rf := rf) (g := g) h1.2.m.h a1 a2
  have q2 : ∀ R, kX xs (d + 39) 225 0 [some (.ref 185), some (.int a1), some (.int a2)] [] (kmm I1 J rf g) R = R (some (.int ((aChange A.r a1 a2)))) (kmm I2 J rf g) := fun R => c3 (d + 37) R
  rw [Y288_558, k1, kO_s, k2, kO_s, krecv_m ks0, kcond_t, q1, kpush_s, Y288_574, k1, kO_s, k2, kO_s, krecv_m ks185, kcond_t, q2, kpush_s, Y288_590, if_pos rfl, Y288_1519]
  exact hP _ _ _ _ (h.mN h1 (h1.2.m.kept c1 c2) (mN.of c2))
/-- opcode 9 -/
theorem st_9 (h : wAl I J rf A) (hk : lwK xs i a1 a2 a3 a4 a5 a6) (hP : lwQ g i P) : kY kx288 xs (d + 40) 288 595 (lwL i) [] (kmm I J rf g) P := by
  obtain ⟨k1, k2, k3, k4, k5, k6⟩ := hk
  obtain ⟨I1, b1, b2, b3⟩ := sp114 (xs := xs) (J := J) (g := g) h.c.m.h 
  have q1 : ∀ R, kX xs (d + 39) 114 0 [some (.ref 0)] [] (kmm I J rf g) R = R (some (.int ((aUndo A.M.H)))) (kmm I1 J rf g) := fun R => b3 (d + 36) R
  have h1 := h.cN (h.c.m.kept b1 b2) (cN.of b2)
  obtain ⟨I2, c1, c2, c3⟩ := sp226 (xs := xs) (J := J) (rf := rf) (g := g) h1.2.m.h 
  have q2 : ∀ R, kX xs (d + 39) 226 0 [some (.ref 185)] [] (kmm I1 J rf g) R = R (some (.int ((aUndo A.M.H)))) (kmm I2 J rf g) := fun R => c3 (d + 38) R
  rw [Y288_595, krecv_m ks0, kcond_t, q1, kpush_s, Y288_599, krecv_m ks185, kcond_t, q2, kpush_s, Y288_603, if_pos rfl, Y288_1519]
  exact hP _ _ _ _ (h.mN h1 (h1.2.m.kept c1 c2) (mN.of c2))
/-- opcode 11 -/
theorem st_11 (h : wAl I J rf A) (hk : lwK xs i a1 a2 a3 a4 a5 a6) (hP : lwQ g i P) : kY kx288 xs (d + 40) 288 633 (lwL i) [] (kmm I J rf g) P := by
  obtain ⟨k1, k2, k3, k4, k5, k6⟩ := hk
  obtain ⟨I1, b2, b3⟩ := sp117 (xs := xs) (J := J) (g := g) h.c.m.h.b a1
  have q1 : ∀ R, kX xs (d + 39) 117 0 [some (.ref 0), some (.int a1)] [] (kmm I J rf g) R = R (some (.int ((aHears A.r A.M.H.s a1)))) (kmm I1 J rf g) := fun R => b3 (d + 35) R
  have h1 := h.cq b2
  obtain ⟨I2, c2, c3⟩ := sp228 (xs := xs) (J := J) (rf := rf) (g := g) h1.m.m.h.b a1
  have q2 : ∀ R, kX xs (d + 39) 228 0 [some (.ref 185), some (.int a1), none] [] (kmm I1 J rf g) R = R (some (.int ((aHears A.r A.M.H.s a1)))) (kmm I2 J rf g) := fun R => c3 (d + 37) R
  rw [Y288_633, k1, kO_s, krecv_m ks0, kcond_t, q1, kpush_s, Y288_643, k1, kO_s, krecv_m ks185, kcond_t, q2, kpush_s, Y288_653, if_pos rfl, Y288_1519]
  exact hP _ _ _ _ (h1.mq c2)
/-- opcode 12 -/
theorem st_12 (h : wAl I J rf A) (hk : lwK xs i a1 a2 a3 a4 a5 a6) (hP : lwQ g i P) : kY kx288 xs (d + 40) 288 658 (lwL i) [] (kmm I J rf g) P := by
  obtain ⟨k1, k2, k3, k4, k5, k6⟩ := hk
  have q1 : ∀ R, kX xs (d + 39) 118 0 [some (.ref 0), some (.int a1), some (.int a2)] [] (kmm I J rf g) R = R (some (.int ((aGives A.r A.M.H.s a1 a2)))) (kmm I J rf g) := fun R => sp118 (d := d + 36) h.c.m.h.b a1 a2
  have h1 := h
  obtain ⟨I2, c2, c3⟩ := sp229 (xs := xs) (J := J) (rf := rf) (g := g) h1.m.m.h.b a1 a2
  have q2 : ∀ R, kX xs (d + 39) 229 0 [some (.ref 185), some (.int a1), some (.int a2)] [] (kmm I J rf g) R = R (some (.int ((aGives A.r A.M.H.s a1 a2)))) (kmm I2 J rf g) := fun R => c3 (d + 37) R
  rw [Y288_658, k1, kO_s, k2, kO_s, krecv_m ks0, kcond_t, q1, kpush_s, Y288_674, k1, kO_s, k2, kO_s, krecv_m ks185, kcond_t, q2, kpush_s, Y288_690, if_pos rfl, Y288_1519]
  exact hP _ _ _ _ (h1.mq c2)
/-- opcode 13 -/
theorem st_13 (h : wAl I J rf A) (hk : lwK xs i a1 a2 a3 a4 a5 a6) (hP : lwQ g i P) : kY kx288 xs (d + 40) 288 695 (lwL i) [] (kmm I J rf g) P := by
  obtain ⟨k1, k2, k3, k4, k5, k6⟩ := hk
  obtain ⟨I1, b2, b3⟩ := sp119 (xs := xs) (J := J) (g := g) h.c.m.h.b a1
  have q1 : ∀ R, kX xs (d + 39) 119 0 [some (.ref 0), some (.int a1)] [] (kmm I J rf g) R = R (some (.int ((aFrom A.r A.M.H.s a1)))) (kmm I1 J rf g) := fun R => b3 (d + 33) R
  have h1 := h.cq b2
  obtain ⟨I2, c2, c3⟩ := sp230 (xs := xs) (J := J) (rf := rf) (g := g) h1.m.m.h.b a1
  have q2 : ∀ R, kX xs (d + 39) 230 0 [some (.ref 185), some (.int a1)] [] (kmm I1 J rf g) R = R (some (.int ((aFrom A.r A.M.H.s a1)))) (kmm I2 J rf g) := fun R => c3 (d + 32) R
  rw [Y288_695, k1, kO_s, krecv_m ks0, kcond_t, q1, kpush_s, Y288_705, k1, kO_s, krecv_m ks185, kcond_t, q2, kpush_s, Y288_715, if_pos rfl, Y288_1519]
  exact hP _ _ _ _ (h1.mq c2)
/-- opcode 14 -/
theorem st_14 (h : wAl I J rf A) (hk : lwK xs i a1 a2 a3 a4 a5 a6) (hP : lwQ g i P) : kY kx288 xs (d + 40) 288 720 (lwL i) [] (kmm I J rf g) P := by
  obtain ⟨k1, k2, k3, k4, k5, k6⟩ := hk
  obtain ⟨I1, b2, b3⟩ := sp120 (xs := xs) (J := J) (g := g) h.c.m.h.b a1
  have q1 : ∀ R, kX xs (d + 39) 120 0 [some (.ref 0), some (.int a1)] [] (kmm I J rf g) R = R (some (.int ((aGets A.r A.M.H.s a1)))) (kmm I1 J rf g) := fun R => b3 (d + 33) R
  have h1 := h.cq b2
  obtain ⟨I2, c2, c3⟩ := sp231 (xs := xs) (J := J) (rf := rf) (g := g) h1.m.m.h.b a1
  have q2 : ∀ R, kX xs (d + 39) 231 0 [some (.ref 185), some (.int a1)] [] (kmm I1 J rf g) R = R (some (.int ((aGets A.r A.M.H.s a1)))) (kmm I2 J rf g) := fun R => c3 (d + 32) R
  rw [Y288_720, k1, kO_s, krecv_m ks0, kcond_t, q1, kpush_s, Y288_730, k1, kO_s, krecv_m ks185, kcond_t, q2, kpush_s, Y288_740, if_pos rfl, Y288_1519]
  exact hP _ _ _ _ (h1.mq c2)
/-- opcode 15 -/
theorem st_15 (h : wAl I J rf A) (hk : lwK xs i a1 a2 a3 a4 a5 a6) (hP : lwQ g i P) : kY kx288 xs (d + 40) 288 745 (lwL i) [] (kmm I J rf g) P := by
  obtain ⟨k1, k2, k3, k4, k5, k6⟩ := hk
  obtain ⟨I1, b2, b3⟩ := sp121 (xs := xs) (J := J) (g := g) h.c.m.h.b a1
  have q1 : ∀ R, kX xs (d + 39) 121 0 [some (.ref 0), some (.int a1), none, none, none, none] [] (kmm I J rf g) R = R (some (.int ((aBest A.r A.M.H.s a1)))) (kmm I1 J rf g) := fun R => b3 (d + 33) R
  have h1 := h.cq b2
  obtain ⟨I2, c2, c3⟩ := sp232 (xs := xs) (J := J) (rf := rf) (g := g) h1.m.m.h.b a1
  have q2 : ∀ R, kX xs (d + 39) 232 0 [some (.ref 185), some (.int a1), none, none, none, none, none] [] (kmm I1 J rf g) R = R (some (.int ((aBest A.r A.M.H.s a1)))) (kmm I2 J rf g) := fun R => c3 (d + 33) R
  rw [Y288_745, k1, kO_s, krecv_m ks0, kcond_t, q1, kpush_s, Y288_755, k1, kO_s, krecv_m ks185, kcond_t, q2, kpush_s, Y288_765, if_pos rfl, Y288_1519]
  exact hP _ _ _ _ (h1.mq c2)
/-- opcode 16 -/
theorem st_16 (h : wAl I J rf A) (hk : lwK xs i a1 a2 a3 a4 a5 a6) (hP : lwQ g i P) : kY kx288 xs (d + 40) 288 770 (lwL i) [] (kmm I J rf g) P := by
  obtain ⟨k1, k2, k3, k4, k5, k6⟩ := hk
  obtain ⟨I1, b2, b3⟩ := sp122 (xs := xs) (J := J) (g := g) h.c.m.h.b a1
  have q1 : ∀ R, kX xs (d + 39) 122 0 [some (.ref 0), some (.int a1)] [] (kmm I J rf g) R = R (some (.int ((aPlan A.r A.M.H.s a1)))) (kmm I1 J rf g) := fun R => b3 (d + 34) R
  have h1 := h.cq b2
  obtain ⟨I2, c2, c1, c3⟩ := sp234 (xs := xs) (J := J) (rf := rf) (g := g) h1.m.m.h.b h1.m.zf a1
  have q2 : ∀ R, kX xs (d + 39) 234 0 [some (.ref 185), some (.int a1)] [] (kmm I1 J rf g) R = R (some (.int ((aPlan A.r A.M.H.s a1)))) (kmm I2 J rf g) := fun R => c3 (d + 29) R
  rw [Y288_770, k1, kO_s, krecv_m ks0, kcond_t, q1, kpush_s, Y288_780, k1, kO_s, krecv_m ks185, kcond_t, q2, kpush_s, Y288_790, if_pos rfl, Y288_1519]
  exact hP _ _ _ _ (h1.mp c2 c1)
/-- opcode 17 -/
theorem st_17 (h : wAl I J rf A) (hk : lwK xs i a1 a2 a3 a4 a5 a6) (hP : lwQ g i P) : kY kx288 xs (d + 40) 288 795 (lwL i) [] (kmm I J rf g) P := by
  obtain ⟨k1, k2, k3, k4, k5, k6⟩ := hk
  obtain ⟨I1, b2, b3⟩ := sp123 (xs := xs) (J := J) (g := g) h.c.m.h.b a1
  have q1 : ∀ R, kX xs (d + 39) 123 0 [some (.ref 0), some (.int a1)] [] (kmm I J rf g) R = R (some (.int ((aLight A.r A.M.H.s a1)))) (kmm I1 J rf g) := fun R => b3 (d + 35) R
  have h1 := h.cq b2
  obtain ⟨I2, c2, c3⟩ := sp237 (xs := xs) (J := J) (rf := rf) (g := g) h1.m.m.h.b a1
  have q2 : ∀ R, kX xs (d + 39) 237 0 [some (.ref 185), some (.int a1)] [] (kmm I1 J rf g) R = R (some (.int ((aLight A.r A.M.H.s a1)))) (kmm I2 J rf g) := fun R => c3 (d + 29) R
  rw [Y288_795, k1, kO_s, krecv_m ks0, kcond_t, q1, kpush_s, Y288_805, k1, kO_s, krecv_m ks185, kcond_t, q2, kpush_s, Y288_815, if_pos rfl, Y288_1519]
  exact hP _ _ _ _ (h1.mq c2)
/-- opcode 18 -/
theorem st_18 (h : wAl I J rf A) (hk : lwK xs i a1 a2 a3 a4 a5 a6) (hP : lwQ g i P) : kY kx288 xs (d + 40) 288 820 (lwL i) [] (kmm I J rf g) P := by
  obtain ⟨k1, k2, k3, k4, k5, k6⟩ := hk
  obtain ⟨I1, b2, b3⟩ := sp124 (xs := xs) (J := J) (g := g) h.c.m.h.b a1
  have q1 : ∀ R, kX xs (d + 39) 124 0 [some (.ref 0), some (.int a1)] [] (kmm I J rf g) R = R (some (.int ((aOwn A.r A.M.H.s a1)))) (kmm I1 J rf g) := fun R => b3 (d + 33) R
  have h1 := h.cq b2
  obtain ⟨I2, c2, c3⟩ := sp239 (xs := xs) (J := J) (rf := rf) (g := g) h1.m.m.h.b a1
  have q2 : ∀ R, kX xs (d + 39) 239 0 [some (.ref 185), some (.int a1), none, none] [] (kmm I1 J rf g) R = R (some (.int ((aOwn A.r A.M.H.s a1)))) (kmm I2 J rf g) := fun R => c3 (d + 33) R
  rw [Y288_820, k1, kO_s, krecv_m ks0, kcond_t, q1, kpush_s, Y288_830, k1, kO_s, krecv_m ks185, kcond_t, q2, kpush_s, Y288_840, if_pos rfl, Y288_1519]
  exact hP _ _ _ _ (h1.mq c2)
/-- opcode 19 -/
theorem st_19 (h : wAl I J rf A) (hk : lwK xs i a1 a2 a3 a4 a5 a6) (hP : lwQ g i P) : kY kx288 xs (d + 40) 288 845 (lwL i) [] (kmm I J rf g) P := by
  obtain ⟨k1, k2, k3, k4, k5, k6⟩ := hk
  obtain ⟨I1, b2, b3⟩ := sp130 (xs := xs) (J := J) (g := g) h.c.m.h.b a1 a2
  have q1 : ∀ R, kX xs (d + 39) 130 0 [some (.ref 0), some (.int a1), some (.int a2)] [] (kmm I J rf g) R = R (some (.int ((aLater A.r A.M.H.s a1 a2)))) (kmm I1 J rf g) := fun R => b3 (d + 33) R
  have h1 := h.cq b2
  obtain ⟨I2, c2, c3⟩ := sp242 (xs := xs) (J := J) (rf := rf) (g := g) h1.m.m.h.b a1 a2
  have q2 : ∀ R, kX xs (d + 39) 242 0 [some (.ref 185), some (.int a1), some (.int a2)] [] (kmm I1 J rf g) R = R (some (.int ((aLater A.r A.M.H.s a1 a2)))) (kmm I2 J rf g) := fun R => c3 (d + 34) R
  rw [Y288_845, k1, kO_s, k2, kO_s, krecv_m ks0, kcond_t, q1, kpush_s, Y288_861, k1, kO_s, k2, kO_s, krecv_m ks185, kcond_t, q2, kpush_s, Y288_877, if_pos rfl, Y288_1519]
  exact hP _ _ _ _ (h1.mq c2)
/-- opcode 20 -/
theorem st_20 (h : wAl I J rf A) (hk : lwK xs i a1 a2 a3 a4 a5 a6) (hP : lwQ g i P) : kY kx288 xs (d + 40) 288 882 (lwL i) [] (kmm I J rf g) P := by
  obtain ⟨k1, k2, k3, k4, k5, k6⟩ := hk
  obtain ⟨I1, b2, b3⟩ := sp133 (xs := xs) (J := J) (g := g) h.c.m.h.b a1 a2
  have q1 : ∀ R, kX xs (d + 39) 133 0 [some (.ref 0), some (.int a1), some (.int a2), none] [] (kmm I J rf g) R = R (some (.int ((aReaches A.r A.M.H.s a1 a2)))) (kmm I1 J rf g) := fun R => b3 (d + 34) R
  have h1 := h.cq b2
  obtain ⟨I2, c2, c3⟩ := sp243 (xs := xs) (J := J) (rf := rf) (g := g) h1.m.m.h.b a1 a2
  have q2 : ∀ R, kX xs (d + 39) 243 0 [some (.ref 185), some (.int a1), some (.int a2), none] [] (kmm I1 J rf g) R = R (some (.int ((aReaches A.r A.M.H.s a1 a2)))) (kmm I2 J rf g) := fun R => c3 (d + 35) R
  rw [Y288_882, k1, kO_s, k2, kO_s, krecv_m ks0, kcond_t, q1, kpush_s, Y288_898, k1, kO_s, k2, kO_s, krecv_m ks185, kcond_t, q2, kpush_s, Y288_914, if_pos rfl, Y288_1519]
  exact hP _ _ _ _ (h1.mq c2)
/-- opcode 21 -/
theorem st_21 (h : wAl I J rf A) (hk : lwK xs i a1 a2 a3 a4 a5 a6) (hP : lwQ g i P) : kY kx288 xs (d + 40) 288 919 (lwL i) [] (kmm I J rf g) P := by
  obtain ⟨k1, k2, k3, k4, k5, k6⟩ := hk
  obtain ⟨I1, b2, b3⟩ := sp131 (xs := xs) (J := J) (g := g) h.c.m.h.b a1
  have q1 : ∀ R, kX xs (d + 39) 131 0 [some (.ref 0), some (.int a1)] [] (kmm I J rf g) R = R (some (.int ((aGrief A.r A.M.H.s a1)))) (kmm I1 J rf g) := fun R => b3 (d + 33) R
  have h1 := h.cq b2
  obtain ⟨I2, c2, c3⟩ := sp244 (xs := xs) (J := J) (rf := rf) (g := g) h1.m.m.h.b a1
  have q2 : ∀ R, kX xs (d + 39) 244 0 [some (.ref 185), some (.int a1)] [] (kmm I1 J rf g) R = R (some (.int ((aGrief A.r A.M.H.s a1)))) (kmm I2 J rf g) := fun R => c3 (d + 34) R
  rw [Y288_919, k1, kO_s, krecv_m ks0, kcond_t, q1, kpush_s, Y288_929, k1, kO_s, krecv_m ks185, kcond_t, q2, kpush_s, Y288_939, if_pos rfl, Y288_1519]
  exact hP _ _ _ _ (h1.mq c2)
/-- opcode 22 -/
theorem st_22 (h : wAl I J rf A) (hk : lwK xs i a1 a2 a3 a4 a5 a6) (hP : lwQ g i P) : kY kx288 xs (d + 40) 288 944 (lwL i) [] (kmm I J rf g) P := by
  obtain ⟨k1, k2, k3, k4, k5, k6⟩ := hk
  obtain ⟨I1, b2, b3⟩ := sp129 (xs := xs) (J := J) (g := g) h.c.m.h.b 
  have q1 : ∀ R, kX xs (d + 39) 129 0 [some (.ref 0), none, none, none, none] [] (kmm I J rf g) R = R (some (.int ((aHeavy A.r A.M.H.s)))) (kmm I1 J rf g) := fun R => b3 (d + 35) R
  have h1 := h.cq b2
  obtain ⟨I2, c2, c3⟩ := sp245 (xs := xs) (J := J) (rf := rf) (g := g) h1.m.m.h.b 
  have q2 : ∀ R, kX xs (d + 39) 245 0 [some (.ref 185), none, none] [] (kmm I1 J rf g) R = R (some (.int ((aHeavy A.r A.M.H.s)))) (kmm I2 J rf g) := fun R => c3 (d + 35) R
  rw [Y288_944, krecv_m ks0, kcond_t, q1, kpush_s, Y288_948, krecv_m ks185, kcond_t, q2, kpush_s, Y288_952, if_pos rfl, Y288_1519]
  exact hP _ _ _ _ (h1.mq c2)
/-- opcode 23 -/
theorem st_23 (h : wAl I J rf A) (hk : lwK xs i a1 a2 a3 a4 a5 a6) (hP : lwQ g i P) : kY kx288 xs (d + 40) 288 957 (lwL i) [] (kmm I J rf g) P := by
  obtain ⟨k1, k2, k3, k4, k5, k6⟩ := hk
  obtain ⟨I1, b2, b3⟩ := sp125 (xs := xs) (J := J) (g := g) h.c.m.h.b a1
  have q1 : ∀ R, kX xs (d + 39) 125 0 [some (.ref 0), some (.int a1)] [] (kmm I J rf g) R = R (some (.int ((aBack A.r A.M.H.s a1)))) (kmm I1 J rf g) := fun R => b3 (d + 33) R
  have h1 := h.cq b2
  obtain ⟨I2, c2, c3⟩ := sp247 (xs := xs) (J := J) (rf := rf) (g := g) h1.m.m.h.b a1
  have q2 : ∀ R, kX xs (d + 39) 247 0 [some (.ref 185), some (.int a1), none, none, none] [] (kmm I1 J rf g) R = R (some (.int ((aBack A.r A.M.H.s a1)))) (kmm I2 J rf g) := fun R => c3 (d + 33) R
  rw [Y288_957, k1, kO_s, krecv_m ks0, kcond_t, q1, kpush_s, Y288_967, k1, kO_s, krecv_m ks185, kcond_t, q2, kpush_s, Y288_977, if_pos rfl, Y288_1519]
  exact hP _ _ _ _ (h1.mq c2)
/-- opcode 24 -/
theorem st_24 (h : wAl I J rf A) (hk : lwK xs i a1 a2 a3 a4 a5 a6) (hP : lwQ g i P) : kY kx288 xs (d + 40) 288 982 (lwL i) [] (kmm I J rf g) P := by
  obtain ⟨k1, k2, k3, k4, k5, k6⟩ := hk
  obtain ⟨I1, b2, b3⟩ := sp126 (xs := xs) (J := J) (g := g) h.c.m.h.b a1
  have q1 : ∀ R, kX xs (d + 39) 126 0 [some (.ref 0), some (.int a1)] [] (kmm I J rf g) R = R (some (.int ((aLoops A.r A.M.H.s a1)))) (kmm I1 J rf g) := fun R => b3 (d + 33) R
  have h1 := h.cq b2
  obtain ⟨I2, c2, c3⟩ := sp248 (xs := xs) (J := J) (rf := rf) (g := g) h1.m.m.h.b a1
  have q2 : ∀ R, kX xs (d + 39) 248 0 [some (.ref 185), some (.int a1), none, none, none, none] [] (kmm I1 J rf g) R = R (some (.int ((aLoops A.r A.M.H.s a1)))) (kmm I2 J rf g) := fun R => c3 (d + 33) R
  rw [Y288_982, k1, kO_s, krecv_m ks0, kcond_t, q1, kpush_s, Y288_992, k1, kO_s, krecv_m ks185, kcond_t, q2, kpush_s, Y288_1002, if_pos rfl, Y288_1519]
  exact hP _ _ _ _ (h1.mq c2)
/-- opcode 25 -/
theorem st_25 (h : wAl I J rf A) (hk : lwK xs i a1 a2 a3 a4 a5 a6) (hP : lwQ g i P) : kY kx288 xs (d + 40) 288 1007 (lwL i) [] (kmm I J rf g) P := by
  obtain ⟨k1, k2, k3, k4, k5, k6⟩ := hk
  have q1 : ∀ R, kX xs (d + 39) 135 0 [some (.ref 0), none, none] [] (kmm I J rf g) R = R (some (.int ((aUneven A.r A.M.H.s)))) (kmm I J rf g) := fun R => sp135 (d := d + 37) h.c.m.h.b 
  have h1 := h
  obtain ⟨I2, c2, c3⟩ := sp250 (xs := xs) (J := J) (rf := rf) (g := g) h1.m.m.h.b 
  have q2 : ∀ R, kX xs (d + 39) 250 0 [some (.ref 185), none, none, none, none] [] (kmm I J rf g) R = R (some (.int ((aUneven A.r A.M.H.s)))) (kmm I2 J rf g) := fun R => c3 (d + 38) R
  rw [Y288_1007, krecv_m ks0, kcond_t, q1, kpush_s, Y288_1011, krecv_m ks185, kcond_t, q2, kpush_s, Y288_1015, if_pos rfl, Y288_1519]
  exact hP _ _ _ _ (h1.mq c2)
/-- opcode 26 -/
theorem st_26 (h : wAl I J rf A) (hk : lwK xs i a1 a2 a3 a4 a5 a6) (hP : lwQ g i P) : kY kx288 xs (d + 40) 288 1020 (lwL i) [] (kmm I J rf g) P := by
  obtain ⟨k1, k2, k3, k4, k5, k6⟩ := hk
  have q1 : ∀ R, kX xs (d + 39) 136 0 [some (.ref 0), none, none, none, none] [] (kmm I J rf g) R = R (some (.int ((aLucky A.r A.M.H.s)))) (kmm I J rf g) := fun R => sp136 (d := d + 39) h.c.m.h.b 
  have h1 := h
  obtain ⟨I2, c2, c3⟩ := sp252 (xs := xs) (J := J) (rf := rf) (g := g) h1.m.m.h.b 
  have q2 : ∀ R, kX xs (d + 39) 252 0 [some (.ref 185), none, none] [] (kmm I J rf g) R = R (some (.int ((aLucky A.r A.M.H.s)))) (kmm I2 J rf g) := fun R => c3 (d + 37) R
  rw [Y288_1020, krecv_m ks0, kcond_t, q1, kpush_s, Y288_1024, krecv_m ks185, kcond_t, q2, kpush_s, Y288_1028, if_pos rfl, Y288_1519]
  exact hP _ _ _ _ (h1.mq c2)
/-- opcode 28 -/
theorem st_28 (h : wAl I J rf A) (hk : lwK xs i a1 a2 a3 a4 a5 a6) (hP : lwQ g i P) : kY kx288 xs (d + 40) 288 1098 (lwL i) [] (kmm I J rf g) P := by
  obtain ⟨k1, k2, k3, k4, k5, k6⟩ := hk
  obtain ⟨I1, b2, b3⟩ := sp138 (xs := xs) (J := J) (g := g) h.c.m 
  have q1 : ∀ R, kX xs (d + 39) 138 0 [some (.ref 0), none, none, none] [] (kmm I J rf g) R = R (some (.int ((aShifts A.r A.M.H.s A.M.z)))) (kmm I1 J rf g) := fun R => b3 (d + 34) R
  have h1 := h.cq b2
  obtain ⟨I2, c2, c3⟩ := sp257 (xs := xs) (J := J) (rf := rf) (g := g) h1.m.m 
  have q2 : ∀ R, kX xs (d + 39) 257 0 [some (.ref 185)] [] (kmm I1 J rf g) R = R (some (.int ((aShifts A.r A.M.H.s A.M.z)))) (kmm I2 J rf g) := fun R => c3 (d + 34) R
  rw [Y288_1098, krecv_m ks0, kcond_t, q1, kpush_s, Y288_1102, krecv_m ks185, kcond_t, q2, kpush_s, Y288_1106, if_pos rfl, Y288_1519]
  exact hP _ _ _ _ (h1.mq c2)
/-- opcode 29 -/
theorem st_29 (h : wAl I J rf A) (hk : lwK xs i a1 a2 a3 a4 a5 a6) (hP : lwQ g i P) : kY kx288 xs (d + 40) 288 1111 (lwL i) [] (kmm I J rf g) P := by
  obtain ⟨k1, k2, k3, k4, k5, k6⟩ := hk
  obtain ⟨I1, b2, b3⟩ := sp140 (xs := xs) (J := J) (g := g) h.c.m 
  have q1 : ∀ R, kX xs (d + 39) 140 0 [some (.ref 0), none, none, none, none, none, none, none] [] (kmm I J rf g) R = R (some (.int ((aAsk A.r A.M.H.s A.M.z)))) (kmm I1 J rf g) := fun R => b3 (d + 33) R
  have h1 := h.cq b2
  obtain ⟨I2, c2, c3⟩ := sp258 (xs := xs) (J := J) (rf := rf) (g := g) h1.m.m 
  have q2 : ∀ R, kX xs (d + 39) 258 0 [some (.ref 185), none, none, none, none, none, none, none, none, none] [] (kmm I1 J rf g) R = R (some (.int ((aAsk A.r A.M.H.s A.M.z)))) (kmm I2 J rf g) := fun R => c3 (d + 34) R
  rw [Y288_1111, krecv_m ks0, kcond_t, q1, kpush_s, Y288_1115, krecv_m ks185, kcond_t, q2, kpush_s, Y288_1119, if_pos rfl, Y288_1519]
  exact hP _ _ _ _ (h1.mq c2)
/-- opcode 30 -/
theorem st_30 (h : wAl I J rf A) (hk : lwK xs i a1 a2 a3 a4 a5 a6) (hP : lwQ g i P) : kY kx288 xs (d + 40) 288 1124 (lwL i) [] (kmm I J rf g) P := by
  obtain ⟨k1, k2, k3, k4, k5, k6⟩ := hk
  obtain ⟨I1, b2, b3⟩ := sp127 (xs := xs) (J := J) (g := g) h.c.m.h.b a1
  have q1 : ∀ R, kX xs (d + 39) 127 0 [some (.ref 0), some (.int a1)] [] (kmm I J rf g) R = R (some (.int ((aStrange A.r A.M.H.s a1)))) (kmm I1 J rf g) := fun R => b3 (d + 35) R
  have h1 := h.cq b2
  obtain ⟨I2, c2, c3⟩ := sp249 (xs := xs) (J := J) (rf := rf) (g := g) h1.m.m.h.b a1
  have q2 : ∀ R, kX xs (d + 39) 249 0 [some (.ref 185), some (.int a1), none, none, none, none] [] (kmm I1 J rf g) R = R (some (.int ((aStrange A.r A.M.H.s a1)))) (kmm I2 J rf g) := fun R => c3 (d + 37) R
  rw [Y288_1124, k1, kO_s, krecv_m ks0, kcond_t, q1, kpush_s, Y288_1134, k1, kO_s, krecv_m ks185, kcond_t, q2, kpush_s, Y288_1144, if_pos rfl, Y288_1519]
  exact hP _ _ _ _ (h1.mq c2)
/-- opcode 31 -/
theorem st_31 (h : wAl I J rf A) (hk : lwK xs i a1 a2 a3 a4 a5 a6) (hP : lwQ g i P) : kY kx288 xs (d + 40) 288 1149 (lwL i) [] (kmm I J rf g) P := by
  obtain ⟨k1, k2, k3, k4, k5, k6⟩ := hk
  obtain ⟨I1, b2, b3⟩ := sp142 (xs := xs) (J := J) (g := g) h.c.m.h.b 
  have q1 : ∀ R, kX xs (d + 39) 142 0 [some (.ref 0), none, none, none, none, none] [] (kmm I J rf g) R = R (some (.int ((aSwap A.r A.M.H.s)))) (kmm I1 J rf g) := fun R => b3 (d + 34) R
  have h1 := h.cq b2
  obtain ⟨I2, c2, c3⟩ := sp261 (xs := xs) (J := J) (rf := rf) (g := g) h1.m.m.h.b 
  have q2 : ∀ R, kX xs (d + 39) 261 0 [some (.ref 185), none, none, none, none, none] [] (kmm I1 J rf g) R = R (some (.int ((aSwap A.r A.M.H.s)))) (kmm I2 J rf g) := fun R => c3 (d + 34) R
  rw [Y288_1149, krecv_m ks0, kcond_t, q1, kpush_s, Y288_1153, krecv_m ks185, kcond_t, q2, kpush_s, Y288_1157, if_pos rfl, Y288_1519]
  exact hP _ _ _ _ (h1.mq c2)
/-- opcode 32 -/
theorem st_32 (h : wAl I J rf A) (hk : lwK xs i a1 a2 a3 a4 a5 a6) (hP : lwQ g i P) : kY kx288 xs (d + 40) 288 1162 (lwL i) [] (kmm I J rf g) P := by
  obtain ⟨k1, k2, k3, k4, k5, k6⟩ := hk
  have q1 : ∀ R, kX xs (d + 39) 144 0 [some (.ref 0), none, none, none, none, none] [] (kmm I J rf g) R = R (some (.int ((aHarsh A.r A.M.H.s)))) (kmm I J rf g) := fun R => sp144 (d := d + 36) h.c.m.h.b 
  have h1 := h
  obtain ⟨I2, c2, c3⟩ := sp263 (xs := xs) (J := J) (rf := rf) (g := g) h1.m.m.h.b 
  have q2 : ∀ R, kX xs (d + 39) 263 0 [some (.ref 185), none, none] [] (kmm I J rf g) R = R (some (.int ((aHarsh A.r A.M.H.s)))) (kmm I2 J rf g) := fun R => c3 (d + 36) R
  rw [Y288_1162, krecv_m ks0, kcond_t, q1, kpush_s, Y288_1166, krecv_m ks185, kcond_t, q2, kpush_s, Y288_1170, if_pos rfl, Y288_1519]
  exact hP _ _ _ _ (h1.mq c2)
/-- opcode 33 -/
theorem st_33 (h : wAl I J rf A) (hk : lwK xs i a1 a2 a3 a4 a5 a6) (hP : lwQ g i P) : kY kx288 xs (d + 40) 288 1175 (lwL i) [] (kmm I J rf g) P := by
  obtain ⟨k1, k2, k3, k4, k5, k6⟩ := hk
  have q1 : ∀ R, kX xs (d + 39) 128 0 [some (.ref 0), some (.int a1), none, none] [] (kmm I J rf g) R = R (some (.int ((aCrowd A.r A.M.H.s a1)))) (kmm I J rf g) := fun R => sp128 (d := d + 37) h.c.m.h.b a1
  have h1 := h
  obtain ⟨I2, c2, c3⟩ := sp264 (xs := xs) (J := J) (rf := rf) (g := g) h1.m.m.h.b a1
  have q2 : ∀ R, kX xs (d + 39) 264 0 [some (.ref 185), some (.int a1), none, none] [] (kmm I J rf g) R = R (some (.int ((aCrowd A.r A.M.H.s a1)))) (kmm I2 J rf g) := fun R => c3 (d + 37) R
  rw [Y288_1175, k1, kO_s, krecv_m ks0, kcond_t, q1, kpush_s, Y288_1185, k1, kO_s, krecv_m ks185, kcond_t, q2, kpush_s, Y288_1195, if_pos rfl, Y288_1519]
  exact hP _ _ _ _ (h1.mq c2)
/-- opcode 34 -/
theorem st_34 (h : wAl I J rf A) (hk : lwK xs i a1 a2 a3 a4 a5 a6) (hP : lwQ g i P) : kY kx288 xs (d + 40) 288 1200 (lwL i) [] (kmm I J rf g) P := by
  obtain ⟨k1, k2, k3, k4, k5, k6⟩ := hk
  obtain ⟨I1, b2, b3⟩ := sp146 (xs := xs) (J := J) (g := g) h.c.m.h.b 
  have q1 : ∀ R, kX xs (d + 39) 146 0 [some (.ref 0), none, none, none] [] (kmm I J rf g) R = R (some (.int ((aIdle A.r A.M.H.s)))) (kmm I1 J rf g) := fun R => b3 (d + 35) R
  have h1 := h.cq b2
  obtain ⟨I2, c2, c3⟩ := sp265 (xs := xs) (J := J) (rf := rf) (g := g) h1.m.m.h.b 
  have q2 : ∀ R, kX xs (d + 39) 265 0 [some (.ref 185), none, none, none, none] [] (kmm I1 J rf g) R = R (some (.int ((aIdle A.r A.M.H.s)))) (kmm I2 J rf g) := fun R => c3 (d + 37) R
  rw [Y288_1200, krecv_m ks0, kcond_t, q1, kpush_s, Y288_1204, krecv_m ks185, kcond_t, q2, kpush_s, Y288_1208, if_pos rfl, Y288_1519]
  exact hP _ _ _ _ (h1.mq c2)
/-- opcode 35 -/
theorem st_35 (h : wAl I J rf A) (hk : lwK xs i a1 a2 a3 a4 a5 a6) (hP : lwQ g i P) : kY kx288 xs (d + 40) 288 1213 (lwL i) [] (kmm I J rf g) P := by
  obtain ⟨k1, k2, k3, k4, k5, k6⟩ := hk
  have q1 : ∀ R, kX xs (d + 39) 145 0 [some (.ref 0), some (.int a1), none, none, none, none] [] (kmm I J rf g) R = R (some (.int ((aMercy A.r A.M.H.s a1)))) (kmm I J rf g) := fun R => sp145 (d := d + 36) h.c.m.h.b a1
  have h1 := h
  obtain ⟨I2, c2, c3⟩ := sp266 (xs := xs) (J := J) (rf := rf) (g := g) h1.m.m.h.b a1
  have q2 : ∀ R, kX xs (d + 39) 266 0 [some (.ref 185), some (.int a1), none, none] [] (kmm I J rf g) R = R (some (.int ((aMercy A.r A.M.H.s a1)))) (kmm I2 J rf g) := fun R => c3 (d + 37) R
  rw [Y288_1213, k1, kO_s, krecv_m ks0, kcond_t, q1, kpush_s, Y288_1223, k1, kO_s, krecv_m ks185, kcond_t, q2, kpush_s, Y288_1233, if_pos rfl, Y288_1519]
  exact hP _ _ _ _ (h1.mq c2)
/-- opcode 36 -/
theorem st_36 (h : wAl I J rf A) (hk : lwK xs i a1 a2 a3 a4 a5 a6) (hP : lwQ g i P) : kY kx288 xs (d + 40) 288 1238 (lwL i) [] (kmm I J rf g) P := by
  obtain ⟨k1, k2, k3, k4, k5, k6⟩ := hk
  obtain ⟨I1, b2, b3⟩ := sp134 (xs := xs) (J := J) (g := g) h.c.m.h.b 
  have q1 : ∀ R, kX xs (d + 39) 134 0 [some (.ref 0), none, none] [] (kmm I J rf g) R = R (some (.int ((aSpared A.r A.M.H.s)))) (kmm I1 J rf g) := fun R => b3 (d + 34) R
  have h1 := h.cq b2
  obtain ⟨I2, c2, c3⟩ := sp240 (xs := xs) (J := J) (rf := rf) (g := g) h1.m.m.h.b 
  have q2 : ∀ R, kX xs (d + 39) 240 0 [some (.ref 185), none, none, none] [] (kmm I1 J rf g) R = R (some (.int ((aSpared A.r A.M.H.s)))) (kmm I2 J rf g) := fun R => c3 (d + 33) R
  rw [Y288_1238, krecv_m ks0, kcond_t, q1, kpush_s, Y288_1242, krecv_m ks185, kcond_t, q2, kpush_s, Y288_1246, if_pos rfl, Y288_1519]
  exact hP _ _ _ _ (h1.mq c2)
/-- opcode 37 -/
theorem st_37 (h : wAl I J rf A) (hk : lwK xs i a1 a2 a3 a4 a5 a6) (hP : lwQ g i P) : kY kx288 xs (d + 40) 288 1251 (lwL i) [] (kmm I J rf g) P := by
  obtain ⟨k1, k2, k3, k4, k5, k6⟩ := hk
  obtain ⟨I1, b2, b3⟩ := sp141 (xs := xs) (J := J) (g := g) h.c.m.h.b a1 a2 a3
  have q1 : ∀ R, kX xs (d + 39) 141 0 [some (.ref 0), some (.int a1), some (.int a2), some (.int a3), none, none, none] [] (kmm I J rf g) R = R (some (.int ((aChance A.r A.M.H.s a1 a2 a3)))) (kmm I1 J rf g) := fun R => b3 (d + 33) R
  have h1 := h.cq b2
  obtain ⟨I2, c2, c3⟩ := sp259 (xs := xs) (J := J) (rf := rf) (g := g) h1.m.m.h.b a1 a2 a3
  have q2 : ∀ R, kX xs (d + 39) 259 0 [some (.ref 185), some (.int a1), some (.int a2), some (.int a3), none, none, none] [] (kmm I1 J rf g) R = R (some (.int ((aChance A.r A.M.H.s a1 a2 a3)))) (kmm I2 J rf g) := fun R => c3 (d + 32) R
  rw [Y288_1251, k1, kO_s, k2, kO_s, k3, kO_s, krecv_m ks0, kcond_t, q1, kpush_s, Y288_1273, k1, kO_s, k2, kO_s, k3, kO_s, krecv_m ks185, kcond_t, q2, kpush_s, Y288_1295, if_pos rfl, Y288_1519]
  exact hP _ _ _ _ (h1.mq c2)
/-- opcode 39 -/
theorem st_39 (h : wAl I J rf A) (hk : lwK xs i a1 a2 a3 a4 a5 a6) (hP : lwQ g i P) : kY kx288 xs (d + 40) 288 1392 (lwL i) [] (kmm I J rf g) P := by
  obtain ⟨k1, k2, k3, k4, k5, k6⟩ := hk
  obtain ⟨I1, b2, b3⟩ := sp150 (xs := xs) (J := J) (g := g) h.c.m.h.b a1 a2 a3
  have q1 : ∀ R, kX xs (d + 39) 150 0 [some (.ref 0), some (.int a1), some (.int a2), some (.int a3), none] [] (kmm I J rf g) R = R (some (.int ((aTerms A.r A.M.H.s a1 a2 a3)))) (kmm I1 J rf g) := fun R => b3 (d + 34) R
  have h1 := h.cq b2
  obtain ⟨I2, t, c2, c3⟩ := sp271 (xs := xs) (J := J) (rf := rf) (g := g) h1.m.m.h.b a1 a2 a3
  have q2 : ∀ R, kX xs (d + 39) 271 0 [some (.ref 185), some (.int a1), some (.int a2), some (.int a3), none, none, none] [] (kmm I1 J rf g) R = R (some (.int ((aTerms A.r A.M.H.s a1 a2 a3)))) (kmm I2 (ku J 185 33 t) rf g) := fun R => c3 (d + 35) R
  rw [Y288_1392, k1, kO_s, k2, kO_s, k3, kO_s, krecv_m ks0, kcond_t, q1, kpush_s, Y288_1414, k1, kO_s, k2, kO_s, k3, kO_s, krecv_m ks185, kcond_t, q2, kpush_s, Y288_1436, if_pos rfl, Y288_1519]
  exact hP _ _ _ _ ((h1.mq c2).j t)
end WC
