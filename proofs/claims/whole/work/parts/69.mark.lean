/-! mark, count -/
def kug {α : Type} (f : Nat → α) (k : Nat) (x : α) : Nat → α := fun i => if i = k then x else f i
theorem kug_s {α : Type} (f : Nat → α) (k : Nat) (x : α) : kug f k x k = x := by simp [kug]
theorem kug_n {α : Type} {f : Nat → α} {k j : Nat} {x : α} (h : j ≠ k) : kug f k x j = f j := by simp [kug, h]
def mMark (M : aM) (x w : Int32) : aM := if kidx x (nI 4) = 0 then M else if w = 0 then aM.mk M.H M.z (kub M.on x.toNatClampNeg true) (kug M.ms x.toNatClampNeg M.H.s) (kug M.mz x.toNatClampNeg M.z) else if M.on x.toNatClampNeg = true then aM.mk (aH.mk (M.ms x.toNatClampNeg) 0 M.H.ps) (M.mz x.toNatClampNeg) M.on M.ms M.mz else M
def aMark (M : aM) (x w : Int32) : Int32 := if kidx x (nI 4) = 0 then 0 else if w = 0 then 1 else if M.on x.toNatClampNeg = true then 1 else 0
def aCount (r : aRl) (M : aM) (tn tl : Nat) (x : Int32) : Int32 := if x = 0 then nI r.nj else if x = 1 then nI r.nc else if x = 2 then nI M.H.s.nx else if x = 3 then M.H.s.rd else if x = 4 then nI (grf M.H.s) else if x = 5 then aDay r M.H.s else if x = 6 then nI tn else if x = 7 then nI M.z.n else if x = 8 then nI M.H.pn else if x = 9 then nI tl else -1
section MK
variable {xs : List Int32} {d : Nat} {I I' I2 : Nat → Nat → Int32} {J : Nat → Nat → Int64} {rf : Nat → Nat} {g : Nat} {R : Option Value → KW → Prop} {r : aRl} {s u : aSt} {b : Nat} {H : aH} {M : aM} {z : aSn}
/-- Seen.copyOf -/
theorem sp62e {a b G : Nat} (ha : kshp a = some (.inl 7)) (hb : kshp b = some (.inl 7)) (hab : a ≠ b) (hz : cSn I b G z) : ∃ I', cSn I' a G z ∧ (∀ x k, x < a ∨ a + 2 < x → I' x k = I x k) ∧ ∀ d R, kX xs (d + 1) 62 0 [some (.ref a), some (.ref b)] [] (kmm I J rf g) R = R none (kmm I' J rf g) := by
  have h1 := kad7 ha
  have h2 := kad7 hb
  have hn8 := hz.nl
  obtain ⟨p1, p2⟩ := kar7 ha
  obtain ⟨q1, q2⟩ := kar7 hb
  have e8 : 8 < 2147483648 := by omega
  have l8 : 8 ≤ 8 := by omega
  have cpn : ∀ (I : Nat → Nat → Int32) (x y n u k : Nat), u ≠ y → kcp I x y n u k = I u k := fun I x y n u k hu => if_neg (fun q => hu q.1)
  have cps : ∀ (I : Nat → Nat → Int32) (x y n k : Nat), k < n → kcp I x y n y k = I x k := fun I x y n k hk => if_pos ⟨rfl, hk⟩
  refine ⟨kcp (kcp (ku (ku I a 0 (I b 0)) a 3 (ku I a 0 (I b 0) b 3)) (b + 1) (a + 1) 8) (b + 2) (a + 2) 8, ⟨?_, hz.nl, fun k hk => ?_, fun k hk => ?_, ?_, hz.gl, hz.gb⟩, fun x k hx => ?_, fun d R => ?_⟩
  · rw [cpn _ _ _ _ _ _ (by omega), cpn _ _ _ _ _ _ (by omega), ku_nek (by omega), ku_same, hz.n]
  · rw [cpn _ _ _ _ _ _ (by omega), cps _ _ _ _ _ (by omega), ku_nea (by omega), ku_nea (by omega), hz.c k hk]
  · rw [cps _ _ _ _ _ (by omega), cpn _ _ _ _ _ _ (by omega), ku_nea (by omega), ku_nea (by omega), hz.j k hk]
  · rw [cpn _ _ _ _ _ _ (by omega), cpn _ _ _ _ _ _ (by omega), ku_same, ku_nea (by omega), hz.gt]
  · rw [cpn _ _ _ _ _ _ (by omega), cpn _ _ _ _ _ _ (by omega), ku_nea (by omega), ku_nea (by omega)]
  · simp only [B62_0, B62_46, kg7_0 hb, kp7_0 ha, kg7_3 hb, kp7_3 ha, kg7_1 ha, kg7_1 hb, kg7_2 ha, kg7_2 hb, kO_s, and_self, if_true, c8_8, kcopy_m q1 p1 l8 l8 e8, kcopy_m q2 p2 l8 l8 e8]
theorem kmkm {m : Nat} (h : m < 4) : kshp (153 + 8 * m) = some (.inl 9) ∧ kshp (158 + 8 * m) = some (.inl 7) := by
  rcases (by omega : m = 0 ∨ m = 1 ∨ m = 2 ∨ m = 3) with rfl | rfl | rfl | rfl <;> exact ⟨rfl, rfl⟩
theorem krf150 (rf : Nat → Nat) (m : Nat) : krf rf 150 m = 153 + 8 * m := rfl
theorem krf151 (rf : Nat → Nat) (m : Nat) : krf rf 151 m = 158 + 8 * m := rfl
theorem mMark_v (vz : vMk r M) (vs : vSt r M.H.s) (x w : Int32) : vMk r (mMark M x w) := by
  unfold mMark
  by_cases h0 : kidx x (nI 4) = 0
  · rw [if_pos h0]; exact vz
  · rw [if_neg h0]
    by_cases hw : w = 0
    · rw [if_pos hw]
      refine ⟨vz.z, fun m hm ho => ?_, fun m hm ho => ?_⟩
      · show vSt r (kug M.ms x.toNatClampNeg M.H.s m)
        by_cases e : m = x.toNatClampNeg
        · rw [e, kug_s]; exact vs
        · have ho' : kub M.on x.toNatClampNeg true m = true := ho
          rw [kub_n e] at ho'
          rw [kug_n e]; exact vz.s m hm ho'
      · show vSn r (kug M.mz x.toNatClampNeg M.z m)
        by_cases e : m = x.toNatClampNeg
        · rw [e, kug_s]; exact vz.z
        · have ho' : kub M.on x.toNatClampNeg true m = true := ho
          rw [kub_n e] at ho'
          rw [kug_n e]; exact vz.k m hm ho'
    · rw [if_neg hw]
      by_cases ho : M.on x.toNatClampNeg = true
      · rw [if_pos ho]
        rcases kidx_c x (show 4 < 2147483648 by omega) with ⟨m, hm, rfl⟩ | h1
        · rw [nI_clamp (by omega)] at ho ⊢
          exact ⟨vz.k m hm ho, vz.s, vz.k⟩
        · exact absurd h1 h0
      · rw [if_neg ho]; exact vz
/-- mark -/
theorem sp115 (h : cM I rf r M) (x w : Int32) : ∃ I', cM I' rf r (mMark M x w) ∧ cN I I' ∧ ∀ d R, kX xs (d + 2) 115 0 [some (.ref 0), some (.int x), some (.int w)] [] (kmm I J rf g) R = R (some (.int (aMark M x w))) (kmm I' J rf g) := by
  have hv := mMark_v h.v h.h.b.vs x w
  have ht := h.h.b.t
  have ha := kad6 ht
  have vr := h.h.b.vr
  obtain ⟨G, hz⟩ := h.z
  obtain ⟨top, hp⟩ := h.h.p
  have hst := h.h.b.st
  revert hv
  unfold mMark aMark
  rcases kidx_c x (show 4 < 2147483648 by omega) with ⟨m, hm, rfl⟩ | h0
  · have hk := kidx_in hm (show 4 < 2147483648 by omega)
    obtain ⟨m9, m7⟩ := kmkm hm
    simp only [hk, i10, if_false]
    rw [nI_clamp (by omega)]
    have ent : ∀ d R, kX xs (d + 2) 115 0 [some (.ref 0), some (.int (nI m)), some (.int w)] [] (kmm I J rf g) R = kX xs (d + 2) 115 11 [some (.ref 0), some (.int (nI m)), some (.int w)] [] (kmm I J rf g) R := by
      intro d R
      have hw3 : kwithin (nI m) 0 3 = 1 := kwithin_in (n := 3) (show m ≤ 3 by omega) (by omega)
      rw [B115_0, sp154, hw3, kpush_s, B115_6, if_neg (by decide)]
    by_cases hw : w = 0
    · rw [if_pos hw, if_pos hw]
      intro hv
      obtain ⟨I1, s1, f1, e1⟩ := sp87e (xs := xs) (J := J) (rf := rf) (g := g) m9 ks39 (by omega) hst
      have hz1 : cSn I1 147 G M.z := hz.keep (fun x k _ _ => f1 x k (by omega))
      obtain ⟨I2, z2, f2, e2⟩ := sp62e (xs := xs) (J := J) (rf := rf) (g := g) m7 ks147 (by omega) hz1
      have F : ∀ x k, x < 152 ∨ 184 < x → ku I2 152 m (nI 1) x k = I x k := fun x k hx => by rw [ku_nea (by omega), f2 x k (by omega), f1 x k (by omega)]
      refine ⟨ku I2 152 m (nI 1), ⟨⟨⟨ht, vr, h.h.b.vs, h.h.b.rl.keep (fun x k _ _ => F x k (by omega)), hst.keep (fun x k _ _ => F x k (by omega))⟩, ⟨top, hp.keep (fun x k _ _ => F x k (by omega))⟩, h.h.v⟩, ⟨G, hz.keep (fun x k _ _ => F x k (by omega))⟩, fun i hi => ?_, fun i hi ho => ?_, fun i hi ho => ?_, hv⟩, fun x k h1 h2 h3 h4 => F x k (by omega), fun d R => ?_⟩
      · show _ = nI (bN (kub M.on m true i))
        by_cases e : i = m
        · rw [e, ku_same, kub_s]; rfl
        · rw [ku_nek e, kub_n e, f2 _ _ (by omega), f1 _ _ (by omega)]; exact h.o i hi
      · show cSt _ _ (kug M.ms m M.H.s i)
        have ho' : kub M.on m true i = true := ho
        by_cases e : i = m
        · rw [e, kug_s]
          exact s1.keep (fun x k _ _ => by rw [ku_nea (by omega), f2 x k (by omega)])
        · rw [kub_n e] at ho'
          rw [kug_n e]
          exact (h.s i hi ho').keep (fun x k _ _ => by rw [ku_nea (by omega), f2 x k (by omega), f1 x k (by omega)])
      · have ho' : kub M.on m true i = true := ho
        by_cases e : i = m
        · refine ⟨G, ?_⟩
          show cSn _ _ _ (kug M.mz m M.z i)
          rw [e, kug_s]
          exact z2.keep (fun x k _ _ => by rw [ku_nea (by omega)])
        · rw [kub_n e] at ho'
          obtain ⟨G2, hk2⟩ := h.k i hi ho'
          refine ⟨G2, ?_⟩
          show cSn _ _ _ (kug M.mz m M.z i)
          rw [kug_n e]
          exact hk2.keep (fun x k _ _ => by rw [ku_nea (by omega), f2 x k (by omega), f1 x k (by omega)])
      · rw [ent, B115_11, if_pos hw, B115_15, kg11_13, kO_s, kr150 hm, kO_s, krf150, kg11_6, kO_s, krecv_m m9, kcond_t, e1, kpush_n, B115_28, kg11_14, kO_s, kr151 hm, kO_s, krf151, kg11_12, kO_s, krecv_m m7, kcond_t, e2, kpush_n, B115_41, kg11_15, kO_s, kv152 hm, kO_s, kvz1, if_pos kz_1]
    · rw [if_neg hw, if_neg hw]
      have ho := h.o m hm
      by_cases hon : M.on m = true
      · rw [if_pos hon, if_pos hon]
        intro hv
        rw [hon] at ho
        obtain ⟨I1, s1, f1, e1⟩ := sp87e (xs := xs) (J := J) (rf := rf) (g := g) ks39 m9 (by omega) (h.s m hm hon)
        obtain ⟨G2, hk2⟩ := h.k m hm hon
        have hz1 : cSn I1 (158 + 8 * m) G2 (M.mz m) := hk2.keep (fun x k _ _ => f1 x k (by omega))
        obtain ⟨I2, z2, f2, e2⟩ := sp62e (xs := xs) (J := J) (rf := rf) (g := g) ks147 m7 (by omega) hz1
        have F : ∀ x k, ¬ (39 ≤ x ∧ x ≤ 43) → ¬ (147 ≤ x ∧ x ≤ 149) → x ≠ 65 → ku I2 65 0 (nI 0) x k = I x k := fun x k _ _ _ => by rw [ku_nea (by omega), f2 x k (by omega), f1 x k (by omega)]
        refine ⟨ku I2 65 0 (nI 0), ⟨⟨⟨ht, vr, h.v.s m hm hon, h.h.b.rl.keep (fun x k _ _ => F x k (by omega) (by omega) (by omega)), s1.keep (fun x k _ _ => by rw [ku_nea (by omega), f2 x k (by omega)])⟩, ⟨top, ⟨ku_same _ _ _ _, by rw [ku_nek (by omega), f2 _ _ (by omega), f1 _ _ (by omega), hp.t], hp.tl, by show 0 ≤ 16; omega, fun k hk => absurd (show k < 0 from hk) (by omega)⟩⟩, fun k hk => absurd (show k < 0 from hk) (by omega)⟩, ⟨G2, z2.keep (fun x k _ _ => by rw [ku_nea (by omega)])⟩, fun i hi => by rw [F _ _ (by omega) (by omega) (by omega)]; exact h.o i hi, fun i hi ho => (h.s i hi ho).keep (fun x k _ _ => F x k (by omega) (by omega) (by omega)), fun i hi ho => ?_, hv⟩, fun x k h1 h2 h3 h4 => F x k (by omega) (by omega) (by omega), fun d R => ?_⟩
        · obtain ⟨G3, hk3⟩ := h.k i hi ho
          exact ⟨G3, hk3.keep (fun x k _ _ => F x k (by omega) (by omega) (by omega))⟩
        · rw [ent, B115_11, if_neg hw, B115_50, kg11_15, kO_s, kb152 hm, kO_s, ho, if_neg (show ¬ nI (bN true) = 0 by decide), B115_61, kg11_6, kO_s, kg11_13, kO_s, kr150 hm, kO_s, krf150, krecv_m ks39, kcond_t, e1, kpush_n, B115_74, kg11_12, kO_s, kg11_14, kO_s, kr151 hm, kO_s, krf151, krecv_m ks147, kcond_t, e2, kpush_n, B115_87, kg11_11, kO_s, kp3_0, kO_s, if_pos kz_1]
          rfl
      · rw [if_neg hon, if_neg hon]
        intro hv
        have hof : M.on m = false := by cases hq : M.on m; · rfl
                                        · exact absurd hq hon
        rw [hof] at ho
        refine ⟨I, h, cN.refl I, fun d R => ?_⟩
        rw [ent, B115_11, if_neg hw, B115_50, kg11_15, kO_s, kb152 hm, kO_s, ho, if_pos (show nI (bN false) = 0 by decide), B115_59, if_pos kz_0]
  · simp only [h0, if_true]
    intro hv
    refine ⟨I, h, cN.refl I, fun d R => ?_⟩
    have hw3 : kwithin x 0 3 = 0 := by
      have := kwi3 x
      rw [h0] at this
      exact this
    rw [B115_0, sp154, hw3, kpush_s, B115_6, if_pos rfl, B115_9, if_pos kz_0]
theorem sp272 (h : mM I r M) (x w : Int32) : ∃ I', mM I' r (mMark M x w) ∧ mN I I' ∧ ∀ d R, kX xs (d + 1) 272 0 [some (.ref 185), some (.int x), some (.int w)] [] (kmm I J rf g) R = R (some (.int (aMark M x w))) (kmm I' J rf g) := by
  have hv := mMark_v h.v h.h.b.vs x w
  have hq := mQ.thr I (nI 0)
  have h' := h.keep hq
  have vr := h.h.b.vr
  have z8 := h.v.z.n
  revert hv
  unfold mMark aMark
  have hqN : ∀ x k, ¬ (x = 185 ∧ k = 0) → ku I 185 0 (nI 0) x k = I x k := fun x k hx => ku_ne hx
  rcases kidx_c x (show 4 < 2147483648 by omega) with ⟨m, hm, rfl⟩ | h0
  · have hk := kidx_in hm (show 4 < 2147483648 by omega)
    simp only [hk, i10, if_false]
    rw [nI_clamp (by omega)]
    have hw3 : kwithin (nI m) 0 3 = 1 := kwithin_in (n := 3) (show m ≤ 3 by omega) (by omega)
    have ent : ∀ d R, kX xs (d + 1) 272 0 [some (.ref 185), some (.int (nI m)), some (.int w)] [] (kmm I J rf g) R = kX xs (d + 1) 272 14 [some (.ref 185), some (.int (nI m)), some (.int w)] [] (kmm (ku I 185 0 (nI 0)) J rf g) R := by
      intro d R
      rw [B272_0, kp12_0, kO_s, sp171, hw3, kpush_s, B272_11, if_neg (by decide)]
      rfl
    by_cases hw : w = 0
    · rw [if_pos hw, if_pos hw]
      intro hv
      obtain ⟨I1, c1, c2, c3⟩ := sp195 (xs := xs) (J := J) (rf := rf) (g := g) (I := ku (ku I 185 0 (nI 0)) 202 m (nI 1)) (fr := 0) (to := 55 * (1 + m)) (n := 55) (by omega) (by omega) (by omega)
      have u24 : I1 185 24 = nI M.H.pn := by rw [c2 _ _ (by omega), ku_nea (by omega), h'.h.p.n]
      have F : ∀ x k, ¬ (x = 201 ∧ 55 * (1 + m) ≤ k ∧ k < 55 * (1 + m) + 55) → ¬ (x = 202) → ku I1 185 24 (nI M.H.pn) x k = ku I 185 0 (nI 0) x k := by
        intro x k h1 h2
        by_cases e : x = 185 ∧ k = 24
        · rw [e.1, e.2, ku_same, h'.h.p.n]
        · rw [ku_ne e, c2 x k h1, ku_nea h2]
      have cc : ∀ i, i < 55 → ku I1 185 24 (nI M.H.pn) 201 (55 * (1 + m) + i) = ku I 185 0 (nI 0) 201 (0 + i) := fun i hi => by rw [ku_nea (by omega), c1 i hi, ku_nea (by omega)]
      refine ⟨ku I1 185 24 (nI M.H.pn), ⟨⟨⟨vr, h.h.b.vs, h'.h.b.rl.keep (fun x k _ _ => F x k (by omega) (by omega)), h'.h.b.st.keep vr (fun k _ _ => F _ k (by omega) (by omega))⟩, h'.h.p.keep vr (F _ _ (by omega) (by omega)) (fun k _ _ => F _ _ (by omega) (by omega)), h.h.v⟩, h'.z.keep z8 (fun k _ _ => F _ _ (by omega) (by omega)), fun i hi => ?_, fun i hi ho => ?_, fun i hi ho => ?_, hv⟩, fun x k h1 h2 h3 h4 => by rw [F x k (by omega) (by omega), ku_ne (by omega)], fun d R => ?_⟩
      · show _ = nI (bN (kub M.on m true i))
        by_cases e : i = m
        · rw [e, ku_nea (by omega), c2 _ _ (by omega), ku_same, kub_s]; rfl
        · rw [ku_nea (by omega), c2 _ _ (by omega), ku_nek e, kub_n e]; exact h'.o i hi
      · show mSt _ _ _ (kug M.ms m M.H.s i)
        have ho' : kub M.on m true i = true := ho
        by_cases e : i = m
        · rw [e, kug_s]
          exact h'.h.b.st.copy vr (fun i hi => cc i (by omega))
        · rw [kub_n e] at ho'
          rw [kug_n e]
          exact (h'.s i hi ho').keep vr (fun k _ _ => F _ k (by omega) (by omega))
      · show mSn _ _ (kug M.mz m M.z i)
        have ho' : kub M.on m true i = true := ho
        by_cases e : i = m
        · rw [e, kug_s]
          exact h'.z.copy z8 cc
        · rw [kub_n e] at ho'
          rw [kug_n e]
          exact (h'.k i hi ho').keep (h.v.k i hi ho').n (fun k _ _ => F _ k (by omega) (by omega))
      · rw [ent, B272_14, if_pos hw, B272_29, kg12_25, kO_s, kv202 hm, kO_s, kvz1, if_pos hw, B272_50, B272_51, if_pos hw, B272_59, c8_55, n_1, nI_add, pk_mul, B272_65, krecv_m ks185, kcond_t, n_0, c8_55, c3, kpush_n, B272_70]
        rw [hw, if_pos rfl, B272_79, kg12_24, kO_s, u24, B272_83, kp12_24, kO_s, ← n_1, if_pos kz_1]
    · rw [if_neg hw, if_neg hw]
      have ho := h'.o m hm
      by_cases hon : M.on m = true
      · rw [if_pos hon, if_pos hon]
        intro hv
        rw [hon] at ho
        obtain ⟨I1, c1, c2, c3⟩ := sp195 (xs := xs) (J := J) (rf := rf) (g := g) (I := ku (ku I 185 0 (nI 0)) 202 m (nI 1)) (fr := 55 * (1 + m)) (to := 0) (n := 55) (by omega) (by omega) (by omega)
        have F : ∀ x k, ¬ (x = 201 ∧ k < 55) → ¬ (x = 185 ∧ k = 24) → ku I1 185 24 (nI 0) x k = ku I 185 0 (nI 0) x k := by
          intro x k h1 h2
          rw [ku_ne h2, c2 x k (by omega)]
          by_cases e : x = 202 ∧ k = m
          · rw [e.1, e.2, ku_same, ho]; rfl
          · rw [ku_ne e]
        have cc : ∀ i, i < 55 → ku I1 185 24 (nI 0) 201 (0 + i) = ku I 185 0 (nI 0) 201 (55 * (1 + m) + i) := fun i hi => by rw [ku_nea (by omega), c1 i hi, ku_nea (by omega)]
        refine ⟨ku I1 185 24 (nI 0), ⟨⟨⟨vr, h.v.s m hm hon, h'.h.b.rl.keep (fun x k _ _ => F x k (by omega) (by omega)), (h'.s m hm hon).copy vr (fun i hi => cc i (by omega))⟩, ⟨ku_same _ _ _ _, by show 0 ≤ 16; omega, fun k hk => absurd (show k < 0 from hk) (by omega)⟩, fun k hk => absurd (show k < 0 from hk) (by omega)⟩, (h'.k m hm hon).copy (h.v.k m hm hon).n cc, fun i hi => by rw [F _ _ (by omega) (by omega)]; exact h'.o i hi, fun i hi ho => (h'.s i hi ho).keep vr (fun k _ _ => F _ k (by omega) (by omega)), fun i hi ho => (h'.k i hi ho).keep (h.v.k i hi ho).n (fun k _ _ => F _ k (by omega) (by omega)), hv⟩, fun x k h1 h2 h3 h4 => by rw [F x k (by omega) (by omega), ku_ne (by omega)], fun d R => ?_⟩
        rw [ent, B272_14, if_neg hw, B272_18, kg12_25, kO_s, kb202 hm, kO_s, ho, if_neg (show ¬ nI (bN true) = 0 by decide), B272_29, kg12_25, kO_s, kv202 hm, kO_s, kvz1, if_neg hw, B272_41, c8_55, n_1, nI_add, pk_mul, B272_51, if_neg hw, B272_55, B272_65, krecv_m ks185, kcond_t, c8_55, show (0 : Int32) = nI 0 from rfl, c3, kpush_n, B272_70]
        rw [if_neg (show ¬ w = 0 from hw), B272_75, B272_83, kp12_24, kO_s, ← n_1, if_pos kz_1]
        rfl
      · rw [if_neg hon, if_neg hon]
        intro hv
        have hof : M.on m = false := by cases hq : M.on m; · rfl
                                        · exact absurd hq hon
        rw [hof] at ho
        refine ⟨_, h', mN.of (mK.of hq), fun d R => ?_⟩
        rw [ent, B272_14, if_neg hw, B272_18, kg12_25, kO_s, kb202 hm, kO_s, ho, if_pos (show nI (bN false) = 0 by decide), B272_27, if_pos kz_0]
  · simp only [h0, if_true]
    intro hv
    refine ⟨_, h', mN.of (mK.of hq), fun d R => ?_⟩
    have hw3 : kwithin x 0 3 = 0 := by
      have := kwi3 x
      rw [h0] at this
      exact this
    rw [B272_0, kp12_0, kO_s, sp171, hw3, kpush_s, B272_11, if_pos rfl, B272_27, if_pos kz_0]
    rfl
/-- count -/
theorem sp109 {tn tl : Nat} (h : cM I rf r M) (h4 : kshp (rf 4) = some (.inl 10)) (hn : I (rf 4) 0 = nI tn) (hl : I 1 0 = nI tl) (x : Int32) : ∃ I', cQ I I' ∧ ∀ d R, kX xs (d + 4) 109 0 [some (.ref 0), some (.int x)] [] (kmm I J rf g) R = R (some (.int (aCount r M tn tl x))) (kmm I' J rf g) := by
  have ht := h.h.b.t
  have vr := h.h.b.vr
  have hb := h.h.b
  obtain ⟨G, hz⟩ := h.z
  obtain ⟨top, hp⟩ := h.h.p
  unfold aCount
  by_cases q0 : x = 0
  · refine ⟨I, cQ.refl I, fun d R => ?_⟩
    rw [B109_0, if_pos q0, if_pos q0, B109_56, kg11_2, kO_s, kg6_0 ht, kO_s, hb.rl.nj]
  by_cases q1 : x = 1
  · refine ⟨I, cQ.refl I, fun d R => ?_⟩
    rw [B109_0, if_neg q0, if_pos q1, if_neg q0, if_pos q1, B109_64, kg11_2, kO_s, kg6_1 ht, kO_s, hb.rl.nc]
  by_cases q2 : x = 2
  · refine ⟨I, cQ.refl I, fun d R => ?_⟩
    rw [B109_0]
    simp only [q0, q1, if_false]
    rw [if_pos q2, if_pos q2, B109_72, kg11_6, kO_s, kg9_0 ks39, kO_s, hb.st.nx]
  by_cases q3 : x = 3
  · refine ⟨I, cQ.refl I, fun d R => ?_⟩
    rw [B109_0]
    simp only [q0, q1, q2, if_false]
    rw [if_pos q3, if_pos q3, B109_80, kg11_6, kO_s, kg9_1 ks39, kO_s, hb.st.rd]
  by_cases q4 : x = 4
  · refine ⟨I, cQ.refl I, fun d R => ?_⟩
    rw [B109_0]
    simp only [q0, q1, q2, q3, if_false]
    rw [if_pos q4, if_pos q4, B109_88, kg11_6, kO_s, krecv_m ks39, kcond_t, sp94 ks39, ksum_n 7 hb.st.hd, kpush_s, B109_95]
    rfl
  by_cases q5 : x = 5
  · obtain ⟨I1, d1, f1, e1⟩ := sp64q (xs := xs) (J := J) (g := g) hb hb.vs.nx
    refine ⟨I1, f1, fun d R => ?_⟩
    rw [B109_0]
    simp only [q0, q1, q2, q3, q4, if_false]
    rw [if_pos q5, if_pos q5, B109_96, kg11_9, kO_s, kg11_2, kO_s, kg11_6, kO_s, kO_s, kg9_0 ks39, kO_s, hb.st.nx, krecv_m ks54, kcond_t, e1, kpush_n, B109_118, kg11_9, kO_s, krecv_m ks54, kcond_t, sp69g vr d1, kpush_s, B109_125]
    rfl
  refine ⟨I, cQ.refl I, fun d R => ?_⟩
  rw [B109_0]
  simp only [q0, q1, q2, q3, q4, q5, if_false]
  by_cases q6 : x = 6
  · rw [if_pos q6, if_pos q6, B109_126, kg11_4, kO_s, kg10_0 h4, kO_s, hn]
  by_cases q7 : x = 7
  · rw [if_neg q6, if_pos q7, if_neg q6, if_pos q7, B109_134, kg11_12, kO_s, kg7_0 ks147, kO_s, hz.n]
  by_cases q8 : x = 8
  · simp only [q6, q7, if_false]
    rw [if_pos q8, if_pos q8, B109_142, kg11_11, kO_s, kg3_0, kO_s, hp.n]
  by_cases q9 : x = 9
  · simp only [q6, q7, q8, if_false]
    rw [if_pos q9, if_pos q9, B109_150, kg11_0, kO_s, kg2_0, kO_s, hl]
  simp only [q6, q7, q8, q9, if_false]
  rw [B109_158]
/-- heardNext -/
theorem sp273 (h : mB I r s) : ∃ I', mQ I I' ∧ ∀ d R, kX xs (d + 2) 273 0 [some (.ref 185), none, none] [] (kmm I J rf g) R = R (some (.int (aDay r s))) (kmm I' J rf g) := by
  obtain ⟨I1, d1, f1, e1⟩ := sp210q (xs := xs) (J := J) (rf := rf) (g := g) h h.vs.nx
  refine ⟨I1, f1, fun d R => ?_⟩
  have hm7 := dM7 h.vr s s.nx
  have en := h.st.nx
  have L := kchain (n := dM r s s.nx) (fun t => kX xs (d + 2) 273 15 [some (.ref 185), some (.int (bw (dH r s s.nx) t)), some (.int (nI t))] [] (kmm I1 J rf g) R) (by
    intro t ht
    show kX xs (d + 2) 273 15 _ _ _ _ = kX xs (d + 2) 273 15 _ _ _ _
    rw [B273_15, kg12_28, kO_s, d1.m, if_pos (nI_lt ht (by omega)), B273_23, kg12_26, kO_s, ka203 (by omega), kO_s, d1.h t ht, nI_add1]
    rfl)
  rw [B273_0, kg12_23, kO_s, n_0, ka201 (by omega), kO_s, en, krecv_m ks185, kcond_t, e1, kpush_n, B273_11]
  refine Eq.trans L ?_
  rw [B273_15, kg12_28, kO_s, d1.m, if_neg (nI_nlt (Nat.le_refl _) (by omega)), B273_40]
  rfl
theorem sp274 {tn tl : Nat} (h : mM I r M) (hn : I 198 0 = nI tn) (hl : I 185 2 = nI tl) (x : Int32) : ∃ I', mQ I I' ∧ ∀ d R, kX xs (d + 3) 274 0 [some (.ref 185), some (.int x)] [] (kmm I J rf g) R = R (some (.int (aCount r M tn tl x))) (kmm I' J rf g) := by
  have hq := mQ.thr I (nI 0)
  have h' := h.keep hq
  have hb := h'.h.b
  have vr := hb.vr
  unfold aCount
  by_cases q5 : x = 5
  · obtain ⟨I1, f1, e1⟩ := sp273 (xs := xs) (J := J) (rf := rf) (g := g) hb
    refine ⟨I1, hq.trans f1, fun d R => ?_⟩
    subst q5
    rw [B274_0, kp12_0, kO_s, if_neg (by decide), if_neg (by decide), if_neg (by decide), if_neg (by decide), if_neg (by decide), if_pos rfl, if_neg (by decide), if_neg (by decide), if_neg (by decide), if_neg (by decide), if_neg (by decide), if_pos rfl, B274_82, krecv_m ks185, kcond_t]
    refine Eq.trans (e1 d _) ?_
    rw [kpush_s, B274_86]
  refine ⟨_, hq, fun d R => ?_⟩
  rw [B274_0, kp12_0, kO_s]
  show _ = R _ (kmm (ku I 185 0 0) J rf g)
  have hz0 : (nI 0 : Int32) = 0 := rfl
  rw [hz0] at h' hb
  have zn := h'.z.n
  have pn := h'.h.p.n
  have hn' : ku I 185 0 0 198 0 = nI tn := by rw [ku_nea (by omega), hn]
  have hl' : ku I 185 0 0 185 2 = nI tl := by rw [ku_nek (by omega), hl]
  by_cases q0 : x = 0
  · rw [if_pos q0, if_pos q0, B274_60, kg12_10, kO_s, q0, n_0, ka191 (by omega), kO_s]
    exact congrArg (fun v => R (some (.int v)) _) hb.rl.nj
  by_cases q1 : x = 1
  · rw [if_neg q0, if_pos q1, if_neg q0, if_pos q1, B274_60, kg12_10, kO_s, q1, n_1, ka191 (by omega), kO_s, hb.rl.nc]
  by_cases q2 : x = 2
  · simp only [q0, q1, if_false]
    rw [if_pos q2, if_pos q2, B274_67, kg12_23, kO_s, q2, show (2 : Int32) - 2 = nI 0 from rfl, ka201 (by omega), kO_s, hb.st.nx]
  by_cases q3 : x = 3
  · simp only [q0, q1, q2, if_false]
    rw [if_pos q3, if_pos q3, B274_67, kg12_23, kO_s, q3, show (3 : Int32) - 2 = nI 1 from rfl, ka201 (by omega), kO_s]
    exact congrArg (fun v => R (some (.int v)) _) hb.st.rd
  by_cases q4 : x = 4
  · simp only [q0, q1, q2, q3, if_false]
    rw [if_pos q4, if_pos q4, B274_76, krecv_m ks185, kcond_t]
    refine Eq.trans (sp211 (b := 0) (by omega) vr hb.vs hb.rl hb.st) ?_
    rw [kpush_s, B274_81]
  simp only [q0, q1, q2, q3, q4, q5, if_false]
  by_cases q6 : x = 6
  · rw [if_pos q6, if_pos q6, B274_87, kg12_20, kO_s, n_0, ka198 (by omega), kO_s]
    exact congrArg (fun v => R (some (.int v)) _) hn'
  by_cases q7 : x = 7
  · rw [if_neg q6, if_pos q7, if_neg q6, if_pos q7, B274_94, kg12_23, kO_s, c8_30, ka201 (by omega), kO_s]
    exact congrArg (fun v => R (some (.int v)) _) zn
  by_cases q8 : x = 8
  · simp only [q6, q7, if_false]
    rw [if_pos q8, if_pos q8, B274_102, kg12_24, kO_s, pn]
  by_cases q9 : x = 9
  · simp only [q6, q7, q8, if_false]
    rw [if_pos q9, if_pos q9, B274_107, kg12_2, kO_s, hl']
  simp only [q6, q7, q8, q9, if_false]
  rw [B274_112]
end MK
