/-! the model's tokens: what stands next -/
def wrdN (w : Nat) : Nat := wrd37.getD w 0
theorem tk3 {T : aTp} {p : Nat} (h : srt (tK T p) = 3) : tV T p = tK T p ∧ tK T p ∈ sgn8 := by
  by_cases h0 : p < T.n
  · by_cases h1 : isL (T.t p) = true
    · exfalso
      unfold tK at h
      rw [if_pos h0, if_pos h1] at h
      by_cases h8 : 8 < wdE T p - p
      · rw [if_pos h8] at h; exact absurd h (by decide)
      · rw [if_neg h8] at h
        have hw : wKd (tV T p) = 3 ∨ 128 ≤ wKd (tV T p) := wIx_2 wrd37 0
        unfold srt at h
        rw [if_neg (by omega), if_neg (by omega), if_neg (by omega), if_pos hw] at h
        omega
    · by_cases h2 : isD (T.t p) = true
      · exfalso
        unfold tK at h
        rw [if_pos h0, if_neg h1, if_pos h2] at h
        by_cases h4 : 4 < dgE T p - p
        · rw [if_pos h4] at h; exact absurd h (by decide)
        · rw [if_neg h4] at h; exact absurd h (by decide)
      · by_cases h3 : isS (T.t p) = true
        · have e1 : tK T p = T.t p := by unfold tK; rw [if_pos h0, if_neg h1, if_neg h2, if_pos h3]
          have e2 : tV T p = T.t p := by unfold tV; rw [if_neg h1, if_neg h2]
          rw [e1, e2]
          exact ⟨rfl, List.contains_iff_mem.mp h3⟩
        · exfalso
          unfold tK at h
          rw [if_pos h0, if_neg h1, if_neg h2, if_neg h3] at h
          exact absurd h (by decide)
  · exfalso
    unfold tK at h
    rw [if_neg h0] at h
    exact absurd h (by decide)
theorem sgn_s {c : Nat} (h : c ∈ sgn8) : srt c = 3 ∧ c < 127 := by
  have key : ∀ c, c ∈ sgn8 → srt c = 3 ∧ c < 127 := by decide
  exact key c h
theorem tk1 {T : aTp} {p : Nat} (h : srt (tK T p) = 1) : tK T p = wKd (tV T p) ∧ vWd (tV T p) := by
  by_cases h0 : p < T.n
  · by_cases h1 : isL (T.t p) = true
    · by_cases h8 : 8 < wdE T p - p
      · exfalso
        unfold tK at h
        rw [if_pos h0, if_pos h1, if_pos h8] at h; exact absurd h (by decide)
      · exact ⟨by unfold tK; rw [if_pos h0, if_pos h1, if_neg h8], tV_w h0 h1⟩
    · exfalso
      unfold tK at h
      rw [if_pos h0, if_neg h1] at h
      by_cases h2 : isD (T.t p) = true
      · rw [if_pos h2] at h
        by_cases h4 : 4 < dgE T p - p
        · rw [if_pos h4] at h; exact absurd h (by decide)
        · rw [if_neg h4] at h; exact absurd h (by decide)
      · rw [if_neg h2] at h
        by_cases h3 : isS (T.t p) = true
        · rw [if_pos h3, (sgn_s (List.contains_iff_mem.mp h3)).1] at h; omega
        · rw [if_neg h3] at h; exact absurd h (by decide)
  · exfalso
    unfold tK at h
    rw [if_neg h0] at h
    exact absurd h (by decide)
theorem wIx_get {v : Nat} : ∀ ws i w, wIx v ws i = 128 + w → i ≤ w ∧ ws[w - i]? = some v := by
  intro ws
  induction ws with
  | nil => intro i w h; have h' : 3 = 128 + w := h; omega
  | cons u ws ih =>
    intro i w h
    rw [wIx] at h
    by_cases q : u = v
    · rw [if_pos q] at h
      have e : w = i := by omega
      rw [e, Nat.sub_self, q]
      exact ⟨Nat.le_refl _, rfl⟩
    · rw [if_neg q] at h
      obtain ⟨h1, h2⟩ := ih (i + 1) w h
      refine ⟨by omega, ?_⟩
      rw [show w - i = (w - (i + 1)) + 1 by omega, List.getElem?_cons_succ]
      exact h2
theorem wKd_w {v w : Nat} (hw : w < 22) : (v = wrdN w) = (wKd v = 128 + w) := by
  refine propext ⟨fun h => ?_, fun h => ?_⟩
  · have key : ∀ w : Fin 22, wKd (wrdN w.val) = 128 + w.val := by decide +kernel
    rw [h]
    exact key ⟨w, hw⟩
  · have h2 := (wIx_get wrd37 0 w h).2
    rw [Nat.sub_zero] at h2
    unfold wrdN
    rw [List.getD_eq_getElem?_getD, h2]
    rfl
theorem wrdN_lt {w : Nat} (hw : w < 22) : wrdN w < 2 ^ 63 := by
  have key : ∀ w : Fin 22, wrdN w.val < 2 ^ 63 := by decide +kernel
  exact key ⟨w, hw⟩
abbrev mPS (I : Nat → Nat → Int32) (J : Nat → Nat → Int64) (T : aTp) (s : aPS) : Prop := (mTk I J T) ∧ (∀ w, w < 22 → J 190 w = nJ (wrdN w)) ∧ (I 185 7 = nI s.k) ∧ (I 185 8 = nI s.F) ∧ (s.F ≤ 20000) ∧ (I 185 13 = nI s.ll) ∧ (∀ n, n < s.ll → I 192 (1100 + n) = nI (s.lo n)) ∧ (∀ n, n < s.ll → I 193 (1100 + n) = nI (s.la n))
theorem mPS.tk {I : Nat → Nat → Int32} {J : Nat → Nat → Int64} {T : aTp} {s : aPS} (h : mPS I J T s) : mTk I J T := h.1
theorem mPS.wd {I : Nat → Nat → Int32} {J : Nat → Nat → Int64} {T : aTp} {s : aPS} (h : mPS I J T s) : ∀ w, w < 22 → J 190 w = nJ (wrdN w) := h.2.1
theorem mPS.k {I : Nat → Nat → Int32} {J : Nat → Nat → Int64} {T : aTp} {s : aPS} (h : mPS I J T s) : I 185 7 = nI s.k := h.2.2.1
theorem mPS.f {I : Nat → Nat → Int32} {J : Nat → Nat → Int64} {T : aTp} {s : aPS} (h : mPS I J T s) : I 185 8 = nI s.F := h.2.2.2.1
theorem mPS.b {I : Nat → Nat → Int32} {J : Nat → Nat → Int64} {T : aTp} {s : aPS} (h : mPS I J T s) : s.F ≤ 20000 := h.2.2.2.2.1
theorem mPS.l {I : Nat → Nat → Int32} {J : Nat → Nat → Int64} {T : aTp} {s : aPS} (h : mPS I J T s) : I 185 13 = nI s.ll := h.2.2.2.2.2.1
theorem mPS.o {I : Nat → Nat → Int32} {J : Nat → Nat → Int64} {T : aTp} {s : aPS} (h : mPS I J T s) : ∀ n, n < s.ll → I 192 (1100 + n) = nI (s.lo n) := h.2.2.2.2.2.2.1
theorem mPS.a {I : Nat → Nat → Int32} {J : Nat → Nat → Int64} {T : aTp} {s : aPS} (h : mPS I J T s) : ∀ n, n < s.ll → I 193 (1100 + n) = nI (s.la n) := h.2.2.2.2.2.2.2
abbrev mFr (I I' : Nat → Nat → Int32) : Prop := ∀ x k, ¬ (x = 185 ∧ (k = 7 ∨ k = 8 ∨ k = 13)) → ¬ (x = 192 ∧ 1100 ≤ k) → ¬ (x = 193 ∧ 1100 ≤ k) → I' x k = I x k
section MT
variable {xs : List Int32} {d : Nat} {I I' I2 : Nat → Nat → Int32} {J : Nat → Nat → Int64} {rf : Nat → Nat} {g : Nat} {R : Option Value → KW → Prop} {w : KW} {T : aTp} {s : aPS}
theorem mFr.refl : mFr I I := fun _ _ _ _ _ => rfl
theorem mFr.trans (h1 : mFr I I') (h2 : mFr I' I2) : mFr I I2 := fun x k p q r => by rw [h2 x k p q r, h1 x k p q r]
theorem mTk.keep (h : mTk I J T) (h1 : ∀ x k, x = 187 ∨ x = 188 → I' x k = I x k) : mTk I' J T := ⟨fun k hk => by rw [h1 _ _ (by omega)]; exact h.s k hk, fun k hk => by rw [h1 _ _ (by omega)]; exact h.p k hk, h.v⟩
/-- wrong -/
theorem m_wrg {c : Nat} (v : vTp T) (hc : 0 < c) (hc2 : c ≤ 15) (h : mPS I J T s) (hk : s.k ≤ nT T) : ∃ I', mPS I' J T (wrg T c s) ∧ mFr I I' ∧ ∀ d R, kX xs d 164 0 [some (.ref 185), some (.int (nI c))] [] (kmm I J rf g) R = R none (kmm I' J rf g) := by
  have hn := (nT_ok T).1
  have hn2 := v.n
  have ef := h.f
  have ek := h.k
  have hp := pT_le (T := T) s.k
  have hb := h.b
  by_cases q : s.F = 0
  · refine ⟨ku I 185 8 (nI (c + 16 * pT T s.k)), ⟨h.tk.keep (fun x k _ => by rw [ku_nea (by omega)]), h.wd, ?_, ?_, ?_, ?_, fun n hn => ?_, fun n hn => ?_⟩, fun x k p _ _ => by rw [ku_ne (by omega)], fun d R => ?_⟩
    · rw [ku_nek (by omega)]; exact h.k
    · rw [ku_same]
      show _ = nI (if s.F = 0 then c + 16 * pT T s.k else s.F)
      rw [if_pos q]
    · show (if s.F = 0 then c + 16 * pT T s.k else s.F) ≤ 20000
      rw [if_pos q]; omega
    · rw [ku_nek (by omega)]; exact h.l
    · rw [ku_nea (by omega)]; exact h.o n hn
    · rw [ku_nea (by omega)]; exact h.a n hn
    · rw [B164_0, kg12_8, kO_s, ef, q, if_pos (show nI 0 = 0 from rfl), B164_7, kg12_5, kO_s, kg12_7, kO_s, ek, ka188 (by omega), kO_s, h.tk.p _ hk, c8_16, nI_ml, nI_add, kp12_8, kO_s, B164_25]
  · have e : wrg T c s = s := by
      show aPS.mk s.k (if s.F = 0 then c + 16 * pT T s.k else s.F) s.ll s.lo s.la = s
      rw [if_neg q]
      rfl
    rw [e]
    refine ⟨I, h, mFr.refl, fun d R => ?_⟩
    rw [B164_0, kg12_8, kO_s, ef, if_neg (fun z => q (by rw [show (0 : Int32) = nI 0 from rfl, nI_inj (by omega) (by omega)] at z; exact z)), B164_25]
theorem mF0 (h : mPS I J T s) : (I 185 8 = 0) = (s.F = 0) := by
  have hb := h.b
  rw [h.f, show (0 : Int32) = nI 0 from rfl, nI_inj (by omega) (by omega)]
theorem mFp (h : mPS I J T s) : (0 < I 185 8) = (¬ s.F = 0) := by
  have hb := h.b
  rw [h.f, show (0 : Int32) = nI 0 from rfl, nI_lt_eq (by omega) (by omega)]
  exact propext ⟨fun q => by omega, fun q => by omega⟩
theorem srt_le (K : Nat) : srt K ≤ 4 := by
  unfold srt
  repeat' split
  all_goals omega
theorem srt_eq {K c : Nat} (hc : c ≤ 4) : (nI (srt K) = nI c) = (srt K = c) := nI_inj (by have := srt_le K; omega) (by omega)
/-- isSign -/
theorem sp165 {c : Nat} (v : vTp T) (hs : c ∈ sgn8) (h : mPS I J T s) (hk : s.k ≤ nT T) : kX xs d 165 0 [some (.ref 185), some (.int (nI c))] [] (kmm I J rf g) R = R (some (.int (nI (bN (decide (s.F = 0 ∧ kdO T s = c)))))) (kmm I J rf g) := by
  have hn := (nT_ok T).1
  have hn2 := v.n
  have ek := h.k
  have hc := sgn_s hs
  rw [B165_0, kg12_8, kO_s]
  by_cases q : s.F = 0
  · rw [if_pos ((mF0 h).mpr q), B165_7, kg12_4, kO_s, kg12_7, kO_s, ek, ka187 (by omega), kO_s, h.tk.s _ hk]
    have e3 : (nI (srt (tK T (pT T s.k))) = 3) = (srt (tK T (pT T s.k)) = 3) := srt_eq (c := 3) (by omega)
    by_cases q2 : srt (tK T (pT T s.k)) = 3
    · have hlt : s.k < nT T := kdO_lt hk (fun e => by unfold kdO at e; rw [e] at q2; exact absurd q2 (by decide))
      obtain ⟨t1, t2⟩ := tk3 q2
      have t3 := (sgn_s t2).2
      have ev : (lg_cmp (nJ (tV T (pT T s.k))) ((nI c).toInt64) = 0) = (kdO T s = c) := by
        rw [lgc, nJ_c hc.2, t1, nJ_inj (by omega) (by omega)]; rfl
      rw [if_pos (e3.mpr q2), B165_20, kg12_6, kO_s, kg12_7, kO_s, ek, kj189 (by omega), kO_s, h.tk.v _ hlt]
      by_cases q3 : kdO T s = c
      · rw [if_pos (ev.mpr q3), B165_35, B165_40, if_pos nar1, decide_eq_true ⟨q, q3⟩]; rfl
      · rw [if_neg (fun z => q3 (ev.mp z)), B165_39, B165_40, if_pos nar0, decide_eq_false (fun z => q3 z.2)]; rfl
    · rw [if_neg (fun z => q2 (e3.mp z)), B165_39, B165_40, if_pos nar0, decide_eq_false (fun z => q2 (by rw [show tK T (pT T s.k) = c from z.2]; exact hc.1))]; rfl
  · rw [if_neg (fun z => q ((mF0 h).mp z)), B165_39, B165_40, if_pos nar0, decide_eq_false (fun z => q z.1)]; rfl
/-- isWord -/
theorem sp166 {c : Nat} (v : vTp T) (hs : c < 22) (h : mPS I J T s) (hk : s.k ≤ nT T) : kX xs d 166 0 [some (.ref 185), some (.int (nI c))] [] (kmm I J rf g) R = R (some (.int (nI (bN (decide (s.F = 0 ∧ kdO T s = 128 + c)))))) (kmm I J rf g) := by
  have hn := (nT_ok T).1
  have hn2 := v.n
  have ek := h.k
  rw [B166_0, kg12_8, kO_s]
  by_cases q : s.F = 0
  · rw [if_pos ((mF0 h).mpr q), B166_7, kg12_4, kO_s, kg12_7, kO_s, ek, ka187 (by omega), kO_s, h.tk.s _ hk]
    have e1 : (nI (srt (tK T (pT T s.k))) = 1) = (srt (tK T (pT T s.k)) = 1) := srt_eq (c := 1) (by omega)
    by_cases q2 : srt (tK T (pT T s.k)) = 1
    · have hlt : s.k < nT T := kdO_lt hk (fun e => by unfold kdO at e; rw [e] at q2; exact absurd q2 (by decide))
      obtain ⟨t1, t2⟩ := tk1 q2
      have ev : (lg_cmp (nJ (tV T (pT T s.k))) (nJ (wrdN c)) = 0) = (kdO T s = 128 + c) := by
        rw [lgc, nJ_inj t2.a (wrdN_lt hs), wKd_w hs]
        unfold kdO
        rw [← t1]
      rw [if_pos (e1.mpr q2), B166_20, kg12_6, kO_s, kg12_7, kO_s, ek, kj189 (by omega), kO_s, h.tk.v _ hlt, kg12_9, kO_s, kj190 hs, kO_s, h.wd c hs]
      by_cases q3 : kdO T s = 128 + c
      · rw [if_pos (ev.mpr q3), B166_39, B166_44, if_pos nar1, decide_eq_true ⟨q, q3⟩]; rfl
      · rw [if_neg (fun z => q3 (ev.mp z)), B166_43, B166_44, if_pos nar0, decide_eq_false (fun z => q3 z.2)]; rfl
    · rw [if_neg (fun z => q2 (e1.mp z)), B166_43, B166_44, if_pos nar0, decide_eq_false (fun z => q2 (by
        rw [show tK T (pT T s.k) = 128 + c from z.2]
        unfold srt
        rw [if_neg (by omega), if_neg (by omega), if_neg (by omega), if_pos (by omega)]))]; rfl
  · rw [if_neg (fun z => q ((mF0 h).mp z)), B166_43, B166_44, if_pos nar0, decide_eq_false (fun z => q z.1)]; rfl
/-- wordHere -/
def aWh (T : aTp) (s : aPS) (fr k : Nat) : Int32 := if s.F = 0 ∧ 128 + fr ≤ kdO T s ∧ kdO T s < 128 + fr + k then nI (kdO T s - 128 - fr) else -1
theorem sp175 {fr mn : Nat} (v : vTp T) (hs : fr + mn ≤ 22) (h : mPS I J T s) (hk : s.k ≤ nT T) : kX xs (d + 1) 175 0 [some (.ref 185), some (.int (nI fr)), some (.int (nI mn)), none, none] [] (kmm I J rf g) R = R (some (.int (aWh T s fr mn))) (kmm I J rf g) := by
  have L : kX xs (d + 1) 175 5 [some (.ref 185), some (.int (nI fr)), some (.int (nI mn)), some (.int (aWh T s fr 0)), some (.int (nI 0))] [] (kmm I J rf g) R = kX xs (d + 1) 175 5 [some (.ref 185), some (.int (nI fr)), some (.int (nI mn)), some (.int (aWh T s fr mn)), some (.int (nI mn))] [] (kmm I J rf g) R := by
    refine kchain (n := mn) (fun k => kX xs (d + 1) 175 5 [some (.ref 185), some (.int (nI fr)), some (.int (nI mn)), some (.int (aWh T s fr k)), some (.int (nI k))] [] (kmm I J rf g) R) ?_
    intro k hkm
    show kX _ _ _ _ _ _ _ _ = kX _ _ _ _ _ _ _ _
    rw [B175_5, if_pos (nI_lt hkm (by omega)), B175_11, krecv_m ks185, kcond_t, nI_add, sp166 v (show fr + k < 22 by omega) h hk, kpush_s, B175_19]
    by_cases q : s.F = 0 ∧ kdO T s = 128 + (fr + k)
    · have e : aWh T s fr (k + 1) = nI k := by
        unfold aWh
        rw [if_pos ⟨q.1, by omega, by omega⟩, show kdO T s - 128 - fr = k by omega]
      rw [if_neg (by rw [decide_eq_true q]; decide), B175_22, B175_28, nI_add1, e]
    · have e : aWh T s fr (k + 1) = aWh T s fr k := by
        unfold aWh
        by_cases z : s.F = 0 ∧ 128 + fr ≤ kdO T s ∧ kdO T s < 128 + fr + k
        · rw [if_pos z, if_pos ⟨z.1, by omega, by omega⟩]
        · rw [if_neg z, if_neg (fun y => z ⟨y.1, y.2.1, by omega⟩)]
      rw [if_pos (by rw [decide_eq_false q]; rfl), B175_27, B175_28, nI_add1, e]
  have e0 : aWh T s fr 0 = -1 := if_neg (fun y => by omega)
  rw [e0] at L
  rw [B175_0]
  refine Eq.trans L ?_
  rw [B175_5, if_neg (nI_nlt (by omega) (by omega)), B175_35]
end MT
