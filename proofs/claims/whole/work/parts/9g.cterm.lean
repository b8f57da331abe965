/-! term of the class -/
section CT
variable {xs : List Int32} {d : Nat} {I I' I2 : Nat → Nat → Int32} {J J' : Nat → Nat → Int64} {rf : Nat → Nat} {g : Nat} {R : Option Value → KW → Prop} {T : aTp} {N : aNm} {r : aRl}
def swR (rf : Nat → Nat) (a b : Nat) : Nat → Nat := ku1 (ku1 rf a (rf b)) b (rf a)
theorem c_106 (v : vTp T) (h2 : kshp (rf 2) = some (.inl 6)) (h5 : kshp (rf 5) = some (.inl 10)) (vr : vRl r) (hr : cRl I (rf 2) r) (hv : vNm r.nj r.nc N) (hN : cNm J (rf 2) r.nj r.nc N) (hT : cTp I T) (hb : (tmT T N r.nj r.nc).1.F ≤ 20000) : ∃ I' J', ((tmT T N r.nj r.nc).1.F = 0 → cLn I' (rf 5) (tmT T N r.nj r.nc).2) ∧ cRl I' (rf 2) r ∧ I' 1 0 = nI 0 ∧ (∀ x k, x ≠ 1 → ¬ (x = 3 ∧ k = 3) → x ≠ rf 2 + 5 → x ≠ rf 2 + 6 → x < rf 5 ∨ rf 5 + 3 < x → I' x k = I x k) ∧ jFr J J' ∧ ∀ d R, kX xs (d + 9) 106 0 [some (.ref 0), none, none] [] (kmm I J rf g) R = R (some (.int (nI (tmT T N r.nj r.nc).1.F))) (kmm I' J' (if (tmT T N r.nj r.nc).1.F = 0 then swR rf 4 5 else rf) g) := by
  have a2 := kad6 h2
  have a5 := kad10 h5
  obtain ⟨I1, J1, b1, b0, b2, b3, b4⟩ := c_42 (xs := xs) (rf := rf) (g := g) (a := rf 2 + 5) (t := rf 5) (ra := rf 2) (ll := r.ll) (lo := r.lo) (la := r.la) v (by omega) h5 (by omega) (by omega) h2 (by omega) (by omega) vr.j vr.c hv hr.nj hr.nc hN hT hr.ll hr.lc
  have e0 : (aPS.mk 0 0 r.ll r.lo r.la) = sW z0 (aPS.mk 0 0 r.ll r.lo r.la) := rfl
  rw [e0, sW_rdL] at b1 b0 b4
  have ep : rdL T N r.nj r.nc 1001 (z0, ln0) = tmT T N r.nj r.nc := rfl
  rw [ep] at b1 b0 b4
  have b1' : cPS I1 J1 T (rf 2 + 5) (sW (tmT T N r.nj r.nc).1 (aPS.mk 0 0 r.ll r.lo r.la)) := b1
  have b0' : cLn I1 (rf 5) (tmT T N r.nj r.nc).2 := b0
  have b4' : ∀ d R, kX xs (d + 8) 42 0 [some (.ref 3), some (.ref (rf 5)), some (.ref (rf 2)), none, none] [] (kmm I J rf g) R = R (some (.int (nI (tmT T N r.nj r.nc).1.F))) (kmm I1 J1 rf g) := b4
  have G : ∀ x k, x ≠ 1 → ¬ (x = 3 ∧ k = 3) → x ≠ rf 2 + 5 → x ≠ rf 2 + 6 → x < rf 5 ∨ rf 5 + 3 < x → ku I1 1 0 0 x k = I x k := fun x k p1 p2 p3 p4 p5 => by rw [ku_nea p1, b2 x k (by omega) p2 p3 p4 p5]
  have el : I1 (rf 2 + 5) 0 = nI r.ll := b1'.l
  have ec : ∀ n, n < r.ll → I1 (rf 2 + 5 + 1) n = enc (r.lo n) (r.la n) := b1'.c
  have hr1 : cRl (ku I1 1 0 0) (rf 2) r := ⟨by rw [G _ _ (by omega) (by omega) (by omega) (by omega) (by omega)]; exact hr.nj, by rw [G _ _ (by omega) (by omega) (by omega) (by omega) (by omega)]; exact hr.nc, fun k hk => by rw [G _ _ (by omega) (by omega) (by omega) (by omega) (by omega)]; exact hr.kd k hk, fun k hk => by rw [G _ _ (by omega) (by omega) (by omega) (by omega) (by omega)]; exact hr.gu k hk, by rw [ku_nea (by omega)]; exact el, fun n hn => by rw [ku_nea (by omega)]; exact ec n hn⟩
  have hl1 : cLn (ku I1 1 0 0) (rf 5) (tmT T N r.nj r.nc).2 := b0'.keep (fun x k p1 p2 => by rw [ku_nea (by omega)])
  refine ⟨ku I1 1 0 0, J1, fun _ => hl1, hr1, ku_same _ _ _ _, G, b3, fun d R => ?_⟩
  have F0 : (nI (tmT T N r.nj r.nc).1.F = 0) = ((tmT T N r.nj r.nc).1.F = 0) := nI_inj (b := 0) (by omega) (by omega)
  rw [B106_0, kg11_1, kO_s, kg11_5, kO_s, kg11_2, kO_s, krecv_m ks3, kcond_t, b4', kpush_s, B106_15, kg11_0, kO_s, kp2_0, kO_s]
  by_cases z : (tmT T N r.nj r.nc).1.F = 0
  · rw [if_pos (F0.mpr z), if_pos z, B106_28, kg11_4, kO_s, kg11_5, kO_s, kpR_m (by omega) (by omega), kO_s, kpR_m (by omega) (by omega), kO_s, B106_46]
    rfl
  · rw [if_neg (fun y => z (F0.mp y)), if_neg z, B106_46]
end CT
