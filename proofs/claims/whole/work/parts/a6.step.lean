/-! one step of the law -/
section WG
variable {xs : List Int32} {d : Nat} {I I' I2 : Nat → Nat → Int32} {J J' : Nat → Nat → Int64} {rf : Nat → Nat} {g : Nat} {A : aW} {P : Nat → KL → List Value → KW → Prop} {i a0 a1 a2 a3 a4 a5 a6 : Int32}
theorem lg_self (x : Int64) : lg_cmp x x = 0 := by
  unfold lg_cmp
  rw [if_neg (Int64.lt_irrefl), if_pos rfl]
theorem st_38b (h : wAl I J rf A) (hk : lwK xs i a1 a2 a3 a4 a5 a6) (hP : lwQ g i P) (hJ : ∀ v, aRst a1 a2 a3 a4 = some v → J 208 0 = v.toInt64) : kY kx288 xs (d + 40) 288 1329 (lwL i) [.int (rsT (aRst a1 a2 a3 a4))] (kmm I J rf g) P := by
  obtain ⟨k1, k2, k3, k4, k5, k6⟩ := hk
  have q1 : ∀ R, kX xs (d + 39) 268 0 [some (.ref 185), some (.int a1), some (.int a2), some (.int a3), some (.int a4), none, none, none, none, none, none, none] [] (kmm I J rf g) R = R (some (.int (rsV (aRst a1 a2 a3 a4)))) (kmm (ku I 185 0 (rsT (aRst a1 a2 a3 a4))) J rf g) := fun R => m_268 (d := d + 38)
  have h2 := h.mq (mQ.thr I (rsT (aRst a1 a2 a3 a4)))
  rw [Y288_1329, k1, kO_s, k2, kO_s, k3, kO_s, k4, kO_s, krecv_m ks185, kcond_t, q1, kpush_s, Y288_1359, krecv_m ks185, kcond_t, sp155, kpush_s, ku_same, Y288_1365, if_pos rfl, Y288_1372]
  cases e : aRst a1 a2 a3 a4 with
  | none =>
    rw [e] at h2
    rw [show rsT none = 1 from rfl, if_neg (by decide), Y288_1389, Y288_1519]
    exact hP _ _ _ _ h2
  | some v =>
    rw [e] at h2
    rw [show rsT (some v) = 0 from rfl, if_pos rfl, Y288_1377, show (0 : Int32) = nI 0 from rfl, kj208 (by omega), kO_s, hJ v e, show rsV (some v) = v from rfl, lg_self, if_pos (show (0 : Int32) = nI 0 from rfl), Y288_1389, Y288_1519]
    exact hP _ _ _ _ h2
theorem law_step (h : wAl I J rf A) (k0 : ktI xs 9 i = some a0) (hk : lwK xs i a1 a2 a3 a4 a5 a6) (hP : lwQ g i P) (hR : P 1326 (lwL i) [.ref 208, .int a4, .int a3, .int a2, .int a1, .ref 0] (kmm I J rf g)) : kY kx288 xs (d + 40) 288 33 (lwL i) [] (kmm I J rf g) P := by
  rw [Y288_33, k0, kO_s]
  generalize a0 &&& ((Int8.ofInt 63).toInt32) = o
  by_cases e0 : o = 0
  · rw [if_pos e0]; exact st_0 h hk hP
  rw [if_neg e0]
  by_cases e1 : o = 1
  · rw [if_pos e1]; exact st_1 h hP
  rw [if_neg e1]
  by_cases e2 : o = 2
  · rw [if_pos e2]; exact st_2 h hP
  rw [if_neg e2]
  by_cases e3 : o = 3
  · rw [if_pos e3]; exact st_3 h hk hP
  rw [if_neg e3]
  by_cases e4 : o = 4
  · rw [if_pos e4]; exact st_4 h hk hP
  rw [if_neg e4]
  by_cases e5 : o = 5
  · rw [if_pos e5]; exact st_5 h hk hP
  rw [if_neg e5]
  by_cases e6 : o = 6
  · rw [if_pos e6]; exact st_6 h hk hP
  rw [if_neg e6]
  by_cases e7 : o = 7
  · rw [if_pos e7]; exact st_7 h hk hP
  rw [if_neg e7]
  by_cases e8 : o = 8
  · rw [if_pos e8]; exact st_8 h hk hP
  rw [if_neg e8]
  by_cases e9 : o = 9
  · rw [if_pos e9]; exact st_9 h hk hP
  rw [if_neg e9]
  by_cases e10 : o = 10
  · rw [if_pos e10]; exact st_10 h hk hP
  rw [if_neg e10]
  by_cases e11 : o = 11
  · rw [if_pos e11]; exact st_11 h hk hP
  rw [if_neg e11]
  by_cases e12 : o = 12
  · rw [if_pos e12]; exact st_12 h hk hP
  rw [if_neg e12]
  by_cases e13 : o = 13
  · rw [if_pos e13]; exact st_13 h hk hP
  rw [if_neg e13]
  by_cases e14 : o = 14
  · rw [if_pos e14]; exact st_14 h hk hP
  rw [if_neg e14]
  by_cases e15 : o = 15
  · rw [if_pos e15]; exact st_15 h hk hP
  rw [if_neg e15]
  by_cases e16 : o = 16
  · rw [if_pos e16]; exact st_16 h hk hP
  rw [if_neg e16]
  by_cases e17 : o = 17
  · rw [if_pos e17]; exact st_17 h hk hP
  rw [if_neg e17]
  by_cases e18 : o = 18
  · rw [if_pos e18]; exact st_18 h hk hP
  rw [if_neg e18]
  by_cases e19 : o = 19
  · rw [if_pos e19]; exact st_19 h hk hP
  rw [if_neg e19]
  by_cases e20 : o = 20
  · rw [if_pos e20]; exact st_20 h hk hP
  rw [if_neg e20]
  by_cases e21 : o = 21
  · rw [if_pos e21]; exact st_21 h hk hP
  rw [if_neg e21]
  by_cases e22 : o = 22
  · rw [if_pos e22]; exact st_22 h hk hP
  rw [if_neg e22]
  by_cases e23 : o = 23
  · rw [if_pos e23]; exact st_23 h hk hP
  rw [if_neg e23]
  by_cases e24 : o = 24
  · rw [if_pos e24]; exact st_24 h hk hP
  rw [if_neg e24]
  by_cases e25 : o = 25
  · rw [if_pos e25]; exact st_25 h hk hP
  rw [if_neg e25]
  by_cases e26 : o = 26
  · rw [if_pos e26]; exact st_26 h hk hP
  rw [if_neg e26]
  by_cases e27 : o = 27
  · rw [if_pos e27]; exact st_27 h hk hP
  rw [if_neg e27]
  by_cases e28 : o = 28
  · rw [if_pos e28]; exact st_28 h hk hP
  rw [if_neg e28]
  by_cases e29 : o = 29
  · rw [if_pos e29]; exact st_29 h hk hP
  rw [if_neg e29]
  by_cases e30 : o = 30
  · rw [if_pos e30]; exact st_30 h hk hP
  rw [if_neg e30]
  by_cases e31 : o = 31
  · rw [if_pos e31]; exact st_31 h hk hP
  rw [if_neg e31]
  by_cases e32 : o = 32
  · rw [if_pos e32]; exact st_32 h hk hP
  rw [if_neg e32]
  by_cases e33 : o = 33
  · rw [if_pos e33]; exact st_33 h hk hP
  rw [if_neg e33]
  by_cases e34 : o = 34
  · rw [if_pos e34]; exact st_34 h hk hP
  rw [if_neg e34]
  by_cases e35 : o = 35
  · rw [if_pos e35]; exact st_35 h hk hP
  rw [if_neg e35]
  by_cases e36 : o = 36
  · rw [if_pos e36]; exact st_36 h hk hP
  rw [if_neg e36]
  by_cases e37 : o = 37
  · rw [if_pos e37]; exact st_37 h hk hP
  rw [if_neg e37]
  by_cases e38 : o = 38
  · rw [if_pos e38]; obtain ⟨k1, k2, k3, k4, k5, k6⟩ := hk; rw [Y288_1300, k1, kO_s, k2, kO_s, k3, kO_s, k4, kO_s]; exact hR
  rw [if_neg e38]
  by_cases e39 : o = 39
  · rw [if_pos e39]; exact st_39 h hk hP
  rw [if_neg e39]
  by_cases e40 : o = 40
  · rw [if_pos e40]; exact st_40 h hk hP
  rw [if_neg e40]
  by_cases e41 : o = 41
  · rw [if_pos e41]; exact st_41 h hk hP
  rw [if_neg e41]
  rw [Y288_1519]
  exact hP _ _ _ _ h
end WG
