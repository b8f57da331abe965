/-! the law's start, walked -/
section WM
variable {xs : List Int32} {l : Launch} {D : va_G} {dA : Nat → ClassId} {b : Nat} {z : Nat → Nat} {d : Nat} {p : Program} {e : Env} {R : Room} {s : State} {m : MethodId} {args : Array Value} {below : List Frame} {meth : Method} {c : Code} {Qs : State → Prop}
theorem sl_1 : ksl wC ≤ 60000 := by decide +kernel
theorem sl_2 : ksl (wC ++ wM0) ≤ 60000 := by decide +kernel
theorem sl_3 : ksl (wC ++ wM0 ++ [kanew 1 1]) ≤ 60000 := by decide +kernel
theorem sl_4 : ksl (wC ++ [.inl (12, knew 12)]) ≤ 60000 := by decide +kernel
theorem ln_1 : wC.length = 185 := by decide +kernel
theorem ln_2 : (wC ++ wM0).length = 208 := by decide +kernel
theorem g_101 : kGo xs l D dA b z (d + 39) 101 0 (kent [.ref 0] (kmax 101)) [] [.inl (11, knew 11)] none wC := by
  obtain ⟨r, w', ⟨rfl, rfl⟩, _, _, g⟩ := ksound xs l D dA b z 12000 (d + 34 + 5) 101 0 (kent [.ref 0] (kmax 101)) [] [.inl (11, knew 11)] (fun r w' => r = none ∧ w' = wC) (by
    rw [show kent [.ref 0] (kmax 101) = [some (.ref 0), none] from rfl, i_101]
    exact ⟨rfl, rfl⟩)
  exact g
theorem g_158 : kGo xs l D dA b z (d + 39) 158 0 (kent [.ref 185] (kmax 158)) [] (wC ++ [.inl (12, knew 12)]) none (wC ++ wM0) := by
  obtain ⟨r, w', ⟨rfl, rfl⟩, _, _, g⟩ := ksound xs l D dA b z 4000 (d + 34 + 5) 158 0 (kent [.ref 185] (kmax 158)) [] (wC ++ [.inl (12, knew 12)]) (fun r w' => r = none ∧ w' = wC ++ wM0) (by
    rw [show kent [.ref 185] (kmax 158) = [some (.ref 185)] from rfl, i_158]
    exact ⟨rfl, rfl⟩)
  exact g
theorem law_pre (C : kCx xs D dA b z (d + 40) 288 p R s m args meth c) (hsz : s.heap.size = b) (hc : 1000 ≤ R.cells) (hs : 60000 ≤ R.slots) (g : kWp l D dA b z p e R s m args below meth c Qs 23 (lwL (Int32.ofInt 0)) [] (kmm i0 j0 f0 0)) : kWp l D dA b z p e R s m args below meth c Qs 0 [some (.retAddr 9), none, none, none, none, none, none] [] [] := by
  have s1 := sl_1
  have s2 := sl_2
  have s3 := sl_3
  have s4 := sl_4
  have n1 := ln_1
  have n2 := ln_2
  obtain ⟨hm1, hi1, ha1, hk1⟩ := klink_ok_2 (show kml (kown 288) 15 = some (2, 101, 0) from rfl)
  obtain ⟨hm2, hi2, ha2, hk2⟩ := klink_ok_2 (show kml (kown 288) 18 = some (2, 158, 0) from rfl)
  refine kWp_new (k := 8) (ci := 11) C hsz rfl (kcode_ok (show kcode 288 0 = some (.new 8, 3) from rfl)).1 (by show 0 + 1 ≤ R.cells; omega) (by show 17 ≤ R.slots; omega) ?_
  show kWp l D dA b z p e R s m args below meth c Qs 3 [some (.retAddr 9), none, none, none, none, none, none] [.ref 0] [.inl (11, knew 11)]
  refine kWp_st C rfl (by show 1 ≤ R.cells; omega) (by show 17 ≤ R.slots; omega) (ks_dup rfl (kcode_ok (show kcode 288 3 = some (.dup, 1) from rfl)).1) ?_
  refine kWp_call (d := d + 39) (m' := 101) (k := 15) (as := [.ref 0]) (st' := [.ref 0]) (w1 := wC) (r1 := none) C rfl hsz hm1 rfl hi1 rfl ⟨0, [], rfl⟩ hk1 rfl (by decide) (by decide) (kcode_ok (show kcode 288 4 = some (.invokespecial 15, 3) from rfl)).1 (by rw [n1]; decide) (by decide +kernel) (by omega) (by omega) g_101 ?_
  show kWp l D dA b z p e R s m args below meth c Qs 7 [some (.retAddr 9), none, none, none, none, none, none] [.ref 0] wC
  refine kWp_st (L' := [some (.retAddr 9), some (.ref 0), none, none, none, none, none]) C rfl (by omega) (by omega) (ks_astore_n (k := 1) rfl (kcode_ok (show kcode 288 7 = some (.astore_n 1, 1) from rfl)).1) ?_
  refine kWp_new (k := 16) (ci := 12) C hsz rfl (kcode_ok (show kcode 288 8 = some (.new 16, 3) from rfl)).1 (by omega) (by omega) ?_
  rw [n1]
  refine kWp_st C rfl (by rw [List.length_append, n1]; show 186 ≤ R.cells; omega) (by omega) (ks_dup rfl (kcode_ok (show kcode 288 11 = some (.dup, 1) from rfl)).1) ?_
  refine kWp_call (d := d + 39) (m' := 158) (k := 18) (as := [.ref 185]) (st' := [.ref 185]) (w1 := wC ++ wM0) (r1 := none) C rfl hsz hm2 rfl hi2 rfl ⟨185, [], rfl⟩ hk2 rfl (by decide) (by decide) (kcode_ok (show kcode 288 12 = some (.invokespecial 18, 3) from rfl)).1 (by rw [n2, List.length_append, n1]; decide) (by decide +kernel) (by omega) (by omega) g_158 ?_
  show kWp l D dA b z p e R s m args below meth c Qs 15 [some (.retAddr 9), some (.ref 0), none, none, none, none, none] [.ref 185] (wC ++ wM0)
  refine kWp_st (L' := [some (.retAddr 9), some (.ref 0), some (.ref 185), none, none, none, none]) C rfl (by omega) (by omega) (ks_astore_n (k := 2) rfl (kcode_ok (show kcode 288 15 = some (.astore_n 2, 1) from rfl)).1) ?_
  refine kWp_st C rfl (by omega) (by omega) (ks_iconst (n := 1) (kcode_ok (show kcode 288 16 = some (.iconst 1, 1) from rfl)).1) ?_
  refine kWp_newl C hsz (by decide) (by decide) (kcode_ok (show kcode 288 17 = some (.newarray .long, 2) from rfl)).1 (by omega) (by rw [show (Int32.ofInt 1).toNatClampNeg = 1 from rfl]; omega) ?_
  rw [n2, show (Int32.ofInt 1).toNatClampNeg = 1 from rfl]
  have n3 : (wC ++ wM0 ++ [kanew 1 1]).length = 209 := by rw [List.length_append, n2]; rfl
  refine kWp_st (L' := [some (.retAddr 9), some (.ref 0), some (.ref 185), some (.ref 208), none, none, none]) C rfl (by omega) (by omega) (ks_astore_n (k := 3) rfl (kcode_ok (show kcode 288 19 = some (.astore_n 3, 1) from rfl)).1) ?_
  refine kWp_st C rfl (by omega) (by omega) (ks_iconst (n := 0) (kcode_ok (show kcode 288 20 = some (.iconst 0, 1) from rfl)).1) ?_
  refine kWp_st (L' := lwL (Int32.ofInt 0)) C rfl (by omega) (by omega) (ks_istore (k := 4) rfl (kcode_ok (show kcode 288 21 = some (.istore 4, 2) from rfl)).1) ?_
  rw [← kmm_0]
  exact g
end WM
