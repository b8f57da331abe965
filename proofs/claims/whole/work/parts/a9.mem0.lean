/-! the memory at the law's start -/
def chr0 (x : Nat) : Bool := [17, 30, 43, 48, 53, 71, 76, 81, 86, 91, 96, 101, 106, 111, 116, 121, 126, 131, 136, 141, 146, 157, 165, 173, 181].contains x
def i0 (x k : Nat) : Int32 := bif chr0 x then nI k else bif Nat.beq x 191 && Nat.beq k 3 then -1 else 0
def j0 (x k : Nat) : Int64 := bif Nat.beq x 190 then ([19811063, 22745103, 154036, 14195625, 569, 223088818, 7751741, 5538, 30601298, 614732, 223095242, 30596128, 36629644, 671258, 964262, 19741, 1891, 573, 19914, 660401, 38248553, 14043393] : List Int64).getD k 0 else 0
def f0 (k : Nat) : Nat := [0, 0, 5, 18, 31, 35].getD k 0
theorem zr_i {f : Nat → Int32} (h : f = fun _ => 0) (n : Nat) : (List.range n).map f = List.replicate n 0 := by
  rw [h]
  refine List.eq_replicate_iff.mpr ⟨by rw [List.length_map, List.length_range], fun b hb => ?_⟩
  obtain ⟨x, _, e⟩ := List.mem_map.mp hb
  exact e.symm
theorem zr_j {f : Nat → Int64} (h : f = fun _ => 0) (n : Nat) : (List.range n).map f = List.replicate n 0 := by
  rw [h]
  refine List.eq_replicate_iff.mpr ⟨by rw [List.length_map, List.length_range], fun b hb => ?_⟩
  obtain ⟨x, _, e⟩ := List.mem_map.mp hb
  exact e.symm
theorem e0_2 : kcell i0 j0 f0 2 = kanew 2 1000 := by
  show (Sum.inr (2, .inl ((List.range 1000).map (i0 2))) : KC) = _
  rw [zr_i (f := i0 2) rfl]; rfl
theorem e0_11 : kcell i0 j0 f0 11 = kanew 0 1000 := by
  show (Sum.inr (0, .inl ((List.range 1000).map (i0 11))) : KC) = _
  rw [zr_i (f := i0 11) rfl]; rfl
theorem e0_12 : kcell i0 j0 f0 12 = kanew 0 32 := by
  show (Sum.inr (0, .inl ((List.range 32).map (i0 12))) : KC) = _
  rw [zr_i (f := i0 12) rfl]; rfl
theorem e0_24 : kcell i0 j0 f0 24 = kanew 0 1000 := by
  show (Sum.inr (0, .inl ((List.range 1000).map (i0 24))) : KC) = _
  rw [zr_i (f := i0 24) rfl]; rfl
theorem e0_25 : kcell i0 j0 f0 25 = kanew 0 32 := by
  show (Sum.inr (0, .inl ((List.range 32).map (i0 25))) : KC) = _
  rw [zr_i (f := i0 25) rfl]; rfl
theorem e0_32 : kcell i0 j0 f0 32 = kanew 0 40 := by
  show (Sum.inr (0, .inl ((List.range 40).map (i0 32))) : KC) = _
  rw [zr_i (f := i0 32) rfl]; rfl
theorem e0_33 : kcell i0 j0 f0 33 = kanew 0 40 := by
  show (Sum.inr (0, .inl ((List.range 40).map (i0 33))) : KC) = _
  rw [zr_i (f := i0 33) rfl]; rfl
theorem e0_34 : kcell i0 j0 f0 34 = kanew 0 40 := by
  show (Sum.inr (0, .inl ((List.range 40).map (i0 34))) : KC) = _
  rw [zr_i (f := i0 34) rfl]; rfl
theorem e0_36 : kcell i0 j0 f0 36 = kanew 0 40 := by
  show (Sum.inr (0, .inl ((List.range 40).map (i0 36))) : KC) = _
  rw [zr_i (f := i0 36) rfl]; rfl
theorem e0_37 : kcell i0 j0 f0 37 = kanew 0 40 := by
  show (Sum.inr (0, .inl ((List.range 40).map (i0 37))) : KC) = _
  rw [zr_i (f := i0 37) rfl]; rfl
theorem e0_38 : kcell i0 j0 f0 38 = kanew 0 40 := by
  show (Sum.inr (0, .inl ((List.range 40).map (i0 38))) : KC) = _
  rw [zr_i (f := i0 38) rfl]; rfl
theorem e0_61 : kcell i0 j0 f0 61 = kanew 0 128 := by
  show (Sum.inr (0, .inl ((List.range 128).map (i0 61))) : KC) = _
  rw [zr_i (f := i0 61) rfl]; rfl
theorem e0_63 : kcell i0 j0 f0 63 = kanew 0 4096 := by
  show (Sum.inr (0, .inl ((List.range 4096).map (i0 63))) : KC) = _
  rw [zr_i (f := i0 63) rfl]; rfl
theorem e0_64 : kcell i0 j0 f0 64 = kanew 0 56 := by
  show (Sum.inr (0, .inl ((List.range 56).map (i0 64))) : KC) = _
  rw [zr_i (f := i0 64) rfl]; rfl
theorem e0_186 : kcell i0 j0 f0 186 = kanew 0 1000 := by
  show (Sum.inr (0, .inl ((List.range 1000).map (i0 186))) : KC) = _
  rw [zr_i (f := i0 186) rfl]; rfl
theorem e0_187 : kcell i0 j0 f0 187 = kanew 0 1002 := by
  show (Sum.inr (0, .inl ((List.range 1002).map (i0 187))) : KC) = _
  rw [zr_i (f := i0 187) rfl]; rfl
theorem e0_188 : kcell i0 j0 f0 188 = kanew 0 1002 := by
  show (Sum.inr (0, .inl ((List.range 1002).map (i0 188))) : KC) = _
  rw [zr_i (f := i0 188) rfl]; rfl
theorem e0_189 : kcell i0 j0 f0 189 = kanew 1 1002 := by
  show (Sum.inr (1, .inr (.inl ((List.range 1002).map (j0 189)))) : KC) = _
  rw [zr_j (f := j0 189) rfl]; rfl
theorem e0_192 : kcell i0 j0 f0 192 = kanew 0 2200 := by
  show (Sum.inr (0, .inl ((List.range 2200).map (i0 192))) : KC) = _
  rw [zr_i (f := i0 192) rfl]; rfl
theorem e0_193 : kcell i0 j0 f0 193 = kanew 0 2200 := by
  show (Sum.inr (0, .inl ((List.range 2200).map (i0 193))) : KC) = _
  rw [zr_i (f := i0 193) rfl]; rfl
theorem e0_194 : kcell i0 j0 f0 194 = kanew 1 14 := by
  show (Sum.inr (1, .inr (.inl ((List.range 14).map (j0 194)))) : KC) = _
  rw [zr_j (f := j0 194) rfl]; rfl
theorem e0_195 : kcell i0 j0 f0 195 = kanew 1 14 := by
  show (Sum.inr (1, .inr (.inl ((List.range 14).map (j0 195)))) : KC) = _
  rw [zr_j (f := j0 195) rfl]; rfl
theorem e0_196 : kcell i0 j0 f0 196 = kanew 0 14 := by
  show (Sum.inr (0, .inl ((List.range 14).map (i0 196))) : KC) = _
  rw [zr_i (f := i0 196) rfl]; rfl
theorem e0_197 : kcell i0 j0 f0 197 = kanew 0 14 := by
  show (Sum.inr (0, .inl ((List.range 14).map (i0 197))) : KC) = _
  rw [zr_i (f := i0 197) rfl]; rfl
theorem e0_198 : kcell i0 j0 f0 198 = kanew 0 250 := by
  show (Sum.inr (0, .inl ((List.range 250).map (i0 198))) : KC) = _
  rw [zr_i (f := i0 198) rfl]; rfl
theorem e0_200 : kcell i0 j0 f0 200 = kanew 0 1100 := by
  show (Sum.inr (0, .inl ((List.range 1100).map (i0 200))) : KC) = _
  rw [zr_i (f := i0 200) rfl]; rfl
theorem e0_201 : kcell i0 j0 f0 201 = kanew 0 1265 := by
  show (Sum.inr (0, .inl ((List.range 1265).map (i0 201))) : KC) = _
  rw [zr_i (f := i0 201) rfl]; rfl
set_option maxRecDepth 1000000 in
set_option maxHeartbeats 10000000 in
theorem kmm_0 : kmm i0 j0 f0 0 = wC ++ wM0 ++ [kanew 1 1] := by
  show (List.range 209).map (kcell i0 j0 f0) ++ [] = _
  rw [List.append_nil, show (List.range 209).map (kcell i0 j0 f0) = [kcell i0 j0 f0 0, kcell i0 j0 f0 1, kcell i0 j0 f0 2, kcell i0 j0 f0 3, kcell i0 j0 f0 4, kcell i0 j0 f0 5, kcell i0 j0 f0 6, kcell i0 j0 f0 7, kcell i0 j0 f0 8, kcell i0 j0 f0 9, kcell i0 j0 f0 10, kcell i0 j0 f0 11, kcell i0 j0 f0 12, kcell i0 j0 f0 13, kcell i0 j0 f0 14, kcell i0 j0 f0 15, kcell i0 j0 f0 16, kcell i0 j0 f0 17, kcell i0 j0 f0 18, kcell i0 j0 f0 19, kcell i0 j0 f0 20, kcell i0 j0 f0 21, kcell i0 j0 f0 22, kcell i0 j0 f0 23, kcell i0 j0 f0 24, kcell i0 j0 f0 25, kcell i0 j0 f0 26, kcell i0 j0 f0 27, kcell i0 j0 f0 28, kcell i0 j0 f0 29, kcell i0 j0 f0 30, kcell i0 j0 f0 31, kcell i0 j0 f0 32, kcell i0 j0 f0 33, kcell i0 j0 f0 34, kcell i0 j0 f0 35, kcell i0 j0 f0 36, kcell i0 j0 f0 37, kcell i0 j0 f0 38, kcell i0 j0 f0 39, kcell i0 j0 f0 40, kcell i0 j0 f0 41, kcell i0 j0 f0 42, kcell i0 j0 f0 43, kcell i0 j0 f0 44, kcell i0 j0 f0 45, kcell i0 j0 f0 46, kcell i0 j0 f0 47, kcell i0 j0 f0 48, kcell i0 j0 f0 49, kcell i0 j0 f0 50, kcell i0 j0 f0 51, kcell i0 j0 f0 52, kcell i0 j0 f0 53, kcell i0 j0 f0 54, kcell i0 j0 f0 55, kcell i0 j0 f0 56, kcell i0 j0 f0 57, kcell i0 j0 f0 58, kcell i0 j0 f0 59, kcell i0 j0 f0 60, kcell i0 j0 f0 61, kcell i0 j0 f0 62, kcell i0 j0 f0 63, kcell i0 j0 f0 64, kcell i0 j0 f0 65, kcell i0 j0 f0 66, kcell i0 j0 f0 67, kcell i0 j0 f0 68, kcell i0 j0 f0 69, kcell i0 j0 f0 70, kcell i0 j0 f0 71, kcell i0 j0 f0 72, kcell i0 j0 f0 73, kcell i0 j0 f0 74, kcell i0 j0 f0 75, kcell i0 j0 f0 76, kcell i0 j0 f0 77, kcell i0 j0 f0 78, kcell i0 j0 f0 79, kcell i0 j0 f0 80, kcell i0 j0 f0 81, kcell i0 j0 f0 82, kcell i0 j0 f0 83, kcell i0 j0 f0 84, kcell i0 j0 f0 85, kcell i0 j0 f0 86, kcell i0 j0 f0 87, kcell i0 j0 f0 88, kcell i0 j0 f0 89, kcell i0 j0 f0 90, kcell i0 j0 f0 91, kcell i0 j0 f0 92, kcell i0 j0 f0 93, kcell i0 j0 f0 94, kcell i0 j0 f0 95, kcell i0 j0 f0 96, kcell i0 j0 f0 97, kcell i0 j0 f0 98, kcell i0 j0 f0 99, kcell i0 j0 f0 100, kcell i0 j0 f0 101, kcell i0 j0 f0 102, kcell i0 j0 f0 103, kcell i0 j0 f0 104, kcell i0 j0 f0 105, kcell i0 j0 f0 106, kcell i0 j0 f0 107, kcell i0 j0 f0 108, kcell i0 j0 f0 109, kcell i0 j0 f0 110, kcell i0 j0 f0 111, kcell i0 j0 f0 112, kcell i0 j0 f0 113, kcell i0 j0 f0 114, kcell i0 j0 f0 115, kcell i0 j0 f0 116, kcell i0 j0 f0 117, kcell i0 j0 f0 118, kcell i0 j0 f0 119, kcell i0 j0 f0 120, kcell i0 j0 f0 121, kcell i0 j0 f0 122, kcell i0 j0 f0 123, kcell i0 j0 f0 124, kcell i0 j0 f0 125, kcell i0 j0 f0 126, kcell i0 j0 f0 127, kcell i0 j0 f0 128, kcell i0 j0 f0 129, kcell i0 j0 f0 130, kcell i0 j0 f0 131, kcell i0 j0 f0 132, kcell i0 j0 f0 133, kcell i0 j0 f0 134, kcell i0 j0 f0 135, kcell i0 j0 f0 136, kcell i0 j0 f0 137, kcell i0 j0 f0 138, kcell i0 j0 f0 139, kcell i0 j0 f0 140, kcell i0 j0 f0 141, kcell i0 j0 f0 142, kcell i0 j0 f0 143, kcell i0 j0 f0 144, kcell i0 j0 f0 145, kcell i0 j0 f0 146, kcell i0 j0 f0 147, kcell i0 j0 f0 148, kcell i0 j0 f0 149, kcell i0 j0 f0 150, kcell i0 j0 f0 151, kcell i0 j0 f0 152, kcell i0 j0 f0 153, kcell i0 j0 f0 154, kcell i0 j0 f0 155, kcell i0 j0 f0 156, kcell i0 j0 f0 157, kcell i0 j0 f0 158, kcell i0 j0 f0 159, kcell i0 j0 f0 160, kcell i0 j0 f0 161, kcell i0 j0 f0 162, kcell i0 j0 f0 163, kcell i0 j0 f0 164, kcell i0 j0 f0 165, kcell i0 j0 f0 166, kcell i0 j0 f0 167, kcell i0 j0 f0 168, kcell i0 j0 f0 169, kcell i0 j0 f0 170, kcell i0 j0 f0 171, kcell i0 j0 f0 172, kcell i0 j0 f0 173, kcell i0 j0 f0 174, kcell i0 j0 f0 175, kcell i0 j0 f0 176, kcell i0 j0 f0 177, kcell i0 j0 f0 178, kcell i0 j0 f0 179, kcell i0 j0 f0 180, kcell i0 j0 f0 181, kcell i0 j0 f0 182, kcell i0 j0 f0 183, kcell i0 j0 f0 184, kcell i0 j0 f0 185, kcell i0 j0 f0 186, kcell i0 j0 f0 187, kcell i0 j0 f0 188, kcell i0 j0 f0 189, kcell i0 j0 f0 190, kcell i0 j0 f0 191, kcell i0 j0 f0 192, kcell i0 j0 f0 193, kcell i0 j0 f0 194, kcell i0 j0 f0 195, kcell i0 j0 f0 196, kcell i0 j0 f0 197, kcell i0 j0 f0 198, kcell i0 j0 f0 199, kcell i0 j0 f0 200, kcell i0 j0 f0 201, kcell i0 j0 f0 202, kcell i0 j0 f0 203, kcell i0 j0 f0 204, kcell i0 j0 f0 205, kcell i0 j0 f0 206, kcell i0 j0 f0 207, kcell i0 j0 f0 208] from rfl, e0_2, e0_11, e0_12, e0_24, e0_25, e0_32, e0_33, e0_34, e0_36, e0_37, e0_38, e0_61, e0_63, e0_64, e0_186, e0_187, e0_188, e0_189, e0_192, e0_193, e0_194, e0_195, e0_196, e0_197, e0_198, e0_200, e0_201]
  rfl
def rl0 : aRl := aRl.mk 0 0 (fun _ => 0) (fun _ => 0) 0 (fun _ => 0) (fun _ => 0)
def st0 : aSt := aSt.mk 0 0 (fun _ => 0) (fun _ => 0) (fun _ => 0) (fun k => k)
def A0 : aW := nwW rl0 st0 0 (fun _ => 0) (fun _ => 0) (aNm.mk (fun _ => 0) (fun _ => 0))
theorem rl0_v : vRl rl0 := ⟨Nat.zero_le _, Nat.zero_le _, fun _ _ => Nat.zero_lt_succ _, fun _ _ => Nat.zero_le _, lwf_0 rfl⟩
theorem st0_v : vSt rl0 st0 := ⟨Nat.zero_lt_succ _, fun _ _ => Nat.zero_le _, fun _ _ _ => rfl, fun _ _ => Nat.zero_lt_succ _, fun _ _ => Nat.zero_le _, fun k hk => hk, fun k hk => no_lt hk, fun i j _ _ e => e⟩
theorem c_0 : cW i0 j0 f0 A0 := by
  refine ⟨⟨⟨⟨rfl, rl0_v, st0_v, ⟨rfl, rfl, fun _ _ => rfl, fun _ _ => rfl, rfl, fun n hn => no_lt hn⟩, ⟨rfl, rfl, fun _ _ => rfl, fun _ _ => rfl, fun _ _ => rfl, fun _ _ => rfl⟩⟩, ⟨0, ⟨rfl, rfl, by decide, by decide, fun k hk => no_lt hk⟩⟩, fun k hk => no_lt hk⟩, ⟨0, ⟨rfl, by decide, fun k hk => no_lt hk, fun k hk => no_lt hk, rfl, by decide, fun k hk => no_lt hk⟩⟩, fun _ _ => rfl, fun _ _ e => (nomatch e), fun _ _ e => (nomatch e), nwM_v⟩, ⟨rfl, rfl, fun _ _ => rfl, fun _ _ => rfl, fun _ _ => rfl, fun _ _ => rfl⟩, ⟨fun i hi => no_lt hi, fun i hi => no_lt hi⟩, rfl, by decide, rfl, rfl, by decide, ⟨rfl, fun k hk => no_lt hk, fun k hk => no_lt hk, fun k hk => no_lt hk⟩, tp0_c rfl, ⟨fun _ => 0, fun _ => 0, fun _ _ => rfl, fun _ _ => rfl, fun _ _ => Nat.zero_lt_succ _, fun _ _ => Nat.zero_le _⟩⟩
theorem m_0 : mW i0 j0 A0 := by
  refine ⟨⟨⟨⟨rl0_v, st0_v, ⟨rfl, rfl, rfl, fun k hk => no_lt hk, fun k hk => no_lt hk, fun k hk => no_lt hk, fun hk => no_lt hk, fun k hk => no_lt hk⟩, ⟨rfl, rfl, fun _ _ => rfl, fun k hk => no_lt hk, fun k hk => no_lt hk, fun k hk => no_lt hk⟩⟩, ⟨rfl, by decide, fun k hk => no_lt hk⟩, fun k hk => no_lt hk⟩, ⟨rfl, fun k hk => no_lt hk, fun k hk => no_lt hk, fun k hk => no_lt hk⟩, fun _ _ => rfl, fun _ _ e => (nomatch e), fun _ _ e => (nomatch e), nwM_v⟩, ⟨rfl, by decide, fun k hk => no_lt hk, fun k hk => no_lt hk, fun k hk => no_lt hk, fun k hk => no_lt hk, fun k hk => no_lt hk, fun k hk => no_lt hk, rfl, rfl, fun _ _ => rfl, rfl⟩, ⟨fun _ => 0, fun _ => 0, ⟨rfl, ⟨fun k hk => no_lt hk, fun i hi => no_lt hi, fun i hi => no_lt hi⟩, fun k hk => no_lt hk, fun k hk => no_lt hk⟩⟩, ⟨rfl, fun k hk => no_lt hk, fun k hk => no_lt hk, fun k hk => no_lt hk⟩, tp0_m rfl, ?_, fun _ _ => rfl⟩
  have key : ∀ w : Fin 22, j0 190 w.val = nJ (wrdN w.val) := by decide +kernel
  exact fun w hw => key ⟨w, hw⟩
theorem w_0 : wAl i0 j0 f0 A0 := ⟨c_0, m_0, ⟨st0_v, ⟨fun i hi => no_lt hi, fun i hi => no_lt hi, fun i k hi => no_lt hi, fun i k hi => no_lt hi, fun i k hi => no_lt hi⟩, ⟨by decide, fun k hk => no_lt hk, fun k hk => no_lt hk, fun k hk => no_lt hk, fun k hk => no_lt hk⟩, tp0_v⟩⟩
