/-! the law's loop, on the machine -/
section WJ
variable {xs : List Int32}
theorem kt9 {j : Nat} (hj : j < xs.length) (hl : xs.length ≤ 3584) : ktI xs 9 (nI j) = some (xs.getD j 0) := by
  show (if nI j < 0 then none else xs[(nI j).toNatClampNeg]?) = _
  rw [if_neg (by rw [show (0 : Int32) = nI 0 from rfl, nI_lt_eq (by omega) (by omega)]; omega), nI_clamp (by omega), List.getD_eq_getElem?_getD, List.getElem?_eq_getElem hj]
  rfl
theorem len9 : ktlen xs 9 = some xs.length := rfl
theorem neg7 {n j : Nat} (hn : n ≤ 3584) (hj : j ≤ 3584) : ((Int32.ofNat n) - ((Int8.ofInt 7).toInt32) < nI j) = (n < j + 7) := by
  rw [show ((Int8.ofInt 7).toInt32) = nI 7 from by decide, show Int32.ofNat n = nI n from rfl]
  by_cases h : 7 ≤ n
  · obtain ⟨k, rfl⟩ : ∃ k, n = k + 7 := ⟨n - 7, by omega⟩
    rw [show nI (k + 7) - nI 7 = nI k from by rw [← nI_add, Int32.add_sub_cancel], nI_lt_eq (by omega) (by omega)]
    exact propext ⟨fun q => by omega, fun q => by omega⟩
  · refine propext ⟨fun _ => by omega, fun _ => ?_⟩
    have key : ∀ k : Fin 7, (nI k.val - nI 7).toInt < 0 := by decide
    rw [Int32.lt_iff_toInt_lt, nI_toInt (by omega)]
    have := key ⟨n, by omega⟩
    have e : ((⟨n, by omega⟩ : Fin 7).val) = n := rfl
    rw [e] at this
    omega
theorem lwK_at {t : Nat} (h : 7 * t + 7 ≤ xs.length) (hl : xs.length ≤ 3584) : lwK xs (nI (7 * t)) (xs.getD (7 * t + 1) 0) (xs.getD (7 * t + 2) 0) (xs.getD (7 * t + 3) 0) (xs.getD (7 * t + 4) 0) (xs.getD (7 * t + 5) 0) (xs.getD (7 * t + 6) 0) := by
  refine ⟨?_, ?_, ?_, ?_, ?_, ?_⟩
  · rw [show (1 : Int32) = nI 1 from rfl, nI_add]; exact kt9 (by omega) hl
  · rw [show (2 : Int32) = nI 2 from rfl, nI_add]; exact kt9 (by omega) hl
  · rw [show (3 : Int32) = nI 3 from rfl, nI_add]; exact kt9 (by omega) hl
  · rw [show (4 : Int32) = nI 4 from rfl, nI_add]; exact kt9 (by omega) hl
  · rw [show (5 : Int32) = nI 5 from rfl, nI_add]; exact kt9 (by omega) hl
  · rw [show ((Int8.ofInt 6).toInt32) = nI 6 from by decide, nI_add]; exact kt9 (by omega) hl
/-- the way out -/
def kxE (pc : Nat) : Bool := Nat.beq pc 1526
theorem yE_23 (n d : Nat) (l1 l2 l3 : Nat) (l4 : Int32) (w : KW) (P : Nat → KL → List Value → KW → Prop) : kEx kxE xs (n + 6) d 288 23 [some (.retAddr 9), some (.ref l1), some (.ref l2), some (.ref l3), some (.int l4), none, none] [] w P = (kO (ktlen xs 9) fun k1 => (if (((Int32.ofNat k1) - ((Int8.ofInt 7).toInt32)) : Int32) < l4 then kEx kxE xs (n + 0) d 288 1525 [none, none, none, none, none, none, none] [] w P else kEx kxE xs (n + 0) d 288 33 [some (.retAddr 9), some (.ref l1), some (.ref l2), some (.ref l3), some (.int l4), none, none] [] w P)) := rfl
theorem yE_1525 (n d : Nat) (w : KW) (P : Nat → KL → List Value → KW → Prop) : kEx kxE xs (n + 1) d 288 1525 [none, none, none, none, none, none, none] [] w P = P 1526 [none, none, none, none, none, none, none] [.int 1] w := rfl
end WJ
section WK
variable {xs : List Int32} {l : Launch} {D : va_G} {dA : Nat → ClassId} {b : Nat} {z : Nat → Nat} {d : Nat} {p : Program} {e : Env} {R : Room} {s : State} {m : MethodId} {args : Array Value} {below : List Frame} {meth : Method} {c : Code} {Qs : State → Prop}
theorem kmm_len {I : Nat → Nat → Int32} {J : Nat → Nat → Int64} {rf : Nat → Nat} : (kmm I J rf 0).length = 209 := by
  unfold kmm
  rw [List.length_append, List.length_map, List.length_range, List.length_replicate]
/-- what a call of the law's own rests does -/
def kRest (xs : List Int32) (l : Launch) (D : va_G) (dA : Nat → ClassId) (b : Nat) (z : Nat → Nat) (p : Program) (e : Env) (R : Room) (s : State) (m : MethodId) (args : Array Value) (below : List Frame) (meth : Method) (c : Code) (Qs : State → Prop) : Prop :=
  ∀ (I : Nat → Nat → Int32) (J : Nat → Nat → Int64) (rf : Nat → Nat) (a1 a2 a3 a4 i : Int32) (cells slots : Nat) (H : Heap) (locs : List Loc) (ls : Array Slot), cells + 1 ≤ R.cells → slots + 6 ≤ R.slots → va_P D vwCl (kws b z dA (kmm I J rf 0)) H → va_S (kA b) s.heap H locs → kLh b z ls (lwL i) →
    (∀ (J' : Nat → Nat → Int64) (cells' slots' : Nat) (H' : Heap) (locs' : List Loc) (ls' : Array Slot), (∀ x k, x ≠ 208 → J' x k = J x k) → (∀ v, aRst a1 a2 a3 a4 = some v → J' 208 0 = v.toInt64) → cells' ≤ cells + 1 → slots' ≤ slots + 6 → va_P D vwCl (kws b z dA (kmm I J' rf 0)) H' → va_S (kA b) s.heap H' locs' → kLh b z ls' (lwL i) → W p l e R s m args below meth c H' locs' cells' slots' Qs (F0 m 1329 ls' ([Value.int (rsT (aRst a1 a2 a3 a4))].map (kpi b z)))) →
    W p l e R s m args below meth c H locs cells slots Qs (F0 m 1326 ls ([Value.ref 208, .int a4, .int a3, .int a2, .int a1, .ref 0].map (kpi b z)))
def kEnd (l : Launch) (b : Nat) (z : Nat → Nat) (p : Program) (e : Env) (R : Room) (s : State) (m : MethodId) (args : Array Value) (below : List Frame) (meth : Method) (c : Code) (Qs : State → Prop) : Prop :=
  ∀ (cells slots : Nat) (H : Heap) (locs : List Loc) (ls : Array Slot), cells ≤ R.cells → slots ≤ R.slots → va_S (kA b) s.heap H locs → W p l e R s m args below meth c H locs cells slots Qs (F0 m 1526 ls ([Value.int 1].map (kpi b z)))
theorem wAl.out {I : Nat → Nat → Int32} {J J' : Nat → Nat → Int64} {rf : Nat → Nat} {A : aW} (h : wAl I J rf A) (hJ : ∀ x k, x ≠ 208 → J' x k = J x k) : wAl I J' rf A := by
  obtain ⟨nm, no, hn⟩ := h.m.nm
  exact ⟨h.c.cell (fun _ _ _ => rfl) (fun x k hx => hJ x k (by omega)), ⟨h.m.m, h.m.bg, ⟨nm, no, ⟨hn.m, hn.l, fun k hk => by rw [hJ _ _ (by omega)]; exact hn.n k hk, hn.o⟩⟩, h.m.ln, h.m.tp, fun w hw => by rw [hJ _ _ (by omega)]; exact h.m.wd w hw, h.m.zf⟩, h.v⟩
theorem law_loop (C : kCx xs D dA b z (d + 40) 288 p R s m args meth c) (hl : xs.length ≤ 3584) {S0 : Nat} (hc : 209 + 513 ≤ R.cells) (hs : S0 + 6 * 513 ≤ R.slots) (hR : kRest xs l D dA b z p e R s m args below meth c Qs) (hE : kEnd l b z p e R s m args below meth c Qs) : ∀ n t, xs.length ≤ 7 * t + 7 * n → 7 * t ≤ 3584 → ∀ (I : Nat → Nat → Int32) (J : Nat → Nat → Int64) (rf : Nat → Nat) (A : aW), wAl I J rf A → ∀ (cells slots : Nat) (H : Heap) (locs : List Loc) (ls : Array Slot), cells ≤ 209 + t → slots ≤ S0 + 6 * t → va_P D vwCl (kws b z dA (kmm I J rf 0)) H → va_S (kA b) s.heap H locs → kLh b z ls (lwL (nI (7 * t))) → W p l e R s m args below meth c H locs cells slots Qs (F0 m 23 ls []) := by
  have fin : ∀ t, xs.length < 7 * t + 7 → 7 * t ≤ 3584 → ∀ (I : Nat → Nat → Int32) (J : Nat → Nat → Int64) (rf : Nat → Nat) (A : aW), wAl I J rf A → ∀ (cells slots : Nat) (H : Heap) (locs : List Loc) (ls : Array Slot), cells ≤ 209 + t → slots ≤ S0 + 6 * t → va_P D vwCl (kws b z dA (kmm I J rf 0)) H → va_S (kA b) s.heap H locs → kLh b z ls (lwL (nI (7 * t))) → W p l e R s m args below meth c H locs cells slots Qs (F0 m 23 ls []) := by
    intro t ht ht2 I J rf A h cells slots H locs ls hcl hsl hP hS hL
    have hx : kEx kxE xs (0 + 1 + 6) (d + 40) 288 23 (lwL (nI (7 * t))) [] (kmm I J rf 0) (fun pc _ st w => pc = 1526 ∧ st = [.int 1] ∧ w = kmm I J rf 0) := by
      rw [yE_23, len9, kO_s, if_pos (by rw [neg7 hl ht2]; exact ht)]
      exact ⟨rfl, rfl, rfl⟩
    obtain ⟨pc', L', st', w', ⟨rfl, rfl, rfl⟩, g1, g2⟩ := ksoundX kxE xs l D dA b z _ _ _ _ _ _ _ _ hx
    obtain ⟨g3, g4⟩ := g2 rfl
    exact g4 p e R s m args below meth c Qs cells slots C rfl (by omega) (by omega) H locs ls hP hS hL (fun H' locs' ls' hP' hS' hL' => hE cells slots H' locs' ls' (by omega) (by omega) hS')
  intro n
  induction n with
  | zero => exact fun t h1 h2 I J rf A h => fin t (by omega) h2 I J rf A h
  | succ n ih =>
    intro t h1 h2 I J rf A h cells slots H locs ls hcl hsl hP hS hL
    by_cases q : xs.length < 7 * t + 7
    · exact fin t q h2 I J rf A h cells slots H locs ls hcl hsl hP hS hL
    · have hk := lwK_at (xs := xs) (t := t) (by omega) hl
      have k0 : ktI xs 9 (nI (7 * t)) = some (xs.getD (7 * t) 0) := kt9 (by omega) hl
      have e7 : nI (7 * t) + Int32.ofInt 7 = nI (7 * (t + 1)) := by rw [show Int32.ofInt 7 = nI 7 from rfl, nI_add, show 7 * t + 7 = 7 * (t + 1) from by omega]
      generalize xs.getD (7 * t) 0 = a0 at k0
      generalize xs.getD (7 * t + 1) 0 = a1 at hk
      generalize xs.getD (7 * t + 2) 0 = a2 at hk
      generalize xs.getD (7 * t + 3) 0 = a3 at hk
      generalize xs.getD (7 * t + 4) 0 = a4 at hk
      generalize xs.getD (7 * t + 5) 0 = a5 at hk
      generalize xs.getD (7 * t + 6) 0 = a6 at hk
      have hy : kY kx288 xs (d + 40) 288 23 (lwL (nI (7 * t))) [] (kmm I J rf 0) (fun pc L st w => (pc = 23 ∧ L = lwL (nI (7 * (t + 1))) ∧ st = [] ∧ ∃ I' J' rf' A', wAl I' J' rf' A' ∧ w = kmm I' J' rf' 0) ∨ (pc = 1326 ∧ L = lwL (nI (7 * t)) ∧ st = [.ref 208, .int a4, .int a3, .int a2, .int a1, .ref 0] ∧ w = kmm I J rf 0)) := by
        rw [Y288_23, len9, kO_s, if_neg (by rw [neg7 hl h2]; exact q)]
        refine law_step h k0 hk (fun I' J' rf' A' h' => Or.inl ⟨rfl, by rw [e7], rfl, I', J', rf', A', h', rfl⟩) (Or.inr ⟨rfl, rfl, rfl, rfl⟩)
      obtain ⟨n1, hx⟩ := hy
      obtain ⟨pc', L', st', w', hw, g1, g2⟩ := ksoundX kx288 xs l D dA b z _ _ _ _ _ _ _ _ hx
      rcases hw with ⟨rfl, rfl, rfl, I', J', rf', A', h', rfl⟩ | ⟨rfl, rfl, rfl, rfl⟩
      · obtain ⟨g3, g4⟩ := g2 (by rw [kmm_len, kmm_len])
        exact g4 p e R s m args below meth c Qs cells slots C rfl (by omega) (by omega) H locs ls hP hS hL (fun H' locs' ls' hP' hS' hL' => ih (t + 1) (by omega) (by omega) I' J' rf' A' h' cells slots H' locs' ls' (by omega) (by omega) hP' hS' hL')
      · obtain ⟨g3, g4⟩ := g2 rfl
        refine g4 p e R s m args below meth c Qs cells slots C rfl (by omega) (by omega) H locs ls hP hS hL (fun H' locs' ls' hP' hS' hL' => ?_)
        refine hR I J rf a1 a2 a3 a4 (nI (7 * t)) cells slots H' locs' ls' (by omega) (by omega) hP' hS' hL' (fun J2 cells2 slots2 H2 locs2 ls2 hJ1 hJ2 hc2 hs2 hP2 hS2 hL2 => ?_)
        have h2' := h.out hJ1
        have hy2 : kY kx288 xs (d + 40) 288 1329 (lwL (nI (7 * t))) [.int (rsT (aRst a1 a2 a3 a4))] (kmm I J2 rf 0) (fun pc L st w => pc = 23 ∧ L = lwL (nI (7 * (t + 1))) ∧ st = [] ∧ ∃ I' J' rf' A', wAl I' J' rf' A' ∧ w = kmm I' J' rf' 0) := st_38b h2' hk (fun I' J' rf' A' h' => ⟨rfl, by rw [e7], rfl, I', J', rf', A', h', rfl⟩) hJ2
        obtain ⟨n2, hx2⟩ := hy2
        obtain ⟨pc2, L2, st2, w2, ⟨rfl, rfl, rfl, I', J', rf', A', h', rfl⟩, f1, f2⟩ := ksoundX kx288 xs l D dA b z _ _ _ _ _ _ _ _ hx2
        obtain ⟨f3, f4⟩ := f2 (by rw [kmm_len, kmm_len])
        exact f4 p e R s m args below meth c Qs cells2 slots2 C rfl (by omega) (by omega) H2 locs2 ls2 hP2 hS2 hL2 (fun H' locs' ls' hP' hS' hL' => ih (t + 1) (by omega) (by omega) I' J' rf' A' h' cells2 slots2 H' locs' ls' (by omega) (by omega) hP' hS' hL')
end WK
