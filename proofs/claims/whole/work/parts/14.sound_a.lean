/-! THE LOGICAL MACHINE IS THE MACHINE: the pictures. b: where the law's own cells begin; z: where the static rows lie. -/
def kpi (b : Nat) (z : Nat → Nat) (v : Value) : Value := match v with
  | .ref i => .ref (b + i)
  | .retAddr k => .ref (z k)
  | v => v
theorem kpi_cat (b : Nat) (z : Nat → Nat) (v : Value) : (kpi b z v).category = v.category := by cases v <;> rfl
def kEl (b : Nat) (z : Nat → Nat) (dA : Nat → ClassId) (c : KC) : va_E := match c with
  | .inl o => .inr (o.1, o.2.map (kpi b z))
  | .inr (t, .inl xs) => .inl (dA t, xs.length, .inl (fun j => xs.getD j 0))
  | .inr (t, .inr (.inl xs)) => .inl (dA t, xs.length, .inr (.inl (fun j => xs.getD j 0)))
  | .inr (t, .inr (.inr xs)) => .inl (dA t, xs.length, .inr (.inr (.inr (.inr (fun j => (xs.getD j none).map (fun i => b + i))))))
def kws (b : Nat) (z : Nat → Nat) (dA : Nat → ClassId) (w : KW) : va_W := w.mapIdx (fun i c => (b + i, kEl b z dA c))
def kA (b : Nat) : Nat → Prop := fun q => b ≤ q
theorem kws_get {b : Nat} {z : Nat → Nat} {dA : Nat → ClassId} {w : KW} {i : Nat} {c : KC} (h : w[i]? = some c) : (kws b z dA w)[i]? = some (b + i, kEl b z dA c) := by
  simp [kws, List.getElem?_mapIdx, h]
theorem kws_at {b : Nat} {z : Nat → Nat} {dA : Nat → ClassId} {w : KW} {i : Nat} {p : Nat × va_E} (h : (kws b z dA w)[i]? = some p) : ∃ c, w[i]? = some c ∧ p = (b + i, kEl b z dA c) := by
  simp only [kws, List.getElem?_mapIdx, Option.map_eq_some_iff] at h
  obtain ⟨c, h1, h2⟩ := h
  exact ⟨c, h1, h2.symm⟩
theorem kws_set (b : Nat) (z : Nat → Nat) (dA : Nat → ClassId) (w : KW) (i : Nat) (c : KC) : (kws b z dA w).set i (b + i, kEl b z dA c) = kws b z dA (w.set i c) := by
  apply List.ext_getElem?
  intro j
  simp only [kws, List.getElem?_set, List.getElem?_mapIdx, List.length_mapIdx]
  by_cases h : i = j
  · subst h
    by_cases h2 : i < w.length
    · simp [h2]
    · simp [h2]
  · simp [h]
theorem kws_app (b : Nat) (z : Nat → Nat) (dA : Nat → ClassId) (w : KW) (c : KC) : kws b z dA (w ++ [c]) = kws b z dA w ++ [(b + w.length, kEl b z dA c)] := by
  simp [kws, List.mapIdx_append]
theorem kws_D (b : Nat) (z : Nat → Nat) (dA : Nat → ClassId) (w : KW) : va_D (kA b) (kws b z dA w) := by
  refine ⟨fun i j p q hi hj h => ?_, fun k q h => ?_⟩
  · obtain ⟨c, -, rfl⟩ := kws_at hi
    obtain ⟨c', -, rfl⟩ := kws_at hj
    have h : b + i = b + j := h
    omega
  · obtain ⟨c, -, rfl⟩ := kws_at h
    exact Nat.le_add_right b k
/-- slots -/
def kslt (c : KC) : Nat := match c with
  | .inl o => o.2.length
  | .inr (_, .inl xs) => xs.length
  | .inr (_, .inr (.inl xs)) => xs.length
  | .inr (_, .inr (.inr xs)) => xs.length
def ksl (w : KW) : Nat := (w.map kslt).sum
theorem ksl_set {w : KW} {i : Nat} {c c' : KC} (h : w[i]? = some c) (e : kslt c' = kslt c) : ksl (w.set i c') = ksl w := by
  have : (w.set i c').map kslt = w.map kslt := by
    apply List.ext_getElem?
    intro j
    simp only [List.getElem?_map, List.getElem?_set]
    by_cases hj : i = j
    · subst hj
      obtain ⟨hi, hc⟩ := List.getElem?_eq_some_iff.mp h
      simp [hi, e, ← hc]
    · simp [hj]
  rw [ksl, this, ksl]
theorem ksl_app (w : KW) (c : KC) : ksl (w ++ [c]) = ksl w + kslt c := by simp [ksl]
/-! local variables -/
def kpr (b : Nat) (z : Nat → Nat) : Nat → KL → List (Nat × Value)
  | _, [] => []
  | i, none :: L => kpr b z (i + 1) L
  | i, some v :: L => (i, kpi b z v) :: kpr b z (i + 1) L
theorem kpr_mem (b : Nat) (z : Nat → Nat) (L : KL) : ∀ (i j : Nat) (u : Value), (j, u) ∈ kpr b z i L ↔ ∃ k v, j = i + k ∧ L[k]? = some (some v) ∧ u = kpi b z v := by
  induction L with
  | nil => intro i j u; simp [kpr]
  | cons x L ih =>
    intro i j u
    cases x with
    | none =>
      simp only [kpr, ih]
      constructor
      · rintro ⟨k, v, h1, h2, h3⟩
        exact ⟨k + 1, v, by omega, by simpa using h2, h3⟩
      · rintro ⟨k, v, h1, h2, h3⟩
        cases k with
        | zero => simp at h2
        | succ k => exact ⟨k, v, by omega, by simpa using h2, h3⟩
    | some y =>
      simp only [kpr, List.mem_cons, Prod.mk.injEq, ih]
      constructor
      · rintro (⟨h1, h2⟩ | ⟨k, v, h1, h2, h3⟩)
        · exact ⟨0, y, by omega, by simp, h2⟩
        · exact ⟨k + 1, v, by omega, by simpa using h2, h3⟩
      · rintro ⟨k, v, h1, h2, h3⟩
        cases k with
        | zero =>
          simp at h2
          subst h2
          exact Or.inl ⟨by omega, h3⟩
        | succ k => exact Or.inr ⟨k, v, by omega, by simpa using h2, h3⟩
def kLh (b : Nat) (z : Nat → Nat) (ls : Array Slot) (L : KL) : Prop := lv_has ls L.length (kpr b z 0 L)
theorem kld_some {L : KL} {i : Nat} {v : Value} (h : kld L i = some v) : L[i]? = some (some v) := by
  unfold kld at h
  split at h
  · rename_i u hu
    cases h
    exact hu
  · cases h
theorem kLh.get {b : Nat} {z : Nat → Nat} {ls : Array Slot} {L : KL} {i : Nat} {v : Value} (h : kLh b z ls L) (hl : kld L i = some v) : ls[i]? = some (.val (kpi b z v)) :=
  h.2.2 (i, kpi b z v) ((kpr_mem b z L 0 i _).mpr ⟨i, v, by omega, kld_some hl, rfl⟩)
theorem kLh.sub {b : Nat} {z : Nat → Nat} {ls : Array Slot} {L L' : KL} {lv : List (Nat × Value)} (h : lv_has ls L.length lv) (hn : L'.length = L.length) (hs : ∀ (k : Nat) (v : Value), L'[k]? = some (some v) → (k, kpi b z v) ∈ lv) : kLh b z ls L' := by
  refine ⟨by rw [hn]; exact h.1, h.2.1, fun q hq => ?_⟩
  obtain ⟨j, u⟩ := q
  obtain ⟨k, v, h1, h2, h3⟩ := (kpr_mem b z L' 0 j u).mp hq
  subst h3
  rw [show j = k by omega]
  exact h.2.2 _ (hs k v h2)
theorem kclr1_len (L : KL) : ∀ i, (kclr1 L i).length = L.length := by
  induction L with
  | nil => intro i; rfl
  | cons x L ih => intro i; cases i <;> simp [kclr1, ih]
theorem kclr1_get (L : KL) : ∀ (i k : Nat) (v : Value), (kclr1 L i)[k]? = some (some v) → L[k]? = some (some v) := by
  induction L with
  | nil => intro i k v h; exact h
  | cons x L ih =>
    intro i k v h
    cases i with
    | zero => cases k <;> simp_all [kclr1]
    | succ i =>
      cases k with
      | zero => simpa [kclr1] using h
      | succ k => simpa using ih i k v (by simpa [kclr1] using h)
theorem kLh.clr {b : Nat} {z : Nat → Nat} {ls : Array Slot} (ps : List Nat) : ∀ {L : KL}, kLh b z ls L → kLh b z ls (kclr ps L) := by
  induction ps with
  | nil => intro L h; exact h
  | cons i ps ih =>
    intro L h
    exact ih (kLh.sub h (kclr1_len L i) fun k v hk => (kpr_mem b z L 0 k _).mpr ⟨k, v, by omega, kclr1_get L i k v hk, rfl⟩)
theorem kst1_spec (v : Value) : ∀ (L : KL) (i : Nat) (L' : KL), kst1 L i v = some L' → L'.length = L.length ∧ i < L.length ∧ ∀ (k : Nat) (u : Value), L'[k]? = some (some u) → (k = i ∧ u = v) ∨ (k ≠ i ∧ L[k]? = some (some u) ∧ ¬ (k + 1 = i ∧ u.category = 2)) := by
  intro L
  induction L with
  | nil => intro i L' h; simp [kst1] at h
  | cons x L ih =>
    intro i L' h
    match i, h with
    | 0, h =>
      simp only [kst1, Option.some.injEq] at h
      subst h
      refine ⟨rfl, by simp, fun k u hk => ?_⟩
      cases k with
      | zero => simp at hk; exact Or.inl ⟨rfl, hk.symm⟩
      | succ k => exact Or.inr ⟨by omega, by simpa using hk, by omega⟩
    | 1, h =>
      simp only [kst1, Option.map_eq_some_iff] at h
      obtain ⟨L1, h1, rfl⟩ := h
      obtain ⟨a, b, c⟩ := ih 0 L1 h1
      refine ⟨by simp [a], by simp only [List.length_cons]; omega, fun k u hk => ?_⟩
      cases k with
      | zero =>
        refine Or.inr ⟨by omega, ?_, ?_⟩
        · cases hx : kislong x
          · simpa [hx] using hk
          · simp [hx] at hk
        · rintro ⟨-, hc⟩
          cases hx : kislong x
          · simp [hx] at hk
            subst hk
            simp [kislong, hc] at hx
          · simp [hx] at hk
      | succ k =>
        rcases c k u (by simpa using hk) with ⟨e1, e2⟩ | ⟨e1, e2, e3⟩
        · exact Or.inl ⟨by omega, e2⟩
        · exact Or.inr ⟨by omega, by simpa using e2, by omega⟩
    | i + 2, h =>
      simp only [kst1, Option.map_eq_some_iff] at h
      obtain ⟨L1, h1, rfl⟩ := h
      obtain ⟨a, b, c⟩ := ih (i + 1) L1 h1
      refine ⟨by simp [a], by simp only [List.length_cons]; omega, fun k u hk => ?_⟩
      cases k with
      | zero => exact Or.inr ⟨by omega, by simpa using hk, by omega⟩
      | succ k =>
        rcases c k u (by simpa using hk) with ⟨e1, e2⟩ | ⟨e1, e2, e3⟩
        · exact Or.inl ⟨by omega, e2⟩
        · exact Or.inr ⟨by omega, by simpa using e2, fun hq => e3 ⟨by omega, hq.2⟩⟩
theorem kst2_spec (v : Value) : ∀ (L : KL) (i : Nat) (L' : KL), kst2 L i v = some L' → L'.length = L.length ∧ i + 1 < L.length ∧ ∀ (k : Nat) (u : Value), L'[k]? = some (some u) → (k = i ∧ u = v) ∨ (k ≠ i ∧ k ≠ i + 1 ∧ L[k]? = some (some u) ∧ ¬ (k + 1 = i ∧ u.category = 2)) := by
  intro L
  induction L with
  | nil => intro i L' h; simp [kst2] at h
  | cons x L ih =>
    intro i L' h
    match L, i, h, ih with
    | [], i, h, ih => simp [kst2] at h
    | y :: L, 0, h, ih =>
      simp only [kst2, Option.some.injEq] at h
      subst h
      refine ⟨rfl, by simp, fun k u hk => ?_⟩
      match k, hk with
      | 0, hk => simp at hk; exact Or.inl ⟨rfl, hk.symm⟩
      | 1, hk => simp at hk
      | k + 2, hk => exact Or.inr ⟨by omega, by omega, by simpa using hk, by omega⟩
    | y :: L, 1, h, ih =>
      simp only [kst2, Option.map_eq_some_iff] at h
      obtain ⟨L1, h1, rfl⟩ := h
      obtain ⟨a, b, c⟩ := ih 0 L1 h1
      refine ⟨by simp only [List.length_cons] at a ⊢; omega, by simp only [List.length_cons] at b ⊢; omega, fun k u hk => ?_⟩
      cases k with
      | zero =>
        refine Or.inr ⟨by omega, by omega, ?_, ?_⟩
        · cases hx : kislong x
          · simpa [hx] using hk
          · simp [hx] at hk
        · rintro ⟨-, hc⟩
          cases hx : kislong x
          · simp [hx] at hk
            subst hk
            simp [kislong, hc] at hx
          · simp [hx] at hk
      | succ k =>
        rcases c k u (by simpa using hk) with ⟨e1, e2⟩ | ⟨e1, e0, e2, e3⟩
        · exact Or.inl ⟨by omega, e2⟩
        · exact Or.inr ⟨by omega, by omega, by simpa using e2, by omega⟩
    | y :: L, i + 2, h, ih =>
      simp only [kst2, Option.map_eq_some_iff] at h
      obtain ⟨L1, h1, rfl⟩ := h
      obtain ⟨a, b, c⟩ := ih (i + 1) L1 h1
      refine ⟨by simp only [List.length_cons] at a ⊢; omega, by simp only [List.length_cons] at b ⊢; omega, fun k u hk => ?_⟩
      cases k with
      | zero => exact Or.inr ⟨by omega, by omega, by simpa using hk, by omega⟩
      | succ k =>
        rcases c k u (by simpa using hk) with ⟨e1, e2⟩ | ⟨e1, e0, e2, e3⟩
        · exact Or.inl ⟨by omega, e2⟩
        · exact Or.inr ⟨by omega, by omega, by simpa using e2, fun hq => e3 ⟨by omega, hq.2⟩⟩
/-- behind a store of one word, as the kit's rows have the list -/
theorem kLh.st1 {b : Nat} {z : Nat → Nat} {ls' : Array Slot} {L L' : KL} {i : Nat} {v : Value} (hk : kst1 L i v = some L') (h : lv_has ls' L.length ((i, kpi b z v) :: (kpr b z 0 L).filter (fun q => !(q.1 == i) && !(q.1 + 1 == i && q.2.category == 2)))) : kLh b z ls' L' := by
  obtain ⟨h1, -, h3⟩ := kst1_spec v L i L' hk
  refine kLh.sub h h1 fun k u hu => ?_
  rcases h3 k u hu with ⟨rfl, rfl⟩ | ⟨e1, e2, e3⟩
  · exact List.mem_cons_self
  · refine List.mem_cons_of_mem _ (List.mem_filter.mpr ⟨(kpr_mem b z L 0 k _).mpr ⟨k, u, by omega, e2, rfl⟩, ?_⟩)
    simp only [Bool.and_eq_true, Bool.not_eq_true', beq_eq_false_iff_ne, ne_eq, Bool.and_eq_false_iff, kpi_cat]
    refine ⟨e1, ?_⟩
    by_cases hq : k + 1 = i
    · exact Or.inr (fun hc => e3 ⟨hq, hc⟩)
    · exact Or.inl hq
theorem kLh.st2 {b : Nat} {z : Nat → Nat} {ls' : Array Slot} {L L' : KL} {i : Nat} {v : Value} (hk : kst2 L i v = some L') (h : lv_has ls' L.length ((i, kpi b z v) :: (kpr b z 0 L).filter (fun q => !(q.1 == i) && (!(q.1 == i + 1) && !(q.1 + 1 == i && q.2.category == 2))))) : kLh b z ls' L' := by
  obtain ⟨h1, -, h3⟩ := kst2_spec v L i L' hk
  refine kLh.sub h h1 fun k u hu => ?_
  rcases h3 k u hu with ⟨rfl, rfl⟩ | ⟨e1, e0, e2, e3⟩
  · exact List.mem_cons_self
  · refine List.mem_cons_of_mem _ (List.mem_filter.mpr ⟨(kpr_mem b z L 0 k _).mpr ⟨k, u, by omega, e2, rfl⟩, ?_⟩)
    simp only [Bool.and_eq_true, Bool.not_eq_true', beq_eq_false_iff_ne, ne_eq, Bool.and_eq_false_iff, kpi_cat]
    refine ⟨e1, e0, ?_⟩
    by_cases hq : k + 1 = i
    · exact Or.inr (fun hc => e3 ⟨hq, hc⟩)
    · exact Or.inl hq
/-- the entry -/
theorem kent_len : ∀ (vs : List Value) (n : Nat), kcat vs ≤ n → (kent vs n).length = n := by
  intro vs
  induction vs with
  | nil => intro n _; simp [kent]
  | cons v vs ih =>
    intro n h
    simp only [kcat] at h
    cases v <;> simp only [kent, List.length_cons, Value.category] at h ⊢ <;> rw [ih _ (by omega)] <;> omega
theorem kent_args (b : Nat) (z : Nat → Nat) : ∀ (vs : List Value) (n i : Nat), kpr b z i (kent vs n) = lv_args i (vs.map (kpi b z)) := by
  intro vs
  induction vs with
  | nil =>
    intro n i
    have : ∀ (n i : Nat), kpr b z i (List.replicate n none) = [] := by
      intro n
      induction n with
      | zero => intro i; rfl
      | succ n ih => intro i; simp [List.replicate_succ, kpr, ih]
    simp [kent, lv_args, this]
  | cons v vs ih =>
    intro n i
    cases v <;> simp [kent, kpr, lv_args, kpi, Value.category, ih]
theorem lg_sl_len (b : Nat) (z : Nat → Nat) (vs : List Value) : (lg_sl (vs.map (kpi b z))).length = kcat vs := by
  induction vs with
  | nil => rfl
  | cons v vs ih =>
    have h : (lg_sl ((v :: vs).map (kpi b z))).length = (if (kpi b z v).category = 2 then 2 else 1) + (lg_sl (vs.map (kpi b z))).length := by
      simp only [lg_sl, List.map_cons, List.flatMap_cons, List.length_append]
      split <;> rfl
    rw [h, ih, kpi_cat, kcat]
    cases v <;> simp [Value.category]
