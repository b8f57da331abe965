/-! A RUN FROM ONE PLACE OF A METHOD TO ANOTHER: X names the places where it ends -/
def kEx (X : Nat → Bool) (xs : List Int32) : Nat → Nat → Nat → Nat → KL → List Value → KW → (Nat → KL → List Value → KW → Prop) → Prop
  | 0, _, _, _, _, _, _, _ => False
  | n + 1, d, m, pc, L, st, w, P => kO (kcode m pc) fun c => kstep xs m d c.1 c.2 pc L st w (fun pc' L' st' w' => bif X pc' then P pc' (kclr (kmk m pc') L') st' w' else kEx X xs n d m pc' (kclr (kmk m pc') L') st' w' P) (fun _ => False) (fun m' as st' => match d with
    | 0 => False
    | d' + 1 => kE xs n d' m' 0 (kent as (kmax m')) [] w (fun r w' => kEx X xs n d m (pc + c.2) (kclr (kmk m (pc + c.2)) L) (kpush r st') w' P))
theorem kEx_out {X : Nat → Bool} {xs : List Int32} : ∀ (n d m pc : Nat) (L : KL) (st : List Value) (w : KW) (P : Nat → KL → List Value → KW → Prop), kEx X xs n d m pc L st w P → ∃ a b c e, P a b c e ∧ ∀ (n' : Nat) (P' : Nat → KL → List Value → KW → Prop), n ≤ n' → P' a b c e → kEx X xs n' d m pc L st w P' := by
  intro n
  induction n with
  | zero => intro d m pc L st w P h; exact h.elim
  | succ n ih =>
    intro d m pc L st w P h
    obtain ⟨c, hc, h⟩ := kO_some (show kO (kcode m pc) _ from h)
    have up : ∀ (n' : Nat) (P' : Nat → KL → List Value → KW → Prop), n + 1 ≤ n' → (∀ n1, n ≤ n1 → kstep xs m d c.1 c.2 pc L st w (fun pc' L' st' w' => bif X pc' then P' pc' (kclr (kmk m pc') L') st' w' else kEx X xs n1 d m pc' (kclr (kmk m pc') L') st' w' P') (fun _ => False) (fun m' as st' => match (generalizing := false) d with
      | 0 => False
      | d' + 1 => kE xs n1 d' m' 0 (kent as (kmax m')) [] w (fun r w' => kEx X xs n1 d m (pc + c.2) (kclr (kmk m (pc + c.2)) L) (kpush r st') w' P'))) → kEx X xs n' d m pc L st w P' := by
      intro n' P' hn hk
      obtain ⟨n1, rfl⟩ : ∃ n1, n' = n1 + 1 := ⟨n' - 1, by omega⟩
      show kO (kcode m pc) _
      rw [hc]
      exact hk n1 (by omega)
    rcases kstep_out h with ⟨a, b, c', e, h1, h2⟩ | ⟨r, h1, h2⟩ | ⟨a, b, c', h1, h2⟩
    · cases hX : X a with
      | true =>
        rw [hX] at h1
        refine ⟨a, _, c', e, h1, fun n' P' hn hQ => up n' P' hn fun n1 hn1 => ?_⟩
        rw [h2, hX]
        exact hQ
      | false =>
        rw [hX] at h1
        obtain ⟨a1, b1, c1, e1, g1, g2⟩ := ih _ _ _ _ _ _ _ h1
        refine ⟨a1, b1, c1, e1, g1, fun n' P' hn hQ => up n' P' hn fun n1 hn1 => ?_⟩
        rw [h2, hX]
        exact g2 n1 P' hn1 hQ
    · exact h1.elim
    · cases d with
      | zero => exact h1.elim
      | succ d =>
        obtain ⟨r1, w1, g1, g2⟩ := kE_out _ _ _ _ _ _ _ _ h1
        obtain ⟨a1, b1, c1, e1, f1, f2⟩ := ih _ _ _ _ _ _ _ g1
        exact ⟨a1, b1, c1, e1, f1, fun n' P' hn hQ => up n' P' hn fun n1 hn1 => by rw [h2]; exact g2 n1 _ hn1 (f2 n1 P' hn1 hQ)⟩
def kY (X : Nat → Bool) (xs : List Int32) (d m pc : Nat) (L : KL) (st : List Value) (w : KW) (P : Nat → KL → List Value → KW → Prop) : Prop := ∃ n, kEx X xs n d m pc L st w P
theorem ey_kE {X : Nat → Bool} {xs : List Int32} {d m pc : Nat} {L : KL} {st : List Value} {w : KW} {P : Nat → KL → List Value → KW → Prop} : (∃ n, kEx X xs (n + 0) d m pc L st w P) = kY X xs d m pc L st w P := rfl
theorem ey_call {X : Nat → Bool} {xs : List Int32} {d d' m pc m' : Nat} {L L' : KL} {st : List Value} {w : KW} {P : Nat → KL → List Value → KW → Prop} : (∃ n, kE xs (n + 0) d' m' 0 L' [] w (fun r w' => kEx X xs (n + 0) d m pc L (kpush r st) w' P)) = kX xs d' m' 0 L' [] w (fun r w' => kY X xs d m pc L (kpush r st) w' P) := by
  refine propext ⟨fun ⟨n, h⟩ => ?_, fun h => ?_⟩
  · obtain ⟨r, w', h1, h2⟩ := kE_out _ _ _ _ _ _ _ _ h
    exact ⟨n + 0, h2 (n + 0) _ (Nat.le_refl _) ⟨n + 0, h1⟩⟩
  · obtain ⟨n, h⟩ := h
    obtain ⟨r, w1, h1, h2⟩ := kE_out n _ _ _ _ _ _ _ h
    obtain ⟨n2, g⟩ := h1
    obtain ⟨a1, b1, c1, e1, g1, g2⟩ := kEx_out n2 _ _ _ _ _ _ _ g
    exact ⟨n + n2, h2 (n + n2 + 0) _ (by omega) (g2 (n + n2 + 0) P (by omega) g1)⟩
theorem kY_blk {X : Nat → Bool} {xs : List Int32} {d m pc : Nat} {L : KL} {st : List Value} {w : KW} {P : Nat → KL → List Value → KW → Prop} {F : Nat → Prop} {G : Prop} (K : Nat) (h : ∀ n, kEx X xs (n + K) d m pc L st w P = F n) (hP : (∃ n, F n) = G) : kY X xs d m pc L st w P = G := by
  rw [← hP]
  refine propext ⟨fun ⟨n, hn⟩ => ?_, fun ⟨n, hn⟩ => ⟨n + K, by rw [h n]; exact hn⟩⟩
  obtain ⟨a1, b1, c1, e1, g1, g2⟩ := kEx_out n _ _ _ _ _ _ _ hn
  exact ⟨n, by rw [← h n]; exact g2 (n + K) P (by omega) g1⟩
section KGX
variable {xs : List Int32} {l : Launch} {D : va_G} {dA : Nat → ClassId} {b : Nat} {z : Nat → Nat} {d mid pc : Nat} {L : KL} {st : List Value} {w : KW}
abbrev kGX (xs : List Int32) (l : Launch) (D : va_G) (dA : Nat → ClassId) (b : Nat) (z : Nat → Nat) (d mid : Nat) (pc : Nat) (L : KL) (st : List Value) (w : KW) (P : Nat → KL → List Value → KW → Prop) : Prop := ∃ pc' L' st' w', P pc' L' st' w' ∧ w.length ≤ w'.length ∧ (w'.length = w.length → L'.length = L.length ∧ kSt xs l D dA b z d mid pc L st w pc' L' st' w')
theorem kdoneX {P : Nat → KL → List Value → KW → Prop} {pc' : Nat} {ps : List Nat} {L' : KL} {st' : List Value} {w1 : KW} (g : kGX xs l D dA b z d mid pc' (kclr ps L') st' w1 P) (hst : kSt xs l D dA b z d mid pc L st w pc' L' st' w1) (e1 : w1.length = w.length) (e2 : ksl w1 = ksl w) (e3 : L'.length = L.length) : kGX xs l D dA b z d mid pc L st w P := by
  obtain ⟨p2, L2, s2, w2, hP2, g1, g⟩ := g
  refine ⟨p2, L2, s2, w2, hP2, by omega, fun e => ?_⟩
  obtain ⟨g0, g⟩ := g (by omega)
  refine ⟨by rw [g0, kclr_len, e3], ?_⟩
  intro p e R s m args below meth c Qs cells slots C hLn h5 h6 H locs ls hP hS hL kk
  exact hst p e R s m args below meth c _ cells slots C hLn h5 h6 H locs ls hP hS hL (fun H' locs' ls' hP' hS' hL' => g p e R s m args below meth c Qs cells slots C (by rw [kclr_len, e3]; exact hLn) h5 h6 H' locs' ls' hP' hS' (hL'.clr ps) kk)
theorem knewX {P : Nat → KL → List Value → KW → Prop} {w1 : KW} {pc' : Nat} {L' : KL} {st' : List Value} (g : kGX xs l D dA b z d mid pc' L' st' w1 P) (e1 : w1.length = w.length + 1) : kGX xs l D dA b z d mid pc L st w P := by
  obtain ⟨p2, L2, s2, w2, hP2, g1, g⟩ := g
  exact ⟨p2, L2, s2, w2, hP2, by omega, fun e => by omega⟩
theorem kX_nx {X : Nat → Bool} {n : Nat} {P : Nat → KL → List Value → KW → Prop} (ih : ∀ (d mid pc : Nat) (L : KL) (st : List Value) (w : KW) (P : Nat → KL → List Value → KW → Prop), kEx X xs n d mid pc L st w P → kGX xs l D dA b z d mid pc L st w P) (h : bif X pc then P pc L st w else kEx X xs n d mid pc L st w P) : kGX xs l D dA b z d mid pc L st w P := by
  cases hX : X pc with
  | true =>
    rw [hX] at h
    exact ⟨pc, L, st, w, h, Nat.le_refl _, fun _ => ⟨rfl, fun p e R s m args below meth c Qs cells slots C hLn h5 h6 H locs ls hP hS hL kk => kk H locs ls hP hS hL⟩⟩
  | false =>
    rw [hX] at h
    exact ih _ _ _ _ _ _ _ h
theorem kcallX {d mid pc m' k : Nat} {L : KL} {st as st' : List Value} {w w1 : KW} {r1 : Option Value} {i : Instr} (hm : m' < 288) (hi : kCallOk (kown mid) k m' w as i) (hst : as.reverse ++ st' = st) (hcat : kcat st' ≤ 8) (ha : kcat as ≤ kmax m') (hd : decode (kby mid) pc = .ok (i, 3)) (g1 : kGoN xs l D dA b z d m' 0 (kent as (kmax m')) [] w r1 w1) : kSt xs l D dA b z (d + 1) mid pc L st w (pc + 3) L (kpush r1 st') w1 := by
  intro p e R s m args below meth c Qs cells slots C hLn h5 h6 H locs ls hP hS hL kk
  obtain ⟨hx, hb, hr, hlk, hml, hown, hts, hin, hK, hZ, hfr, hlo⟩ := id C
  obtain ⟨k1, k2, k3, k4, k5, k6, k7, k8⟩ := km_ok hm
  have hM := kMetN_of (l := l) (D := D) (dA := dA) (b := b) (z := z) hm ha g1
  have hpre : ∀ U : State, U.heap = H → s.WarmedH U.vm → kPcN xs D dA b z as w (as.map (kpi b z)).toArray U := fun U hU hW => by
    refine ⟨rfl, by rw [hU]; exact hP, va_K.moved hW.alike hK, ?_⟩
    rw [hU]
    exact (hZ.kept (fun a q1 q2 => hS.2.1 a q1 q2)).warm hW
  have hsize : (F0 m pc ls (st.map (kpi b z))).locals.size = kmax mid := hL.1.trans hLn
  have hroom : (d + 1 ≤ R.frames) ∧ 8 + (kmax m' + 11) + 64 * d ≤ R.locals := ⟨by omega, by omega⟩
  have hWk : 2 * (F0 m pc ls (st.map (kpi b z))).monitorRoom + ((st'.map (kpi b z)).map fun v => v.category).sum ≤ 8 := by
    rw [kcat_sum]
    show 2 * 0 + kcat st' ≤ 8
    omega
  have hcell : cells + 0 ≤ R.cells ∧ slots + 0 ≤ R.slots := ⟨h5, h6⟩
  have fin : ∀ (H1 : Heap) (locs1 : List Loc), va_P D vwCl (kws b z dA w1) H1 → va_S (kA b) s.heap H1 locs1 → W p l e R s m args below meth c H1 locs1 (cells + 0) (slots + 0) Qs (F0 m (pc + 3) ls ((r1.map (kpi b z)).toList ++ st'.map (kpi b z))) := fun H1 locs1 hP1 hS1 => by
    rw [← kpush_map]
    exact kk H1 locs1 ls hP1 hS1 hL
  rcases hi with ⟨rfl, hs, hn, hlk2⟩ | ⟨rfl, hv, hn, ⟨r0, as', rfl, hrc⟩, hlk2⟩ | ⟨rfl, hi, hn, ⟨a0, as', rfl⟩, hlk2⟩
  · have hstack : (F0 m pc ls (st.map (kpi b z))).stack = (as.map (kpi b z)).reverse ++ st'.map (kpi b z) := by
      show st.map (kpi b z) = _
      rw [← hst, List.map_append, List.map_reverse]
    rcases hlk2 with hlk2 | ⟨q, hq, q1, q2, q3⟩
    · have cb := callB_of (R := R) (s := s) (args := args) (own := kR (kown mid)) (index := k) (rm := { frames := d, cells := 0, slots := 0, locals := 64 * d }) (ws' := kT) (knar m') hts (kT_goodIn hm) rfl rfl rfl (hts _ k2) (hts _ hlk2) ⟨k4, k5, k6⟩ hroom
      exact kcallO (va_runS ⟨hx, hb, hml, hown, hts⟩ hM ⟨cb, hts _ (km_s hm hs)⟩ ⟨kPcN_blind _ _ _ _ _ _ _, hpre⟩ rfl (by simpa using hn) hsize hstack hWk hd hcell) hS fin
    · have hnw : va_Nw (.methodLinkNest (kR (kown mid)) k (ky m') "SwapAssize") s := by
        have hnw := hZ.2.2.2.2.2.1 q hq
        rw [q1, q2, q3] at hnw
        exact hnw
      have cb := va_cnB (R := R) (s := s) (args := args) (own := kR (kown mid)) (host := "SwapAssize") (index := k) (rm := { frames := d, cells := 0, slots := 0, locals := 64 * d }) (ws' := kT) (knar m') hts (kT_goodIn hm) rfl rfl rfl hnw (hts _ k2) ⟨k4, k5, k6⟩ hroom
      exact kcallO (va_runSN ⟨hx, hb, hml, hown, hts⟩ hM ⟨cb, hts _ (km_s hm hs), trivial⟩ ⟨kPcN_blind _ _ _ _ _ _ _, hpre⟩ rfl (by simpa using hn) hsize hstack hWk hd hcell) hS fin
  · have hstack : ∀ q, kpi b z r0 = .ref q → (F0 m pc ls (st.map (kpi b z))).stack = (as'.map (kpi b z)).reverse ++ .ref q :: st'.map (kpi b z) := fun q hq => by
      show st.map (kpi b z) = _
      rw [← hst, ← hq]
      simp
    have cb := callB_of (R := R) (s := s) (args := args) (own := kR (kown mid)) (index := k) (rm := { frames := d, cells := 0, slots := 0, locals := 64 * d }) (ws' := kT) (knar m') hts (kT_goodIn hm) rfl rfl rfl (hts _ k2) (hts _ hlk2) ⟨k4, k5, k6⟩ hroom
    obtain ⟨kvA, kvB⟩ := km_v hm hv
    obtain ⟨q, hq, hcellq⟩ : ∃ q, kpi b z r0 = .ref q ∧ ∃ cellB : Cell, H[q]? = some cellB ∧ cellB.vm.isStatics = false ∧ s.vm.findClass (ky m').cls = some cellB.cls := by
      unfold krecv at hrc
      split at hrc
      · rename_i a0
        split at hrc
        · rename_i ci fs hw
          have hci := Nat.eq_of_beq_eq_true hrc
          have hlt : ci < 13 := by
            obtain ⟨rr, hr1, -⟩ := hP a0 _ (kws_get hw)
            have := (List.getElem?_eq_some_iff.mp hr1).1
            exact this
          refine ⟨b + a0, rfl, ?_⟩
          have := va_recv hK hP (kcl_vw hlt) (kws_get hw)
          rw [k3, ← hci, ← (kx_rest hlt).2.2.2]
          exact this
        · cases hrc
      · have hci := Nat.eq_of_beq_eq_true hrc
        refine ⟨z 2, rfl, ?_⟩
        obtain ⟨cell, c1, c2, c3, -⟩ := (hZ.2.2.2.1.2.1).kept (fun a q1 q2 => hS.2.1 a q1 q2)
        refine ⟨cell, c1, c2, ?_⟩
        rw [k3, hci]
        exact c3
      · cases hrc
    have hpre' : ∀ U : State, U.heap = H → s.WarmedH U.vm → kPcN xs D dA b z (r0 :: as') w (Value.ref q :: as'.map (kpi b z)).toArray U := fun U hU hW => by rw [← hq]; exact hpre U hU hW
    exact kcallO (va_runV ⟨hx, hb, hml, hown, hts⟩ hM ⟨cb, hts _ kvA, hts _ kvB⟩ ⟨kPcN_blind _ _ _ _ _ _ _, hcellq, hpre'⟩ rfl (by simpa using hn) hsize (hstack q hq) hWk hd hcell) hS fin
  · have hstack : (F0 m pc ls (st.map (kpi b z))).stack = (as'.map (kpi b z)).reverse ++ .ref (b + a0) :: st'.map (kpi b z) := by
      show st.map (kpi b z) = _
      rw [← hst]
      simp [kpi]
    obtain ⟨ki1, ki2, ki3⟩ := km_i hm hi
    rcases hlk2 with hlk2 | ⟨q, hq, q1, q2, q3⟩
    · have cb := callB_of (R := R) (s := s) (args := args) (own := kR (kown mid)) (index := k) (rm := { frames := d, cells := 0, slots := 0, locals := 64 * d }) (ws' := kT) (knar m') hts (kT_goodIn hm) rfl rfl rfl (hts _ k2) (hts _ hlk2) ⟨k4, k5, k6⟩ hroom
      rw [ki3] at cb
      exact kcallO (va_runI ⟨hx, hb, hml, hown, hts⟩ hM ⟨cb, ki2, hts _ ki1⟩ ⟨kPcN_blind _ _ _ _ _ _ _, hpre⟩ rfl (by simpa using hn) hsize hstack hWk hd hcell) hS fin
    · have hnw : va_Nw (.methodLinkNest (kR (kown mid)) k (ky m') "SwapAssize") s := by
        have hnw := hZ.2.2.2.2.2.1 q hq
        rw [q1, q2, q3] at hnw
        exact hnw
      have cb := va_cnB (R := R) (s := s) (args := args) (own := kR (kown mid)) (host := "SwapAssize") (index := k) (rm := { frames := d, cells := 0, slots := 0, locals := 64 * d }) (ws' := kT) (knar m') hts (kT_goodIn hm) rfl rfl rfl hnw (hts _ k2) ⟨k4, k5, k6⟩ hroom
      rw [ki3] at cb
      exact kcallO (va_runIN ⟨hx, hb, hml, hown, hts⟩ hM ⟨cb, ki2, hts _ ki1⟩ ⟨kPcN_blind _ _ _ _ _ _ _, hpre⟩ rfl (by simpa using hn) hsize hstack hWk hd hcell) hS fin
theorem kcallX_go {P : Nat → KL → List Value → KW → Prop} {d mid pc m' k : Nat} {L : KL} {st as st' : List Value} {w w1 : KW} {r1 : Option Value} {ps : List Nat} {i : Instr} (hm : m' < 288) (hi : kCallOk (kown mid) k m' w as i) (hst : as.reverse ++ st' = st) (hcat : kcat st' ≤ 8) (ha : kcat as ≤ kmax m') (hd : decode (kby mid) pc = .ok (i, 3)) (f1 : w.length ≤ w1.length) (g1 : w1.length = w.length → kGoN xs l D dA b z d m' 0 (kent as (kmax m')) [] w r1 w1)
    (g : kGX xs l D dA b z (d + 1) mid (pc + 3) (kclr ps L) (kpush r1 st') w1 P) : kGX xs l D dA b z (d + 1) mid pc L st w P := by
  obtain ⟨p2, L2, s2, w2, hP2, g2, g⟩ := g
  refine ⟨p2, L2, s2, w2, hP2, by omega, fun e => ?_⟩
  obtain ⟨g0, g⟩ := g (by omega)
  refine ⟨by rw [g0, kclr_len], ?_⟩
  intro p e R s m args below meth c Qs cells slots C hLn h5 h6 H locs ls hP hS hL kk
  exact kcallX hm hi hst hcat ha hd (g1 (by omega)) p e R s m args below meth c _ cells slots C hLn h5 h6 H locs ls hP hS hL (fun H' locs' ls' hP' hS' hL' => g p e R s m args below meth c Qs cells slots C (by rw [kclr_len]; exact hLn) h5 h6 H' locs' ls' hP' hS' (hL'.clr ps) kk)
end KGX
set_option maxHeartbeats 4000000 in
set_option maxRecDepth 100000 in
theorem ksoundX (X : Nat → Bool) (xs : List Int32) (l : Launch) (D : va_G) (dA : Nat → ClassId) (b : Nat) (z : Nat → Nat) : ∀ (n d mid pc : Nat) (L : KL) (st : List Value) (w : KW) (P : Nat → KL → List Value → KW → Prop), kEx X xs n d mid pc L st w P → kGX xs l D dA b z d mid pc L st w P := by
  intro n
  induction n with
  | zero => intro d mid pc L st w P h; exact h.elim
  | succ n ih =>
    intro d mid pc L st w P h
    obtain ⟨⟨i, len⟩, hcd, h⟩ := kO_some (show kO (kcode mid pc) _ from h)
    obtain ⟨hd, hln⟩ := kcode_ok hcd
    dsimp only at h
    cases i with
    | iadd =>
      obtain rfl : len = 1 := Nat.eq_of_beq_eq_true hln
      dsimp only [kstep] at h
      split at h
      · exact kdoneX (kX_nx ih h) (ks_iadd hd) rfl rfl rfl
      · exact h.elim
    | isub =>
      obtain rfl : len = 1 := Nat.eq_of_beq_eq_true hln
      dsimp only [kstep] at h
      split at h
      · exact kdoneX (kX_nx ih h) (ks_isub hd) rfl rfl rfl
      · exact h.elim
    | imul =>
      obtain rfl : len = 1 := Nat.eq_of_beq_eq_true hln
      dsimp only [kstep] at h
      split at h
      · exact kdoneX (kX_nx ih h) (ks_imul hd) rfl rfl rfl
      · exact h.elim
    | iand =>
      obtain rfl : len = 1 := Nat.eq_of_beq_eq_true hln
      dsimp only [kstep] at h
      split at h
      · exact kdoneX (kX_nx ih h) (ks_iand hd) rfl rfl rfl
      · exact h.elim
    | ior =>
      obtain rfl : len = 1 := Nat.eq_of_beq_eq_true hln
      dsimp only [kstep] at h
      split at h
      · exact kdoneX (kX_nx ih h) (ks_ior hd) rfl rfl rfl
      · exact h.elim
    | ixor =>
      obtain rfl : len = 1 := Nat.eq_of_beq_eq_true hln
      dsimp only [kstep] at h
      split at h
      · exact kdoneX (kX_nx ih h) (ks_ixor hd) rfl rfl rfl
      · exact h.elim
    | ishl =>
      obtain rfl : len = 1 := Nat.eq_of_beq_eq_true hln
      dsimp only [kstep] at h
      split at h
      · exact kdoneX (kX_nx ih h) (ks_ishl hd) rfl rfl rfl
      · exact h.elim
    | ishr =>
      obtain rfl : len = 1 := Nat.eq_of_beq_eq_true hln
      dsimp only [kstep] at h
      split at h
      · exact kdoneX (kX_nx ih h) (ks_ishr hd) rfl rfl rfl
      · exact h.elim
    | iushr =>
      obtain rfl : len = 1 := Nat.eq_of_beq_eq_true hln
      dsimp only [kstep] at h
      split at h
      · exact kdoneX (kX_nx ih h) (ks_iushr hd) rfl rfl rfl
      · exact h.elim
    | ineg =>
      obtain rfl : len = 1 := Nat.eq_of_beq_eq_true hln
      dsimp only [kstep] at h
      split at h
      · exact kdoneX (kX_nx ih h) (ks_ineg hd) rfl rfl rfl
      · exact h.elim
    | i2l =>
      obtain rfl : len = 1 := Nat.eq_of_beq_eq_true hln
      dsimp only [kstep] at h
      split at h
      · exact kdoneX (kX_nx ih h) (ks_i2l hd) rfl rfl rfl
      · exact h.elim
    | l2i =>
      obtain rfl : len = 1 := Nat.eq_of_beq_eq_true hln
      dsimp only [kstep] at h
      split at h
      · exact kdoneX (kX_nx ih h) (ks_l2i hd) rfl rfl rfl
      · exact h.elim
    | i2b =>
      obtain rfl : len = 1 := Nat.eq_of_beq_eq_true hln
      dsimp only [kstep] at h
      split at h
      · exact kdoneX (kX_nx ih h) (ks_i2b hd) rfl rfl rfl
      · exact h.elim
    | i2c =>
      obtain rfl : len = 1 := Nat.eq_of_beq_eq_true hln
      dsimp only [kstep] at h
      split at h
      · exact kdoneX (kX_nx ih h) (ks_i2c hd) rfl rfl rfl
      · exact h.elim
    | ladd =>
      obtain rfl : len = 1 := Nat.eq_of_beq_eq_true hln
      dsimp only [kstep] at h
      split at h
      · exact kdoneX (kX_nx ih h) (ks_ladd hd) rfl rfl rfl
      · exact h.elim
    | lsub =>
      obtain rfl : len = 1 := Nat.eq_of_beq_eq_true hln
      dsimp only [kstep] at h
      split at h
      · exact kdoneX (kX_nx ih h) (ks_lsub hd) rfl rfl rfl
      · exact h.elim
    | lmul =>
      obtain rfl : len = 1 := Nat.eq_of_beq_eq_true hln
      dsimp only [kstep] at h
      split at h
      · exact kdoneX (kX_nx ih h) (ks_lmul hd) rfl rfl rfl
      · exact h.elim
    | land =>
      obtain rfl : len = 1 := Nat.eq_of_beq_eq_true hln
      dsimp only [kstep] at h
      split at h
      · exact kdoneX (kX_nx ih h) (ks_land hd) rfl rfl rfl
      · exact h.elim
    | lor =>
      obtain rfl : len = 1 := Nat.eq_of_beq_eq_true hln
      dsimp only [kstep] at h
      split at h
      · exact kdoneX (kX_nx ih h) (ks_lor hd) rfl rfl rfl
      · exact h.elim
    | lshl =>
      obtain rfl : len = 1 := Nat.eq_of_beq_eq_true hln
      dsimp only [kstep] at h
      split at h
      · exact kdoneX (kX_nx ih h) (ks_lshl hd) rfl rfl rfl
      · exact h.elim
    | lshr =>
      obtain rfl : len = 1 := Nat.eq_of_beq_eq_true hln
      dsimp only [kstep] at h
      split at h
      · exact kdoneX (kX_nx ih h) (ks_lshr hd) rfl rfl rfl
      · exact h.elim
    | lcmp =>
      obtain rfl : len = 1 := Nat.eq_of_beq_eq_true hln
      dsimp only [kstep] at h
      split at h
      · exact kdoneX (kX_nx ih h) (ks_lcmp hd) rfl rfl rfl
      · exact h.elim
    | idiv =>
      obtain rfl : len = 1 := Nat.eq_of_beq_eq_true hln
      dsimp only [kstep] at h
      split at h
      · split at h
        · exact h.elim
        · rename_i hne
          exact kdoneX (kX_nx ih h) (ks_idiv hne hd) rfl rfl rfl
      · exact h.elim
    | irem =>
      obtain rfl : len = 1 := Nat.eq_of_beq_eq_true hln
      dsimp only [kstep] at h
      split at h
      · split at h
        · exact h.elim
        · rename_i hne
          exact kdoneX (kX_nx ih h) (ks_irem hne hd) rfl rfl rfl
      · exact h.elim
    | ldiv =>
      obtain rfl : len = 1 := Nat.eq_of_beq_eq_true hln
      dsimp only [kstep] at h
      split at h
      · split at h
        · exact h.elim
        · rename_i hne
          exact kdoneX (kX_nx ih h) (ks_ldiv hne hd) rfl rfl rfl
      · exact h.elim
    | lrem =>
      obtain rfl : len = 1 := Nat.eq_of_beq_eq_true hln
      dsimp only [kstep] at h
      split at h
      · split at h
        · exact h.elim
        · rename_i hne
          exact kdoneX (kX_nx ih h) (ks_lrem hne hd) rfl rfl rfl
      · exact h.elim
    | iconst k =>
      obtain rfl : len = 1 := Nat.eq_of_beq_eq_true hln
      dsimp only [kstep] at h
      exact kdoneX (kX_nx ih h) (ks_iconst hd) rfl rfl rfl
    | bipush k =>
      obtain rfl : len = 2 := Nat.eq_of_beq_eq_true hln
      dsimp only [kstep] at h
      exact kdoneX (kX_nx ih h) (ks_bipush hd) rfl rfl rfl
    | sipush k =>
      obtain rfl : len = 3 := Nat.eq_of_beq_eq_true hln
      dsimp only [kstep] at h
      exact kdoneX (kX_nx ih h) (ks_sipush hd) rfl rfl rfl
    | lconst k =>
      obtain rfl : len = 1 := Nat.eq_of_beq_eq_true hln
      dsimp only [kstep] at h
      exact kdoneX (kX_nx ih h) (ks_lconst hd) rfl rfl rfl
    | iload_n k =>
      obtain rfl : len = 1 := Nat.eq_of_beq_eq_true hln
      dsimp only [kstep] at h
      split at h
      · rename_i x hx
        exact kdoneX (kX_nx ih h) (ks_iload_n hx hd) rfl rfl rfl
      · exact h.elim
    | iload k =>
      obtain rfl : len = 2 := Nat.eq_of_beq_eq_true hln
      dsimp only [kstep] at h
      split at h
      · rename_i x hx
        exact kdoneX (kX_nx ih h) (ks_iload hx hd) rfl rfl rfl
      · exact h.elim
    | lload_n k =>
      obtain rfl : len = 1 := Nat.eq_of_beq_eq_true hln
      dsimp only [kstep] at h
      split at h
      · rename_i x hx
        exact kdoneX (kX_nx ih h) (ks_lload_n hx hd) rfl rfl rfl
      · exact h.elim
    | lload k =>
      obtain rfl : len = 2 := Nat.eq_of_beq_eq_true hln
      dsimp only [kstep] at h
      split at h
      · rename_i x hx
        exact kdoneX (kX_nx ih h) (ks_lload hx hd) rfl rfl rfl
      · exact h.elim
    | aload_n k =>
      obtain rfl : len = 1 := Nat.eq_of_beq_eq_true hln
      dsimp only [kstep] at h
      obtain ⟨v, hv, h⟩ := kO_some h
      obtain ⟨hr, h⟩ := kcond h
      exact kdoneX (kX_nx ih h) (ks_aload_n hv hr hd) rfl rfl rfl
    | aload k =>
      obtain rfl : len = 2 := Nat.eq_of_beq_eq_true hln
      dsimp only [kstep] at h
      obtain ⟨v, hv, h⟩ := kO_some h
      obtain ⟨hr, h⟩ := kcond h
      exact kdoneX (kX_nx ih h) (ks_aload hv hr hd) rfl rfl rfl
    | istore_n k =>
      obtain rfl : len = 1 := Nat.eq_of_beq_eq_true hln
      dsimp only [kstep] at h
      split at h
      · obtain ⟨L', hL', h⟩ := kO_some h
        exact kdoneX (kX_nx ih h) (ks_istore_n hL' hd) rfl rfl (kst1_spec _ _ _ _ hL').1
      · exact h.elim
    | istore k =>
      obtain rfl : len = 2 := Nat.eq_of_beq_eq_true hln
      dsimp only [kstep] at h
      split at h
      · obtain ⟨L', hL', h⟩ := kO_some h
        exact kdoneX (kX_nx ih h) (ks_istore hL' hd) rfl rfl (kst1_spec _ _ _ _ hL').1
      · exact h.elim
    | astore_n k =>
      obtain rfl : len = 1 := Nat.eq_of_beq_eq_true hln
      dsimp only [kstep] at h
      split at h
      · obtain ⟨L', hL', h⟩ := kO_some h
        exact kdoneX (kX_nx ih h) (ks_astore_n hL' hd) rfl rfl (kst1_spec _ _ _ _ hL').1
      · exact h.elim
    | astore k =>
      obtain rfl : len = 2 := Nat.eq_of_beq_eq_true hln
      dsimp only [kstep] at h
      split at h
      · obtain ⟨L', hL', h⟩ := kO_some h
        exact kdoneX (kX_nx ih h) (ks_astore hL' hd) rfl rfl (kst1_spec _ _ _ _ hL').1
      · exact h.elim
    | lstore_n k =>
      obtain rfl : len = 1 := Nat.eq_of_beq_eq_true hln
      dsimp only [kstep] at h
      split at h
      · obtain ⟨L', hL', h⟩ := kO_some h
        exact kdoneX (kX_nx ih h) (ks_lstore_n hL' hd) rfl rfl (kst2_spec _ _ _ _ hL').1
      · exact h.elim
    | lstore k =>
      obtain rfl : len = 2 := Nat.eq_of_beq_eq_true hln
      dsimp only [kstep] at h
      split at h
      · obtain ⟨L', hL', h⟩ := kO_some h
        exact kdoneX (kX_nx ih h) (ks_lstore hL' hd) rfl rfl (kst2_spec _ _ _ _ hL').1
      · exact h.elim
    | iinc k c =>
      obtain rfl : len = 3 := Nat.eq_of_beq_eq_true hln
      dsimp only [kstep] at h
      split at h
      · rename_i x hx
        obtain ⟨L', hL', h⟩ := kO_some h
        exact kdoneX (kX_nx ih h) (ks_iinc hx hL' hd) rfl rfl (kst1_spec _ _ _ _ hL').1
      · exact h.elim
    | ldc k =>
      obtain rfl : len = 2 := Nat.eq_of_beq_eq_true hln
      dsimp only [kstep] at h
      cases hs : kcs (kown mid) k with
      | true =>
        rw [hs] at h
        exact kdoneX (kX_nx ih h) (ks_ldcS hs hd) rfl rfl rfl
      | false =>
        rw [hs] at h
        obtain ⟨x, hx, h⟩ := kO_some h
        exact kdoneX (kX_nx ih h) (ks_ldc hx hd) rfl rfl rfl
    | ldc_w k =>
      obtain rfl : len = 3 := Nat.eq_of_beq_eq_true hln
      dsimp only [kstep] at h
      obtain ⟨x, hx, h⟩ := kO_some h
      exact kdoneX (kX_nx ih h) (ks_ldcw hx hd) rfl rfl rfl
    | ldc2_w k =>
      obtain rfl : len = 3 := Nat.eq_of_beq_eq_true hln
      dsimp only [kstep] at h
      obtain ⟨x, hx, h⟩ := kO_some h
      exact kdoneX (kX_nx ih h) (ks_ldc2 hx hd) rfl rfl rfl
    | dup =>
      obtain rfl : len = 1 := Nat.eq_of_beq_eq_true hln
      dsimp only [kstep] at h
      split at h
      · obtain ⟨hc, h⟩ := kcond h
        exact kdoneX (kX_nx ih h) (ks_dup (Nat.eq_of_beq_eq_true hc) hd) rfl rfl rfl
      · exact h.elim
    | pop =>
      obtain rfl : len = 1 := Nat.eq_of_beq_eq_true hln
      dsimp only [kstep] at h
      split at h
      · obtain ⟨hc, h⟩ := kcond h
        exact kdoneX (kX_nx ih h) (ks_pop (Nat.eq_of_beq_eq_true hc) hd) rfl rfl rfl
      · exact h.elim
    | dup2 =>
      obtain rfl : len = 1 := Nat.eq_of_beq_eq_true hln
      dsimp only [kstep] at h
      split at h
      · obtain ⟨hc, h⟩ := kcond h
        simp only [Bool.and_eq_true] at hc
        exact kdoneX (kX_nx ih h) (ks_dup2 (Nat.eq_of_beq_eq_true hc.1) (Nat.eq_of_beq_eq_true hc.2) hd) rfl rfl rfl
      · exact h.elim
    | goto off =>
      obtain rfl : len = 3 := Nat.eq_of_beq_eq_true hln
      dsimp only [kstep] at h
      obtain ⟨t, ht, h⟩ := kjmp_some h
      exact kdoneX (kX_nx ih h) (ks_goto ht hd) rfl rfl rfl
    | if_icmp c off =>
      obtain rfl : len = 3 := Nat.eq_of_beq_eq_true hln
      dsimp only [kstep] at h
      split at h
      · cases c with
        | eq =>
          dsimp only [kif] at h
          split at h
          · rename_i hc
            obtain ⟨t, ht, h⟩ := kjmp_some h
            exact kdoneX (kX_nx ih h) (ks_icmp_eq_t ht hc hd) rfl rfl rfl
          · rename_i hc
            obtain ⟨t, ht⟩ := kb_icmp hcd
            exact kdoneX (kX_nx ih h) (ks_icmp_eq_f ht hc hd) rfl rfl rfl
        | ne =>
          dsimp only [kif] at h
          split at h
          · rename_i hc
            obtain ⟨t, ht⟩ := kb_icmp hcd
            exact kdoneX (kX_nx ih h) (ks_icmp_ne_f ht hc hd) rfl rfl rfl
          · rename_i hc
            obtain ⟨t, ht, h⟩ := kjmp_some h
            exact kdoneX (kX_nx ih h) (ks_icmp_ne_t ht hc hd) rfl rfl rfl
        | lt =>
          dsimp only [kif] at h
          split at h
          · rename_i hc
            obtain ⟨t, ht, h⟩ := kjmp_some h
            exact kdoneX (kX_nx ih h) (ks_icmp_lt_t ht hc hd) rfl rfl rfl
          · rename_i hc
            obtain ⟨t, ht⟩ := kb_icmp hcd
            exact kdoneX (kX_nx ih h) (ks_icmp_lt_f ht hc hd) rfl rfl rfl
        | ge =>
          dsimp only [kif] at h
          split at h
          · rename_i hc
            obtain ⟨t, ht⟩ := kb_icmp hcd
            exact kdoneX (kX_nx ih h) (ks_icmp_ge_f ht hc hd) rfl rfl rfl
          · rename_i hc
            obtain ⟨t, ht, h⟩ := kjmp_some h
            exact kdoneX (kX_nx ih h) (ks_icmp_ge_t ht hc hd) rfl rfl rfl
        | gt =>
          dsimp only [kif] at h
          split at h
          · rename_i hc
            obtain ⟨t, ht, h⟩ := kjmp_some h
            exact kdoneX (kX_nx ih h) (ks_icmp_gt_t ht hc hd) rfl rfl rfl
          · rename_i hc
            obtain ⟨t, ht⟩ := kb_icmp hcd
            exact kdoneX (kX_nx ih h) (ks_icmp_gt_f ht hc hd) rfl rfl rfl
        | le =>
          dsimp only [kif] at h
          split at h
          · rename_i hc
            obtain ⟨t, ht⟩ := kb_icmp hcd
            exact kdoneX (kX_nx ih h) (ks_icmp_le_f ht hc hd) rfl rfl rfl
          · rename_i hc
            obtain ⟨t, ht, h⟩ := kjmp_some h
            exact kdoneX (kX_nx ih h) (ks_icmp_le_t ht hc hd) rfl rfl rfl
      · exact h.elim
    | ifCond c off =>
      obtain rfl : len = 3 := Nat.eq_of_beq_eq_true hln
      dsimp only [kstep] at h
      split at h
      · cases c with
        | eq =>
          dsimp only [kif] at h
          split at h
          · rename_i hc
            obtain ⟨t, ht, h⟩ := kjmp_some h
            exact kdoneX (kX_nx ih h) (ks_if_eq_t ht hc hd) rfl rfl rfl
          · rename_i hc
            obtain ⟨t, ht⟩ := kb_if hcd
            exact kdoneX (kX_nx ih h) (ks_if_eq_f ht hc hd) rfl rfl rfl
        | ne =>
          dsimp only [kif] at h
          split at h
          · rename_i hc
            obtain ⟨t, ht⟩ := kb_if hcd
            exact kdoneX (kX_nx ih h) (ks_if_ne_f ht hc hd) rfl rfl rfl
          · rename_i hc
            obtain ⟨t, ht, h⟩ := kjmp_some h
            exact kdoneX (kX_nx ih h) (ks_if_ne_t ht hc hd) rfl rfl rfl
        | lt =>
          dsimp only [kif] at h
          split at h
          · rename_i hc
            obtain ⟨t, ht, h⟩ := kjmp_some h
            exact kdoneX (kX_nx ih h) (ks_if_lt_t ht hc hd) rfl rfl rfl
          · rename_i hc
            obtain ⟨t, ht⟩ := kb_if hcd
            exact kdoneX (kX_nx ih h) (ks_if_lt_f ht hc hd) rfl rfl rfl
        | ge =>
          dsimp only [kif] at h
          split at h
          · rename_i hc
            obtain ⟨t, ht⟩ := kb_if hcd
            exact kdoneX (kX_nx ih h) (ks_if_ge_f ht hc hd) rfl rfl rfl
          · rename_i hc
            obtain ⟨t, ht, h⟩ := kjmp_some h
            exact kdoneX (kX_nx ih h) (ks_if_ge_t ht hc hd) rfl rfl rfl
        | gt =>
          dsimp only [kif] at h
          split at h
          · rename_i hc
            obtain ⟨t, ht, h⟩ := kjmp_some h
            exact kdoneX (kX_nx ih h) (ks_if_gt_t ht hc hd) rfl rfl rfl
          · rename_i hc
            obtain ⟨t, ht⟩ := kb_if hcd
            exact kdoneX (kX_nx ih h) (ks_if_gt_f ht hc hd) rfl rfl rfl
        | le =>
          dsimp only [kif] at h
          split at h
          · rename_i hc
            obtain ⟨t, ht⟩ := kb_if hcd
            exact kdoneX (kX_nx ih h) (ks_if_le_f ht hc hd) rfl rfl rfl
          · rename_i hc
            obtain ⟨t, ht, h⟩ := kjmp_some h
            exact kdoneX (kX_nx ih h) (ks_if_le_t ht hc hd) rfl rfl rfl
      · exact h.elim
    | getfield k =>
      obtain rfl : len = 3 := Nat.eq_of_beq_eq_true hln
      dsimp only [kstep] at h
      split at h
      · obtain ⟨⟨ci, kk, tg⟩, hf, h⟩ := kO_some h
        dsimp only at h
        split at h
        · obtain ⟨x, hx, h⟩ := kO_some h
          exact kdoneX (kX_nx ih h) (ks_getf hf (kgJ_some hx) hd) rfl rfl rfl
        · obtain ⟨x, hx, h⟩ := kO_some h
          exact kdoneX (kX_nx ih h) (ks_getf hf (kgR_some hx) hd) rfl rfl rfl
        · obtain ⟨x, hx, h⟩ := kO_some h
          exact kdoneX (kX_nx ih h) (ks_getf hf (kgI_some hx) hd) rfl rfl rfl
      · obtain ⟨v, hv, h⟩ := kO_some h
        exact kdoneX (kX_nx ih h) (ks_gso hv hd) rfl rfl rfl
      · exact h.elim
    | getstatic k =>
      obtain rfl : len = 3 := Nat.eq_of_beq_eq_true hln
      dsimp only [kstep] at h
      obtain ⟨v, hv, h⟩ := kO_some h
      exact kdoneX (kX_nx ih h) (ks_gets hv hd) rfl rfl rfl
    | putfield k =>
      obtain rfl : len = 3 := Nat.eq_of_beq_eq_true hln
      dsimp only [kstep] at h
      split at h
      · obtain ⟨⟨ci, kk, tg⟩, hf, h⟩ := kO_some h
        dsimp only at h
        obtain ⟨hfn, h⟩ := kcond h
        have hfin : kfin ci kk = false ∨ (kini mid = true ∧ kown mid = ci) := by
          simp only [Bool.or_eq_true, Bool.and_eq_true, Bool.not_eq_true'] at hfn
          exact hfn.imp id (fun e => ⟨e.1, Nat.eq_of_beq_eq_true e.2⟩)
        obtain ⟨-, -, -, hty⟩ := kfl_ok hf
        split at h
        · have ty : kFt ci kk = .int := by rcases hty with h0 | h0 | h0 | h0 <;> first | exact h0.2 | (exact absurd h0.1 (by decide))
          obtain ⟨w1, hw1, h⟩ := kO_some h
          obtain ⟨q1, q2⟩ := kpf_len hw1
          exact kdoneX (kX_nx ih h) (ks_putf hf hfin (by rw [ty]; rfl) (by rw [ty]; rfl) hw1 hd) q1 q2 rfl
        · have ty : kFt ci kk = .long := by rcases hty with h0 | h0 | h0 | h0 <;> first | exact h0.2 | (exact absurd h0.1 (by decide))
          obtain ⟨w1, hw1, h⟩ := kO_some h
          obtain ⟨q1, q2⟩ := kpf_len hw1
          exact kdoneX (kX_nx ih h) (ks_putf hf hfin (by rw [ty]; rfl) (by rw [ty]; rfl) hw1 hd) q1 q2 rfl
        · have ty : (∃ C, kFt ci kk = .object C) ∨ ∃ t, kFt ci kk = .array t := by rcases hty with h0 | h0 | h0 | h0 <;> first | exact h0.2 | (exact absurd h0.1 (by decide))
          obtain ⟨w1, hw1, h⟩ := kO_some h
          obtain ⟨q1, q2⟩ := kpf_len hw1
          exact kdoneX (kX_nx ih h) (ks_putf hf hfin (by rcases ty with ⟨C, ty⟩ | ⟨t, ty⟩ <;> rw [ty] <;> rfl) (by rcases ty with ⟨C, ty⟩ | ⟨t, ty⟩ <;> rw [ty] <;> rfl) hw1 hd) q1 q2 rfl
        · have ty : kFt ci kk = .boolean := by rcases hty with h0 | h0 | h0 | h0 <;> first | exact h0.2 | (exact absurd h0.1 (by decide))
          split at h
          · rename_i hx1
            obtain ⟨w1, hw1, h⟩ := kO_some h
            obtain ⟨q1, q2⟩ := kpf_len hw1
            exact kdoneX (kX_nx ih h) (ks_putf hf hfin (by rw [ty]; exact knar_z hx1) (by rw [ty]; exact kfit_z hx1) hw1 hd) q1 q2 rfl
          · exact h.elim
        · exact h.elim
      · exact h.elim
    | iaload =>
      obtain rfl : len = 1 := Nat.eq_of_beq_eq_true hln
      dsimp only [kstep] at h
      split at h
      · obtain ⟨x, hx, h⟩ := kO_some h
        exact kdoneX (kX_nx ih h) (ks_iald hx hd) rfl rfl rfl
      · obtain ⟨x, hx, h⟩ := kO_some h
        exact kdoneX (kX_nx ih h) (ks_ti hx hd) rfl rfl rfl
      · exact h.elim
    | baload =>
      obtain rfl : len = 1 := Nat.eq_of_beq_eq_true hln
      dsimp only [kstep] at h
      split at h
      · obtain ⟨x, hx, h⟩ := kO_some h
        exact kdoneX (kX_nx ih h) (ks_bald hx hd) rfl rfl rfl
      · obtain ⟨x, hx, h⟩ := kO_some h
        exact kdoneX (kX_nx ih h) (ks_tb hx hd) rfl rfl rfl
      · exact h.elim
    | laload =>
      obtain rfl : len = 1 := Nat.eq_of_beq_eq_true hln
      dsimp only [kstep] at h
      split at h
      · obtain ⟨x, hx, h⟩ := kO_some h
        exact kdoneX (kX_nx ih h) (ks_lald hx hd) rfl rfl rfl
      · obtain ⟨x, hx, h⟩ := kO_some h
        exact kdoneX (kX_nx ih h) (ks_tl hx hd) rfl rfl rfl
      · exact h.elim
    | aaload =>
      obtain rfl : len = 1 := Nat.eq_of_beq_eq_true hln
      dsimp only [kstep] at h
      split at h
      · obtain ⟨x, hx, h⟩ := kO_some h
        exact kdoneX (kX_nx ih h) (ks_aald hx hd) rfl rfl rfl
      · exact h.elim
    | iastore =>
      obtain rfl : len = 1 := Nat.eq_of_beq_eq_true hln
      dsimp only [kstep] at h
      split at h
      · obtain ⟨w1, hw1, h⟩ := kO_some h
        obtain ⟨q1, q2⟩ := ksI_len hw1
        exact kdoneX (kX_nx ih h) (ks_iast hw1 hd) q1 q2 rfl
      · exact h.elim
    | bastore =>
      obtain rfl : len = 1 := Nat.eq_of_beq_eq_true hln
      dsimp only [kstep] at h
      split at h
      · obtain ⟨w1, hw1, h⟩ := kO_some h
        obtain ⟨q1, q2⟩ := ksB_len hw1
        exact kdoneX (kX_nx ih h) (ks_bast hw1 hd) q1 q2 rfl
      · exact h.elim
    | lastore =>
      obtain rfl : len = 1 := Nat.eq_of_beq_eq_true hln
      dsimp only [kstep] at h
      split at h
      · obtain ⟨w1, hw1, h⟩ := kO_some h
        obtain ⟨q1, q2⟩ := ksJ_len hw1
        exact kdoneX (kX_nx ih h) (ks_last hw1 hd) q1 q2 rfl
      · exact h.elim
    | aastore =>
      obtain rfl : len = 1 := Nat.eq_of_beq_eq_true hln
      dsimp only [kstep] at h
      split at h
      · obtain ⟨w1, hw1, h⟩ := kO_some h
        obtain ⟨q1, q2⟩ := ksR_len hw1
        exact kdoneX (kX_nx ih h) (ks_aast hw1 hd) q1 q2 rfl
      · exact h.elim
    | arraylength =>
      obtain rfl : len = 1 := Nat.eq_of_beq_eq_true hln
      dsimp only [kstep] at h
      split at h
      · obtain ⟨x, hx, h⟩ := kO_some h
        exact kdoneX (kX_nx ih h) (ks_alen hx hd) rfl rfl rfl
      · obtain ⟨x, hx, h⟩ := kO_some h
        exact kdoneX (kX_nx ih h) (ks_tlen hx hd) rfl rfl rfl
      · exact h.elim
    | new k =>
      obtain rfl : len = 3 := Nat.eq_of_beq_eq_true hln
      dsimp only [kstep] at h
      obtain ⟨c, hc, h⟩ := kO_some h
      exact knewX (kX_nx ih h) (by rw [List.length_append]; rfl)
    | newarray t =>
      obtain rfl : len = 2 := Nat.eq_of_beq_eq_true hln
      dsimp only [kstep] at h
      split at h
      · obtain ⟨t1, ht1, h⟩ := kO_some h
        split at h
        · exact h.elim
        · rename_i hb
          simp only [not_or, Nat.not_lt] at hb
          cases t <;> simp only [kat, Option.some.injEq, reduceCtorEq] at ht1 <;> subst ht1
          · exact knewX (kX_nx ih h) (by rw [List.length_append]; rfl)
          · exact knewX (kX_nx ih h) (by rw [List.length_append]; rfl)
          · exact knewX (kX_nx ih h) (by rw [List.length_append]; rfl)
          · exact knewX (kX_nx ih h) (by rw [List.length_append]; rfl)
      · exact h.elim
    | anewarray k =>
      obtain rfl : len = 3 := Nat.eq_of_beq_eq_true hln
      dsimp only [kstep] at h
      split at h
      · obtain ⟨t1, ht1, h⟩ := kO_some h
        split at h
        · exact h.elim
        · rename_i hb
          simp only [not_or, Nat.not_lt] at hb
          exact knewX (kX_nx ih h) (by rw [List.length_append]; rfl)
      · exact h.elim
    | invokestatic k =>
      obtain rfl : len = 3 := Nat.eq_of_beq_eq_true hln
      dsimp only [kstep] at h
      obtain ⟨⟨kd, m', na⟩, hf, h⟩ := kO_some h
      dsimp only at h
      split at h
      · obtain ⟨⟨as, st1⟩, has, h⟩ := kO_some h
        dsimp only at h
        obtain ⟨hs1, hs2⟩ := kargs_spec _ _ _ _ _ has
        obtain ⟨hm, hk1, hk2, hk3⟩ := klink_ok_0 hf
        obtain ⟨hc, h⟩ := kcond h
        simp only [Bool.and_eq_true] at hc
        cases d with
        | zero => exact h.elim
        | succ d =>
          obtain ⟨r1, w1, h1, f1, g1⟩ := ksoundN xs l D dA b z _ _ _ _ _ _ _ _ h
          exact kcallX_go hm (Or.inl ⟨rfl, hk1, by rw [hs2, hk2]; rfl, Or.inl hk3⟩) hs1 (Nat.le_of_ble_eq_true hc.1) (Nat.le_of_ble_eq_true hc.2) hd f1 g1 (ih _ _ _ _ _ _ _ h1)
      · obtain ⟨⟨as, st1⟩, has, h⟩ := kO_some h
        dsimp only at h
        obtain ⟨hs1, hs2⟩ := kargs_spec _ _ _ _ _ has
        obtain ⟨hm, hk1, hk2, hk3⟩ := klink_ok_4 hf
        obtain ⟨hc, h⟩ := kcond h
        simp only [Bool.and_eq_true] at hc
        cases d with
        | zero => exact h.elim
        | succ d =>
          obtain ⟨r1, w1, h1, f1, g1⟩ := ksoundN xs l D dA b z _ _ _ _ _ _ _ _ h
          exact kcallX_go hm (Or.inl ⟨rfl, hk1, by rw [hs2, hk2]; rfl, Or.inr hk3⟩) hs1 (Nat.le_of_ble_eq_true hc.1) (Nat.le_of_ble_eq_true hc.2) hd f1 g1 (ih _ _ _ _ _ _ _ h1)
      · split at h
        · obtain ⟨hc, h5⟩ := kcond h
          clear h
          split at h5
          · rename_i hz
            obtain ⟨z1, z2⟩ := hz
            obtain ⟨w1, hw1, h6⟩ := kO_some h5
            clear h5
            subst z1
            subst z2
            obtain ⟨q1, q2⟩ := kcopy_len hw1
            exact kdoneX (kX_nx ih h6) (ks_copy (klink_ok_6 hf) (Nat.le_of_ble_eq_true hc) hw1 hd) q1 q2 rfl
          · exact h5.elim
        · exact h.elim
      · exact h.elim
    | invokevirtual k =>
      obtain rfl : len = 3 := Nat.eq_of_beq_eq_true hln
      dsimp only [kstep] at h
      obtain ⟨⟨kd, m', na⟩, hf, h⟩ := kO_some h
      dsimp only at h
      split at h
      · obtain ⟨⟨as, st1⟩, has, h⟩ := kO_some h
        dsimp only at h
        obtain ⟨hs1, hs2⟩ := kargs_spec _ _ _ _ _ has
        obtain ⟨hm, hk1, hk2, hk3⟩ := klink_ok_1 hf
        split at h
        · rename_i r0 as0
          obtain ⟨hc, h⟩ := kcond h
          simp only [Bool.and_eq_true] at hc
          cases d with
          | zero => exact h.elim
          | succ d =>
            obtain ⟨r1, w1, h1, f1, g1⟩ := ksoundN xs l D dA b z _ _ _ _ _ _ _ _ h
            exact kcallX_go hm (Or.inr (Or.inl ⟨rfl, hk1, by rw [hs2, hk2]; rfl, ⟨_, _, rfl, hc.2⟩, hk3⟩)) hs1 (Nat.le_of_ble_eq_true hc.1.1) (Nat.le_of_ble_eq_true hc.1.2) hd f1 g1 (ih _ _ _ _ _ _ _ h1)
        · exact h.elim
      · exact h.elim
    | invokespecial k =>
      obtain rfl : len = 3 := Nat.eq_of_beq_eq_true hln
      dsimp only [kstep] at h
      obtain ⟨⟨kd, m', na⟩, hf, h⟩ := kO_some h
      dsimp only at h
      split at h
      · obtain ⟨⟨as, st1⟩, has, h⟩ := kO_some h
        dsimp only at h
        obtain ⟨hs1, hs2⟩ := kargs_spec _ _ _ _ _ has
        obtain ⟨hm, hk1, hk2, hk3⟩ := klink_ok_2 hf
        split at h
        · obtain ⟨hc, h⟩ := kcond h
          simp only [Bool.and_eq_true] at hc
          cases d with
          | zero => exact h.elim
          | succ d =>
            obtain ⟨r1, w1, h1, f1, g1⟩ := ksoundN xs l D dA b z _ _ _ _ _ _ _ _ h
            exact kcallX_go hm (Or.inr (Or.inr ⟨rfl, hk1, by rw [hs2, hk2]; rfl, ⟨_, _, rfl⟩, Or.inl hk3⟩)) hs1 (Nat.le_of_ble_eq_true hc.1) (Nat.le_of_ble_eq_true hc.2) hd f1 g1 (ih _ _ _ _ _ _ _ h1)
        · exact h.elim
      · obtain ⟨⟨as, st1⟩, has, h⟩ := kO_some h
        dsimp only at h
        obtain ⟨hs1, hs2⟩ := kargs_spec _ _ _ _ _ has
        obtain ⟨hm, hk1, hk2, hk3⟩ := klink_ok_3 hf
        split at h
        · obtain ⟨hc, h⟩ := kcond h
          simp only [Bool.and_eq_true] at hc
          cases d with
          | zero => exact h.elim
          | succ d =>
            obtain ⟨r1, w1, h1, f1, g1⟩ := ksoundN xs l D dA b z _ _ _ _ _ _ _ _ h
            exact kcallX_go hm (Or.inr (Or.inr ⟨rfl, hk1, by rw [hs2, hk2]; rfl, ⟨_, _, rfl⟩, Or.inr hk3⟩)) hs1 (Nat.le_of_ble_eq_true hc.1) (Nat.le_of_ble_eq_true hc.2) hd f1 g1 (ih _ _ _ _ _ _ _ h1)
        · exact h.elim
      · split at h
        · obtain ⟨hc, h⟩ := kcond h
          exact kdoneX (kX_nx ih h) (ks_oi (klink_ok_5 hf) (Nat.le_of_ble_eq_true hc) hd) rfl rfl rfl
        · exact h.elim
      · exact h.elim
    | ireturn =>
      obtain rfl : len = 1 := Nat.eq_of_beq_eq_true hln
      dsimp only [kstep] at h
      split at h
      · split at h
        · rename_i hr0
          exact (show False from h).elim
        · rename_i t hr0
          split at h
          · rename_i hn
            exact (show False from h).elim
          · exact h.elim
        · exact h.elim
      · exact h.elim
    | return_ =>
      obtain rfl : len = 1 := Nat.eq_of_beq_eq_true hln
      dsimp only [kstep] at h
      split at h
      · split at h
        · rename_i hr0
          exact (show False from h).elim
        · exact h.elim
      · exact h.elim
    | tableswitch dflt lo hi offs =>
      dsimp only [kstep] at h
      split at h
      · obtain ⟨hc, h⟩ := kcond h
        simp only [Bool.and_eq_true, decide_eq_true_eq] at hc
        rcases kswC_spec _ _ h with ⟨j, off, h1, h2, h⟩ | ⟨h1, h⟩
        · obtain ⟨t, ht, h⟩ := kjmp_some h
          exact kdoneX (kX_nx ih h) (ks_swIn hc.1.1 hc.1.2 hc.2 h1 h2 ht hd) rfl rfl rfl
        · obtain ⟨t, ht, h⟩ := kjmp_some h
          exact kdoneX (kX_nx ih h) (ks_swOut hc.1.1 h1 ht hd) rfl rfl rfl
      · exact h.elim
    | _ => exact h.elim
