/-! the law's end, and the whole walk at a smaller room -/
theorem room_mono {s : State} {pl : Platform} {R R2 : Room} (h : s.hasRoom pl R = true) (h1 : R2.frames ≤ R.frames) (h2 : R2.cells ≤ R.cells) (h3 : R2.slots ≤ R.slots) (h4 : R2.locals ≤ R.locals) : s.hasRoom pl R2 = true := by
  simp only [State.hasRoom, Bool.and_eq_true, decide_eq_true_eq] at h ⊢
  obtain ⟨⟨⟨⟨a1, a2, a3, a4, a5, a6⟩, a7⟩, a8⟩, a9⟩ := h
  exact ⟨⟨⟨⟨by omega, by omega, by omega, by omega, by omega, a6⟩, by omega⟩, by omega⟩, a9⟩
theorem W_room {p : Program} {l : Launch} {e : Env} {R R2 : Room} {s : State} {m : MethodId} {args : Array Value} {below : List Frame} {meth : Method} {c : Code} {H : Heap} {locs : List Loc} {cells slots : Nat} {Q : State → Prop} {g : JFrame} (h1 : R2.frames ≤ R.frames) (h2 : R2.cells ≤ R.cells) (h3 : R2.slots ≤ R.slots) (h4 : R2.locals ≤ R.locals) (k : W p l e R2 s m args below meth c H locs cells slots Q g) : W p l e R s m args below meth c H locs cells slots Q g :=
  fun T hT X => k T hT { X with room := room_mono X.room h1 h2 h3 h4 }
def R_in : Room := { frames := 1000, cells := 601024, slots := 7293033, locals := 64000 }
section WN
variable {xs : List Int32} {l : Launch} {D : va_G} {dA : Nat → ClassId} {b : Nat} {z : Nat → Nat} {d : Nat} {p : Program} {e : Env} {R : Room} {s : State} {m : MethodId} {args : Array Value} {below : List Frame} {meth : Method} {c : Code} {Qs : State → Prop}
theorem law_end (C : kCx xs D dA b z d 288 p R s m args meth c) (hsz : s.heap.size = b) (hQ : ∀ t : State, (∃ o, t.status = .running ∧ Ended t below o ∧ o = .returned (some (.int 1)) ∧ FrameEnd s o t [] R.cells R.slots) → Qs t) : kEnd l b z p e R s m args below meth c Qs := by
  intro cells slots H locs ls hc hs hS
  obtain ⟨hx, hb, hr, hlk, hml, hown, hts, hin, hK, hZ, hfr, hlo⟩ := id C
  have k : W p l e R s m args below meth c H [] R.cells R.slots (MQ below (fun _ _ o _ => o = .returned (some (.int 1))) args s R.cells R.slots (fun _ => False)) (F0 m 1526 ls [.int 1]) := W.zret (ty := .boolean) hx hb (hr.trans rfl) rfl (fun t ht hW => rfl) (fun q hq => (nomatch hq)) (kcode_ok (show kcode 288 1526 = some (.ireturn, 1) from rfl)).1 hlk
  refine W.widen hc hs (W.forget (locs := []) (L := locs) (fun q hq => by rw [hsz]; exact hS.2.2 q hq) ?_)
  intro T hT X
  obtain ⟨t, h1, o, h2, h3, h4, L, h5, h6⟩ := k T hT X
  refine ⟨t, h1, hQ t ⟨o, h2, h3, h4, ?_⟩⟩
  have hn : L = [] := by
    cases L with
    | nil => rfl
    | cons q L => exact (h6 q List.mem_cons_self).elim
  rw [hn] at h5
  exact h5
theorem law_all (C : kCx xs D dA b z 1000 288 p R_in s m args meth c) (hsz : s.heap.size = b) (hl : xs.length ≤ 3584) (hR : kRest xs l D dA b z p e R_in s m args below meth c Qs) (hQ : ∀ t : State, (∃ o, t.status = .running ∧ Ended t below o ∧ o = .returned (some (.int 1)) ∧ FrameEnd s o t [] R_in.cells R_in.slots) → Qs t) : kWp l D dA b z p e R_in s m args below meth c Qs 0 [some (.retAddr 9), none, none, none, none, none, none] [] [] := by
  refine law_pre (d := 960) C hsz (by decide) (by decide) (fun H locs ls hP hS hL => ?_)
  have hs : ksl (kmm i0 j0 f0 0) ≤ 60000 := by rw [kmm_0]; exact sl_3
  exact law_loop (d := 960) (S0 := 60000) C hl (by decide) (by decide) hR (law_end C hsz hQ) 512 0 (by omega) (by omega) i0 j0 f0 A0 w_0 _ _ H locs ls (by rw [kmm_len]; omega) (by omega) hP hS hL
theorem whole_in (C : kCx xs D dA b z 1000 288 p R_in s m (([.retAddr 9] : List Value).map (kpi b z)).toArray meth c) (hsz : s.heap.size = b) (hl : xs.length ≤ 3584) (hR : kRest xs l D dA b z p e R_in s m (([.retAddr 9] : List Value).map (kpi b z)).toArray below meth c Qs) (hQ : ∀ t : State, (∃ o, t.status = .running ∧ Ended t below o ∧ o = .returned (some (.int 1)) ∧ FrameEnd s o t [] R_in.cells R_in.slots) → Qs t) : W p l e room_1 s m (([.retAddr 9] : List Value).map (kpi b z)).toArray below meth c s.heap [] 0 0 Qs (entryFrame m (([.retAddr 9] : List Value).map (kpi b z)).toArray 7) := by
  refine W_room (R2 := R_in) (by decide) (by decide) (by decide) (by decide) ?_
  have hk := lv_entry (([.retAddr 9] : List Value).map (kpi b z)) (n := 7) (by rw [lg_sl_len]; exact (by decide : kcat [.retAddr 9] ≤ 7))
  rw [lg_entry_eq]
  exact law_all C hsz hl hR hQ s.heap [] _ (fun k q h => by cases h) va_S.rf (by
    have e1 : ([some (.retAddr 9), none, none, none, none, none, none] : KL) = kent [.retAddr 9] 7 := rfl
    rw [e1]
    unfold kLh
    rw [kent_len _ _ (by decide), kent_args]
    exact hk)
end WN
