/-! the links are words of the tables -/
def kall (p : Nat → Nat → Bool) : Bool := (List.range 18).all fun o => (List.range 700).all (p o)
theorem kall_at {p : Nat → Nat → Bool} (h : kall p = true) {o i : Nat} (ho : o < 18) (hi : i < 700) : p o i = true :=
  List.all_eq_true.mp (List.all_eq_true.mp h o (List.mem_range.mpr ho)) i (List.mem_range.mpr hi)
theorem kguard {o i : Nat} {α : Type} {x : Option α} {y : α} (h : (bif Nat.blt o 18 && Nat.blt i 700 then x else none) = some y) : o < 18 ∧ i < 700 := by
  cases hg : Nat.blt o 18 && Nat.blt i 700
  · rw [hg] at h; cases h
  · simp only [Bool.and_eq_true, Nat.blt_eq] at hg
    exact hg
def kfck (o i : Nat) : Bool := match kfl o i with
  | none => true
  | some f => Nat.blt f.1 13 && Nat.blt f.2.1 (kN f.1) && kw (kflp o i) (.fieldLink (kR o) i (kF f.1 f.2.1).1 (kF f.1 f.2.1).2.1 (kF f.1 f.2.1).2.2.1) && (match f.2.2, kFt f.1 f.2.1 with
    | 0, .int => true
    | 1, .long => true
    | 2, .object _ => true
    | 2, .array _ => true
    | 3, .boolean => true
    | _, _ => false)
theorem kfck_all : kall kfck = true := by decide +kernel
def kgck (o i : Nat) : Bool := match kgs o i with
  | none => true
  | some v => (decide (v = .retAddr 0) && kw (kgsp o i) (.fieldLink (kR o) i "SwapAssize$Lexer" "WORDS" "[J")) || (decide (v = .retAddr 1) && kw (kgsp o i) (.fieldLink (kR o) i "SwapAssize" "STRANGE_DEALS" "[I")) || (decide (v = .int 1) && kw (kgsp o i) (.fieldLink (kR o) i "java/lang/String" "COMPACT_STRINGS" "Z"))
theorem kgck_all : kall kgck = true := by decide +kernel
def ksck (o i : Nat) : Bool := match kso o i with
  | none => true
  | some v => (decide (v = .retAddr 3) && kw (kflp o i) (.fieldLink (kR o) i "java/lang/String" "value" "[B")) || (decide (v = .int 0) && kw (kflp o i) (.fieldLink (kR o) i "java/lang/String" "coder" "B"))
theorem ksck_all : kall ksck = true := by decide +kernel
def kcck (o i : Nat) : Bool := (match kclk o i with
    | none => true
    | some c => Nat.blt c 13 && kw (kclkp o i) (.classLink (kR o) i (kC c))) && (match kan o i with
    | none => true
    | some t => (Nat.beq t 4 && kw (kanp o i) (.classLink (kR o) i "SwapAssize$State")) || (Nat.beq t 5 && kw (kanp o i) (.classLink (kR o) i "SwapAssize$Seen"))) && (match kcn o i with
    | none => true
    | some v => kw (kcnp o i) (.constant (kR o) i v)) && (match kcj o i with
    | none => true
    | some v => kw (kcjp o i) (.constantLong (kR o) i v)) && (!kcs o i || (Nat.beq o 2 && Nat.beq i 50))
theorem kcck_all : kall kcck = true := by decide +kernel
def kmck (m : Nat) : Bool := kw (kmip m) (.initialized (ky m).cls) && decide ((ky m).cls = kR (kown m)) && decide ((ky m).cls ≠ "java/lang/invoke/MethodHandle") && decide ((ky m).cls ≠ "java/lang/invoke/VarHandle") && decide ((parseMethodDescriptor (ky m).desc).map (fun d => d.parameters.length) = some (knar m)) && plainFor (ky m) && Nat.ble (kmax m) 45
def kmckv (m : Nat) : Bool := (!kisv m || (kw (kmin m) (.instanceMethod (ky m)) && kw (kmse m) (.selects (ky m).cls (ky m) (ky m)))) && (!kiss m || kw (kmst m) (.static (ky m))) && (!kini m || (kw (kmin m) (.instanceMethod (ky m)) && decide ((ky m).name = "<init>") && decide (kret m = none)))
theorem kmck_0 : (List.range' 0 48).all kmck = true := by decide +kernel
theorem kmck_1 : (List.range' 48 48).all kmck = true := by decide +kernel
theorem kmck_2 : (List.range' 96 48).all kmck = true := by decide +kernel
theorem kmck_3 : (List.range' 144 48).all kmck = true := by decide +kernel
theorem kmck_4 : (List.range' 192 48).all kmck = true := by decide +kernel
theorem kmck_5 : (List.range' 240 48).all kmck = true := by decide +kernel
theorem kmckv_all : (List.range 288).all kmckv = true := by decide +kernel
def klck (o i : Nat) : Bool := match kml o i with
  | none => true
  | some f => (match f.1 with
    | 0 => Nat.blt f.2.1 288 && kiss f.2.1 && Nat.beq f.2.2 (knar f.2.1) && kw (kmlp o i) (.methodLink (kR o) i (ky f.2.1))
    | 1 => Nat.blt f.2.1 288 && kisv f.2.1 && Nat.beq f.2.2 (knar f.2.1) && kw (kmlp o i) (.methodLink (kR o) i (ky f.2.1))
    | 2 => Nat.blt f.2.1 288 && kini f.2.1 && Nat.beq f.2.2 (knar f.2.1) && kw (kmlp o i) (.methodLink (kR o) i (ky f.2.1))
    | 3 => Nat.blt f.2.1 288 && kini f.2.1 && Nat.beq f.2.2 (knar f.2.1) && knest.any (fun q => Nat.beq q.1 o && Nat.beq q.2.1 i && Nat.beq q.2.2.1 f.2.1)
    | 4 => Nat.blt f.2.1 288 && kiss f.2.1 && Nat.beq f.2.2 (knar f.2.1) && knest.any (fun q => Nat.beq q.1 o && Nat.beq q.2.1 i && Nat.beq q.2.2.1 f.2.1)
    | 5 => kw (kmlp o i) (.methodLink (kR o) i objectInit)
    | 6 => kw (kmlp o i) (.methodLink (kR o) i ⟨"java/lang/System", "arraycopy", "(Ljava/lang/Object;ILjava/lang/Object;II)V"⟩)
    | _ => false)
theorem klck_all : kall klck = true := by decide +kernel
def kxck (c : Nat) : Bool := (List.range (kN c)).all (fun k => kw ((klay c).getD k 0) (u_lay (kC c) (kF c) k) && decide (parseFieldDescriptor (kF c k).2.2.1 = some (kFt c k)) && decide (defaultValue (kFt c k) = vp_V (knew c) k) && (kfin c k == (kF c k).2.2.2) && (!kfin c k || decide ((kF c k).1 = kC c)) && (List.range (kN c)).all (fun j => Nat.beq j k || decide ((kF c j).2.1 ≠ (kF c k).2.1))) && Nat.beq (knew c).length (kN c) && kw (kcnw c) (.instantiable (kC c) (kN c)) && kw (kcip c) (.initialized (kC c)) && decide (kC c = kR c)
theorem kxck_all : (List.range 13).all kxck = true := by decide +kernel
theorem kack_0 : kw (karp 0) (.arrayClass .int) = true := by decide +kernel
theorem kack_1 : kw (karp 1) (.arrayClass .long) = true := by decide +kernel
theorem kack_2 : kw (karp 2) (.arrayClass .byte) = true := by decide +kernel
theorem kack_3 : kw (karp 3) (.arrayClass .boolean) = true := by decide +kernel
theorem kack_4 : lw_tbl[karp 4]? = some (.arrayOver (.object "SwapAssize$State")) := by decide +kernel
theorem kack_5 : lw_tbl[karp 5]? = some (.arrayOver (.object "SwapAssize$Seen")) := by decide +kernel
theorem kack_oi : (kw kpos_oi.1 (.instanceMethod objectInit) && kw kpos_oi.2 (.code objectInit ⟨#[0xb1]⟩ 1 none)) = true := by decide +kernel
theorem kack_ac : (kw kpos_ac.1 (.native ⟨"java/lang/System", "arraycopy", "(Ljava/lang/Object;ILjava/lang/Object;II)V"⟩) && kw kpos_ac.2.1 (.static ⟨"java/lang/System", "arraycopy", "(Ljava/lang/Object;ILjava/lang/Object;II)V"⟩) && kw kpos_ac.2.2 (.initialized "java/lang/System")) = true := by decide +kernel
theorem kack_n : knest.all (fun q => decide (lw_tbl[q.2.2.2]? = some (.methodLinkNest (kR q.1) q.2.1 (ky q.2.2.1) "SwapAssize"))) = true := by decide +kernel
theorem kcl_vw {c : Nat} (h : c < 13) : vwCl[c]? = some (kC c, kF c, kN c) := match c, h with
  | 0, _ => rfl
  | 1, _ => rfl
  | 2, _ => rfl
  | 3, _ => rfl
  | 4, _ => rfl
  | 5, _ => rfl
  | 6, _ => rfl
  | 7, _ => rfl
  | 8, _ => rfl
  | 9, _ => rfl
  | 10, _ => rfl
  | 11, _ => rfl
  | 12, _ => rfl
  | n + 13, h => absurd h (by omega)
