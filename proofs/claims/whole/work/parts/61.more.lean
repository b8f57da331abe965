/-! uneven, lucky, mercy, harsh, idle, spared -/
def nmx (f : Nat → Nat) : Nat → Nat
  | 0 => 0
  | n + 1 => max (nmx f n) (f n)
def nmn (f : Nat → Nat) : Nat → Nat
  | 0 => 9999
  | n + 1 => min (nmn f n) (f n)
theorem nmx_le {f : Nat → Nat} {b : Nat} : ∀ n, (∀ k, k < n → f k ≤ b) → nmx f n ≤ b := by
  intro n
  induction n with
  | zero => intro _; exact Nat.zero_le _
  | succ n ih =>
    intro h
    have a := ih (fun k hk => h k (by omega))
    have b' := h n (by omega)
    rw [nmx]
    omega
theorem nmn_le (f : Nat → Nat) : ∀ n, nmn f n ≤ 9999 := by
  intro n
  induction n with
  | zero => exact Nat.le_refl _
  | succ n ih =>
    rw [nmn]
    omega
theorem nmx_0 {f : Nat → Nat} {m : Nat} : ∀ n, (∀ k, m ≤ k → k < m + n → f k = 0) → nmx f (m + n) = nmx f m := by
  intro n
  induction n with
  | zero => intro _; rfl
  | succ n ih =>
    intro h
    rw [← Nat.add_assoc, nmx, ih (fun k h1 h2 => h k h1 (by omega)), h (m + n) (by omega) (by omega)]
    omega
theorem kmost_n {f : Nat → Int32} {h : Nat → Nat} : ∀ n, (∀ k, k < n → f k = nI (h k)) → (∀ k, k < n → h k ≤ 9999) → kmost f n = nI (nmx h n) := by
  intro n
  induction n with
  | zero => intro _ _; rfl
  | succ n ih =>
    intro h1 h2
    have hb := nmx_le (f := h) (b := 9999) n (fun k hk => h2 k (by omega))
    have hn := h2 n (by omega)
    rw [kmost, nmx, ih (fun k hk => h1 k (by omega)) (fun k hk => h2 k (by omega)), h1 n (by omega), kmax_n (by omega) (by omega)]
def aUneven (r : aRl) (s : aSt) : Int32 := if r.nc = 0 then nI 0 else nI (nmx s.hd r.nc) - nI (nmn s.hd r.nc)
def abV (f : Nat → Nat → Bool) (v : Nat → Int32) : Nat → Int32
  | 0 => 0
  | n + 1 => v (abN f n)
theorem abN_t {f : Nat → Nat → Bool} {n : Nat} (h : f (n + 1) (abN f n) = true) : abN f (n + 1) = n + 1 := if_pos h
theorem abN_f {f : Nat → Nat → Bool} {n : Nat} (h : ¬ f (n + 1) (abN f n) = true) : abN f (n + 1) = abN f n := if_neg h
def lkF (r : aRl) (s : aSt) (c : Nat) : Int32 := nI (s.hd c) - nI (r.gu c) * s.rd
def lkB (r : aRl) (s : aSt) (c b : Nat) : Bool := decide (lkF r s c < lkF r s b)
def aLucky (r : aRl) (s : aSt) : Int32 := abI (lkB r s) r.nc
/-- what a judge would give a case -/
def vf (r : aRl) (s : aSt) (c j : Nat) : Nat := vd (r.kd j) (r.gu c) (s.ln j)
theorem vf_le (r : aRl) (s : aSt) (c j : Nat) : vf r s c j ≤ 40 := vd_le _ _ _
def mcB (r : aRl) (s : aSt) (c j b : Nat) : Bool := decide (vf r s c j < vf r s c b)
def aMercy (r : aRl) (s : aSt) (x : Int32) : Int32 := if kidx x (nI r.nc) = 0 then -1 else abI (mcB r s x.toNatClampNeg) r.nj
def hsF (r : aRl) (s : aSt) (j : Nat) : Nat := nsum (fun c => vf r s c j) r.nc
theorem hsF_le {r : aRl} (vr : vRl r) (s : aSt) (j : Nat) : hsF r s j ≤ 280 := by
  have h := nsum_le (f := fun c => vf r s c j) (b := 40) r.nc (fun k _ => vf_le r s k j)
  have h7 := vr.c
  unfold hsF
  omega
def hsB (r : aRl) (s : aSt) (j b : Nat) : Bool := decide (hsF r s b < hsF r s j)
def aHarsh (r : aRl) (s : aSt) : Int32 := abI (hsB r s) r.nj
/-- how many chairs are busy on the first n days -/
def bzC (r : aRl) (s : aSt) : Nat → Nat
  | 0 => 0
  | n + 1 => max (bzC r s n) (dM r s n)
theorem bzC_le {r : aRl} {s : aSt} : ∀ n, bzC r s n ≤ r.nj := by
  intro n
  induction n with
  | zero => exact Nat.zero_le _
  | succ n ih =>
    have := dM_le r s n
    rw [bzC]
    omega
def idF (r : aRl) (s : aSt) : Nat → Int32 := kfold (fun k x => if bzC r s 4 ≤ k then x ||| (1 <<< (nI (s.ch k) &&& 31)) else x)
def aIdle (r : aRl) (s : aSt) : Int32 := idF r s r.nj
theorem idF_0 {r : aRl} {s : aSt} : ∀ n, n ≤ bzC r s 4 → idF r s n = nI 0 := by
  intro n
  induction n with
  | zero => intro _; rfl
  | succ n ih =>
    intro h
    show (if bzC r s 4 ≤ n then idF r s n ||| _ else idF r s n) = _
    rw [if_neg (by omega), ih (by omega)]
def sprF (r : aRl) (u : aSt) : Int32 := kfold (fun p x => if dA r u u.nx (dS r u p) < dA r u u.nx p then x ||| (1 <<< (nI (dH r u u.nx p) &&& 31)) else x) (dM r u u.nx)
def orN (f : Nat → Int32) : Nat → Int32
  | 0 => 0
  | n + 1 => orN f n ||| f n
def aSpared (r : aRl) (s : aSt) : Int32 := orN (fun n => sprF r (adv r s n)) 4
theorem spared_days {r : aRl} {s : aSt} (hn : s.nx < 4) : orN (fun n => sprF r (nxt r s n)) 4 = aSpared r s := by
  unfold aSpared nxt
  generalize hf : (fun n => sprF r (adv r s n)) = f
  have hf' : ∀ n, sprF r (adv r s n) = f n := fun n => congrFun hf n
  simp only [hf']
  rcases (by omega : s.nx = 0 ∨ s.nx = 1 ∨ s.nx = 2 ∨ s.nx = 3) with h | h | h | h
  · rw [h]; rfl
  · rw [h]
    show (((0 ||| f 3) ||| f 0) ||| f 1) ||| f 2 = (((0 ||| f 0) ||| f 1) ||| f 2) ||| f 3
    simp only [Int32.zero_or]
    rw [Int32.or_comm (((f 0 ||| f 1) ||| f 2)) (f 3), Int32.or_assoc, Int32.or_assoc, Int32.or_assoc]
  · rw [h]
    show (((0 ||| f 2) ||| f 3) ||| f 0) ||| f 1 = (((0 ||| f 0) ||| f 1) ||| f 2) ||| f 3
    simp only [Int32.zero_or]
    rw [Int32.or_assoc (f 2 ||| f 3), Int32.or_comm (f 2 ||| f 3), Int32.or_assoc (f 0 ||| f 1)]
  · rw [h]
    show (((0 ||| f 1) ||| f 2) ||| f 3) ||| f 0 = (((0 ||| f 0) ||| f 1) ||| f 2) ||| f 3
    simp only [Int32.zero_or]
    rw [Int32.or_comm (((f 1 ||| f 2) ||| f 3)) (f 0), Int32.or_assoc (f 0) (f 1), Int32.or_assoc (f 0) (f 1 ||| f 2)]
section QM
variable {xs : List Int32} {d : Nat} {I I' I2 : Nat → Nat → Int32} {J : Nat → Nat → Int64} {rf : Nat → Nat} {g : Nat} {R : Option Value → KW → Prop} {r : aRl} {s u : aSt}
/-- uneven -/
theorem sp135 (h : cB I rf r s) : kX xs (d + 2) 135 0 [some (.ref 0), none, none] [] (kmm I J rf g) R = R (some (.int (aUneven r s))) (kmm I J rf g) := by
  unfold aUneven
  have ht := h.t
  have e0 := h.rl.nc
  have hc7 := h.vr.c
  by_cases hz : r.nc = 0
  · rw [hz] at e0
    rw [if_pos hz]
    simp (disch := omega) only [B135_0, B135_10, B135_12, B135_24, B135_35, B135_48, B135_55, B135_62, kO_s, kcond_t, kpush_s, kpush_n, nI_add, nI_add1, pk_mul, n_0, n_2, n_3, n_4, n_5, if_true, if_false, Nat.add_zero, krecv_m ks0, krecv_m ks54, kg1_0, kg2_0, kp2_0, kg2_1, kg2_2, kp2_2, kg2_3, kp2_3, kg2_4, kp2_4, kg2_5, kp2_5, kg2_6, kp2_6, kg2_7, kp2_7, kg3_0, kp3_0, kg3_1, kp3_1, kg3_2, kg4_0, kg4_1, kg5_0, kg5_1, kg5_2, kp5_2, kg5_3, kp5_3, kg5_4, kp5_4, kg5_5, kp5_5, kg8_0, kp8_0, kg8_1, kg8_2, kg8_3, kg8_4, kg8_5, kg8_6, kg8_7, kg11_0, kg11_1, kg11_2, kg11_3, kg11_4, kg11_5, kg11_6, kg11_7, kg11_8, kg11_9, kg11_10, kg11_11, kg11_12, kg11_13, kg11_14, kg11_15, kg11_16, kp11_16, kb2, kv2, ka55, kw55, ka56, kw56, ka57, kw57, ka58, kw58, kb59, kv59, ka60, kw60, ka61, kw61, ka63, kw63, ka64, kw64, kr66, kr150, kr151, kb152, kv152, c8_m17, c8_m16, c8_m15, c8_m14, c8_m13, c8_m12, c8_m11, c8_m10, c8_m2, c8_6, c8_7, c8_8, c8_9, c8_10, c8_11, c8_12, c8_13, c8_14, c8_15, c8_16, c8_17, c8_18, c8_19, c8_20, c8_21, c8_22, c8_23, c8_25, c8_30, c8_31, c8_32, c8_39, c8_40, c8_41, c8_42, c8_43, c8_45, c8_48, c8_55, c8_56, c8_57, c8_59, c8_60, c8_61, c8_63, c8_70, c8_90, c8_91, c8_92, c8_93, c8_94, c8_96, c8_97, c8_99, c8_115, c8_122, c8_125, c8_126, c8_127, c16_128, c16_129, c16_131, c16_132, c16_135, c16_136, c16_137, c16_138, c16_139, c16_142, c16_143, c16_144, c16_145, c16_146, c16_149, c16_180, c16_250, c16_255, c16_1000, c16_1002, c16_1100, c16_1155, c16_1157, c16_1164, c16_1178, c16_1210, c16_1212, c16_1219, c16_1233, c16_1265, c16_2200, c16_4095, c16_4096, c16_9999, c16_12345, krecv_m ht, sp51 ht, sp52 ht, kg6_0 ht, kg6_1 ht, kg6_2 ht, kg6_3 ht, kg6_4 ht, kg6_5 ht, kg6_6 ht, kg6_7 ht, kj6_1 ht, kj6_2 ht, ka6_3 ht, ka6_4 ht, e0]
  · have hn0 : ¬ nI r.nc = nI 0 := by rw [nI_inj (by omega) (by omega)]; exact hz
    have L := kchain (n := r.nc - 1) (fun t => kX xs (d + 2) 135 24 [some (.ref 0), some (.int (nI (nmn s.hd (t + 1)))), some (.int (nI (t + 1)))] [] (kmm I J rf g) R) (by
      intro t ht'
      have hu := h.st.hd (t + 1) (by omega)
      have hu9 := h.vs.hd (t + 1) (by omega)
      have hb := nmn_le s.hd (t + 1)
      have ht2 : t + 1 < r.nc := by omega
      show kX xs (d + 2) 135 24 _ _ _ _ = kX xs (d + 2) 135 24 _ _ _ _
      rw [B135_24, show nmn s.hd (t + 1 + 1) = min (nmn s.hd (t + 1)) (s.hd (t + 1)) from rfl]
      simp (disch := omega) only [B135_0, B135_10, B135_12, B135_35, B135_48, B135_55, B135_62, kO_s, kcond_t, kpush_s, kpush_n, nI_add, nI_add1, pk_mul, n_0, n_2, n_3, n_4, n_5, if_true, if_false, Nat.add_zero, krecv_m ks0, krecv_m ks54, kg1_0, kg2_0, kp2_0, kg2_1, kg2_2, kp2_2, kg2_3, kp2_3, kg2_4, kp2_4, kg2_5, kp2_5, kg2_6, kp2_6, kg2_7, kp2_7, kg3_0, kp3_0, kg3_1, kp3_1, kg3_2, kg4_0, kg4_1, kg5_0, kg5_1, kg5_2, kp5_2, kg5_3, kp5_3, kg5_4, kp5_4, kg5_5, kp5_5, kg8_0, kp8_0, kg8_1, kg8_2, kg8_3, kg8_4, kg8_5, kg8_6, kg8_7, kg11_0, kg11_1, kg11_2, kg11_3, kg11_4, kg11_5, kg11_6, kg11_7, kg11_8, kg11_9, kg11_10, kg11_11, kg11_12, kg11_13, kg11_14, kg11_15, kg11_16, kp11_16, kb2, kv2, ka55, kw55, ka56, kw56, ka57, kw57, ka58, kw58, kb59, kv59, ka60, kw60, ka61, kw61, ka63, kw63, ka64, kw64, kr66, kr150, kr151, kb152, kv152, c8_m17, c8_m16, c8_m15, c8_m14, c8_m13, c8_m12, c8_m11, c8_m10, c8_m2, c8_6, c8_7, c8_8, c8_9, c8_10, c8_11, c8_12, c8_13, c8_14, c8_15, c8_16, c8_17, c8_18, c8_19, c8_20, c8_21, c8_22, c8_23, c8_25, c8_30, c8_31, c8_32, c8_39, c8_40, c8_41, c8_42, c8_43, c8_45, c8_48, c8_55, c8_56, c8_57, c8_59, c8_60, c8_61, c8_63, c8_70, c8_90, c8_91, c8_92, c8_93, c8_94, c8_96, c8_97, c8_99, c8_115, c8_122, c8_125, c8_126, c8_127, c16_128, c16_129, c16_131, c16_132, c16_135, c16_136, c16_137, c16_138, c16_139, c16_142, c16_143, c16_144, c16_145, c16_146, c16_149, c16_180, c16_250, c16_255, c16_1000, c16_1002, c16_1100, c16_1155, c16_1157, c16_1164, c16_1178, c16_1210, c16_1212, c16_1219, c16_1233, c16_1265, c16_2200, c16_4095, c16_4096, c16_9999, c16_12345, krecv_m ht, sp51 ht, sp52 ht, kg6_0 ht, kg6_1 ht, kg6_2 ht, kg6_3 ht, kg6_4 ht, kg6_5 ht, kg6_6 ht, kg6_7 ht, kj6_1 ht, kj6_2 ht, ka6_3 ht, ka6_4 ht, krecv_m ks39, kg9_0 ks39, kp9_0 ks39, kg9_1 ks39, kp9_1 ks39, kg9_2 ks39, kg9_3 ks39, kg9_4 ks39, kg9_5 ks39, ka9_1 ks39, kw9_1 ks39, ka9_2 ks39, kw9_2 ks39, ka9_3 ks39, kw9_3 ks39, ka9_4 ks39, kw9_4 ks39, nI_inj, nI_lt_eq, nI_eq1, Nat.reduceEqDiff, e0, ht2, hu, sp279, kmin_n])
    have h00 := h.st.hd 0 (by omega)
    have h09 := h.vs.hd 0 (by omega)
    have e95 : kmost (I (39 + 1)) 7 = nI (nmx s.hd r.nc) := by
      rw [kmost_n 7 h.st.hd h.vs.hd]
      have := nmx_0 (f := s.hd) (m := r.nc) (7 - r.nc) (fun k h1 h2 => h.vs.h0 k (by omega) h1)
      rw [show r.nc + (7 - r.nc) = 7 by omega] at this
      rw [this]
    have z1 : nmn s.hd (0 + 1) = s.hd 0 := by
      show min 9999 (s.hd 0) = s.hd 0
      omega
    rw [z1] at L
    rw [if_neg hz, B135_0, kg11_2, kO_s, kg6_1 ht, kO_s, e0, n_0, if_neg hn0, B135_12, kg11_6, kO_s, kg9_2 ks39, kO_s, n_0, ka9_1 ks39 (by omega), kO_s, h00]
    refine Eq.trans L ?_
    rw [show r.nc - 1 + 1 = r.nc by omega, B135_24, kg11_2, kO_s, kg6_1 ht, kO_s, e0, if_neg (nI_nlt (Nat.le_refl _) (by omega)), B135_55, kg11_6, kO_s, krecv_m ks39, kcond_t, sp95 ks39, kpush_s, e95, B135_62]
theorem sp250 (h : mB I r s) : ∃ I', mQ I I' ∧ ∀ d R, kX xs (d + 1) 250 0 [some (.ref 185), none, none, none, none] [] (kmm I J rf g) R = R (some (.int (aUneven r s))) (kmm I' J rf g) := by
  have hq := mQ.thr I (nI 0)
  have h' := h.keep hq
  have e0 := h'.rl.nc
  have hc7 := h.vr.c
  refine ⟨_, hq, fun d R => ?_⟩
  have L := kchain (n := r.nc) (fun t => kX xs (d + 1) 250 13 [some (.ref 185), some (.int (nI (nmx s.hd t))), some (.int (nI (nmn s.hd t))), some (.int (nI t)), none] [] (kmm (ku I 185 0 (nI 0)) J rf g) R) (by
    intro t ht'
    have hu := h'.st.hd t (by omega)
    rw [show 0 + 2 + t = 2 + t by omega] at hu
    have hu9 := h.vs.hd t (by omega)
    have hb := nmn_le s.hd t
    have hx := nmx_le (f := s.hd) (b := 9999) t (fun k hk => h.vs.hd k (by omega))
    show kX xs (d + 1) 250 13 _ _ _ _ = kX xs (d + 1) 250 13 _ _ _ _
    rw [B250_13, nmn, nmx]
    by_cases q1 : nmx s.hd t < s.hd t
    · rw [Nat.max_eq_right (by omega)]
      by_cases q2 : s.hd t < nmn s.hd t
      · rw [Nat.min_eq_right (by omega)]
        simp (disch := omega) only [B250_0, B250_18, B250_21, B250_37, B250_42, B250_43, B250_50, B250_55, B250_56, B250_63, B250_67, B250_70, B250_74, B250_77, kO_s, kcond_t, kpush_s, kpush_n, nI_add, nI_add1, pk_mul, n_0, n_2, n_3, n_4, n_5, if_true, if_false, Nat.add_zero, krecv_m ks185, kg12_0, kp12_0, kg12_1, kg12_2, kp12_2, kg12_3, kp12_3, kg12_4, kg12_5, kg12_6, kg12_7, kp12_7, kg12_8, kp12_8, kg12_9, kg12_10, kg12_11, kg12_12, kg12_13, kp12_13, kg12_14, kg12_15, kg12_16, kg12_17, kg12_18, kp12_18, kg12_19, kp12_19, kg12_20, kg12_21, kg12_22, kg12_23, kg12_24, kp12_24, kg12_25, kg12_26, kg12_27, kg12_28, kp12_28, kg12_29, kg12_30, kg12_31, kg12_32, kp12_32, kg12_33, kp12_33, ka186, kw186, ka187, kw187, ka188, kw188, kj189, kk189, kj190, kk190, ka191, kw191, ka192, kw192, ka193, kw193, kj194, kk194, kj195, kk195, ka196, kw196, ka197, kw197, ka198, kw198, ka199, kw199, ka200, kw200, ka201, kw201, kb202, kv202, ka203, kw203, ka204, kw204, ka205, kw205, ka206, kw206, ka207, kw207, kj208, kk208, c8_m17, c8_m16, c8_m15, c8_m14, c8_m13, c8_m12, c8_m11, c8_m10, c8_m2, c8_6, c8_7, c8_8, c8_9, c8_10, c8_11, c8_12, c8_13, c8_14, c8_15, c8_16, c8_17, c8_18, c8_19, c8_20, c8_21, c8_22, c8_23, c8_25, c8_30, c8_31, c8_32, c8_39, c8_40, c8_41, c8_42, c8_43, c8_45, c8_48, c8_55, c8_56, c8_57, c8_59, c8_60, c8_61, c8_63, c8_70, c8_90, c8_91, c8_92, c8_93, c8_94, c8_96, c8_97, c8_99, c8_115, c8_122, c8_125, c8_126, c8_127, c16_128, c16_129, c16_131, c16_132, c16_135, c16_136, c16_137, c16_138, c16_139, c16_142, c16_143, c16_144, c16_145, c16_146, c16_149, c16_180, c16_250, c16_255, c16_1000, c16_1002, c16_1100, c16_1155, c16_1157, c16_1164, c16_1178, c16_1210, c16_1212, c16_1219, c16_1233, c16_1265, c16_2200, c16_4095, c16_4096, c16_9999, c16_12345, nI_inj, nI_lt_eq, nI_eq1, Nat.reduceEqDiff, sp200, e0, ht', hu, q1, q2]
      · rw [Nat.min_eq_left (by omega)]
        simp (disch := omega) only [B250_0, B250_18, B250_21, B250_37, B250_42, B250_43, B250_50, B250_55, B250_56, B250_63, B250_67, B250_70, B250_74, B250_77, kO_s, kcond_t, kpush_s, kpush_n, nI_add, nI_add1, pk_mul, n_0, n_2, n_3, n_4, n_5, if_true, if_false, Nat.add_zero, krecv_m ks185, kg12_0, kp12_0, kg12_1, kg12_2, kp12_2, kg12_3, kp12_3, kg12_4, kg12_5, kg12_6, kg12_7, kp12_7, kg12_8, kp12_8, kg12_9, kg12_10, kg12_11, kg12_12, kg12_13, kp12_13, kg12_14, kg12_15, kg12_16, kg12_17, kg12_18, kp12_18, kg12_19, kp12_19, kg12_20, kg12_21, kg12_22, kg12_23, kg12_24, kp12_24, kg12_25, kg12_26, kg12_27, kg12_28, kp12_28, kg12_29, kg12_30, kg12_31, kg12_32, kp12_32, kg12_33, kp12_33, ka186, kw186, ka187, kw187, ka188, kw188, kj189, kk189, kj190, kk190, ka191, kw191, ka192, kw192, ka193, kw193, kj194, kk194, kj195, kk195, ka196, kw196, ka197, kw197, ka198, kw198, ka199, kw199, ka200, kw200, ka201, kw201, kb202, kv202, ka203, kw203, ka204, kw204, ka205, kw205, ka206, kw206, ka207, kw207, kj208, kk208, c8_m17, c8_m16, c8_m15, c8_m14, c8_m13, c8_m12, c8_m11, c8_m10, c8_m2, c8_6, c8_7, c8_8, c8_9, c8_10, c8_11, c8_12, c8_13, c8_14, c8_15, c8_16, c8_17, c8_18, c8_19, c8_20, c8_21, c8_22, c8_23, c8_25, c8_30, c8_31, c8_32, c8_39, c8_40, c8_41, c8_42, c8_43, c8_45, c8_48, c8_55, c8_56, c8_57, c8_59, c8_60, c8_61, c8_63, c8_70, c8_90, c8_91, c8_92, c8_93, c8_94, c8_96, c8_97, c8_99, c8_115, c8_122, c8_125, c8_126, c8_127, c16_128, c16_129, c16_131, c16_132, c16_135, c16_136, c16_137, c16_138, c16_139, c16_142, c16_143, c16_144, c16_145, c16_146, c16_149, c16_180, c16_250, c16_255, c16_1000, c16_1002, c16_1100, c16_1155, c16_1157, c16_1164, c16_1178, c16_1210, c16_1212, c16_1219, c16_1233, c16_1265, c16_2200, c16_4095, c16_4096, c16_9999, c16_12345, nI_inj, nI_lt_eq, nI_eq1, Nat.reduceEqDiff, sp200, e0, ht', hu, q1, q2]
    · rw [Nat.max_eq_left (by omega)]
      by_cases q2 : s.hd t < nmn s.hd t
      · rw [Nat.min_eq_right (by omega)]
        simp (disch := omega) only [B250_0, B250_18, B250_21, B250_37, B250_42, B250_43, B250_50, B250_55, B250_56, B250_63, B250_67, B250_70, B250_74, B250_77, kO_s, kcond_t, kpush_s, kpush_n, nI_add, nI_add1, pk_mul, n_0, n_2, n_3, n_4, n_5, if_true, if_false, Nat.add_zero, krecv_m ks185, kg12_0, kp12_0, kg12_1, kg12_2, kp12_2, kg12_3, kp12_3, kg12_4, kg12_5, kg12_6, kg12_7, kp12_7, kg12_8, kp12_8, kg12_9, kg12_10, kg12_11, kg12_12, kg12_13, kp12_13, kg12_14, kg12_15, kg12_16, kg12_17, kg12_18, kp12_18, kg12_19, kp12_19, kg12_20, kg12_21, kg12_22, kg12_23, kg12_24, kp12_24, kg12_25, kg12_26, kg12_27, kg12_28, kp12_28, kg12_29, kg12_30, kg12_31, kg12_32, kp12_32, kg12_33, kp12_33, ka186, kw186, ka187, kw187, ka188, kw188, kj189, kk189, kj190, kk190, ka191, kw191, ka192, kw192, ka193, kw193, kj194, kk194, kj195, kk195, ka196, kw196, ka197, kw197, ka198, kw198, ka199, kw199, ka200, kw200, ka201, kw201, kb202, kv202, ka203, kw203, ka204, kw204, ka205, kw205, ka206, kw206, ka207, kw207, kj208, kk208, c8_m17, c8_m16, c8_m15, c8_m14, c8_m13, c8_m12, c8_m11, c8_m10, c8_m2, c8_6, c8_7, c8_8, c8_9, c8_10, c8_11, c8_12, c8_13, c8_14, c8_15, c8_16, c8_17, c8_18, c8_19, c8_20, c8_21, c8_22, c8_23, c8_25, c8_30, c8_31, c8_32, c8_39, c8_40, c8_41, c8_42, c8_43, c8_45, c8_48, c8_55, c8_56, c8_57, c8_59, c8_60, c8_61, c8_63, c8_70, c8_90, c8_91, c8_92, c8_93, c8_94, c8_96, c8_97, c8_99, c8_115, c8_122, c8_125, c8_126, c8_127, c16_128, c16_129, c16_131, c16_132, c16_135, c16_136, c16_137, c16_138, c16_139, c16_142, c16_143, c16_144, c16_145, c16_146, c16_149, c16_180, c16_250, c16_255, c16_1000, c16_1002, c16_1100, c16_1155, c16_1157, c16_1164, c16_1178, c16_1210, c16_1212, c16_1219, c16_1233, c16_1265, c16_2200, c16_4095, c16_4096, c16_9999, c16_12345, nI_inj, nI_lt_eq, nI_eq1, Nat.reduceEqDiff, sp200, e0, ht', hu, q1, q2]
      · rw [Nat.min_eq_left (by omega)]
        simp (disch := omega) only [B250_0, B250_18, B250_21, B250_37, B250_42, B250_43, B250_50, B250_55, B250_56, B250_63, B250_67, B250_70, B250_74, B250_77, kO_s, kcond_t, kpush_s, kpush_n, nI_add, nI_add1, pk_mul, n_0, n_2, n_3, n_4, n_5, if_true, if_false, Nat.add_zero, krecv_m ks185, kg12_0, kp12_0, kg12_1, kg12_2, kp12_2, kg12_3, kp12_3, kg12_4, kg12_5, kg12_6, kg12_7, kp12_7, kg12_8, kp12_8, kg12_9, kg12_10, kg12_11, kg12_12, kg12_13, kp12_13, kg12_14, kg12_15, kg12_16, kg12_17, kg12_18, kp12_18, kg12_19, kp12_19, kg12_20, kg12_21, kg12_22, kg12_23, kg12_24, kp12_24, kg12_25, kg12_26, kg12_27, kg12_28, kp12_28, kg12_29, kg12_30, kg12_31, kg12_32, kp12_32, kg12_33, kp12_33, ka186, kw186, ka187, kw187, ka188, kw188, kj189, kk189, kj190, kk190, ka191, kw191, ka192, kw192, ka193, kw193, kj194, kk194, kj195, kk195, ka196, kw196, ka197, kw197, ka198, kw198, ka199, kw199, ka200, kw200, ka201, kw201, kb202, kv202, ka203, kw203, ka204, kw204, ka205, kw205, ka206, kw206, ka207, kw207, kj208, kk208, c8_m17, c8_m16, c8_m15, c8_m14, c8_m13, c8_m12, c8_m11, c8_m10, c8_m2, c8_6, c8_7, c8_8, c8_9, c8_10, c8_11, c8_12, c8_13, c8_14, c8_15, c8_16, c8_17, c8_18, c8_19, c8_20, c8_21, c8_22, c8_23, c8_25, c8_30, c8_31, c8_32, c8_39, c8_40, c8_41, c8_42, c8_43, c8_45, c8_48, c8_55, c8_56, c8_57, c8_59, c8_60, c8_61, c8_63, c8_70, c8_90, c8_91, c8_92, c8_93, c8_94, c8_96, c8_97, c8_99, c8_115, c8_122, c8_125, c8_126, c8_127, c16_128, c16_129, c16_131, c16_132, c16_135, c16_136, c16_137, c16_138, c16_139, c16_142, c16_143, c16_144, c16_145, c16_146, c16_149, c16_180, c16_250, c16_255, c16_1000, c16_1002, c16_1100, c16_1155, c16_1157, c16_1164, c16_1178, c16_1210, c16_1212, c16_1219, c16_1233, c16_1265, c16_2200, c16_4095, c16_4096, c16_9999, c16_12345, nI_inj, nI_lt_eq, nI_eq1, Nat.reduceEqDiff, sp200, e0, ht', hu, q1, q2])
  rw [B250_0, kp12_0, kO_s, n_0, c16_9999]
  refine Eq.trans L ?_
  unfold aUneven
  rw [B250_13]
  by_cases hz : r.nc = 0
  · rw [if_pos hz]
    rw [hz] at e0 ⊢
    simp (disch := omega) only [B250_0, B250_18, B250_21, B250_37, B250_42, B250_43, B250_50, B250_55, B250_56, B250_63, B250_67, B250_70, B250_74, B250_77, kO_s, kcond_t, kpush_s, kpush_n, nI_add, nI_add1, pk_mul, n_0, n_2, n_3, n_4, n_5, if_true, if_false, Nat.add_zero, krecv_m ks185, kg12_0, kp12_0, kg12_1, kg12_2, kp12_2, kg12_3, kp12_3, kg12_4, kg12_5, kg12_6, kg12_7, kp12_7, kg12_8, kp12_8, kg12_9, kg12_10, kg12_11, kg12_12, kg12_13, kp12_13, kg12_14, kg12_15, kg12_16, kg12_17, kg12_18, kp12_18, kg12_19, kp12_19, kg12_20, kg12_21, kg12_22, kg12_23, kg12_24, kp12_24, kg12_25, kg12_26, kg12_27, kg12_28, kp12_28, kg12_29, kg12_30, kg12_31, kg12_32, kp12_32, kg12_33, kp12_33, ka186, kw186, ka187, kw187, ka188, kw188, kj189, kk189, kj190, kk190, ka191, kw191, ka192, kw192, ka193, kw193, kj194, kk194, kj195, kk195, ka196, kw196, ka197, kw197, ka198, kw198, ka199, kw199, ka200, kw200, ka201, kw201, kb202, kv202, ka203, kw203, ka204, kw204, ka205, kw205, ka206, kw206, ka207, kw207, kj208, kk208, c8_m17, c8_m16, c8_m15, c8_m14, c8_m13, c8_m12, c8_m11, c8_m10, c8_m2, c8_6, c8_7, c8_8, c8_9, c8_10, c8_11, c8_12, c8_13, c8_14, c8_15, c8_16, c8_17, c8_18, c8_19, c8_20, c8_21, c8_22, c8_23, c8_25, c8_30, c8_31, c8_32, c8_39, c8_40, c8_41, c8_42, c8_43, c8_45, c8_48, c8_55, c8_56, c8_57, c8_59, c8_60, c8_61, c8_63, c8_70, c8_90, c8_91, c8_92, c8_93, c8_94, c8_96, c8_97, c8_99, c8_115, c8_122, c8_125, c8_126, c8_127, c16_128, c16_129, c16_131, c16_132, c16_135, c16_136, c16_137, c16_138, c16_139, c16_142, c16_143, c16_144, c16_145, c16_146, c16_149, c16_180, c16_250, c16_255, c16_1000, c16_1002, c16_1100, c16_1155, c16_1157, c16_1164, c16_1178, c16_1210, c16_1212, c16_1219, c16_1233, c16_1265, c16_2200, c16_4095, c16_4096, c16_9999, c16_12345, nI_inj, nI_lt_eq, nI_eq1, Nat.reduceEqDiff, sp200, e0, Nat.lt_irrefl]
  · rw [if_neg hz]
    simp (disch := omega) only [B250_0, B250_18, B250_21, B250_37, B250_42, B250_43, B250_50, B250_55, B250_56, B250_63, B250_67, B250_70, B250_74, B250_77, kO_s, kcond_t, kpush_s, kpush_n, nI_add, nI_add1, pk_mul, n_0, n_2, n_3, n_4, n_5, if_true, if_false, Nat.add_zero, krecv_m ks185, kg12_0, kp12_0, kg12_1, kg12_2, kp12_2, kg12_3, kp12_3, kg12_4, kg12_5, kg12_6, kg12_7, kp12_7, kg12_8, kp12_8, kg12_9, kg12_10, kg12_11, kg12_12, kg12_13, kp12_13, kg12_14, kg12_15, kg12_16, kg12_17, kg12_18, kp12_18, kg12_19, kp12_19, kg12_20, kg12_21, kg12_22, kg12_23, kg12_24, kp12_24, kg12_25, kg12_26, kg12_27, kg12_28, kp12_28, kg12_29, kg12_30, kg12_31, kg12_32, kp12_32, kg12_33, kp12_33, ka186, kw186, ka187, kw187, ka188, kw188, kj189, kk189, kj190, kk190, ka191, kw191, ka192, kw192, ka193, kw193, kj194, kk194, kj195, kk195, ka196, kw196, ka197, kw197, ka198, kw198, ka199, kw199, ka200, kw200, ka201, kw201, kb202, kv202, ka203, kw203, ka204, kw204, ka205, kw205, ka206, kw206, ka207, kw207, kj208, kk208, c8_m17, c8_m16, c8_m15, c8_m14, c8_m13, c8_m12, c8_m11, c8_m10, c8_m2, c8_6, c8_7, c8_8, c8_9, c8_10, c8_11, c8_12, c8_13, c8_14, c8_15, c8_16, c8_17, c8_18, c8_19, c8_20, c8_21, c8_22, c8_23, c8_25, c8_30, c8_31, c8_32, c8_39, c8_40, c8_41, c8_42, c8_43, c8_45, c8_48, c8_55, c8_56, c8_57, c8_59, c8_60, c8_61, c8_63, c8_70, c8_90, c8_91, c8_92, c8_93, c8_94, c8_96, c8_97, c8_99, c8_115, c8_122, c8_125, c8_126, c8_127, c16_128, c16_129, c16_131, c16_132, c16_135, c16_136, c16_137, c16_138, c16_139, c16_142, c16_143, c16_144, c16_145, c16_146, c16_149, c16_180, c16_250, c16_255, c16_1000, c16_1002, c16_1100, c16_1155, c16_1157, c16_1164, c16_1178, c16_1210, c16_1212, c16_1219, c16_1233, c16_1265, c16_2200, c16_4095, c16_4096, c16_9999, c16_12345, nI_inj, nI_lt_eq, nI_eq1, Nat.reduceEqDiff, sp200, e0, Nat.lt_irrefl, hz]
/-- lucky -/
theorem sp136 (h : cB I rf r s) : kX xs d 136 0 [some (.ref 0), none, none, none, none] [] (kmm I J rf g) R = R (some (.int (aLucky r s))) (kmm I J rf g) := by
  have ht := h.t
  have e0 := h.rl.nc
  have er := h.st.rd
  have hc7 := h.vr.c
  have L := kchain (n := r.nc) (fun t => kX xs d 136 6 [some (.ref 0), some (.int (abI (lkB r s) t)), some (.int (abV (lkB r s) (lkF r s) t)), some (.int (nI t)), none] [] (kmm I J rf g) R) (by
    intro t ht'
    have hu := h.st.hd t (by omega)
    have hg := h.rl.gu t (by omega)
    have hl : nI (s.hd t) - nI (r.gu t) * s.rd = lkF r s t := rfl
    show kX xs d 136 6 _ _ _ _ = kX xs d 136 6 _ _ _ _
    rw [B136_6, kg11_2, kO_s, kg6_1 ht, kO_s, e0, if_pos (nI_lt ht' (by omega)), B136_17, kg11_6, kO_s, kg9_2 ks39, kO_s, ka9_1 ks39 (by omega), kO_s, hu, kg11_2, kO_s, kg6_5 ht, kO_s, ka6_4 ht (by omega), kO_s, hg, kO_s, kg9_1 ks39, kO_s, er, hl]
    cases t with
    | zero => rw [show abI (lkB r s) 0 = -1 from rfl, if_pos rfl, B136_57, B136_62, nI_add1]; rfl
    | succ n =>
      have hle := abN_le (lkB r s) n
      rw [show abI (lkB r s) (n + 1) = nI (abN (lkB r s) n) from rfl, show abV (lkB r s) (lkF r s) (n + 1) = lkF r s (abN (lkB r s) n) from rfl, if_neg (by rw [nI_m1 (by omega)]; exact id), B136_51]
      by_cases q : lkF r s (n + 1) < lkF r s (abN (lkB r s) n)
      · have hN := abN_t (f := lkB r s) (n := n) (decide_eq_true q)
        rw [if_pos q, B136_57, B136_62, nI_add1, show abI (lkB r s) (n + 1 + 1) = nI (abN (lkB r s) (n + 1)) from rfl, show abV (lkB r s) (lkF r s) (n + 1 + 1) = lkF r s (abN (lkB r s) (n + 1)) from rfl, hN]
      · have hN := abN_f (f := lkB r s) (n := n) (fun e => q (of_decide_eq_true e))
        rw [if_neg q, B136_62, nI_add1, show abI (lkB r s) (n + 1 + 1) = nI (abN (lkB r s) (n + 1)) from rfl, show abV (lkB r s) (lkF r s) (n + 1 + 1) = lkF r s (abN (lkB r s) (n + 1)) from rfl, hN])
  rw [B136_0]
  refine Eq.trans L ?_
  rw [B136_6, kg11_2, kO_s, kg6_1 ht, kO_s, e0, if_neg (nI_nlt (Nat.le_refl _) (by omega)), B136_68]
  rfl
theorem sp251 (h : mB I r s) {c : Nat} (hc : c < r.nc) : kX xs (d + 1) 251 0 [some (.ref 185), some (.int (nI c))] [] (kmm I J rf g) R = R (some (.int (lkF r s c))) (kmm I J rf g) := by
  have hc7 := h.vr.c
  have hu := h.st.hd c (by omega)
  rw [show 0 + 2 + c = 2 + c by omega] at hu
  have er := h.st.rd
  rw [show 0 + 1 = 1 by omega] at er
  rw [B251_0, kg12_23, kO_s, n_2, nI_add, ka201 (by omega), kO_s, hu, krecv_m ks185, kcond_t, n_0, sp202 (by omega), show 25 + 2 * c + 0 = 25 + 2 * c from rfl, h.rl.gu c hc, kpush_s, B251_14, kg12_23, kO_s, n_1, ka201 (by omega), kO_s, er]
  rfl
theorem sp252 (h : mB I r s) : ∃ I', mQ I I' ∧ ∀ d R, kX xs (d + 2) 252 0 [some (.ref 185), none, none] [] (kmm I J rf g) R = R (some (.int (aLucky r s))) (kmm I' J rf g) := by
  have hq := mQ.thr I (nI 0)
  have h' := h.keep hq
  have e0 := h'.rl.nc
  have hc7 := h.vr.c
  refine ⟨_, hq, fun d R => ?_⟩
  have L := kchain (n := r.nc) (fun t => kX xs (d + 2) 252 9 [some (.ref 185), some (.int (abI (lkB r s) t)), some (.int (nI t))] [] (kmm (ku I 185 0 (nI 0)) J rf g) R) (by
    intro t ht'
    show kX xs (d + 2) 252 9 _ _ _ _ = kX xs (d + 2) 252 9 _ _ _ _
    rw [B252_9, krecv_m ks185, kcond_t, sp200, kpush_s, B252_14, e0, if_pos (nI_lt ht' (by omega)), B252_17]
    cases t with
    | zero => rw [show abI (lkB r s) 0 = -1 from rfl, if_pos (by decide), B252_34, B252_39, nI_add1]; rfl
    | succ n =>
      have hle := abN_le (lkB r s) n
      rw [show abI (lkB r s) (n + 1) = nI (abN (lkB r s) n) from rfl, if_neg (nI_pos (by omega)), B252_21, krecv_m ks185, kcond_t, sp251 h' ht', kpush_s, B252_26, krecv_m ks185, kcond_t, sp251 h' (show abN (lkB r s) n < r.nc by omega), kpush_s, B252_31]
      by_cases q : lkF r s (n + 1) < lkF r s (abN (lkB r s) n)
      · have hN := abN_t (f := lkB r s) (n := n) (decide_eq_true q)
        rw [if_pos q, B252_34, B252_39, nI_add1, show abI (lkB r s) (n + 1 + 1) = nI (abN (lkB r s) (n + 1)) from rfl, hN]
      · have hN := abN_f (f := lkB r s) (n := n) (fun e => q (of_decide_eq_true e))
        rw [if_neg q, B252_38, B252_39, nI_add1, show abI (lkB r s) (n + 1 + 1) = nI (abN (lkB r s) (n + 1)) from rfl, hN])
  rw [B252_0, kp12_0, kO_s, n_0]
  refine Eq.trans L ?_
  rw [B252_9, krecv_m ks185, kcond_t, sp200, kpush_s, B252_14, e0, if_neg (nI_nlt (Nat.le_refl _) (by omega)), B252_46]
  rfl
/-- mercy -/
theorem sp145 (h : cB I rf r s) (x : Int32) : kX xs (d + 3) 145 0 [some (.ref 0), some (.int x), none, none, none, none] [] (kmm I J rf g) R = R (some (.int (aMercy r s x))) (kmm I J rf g) := by
  have ht := h.t
  have e0 := h.rl.nc
  have e1 := h.rl.nj
  have hc7 := h.vr.c
  have hj7 := h.vr.j
  unfold aMercy
  rcases kidx_c x (show r.nc < 2147483648 by omega) with ⟨c, hc, rfl⟩ | h0
  · have hk := kidx_in hc (show r.nc < 2147483648 by omega)
    rw [hk, if_neg (by decide), nI_clamp (by omega)]
    have L := kchain (n := r.nj) (fun t => kX xs (d + 3) 145 20 [some (.ref 0), some (.int (nI c)), some (.int (abI (mcB r s c) t)), some (.int (abV (mcB r s c) (fun j => nI (vf r s c j)) t)), some (.int (nI t)), none] [] (kmm I J rf g) R) (by
      intro t ht'
      show kX xs (d + 3) 145 20 _ _ _ _ = kX xs (d + 3) 145 20 _ _ _ _
      rw [B145_20, kg11_2, kO_s, kg6_0 ht, kO_s, e1, if_pos (nI_lt ht' (by omega)), B145_32, kg11_2, kO_s, kg11_6, kO_s, krecv_m ht, kcond_t, sp58e h ht' hc, kpush_s, B145_46]
      cases t with
      | zero => rw [show abI (mcB r s c) 0 = -1 from rfl, if_pos rfl, B145_59, B145_65, nI_add1]; rfl
      | succ n =>
        have hle := abN_le (mcB r s c) n
        have b1 := vf_le r s c (n + 1)
        have b2 := vf_le r s c (abN (mcB r s c) n)
        rw [show abI (mcB r s c) (n + 1) = nI (abN (mcB r s c) n) from rfl, show abV (mcB r s c) (fun j => nI (vf r s c j)) (n + 1) = nI (vf r s c (abN (mcB r s c) n)) from rfl, show vd (r.kd (n + 1)) (r.gu c) (s.ln (n + 1)) = vf r s c (n + 1) from rfl, if_neg (by rw [nI_m1 (by omega)]; exact id), B145_53]
        by_cases q : vf r s c (n + 1) < vf r s c (abN (mcB r s c) n)
        · have hN := abN_t (f := mcB r s c) (n := n) (decide_eq_true q)
          rw [if_pos (nI_lt q (by omega)), B145_59, B145_65, nI_add1, show abI (mcB r s c) (n + 1 + 1) = nI (abN (mcB r s c) (n + 1)) from rfl, show abV (mcB r s c) (fun j => nI (vf r s c j)) (n + 1 + 1) = nI (vf r s c (abN (mcB r s c) (n + 1))) from rfl, hN]
        · have hN := abN_f (f := mcB r s c) (n := n) (fun e => q (of_decide_eq_true e))
          rw [if_neg (nI_nlt (by omega) (by omega)), B145_65, nI_add1, show abI (mcB r s c) (n + 1 + 1) = nI (abN (mcB r s c) (n + 1)) from rfl, show abV (mcB r s c) (fun j => nI (vf r s c j)) (n + 1 + 1) = nI (vf r s c (abN (mcB r s c) (n + 1))) from rfl, hN])
    have e10 : ¬ (1 : Int32) = 0 := by decide
    rw [B145_0, kg11_2, kO_s, krecv_m ht, kcond_t, sp52 ht, e0, hk, kpush_s, B145_8, if_neg e10, B145_13]
    refine Eq.trans L ?_
    rw [B145_20, kg11_2, kO_s, kg6_0 ht, kO_s, e1, if_neg (nI_nlt (Nat.le_refl _) (by omega)), B145_71]
  · rw [h0, if_pos rfl]
    rw [B145_0, kg11_2, kO_s, krecv_m ht, kcond_t, sp52 ht, e0, h0, kpush_s, B145_8, if_pos rfl, B145_11]
theorem sp209q (h : mB I r s) {j c : Nat} (hj : j < r.nj) (hc : c < r.nc) : kX xs (d + 1) 209 0 [some (.ref 185), some (.int (nI 0)), some (.int (nI j)), some (.int (nI c)), none, none] [] (kmm I J rf g) R = R (some (.int (nI (vf r s c j)))) (kmm I J rf g) := by
  have hj7 := h.vr.j
  exact sp209 (by omega) h.vr h.rl h.st hj hc (h.vs.ln j (by omega))
theorem sp266 (h : mB I r s) (x : Int32) : ∃ I', mQ I I' ∧ ∀ d R, kX xs (d + 2) 266 0 [some (.ref 185), some (.int x), none, none] [] (kmm I J rf g) R = R (some (.int (aMercy r s x))) (kmm I' J rf g) := by
  have hq := mQ.thr I (nI 0)
  have h' := h.keep hq
  have e0 := h'.rl.nc
  have e1 := h'.rl.nj
  have hc7 := h.vr.c
  have hj7 := h.vr.j
  refine ⟨_, hq, fun d R => ?_⟩
  unfold aMercy
  have e10 : ¬ (1 : Int32) = 0 := by decide
  rcases kidx_c x (show r.nc < 2147483648 by omega) with ⟨c, hc, rfl⟩ | h0
  · have hk := kidx_in hc (show r.nc < 2147483648 by omega)
    rw [hk, if_neg (by decide), nI_clamp (by omega)]
    have L := kchain (n := r.nj) (fun t => kX xs (d + 2) 266 9 [some (.ref 185), some (.int (nI c)), some (.int (abI (mcB r s c) t)), some (.int (nI t))] [] (kmm (ku I 185 0 (nI 0)) J rf g) R) (by
      intro t ht'
      show kX xs (d + 2) 266 9 _ _ _ _ = kX xs (d + 2) 266 9 _ _ _ _
      rw [B266_9, krecv_m ks185, kcond_t, sp199, kpush_s, B266_14, e1, if_pos (nI_lt ht' (by omega)), B266_17, krecv_m ks185, kcond_t, sp204, e0, hk, kpush_s, B266_22, if_neg e10, B266_25]
      cases t with
      | zero => rw [show abI (mcB r s c) 0 = -1 from rfl, if_pos (by decide), B266_46, B266_51, nI_add1]; rfl
      | succ n =>
        have hle := abN_le (mcB r s c) n
        have b1 := vf_le r s c (n + 1)
        have b2 := vf_le r s c (abN (mcB r s c) n)
        rw [show abI (mcB r s c) (n + 1) = nI (abN (mcB r s c) n) from rfl, if_neg (nI_pos (by omega)), B266_29, krecv_m ks185, kcond_t, n_0, sp209q h' ht' hc, kpush_s, B266_36, krecv_m ks185, kcond_t, n_0, sp209q h' (show abN (mcB r s c) n < r.nj by omega) hc, kpush_s, B266_43]
        by_cases q : vf r s c (n + 1) < vf r s c (abN (mcB r s c) n)
        · have hN := abN_t (f := mcB r s c) (n := n) (decide_eq_true q)
          rw [if_pos (nI_lt q (by omega)), B266_46, B266_51, nI_add1, show abI (mcB r s c) (n + 1 + 1) = nI (abN (mcB r s c) (n + 1)) from rfl, hN]
        · have hN := abN_f (f := mcB r s c) (n := n) (fun e => q (of_decide_eq_true e))
          rw [if_neg (nI_nlt (by omega) (by omega)), B266_50, B266_51, nI_add1, show abI (mcB r s c) (n + 1 + 1) = nI (abN (mcB r s c) (n + 1)) from rfl, hN])
    rw [B266_0, kp12_0, kO_s, n_0]
    refine Eq.trans L ?_
    rw [B266_9, krecv_m ks185, kcond_t, sp199, kpush_s, B266_14, e1, if_neg (nI_nlt (Nat.le_refl _) (by omega)), B266_58]
  · rw [h0, if_pos rfl]
    rw [B266_0, kp12_0, kO_s, n_0, B266_9, krecv_m ks185, kcond_t, sp199, kpush_s, B266_14, e1]
    by_cases hj : 0 < r.nj
    · rw [if_pos (nI_lt hj (by omega)), B266_17, krecv_m ks185, kcond_t, sp204, e0, h0, kpush_s, B266_22, if_pos rfl, B266_58]
    · rw [if_neg (nI_nlt (by omega) (by omega)), B266_58]
/-- harsh -/
theorem sp144 (h : cB I rf r s) : kX xs (d + 3) 144 0 [some (.ref 0), none, none, none, none, none] [] (kmm I J rf g) R = R (some (.int (aHarsh r s))) (kmm I J rf g) := by
  have ht := h.t
  have e0 := h.rl.nc
  have e1 := h.rl.nj
  have hc7 := h.vr.c
  have hj7 := h.vr.j
  have L := kchain (n := r.nj) (fun t => kX xs (d + 3) 144 6 [some (.ref 0), some (.int (abI (hsB r s) t)), some (.int (abV (hsB r s) (fun j => nI (hsF r s j)) t)), some (.int (nI t)), none, none] [] (kmm I J rf g) R) (by
    intro t ht'
    show kX xs (d + 3) 144 6 _ _ _ _ = kX xs (d + 3) 144 6 _ _ _ _
    have L2 : ∀ l1 l2, kX xs (d + 3) 144 23 [some (.ref 0), some (.int l1), some (.int l2), some (.int (nI t)), some (.int (nI (nsum (fun c => vf r s c t) 0))), some (.int (nI 0))] [] (kmm I J rf g) R = kX xs (d + 3) 144 23 [some (.ref 0), some (.int l1), some (.int l2), some (.int (nI t)), some (.int (nI (nsum (fun c => vf r s c t) r.nc))), some (.int (nI r.nc))] [] (kmm I J rf g) R := fun l1 l2 => kchain (n := r.nc) (fun i => kX xs (d + 3) 144 23 [some (.ref 0), some (.int l1), some (.int l2), some (.int (nI t)), some (.int (nI (nsum (fun c => vf r s c t) i))), some (.int (nI i))] [] (kmm I J rf g) R) (by
      intro i hi
      show kX xs (d + 3) 144 23 _ _ _ _ = kX xs (d + 3) 144 23 _ _ _ _
      rw [B144_23, kg11_2, kO_s, kg6_1 ht, kO_s, e0, if_pos (nI_lt hi (by omega)), B144_35, kg11_2, kO_s, kg11_6, kO_s, krecv_m ht, kcond_t, sp58e h ht' hi, kpush_s, B144_51, nI_add, nI_add1]
      rfl)
    rw [B144_6, kg11_2, kO_s, kg6_0 ht, kO_s, e1, if_pos (nI_lt ht' (by omega)), B144_17]
    refine Eq.trans (L2 _ _) ?_
    rw [B144_23, kg11_2, kO_s, kg6_1 ht, kO_s, e0, if_neg (nI_nlt (Nat.le_refl _) (by omega)), B144_60, show nsum (fun c => vf r s c t) r.nc = hsF r s t from rfl]
    cases t with
    | zero => rw [show abI (hsB r s) 0 = -1 from rfl, if_pos rfl, B144_71, B144_76, nI_add1]; rfl
    | succ n =>
      have hle := abN_le (hsB r s) n
      have b1 := hsF_le h.vr s (n + 1)
      have b2 := hsF_le h.vr s (abN (hsB r s) n)
      rw [show abI (hsB r s) (n + 1) = nI (abN (hsB r s) n) from rfl, show abV (hsB r s) (fun j => nI (hsF r s j)) (n + 1) = nI (hsF r s (abN (hsB r s) n)) from rfl, if_neg (by rw [nI_m1 (by omega)]; exact id), B144_65]
      by_cases q : hsF r s (abN (hsB r s) n) < hsF r s (n + 1)
      · have hN := abN_t (f := hsB r s) (n := n) (decide_eq_true q)
        rw [if_pos (nI_lt q (by omega)), B144_71, B144_76, nI_add1, show abI (hsB r s) (n + 1 + 1) = nI (abN (hsB r s) (n + 1)) from rfl, show abV (hsB r s) (fun j => nI (hsF r s j)) (n + 1 + 1) = nI (hsF r s (abN (hsB r s) (n + 1))) from rfl, hN]
      · have hN := abN_f (f := hsB r s) (n := n) (fun e => q (of_decide_eq_true e))
        rw [if_neg (nI_nlt (by omega) (by omega)), B144_76, nI_add1, show abI (hsB r s) (n + 1 + 1) = nI (abN (hsB r s) (n + 1)) from rfl, show abV (hsB r s) (fun j => nI (hsF r s j)) (n + 1 + 1) = nI (hsF r s (abN (hsB r s) (n + 1))) from rfl, hN])
  rw [B144_0]
  refine Eq.trans L ?_
  rw [B144_6, kg11_2, kO_s, kg6_0 ht, kO_s, e1, if_neg (nI_nlt (Nat.le_refl _) (by omega)), B144_82]
  rfl
theorem sp262 (h : mB I r s) {j : Nat} (hj : j < r.nj) : kX xs (d + 2) 262 0 [some (.ref 185), some (.int (nI j)), none, none] [] (kmm I J rf g) R = R (some (.int (nI (hsF r s j)))) (kmm I J rf g) := by
  have e0 := h.rl.nc
  have hc7 := h.vr.c
  have L := kchain (n := r.nc) (fun i => kX xs (d + 2) 262 4 [some (.ref 185), some (.int (nI j)), some (.int (nI (nsum (fun c => vf r s c j) i))), some (.int (nI i))] [] (kmm I J rf g) R) (by
    intro i hi
    show kX xs (d + 2) 262 4 _ _ _ _ = kX xs (d + 2) 262 4 _ _ _ _
    rw [B262_4, krecv_m ks185, kcond_t, sp200, kpush_s, B262_9, e0, if_pos (nI_lt hi (by omega)), B262_12, krecv_m ks185, kcond_t, n_0, sp209q h hj hi, kpush_s, B262_20, nI_add, nI_add1]
    rfl)
  rw [B262_0]
  refine Eq.trans L ?_
  rw [B262_4, krecv_m ks185, kcond_t, sp200, kpush_s, B262_9, e0, if_neg (nI_nlt (Nat.le_refl _) (by omega)), B262_28]
  rfl
theorem sp263 (h : mB I r s) : ∃ I', mQ I I' ∧ ∀ d R, kX xs (d + 3) 263 0 [some (.ref 185), none, none] [] (kmm I J rf g) R = R (some (.int (aHarsh r s))) (kmm I' J rf g) := by
  have hq := mQ.thr I (nI 0)
  have h' := h.keep hq
  have e1 := h'.rl.nj
  have hj7 := h.vr.j
  refine ⟨_, hq, fun d R => ?_⟩
  have L := kchain (n := r.nj) (fun t => kX xs (d + 3) 263 9 [some (.ref 185), some (.int (abI (hsB r s) t)), some (.int (nI t))] [] (kmm (ku I 185 0 (nI 0)) J rf g) R) (by
    intro t ht'
    show kX xs (d + 3) 263 9 _ _ _ _ = kX xs (d + 3) 263 9 _ _ _ _
    rw [B263_9, krecv_m ks185, kcond_t, sp199, kpush_s, B263_14, e1, if_pos (nI_lt ht' (by omega)), B263_17]
    cases t with
    | zero => rw [show abI (hsB r s) 0 = -1 from rfl, if_pos (by decide), B263_34, B263_39, nI_add1]; rfl
    | succ n =>
      have hle := abN_le (hsB r s) n
      have b1 := hsF_le h.vr s (n + 1)
      have b2 := hsF_le h.vr s (abN (hsB r s) n)
      rw [show abI (hsB r s) (n + 1) = nI (abN (hsB r s) n) from rfl, if_neg (nI_pos (by omega)), B263_21, krecv_m ks185, kcond_t, sp262 h' ht', kpush_s, B263_26, krecv_m ks185, kcond_t, sp262 h' (show abN (hsB r s) n < r.nj by omega), kpush_s, B263_31]
      by_cases q : hsF r s (abN (hsB r s) n) < hsF r s (n + 1)
      · have hN := abN_t (f := hsB r s) (n := n) (decide_eq_true q)
        rw [if_pos (nI_lt q (by omega)), B263_34, B263_39, nI_add1, show abI (hsB r s) (n + 1 + 1) = nI (abN (hsB r s) (n + 1)) from rfl, hN]
      · have hN := abN_f (f := hsB r s) (n := n) (fun e => q (of_decide_eq_true e))
        rw [if_neg (nI_nlt (by omega) (by omega)), B263_38, B263_39, nI_add1, show abI (hsB r s) (n + 1 + 1) = nI (abN (hsB r s) (n + 1)) from rfl, hN])
  rw [B263_0, kp12_0, kO_s, n_0]
  refine Eq.trans L ?_
  rw [B263_9, krecv_m ks185, kcond_t, sp199, kpush_s, B263_14, e1, if_neg (nI_nlt (Nat.le_refl _) (by omega)), B263_46]
  rfl
end QM
