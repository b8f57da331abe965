/-! a line of a term with a word alone: the model -/
section MZ
variable {xs : List Int32} {d : Nat} {I I' I2 : Nat → Nat → Int32} {J : Nat → Nat → Int64} {rf : Nat → Nat} {g : Nat} {R : Option Value → KW → Prop} {w : KW} {T : aTp} {s : aPS}
theorem m_186z {i : Nat} (h : mPS I J T s) (hi : i + 2 < 250) : ∃ I', mPS I' J T s ∧ I' 198 i = nI 0 ∧ I' 198 (i + 1) = nI 0 ∧ I' 198 (i + 2) = nI 0 ∧ mFl i I I' ∧ ∀ d R, kX xs d 186 0 [some (.ref 185), some (.int (nI i)), some (.int 0)] [] (kmm I J rf g) R = R none (kmm I' J rf g) := by
  have f0 : mFl i I (ku I 198 i 0) := mFl.put (by omega) (by omega)
  have f1 : mFl i (ku I 198 i 0) (ku (ku I 198 i 0) 198 (i + 1) 0) := mFl.put (by omega) (by omega)
  have f2 : mFl i (ku (ku I 198 i 0) 198 (i + 1) 0) (ku (ku (ku I 198 i 0) 198 (i + 1) 0) 198 (i + 2) 0) := mFl.put (by omega) (by omega)
  refine ⟨ku (ku (ku I 198 i 0) 198 (i + 1) 0) 198 (i + 2) 0, h.put.put.put, ?_, ?_, ?_, f0.trans (f1.trans f2), fun d R => ?_⟩
  · rw [ku_nek (by omega), ku_nek (by omega), ku_same]; rfl
  · rw [ku_nek (by omega), ku_same]; rfl
  · rw [ku_same]; rfl
  · rw [B186_0, kg12_20, kO_s, kw198 (by omega), kO_s, kg12_20, kO_s, if_pos rfl, B186_18, B186_39, nI_add1, kw198 (by omega), kO_s, kg12_20, kO_s, if_pos rfl, B186_51, B186_95, show (2 : Int32) = nI 2 from rfl, nI_add, kw198 (by omega), kO_s]
end MZ
