/-! the ring's tables in a world -/
def zRing (G : zG) (ad : Nat → Nat) (w : Nat → Option va_E) (P n o : Nat) (F : Nat → Int32) : Prop :=
  w 1 = some (oR ad F) ∧ (F 0 = nI P ∧ F 1 = nI n ∧ F 2 = nI o ∧ F 3 = nI (zHi n) ∧ F 4 = nI (zCt n)) ∧ (2 ≤ P ∧ P ≤ 32003) ∧ zCfg n o ∧
  w 4 = some (zq G 4 (fun v => some (ad (16 + v)))) ∧
  (∀ v, v < 4 → ∃ e : Nat → Int32, w (16 + v) = some (zi G 126 e) ∧ ∀ i, i < zCt n → e i = nI (zEx n o v i)) ∧
  (∃ d : Nat → Int32, w 5 = some (zi G 126 d) ∧ ∀ i, i < zCt n → d i = nI (zDg n o i)) ∧
  (∃ k : Nat → Int32, w 6 = some (zi G 126 k) ∧ ∀ i, i < zCt n → k i = nI (zKy n o i)) ∧
  (∃ u : Nat → Int32, w 7 = some (zi G 4 u) ∧ ∀ v, v < 4 → u v = nI (zWt n v)) ∧
  (∃ x : Nat → Int32, w 8 = some (zi G 1296 x) ∧ ∀ i, i < zCt n → x (zKy n o i) = nI i) ∧
  ∃ c : Nat → Int32, w 9 = some (zi G 4 c)
theorem zRing.cong {G : zG} {ad : Nat → Nat} {w w' : Nat → Option va_E} {P n o : Nat} {F : Nat → Int32} (h : zRing G ad w P n o F) (hw : ∀ k, 0 < k → k < 20 → w' k = w k) : zRing G ad w' P n o F := by
  obtain ⟨h1, h2, h3, h4, h5, h6, h7, h8, h9, h10, h11⟩ := h
  refine ⟨by rw [hw 1 (by omega) (by omega)]; exact h1, h2, h3, h4, by rw [hw 4 (by omega) (by omega)]; exact h5, fun v hv => ?_, ?_, ?_, ?_, ?_, ?_⟩
  · rw [hw (16 + v) (by omega) (by omega)]
    exact h6 v hv
  · rw [hw 5 (by omega) (by omega)]
    exact h7
  · rw [hw 6 (by omega) (by omega)]
    exact h8
  · rw [hw 7 (by omega) (by omega)]
    exact h9
  · rw [hw 8 (by omega) (by omega)]
    exact h10
  · rw [hw 9 (by omega) (by omega)]
    exact h11
theorem zRing.up {G : zG} {ad : Nat → Nat} {w : Nat → Option va_E} {P n o : Nat} {F : Nat → Int32} (h : zRing G ad w P n o F) {t : Nat} {x : Option va_E} (ht : 20 ≤ t) : zRing G ad (va_up w t x) P n o F :=
  h.cong (fun k h1 h2 => va_up_ne _ _ (by omega))
/-- a truth as an int -/
def zb (b : Bool) : Int32 := if b then 1 else 0
theorem zb_nar (b : Bool) : narrow .boolean (.int (zb b)) = .int (zb b) := by cases b <;> decide
/-- a row of the field's numbers -/
abbrev zrow (G : zG) (A : Nat → Nat) : va_E := zi G 126 (fun j => nI (A j))
/-- reading a place of a row that isn't written yet, where another row (perhaps the same) is being written -/
theorem zrd {G : zG} {w : Nat → Option va_E} {a t i : Nat} {ga gt h : Nat → Int32} (ha : w a = some (zi G 126 ga)) (ht : w t = some (zi G 126 gt)) (hi : h i = gt i) : ∃ f : Nat → Int32, va_up w t (some (zi G 126 h)) a = some (zi G 126 f) ∧ f i = ga i := by
  by_cases e : a = t
  · subst e
    have e2 : ga = gt := by
      have := ha.symm.trans ht
      injection this with h1
      injection h1 with h2
      injection h2 with h3 h4
      injection h4 with h5 h6
      injection h6
    exact ⟨h, va_up_self _ _ _, by rw [hi, e2]⟩
  · exact ⟨ga, by rw [va_up_ne _ _ e]; exact ha, rfl⟩
