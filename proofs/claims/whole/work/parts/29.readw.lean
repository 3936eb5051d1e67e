/-! the reader in a world -/
theorem zRing.cong' {G : zG} {ad : Nat → Nat} {w w' : Nat → Option va_E} {P n o : Nat} {F : Nat → Int32} (h : zRing G ad w P n o F) (hw : ∀ k, 0 < k → k < 20 → k ≠ 2 → w' k = w k) : zRing G ad w' P n o F := by
  obtain ⟨h1, h2, h3, h4, h5, h6, h7, h8, h9, h10, h11⟩ := h
  refine ⟨by rw [hw 1 (by omega) (by omega) (by omega)]; exact h1, h2, h3, h4, by rw [hw 4 (by omega) (by omega) (by omega)]; exact h5, fun v hv => ?_, ?_, ?_, ?_, ?_, ?_⟩
  · rw [hw (16 + v) (by omega) (by omega) (by omega)]
    exact h6 v hv
  · rw [hw 5 (by omega) (by omega) (by omega)]
    exact h7
  · rw [hw 6 (by omega) (by omega) (by omega)]
    exact h8
  · rw [hw 7 (by omega) (by omega) (by omega)]
    exact h9
  · rw [hw 8 (by omega) (by omega) (by omega)]
    exact h10
  · rw [hw 9 (by omega) (by omega) (by omega)]
    exact h11
def zRdr (G : zG) (ad : Nat → Nat) (w : Nat → Option va_E) (P n o : Nat) (FR FE : Nat → Int32) (T : Nat → Nat) (len : Nat) : Prop :=
  zRing G ad w P n o FR ∧ w 2 = some (oE ad FE) ∧ (∃ tx : Nat → Int32, w 10 = some (zc G 200 tx) ∧ ∀ i, i < len → tx i = nI (T i)) ∧ (∀ i, T i < 256) ∧ len ≤ 200 ∧ FE 2 = nI len ∧
  w 11 = some (zq G 21 (fun d => some (ad (28 + d)))) ∧ w 12 = some (zq G 21 (fun d => some (ad (49 + d)))) ∧ ∀ k, 20 ≤ k → k ≤ 72 → ∃ g : Nat → Int32, w k = some (zi G 126 g)
section ZRD
variable {G : zG} {ad : Nat → Nat} {w w' : Nat → Option va_E} {P n o : Nat} {FR FE FE' : Nat → Int32} {T : Nat → Nat} {len : Nat}
theorem zRdr.obj (h : zRdr G ad w P n o FR FE T len) (h2 : FE' 2 = FE 2) : zRdr G ad (va_up w 2 (some (oE ad FE'))) P n o FR FE' T len := by
  obtain ⟨a1, a2, ⟨tx, a3, a3'⟩, a4, a5, a6, a7, a8, a9⟩ := h
  refine ⟨a1.cong' ?_, va_up_self _ _ _, ⟨tx, by rw [va_up_ne _ _ (by decide)]; exact a3, a3'⟩, a4, a5, by rw [h2]; exact a6, by rw [va_up_ne _ _ (by decide)]; exact a7, by rw [va_up_ne _ _ (by decide)]; exact a8, fun k h1 h3 => by rw [va_up_ne _ _ (by omega)]; exact a9 k h1 h3⟩
  intro k h1 h3 h4
  exact va_up_ne _ _ h4
theorem zRdr.row (h : zRdr G ad w P n o FR FE T len) {t : Nat} {f : Nat → Int32} (h1 : 20 ≤ t) (h2 : t ≤ 72) : zRdr G ad (va_up w t (some (zi G 126 f))) P n o FR FE T len := by
  obtain ⟨a1, a2, ⟨tx, a3, a3'⟩, a4, a5, a6, a7, a8, a9⟩ := h
  refine ⟨a1.up h1, by rw [va_up_ne _ _ (by omega)]; exact a2, ⟨tx, by rw [va_up_ne _ _ (by omega)]; exact a3, a3'⟩, a4, a5, a6, by rw [va_up_ne _ _ (by omega)]; exact a7, by rw [va_up_ne _ _ (by omega)]; exact a8, fun k h3 h4 => ?_⟩
  by_cases e : k = t
  · subst e
    exact ⟨f, va_up_self _ _ _⟩
  · rw [va_up_ne _ _ e]
    exact a9 k h3 h4
end ZRD
theorem upd_same {f : Nat → Int32} {k : Nat} {x : Int32} (h : f k = x) : upd f k x = f := by
  funext j
  by_cases e : j = k
  · subst e
    simp [upd, h]
  · simp [upd, e]
theorem upd_upd {f : Nat → Int32} {k : Nat} {x y : Int32} : upd (upd f k x) k y = upd f k y := by
  funext j
  by_cases e : j = k <;> simp [upd, e]
/-- a number after spaces -/
def zNm (T : Nat → Nat) (len m p : Nat) : (Nat × Nat) ⊕ (Nat × Nat) := if zisd (zch T len (zsp T len p)) = true then zNum T len m (zsp T len p) else .inl (1, zsp T len p)
