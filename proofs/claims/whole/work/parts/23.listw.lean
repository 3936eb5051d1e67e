/-! listing the monomials -/
/-- the variables whose exponents are chosen when k are still to be chosen (and those that there are not) -/
def zfix (o n k v : Nat) : Prop := (o = 1 ∧ v < n - k) ∨ (o ≠ 1 ∧ k ≤ v) ∨ n ≤ v
theorem zBld.chosen {G : zG} {ad : Nat → Nat} {w : Nat → Option va_E} {P n o : Nat} {F : Nat → Int32} {L : List (List Nat)} {D : List Nat} {c c' : Nat → Int32} (h : zBld G ad w P n o F L D c) : zBld G ad (va_up w 9 (some (zi G 4 c'))) P n o F L D c' := by
  obtain ⟨h1, h2, h3, h4, ⟨e, h5⟩, ⟨d, h6, h6'⟩, ⟨k, h7, h7'⟩, ⟨u, h8, h8'⟩, ⟨x, h9, h9'⟩, h10⟩ := h
  refine ⟨by rw [va_up_ne _ _ (by decide)]; exact h1, h2, h3, by rw [va_up_ne _ _ (by decide)]; exact h4, ⟨e, fun v hv => ⟨by rw [va_up_ne _ _ (by omega)]; exact (h5 v hv).1, (h5 v hv).2⟩⟩, ⟨d, by rw [va_up_ne _ _ (by decide)]; exact h6, h6'⟩, ⟨k, by rw [va_up_ne _ _ (by decide)]; exact h7, h7'⟩, ⟨u, by rw [va_up_ne _ _ (by decide)]; exact h8, h8'⟩, ⟨x, by rw [va_up_ne _ _ (by decide)]; exact h9, h9'⟩, va_up_self _ _ _⟩
theorem zfrm.chosen {w w' : Nat → Option va_E} {x : Option va_E} (h : zfrm (va_up w 9 x) w') : zfrm w w' := fun k hk => by
  rw [h k hk, va_up_ne _ _ (by omega)]
theorem getD_set_self {l : List Nat} {i a : Nat} (h : i < l.length) : (l.set i a).getD i 0 = a := by
  rw [List.getD_eq_getElem?_getD, List.getElem?_set_self h]
  rfl
theorem getD_set_ne {l : List Nat} {i j a : Nat} (h : i ≠ j) : (l.set i a).getD j 0 = l.getD j 0 := by
  rw [List.getD_eq_getElem?_getD, List.getD_eq_getElem?_getD, List.getElem?_set_ne h]
theorem flat_succ {α : Type} (f : Nat → List α) (m : Nat) : (List.range (m + 1)).flatMap f = (List.range m).flatMap f ++ f m := by
  rw [List.range_succ, List.flatMap_append]
  simp
theorem flat_split {α : Type} (f : Nat → List α) : ∀ (m i : Nat), i < m → ∃ t, (List.range m).flatMap f = (List.range i).flatMap f ++ f i ++ t
  | 0, i, h => by omega
  | m + 1, i, h => by
    rw [flat_succ]
    by_cases e : i = m
    · subst e
      exact ⟨[], by simp⟩
    · obtain ⟨t, ht⟩ := flat_split f m i (by omega)
      exact ⟨t ++ f m, by rw [ht]; simp⟩
/-- a monomial on the list: its key is small, and none before it has it -/
theorem zTab_at {n o : Nat} {L tail : List (List Nat)} {e : List Nat} (hc : zCfg n o) (h : zTab n o = L ++ [e] ++ tail) : L.length < 126 ∧ zKm n e < 1296 ∧ ∀ i, i < L.length → zKm n (L.getD i []) ≠ zKm n e := by
  have h1 := hc.split.1
  have h2 := zCt_le (n := n)
  have h3 : (zTab n o).length = L.length + 1 + tail.length := by rw [h]; simp; omega
  have hi : (zTab n o).getD L.length [] = e := by
    rw [h, List.append_assoc, List.getD_eq_getElem?_getD, List.getElem?_append_right (Nat.le_refl _), Nat.sub_self]
    rfl
  refine ⟨by omega, ?_, fun i hi2 he => ?_⟩
  · rw [← hi]
    exact zKy_lt hc (i := L.length) (by omega)
  · have hl : (zTab n o).getD i [] = L.getD i [] := by
      rw [h, List.append_assoc, List.getD_eq_getElem?_getD, List.getD_eq_getElem?_getD, List.getElem?_append_left hi2]
    have := zKy_inj hc (i := i) (j := L.length) (by omega) (by omega) (by unfold zKy; rw [hl, hi]; exact he)
    omega
