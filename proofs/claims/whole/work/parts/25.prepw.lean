/-! preparing the tables -/
/-- the ring's cells, whatever they hold -/
def zShp (G : zG) (ad : Nat → Nat) (w : Nat → Option va_E) : Prop :=
  (∃ F : Nat → Int32, w 1 = some (oR ad F)) ∧ w 4 = some (zq G 4 (fun v => some (ad (16 + v)))) ∧ (∃ e : Nat → Nat → Int32, ∀ v, v < 4 → w (16 + v) = some (zi G 126 (e v))) ∧
  (∃ d : Nat → Int32, w 5 = some (zi G 126 d)) ∧ (∃ k : Nat → Int32, w 6 = some (zi G 126 k)) ∧ (∃ u : Nat → Int32, w 7 = some (zi G 4 u)) ∧ (∃ x : Nat → Int32, w 8 = some (zi G 1296 x)) ∧ ∃ c : Nat → Int32, w 9 = some (zi G 4 c)
theorem zRing.shp {G : zG} {ad : Nat → Nat} {w : Nat → Option va_E} {P n o : Nat} {F : Nat → Int32} (h : zRing G ad w P n o F) : zShp G ad w := by
  obtain ⟨h1, -, -, -, h4, h16, ⟨d, h5, -⟩, ⟨k, h6, -⟩, ⟨u, h7, -⟩, ⟨x, h8, -⟩, ⟨c, h9⟩⟩ := h
  have hx : ∀ v, ∃ e : Nat → Int32, v < 4 → w (16 + v) = some (zi G 126 e) := fun v => by
    by_cases hv : v < 4
    · obtain ⟨e, he, -⟩ := h16 v hv
      exact ⟨e, fun _ => he⟩
    · exact ⟨fun _ => 0, fun h => absurd h hv⟩
  exact ⟨⟨F, h1⟩, h4, ⟨fun v => Classical.choose (hx v), fun v hv => Classical.choose_spec (hx v) hv⟩, ⟨d, h5⟩, ⟨k, h6⟩, ⟨u, h7⟩, ⟨x, h8⟩, ⟨c, h9⟩⟩
/-- the table of highest degrees, a static of the class -/
def zHIGH (G : zG) (U : State) (H : Heap) : Prop := ∃ t : Nat, va_Z "PolynomialDesk$Ring" "HIGHEST" "[I" (.ref t) (zA G) U H ∧ va_T .int t 4 (fun j => .int (nI (([30, 12, 7, 5] : List Nat).getD j 0))) (zA G) U H
/-- cells that preparing leaves alone -/
def zfrp (w w' : Nat → Option va_E) : Prop := ∀ k, (k = 0 ∨ k = 2 ∨ k = 3 ∨ k = 4 ∨ (10 ≤ k ∧ k < 16) ∨ 20 ≤ k) → w' k = w k
def zTabD (n o : Nat) : List Nat := (List.range (zHi n + 1)).flatMap fun d => List.replicate (zGen o n n (zHi n - d) [0, 0, 0, 0]).length (zHi n - d)
theorem zTabD_dec : ∀ n, n < 4 → ∀ o, o < 2 → zTabD (n + 1) o = (zTab (n + 1) o).map (fun e : List Nat => e.getD 0 0 + e.getD 1 0 + e.getD 2 0 + e.getD 3 0) := by decide +kernel
theorem zTabD_ok {n o i : Nat} (h : zCfg n o) (hi : i < zCt n) : (zTabD n o).getD i 0 = zDg n o i := by
  have h0 := zTabD_dec (n - 1) (by have := h.2.1; have := h.1; omega) o (by have := h.2.2; omega)
  rw [show n - 1 + 1 = n by have := h.1; omega] at h0
  rw [h0]
  have h1 := h.split.1
  unfold zDg zEx
  simp only [List.getD_eq_getElem?_getD, List.getElem?_map]
  rw [List.getElem?_eq_getElem (by omega)]
  rfl
theorem flatD_succ (n o m : Nat) : (List.range (m + 1)).flatMap (fun d => List.replicate (zGen o n n (zHi n - d) [0, 0, 0, 0]).length (zHi n - d)) = (List.range m).flatMap (fun d => List.replicate (zGen o n n (zHi n - d) [0, 0, 0, 0]).length (zHi n - d)) ++ List.replicate (zGen o n n (zHi n - m) [0, 0, 0, 0]).length (zHi n - m) := flat_succ _ _
