/-! the ring's tables while they are being listed -/
def zBld (G : zG) (ad : Nat → Nat) (w : Nat → Option va_E) (P n o : Nat) (F : Nat → Int32) (L : List (List Nat)) (D : List Nat) (c : Nat → Int32) : Prop :=
  w 1 = some (oR ad F) ∧ (F 0 = nI P ∧ F 1 = nI n ∧ F 2 = nI o ∧ F 3 = nI (zHi n) ∧ F 4 = nI L.length) ∧ D.length = L.length ∧
  w 4 = some (zq G 4 (fun v => some (ad (16 + v)))) ∧
  (∃ e : Nat → Nat → Int32, ∀ v, v < 4 → w (16 + v) = some (zi G 126 (e v)) ∧ ∀ i, i < L.length → e v i = nI ((L.getD i []).getD v 0)) ∧
  (∃ d : Nat → Int32, w 5 = some (zi G 126 d) ∧ ∀ i, i < L.length → d i = nI (D.getD i 0)) ∧
  (∃ k : Nat → Int32, w 6 = some (zi G 126 k) ∧ ∀ i, i < L.length → k i = nI (zKm n (L.getD i []))) ∧
  (∃ u : Nat → Int32, w 7 = some (zi G 4 u) ∧ ∀ v, v < 4 → u v = nI (zWt n v)) ∧
  (∃ x : Nat → Int32, w 8 = some (zi G 1296 x) ∧ ∀ i, i < L.length → x (zKm n (L.getD i [])) = nI i) ∧
  w 9 = some (zi G 4 c)
/-- the cells that listing leaves alone -/
def zfrm (w w' : Nat → Option va_E) : Prop := ∀ k, (k = 0 ∨ k = 2 ∨ k = 3 ∨ k = 4 ∨ k = 7 ∨ (10 ≤ k ∧ k < 16) ∨ 20 ≤ k) → w' k = w k
theorem zfrm.refl (w : Nat → Option va_E) : zfrm w w := fun _ _ => rfl
theorem zfrm.trans {w w1 w2 : Nat → Option va_E} (h1 : zfrm w w1) (h2 : zfrm w1 w2) : zfrm w w2 := fun k hk => (h2 k hk).trans (h1 k hk)
theorem getD_old {α : Type} {L : List α} {e d : α} {i : Nat} (h : i < L.length) : (L ++ [e]).getD i d = L.getD i d := by
  rw [List.getD_eq_getElem?_getD, List.getD_eq_getElem?_getD, List.getElem?_append_left h]
theorem getD_new {α : Type} {L : List α} {e d : α} : (L ++ [e]).getD L.length d = e := by
  rw [List.getD_eq_getElem?_getD, List.getElem?_append_right (Nat.le_refl _), Nat.sub_self]
  rfl
/-- the world in which the first i exponents of a monomial are laid -/
def zwv (G : zG) (w : Nat → Option va_E) (e : Nat → Nat → Int32) (c : Nat → Int32) (len i : Nat) : Nat → Option va_E := fun k => if 16 ≤ k ∧ k < 16 + i then some (zi G 126 (upd (e (k - 16)) len (c (k - 16)))) else w k
theorem zwv_0 (G : zG) (w : Nat → Option va_E) (e : Nat → Nat → Int32) (c : Nat → Int32) (len : Nat) : zwv G w e c len 0 = w := by
  funext k
  exact if_neg (by omega)
theorem zwv_s (G : zG) (w : Nat → Option va_E) (e : Nat → Nat → Int32) (c : Nat → Int32) (len i : Nat) : va_up (zwv G w e c len i) (16 + i) (some (zi G 126 (upd (e i) len (c i)))) = zwv G w e c len (i + 1) := by
  funext k
  by_cases h : k = 16 + i
  · subst h
    rw [va_up_self]
    unfold zwv
    rw [if_pos (by omega), show 16 + i - 16 = i by omega]
  · rw [va_up_ne _ _ h]
    unfold zwv
    by_cases h2 : 16 ≤ k ∧ k < 16 + i
    · rw [if_pos h2, if_pos (by omega)]
    · rw [if_neg h2, if_neg (by omega)]
theorem zwv_lo (G : zG) (w : Nat → Option va_E) (e : Nat → Nat → Int32) (c : Nat → Int32) (len i : Nat) {k : Nat} (h : k < 16 ∨ 16 + i ≤ k) : zwv G w e c len i k = w k := if_neg (by omega)
/-- the key of the first i exponents -/
def zkp (n : Nat) (l : List Nat) : Nat → Nat
  | 0 => 0
  | v + 1 => zkp n l v + l.getD v 0 * zWt n v
theorem zkp_4 (n : Nat) (l : List Nat) : zkp n l 4 = zKm n l := by
  simp only [zkp, zKm]
  omega
