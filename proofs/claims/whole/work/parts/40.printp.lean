/-! printing: what is printed -/
/-- the digits of v, from the unit 10 ^ j / 10 down -/
def zdr (v : Nat) : Nat → List Nat
  | 0 => []
  | j + 1 => (if 10 ^ j ≤ v ∨ j = 0 then [48 + v / 10 ^ j % 10] else []) ++ zdr v j
def zdig (v : Nat) : List Nat := zdr v 5
theorem zdr_len (v : Nat) : ∀ j, (zdr v j).length ≤ j
  | 0 => Nat.le_refl _
  | j + 1 => by
    have := zdr_len v j
    unfold zdr
    rw [List.length_append]
    split
    · show 1 + _ ≤ _
      omega
    · show 0 + _ ≤ _
      omega
theorem zdig_len (v : Nat) : (zdig v).length ≤ 5 := zdr_len v 5
theorem zdr_lt (v : Nat) : ∀ (j : Nat), ∀ b ∈ zdr v j, b < 256
  | 0, b, h => by simp [zdr] at h
  | j + 1, b, h => by
    unfold zdr at h
    rcases List.mem_append.mp h with h | h
    · split at h
      · have hb : b = 48 + v / 10 ^ j % 10 := by simpa using h
        have := Nat.mod_lt (v / 10 ^ j) (show 0 < 10 by decide)
        omega
      · simp at h
    · exact zdr_lt v j b h
theorem zdig_pos (v : Nat) : zdig v ≠ [] := by
  have h : (48 + v / 10 ^ 0 % 10) ∈ zdig v := by
    unfold zdig
    unfold zdr zdr zdr zdr zdr
    simp
  intro e
  rw [e] at h
  simp at h
/-- a variable with its exponent -/
def zvf (v e : Nat) : List Nat := if e = 0 then [] else znm v :: (if 1 < e then 94 :: zdig e else [])
def zjoin (L x : List Nat) : List Nat := if x = [] then L else if L = [] then x else L ++ 42 :: x
/-- the first k variables of monomial i behind L -/
def zpv (n o i : Nat) (L : List Nat) : Nat → List Nat
  | 0 => L
  | k + 1 => zjoin (zpv n o i L k) (zvf k (zEx n o k i))
def zl0 (c : Nat) : List Nat := if c = 1 then [] else zdig c
def zpt (n o i c : Nat) : List Nat := if zpv n o i (zl0 c) 4 = [] then [49] else zpv n o i (zl0 c) 4
/-- the terms of the first k monomials -/
def zpr (n o : Nat) (A : Nat → Nat) : Nat → List Nat
  | 0 => []
  | k + 1 => if A k = 0 then zpr n o A k else if zpr n o A k = [] then zpt n o k (A k) else zpr n o A k ++ 43 :: zpt n o k (A k)
def zprint (n o : Nat) (A : Nat → Nat) : List Nat := if zpr n o A (zCt n) = [] then [48] else zpr n o A (zCt n)
/-! lengths -/
def zfl (e : Nat) : Nat := if e = 0 then 0 else if e = 1 then 1 else if e < 10 then 3 else 4
theorem zdig_l30 : ∀ e, e < 31 → (zdig e).length = if e < 10 then 1 else 2 := by decide +kernel
theorem zvf_len {v e : Nat} (h : e < 31) : (zvf v e).length = zfl e := by
  unfold zvf zfl
  by_cases h0 : e = 0
  · rw [if_pos h0, if_pos h0]
    rfl
  · rw [if_neg h0, if_neg h0]
    by_cases h1 : e = 1
    · rw [if_pos h1, if_neg (by omega)]
      rfl
    · rw [if_neg h1, if_pos (by omega)]
      show (zdig e).length + 1 + 1 = _
      rw [zdig_l30 e h]
      split <;> rfl
theorem zjoin_len {L x : List Nat} : (zjoin L x).length ≤ L.length + (if x.length = 0 then 0 else x.length + 1) := by
  unfold zjoin
  by_cases h : x = []
  · rw [if_pos h, h]
    simp
  · rw [if_neg h, if_neg (c := x.length = 0) (fun h9 => h (List.length_eq_zero_iff.mp h9))]
    split
    · omega
    · rw [List.length_append]
      show L.length + (x.length + 1) ≤ _
      omega
def zfl1 (e : Nat) : Nat := if e = 0 then 0 else zfl e + 1
theorem zfl_0 {e : Nat} : zfl e = 0 ↔ e = 0 := by
  unfold zfl
  repeat' split
  all_goals omega
theorem zpl_dec : ∀ n, n < 4 → ∀ o, o < 2 → (zTab (n + 1) o).all (fun e => zfl1 (e.getD 0 0) + zfl1 (e.getD 1 0) + zfl1 (e.getD 2 0) + zfl1 (e.getD 3 0) ≤ 12) = true := by decide +kernel
theorem zpl_ok {n o i : Nat} (h : zCfg n o) (hi : i < zCt n) : zfl1 (zEx n o 0 i) + zfl1 (zEx n o 1 i) + zfl1 (zEx n o 2 i) + zfl1 (zEx n o 3 i) ≤ 12 := by
  obtain ⟨h1, h2, h3⟩ := id h
  have h9 := zpl_dec (n - 1) (by omega) o (by omega)
  rw [show n - 1 + 1 = n by omega] at h9
  exact of_decide_eq_true (List.all_eq_true.mp h9 _ (zTab_mem h hi))
theorem zEx_30 {n o i v : Nat} (h : zCfg n o) (hi : i < zCt n) (hv : v < 4) : zEx n o v i < 31 := by
  have h1 := zDg_le h hi
  have h2 := (zHi_le (n := n)).2
  unfold zDg at h1
  have h3 : v = 0 ∨ v = 1 ∨ v = 2 ∨ v = 3 := by omega
  rcases h3 with rfl | rfl | rfl | rfl <;> omega
def zfs (n o i : Nat) : Nat → Nat
  | 0 => 0
  | k + 1 => zfs n o i k + zfl1 (zEx n o k i)
theorem zpv_len {n o i : Nat} (h : zCfg n o) (hi : i < zCt n) (L : List Nat) : ∀ k, k ≤ 4 → (zpv n o i L k).length ≤ L.length + zfs n o i k
  | 0, _ => Nat.le_refl _
  | k + 1, hk => by
    have h1 := zpv_len h hi L k (by omega)
    have h2 := zjoin_len (L := zpv n o i L k) (x := zvf k (zEx n o k i))
    rw [zvf_len (zEx_30 h hi (by omega))] at h2
    show (zjoin _ _).length ≤ L.length + (zfs n o i k + zfl1 (zEx n o k i))
    have h3 : (if zfl (zEx n o k i) = 0 then 0 else zfl (zEx n o k i) + 1) = zfl1 (zEx n o k i) := by
      unfold zfl1
      by_cases h4 : zEx n o k i = 0
      · rw [if_pos h4, if_pos (zfl_0.mpr h4)]
      · rw [if_neg h4, if_neg (fun h9 => h4 (zfl_0.mp h9))]
    omega
theorem zfs_le {n o i : Nat} (h : zCfg n o) (hi : i < zCt n) : ∀ k, k ≤ 4 → zfs n o i k ≤ 12 := by
  intro k hk
  have h9 := zpl_ok h hi
  have h3 : k = 0 ∨ k = 1 ∨ k = 2 ∨ k = 3 ∨ k = 4 := by omega
  rcases h3 with rfl | rfl | rfl | rfl | rfl <;> simp only [zfs] <;> omega
/-- room for one more variable -/
theorem zpv_room {n o i v : Nat} (h : zCfg n o) (hi : i < zCt n) (hv : v < 4) (L : List Nat) (he : zEx n o v i ≠ 0) : (zpv n o i L v).length + 1 + (zvf v (zEx n o v i)).length ≤ L.length + 12 := by
  have h1 := zpv_len h hi L v (by omega)
  have h2 := zfs_le h hi (v + 1) (by omega)
  rw [zvf_len (zEx_30 h hi hv)]
  have h3 : zfs n o i (v + 1) = zfs n o i v + (zfl (zEx n o v i) + 1) := by
    show zfs n o i v + zfl1 (zEx n o v i) = _
    unfold zfl1
    rw [if_neg he]
  omega
theorem zl0_len (c : Nat) : (zl0 c).length ≤ 5 := by
  unfold zl0
  split
  · exact Nat.zero_le _
  · exact zdig_len c
theorem zpt_len {n o i : Nat} (h : zCfg n o) (hi : i < zCt n) (c : Nat) : (zpt n o i c).length ≤ 17 := by
  have h1 := zpv_len h hi (zl0 c) 4 (by omega)
  have h2 := zfs_le h hi 4 (by omega)
  have h3 := zl0_len c
  unfold zpt
  split
  · show 1 ≤ 17
    decide
  · omega
theorem zpt_pos (n o i c : Nat) : zpt n o i c ≠ [] := by
  unfold zpt
  split
  · exact List.cons_ne_nil _ _
  · next h => exact h
theorem zpr_len {n o : Nat} (h : zCfg n o) (A : Nat → Nat) : ∀ k, k ≤ zCt n → (zpr n o A k).length ≤ 18 * k
  | 0, _ => Nat.le_refl _
  | k + 1, hk => by
    have h1 := zpr_len h A k (by omega)
    have h2 := zpt_len h (show k < zCt n by omega) (A k)
    unfold zpr
    split
    · omega
    · split
      · omega
      · rw [List.length_append]
        show _ + ((zpt n o k (A k)).length + 1) ≤ _
        omega
theorem zpr_out {n o : Nat} {A : Nat → Nat} {c : Nat} (h : ∀ k, c ≤ k → A k = 0) : ∀ k, c ≤ k → zpr n o A k = zpr n o A c
  | 0, hk => by rw [show c = 0 by omega]
  | k + 1, hk => by
    by_cases e : c = k + 1
    · rw [e]
    · rw [zpr, if_pos (h k (by omega))]
      exact zpr_out h k (by omega)
theorem zprint_len {n o : Nat} (h : zCfg n o) (A : Nat → Nat) : (zprint n o A).length ≤ 2268 := by
  have h1 := zpr_len h A (zCt n) (Nat.le_refl _)
  have h2 := zCt_le (n := n)
  unfold zprint
  split
  · show 1 ≤ 2268
    decide
  · omega
/-- a join, piece by piece -/
theorem zjoin_e {L : List Nat} {v e : Nat} (he : e ≠ 0) : zjoin L (zvf v e) = ((if L = [] then [] else L ++ [42]) ++ [znm v]) ++ (if 1 < e then 94 :: zdig e else []) := by
  unfold zjoin zvf
  rw [if_neg he, if_neg (List.cons_ne_nil _ _)]
  by_cases h : L = []
  · rw [if_pos h, if_pos h]
    rfl
  · rw [if_neg h, if_neg h]
    simp
theorem zjoin_0 {L : List Nat} {v e : Nat} (he : e = 0) : zjoin L (zvf v e) = L := by
  unfold zjoin zvf
  rw [if_pos he, if_pos rfl]
/-! the printer in a world -/
def zPrn (G : zG) (ad : Nat → Nat) (w : Nat → Option va_E) (out : List Nat) : Prop :=
  ∃ (FP pb : Nat → Int32), w 3 = some (oP ad FP) ∧ FP 2 = nI out.length ∧ w 13 = some (zc G 2268 pb) ∧ (∀ i, i < out.length → pb i = nI (out.getD i 0)) ∧ out.length ≤ 2268
def zpf (w w' : Nat → Option va_E) : Prop := ∀ k, k ≠ 3 → k ≠ 13 → w' k = w k
theorem zpf.rfl' (w : Nat → Option va_E) : zpf w w := fun _ _ _ => rfl
theorem zpf.trans {w w1 w2 : Nat → Option va_E} (h1 : zpf w w1) (h2 : zpf w1 w2) : zpf w w2 := fun k a b => (h2 k a b).trans (h1 k a b)
theorem zPrn.to {G : zG} {ad : Nat → Nat} {w : Nat → Option va_E} {a b : List Nat} (h : zPrn G ad w a) (e : a = b) : zPrn G ad w b := e ▸ h
theorem zRing.pf {G : zG} {ad : Nat → Nat} {w w' : Nat → Option va_E} {P n o : Nat} {F : Nat → Int32} (h : zRing G ad w P n o F) (e : zpf w w') : zRing G ad w' P n o F := by
  obtain ⟨b1, b2, b3, b4, b5, b6, b7, b8, b9, b10, b11⟩ := h
  exact ⟨by rw [e _ (by decide) (by decide)]; exact b1, b2, b3, b4, by rw [e _ (by decide) (by decide)]; exact b5, fun v hv => by rw [e _ (by omega) (by omega)]; exact b6 v hv, by rw [e _ (by decide) (by decide)]; exact b7, by rw [e _ (by decide) (by decide)]; exact b8, by rw [e _ (by decide) (by decide)]; exact b9, by rw [e _ (by decide) (by decide)]; exact b10, by rw [e _ (by decide) (by decide)]; exact b11⟩
theorem zgetD_app {a : List Nat} {c i : Nat} : (a ++ [c]).getD i 0 = if i < a.length then a.getD i 0 else if i = a.length then c else 0 := by
  rw [List.getD_eq_getElem?_getD, List.getD_eq_getElem?_getD]
  by_cases h : i < a.length
  · rw [if_pos h, List.getElem?_append_left h]
  · rw [if_neg h, List.getElem?_append_right (by omega)]
    by_cases h2 : i = a.length
    · rw [if_pos h2, h2, Nat.sub_self]
      rfl
    · rw [if_neg h2]
      rw [List.getElem?_eq_none (by show 1 ≤ i - a.length; omega)]
      rfl
