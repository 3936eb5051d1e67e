/-! the reference in a world: numbers of 64 bits, its tables, its cells -/
def zmo (P : Nat) (x : Int64) : Nat := (x.toInt % (P : Int)).toNat
theorem zrem64 (x : Int64) {P : Nat} (h0 : 0 < P) (hP : P < 2 ^ 31) : (x - x / lN P * lN P).toInt = x.toInt.tmod P := by
  have h1 : (lN P).toInt = (P : Int) := lN_toInt hP
  have hx1 := x.toInt_lt
  have hx2 := x.le_toInt
  have hq : (x / lN P).toInt = x.toInt.tdiv P := by
    rw [Int64.toInt_div_of_ne_right _ _ (by
      intro h
      have h2 := congrArg Int64.toInt h
      rw [h1] at h2
      have h3 : (-1 : Int64).toInt = -1 := by decide
      omega), h1]
  obtain ⟨a, b, c, d, e⟩ := ztmx x.toInt h0
  have hb : -(2 : Int) ^ 63 ≤ x.toInt.tdiv P * P ∧ x.toInt.tdiv P * P < 2 ^ 63 := by
    by_cases hx : 0 ≤ x.toInt
    · have := d hx
      omega
    · have := e (by omega)
      omega
  rw [Int64.toInt_sub, Int64.toInt_mul, hq, h1, Int.bmod_eq_of_le (n := x.toInt.tdiv P * P) (by omega) (by omega), Int.bmod_eq_of_le (by omega) (by omega)]
  omega
theorem zrem64i (x : Int64) {P : Nat} (h0 : 0 < P) (hP : P < 2 ^ 30) : (x - x / lN P * lN P).toInt32.toInt = x.toInt.tmod P := by
  obtain ⟨a, b, c, d, e⟩ := ztmx x.toInt h0
  rw [Int64.toInt_toInt32, zrem64 x h0 (by omega), Int.bmod_eq_of_le (by omega) (by omega)]
theorem zmo_of (x : Int64) {P : Nat} (h0 : 0 < P) {r : Int} (hr : r = if x.toInt.tmod P < 0 then x.toInt.tmod P + P else x.toInt.tmod P) : r = (zmo P x : Int) := by
  obtain ⟨a, b, c, d, e⟩ := ztmx x.toInt h0
  have hr0 : 0 ≤ r ∧ r < P := by
    by_cases h : x.toInt.tmod P < 0
    · rw [if_pos h] at hr
      omega
    · rw [if_neg h] at hr
      omega
  have hk : ∃ k : Int, x.toInt = r + P * k := by
    by_cases h : x.toInt.tmod P < 0
    · rw [if_pos h] at hr
      refine ⟨x.toInt.tdiv P - 1, ?_⟩
      rw [Int.mul_sub, Int.mul_comm]
      omega
    · rw [if_neg h] at hr
      refine ⟨x.toInt.tdiv P, ?_⟩
      rw [Int.mul_comm]
      omega
  obtain ⟨k, hk⟩ := hk
  have h1 : x.toInt % (P : Int) = r := by
    rw [hk, Int.add_mul_emod_self_left]
    exact Int.emod_eq_of_lt hr0.1 hr0.2
  unfold zmo
  rw [h1]
  omega
theorem zmo_lt (x : Int64) {P : Nat} (h0 : 0 < P) : zmo P x < P := by
  have h1 := Int.emod_nonneg x.toInt (b := (P : Int)) (by omega)
  have h2 := Int.emod_lt_of_pos x.toInt (b := (P : Int)) (by omega)
  unfold zmo
  omega
theorem zmo_N {P a : Nat} (ha : a < 2 ^ 63) : zmo P (lN a) = a % P := by
  unfold zmo
  rw [pk_lT ha]
  rfl
theorem zmo_i {P : Nat} (x : Int32) : zmo P x.toInt64 = zred P x := by
  unfold zmo zred
  rw [Int32.toInt_toInt64]
/-- what the cells of the reference hold: B t i is the number of table t at monomial i -/
def zCel (G : zG) (w : Nat → Option va_E) (P n o : Nat) (B : Nat → Nat → Nat) : Prop :=
  ∃ cl : Nat → Int32, w 105 = some (zi G 94608 cl) ∧ (∀ t, t < 73 → ∀ i, i < zCt n → cl (1296 * t + zKy n o i) = nI (B t i)) ∧ ∀ t, zpol n P (B t)
def zMod (G : zG) (ad : Nat → Nat) (w : Nat → Option va_E) (P n o : Nat) (F : Nat → Int32) (B : Nat → Nat → Nat) : Prop :=
  w 100 = some (oM ad F) ∧ (F 1 = nI P ∧ F 2 = nI n ∧ F 3 = nI o ∧ F 4 = nI (zHi n) ∧ F 10 = nI (zCt n)) ∧ (2 ≤ P ∧ P ≤ 32003) ∧ zCfg n o ∧
  (∃ d : Nat → Int32, w 101 = some (zi G 1296 d) ∧ ∀ i, i < zCt n → d (zKy n o i) = nI (zDg n o i)) ∧
  (∃ x : Nat → Int32, w 102 = some (zi G 5184 x) ∧ ∀ i, i < zCt n → ∀ v, v < 4 → x (4 * zKy n o i + v) = nI (zEx n o v i)) ∧
  (∃ y : Nat → Int32, w 103 = some (zi G 126 y) ∧ ∀ i, i < zCt n → y i = nI (zKy n o i)) ∧
  (∃ u : Nat → Int32, w 104 = some (zi G 4 u) ∧ ∀ v, v < n → u v = nI (zWt n v)) ∧ zCel G w P n o B
def zf5 (w w' : Nat → Option va_E) : Prop := ∀ k, k ≠ 105 → w' k = w k
theorem zf5.rfl' (w : Nat → Option va_E) : zf5 w w := fun _ _ => rfl
theorem zf5.trans {w w1 w2 : Nat → Option va_E} (h1 : zf5 w w1) (h2 : zf5 w1 w2) : zf5 w w2 := fun k h => (h2 k h).trans (h1 k h)
section ZMD
variable {G : zG} {ad : Nat → Nat} {w w' : Nat → Option va_E} {P n o : Nat} {F : Nat → Int32} {B B' : Nat → Nat → Nat}
theorem zMod.cel (h : zMod G ad w P n o F B) (e : zf5 w w') (hc : zCel G w' P n o B') : zMod G ad w' P n o F B' := by
  obtain ⟨h1, h2, h3, h4, h5, h6, h7, h8, -⟩ := h
  exact ⟨by rw [e _ (by decide)]; exact h1, h2, h3, h4, by rw [e _ (by decide)]; exact h5, by rw [e _ (by decide)]; exact h6, by rw [e _ (by decide)]; exact h7, by rw [e _ (by decide)]; exact h8, hc⟩
theorem zMod.to (h : zMod G ad w P n o F B) (e : B = B') : zMod G ad w P n o F B' := e ▸ h
/-- the object's other fields, and other cells -/
theorem zMod.obj (h : zMod G ad w P n o F B) {F' : Nat → Int32} (e : ∀ k, k = 101 ∨ k = 102 ∨ k = 103 ∨ k = 104 ∨ k = 105 → w' k = w k) (h0 : w' 100 = some (oM ad F')) (hF : ∀ j, j = 1 ∨ j = 2 ∨ j = 3 ∨ j = 4 ∨ j = 10 → F' j = F j) : zMod G ad w' P n o F' B := by
  obtain ⟨h1, ⟨a1, a2, a3, a4, a5⟩, h3, h4, h5, h6, h7, h8, cl, h9, h10⟩ := h
  exact ⟨h0, ⟨by rw [hF 1 (by decide)]; exact a1, by rw [hF 2 (by decide)]; exact a2, by rw [hF 3 (by decide)]; exact a3, by rw [hF 4 (by decide)]; exact a4, by rw [hF 10 (by decide)]; exact a5⟩, h3, h4, by rw [e _ (by decide)]; exact h5, by rw [e _ (by decide)]; exact h6, by rw [e _ (by decide)]; exact h7, by rw [e _ (by decide)]; exact h8, cl, by rw [e _ (by decide)]; exact h9, h10⟩
theorem zCel.set (hcfg : zCfg n o) {cl : Nat → Int32} (h2 : ∀ t, t < 73 → ∀ i, i < zCt n → cl (1296 * t + zKy n o i) = nI (B t i)) (h3 : ∀ t, zpol n P (B t)) {t i v : Nat} (ht : t < 73) (hi : i < zCt n) (hv : v < P) : zCel G (va_up w 105 (some (zi G 94608 (upd cl (1296 * t + zKy n o i) (nI v))))) P n o (va_up B t (va_up (B t) i v)) := by
  refine ⟨_, va_up_self _ _ _, fun t' ht' i' hi' => ?_, fun t' => ?_⟩
  · have k1 := zKy_lt hcfg hi
    have k2 := zKy_lt hcfg hi'
    by_cases e : t' = t
    · subst e
      rw [va_up_self]
      by_cases e2 : i' = i
      · subst e2
        rw [pk_us, va_up_self]
      · rw [pk_un (fun h9 => e2 (zKy_inj hcfg hi' hi (by omega))), va_up_ne _ _ e2]
        exact h2 t' ht i' hi'
    · rw [pk_un (by omega), va_up_ne _ _ e]
      exact h2 t' ht' i' hi'
  · by_cases e : t' = t
    · subst e
      rw [va_up_self]
      refine ⟨fun j => ?_, fun j hj => ?_⟩
      · by_cases e2 : j = i
        · subst e2
          rw [va_up_self]
          exact hv
        · rw [va_up_ne _ _ e2]
          exact (h3 t').1 j
      · rw [va_up_ne _ _ (by omega)]
        exact (h3 t').2 j hj
    · rw [va_up_ne _ _ e]
      exact h3 t'
end ZMD
/-- a table whose first j numbers are those of X, the others of Y -/
def zmix (j : Nat) (X Y : Nat → Nat) : Nat → Nat := fun i => if i < j then X i else Y i
theorem zmix_0 (X Y : Nat → Nat) : zmix 0 X Y = Y := by
  funext i
  exact if_neg (Nat.not_lt_zero _)
theorem zmix_s (j : Nat) (X Y : Nat → Nat) : va_up (zmix j X Y) j (X j) = zmix (j + 1) X Y := by
  funext i
  unfold zmix
  by_cases e : i = j
  · subst e
    rw [va_up_self, if_pos (by omega)]
  · rw [va_up_ne _ _ e]
    by_cases h : i < j
    · rw [if_pos h, if_pos (by omega)]
    · rw [if_neg h, if_neg (by omega)]
theorem zmix_e {n P : Nat} {X Y : Nat → Nat} (hX : zpol n P X) (hY : zpol n P Y) : zmix (zCt n) X Y = X := by
  funext i
  unfold zmix
  by_cases h : i < zCt n
  · rw [if_pos h]
  · rw [if_neg h, hX.2 i (by omega), hY.2 i (by omega)]
theorem zmix_at {j : Nat} {X Y : Nat → Nat} : zmix j X Y j = Y j := if_neg (Nat.lt_irrefl _)
theorem zup2 {α : Type} {f : Nat → α} {t : Nat} {x y : α} : va_up (va_up f t x) t y = va_up f t y := bx_uu f t x y
