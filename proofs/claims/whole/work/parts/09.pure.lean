/-! numbers: remainders, counts, the first that is not 0 -/
/-- what a number is in the field of P -/
def zred (P : Nat) (x : Int32) : Nat := (x.toInt % (P : Int)).toNat
theorem ztm {y : Int} {P : Nat} (h : 0 < P) (hy : 0 ≤ y) : y.tdiv P * P + y.tmod P = y ∧ 0 ≤ y.tmod P ∧ y.tmod P < P ∧ 0 ≤ y.tdiv P * P := by
  have h1 : (P : Int) * y.tdiv P + y.tmod P = y := Int.mul_tdiv_add_tmod y P
  have h2 : 0 ≤ y.tmod P := Int.tmod_nonneg _ hy
  have h3 : y.tmod P < P := Int.tmod_lt_of_pos _ (by omega)
  have h4 : 0 ≤ y.tdiv P := Int.tdiv_nonneg hy (by omega)
  refine ⟨by rw [Int.mul_comm]; exact h1, h2, h3, Int.mul_nonneg h4 (by omega)⟩
theorem ztmx (x : Int) {P : Nat} (h : 0 < P) : x.tdiv P * P + x.tmod P = x ∧ -(P : Int) < x.tmod P ∧ x.tmod P < P ∧ (0 ≤ x → 0 ≤ x.tmod P ∧ 0 ≤ x.tdiv P * P) ∧ (x < 0 → x.tmod P ≤ 0 ∧ x.tdiv P * P ≤ 0) := by
  by_cases hx : 0 ≤ x
  · obtain ⟨a, b, c, d⟩ := ztm h hx
    exact ⟨a, by omega, c, fun _ => ⟨b, d⟩, fun h9 => by omega⟩
  · obtain ⟨a, b, c, d⟩ := ztm (y := -x) h (by omega)
    rw [Int.neg_tdiv, Int.neg_tmod] at a
    rw [Int.neg_tmod] at b c
    rw [Int.neg_tdiv, Int.neg_mul] at d
    rw [Int.neg_mul] at a
    exact ⟨by omega, by omega, by omega, fun h9 => by omega, fun _ => ⟨by omega, by omega⟩⟩
theorem zrem32 (x : Int32) {P : Nat} (h0 : 0 < P) (hP : P < 2 ^ 31) : (x - x / nI P * nI P).toInt = x.toInt.tmod P := by
  have h1 : (nI P).toInt = (P : Int) := nI_toInt hP
  have hx1 := x.toInt_lt
  have hx2 := x.le_toInt
  have hq : (x / nI P).toInt = x.toInt.tdiv P := by
    rw [Int32.toInt_div_of_ne_right _ _ (by
      intro h
      have h2 := congrArg Int32.toInt h
      rw [h1] at h2
      have h3 : (-1 : Int32).toInt = -1 := by decide
      omega), h1]
  obtain ⟨a, b, c, d, e⟩ := ztmx x.toInt h0
  have hb : -(2 : Int) ^ 31 ≤ x.toInt.tdiv P * P ∧ x.toInt.tdiv P * P < 2 ^ 31 := by
    by_cases hx : 0 ≤ x.toInt
    · have := d hx
      omega
    · have := e (by omega)
      omega
  rw [Int32.toInt_sub, Int32.toInt_mul, hq, h1, Int.bmod_eq_of_le (n := x.toInt.tdiv P * P) (by omega) (by omega), Int.bmod_eq_of_le (by omega) (by omega)]
  omega
theorem zred_of (x : Int32) {P : Nat} (h0 : 0 < P) {r : Int} (hr : r = if x.toInt.tmod P < 0 then x.toInt.tmod P + P else x.toInt.tmod P) : r = (zred P x : Int) := by
  obtain ⟨a, b, c, d, e⟩ := ztmx x.toInt h0
  have hr0 : 0 ≤ r ∧ r < P := by
    by_cases h : x.toInt.tmod P < 0
    · rw [if_pos h] at hr
      omega
    · rw [if_neg h] at hr
      omega
  have hk : ∃ k : Int, x.toInt = r + P * k := by
    by_cases h : x.toInt.tmod P < 0
    · rw [if_pos h] at hr
      refine ⟨x.toInt.tdiv P - 1, ?_⟩
      rw [Int.mul_sub, Int.mul_comm]
      omega
    · rw [if_neg h] at hr
      refine ⟨x.toInt.tdiv P, ?_⟩
      rw [Int.mul_comm]
      omega
  obtain ⟨k, hk⟩ := hk
  have h1 : x.toInt % (P : Int) = r := by
    rw [hk, Int.add_mul_emod_self_left]
    exact Int.emod_eq_of_lt hr0.1 hr0.2
  unfold zred
  rw [h1]
  omega
theorem zred_lt (x : Int32) {P : Nat} (h0 : 0 < P) : zred P x < P := by
  have h1 := Int.emod_nonneg x.toInt (b := (P : Int)) (by omega)
  have h2 := Int.emod_lt_of_pos x.toInt (b := (P : Int)) (by omega)
  unfold zred
  omega
theorem zred_nI {P a : Nat} (ha : a < 2 ^ 31) : zred P (nI a) = a % P := by
  unfold zred
  rw [nI_toInt ha]
  rfl
/-- how many of the first n are not 0 -/
def zcnt (g : Nat → Int32) : Nat → Nat
  | 0 => 0
  | n + 1 => zcnt g n + (if g n = 0 then 0 else 1)
theorem zcnt_le (g : Nat → Int32) (n : Nat) : zcnt g n ≤ n := by
  induction n with
  | zero => exact Nat.le_refl 0
  | succ n ih =>
    simp only [zcnt]
    split <;> omega
theorem zcnt_congr {g g' : Nat → Int32} {n : Nat} (h : ∀ i, i < n → g i = g' i) : zcnt g n = zcnt g' n := by
  induction n with
  | zero => rfl
  | succ n ih =>
    simp only [zcnt]
    rw [ih (fun i hi => h i (by omega)), h n (by omega)]
/-- the first place from i on, of n places, where g is not 0; i + n if there is none -/
def zfst (g : Nat → Int32) : Nat → Nat → Nat
  | i, 0 => i
  | i, n + 1 => if g i = 0 then zfst g (i + 1) n else i
theorem zfst_in (g : Nat → Int32) : ∀ (n i : Nat), i ≤ zfst g i n ∧ zfst g i n ≤ i + n
  | 0, i => ⟨Nat.le_refl _, Nat.le_refl _⟩
  | n + 1, i => by
    simp only [zfst]
    split
    · have := zfst_in g n (i + 1)
      omega
    · omega
theorem zfst_congr {g g' : Nat → Int32} : ∀ (n i : Nat), (∀ j, i ≤ j → j < i + n → g j = g' j) → zfst g i n = zfst g' i n
  | 0, _, _ => rfl
  | n + 1, i, h => by
    simp only [zfst]
    rw [h i (Nat.le_refl i) (by omega), zfst_congr n (i + 1) (fun j h1 h2 => h j (by omega) (by omega))]
/-- where the term number t (counted from there on) stands, from i on, of n places -/
def zith (g : Nat → Int32) : Int → Nat → Nat → Option Nat
  | _, _, 0 => none
  | t, i, n + 1 => if g i = 0 then zith g t (i + 1) n else if t = 0 then some i else zith g (t - 1) (i + 1) n
theorem zith_congr {g g' : Nat → Int32} : ∀ (n i : Nat) (t : Int), (∀ j, i ≤ j → j < i + n → g j = g' j) → zith g t i n = zith g' t i n
  | 0, _, _, _ => rfl
  | n + 1, i, t, h => by
    simp only [zith]
    rw [h i (Nat.le_refl i) (by omega), zith_congr n (i + 1) t (fun j h1 h2 => h j (by omega) (by omega)), zith_congr n (i + 1) (t - 1) (fun j h1 h2 => h j (by omega) (by omega))]
theorem zith_in {g : Nat → Int32} : ∀ (n i : Nat) (t : Int) (k : Nat), zith g t i n = some k → i ≤ k ∧ k < i + n
  | 0, _, _, _, h => by cases h
  | n + 1, i, t, k, h => by
    simp only [zith] at h
    split at h
    · have := zith_in n (i + 1) t k h
      omega
    · split at h
      · cases h
        omega
      · have := zith_in n (i + 1) (t - 1) k h
        omega
theorem vin {i n : Nat} (h : i < n) (hn : n < 2 ^ 31) : vp_in (nI i) n := vp_in_nI h hn
theorem ncl {i : Nat} (h : i < 2 ^ 31) : (nI i).toNatClampNeg = i := nI_clamp h
