/-! sums of sums, and the product's laws -/
theorem zs_add {f g : Nat → Nat} : ∀ n, zs (fun i => f i + g i) n = zs f n + zs g n
  | 0 => rfl
  | n + 1 => by
    simp only [zs]
    rw [zs_add n]
    omega
theorem zs_mulr {f : Nat → Nat} {c : Nat} : ∀ n, zs (fun i => f i * c) n = zs f n * c
  | 0 => by simp [zs]
  | n + 1 => by
    simp only [zs]
    rw [zs_mulr n, Nat.add_mul]
theorem zs_mull {f : Nat → Nat} {c : Nat} : ∀ n, zs (fun i => c * f i) n = c * zs f n
  | 0 => by simp [zs]
  | n + 1 => by
    simp only [zs]
    rw [zs_mull n, Nat.mul_add]
theorem zs_comm {f : Nat → Nat → Nat} (m : Nat) : ∀ n, zs (fun i => zs (fun j => f i j) m) n = zs (fun j => zs (fun i => f i j) n) m
  | 0 => by
    simp only [zs]
    exact (zs_zero m (fun _ _ => rfl)).symm
  | n + 1 => by
    simp only [zs]
    rw [zs_comm m n, ← zs_add]
theorem zs_mod {f g : Nat → Nat} {P : Nat} : ∀ n, (∀ i, i < n → f i % P = g i % P) → zs f n % P = zs g n % P
  | 0, _ => rfl
  | n + 1, h => by
    simp only [zs]
    rw [Nat.add_mod, zs_mod n (fun i hi => h i (by omega)), h n (by omega), ← Nat.add_mod]
theorem zs_one {f : Nat → Nat} {i0 : Nat} : ∀ n, i0 < n → (∀ i, i < n → i ≠ i0 → f i = 0) → zs f n = f i0
  | 0, h, _ => by omega
  | n + 1, h, hz => by
    simp only [zs]
    by_cases e : n = i0
    · subst e
      rw [zs_zero n (fun i hi => hz i (by omega) (by omega)), Nat.zero_add]
    · rw [zs_one n (by omega) (fun i hi hne => hz i (by omega) hne), hz n (by omega) e, Nat.add_zero]
/-- no coefficient of a higher degree than d -/
def zdle (n o : Nat) (A : Nat → Nat) (d : Nat) : Prop := ∀ i, i < zCt n → A i ≠ 0 → zDg n o i ≤ d
/-- a polynomial of the field: numbers below P, nothing behind the last monomial -/
def zpol (n P : Nat) (A : Nat → Nat) : Prop := (∀ i, A i < P) ∧ ∀ i, zCt n ≤ i → A i = 0
theorem zmul_pol {n o P : Nat} (hP : 0 < P) (A B : Nat → Nat) : zpol n P (zmul n o P A B) := ⟨zmul_lt' hP A B, fun i hi => if_neg (by omega)⟩
theorem zcon_pol {n P i0 x : Nat} (hi : i0 < zCt n) (hx : x < P) : zpol n P (zcon i0 x) := by
  refine ⟨fun i => ?_, fun i h => ?_⟩
  · unfold zcon
    by_cases e : i = i0
    · subst e; rw [va_up_self]; exact hx
    · rw [va_up_ne _ _ e]; omega
  · unfold zcon
    rw [va_up_ne _ _ (by omega)]
theorem zmul_dle {n o P : Nat} {A B : Nat → Nat} {d e : Nat} (hc : zCfg n o) (hA : zdle n o A d) (hB : zdle n o B e) (hde : d + e ≤ zHi n) : zdle n o (zmul n o P A B) (d + e) := by
  intro k hk hne
  apply Classical.byContradiction
  intro hgt
  apply hne
  unfold zmul
  rw [if_pos hk, show zpi n o A B k (zCt n) = 0 from zs_zero _ (fun i hi => zs_zero _ (fun j hj => ?_)), Nat.zero_mod]
  by_cases hz : A i * B j = 0
  · rw [hz]; split <;> rfl
  · have h1 : A i ≠ 0 := fun h => hz (by rw [h, Nat.zero_mul])
    have h2 : B j ≠ 0 := fun h => hz (by rw [h, Nat.mul_zero])
    have h3 := hA i hi h1
    have h4 := hB j hj h2
    rw [if_neg]
    intro he
    obtain ⟨q, hq1, hq2, hq3⟩ := zAdd hc hi hj (by omega)
    have : q = k := zKy_inj hc hq1 hk (by rw [hq2, he])
    subst this
    omega
/-- the three-fold product, before the remainder -/
def ztri (n o : Nat) (A B C : Nat → Nat) (k : Nat) : Nat := zs (fun i => zs (fun j => zs (fun l => if zKy n o i + zKy n o j + zKy n o l = zKy n o k then A i * B j * C l else 0) (zCt n)) (zCt n)) (zCt n)
theorem zmul_eq {n o P : Nat} (A B : Nat → Nat) {k : Nat} (hk : k < zCt n) : zmul n o P A B k = zs (fun i => zs (fun j => if zKy n o i + zKy n o j = zKy n o k then A i * B j else 0) (zCt n)) (zCt n) % P := if_pos hk
theorem zif_mul {c : Prop} [Decidable c] {x y : Nat} : (if c then x else 0) * y = if c then x * y else 0 := by
  split
  · rfl
  · exact Nat.zero_mul y
theorem zmul_if {c : Prop} [Decidable c] {x y : Nat} : y * (if c then x else 0) = if c then y * x else 0 := by
  split
  · rfl
  · exact Nat.mul_zero y
/-- a pair's place is one -/
theorem zpair {n o i j : Nat} (hc : zCfg n o) (hi : i < zCt n) (hj : j < zCt n) (hd : zDg n o i + zDg n o j ≤ zHi n) (f : Nat → Nat) (X : Nat) : zs (fun q => if zKy n o i + zKy n o j = zKy n o q then (if f (zKy n o q) = X then 1 else 0) else 0) (zCt n) = if f (zKy n o i + zKy n o j) = X then 1 else 0 := by
  obtain ⟨q, hq1, hq2, -⟩ := zAdd hc hi hj hd
  rw [zs_one _ hq1 (fun r hr hne => if_neg (fun h => hne (zKy_inj hc hr hq1 (by rw [hq2, h])))), if_pos hq2.symm, hq2]
theorem zassoc1 {n o P : Nat} {A B C : Nat → Nat} (hc : zCfg n o) (hd : ∀ i j, i < zCt n → j < zCt n → A i ≠ 0 → B j ≠ 0 → zDg n o i + zDg n o j ≤ zHi n) {k : Nat} (hk : k < zCt n) : zmul n o P (zmul n o P A B) C k = ztri n o A B C k % P := by
  rw [zmul_eq _ _ hk]
  have h1 : ∀ q, q < zCt n → zs (fun l => if zKy n o q + zKy n o l = zKy n o k then zmul n o P A B q * C l else 0) (zCt n) % P = zs (fun l => if zKy n o q + zKy n o l = zKy n o k then zs (fun i => zs (fun j => if zKy n o i + zKy n o j = zKy n o q then A i * B j else 0) (zCt n)) (zCt n) * C l else 0) (zCt n) % P := by
    intro q hq
    refine zs_mod _ (fun l hl => ?_)
    split
    · rw [zmul_eq A B hq]
      exact Nat.mod_mul_mod ..
    · rfl
  rw [zs_mod _ h1]
  congr 1
  have h2 : ∀ q l : Nat, (if zKy n o q + zKy n o l = zKy n o k then zs (fun i => zs (fun j => if zKy n o i + zKy n o j = zKy n o q then A i * B j else 0) (zCt n)) (zCt n) * C l else 0) = zs (fun i => zs (fun j => (if zKy n o i + zKy n o j = zKy n o q then (if zKy n o q + zKy n o l = zKy n o k then 1 else 0) else 0) * (A i * B j * C l)) (zCt n)) (zCt n) := by
    intro q l
    split
    · rw [← zs_mulr]
      refine zs_congr _ (fun i hi => ?_)
      rw [← zs_mulr]
      refine zs_congr _ (fun j hj => ?_)
      split
      · rw [Nat.one_mul]
      · rw [Nat.zero_mul, Nat.zero_mul]
    · exact (zs_zero _ (fun i hi => zs_zero _ (fun j hj => by split <;> simp))).symm
  have h3 : zs (fun q => zs (fun l => if zKy n o q + zKy n o l = zKy n o k then zs (fun i => zs (fun j => if zKy n o i + zKy n o j = zKy n o q then A i * B j else 0) (zCt n)) (zCt n) * C l else 0) (zCt n)) (zCt n)
      = zs (fun q => zs (fun l => zs (fun i => zs (fun j => (if zKy n o i + zKy n o j = zKy n o q then (if zKy n o q + zKy n o l = zKy n o k then 1 else 0) else 0) * (A i * B j * C l)) (zCt n)) (zCt n)) (zCt n)) (zCt n) :=
    zs_congr _ (fun q _ => zs_congr _ (fun l _ => h2 q l))
  rw [h3]
  -- bring q innermost: q l i j -> i j l q
  have h4 : ∀ q, zs (fun l => zs (fun i => zs (fun j => (if zKy n o i + zKy n o j = zKy n o q then (if zKy n o q + zKy n o l = zKy n o k then 1 else 0) else 0) * (A i * B j * C l)) (zCt n)) (zCt n)) (zCt n)
      = zs (fun i => zs (fun j => zs (fun l => (if zKy n o i + zKy n o j = zKy n o q then (if zKy n o q + zKy n o l = zKy n o k then 1 else 0) else 0) * (A i * B j * C l)) (zCt n)) (zCt n)) (zCt n) := by
    intro q
    rw [zs_comm]
    exact zs_congr _ (fun i _ => zs_comm _ _)
  rw [zs_congr _ (fun q _ => h4 q), zs_comm]
  unfold ztri
  refine zs_congr _ (fun i hi => ?_)
  rw [zs_comm]
  refine zs_congr _ (fun j hj => ?_)
  rw [zs_comm]
  refine zs_congr _ (fun l hl => ?_)
  rw [zs_mulr]
  by_cases hz : A i * B j = 0
  · rw [hz, Nat.zero_mul, Nat.mul_zero]
    split <;> rfl
  · have h5 := zpair hc hi hj (hd i j hi hj (fun h => hz (by rw [h, Nat.zero_mul])) (fun h => hz (by rw [h, Nat.mul_zero]))) (fun x => x + zKy n o l) (zKy n o k)
    rw [h5]
    split
    · exact Nat.one_mul _
    · exact Nat.zero_mul _
theorem zmul_comm {n o P : Nat} (A B : Nat → Nat) : zmul n o P A B = zmul n o P B A := by
  funext k
  by_cases hk : k < zCt n
  · rw [zmul_eq _ _ hk, zmul_eq _ _ hk, zs_comm]
    congr 1
    exact zs_congr _ (fun i _ => zs_congr _ (fun j _ => by rw [Nat.add_comm, Nat.mul_comm]))
  · unfold zmul
    rw [if_neg hk, if_neg hk]
theorem ztri_rot {n o : Nat} (A B C : Nat → Nat) (k : Nat) : ztri n o A B C k = ztri n o B C A k := by
  unfold ztri
  rw [zs_comm]
  refine zs_congr _ (fun j _ => ?_)
  rw [zs_comm]
  refine zs_congr _ (fun l _ => ?_)
  refine zs_congr _ (fun i _ => ?_)
  rw [show zKy n o i + zKy n o j + zKy n o l = zKy n o j + zKy n o l + zKy n o i by omega, show A i * B j * C l = B j * C l * A i by rw [Nat.mul_assoc, Nat.mul_comm]]
theorem zassoc {n o P : Nat} {A B C : Nat → Nat} (hc : zCfg n o) (h1 : ∀ i j, i < zCt n → j < zCt n → A i ≠ 0 → B j ≠ 0 → zDg n o i + zDg n o j ≤ zHi n) (h2 : ∀ i j, i < zCt n → j < zCt n → B i ≠ 0 → C j ≠ 0 → zDg n o i + zDg n o j ≤ zHi n) : zmul n o P (zmul n o P A B) C = zmul n o P A (zmul n o P B C) := by
  funext k
  by_cases hk : k < zCt n
  · rw [zassoc1 hc h1 hk, zmul_comm A, zassoc1 hc h2 hk, ztri_rot]
  · unfold zmul
    rw [if_neg hk, if_neg hk]
theorem zmul_one {n o P i0 : Nat} {A : Nat → Nat} (hc : zCfg n o) (hA : zpol n P A) (hi : i0 < zCt n) (hk0 : zKy n o i0 = 0) : zmul n o P A (zcon i0 1) = A := by
  funext k
  by_cases hk : k < zCt n
  · rw [zmul_eq _ _ hk, zs_one (i0 := k) _ hk (fun i hi9 hne => zs_zero _ (fun j hj => ?_)), zs_one (i0 := i0) _ hi (fun j hj hne => ?_)]
    · rw [hk0, Nat.add_zero, if_pos rfl]
      show A k * zcon i0 1 i0 % P = A k
      rw [show zcon i0 1 i0 = 1 from va_up_self _ _ _, Nat.mul_one]
      exact Nat.mod_eq_of_lt (hA.1 k)
    · rw [show zcon i0 1 j = 0 from va_up_ne _ _ hne, Nat.mul_zero]
      split <;> rfl
    · by_cases e : j = i0
      · subst e
        rw [if_neg]
        intro h
        exact hne (zKy_inj hc hi9 hk (by omega))
      · rw [show zcon i0 1 j = 0 from va_up_ne _ _ e, Nat.mul_zero]
        split <;> rfl
  · unfold zmul
    rw [if_neg hk, hA.2 k (by omega)]
/-- powers, one factor after the other -/
def zpow (n o P i0 : Nat) (A : Nat → Nat) : Nat → Nat → Nat
  | 0 => zcon i0 1
  | e + 1 => zmul n o P (zpow n o P i0 A e) A
theorem zpow_pol {n o P i0 : Nat} {A : Nat → Nat} (hP : 2 ≤ P) (hi : i0 < zCt n) : ∀ e, zpol n P (zpow n o P i0 A e)
  | 0 => zcon_pol hi (by omega)
  | e + 1 => zmul_pol (by omega) _ _
theorem zpow_dle {n o P i0 : Nat} {A : Nat → Nat} {d E : Nat} (hc : zCfg n o) (hd0 : zDg n o i0 = 0) (hA : zdle n o A d) (hE : E * d ≤ zHi n) : ∀ e, e ≤ E → zdle n o (zpow n o P i0 A e) (e * d)
  | 0, _ => fun i hi hne => by
    by_cases h : i = i0
    · subst h; omega
    · exact absurd (show zcon i0 1 i = 0 from va_up_ne _ _ h) hne
  | e + 1, he => by
    have h1 : (e + 1) * d ≤ E * d := Nat.mul_le_mul_right d he
    rw [Nat.add_mul, Nat.one_mul] at h1 ⊢
    exact zmul_dle hc (zpow_dle hc hd0 hA hE e (by omega)) hA (by omega)
theorem zpow_add {n o P i0 : Nat} {A : Nat → Nat} {d E : Nat} (hP : 2 ≤ P) (hc : zCfg n o) (hi : i0 < zCt n) (hk0 : zKy n o i0 = 0) (hd0 : zDg n o i0 = 0) (hA : zdle n o A d) (hE : E * d ≤ zHi n) (a : Nat) : ∀ b, a + b ≤ E → zmul n o P (zpow n o P i0 A a) (zpow n o P i0 A b) = zpow n o P i0 A (a + b)
  | 0, _ => zmul_one hc (zpow_pol hP hi a) hi hk0
  | b + 1, h => by
    have h1 : (a + b) * d ≤ E * d := Nat.mul_le_mul_right d (by omega)
    have h2 : (b + 1) * d ≤ E * d := Nat.mul_le_mul_right d (by omega)
    rw [Nat.add_mul] at h1
    rw [Nat.add_mul, Nat.one_mul] at h2
    have ha := zpow_dle (P := P) hc hd0 hA hE a (by omega)
    have hb := zpow_dle (P := P) hc hd0 hA hE b (by omega)
    show zmul n o P (zpow n o P i0 A a) (zmul n o P (zpow n o P i0 A b) A) = zmul n o P (zpow n o P i0 A (a + b)) A
    rw [← zassoc hc (fun i j hi9 hj9 h3 h4 => by have := ha i hi9 h3; have := hb j hj9 h4; omega) (fun i j hi9 hj9 h3 h4 => by have := hb i hi9 h3; have := hA j hj9 h4; omega), zpow_add hP hc hi hk0 hd0 hA hE a b (by omega)]
