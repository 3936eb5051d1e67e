/-! sums, and the product of two rows, place by place -/
def zs (f : Nat → Nat) : Nat → Nat
  | 0 => 0
  | n + 1 => zs f n + f n
theorem zs_zero {f : Nat → Nat} : ∀ n, (∀ i, i < n → f i = 0) → zs f n = 0
  | 0, _ => rfl
  | n + 1, h => by
    rw [zs, zs_zero n (fun i hi => h i (by omega)), h n (by omega)]
theorem zs_congr {f g : Nat → Nat} : ∀ n, (∀ i, i < n → f i = g i) → zs f n = zs g n
  | 0, _ => rfl
  | n + 1, h => by
    rw [zs, zs, zs_congr n (fun i hi => h i (by omega)), h n (by omega)]
/-- what the pairs (i, j), j up to a bound, bring to the place k -/
def zpp (n o : Nat) (A B : Nat → Nat) (i k : Nat) : Nat → Nat := zs (fun j => if zKy n o i + zKy n o j = zKy n o k then A i * B j else 0)
def zpi (n o : Nat) (A B : Nat → Nat) (k : Nat) : Nat → Nat := zs (fun i => zpp n o A B i k (zCt n))
/-- the product -/
def zmul (n o P : Nat) (A B : Nat → Nat) : Nat → Nat := fun k => if k < zCt n then zpi n o A B k (zCt n) % P else 0
def zS0 (n o P : Nat) (A B : Nat → Nat) (i : Nat) : Nat → Nat := fun k => if k < zCt n then zpi n o A B k i % P else 0
def zS1 (n o P : Nat) (A B : Nat → Nat) (i j : Nat) : Nat → Nat := fun k => if k < zCt n then (zpi n o A B k i + zpp n o A B i k j) % P else 0
theorem zmul_lt' {n o P : Nat} (hP : 0 < P) (A B : Nat → Nat) (k : Nat) : zmul n o P A B k < P := by
  unfold zmul
  split
  · exact Nat.mod_lt _ hP
  · exact hP
theorem zS1_lt {n o P : Nat} (hP : 0 < P) (A B : Nat → Nat) (i j k : Nat) : zS1 n o P A B i j k < P := by
  unfold zS1
  split
  · exact Nat.mod_lt _ hP
  · exact hP
theorem zS1_end (n o P : Nat) (A B : Nat → Nat) (i : Nat) : zS1 n o P A B i (zCt n) = zS0 n o P A B (i + 1) := rfl
theorem zpp_z {n o : Nat} {A B : Nat → Nat} {i k : Nat} (h : A i = 0) (j : Nat) : zpp n o A B i k j = 0 := zs_zero j (fun j' _ => by rw [h, Nat.zero_mul]; split <;> rfl)
theorem zpp_b {n o : Nat} {A B : Nat → Nat} {i k j : Nat} (h : ∀ j', j' < j → B j' = 0) : zpp n o A B i k j = 0 := zs_zero j (fun j' hj => by rw [h j' hj, Nat.mul_zero]; split <;> rfl)
theorem zS1_skip {n o P : Nat} {A B : Nat → Nat} {i : Nat} (h : A i = 0) : zS0 n o P A B i = zS0 n o P A B (i + 1) := by
  funext k
  unfold zS0
  rw [show zpi n o A B k (i + 1) = zpi n o A B k i + zpp n o A B i k (zCt n) from rfl, zpp_z h, Nat.add_zero]
theorem zS1_first {n o P : Nat} {A B : Nat → Nat} {i j : Nat} (h : ∀ j', j' < j → B j' = 0) : zS1 n o P A B i j = zS0 n o P A B i := by
  funext k
  unfold zS0 zS1
  rw [zpp_b h, Nat.add_zero]
theorem zS0_first {n o P : Nat} {A B : Nat → Nat} {i : Nat} (h : ∀ i', i' < i → A i' = 0) : zS0 n o P A B i = fun _ => 0 := by
  funext k
  unfold zS0
  rw [show zpi n o A B k i = 0 from zs_zero i (fun i' hi => zpp_z (h i' hi) _), Nat.zero_mod]
  split <;> rfl
theorem zS1_nob {n o P : Nat} {A B : Nat → Nat} {i j : Nat} (h : B j = 0) : zS1 n o P A B i (j + 1) = zS1 n o P A B i j := by
  funext k
  unfold zS1
  rw [show zpp n o A B i k (j + 1) = zpp n o A B i k j + (if zKy n o i + zKy n o j = zKy n o k then A i * B j else 0) from rfl, h, Nat.mul_zero]
  split <;> simp
theorem zS1_step {n o P : Nat} {A B : Nat → Nat} {i j q : Nat} (hc : zCfg n o) (hq : q < zCt n) (hk : zKy n o q = zKy n o i + zKy n o j) : va_up (zS1 n o P A B i j) q ((zS1 n o P A B i j q + A i * B j) % P) = zS1 n o P A B i (j + 1) := by
  funext k
  by_cases h : k = q
  · subst h
    rw [va_up_self]
    unfold zS1
    rw [if_pos hq, if_pos hq, show zpp n o A B i k (j + 1) = zpp n o A B i k j + (if zKy n o i + zKy n o j = zKy n o k then A i * B j else 0) from rfl, if_pos hk.symm, Nat.mod_add_mod, Nat.add_assoc]
  · rw [va_up_ne _ _ h]
    unfold zS1
    by_cases hk2 : k < zCt n
    · rw [if_pos hk2, if_pos hk2, show zpp n o A B i k (j + 1) = zpp n o A B i k j + (if zKy n o i + zKy n o j = zKy n o k then A i * B j else 0) from rfl, if_neg (fun e => h (zKy_inj hc hk2 hq (by rw [hk, e]))), Nat.add_zero]
    · rw [if_neg hk2, if_neg hk2]
theorem zfst_zero (g : Nat → Int32) : ∀ (n i j : Nat), i ≤ j → j < zfst g i n → g j = 0
  | 0, i, j, h1, h2 => by
    simp only [zfst] at h2
    omega
  | n + 1, i, j, h1, h2 => by
    simp only [zfst] at h2
    split at h2
    · next h =>
      by_cases e : j = i
      · rw [e]; exact h
      · exact zfst_zero g n (i + 1) j (by omega) h2
    · omega
theorem nI_z {a : Nat} (ha : a < 2 ^ 31) (h : nI a = 0) : a = 0 := by
  by_cases h0 : a = 0
  · exact h0
  · exact absurd h (nI_ne0 (by omega) ha)
theorem zfst_nz {A : Nat → Nat} {P ct : Nat} (hA : ∀ i, A i < P) (hP : P ≤ 32003) : ∀ j, j < zfst (fun i => nI (A i)) 0 ct → A j = 0 := fun j hj => nI_z (by have := hA j; omega) (zfst_zero _ ct 0 j (Nat.zero_le j) hj)
