/-! the monomials as the reference lists them: a place has the exponents as digits -/
def zBs (n : Nat) : Nat := zHi n + 1
def zTo (n : Nat) : Nat := zBs n ^ n
def zdgt (n i v : Nat) : Nat := if v < n then i / zBs n ^ v % zBs n else 0
def zdg0 (n i : Nat) : Nat := zdgt n i 0 + zdgt n i 1 + zdgt n i 2 + zdgt n i 3
/-- from step s on, d steps left -/
def zgtf (n o i j : Nat) : Nat → Nat → Bool
  | 0, _ => false
  | d + 1, s => let k := if o = 0 then n - 1 - s else s
    if zdgt n i k = zdgt n j k then zgtf n o i j d (s + 1) else if o = 0 then decide (zdgt n i k < zdgt n j k) else decide (zdgt n j k < zdgt n i k)
def zgt (n o i j : Nat) : Bool := if zdg0 n i = zdg0 n j then zgtf n o i j n 0 else decide (zdg0 n j < zdg0 n i)
/-- put into the list, its last first -/
def zinsr (g : Nat → Bool) (i : Nat) : List Nat → List Nat
  | [] => [i]
  | x :: r => if g x then x :: zinsr g i r else i :: x :: r
def zrl (n o : Nat) : Nat → List Nat
  | 0 => []
  | i + 1 => if zdg0 n i ≤ zHi n then zinsr (zgt n o i) i (zrl n o i) else zrl n o i
theorem zrl_dec : ∀ n, n < 4 → ∀ o, o < 2 → zrl (n + 1) o (zTo (n + 1)) = ((zTab (n + 1) o).map (zKm (n + 1))).reverse := by decide +kernel
theorem zdgt_dec : ∀ n, n < 4 → ∀ o, o < 2 → (zTab (n + 1) o).all (fun e => (List.range 4).all (fun v => zdgt (n + 1) (zKm (n + 1) e) v == e.getD v 0)) = true := by decide +kernel
theorem zTo_le {n o : Nat} (h : zCfg n o) : zTo n ≤ 1296 := by
  obtain ⟨h1, h2, -⟩ := h
  have h3 : n = 1 ∨ n = 2 ∨ n = 3 ∨ n = 4 := by omega
  rcases h3 with rfl | rfl | rfl | rfl <;> decide
theorem zrl_ok {n o : Nat} (h : zCfg n o) : zrl n o (zTo n) = ((zTab n o).map (zKm n)).reverse := by
  obtain ⟨h1, h2, h3⟩ := h
  have h0 := zrl_dec (n - 1) (by omega) o (by omega)
  rw [show n - 1 + 1 = n by omega] at h0
  exact h0
theorem zdgt_ok {n o i v : Nat} (h : zCfg n o) (hi : i < zCt n) (hv : v < 4) : zdgt n (zKy n o i) v = zEx n o v i := by
  obtain ⟨h1, h2, h3⟩ := id h
  have h0 := zdgt_dec (n - 1) (by omega) o (by omega)
  rw [show n - 1 + 1 = n by omega] at h0
  have h9 := List.all_eq_true.mp (List.all_eq_true.mp h0 _ (zTab_mem h hi)) v (List.mem_range.mpr hv)
  exact eq_of_beq h9
theorem zdg0_ok {n o i : Nat} (h : zCfg n o) (hi : i < zCt n) : zdg0 n (zKy n o i) = zDg n o i := by
  unfold zdg0 zDg
  rw [zdgt_ok h hi (by decide), zdgt_ok h hi (by decide), zdgt_ok h hi (by decide), zdgt_ok h hi (by decide)]
theorem zrl_len {n o : Nat} (h : zCfg n o) : (zrl n o (zTo n)).length = zCt n := by
  rw [zrl_ok h, List.length_reverse, List.length_map]
  exact h.split.1
theorem zrl_get {n o i : Nat} (h : zCfg n o) (hi : i < zCt n) : (zrl n o (zTo n)).getD (zCt n - 1 - i) 0 = zKy n o i := by
  rw [zrl_ok h, List.getD_eq_getElem?_getD, List.getElem?_reverse (by rw [List.length_map, h.split.1]; omega), List.length_map, h.split.1, show zCt n - 1 - (zCt n - 1 - i) = i by omega, zKy_get h hi]
  rfl
/-! putting into a list, place by place -/
def zinm (g : Nat → Bool) : List Nat → Nat
  | [] => 0
  | x :: r => if g x then zinm g r + 1 else 0
theorem zinm_le (g : Nat → Bool) : ∀ R : List Nat, zinm g R ≤ R.length
  | [] => Nat.le_refl _
  | x :: r => by
    have := zinm_le g r
    simp only [zinm, List.length_cons]
    split <;> omega
theorem zinsr_len (g : Nat → Bool) (i : Nat) : ∀ R : List Nat, (zinsr g i R).length = R.length + 1
  | [] => rfl
  | x :: r => by
    have := zinsr_len g i r
    simp only [zinsr]
    split
    · simp only [List.length_cons, this]
    · rfl
theorem zinsr_get (g : Nat → Bool) (i : Nat) : ∀ (R : List Nat) (q : Nat), q ≤ R.length → (zinsr g i R).getD q 0 = if q < zinm g R then R.getD q 0 else if q = zinm g R then i else R.getD (q - 1) 0
  | [], q, h => by
    have hq : q = 0 := by simpa using h
    subst hq
    rfl
  | x :: r, q, h => by
    by_cases hg : g x = true
    · rw [show zinsr g i (x :: r) = x :: zinsr g i r from if_pos hg, show zinm g (x :: r) = zinm g r + 1 from if_pos hg]
      cases q with
      | zero => rfl
      | succ q =>
        have ih := zinsr_get g i r q (by simpa using h)
        rw [List.getD_cons_succ, ih]
        by_cases h1 : q < zinm g r
        · rw [if_pos h1, if_pos (c := q + 1 < zinm g r + 1) (by omega), List.getD_cons_succ]
        · rw [if_neg h1, if_neg (c := q + 1 < zinm g r + 1) (by omega)]
          by_cases h2 : q = zinm g r
          · rw [if_pos h2, if_pos (c := q + 1 = zinm g r + 1) (by omega)]
          · rw [if_neg h2, if_neg (c := q + 1 = zinm g r + 1) (by omega), Nat.add_sub_cancel]
            obtain ⟨q1, rfl⟩ : ∃ q1, q = q1 + 1 := ⟨q - 1, by omega⟩
            rw [List.getD_cons_succ, Nat.add_sub_cancel]
    · rw [show zinsr g i (x :: r) = i :: x :: r from if_neg hg, show zinm g (x :: r) = 0 from if_neg hg]
      cases q with
      | zero => rfl
      | succ q => rw [if_neg (by omega), if_neg (by omega), List.getD_cons_succ, Nat.add_sub_cancel]
theorem zinm_eq {g : Nat → Bool} : ∀ {R : List Nat} {t : Nat}, t ≤ R.length → (∀ q, q < t → g (R.getD q 0) = true) → (t = R.length ∨ g (R.getD t 0) = false) → zinm g R = t
  | [], t, h, _, _ => by
    have ht : t = 0 := by simpa using h
    subst ht
    rfl
  | x :: r, t, h, ha, hb => by
    simp only [zinm]
    cases t with
    | zero =>
      rcases hb with hb | hb
      · simp at hb
      · rw [if_neg (by rw [show g x = false from hb]; decide)]
    | succ t =>
      rw [if_pos (show g x = true from ha 0 (by omega)), zinm_eq (R := r) (t := t) (by simpa using h) (fun q hq => ha (q + 1) (by omega)) (hb.imp (fun h9 => by simpa using h9) id)]
theorem zinsr_lt {g : Nat → Bool} {i m : Nat} (hi : i < m) : ∀ R : List Nat, (∀ x ∈ R, x < m) → ∀ x ∈ zinsr g i R, x < m
  | [], _, x, hx => by
    have : x = i := by simpa [zinsr] using hx
    omega
  | y :: r, h, x, hx => by
    simp only [zinsr] at hx
    split at hx
    · rcases List.mem_cons.mp hx with e | hx
      · rw [e]; exact h y List.mem_cons_self
      · exact zinsr_lt hi r (fun z hz => h z (List.mem_cons_of_mem _ hz)) x hx
    · rcases List.mem_cons.mp hx with e | hx
      · omega
      · exact h x hx
theorem zrl_lt {n o : Nat} : ∀ i, ∀ x ∈ zrl n o i, x < i
  | 0, x, hx => by simp [zrl] at hx
  | i + 1, x, hx => by
    simp only [zrl] at hx
    split at hx
    · exact zinsr_lt (by omega) _ (fun y hy => by have := zrl_lt i y hy; omega) x hx
    · have := zrl_lt i x hx
      omega
theorem zgetD_mem {R : List Nat} {q : Nat} (h : q < R.length) : R.getD q 0 ∈ R := by
  rw [List.getD_eq_getElem?_getD, List.getElem?_eq_getElem h]
  exact List.getElem_mem h
/-- never more than 126 -/
theorem zrl_mono {n o : Nat} : ∀ (d i : Nat), (zrl n o i).length ≤ (zrl n o (i + d)).length
  | 0, i => Nat.le_refl _
  | d + 1, i => by
    have h := zrl_mono (n := n) (o := o) d i
    show _ ≤ (if zdg0 n (i + d) ≤ zHi n then zinsr (zgt n o (i + d)) (i + d) (zrl n o (i + d)) else zrl n o (i + d)).length
    split
    · rw [zinsr_len]
      omega
    · exact h
theorem zrl_126 {n o i : Nat} (h : zCfg n o) (hi : i ≤ zTo n) : (zrl n o i).length ≤ 126 := by
  have h1 := zrl_mono (n := n) (o := o) (zTo n - i) i
  rw [show i + (zTo n - i) = zTo n by omega, zrl_len h] at h1
  have := zCt_le (n := n)
  omega
