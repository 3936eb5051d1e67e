/-! what the tables say -/
def zCfg (n o : Nat) : Prop := 1 ≤ n ∧ n ≤ 4 ∧ o ≤ 1
theorem zCfg.chk {n o : Nat} (h : zCfg n o) : zChk n o = true := by
  obtain ⟨h1, h2, h3⟩ := h
  have := zChk_ok (n - 1) (by omega) o (by omega)
  rwa [show n - 1 + 1 = n by omega] at this
theorem zCfg.all {n o : Nat} (h : zCfg n o) : zAll n o = true := by
  obtain ⟨h1, h2, h3⟩ := h
  have := zAll_ok (n - 1) (by omega) o (by omega)
  rwa [show n - 1 + 1 = n by omega] at this
theorem zCfg.nd {n o : Nat} (h : zCfg n o) : zNd ((zTab n o).map (zKm n)) = true := by
  obtain ⟨h1, h2, h3⟩ := h
  have := zNd_ok (n - 1) (by omega) o (by omega)
  rwa [show n - 1 + 1 = n by omega] at this
theorem zCt_le {n : Nat} : zCt n ≤ 126 := by
  unfold zCt
  split
  · omega
  · split
    · omega
    · split <;> omega
theorem zCt_pos {n : Nat} : 31 ≤ zCt n := by
  unfold zCt
  split
  · omega
  · split
    · omega
    · split <;> omega
theorem zHi_le {n : Nat} : 5 ≤ zHi n ∧ zHi n ≤ 30 := by
  unfold zHi
  split
  · omega
  · split
    · omega
    · split <;> omega
theorem zCfg.split {n o : Nat} (h : zCfg n o) : (zTab n o).length = zCt n ∧ (∀ e ∈ zTab n o, e.length = 4 ∧ ∀ v, v < 4 → n ≤ v → e.getD v 0 = 0) ∧ (∀ e ∈ zTab n o, zKm n e < 1296) ∧ (∀ e ∈ zTab n o, e.getD 0 0 + e.getD 1 0 + e.getD 2 0 + e.getD 3 0 ≤ zHi n) ∧ ∀ i, i + 1 < zCt n → zDg n o (i + 1) ≤ zDg n o i := by
  have hc := h.chk
  unfold zChk at hc
  simp only [Bool.and_eq_true, List.all_eq_true, beq_iff_eq, decide_eq_true_eq, List.mem_map, forall_exists_index, and_imp, forall_apply_eq_imp_iff₂, List.mem_range, Bool.or_eq_true] at hc
  obtain ⟨⟨⟨⟨h1, h2⟩, h3⟩, h4⟩, h5⟩ := hc
  refine ⟨h1, fun e he => ⟨(h2 e he).1, fun v hv hn => ?_⟩, h3, h4, fun i hi => ?_⟩
  · rcases (h2 e he).2 v hv with h9 | h9
    · omega
    · exact h9
  · have h6 := h5 i (by omega)
    have key : ∀ j, j < zCt n → ((zTab n o).map (fun e : List Nat => e.getD 0 0 + e.getD 1 0 + e.getD 2 0 + e.getD 3 0)).getD j 0 = zDg n o j := by
      intro j hj
      unfold zDg zEx
      simp only [List.getD_eq_getElem?_getD, List.getElem?_map]
      rw [List.getElem?_eq_getElem (by omega)]
      rfl
    rw [key _ (by omega), key _ (by omega)] at h6
    exact h6
theorem zTab_mem {n o i : Nat} (h : zCfg n o) (hi : i < zCt n) : (zTab n o).getD i [] ∈ zTab n o := by
  have h1 := h.split.1
  rw [List.getD_eq_getElem?_getD, List.getElem?_eq_getElem (by omega)]
  exact List.getElem_mem _
theorem zKy_lt {n o i : Nat} (h : zCfg n o) (hi : i < zCt n) : zKy n o i < 1296 := h.split.2.2.1 _ (zTab_mem h hi)
theorem zDg_le {n o i : Nat} (h : zCfg n o) (hi : i < zCt n) : zDg n o i ≤ zHi n := h.split.2.2.2.1 _ (zTab_mem h hi)
theorem zEx_out {n o i v : Nat} (h : zCfg n o) (hi : i < zCt n) (hv : v < 4) (hn : n ≤ v) : zEx n o v i = 0 := (h.split.2.1 _ (zTab_mem h hi)).2 v hv hn
theorem zDg_anti {n o : Nat} (h : zCfg n o) : ∀ (k i : Nat), i + k < zCt n → zDg n o (i + k) ≤ zDg n o i
  | 0, _, _ => Nat.le_refl _
  | k + 1, i, hi => Nat.le_trans (h.split.2.2.2.2 (i + k) (by omega)) (zDg_anti h k i (by omega))
theorem zNd_inj : ∀ (l : List Nat), zNd l = true → ∀ (i j a : Nat), l[i]? = some a → l[j]? = some a → i = j
  | [], _, i, j, a, hi, _ => by simp at hi
  | k :: l, h, i, j, a, hi, hj => by
    simp only [zNd, Bool.and_eq_true, Bool.not_eq_true'] at h
    cases i with
    | zero =>
      cases j with
      | zero => rfl
      | succ j =>
        simp only [List.getElem?_cons_zero, Option.some.injEq, List.getElem?_cons_succ] at hi hj
        have hm : a ∈ l := List.mem_of_getElem? hj
        rw [← hi] at hm
        have := List.contains_iff_mem.mpr hm
        rw [h.1] at this
        cases this
    | succ i =>
      cases j with
      | zero =>
        simp only [List.getElem?_cons_zero, Option.some.injEq, List.getElem?_cons_succ] at hi hj
        have hm : a ∈ l := List.mem_of_getElem? hi
        rw [← hj] at hm
        have := List.contains_iff_mem.mpr hm
        rw [h.1] at this
        cases this
      | succ j =>
        simp only [List.getElem?_cons_succ] at hi hj
        exact congrArg (· + 1) (zNd_inj l h.2 i j a hi hj)
theorem zKy_get {n o i : Nat} (h : zCfg n o) (hi : i < zCt n) : ((zTab n o).map (zKm n))[i]? = some (zKy n o i) := by
  have h1 := h.split.1
  rw [List.getElem?_map]
  unfold zKy
  rw [List.getD_eq_getElem?_getD, List.getElem?_eq_getElem (by omega)]
  rfl
theorem zKy_inj {n o i j : Nat} (h : zCfg n o) (hi : i < zCt n) (hj : j < zCt n) (e : zKy n o i = zKy n o j) : i = j :=
  zNd_inj _ h.nd i j (zKy n o i) (zKy_get h hi) (by rw [e]; exact zKy_get h hj)
/-- four exponents that may be are listed -/
theorem zMem {n o a b c d : Nat} (h : zCfg n o) (hs : a + b + c + d ≤ zHi n) (hb : n ≤ 1 → b = 0) (hc : n ≤ 2 → c = 0) (hd : n ≤ 3 → d = 0) : ∃ i, i < zCt n ∧ zEx n o 0 i = a ∧ zEx n o 1 i = b ∧ zEx n o 2 i = c ∧ zEx n o 3 i = d := by
  have ha := h.all
  unfold zAll at ha
  simp only [List.all_eq_true, List.mem_range] at ha
  have h1 := ha a (by omega) b (by split <;> omega) c (by split <;> omega) d (by split <;> omega)
  have hm := List.contains_iff_mem.mp h1
  obtain ⟨i, hi⟩ := List.getElem?_of_mem hm
  have hl := (List.getElem?_eq_some_iff.mp hi).1
  have h2 := h.split.1
  refine ⟨i, by omega, ?_⟩
  have hg : (zTab n o).getD i [] = [a, b, c, d] := by
    rw [List.getD_eq_getElem?_getD, hi]
    rfl
  unfold zEx
  rw [hg]
  exact ⟨rfl, rfl, rfl, rfl⟩
theorem zKy_eq (n o i : Nat) : zKy n o i = zEx n o 0 i * zWt n 0 + zEx n o 1 i * zWt n 1 + zEx n o 2 i * zWt n 2 + zEx n o 3 i * zWt n 3 := rfl
/-- the product of two monomials, if its degree may be -/
theorem zAdd {n o i j : Nat} (h : zCfg n o) (hi : i < zCt n) (hj : j < zCt n) (hd : zDg n o i + zDg n o j ≤ zHi n) : ∃ k, k < zCt n ∧ zKy n o k = zKy n o i + zKy n o j ∧ zDg n o k = zDg n o i + zDg n o j := by
  have h0 : ∀ v, v < 4 → n ≤ v → zEx n o v i + zEx n o v j = 0 := fun v hv hn => by rw [zEx_out h hi hv hn, zEx_out h hj hv hn]
  obtain ⟨k, hk, e0, e1, e2, e3⟩ := zMem (n := n) (o := o) (a := zEx n o 0 i + zEx n o 0 j) (b := zEx n o 1 i + zEx n o 1 j) (c := zEx n o 2 i + zEx n o 2 j) (d := zEx n o 3 i + zEx n o 3 j) h (by unfold zDg at hd; omega) (h0 1 (by omega)) (h0 2 (by omega)) (h0 3 (by omega))
  refine ⟨k, hk, ?_, ?_⟩
  · rw [zKy_eq, zKy_eq, zKy_eq, e0, e1, e2, e3, Nat.add_mul, Nat.add_mul, Nat.add_mul, Nat.add_mul]
    omega
  · unfold zDg
    omega
/-- a monomial with a lower exponent of one variable -/
theorem zSub {n o i v q : Nat} (h : zCfg n o) (hi : i < zCt n) (hv : v < 4) (hq : q ≤ zEx n o v i) : ∃ k, k < zCt n ∧ zKy n o k + q * zWt n v = zKy n o i ∧ (∀ u, u < 4 → zEx n o u k = if u = v then zEx n o u i - q else zEx n o u i) := by
  have hD := zDg_le h hi
  have h0 : ∀ u, u < 4 → n ≤ u → (if u = v then zEx n o u i - q else zEx n o u i) = 0 := fun u hu hn => by
    have := zEx_out h hi hu hn
    split <;> omega
  have hv4 : v = 0 ∨ v = 1 ∨ v = 2 ∨ v = 3 := by omega
  unfold zDg at hD
  obtain ⟨k, hk, e0, e1, e2, e3⟩ := zMem (n := n) (o := o) (a := if 0 = v then zEx n o 0 i - q else zEx n o 0 i) (b := if 1 = v then zEx n o 1 i - q else zEx n o 1 i) (c := if 2 = v then zEx n o 2 i - q else zEx n o 2 i) (d := if 3 = v then zEx n o 3 i - q else zEx n o 3 i) h (by (repeat' split) <;> omega) (fun hn => h0 1 (by omega) hn) (fun hn => h0 2 (by omega) hn) (fun hn => h0 3 (by omega) hn)
  refine ⟨k, hk, ?_, fun u hu => ?_⟩
  · rw [zKy_eq, zKy_eq, e0, e1, e2, e3]
    have hs : ∀ x w9 : Nat, q ≤ x → (x - q) * w9 + q * w9 = x * w9 := fun x w9 hx => by rw [← Nat.add_mul]; congr 1; omega
    rcases hv4 with rfl | rfl | rfl | rfl
    · simp only [if_true, reduceIte, Nat.reduceEqDiff]
      have := hs _ (zWt n 0) hq
      omega
    · simp only [if_true, reduceIte, Nat.reduceEqDiff]
      have := hs _ (zWt n 1) hq
      omega
    · simp only [if_true, reduceIte, Nat.reduceEqDiff]
      have := hs _ (zWt n 2) hq
      omega
    · simp only [if_true, reduceIte, Nat.reduceEqDiff]
      have := hs _ (zWt n 3) hq
      omega
  · have hu4 : u = 0 ∨ u = 1 ∨ u = 2 ∨ u = 3 := by omega
    rcases hu4 with rfl | rfl | rfl | rfl
    · exact e0
    · exact e1
    · exact e2
    · exact e3
theorem zConst {n o : Nat} (h : zCfg n o) : ∃ k, k < zCt n ∧ zKy n o k = 0 ∧ zDg n o k = 0 := by
  obtain ⟨k, hk, e0, e1, e2, e3⟩ := zMem (n := n) (o := o) (a := 0) (b := 0) (c := 0) (d := 0) h (by have := zHi_le (n := n); omega) (fun _ => rfl) (fun _ => rfl) (fun _ => rfl)
  refine ⟨k, hk, ?_, ?_⟩
  · rw [zKy_eq, e0, e1, e2, e3]
    omega
  · unfold zDg
    omega
theorem zVar {n o v : Nat} (h : zCfg n o) (hv : v < n) : ∃ k, k < zCt n ∧ zKy n o k = zWt n v ∧ zDg n o k = 1 := by
  have h4 := h.2.1
  have hv4 : v = 0 ∨ v = 1 ∨ v = 2 ∨ v = 3 := by omega
  obtain ⟨k, hk, e0, e1, e2, e3⟩ := zMem (n := n) (o := o) (a := if v = 0 then 1 else 0) (b := if v = 1 then 1 else 0) (c := if v = 2 then 1 else 0) (d := if v = 3 then 1 else 0) h (by have := zHi_le (n := n); (repeat' split) <;> omega) (fun hn => if_neg (by omega)) (fun hn => if_neg (by omega)) (fun hn => if_neg (by omega))
  refine ⟨k, hk, ?_, ?_⟩
  · rw [zKy_eq, e0, e1, e2, e3]
    rcases hv4 with rfl | rfl | rfl | rfl <;> simp
  · unfold zDg
    rw [e0, e1, e2, e3]
    rcases hv4 with rfl | rfl | rfl | rfl <;> rfl
