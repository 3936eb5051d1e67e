/-! reading: what a text is, from left to right -/
/-- a fault and its place, or a polynomial and where reading goes on -/
abbrev zRs : Type := (Nat × Nat) ⊕ ((Nat → Nat) × Nat)
def zskf (T : Nat → Nat) (len : Nat) : Nat → Nat → Nat
  | 0, p => p
  | f + 1, p => if p < len ∧ T p = 32 then zskf T len f (p + 1) else p
/-- behind spaces -/
def zsp (T : Nat → Nat) (len p : Nat) : Nat := zskf T len (len - p) p
/-- the byte at a place, -1 at the end -/
def zch (T : Nat → Nat) (len p : Nat) : Int32 := if p < len then nI (T p) else -1
def zisd (x : Int32) : Bool := decide (48 ≤ x) && decide (x ≤ 57)
def zdef (T : Nat → Nat) (len : Nat) : Nat → Nat → Nat
  | 0, p => p
  | f + 1, p => if p < len ∧ zisd (nI (T p)) = true then zdef T len f (p + 1) else p
/-- behind digits -/
def zde (T : Nat → Nat) (len p : Nat) : Nat := zdef T len (len - p) p
/-- the number of k digits -/
def zval (T : Nat → Nat) (p : Nat) : Nat → Nat
  | 0 => 0
  | k + 1 => zval T p k * 10 + (T (p + k) - 48)
/-- a number of at most m digits, at a digit -/
def zNum (T : Nat → Nat) (len m q : Nat) : (Nat × Nat) ⊕ (Nat × Nat) := if m < zde T len q - q then .inl (4, q) else .inr (zval T q (zde T len q - q), zde T len q)
/-- the place of a key -/
noncomputable def zIdx (n o k : Nat) : Nat := Classical.epsilon (fun i => i < zCt n ∧ zKy n o i = k)
theorem zIdx_ok {n o k : Nat} (h : ∃ i, i < zCt n ∧ zKy n o i = k) : zIdx n o k < zCt n ∧ zKy n o (zIdx n o k) = k := Classical.epsilon_spec h
/-- which variable a byte names: 4 for none -/
def zvar (x : Int32) : Nat := if x = 120 then 0 else if x = 121 then 1 else if x = 122 then 2 else if x = 119 then 3 else 4
section ZPS
variable (n o P : Nat) (T : Nat → Nat) (len : Nat)
noncomputable def zBare (grp : Nat → zRs) (p : Nat) : zRs :=
  let q := zsp T len p
  if zisd (zch T len q) = true then
    match zNum T len 9 q with
    | .inl x => .inl x
    | .inr (v, e) => .inr (zcon (zIdx n o 0) (v % P), e)
  else if zvar (zch T len q) < n then .inr (zcon (zIdx n o (zWt n (zvar (zch T len q)))) 1, q + 1)
  else if zch T len q = 40 then grp q
  else .inl (1, q)
noncomputable def zFac (grp : Nat → zRs) (p : Nat) : zRs :=
  match zBare n o P T len grp p with
  | .inl x => .inl x
  | .inr (A, e) =>
    let q := zsp T len e
    if zch T len q = 94 then
      let r := zsp T len (q + 1)
      if zisd (zch T len r) = true then
        match zNum T len 2 r with
        | .inl x => .inl x
        | .inr (v, e2) => if zhighp n o (fun i => nI (A i)) v = true then .inl (3, q) else .inr (zpow n o P (zIdx n o 0) A v, e2)
      else .inl (1, r)
    else .inr (A, q)
noncomputable def zTL (grp : Nat → zRs) : Nat → (Nat → Nat) → Nat → zRs
  | 0, A, e => .inr (A, e)
  | f + 1, A, e =>
    let q := zsp T len e
    if zch T len q = 42 then
      match zFac n o P T len grp (q + 1) with
      | .inl x => .inl x
      | .inr (B, e2) => if zhigh2 n o (fun i => nI (A i)) (fun i => nI (B i)) = true then .inl (3, q) else zTL grp f (zmul n o P A B) e2
    else .inr (A, q)
noncomputable def zTerm (grp : Nat → zRs) (p : Nat) : zRs :=
  match zFac n o P T len grp p with
  | .inl x => .inl x
  | .inr (A, e) => zTL n o P T len grp 199 A e
/-- a + s b -/
def zadd (s : Nat) (A B : Nat → Nat) : Nat → Nat := fun i => if i < zCt n then (A i + s * B i) % P else 0
/-- what a sign stands for -/
def zsg (c : Int32) : Nat := if c = 45 then P - 1 else 1
noncomputable def zSL (grp : Nat → zRs) : Nat → (Nat → Nat) → Nat → zRs
  | 0, S, e => .inr (S, e)
  | f + 1, S, e =>
    let q := zsp T len e
    if zch T len q = 43 ∨ zch T len q = 45 then
      match zTerm n o P T len grp (q + 1) with
      | .inl x => .inl x
      | .inr (A, e2) => zSL grp f (zadd n P (zsg P (zch T len q)) S A) e2
    else .inr (S, q)
noncomputable def zSum (grp : Nat → zRs) (p : Nat) : zRs :=
  let q := zsp T len p
  match zTerm n o P T len grp (if zch T len q = 45 then q + 1 else q) with
  | .inl x => .inl x
  | .inr (A, e) => zSL n o P T len grp 199 (zadd n P (zsg P (zch T len q)) (fun _ => 0) A) e
/-- a sum in ( ), the ( at q, k of them may still be opened behind this one's -/
noncomputable def zGrp : Nat → Nat → zRs
  | 0, q => .inl (2, q)
  | k + 1, q =>
    match zSum n o P T len (zGrp k) (q + 1) with
    | .inl x => .inl x
    | .inr (A, e) => if zch T len (zsp T len e) = 41 then .inr (A, zsp T len e + 1) else .inl (1, zsp T len e)
noncomputable def zText : zRs :=
  match zSum n o P T len (zGrp n o P T len 20) 0 with
  | .inl x => .inl x
  | .inr (A, e) => if zch T len (zsp T len e) = -1 then .inr (A, zsp T len e) else .inl (1, zsp T len e)
end ZPS
/-! where reading goes on lies behind where it began, and in the text -/
theorem zskf_in (T : Nat → Nat) (len : Nat) : ∀ (f p : Nat), p + f ≤ len → p ≤ zskf T len f p ∧ zskf T len f p ≤ len
  | 0, p, h => ⟨Nat.le_refl _, h⟩
  | f + 1, p, h => by
    simp only [zskf]
    split
    · have := zskf_in T len f (p + 1) (by omega)
      omega
    · omega
theorem zsp_in {T : Nat → Nat} {len p : Nat} (h : p ≤ len) : p ≤ zsp T len p ∧ zsp T len p ≤ len := zskf_in T len (len - p) p (by omega)
theorem zskf_end (T : Nat → Nat) (len : Nat) : ∀ (f p : Nat), p + f = len → ¬ (zskf T len f p < len ∧ T (zskf T len f p) = 32)
  | 0, p, h => by
    simp only [zskf]
    omega
  | f + 1, p, h => by
    simp only [zskf]
    split
    · exact zskf_end T len f (p + 1) (by omega)
    · next h9 => exact h9
theorem zsp_end {T : Nat → Nat} {len p : Nat} (h : p ≤ len) : ¬ (zsp T len p < len ∧ T (zsp T len p) = 32) := zskf_end T len (len - p) p (by omega)
theorem zskf_fix {T : Nat → Nat} {len p : Nat} (h : ¬ (p < len ∧ T p = 32)) : ∀ f, zskf T len f p = p
  | 0 => rfl
  | f + 1 => by
    simp only [zskf]
    rw [if_neg h]
theorem zsp_idem {T : Nat → Nat} {len p : Nat} (h : p ≤ len) : zsp T len (zsp T len p) = zsp T len p := zskf_fix (zsp_end h) _
theorem zsp_fix {T : Nat → Nat} {len p : Nat} (h : ¬ (p < len ∧ T p = 32)) : zsp T len p = p := zskf_fix h _
theorem zsp_step {T : Nat → Nat} {len p : Nat} (h : p < len) (h2 : T p = 32) : zsp T len p = zsp T len (p + 1) := by
  unfold zsp
  rw [show len - p = (len - (p + 1)) + 1 by omega, zskf, if_pos ⟨h, h2⟩]
theorem zdef_in (T : Nat → Nat) (len : Nat) : ∀ (f p : Nat), p + f ≤ len → p ≤ zdef T len f p ∧ zdef T len f p ≤ len
  | 0, p, h => ⟨Nat.le_refl _, h⟩
  | f + 1, p, h => by
    simp only [zdef]
    split
    · have := zdef_in T len f (p + 1) (by omega)
      omega
    · omega
theorem zde_in {T : Nat → Nat} {len p : Nat} (h : p ≤ len) : p ≤ zde T len p ∧ zde T len p ≤ len := zdef_in T len (len - p) p (by omega)
theorem zde_step {T : Nat → Nat} {len p : Nat} (h : p < len) (h2 : zisd (nI (T p)) = true) : zde T len p = zde T len (p + 1) := by
  unfold zde
  rw [show len - p = (len - (p + 1)) + 1 by omega, zdef, if_pos ⟨h, h2⟩]
theorem zde_fix {T : Nat → Nat} {len p : Nat} (h : ¬ (p < len ∧ zisd (nI (T p)) = true)) : zde T len p = p := by
  unfold zde
  cases h9 : len - p with
  | zero => rfl
  | succ f =>
    simp only [zdef]
    rw [if_neg h]
theorem zdef_all (T : Nat → Nat) (len : Nat) : ∀ (f p j : Nat), p ≤ j → j < zdef T len f p → j < len ∧ zisd (nI (T j)) = true
  | 0, p, j, h1, h2 => by
    simp only [zdef] at h2
    omega
  | f + 1, p, j, h1, h2 => by
    simp only [zdef] at h2
    split at h2
    · next h =>
      by_cases e : j = p
      · rw [e]; exact h
      · exact zdef_all T len f (p + 1) j (by omega) h2
    · omega
theorem zisd_iff {a : Nat} (h : a < 2 ^ 31) : zisd (nI a) = true ↔ 48 ≤ a ∧ a ≤ 57 := by
  unfold zisd
  rw [Bool.and_eq_true, decide_eq_true_eq, decide_eq_true_eq]
  exact ⟨fun ⟨x, y⟩ => ⟨(nI_leI (by decide) h).mp (show nI 48 ≤ nI a from x), (nI_leI h (by decide)).mp (show nI a ≤ nI 57 from y)⟩, fun ⟨x, y⟩ => ⟨show nI 48 ≤ nI a from nI_le x h, show nI a ≤ nI 57 from nI_le y (by decide)⟩⟩
theorem zch_d {T : Nat → Nat} {len q : Nat} (h : zisd (zch T len q) = true) : q < len ∧ zch T len q = nI (T q) := by
  unfold zch at h ⊢
  by_cases hq : q < len
  · exact ⟨hq, if_pos hq⟩
  · rw [if_neg hq] at h
    exact absurd h (by decide)
theorem zch_c {T : Nat → Nat} {len q : Nat} {x : Int32} (h : zch T len q = x) (hx : x ≠ -1) : q < len ∧ zch T len q = nI (T q) := by
  unfold zch at h ⊢
  by_cases hq : q < len
  · exact ⟨hq, if_pos hq⟩
  · rw [if_neg hq] at h
    exact absurd h.symm hx
theorem zval_lt {T : Nat → Nat} {p : Nat} : ∀ k, (∀ j, j < k → T (p + j) ≤ 57) → zval T p k < 10 ^ k
  | 0, _ => Nat.zero_lt_one
  | k + 1, h => by
    have h1 := zval_lt k (fun j hj => h j (by omega))
    have h2 := h k (by omega)
    simp only [zval]
    rw [Nat.pow_succ]
    omega
