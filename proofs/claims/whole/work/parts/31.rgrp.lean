/-! reading, method by method: what each leaves -/
/-- what a reading of rows from a (sums) and b (products) on leaves alone -/
def zrf (a b : Nat) (w w' : Nat → Option va_E) : Prop := ∀ k, (k < 28 ∧ k ≠ 2) ∨ (28 ≤ k ∧ k < 28 + a) ∨ (49 ≤ k ∧ k < 49 + b) ∨ 73 ≤ k → w' k = w k
theorem zrf.refl (a b : Nat) (w : Nat → Option va_E) : zrf a b w w := fun _ _ => rfl
theorem zrf.trans {a b : Nat} {w w1 w2 : Nat → Option va_E} (h1 : zrf a b w w1) (h2 : zrf a b w1 w2) : zrf a b w w2 := fun k hk => (h2 k hk).trans (h1 k hk)
theorem zrf.mono {a b a' b' : Nat} {w w' : Nat → Option va_E} (h : zrf a b w w') (ha : a' ≤ a) (hb : b' ≤ b) : zrf a' b' w w' := fun k hk => h k (by omega)
theorem zrf.obj {a b : Nat} {w : Nat → Option va_E} {x : Option va_E} (ha : a ≤ 21) (hb : b ≤ 21) : zrf a b w (va_up w 2 x) := fun k hk => va_up_ne _ _ (by omega)
theorem zrf.row {a b t : Nat} {w : Nat → Option va_E} {x : Option va_E} (ha : a ≤ 21) (hb : b ≤ 21) (ht : (28 + a ≤ t ∧ t < 49) ∨ (49 + b ≤ t ∧ t ≤ 72)) : zrf a b w (va_up w t x) := fun k hk => va_up_ne _ _ (by omega)
/-- the outcome r of a reading: its fault is noted, or its polynomial lies in the row t and reading goes on where it says -/
def zOut (G : zG) (ad : Nat → Nat) (w : Nat → Option va_E) (P n o : Nat) (FR FE : Nat → Int32) (T : Nat → Nat) (len t a b : Nat) (r : zRs) (w' : Nat → Option va_E) : Prop :=
  ∃ FE' : Nat → Int32, zRdr G ad w' P n o FR FE' T len ∧ zrf a b w w' ∧ (match r with
    | .inl (f, pl) => FE' 4 = nI f ∧ FE' 5 = nI pl ∧ 1 ≤ f ∧ f ≤ 4
    | .inr (A, e) => FE' 3 = nI e ∧ FE' 4 = 0 ∧ FE' 5 = FE 5 ∧ w' t = some (zrow G A))
section ZPE
variable {n o P : Nat} {T : Nat → Nat} {len : Nat} {grp : Nat → zRs} {p q : Nat}
theorem zBare_1 (hq : q = zsp T len p) (hd : zisd (zch T len q) = true) : zBare n o P T len grp p = (match zNum T len 9 q with
    | .inl x => .inl x
    | .inr (v, e) => .inr (zcon (zIdx n o 0) (v % P), e)) := by
  subst hq
  exact if_pos hd
theorem zBare_2 (hq : q = zsp T len p) (hd : ¬ zisd (zch T len q) = true) (hv : zvar (zch T len q) < n) : zBare n o P T len grp p = .inr (zcon (zIdx n o (zWt n (zvar (zch T len q)))) 1, q + 1) := by
  subst hq
  exact (if_neg hd).trans (if_pos hv)
theorem zBare_3 (hq : q = zsp T len p) (hd : ¬ zisd (zch T len q) = true) (hv : ¬ zvar (zch T len q) < n) (h : zch T len q = 40) : zBare n o P T len grp p = grp q := by
  subst hq
  exact (if_neg hd).trans ((if_neg hv).trans (if_pos h))
theorem zBare_4 (hq : q = zsp T len p) (hd : ¬ zisd (zch T len q) = true) (hv : ¬ zvar (zch T len q) < n) (h : ¬ zch T len q = 40) : zBare n o P T len grp p = .inl (1, q) := by
  subst hq
  exact (if_neg hd).trans ((if_neg hv).trans (if_neg h))
theorem zNm_d (h : ¬ (q < len ∧ T q = 32)) {m : Nat} (hd : zisd (zch T len q) = true) : zNm T len m q = zNum T len m q := by
  unfold zNm
  rw [zsp_fix h, if_pos hd]
theorem zNum_lt {m v e : Nat} (hm : m ≤ 9) (hq : q < len) (hTb : ∀ i, T i < 256) (hd : zisd (zch T len q) = true) (h : zNum T len m q = .inr (v, e)) : v < 10 ^ m := by
  obtain ⟨h1, h2, h3, h4, h5⟩ := zNum_ok hq hd h
  rw [h5]
  have h6 : ∀ j, j < e - q → T (q + j) ≤ 57 := fun j hj => by
    have := (zdef_all T len (len - q) q (q + j) (by omega) (by have : zdef T len (len - q) q = e := h4.symm; omega)).2
    exact ((zisd_iff (by have := hTb (q + j); omega)).mp this).2
  exact Nat.lt_of_lt_of_le (zval_lt _ h6) (Nat.pow_le_pow_right (by decide) h3)
end ZPE
theorem zOut.pre {G : zG} {ad : Nat → Nat} {w w1 w' : Nat → Option va_E} {P n o : Nat} {FR FE FE1 : Nat → Int32} {T : Nat → Nat} {len t a b a' b' : Nat} {r : zRs} (h : zOut G ad w1 P n o FR FE1 T len t a' b' r w') (hz : zrf a b w w1) (ha : a ≤ a') (hb : b ≤ b') (h5 : FE1 5 = FE 5) : zOut G ad w P n o FR FE T len t a b r w' := by
  obtain ⟨FE', h1, h2, h3⟩ := h
  refine ⟨FE', h1, hz.trans (h2.mono ha hb), ?_⟩
  rw [← h5]
  exact h3
theorem zFac_nm {n o P : Nat} {T : Nat → Nat} {len : Nat} {grp : Nat → zRs} {p : Nat} : zFac n o P T len grp p = (match zBare n o P T len grp p with
    | .inl x => .inl x
    | .inr (A, e) => if zch T len (zsp T len e) = 94 then (match zNm T len 2 (zsp T len e + 1) with
        | .inl x => .inl x
        | .inr (v, e2) => if zhighp n o (fun i => nI (A i)) v = true then .inl (3, zsp T len e) else .inr (zpow n o P (zIdx n o 0) A v, e2)) else .inr (A, zsp T len e)) := by
  unfold zFac zNm
  generalize zBare n o P T len grp p = r
  obtain x | ⟨A, e⟩ := r
  · rfl
  · show (if zch T len (zsp T len e) = 94 then _ else _) = (if zch T len (zsp T len e) = 94 then _ else _)
    by_cases h94 : zch T len (zsp T len e) = 94
    · refine (if_pos h94).trans (Eq.trans ?_ (if_pos h94).symm)
      by_cases hd : zisd (zch T len (zsp T len (zsp T len e + 1))) = true
      · refine (if_pos hd).trans ?_
        rw [if_pos hd]
        all_goals rfl
      · refine (if_neg hd).trans ?_
        rw [if_neg hd]
    · exact (if_neg h94).trans (if_neg h94).symm
