/-! what reading gives is a polynomial, and it moves on -/
def zGood (n P len : Nat) (grp : Nat → zRs) : Prop := ∀ (q : Nat) (A : Nat → Nat) (e : Nat), q < len → grp q = .inr (A, e) → q < e ∧ e ≤ len ∧ zpol n P A
section ZPO
variable {n o P : Nat} {T : Nat → Nat} {len : Nat}
theorem zNum_ok {m q v e : Nat} (hq : q < len) (hd : zisd (zch T len q) = true) (h : zNum T len m q = .inr (v, e)) : q < e ∧ e ≤ len ∧ e - q ≤ m ∧ e = zde T len q ∧ v = zval T q (e - q) := by
  unfold zNum at h
  have h1 := zch_d hd
  have h2 := zde_step h1.1 (by rw [← h1.2]; exact hd)
  have h3 := zde_in (T := T) (len := len) (p := q + 1) (by omega)
  split at h
  · cases h
  · cases h
    exact ⟨by omega, by omega, by omega, rfl, rfl⟩
theorem zadd_pol {s : Nat} {A B : Nat → Nat} (hP : 0 < P) : zpol n P (zadd n P s A B) := by
  refine ⟨fun i => ?_, fun i hi => if_neg (by omega)⟩
  unfold zadd
  split
  · exact Nat.mod_lt _ hP
  · exact hP
theorem zBare_ok {grp : Nat → zRs} (hc : zCfg n o) (hP : 2 ≤ P) (hg : zGood n P len grp) {p : Nat} (hp : p ≤ len) {A : Nat → Nat} {e : Nat} (h : zBare n o P T len grp p = .inr (A, e)) : p < e ∧ e ≤ len ∧ zpol n P A := by
  have h0 := zsp_in (T := T) hp
  unfold zBare at h
  simp only at h
  split at h
  · next hd =>
    have h1 := zch_d hd
    split at h
    · cases h
    · next v e2 hn =>
      cases h
      have h2 := zNum_ok h1.1 hd hn
      exact ⟨by omega, h2.2.1, zcon_pol (zIdx_ok (by obtain ⟨i, a, b, _⟩ := zConst hc; exact ⟨i, a, b⟩)).1 (Nat.mod_lt _ (by omega))⟩
  · split at h
    · next hv =>
      cases h
      have h1 : zsp T len p < len := by
        apply Nat.lt_of_not_le
        intro h9
        have : zch T len (zsp T len p) = -1 := if_neg (by omega)
        rw [this] at hv
        have : zvar (-1) = 4 := by decide
        rw [this] at hv
        have := hc.2.1
        omega
      exact ⟨by omega, by omega, zcon_pol (zIdx_ok (by obtain ⟨i, a, b, _⟩ := zVar hc hv; exact ⟨i, a, b⟩)).1 (by omega)⟩
    · split at h
      · next hv =>
        have h1 := zch_c hv (by decide)
        have := hg _ A e h1.1 h
        exact ⟨by omega, this.2⟩
      · cases h
theorem zFac_ok {grp : Nat → zRs} (hc : zCfg n o) (hP : 2 ≤ P) (hg : zGood n P len grp) {p : Nat} (hp : p ≤ len) {A : Nat → Nat} {e : Nat} (h : zFac n o P T len grp p = .inr (A, e)) : p < e ∧ e ≤ len ∧ zpol n P A := by
  unfold zFac at h
  split at h
  · cases h
  · next B e1 hb =>
    have h1 := zBare_ok hc hP hg hp hb
    have h2 := zsp_in (T := T) h1.2.1
    simp only at h
    split at h
    · next hq =>
      have h3 := zch_c hq (by decide)
      have h4 := zsp_in (T := T) (len := len) (p := zsp T len e1 + 1) (by omega)
      split at h
      · next hd =>
        split at h
        · cases h
        · next v e2 hn =>
          split at h
          · cases h
          · cases h
            have h5 := zNum_ok (zch_d hd).1 hd hn
            exact ⟨by omega, h5.2.1, zpow_pol hP (zIdx_ok (by obtain ⟨i, a, b, _⟩ := zConst hc; exact ⟨i, a, b⟩)).1 _⟩
      · cases h
    · cases h
      exact ⟨by omega, h2.2, h1.2.2⟩
theorem zTL_ok {grp : Nat → zRs} (hc : zCfg n o) (hP : 2 ≤ P) (hg : zGood n P len grp) : ∀ (f : Nat) (A : Nat → Nat) (p : Nat), p ≤ len → zpol n P A → ∀ (B : Nat → Nat) (e : Nat), zTL n o P T len grp f A p = .inr (B, e) → p ≤ e ∧ e ≤ len ∧ zpol n P B
  | 0, A, p, hp, hA, B, e, h => by
    simp only [zTL] at h
    cases h
    exact ⟨Nat.le_refl _, hp, hA⟩
  | f + 1, A, p, hp, hA, B, e, h => by
    have h0 := zsp_in (T := T) hp
    simp only [zTL] at h
    split at h
    · next hq =>
      have h1 := zch_c hq (by decide)
      split at h
      · cases h
      · next C e2 hf =>
        have h2 := zFac_ok hc hP hg (p := zsp T len p + 1) (by omega) hf
        split at h
        · cases h
        · have := zTL_ok hc hP hg f _ e2 h2.2.1 (zmul_pol (by omega) _ _) B e h
          exact ⟨by omega, this.2⟩
    · cases h
      exact ⟨h0.1, h0.2, hA⟩
theorem zTerm_ok {grp : Nat → zRs} (hc : zCfg n o) (hP : 2 ≤ P) (hg : zGood n P len grp) {p : Nat} (hp : p ≤ len) {A : Nat → Nat} {e : Nat} (h : zTerm n o P T len grp p = .inr (A, e)) : p < e ∧ e ≤ len ∧ zpol n P A := by
  unfold zTerm at h
  split at h
  · cases h
  · next B e1 hb =>
    have h1 := zFac_ok hc hP hg hp hb
    have h2 := zTL_ok hc hP hg 199 B e1 h1.2.1 h1.2.2 A e h
    exact ⟨by omega, h2.2⟩
theorem zSL_ok {grp : Nat → zRs} (hc : zCfg n o) (hP : 2 ≤ P) (hg : zGood n P len grp) : ∀ (f : Nat) (A : Nat → Nat) (p : Nat), p ≤ len → zpol n P A → ∀ (B : Nat → Nat) (e : Nat), zSL n o P T len grp f A p = .inr (B, e) → p ≤ e ∧ e ≤ len ∧ zpol n P B
  | 0, A, p, hp, hA, B, e, h => by
    simp only [zSL] at h
    cases h
    exact ⟨Nat.le_refl _, hp, hA⟩
  | f + 1, A, p, hp, hA, B, e, h => by
    have h0 := zsp_in (T := T) hp
    simp only [zSL] at h
    split at h
    · next hq =>
      have h1 : zsp T len p < len := by
        rcases hq with hq | hq
        · exact (zch_c hq (by decide)).1
        · exact (zch_c hq (by decide)).1
      split at h
      · cases h
      · next C e2 hf =>
        have h2 := zTerm_ok hc hP hg (p := zsp T len p + 1) (by omega) hf
        have := zSL_ok hc hP hg f _ e2 h2.2.1 (zadd_pol (by omega)) B e h
        exact ⟨by omega, this.2⟩
    · cases h
      exact ⟨h0.1, h0.2, hA⟩
theorem zSum_ok {grp : Nat → zRs} (hc : zCfg n o) (hP : 2 ≤ P) (hg : zGood n P len grp) {p : Nat} (hp : p ≤ len) {A : Nat → Nat} {e : Nat} (h : zSum n o P T len grp p = .inr (A, e)) : p < e ∧ e ≤ len ∧ zpol n P A := by
  have h0 := zsp_in (T := T) hp
  unfold zSum at h
  simp only at h
  split at h
  · cases h
  · next B e1 hb =>
    have h1 := zTerm_ok hc hP hg (p := if zch T len (zsp T len p) = 45 then zsp T len p + 1 else zsp T len p) (by
      split
      · next h9 => have := (zch_c h9 (by decide)).1; omega
      · omega) hb
    have h2 := zSL_ok hc hP hg 199 _ e1 h1.2.1 (zadd_pol (by omega)) A e h
    refine ⟨?_, h2.2⟩
    have h3 := h1.1
    split at h3 <;> omega
theorem zGrp_ok (hc : zCfg n o) (hP : 2 ≤ P) : ∀ k, zGood n P len (zGrp n o P T len k)
  | 0 => fun q A e hq h => by simp only [zGrp] at h; cases h
  | k + 1 => fun q A e hq h => by
    simp only [zGrp] at h
    split at h
    · cases h
    · next B e1 hb =>
      have h1 := zSum_ok hc hP (zGrp_ok hc hP k) (p := q + 1) (by omega) hb
      have h2 := zsp_in (T := T) h1.2.1
      split at h
      · next h9 =>
        have h3 := (zch_c h9 (by decide)).1
        cases h
        exact ⟨by omega, by omega, h1.2.2⟩
      · cases h
end ZPO
/-- a product that isn't too high -/
theorem zhigh2_deg {n o P : Nat} {A B : Nat → Nat} (hc : zCfg n o) (hP : P ≤ 32003) (hA : zpol n P A) (hB : zpol n P B) (h : ¬ zhigh2 n o (fun i => nI (A i)) (fun i => nI (B i)) = true) : ∀ i j, i < zCt n → j < zCt n → A i ≠ 0 → B j ≠ 0 → zDg n o i + zDg n o j ≤ zHi n := by
  intro i j hi hj ha hb
  have hl : ∀ {C : Nat → Nat} {k : Nat}, zpol n P C → k < zCt n → C k ≠ 0 → zfst (fun i => nI (C i)) 0 (zCt n) ≤ k := fun {C k} hC hk h9 => Nat.not_lt.mp (fun h8 => h9 (zfst_nz hC.1 hP k h8))
  have ha1 := hl hA hi ha
  have hb1 := hl hB hj hb
  have hda := zDg_anti hc (i - zfst (fun i => nI (A i)) 0 (zCt n)) (zfst (fun i => nI (A i)) 0 (zCt n)) (by omega)
  have hdb := zDg_anti hc (j - zfst (fun i => nI (B i)) 0 (zCt n)) (zfst (fun i => nI (B i)) 0 (zCt n)) (by omega)
  rw [show zfst (fun i => nI (A i)) 0 (zCt n) + (i - zfst (fun i => nI (A i)) 0 (zCt n)) = i by omega] at hda
  rw [show zfst (fun i => nI (B i)) 0 (zCt n) + (j - zfst (fun i => nI (B i)) 0 (zCt n)) = j by omega] at hdb
  have hla := zDg_le hc (i := zfst (fun i => nI (A i)) 0 (zCt n)) (by omega)
  have hlb := zDg_le hc (i := zfst (fun i => nI (B i)) 0 (zCt n)) (by omega)
  have hh := zHi_le (n := n)
  have e1 : zdgr n o (fun i => nI (A i)) = nI (zDg n o (zfst (fun i => nI (A i)) 0 (zCt n))) := if_pos (by omega)
  have e2 : zdgr n o (fun i => nI (B i)) = nI (zDg n o (zfst (fun i => nI (B i)) 0 (zCt n))) := if_pos (by omega)
  unfold zhigh2 at h
  rw [e1, e2, decide_eq_true (nI_pos' (by omega)), decide_eq_true (nI_pos' (by omega)), nI_add, Bool.true_and, Bool.true_and, decide_eq_true_eq, nI_ltI (by omega) (by omega)] at h
  omega
theorem zhighp_deg {n o P : Nat} {A : Nat → Nat} {e : Nat} (hc : zCfg n o) (hP : P ≤ 32003) (hA : zpol n P A) (he : e < 100) (h : ¬ zhighp n o (fun i => nI (A i)) e = true) : ∃ d, zdle n o A d ∧ e * d ≤ zHi n := by
  by_cases hz : zfst (fun i => nI (A i)) 0 (zCt n) < zCt n
  · refine ⟨zDg n o (zfst (fun i => nI (A i)) 0 (zCt n)), fun i hi ha => ?_, ?_⟩
    · have h1 : zfst (fun i => nI (A i)) 0 (zCt n) ≤ i := Nat.not_lt.mp (fun h8 => ha (zfst_nz hA.1 hP i h8))
      have hda := zDg_anti hc (i - zfst (fun i => nI (A i)) 0 (zCt n)) (zfst (fun i => nI (A i)) 0 (zCt n)) (by omega)
      rw [show zfst (fun i => nI (A i)) 0 (zCt n) + (i - zfst (fun i => nI (A i)) 0 (zCt n)) = i by omega] at hda
      exact hda
    · have hla := zDg_le hc hz
      have hh := zHi_le (n := n)
      have e1 : zdgr n o (fun i => nI (A i)) = nI (zDg n o (zfst (fun i => nI (A i)) 0 (zCt n))) := if_pos hz
      have hm : zDg n o (zfst (fun i => nI (A i)) 0 (zCt n)) * e ≤ 30 * 100 := Nat.mul_le_mul (by omega) (by omega)
      unfold zhighp at h
      rw [e1, decide_eq_true (nI_pos' (by omega)), pk_mul, Bool.true_and, decide_eq_true_eq, nI_ltI (by omega) (by omega), Nat.mul_comm] at h
      omega
  · refine ⟨0, fun i hi ha => absurd (zfst_nz (ct := zCt n) hA.1 hP i (by omega)) ha, by omega⟩
