/-! the reference reads step by step: place, state, depth, tables, signs, stars; against what a text is -/
/-- what a sign stands for -/
def zsn (P : Nat) (b : Bool) : Nat := if b then P - 1 else 1
/-- the product so far and one factor more -/
def zcomb (n o P : Nat) (st : Option Nat) (A B : Nat → Nat) : (Nat × Nat) ⊕ (Nat → Nat) :=
  match st with
  | none => .inr B
  | some q => if zhigh2 n o (fun i => nI (A i)) (fun i => nI (B i)) = true then .inl (3, q) else .inr (zmul n o P A B)
abbrev zGd : Type := Nat → Nat → Nat → (Nat → Nat → Nat) → (Nat → Bool) → (Nat → Option Nat) → Prop
abbrev zFn : Type := ((Nat × Nat) ⊕ (Nat → Nat)) → Prop
section ZCL
variable (n o P : Nat) (T : Nat → Nat) (len : Nat) (Good : zGd) (Fin : zFn)
def zClS : Prop := ∀ (p d : Nat) (B : Nat → Nat → Nat) (sg : Nat → Bool) (st : Nat → Option Nat), p ≤ len → d ≤ 20 → (∀ t, zpol n P (B t)) →
  (if zch T len (zsp T len p) = 45 then Good (zsp T len p + 1) 1 d B (va_up sg d true) st else Good (zsp T len p) 1 d B sg st) → Good p 0 d B sg st
def zClF : Prop := ∀ (p d : Nat) (B : Nat → Nat → Nat) (sg : Nat → Bool) (st : Nat → Option Nat), p ≤ len → d ≤ 20 → (∀ t, zpol n P (B t)) →
  (if zch T len (zsp T len p) = 40 then (if d = 20 then Fin (.inl (2, zsp T len p)) else Good (zsp T len p + 1) 0 (d + 1) (va_up B (8 + 3 * (d + 1)) (fun _ => 0)) (va_up sg (d + 1) false) (va_up st (d + 1) none))
   else if zisd (zch T len (zsp T len p)) = true then (match zNum T len 9 (zsp T len p) with | .inl x => Fin (.inl x) | .inr (v, e) => Good e 2 d (va_up B (10 + 3 * d) (zcon (zIdx n o 0) (v % P))) sg st)
   else if zvar (zch T len (zsp T len p)) < n then Good (zsp T len p + 1) 2 d (va_up B (10 + 3 * d) (zcon (zIdx n o (zWt n (zvar (zch T len (zsp T len p))))) 1)) sg st
   else Fin (.inl (1, zsp T len p))) → Good p 1 d B sg st
def zClA : Prop := ∀ (p d : Nat) (B : Nat → Nat → Nat) (sg : Nat → Bool) (st : Nat → Option Nat), p ≤ len → d ≤ 20 → (∀ t, zpol n P (B t)) →
  (if zch T len (zsp T len p) = 94 then (match zNm T len 2 (zsp T len p + 1) with
    | .inl x => Fin (.inl x)
    | .inr (v, e) => if zhighp n o (fun i => nI (B (10 + 3 * d) i)) v = true then Fin (.inl (3, zsp T len p)) else Good e 3 d (va_up B (10 + 3 * d) (zpow n o P (zIdx n o 0) (B (10 + 3 * d)) v)) sg st)
   else Good (zsp T len p) 3 d B sg st) → Good p 2 d B sg st
def zClD : Prop := ∀ (p d : Nat) (B : Nat → Nat → Nat) (sg : Nat → Bool) (st : Nat → Option Nat), p ≤ len → d ≤ 20 → (∀ t, zpol n P (B t)) → (∀ q, st d = some q → q < len) →
  (match zcomb n o P (st d) (B (9 + 3 * d)) (B (10 + 3 * d)) with
   | .inl x => Fin (.inl x)
   | .inr T9 => if zch T len (zsp T len p) = 42 then Good (zsp T len p + 1) 1 d (va_up B (9 + 3 * d) T9) sg (va_up st d (some (zsp T len p)))
     else if zch T len (zsp T len p) = 43 ∨ zch T len (zsp T len p) = 45 then Good (zsp T len p + 1) 1 d (va_up (va_up B (9 + 3 * d) T9) (8 + 3 * d) (zadd n P (zsn P (sg d)) (B (8 + 3 * d)) T9)) (va_up sg d (decide (zch T len (zsp T len p) = 45))) (va_up st d none)
     else if zch T len (zsp T len p) = 41 ∧ 0 < d then Good (zsp T len p + 1) 2 (d - 1) (va_up (va_up (va_up B (9 + 3 * d) T9) (8 + 3 * d) (zadd n P (zsn P (sg d)) (B (8 + 3 * d)) T9)) (10 + 3 * (d - 1)) (zadd n P (zsn P (sg d)) (B (8 + 3 * d)) T9)) (va_up sg d false) (va_up st d none)
     else if zch T len (zsp T len p) = -1 ∧ d = 0 then Fin (.inr (zadd n P (zsn P (sg d)) (B (8 + 3 * d)) T9))
     else Fin (.inl (1, zsp T len p))) → Good p 3 d B sg st
end ZCL
theorem zpol_up {n P : Nat} {B : Nat → Nat → Nat} {t : Nat} {X : Nat → Nat} (h : ∀ t, zpol n P (B t)) (hX : zpol n P X) : ∀ u, zpol n P (va_up B t X u) := fun u => by
  by_cases e : u = t
  · subst e
    rw [va_up_self]
    exact hX
  · rw [va_up_ne _ _ e]
    exact h u
theorem zTL_stop {n o P : Nat} {T : Nat → Nat} {len : Nat} {grp : Nat → zRs} {g : Nat} {A : Nat → Nat} {e : Nat} (he : e ≤ len) (hg : len - e ≤ g) (h : ¬ zch T len (zsp T len e) = 42) : zTL n o P T len grp g A e = .inr (A, zsp T len e) := by
  cases g with
  | zero =>
    have h1 := zsp_in (T := T) he
    show Sum.inr (A, e) = _
    rw [show zsp T len e = e by omega]
  | succ g =>
    show (if zch T len (zsp T len e) = 42 then _ else _) = _
    rw [if_neg h]
theorem zSL_stop {n o P : Nat} {T : Nat → Nat} {len : Nat} {grp : Nat → zRs} {g : Nat} {A : Nat → Nat} {e : Nat} (he : e ≤ len) (hg : len - e ≤ g) (h : ¬ (zch T len (zsp T len e) = 43 ∨ zch T len (zsp T len e) = 45)) : zSL n o P T len grp g A e = .inr (A, zsp T len e) := by
  cases g with
  | zero =>
    have h1 := zsp_in (T := T) he
    show Sum.inr (A, e) = _
    rw [show zsp T len e = e by omega]
  | succ g =>
    show (if _ then _ else _) = _
    rw [if_neg h]
/-- a char is before the end -/
theorem zch_in {T : Nat → Nat} {len q : Nat} {c : Int32} (h : zch T len q = c) (hc : c ≠ -1) : q < len := by
  apply Nat.lt_of_not_le
  intro h9
  apply hc
  rw [← h]
  exact if_neg (by omega)
theorem zSL_sp {n o P : Nat} {T : Nat → Nat} {len : Nat} {grp : Nat → zRs} (hc : zCfg n o) (hP : 2 ≤ P) (hg : zGood n P len grp) : ∀ (g : Nat) (A : Nat → Nat) (e : Nat), e ≤ len → len - e ≤ g → ∀ (S : Nat → Nat) (q : Nat), zSL n o P T len grp g A e = .inr (S, q) → zsp T len q = q
  | 0, A, e, he, h0, S, q, h => by
    have h1 : (Sum.inr (A, e) : zRs) = .inr (S, q) := h
    cases h1
    have := zsp_in (T := T) he
    omega
  | g + 1, A, e, he, h0, S, q, h => by
    by_cases hc2 : zch T len (zsp T len e) = 43 ∨ zch T len (zsp T len e) = 45
    · simp only [zSL] at h
      rw [if_pos hc2] at h
      have h1 := zsp_in (T := T) he
      have hql : zsp T len e < len := hc2.elim (fun h9 => zch_in h9 (by decide)) (fun h9 => zch_in h9 (by decide))
      cases ht : zTerm n o P T len grp (zsp T len e + 1) with
      | inl x => rw [ht] at h; cases h
      | inr x =>
        obtain ⟨B, e2⟩ := x
        rw [ht] at h
        have hok := zTerm_ok hc hP hg (show zsp T len e + 1 ≤ len by omega) ht
        exact zSL_sp hc hP hg g _ e2 hok.2.1 (by omega) S q h
    · rw [zSL_stop he h0 hc2] at h
      cases h
      exact zsp_idem he
theorem zSum_sp {n o P : Nat} {T : Nat → Nat} {len : Nat} {grp : Nat → zRs} (hlen : len ≤ 200) (hc : zCfg n o) (hP : 2 ≤ P) (hg : zGood n P len grp) {p : Nat} (hp : p ≤ len) {S : Nat → Nat} {q : Nat} (h : zSum n o P T len grp p = .inr (S, q)) : zsp T len q = q := by
  have h1 := zsp_in (T := T) hp
  have hp1 : (if zch T len (zsp T len p) = 45 then zsp T len p + 1 else zsp T len p) ≤ len := by
    split
    · next h9 => have := zch_in h9 (by decide); omega
    · omega
  simp only [zSum] at h
  cases ht : zTerm n o P T len grp (if zch T len (zsp T len p) = 45 then zsp T len p + 1 else zsp T len p) with
  | inl x => rw [ht] at h; cases h
  | inr x =>
    obtain ⟨A, e⟩ := x
    rw [ht] at h
    have hok := zTerm_ok hc hP hg hp1 ht
    exact zSL_sp hc hP hg 199 _ e hok.2.1 (by omega) S q h
section ZCP
variable {n o P : Nat} {T : Nat → Nat} {len : Nat} {Good : zGd} {Fin : zFn}
/-- where a factor, and where a sum is done -/
def zKF (n P : Nat) (Good : zGd) (Fin : zFn) (d : Nat) (B : Nat → Nat → Nat) (sg : Nat → Bool) (st : Nat → Option Nat) (r : zRs) : Prop :=
  match r with
  | .inl x => Fin (.inl x)
  | .inr (A, e) => ∀ (B' : Nat → Nat → Nat) (sg' : Nat → Bool) (st' : Nat → Option Nat), (∀ t, zpol n P (B' t)) → B' (10 + 3 * d) = A → (∀ t, t < 10 + 3 * d → B' t = B t) → (∀ j, j ≤ d → sg' j = sg j ∧ st' j = st j) → Good e 3 d B' sg' st'
def zKS (n P : Nat) (T : Nat → Nat) (len : Nat) (Good : zGd) (Fin : zFn) (d : Nat) (B : Nat → Nat → Nat) (sg : Nat → Bool) (st : Nat → Option Nat) (r : zRs) : Prop :=
  match r with
  | .inl x => Fin (.inl x)
  | .inr (S, q) => if 0 < d then (if zch T len q = 41 then (∀ (B' : Nat → Nat → Nat) (sg' : Nat → Bool) (st' : Nat → Option Nat), (∀ t, zpol n P (B' t)) → B' (10 + 3 * (d - 1)) = S → (∀ t, t < 10 + 3 * (d - 1) → B' t = B t) → (∀ j, j < d → sg' j = sg j ∧ st' j = st j) → Good (q + 1) 2 (d - 1) B' sg' st') else Fin (.inl (1, q)))
    else if zch T len q = -1 then Fin (.inr S) else Fin (.inl (1, q))
/-- behind a bare factor -/
theorem zAFT (hA : zClA n o P T len Good Fin) (hc : zCfg n o) (hP : 2 ≤ P) {p d : Nat} {B B0 : Nat → Nat → Nat} {sg sg0 : Nat → Bool} {st st0 : Nat → Option Nat} (hp : p ≤ len) (hd : d ≤ 20) (hB : ∀ t, zpol n P (B t)) (hB0 : ∀ t, t < 10 + 3 * d → B t = B0 t) (hs : ∀ j, j ≤ d → sg j = sg0 j ∧ st j = st0 j)
    (hk : zKF n P Good Fin d B0 sg0 st0 (if zch T len (zsp T len p) = 94 then (match zNm T len 2 (zsp T len p + 1) with
        | .inl x => .inl x
        | .inr (v, e2) => if zhighp n o (fun i => nI (B (10 + 3 * d) i)) v = true then .inl (3, zsp T len p) else .inr (zpow n o P (zIdx n o 0) (B (10 + 3 * d)) v, e2)) else .inr (B (10 + 3 * d), zsp T len p))) : Good p 2 d B sg st := by
  have hi0 := zIdx_ok (n := n) (o := o) (k := 0) (by obtain ⟨i, a, b, _⟩ := zConst hc; exact ⟨i, a, b⟩)
  refine hA p d B sg st hp hd hB ?_
  by_cases h94 : zch T len (zsp T len p) = 94
  · rw [if_pos h94]
    rw [if_pos h94] at hk
    cases hn : zNm T len 2 (zsp T len p + 1) with
    | inl x =>
      rw [hn] at hk
      exact hk
    | inr x =>
      obtain ⟨v, e⟩ := x
      rw [hn] at hk
      simp only at hk ⊢
      by_cases hh : zhighp n o (fun i => nI (B (10 + 3 * d) i)) v = true
      · rw [if_pos hh]
        rw [if_pos hh] at hk
        exact hk
      · rw [if_neg hh]
        rw [if_neg hh] at hk
        exact hk _ sg st (zpol_up hB (zpow_pol hP hi0.1 v)) (va_up_self _ _ _) (fun t ht => by rw [va_up_ne _ _ (by omega)]; exact hB0 t ht) hs
  · rw [if_neg h94]
    rw [if_neg h94] at hk
    exact hk B sg st hB rfl hB0 hs
/-- a factor, where the sums inside ( ) are read -/
theorem zFAC (hF : zClF n o P T len Good Fin) (hA : zClA n o P T len Good Fin) (hlen : len ≤ 200) (hc : zCfg n o) (hP : 2 ≤ P) (k : Nat)
    (hsum : ∀ j, k = j + 1 → ∀ (p d : Nat) (B : Nat → Nat → Nat) (sg : Nat → Bool) (st : Nat → Option Nat), d + j = 20 → p ≤ len → (∀ t, zpol n P (B t)) → B (8 + 3 * d) = (fun _ => 0) → sg d = false → st d = none → zKS n P T len Good Fin d B sg st (zSum n o P T len (zGrp n o P T len j) p) → Good p 0 d B sg st)
    {p d : Nat} {B : Nat → Nat → Nat} {sg : Nat → Bool} {st : Nat → Option Nat} (hdk : d + k = 20) (hp : p ≤ len) (hB : ∀ t, zpol n P (B t)) (hk : zKF n P Good Fin d B sg st (zFac n o P T len (zGrp n o P T len k) p)) : Good p 1 d B sg st := by
  have hi0 := zIdx_ok (n := n) (o := o) (k := 0) (by obtain ⟨i, a, b, _⟩ := zConst hc; exact ⟨i, a, b⟩)
  have hq := zsp_in (T := T) hp
  refine hF p d B sg st hp (by omega) hB ?_
  rw [zFac_nm] at hk
  by_cases h40 : zch T len (zsp T len p) = 40
  · rw [if_pos h40]
    have hql := zch_in h40 (by decide)
    rw [zBare_3 rfl (by rw [h40]; decide) (by rw [h40]; exact Nat.not_lt.mpr hc.2.1) h40] at hk
    cases k with
    | zero =>
      rw [if_pos (by omega)]
      exact hk
    | succ j =>
      rw [if_neg (by omega)]
      refine hsum j rfl _ (d + 1) _ _ _ (by omega) (by omega) (zpol_up hB (zpol_0 n (by omega))) (va_up_self _ _ _) (va_up_self _ _ _) (va_up_self _ _ _) ?_
      simp only [zGrp] at hk
      cases hs : zSum n o P T len (zGrp n o P T len j) (zsp T len p + 1) with
      | inl x =>
        rw [hs] at hk
        exact hk
      | inr x =>
        obtain ⟨S, e⟩ := x
        rw [hs] at hk
        simp only at hk
        have hok := zSum_ok hc hP (zGrp_ok hc hP j) (show zsp T len p + 1 ≤ len by omega) hs
        have hze : zsp T len e = e := zSum_sp hlen hc hP (zGrp_ok hc hP j) (show zsp T len p + 1 ≤ len by omega) hs
        rw [hze] at hk
        simp only [zKS]
        rw [if_pos (show 0 < d + 1 by omega)]
        by_cases h41 : zch T len e = 41
        · rw [if_pos h41]
          rw [if_pos h41] at hk
          intro B' sg' st' g1 g2 g3 g4
          have hel := zch_in h41 (by decide)
          refine zAFT (B0 := B) (sg0 := sg) (st0 := st) hA hc hP (by omega) (by omega) g1 (fun t ht => ?_) (fun i hi => ?_) ?_
          · rw [g3 t ht, va_up_ne _ _ (by omega)]
          · rw [(g4 i (by omega)).1, (g4 i (by omega)).2, va_up_ne _ _ (by omega), va_up_ne _ _ (by omega)]
            exact ⟨rfl, rfl⟩
          · rw [show d + 1 - 1 = d by omega] at g2 ⊢
            rw [g2]
            exact hk
        · rw [if_neg h41]
          rw [if_neg h41] at hk
          exact hk
  · rw [if_neg h40]
    by_cases hdg : zisd (zch T len (zsp T len p)) = true
    · rw [if_pos hdg]
      rw [zBare_1 rfl hdg] at hk
      have hql := (zch_d hdg).1
      cases hn : zNum T len 9 (zsp T len p) with
      | inl x =>
        rw [hn] at hk
        exact hk
      | inr x =>
        obtain ⟨v, e⟩ := x
        rw [hn] at hk
        simp only at hk ⊢
        have he := zNum_ok hql hdg hn
        refine zAFT (B0 := B) (sg0 := sg) (st0 := st) hA hc hP he.2.1 (by omega) (zpol_up hB (zcon_pol hi0.1 (Nat.mod_lt _ (by omega)))) (fun t ht => va_up_ne _ _ (by omega)) (fun i hi => ⟨rfl, rfl⟩) ?_
        rw [va_up_self]
        exact hk
    · rw [if_neg hdg]
      by_cases hv : zvar (zch T len (zsp T len p)) < n
      · rw [if_pos hv]
        rw [zBare_2 rfl hdg hv] at hk
        have hql : zsp T len p < len := by
          apply Nat.lt_of_not_le
          intro h9
          rw [show zch T len (zsp T len p) = -1 from if_neg (by omega)] at hv
          exact absurd hv (Nat.not_lt.mpr hc.2.1)
        have hiv := zIdx_ok (n := n) (o := o) (k := zWt n (zvar (zch T len (zsp T len p)))) (by obtain ⟨i, a, b, _⟩ := zVar hc hv; exact ⟨i, a, b⟩)
        simp only at hk
        refine zAFT (B0 := B) (sg0 := sg) (st0 := st) hA hc hP (by omega) (by omega) (zpol_up hB (zcon_pol hiv.1 (by omega))) (fun t ht => va_up_ne _ _ (by omega)) (fun i hi => ⟨rfl, rfl⟩) ?_
        rw [va_up_self]
        exact hk
      · rw [if_neg hv]
        rw [zBare_4 rfl hdg hv h40] at hk
        exact hk
end ZCP
