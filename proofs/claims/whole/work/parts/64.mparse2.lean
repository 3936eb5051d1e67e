/-! the reference's reading: a term under way, a sum, the whole text -/
noncomputable def zPd (n o P : Nat) (T : Nat → Nat) (len : Nat) (grp : Nat → zRs) (g g' : Nat) (st : Option Nat) (sn : Nat) (S Pr Bf : Nat → Nat) (e : Nat) : zRs :=
  match zcomb n o P st Pr Bf with
  | .inl x => .inl x
  | .inr T9 => match zTL n o P T len grp g T9 e with
    | .inl x => .inl x
    | .inr (A, q) => zSL n o P T len grp g' (zadd n P sn S A) q
theorem zcomb_pol {n o P : Nat} {st : Option Nat} {A B T9 : Nat → Nat} (hP : 2 ≤ P) (hB : zpol n P B) (h : zcomb n o P st A B = .inr T9) : zpol n P T9 := by
  cases st with
  | none =>
    have h1 : (Sum.inr B : (Nat × Nat) ⊕ (Nat → Nat)) = .inr T9 := h
    cases h1
    exact hB
  | some q =>
    have h1 : (if zhigh2 n o (fun i => nI (A i)) (fun i => nI (B i)) = true then (Sum.inl (3, q) : (Nat × Nat) ⊕ (Nat → Nat)) else .inr (zmul n o P A B)) = .inr T9 := h
    split at h1
    · cases h1
    · cases h1
      exact zmul_pol (by omega) _ _
section ZPE2
variable {n o P : Nat} {T : Nat → Nat} {len : Nat} {Good : zGd} {Fin : zFn}
theorem zPEND (hD : zClD n o P T len Good Fin) (hlen : len ≤ 200) (hc : zCfg n o) (hP : 2 ≤ P) (k : Nat)
    (hfac : ∀ (p d : Nat) (B : Nat → Nat → Nat) (sg : Nat → Bool) (st : Nat → Option Nat), d + k = 20 → p ≤ len → (∀ t, zpol n P (B t)) → zKF n P Good Fin d B sg st (zFac n o P T len (zGrp n o P T len k) p) → Good p 1 d B sg st) :
    ∀ (m e d : Nat) (B B0 : Nat → Nat → Nat) (sg sg0 : Nat → Bool) (st st0 : Nat → Option Nat) (g g' : Nat), len - e ≤ m → e ≤ len → d + k = 20 → (∀ t, zpol n P (B t)) → (∀ q, st d = some q → q < len) → len - e ≤ g → len - e ≤ g' → (∀ t, t < 8 + 3 * d → B t = B0 t) → (∀ j, j < d → sg j = sg0 j ∧ st j = st0 j) →
      zKS n P T len Good Fin d B0 sg0 st0 (zPd n o P T len (zGrp n o P T len k) g g' (st d) (zsn P (sg d)) (B (8 + 3 * d)) (B (9 + 3 * d)) (B (10 + 3 * d)) e) → Good e 3 d B sg st := by
  intro m
  induction m with
  | zero =>
    intro e d B B0 sg sg0 st st0 g g' hm he hdk hB hst hg hg' hB0 hs hk
    have hel : e = len := by omega
    have hq := zsp_in (T := T) he
    have hqe : zsp T len e = e := by omega
    have hch : zch T len (zsp T len e) = -1 := if_neg (by omega)
    refine hD e d B sg st he (by omega) hB hst ?_
    unfold zPd at hk
    cases hcb : zcomb n o P (st d) (B (9 + 3 * d)) (B (10 + 3 * d)) with
    | inl x =>
      rw [hcb] at hk
      exact hk
    | inr T9 =>
      rw [hcb] at hk
      simp only at hk ⊢
      rw [zTL_stop he hg (by rw [hch]; decide), hqe] at hk
      simp only at hk
      rw [zSL_stop he hg' (by rw [hch]; decide), hqe] at hk
      rw [hqe] at hch
      rw [hqe, hch, if_neg (by decide), if_neg (by decide), if_neg (fun h9 => absurd h9.1 (by decide))]
      simp only [zKS] at hk
      rw [hch] at hk
      by_cases h0 : 0 < d
      · rw [if_pos h0, if_neg (by decide)] at hk
        rw [if_neg (by omega)]
        exact hk
      · rw [if_neg h0, if_pos rfl] at hk
        rw [if_pos ⟨rfl, by omega⟩]
        exact hk
  | succ m ih =>
    intro e d B B0 sg sg0 st st0 g g' hm he hdk hB hst hg hg' hB0 hs hk
    have hq := zsp_in (T := T) he
    have hidem := zsp_idem (T := T) he
    obtain ⟨q, hqd⟩ : ∃ q, q = zsp T len e := ⟨_, rfl⟩
    refine hD e d B sg st he (by omega) hB hst ?_
    unfold zPd at hk
    cases hcb : zcomb n o P (st d) (B (9 + 3 * d)) (B (10 + 3 * d)) with
    | inl x =>
      rw [hcb] at hk
      exact hk
    | inr T9 =>
      have hT9 := zcomb_pol hP (hB _) hcb
      rw [hcb] at hk
      simp only at hk ⊢
      rw [← hqd] at hq hidem ⊢
      by_cases h42 : zch T len q = 42
      · rw [if_pos h42]
        have hql := zch_in h42 (by decide)
        obtain ⟨g1, rfl⟩ : ∃ g1, g = g1 + 1 := ⟨g - 1, by omega⟩
        simp only [zTL] at hk
        rw [← hqd, if_pos h42] at hk
        refine hfac (q + 1) d _ _ _ hdk (by omega) (zpol_up hB hT9) ?_
        cases hf : zFac n o P T len (zGrp n o P T len k) (q + 1) with
        | inl x =>
          rw [hf] at hk
          exact hk
        | inr x =>
          obtain ⟨A2, e2⟩ := x
          rw [hf] at hk
          simp only at hk
          have hok := zFac_ok hc hP (zGrp_ok hc hP k) (show q + 1 ≤ len by omega) hf
          intro B' sg' st' c1 c2 c3 c4
          refine ih e2 d B' B0 sg' sg0 st' st0 g1 g' (by omega) hok.2.1 hdk c1 (fun q9 h9 => ?_) (by omega) (by omega) (fun t ht => ?_) (fun j hj => ?_) ?_
          · rw [(c4 d (Nat.le_refl _)).2, va_up_self] at h9
            cases h9
            exact hql
          · rw [c3 t (by omega), va_up_ne _ _ (by omega)]
            exact hB0 t ht
          · rw [(c4 j (by omega)).1, (c4 j (by omega)).2, va_up_ne _ _ (by omega)]
            exact hs j hj
          · unfold zPd
            rw [(c4 d (Nat.le_refl _)).2, (c4 d (Nat.le_refl _)).1, va_up_self, c2, c3 (9 + 3 * d) (by omega), va_up_self, c3 (8 + 3 * d) (by omega), va_up_ne _ _ (by omega)]
            show zKS n P T len Good Fin d B0 sg0 st0 (match (if zhigh2 n o (fun i => nI (T9 i)) (fun i => nI (A2 i)) = true then (Sum.inl (3, q) : (Nat × Nat) ⊕ (Nat → Nat)) else .inr (zmul n o P T9 A2)) with
              | .inl x => .inl x
              | .inr T8 => match zTL n o P T len (zGrp n o P T len k) g1 T8 e2 with
                | .inl x => .inl x
                | .inr (A, q) => zSL n o P T len (zGrp n o P T len k) g' (zadd n P (zsn P (sg d)) (B (8 + 3 * d)) A) q)
            by_cases hh : zhigh2 n o (fun i => nI (T9 i)) (fun i => nI (A2 i)) = true
            · rw [if_pos hh]
              rw [if_pos hh] at hk
              exact hk
            · rw [if_neg hh]
              rw [if_neg hh] at hk
              exact hk
      · rw [if_neg h42]
        rw [zTL_stop he hg (by rw [← hqd]; exact h42), ← hqd] at hk
        simp only at hk
        by_cases hpm : zch T len q = 43 ∨ zch T len q = 45
        · rw [if_pos hpm]
          have hql : q < len := hpm.elim (fun h9 => zch_in h9 (by decide)) (fun h9 => zch_in h9 (by decide))
          obtain ⟨g1, rfl⟩ : ∃ g1, g' = g1 + 1 := ⟨g' - 1, by omega⟩
          simp only [zSL] at hk
          rw [hidem, if_pos hpm] at hk
          refine hfac (q + 1) d _ _ _ hdk (by omega) (zpol_up (zpol_up hB hT9) (zadd_pol (by omega))) ?_
          simp only [zTerm] at hk
          cases hf : zFac n o P T len (zGrp n o P T len k) (q + 1) with
          | inl x =>
            rw [hf] at hk
            exact hk
          | inr x =>
            obtain ⟨A2, e2⟩ := x
            rw [hf] at hk
            simp only at hk
            have hok := zFac_ok hc hP (zGrp_ok hc hP k) (show q + 1 ≤ len by omega) hf
            intro B' sg' st' c1 c2 c3 c4
            refine ih e2 d B' B0 sg' sg0 st' st0 199 g1 (by omega) hok.2.1 hdk c1 (fun q9 h9 => ?_) (by omega) (by omega) (fun t ht => ?_) (fun j hj => ?_) ?_
            · rw [(c4 d (Nat.le_refl _)).2, va_up_self] at h9
              cases h9
            · rw [c3 t (by omega), va_up_ne _ _ (by omega), va_up_ne _ _ (by omega)]
              exact hB0 t ht
            · rw [(c4 j (by omega)).1, (c4 j (by omega)).2, va_up_ne _ _ (by omega), va_up_ne _ _ (by omega)]
              exact hs j hj
            · unfold zPd
              rw [(c4 d (Nat.le_refl _)).2, (c4 d (Nat.le_refl _)).1, va_up_self, va_up_self, c2, c3 (8 + 3 * d) (by omega), va_up_self]
              have hsn : zsn P (decide (zch T len q = 45)) = zsg P (zch T len q) := by
                unfold zsn zsg
                by_cases h9 : zch T len q = 45
                · rw [if_pos h9, decide_eq_true h9]; rfl
                · rw [if_neg h9, decide_eq_false h9]; rfl
              rw [hsn]
              show zKS n P T len Good Fin d B0 sg0 st0 (match zTL n o P T len (zGrp n o P T len k) 199 A2 e2 with
                | .inl x => .inl x
                | .inr (A, q9) => zSL n o P T len (zGrp n o P T len k) g1 (zadd n P (zsg P (zch T len q)) (zadd n P (zsn P (sg d)) (B (8 + 3 * d)) T9) A) q9)
              cases htl : zTL n o P T len (zGrp n o P T len k) 199 A2 e2 with
              | inl x =>
                rw [htl] at hk
                exact hk
              | inr x =>
                obtain ⟨A3, q3⟩ := x
                rw [htl] at hk
                exact hk
        · rw [if_neg hpm]
          rw [zSL_stop (by omega) (by omega) (by rw [hidem]; exact hpm), hidem] at hk
          simp only [zKS] at hk
          by_cases h0 : 0 < d
          · rw [if_pos h0] at hk
            by_cases h41 : zch T len q = 41
            · rw [if_pos h41] at hk
              rw [if_pos ⟨h41, h0⟩]
              refine hk _ _ _ (zpol_up (zpol_up (zpol_up hB hT9) (zadd_pol (by omega))) (zadd_pol (by omega))) (va_up_self _ _ _) (fun t ht => ?_) (fun j hj => ?_)
              · rw [va_up_ne _ _ (by omega), va_up_ne _ _ (by omega), va_up_ne _ _ (by omega)]
                exact hB0 t (by omega)
              · rw [va_up_ne _ _ (by omega), va_up_ne _ _ (by omega)]
                exact hs j hj
            · rw [if_neg h41] at hk
              rw [if_neg (fun h9 => h41 h9.1), if_neg (fun h9 => absurd h9.2 (by omega))]
              exact hk
          · rw [if_neg h0] at hk
            rw [if_neg (fun h9 => h0 h9.2)]
            by_cases h1 : zch T len q = -1
            · rw [if_pos h1] at hk
              rw [if_pos ⟨h1, by omega⟩]
              exact hk
            · rw [if_neg h1] at hk
              rw [if_neg (fun h9 => h1 h9.1)]
              exact hk
theorem zSUM (hS : zClS n P T len Good) (hD : zClD n o P T len Good Fin) (hlen : len ≤ 200) (hc : zCfg n o) (hP : 2 ≤ P) (k : Nat)
    (hfac : ∀ (p d : Nat) (B : Nat → Nat → Nat) (sg : Nat → Bool) (st : Nat → Option Nat), d + k = 20 → p ≤ len → (∀ t, zpol n P (B t)) → zKF n P Good Fin d B sg st (zFac n o P T len (zGrp n o P T len k) p) → Good p 1 d B sg st)
    {p d : Nat} {B : Nat → Nat → Nat} {sg : Nat → Bool} {st : Nat → Option Nat} (hdk : d + k = 20) (hp : p ≤ len) (hB : ∀ t, zpol n P (B t)) (h8 : B (8 + 3 * d) = (fun _ => 0)) (hsg : sg d = false) (hst : st d = none) (hk : zKS n P T len Good Fin d B sg st (zSum n o P T len (zGrp n o P T len k) p)) : Good p 0 d B sg st := by
  have hq := zsp_in (T := T) hp
  have go : ∀ (p1 : Nat) (b : Bool) (sg1 : Nat → Bool), p1 ≤ len → p1 = (if zch T len (zsp T len p) = 45 then zsp T len p + 1 else zsp T len p) → zsn P b = zsg P (zch T len (zsp T len p)) → sg1 d = b → (∀ j, j < d → sg1 j = sg j) → Good p1 1 d B sg1 st := by
    intro p1 b sg1 hp1 hp1e hb hsd hsj
    refine hfac p1 d B sg1 st hdk hp1 hB ?_
    simp only [zSum, zTerm] at hk
    rw [← hp1e] at hk
    cases hf : zFac n o P T len (zGrp n o P T len k) p1 with
    | inl x =>
      rw [hf] at hk
      exact hk
    | inr x =>
      obtain ⟨A, e⟩ := x
      rw [hf] at hk
      simp only at hk
      have hok := zFac_ok hc hP (zGrp_ok hc hP k) hp1 hf
      intro B' sg' st' c1 c2 c3 c4
      refine zPEND hD hlen hc hP k hfac (len - e) e d B' B sg' sg st' st 199 199 (Nat.le_refl _) hok.2.1 hdk c1 (fun q9 h9 => ?_) (by omega) (by omega) (fun t ht => c3 t (by omega)) (fun j hj => ?_) ?_
      · rw [(c4 d (Nat.le_refl _)).2, hst] at h9
        cases h9
      · rw [(c4 j (by omega)).1, (c4 j (by omega)).2]
        exact ⟨hsj j hj, rfl⟩
      · unfold zPd
        rw [(c4 d (Nat.le_refl _)).2, (c4 d (Nat.le_refl _)).1, hst, hsd, hb, c2, c3 (8 + 3 * d) (by omega), h8]
        show zKS n P T len Good Fin d B sg st (match zTL n o P T len (zGrp n o P T len k) 199 A e with
          | .inl x => .inl x
          | .inr (A, q9) => zSL n o P T len (zGrp n o P T len k) 199 (zadd n P (zsg P (zch T len (zsp T len p))) (fun _ => 0) A) q9)
        cases htl : zTL n o P T len (zGrp n o P T len k) 199 A e with
        | inl x =>
          rw [htl] at hk
          exact hk
        | inr x =>
          obtain ⟨A3, q3⟩ := x
          rw [htl] at hk
          exact hk
  refine hS p d B sg st hp (by omega) hB ?_
  by_cases h45 : zch T len (zsp T len p) = 45
  · rw [if_pos h45]
    have hql := zch_in h45 (by decide)
    exact go _ true _ (by omega) (by rw [if_pos h45]) (by rw [h45]; rfl) (va_up_self _ _ _) (fun j hj => va_up_ne _ _ (by omega))
  · rw [if_neg h45]
    exact go _ false sg hq.2 (by rw [if_neg h45]) (by unfold zsg; rw [if_neg h45]; rfl) hsg (fun j hj => rfl)
theorem zMALL (hS : zClS n P T len Good) (hF : zClF n o P T len Good Fin) (hA : zClA n o P T len Good Fin) (hD : zClD n o P T len Good Fin) (hlen : len ≤ 200) (hc : zCfg n o) (hP : 2 ≤ P) : ∀ (k : Nat) (p d : Nat) (B : Nat → Nat → Nat) (sg : Nat → Bool) (st : Nat → Option Nat), d + k = 20 → p ≤ len → (∀ t, zpol n P (B t)) → B (8 + 3 * d) = (fun _ => 0) → sg d = false → st d = none → zKS n P T len Good Fin d B sg st (zSum n o P T len (zGrp n o P T len k) p) → Good p 0 d B sg st
  | 0 => fun p d B sg st hdk hp hB h8 hsg hst hk => zSUM hS hD hlen hc hP 0 (fun p d B sg st a b c h => zFAC hF hA hlen hc hP 0 (fun j hj => by omega) a b c h) hdk hp hB h8 hsg hst hk
  | k + 1 => fun p d B sg st hdk hp hB h8 hsg hst hk => zSUM hS hD hlen hc hP (k + 1) (fun p d B sg st a b c h => zFAC hF hA hlen hc hP (k + 1) (fun j hj => by
      have e : j = k := by omega
      subst e
      exact zMALL hS hF hA hD hlen hc hP j) a b c h) hdk hp hB h8 hsg hst hk
/-- the outcome of a text, as the reference's machine ends with it -/
def zOf (r : zRs) : (Nat × Nat) ⊕ (Nat → Nat) := match r with
  | .inl x => .inl x
  | .inr (A, _) => .inr A
theorem zMACH (hS : zClS n P T len Good) (hF : zClF n o P T len Good Fin) (hA : zClA n o P T len Good Fin) (hD : zClD n o P T len Good Fin) (hlen : len ≤ 200) (hc : zCfg n o) (hP : 2 ≤ P) {B : Nat → Nat → Nat} {sg : Nat → Bool} {st : Nat → Option Nat} (hB : ∀ t, zpol n P (B t)) (h8 : B 8 = (fun _ => 0)) (hsg : sg 0 = false) (hst : st 0 = none) (hk : Fin (zOf (zText n o P T len))) : Good 0 0 0 B sg st := by
  refine zMALL hS hF hA hD hlen hc hP 20 0 0 B sg st rfl (Nat.zero_le _) hB h8 hsg hst ?_
  unfold zText at hk
  cases hs : zSum n o P T len (zGrp n o P T len 20) 0 with
  | inl x =>
    rw [hs] at hk
    exact hk
  | inr x =>
    obtain ⟨S, q⟩ := x
    rw [hs] at hk
    simp only at hk
    have hsp := zSum_sp hlen hc hP (zGrp_ok hc hP 20) (Nat.zero_le _) hs
    rw [hsp] at hk
    simp only [zKS]
    rw [if_neg (Nat.lt_irrefl 0)]
    by_cases h1 : zch T len q = -1
    · rw [if_pos h1]
      rw [if_pos h1] at hk
      exact hk
    · rw [if_neg h1]
      rw [if_neg h1] at hk
      exact hk
end ZPE2
