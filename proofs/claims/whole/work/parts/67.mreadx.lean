/-! what one step of the reference's reading leaves -/
section ZES
variable (n o P : Nat) (T : Nat → Nat) (len : Nat) (Good : zGd) (Fin : zFn) (q d : Nat) (B : Nat → Nat → Nat) (sg : Nat → Bool) (st : Nat → Option Nat)
def zEF : Prop := if zch T len q = 40 then (if d = 20 then Fin (.inl (2, q)) else Good (q + 1) 0 (d + 1) (va_up B (8 + 3 * (d + 1)) (fun _ => 0)) (va_up sg (d + 1) false) (va_up st (d + 1) none))
   else if zisd (zch T len q) = true then (match zNum T len 9 q with | .inl x => Fin (.inl x) | .inr (v, e) => Good e 2 d (va_up B (10 + 3 * d) (zcon (zIdx n o 0) (v % P))) sg st)
   else if zvar (zch T len q) < n then Good (q + 1) 2 d (va_up B (10 + 3 * d) (zcon (zIdx n o (zWt n (zvar (zch T len q)))) 1)) sg st
   else Fin (.inl (1, q))
def zEA : Prop := if zch T len q = 94 then (match zNm T len 2 (q + 1) with
    | .inl x => Fin (.inl x)
    | .inr (v, e) => if zhighp n o (fun i => nI (B (10 + 3 * d) i)) v = true then Fin (.inl (3, q)) else Good e 3 d (va_up B (10 + 3 * d) (zpow n o P (zIdx n o 0) (B (10 + 3 * d)) v)) sg st)
   else Good q 3 d B sg st
def zED : Prop := match zcomb n o P (st d) (B (9 + 3 * d)) (B (10 + 3 * d)) with
   | .inl x => Fin (.inl x)
   | .inr T9 => if zch T len q = 42 then Good (q + 1) 1 d (va_up B (9 + 3 * d) T9) sg (va_up st d (some q))
     else if zch T len q = 43 ∨ zch T len q = 45 then Good (q + 1) 1 d (va_up (va_up B (9 + 3 * d) T9) (8 + 3 * d) (zadd n P (zsn P (sg d)) (B (8 + 3 * d)) T9)) (va_up sg d (decide (zch T len q = 45))) (va_up st d none)
     else if zch T len q = 41 ∧ 0 < d then Good (q + 1) 2 (d - 1) (va_up (va_up (va_up B (9 + 3 * d) T9) (8 + 3 * d) (zadd n P (zsn P (sg d)) (B (8 + 3 * d)) T9)) (10 + 3 * (d - 1)) (zadd n P (zsn P (sg d)) (B (8 + 3 * d)) T9)) (va_up sg d false) (va_up st d none)
     else if zch T len q = -1 ∧ d = 0 then Fin (.inr (zadd n P (zsn P (sg d)) (B (8 + 3 * d)) T9))
     else Fin (.inl (1, q))
end ZES
/-- both of two steps, at the same next place -/
def zBth (len : Nat) (Good Go : zGd) (Fin Fi : zFn) (B : Nat → Nat → Nat) (c : Int32) : Prop :=
  (∃ (p s d : Nat) (B' : Nat → Nat → Nat) (sg : Nat → Bool) (st : Nat → Option Nat), (∀ t, t < 8 → B' t = B t) ∧ c ≠ -1 ∧ Good p s d B' sg st ∧ Go p s d B' sg st) ∨
  (∃ (f pl : Nat), Fin (.inl (f, pl)) ∧ Fi (.inl (f, pl))) ∨ ∃ S, c = -1 ∧ Fin (.inr S) ∧ Fi (.inr S)
section ZEB
variable {n o P : Nat} {T : Nat → Nat} {len : Nat} {Good Go : zGd} {Fin Fi : zFn} {q d : Nat} {B : Nat → Nat → Nat} {sg : Nat → Bool} {st : Nat → Option Nat}
theorem zEF.both (h1 : zEF n o P T len Good Fin q d B sg st) (h2 : zEF n o P T len Go Fi q d B sg st) : (∃ (p s d : Nat) (B' : Nat → Nat → Nat) (sg : Nat → Bool) (st : Nat → Option Nat), (∀ t, t < 8 → B' t = B t) ∧ Good p s d B' sg st ∧ Go p s d B' sg st) ∨ (∃ (f pl : Nat), Fin (.inl (f, pl)) ∧ Fi (.inl (f, pl))) := by
  unfold zEF at h1 h2
  by_cases c1 : zch T len q = 40
  · rw [if_pos c1] at h1 h2
    by_cases c2 : d = 20
    · rw [if_pos c2] at h1 h2
      exact .inr ⟨_, _, h1, h2⟩
    · rw [if_neg c2] at h1 h2
      exact .inl ⟨_, _, _, _, _, _, fun t ht => va_up_ne _ _ (by omega), h1, h2⟩
  · rw [if_neg c1] at h1 h2
    by_cases c2 : zisd (zch T len q) = true
    · rw [if_pos c2] at h1 h2
      cases hn : zNum T len 9 q with
      | inl x =>
        rw [hn] at h1 h2
        exact .inr ⟨_, _, h1, h2⟩
      | inr x =>
        rw [hn] at h1 h2
        exact .inl ⟨_, _, _, _, _, _, fun t ht => va_up_ne _ _ (by omega), h1, h2⟩
    · rw [if_neg c2] at h1 h2
      by_cases c3 : zvar (zch T len q) < n
      · rw [if_pos c3] at h1 h2
        exact .inl ⟨_, _, _, _, _, _, fun t ht => va_up_ne _ _ (by omega), h1, h2⟩
      · rw [if_neg c3] at h1 h2
        exact .inr ⟨_, _, h1, h2⟩
theorem zEA.both (h1 : zEA n o P T len Good Fin q d B sg st) (h2 : zEA n o P T len Go Fi q d B sg st) : (∃ (p s d : Nat) (B' : Nat → Nat → Nat) (sg : Nat → Bool) (st : Nat → Option Nat), (∀ t, t < 8 → B' t = B t) ∧ Good p s d B' sg st ∧ Go p s d B' sg st) ∨ (∃ (f pl : Nat), Fin (.inl (f, pl)) ∧ Fi (.inl (f, pl))) := by
  unfold zEA at h1 h2
  by_cases c1 : zch T len q = 94
  · rw [if_pos c1] at h1 h2
    cases hn : zNm T len 2 (q + 1) with
    | inl x =>
      rw [hn] at h1 h2
      exact .inr ⟨_, _, h1, h2⟩
    | inr x =>
      rw [hn] at h1 h2
      simp only at h1 h2
      by_cases c2 : zhighp n o (fun i => nI (B (10 + 3 * d) i)) x.1 = true
      · rw [if_pos c2] at h1 h2
        exact .inr ⟨_, _, h1, h2⟩
      · rw [if_neg c2] at h1 h2
        exact .inl ⟨_, _, _, _, _, _, fun t ht => va_up_ne _ _ (by omega), h1, h2⟩
  · rw [if_neg c1] at h1 h2
    exact .inl ⟨_, _, _, _, _, _, fun t ht => rfl, h1, h2⟩
theorem zED.both (h1 : zED n o P T len Good Fin q d B sg st) (h2 : zED n o P T len Go Fi q d B sg st) : (∃ (p s d : Nat) (B' : Nat → Nat → Nat) (sg : Nat → Bool) (st : Nat → Option Nat), (∀ t, t < 8 → B' t = B t) ∧ ¬ zch T len q = -1 ∧ Good p s d B' sg st ∧ Go p s d B' sg st) ∨ (∃ (f pl : Nat), Fin (.inl (f, pl)) ∧ Fi (.inl (f, pl))) ∨ ∃ S, zch T len q = -1 ∧ Fin (.inr S) ∧ Fi (.inr S) := by
  unfold zED at h1 h2
  cases hn : zcomb n o P (st d) (B (9 + 3 * d)) (B (10 + 3 * d)) with
  | inl x =>
    rw [hn] at h1 h2
    exact .inr (.inl ⟨_, _, h1, h2⟩)
  | inr T9 =>
    rw [hn] at h1 h2
    simp only at h1 h2
    by_cases c1 : zch T len q = 42
    · rw [if_pos c1] at h1 h2
      exact .inl ⟨_, _, _, _, _, _, fun t ht => va_up_ne _ _ (by omega), by rw [c1]; decide, h1, h2⟩
    · rw [if_neg c1] at h1 h2
      by_cases c2 : zch T len q = 43 ∨ zch T len q = 45
      · rw [if_pos c2] at h1 h2
        exact .inl ⟨_, _, _, _, _, _, fun t ht => by rw [va_up_ne _ _ (by omega), va_up_ne _ _ (by omega)], fun h9 => by rw [h9] at c2; exact absurd c2 (by decide), h1, h2⟩
      · rw [if_neg c2] at h1 h2
        by_cases c3 : zch T len q = 41 ∧ 0 < d
        · rw [if_pos c3] at h1 h2
          exact .inl ⟨_, _, _, _, _, _, fun t ht => by rw [va_up_ne _ _ (by omega), va_up_ne _ _ (by omega), va_up_ne _ _ (by omega)], by rw [c3.1]; decide, h1, h2⟩
        · rw [if_neg c3] at h1 h2
          by_cases c4 : zch T len q = -1 ∧ d = 0
          · rw [if_pos c4] at h1 h2
            exact .inr (.inr ⟨_, c4.1, h1, h2⟩)
          · rw [if_neg c4] at h1 h2
            exact .inr (.inl ⟨_, _, h1, h2⟩)
end ZEB
def zGo (G : zG) (ad : Nat → Nat) (w : Nat → Option va_E) (P n o : Nat) (F : Nat → Int32) (T : Nat → Nat) (len : Nat) (w' : Nat → Option va_E) : zGd := fun p s d B sg st =>
  ∃ (F' : Nat → Int32) (B' : Nat → Nat → Nat), zRr G ad w' P n o F' B' T len sg st d (d + 1) ∧ (∀ t, t < 71 → B' t = B t) ∧ (F' 17 = nI p ∧ F' 18 = nI s ∧ F' 20 = F 20 ∧ F' 21 = F 21) ∧ zfF F F' ∧ zfr w w'
def zAr (G : zG) (w : Nat → Option va_E) : Prop := (∃ sa : Nat → Int32, w 108 = some (zi G 21 sa)) ∧ ∃ ta : Nat → Int32, w 109 = some (zi G 21 ta)
theorem zAr.up {G : zG} {w : Nat → Option va_E} {x : Option va_E} (h : zAr G w) : zAr G (va_up w 100 x) := ⟨by rw [va_up_ne _ _ (by decide)]; exact h.1, by rw [va_up_ne _ _ (by decide)]; exact h.2⟩
theorem zRr.ar {G : zG} {ad : Nat → Nat} {w : Nat → Option va_E} {P n o : Nat} {F : Nat → Int32} {B : Nat → Nat → Nat} {T : Nat → Nat} {len : Nat} {sg : Nat → Bool} {st : Nat → Option Nat} {d b : Nat} (h : zRr G ad w P n o F B T len sg st d b) : zAr G w := by
  obtain ⟨h1, h2, h3, h4, ⟨sa, h5, _⟩, ta, h6, _⟩ := h
  exact ⟨⟨sa, h5⟩, ta, h6⟩
/-- another field is written -/
theorem zRr.put {G : zG} {ad : Nat → Nat} {w : Nat → Option va_E} {P n o : Nat} {F : Nat → Int32} {B : Nat → Nat → Nat} {T : Nat → Nat} {len : Nat} {sg : Nat → Bool} {st : Nat → Option Nat} {d b : Nat} (h : zRr G ad w P n o F B T len sg st d b) {j : Nat} {x : Int32} (hj : ¬ (j = 1 ∨ j = 2 ∨ j = 3 ∨ j = 4 ∨ j = 10 ∨ j = 16 ∨ j = 19)) : zRr G ad (va_up w 100 (some (oM ad (upd F j x)))) P n o (upd F j x) B T len sg st d b := by
  obtain ⟨h1, ⟨a1, a2, a3⟩, h3, h4, h5, h6⟩ := h
  exact ⟨h1.put (by omega), ⟨by rw [pk_un (by omega)]; exact a1, by rw [pk_un (by omega)]; exact a2, a3⟩, by rw [va_up_ne _ _ (by decide)]; exact h3, h4, by rw [va_up_ne _ _ (by decide)]; exact h5, by rw [va_up_ne _ _ (by decide)]; exact h6⟩
def zFi (G : zG) (ad : Nat → Nat) (w : Nat → Option va_E) (P n o : Nat) (F : Nat → Int32) (B : Nat → Nat → Nat) (T : Nat → Nat) (len : Nat) (w' : Nat → Option va_E) : zFn := fun r => match r with
  | .inl (f, pl) => ∃ (F' : Nat → Int32) (B' : Nat → Nat → Nat), zMod G ad w' P n o F' B' ∧ (∀ t, t < 8 → B' t = B t) ∧ (F' 20 = nI f ∧ F' 21 = nI pl ∧ 1 ≤ f ∧ f ≤ 4) ∧ zAr G w' ∧ zfF F F' ∧ zfr w w'
  | .inr S => ∃ (F' : Nat → Int32) (B' : Nat → Nat → Nat) (sg : Nat → Bool) (st : Nat → Option Nat), zRr G ad w' P n o F' B' T len sg st 0 1 ∧ (∀ t, t < 8 → B' t = B t) ∧ (B' 8 = S ∧ F' 20 = F 20 ∧ F' 21 = F 21) ∧ zfF F F' ∧ zfr w w'
/-- a depth is written -/
theorem zRr.dep {G : zG} {ad : Nat → Nat} {w : Nat → Option va_E} {P n o : Nat} {F F' : Nat → Int32} {B : Nat → Nat → Nat} {T : Nat → Nat} {len : Nat} {sg : Nat → Bool} {st : Nat → Option Nat} {d d' b b' : Nat} (h : zRr G ad w P n o F B T len sg st d b) (hF : zfF F F') (h19 : F' 19 = nI d') (hd : d' ≤ 20) (hb : b' ≤ b) : zRr G ad (va_up w 100 (some (oM ad F'))) P n o F' B T len sg st d' b' := by
  obtain ⟨h1, ⟨a1, a2, a3⟩, h3, h4, ⟨sa, c1, c2⟩, ta, e1, e2⟩ := h
  exact ⟨h1.obj (fun k hk => va_up_ne _ _ (by omega)) (va_up_self _ _ _) (fun j hj => hF j (by omega)), ⟨by rw [hF 16 (by decide)]; exact a1, h19, hd⟩, by rw [va_up_ne _ _ (by decide)]; exact h3, h4, ⟨sa, by rw [va_up_ne _ _ (by decide)]; exact c1, fun j hj => c2 j (by omega)⟩, ta, by rw [va_up_ne _ _ (by decide)]; exact e1, fun j hj => e2 j (by omega)⟩
theorem znF_fF (T : Nat → Nat) (len m q : Nat) (F : Nat → Int32) : zfF F (znF T len m q F) := fun j hj => by
  unfold znF
  split
  · rw [pk_un (by omega), pk_un (by omega), pk_un (by omega)]
  · rw [pk_un (by omega)]
theorem znF_19 (T : Nat → Nat) (len m q : Nat) (F : Nat → Int32) : znF T len m q F 19 = F 19 := by
  unfold znF
  split <;> rfl
theorem zisd_var {c : Int32} (h : zisd c = true) : zvar c = 4 := by
  unfold zisd at h
  rw [Bool.and_eq_true, decide_eq_true_eq, decide_eq_true_eq] at h
  have hn : ∀ x : Int32, (57 : Int32) < x → ¬ c = x := fun x hx e => by
    subst e
    have h1 := Int32.le_iff_toInt_le.mp h.2
    have h2 := Int32.lt_iff_toInt_lt.mp hx
    omega
  unfold zvar
  rw [if_neg (hn _ (by decide)), if_neg (hn _ (by decide)), if_neg (hn _ (by decide)), if_neg (hn _ (by decide))]
theorem zcon_up (B : Nat → Nat → Nat) (t i v : Nat) : va_up (va_up B t (fun _ => 0)) t (va_up (va_up B t (fun _ => 0) t) i v) = va_up B t (zcon i v) := by
  rw [va_up_self, bx_uu]
  rfl
theorem zup_cong {α : Type} {f g : Nat → α} {t k : Nat} {x y : α} (h : ∀ j, j < k → f j = g j) (e : x = y) : ∀ j, j < k → va_up f t x j = va_up g t y j := fun j hj => by
  by_cases h9 : j = t
  · subst h9
    rw [va_up_self, va_up_self, e]
  · rw [va_up_ne _ _ h9, va_up_ne _ _ h9]
    exact h j hj
theorem zhighp_0 {n o : Nat} {g : Nat → Int32} {v : Nat} : zhighp n o g v = true ↔ (0 < zdgr n o g ∧ nI (zHi n) < zdgr n o g * nI v) := by
  unfold zhighp
  rw [Bool.and_eq_true, decide_eq_true_eq, decide_eq_true_eq]
  constructor
  · rintro ⟨h1, h2⟩
    refine ⟨?_, h2⟩
    apply Int32.lt_iff_toInt_lt.mpr
    have h3 := Int32.le_iff_toInt_le.mp h1
    by_cases h4 : zdgr n o g = 0
    · rw [h4, Int32.zero_mul] at h2
      exact absurd h2 (nI_pos (by have := zHi_le (n := n); omega))
    · have h5 : (0 : Int32).toInt = 0 := rfl
      have h6 : (zdgr n o g).toInt ≠ 0 := fun h9 => h4 (Int32.toInt_inj.mp (by rw [h9]; rfl))
      omega
  · rintro ⟨h1, h2⟩
    exact ⟨by
      apply Int32.le_iff_toInt_le.mpr
      have h3 := Int32.lt_iff_toInt_lt.mp h1
      omega, h2⟩
