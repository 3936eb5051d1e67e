/-! the reference as a whole -/
def zMt (G : zG) (w : Nat → Option va_E) (T : Nat → Nat) (len : Nat) (out : List Nat) : Prop :=
  (∃ hd : Nat → Int32, w 106 = some (zi G 200 hd) ∧ ∀ i, i < len → hd i = nI (T i)) ∧ (∀ i, T i < 256) ∧ len ≤ 200 ∧ (∃ tx : Nat → Int32, w 107 = some (zi G 200 tx)) ∧ (∃ sg : Nat → Int32, w 108 = some (zi G 21 sg)) ∧ (∃ st : Nat → Int32, w 109 = some (zi G 21 st)) ∧
  (∃ ob : Nat → Int32, w 110 = some (zi G 4000 ob) ∧ ∀ i, i < out.length → ob i = nI (out.getD i 0)) ∧ out.length ≤ 2268
def zMd (G : zG) (ad : Nat → Nat) (w : Nat → Option va_E) (P n o : Nat) (A : Nat → Nat → Nat) (T : Nat → Nat) (len : Nat) (flt pl : Int32) (out : List Nat) (thr : Int32) : Prop :=
  ∃ (F : Nat → Int32) (B : Nat → Nat → Nat), zMod G ad w P n o F B ∧ (∀ k, k < 8 → B k = A k) ∧ (F 0 = thr ∧ F 13 = nI len ∧ F 14 = flt ∧ F 15 = pl ∧ F 26 = nI out.length) ∧ zMt G w T len out
/-- what the reference leaves alone -/
def zfm (w w' : Nat → Option va_E) : Prop := ∀ k, ¬ (100 ≤ k ∧ k ≤ 110) → w' k = w k
theorem zfm.rfl' (w : Nat → Option va_E) : zfm w w := fun _ _ => rfl
theorem zfm.trans {w w1 w2 : Nat → Option va_E} (h1 : zfm w w1) (h2 : zfm w1 w2) : zfm w w2 := fun k h => (h2 k h).trans (h1 k h)
theorem zfm.up {w : Nat → Option va_E} {t : Nat} {x : Option va_E} (h : 100 ≤ t ∧ t ≤ 110) : zfm w (va_up w t x) := fun k hk => va_up_ne _ _ (by omega)
theorem zf5.fm {w w' : Nat → Option va_E} (h : zf5 w w') : zfm w w' := fun k hk => h k (by omega)
section ZMX
variable {G : zG} {ad : Nat → Nat} {w w' : Nat → Option va_E} {P n o : Nat} {F : Nat → Int32} {A B : Nat → Nat → Nat} {T : Nat → Nat} {len : Nat} {flt pl thr : Int32} {out : List Nat}
theorem zMt.cong (h : zMt G w T len out) (e : ∀ k, 106 ≤ k → k ≤ 110 → w' k = w k) : zMt G w' T len out := by
  obtain ⟨h1, h2, h3, h4, h5, h6, h7, h8⟩ := h
  exact ⟨by rw [e _ (by decide) (by decide)]; exact h1, h2, h3, by rw [e _ (by decide) (by decide)]; exact h4, by rw [e _ (by decide) (by decide)]; exact h5, by rw [e _ (by decide) (by decide)]; exact h6, by rw [e _ (by decide) (by decide)]; exact h7, h8⟩
theorem zMt.f5 (h : zMt G w T len out) (e : zf5 w w') : zMt G w' T len out := h.cong (fun k h1 h2 => e k (by omega))
theorem zMod.put (h : zMod G ad w P n o F B) {j : Nat} {x : Int32} (hj : ¬ (j = 1 ∨ j = 2 ∨ j = 3 ∨ j = 4 ∨ j = 10)) : zMod G ad (va_up w 100 (some (oM ad (upd F j x)))) P n o (upd F j x) B :=
  h.obj (fun k hk => va_up_ne _ _ (by omega)) (va_up_self _ _ _) (fun i hi => pk_un (by omega))
theorem zMt.put (h : zMt G w T len out) {x : Option va_E} : zMt G (va_up w 100 x) T len out := h.cong (fun k h1 h2 => va_up_ne _ _ (by omega))
end ZMX
def zlk (a b : Int32) (q : Bool) : Bool := !(zip8 a && zip8 b && !q)
theorem zlk_f {a b : Int32} {q : Bool} (h : zlk a b q = false) : zip8 a = true ∧ zip8 b = true ∧ q = false := by
  unfold zlk at h
  cases h1 : zip8 a <;> cases h2 : zip8 b <;> cases q <;> simp_all
theorem zlk_t {a b : Int32} {q : Bool} (h : zlk a b q = true) : ¬ (zip8 a = true ∧ zip8 b = true ∧ q = false) := by
  unfold zlk at h
  cases h1 : zip8 a <;> cases h2 : zip8 b <;> cases q <;> simp_all
/-- a target gets each source's number but once -/
theorem zD0_new {n o P v : Nat} {A : Nat → Nat} {i q : Nat} (hc : zCfg n o) (hi : i < zCt n) (hk : zKy n o q + zWt n v = zKy n o i) : zD0 n o P v A i q = 0 := by
  unfold zD0
  rw [show zdf n o v A q i = 0 from zs_zero i (fun i9 h9 => if_neg (fun h8 => by have := zKy_inj hc (show i9 < zCt n by omega) hi (by omega); omega)), Nat.zero_mod]
  split <;> rfl
theorem zvp_4 {n o P : Nat} {xs : Nat → Nat} {c i : Nat} (hc : zCfg n o) (hi : i < zCt n) : zvp n o P xs c i 4 = zvp n o P xs c i n := by
  have hn := hc.2.1
  have hn1 := hc.1
  have h : ∀ d v, v + d = 4 → n ≤ v → zvp n o P xs c i 4 = zvp n o P xs c i v := by
    intro d
    induction d with
    | zero => intro v h1 h2; rw [show v = 4 by omega]
    | succ d ih =>
      intro v h1 h2
      rw [ih (v + 1) (by omega) (by omega)]
      show ztp P _ _ (zEx n o v i) = _
      rw [zEx_out hc hi (by omega) h2]
      rfl
  exact h (4 - n) n (by omega) (Nat.le_refl _)
