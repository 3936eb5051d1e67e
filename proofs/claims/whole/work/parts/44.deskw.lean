/-! the desk in a world -/
theorem zRm_fit {k k1 n c0 n0 : Nat} (h : k1 < k) (hn : n ≤ 45) : (zR k1).frames + 1 ≤ (zRx k c0 n0).frames ∧ 8 + (n + 11) + (zR k1).locals ≤ (zRx k c0 n0).locals := by
  show 2 * k1 + 1 ≤ 2 * k ∧ 8 + (n + 11) + 64 * k1 ≤ 64 * k
  omega
def zDk (G : zG) (ad : Nat → Nat) (w : Nat → Option va_E) (P n o : Nat) (A : Nat → Nat → Nat) (T : Nat → Nat) (len : Nat) (flt pl : Int32) (out : List Nat) : Prop :=
  ∃ FR FE : Nat → Int32, zRdr G ad w P n o FR FE T len ∧ FE 4 = flt ∧ FE 5 = pl ∧ w 0 = some (oK ad (fun _ => 0)) ∧ w 14 = some (zq G 8 (fun k => some (ad (20 + k)))) ∧ (∃ g : Nat → Int32, w 15 = some (zi G 4 g)) ∧ zPrn G ad w out ∧ ∀ k, k < 8 → w (20 + k) = some (zrow G (A k)) ∧ zpol n P (A k)
/-- what the desk leaves alone -/
def zfk (w w' : Nat → Option va_E) : Prop := ∀ k, 73 ≤ k → w' k = w k
theorem zfk.rfl' (w : Nat → Option va_E) : zfk w w := fun _ _ => rfl
theorem zfk.trans {w w1 w2 : Nat → Option va_E} (h1 : zfk w w1) (h2 : zfk w1 w2) : zfk w w2 := fun k h => (h2 k h).trans (h1 k h)
theorem zfk.up {w : Nat → Option va_E} {t : Nat} {x : Option va_E} (h : t < 73) : zfk w (va_up w t x) := fun k hk => va_up_ne _ _ (by omega)
/-- whether it is an index of a polynomial -/
def zip8 (k : Int32) : Bool := decide (¬ k < 0 ∧ k < 8)
theorem zip8_ok {k : Int32} (h : zip8 k = true) : ∃ j : Nat, j < 8 ∧ k = nI j := by
  have h9 := of_decide_eq_true h
  obtain ⟨j, h1, rfl⟩ := nI_of h9.1
  exact ⟨j, (nI_ltI (b := 8) h1 (by decide)).mp h9.2, rfl⟩
theorem zip8_nI {j : Nat} (h : j < 8) : zip8 (nI j) = true := decide_eq_true ⟨nI_pos (by omega), nI_lt (b := 8) h (by decide)⟩
theorem zPrn.cong {G : zG} {ad : Nat → Nat} {w w' : Nat → Option va_E} {out : List Nat} (h : zPrn G ad w out) (h3 : w' 3 = w 3) (h13 : w' 13 = w 13) : zPrn G ad w' out := by
  obtain ⟨FP, pb, a, b, c, d, e⟩ := h
  exact ⟨FP, pb, by rw [h3]; exact a, b, by rw [h13]; exact c, d, e⟩
section ZDK
variable {G : zG} {ad : Nat → Nat} {w w' : Nat → Option va_E} {P n o : Nat} {A : Nat → Nat → Nat} {T : Nat → Nat} {len : Nat} {flt pl : Int32} {out : List Nat}
/-- a polynomial is written -/
theorem zDk.row (h : zDk G ad w P n o A T len flt pl out) {t : Nat} {B : Nat → Nat} (ht : t < 8) (hB : zpol n P B) : zDk G ad (va_up w (20 + t) (some (zrow G B))) P n o (va_up A t B) T len flt pl out := by
  obtain ⟨FR, FE, h1, h2, h3, h4, h5, h6, h7, h8⟩ := h
  refine ⟨FR, FE, h1.row (by omega) (by omega), h2, h3, by rw [va_up_ne _ _ (by omega)]; exact h4, by rw [va_up_ne _ _ (by omega)]; exact h5, by rw [va_up_ne _ _ (by omega)]; exact h6, h7.cong (va_up_ne _ _ (by omega)) (va_up_ne _ _ (by omega)), fun k hk => ?_⟩
  by_cases e : k = t
  · subst e
    rw [va_up_self, va_up_self]
    exact ⟨rfl, hB⟩
  · rw [va_up_ne _ _ (by omega), va_up_ne _ _ e]
    exact h8 k hk
/-- a row of work is written -/
theorem zDk.work (h : zDk G ad w P n o A T len flt pl out) {t : Nat} {f : Nat → Int32} (h1 : 28 ≤ t) (h2 : t ≤ 72) : zDk G ad (va_up w t (some (zi G 126 f))) P n o A T len flt pl out := by
  obtain ⟨FR, FE, a1, a2, a3, a4, a5, a6, a7, a8⟩ := h
  exact ⟨FR, FE, a1.row (by omega) (by omega), a2, a3, by rw [va_up_ne _ _ (by omega)]; exact a4, by rw [va_up_ne _ _ (by omega)]; exact a5, by rw [va_up_ne _ _ (by omega)]; exact a6, a7.cong (va_up_ne _ _ (by omega)) (va_up_ne _ _ (by omega)), fun k hk => by rw [va_up_ne _ _ (by omega)]; exact a8 k hk⟩
/-- the numbers are written -/
theorem zDk.nums (h : zDk G ad w P n o A T len flt pl out) {f : Nat → Int32} : zDk G ad (va_up w 15 (some (zi G 4 f))) P n o A T len flt pl out := by
  obtain ⟨FR, FE, a1, a2, a3, a4, a5, a6, a7, a8⟩ := h
  obtain ⟨b1, b2, b3, b4, b5, b6, b7, b8, b9⟩ := a1
  have e : ∀ k, k ≠ 15 → va_up w 15 (some (zi G 4 f)) k = w k := fun k h => va_up_ne _ _ h
  refine ⟨FR, FE, ⟨?_, by rw [e _ (by decide)]; exact b2, by rw [e _ (by decide)]; exact b3, b4, b5, b6, by rw [e _ (by decide)]; exact b7, by rw [e _ (by decide)]; exact b8, fun k h1 h2 => by rw [e _ (by omega)]; exact b9 k h1 h2⟩, a2, a3, by rw [e _ (by decide)]; exact a4, by rw [e _ (by decide)]; exact a5, ⟨f, va_up_self _ _ _⟩, a7.cong (e _ (by decide)) (e _ (by decide)), fun k hk => by rw [e _ (by omega)]; exact a8 k hk⟩
  obtain ⟨c1, c2, c3, c4, c5, c6, c7, c8, c9, c10, c11⟩ := b1
  exact ⟨by rw [e _ (by decide)]; exact c1, c2, c3, c4, by rw [e _ (by decide)]; exact c5, fun v hv => by rw [e _ (by omega)]; exact c6 v hv, by rw [e _ (by decide)]; exact c7, by rw [e _ (by decide)]; exact c8, by rw [e _ (by decide)]; exact c9, by rw [e _ (by decide)]; exact c10, by rw [e _ (by decide)]; exact c11⟩
/-- the output is written -/
theorem zDk.outp (h : zDk G ad w P n o A T len flt pl out) {out' : List Nat} (hp : zPrn G ad w' out') (e : zpf w w') : zDk G ad w' P n o A T len flt pl out' := by
  obtain ⟨FR, FE, a1, a2, a3, a4, a5, a6, a7, a8⟩ := h
  obtain ⟨b1, b2, b3, b4, b5, b6, b7, b8, b9⟩ := a1
  exact ⟨FR, FE, ⟨b1.pf e, by rw [e _ (by decide) (by decide)]; exact b2, by rw [e _ (by decide) (by decide)]; exact b3, b4, b5, b6, by rw [e _ (by decide) (by decide)]; exact b7, by rw [e _ (by decide) (by decide)]; exact b8, fun k h1 h2 => by rw [e _ (by omega) (by omega)]; exact b9 k h1 h2⟩, a2, a3, by rw [e _ (by decide) (by decide)]; exact a4, by rw [e _ (by decide) (by decide)]; exact a5, by rw [e _ (by decide) (by decide)]; exact a6, hp, fun k hk => by rw [e _ (by omega) (by omega)]; exact a8 k hk⟩
/-- a text was read -/
theorem zDk.read (h : zDk G ad w P n o A T len flt pl out) {FR FE : Nat → Int32} {T' : Nat → Nat} {len' t : Nat} {B : Nat → Nat} (h1 : zRdr G ad w' P n o FR FE T' len') (ht : t < 8) (e : zrt (20 + t) w w') (hB : w' (20 + t) = some (zrow G B)) (hpB : zpol n P B) : zDk G ad w' P n o (va_up A t B) T' len' (FE 4) (FE 5) out := by
  obtain ⟨FR0, FE0, a1, a2, a3, a4, a5, a6, a7, a8⟩ := h
  refine ⟨FR, FE, h1, rfl, rfl, by rw [e _ (by omega)]; exact a4, by rw [e _ (by omega)]; exact a5, by rw [e _ (by omega)]; exact a6, a7.cong (e _ (by omega)) (e _ (by omega)), fun k hk => ?_⟩
  by_cases e9 : k = t
  · subst e9
    rw [va_up_self]
    exact ⟨hB, hpB⟩
  · rw [va_up_ne _ _ e9, e _ (by omega)]
    exact a8 k hk
/-- the text grew -/
theorem zDk.text (h : zDk G ad w P n o A T len flt pl out) {FR FE : Nat → Int32} {T' : Nat → Nat} {len' : Nat} (h1 : zRdr G ad w' P n o FR FE T' len') (e : ∀ k, k ≠ 2 → k ≠ 10 → w' k = w k) (h4 : FE 4 = flt) (h5 : FE 5 = pl) : zDk G ad w' P n o A T' len' flt pl out := by
  obtain ⟨FR0, FE0, a1, a2, a3, a4, a5, a6, a7, a8⟩ := h
  exact ⟨FR, FE, h1, h4, h5, by rw [e _ (by decide) (by decide)]; exact a4, by rw [e _ (by decide) (by decide)]; exact a5, by rw [e _ (by decide) (by decide)]; exact a6, a7.cong (e _ (by decide) (by decide)) (e _ (by decide) (by decide)), fun k hk => by rw [e _ (by omega) (by omega)]; exact a8 k hk⟩
end ZDK
theorem zsum_nat3 {n P : Nat} {S A C : Nat → Nat} {f : Int32} (hP1 : 2 ≤ P) (hP2 : P ≤ 32003) (hS : zpol n P S) (hA : zpol n P A) (hC : zpol n P C) : zsum P (zCt n) (fun j => nI (S j)) f (fun j => nI (A j)) (fun j => nI (C j)) = fun j => nI (zadd n P (zred P f) S A j) := by
  funext j
  unfold zsum zadd
  by_cases h : j < zCt n
  · have h1 := hS.1 j
    have h2 := hA.1 j
    have h3 := zred_lt f (P := P) (by omega)
    have h4 := zmul_lt hP2 h3 h2
    rw [if_pos h, if_pos h, pk_mul, nI_add, zred_nI (by omega)]
  · rw [if_neg h, if_neg h]; show nI (C j) = nI 0; rw [hC.2 j (by omega)]
theorem zD0_pol {n o P v : Nat} (hP : 0 < P) (A : Nat → Nat) : zpol n P (zder n o P v A) := ⟨fun k => zD0_lt hP A _ k, fun k hk => by unfold zder zD0; rw [if_neg (by omega)]⟩
theorem zB0_pol {n o P v x : Nat} (hP : 0 < P) (A : Nat → Nat) : zpol n P (zsub n o P v x A) := ⟨fun k => zB0_lt hP A _ k, fun k hk => by unfold zsub zB0; rw [if_neg (by omega)]⟩
/-- the primes up to 32003 -/
def zprm (p : Int32) : Prop := ∃ P : Nat, p = nI P ∧ 2 ≤ P ∧ P ≤ 32003 ∧ ∀ d, 2 ≤ d → d * d ≤ P → P % d ≠ 0
noncomputable def zprb (p : Int32) : Bool := @decide (zprm p) (Classical.propDecidable _)
theorem zprb_t {p : Int32} (h : zprm p) : zprb p = true := @decide_eq_true _ (Classical.propDecidable _) h
theorem zprb_f {p : Int32} (h : ¬ zprm p) : zprb p = false := @decide_eq_false _ (Classical.propDecidable _) h
theorem zprb_ok {p : Int32} (h : zprb p = true) : zprm p := @of_decide_eq_true _ (Classical.propDecidable _) h
