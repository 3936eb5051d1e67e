/-! ===== lN n to 2^64: shifts, and, or, masks, one bit ===== -/
theorem wb_tb (n : Nat) : (lN n).toBitVec = BitVec.ofNat 64 n := rfl
theorem wb_inj {a b : Int64} (h : a.toBitVec = b.toBitVec) : a = b := Int64.toBitVec_inj.mp h
theorem wb_tn {n : Nat} (h : n < 2 ^ 64) : (lN n).toBitVec.toNat = n := by rw [wb_tb, BitVec.toNat_ofNat, Nat.mod_eq_of_lt h]
theorem wb_of (x : Int64) : ∃ n, n < 2 ^ 64 ∧ x = lN n := ⟨x.toBitVec.toNat, x.toBitVec.isLt, wb_inj (by rw [wb_tb]; simp)⟩
theorem wb_of32 (x : Int32) : ∃ n, n < 2 ^ 32 ∧ x = nI n := ⟨x.toBitVec.toNat, x.toBitVec.isLt, Int32.toBitVec_inj.mp (by show _ = BitVec.ofNat 32 _; simp)⟩
theorem wb_c : ∀ k, k < 64 → ((nI k).toInt64 &&& 63) = lN k := by decide +kernel
theorem wb_cu : ∀ k, k < 64 → ((nI k).toInt64.toUInt64 &&& Int64.toUInt64 63) = UInt64.ofNat k := by decide +kernel
theorem wb_sm : ∀ k, k < 64 → (BitVec.ofNat 64 k).smod 64 = BitVec.ofNat 64 k := by decide +kernel
theorem wb_pw {a b : Nat} (h : a ≤ b) : 2 ^ b = 2 ^ a * 2 ^ (b - a) := by rw [← Nat.pow_add]; congr 1; omega
theorem wb_lt2 {a b : Nat} (h : a < b) : 2 ^ a < 2 ^ b := Nat.pow_lt_pow_right (by decide) h
theorem wb_mod (n : Nat) : lN n = lN (n % 2 ^ 64) := wb_inj (by rw [wb_tb, wb_tb]; apply BitVec.eq_of_toNat_eq; rw [BitVec.toNat_ofNat, BitVec.toNat_ofNat, Nat.mod_mod])
theorem wb_shr {n k : Nat} (hn : n < 2 ^ 64) (hk : k < 64) : ((lN n).toUInt64 >>> ((nI k).toInt64.toUInt64 &&& Int64.toUInt64 63)).toInt64 = lN (n / 2 ^ k) := by
  rw [wb_cu k hk]
  apply wb_inj
  apply BitVec.eq_of_toNat_eq
  show ((lN n).toUInt64 >>> UInt64.ofNat k).toNat = (BitVec.ofNat 64 _).toNat
  have h1 : (UInt64.ofNat k).toNat = k := by
    show (BitVec.ofNat 64 k).toNat = k
    rw [BitVec.toNat_ofNat, Nat.mod_eq_of_lt (by omega)]
  have h2 : (lN n).toUInt64.toNat = n := wb_tn hn
  rw [UInt64.toNat_shiftRight, h1, h2, Nat.mod_eq_of_lt hk, Nat.shiftRight_eq_div_pow, BitVec.toNat_ofNat, Nat.mod_eq_of_lt (Nat.lt_of_le_of_lt (Nat.div_le_self _ _) hn)]
theorem wb_shl (n : Nat) {k : Nat} (hk : k < 64) : lN n <<< ((nI k).toInt64 &&& 63) = lN (n * 2 ^ k) := by
  rw [wb_c k hk]
  apply wb_inj
  rw [Int64.toBitVec_shiftLeft, wb_tb, wb_tb, wb_tb, wb_sm k hk]
  apply BitVec.eq_of_toNat_eq
  rw [BitVec.shiftLeft_eq', BitVec.toNat_shiftLeft, BitVec.toNat_ofNat, BitVec.toNat_ofNat, BitVec.toNat_ofNat, Nat.mod_eq_of_lt (show k < 2 ^ 64 by omega), Nat.shiftLeft_eq, Nat.mul_mod, Nat.mod_mod, ← Nat.mul_mod]
theorem wb_and {a b : Nat} (ha : a < 2 ^ 64) (hb : b < 2 ^ 64) : lN a &&& lN b = lN (a &&& b) := by
  apply wb_inj
  rw [Int64.toBitVec_and, wb_tb, wb_tb, wb_tb]
  apply BitVec.eq_of_toNat_eq
  rw [BitVec.toNat_and, BitVec.toNat_ofNat, BitVec.toNat_ofNat, BitVec.toNat_ofNat, Nat.mod_eq_of_lt ha, Nat.mod_eq_of_lt hb, Nat.mod_eq_of_lt (Nat.and_lt_two_pow _ hb)]
theorem wb_or {a b : Nat} (ha : a < 2 ^ 64) (hb : b < 2 ^ 64) : lN a ||| lN b = lN (a ||| b) := by
  apply wb_inj
  rw [Int64.toBitVec_or, wb_tb, wb_tb, wb_tb]
  apply BitVec.eq_of_toNat_eq
  rw [BitVec.toNat_or, BitVec.toNat_ofNat, BitVec.toNat_ofNat, BitVec.toNat_ofNat, Nat.mod_eq_of_lt ha, Nat.mod_eq_of_lt hb, Nat.mod_eq_of_lt (Nat.or_lt_two_pow ha hb)]
theorem wb_mask {n k : Nat} (hn : n < 2 ^ 64) (hk : k < 64) : lN n &&& lN (2 ^ k - 1) = lN (n % 2 ^ k) := by
  rw [wb_and hn (by have := wb_lt2 hk; omega), Nat.and_two_pow_sub_one_eq_mod]

theorem zup_comm {α : Type} {f : Nat → α} {a b : Nat} {x y : α} (h : a ≠ b) : va_up (va_up f a x) b y = va_up (va_up f b y) a x := by
  funext j
  by_cases h1 : j = a
  · subst h1
    rw [va_up_ne _ _ h, va_up_self, va_up_self]
  · by_cases h2 : j = b
    · subst h2
      rw [va_up_self, va_up_ne _ _ h1, va_up_self]
    · rw [va_up_ne _ _ h2, va_up_ne _ _ h1, va_up_ne _ _ h1, va_up_ne _ _ h2]
theorem zm1 (x : Int32) : x - 1 = x + (-1) := Int32.sub_eq_add_neg x 1
theorem zup_id {α : Type} {f : Nat → α} {a : Nat} {x : α} (h : f a = x) : va_up f a x = f := by
  funext j
  by_cases h1 : j = a
  · subst h1
    rw [va_up_self, h]
  · rw [va_up_ne _ _ h1]
/-- byte i of a long -/
def zbyt (v : Int64) (i : Nat) : Nat := v.toBitVec.toNat / 2 ^ (8 * i) % 256
theorem zbyt_lt (v : Int64) (i : Nat) : zbyt v i < 256 := Nat.mod_lt _ (by decide)
theorem zbyt_c (v : Int64) {i : Nat} (hi : i < 8) : ((v.toUInt64 >>> ((8 * nI i : Int32).toInt64.toUInt64 &&& Int64.toUInt64 63)).toInt64 &&& 255).toInt32 = nI (zbyt v i) := by
  obtain ⟨n, hn, rfl⟩ := wb_of v
  rw [show (8 * nI i : Int32) = nI (8 * i) from pk_mul 8 i, wb_shr hn (by omega)]
  have h1 : n / 2 ^ (8 * i) < 2 ^ 64 := Nat.lt_of_le_of_lt (Nat.div_le_self _ _) hn
  rw [show (255 : Int64) = lN (2 ^ 8 - 1) from rfl, wb_mask h1 (by decide), lN_i]
  unfold zbyt
  rw [wb_tn hn]
theorem zbyt_ch (v : Int64) (i : Nat) : ((nI (zbyt v i)).toUInt32 % 65536).toInt32 = nI (zbyt v i) := by
  have h := zbyt_lt v i
  rw [pk_char, pk_tn (by omega), Nat.mod_eq_of_lt (by omega)]
theorem zsshr8 (x : BitVec 64) {k : Nat} (hk : k ≤ 56) : (x.sshiftRight k).toNat % 256 = x.toNat / 2 ^ k % 256 := by
  have h : (x.sshiftRight k).setWidth 8 = (x >>> k).setWidth 8 := by
    apply BitVec.eq_of_getLsbD_eq
    intro i hi
    rw [BitVec.getLsbD_setWidth, BitVec.getLsbD_setWidth, BitVec.getLsbD_sshiftRight, BitVec.getLsbD_ushiftRight]
    simp [show ¬ 64 ≤ i by omega, show k + i < 64 by omega]
  have h2 := congrArg BitVec.toNat h
  rw [BitVec.toNat_setWidth, BitVec.toNat_setWidth, BitVec.toNat_ushiftRight, Nat.shiftRight_eq_div_pow] at h2
  exact h2
theorem zbyt_m (v : Int64) {i : Nat} (hi : i < 8) : ((v >>> ((8 * nI i : Int32).toInt64 &&& 63)).toInt32 &&& 255) = nI (zbyt v i) := by
  rw [pk_and _ 8 (by decide), show (8 * nI i : Int32) = nI (8 * i) from pk_mul 8 i, wb_c _ (by omega)]
  congr 1
  have h1 : (v >>> lN (8 * i)).toBitVec = v.toBitVec.sshiftRight (8 * i) := by
    show v.toBitVec.sshiftRight' ((lN (8 * i)).toBitVec.smod 64) = _
    rw [wb_tb, wb_sm _ (by omega)]
    show v.toBitVec.sshiftRight (BitVec.ofNat 64 (8 * i)).toNat = _
    rw [BitVec.toNat_ofNat, Nat.mod_eq_of_lt (by omega)]
  have h2 : (v >>> lN (8 * i)).toInt32.toBitVec = (v >>> lN (8 * i)).toBitVec.signExtend 32 := rfl
  rw [h2, BitVec.toNat_signExtend, h1]
  simp only [BitVec.toNat_setWidth]
  have h3 := zsshr8 v.toBitVec (k := 8 * i) (by omega)
  unfold zbyt
  rw [← h3]
  simp
/-- whether n bytes more find room behind len -/
def zfit (len : Nat) (n : Int32) : Bool := decide (¬ n < 0 ∧ n ≤ 8 ∧ len + n.toNatClampNeg ≤ 200)
def zlen (len : Nat) (n : Int32) : Nat := if zfit len n = true then len + n.toNatClampNeg else len
/-- the text with k bytes more -/
def zapk (T : Nat → Nat) (len : Nat) (v : Int64) (k : Nat) : Nat → Nat := fun j => if j < len then T j else if j < len + k then zbyt v (k - 1 - (j - len)) else 0
def zapp (T : Nat → Nat) (len : Nat) (v : Int64) (n : Int32) : Nat → Nat := if zfit len n = true then zapk T len v n.toNatClampNeg else T
theorem zapk_lt {T : Nat → Nat} {len : Nat} {v : Int64} {k : Nat} (h : ∀ i, T i < 256) : ∀ i, zapk T len v k i < 256 := by
  intro i
  unfold zapk
  split
  · exact h i
  · split
    · exact zbyt_lt _ _
    · decide
theorem zfit_ok {len : Nat} {n : Int32} (h : zfit len n = true) : ∃ k : Nat, n = nI k ∧ k ≤ 8 ∧ len + k ≤ 200 := by
  have h9 := of_decide_eq_true h
  obtain ⟨k, h1, h2⟩ := nI_of h9.1
  subst h2
  refine ⟨k, rfl, ?_, ?_⟩
  · exact (nI_leI h1 (by decide)).mp h9.2.1
  · have := h9.2.2
    rw [ncl h1] at this
    exact this
theorem zfit_yes {len k : Nat} (h1 : k ≤ 8) (h2 : len + k ≤ 200) : zfit len (nI k) = true := decide_eq_true ⟨nI_pos (by omega), nI_le (b := 8) h1 (by decide), by rw [ncl (by omega)]; exact h2⟩
theorem zlen_yes {len k : Nat} (h1 : k ≤ 8) (h2 : len + k ≤ 200) : zlen len (nI k) = len + k := by
  unfold zlen
  rw [if_pos (zfit_yes h1 h2), ncl (by omega)]
theorem zapp_yes {T : Nat → Nat} {len k : Nat} {v : Int64} (h1 : k ≤ 8) (h2 : len + k ≤ 200) : zapp T len v (nI k) = zapk T len v k := by
  unfold zapp
  rw [if_pos (zfit_yes h1 h2), ncl (by omega)]
theorem zfit_no {len : Nat} {n : Int32} (h : ¬ zfit len n = true) : zfit len n = false := by
  cases h9 : zfit len n with
  | true => exact absurd h9 h
  | false => rfl
theorem zlen_no {len : Nat} {n : Int32} (h : ¬ zfit len n = true) : zlen len n = len := if_neg h
theorem zapp_no {T : Nat → Nat} {len : Nat} {v : Int64} {n : Int32} (h : ¬ zfit len n = true) : zapp T len v n = T := if_neg h
