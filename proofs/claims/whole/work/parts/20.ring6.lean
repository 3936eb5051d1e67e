/-- the derivative by the variable v, place by place -/
def zdf (n o v : Nat) (A : Nat → Nat) (k : Nat) : Nat → Nat := zs (fun i => if 0 < zEx n o v i ∧ zKy n o i = zKy n o k + zWt n v then A i * zEx n o v i else 0)
def zD0 (n o P v : Nat) (A : Nat → Nat) (i : Nat) : Nat → Nat := fun k => if k < zCt n then zdf n o v A k i % P else 0
def zder (n o P v : Nat) (A : Nat → Nat) : Nat → Nat := zD0 n o P v A (zCt n)
theorem zD0_lt {n o P v : Nat} (hP : 0 < P) (A : Nat → Nat) (i k : Nat) : zD0 n o P v A i k < P := by
  unfold zD0
  split
  · exact Nat.mod_lt _ hP
  · exact hP
theorem zD0_skip {n o P v : Nat} {A : Nat → Nat} {i : Nat} (h : A i = 0 ∨ zEx n o v i = 0) : zD0 n o P v A (i + 1) = zD0 n o P v A i := by
  funext k
  unfold zD0
  rw [show zdf n o v A k (i + 1) = zdf n o v A k i + (if 0 < zEx n o v i ∧ zKy n o i = zKy n o k + zWt n v then A i * zEx n o v i else 0) from rfl]
  rw [show (if 0 < zEx n o v i ∧ zKy n o i = zKy n o k + zWt n v then A i * zEx n o v i else 0) = 0 by
    rcases h with h | h
    · rw [h, Nat.zero_mul]; split <;> rfl
    · rw [h, Nat.mul_zero]; split <;> rfl]
  rfl
theorem zD0_step {n o P v : Nat} {A : Nat → Nat} {i q : Nat} (hc : zCfg n o) (hq : q < zCt n) (he : 0 < zEx n o v i) (hk : zKy n o q + zWt n v = zKy n o i) : va_up (zD0 n o P v A i) q ((zD0 n o P v A i q + A i * zEx n o v i) % P) = zD0 n o P v A (i + 1) := by
  funext k
  have e : ∀ k, zdf n o v A k (i + 1) = zdf n o v A k i + (if 0 < zEx n o v i ∧ zKy n o i = zKy n o k + zWt n v then A i * zEx n o v i else 0) := fun _ => rfl
  by_cases h : k = q
  · subst h
    rw [va_up_self]
    unfold zD0
    rw [if_pos hq, if_pos hq, e, if_pos ⟨he, hk.symm⟩, Nat.mod_add_mod]
  · rw [va_up_ne _ _ h]
    unfold zD0
    by_cases hk2 : k < zCt n
    · rw [if_pos hk2, if_pos hk2, e, if_neg (fun h9 => h (zKy_inj hc hk2 hq (by omega))), Nat.add_zero]
    · rw [if_neg hk2, if_neg hk2]
/-- a number put for the variable v, place by place -/
def zbf (n o P v x : Nat) (A : Nat → Nat) (k : Nat) : Nat → Nat := zs (fun i => if zKy n o i = zKy n o k + zEx n o v i * zWt n v then ztp P (A i) x (zEx n o v i) else 0)
def zB0 (n o P v x : Nat) (A : Nat → Nat) (i : Nat) : Nat → Nat := fun k => if k < zCt n then zbf n o P v x A k i % P else 0
def zsub (n o P v x : Nat) (A : Nat → Nat) : Nat → Nat := zB0 n o P v x A (zCt n)
theorem zB0_lt {n o P v x : Nat} (hP : 0 < P) (A : Nat → Nat) (i k : Nat) : zB0 n o P v x A i k < P := by
  unfold zB0
  split
  · exact Nat.mod_lt _ hP
  · exact hP
theorem ztp_z (P x : Nat) : ∀ e, ztp P 0 x e = 0
  | 0 => rfl
  | e + 1 => by rw [ztp, ztp_z P x e, Nat.zero_mul, Nat.zero_mod]
theorem zB0_skip {n o P v x : Nat} {A : Nat → Nat} {i : Nat} (h : A i = 0) : zB0 n o P v x A (i + 1) = zB0 n o P v x A i := by
  funext k
  unfold zB0
  rw [show zbf n o P v x A k (i + 1) = zbf n o P v x A k i + (if zKy n o i = zKy n o k + zEx n o v i * zWt n v then ztp P (A i) x (zEx n o v i) else 0) from rfl, h, ztp_z]
  split <;> simp
theorem zB0_step {n o P v x : Nat} {A : Nat → Nat} {i q : Nat} (hc : zCfg n o) (hq : q < zCt n) (hk : zKy n o q + zEx n o v i * zWt n v = zKy n o i) : va_up (zB0 n o P v x A i) q ((zB0 n o P v x A i q + ztp P (A i) x (zEx n o v i)) % P) = zB0 n o P v x A (i + 1) := by
  funext k
  have e : ∀ k, zbf n o P v x A k (i + 1) = zbf n o P v x A k i + (if zKy n o i = zKy n o k + zEx n o v i * zWt n v then ztp P (A i) x (zEx n o v i) else 0) := fun _ => rfl
  by_cases h : k = q
  · subst h
    rw [va_up_self]
    unfold zB0
    rw [if_pos hq, if_pos hq, e, if_pos hk.symm, Nat.mod_add_mod]
  · rw [va_up_ne _ _ h]
    unfold zB0
    by_cases hk2 : k < zCt n
    · rw [if_pos hk2, if_pos hk2, e, if_neg (fun h9 => h (zKy_inj hc hk2 hq (by omega))), Nat.add_zero]
    · rw [if_neg hk2, if_neg hk2]
/-- what a term comes to with numbers for the first v variables -/
def zvp (n o P : Nat) (xs : Nat → Nat) (c i : Nat) : Nat → Nat
  | 0 => c
  | v + 1 => ztp P (zvp n o P xs c i v) (xs v) (zEx n o v i)
theorem zvp_lt {n o P : Nat} {xs : Nat → Nat} {c i : Nat} (hc : c < P) : ∀ v, zvp n o P xs c i v < P
  | 0 => hc
  | v + 1 => ztp_lt (zvp_lt hc v) _
theorem zvp_z {n o P : Nat} {xs : Nat → Nat} {c i v : Nat} (h : zvp n o P xs c i v = 0) : ∀ k, zvp n o P xs c i (v + k) = 0
  | 0 => h
  | k + 1 => by
    show ztp P (zvp n o P xs c i (v + k)) _ _ = 0
    rw [zvp_z h k, ztp_z]
def zevl (n o P : Nat) (xs : Nat → Nat) (A : Nat → Nat) : Nat → Nat := fun i => zs (fun i => zvp n o P xs (A i) i n) i % P
theorem zEx_le {n o i v : Nat} (hc : zCfg n o) (hi : i < zCt n) (hv : v < 4) : zEx n o v i ≤ 30 := by
  have h1 := zDg_le hc hi
  have h2 := zHi_le (n := n)
  unfold zDg at h1
  have hv4 : v = 0 ∨ v = 1 ∨ v = 2 ∨ v = 3 := by omega
  rcases hv4 with rfl | rfl | rfl | rfl <;> omega

set_option maxHeartbeats 4000000 in
set_option maxRecDepth 100000 in
theorem c_R_writeDerivative (l : Launch) {G : zG} {ad : Nat → Nat} {w : Nat → Option va_E} (P n o : Nat) (F : Nat → Int32) (hR : zRing G ad w P n o F) (a v t : Nat) (A : Nat → Nat) (gs gt : Nat → Int32) (hv : v < n) (ha0 : a ≠ 71) (ht0 : 20 ≤ t) (hA : ∀ i, A i < P) (ha : w a = some (zrow G A)) (hs : w 71 = some (zi G 126 gs)) (ht : w t = some (zi G 126 gt)) : Met l yR_writeDerivative wR_writeDerivative (zR (2)) (va_Pc [.ref (ad 1), .ref (ad a), .int (nI v), .ref (ad t)] (zw_U G ad w)) (va_Qv (S := Nat → Option va_E) (fun w' => w' = va_up (va_up w 71 (some (zrow G (zder n o P v A)))) t (some (zrow G (zder n o P v A)))) (fun u t => zw_U G ((fun _ => ad) u) ((fun w' => w') u) t) (zA G)) 0 0 (zA G) := by
  refine zw_methv (S := Nat → Option va_E) (fa := fun _ => ad) (fw := fun w' => w') (by decide) rfl (Nat.le_of_ble_eq_true rfl) ?_
  intro p e s m below meth c Q ls C hname Z hl hret
  obtain ⟨hx, hb, hml, hown, hts, hlk⟩ := C
  have hT : ∀ w ∈ zT, w.before ([.ref (ad 1), .ref (ad a), .int (nI v), .ref (ad t)] : List Value).toArray s = true := fun w h => hts w (List.mem_cons_of_mem _ h)
  have hown : s.vm.findClass "PolynomialDesk$Ring" = some m.cls := hown
  have hl : lv_has ls 6 [(0, .ref (ad 1)), (1, .ref (ad a)), (2, .int (nI v)), (3, .ref (ad t))] := hl
  obtain ⟨h1, ⟨hF0, hF1, hF2, hF3, hF4⟩, ⟨hP1, hP2⟩, hcfg, h4, h16, ⟨dg, h5, hdg⟩, ⟨ky, h6, hky⟩, ⟨wt, h7, hwt⟩, ⟨ix, h8, hix⟩, ⟨ch, h9⟩⟩ := id hR
  have hct := zCt_le (n := n)
  have hn4 := hcfg.2.1
  refine lv_aload_n hx hb dR_writeDerivative_0 rfl (lv_at hl 0 rfl) ?_
  refine zw_get (v := .ref (ad 71)) hx hb hT uR hown Z h1 rfl 11 (by decide) (hT _ mf_R_32) (fun _ h9 => h9) rfl dR_writeDerivative_1 ?_
  refine lv_iconst (v := 0) hx hb dR_writeDerivative_4 (by decide) ?_
  refine zw_callv (va_runS (As := [.ref (ad 71), .int 0]) (rest := []) ⟨hx, hb, hml, hown, hts⟩ (c_J_fill l 71 126 gs 0 hs (by decide)) (kw_J_fill hts ml_R_57 (zR_fit (by omega) (by omega))) (Z.preS _) rfl rfl hl.1 rfl (lv_room (Nat.le_of_ble_eq_true rfl)) dR_writeDerivative_5 ⟨Nat.le_of_ble_eq_true rfl, Nat.le_of_ble_eq_true rfl⟩) Z (fun w1 H locs hp Z => ?_)
  subst hp
  refine lv_iconst (v := 0) hx hb dR_writeDerivative_8 (by decide) ?_
  refine lv_istore (lv' := [(4, .int 0), (0, .ref (ad 1)), (1, .ref (ad a)), (2, .int (nI v)), (3, .ref (ad t))]) hx hb dR_writeDerivative_9 hl (by decide) rfl (fun ls hl => ?_)
  have loop : ∀ (k i : Nat) (H : Heap) (locs : List Loc) (ls : Array Slot), i + k = zCt n → zw G ad (va_up w 71 (some (zrow G (zD0 n o P v A i)))) s H locs → lv_has ls 6 [(4, .int (nI i)), (0, .ref (ad 1)), (1, .ref (ad a)), (2, .int (nI v)), (3, .ref (ad t))] → W p l e (zR (2)) s m ([.ref (ad 1), .ref (ad a), .int (nI v), .ref (ad t)] : List Value).toArray below meth c H locs 0 0 Q (F0 m 11 ls []) := by
    intro k
    induction k with
    | zero =>
      intro i H locs ls hi Z hl
      have hR1 : zRing G ad (va_up w 71 (some (zrow G (zD0 n o P v A i)))) P n o F := hR.up (by decide)
      have ha1 : (va_up w 71 (some (zrow G (zD0 n o P v A i)))) a = some (zrow G A) := by rw [va_up_ne _ _ ha0]; exact ha
      have h61 : (va_up w 71 (some (zrow G (zD0 n o P v A i)))) 6 = some (zi G 126 ky) := by rw [va_up_ne _ _ (by decide)]; exact h6
      have h71 : (va_up w 71 (some (zrow G (zD0 n o P v A i)))) 7 = some (zi G 4 wt) := by rw [va_up_ne _ _ (by decide)]; exact h7
      refine lv_iload hx hb dR_writeDerivative_11 (lv_at hl 0 rfl) ?_
      refine lv_aload_n hx hb dR_writeDerivative_13 rfl (lv_at hl 1 rfl) ?_
      refine zw_get (v := .int (F 4)) hx hb hT uR hown Z hR1.1 rfl 4 (by decide) (hT _ mf_R_54) (fun _ h9 => h9) rfl dR_writeDerivative_14 ?_
      refine lv_icmp_ge (tgt := 76) hx hb dR_writeDerivative_17 (by decide) (fun _ => ?_) (fun hc => absurd (show (F 4) ≤ (nI i) from by rw [hF4]; exact nI_le (by omega) (by omega)) hc)
      rw [show i = zCt n by omega] at Z
      have ht1 : ∃ g9 : Nat → Int32, va_up w 71 (some (zrow G (zder n o P v A))) t = some (zi G 126 g9) := by
        by_cases h : t = 71
        · subst h
          exact ⟨_, va_up_self _ _ _⟩
        · exact ⟨gt, by rw [va_up_ne _ _ h]; exact ht⟩
      obtain ⟨g9, ht1⟩ := ht1
      have Z : zw G ad (va_up w 71 (some (zrow G (zder n o P v A)))) s H locs := Z
      have hR1 : zRing G ad (va_up w 71 (some (zrow G (zder n o P v A)))) P n o F := hR.up (by decide)
      refine lv_aload_n hx hb dR_writeDerivative_76 rfl (lv_at hl 1 rfl) ?_
      refine zw_get (v := .ref (ad 71)) hx hb hT uR hown Z hR1.1 rfl 11 (by decide) (hT _ mf_R_32) (fun _ h9 => h9) rfl dR_writeDerivative_77 ?_
      refine lv_iconst (v := 0) hx hb dR_writeDerivative_80 (by decide) ?_
      refine lv_aload_n hx hb dR_writeDerivative_81 rfl (lv_at hl 4 rfl) ?_
      refine lv_iconst (v := 0) hx hb dR_writeDerivative_82 (by decide) ?_
      refine lv_bipush (v := 126) hx hb dR_writeDerivative_83 (by decide) ?_
      refine zw_copy hx hb (hml.trans hl.1.symm) hown (hT _ ml_R_86) (hT _ mx_copy) (hT _ mt_copy) (hT _ mn_System) Z (n := 126) (va_up_self _ _ _) ht1 (by decide) (Nat.le_of_ble_eq_true rfl) (Nat.le_of_ble_eq_true rfl) dR_writeDerivative_85 (fun H locs Z => ?_)
      exact hret _ _ _ _ _ dR_writeDerivative_88 (rfl) Z
    | succ k ih =>
      intro i H locs ls hi Z hl
      have hR1 : zRing G ad (va_up w 71 (some (zrow G (zD0 n o P v A i)))) P n o F := hR.up (by decide)
      have ha1 : (va_up w 71 (some (zrow G (zD0 n o P v A i)))) a = some (zrow G A) := by rw [va_up_ne _ _ ha0]; exact ha
      have h61 : (va_up w 71 (some (zrow G (zD0 n o P v A i)))) 6 = some (zi G 126 ky) := by rw [va_up_ne _ _ (by decide)]; exact h6
      have h71 : (va_up w 71 (some (zrow G (zD0 n o P v A i)))) 7 = some (zi G 4 wt) := by rw [va_up_ne _ _ (by decide)]; exact h7
      have hex := zEx_le hcfg (show i < zCt n by omega) (show v < 4 by omega)
      refine lv_iload hx hb dR_writeDerivative_11 (lv_at hl 0 rfl) ?_
      refine lv_aload_n hx hb dR_writeDerivative_13 rfl (lv_at hl 1 rfl) ?_
      refine zw_get (v := .int (F 4)) hx hb hT uR hown Z hR1.1 rfl 4 (by decide) (hT _ mf_R_54) (fun _ h9 => h9) rfl dR_writeDerivative_14 ?_
      refine lv_icmp_ge (tgt := 76) hx hb dR_writeDerivative_17 (by decide) (fun hc => absurd hc (show ¬ ((F 4) ≤ (nI i)) from by rw [hF4]; exact nI_ge (by omega) (by omega))) (fun _ => ?_)
      refine lv_aload_n hx hb dR_writeDerivative_20 rfl (lv_at hl 1 rfl) ?_
      refine lv_iload hx hb dR_writeDerivative_21 (lv_at hl 0 rfl) ?_
      refine lv_iload_n hx hb dR_writeDerivative_23 rfl (lv_at hl 3 rfl) ?_
      refine zw_calli (va_runV (As := [.int (nI i), .int (nI v)]) (rest := []) ⟨hx, hb, hml, hown, hts⟩ (c_R_exponentOf l P n o F hR1 i v (by omega) (by omega)) (kw_R_exponentOf hts ml_R_100 (zR_fit (by omega) (by omega))) (Z.preV hR1.1 rfl _) rfl rfl hl.1 rfl (lv_room (Nat.le_of_ble_eq_true rfl)) dR_writeDerivative_24 ⟨Nat.le_of_ble_eq_true rfl, Nat.le_of_ble_eq_true rfl⟩) Z (fun r w1 H locs hp Z => ?_)
      obtain ⟨rfl, hw1⟩ := hp
      rw [hw1] at Z
      clear hw1
      refine lv_istore (lv' := [(5, .int (nI (zEx n o v i))), (4, .int (nI i)), (0, .ref (ad 1)), (1, .ref (ad a)), (2, .int (nI v)), (3, .ref (ad t))]) hx hb dR_writeDerivative_27 hl (by decide) rfl (fun ls hl => ?_)
      refine lv_aload_n hx hb dR_writeDerivative_29 rfl (lv_at hl 3 rfl) ?_
      refine lv_iload hx hb dR_writeDerivative_30 (lv_at hl 1 rfl) ?_
      refine zw_iald hx hb Z ha1 (vin (by omega) (by decide)) dR_writeDerivative_32 ?_
      refine zw_top (nI (A i)) (by rw [ncl (by omega)]) ?_
      refine lv_if_eq (tgt := 70) hx hb dR_writeDerivative_33 (by decide) (fun hq => ?_) (fun hq => ?_)
      · refine lv_iinc (v := (nI (i + 1))) (lv' := [(4, .int (nI (i + 1))), (5, .int (nI (zEx n o v i))), (0, .ref (ad 1)), (1, .ref (ad a)), (2, .int (nI v)), (3, .ref (ad t))]) hx hb dR_writeDerivative_70 hl (k := 1) rfl (nI_1 i) (by decide) rfl (fun ls hl => ?_)
        refine lv_goto (tgt := 11) hx hb dR_writeDerivative_73 (by decide) ?_
        exact ih (i + 1) _ _ ls (by omega) (by rw [zD0_skip (Or.inl (nI_z (by have := hA i; omega) hq))]; exact Z) (lv_sub hl [0, 2, 3, 4, 5] rfl)
      · refine lv_iload hx hb dR_writeDerivative_36 (lv_at hl 0 rfl) ?_
        refine lv_if_le (tgt := 70) hx hb dR_writeDerivative_38 (by decide) (fun hq2 => ?_) (fun hq2 => ?_)
        · refine lv_iinc (v := (nI (i + 1))) (lv' := [(4, .int (nI (i + 1))), (5, .int (nI (zEx n o v i))), (0, .ref (ad 1)), (1, .ref (ad a)), (2, .int (nI v)), (3, .ref (ad t))]) hx hb dR_writeDerivative_70 hl (k := 1) rfl (nI_1 i) (by decide) rfl (fun ls hl => ?_)
          refine lv_goto (tgt := 11) hx hb dR_writeDerivative_73 (by decide) ?_
          exact ih (i + 1) _ _ ls (by omega) (by rw [zD0_skip (Or.inr (by have h9 := (nI_leI (by omega) (by decide)).mp (show nI (zEx n o v i) ≤ nI 0 from hq2); omega))]; exact Z) (lv_sub hl [0, 2, 3, 4, 5] rfl)
        · have he0 : 0 < zEx n o v i := by
            apply Nat.pos_of_ne_zero
            intro h9
            exact hq2 (by rw [h9]; decide)
          obtain ⟨q, hq3, hq4, -⟩ := zSub hcfg (show i < zCt n by omega) (show v < 4 by omega) (q := 1) he0
          rw [Nat.one_mul] at hq4
          have hm9 : A i * zEx n o v i ≤ 32002 * 30 := Nat.mul_le_mul (by have := hA i; omega) hex
          have hs9 := zD0_lt (n := n) (o := o) (v := v) (show 0 < P by omega) A i q
          refine lv_aload_n hx hb dR_writeDerivative_41 rfl (lv_at hl 2 rfl) ?_
          refine lv_aload_n hx hb dR_writeDerivative_42 rfl (lv_at hl 2 rfl) ?_
          refine zw_get (v := .ref (ad 6)) hx hb hT uR hown Z hR1.1 rfl 7 (by decide) (hT _ mf_R_20) (fun _ h9 => h9) rfl dR_writeDerivative_43 ?_
          refine lv_iload hx hb dR_writeDerivative_46 (lv_at hl 1 rfl) ?_
          refine zw_iald hx hb Z h61 (vin (by omega) (by decide)) dR_writeDerivative_48 ?_
          refine zw_top (nI (zKy n o i)) (by rw [ncl (by omega)]; exact hky i (by omega)) ?_
          refine lv_aload_n hx hb dR_writeDerivative_49 rfl (lv_at hl 2 rfl) ?_
          refine zw_get (v := .ref (ad 7)) hx hb hT uR hown Z hR1.1 rfl 8 (by decide) (hT _ mf_R_23) (fun _ h9 => h9) rfl dR_writeDerivative_50 ?_
          refine lv_iload_n hx hb dR_writeDerivative_53 rfl (lv_at hl 4 rfl) ?_
          refine zw_iald hx hb Z h71 (vin (by omega) (by decide)) dR_writeDerivative_54 ?_
          refine zw_top (nI (zWt n v)) (by rw [ncl (by omega)]; exact hwt v (by omega)) ?_
          refine lv_isub hx hb dR_writeDerivative_55 ?_
          refine zw_top (nI (zKy n o q)) (by rw [pk_sub (by omega)]; congr 1; omega) ?_
          refine lv_aload_n hx hb dR_writeDerivative_56 rfl (lv_at hl 3 rfl) ?_
          refine lv_iload hx hb dR_writeDerivative_57 (lv_at hl 1 rfl) ?_
          refine zw_iald hx hb Z ha1 (vin (by omega) (by decide)) dR_writeDerivative_59 ?_
          refine zw_top (nI (A i)) (by rw [ncl (by omega)]) ?_
          refine lv_iload hx hb dR_writeDerivative_60 (lv_at hl 0 rfl) ?_
          refine lv_imul hx hb dR_writeDerivative_62 ?_
          refine zw_top (nI (A i * zEx n o v i)) (pk_mul _ _) ?_
          refine lv_aload_n hx hb dR_writeDerivative_63 rfl (lv_at hl 2 rfl) ?_
          refine zw_get (v := .ref (ad 71)) hx hb hT uR hown Z hR1.1 rfl 11 (by decide) (hT _ mf_R_32) (fun _ h9 => h9) rfl dR_writeDerivative_64 ?_
          refine zw_callv (va_runV (As := [.int (nI (zKy n o q)), .int (nI (A i * zEx n o v i)), .ref (ad 71)]) (rest := []) ⟨hx, hb, hml, hown, hts⟩ (c_R_addAt l P n o F hR1 (zKy n o q) q (A i * zEx n o v i) 71 (zD0 n o P v A i) hq3 rfl (va_up_self _ _ _) (by omega)) (kw_R_addAt hts ml_R_82 (zR_fit (by omega) (by omega))) (Z.preV hR1.1 rfl _) rfl rfl hl.1 rfl (lv_room (Nat.le_of_ble_eq_true rfl)) dR_writeDerivative_67 ⟨Nat.le_of_ble_eq_true rfl, Nat.le_of_ble_eq_true rfl⟩) Z (fun w1 H locs hp Z => ?_)
          subst hp
          rw [bx_uu, zD0_step hcfg hq3 he0 hq4] at Z
          refine lv_iinc (v := (nI (i + 1))) (lv' := [(4, .int (nI (i + 1))), (5, .int (nI (zEx n o v i))), (0, .ref (ad 1)), (1, .ref (ad a)), (2, .int (nI v)), (3, .ref (ad t))]) hx hb dR_writeDerivative_70 hl (k := 1) rfl (nI_1 i) (by decide) rfl (fun ls hl => ?_)
          refine lv_goto (tgt := 11) hx hb dR_writeDerivative_73 (by decide) ?_
          exact ih (i + 1) _ _ ls (by omega) Z (lv_sub hl [0, 2, 3, 4, 5] rfl)
  have hz0 : zD0 n o P v A 0 = fun _ => 0 := by
    funext k
    unfold zD0
    rw [show zdf n o v A k 0 = 0 from rfl, Nat.zero_mod]
    split <;> rfl
  exact loop (zCt n) 0 _ _ ls (by omega) (by rw [hz0]; exact Z) hl

set_option maxHeartbeats 4000000 in
set_option maxRecDepth 100000 in
theorem c_R_writeSubstitute (l : Launch) {G : zG} {ad : Nat → Nat} {w : Nat → Option va_E} (P n o : Nat) (F : Nat → Int32) (hR : zRing G ad w P n o F) (a v t : Nat) (x : Int32) (A : Nat → Nat) (gs gt : Nat → Int32) (hv : v < n) (ha0 : a ≠ 71) (ht0 : 20 ≤ t) (hA : ∀ i, A i < P) (ha : w a = some (zrow G A)) (hs : w 71 = some (zi G 126 gs)) (ht : w t = some (zi G 126 gt)) : Met l yR_writeSubstitute wR_writeSubstitute (zR (3)) (va_Pc [.ref (ad 1), .ref (ad a), .int (nI v), .int x, .ref (ad t)] (zw_U G ad w)) (va_Qv (S := Nat → Option va_E) (fun w' => w' = va_up (va_up w 71 (some (zrow G (zsub n o P v (zred P x) A)))) t (some (zrow G (zsub n o P v (zred P x) A)))) (fun u t => zw_U G ((fun _ => ad) u) ((fun w' => w') u) t) (zA G)) 0 0 (zA G) := by
  refine zw_methv (S := Nat → Option va_E) (fa := fun _ => ad) (fw := fun w' => w') (by decide) rfl (Nat.le_of_ble_eq_true rfl) ?_
  intro p e s m below meth c Q ls C hname Z hl hret
  obtain ⟨hx, hb, hml, hown, hts, hlk⟩ := C
  have hT : ∀ w ∈ zT, w.before ([.ref (ad 1), .ref (ad a), .int (nI v), .int x, .ref (ad t)] : List Value).toArray s = true := fun w h => hts w (List.mem_cons_of_mem _ h)
  have hown : s.vm.findClass "PolynomialDesk$Ring" = some m.cls := hown
  have hl : lv_has ls 8 [(0, .ref (ad 1)), (1, .ref (ad a)), (2, .int (nI v)), (3, .int x), (4, .ref (ad t))] := hl
  obtain ⟨h1, ⟨hF0, hF1, hF2, hF3, hF4⟩, ⟨hP1, hP2⟩, hcfg, h4, h16, ⟨dg, h5, hdg⟩, ⟨ky, h6, hky⟩, ⟨wt, h7, hwt⟩, ⟨ix, h8, hix⟩, ⟨ch, h9⟩⟩ := id hR
  have hct := zCt_le (n := n)
  have hn4 := hcfg.2.1
  obtain ⟨ex, hex, hexi⟩ := h16 v (by omega)
  refine lv_aload_n hx hb dR_writeSubstitute_0 rfl (lv_at hl 0 rfl) ?_
  refine zw_get (v := .ref (ad 71)) hx hb hT uR hown Z h1 rfl 11 (by decide) (hT _ mf_R_32) (fun _ h9 => h9) rfl dR_writeSubstitute_1 ?_
  refine lv_iconst (v := 0) hx hb dR_writeSubstitute_4 (by decide) ?_
  refine zw_callv (va_runS (As := [.ref (ad 71), .int 0]) (rest := []) ⟨hx, hb, hml, hown, hts⟩ (c_J_fill l 71 126 gs 0 hs (by decide)) (kw_J_fill hts ml_R_57 (zR_fit (by omega) (by omega))) (Z.preS _) rfl rfl hl.1 rfl (lv_room (Nat.le_of_ble_eq_true rfl)) dR_writeSubstitute_5 ⟨Nat.le_of_ble_eq_true rfl, Nat.le_of_ble_eq_true rfl⟩) Z (fun w1 H locs hp Z => ?_)
  subst hp
  have hR1 : zRing G ad (va_up w 71 (some (zi G 126 (fun _ => 0)))) P n o F := hR.up (by decide)
  have ha1 : (va_up w 71 (some (zi G 126 (fun _ => 0)))) a = some (zrow G A) := by rw [va_up_ne _ _ ha0]; exact ha
  have h41 : (va_up w 71 (some (zi G 126 (fun _ => 0)))) 4 = some (zq G 4 (fun v => some (ad (16 + v)))) := by rw [va_up_ne _ _ (by decide)]; exact h4
  have h61 : (va_up w 71 (some (zi G 126 (fun _ => 0)))) 6 = some (zi G 126 ky) := by rw [va_up_ne _ _ (by decide)]; exact h6
  have h71 : (va_up w 71 (some (zi G 126 (fun _ => 0)))) 7 = some (zi G 4 wt) := by rw [va_up_ne _ _ (by decide)]; exact h7
  have hx1 : (va_up w 71 (some (zi G 126 (fun _ => 0)))) (16 + v) = some (zi G 126 ex) := by rw [va_up_ne _ _ (by omega)]; exact hex
  refine lv_iload_n hx hb dR_writeSubstitute_8 rfl (lv_at hl 2 rfl) ?_
  refine lv_if_lt (tgt := 100) hx hb dR_writeSubstitute_9 (by decide) (fun hc => absurd hc (show ¬ ((nI v) < 0) from nI_pos (by omega))) (fun _ => ?_)
  refine lv_iload_n hx hb dR_writeSubstitute_12 rfl (lv_at hl 2 rfl) ?_
  refine lv_aload_n hx hb dR_writeSubstitute_13 rfl (lv_at hl 0 rfl) ?_
  refine zw_get (v := .int (F 1)) hx hb hT uR hown Z hR1.1 rfl 1 (by decide) (hT _ mf_R_42) (fun _ h9 => h9) rfl dR_writeSubstitute_14 ?_
  refine lv_icmp_ge (tgt := 100) hx hb dR_writeSubstitute_17 (by decide) (fun hc => absurd hc (show ¬ ((F 1) ≤ (nI v)) from by rw [hF1]; exact nI_ge hv (by omega))) (fun _ => ?_)
  refine lv_aload_n hx hb dR_writeSubstitute_20 rfl (lv_at hl 0 rfl) ?_
  refine lv_iload_n hx hb dR_writeSubstitute_21 rfl (lv_at hl 3 rfl) ?_
  refine zw_calli (va_runV (As := [.int x]) (rest := []) ⟨hx, hb, hml, hown, hts⟩ (c_R_reduce l F hR1.1 P x hF0 hP1 (by omega)) (kw_R_reduce hts ml_R_78 (zR_fit (by omega) (by omega))) (Z.preV hR1.1 rfl _) rfl rfl hl.1 rfl (lv_room (Nat.le_of_ble_eq_true rfl)) dR_writeSubstitute_22 ⟨Nat.le_of_ble_eq_true rfl, Nat.le_of_ble_eq_true rfl⟩) Z (fun r w1 H locs hp Z => ?_)
  obtain ⟨rfl, hw1⟩ := hp
  rw [hw1] at Z
  clear hw1
  have hzx := zred_lt x (P := P) (by omega)
  refine lv_istore (lv' := [(5, .int (nI (zred P x))), (0, .ref (ad 1)), (1, .ref (ad a)), (2, .int (nI v)), (3, .int x), (4, .ref (ad t))]) hx hb dR_writeSubstitute_25 hl (by decide) rfl (fun ls hl => ?_)
  refine lv_iconst (v := 0) hx hb dR_writeSubstitute_27 (by decide) ?_
  refine lv_istore (lv' := [(6, .int 0), (5, .int (nI (zred P x))), (0, .ref (ad 1)), (1, .ref (ad a)), (2, .int (nI v)), (3, .int x), (4, .ref (ad t))]) hx hb dR_writeSubstitute_28 hl (by decide) rfl (fun ls hl => ?_)
  have loop : ∀ (k i : Nat) (H : Heap) (locs : List Loc) (ls : Array Slot), i + k = zCt n → zw G ad (va_up w 71 (some (zrow G (zB0 n o P v (zred P x) A i)))) s H locs → lv_has ls 8 [(6, .int (nI i)), (5, .int (nI (zred P x))), (0, .ref (ad 1)), (1, .ref (ad a)), (2, .int (nI v)), (3, .int x), (4, .ref (ad t))] → W p l e (zR (3)) s m ([.ref (ad 1), .ref (ad a), .int (nI v), .int x, .ref (ad t)] : List Value).toArray below meth c H locs 0 0 Q (F0 m 30 ls []) := by
    intro k
    induction k with
    | zero =>
      intro i H locs ls hi Z hl
      have hR1 : zRing G ad (va_up w 71 (some (zrow G (zB0 n o P v (zred P x) A i)))) P n o F := hR.up (by decide)
      have ha1 : (va_up w 71 (some (zrow G (zB0 n o P v (zred P x) A i)))) a = some (zrow G A) := by rw [va_up_ne _ _ ha0]; exact ha
      have h41 : (va_up w 71 (some (zrow G (zB0 n o P v (zred P x) A i)))) 4 = some (zq G 4 (fun v => some (ad (16 + v)))) := by rw [va_up_ne _ _ (by decide)]; exact h4
      have h61 : (va_up w 71 (some (zrow G (zB0 n o P v (zred P x) A i)))) 6 = some (zi G 126 ky) := by rw [va_up_ne _ _ (by decide)]; exact h6
      have h71 : (va_up w 71 (some (zrow G (zB0 n o P v (zred P x) A i)))) 7 = some (zi G 4 wt) := by rw [va_up_ne _ _ (by decide)]; exact h7
      have hx1 : (va_up w 71 (some (zrow G (zB0 n o P v (zred P x) A i)))) (16 + v) = some (zi G 126 ex) := by rw [va_up_ne _ _ (by omega)]; exact hex
      refine lv_iload hx hb dR_writeSubstitute_30 (lv_at hl 0 rfl) ?_
      refine lv_aload_n hx hb dR_writeSubstitute_32 rfl (lv_at hl 2 rfl) ?_
      refine zw_get (v := .int (F 4)) hx hb hT uR hown Z hR1.1 rfl 4 (by decide) (hT _ mf_R_54) (fun _ h9 => h9) rfl dR_writeSubstitute_33 ?_
      refine lv_icmp_ge (tgt := 100) hx hb dR_writeSubstitute_36 (by decide) (fun _ => ?_) (fun hc => absurd (show (F 4) ≤ (nI i) from by rw [hF4]; exact nI_le (by omega) (by omega)) hc)
      rw [show i = zCt n by omega] at Z
      have ht1 : ∃ g9 : Nat → Int32, va_up w 71 (some (zrow G ((zsub n o P v (zred P x) A)))) t = some (zi G 126 g9) := by
        by_cases h : t = 71
        · subst h
          exact ⟨_, va_up_self _ _ _⟩
        · exact ⟨gt, by rw [va_up_ne _ _ h]; exact ht⟩
      obtain ⟨g9, ht1⟩ := ht1
      have Z : zw G ad (va_up w 71 (some (zrow G ((zsub n o P v (zred P x) A))))) s H locs := Z
      have hR1 : zRing G ad (va_up w 71 (some (zrow G ((zsub n o P v (zred P x) A))))) P n o F := hR.up (by decide)
      refine lv_aload_n hx hb dR_writeSubstitute_100 rfl (lv_at hl 2 rfl) ?_
      refine zw_get (v := .ref (ad 71)) hx hb hT uR hown Z hR1.1 rfl 11 (by decide) (hT _ mf_R_32) (fun _ h9 => h9) rfl dR_writeSubstitute_101 ?_
      refine lv_iconst (v := 0) hx hb dR_writeSubstitute_104 (by decide) ?_
      refine lv_aload hx hb dR_writeSubstitute_105 (lv_at hl 6 rfl) ?_
      refine lv_iconst (v := 0) hx hb dR_writeSubstitute_107 (by decide) ?_
      refine lv_bipush (v := 126) hx hb dR_writeSubstitute_108 (by decide) ?_
      refine zw_copy hx hb (hml.trans hl.1.symm) hown (hT _ ml_R_86) (hT _ mx_copy) (hT _ mt_copy) (hT _ mn_System) Z (n := 126) (va_up_self _ _ _) ht1 (by decide) (Nat.le_of_ble_eq_true rfl) (Nat.le_of_ble_eq_true rfl) dR_writeSubstitute_110 (fun H locs Z => ?_)
      exact hret _ _ _ _ _ dR_writeSubstitute_113 (rfl) Z
    | succ k ih =>
      intro i H locs ls hi Z hl
      have hR1 : zRing G ad (va_up w 71 (some (zrow G (zB0 n o P v (zred P x) A i)))) P n o F := hR.up (by decide)
      have ha1 : (va_up w 71 (some (zrow G (zB0 n o P v (zred P x) A i)))) a = some (zrow G A) := by rw [va_up_ne _ _ ha0]; exact ha
      have h41 : (va_up w 71 (some (zrow G (zB0 n o P v (zred P x) A i)))) 4 = some (zq G 4 (fun v => some (ad (16 + v)))) := by rw [va_up_ne _ _ (by decide)]; exact h4
      have h61 : (va_up w 71 (some (zrow G (zB0 n o P v (zred P x) A i)))) 6 = some (zi G 126 ky) := by rw [va_up_ne _ _ (by decide)]; exact h6
      have h71 : (va_up w 71 (some (zrow G (zB0 n o P v (zred P x) A i)))) 7 = some (zi G 4 wt) := by rw [va_up_ne _ _ (by decide)]; exact h7
      have hx1 : (va_up w 71 (some (zrow G (zB0 n o P v (zred P x) A i)))) (16 + v) = some (zi G 126 ex) := by rw [va_up_ne _ _ (by omega)]; exact hex
      have hel := zEx_le hcfg (show i < zCt n by omega) (show v < 4 by omega)
      refine lv_iload hx hb dR_writeSubstitute_30 (lv_at hl 0 rfl) ?_
      refine lv_aload_n hx hb dR_writeSubstitute_32 rfl (lv_at hl 2 rfl) ?_
      refine zw_get (v := .int (F 4)) hx hb hT uR hown Z hR1.1 rfl 4 (by decide) (hT _ mf_R_54) (fun _ h9 => h9) rfl dR_writeSubstitute_33 ?_
      refine lv_icmp_ge (tgt := 100) hx hb dR_writeSubstitute_36 (by decide) (fun hc => absurd hc (show ¬ ((F 4) ≤ (nI i)) from by rw [hF4]; exact nI_ge (by omega) (by omega))) (fun _ => ?_)
      refine lv_aload_n hx hb dR_writeSubstitute_39 rfl (lv_at hl 2 rfl) ?_
      refine zw_get (v := .ref (ad 4)) hx hb hT uR hown Z hR1.1 rfl 5 (by decide) (hT _ mf_R_13) (fun _ h9 => h9) rfl dR_writeSubstitute_40 ?_
      refine lv_iload_n hx hb dR_writeSubstitute_43 rfl (lv_at hl 4 rfl) ?_
      refine zw_aald (v := .ref (ad (16 + v))) hx hb Z h41 (vin (by omega) (by decide)) (by rw [ncl (by omega)]; rfl) dR_writeSubstitute_44 ?_
      refine lv_iload hx hb dR_writeSubstitute_45 (lv_at hl 0 rfl) ?_
      refine zw_iald hx hb Z hx1 (vin (by omega) (by decide)) dR_writeSubstitute_47 ?_
      refine zw_top (nI (zEx n o v i)) (by rw [ncl (by omega)]; exact hexi i (by omega)) ?_
      refine lv_istore (lv' := [(7, .int (nI (zEx n o v i))), (6, .int (nI i)), (5, .int (nI (zred P x))), (0, .ref (ad 1)), (1, .ref (ad a)), (2, .int (nI v)), (3, .int x), (4, .ref (ad t))]) hx hb dR_writeSubstitute_48 hl (by decide) rfl (fun ls hl => ?_)
      refine lv_aload_n hx hb dR_writeSubstitute_50 rfl (lv_at hl 4 rfl) ?_
      refine lv_iload hx hb dR_writeSubstitute_51 (lv_at hl 1 rfl) ?_
      refine zw_iald hx hb Z ha1 (vin (by omega) (by decide)) dR_writeSubstitute_53 ?_
      refine zw_top (nI (A i)) (by rw [ncl (by omega)]) ?_
      refine lv_if_eq (tgt := 94) hx hb dR_writeSubstitute_54 (by decide) (fun hq => ?_) (fun hq => ?_)
      · refine lv_iinc (v := (nI (i + 1))) (lv' := [(6, .int (nI (i + 1))), (7, .int (nI (zEx n o v i))), (5, .int (nI (zred P x))), (0, .ref (ad 1)), (1, .ref (ad a)), (2, .int (nI v)), (3, .int x), (4, .ref (ad t))]) hx hb dR_writeSubstitute_94 hl (k := 1) rfl (nI_1 i) (by decide) rfl (fun ls hl => ?_)
        refine lv_goto (tgt := 30) hx hb dR_writeSubstitute_97 (by decide) ?_
        exact ih (i + 1) _ _ ls (by omega) (by rw [zB0_skip (nI_z (by have := hA i; omega) hq)]; exact Z) (lv_sub hl [0, 2, 3, 4, 5, 6, 7] rfl)
      · obtain ⟨q, hq3, hq4, -⟩ := zSub hcfg (show i < zCt n by omega) (show v < 4 by omega) (q := zEx n o v i) (Nat.le_refl _)
        have ht9 := ztp_lt (x := zred P x) (hA i) (zEx n o v i)
        have hs9 := zB0_lt (n := n) (o := o) (v := v) (x := zred P x) (show 0 < P by omega) A i q
        refine lv_aload_n hx hb dR_writeSubstitute_57 rfl (lv_at hl 3 rfl) ?_
        refine lv_aload_n hx hb dR_writeSubstitute_58 rfl (lv_at hl 3 rfl) ?_
        refine zw_get (v := .ref (ad 6)) hx hb hT uR hown Z hR1.1 rfl 7 (by decide) (hT _ mf_R_20) (fun _ h9 => h9) rfl dR_writeSubstitute_59 ?_
        refine lv_iload hx hb dR_writeSubstitute_62 (lv_at hl 1 rfl) ?_
        refine zw_iald hx hb Z h61 (vin (by omega) (by decide)) dR_writeSubstitute_64 ?_
        refine zw_top (nI (zKy n o i)) (by rw [ncl (by omega)]; exact hky i (by omega)) ?_
        refine lv_iload hx hb dR_writeSubstitute_65 (lv_at hl 0 rfl) ?_
        refine lv_aload_n hx hb dR_writeSubstitute_67 rfl (lv_at hl 3 rfl) ?_
        refine zw_get (v := .ref (ad 7)) hx hb hT uR hown Z hR1.1 rfl 8 (by decide) (hT _ mf_R_23) (fun _ h9 => h9) rfl dR_writeSubstitute_68 ?_
        refine lv_iload_n hx hb dR_writeSubstitute_71 rfl (lv_at hl 5 rfl) ?_
        refine zw_iald hx hb Z h71 (vin (by omega) (by decide)) dR_writeSubstitute_72 ?_
        refine zw_top (nI (zWt n v)) (by rw [ncl (by omega)]; exact hwt v (by omega)) ?_
        refine lv_imul hx hb dR_writeSubstitute_73 ?_
        refine zw_top (nI (zEx n o v i * zWt n v)) (pk_mul _ _) ?_
        refine lv_isub hx hb dR_writeSubstitute_74 ?_
        refine zw_top (nI (zKy n o q)) (by rw [pk_sub (by omega)]; congr 1; omega) ?_
        refine lv_aload_n hx hb dR_writeSubstitute_75 rfl (lv_at hl 3 rfl) ?_
        refine lv_aload_n hx hb dR_writeSubstitute_76 rfl (lv_at hl 4 rfl) ?_
        refine lv_iload hx hb dR_writeSubstitute_77 (lv_at hl 1 rfl) ?_
        refine zw_iald hx hb Z ha1 (vin (by omega) (by decide)) dR_writeSubstitute_79 ?_
        refine zw_top (nI (A i)) (by rw [ncl (by omega)]) ?_
        refine lv_iload hx hb dR_writeSubstitute_80 (lv_at hl 2 rfl) ?_
        refine lv_iload hx hb dR_writeSubstitute_82 (lv_at hl 0 rfl) ?_
        refine zw_calli (va_runV (As := [.int (nI (A i)), .int (nI (zred P x)), .int (nI (zEx n o v i))]) (rest := [.int (nI (zKy n o q)), .ref (ad 1)]) ⟨hx, hb, hml, hown, hts⟩ (c_R_timesPower l P n o F hR1 (A i) (zred P x) (zEx n o v i) (hA i) hzx (by omega)) (kw_R_timesPower hts ml_R_104 (zR_fit (by omega) (by omega))) (Z.preV hR1.1 rfl _) rfl rfl hl.1 rfl (lv_room (Nat.le_of_ble_eq_true rfl)) dR_writeSubstitute_84 ⟨Nat.le_of_ble_eq_true rfl, Nat.le_of_ble_eq_true rfl⟩) Z (fun r w1 H locs hp Z => ?_)
        obtain ⟨rfl, hw1⟩ := hp
        rw [hw1] at Z
        clear hw1
        refine lv_aload_n hx hb dR_writeSubstitute_87 rfl (lv_at hl 3 rfl) ?_
        refine zw_get (v := .ref (ad 71)) hx hb hT uR hown Z hR1.1 rfl 11 (by decide) (hT _ mf_R_32) (fun _ h9 => h9) rfl dR_writeSubstitute_88 ?_
        refine zw_callv (va_runV (As := [.int (nI (zKy n o q)), .int (nI (ztp P (A i) (zred P x) (zEx n o v i))), .ref (ad 71)]) (rest := []) ⟨hx, hb, hml, hown, hts⟩ (c_R_addAt l P n o F hR1 (zKy n o q) q (ztp P (A i) (zred P x) (zEx n o v i)) 71 (zB0 n o P v (zred P x) A i) hq3 rfl (va_up_self _ _ _) (by omega)) (kw_R_addAt hts ml_R_82 (zR_fit (by omega) (by omega))) (Z.preV hR1.1 rfl _) rfl rfl hl.1 rfl (lv_room (Nat.le_of_ble_eq_true rfl)) dR_writeSubstitute_91 ⟨Nat.le_of_ble_eq_true rfl, Nat.le_of_ble_eq_true rfl⟩) Z (fun w1 H locs hp Z => ?_)
        subst hp
        rw [bx_uu, zB0_step hcfg hq3 hq4] at Z
        refine lv_iinc (v := (nI (i + 1))) (lv' := [(6, .int (nI (i + 1))), (7, .int (nI (zEx n o v i))), (5, .int (nI (zred P x))), (0, .ref (ad 1)), (1, .ref (ad a)), (2, .int (nI v)), (3, .int x), (4, .ref (ad t))]) hx hb dR_writeSubstitute_94 hl (k := 1) rfl (nI_1 i) (by decide) rfl (fun ls hl => ?_)
        refine lv_goto (tgt := 30) hx hb dR_writeSubstitute_97 (by decide) ?_
        exact ih (i + 1) _ _ ls (by omega) Z (lv_sub hl [0, 2, 3, 4, 5, 6, 7] rfl)
  have hz0 : zB0 n o P v (zred P x) A 0 = fun _ => 0 := by
    funext k
    unfold zB0
    rw [show zbf n o P v (zred P x) A k 0 = 0 from rfl, Nat.zero_mod]
    split <;> rfl
  exact loop (zCt n) 0 _ _ ls (by omega) (by rw [hz0]; exact Z) hl

set_option maxHeartbeats 4000000 in
set_option maxRecDepth 100000 in
theorem c_R_evaluate (l : Launch) {G : zG} {ad : Nat → Nat} {w : Nat → Option va_E} (P n o : Nat) (F : Nat → Int32) (hR : zRing G ad w P n o F) (a b : Nat) (A : Nat → Nat) (X : Nat → Int32) (hA : ∀ i, A i < P) (ha : w a = some (zrow G A)) (hb9 : w b = some (zi G 4 X)) : Met l yR_evaluate wR_evaluate (zR (3)) (va_Pc [.ref (ad 1), .ref (ad a), .ref (ad b)] (zw_U G ad w)) (va_Qi (S := Nat → Option va_E) (fun r w' => r = nI (zevl n o P (fun v => zred P (X v)) A (zCt n)) ∧ w' = w) (fun u t => zw_U G ((fun _ => ad) u) ((fun w' => w') u) t) (zA G)) 0 0 (zA G) := by
  refine zw_methi (S := Nat → Option va_E) (fa := fun _ => ad) (fw := fun w' => w') (by decide) rfl (Nat.le_of_ble_eq_true rfl) ?_
  intro p e s m below meth c Q ls C hname Z hl hret
  obtain ⟨hx, hb, hml, hown, hts, hlk⟩ := C
  have hT : ∀ w ∈ zT, w.before ([.ref (ad 1), .ref (ad a), .ref (ad b)] : List Value).toArray s = true := fun w h => hts w (List.mem_cons_of_mem _ h)
  have hown : s.vm.findClass "PolynomialDesk$Ring" = some m.cls := hown
  have hl : lv_has ls 7 [(0, .ref (ad 1)), (1, .ref (ad a)), (2, .ref (ad b))] := hl
  obtain ⟨h1, ⟨hF0, hF1, hF2, hF3, hF4⟩, ⟨hP1, hP2⟩, hcfg, h4, h16, ⟨dg, h5, hdg⟩, ⟨ky, h6, hky⟩, ⟨wt, h7, hwt⟩, ⟨ix, h8, hix⟩, ⟨ch, h9⟩⟩ := id hR
  have hct := zCt_le (n := n)
  have hn4 := hcfg.2.1
  refine lv_iconst (v := 0) hx hb dR_evaluate_0 (by decide) ?_
  refine lv_istore_n (lv' := [(3, .int 0), (0, .ref (ad 1)), (1, .ref (ad a)), (2, .ref (ad b))]) hx hb dR_evaluate_1 rfl hl (by decide) rfl (fun ls hl => ?_)
  refine lv_iconst (v := 0) hx hb dR_evaluate_2 (by decide) ?_
  refine lv_istore (lv' := [(4, .int 0), (3, .int 0), (0, .ref (ad 1)), (1, .ref (ad a)), (2, .ref (ad b))]) hx hb dR_evaluate_3 hl (by decide) rfl (fun ls hl => ?_)
  have loop : ∀ (k i : Nat) (H : Heap) (locs : List Loc) (ls : Array Slot), i + k = zCt n → zw G ad w s H locs → lv_has ls 7 [(4, .int (nI i)), (3, .int (nI (zevl n o P (fun v => zred P (X v)) A i))), (0, .ref (ad 1)), (1, .ref (ad a)), (2, .ref (ad b))] → W p l e (zR (3)) s m ([.ref (ad 1), .ref (ad a), .ref (ad b)] : List Value).toArray below meth c H locs 0 0 Q (F0 m 5 ls []) := by
    intro k
    induction k with
    | zero =>
      intro i H locs ls hi Z hl
      refine lv_iload hx hb dR_evaluate_5 (lv_at hl 0 rfl) ?_
      refine lv_aload_n hx hb dR_evaluate_7 rfl (lv_at hl 2 rfl) ?_
      refine zw_get (v := .int (F 4)) hx hb hT uR hown Z h1 rfl 4 (by decide) (hT _ mf_R_54) (fun _ h9 => h9) rfl dR_evaluate_8 ?_
      refine lv_icmp_ge (tgt := 91) hx hb dR_evaluate_11 (by decide) (fun _ => ?_) (fun hc => absurd (show (F 4) ≤ (nI i) from by rw [hF4]; exact nI_le (by omega) (by omega)) hc)
      refine lv_iload_n hx hb dR_evaluate_91 rfl (lv_at hl 1 rfl) ?_
      exact hret _ _ _ _ _ _ dR_evaluate_92 (⟨by rw [show i = zCt n by omega], rfl⟩) Z
    | succ k ih =>
      intro i H locs ls hi Z hl
      refine lv_iload hx hb dR_evaluate_5 (lv_at hl 0 rfl) ?_
      refine lv_aload_n hx hb dR_evaluate_7 rfl (lv_at hl 2 rfl) ?_
      refine zw_get (v := .int (F 4)) hx hb hT uR hown Z h1 rfl 4 (by decide) (hT _ mf_R_54) (fun _ h9 => h9) rfl dR_evaluate_8 ?_
      refine lv_icmp_ge (tgt := 91) hx hb dR_evaluate_11 (by decide) (fun hc => absurd hc (show ¬ ((F 4) ≤ (nI i)) from by rw [hF4]; exact nI_ge (by omega) (by omega))) (fun _ => ?_)
      refine lv_aload_n hx hb dR_evaluate_14 rfl (lv_at hl 3 rfl) ?_
      refine lv_iload hx hb dR_evaluate_15 (lv_at hl 0 rfl) ?_
      refine zw_iald hx hb Z ha (vin (by omega) (by decide)) dR_evaluate_17 ?_
      refine zw_top (nI (A i)) (by rw [ncl (by omega)]) ?_
      refine lv_istore (lv' := [(5, .int (nI (A i))), (4, .int (nI i)), (3, .int (nI (zevl n o P (fun v => zred P (X v)) A i))), (0, .ref (ad 1)), (1, .ref (ad a)), (2, .ref (ad b))]) hx hb dR_evaluate_18 hl (by decide) rfl (fun ls hl => ?_)
      refine lv_iconst (v := 0) hx hb dR_evaluate_20 (by decide) ?_
      refine lv_istore (lv' := [(6, .int 0), (5, .int (nI (A i))), (4, .int (nI i)), (3, .int (nI (zevl n o P (fun v => zred P (X v)) A i))), (0, .ref (ad 1)), (1, .ref (ad a)), (2, .ref (ad b))]) hx hb dR_evaluate_21 hl (by decide) rfl (fun ls hl => ?_)
      have cont : ∀ (H : Heap) (locs : List Loc) (ls : Array Slot), zw G ad w s H locs → lv_has ls 7 [(5, .int (nI (zvp n o P (fun v => zred P (X v)) (A i) i n))), (4, .int (nI i)), (3, .int (nI (zevl n o P (fun v => zred P (X v)) A i))), (0, .ref (ad 1)), (1, .ref (ad a)), (2, .ref (ad b))] → W p l e (zR (3)) s m ([.ref (ad 1), .ref (ad a), .ref (ad b)] : List Value).toArray below meth c H locs 0 0 Q (F0 m 76 ls []) := by
        intro H locs ls Z hl
        have hz9 := zvp_lt (n := n) (o := o) (xs := (fun v => zred P (X v))) (i := i) (hA i) n
        have hy9 : zevl n o P (fun v => zred P (X v)) A i < P := Nat.mod_lt _ (by omega)
        refine lv_aload_n hx hb dR_evaluate_76 rfl (lv_at hl 3 rfl) ?_
        refine lv_iload_n hx hb dR_evaluate_77 rfl (lv_at hl 2 rfl) ?_
        refine lv_iload hx hb dR_evaluate_78 (lv_at hl 0 rfl) ?_
        refine lv_iadd hx hb dR_evaluate_80 ?_
        refine zw_top (nI (zevl n o P (fun v => zred P (X v)) A i + zvp n o P (fun v => zred P (X v)) (A i) i n)) (nI_add _ _) ?_
        refine zw_calli (va_runV (As := [.int (nI (zevl n o P (fun v => zred P (X v)) A i + zvp n o P (fun v => zred P (X v)) (A i) i n))]) (rest := []) ⟨hx, hb, hml, hown, hts⟩ (c_R_reduce l F h1 P _ hF0 hP1 (by omega)) (kw_R_reduce hts ml_R_78 (zR_fit (by omega) (by omega))) (Z.preV h1 rfl _) rfl rfl hl.1 rfl (lv_room (Nat.le_of_ble_eq_true rfl)) dR_evaluate_81 ⟨Nat.le_of_ble_eq_true rfl, Nat.le_of_ble_eq_true rfl⟩) Z (fun r w1 H locs hp Z => ?_)
        obtain ⟨rfl, hw1⟩ := hp
        rw [hw1] at Z
        clear hw1
        refine zw_top (nI (zevl n o P (fun v => zred P (X v)) A (i + 1))) (by rw [zred_nI (by omega)]; congr 1; exact Nat.mod_add_mod ..) ?_
        refine lv_istore_n (lv' := [(3, .int (nI (zevl n o P (fun v => zred P (X v)) A (i + 1)))), (5, .int (nI (zvp n o P (fun v => zred P (X v)) (A i) i n))), (4, .int (nI i)), (0, .ref (ad 1)), (1, .ref (ad a)), (2, .ref (ad b))]) hx hb dR_evaluate_84 rfl hl (by decide) rfl (fun ls hl => ?_)
        refine lv_iinc (v := (nI (i + 1))) (lv' := [(4, .int (nI (i + 1))), (3, .int (nI (zevl n o P (fun v => zred P (X v)) A (i + 1)))), (5, .int (nI (zvp n o P (fun v => zred P (X v)) (A i) i n))), (0, .ref (ad 1)), (1, .ref (ad a)), (2, .ref (ad b))]) hx hb dR_evaluate_85 hl (k := 2) rfl (nI_1 i) (by decide) rfl (fun ls hl => ?_)
        refine lv_goto (tgt := 5) hx hb dR_evaluate_88 (by decide) ?_
        exact ih (i + 1) _ _ ls (by omega) Z (lv_sub hl [0, 1, 3, 4, 5] rfl)
      have inner : ∀ (k v : Nat) (H : Heap) (locs : List Loc) (ls : Array Slot), v + k = n → zw G ad w s H locs → lv_has ls 7 [(6, .int (nI v)), (5, .int (nI (zvp n o P (fun v => zred P (X v)) (A i) i v))), (4, .int (nI i)), (3, .int (nI (zevl n o P (fun v => zred P (X v)) A i))), (0, .ref (ad 1)), (1, .ref (ad a)), (2, .ref (ad b))] → W p l e (zR (3)) s m ([.ref (ad 1), .ref (ad a), .ref (ad b)] : List Value).toArray below meth c H locs 0 0 Q (F0 m 23 ls []) := by
        intro k
        induction k with
        | zero =>
          intro v H locs ls hv Z hl
          refine lv_iload hx hb dR_evaluate_23 (lv_at hl 0 rfl) ?_
          refine lv_aload_n hx hb dR_evaluate_25 rfl (lv_at hl 4 rfl) ?_
          refine zw_get (v := .int (F 1)) hx hb hT uR hown Z h1 rfl 1 (by decide) (hT _ mf_R_42) (fun _ h9 => h9) rfl dR_evaluate_26 ?_
          refine lv_icmp_ge (tgt := 76) hx hb dR_evaluate_29 (by decide) (fun _ => ?_) (fun hc => absurd (show (F 1) ≤ (nI v) from by rw [hF1]; exact nI_le (by omega) (by omega)) hc)
          rw [show v = n by omega] at hl
          exact cont _ _ ls Z (lv_sub hl [1, 2, 3, 4, 5, 6] rfl)
        | succ k ih2 =>
          intro v H locs ls hv Z hl
          obtain ⟨ex, hex, hexi⟩ := h16 v (by omega)
          have hz9 := zvp_lt (n := n) (o := o) (xs := (fun v => zred P (X v))) (i := i) (hA i) v
          have hel := zEx_le hcfg (show i < zCt n by omega) (show v < 4 by omega)
          have hzx := zred_lt (X v) (P := P) (by omega)
          refine lv_iload hx hb dR_evaluate_23 (lv_at hl 0 rfl) ?_
          refine lv_aload_n hx hb dR_evaluate_25 rfl (lv_at hl 4 rfl) ?_
          refine zw_get (v := .int (F 1)) hx hb hT uR hown Z h1 rfl 1 (by decide) (hT _ mf_R_42) (fun _ h9 => h9) rfl dR_evaluate_26 ?_
          refine lv_icmp_ge (tgt := 76) hx hb dR_evaluate_29 (by decide) (fun hc => absurd hc (show ¬ ((F 1) ≤ (nI v)) from by rw [hF1]; exact nI_ge (by omega) (by omega))) (fun _ => ?_)
          refine lv_iload hx hb dR_evaluate_32 (lv_at hl 0 rfl) ?_
          refine lv_aload_n hx hb dR_evaluate_34 rfl (lv_at hl 6 rfl) ?_
          refine zw_alen (v := nI 4) hx hb Z 0 hb9 rfl rfl dR_evaluate_35 ?_
          refine lv_icmp_ge (tgt := 76) hx hb dR_evaluate_36 (by decide) (fun hc => absurd hc (show ¬ ((nI 4) ≤ (nI v)) from nI_ge (b := 4) (by omega) (by decide))) (fun _ => ?_)
          refine lv_iload hx hb dR_evaluate_39 (lv_at hl 1 rfl) ?_
          refine lv_if_eq (tgt := 76) hx hb dR_evaluate_41 (by decide) (fun hq => ?_) (fun hq => ?_)
          · have hz0 := nI_z (by omega) hq
            have hz1 := zvp_z hz0 (n - v)
            rw [show v + (n - v) = n by omega] at hz1
            rw [show zvp n o P (fun v => zred P (X v)) (A i) i v = zvp n o P (fun v => zred P (X v)) (A i) i n by rw [hz0, hz1]] at hl
            exact cont _ _ ls Z (lv_sub hl [1, 2, 3, 4, 5, 6] rfl)
          · refine lv_aload_n hx hb dR_evaluate_44 rfl (lv_at hl 4 rfl) ?_
            refine lv_iload hx hb dR_evaluate_45 (lv_at hl 1 rfl) ?_
            refine lv_aload_n hx hb dR_evaluate_47 rfl (lv_at hl 4 rfl) ?_
            refine lv_aload_n hx hb dR_evaluate_48 rfl (lv_at hl 6 rfl) ?_
            refine lv_iload hx hb dR_evaluate_49 (lv_at hl 0 rfl) ?_
            refine zw_iald hx hb Z hb9 (vin (by omega) (by decide)) dR_evaluate_51 ?_
            refine zw_top (X v) (by rw [ncl (by omega)]) ?_
            refine zw_calli (va_runV (As := [.int (X v)]) (rest := [.int (nI (zvp n o P (fun v => zred P (X v)) (A i) i v)), .ref (ad 1)]) ⟨hx, hb, hml, hown, hts⟩ (c_R_reduce l F h1 P (X v) hF0 hP1 (by omega)) (kw_R_reduce hts ml_R_78 (zR_fit (by omega) (by omega))) (Z.preV h1 rfl _) rfl rfl hl.1 rfl (lv_room (Nat.le_of_ble_eq_true rfl)) dR_evaluate_52 ⟨Nat.le_of_ble_eq_true rfl, Nat.le_of_ble_eq_true rfl⟩) Z (fun r w1 H locs hp Z => ?_)
            obtain ⟨rfl, hw1⟩ := hp
            rw [hw1] at Z
            clear hw1
            refine lv_aload_n hx hb dR_evaluate_55 rfl (lv_at hl 4 rfl) ?_
            refine zw_get (v := .ref (ad 4)) hx hb hT uR hown Z h1 rfl 5 (by decide) (hT _ mf_R_13) (fun _ h9 => h9) rfl dR_evaluate_56 ?_
            refine lv_iload hx hb dR_evaluate_59 (lv_at hl 0 rfl) ?_
            refine zw_aald (v := .ref (ad (16 + v))) hx hb Z h4 (vin (by omega) (by decide)) (by rw [ncl (by omega)]; rfl) dR_evaluate_61 ?_
            refine lv_iload hx hb dR_evaluate_62 (lv_at hl 2 rfl) ?_
            refine zw_iald hx hb Z hex (vin (by omega) (by decide)) dR_evaluate_64 ?_
            refine zw_top (nI (zEx n o v i)) (by rw [ncl (by omega)]; exact hexi i (by omega)) ?_
            refine zw_calli (va_runV (As := [.int (nI (zvp n o P (fun v => zred P (X v)) (A i) i v)), .int (nI (zred P (X v))), .int (nI (zEx n o v i))]) (rest := []) ⟨hx, hb, hml, hown, hts⟩ (c_R_timesPower l P n o F hR (zvp n o P (fun v => zred P (X v)) (A i) i v) (zred P (X v)) (zEx n o v i) hz9 hzx (by omega)) (kw_R_timesPower hts ml_R_104 (zR_fit (by omega) (by omega))) (Z.preV h1 rfl _) rfl rfl hl.1 rfl (lv_room (Nat.le_of_ble_eq_true rfl)) dR_evaluate_65 ⟨Nat.le_of_ble_eq_true rfl, Nat.le_of_ble_eq_true rfl⟩) Z (fun r w1 H locs hp Z => ?_)
            obtain ⟨rfl, hw1⟩ := hp
            rw [hw1] at Z
            clear hw1
            refine lv_istore (lv' := [(5, .int (nI (ztp P (zvp n o P (fun v => zred P (X v)) (A i) i v) (zred P (X v)) (zEx n o v i)))), (6, .int (nI v)), (4, .int (nI i)), (3, .int (nI (zevl n o P (fun v => zred P (X v)) A i))), (0, .ref (ad 1)), (1, .ref (ad a)), (2, .ref (ad b))]) hx hb dR_evaluate_68 hl (by decide) rfl (fun ls hl => ?_)
            refine lv_iinc (v := (nI (v + 1))) (lv' := [(6, .int (nI (v + 1))), (5, .int (nI (ztp P (zvp n o P (fun v => zred P (X v)) (A i) i v) (zred P (X v)) (zEx n o v i)))), (4, .int (nI i)), (3, .int (nI (zevl n o P (fun v => zred P (X v)) A i))), (0, .ref (ad 1)), (1, .ref (ad a)), (2, .ref (ad b))]) hx hb dR_evaluate_70 hl (k := 1) rfl (nI_1 v) (by decide) rfl (fun ls hl => ?_)
            refine lv_goto (tgt := 23) hx hb dR_evaluate_73 (by decide) ?_
            exact ih2 (v + 1) _ _ ls (by omega) Z (lv_sub hl [0, 1, 2, 3, 4, 5, 6] rfl)
      exact inner n 0 _ _ ls (by omega) Z hl
  have hz0 : zevl n o P (fun v => zred P (X v)) A 0 = 0 := Nat.zero_mod P
  exact loop (zCt n) 0 _ _ ls (by omega) Z (by rw [hz0]; exact hl)
