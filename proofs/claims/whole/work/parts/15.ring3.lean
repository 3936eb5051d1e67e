set_option maxHeartbeats 4000000 in
set_option maxRecDepth 100000 in
theorem c_R_exponentOf (l : Launch) {G : zG} {ad : Nat → Nat} {w : Nat → Option va_E} (P n o : Nat) (F : Nat → Int32) (hR : zRing G ad w P n o F) (i v : Nat) (hi : i < zCt n) (hv : v < 4) : Met l yR_exponentOf wR_exponentOf (zR (1)) (va_Pc [.ref (ad 1), .int (nI i), .int (nI v)] (zw_U G ad w)) (va_Qi (S := Nat → Option va_E) (fun r w' => r = nI (zEx n o v i) ∧ w' = w) (fun u t => zw_U G ((fun _ => ad) u) ((fun w' => w') u) t) (zA G)) 0 0 (zA G) := by
  refine zw_methi (S := Nat → Option va_E) (fa := fun _ => ad) (fw := fun w' => w') (by decide) rfl (Nat.le_of_ble_eq_true rfl) ?_
  intro p e s m below meth c Q ls C hname Z hl hret
  obtain ⟨hx, hb, hml, hown, hts, hlk⟩ := C
  have hT : ∀ w ∈ zT, w.before ([.ref (ad 1), .int (nI i), .int (nI v)] : List Value).toArray s = true := fun w h => hts w (List.mem_cons_of_mem _ h)
  have hown : s.vm.findClass "PolynomialDesk$Ring" = some m.cls := hown
  have hl : lv_has ls 3 [(0, .ref (ad 1)), (1, .int (nI i)), (2, .int (nI v))] := hl
  obtain ⟨h1, ⟨hF0, hF1, hF2, hF3, hF4⟩, ⟨hP1, hP2⟩, hcfg, h4, h16, ⟨dg, h5, hdg⟩, ⟨ky, h6, hky⟩, ⟨wt, h7, hwt⟩, ⟨ix, h8, hix⟩, ⟨ch, h9⟩⟩ := id hR
  have hct := zCt_le (n := n)
  have hn4 := hcfg.2.1
  obtain ⟨ex, hex, hexi⟩ := h16 v hv
  refine lv_iload_n hx hb dR_exponentOf_0 rfl (lv_at hl 1 rfl) ?_
  refine lv_if_lt (tgt := 21) hx hb dR_exponentOf_1 (by decide) (fun hc => absurd hc (show ¬ ((nI i) < 0) from nI_pos (by omega))) (fun _ => ?_)
  refine lv_iload_n hx hb dR_exponentOf_4 rfl (lv_at hl 1 rfl) ?_
  refine lv_aload_n hx hb dR_exponentOf_5 rfl (lv_at hl 0 rfl) ?_
  refine zw_get (v := .int (F 4)) hx hb hT uR hown Z h1 rfl 4 (by decide) (hT _ mf_R_54) (fun _ h9 => h9) rfl dR_exponentOf_6 ?_
  refine lv_icmp_ge (tgt := 21) hx hb dR_exponentOf_9 (by decide) (fun hc => absurd hc (show ¬ ((F 4) ≤ (nI i)) from by rw [hF4]; exact nI_ge hi (by omega))) (fun _ => ?_)
  refine lv_iload_n hx hb dR_exponentOf_12 rfl (lv_at hl 2 rfl) ?_
  refine lv_if_lt (tgt := 21) hx hb dR_exponentOf_13 (by decide) (fun hc => absurd hc (show ¬ ((nI v) < 0) from nI_pos (by omega))) (fun _ => ?_)
  refine lv_iload_n hx hb dR_exponentOf_16 rfl (lv_at hl 2 rfl) ?_
  refine lv_iconst (v := 4) hx hb dR_exponentOf_17 (by decide) ?_
  refine lv_icmp_lt (tgt := 23) hx hb dR_exponentOf_18 (by decide) (fun _ => ?_) (fun hc => absurd (show (nI v) < 4 from nI_lt (b := 4) hv (by decide)) hc)
  refine lv_aload_n hx hb dR_exponentOf_23 rfl (lv_at hl 0 rfl) ?_
  refine zw_get (v := .ref (ad 4)) hx hb hT uR hown Z h1 rfl 5 (by decide) (hT _ mf_R_13) (fun _ h9 => h9) rfl dR_exponentOf_24 ?_
  refine lv_iload_n hx hb dR_exponentOf_27 rfl (lv_at hl 2 rfl) ?_
  refine zw_aald (v := .ref (ad (16 + v))) hx hb Z h4 (vin hv (by decide)) (by rw [ncl (by omega)]; rfl) dR_exponentOf_28 ?_
  refine lv_iload_n hx hb dR_exponentOf_29 rfl (lv_at hl 1 rfl) ?_
  refine zw_iald hx hb Z hex (vin (by omega) (by decide)) dR_exponentOf_30 ?_
  refine zw_top (nI (zEx n o v i)) (by rw [ncl (by omega)]; exact hexi i hi) ?_
  exact hret _ _ _ _ _ _ dR_exponentOf_31 (⟨rfl, rfl⟩) Z

/-- the degree of a row of the ring, -1 without one -/
def zdgr (n o : Nat) (g : Nat → Int32) : Int32 := if zfst g 0 (zCt n) < zCt n then nI (zDg n o (zfst g 0 (zCt n))) else -1
theorem zdgr_of {n o : Nat} {dg g : Nat → Int32} (h : ∀ i, i < zCt n → dg i = nI (zDg n o i)) : zdeg dg g (zCt n) = zdgr n o g := by
  unfold zdeg zdgr
  split
  · next h9 => exact h _ h9
  · rfl
def zhigh2 (n o : Nat) (ga gb : Nat → Int32) : Bool := decide (0 ≤ zdgr n o ga) && (decide (0 ≤ zdgr n o gb) && decide (nI (zHi n) < zdgr n o ga + zdgr n o gb))

set_option maxHeartbeats 4000000 in
set_option maxRecDepth 100000 in
theorem c_R_isProductTooHigh (l : Launch) {G : zG} {ad : Nat → Nat} {w : Nat → Option va_E} (P n o : Nat) (F : Nat → Int32) (hR : zRing G ad w P n o F) (a b : Nat) (ga gb : Nat → Int32) (ha : w a = some (zi G 126 ga)) (hb9 : w b = some (zi G 126 gb)) : Met l yR_isProductTooHigh wR_isProductTooHigh (zR (3)) (va_Pc [.ref (ad 1), .ref (ad a), .ref (ad b)] (zw_U G ad w)) (va_Qi (S := Nat → Option va_E) (fun r w' => r = zb (zhigh2 n o ga gb) ∧ w' = w) (fun u t => zw_U G ((fun _ => ad) u) ((fun w' => w') u) t) (zA G)) 0 0 (zA G) := by
  refine zw_methz (S := Nat → Option va_E) (fa := fun _ => ad) (fw := fun w' => w') (by decide) rfl (Nat.le_of_ble_eq_true rfl) (fun r u h => by rw [h.1]; exact zb_nar _) ?_
  intro p e s m below meth c Q ls C hname Z hl hret
  obtain ⟨hx, hb, hml, hown, hts, hlk⟩ := C
  have hT : ∀ w ∈ zT, w.before ([.ref (ad 1), .ref (ad a), .ref (ad b)] : List Value).toArray s = true := fun w h => hts w (List.mem_cons_of_mem _ h)
  have hown : s.vm.findClass "PolynomialDesk$Ring" = some m.cls := hown
  have hl : lv_has ls 5 [(0, .ref (ad 1)), (1, .ref (ad a)), (2, .ref (ad b))] := hl
  obtain ⟨h1, ⟨hF0, hF1, hF2, hF3, hF4⟩, ⟨hP1, hP2⟩, hcfg, h4, h16, ⟨dg, h5, hdg⟩, ⟨ky, h6, hky⟩, ⟨wt, h7, hwt⟩, ⟨ix, h8, hix⟩, ⟨ch, h9⟩⟩ := id hR
  have hct := zCt_le (n := n)
  have hn4 := hcfg.2.1
  refine lv_aload_n hx hb dR_isProductTooHigh_0 rfl (lv_at hl 0 rfl) ?_
  refine lv_aload_n hx hb dR_isProductTooHigh_1 rfl (lv_at hl 1 rfl) ?_
  refine zw_calli (va_runV (As := [.ref (ad a)]) (rest := []) ⟨hx, hb, hml, hown, hts⟩ (c_R_degreeOf l F h1 a ga (zCt n) ha hF4 hct dg h5) (kw_R_degreeOf hts ml_R_75 (zR_fit (by omega) (by omega))) (Z.preV h1 rfl _) rfl rfl hl.1 rfl (lv_room (Nat.le_of_ble_eq_true rfl)) dR_isProductTooHigh_2 ⟨Nat.le_of_ble_eq_true rfl, Nat.le_of_ble_eq_true rfl⟩) Z (fun r w1 H locs hp Z => ?_)
  obtain ⟨rfl, hw1⟩ := hp
  rw [hw1] at Z
  clear hw1
  refine zw_top (zdgr n o ga) (zdgr_of hdg) ?_
  refine lv_istore_n (lv' := [(3, .int (zdgr n o ga)), (0, .ref (ad 1)), (1, .ref (ad a)), (2, .ref (ad b))]) hx hb dR_isProductTooHigh_5 rfl hl (by decide) rfl (fun ls hl => ?_)
  refine lv_aload_n hx hb dR_isProductTooHigh_6 rfl (lv_at hl 1 rfl) ?_
  refine lv_aload_n hx hb dR_isProductTooHigh_7 rfl (lv_at hl 3 rfl) ?_
  refine zw_calli (va_runV (As := [.ref (ad b)]) (rest := []) ⟨hx, hb, hml, hown, hts⟩ (c_R_degreeOf l F h1 b gb (zCt n) hb9 hF4 hct dg h5) (kw_R_degreeOf hts ml_R_75 (zR_fit (by omega) (by omega))) (Z.preV h1 rfl _) rfl rfl hl.1 rfl (lv_room (Nat.le_of_ble_eq_true rfl)) dR_isProductTooHigh_8 ⟨Nat.le_of_ble_eq_true rfl, Nat.le_of_ble_eq_true rfl⟩) Z (fun r w1 H locs hp Z => ?_)
  obtain ⟨rfl, hw1⟩ := hp
  rw [hw1] at Z
  clear hw1
  refine zw_top (zdgr n o gb) (zdgr_of hdg) ?_
  obtain ⟨x, hxx⟩ : ∃ x, x = zdgr n o ga := ⟨_, rfl⟩
  refine lv_istore (lv' := [(4, .int (zdgr n o gb)), (3, .int (zdgr n o ga)), (0, .ref (ad 1)), (1, .ref (ad a)), (2, .ref (ad b))]) hx hb dR_isProductTooHigh_11 hl (by decide) rfl (fun ls hl => ?_)
  refine lv_iload_n hx hb dR_isProductTooHigh_13 rfl (lv_at hl 1 rfl) ?_
  refine lv_if_lt (tgt := 37) hx hb dR_isProductTooHigh_14 (by decide) (fun hq => ?_) (fun hq => ?_)
  · refine lv_iconst (v := 0) hx hb dR_isProductTooHigh_37 (by decide) ?_
    exact hret _ _ _ _ _ _ dR_isProductTooHigh_38 (⟨by rw [zhigh2, decide_eq_false (Int32.not_le.mpr hq)]; rfl, rfl⟩) Z
  · refine lv_iload hx hb dR_isProductTooHigh_17 (lv_at hl 0 rfl) ?_
    refine lv_if_lt (tgt := 37) hx hb dR_isProductTooHigh_19 (by decide) (fun hq2 => ?_) (fun hq2 => ?_)
    · refine lv_iconst (v := 0) hx hb dR_isProductTooHigh_37 (by decide) ?_
      exact hret _ _ _ _ _ _ dR_isProductTooHigh_38 (⟨by rw [zhigh2, decide_eq_false (p := 0 ≤ zdgr n o gb) (Int32.not_le.mpr hq2), Bool.false_and, Bool.and_false]; rfl, rfl⟩) Z
    · refine lv_iload_n hx hb dR_isProductTooHigh_22 rfl (lv_at hl 1 rfl) ?_
      refine lv_iload hx hb dR_isProductTooHigh_23 (lv_at hl 0 rfl) ?_
      refine lv_iadd hx hb dR_isProductTooHigh_25 ?_
      refine lv_aload_n hx hb dR_isProductTooHigh_26 rfl (lv_at hl 2 rfl) ?_
      refine zw_get (v := .int (F 3)) hx hb hT uR hown Z h1 rfl 3 (by decide) (hT _ mf_R_51) (fun _ h9 => h9) rfl dR_isProductTooHigh_27 ?_
      refine lv_icmp_le (tgt := 37) hx hb dR_isProductTooHigh_30 (by decide) (fun hq3 => ?_) (fun hq3 => ?_)
      · refine lv_iconst (v := 0) hx hb dR_isProductTooHigh_37 (by decide) ?_
        exact hret _ _ _ _ _ _ dR_isProductTooHigh_38 (⟨by rw [hF3] at hq3; rw [zhigh2, decide_eq_false (p := nI (zHi n) < _) (Int32.not_lt.mpr hq3), Bool.and_false, Bool.and_false]; rfl, rfl⟩) Z
      · refine lv_iconst (v := 1) hx hb dR_isProductTooHigh_33 (by decide) ?_
        refine lv_goto (tgt := 38) hx hb dR_isProductTooHigh_34 (by decide) ?_
        exact hret _ _ _ _ _ _ dR_isProductTooHigh_38 (⟨by rw [hF3] at hq3; rw [zhigh2, decide_eq_true (Int32.not_lt.mp hq), decide_eq_true (Int32.not_lt.mp hq2), decide_eq_true (Int32.not_le.mp hq3)]; rfl, rfl⟩) Z

def zhighp (n o : Nat) (g : Nat → Int32) (e : Nat) : Bool := decide (0 ≤ zdgr n o g) && decide (nI (zHi n) < zdgr n o g * nI e)

set_option maxHeartbeats 4000000 in
set_option maxRecDepth 100000 in
theorem c_R_isPowerTooHigh (l : Launch) {G : zG} {ad : Nat → Nat} {w : Nat → Option va_E} (P n o : Nat) (F : Nat → Int32) (hR : zRing G ad w P n o F) (a : Nat) (ga : Nat → Int32) (ha : w a = some (zi G 126 ga)) (e9 : Nat) : Met l yR_isPowerTooHigh wR_isPowerTooHigh (zR (3)) (va_Pc [.ref (ad 1), .ref (ad a), .int (nI e9)] (zw_U G ad w)) (va_Qi (S := Nat → Option va_E) (fun r w' => r = zb (zhighp n o ga e9) ∧ w' = w) (fun u t => zw_U G ((fun _ => ad) u) ((fun w' => w') u) t) (zA G)) 0 0 (zA G) := by
  refine zw_methz (S := Nat → Option va_E) (fa := fun _ => ad) (fw := fun w' => w') (by decide) rfl (Nat.le_of_ble_eq_true rfl) (fun r u h => by rw [h.1]; exact zb_nar _) ?_
  intro p e s m below meth c Q ls C hname Z hl hret
  obtain ⟨hx, hb, hml, hown, hts, hlk⟩ := C
  have hT : ∀ w ∈ zT, w.before ([.ref (ad 1), .ref (ad a), .int (nI e9)] : List Value).toArray s = true := fun w h => hts w (List.mem_cons_of_mem _ h)
  have hown : s.vm.findClass "PolynomialDesk$Ring" = some m.cls := hown
  have hl : lv_has ls 4 [(0, .ref (ad 1)), (1, .ref (ad a)), (2, .int (nI e9))] := hl
  obtain ⟨h1, ⟨hF0, hF1, hF2, hF3, hF4⟩, ⟨hP1, hP2⟩, hcfg, h4, h16, ⟨dg, h5, hdg⟩, ⟨ky, h6, hky⟩, ⟨wt, h7, hwt⟩, ⟨ix, h8, hix⟩, ⟨ch, h9⟩⟩ := id hR
  have hct := zCt_le (n := n)
  have hn4 := hcfg.2.1
  refine lv_aload_n hx hb dR_isPowerTooHigh_0 rfl (lv_at hl 0 rfl) ?_
  refine lv_aload_n hx hb dR_isPowerTooHigh_1 rfl (lv_at hl 1 rfl) ?_
  refine zw_calli (va_runV (As := [.ref (ad a)]) (rest := []) ⟨hx, hb, hml, hown, hts⟩ (c_R_degreeOf l F h1 a ga (zCt n) ha hF4 hct dg h5) (kw_R_degreeOf hts ml_R_75 (zR_fit (by omega) (by omega))) (Z.preV h1 rfl _) rfl rfl hl.1 rfl (lv_room (Nat.le_of_ble_eq_true rfl)) dR_isPowerTooHigh_2 ⟨Nat.le_of_ble_eq_true rfl, Nat.le_of_ble_eq_true rfl⟩) Z (fun r w1 H locs hp Z => ?_)
  obtain ⟨rfl, hw1⟩ := hp
  rw [hw1] at Z
  clear hw1
  refine zw_top (zdgr n o ga) (zdgr_of hdg) ?_
  refine lv_istore_n (lv' := [(3, .int (zdgr n o ga)), (0, .ref (ad 1)), (1, .ref (ad a)), (2, .int (nI e9))]) hx hb dR_isPowerTooHigh_5 rfl hl (by decide) rfl (fun ls hl => ?_)
  refine lv_iload_n hx hb dR_isPowerTooHigh_6 rfl (lv_at hl 0 rfl) ?_
  refine lv_if_lt (tgt := 24) hx hb dR_isPowerTooHigh_7 (by decide) (fun hq => ?_) (fun hq => ?_)
  · refine lv_iconst (v := 0) hx hb dR_isPowerTooHigh_24 (by decide) ?_
    exact hret _ _ _ _ _ _ dR_isPowerTooHigh_25 (⟨by rw [zhighp, decide_eq_false (Int32.not_le.mpr hq)]; rfl, rfl⟩) Z
  · refine lv_iload_n hx hb dR_isPowerTooHigh_10 rfl (lv_at hl 0 rfl) ?_
    refine lv_iload_n hx hb dR_isPowerTooHigh_11 rfl (lv_at hl 3 rfl) ?_
    refine lv_imul hx hb dR_isPowerTooHigh_12 ?_
    refine lv_aload_n hx hb dR_isPowerTooHigh_13 rfl (lv_at hl 1 rfl) ?_
    refine zw_get (v := .int (F 3)) hx hb hT uR hown Z h1 rfl 3 (by decide) (hT _ mf_R_51) (fun _ h9 => h9) rfl dR_isPowerTooHigh_14 ?_
    refine lv_icmp_le (tgt := 24) hx hb dR_isPowerTooHigh_17 (by decide) (fun hq3 => ?_) (fun hq3 => ?_)
    · refine lv_iconst (v := 0) hx hb dR_isPowerTooHigh_24 (by decide) ?_
      exact hret _ _ _ _ _ _ dR_isPowerTooHigh_25 (⟨by rw [hF3] at hq3; rw [zhighp, decide_eq_false (p := nI (zHi n) < _) (Int32.not_lt.mpr hq3), Bool.and_false]; rfl, rfl⟩) Z
    · refine lv_iconst (v := 1) hx hb dR_isPowerTooHigh_20 (by decide) ?_
      refine lv_goto (tgt := 25) hx hb dR_isPowerTooHigh_21 (by decide) ?_
      exact hret _ _ _ _ _ _ dR_isPowerTooHigh_25 (⟨by rw [hF3] at hq3; rw [zhighp, decide_eq_true (Int32.not_lt.mp hq), decide_eq_true (Int32.not_le.mp hq3)]; rfl, rfl⟩) Z

/-- c times x to the e, step by step -/
def ztp (P c x : Nat) : Nat → Nat
  | 0 => c
  | e + 1 => ztp P c x e * x % P
theorem ztp_lt {P c x : Nat} (hc : c < P) : ∀ e, ztp P c x e < P
  | 0 => hc
  | e + 1 => Nat.mod_lt _ (by omega)
theorem zmul_lt {P a b : Nat} (hP : P ≤ 32003) (ha : a < P) (hb : b < P) : a * b ≤ 1024128004 := by
  have h1 : a * b ≤ 32002 * 32002 := Nat.mul_le_mul (by omega) (by omega)
  omega

set_option maxHeartbeats 4000000 in
set_option maxRecDepth 100000 in
theorem c_R_timesPower (l : Launch) {G : zG} {ad : Nat → Nat} {w : Nat → Option va_E} (P n o : Nat) (F : Nat → Int32) (hR : zRing G ad w P n o F) (c9 x e9 : Nat) (hc9 : c9 < P) (hx9 : x < P) (he9 : e9 < 2 ^ 31) : Met l yR_timesPower wR_timesPower (zR (2)) (va_Pc [.ref (ad 1), .int (nI c9), .int (nI x), .int (nI e9)] (zw_U G ad w)) (va_Qi (S := Nat → Option va_E) (fun r w' => r = nI (ztp P c9 x e9) ∧ w' = w) (fun u t => zw_U G ((fun _ => ad) u) ((fun w' => w') u) t) (zA G)) 0 0 (zA G) := by
  refine zw_methi (S := Nat → Option va_E) (fa := fun _ => ad) (fw := fun w' => w') (by decide) rfl (Nat.le_of_ble_eq_true rfl) ?_
  intro p e s m below meth c Q ls C hname Z hl hret
  obtain ⟨hx, hb, hml, hown, hts, hlk⟩ := C
  have hT : ∀ w ∈ zT, w.before ([.ref (ad 1), .int (nI c9), .int (nI x), .int (nI e9)] : List Value).toArray s = true := fun w h => hts w (List.mem_cons_of_mem _ h)
  have hown : s.vm.findClass "PolynomialDesk$Ring" = some m.cls := hown
  have hl : lv_has ls 6 [(0, .ref (ad 1)), (1, .int (nI c9)), (2, .int (nI x)), (3, .int (nI e9))] := hl
  obtain ⟨h1, ⟨hF0, hF1, hF2, hF3, hF4⟩, ⟨hP1, hP2⟩, hcfg, h4, h16, ⟨dg, h5, hdg⟩, ⟨ky, h6, hky⟩, ⟨wt, h7, hwt⟩, ⟨ix, h8, hix⟩, ⟨ch, h9⟩⟩ := id hR
  have hct := zCt_le (n := n)
  have hn4 := hcfg.2.1
  refine lv_iload_n hx hb dR_timesPower_0 rfl (lv_at hl 1 rfl) ?_
  refine lv_istore (lv' := [(4, .int (nI c9)), (0, .ref (ad 1)), (1, .int (nI c9)), (2, .int (nI x)), (3, .int (nI e9))]) hx hb dR_timesPower_1 hl (by decide) rfl (fun ls hl => ?_)
  refine lv_iconst (v := 0) hx hb dR_timesPower_3 (by decide) ?_
  refine lv_istore (lv' := [(5, .int 0), (4, .int (nI c9)), (0, .ref (ad 1)), (1, .int (nI c9)), (2, .int (nI x)), (3, .int (nI e9))]) hx hb dR_timesPower_4 hl (by decide) rfl (fun ls hl => ?_)
  have loop : ∀ (k i : Nat) (H : Heap) (locs : List Loc) (ls : Array Slot), i + k = e9 → zw G ad w s H locs → lv_has ls 6 [(5, .int (nI i)), (4, .int (nI (ztp P c9 x i))), (0, .ref (ad 1)), (1, .int (nI c9)), (2, .int (nI x)), (3, .int (nI e9))] → W p l e (zR (2)) s m ([.ref (ad 1), .int (nI c9), .int (nI x), .int (nI e9)] : List Value).toArray below meth c H locs 0 0 Q (F0 m 6 ls []) := by
    intro k
    induction k with
    | zero =>
      intro i H locs ls hi Z hl
      refine lv_iload hx hb dR_timesPower_6 (lv_at hl 0 rfl) ?_
      refine lv_iload_n hx hb dR_timesPower_8 rfl (lv_at hl 5 rfl) ?_
      refine lv_icmp_ge (tgt := 28) hx hb dR_timesPower_9 (by decide) (fun _ => ?_) (fun hc => absurd (show (nI e9) ≤ (nI i) from nI_le (by omega) (by omega)) hc)
      refine lv_iload hx hb dR_timesPower_28 (lv_at hl 1 rfl) ?_
      exact hret _ _ _ _ _ _ dR_timesPower_30 (⟨by rw [show i = e9 by omega], rfl⟩) Z
    | succ k ih =>
      intro i H locs ls hi Z hl
      refine lv_iload hx hb dR_timesPower_6 (lv_at hl 0 rfl) ?_
      refine lv_iload_n hx hb dR_timesPower_8 rfl (lv_at hl 5 rfl) ?_
      refine lv_icmp_ge (tgt := 28) hx hb dR_timesPower_9 (by decide) (fun hc => absurd hc (show ¬ ((nI e9) ≤ (nI i)) from nI_ge (by omega) (by omega))) (fun _ => ?_)
      have hb9 := zmul_lt hP2 (ztp_lt (P := P) (x := x) hc9 i) hx9
      refine lv_aload_n hx hb dR_timesPower_12 rfl (lv_at hl 2 rfl) ?_
      refine lv_iload hx hb dR_timesPower_13 (lv_at hl 1 rfl) ?_
      refine lv_iload_n hx hb dR_timesPower_15 rfl (lv_at hl 4 rfl) ?_
      refine lv_imul hx hb dR_timesPower_16 ?_
      refine zw_top (nI (ztp P c9 x i * x)) (pk_mul _ _) ?_
      refine zw_calli (va_runV (As := [.int (nI (ztp P c9 x i * x))]) (rest := []) ⟨hx, hb, hml, hown, hts⟩ (c_R_reduce l F h1 P (nI (ztp P c9 x i * x)) hF0 hP1 (by omega)) (kw_R_reduce hts ml_R_78 (zR_fit (by omega) (by omega))) (Z.preV h1 rfl _) rfl rfl hl.1 rfl (lv_room (Nat.le_of_ble_eq_true rfl)) dR_timesPower_17 ⟨Nat.le_of_ble_eq_true rfl, Nat.le_of_ble_eq_true rfl⟩) Z (fun r w1 H locs hp Z => ?_)
      obtain ⟨rfl, hw1⟩ := hp
      rw [hw1] at Z
      clear hw1
      refine zw_top (nI (ztp P c9 x (i + 1))) (by rw [zred_nI (by omega)]; rfl) ?_
      refine lv_istore (lv' := [(4, .int (nI (ztp P c9 x (i + 1)))), (5, .int (nI i)), (0, .ref (ad 1)), (1, .int (nI c9)), (2, .int (nI x)), (3, .int (nI e9))]) hx hb dR_timesPower_20 hl (by decide) rfl (fun ls hl => ?_)
      refine lv_iinc (v := (nI (i + 1))) (lv' := [(5, .int (nI (i + 1))), (4, .int (nI (ztp P c9 x (i + 1)))), (0, .ref (ad 1)), (1, .int (nI c9)), (2, .int (nI x)), (3, .int (nI e9))]) hx hb dR_timesPower_22 hl (k := 1) rfl (nI_1 i) (by decide) rfl (fun ls hl => ?_)
      refine lv_goto (tgt := 6) hx hb dR_timesPower_25 (by decide) ?_
      exact ih (i + 1) _ _ ls (by omega) Z (lv_sub hl [0, 1, 2, 3, 4, 5] rfl)
  exact loop e9 0 _ _ ls (by omega) Z hl

set_option maxHeartbeats 4000000 in
set_option maxRecDepth 100000 in
theorem c_R_addAt (l : Launch) {G : zG} {ad : Nat → Nat} {w : Nat → Option va_E} (P n o : Nat) (F : Nat → Int32) (hR : zRing G ad w P n o F) (k i x t : Nat) (A : Nat → Nat) (hi : i < zCt n) (hk : k = zKy n o i) (ht : w t = some (zrow G A)) (hs : A i + x < 2 ^ 31) : Met l yR_addAt wR_addAt (zR (1)) (va_Pc [.ref (ad 1), .int (nI k), .int (nI x), .ref (ad t)] (zw_U G ad w)) (va_Qv (S := Nat → Option va_E) (fun w' => w' = va_up w t (some (zrow G (va_up A i ((A i + x) % P))))) (fun u t => zw_U G ((fun _ => ad) u) ((fun w' => w') u) t) (zA G)) 0 0 (zA G) := by
  refine zw_methv (S := Nat → Option va_E) (fa := fun _ => ad) (fw := fun w' => w') (by decide) rfl (Nat.le_of_ble_eq_true rfl) ?_
  intro p e s m below meth c Q ls C hname Z hl hret
  obtain ⟨hx, hb, hml, hown, hts, hlk⟩ := C
  have hT : ∀ w ∈ zT, w.before ([.ref (ad 1), .int (nI k), .int (nI x), .ref (ad t)] : List Value).toArray s = true := fun w h => hts w (List.mem_cons_of_mem _ h)
  have hown : s.vm.findClass "PolynomialDesk$Ring" = some m.cls := hown
  have hl : lv_has ls 5 [(0, .ref (ad 1)), (1, .int (nI k)), (2, .int (nI x)), (3, .ref (ad t))] := hl
  obtain ⟨h1, ⟨hF0, hF1, hF2, hF3, hF4⟩, ⟨hP1, hP2⟩, hcfg, h4, h16, ⟨dg, h5, hdg⟩, ⟨ky, h6, hky⟩, ⟨wt, h7, hwt⟩, ⟨ix, h8, hix⟩, ⟨ch, h9⟩⟩ := id hR
  have hct := zCt_le (n := n)
  have hn4 := hcfg.2.1
  have hk2 : k < 1296 := by rw [hk]; exact zKy_lt hcfg hi
  refine lv_iload_n hx hb dR_addAt_0 rfl (lv_at hl 1 rfl) ?_
  refine lv_if_lt (tgt := 20) hx hb dR_addAt_1 (by decide) (fun hc => absurd hc (show ¬ ((nI k) < 0) from nI_pos (by omega))) (fun _ => ?_)
  refine lv_iload_n hx hb dR_addAt_4 rfl (lv_at hl 1 rfl) ?_
  refine lv_sipush (v := 1296) hx hb dR_addAt_5 (by decide) ?_
  refine lv_icmp_ge (tgt := 20) hx hb dR_addAt_8 (by decide) (fun hc => absurd hc (show ¬ (1296 ≤ (nI k)) from nI_ge (b := 1296) hk2 (by decide))) (fun _ => ?_)
  refine lv_aload_n hx hb dR_addAt_11 rfl (lv_at hl 0 rfl) ?_
  refine zw_get (v := .ref (ad 8)) hx hb hT uR hown Z h1 rfl 9 (by decide) (hT _ mf_R_26) (fun _ h9 => h9) rfl dR_addAt_12 ?_
  refine lv_iload_n hx hb dR_addAt_15 rfl (lv_at hl 1 rfl) ?_
  refine zw_iald hx hb Z h8 (vin hk2 (by decide)) dR_addAt_16 ?_
  refine zw_top (nI i) (by rw [ncl (by omega), hk]; exact hix i hi) ?_
  refine lv_goto (tgt := 21) hx hb dR_addAt_17 (by decide) ?_
  refine lv_istore (lv' := [(4, .int (nI i)), (0, .ref (ad 1)), (1, .int (nI k)), (2, .int (nI x)), (3, .ref (ad t))]) hx hb dR_addAt_21 hl (by decide) rfl (fun ls hl => ?_)
  refine lv_iload hx hb dR_addAt_23 (lv_at hl 0 rfl) ?_
  refine lv_if_lt (tgt := 58) hx hb dR_addAt_25 (by decide) (fun hc => absurd hc (show ¬ ((nI i) < 0) from nI_pos (by omega))) (fun _ => ?_)
  refine lv_iload hx hb dR_addAt_28 (lv_at hl 0 rfl) ?_
  refine lv_bipush (v := 126) hx hb dR_addAt_30 (by decide) ?_
  refine lv_icmp_ge (tgt := 58) hx hb dR_addAt_32 (by decide) (fun hc => absurd hc (show ¬ (126 ≤ (nI i)) from nI_ge (b := 126) (by omega) (by decide))) (fun _ => ?_)
  refine lv_aload_n hx hb dR_addAt_35 rfl (lv_at hl 1 rfl) ?_
  refine zw_get (v := .int (F 0)) hx hb hT uR hown Z h1 rfl 0 (by decide) (hT _ mf_R_38) (fun _ h9 => h9) rfl dR_addAt_36 ?_
  refine lv_iconst (v := 1) hx hb dR_addAt_39 (by decide) ?_
  refine lv_icmp_le (tgt := 58) hx hb dR_addAt_40 (by decide) (fun hc => absurd hc (show ¬ ((F 0) ≤ 1) from by rw [hF0]; exact nI_ge (a := 1) (by omega) (by omega))) (fun _ => ?_)
  refine lv_aload_n hx hb dR_addAt_43 rfl (lv_at hl 4 rfl) ?_
  refine lv_iload hx hb dR_addAt_44 (lv_at hl 0 rfl) ?_
  refine lv_aload_n hx hb dR_addAt_46 rfl (lv_at hl 4 rfl) ?_
  refine lv_iload hx hb dR_addAt_47 (lv_at hl 0 rfl) ?_
  refine zw_iald hx hb Z ht (vin (by omega) (by decide)) dR_addAt_49 ?_
  refine zw_top (nI (A i)) (by rw [ncl (by omega)]) ?_
  refine lv_iload_n hx hb dR_addAt_50 rfl (lv_at hl 3 rfl) ?_
  refine lv_iadd hx hb dR_addAt_51 ?_
  refine zw_top (nI (A i + x)) (nI_add _ _) ?_
  refine lv_aload_n hx hb dR_addAt_52 rfl (lv_at hl 1 rfl) ?_
  refine zw_get (v := .int (F 0)) hx hb hT uR hown Z h1 rfl 0 (by decide) (hT _ mf_R_38) (fun _ h9 => h9) rfl dR_addAt_53 ?_
  refine lv_irem hx hb dR_addAt_56 (by rw [hF0]; exact nI_ne0 (by omega) (by omega)) ?_
  refine zw_top (nI ((A i + x) % P)) (by rw [hF0]; exact pk_rem hs (by omega) (by omega)) ?_
  refine zw_iast hx hb Z ht (vin (by omega) (by decide)) dR_addAt_57 (fun H locs Z => ?_)
  exact hret _ _ _ _ _ dR_addAt_58 (by rw [ncl (by omega), upd_nI]) Z

set_option maxHeartbeats 4000000 in
set_option maxRecDepth 100000 in
theorem c_R_writeCopy (l : Launch) {G : zG} {ad : Nat → Nat} {w : Nat → Option va_E} (a t : Nat) (f g : Nat → Int32) (ha : w a = some (zi G 126 f)) (ht : w t = some (zi G 126 g)) : Met l yR_writeCopy wR_writeCopy (zR (1)) (va_Pc [.ref (ad 1), .ref (ad a), .ref (ad t)] (zw_U G ad w)) (va_Qv (S := Nat → Option va_E) (fun w' => w' = va_up w t (some (zi G 126 f))) (fun u t => zw_U G ((fun _ => ad) u) ((fun w' => w') u) t) (zA G)) 0 0 (zA G) := by
  refine zw_methv (S := Nat → Option va_E) (fa := fun _ => ad) (fw := fun w' => w') (by decide) rfl (Nat.le_of_ble_eq_true rfl) ?_
  intro p e s m below meth c Q ls C hname Z hl hret
  obtain ⟨hx, hb, hml, hown, hts, hlk⟩ := C
  have hT : ∀ w ∈ zT, w.before ([.ref (ad 1), .ref (ad a), .ref (ad t)] : List Value).toArray s = true := fun w h => hts w (List.mem_cons_of_mem _ h)
  have hown : s.vm.findClass "PolynomialDesk$Ring" = some m.cls := hown
  have hl : lv_has ls 3 [(0, .ref (ad 1)), (1, .ref (ad a)), (2, .ref (ad t))] := hl
  refine lv_aload_n hx hb dR_writeCopy_0 rfl (lv_at hl 1 rfl) ?_
  refine lv_iconst (v := 0) hx hb dR_writeCopy_1 (by decide) ?_
  refine lv_aload_n hx hb dR_writeCopy_2 rfl (lv_at hl 2 rfl) ?_
  refine lv_iconst (v := 0) hx hb dR_writeCopy_3 (by decide) ?_
  refine lv_bipush (v := 126) hx hb dR_writeCopy_4 (by decide) ?_
  refine zw_copy hx hb (hml.trans hl.1.symm) hown (hT _ ml_R_86) (hT _ mx_copy) (hT _ mt_copy) (hT _ mn_System) Z (n := 126) ha ht (by decide) (Nat.le_of_ble_eq_true rfl) (Nat.le_of_ble_eq_true rfl) dR_writeCopy_6 (fun H locs Z => ?_)
  exact hret _ _ _ _ _ dR_writeCopy_9 (rfl) Z

/-- the constant x, its place i0 -/
def zcon (i0 x : Nat) : Nat → Nat := va_up (fun _ => 0) i0 x

set_option maxHeartbeats 4000000 in
set_option maxRecDepth 100000 in
theorem c_R_writeNumber (l : Launch) {G : zG} {ad : Nat → Nat} {w : Nat → Option va_E} (P n o : Nat) (F : Nat → Int32) (hR : zRing G ad w P n o F) (x : Int32) (t i0 : Nat) (g : Nat → Int32) (ht0 : 20 ≤ t) (hi0 : i0 < zCt n) (hk0 : zKy n o i0 = 0) (ht : w t = some (zi G 126 g)) : Met l yR_writeNumber wR_writeNumber (zR (2)) (va_Pc [.ref (ad 1), .int x, .ref (ad t)] (zw_U G ad w)) (va_Qv (S := Nat → Option va_E) (fun w' => w' = va_up w t (some (zrow G (zcon i0 (zred P x))))) (fun u t => zw_U G ((fun _ => ad) u) ((fun w' => w') u) t) (zA G)) 0 0 (zA G) := by
  refine zw_methv (S := Nat → Option va_E) (fa := fun _ => ad) (fw := fun w' => w') (by decide) rfl (Nat.le_of_ble_eq_true rfl) ?_
  intro p e s m below meth c Q ls C hname Z hl hret
  obtain ⟨hx, hb, hml, hown, hts, hlk⟩ := C
  have hT : ∀ w ∈ zT, w.before ([.ref (ad 1), .int x, .ref (ad t)] : List Value).toArray s = true := fun w h => hts w (List.mem_cons_of_mem _ h)
  have hown : s.vm.findClass "PolynomialDesk$Ring" = some m.cls := hown
  have hl : lv_has ls 3 [(0, .ref (ad 1)), (1, .int x), (2, .ref (ad t))] := hl
  obtain ⟨h1, ⟨hF0, hF1, hF2, hF3, hF4⟩, ⟨hP1, hP2⟩, hcfg, h4, h16, ⟨dg, h5, hdg⟩, ⟨ky, h6, hky⟩, ⟨wt, h7, hwt⟩, ⟨ix, h8, hix⟩, ⟨ch, h9⟩⟩ := id hR
  have hct := zCt_le (n := n)
  have hn4 := hcfg.2.1
  refine lv_aload_n hx hb dR_writeNumber_0 rfl (lv_at hl 2 rfl) ?_
  refine lv_iconst (v := 0) hx hb dR_writeNumber_1 (by decide) ?_
  refine zw_callv (va_runS (As := [.ref (ad t), .int 0]) (rest := []) ⟨hx, hb, hml, hown, hts⟩ (c_J_fill l t 126 g 0 ht (by decide)) (kw_J_fill hts ml_R_57 (zR_fit (by omega) (by omega))) (Z.preS _) rfl rfl hl.1 rfl (lv_room (Nat.le_of_ble_eq_true rfl)) dR_writeNumber_2 ⟨Nat.le_of_ble_eq_true rfl, Nat.le_of_ble_eq_true rfl⟩) Z (fun w1 H locs hp Z => ?_)
  subst hp
  have hR1 : zRing G ad (va_up w t (some (zi G 126 (fun _ => 0)))) P n o F := hR.up ht0
  refine lv_aload_n hx hb dR_writeNumber_5 rfl (lv_at hl 0 rfl) ?_
  refine lv_iconst (v := 0) hx hb dR_writeNumber_6 (by decide) ?_
  refine lv_aload_n hx hb dR_writeNumber_7 rfl (lv_at hl 0 rfl) ?_
  refine lv_iload_n hx hb dR_writeNumber_8 rfl (lv_at hl 1 rfl) ?_
  refine zw_calli (va_runV (As := [.int x]) (rest := [.int 0, .ref (ad 1)]) ⟨hx, hb, hml, hown, hts⟩ (c_R_reduce l F hR1.1 P x hF0 hP1 (by omega)) (kw_R_reduce hts ml_R_78 (zR_fit (by omega) (by omega))) (Z.preV hR1.1 rfl _) rfl rfl hl.1 rfl (lv_room (Nat.le_of_ble_eq_true rfl)) dR_writeNumber_9 ⟨Nat.le_of_ble_eq_true rfl, Nat.le_of_ble_eq_true rfl⟩) Z (fun r w1 H locs hp Z => ?_)
  obtain ⟨rfl, hw1⟩ := hp
  rw [hw1] at Z
  clear hw1
  have hz := zred_lt x (P := P) (by omega)
  refine lv_aload_n hx hb dR_writeNumber_12 rfl (lv_at hl 2 rfl) ?_
  refine zw_callv (va_runV (As := [.int 0, .int (nI (zred P x)), .ref (ad t)]) (rest := []) ⟨hx, hb, hml, hown, hts⟩ (c_R_addAt l P n o F hR1 0 i0 (zred P x) t (fun _ => 0) hi0 hk0.symm (va_up_self _ _ _) (by omega)) (kw_R_addAt hts ml_R_82 (zR_fit (by omega) (by omega))) (Z.preV hR1.1 rfl _) rfl rfl hl.1 rfl (lv_room (Nat.le_of_ble_eq_true rfl)) dR_writeNumber_13 ⟨Nat.le_of_ble_eq_true rfl, Nat.le_of_ble_eq_true rfl⟩) Z (fun w1 H locs hp Z => ?_)
  subst hp
  rw [bx_uu, Nat.zero_add, Nat.mod_eq_of_lt hz] at Z
  exact hret _ _ _ _ _ dR_writeNumber_16 (rfl) Z

set_option maxHeartbeats 4000000 in
set_option maxRecDepth 100000 in
theorem c_R_writeVariable (l : Launch) {G : zG} {ad : Nat → Nat} {w : Nat → Option va_E} (P n o : Nat) (F : Nat → Int32) (hR : zRing G ad w P n o F) (v t iv : Nat) (g : Nat → Int32) (hv : v < n) (ht0 : 20 ≤ t) (hiv : iv < zCt n) (hkv : zKy n o iv = zWt n v) (ht : w t = some (zi G 126 g)) : Met l yR_writeVariable wR_writeVariable (zR (2)) (va_Pc [.ref (ad 1), .int (nI v), .ref (ad t)] (zw_U G ad w)) (va_Qv (S := Nat → Option va_E) (fun w' => w' = va_up w t (some (zrow G (zcon iv 1)))) (fun u t => zw_U G ((fun _ => ad) u) ((fun w' => w') u) t) (zA G)) 0 0 (zA G) := by
  refine zw_methv (S := Nat → Option va_E) (fa := fun _ => ad) (fw := fun w' => w') (by decide) rfl (Nat.le_of_ble_eq_true rfl) ?_
  intro p e s m below meth c Q ls C hname Z hl hret
  obtain ⟨hx, hb, hml, hown, hts, hlk⟩ := C
  have hT : ∀ w ∈ zT, w.before ([.ref (ad 1), .int (nI v), .ref (ad t)] : List Value).toArray s = true := fun w h => hts w (List.mem_cons_of_mem _ h)
  have hown : s.vm.findClass "PolynomialDesk$Ring" = some m.cls := hown
  have hl : lv_has ls 3 [(0, .ref (ad 1)), (1, .int (nI v)), (2, .ref (ad t))] := hl
  obtain ⟨h1, ⟨hF0, hF1, hF2, hF3, hF4⟩, ⟨hP1, hP2⟩, hcfg, h4, h16, ⟨dg, h5, hdg⟩, ⟨ky, h6, hky⟩, ⟨wt, h7, hwt⟩, ⟨ix, h8, hix⟩, ⟨ch, h9⟩⟩ := id hR
  have hct := zCt_le (n := n)
  have hn4 := hcfg.2.1
  refine lv_aload_n hx hb dR_writeVariable_0 rfl (lv_at hl 2 rfl) ?_
  refine lv_iconst (v := 0) hx hb dR_writeVariable_1 (by decide) ?_
  refine zw_callv (va_runS (As := [.ref (ad t), .int 0]) (rest := []) ⟨hx, hb, hml, hown, hts⟩ (c_J_fill l t 126 g 0 ht (by decide)) (kw_J_fill hts ml_R_57 (zR_fit (by omega) (by omega))) (Z.preS _) rfl rfl hl.1 rfl (lv_room (Nat.le_of_ble_eq_true rfl)) dR_writeVariable_2 ⟨Nat.le_of_ble_eq_true rfl, Nat.le_of_ble_eq_true rfl⟩) Z (fun w1 H locs hp Z => ?_)
  subst hp
  have hR1 : zRing G ad (va_up w t (some (zi G 126 (fun _ => 0)))) P n o F := hR.up ht0
  have h71 : va_up w t (some (zi G 126 (fun _ => 0))) 7 = some (zi G 4 wt) := by rw [va_up_ne _ _ (by omega)]; exact h7
  refine lv_iload_n hx hb dR_writeVariable_5 rfl (lv_at hl 1 rfl) ?_
  refine lv_if_lt (tgt := 29) hx hb dR_writeVariable_6 (by decide) (fun hc => absurd hc (show ¬ ((nI v) < 0) from nI_pos (by omega))) (fun _ => ?_)
  refine lv_iload_n hx hb dR_writeVariable_9 rfl (lv_at hl 1 rfl) ?_
  refine lv_aload_n hx hb dR_writeVariable_10 rfl (lv_at hl 0 rfl) ?_
  refine zw_get (v := .int (F 1)) hx hb hT uR hown Z hR1.1 rfl 1 (by decide) (hT _ mf_R_42) (fun _ h9 => h9) rfl dR_writeVariable_11 ?_
  refine lv_icmp_ge (tgt := 29) hx hb dR_writeVariable_14 (by decide) (fun hc => absurd hc (show ¬ ((F 1) ≤ (nI v)) from by rw [hF1]; exact nI_ge hv (by omega))) (fun _ => ?_)
  refine lv_aload_n hx hb dR_writeVariable_17 rfl (lv_at hl 0 rfl) ?_
  refine lv_aload_n hx hb dR_writeVariable_18 rfl (lv_at hl 0 rfl) ?_
  refine zw_get (v := .ref (ad 7)) hx hb hT uR hown Z hR1.1 rfl 8 (by decide) (hT _ mf_R_23) (fun _ h9 => h9) rfl dR_writeVariable_19 ?_
  refine lv_iload_n hx hb dR_writeVariable_22 rfl (lv_at hl 1 rfl) ?_
  refine zw_iald hx hb Z h71 (vin (by omega) (by decide)) dR_writeVariable_23 ?_
  refine zw_top (nI (zWt n v)) (by rw [ncl (by omega)]; exact hwt v (by omega)) ?_
  refine lv_iconst (v := 1) hx hb dR_writeVariable_24 (by decide) ?_
  refine lv_aload_n hx hb dR_writeVariable_25 rfl (lv_at hl 2 rfl) ?_
  refine zw_callv (va_runV (As := [.int (nI (zWt n v)), .int 1, .ref (ad t)]) (rest := []) ⟨hx, hb, hml, hown, hts⟩ (c_R_addAt l P n o F hR1 (zWt n v) iv 1 t (fun _ => 0) hiv hkv.symm (va_up_self _ _ _) (by omega)) (kw_R_addAt hts ml_R_82 (zR_fit (by omega) (by omega))) (Z.preV hR1.1 rfl _) rfl rfl hl.1 rfl (lv_room (Nat.le_of_ble_eq_true rfl)) dR_writeVariable_26 ⟨Nat.le_of_ble_eq_true rfl, Nat.le_of_ble_eq_true rfl⟩) Z (fun w1 H locs hp Z => ?_)
  subst hp
  rw [bx_uu, Nat.zero_add, Nat.mod_eq_of_lt (by omega)] at Z
  exact hret _ _ _ _ _ dR_writeVariable_29 (rfl) Z

/-- a + f b in the field, place by place, up to n places -/
def zsum (P : Nat) (n : Nat) (ga : Nat → Int32) (f : Int32) (gb gt : Nat → Int32) : Nat → Int32 := fun j => if j < n then nI (zred P (ga j + nI (zred P f) * gb j)) else gt j

set_option maxHeartbeats 4000000 in
set_option maxRecDepth 100000 in
theorem c_R_writeSum (l : Launch) {G : zG} {ad : Nat → Nat} {w : Nat → Option va_E} (P n o : Nat) (F : Nat → Int32) (hR : zRing G ad w P n o F) (a b t : Nat) (f : Int32) (ga gb gt : Nat → Int32) (ht0 : 20 ≤ t) (ha : w a = some (zi G 126 ga)) (hb9 : w b = some (zi G 126 gb)) (ht : w t = some (zi G 126 gt)) : Met l yR_writeSum wR_writeSum (zR (2)) (va_Pc [.ref (ad 1), .ref (ad a), .int f, .ref (ad b), .ref (ad t)] (zw_U G ad w)) (va_Qv (S := Nat → Option va_E) (fun w' => w' = va_up w t (some (zi G 126 (zsum P (zCt n) ga f gb gt)))) (fun u t => zw_U G ((fun _ => ad) u) ((fun w' => w') u) t) (zA G)) 0 0 (zA G) := by
  refine zw_methv (S := Nat → Option va_E) (fa := fun _ => ad) (fw := fun w' => w') (by decide) rfl (Nat.le_of_ble_eq_true rfl) ?_
  intro p e s m below meth c Q ls C hname Z hl hret
  obtain ⟨hx, hb, hml, hown, hts, hlk⟩ := C
  have hT : ∀ w ∈ zT, w.before ([.ref (ad 1), .ref (ad a), .int f, .ref (ad b), .ref (ad t)] : List Value).toArray s = true := fun w h => hts w (List.mem_cons_of_mem _ h)
  have hown : s.vm.findClass "PolynomialDesk$Ring" = some m.cls := hown
  have hl : lv_has ls 7 [(0, .ref (ad 1)), (1, .ref (ad a)), (2, .int f), (3, .ref (ad b)), (4, .ref (ad t))] := hl
  obtain ⟨h1, ⟨hF0, hF1, hF2, hF3, hF4⟩, ⟨hP1, hP2⟩, hcfg, h4, h16, ⟨dg, h5, hdg⟩, ⟨ky, h6, hky⟩, ⟨wt, h7, hwt⟩, ⟨ix, h8, hix⟩, ⟨ch, h9⟩⟩ := id hR
  have hct := zCt_le (n := n)
  have hn4 := hcfg.2.1
  refine lv_aload_n hx hb dR_writeSum_0 rfl (lv_at hl 0 rfl) ?_
  refine lv_iload_n hx hb dR_writeSum_1 rfl (lv_at hl 2 rfl) ?_
  refine zw_calli (va_runV (As := [.int f]) (rest := []) ⟨hx, hb, hml, hown, hts⟩ (c_R_reduce l F h1 P f hF0 hP1 (by omega)) (kw_R_reduce hts ml_R_78 (zR_fit (by omega) (by omega))) (Z.preV h1 rfl _) rfl rfl hl.1 rfl (lv_room (Nat.le_of_ble_eq_true rfl)) dR_writeSum_2 ⟨Nat.le_of_ble_eq_true rfl, Nat.le_of_ble_eq_true rfl⟩) Z (fun r w1 H locs hp Z => ?_)
  obtain ⟨rfl, hw1⟩ := hp
  rw [hw1] at Z
  clear hw1
  refine lv_istore (lv' := [(5, .int (nI (zred P f))), (0, .ref (ad 1)), (1, .ref (ad a)), (2, .int f), (3, .ref (ad b)), (4, .ref (ad t))]) hx hb dR_writeSum_5 hl (by decide) rfl (fun ls hl => ?_)
  refine lv_iconst (v := 0) hx hb dR_writeSum_7 (by decide) ?_
  refine lv_istore (lv' := [(6, .int 0), (5, .int (nI (zred P f))), (0, .ref (ad 1)), (1, .ref (ad a)), (2, .int f), (3, .ref (ad b)), (4, .ref (ad t))]) hx hb dR_writeSum_8 hl (by decide) rfl (fun ls hl => ?_)
  have loop : ∀ (k i : Nat) (H : Heap) (locs : List Loc) (ls : Array Slot), i + k = zCt n → zw G ad (va_up w t (some (zi G 126 (zsum P i ga f gb gt)))) s H locs → lv_has ls 7 [(6, .int (nI i)), (5, .int (nI (zred P f))), (0, .ref (ad 1)), (1, .ref (ad a)), (2, .int f), (3, .ref (ad b)), (4, .ref (ad t))] → W p l e (zR (2)) s m ([.ref (ad 1), .ref (ad a), .int f, .ref (ad b), .ref (ad t)] : List Value).toArray below meth c H locs 0 0 Q (F0 m 10 ls []) := by
    intro k
    induction k with
    | zero =>
      intro i H locs ls hi Z hl
      have hR1 : zRing G ad (va_up w t (some (zi G 126 (zsum P i ga f gb gt)))) P n o F := hR.up ht0
      refine lv_iload hx hb dR_writeSum_10 (lv_at hl 0 rfl) ?_
      refine lv_aload_n hx hb dR_writeSum_12 rfl (lv_at hl 2 rfl) ?_
      refine zw_get (v := .int (F 4)) hx hb hT uR hown Z hR1.1 rfl 4 (by decide) (hT _ mf_R_54) (fun _ h9 => h9) rfl dR_writeSum_13 ?_
      refine lv_icmp_ge (tgt := 46) hx hb dR_writeSum_16 (by decide) (fun _ => ?_) (fun hc => absurd (show (F 4) ≤ (nI i) from by rw [hF4]; exact nI_le (by omega) (by omega)) hc)
      exact hret _ _ _ _ _ dR_writeSum_46 (by rw [show i = zCt n by omega]) Z
    | succ k ih =>
      intro i H locs ls hi Z hl
      have hR1 : zRing G ad (va_up w t (some (zi G 126 (zsum P i ga f gb gt)))) P n o F := hR.up ht0
      obtain ⟨fa, hfa, ea⟩ := zrd (i := i) (h := zsum P i ga f gb gt) ha ht (if_neg (Nat.lt_irrefl i))
      obtain ⟨fb, hfb, eb⟩ := zrd (i := i) (h := zsum P i ga f gb gt) hb9 ht (if_neg (Nat.lt_irrefl i))
      refine lv_iload hx hb dR_writeSum_10 (lv_at hl 0 rfl) ?_
      refine lv_aload_n hx hb dR_writeSum_12 rfl (lv_at hl 2 rfl) ?_
      refine zw_get (v := .int (F 4)) hx hb hT uR hown Z hR1.1 rfl 4 (by decide) (hT _ mf_R_54) (fun _ h9 => h9) rfl dR_writeSum_13 ?_
      refine lv_icmp_ge (tgt := 46) hx hb dR_writeSum_16 (by decide) (fun hc => absurd hc (show ¬ ((F 4) ≤ (nI i)) from by rw [hF4]; exact nI_ge (by omega) (by omega))) (fun _ => ?_)
      refine lv_aload hx hb dR_writeSum_19 (lv_at hl 6 rfl) ?_
      refine lv_iload hx hb dR_writeSum_21 (lv_at hl 0 rfl) ?_
      refine lv_aload_n hx hb dR_writeSum_23 rfl (lv_at hl 2 rfl) ?_
      refine lv_aload_n hx hb dR_writeSum_24 rfl (lv_at hl 3 rfl) ?_
      refine lv_iload hx hb dR_writeSum_25 (lv_at hl 0 rfl) ?_
      refine zw_iald hx hb Z hfa (vin (by omega) (by decide)) dR_writeSum_27 ?_
      refine zw_top (ga i) (by rw [ncl (by omega)]; exact ea) ?_
      refine lv_iload hx hb dR_writeSum_28 (lv_at hl 1 rfl) ?_
      refine lv_aload_n hx hb dR_writeSum_30 rfl (lv_at hl 5 rfl) ?_
      refine lv_iload hx hb dR_writeSum_31 (lv_at hl 0 rfl) ?_
      refine zw_iald hx hb Z hfb (vin (by omega) (by decide)) dR_writeSum_33 ?_
      refine zw_top (gb i) (by rw [ncl (by omega)]; exact eb) ?_
      refine lv_imul hx hb dR_writeSum_34 ?_
      refine lv_iadd hx hb dR_writeSum_35 ?_
      refine zw_calli (va_runV (As := [.int ((ga i) + ((nI (zred P f)) * (gb i)))]) (rest := [.int (nI i), .ref (ad t)]) ⟨hx, hb, hml, hown, hts⟩ (c_R_reduce l F hR1.1 P (ga i + nI (zred P f) * gb i) hF0 hP1 (by omega)) (kw_R_reduce hts ml_R_78 (zR_fit (by omega) (by omega))) (Z.preV hR1.1 rfl _) rfl rfl hl.1 rfl (lv_room (Nat.le_of_ble_eq_true rfl)) dR_writeSum_36 ⟨Nat.le_of_ble_eq_true rfl, Nat.le_of_ble_eq_true rfl⟩) Z (fun r w1 H locs hp Z => ?_)
      obtain ⟨rfl, hw1⟩ := hp
      rw [hw1] at Z
      clear hw1
      refine zw_iast hx hb Z (va_up_self _ _ _) (vin (by omega) (by decide)) dR_writeSum_39 (fun H locs Z => ?_)
      have Z := Z.ext (va_up_self _ _ _) (f' := zsum P (i + 1) ga f gb gt) (fun j hj => by
        rw [ncl (by omega)]
        by_cases h : j = i
        · subst h
          simp [upd, zsum]
        · simp only [upd, h, if_false, zsum]
          by_cases h2 : j < i
          · rw [if_pos h2, if_pos (by omega)]
          · rw [if_neg h2, if_neg (by omega)])
      rw [bx_uu, bx_uu] at Z
      refine lv_iinc (v := (nI (i + 1))) (lv' := [(6, .int (nI (i + 1))), (5, .int (nI (zred P f))), (0, .ref (ad 1)), (1, .ref (ad a)), (2, .int f), (3, .ref (ad b)), (4, .ref (ad t))]) hx hb dR_writeSum_40 hl (k := 0) rfl (nI_1 i) (by decide) rfl (fun ls hl => ?_)
      refine lv_goto (tgt := 10) hx hb dR_writeSum_43 (by decide) ?_
      exact ih (i + 1) _ _ ls (by omega) Z (lv_sub hl [0, 1, 2, 3, 4, 5, 6] rfl)
  have Z := Z.ext ht (f' := zsum P 0 ga f gb gt) (fun j _ => (if_neg (Nat.not_lt_zero j)).symm)
  exact loop (zCt n) 0 _ _ ls (by omega) Z hl
