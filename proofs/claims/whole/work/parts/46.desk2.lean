set_option maxHeartbeats 4000000 in
set_option maxRecDepth 100000 in
theorem c_K_put (l : Launch) {G : zG} {ad : Nat → Nat} {w : Nat → Option va_E} (P n o : Nat) (A : Nat → Nat → Nat) (T : Nat → Nat) (len : Nat) (flt pl : Int32) (out : List Nat) (hD : zDk G ad w P n o A T len flt pl out) (v : Int64) (q : Int32) : Met l yK_put wK_put (zR (2)) (va_Pc [.ref (ad 0), .long v, .int q] (zw_U G ad w)) (va_Qi (S := Nat → Option va_E) (fun r w' => r = zb (zfit len q) ∧ zDk G ad w' P n o A (zapp T len v q) (zlen len q) flt pl out ∧ zfk w w') (fun u t => zw_U G ((fun _ => ad) u) ((fun w' => w') u) t) (zA G)) 0 0 (zA G) := by
  refine zw_methz (S := Nat → Option va_E) (fa := fun _ => ad) (fw := fun w' => w') (by decide) rfl (Nat.le_of_ble_eq_true rfl) (fun r u h => by rw [h.1]; exact zb_nar _) ?_
  intro p e s m below meth c Q ls C hname Z hl hret
  obtain ⟨hx, hb, hml, hown, hts, hlk⟩ := C
  have hT : ∀ w ∈ zT, w.before ([.ref (ad 0), .long v, .int q] : List Value).toArray s = true := fun w h => hts w (List.mem_cons_of_mem _ h)
  have hown : s.vm.findClass "PolynomialDesk" = some m.cls := hown
  have hl : lv_has ls 4 [(0, .ref (ad 0)), (1, .long v), (3, .int q)] := hl
  obtain ⟨FR, FE, hE, hf4, hf5, h0, h14, ⟨gn, h15⟩, hpr, hpo⟩ := id hD
  obtain ⟨-, ⟨hF0, hF1, hF2, hF3, hF4⟩, ⟨hP1, hP2⟩, hcfg, -⟩ := id hE.1
  obtain ⟨FP, pb, h3, -⟩ := id hpr
  have hct := zCt_le (n := n)
  refine lv_aload_n hx hb dK_put_0 rfl (lv_at hl 0 rfl) ?_
  refine zw_get (v := .ref (ad 2)) hx hb hT uK hown Z h0 rfl 1 (by decide) (hT _ mf_K_25) (fun _ h9 => h9) rfl dK_put_1 ?_
  refine lv_lload_n hx hb dK_put_4 rfl (lv_at hl 1 rfl) ?_
  refine lv_iload_n hx hb dK_put_5 rfl (lv_at hl 2 rfl) ?_
  refine zw_calli (va_runV (As := [.long v, .int q]) (rest := []) ⟨hx, hb, hml, hown, hts⟩ (c_E_takeBytes l P n o FR FE T len hE v q) (kw_E_takeBytes hts ml_K_69 (zR_fit (by omega) (by omega))) (Z.preV hE.2.1 rfl _) rfl rfl hl.1 rfl (lv_room (Nat.le_of_ble_eq_true rfl)) dK_put_6 ⟨Nat.le_of_ble_eq_true rfl, Nat.le_of_ble_eq_true rfl⟩) Z (fun r wq H locs hp Z => ?_)
  obtain ⟨rfl, hE1, he⟩ := hp
  exact hret _ _ _ _ _ _ dK_put_9 (⟨rfl, hD.text hE1 he hf4 hf5, fun k hk => he k (by omega) (by omega)⟩) Z

def zflt (flt pl : Int32) (x : Int32) : Int32 := if x = 0 then flt else if x = 1 then pl else -1

set_option maxHeartbeats 4000000 in
set_option maxRecDepth 100000 in
theorem c_K_fault (l : Launch) {G : zG} {ad : Nat → Nat} {w : Nat → Option va_E} (P n o : Nat) (A : Nat → Nat → Nat) (T : Nat → Nat) (len : Nat) (flt pl : Int32) (out : List Nat) (hD : zDk G ad w P n o A T len flt pl out) (x : Int32) : Met l yK_fault wK_fault (zR (2)) (va_Pc [.ref (ad 0), .int x] (zw_U G ad w)) (va_Qi (S := Nat → Option va_E) (fun r w' => r = zflt flt pl x ∧ w' = w) (fun u t => zw_U G ((fun _ => ad) u) ((fun w' => w') u) t) (zA G)) 0 0 (zA G) := by
  refine zw_methi (S := Nat → Option va_E) (fa := fun _ => ad) (fw := fun w' => w') (by decide) rfl (Nat.le_of_ble_eq_true rfl) ?_
  intro p e s m below meth c Q ls C hname Z hl hret
  obtain ⟨hx, hb, hml, hown, hts, hlk⟩ := C
  have hT : ∀ w ∈ zT, w.before ([.ref (ad 0), .int x] : List Value).toArray s = true := fun w h => hts w (List.mem_cons_of_mem _ h)
  have hown : s.vm.findClass "PolynomialDesk" = some m.cls := hown
  have hl : lv_has ls 2 [(0, .ref (ad 0)), (1, .int x)] := hl
  obtain ⟨FR, FE, hE, hf4, hf5, h0, h14, ⟨gn, h15⟩, hpr, hpo⟩ := id hD
  obtain ⟨-, ⟨hF0, hF1, hF2, hF3, hF4⟩, ⟨hP1, hP2⟩, hcfg, -⟩ := id hE.1
  obtain ⟨FP, pb, h3, -⟩ := id hpr
  have hct := zCt_le (n := n)
  refine lv_iload_n hx hb dK_fault_0 rfl (lv_at hl 1 rfl) ?_
  refine lv_if_ne (tgt := 12) hx hb dK_fault_1 (by decide) (fun hc => ?_) (fun hc => ?_)
  · refine lv_iload_n hx hb dK_fault_12 rfl (lv_at hl 1 rfl) ?_
    refine lv_iconst (v := 1) hx hb dK_fault_13 (by decide) ?_
    refine lv_icmp_ne (tgt := 27) hx hb dK_fault_14 (by decide) (fun hc2 => ?_) (fun hc2 => ?_)
    · refine lv_iconst (v := (-1)) hx hb dK_fault_27 (by decide) ?_
      exact hret _ _ _ _ _ _ dK_fault_28 (⟨by unfold zflt; rw [if_neg hc, if_neg hc2], rfl⟩) Z
    · refine lv_aload_n hx hb dK_fault_17 rfl (lv_at hl 0 rfl) ?_
      refine zw_get (v := .ref (ad 2)) hx hb hT uK hown Z h0 rfl 1 (by decide) (hT _ mf_K_25) (fun _ h9 => h9) rfl dK_fault_18 ?_
      refine zw_calli (va_runV (As := []) (rest := []) ⟨hx, hb, hml, hown, hts⟩ (c_E_latestPlace l FE hE.2.1) (kw_E_latestPlace hts ml_K_91 (zR_fit (by omega) (by omega))) (Z.preV hE.2.1 rfl _) rfl rfl hl.1 rfl (lv_room (Nat.le_of_ble_eq_true rfl)) dK_fault_21 ⟨Nat.le_of_ble_eq_true rfl, Nat.le_of_ble_eq_true rfl⟩) Z (fun r wq H locs hp Z => ?_)
      obtain ⟨rfl, hw1⟩ := hp
      rw [hw1] at Z
      clear hw1
      refine lv_goto (tgt := 28) hx hb dK_fault_24 (by decide) ?_
      exact hret _ _ _ _ _ _ dK_fault_28 (⟨by unfold zflt; rw [if_neg hc, if_pos hc2, hf5], rfl⟩) Z
  · refine lv_aload_n hx hb dK_fault_4 rfl (lv_at hl 0 rfl) ?_
    refine zw_get (v := .ref (ad 2)) hx hb hT uK hown Z h0 rfl 1 (by decide) (hT _ mf_K_25) (fun _ h9 => h9) rfl dK_fault_5 ?_
    refine zw_calli (va_runV (As := []) (rest := []) ⟨hx, hb, hml, hown, hts⟩ (c_E_latestFault l FE hE.2.1) (kw_E_latestFault hts ml_K_87 (zR_fit (by omega) (by omega))) (Z.preV hE.2.1 rfl _) rfl rfl hl.1 rfl (lv_room (Nat.le_of_ble_eq_true rfl)) dK_fault_8 ⟨Nat.le_of_ble_eq_true rfl, Nat.le_of_ble_eq_true rfl⟩) Z (fun r wq H locs hp Z => ?_)
    obtain ⟨rfl, hw1⟩ := hp
    rw [hw1] at Z
    clear hw1
    exact hret _ _ _ _ _ _ dK_fault_11 (⟨by unfold zflt; rw [if_pos hc, hf4], rfl⟩) Z

def zabt (n o : Nat) (A : Nat → Nat → Nat) (k x : Int32) : Int32 := if zip8 k = true then (if x = 0 then nI (zcnt (fun i => nI (A k.toNatClampNeg i)) (zCt n)) else if x = 1 then zdgr n o (fun i => nI (A k.toNatClampNeg i)) else -1) else -1

set_option maxHeartbeats 4000000 in
set_option maxRecDepth 100000 in
theorem c_K_about (l : Launch) {G : zG} {ad : Nat → Nat} {w : Nat → Option va_E} (P n o : Nat) (A : Nat → Nat → Nat) (T : Nat → Nat) (len : Nat) (flt pl : Int32) (out : List Nat) (hD : zDk G ad w P n o A T len flt pl out) (k x : Int32) : Met l yK_about wK_about (zR (3)) (va_Pc [.ref (ad 0), .int k, .int x] (zw_U G ad w)) (va_Qi (S := Nat → Option va_E) (fun r w' => r = zabt n o A k x ∧ w' = w) (fun u t => zw_U G ((fun _ => ad) u) ((fun w' => w') u) t) (zA G)) 0 0 (zA G) := by
  refine zw_methi (S := Nat → Option va_E) (fa := fun _ => ad) (fw := fun w' => w') (by decide) rfl (Nat.le_of_ble_eq_true rfl) ?_
  intro p e s m below meth c Q ls C hname Z hl hret
  obtain ⟨hx, hb, hml, hown, hts, hlk⟩ := C
  have hT : ∀ w ∈ zT, w.before ([.ref (ad 0), .int k, .int x] : List Value).toArray s = true := fun w h => hts w (List.mem_cons_of_mem _ h)
  have hown : s.vm.findClass "PolynomialDesk" = some m.cls := hown
  have hl : lv_has ls 3 [(0, .ref (ad 0)), (1, .int k), (2, .int x)] := hl
  obtain ⟨FR, FE, hE, hf4, hf5, h0, h14, ⟨gn, h15⟩, hpr, hpo⟩ := id hD
  obtain ⟨-, ⟨hF0, hF1, hF2, hF3, hF4⟩, ⟨hP1, hP2⟩, hcfg, -⟩ := id hE.1
  obtain ⟨FP, pb, h3, -⟩ := id hpr
  have hct := zCt_le (n := n)
  refine lv_iload_n hx hb dK_about_0 rfl (lv_at hl 1 rfl) ?_
  refine zw_calli (va_runS (As := [.int k]) (rest := []) ⟨hx, hb, hml, hown, hts⟩ (c_K_isPolynomial l k) (kw_K_isPolynomial hts ml_K_126 (zR_fit (by omega) (by omega))) (Z.preS _) rfl rfl hl.1 rfl (lv_room (Nat.le_of_ble_eq_true rfl)) dK_about_1 ⟨Nat.le_of_ble_eq_true rfl, Nat.le_of_ble_eq_true rfl⟩) Z (fun r wq H locs hp Z => ?_)
  obtain ⟨rfl, hw1⟩ := hp
  rw [hw1] at Z
  clear hw1
  refine lv_if_ne (tgt := 9) hx hb dK_about_4 (by decide) (fun hc => ?_) (fun hc => ?_)
  · have hzk := zb_t hc
    obtain ⟨j, hj, rfl⟩ := zip8_ok hzk
    have hab : ∀ x, zabt n o A (nI j) x = if x = 0 then nI (zcnt (fun i => nI (A j i)) (zCt n)) else if x = 1 then zdgr n o (fun i => nI (A j i)) else -1 := fun x => by unfold zabt; rw [if_pos hzk, ncl (by omega)]
    refine lv_iload_n hx hb dK_about_9 rfl (lv_at hl 2 rfl) ?_
    refine lv_if_ne (tgt := 27) hx hb dK_about_10 (by decide) (fun hc2 => ?_) (fun hc2 => ?_)
    · refine lv_iload_n hx hb dK_about_27 rfl (lv_at hl 2 rfl) ?_
      refine lv_iconst (v := 1) hx hb dK_about_28 (by decide) ?_
      refine lv_icmp_ne (tgt := 48) hx hb dK_about_29 (by decide) (fun hc3 => ?_) (fun hc3 => ?_)
      · refine lv_iconst (v := (-1)) hx hb dK_about_48 (by decide) ?_
        exact hret _ _ _ _ _ _ dK_about_49 (⟨by rw [hab, if_neg hc2, if_neg hc3], rfl⟩) Z
      · obtain ⟨dg, h5, hdg⟩ := hE.1.2.2.2.2.2.2.1
        refine lv_aload_n hx hb dK_about_32 rfl (lv_at hl 0 rfl) ?_
        refine zw_get (v := .ref (ad 1)) hx hb hT uK hown Z h0 rfl 0 (by decide) (hT _ mf_K_10) (fun _ h9 => h9) rfl dK_about_33 ?_
        refine lv_aload_n hx hb dK_about_36 rfl (lv_at hl 0 rfl) ?_
        refine zw_get (v := .ref (ad 14)) hx hb hT uK hown Z h0 rfl 3 (by decide) (hT _ mf_K_38) (fun _ h9 => h9) rfl dK_about_37 ?_
        refine lv_iload_n hx hb dK_about_40 rfl (lv_at hl 1 rfl) ?_
        refine zw_aald (v := .ref (ad (20 + j))) hx hb Z h14 (vin hj (by decide)) (by rw [ncl (by omega)]; rfl) dK_about_41 ?_
        refine zw_calli (va_runV (As := [.ref (ad (20 + j))]) (rest := []) ⟨hx, hb, hml, hown, hts⟩ (c_R_degreeOf l FR hE.1.1 (20 + j) _ (zCt n) (hpo j hj).1 hF4 hct dg h5) (kw_R_degreeOf hts ml_K_129 (zR_fit (by omega) (by omega))) (Z.preV hE.1.1 rfl _) rfl rfl hl.1 rfl (lv_room (Nat.le_of_ble_eq_true rfl)) dK_about_42 ⟨Nat.le_of_ble_eq_true rfl, Nat.le_of_ble_eq_true rfl⟩) Z (fun r wq H locs hp Z => ?_)
        obtain ⟨rfl, hw1⟩ := hp
        rw [hw1] at Z
        clear hw1
        refine lv_goto (tgt := 49) hx hb dK_about_45 (by decide) ?_
        exact hret _ _ _ _ _ _ dK_about_49 (⟨by rw [hab, if_neg hc2, if_pos hc3]; exact zdgr_of hdg, rfl⟩) Z
    · refine lv_aload_n hx hb dK_about_13 rfl (lv_at hl 0 rfl) ?_
      refine zw_get (v := .ref (ad 1)) hx hb hT uK hown Z h0 rfl 0 (by decide) (hT _ mf_K_10) (fun _ h9 => h9) rfl dK_about_14 ?_
      refine lv_aload_n hx hb dK_about_17 rfl (lv_at hl 0 rfl) ?_
      refine zw_get (v := .ref (ad 14)) hx hb hT uK hown Z h0 rfl 3 (by decide) (hT _ mf_K_38) (fun _ h9 => h9) rfl dK_about_18 ?_
      refine lv_iload_n hx hb dK_about_21 rfl (lv_at hl 1 rfl) ?_
      refine zw_aald (v := .ref (ad (20 + j))) hx hb Z h14 (vin hj (by decide)) (by rw [ncl (by omega)]; rfl) dK_about_22 ?_
      refine zw_calli (va_runV (As := [.ref (ad (20 + j))]) (rest := []) ⟨hx, hb, hml, hown, hts⟩ (c_R_countTerms l FR hE.1.1 (20 + j) _ (zCt n) (hpo j hj).1 hF4 hct) (kw_R_countTerms hts ml_K_83 (zR_fit (by omega) (by omega))) (Z.preV hE.1.1 rfl _) rfl rfl hl.1 rfl (lv_room (Nat.le_of_ble_eq_true rfl)) dK_about_23 ⟨Nat.le_of_ble_eq_true rfl, Nat.le_of_ble_eq_true rfl⟩) Z (fun r wq H locs hp Z => ?_)
      obtain ⟨rfl, hw1⟩ := hp
      rw [hw1] at Z
      clear hw1
      exact hret _ _ _ _ _ _ dK_about_26 (⟨by rw [hab, if_pos hc2], rfl⟩) Z
  · refine lv_iconst (v := (-1)) hx hb dK_about_7 (by decide) ?_
    exact hret _ _ _ _ _ _ dK_about_8 (⟨by unfold zabt; rw [if_neg (zb_nt (zb_f hc))], rfl⟩) Z

def ztrm (n o : Nat) (A : Nat → Nat → Nat) (k i x : Int32) : Int32 := if zip8 k = true ∧ ¬ x < 0 ∧ x ≤ 4 then (match zith (fun i => nI (A k.toNatClampNeg i)) i.toInt 0 (zCt n) with | some j => if x = 4 then nI (A k.toNatClampNeg j) else nI (zEx n o x.toNatClampNeg j) | none => -1) else -1

set_option maxHeartbeats 4000000 in
set_option maxRecDepth 100000 in
theorem c_K_term (l : Launch) {G : zG} {ad : Nat → Nat} {w : Nat → Option va_E} (P n o : Nat) (A : Nat → Nat → Nat) (T : Nat → Nat) (len : Nat) (flt pl : Int32) (out : List Nat) (hD : zDk G ad w P n o A T len flt pl out) (k i x : Int32) : Met l yK_term wK_term (zR (2)) (va_Pc [.ref (ad 0), .int k, .int i, .int x] (zw_U G ad w)) (va_Qi (S := Nat → Option va_E) (fun r w' => r = ztrm n o A k i x ∧ w' = w) (fun u t => zw_U G ((fun _ => ad) u) ((fun w' => w') u) t) (zA G)) 0 0 (zA G) := by
  refine zw_methi (S := Nat → Option va_E) (fa := fun _ => ad) (fw := fun w' => w') (by decide) rfl (Nat.le_of_ble_eq_true rfl) ?_
  intro p e s m below meth c Q ls C hname Z hl hret
  obtain ⟨hx, hb, hml, hown, hts, hlk⟩ := C
  have hT : ∀ w ∈ zT, w.before ([.ref (ad 0), .int k, .int i, .int x] : List Value).toArray s = true := fun w h => hts w (List.mem_cons_of_mem _ h)
  have hown : s.vm.findClass "PolynomialDesk" = some m.cls := hown
  have hl : lv_has ls 5 [(0, .ref (ad 0)), (1, .int k), (2, .int i), (3, .int x)] := hl
  obtain ⟨FR, FE, hE, hf4, hf5, h0, h14, ⟨gn, h15⟩, hpr, hpo⟩ := id hD
  obtain ⟨-, ⟨hF0, hF1, hF2, hF3, hF4⟩, ⟨hP1, hP2⟩, hcfg, -⟩ := id hE.1
  obtain ⟨FP, pb, h3, -⟩ := id hpr
  have hct := zCt_le (n := n)
  refine lv_iload_n hx hb dK_term_0 rfl (lv_at hl 1 rfl) ?_
  refine zw_calli (va_runS (As := [.int k]) (rest := []) ⟨hx, hb, hml, hown, hts⟩ (c_K_isPolynomial l k) (kw_K_isPolynomial hts ml_K_126 (zR_fit (by omega) (by omega))) (Z.preS _) rfl rfl hl.1 rfl (lv_room (Nat.le_of_ble_eq_true rfl)) dK_term_1 ⟨Nat.le_of_ble_eq_true rfl, Nat.le_of_ble_eq_true rfl⟩) Z (fun r wq H locs hp Z => ?_)
  obtain ⟨rfl, hw1⟩ := hp
  rw [hw1] at Z
  clear hw1
  have out9 : ¬ (zip8 k = true ∧ ¬ x < 0 ∧ x ≤ 4) → W p l e (zR (2)) s m ([.ref (ad 0), .int k, .int i, .int x] : List Value).toArray below meth c H locs (0) (0) Q (F0 m 16 ls []) := by
    intro hno9
    refine lv_iconst (v := (-1)) hx hb dK_term_16 (by decide) ?_
    exact hret _ _ _ _ _ _ dK_term_17 (⟨by unfold ztrm; rw [if_neg hno9], rfl⟩) Z
  refine lv_if_eq (tgt := 16) hx hb dK_term_4 (by decide) (fun hc => ?_) (fun hc => ?_)
  · exact out9 (fun h9 => zb_nt (zb_f hc) h9.1)
  · have hzk := zb_t hc
    refine lv_iload_n hx hb dK_term_7 rfl (lv_at hl 3 rfl) ?_
    refine lv_if_lt (tgt := 16) hx hb dK_term_8 (by decide) (fun hc2 => ?_) (fun hc2 => ?_)
    · exact out9 (fun h9 => h9.2.1 hc2)
    · refine lv_iload_n hx hb dK_term_11 rfl (lv_at hl 3 rfl) ?_
      refine lv_iconst (v := 4) hx hb dK_term_12 (by decide) ?_
      refine lv_icmp_le (tgt := 18) hx hb dK_term_13 (by decide) (fun hc3 => ?_) (fun hc3 => ?_)
      · have hcond : zip8 k = true ∧ ¬ x < 0 ∧ x ≤ 4 := ⟨hzk, hc2, hc3⟩
        obtain ⟨j, hj, rfl⟩ := zip8_ok hzk
        obtain ⟨y, hy4, rfl⟩ := nI_of2 (M := 4) (n := 4) rfl hc2 hc3
        have htr : ztrm n o A (nI j) i (nI y) = (match zith (fun i => nI (A j i)) i.toInt 0 (zCt n) with | some q => if y = 4 then nI (A j q) else nI (zEx n o y q) | none => -1) := by
          unfold ztrm
          rw [if_pos hcond, ncl (by omega), ncl (by omega)]
          cases zith (fun i => nI (A j i)) i.toInt 0 (zCt n) with
          | none => rfl
          | some q =>
            by_cases h9 : y = 4
            · rw [h9]; rfl
            · simp only; rw [if_neg h9, if_neg (c := nI y = 4) (fun h8 => h9 ((nI_eq (b := 4) (by omega) (by decide)).mp h8))]
        refine lv_aload_n hx hb dK_term_18 rfl (lv_at hl 0 rfl) ?_
        refine zw_get (v := .ref (ad 1)) hx hb hT uK hown Z h0 rfl 0 (by decide) (hT _ mf_K_10) (fun _ h9 => h9) rfl dK_term_19 ?_
        refine lv_aload_n hx hb dK_term_22 rfl (lv_at hl 0 rfl) ?_
        refine zw_get (v := .ref (ad 14)) hx hb hT uK hown Z h0 rfl 3 (by decide) (hT _ mf_K_38) (fun _ h9 => h9) rfl dK_term_23 ?_
        refine lv_iload_n hx hb dK_term_26 rfl (lv_at hl 1 rfl) ?_
        refine zw_aald (v := .ref (ad (20 + j))) hx hb Z h14 (vin hj (by decide)) (by rw [ncl (by omega)]; rfl) dK_term_27 ?_
        refine lv_iload_n hx hb dK_term_28 rfl (lv_at hl 2 rfl) ?_
        refine zw_calli (va_runV (As := [.ref (ad (20 + j)), .int i]) (rest := []) ⟨hx, hb, hml, hown, hts⟩ (c_R_indexOfTerm l FR hE.1.1 (20 + j) _ (zCt n) (hpo j hj).1 hF4 hct i) (kw_R_indexOfTerm hts ml_K_132 (zR_fit (by omega) (by omega))) (Z.preV hE.1.1 rfl _) rfl rfl hl.1 rfl (lv_room (Nat.le_of_ble_eq_true rfl)) dK_term_29 ⟨Nat.le_of_ble_eq_true rfl, Nat.le_of_ble_eq_true rfl⟩) Z (fun r w1 H locs hp Z => ?_)
        obtain ⟨hr, hw1⟩ := hp
        rw [hw1] at Z
        clear hw1
        cases hz9 : zith (fun i => nI (A j i)) i.toInt 0 (zCt n) with
        | none =>
          rw [hz9] at hr htr
          subst hr
          refine lv_istore (lv' := [(4, .int (-1)), (0, .ref (ad 0)), (1, .int (nI j)), (2, .int i), (3, .int (nI y))]) hx hb dK_term_32 hl (by decide) rfl (fun ls hl => ?_)
          refine lv_iload hx hb dK_term_34 (lv_at hl 0 rfl) ?_
          refine lv_if_lt (tgt := 46) hx hb dK_term_36 (by decide) (fun _ => ?_) (fun hc => absurd (show ((-1) : Int32) < 0 from by decide) hc)
          refine lv_iconst (v := (-1)) hx hb dK_term_46 (by decide) ?_
          exact hret _ _ _ _ _ _ dK_term_47 (⟨htr.symm, rfl⟩) Z
        | some q =>
          rw [hz9] at hr htr
          subst hr
          have hq := (zith_in _ _ _ _ hz9).2
          have hq2 : q < zCt n := by omega
          refine lv_istore (lv' := [(4, .int (nI q)), (0, .ref (ad 0)), (1, .int (nI j)), (2, .int i), (3, .int (nI y))]) hx hb dK_term_32 hl (by decide) rfl (fun ls hl => ?_)
          refine lv_iload hx hb dK_term_34 (lv_at hl 0 rfl) ?_
          refine lv_if_lt (tgt := 46) hx hb dK_term_36 (by decide) (fun hc => absurd hc (show ¬ (((nI q) : Int32) < 0) from nI_pos (by omega))) (fun _ => ?_)
          refine lv_iload hx hb dK_term_39 (lv_at hl 0 rfl) ?_
          refine lv_bipush (v := 126) hx hb dK_term_41 (by decide) ?_
          refine lv_icmp_lt (tgt := 48) hx hb dK_term_43 (by decide) (fun _ => ?_) (fun hc => absurd (show ((nI q) : Int32) < 126 from nI_lt (b := 126) (by omega) (by decide)) hc)
          refine lv_iload_n hx hb dK_term_48 rfl (lv_at hl 4 rfl) ?_
          refine lv_iconst (v := 4) hx hb dK_term_49 (by decide) ?_
          refine lv_icmp_ne (tgt := 65) hx hb dK_term_50 (by decide) (fun hc5 => ?_) (fun hc5 => ?_)
          · have hy : ¬ y = 4 := fun h9 => hc5 (by rw [h9]; rfl)
            refine lv_aload_n hx hb dK_term_65 rfl (lv_at hl 1 rfl) ?_
            refine zw_get (v := .ref (ad 1)) hx hb hT uK hown Z h0 rfl 0 (by decide) (hT _ mf_K_10) (fun _ h9 => h9) rfl dK_term_66 ?_
            refine lv_iload hx hb dK_term_69 (lv_at hl 0 rfl) ?_
            refine lv_iload_n hx hb dK_term_71 rfl (lv_at hl 4 rfl) ?_
            refine zw_calli (va_runV (As := [.int (nI q), .int (nI y)]) (rest := []) ⟨hx, hb, hml, hown, hts⟩ (c_R_exponentOf l P n o FR hE.1 q y hq2 (by omega)) (kw_R_exponentOf hts ml_K_136 (zR_fit (by omega) (by omega))) (Z.preV hE.1.1 rfl _) rfl rfl hl.1 rfl (lv_room (Nat.le_of_ble_eq_true rfl)) dK_term_72 ⟨Nat.le_of_ble_eq_true rfl, Nat.le_of_ble_eq_true rfl⟩) Z (fun r wq H locs hp Z => ?_)
            obtain ⟨rfl, hw1⟩ := hp
            rw [hw1] at Z
            clear hw1
            exact hret _ _ _ _ _ _ dK_term_75 (⟨by rw [htr]; simp only; rw [if_neg hy], rfl⟩) Z
          · have hy : y = 4 := (nI_eq (b := 4) (by omega) (by decide)).mp hc5
            have hrw := (hpo j hj).1
            refine lv_aload_n hx hb dK_term_53 rfl (lv_at hl 1 rfl) ?_
            refine zw_get (v := .ref (ad 14)) hx hb hT uK hown Z h0 rfl 3 (by decide) (hT _ mf_K_38) (fun _ h9 => h9) rfl dK_term_54 ?_
            refine lv_iload_n hx hb dK_term_57 rfl (lv_at hl 2 rfl) ?_
            refine zw_aald (v := .ref (ad (20 + j))) hx hb Z h14 (vin hj (by decide)) (by rw [ncl (by omega)]; rfl) dK_term_58 ?_
            refine lv_iload hx hb dK_term_59 (lv_at hl 0 rfl) ?_
            refine zw_iald hx hb Z hrw (vin (by omega) (by decide)) dK_term_61 ?_
            refine zw_top (nI (A j q)) (by rw [ncl (by omega)]) ?_
            refine lv_goto (tgt := 75) hx hb dK_term_62 (by decide) ?_
            exact hret _ _ _ _ _ _ dK_term_75 (⟨by rw [htr]; simp only; rw [if_pos hy], rfl⟩) Z
      · exact out9 (fun h9 => hc3 h9.2.2)

set_option maxHeartbeats 4000000 in
set_option maxRecDepth 100000 in
theorem c_K_output (l : Launch) {G : zG} {ad : Nat → Nat} {w : Nat → Option va_E} (P n o : Nat) (A : Nat → Nat → Nat) (T : Nat → Nat) (len : Nat) (flt pl : Int32) (out : List Nat) (hD : zDk G ad w P n o A T len flt pl out) (i : Int32) : Met l yK_output wK_output (zR (2)) (va_Pc [.ref (ad 0), .int i] (zw_U G ad w)) (va_Qi (S := Nat → Option va_E) (fun r w' => r = zby out i ∧ w' = w) (fun u t => zw_U G ((fun _ => ad) u) ((fun w' => w') u) t) (zA G)) 0 0 (zA G) := by
  refine zw_methi (S := Nat → Option va_E) (fa := fun _ => ad) (fw := fun w' => w') (by decide) rfl (Nat.le_of_ble_eq_true rfl) ?_
  intro p e s m below meth c Q ls C hname Z hl hret
  obtain ⟨hx, hb, hml, hown, hts, hlk⟩ := C
  have hT : ∀ w ∈ zT, w.before ([.ref (ad 0), .int i] : List Value).toArray s = true := fun w h => hts w (List.mem_cons_of_mem _ h)
  have hown : s.vm.findClass "PolynomialDesk" = some m.cls := hown
  have hl : lv_has ls 2 [(0, .ref (ad 0)), (1, .int i)] := hl
  obtain ⟨FR, FE, hE, hf4, hf5, h0, h14, ⟨gn, h15⟩, hpr, hpo⟩ := id hD
  obtain ⟨-, ⟨hF0, hF1, hF2, hF3, hF4⟩, ⟨hP1, hP2⟩, hcfg, -⟩ := id hE.1
  obtain ⟨FP, pb, h3, -⟩ := id hpr
  have hct := zCt_le (n := n)
  refine lv_aload_n hx hb dK_output_0 rfl (lv_at hl 0 rfl) ?_
  refine zw_get (v := .ref (ad 3)) hx hb hT uK hown Z h0 rfl 2 (by decide) (hT _ mf_K_32) (fun _ h9 => h9) rfl dK_output_1 ?_
  refine lv_iload_n hx hb dK_output_4 rfl (lv_at hl 1 rfl) ?_
  refine zw_calli (va_runV (As := [.int i]) (rest := []) ⟨hx, hb, hml, hown, hts⟩ (c_P_byteAt l out hpr i) (kw_P_byteAt hts ml_K_143 (zR_fit (by omega) (by omega))) (Z.preV h3 rfl _) rfl rfl hl.1 rfl (lv_room (Nat.le_of_ble_eq_true rfl)) dK_output_5 ⟨Nat.le_of_ble_eq_true rfl, Nat.le_of_ble_eq_true rfl⟩) Z (fun r wq H locs hp Z => ?_)
  obtain ⟨rfl, hw1⟩ := hp
  rw [hw1] at Z
  clear hw1
  exact hret _ _ _ _ _ _ dK_output_8 (⟨rfl, rfl⟩) Z

set_option maxHeartbeats 4000000 in
set_option maxRecDepth 100000 in
theorem c_K_add (l : Launch) (hnt : l.stackTraces = false) {G : zG} {ad : Nat → Nat} {w : Nat → Option va_E} (hX : ∀ U H, G.2.2.2 U H → zTHR G U H) (P n o : Nat) (A : Nat → Nat → Nat) (T : Nat → Nat) (len : Nat) (flt pl : Int32) (out : List Nat) (hD : zDk G ad w P n o A T len flt pl out) (a f b t : Int32) : vx_Met l yK_add wK_add (zRx (4) 4 24) (va_Pc [.ref (ad 0), .int a, .int f, .int b, .int t] (zw_U G ad w)) (va_Qv (S := Nat → Option va_E) (fun w' => (zip8 a = true ∧ zip8 b = true ∧ zip8 t = true) ∧ zDk G ad w' P n o (va_up A t.toNatClampNeg (zadd n P (zred P f) (A a.toNatClampNeg) (A b.toNatClampNeg))) T len flt pl out ∧ zfk w w') (fun u t => zw_U G ((fun _ => ad) u) ((fun w' => w') u) t) (zA G)) (zXC G ad (fun E u => E = "java/lang/IndexOutOfBoundsException" ∧ ¬ (zip8 a = true ∧ zip8 b = true ∧ zip8 t = true) ∧ u = w)) 4 24 (zA G) := by
  refine zx_methv (S := Nat → Option va_E) (fa := fun _ => ad) (fw := fun w' => w') (by decide) rfl (Nat.le_of_ble_eq_true rfl) ?_
  intro p e s m below meth c Q ls C hno hQ Z hl hret
  obtain ⟨hx, hb, hml, hown, hts, hlk⟩ := C
  have hT : ∀ w ∈ zT, w.before ([.ref (ad 0), .int a, .int f, .int b, .int t] : List Value).toArray s = true := fun w h => hts w (List.mem_cons_of_mem _ h)
  have hown : s.vm.findClass "PolynomialDesk" = some m.cls := hown
  have hl : lv_has ls 5 [(0, .ref (ad 0)), (1, .int a), (2, .int f), (3, .int b), (4, .int t)] := hl
  have hthr := hX _ _ Z.2.2.2.2.2
  obtain ⟨FR, FE, hE, hf4, hf5, h0, h14, ⟨gn, h15⟩, hpr, hpo⟩ := id hD
  obtain ⟨-, ⟨hF0, hF1, hF2, hF3, hF4⟩, ⟨hP1, hP2⟩, hcfg, -⟩ := id hE.1
  obtain ⟨FP, pb, h3, -⟩ := id hpr
  have hct := zCt_le (n := n)
  refine lv_iload_n hx hb dK_add_0 rfl (lv_at hl 1 rfl) ?_
  refine zx_callv (vx_runS (As := [.int a]) (rest := []) ⟨hx, hb, hml, hown, hts⟩ (c_K_requirePolynomial l hnt hX a) (kx_K_requirePolynomial hts ml_K_73 (zRx_fit (by omega) (by omega))) (Z.preS _) rfl rfl hl.1 rfl (lv_room (Nat.le_of_ble_eq_true rfl)) dK_add_1 ⟨Nat.le_of_ble_eq_true rfl, Nat.le_of_ble_eq_true rfl⟩) Z hQ hno hlk (fun E u h9 => ⟨h9.1, fun h8 => zb_nt h9.2.1 h8.1, h9.2.2⟩) (Nat.le_of_ble_eq_true rfl) (Nat.le_of_ble_eq_true rfl) (fun w1 H locs hp Z => ?_)
  obtain ⟨hza, hw1⟩ := hp
  rw [hw1] at Z
  clear hw1
  refine lv_iload_n hx hb dK_add_4 rfl (lv_at hl 3 rfl) ?_
  refine zx_callv (vx_runS (As := [.int b]) (rest := []) ⟨hx, hb, hml, hown, hts⟩ (c_K_requirePolynomial l hnt hX b) (kx_K_requirePolynomial hts ml_K_73 (zRx_fit (by omega) (by omega))) (Z.preS _) rfl rfl hl.1 rfl (lv_room (Nat.le_of_ble_eq_true rfl)) dK_add_5 ⟨Nat.le_of_ble_eq_true rfl, Nat.le_of_ble_eq_true rfl⟩) Z hQ hno hlk (fun E u h9 => ⟨h9.1, fun h8 => zb_nt h9.2.1 h8.2.1, h9.2.2⟩) (Nat.le_of_ble_eq_true rfl) (Nat.le_of_ble_eq_true rfl) (fun w1 H locs hp Z => ?_)
  obtain ⟨hzb, hw1⟩ := hp
  rw [hw1] at Z
  clear hw1
  refine lv_iload hx hb dK_add_8 (lv_at hl 4 rfl) ?_
  refine zx_callv (vx_runS (As := [.int t]) (rest := []) ⟨hx, hb, hml, hown, hts⟩ (c_K_requirePolynomial l hnt hX t) (kx_K_requirePolynomial hts ml_K_73 (zRx_fit (by omega) (by omega))) (Z.preS _) rfl rfl hl.1 rfl (lv_room (Nat.le_of_ble_eq_true rfl)) dK_add_10 ⟨Nat.le_of_ble_eq_true rfl, Nat.le_of_ble_eq_true rfl⟩) Z hQ hno hlk (fun E u h9 => ⟨h9.1, fun h8 => zb_nt h9.2.1 h8.2.2, h9.2.2⟩) (Nat.le_of_ble_eq_true rfl) (Nat.le_of_ble_eq_true rfl) (fun w1 H locs hp Z => ?_)
  obtain ⟨hzt, hw1⟩ := hp
  rw [hw1] at Z
  clear hw1
  obtain ⟨ja, hja, rfl⟩ := zip8_ok hza
  obtain ⟨jb, hjb, rfl⟩ := zip8_ok hzb
  obtain ⟨jt, hjt, rfl⟩ := zip8_ok hzt
  refine lv_aload_n hx hb dK_add_13 rfl (lv_at hl 0 rfl) ?_
  refine zw_get (v := .ref (ad 1)) hx hb hT uK hown Z h0 rfl 0 (by decide) (hT _ mf_K_10) (fun _ h9 => h9) rfl dK_add_14 ?_
  refine lv_aload_n hx hb dK_add_17 rfl (lv_at hl 0 rfl) ?_
  refine zw_get (v := .ref (ad 14)) hx hb hT uK hown Z h0 rfl 3 (by decide) (hT _ mf_K_38) (fun _ h9 => h9) rfl dK_add_18 ?_
  refine lv_iload_n hx hb dK_add_21 rfl (lv_at hl 1 rfl) ?_
  refine zw_aald (v := .ref (ad (20 + ja))) hx hb Z h14 (vin hja (by decide)) (by rw [ncl (by omega)]; rfl) dK_add_22 ?_
  refine lv_iload_n hx hb dK_add_23 rfl (lv_at hl 2 rfl) ?_
  refine lv_aload_n hx hb dK_add_24 rfl (lv_at hl 0 rfl) ?_
  refine zw_get (v := .ref (ad 14)) hx hb hT uK hown Z h0 rfl 3 (by decide) (hT _ mf_K_38) (fun _ h9 => h9) rfl dK_add_25 ?_
  refine lv_iload_n hx hb dK_add_28 rfl (lv_at hl 3 rfl) ?_
  refine zw_aald (v := .ref (ad (20 + jb))) hx hb Z h14 (vin hjb (by decide)) (by rw [ncl (by omega)]; rfl) dK_add_29 ?_
  refine lv_aload_n hx hb dK_add_30 rfl (lv_at hl 0 rfl) ?_
  refine zw_get (v := .ref (ad 14)) hx hb hT uK hown Z h0 rfl 3 (by decide) (hT _ mf_K_38) (fun _ h9 => h9) rfl dK_add_31 ?_
  refine lv_iload hx hb dK_add_34 (lv_at hl 4 rfl) ?_
  refine zw_aald (v := .ref (ad (20 + jt))) hx hb Z h14 (vin hjt (by decide)) (by rw [ncl (by omega)]; rfl) dK_add_36 ?_
  refine zw_callv (va_runV (As := [.ref (ad (20 + ja)), .int f, .ref (ad (20 + jb)), .ref (ad (20 + jt))]) (rest := []) ⟨hx, hb, hml, hown, hts⟩ (c_R_writeSum l P n o FR hE.1 (20 + ja) (20 + jb) (20 + jt) f _ _ _ (by omega) (hpo ja hja).1 (hpo jb hjb).1 (hpo jt hjt).1) (kw_R_writeSum hts ml_K_94 (zRm_fit (by omega) (by omega))) (Z.preV hE.1.1 rfl _) rfl rfl hl.1 rfl (lv_room (Nat.le_of_ble_eq_true rfl)) dK_add_37 ⟨Nat.le_of_ble_eq_true rfl, Nat.le_of_ble_eq_true rfl⟩) Z (fun w1 H locs hp Z => ?_)
  subst hp
  rw [zsum_nat3 hP1 hP2 (hpo ja hja).2 (hpo jb hjb).2 (hpo jt hjt).2] at Z
  exact hret _ _ _ _ _ _ _ dK_add_40 (⟨⟨hza, hzb, hzt⟩, by rw [ncl (by omega), ncl (by omega), ncl (by omega)]; exact hD.row hjt (zadd_pol (by omega)), zfk.up (by omega)⟩) Z (Nat.le_of_ble_eq_true rfl) (Nat.le_of_ble_eq_true rfl)

set_option maxHeartbeats 4000000 in
set_option maxRecDepth 100000 in
theorem c_K_multiply (l : Launch) (hnt : l.stackTraces = false) {G : zG} {ad : Nat → Nat} {w : Nat → Option va_E} (hX : ∀ U H, G.2.2.2 U H → zTHR G U H) (P n o : Nat) (A : Nat → Nat → Nat) (T : Nat → Nat) (len : Nat) (flt pl : Int32) (out : List Nat) (hD : zDk G ad w P n o A T len flt pl out) (a b t : Int32) : vx_Met l yK_multiply wK_multiply (zRx (4) 4 24) (va_Pc [.ref (ad 0), .int a, .int b, .int t] (zw_U G ad w)) (va_Qv (S := Nat → Option va_E) (fun w' => ((zip8 a = true ∧ zip8 b = true ∧ zip8 t = true) ∧ zhigh2 n o (fun i => nI (A a.toNatClampNeg i)) (fun i => nI (A b.toNatClampNeg i)) = false) ∧ zDk G ad w' P n o (va_up A t.toNatClampNeg (zmul n o P (A a.toNatClampNeg) (A b.toNatClampNeg))) T len flt pl out ∧ zfk w w') (fun u t => zw_U G ((fun _ => ad) u) ((fun w' => w') u) t) (zA G)) (zXC G ad (fun E u => ((E = "java/lang/IndexOutOfBoundsException" ∧ ¬ (zip8 a = true ∧ zip8 b = true ∧ zip8 t = true)) ∨ (E = "java/lang/IllegalStateException" ∧ (zip8 a = true ∧ zip8 b = true ∧ zip8 t = true) ∧ zhigh2 n o (fun i => nI (A a.toNatClampNeg i)) (fun i => nI (A b.toNatClampNeg i)) = true)) ∧ u = w)) 4 24 (zA G) := by
  refine zx_methv (S := Nat → Option va_E) (fa := fun _ => ad) (fw := fun w' => w') (by decide) rfl (Nat.le_of_ble_eq_true rfl) ?_
  intro p e s m below meth c Q ls C hno hQ Z hl hret
  obtain ⟨hx, hb, hml, hown, hts, hlk⟩ := C
  have hT : ∀ w ∈ zT, w.before ([.ref (ad 0), .int a, .int b, .int t] : List Value).toArray s = true := fun w h => hts w (List.mem_cons_of_mem _ h)
  have hown : s.vm.findClass "PolynomialDesk" = some m.cls := hown
  have hl : lv_has ls 4 [(0, .ref (ad 0)), (1, .int a), (2, .int b), (3, .int t)] := hl
  have hthr := hX _ _ Z.2.2.2.2.2
  obtain ⟨FR, FE, hE, hf4, hf5, h0, h14, ⟨gn, h15⟩, hpr, hpo⟩ := id hD
  obtain ⟨-, ⟨hF0, hF1, hF2, hF3, hF4⟩, ⟨hP1, hP2⟩, hcfg, -⟩ := id hE.1
  obtain ⟨FP, pb, h3, -⟩ := id hpr
  have hct := zCt_le (n := n)
  refine lv_iload_n hx hb dK_multiply_0 rfl (lv_at hl 1 rfl) ?_
  refine zx_callv (vx_runS (As := [.int a]) (rest := []) ⟨hx, hb, hml, hown, hts⟩ (c_K_requirePolynomial l hnt hX a) (kx_K_requirePolynomial hts ml_K_73 (zRx_fit (by omega) (by omega))) (Z.preS _) rfl rfl hl.1 rfl (lv_room (Nat.le_of_ble_eq_true rfl)) dK_multiply_1 ⟨Nat.le_of_ble_eq_true rfl, Nat.le_of_ble_eq_true rfl⟩) Z hQ hno hlk (fun E u h9 => ⟨Or.inl ⟨h9.1, fun h8 => zb_nt h9.2.1 h8.1⟩, h9.2.2⟩) (Nat.le_of_ble_eq_true rfl) (Nat.le_of_ble_eq_true rfl) (fun w1 H locs hp Z => ?_)
  obtain ⟨hza, hw1⟩ := hp
  rw [hw1] at Z
  clear hw1
  refine lv_iload_n hx hb dK_multiply_4 rfl (lv_at hl 2 rfl) ?_
  refine zx_callv (vx_runS (As := [.int b]) (rest := []) ⟨hx, hb, hml, hown, hts⟩ (c_K_requirePolynomial l hnt hX b) (kx_K_requirePolynomial hts ml_K_73 (zRx_fit (by omega) (by omega))) (Z.preS _) rfl rfl hl.1 rfl (lv_room (Nat.le_of_ble_eq_true rfl)) dK_multiply_5 ⟨Nat.le_of_ble_eq_true rfl, Nat.le_of_ble_eq_true rfl⟩) Z hQ hno hlk (fun E u h9 => ⟨Or.inl ⟨h9.1, fun h8 => zb_nt h9.2.1 h8.2.1⟩, h9.2.2⟩) (Nat.le_of_ble_eq_true rfl) (Nat.le_of_ble_eq_true rfl) (fun w1 H locs hp Z => ?_)
  obtain ⟨hzb, hw1⟩ := hp
  rw [hw1] at Z
  clear hw1
  refine lv_iload_n hx hb dK_multiply_8 rfl (lv_at hl 3 rfl) ?_
  refine zx_callv (vx_runS (As := [.int t]) (rest := []) ⟨hx, hb, hml, hown, hts⟩ (c_K_requirePolynomial l hnt hX t) (kx_K_requirePolynomial hts ml_K_73 (zRx_fit (by omega) (by omega))) (Z.preS _) rfl rfl hl.1 rfl (lv_room (Nat.le_of_ble_eq_true rfl)) dK_multiply_9 ⟨Nat.le_of_ble_eq_true rfl, Nat.le_of_ble_eq_true rfl⟩) Z hQ hno hlk (fun E u h9 => ⟨Or.inl ⟨h9.1, fun h8 => zb_nt h9.2.1 h8.2.2⟩, h9.2.2⟩) (Nat.le_of_ble_eq_true rfl) (Nat.le_of_ble_eq_true rfl) (fun w1 H locs hp Z => ?_)
  obtain ⟨hzt, hw1⟩ := hp
  rw [hw1] at Z
  clear hw1
  obtain ⟨ja, hja, rfl⟩ := zip8_ok hza
  obtain ⟨jb, hjb, rfl⟩ := zip8_ok hzb
  obtain ⟨jt, hjt, rfl⟩ := zip8_ok hzt
  rw [ncl (show ja < 2 ^ 31 by omega), ncl (show jb < 2 ^ 31 by omega), ncl (show jt < 2 ^ 31 by omega)] at hret hQ
  refine lv_aload_n hx hb dK_multiply_12 rfl (lv_at hl 0 rfl) ?_
  refine zw_get (v := .ref (ad 1)) hx hb hT uK hown Z h0 rfl 0 (by decide) (hT _ mf_K_10) (fun _ h9 => h9) rfl dK_multiply_13 ?_
  refine lv_aload_n hx hb dK_multiply_16 rfl (lv_at hl 0 rfl) ?_
  refine zw_get (v := .ref (ad 14)) hx hb hT uK hown Z h0 rfl 3 (by decide) (hT _ mf_K_38) (fun _ h9 => h9) rfl dK_multiply_17 ?_
  refine lv_iload_n hx hb dK_multiply_20 rfl (lv_at hl 1 rfl) ?_
  refine zw_aald (v := .ref (ad (20 + ja))) hx hb Z h14 (vin hja (by decide)) (by rw [ncl (by omega)]; rfl) dK_multiply_21 ?_
  refine lv_aload_n hx hb dK_multiply_22 rfl (lv_at hl 0 rfl) ?_
  refine zw_get (v := .ref (ad 14)) hx hb hT uK hown Z h0 rfl 3 (by decide) (hT _ mf_K_38) (fun _ h9 => h9) rfl dK_multiply_23 ?_
  refine lv_iload_n hx hb dK_multiply_26 rfl (lv_at hl 2 rfl) ?_
  refine zw_aald (v := .ref (ad (20 + jb))) hx hb Z h14 (vin hjb (by decide)) (by rw [ncl (by omega)]; rfl) dK_multiply_27 ?_
  refine zw_calli (va_runV (As := [.ref (ad (20 + ja)), .ref (ad (20 + jb))]) (rest := []) ⟨hx, hb, hml, hown, hts⟩ (c_R_isProductTooHigh l P n o FR hE.1 (20 + ja) (20 + jb) _ _ (hpo ja hja).1 (hpo jb hjb).1) (kw_R_isProductTooHigh hts ml_K_98 (zRm_fit (by omega) (by omega))) (Z.preV hE.1.1 rfl _) rfl rfl hl.1 rfl (lv_room (Nat.le_of_ble_eq_true rfl)) dK_multiply_28 ⟨Nat.le_of_ble_eq_true rfl, Nat.le_of_ble_eq_true rfl⟩) Z (fun r wq H locs hp Z => ?_)
  obtain ⟨rfl, hw1⟩ := hp
  rw [hw1] at Z
  clear hw1
  refine lv_if_eq (tgt := 44) hx hb dK_multiply_31 (by decide) (fun hc => ?_) (fun hc => ?_)
  · have hhi := zb_f hc
    obtain ⟨gs, hgs⟩ := hE.2.2.2.2.2.2.2.2 71 (by decide) (by decide)
    refine lv_aload_n hx hb dK_multiply_44 rfl (lv_at hl 0 rfl) ?_
    refine zw_get (v := .ref (ad 1)) hx hb hT uK hown Z h0 rfl 0 (by decide) (hT _ mf_K_10) (fun _ h9 => h9) rfl dK_multiply_45 ?_
    refine lv_aload_n hx hb dK_multiply_48 rfl (lv_at hl 0 rfl) ?_
    refine zw_get (v := .ref (ad 14)) hx hb hT uK hown Z h0 rfl 3 (by decide) (hT _ mf_K_38) (fun _ h9 => h9) rfl dK_multiply_49 ?_
    refine lv_iload_n hx hb dK_multiply_52 rfl (lv_at hl 1 rfl) ?_
    refine zw_aald (v := .ref (ad (20 + ja))) hx hb Z h14 (vin hja (by decide)) (by rw [ncl (by omega)]; rfl) dK_multiply_53 ?_
    refine lv_aload_n hx hb dK_multiply_54 rfl (lv_at hl 0 rfl) ?_
    refine zw_get (v := .ref (ad 14)) hx hb hT uK hown Z h0 rfl 3 (by decide) (hT _ mf_K_38) (fun _ h9 => h9) rfl dK_multiply_55 ?_
    refine lv_iload_n hx hb dK_multiply_58 rfl (lv_at hl 2 rfl) ?_
    refine zw_aald (v := .ref (ad (20 + jb))) hx hb Z h14 (vin hjb (by decide)) (by rw [ncl (by omega)]; rfl) dK_multiply_59 ?_
    refine lv_aload_n hx hb dK_multiply_60 rfl (lv_at hl 0 rfl) ?_
    refine zw_get (v := .ref (ad 14)) hx hb hT uK hown Z h0 rfl 3 (by decide) (hT _ mf_K_38) (fun _ h9 => h9) rfl dK_multiply_61 ?_
    refine lv_iload_n hx hb dK_multiply_64 rfl (lv_at hl 3 rfl) ?_
    refine zw_aald (v := .ref (ad (20 + jt))) hx hb Z h14 (vin hjt (by decide)) (by rw [ncl (by omega)]; rfl) dK_multiply_65 ?_
    refine zw_callv (va_runV (As := [.ref (ad (20 + ja)), .ref (ad (20 + jb)), .ref (ad (20 + jt))]) (rest := []) ⟨hx, hb, hml, hown, hts⟩ (c_R_writeProduct l P n o FR hE.1 (20 + ja) (20 + jb) (20 + jt) (A ja) (A jb) gs _ (by omega) (by omega) (by omega) (hpo ja hja).2.1 (hpo jb hjb).2.1 (hpo ja hja).1 (hpo jb hjb).1 hgs (hpo jt hjt).1 (zhigh2_deg hcfg hP2 (hpo ja hja).2 (hpo jb hjb).2 (zb_nt hhi))) (kw_R_writeProduct hts ml_K_107 (zRm_fit (by omega) (by omega))) (Z.preV hE.1.1 rfl _) rfl rfl hl.1 rfl (lv_room (Nat.le_of_ble_eq_true rfl)) dK_multiply_66 ⟨Nat.le_of_ble_eq_true rfl, Nat.le_of_ble_eq_true rfl⟩) Z (fun w1 H locs hp Z => ?_)
    subst hp
    exact hret _ _ _ _ _ _ _ dK_multiply_69 (⟨⟨⟨hza, hzb, hzt⟩, hhi⟩, (hD.work (by decide) (by decide)).row hjt (zmul_pol (by omega) _ _), (zfk.up (by decide)).trans (zfk.up (by omega))⟩) Z (Nat.le_of_ble_eq_true rfl) (Nat.le_of_ble_eq_true rfl)
  · exact zw_throwS (text := "the product's degree is too high") hx hb hnt hown zt_IS_f (hT _ mc_K_102) (hT _ mn_IllegalStateException) (fun w h => hT w (zt_IS_g w h)) zt_IS_n zt_IS_o hthr (by decide) Z (hl.1.trans hml.symm) dK_multiply_34 dK_multiply_37 dK_multiply_38 dK_multiply_40 dK_multiply_43 hno (Nat.le_of_ble_eq_true rfl) (Nat.le_of_ble_eq_true rfl) (Nat.le_of_ble_eq_true rfl) (Nat.le_of_ble_eq_true rfl) hlk hQ (⟨Or.inr ⟨rfl, ⟨hza, hzb, hzt⟩, zb_t hc⟩, rfl⟩) (Nat.le_of_ble_eq_true rfl) (Nat.le_of_ble_eq_true rfl)

set_option maxHeartbeats 4000000 in
set_option maxRecDepth 100000 in
theorem c_K_derive (l : Launch) (hnt : l.stackTraces = false) {G : zG} {ad : Nat → Nat} {w : Nat → Option va_E} (hX : ∀ U H, G.2.2.2 U H → zTHR G U H) (P n o : Nat) (A : Nat → Nat → Nat) (T : Nat → Nat) (len : Nat) (flt pl : Int32) (out : List Nat) (hD : zDk G ad w P n o A T len flt pl out) (a v t : Int32) : vx_Met l yK_derive wK_derive (zRx (4) 4 24) (va_Pc [.ref (ad 0), .int a, .int v, .int t] (zw_U G ad w)) (va_Qv (S := Nat → Option va_E) (fun w' => (zip8 a = true ∧ zvv n v = true ∧ zip8 t = true) ∧ zDk G ad w' P n o (va_up A t.toNatClampNeg (zder n o P v.toNatClampNeg (A a.toNatClampNeg))) T len flt pl out ∧ zfk w w') (fun u t => zw_U G ((fun _ => ad) u) ((fun w' => w') u) t) (zA G)) (zXC G ad (fun E u => E = "java/lang/IndexOutOfBoundsException" ∧ ¬ (zip8 a = true ∧ zvv n v = true ∧ zip8 t = true) ∧ u = w)) 4 24 (zA G) := by
  refine zx_methv (S := Nat → Option va_E) (fa := fun _ => ad) (fw := fun w' => w') (by decide) rfl (Nat.le_of_ble_eq_true rfl) ?_
  intro p e s m below meth c Q ls C hno hQ Z hl hret
  obtain ⟨hx, hb, hml, hown, hts, hlk⟩ := C
  have hT : ∀ w ∈ zT, w.before ([.ref (ad 0), .int a, .int v, .int t] : List Value).toArray s = true := fun w h => hts w (List.mem_cons_of_mem _ h)
  have hown : s.vm.findClass "PolynomialDesk" = some m.cls := hown
  have hl : lv_has ls 4 [(0, .ref (ad 0)), (1, .int a), (2, .int v), (3, .int t)] := hl
  have hthr := hX _ _ Z.2.2.2.2.2
  obtain ⟨FR, FE, hE, hf4, hf5, h0, h14, ⟨gn, h15⟩, hpr, hpo⟩ := id hD
  obtain ⟨-, ⟨hF0, hF1, hF2, hF3, hF4⟩, ⟨hP1, hP2⟩, hcfg, -⟩ := id hE.1
  obtain ⟨FP, pb, h3, -⟩ := id hpr
  have hct := zCt_le (n := n)
  have hn4 := hcfg.2.1
  refine lv_iload_n hx hb dK_derive_0 rfl (lv_at hl 1 rfl) ?_
  refine zx_callv (vx_runS (As := [.int a]) (rest := []) ⟨hx, hb, hml, hown, hts⟩ (c_K_requirePolynomial l hnt hX a) (kx_K_requirePolynomial hts ml_K_73 (zRx_fit (by omega) (by omega))) (Z.preS _) rfl rfl hl.1 rfl (lv_room (Nat.le_of_ble_eq_true rfl)) dK_derive_1 ⟨Nat.le_of_ble_eq_true rfl, Nat.le_of_ble_eq_true rfl⟩) Z hQ hno hlk (fun E u h9 => ⟨h9.1, fun h8 => zb_nt h9.2.1 h8.1, h9.2.2⟩) (Nat.le_of_ble_eq_true rfl) (Nat.le_of_ble_eq_true rfl) (fun w1 H locs hp Z => ?_)
  obtain ⟨hza, hw1⟩ := hp
  rw [hw1] at Z
  clear hw1
  refine lv_aload_n hx hb dK_derive_4 rfl (lv_at hl 0 rfl) ?_
  refine lv_iload_n hx hb dK_derive_5 rfl (lv_at hl 2 rfl) ?_
  refine zx_callv (vx_runV (As := [.int v]) (rest := []) ⟨hx, hb, hml, hown, hts⟩ (c_K_requireVariable l hnt hX P n o A T len flt pl out hD v) (kx_K_requireVariable hts ml_K_111 (zRx_fit (by omega) (by omega))) (Z.preV h0 rfl _) rfl rfl hl.1 rfl (lv_room (Nat.le_of_ble_eq_true rfl)) dK_derive_6 ⟨Nat.le_of_ble_eq_true rfl, Nat.le_of_ble_eq_true rfl⟩) Z hQ hno hlk (fun E u h9 => ⟨h9.1, fun h8 => zb_nt h9.2.1 h8.2.1, h9.2.2⟩) (Nat.le_of_ble_eq_true rfl) (Nat.le_of_ble_eq_true rfl) (fun w1 H locs hp Z => ?_)
  obtain ⟨hzv, hw1⟩ := hp
  rw [hw1] at Z
  clear hw1
  refine lv_iload_n hx hb dK_derive_9 rfl (lv_at hl 3 rfl) ?_
  refine zx_callv (vx_runS (As := [.int t]) (rest := []) ⟨hx, hb, hml, hown, hts⟩ (c_K_requirePolynomial l hnt hX t) (kx_K_requirePolynomial hts ml_K_73 (zRx_fit (by omega) (by omega))) (Z.preS _) rfl rfl hl.1 rfl (lv_room (Nat.le_of_ble_eq_true rfl)) dK_derive_10 ⟨Nat.le_of_ble_eq_true rfl, Nat.le_of_ble_eq_true rfl⟩) Z hQ hno hlk (fun E u h9 => ⟨h9.1, fun h8 => zb_nt h9.2.1 h8.2.2, h9.2.2⟩) (Nat.le_of_ble_eq_true rfl) (Nat.le_of_ble_eq_true rfl) (fun w1 H locs hp Z => ?_)
  obtain ⟨hzt, hw1⟩ := hp
  rw [hw1] at Z
  clear hw1
  obtain ⟨ja, hja, rfl⟩ := zip8_ok hza
  obtain ⟨jt, hjt, rfl⟩ := zip8_ok hzt
  obtain ⟨jv, hjv, rfl⟩ := zvv_ok hn4 hzv
  obtain ⟨gs, hgs⟩ := hE.2.2.2.2.2.2.2.2 71 (by decide) (by decide)
  refine lv_aload_n hx hb dK_derive_13 rfl (lv_at hl 0 rfl) ?_
  refine zw_get (v := .ref (ad 1)) hx hb hT uK hown Z h0 rfl 0 (by decide) (hT _ mf_K_10) (fun _ h9 => h9) rfl dK_derive_14 ?_
  refine lv_aload_n hx hb dK_derive_17 rfl (lv_at hl 0 rfl) ?_
  refine zw_get (v := .ref (ad 14)) hx hb hT uK hown Z h0 rfl 3 (by decide) (hT _ mf_K_38) (fun _ h9 => h9) rfl dK_derive_18 ?_
  refine lv_iload_n hx hb dK_derive_21 rfl (lv_at hl 1 rfl) ?_
  refine zw_aald (v := .ref (ad (20 + ja))) hx hb Z h14 (vin hja (by decide)) (by rw [ncl (by omega)]; rfl) dK_derive_22 ?_
  refine lv_iload_n hx hb dK_derive_23 rfl (lv_at hl 2 rfl) ?_
  refine lv_aload_n hx hb dK_derive_24 rfl (lv_at hl 0 rfl) ?_
  refine zw_get (v := .ref (ad 14)) hx hb hT uK hown Z h0 rfl 3 (by decide) (hT _ mf_K_38) (fun _ h9 => h9) rfl dK_derive_25 ?_
  refine lv_iload_n hx hb dK_derive_28 rfl (lv_at hl 3 rfl) ?_
  refine zw_aald (v := .ref (ad (20 + jt))) hx hb Z h14 (vin hjt (by decide)) (by rw [ncl (by omega)]; rfl) dK_derive_29 ?_
  refine zw_callv (va_runV (As := [.ref (ad (20 + ja)), .int (nI jv), .ref (ad (20 + jt))]) (rest := []) ⟨hx, hb, hml, hown, hts⟩ (c_R_writeDerivative l P n o FR hE.1 (20 + ja) jv (20 + jt) (A ja) gs _ hjv (by omega) (by omega) (hpo ja hja).2.1 (hpo ja hja).1 hgs (hpo jt hjt).1) (kw_R_writeDerivative hts ml_K_114 (zRm_fit (by omega) (by omega))) (Z.preV hE.1.1 rfl _) rfl rfl hl.1 rfl (lv_room (Nat.le_of_ble_eq_true rfl)) dK_derive_30 ⟨Nat.le_of_ble_eq_true rfl, Nat.le_of_ble_eq_true rfl⟩) Z (fun w1 H locs hp Z => ?_)
  subst hp
  exact hret _ _ _ _ _ _ _ dK_derive_33 (⟨⟨hza, hzv, hzt⟩, by rw [ncl (show jt < 2 ^ 31 by omega), ncl (show jv < 2 ^ 31 by omega), ncl (show ja < 2 ^ 31 by omega)]; exact (hD.work (by decide) (by decide)).row hjt (zD0_pol (by omega) _), (zfk.up (by decide)).trans (zfk.up (by omega))⟩) Z (Nat.le_of_ble_eq_true rfl) (Nat.le_of_ble_eq_true rfl)

set_option maxHeartbeats 4000000 in
set_option maxRecDepth 100000 in
theorem c_K_set (l : Launch) (hnt : l.stackTraces = false) {G : zG} {ad : Nat → Nat} {w : Nat → Option va_E} (hX : ∀ U H, G.2.2.2 U H → zTHR G U H) (P n o : Nat) (A : Nat → Nat → Nat) (T : Nat → Nat) (len : Nat) (flt pl : Int32) (out : List Nat) (hD : zDk G ad w P n o A T len flt pl out) (a v x t : Int32) : vx_Met l yK_set wK_set (zRx (4) 4 24) (va_Pc [.ref (ad 0), .int a, .int v, .int x, .int t] (zw_U G ad w)) (va_Qv (S := Nat → Option va_E) (fun w' => (zip8 a = true ∧ zvv n v = true ∧ zip8 t = true) ∧ zDk G ad w' P n o (va_up A t.toNatClampNeg (zsub n o P v.toNatClampNeg (zred P x) (A a.toNatClampNeg))) T len flt pl out ∧ zfk w w') (fun u t => zw_U G ((fun _ => ad) u) ((fun w' => w') u) t) (zA G)) (zXC G ad (fun E u => E = "java/lang/IndexOutOfBoundsException" ∧ ¬ (zip8 a = true ∧ zvv n v = true ∧ zip8 t = true) ∧ u = w)) 4 24 (zA G) := by
  refine zx_methv (S := Nat → Option va_E) (fa := fun _ => ad) (fw := fun w' => w') (by decide) rfl (Nat.le_of_ble_eq_true rfl) ?_
  intro p e s m below meth c Q ls C hno hQ Z hl hret
  obtain ⟨hx, hb, hml, hown, hts, hlk⟩ := C
  have hT : ∀ w ∈ zT, w.before ([.ref (ad 0), .int a, .int v, .int x, .int t] : List Value).toArray s = true := fun w h => hts w (List.mem_cons_of_mem _ h)
  have hown : s.vm.findClass "PolynomialDesk" = some m.cls := hown
  have hl : lv_has ls 5 [(0, .ref (ad 0)), (1, .int a), (2, .int v), (3, .int x), (4, .int t)] := hl
  have hthr := hX _ _ Z.2.2.2.2.2
  obtain ⟨FR, FE, hE, hf4, hf5, h0, h14, ⟨gn, h15⟩, hpr, hpo⟩ := id hD
  obtain ⟨-, ⟨hF0, hF1, hF2, hF3, hF4⟩, ⟨hP1, hP2⟩, hcfg, -⟩ := id hE.1
  obtain ⟨FP, pb, h3, -⟩ := id hpr
  have hct := zCt_le (n := n)
  have hn4 := hcfg.2.1
  refine lv_iload_n hx hb dK_set_0 rfl (lv_at hl 1 rfl) ?_
  refine zx_callv (vx_runS (As := [.int a]) (rest := []) ⟨hx, hb, hml, hown, hts⟩ (c_K_requirePolynomial l hnt hX a) (kx_K_requirePolynomial hts ml_K_73 (zRx_fit (by omega) (by omega))) (Z.preS _) rfl rfl hl.1 rfl (lv_room (Nat.le_of_ble_eq_true rfl)) dK_set_1 ⟨Nat.le_of_ble_eq_true rfl, Nat.le_of_ble_eq_true rfl⟩) Z hQ hno hlk (fun E u h9 => ⟨h9.1, fun h8 => zb_nt h9.2.1 h8.1, h9.2.2⟩) (Nat.le_of_ble_eq_true rfl) (Nat.le_of_ble_eq_true rfl) (fun w1 H locs hp Z => ?_)
  obtain ⟨hza, hw1⟩ := hp
  rw [hw1] at Z
  clear hw1
  refine lv_aload_n hx hb dK_set_4 rfl (lv_at hl 0 rfl) ?_
  refine lv_iload_n hx hb dK_set_5 rfl (lv_at hl 2 rfl) ?_
  refine zx_callv (vx_runV (As := [.int v]) (rest := []) ⟨hx, hb, hml, hown, hts⟩ (c_K_requireVariable l hnt hX P n o A T len flt pl out hD v) (kx_K_requireVariable hts ml_K_111 (zRx_fit (by omega) (by omega))) (Z.preV h0 rfl _) rfl rfl hl.1 rfl (lv_room (Nat.le_of_ble_eq_true rfl)) dK_set_6 ⟨Nat.le_of_ble_eq_true rfl, Nat.le_of_ble_eq_true rfl⟩) Z hQ hno hlk (fun E u h9 => ⟨h9.1, fun h8 => zb_nt h9.2.1 h8.2.1, h9.2.2⟩) (Nat.le_of_ble_eq_true rfl) (Nat.le_of_ble_eq_true rfl) (fun w1 H locs hp Z => ?_)
  obtain ⟨hzv, hw1⟩ := hp
  rw [hw1] at Z
  clear hw1
  refine lv_iload hx hb dK_set_9 (lv_at hl 4 rfl) ?_
  refine zx_callv (vx_runS (As := [.int t]) (rest := []) ⟨hx, hb, hml, hown, hts⟩ (c_K_requirePolynomial l hnt hX t) (kx_K_requirePolynomial hts ml_K_73 (zRx_fit (by omega) (by omega))) (Z.preS _) rfl rfl hl.1 rfl (lv_room (Nat.le_of_ble_eq_true rfl)) dK_set_11 ⟨Nat.le_of_ble_eq_true rfl, Nat.le_of_ble_eq_true rfl⟩) Z hQ hno hlk (fun E u h9 => ⟨h9.1, fun h8 => zb_nt h9.2.1 h8.2.2, h9.2.2⟩) (Nat.le_of_ble_eq_true rfl) (Nat.le_of_ble_eq_true rfl) (fun w1 H locs hp Z => ?_)
  obtain ⟨hzt, hw1⟩ := hp
  rw [hw1] at Z
  clear hw1
  obtain ⟨ja, hja, rfl⟩ := zip8_ok hza
  obtain ⟨jt, hjt, rfl⟩ := zip8_ok hzt
  obtain ⟨jv, hjv, rfl⟩ := zvv_ok hn4 hzv
  obtain ⟨gs, hgs⟩ := hE.2.2.2.2.2.2.2.2 71 (by decide) (by decide)
  refine lv_aload_n hx hb dK_set_14 rfl (lv_at hl 0 rfl) ?_
  refine zw_get (v := .ref (ad 1)) hx hb hT uK hown Z h0 rfl 0 (by decide) (hT _ mf_K_10) (fun _ h9 => h9) rfl dK_set_15 ?_
  refine lv_aload_n hx hb dK_set_18 rfl (lv_at hl 0 rfl) ?_
  refine zw_get (v := .ref (ad 14)) hx hb hT uK hown Z h0 rfl 3 (by decide) (hT _ mf_K_38) (fun _ h9 => h9) rfl dK_set_19 ?_
  refine lv_iload_n hx hb dK_set_22 rfl (lv_at hl 1 rfl) ?_
  refine zw_aald (v := .ref (ad (20 + ja))) hx hb Z h14 (vin hja (by decide)) (by rw [ncl (by omega)]; rfl) dK_set_23 ?_
  refine lv_iload_n hx hb dK_set_24 rfl (lv_at hl 2 rfl) ?_
  refine lv_iload_n hx hb dK_set_25 rfl (lv_at hl 3 rfl) ?_
  refine lv_aload_n hx hb dK_set_26 rfl (lv_at hl 0 rfl) ?_
  refine zw_get (v := .ref (ad 14)) hx hb hT uK hown Z h0 rfl 3 (by decide) (hT _ mf_K_38) (fun _ h9 => h9) rfl dK_set_27 ?_
  refine lv_iload hx hb dK_set_30 (lv_at hl 4 rfl) ?_
  refine zw_aald (v := .ref (ad (20 + jt))) hx hb Z h14 (vin hjt (by decide)) (by rw [ncl (by omega)]; rfl) dK_set_32 ?_
  refine zw_callv (va_runV (As := [.ref (ad (20 + ja)), .int (nI jv), .int x, .ref (ad (20 + jt))]) (rest := []) ⟨hx, hb, hml, hown, hts⟩ (c_R_writeSubstitute l P n o FR hE.1 (20 + ja) jv (20 + jt) x (A ja) gs _ hjv (by omega) (by omega) (hpo ja hja).2.1 (hpo ja hja).1 hgs (hpo jt hjt).1) (kw_R_writeSubstitute hts ml_K_118 (zRm_fit (by omega) (by omega))) (Z.preV hE.1.1 rfl _) rfl rfl hl.1 rfl (lv_room (Nat.le_of_ble_eq_true rfl)) dK_set_33 ⟨Nat.le_of_ble_eq_true rfl, Nat.le_of_ble_eq_true rfl⟩) Z (fun w1 H locs hp Z => ?_)
  subst hp
  exact hret _ _ _ _ _ _ _ dK_set_36 (⟨⟨hza, hzv, hzt⟩, by rw [ncl (show jt < 2 ^ 31 by omega), ncl (show jv < 2 ^ 31 by omega), ncl (show ja < 2 ^ 31 by omega)]; exact (hD.work (by decide) (by decide)).row hjt (zB0_pol (by omega) _), (zfk.up (by decide)).trans (zfk.up (by omega))⟩) Z (Nat.le_of_ble_eq_true rfl) (Nat.le_of_ble_eq_true rfl)

def zx4 (x y z u : Int32) (v : Nat) : Int32 := if v = 0 then x else if v = 1 then y else if v = 2 then z else u

theorem zvp_cong {n o P : Nat} {xs ys : Nat → Nat} {c i : Nat} : ∀ k, (∀ v, v < k → xs v = ys v) → zvp n o P xs c i k = zvp n o P ys c i k
  | 0, _ => rfl
  | k + 1, h => by
    simp only [zvp]
    rw [zvp_cong k (fun v hv => h v (by omega)), h k (by omega)]
theorem zevl_cong {n o P : Nat} {xs ys : Nat → Nat} {A : Nat → Nat} (hn : n ≤ 4) (h : ∀ v, v < 4 → xs v = ys v) : zevl n o P xs A (zCt n) = zevl n o P ys A (zCt n) := by
  unfold zevl
  congr 2
  funext i
  exact zvp_cong n (fun v hv => h v (by omega))

set_option maxHeartbeats 4000000 in
set_option maxRecDepth 100000 in
theorem c_K_value (l : Launch) (hnt : l.stackTraces = false) {G : zG} {ad : Nat → Nat} {w : Nat → Option va_E} (hX : ∀ U H, G.2.2.2 U H → zTHR G U H) (P n o : Nat) (A : Nat → Nat → Nat) (T : Nat → Nat) (len : Nat) (flt pl : Int32) (out : List Nat) (hD : zDk G ad w P n o A T len flt pl out) (a x y z u9 : Int32) : vx_Met l yK_value wK_value (zRx (4) 4 24) (va_Pc [.ref (ad 0), .int a, .int x, .int y, .int z, .int u9] (zw_U G ad w)) (va_Qi (S := Nat → Option va_E) (fun r w' => (zip8 a = true ∧ r = nI (zevl n o P (fun v => zred P (zx4 x y z u9 v)) (A a.toNatClampNeg) (zCt n))) ∧ zDk G ad w' P n o A T len flt pl out ∧ zfk w w') (fun u t => zw_U G ((fun _ => ad) u) ((fun w' => w') u) t) (zA G)) (zXC G ad (fun E u => E = "java/lang/IndexOutOfBoundsException" ∧ zip8 a = false ∧ u = w)) 4 24 (zA G) := by
  refine zx_methi (S := Nat → Option va_E) (fa := fun _ => ad) (fw := fun w' => w') (by decide) rfl (Nat.le_of_ble_eq_true rfl) ?_
  intro p e s m below meth c Q ls C hno hQ Z hl hret
  obtain ⟨hx, hb, hml, hown, hts, hlk⟩ := C
  have hT : ∀ w ∈ zT, w.before ([.ref (ad 0), .int a, .int x, .int y, .int z, .int u9] : List Value).toArray s = true := fun w h => hts w (List.mem_cons_of_mem _ h)
  have hown : s.vm.findClass "PolynomialDesk" = some m.cls := hown
  have hl : lv_has ls 6 [(0, .ref (ad 0)), (1, .int a), (2, .int x), (3, .int y), (4, .int z), (5, .int u9)] := hl
  have hthr := hX _ _ Z.2.2.2.2.2
  obtain ⟨FR, FE, hE, hf4, hf5, h0, h14, ⟨gn, h15⟩, hpr, hpo⟩ := id hD
  obtain ⟨-, ⟨hF0, hF1, hF2, hF3, hF4⟩, ⟨hP1, hP2⟩, hcfg, -⟩ := id hE.1
  obtain ⟨FP, pb, h3, -⟩ := id hpr
  have hct := zCt_le (n := n)
  refine lv_iload_n hx hb dK_value_0 rfl (lv_at hl 1 rfl) ?_
  refine zx_callv (vx_runS (As := [.int a]) (rest := []) ⟨hx, hb, hml, hown, hts⟩ (c_K_requirePolynomial l hnt hX a) (kx_K_requirePolynomial hts ml_K_73 (zRx_fit (by omega) (by omega))) (Z.preS _) rfl rfl hl.1 rfl (lv_room (Nat.le_of_ble_eq_true rfl)) dK_value_1 ⟨Nat.le_of_ble_eq_true rfl, Nat.le_of_ble_eq_true rfl⟩) Z hQ hno hlk (fun E u h9 => h9) (Nat.le_of_ble_eq_true rfl) (Nat.le_of_ble_eq_true rfl) (fun w1 H locs hp Z => ?_)
  obtain ⟨hza, hw1⟩ := hp
  rw [hw1] at Z
  clear hw1
  obtain ⟨ja, hja, rfl⟩ := zip8_ok hza
  refine lv_aload_n hx hb dK_value_4 rfl (lv_at hl 0 rfl) ?_
  refine zw_get (v := .ref (ad 15)) hx hb hT uK hown Z h0 rfl 4 (by decide) (hT _ mf_K_41) (fun _ h9 => h9) rfl dK_value_5 ?_
  refine lv_iconst (v := 0) hx hb dK_value_8 (by decide) ?_
  refine lv_iload_n hx hb dK_value_9 rfl (lv_at hl 2 rfl) ?_
  refine zw_iast hx hb Z h15 (vin (i := 0) (by decide) (by decide)) dK_value_10 (fun H locs Z => ?_)
  have Z : zw G ad (va_up w 15 (some (zi G 4 (upd gn 0 x)))) s H locs := Z
  have h15 : (va_up w 15 (some (zi G 4 (upd gn 0 x)))) 15 = some (zi G 4 (upd gn 0 x)) := va_up_self _ _ _
  have h0 : (va_up w 15 (some (zi G 4 (upd gn 0 x)))) 0 = some (oK ad (fun _ => 0)) := by rw [va_up_ne _ _ (by decide)]; exact h0
  have h14 : (va_up w 15 (some (zi G 4 (upd gn 0 x)))) 14 = some (zq G 8 (fun k => some (ad (20 + k)))) := by rw [va_up_ne _ _ (by decide)]; exact h14
  refine lv_aload_n hx hb dK_value_11 rfl (lv_at hl 0 rfl) ?_
  refine zw_get (v := .ref (ad 15)) hx hb hT uK hown Z h0 rfl 4 (by decide) (hT _ mf_K_41) (fun _ h9 => h9) rfl dK_value_12 ?_
  refine lv_iconst (v := 1) hx hb dK_value_15 (by decide) ?_
  refine lv_iload_n hx hb dK_value_16 rfl (lv_at hl 3 rfl) ?_
  refine zw_iast hx hb Z h15 (vin (i := 1) (by decide) (by decide)) dK_value_17 (fun H locs Z => ?_)
  have Z : zw G ad (va_up (va_up w 15 (some (zi G 4 (upd gn 0 x)))) 15 (some (zi G 4 (upd (upd gn 0 x) 1 y)))) s H locs := Z
  have h15 : (va_up (va_up w 15 (some (zi G 4 (upd gn 0 x)))) 15 (some (zi G 4 (upd (upd gn 0 x) 1 y)))) 15 = some (zi G 4 (upd (upd gn 0 x) 1 y)) := va_up_self _ _ _
  have h0 : (va_up (va_up w 15 (some (zi G 4 (upd gn 0 x)))) 15 (some (zi G 4 (upd (upd gn 0 x) 1 y)))) 0 = some (oK ad (fun _ => 0)) := by rw [va_up_ne _ _ (by decide)]; exact h0
  have h14 : (va_up (va_up w 15 (some (zi G 4 (upd gn 0 x)))) 15 (some (zi G 4 (upd (upd gn 0 x) 1 y)))) 14 = some (zq G 8 (fun k => some (ad (20 + k)))) := by rw [va_up_ne _ _ (by decide)]; exact h14
  refine lv_aload_n hx hb dK_value_18 rfl (lv_at hl 0 rfl) ?_
  refine zw_get (v := .ref (ad 15)) hx hb hT uK hown Z h0 rfl 4 (by decide) (hT _ mf_K_41) (fun _ h9 => h9) rfl dK_value_19 ?_
  refine lv_iconst (v := 2) hx hb dK_value_22 (by decide) ?_
  refine lv_iload hx hb dK_value_23 (lv_at hl 4 rfl) ?_
  refine zw_iast hx hb Z h15 (vin (i := 2) (by decide) (by decide)) dK_value_25 (fun H locs Z => ?_)
  have Z : zw G ad (va_up (va_up (va_up w 15 (some (zi G 4 (upd gn 0 x)))) 15 (some (zi G 4 (upd (upd gn 0 x) 1 y)))) 15 (some (zi G 4 (upd (upd (upd gn 0 x) 1 y) 2 z)))) s H locs := Z
  have h15 : (va_up (va_up (va_up w 15 (some (zi G 4 (upd gn 0 x)))) 15 (some (zi G 4 (upd (upd gn 0 x) 1 y)))) 15 (some (zi G 4 (upd (upd (upd gn 0 x) 1 y) 2 z)))) 15 = some (zi G 4 (upd (upd (upd gn 0 x) 1 y) 2 z)) := va_up_self _ _ _
  have h0 : (va_up (va_up (va_up w 15 (some (zi G 4 (upd gn 0 x)))) 15 (some (zi G 4 (upd (upd gn 0 x) 1 y)))) 15 (some (zi G 4 (upd (upd (upd gn 0 x) 1 y) 2 z)))) 0 = some (oK ad (fun _ => 0)) := by rw [va_up_ne _ _ (by decide)]; exact h0
  have h14 : (va_up (va_up (va_up w 15 (some (zi G 4 (upd gn 0 x)))) 15 (some (zi G 4 (upd (upd gn 0 x) 1 y)))) 15 (some (zi G 4 (upd (upd (upd gn 0 x) 1 y) 2 z)))) 14 = some (zq G 8 (fun k => some (ad (20 + k)))) := by rw [va_up_ne _ _ (by decide)]; exact h14
  refine lv_aload_n hx hb dK_value_26 rfl (lv_at hl 0 rfl) ?_
  refine zw_get (v := .ref (ad 15)) hx hb hT uK hown Z h0 rfl 4 (by decide) (hT _ mf_K_41) (fun _ h9 => h9) rfl dK_value_27 ?_
  refine lv_iconst (v := 3) hx hb dK_value_30 (by decide) ?_
  refine lv_iload hx hb dK_value_31 (lv_at hl 5 rfl) ?_
  refine zw_iast hx hb Z h15 (vin (i := 3) (by decide) (by decide)) dK_value_33 (fun H locs Z => ?_)
  have Z : zw G ad (va_up (va_up (va_up (va_up w 15 (some (zi G 4 (upd gn 0 x)))) 15 (some (zi G 4 (upd (upd gn 0 x) 1 y)))) 15 (some (zi G 4 (upd (upd (upd gn 0 x) 1 y) 2 z)))) 15 (some (zi G 4 (upd (upd (upd (upd gn 0 x) 1 y) 2 z) 3 u9)))) s H locs := Z
  have h15 : (va_up (va_up (va_up (va_up w 15 (some (zi G 4 (upd gn 0 x)))) 15 (some (zi G 4 (upd (upd gn 0 x) 1 y)))) 15 (some (zi G 4 (upd (upd (upd gn 0 x) 1 y) 2 z)))) 15 (some (zi G 4 (upd (upd (upd (upd gn 0 x) 1 y) 2 z) 3 u9)))) 15 = some (zi G 4 (upd (upd (upd (upd gn 0 x) 1 y) 2 z) 3 u9)) := va_up_self _ _ _
  have h0 : (va_up (va_up (va_up (va_up w 15 (some (zi G 4 (upd gn 0 x)))) 15 (some (zi G 4 (upd (upd gn 0 x) 1 y)))) 15 (some (zi G 4 (upd (upd (upd gn 0 x) 1 y) 2 z)))) 15 (some (zi G 4 (upd (upd (upd (upd gn 0 x) 1 y) 2 z) 3 u9)))) 0 = some (oK ad (fun _ => 0)) := by rw [va_up_ne _ _ (by decide)]; exact h0
  have h14 : (va_up (va_up (va_up (va_up w 15 (some (zi G 4 (upd gn 0 x)))) 15 (some (zi G 4 (upd (upd gn 0 x) 1 y)))) 15 (some (zi G 4 (upd (upd (upd gn 0 x) 1 y) 2 z)))) 15 (some (zi G 4 (upd (upd (upd (upd gn 0 x) 1 y) 2 z) 3 u9)))) 14 = some (zq G 8 (fun k => some (ad (20 + k)))) := by rw [va_up_ne _ _ (by decide)]; exact h14
  rw [bx_uu, bx_uu, bx_uu] at Z h15 h0 h14
  have hD2 := hD.nums (f := (upd (upd (upd (upd gn 0 x) 1 y) 2 z) 3 u9))
  obtain ⟨FR2, FE2, hE2, -, -, -, -, -, -, hpo2⟩ := id hD2
  refine lv_aload_n hx hb dK_value_34 rfl (lv_at hl 0 rfl) ?_
  refine zw_get (v := .ref (ad 1)) hx hb hT uK hown Z h0 rfl 0 (by decide) (hT _ mf_K_10) (fun _ h9 => h9) rfl dK_value_35 ?_
  refine lv_aload_n hx hb dK_value_38 rfl (lv_at hl 0 rfl) ?_
  refine zw_get (v := .ref (ad 14)) hx hb hT uK hown Z h0 rfl 3 (by decide) (hT _ mf_K_38) (fun _ h9 => h9) rfl dK_value_39 ?_
  refine lv_iload_n hx hb dK_value_42 rfl (lv_at hl 1 rfl) ?_
  refine zw_aald (v := .ref (ad (20 + ja))) hx hb Z h14 (vin hja (by decide)) (by rw [ncl (by omega)]; rfl) dK_value_43 ?_
  refine lv_aload_n hx hb dK_value_44 rfl (lv_at hl 0 rfl) ?_
  refine zw_get (v := .ref (ad 15)) hx hb hT uK hown Z h0 rfl 4 (by decide) (hT _ mf_K_41) (fun _ h9 => h9) rfl dK_value_45 ?_
  refine zw_calli (va_runV (As := [.ref (ad (20 + ja)), .ref (ad 15)]) (rest := []) ⟨hx, hb, hml, hown, hts⟩ (c_R_evaluate l P n o FR2 hE2.1 (20 + ja) 15 (A ja) _ (hpo ja hja).2.1 (hpo2 ja hja).1 h15) (kw_R_evaluate hts ml_K_122 (zRm_fit (by omega) (by omega))) (Z.preV hE2.1.1 rfl _) rfl rfl hl.1 rfl (lv_room (Nat.le_of_ble_eq_true rfl)) dK_value_48 ⟨Nat.le_of_ble_eq_true rfl, Nat.le_of_ble_eq_true rfl⟩) Z (fun r w1 H locs hp Z => ?_)
  obtain ⟨hr, hw1⟩ := hp
  rw [hw1] at Z
  clear hw1
  have hev : (zevl n o P (fun v => zred P ((upd (upd (upd (upd gn 0 x) 1 y) 2 z) 3 u9) v)) (A ja) (zCt n)) = zevl n o P (fun v => zred P (zx4 x y z u9 v)) (A ja) (zCt n) := zevl_cong hcfg.2.1 (fun v hv => by
    have h9 : v = 0 ∨ v = 1 ∨ v = 2 ∨ v = 3 := by omega
    rcases h9 with rfl | rfl | rfl | rfl <;> rfl)
  exact hret _ _ _ _ _ _ _ _ dK_value_51 (⟨⟨hza, by rw [ncl (by omega), hr, hev]⟩, hD2, zfk.up (by decide)⟩) Z (Nat.le_of_ble_eq_true rfl) (Nat.le_of_ble_eq_true rfl)
