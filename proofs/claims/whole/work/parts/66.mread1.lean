set_option maxHeartbeats 4000000 in
set_option maxRecDepth 100000 in
theorem c_M_sum (l : Launch) {G : zG} {ad : Nat → Nat} {w : Nat → Option va_E} (P n o : Nat) (F : Nat → Int32) (B : Nat → Nat → Nat) (T : Nat → Nat) (len : Nat) (sg : Nat → Bool) (st : Nat → Option Nat) (d b9 : Nat) (hR : zRr G ad w P n o F B T len sg st d b9) : Met l yM_sum wM_sum (zR (1)) (va_Pc [.ref (ad 100)] (zw_U G ad w)) (va_Qi (S := Nat → Option va_E) (fun r w' => r = nI (8 + 3 * d) ∧ w' = w) (fun u t => zw_U G ((fun _ => ad) u) ((fun w' => w') u) t) (zA G)) 0 0 (zA G) := by
  refine zw_methi (S := Nat → Option va_E) (fa := fun _ => ad) (fw := fun w' => w') (by decide) rfl (Nat.le_of_ble_eq_true rfl) ?_
  intro p e s m below meth c Q ls C hname Z hl hret
  obtain ⟨hx, hb, hml, hown, hts, hlk⟩ := C
  have hT : ∀ w ∈ zT, w.before ([.ref (ad 100)] : List Value).toArray s = true := fun w h => hts w (List.mem_cons_of_mem _ h)
  have hown : s.vm.findClass "PolynomialDeskModel" = some m.cls := hown
  have hl : lv_has ls 1 [(0, .ref (ad 100))] := hl
  obtain ⟨hM, ⟨hF16, hF19, hd20⟩, ⟨tx, h107, htx⟩, ⟨hTb, hlen⟩, ⟨sa, h108, hsa⟩, ⟨ta, h109, hta⟩⟩ := id hR
  obtain ⟨h100, ⟨hF1, hF2, hF3, hF4, hF10⟩, ⟨hP1, hP2⟩, hcfg, ⟨dg, h101, hdg⟩, ⟨ex, h102, hex⟩, ⟨ys, h103, hys⟩, ⟨un, h104, hun⟩, ⟨cl, h105, hcl, hpB⟩⟩ := id hM
  have hct := zCt_le (n := n)
  refine lv_bipush (v := 8) hx hb dM_sum_0 (by decide) ?_
  refine lv_iconst (v := 3) hx hb dM_sum_2 (by decide) ?_
  refine lv_aload_n hx hb dM_sum_3 rfl (lv_at hl 0 rfl) ?_
  refine zw_get (v := .int (F 19)) hx hb hT uM hown Z h100 rfl 19 (by decide) (hT _ mf_M_106) (fun _ h9 => h9) rfl dM_sum_4 ?_
  refine zw_top (nI d) (hF19) ?_
  refine lv_imul hx hb dM_sum_7 ?_
  refine zw_top (nI (3 * d)) (pk_mul 3 d) ?_
  refine lv_iadd hx hb dM_sum_8 ?_
  refine zw_top (nI (8 + 3 * d)) (nI_add 8 _) ?_
  exact hret _ _ _ _ _ _ dM_sum_9 (⟨rfl, rfl⟩) Z

set_option maxHeartbeats 4000000 in
set_option maxRecDepth 100000 in
theorem c_M_product (l : Launch) {G : zG} {ad : Nat → Nat} {w : Nat → Option va_E} (P n o : Nat) (F : Nat → Int32) (B : Nat → Nat → Nat) (T : Nat → Nat) (len : Nat) (sg : Nat → Bool) (st : Nat → Option Nat) (d b9 : Nat) (hR : zRr G ad w P n o F B T len sg st d b9) : Met l yM_product wM_product (zR (1)) (va_Pc [.ref (ad 100)] (zw_U G ad w)) (va_Qi (S := Nat → Option va_E) (fun r w' => r = nI (9 + 3 * d) ∧ w' = w) (fun u t => zw_U G ((fun _ => ad) u) ((fun w' => w') u) t) (zA G)) 0 0 (zA G) := by
  refine zw_methi (S := Nat → Option va_E) (fa := fun _ => ad) (fw := fun w' => w') (by decide) rfl (Nat.le_of_ble_eq_true rfl) ?_
  intro p e s m below meth c Q ls C hname Z hl hret
  obtain ⟨hx, hb, hml, hown, hts, hlk⟩ := C
  have hT : ∀ w ∈ zT, w.before ([.ref (ad 100)] : List Value).toArray s = true := fun w h => hts w (List.mem_cons_of_mem _ h)
  have hown : s.vm.findClass "PolynomialDeskModel" = some m.cls := hown
  have hl : lv_has ls 1 [(0, .ref (ad 100))] := hl
  obtain ⟨hM, ⟨hF16, hF19, hd20⟩, ⟨tx, h107, htx⟩, ⟨hTb, hlen⟩, ⟨sa, h108, hsa⟩, ⟨ta, h109, hta⟩⟩ := id hR
  obtain ⟨h100, ⟨hF1, hF2, hF3, hF4, hF10⟩, ⟨hP1, hP2⟩, hcfg, ⟨dg, h101, hdg⟩, ⟨ex, h102, hex⟩, ⟨ys, h103, hys⟩, ⟨un, h104, hun⟩, ⟨cl, h105, hcl, hpB⟩⟩ := id hM
  have hct := zCt_le (n := n)
  refine lv_bipush (v := 8) hx hb dM_product_0 (by decide) ?_
  refine lv_iconst (v := 3) hx hb dM_product_2 (by decide) ?_
  refine lv_aload_n hx hb dM_product_3 rfl (lv_at hl 0 rfl) ?_
  refine zw_get (v := .int (F 19)) hx hb hT uM hown Z h100 rfl 19 (by decide) (hT _ mf_M_106) (fun _ h9 => h9) rfl dM_product_4 ?_
  refine zw_top (nI d) (hF19) ?_
  refine lv_imul hx hb dM_product_7 ?_
  refine zw_top (nI (3 * d)) (pk_mul 3 d) ?_
  refine lv_iadd hx hb dM_product_8 ?_
  refine zw_top (nI (8 + 3 * d)) (nI_add 8 _) ?_
  refine lv_iconst (v := 1) hx hb dM_product_9 (by decide) ?_
  refine lv_iadd hx hb dM_product_10 ?_
  refine zw_top (nI (9 + 3 * d)) ((nI_add _ 1).trans (by congr 1; omega)) ?_
  exact hret _ _ _ _ _ _ dM_product_11 (⟨rfl, rfl⟩) Z

set_option maxHeartbeats 4000000 in
set_option maxRecDepth 100000 in
theorem c_M_factor (l : Launch) {G : zG} {ad : Nat → Nat} {w : Nat → Option va_E} (P n o : Nat) (F : Nat → Int32) (B : Nat → Nat → Nat) (T : Nat → Nat) (len : Nat) (sg : Nat → Bool) (st : Nat → Option Nat) (d b9 : Nat) (hR : zRr G ad w P n o F B T len sg st d b9) : Met l yM_factor wM_factor (zR (1)) (va_Pc [.ref (ad 100)] (zw_U G ad w)) (va_Qi (S := Nat → Option va_E) (fun r w' => r = nI (10 + 3 * d) ∧ w' = w) (fun u t => zw_U G ((fun _ => ad) u) ((fun w' => w') u) t) (zA G)) 0 0 (zA G) := by
  refine zw_methi (S := Nat → Option va_E) (fa := fun _ => ad) (fw := fun w' => w') (by decide) rfl (Nat.le_of_ble_eq_true rfl) ?_
  intro p e s m below meth c Q ls C hname Z hl hret
  obtain ⟨hx, hb, hml, hown, hts, hlk⟩ := C
  have hT : ∀ w ∈ zT, w.before ([.ref (ad 100)] : List Value).toArray s = true := fun w h => hts w (List.mem_cons_of_mem _ h)
  have hown : s.vm.findClass "PolynomialDeskModel" = some m.cls := hown
  have hl : lv_has ls 1 [(0, .ref (ad 100))] := hl
  obtain ⟨hM, ⟨hF16, hF19, hd20⟩, ⟨tx, h107, htx⟩, ⟨hTb, hlen⟩, ⟨sa, h108, hsa⟩, ⟨ta, h109, hta⟩⟩ := id hR
  obtain ⟨h100, ⟨hF1, hF2, hF3, hF4, hF10⟩, ⟨hP1, hP2⟩, hcfg, ⟨dg, h101, hdg⟩, ⟨ex, h102, hex⟩, ⟨ys, h103, hys⟩, ⟨un, h104, hun⟩, ⟨cl, h105, hcl, hpB⟩⟩ := id hM
  have hct := zCt_le (n := n)
  refine lv_bipush (v := 8) hx hb dM_factor_0 (by decide) ?_
  refine lv_iconst (v := 3) hx hb dM_factor_2 (by decide) ?_
  refine lv_aload_n hx hb dM_factor_3 rfl (lv_at hl 0 rfl) ?_
  refine zw_get (v := .int (F 19)) hx hb hT uM hown Z h100 rfl 19 (by decide) (hT _ mf_M_106) (fun _ h9 => h9) rfl dM_factor_4 ?_
  refine zw_top (nI d) (hF19) ?_
  refine lv_imul hx hb dM_factor_7 ?_
  refine zw_top (nI (3 * d)) (pk_mul 3 d) ?_
  refine lv_iadd hx hb dM_factor_8 ?_
  refine zw_top (nI (8 + 3 * d)) (nI_add 8 _) ?_
  refine lv_iconst (v := 2) hx hb dM_factor_9 (by decide) ?_
  refine lv_iadd hx hb dM_factor_10 ?_
  refine zw_top (nI (10 + 3 * d)) ((nI_add _ 2).trans (by congr 1; omega)) ?_
  exact hret _ _ _ _ _ _ dM_factor_11 (⟨rfl, rfl⟩) Z

set_option maxHeartbeats 4000000 in
set_option maxRecDepth 100000 in
theorem c_M_fail (l : Launch) {G : zG} {ad : Nat → Nat} {w : Nat → Option va_E} (F : Nat → Int32) (h100 : w 100 = some (oM ad F)) (a b : Int32) : Met l yM_fail wM_fail (zR (1)) (va_Pc [.ref (ad 100), .int a, .int b] (zw_U G ad w)) (va_Qv (S := Nat → Option va_E) (fun w' => w' = va_up w 100 (some (oM ad (upd (upd F 20 a) 21 b)))) (fun u t => zw_U G ((fun _ => ad) u) ((fun w' => w') u) t) (zA G)) 0 0 (zA G) := by
  refine zw_methv (S := Nat → Option va_E) (fa := fun _ => ad) (fw := fun w' => w') (by decide) rfl (Nat.le_of_ble_eq_true rfl) ?_
  intro p e s m below meth c Q ls C hname Z hl hret
  obtain ⟨hx, hb, hml, hown, hts, hlk⟩ := C
  have hT : ∀ w ∈ zT, w.before ([.ref (ad 100), .int a, .int b] : List Value).toArray s = true := fun w h => hts w (List.mem_cons_of_mem _ h)
  have hown : s.vm.findClass "PolynomialDeskModel" = some m.cls := hown
  have hl : lv_has ls 3 [(0, .ref (ad 100)), (1, .int a), (2, .int b)] := hl
  refine lv_aload_n hx hb dM_fail_0 rfl (lv_at hl 0 rfl) ?_
  refine lv_iload_n hx hb dM_fail_1 rfl (lv_at hl 1 rfl) ?_
  refine zw_put (v := .int a) hx hb hT uM hown tM tM_ok nM Z h100 rfl 20 (by decide) (hT _ mf_M_115) (fun _ h9 => h9) rfl rfl rfl (by simp) dM_fail_2 (fun H locs Z => ?_)
  have Z : zw G ad (va_up w 100 (some (oM ad (upd F 20 a)))) s H locs := Z
  have g100 : (va_up w 100 (some (oM ad (upd F 20 a)))) 100 = some (oM ad (upd F 20 a)) := va_up_self _ _ _
  refine lv_aload_n hx hb dM_fail_5 rfl (lv_at hl 0 rfl) ?_
  refine lv_iload_n hx hb dM_fail_6 rfl (lv_at hl 2 rfl) ?_
  refine zw_put (v := .int b) hx hb hT uM hown tM tM_ok nM Z g100 rfl 21 (by decide) (hT _ mf_M_118) (fun _ h9 => h9) rfl rfl rfl (by simp) dM_fail_7 (fun H locs Z => ?_)
  have Z : zw G ad (va_up (va_up w 100 (some (oM ad (upd F 20 a)))) 100 (some (oM ad (upd (upd F 20 a) 21 b)))) s H locs := Z
  rw [bx_uu] at Z
  exact hret _ _ _ _ _ dM_fail_10 (rfl) Z

set_option maxHeartbeats 4000000 in
set_option maxRecDepth 100000 in
theorem c_M_here (l : Launch) {G : zG} {ad : Nat → Nat} {w : Nat → Option va_E} (P n o : Nat) (F : Nat → Int32) (B : Nat → Nat → Nat) (T : Nat → Nat) (len : Nat) (sg : Nat → Bool) (st : Nat → Option Nat) (d b9 : Nat) (hR : zRr G ad w P n o F B T len sg st d b9) (p9 : Nat) (hat : F 17 = nI p9) (hp : p9 ≤ len) : Met l yM_here wM_here (zR (1)) (va_Pc [.ref (ad 100)] (zw_U G ad w)) (va_Qi (S := Nat → Option va_E) (fun r w' => r = zch T len (zsp T len p9) ∧ w' = (va_up w 100 (some (oM ad (upd F 17 (nI (zsp T len p9))))))) (fun u t => zw_U G ((fun _ => ad) u) ((fun w' => w') u) t) (zA G)) 0 0 (zA G) := by
  refine zw_methi (S := Nat → Option va_E) (fa := fun _ => ad) (fw := fun w' => w') (by decide) rfl (Nat.le_of_ble_eq_true rfl) ?_
  intro p e s m below meth c Q ls C hname Z hl hret
  obtain ⟨hx, hb, hml, hown, hts, hlk⟩ := C
  have hT : ∀ w ∈ zT, w.before ([.ref (ad 100)] : List Value).toArray s = true := fun w h => hts w (List.mem_cons_of_mem _ h)
  have hown : s.vm.findClass "PolynomialDeskModel" = some m.cls := hown
  have hl : lv_has ls 1 [(0, .ref (ad 100))] := hl
  obtain ⟨hM, ⟨hF16, hF19, hd20⟩, ⟨tx, h107, htx⟩, ⟨hTb, hlen⟩, ⟨sa, h108, hsa⟩, ⟨ta, h109, hta⟩⟩ := id hR
  obtain ⟨h100, ⟨hF1, hF2, hF3, hF4, hF10⟩, ⟨hP1, hP2⟩, hcfg, ⟨dg, h101, hdg⟩, ⟨ex, h102, hex⟩, ⟨ys, h103, hys⟩, ⟨un, h104, hun⟩, ⟨cl, h105, hcl, hpB⟩⟩ := id hM
  have hct := zCt_le (n := n)
  have loop : ∀ (k q : Nat) (H : Heap) (locs : List Loc) (ls : Array Slot), q + k = len → zsp T len q = zsp T len p9 → zw G ad (va_up w 100 (some (oM ad (upd F 17 (nI q))))) s H locs → lv_has ls 1 [(0, .ref (ad 100))] → W p l e (zR (1)) s m ([.ref (ad 100)] : List Value).toArray below meth c H locs (0) (0) Q (F0 m 0 ls []) := by
    intro k
    induction k with
    | zero =>
      intro q H locs ls hq hz Z hl
      have hR1 : zRr G ad (va_up w 100 (some (oM ad (upd F 17 (nI q))))) P n o (upd F 17 (nI q)) B T len sg st d b9 := hR.obj (zfF.upd (by decide)) rfl
      have g100 := hR1.1.1
      have g107 : (va_up w 100 (some (oM ad (upd F 17 (nI q))))) 107 = some (zi G 200 tx) := by rw [va_up_ne _ _ (by decide)]; exact h107
      refine lv_aload_n hx hb dM_here_0 rfl (lv_at hl 0 rfl) ?_
      refine zw_get (v := .int ((upd F 17 (nI q)) 17)) hx hb hT uM hown Z g100 rfl 17 (by decide) (hT _ mf_M_109) (fun _ h9 => h9) rfl dM_here_1 ?_
      refine zw_top (nI q) (rfl) ?_
      refine lv_aload_n hx hb dM_here_4 rfl (lv_at hl 0 rfl) ?_
      refine zw_get (v := .int ((upd F 17 (nI q)) 16)) hx hb hT uM hown Z g100 rfl 16 (by decide) (hT _ mf_M_112) (fun _ h9 => h9) rfl dM_here_5 ?_
      refine zw_top (nI len) (hF16) ?_
      refine lv_icmp_ge (tgt := 38) hx hb dM_here_8 (by decide) (fun _ => ?_) (fun hc => absurd (show ((nI len) : Int32) ≤ (nI q) from nI_le (by omega) (by omega)) hc)
      refine lv_aload_n hx hb dM_here_38 rfl (lv_at hl 0 rfl) ?_
      refine zw_get (v := .int ((upd F 17 (nI q)) 17)) hx hb hT uM hown Z g100 rfl 17 (by decide) (hT _ mf_M_109) (fun _ h9 => h9) rfl dM_here_39 ?_
      refine zw_top (nI q) (rfl) ?_
      refine lv_aload_n hx hb dM_here_42 rfl (lv_at hl 0 rfl) ?_
      refine zw_get (v := .int ((upd F 17 (nI q)) 16)) hx hb hT uM hown Z g100 rfl 16 (by decide) (hT _ mf_M_112) (fun _ h9 => h9) rfl dM_here_43 ?_
      refine zw_top (nI len) (hF16) ?_
      refine lv_icmp_ge (tgt := 61) hx hb dM_here_46 (by decide) (fun _ => ?_) (fun hc => absurd (show ((nI len) : Int32) ≤ (nI q) from nI_le (by omega) (by omega)) hc)
      have hz2 : zsp T len q = q := zsp_fix (by omega)
      refine lv_iconst (v := (-1)) hx hb dM_here_61 (by decide) ?_
      exact hret _ _ _ _ _ _ dM_here_62 (⟨by rw [← hz, hz2, zch, if_neg (by omega)], by rw [← hz, hz2]⟩) Z
    | succ k ih =>
      intro q H locs ls hq hz Z hl
      have hR1 : zRr G ad (va_up w 100 (some (oM ad (upd F 17 (nI q))))) P n o (upd F 17 (nI q)) B T len sg st d b9 := hR.obj (zfF.upd (by decide)) rfl
      have g100 := hR1.1.1
      have g107 : (va_up w 100 (some (oM ad (upd F 17 (nI q))))) 107 = some (zi G 200 tx) := by rw [va_up_ne _ _ (by decide)]; exact h107
      refine lv_aload_n hx hb dM_here_0 rfl (lv_at hl 0 rfl) ?_
      refine zw_get (v := .int ((upd F 17 (nI q)) 17)) hx hb hT uM hown Z g100 rfl 17 (by decide) (hT _ mf_M_109) (fun _ h9 => h9) rfl dM_here_1 ?_
      refine zw_top (nI q) (rfl) ?_
      refine lv_aload_n hx hb dM_here_4 rfl (lv_at hl 0 rfl) ?_
      refine zw_get (v := .int ((upd F 17 (nI q)) 16)) hx hb hT uM hown Z g100 rfl 16 (by decide) (hT _ mf_M_112) (fun _ h9 => h9) rfl dM_here_5 ?_
      refine zw_top (nI len) (hF16) ?_
      refine lv_icmp_ge (tgt := 38) hx hb dM_here_8 (by decide) (fun hc => absurd hc (show ¬ (((nI len) : Int32) ≤ (nI q)) from nI_ge (by omega) (by omega))) (fun _ => ?_)
      refine lv_aload_n hx hb dM_here_11 rfl (lv_at hl 0 rfl) ?_
      refine zw_get (v := .ref (ad 107)) hx hb hT uM hown Z g100 rfl 22 (by decide) (hT _ mf_M_36) (fun _ h9 => h9) rfl dM_here_12 ?_
      refine lv_aload_n hx hb dM_here_15 rfl (lv_at hl 0 rfl) ?_
      refine zw_get (v := .int ((upd F 17 (nI q)) 17)) hx hb hT uM hown Z g100 rfl 17 (by decide) (hT _ mf_M_109) (fun _ h9 => h9) rfl dM_here_16 ?_
      refine zw_top (nI q) (rfl) ?_
      refine zw_iald hx hb Z g107 (vin (by omega) (by decide)) dM_here_19 ?_
      refine zw_top (nI (T q)) (by rw [ncl (by omega)]; exact htx q (by omega)) ?_
      refine lv_bipush (v := 32) hx hb dM_here_20 (by decide) ?_
      refine lv_icmp_ne (tgt := 38) hx hb dM_here_22 (by decide) (fun hc => ?_) (fun hc => ?_)
      · have hz2 : zsp T len q = q := zsp_fix (fun h9 => hc (by rw [h9.2]; rfl))
        refine lv_aload_n hx hb dM_here_38 rfl (lv_at hl 0 rfl) ?_
        refine zw_get (v := .int ((upd F 17 (nI q)) 17)) hx hb hT uM hown Z g100 rfl 17 (by decide) (hT _ mf_M_109) (fun _ h9 => h9) rfl dM_here_39 ?_
        refine zw_top (nI q) (rfl) ?_
        refine lv_aload_n hx hb dM_here_42 rfl (lv_at hl 0 rfl) ?_
        refine zw_get (v := .int ((upd F 17 (nI q)) 16)) hx hb hT uM hown Z g100 rfl 16 (by decide) (hT _ mf_M_112) (fun _ h9 => h9) rfl dM_here_43 ?_
        refine zw_top (nI len) (hF16) ?_
        refine lv_icmp_ge (tgt := 61) hx hb dM_here_46 (by decide) (fun hc => absurd hc (show ¬ (((nI len) : Int32) ≤ (nI q)) from nI_ge (by omega) (by omega))) (fun _ => ?_)
        refine lv_aload_n hx hb dM_here_49 rfl (lv_at hl 0 rfl) ?_
        refine zw_get (v := .ref (ad 107)) hx hb hT uM hown Z g100 rfl 22 (by decide) (hT _ mf_M_36) (fun _ h9 => h9) rfl dM_here_50 ?_
        refine lv_aload_n hx hb dM_here_53 rfl (lv_at hl 0 rfl) ?_
        refine zw_get (v := .int ((upd F 17 (nI q)) 17)) hx hb hT uM hown Z g100 rfl 17 (by decide) (hT _ mf_M_109) (fun _ h9 => h9) rfl dM_here_54 ?_
        refine zw_top (nI q) (rfl) ?_
        refine zw_iald hx hb Z g107 (vin (by omega) (by decide)) dM_here_57 ?_
        refine zw_top (nI (T q)) (by rw [ncl (by omega)]; exact htx q (by omega)) ?_
        refine lv_goto (tgt := 62) hx hb dM_here_58 (by decide) ?_
        exact hret _ _ _ _ _ _ dM_here_62 (⟨by rw [← hz, hz2, zch, if_pos (by omega)], by rw [← hz, hz2]⟩) Z
      · have h32 : T q = 32 := (nI_eq (by have := hTb q; omega) (by decide)).mp (show nI (T q) = nI 32 from hc)
        refine lv_aload_n hx hb dM_here_25 rfl (lv_at hl 0 rfl) ?_
        refine lv_dup hx hb dM_here_26 rfl ?_
        refine zw_get (v := .int ((upd F 17 (nI q)) 17)) hx hb hT uM hown Z g100 rfl 17 (by decide) (hT _ mf_M_109) (fun _ h9 => h9) rfl dM_here_27 ?_
        refine zw_top (nI q) (rfl) ?_
        refine lv_iconst (v := 1) hx hb dM_here_30 (by decide) ?_
        refine lv_iadd hx hb dM_here_31 ?_
        refine zw_top (nI (q + 1)) (nI_1 q) ?_
        refine zw_put (v := .int (nI (q + 1))) hx hb hT uM hown tM tM_ok nM Z g100 rfl 17 (by decide) (hT _ mf_M_109) (fun _ h9 => h9) rfl rfl rfl (by simp) dM_here_32 (fun H locs Z => ?_)
        have Z : zw G ad (va_up (va_up w 100 (some (oM ad (upd F 17 (nI q))))) 100 (some (oM ad (upd (upd F 17 (nI q)) 17 (nI (q + 1)))))) s H locs := Z
        rw [bx_uu, upd_upd] at Z
        refine lv_goto (tgt := 0) hx hb dM_here_35 (by decide) ?_
        exact ih (q + 1) _ _ ls (by omega) (by rw [← zsp_step (by omega) h32]; exact hz) Z hl
  exact loop (len - p9) p9 _ _ ls (by omega) rfl (by rw [upd_same hat, zup_id h100]; exact Z) hl

def znF (T : Nat → Nat) (len m q : Nat) (F : Nat → Int32) : Nat → Int32 := if m < zde T len q - q then upd (upd (upd F 17 (nI (zde T len q))) 20 4) 21 (nI q) else upd F 17 (nI (zde T len q))
theorem zvalm {T : Nat → Nat} {q k m : Nat} (hm : m ≤ 9) (h : ∀ j, j < k → T (q + j) ≤ 57) : zval T q (min k m) < 1000000000 := by
  have h1 := zval_lt (T := T) (p := q) (min k m) (fun j hj => h j (by omega))
  exact Nat.lt_of_lt_of_le h1 (show 10 ^ min k m ≤ 10 ^ 9 from Nat.pow_le_pow_right (by decide) (by omega))

set_option maxHeartbeats 4000000 in
set_option maxRecDepth 100000 in
theorem c_M_number (l : Launch) {G : zG} {ad : Nat → Nat} {w : Nat → Option va_E} (P n o : Nat) (F : Nat → Int32) (B : Nat → Nat → Nat) (T : Nat → Nat) (len : Nat) (sg : Nat → Bool) (st : Nat → Option Nat) (d b9 : Nat) (hR : zRr G ad w P n o F B T len sg st d b9) (mx q : Nat) (hmx : mx ≤ 9) (hat : F 17 = nI q) (hq : q < len) : Met l yM_number wM_number (zR (2)) (va_Pc [.ref (ad 100), .int (nI mx)] (zw_U G ad w)) (va_Ql (S := Nat → Option va_E) (fun r w' => r = lN (zval T q (min (zde T len q - q) mx)) ∧ w' = va_up w 100 (some (oM ad (znF T len mx q F)))) (fun u t => zw_U G ((fun _ => ad) u) ((fun w' => w') u) t) (zA G)) 0 0 (zA G) := by
  refine zw_methl (S := Nat → Option va_E) (fa := fun _ => ad) (fw := fun w' => w') (by decide) rfl (Nat.le_of_ble_eq_true rfl) ?_
  intro p e s m below meth c Q ls C hname Z hl hret
  obtain ⟨hx, hb, hml, hown, hts, hlk⟩ := C
  have hT : ∀ w ∈ zT, w.before ([.ref (ad 100), .int (nI mx)] : List Value).toArray s = true := fun w h => hts w (List.mem_cons_of_mem _ h)
  have hown : s.vm.findClass "PolynomialDeskModel" = some m.cls := hown
  have hl : lv_has ls 5 [(0, .ref (ad 100)), (1, .int (nI mx))] := hl
  obtain ⟨hM, ⟨hF16, hF19, hd20⟩, ⟨tx, h107, htx⟩, ⟨hTb, hlen⟩, ⟨sa, h108, hsa⟩, ⟨ta, h109, hta⟩⟩ := id hR
  obtain ⟨h100, ⟨hF1, hF2, hF3, hF4, hF10⟩, ⟨hP1, hP2⟩, hcfg, ⟨dg, h101, hdg⟩, ⟨ex, h102, hex⟩, ⟨ys, h103, hys⟩, ⟨un, h104, hun⟩, ⟨cl, h105, hcl, hpB⟩⟩ := id hM
  have hct := zCt_le (n := n)
  refine lv_aload_n hx hb dM_number_0 rfl (lv_at hl 0 rfl) ?_
  refine zw_get (v := .int (F 17)) hx hb hT uM hown Z h100 rfl 17 (by decide) (hT _ mf_M_109) (fun _ h9 => h9) rfl dM_number_1 ?_
  refine zw_top (nI q) (hat) ?_
  refine lv_istore_n (lv' := [(2, .int (nI q)), (0, .ref (ad 100)), (1, .int (nI mx))]) hx hb dM_number_4 rfl hl (by decide) rfl (fun ls hl => ?_)
  refine lv_lconst (v := 0) hx hb dM_number_5 (by decide) ?_
  refine lv_lstore_n (lv' := [(3, .long 0), (2, .int (nI q)), (0, .ref (ad 100)), (1, .int (nI mx))]) hx hb dM_number_6 rfl hl (by decide) rfl (fun ls hl => ?_)
  have loop : ∀ (j k : Nat) (H : Heap) (locs : List Loc) (ls : Array Slot), q + k + j = len → (∀ i, i < k → T (q + i) ≤ 57) → zde T len q = zde T len (q + k) → zw G ad (va_up w 100 (some (oM ad (upd F 17 (nI (q + k)))))) s H locs → lv_has ls 5 [(3, .long (lN (zval T q (min k mx)))), (2, .int (nI q)), (0, .ref (ad 100)), (1, .int (nI mx))] → W p l e (zR (2)) s m ([.ref (ad 100), .int (nI mx)] : List Value).toArray below meth c H locs (0) (0) Q (F0 m 7 ls []) := by
    intro j
    induction j with
    | zero =>
      intro k H locs ls hj h57 hz Z hl
      have hR1 : zRr G ad (va_up w 100 (some (oM ad (upd F 17 (nI (q + k)))))) P n o (upd F 17 (nI (q + k))) B T len sg st d b9 := hR.obj (zfF.upd (by decide)) rfl
      have g100 := hR1.1.1
      have g107 : (va_up w 100 (some (oM ad (upd F 17 (nI (q + k)))))) 107 = some (zi G 200 tx) := by rw [va_up_ne _ _ (by decide)]; exact h107
      refine lv_aload_n hx hb dM_number_7 rfl (lv_at hl 2 rfl) ?_
      refine zw_get (v := .int ((upd F 17 (nI (q + k))) 17)) hx hb hT uM hown Z g100 rfl 17 (by decide) (hT _ mf_M_109) (fun _ h9 => h9) rfl dM_number_8 ?_
      refine zw_top (nI (q + k)) (rfl) ?_
      refine lv_aload_n hx hb dM_number_11 rfl (lv_at hl 2 rfl) ?_
      refine zw_get (v := .int ((upd F 17 (nI (q + k))) 16)) hx hb hT uM hown Z g100 rfl 16 (by decide) (hT _ mf_M_112) (fun _ h9 => h9) rfl dM_number_12 ?_
      refine zw_top (nI len) (hF16) ?_
      refine lv_icmp_ge (tgt := 81) hx hb dM_number_15 (by decide) (fun _ => ?_) (fun hc => absurd (show ((nI len) : Int32) ≤ (nI (q + k)) from nI_le (by omega) (by omega)) hc)
      refine lv_aload_n hx hb dM_number_81 rfl (lv_at hl 2 rfl) ?_
      refine zw_get (v := .int ((upd F 17 (nI (q + k))) 17)) hx hb hT uM hown Z g100 rfl 17 (by decide) (hT _ mf_M_109) (fun _ h9 => h9) rfl dM_number_82 ?_
      refine zw_top (nI (q + k)) (rfl) ?_
      refine lv_iload_n hx hb dM_number_85 rfl (lv_at hl 1 rfl) ?_
      refine lv_isub hx hb dM_number_86 ?_
      refine zw_top (nI k) (by rw [pk_sub (by omega)]; congr 1; omega) ?_
      have hz2 : zde T len q = q + k := by rw [hz]; exact zde_fix (by omega)
      have hkk : zde T len q - q = k := by omega
      refine lv_iload_n hx hb dM_number_87 rfl (lv_at hl 3 rfl) ?_
      refine lv_icmp_le (tgt := 97) hx hb dM_number_88 (by decide) (fun hc8 => ?_) (fun hc8 => ?_)
      · have hle : ¬ mx < k := fun h9 => nI_ge h9 (by omega) hc8
        refine lv_lload_n hx hb dM_number_97 rfl (lv_at hl 0 rfl) ?_
        exact hret _ _ _ _ _ _ dM_number_98 (⟨by rw [hkk], by unfold znF; rw [hkk, if_neg hle, hz2]⟩) Z
      · have hgt : mx < k := Nat.lt_of_not_le (fun h9 => hc8 (nI_le h9 (by omega)))
        refine lv_aload_n hx hb dM_number_91 rfl (lv_at hl 2 rfl) ?_
        refine lv_iconst (v := 4) hx hb dM_number_92 (by decide) ?_
        refine lv_iload_n hx hb dM_number_93 rfl (lv_at hl 1 rfl) ?_
        refine zw_callv (va_runV (As := [.int 4, .int (nI q)]) (rest := []) ⟨hx, hb, hml, hown, hts⟩ (c_M_fail l _ g100 4 (nI q)) (kw_M_fail hts ml_M_128 (zR_fit (by omega) (by omega))) (Z.preV g100 rfl _) rfl rfl hl.1 rfl (lv_room (Nat.le_of_ble_eq_true rfl)) dM_number_94 ⟨Nat.le_of_ble_eq_true rfl, Nat.le_of_ble_eq_true rfl⟩) Z (fun w1 H locs hp Z => ?_)
        subst hp
        rw [bx_uu] at Z
        refine lv_lload_n hx hb dM_number_97 rfl (lv_at hl 0 rfl) ?_
        exact hret _ _ _ _ _ _ dM_number_98 (⟨by rw [hkk], by unfold znF; rw [hkk, if_pos hgt, hz2]⟩) Z
    | succ j ih =>
      intro k H locs ls hj h57 hz Z hl
      have hR1 : zRr G ad (va_up w 100 (some (oM ad (upd F 17 (nI (q + k)))))) P n o (upd F 17 (nI (q + k))) B T len sg st d b9 := hR.obj (zfF.upd (by decide)) rfl
      have g100 := hR1.1.1
      have g107 : (va_up w 100 (some (oM ad (upd F 17 (nI (q + k)))))) 107 = some (zi G 200 tx) := by rw [va_up_ne _ _ (by decide)]; exact h107
      refine lv_aload_n hx hb dM_number_7 rfl (lv_at hl 2 rfl) ?_
      refine zw_get (v := .int ((upd F 17 (nI (q + k))) 17)) hx hb hT uM hown Z g100 rfl 17 (by decide) (hT _ mf_M_109) (fun _ h9 => h9) rfl dM_number_8 ?_
      refine zw_top (nI (q + k)) (rfl) ?_
      refine lv_aload_n hx hb dM_number_11 rfl (lv_at hl 2 rfl) ?_
      refine zw_get (v := .int ((upd F 17 (nI (q + k))) 16)) hx hb hT uM hown Z g100 rfl 16 (by decide) (hT _ mf_M_112) (fun _ h9 => h9) rfl dM_number_12 ?_
      refine zw_top (nI len) (hF16) ?_
      refine lv_icmp_ge (tgt := 81) hx hb dM_number_15 (by decide) (fun hc => absurd hc (show ¬ (((nI len) : Int32) ≤ (nI (q + k))) from nI_ge (by omega) (by omega))) (fun _ => ?_)
      refine lv_aload_n hx hb dM_number_18 rfl (lv_at hl 2 rfl) ?_
      refine zw_get (v := .ref (ad 107)) hx hb hT uM hown Z g100 rfl 22 (by decide) (hT _ mf_M_36) (fun _ h9 => h9) rfl dM_number_19 ?_
      refine lv_aload_n hx hb dM_number_22 rfl (lv_at hl 2 rfl) ?_
      refine zw_get (v := .int ((upd F 17 (nI (q + k))) 17)) hx hb hT uM hown Z g100 rfl 17 (by decide) (hT _ mf_M_109) (fun _ h9 => h9) rfl dM_number_23 ?_
      refine zw_top (nI (q + k)) (rfl) ?_
      refine zw_iald hx hb Z g107 (vin (by omega) (by decide)) dM_number_26 ?_
      refine zw_top (nI (T (q + k))) (by rw [ncl (by omega)]; exact htx _ (by omega)) ?_
      refine zw_calli (va_runS (As := [.int (nI (T (q + k)))]) (rest := []) ⟨hx, hb, hml, hown, hts⟩ (c_M_isDigit l (nI (T (q + k)))) (kw_M_isDigit hts ml_M_121 (zR_fit (by omega) (by omega))) (Z.preS _) rfl rfl hl.1 rfl (lv_room (Nat.le_of_ble_eq_true rfl)) dM_number_27 ⟨Nat.le_of_ble_eq_true rfl, Nat.le_of_ble_eq_true rfl⟩) Z (fun r wq H locs hp Z => ?_)
      obtain ⟨rfl, hw1⟩ := hp
      rw [hw1] at Z
      clear hw1
      refine lv_if_eq (tgt := 81) hx hb dM_number_30 (by decide) (fun hc2 => ?_) (fun hc2 => ?_)
      · have hdf : ¬ zisd (nI (T (q + k))) = true := zb_nt (zb_f hc2)
        refine lv_aload_n hx hb dM_number_81 rfl (lv_at hl 2 rfl) ?_
        refine zw_get (v := .int ((upd F 17 (nI (q + k))) 17)) hx hb hT uM hown Z g100 rfl 17 (by decide) (hT _ mf_M_109) (fun _ h9 => h9) rfl dM_number_82 ?_
        refine zw_top (nI (q + k)) (rfl) ?_
        refine lv_iload_n hx hb dM_number_85 rfl (lv_at hl 1 rfl) ?_
        refine lv_isub hx hb dM_number_86 ?_
        refine zw_top (nI k) (by rw [pk_sub (by omega)]; congr 1; omega) ?_
        have hz2 : zde T len q = q + k := by rw [hz]; exact zde_fix (fun h9 => hdf h9.2)
        have hkk : zde T len q - q = k := by omega
        refine lv_iload_n hx hb dM_number_87 rfl (lv_at hl 3 rfl) ?_
        refine lv_icmp_le (tgt := 97) hx hb dM_number_88 (by decide) (fun hc8 => ?_) (fun hc8 => ?_)
        · have hle : ¬ mx < k := fun h9 => nI_ge h9 (by omega) hc8
          refine lv_lload_n hx hb dM_number_97 rfl (lv_at hl 0 rfl) ?_
          exact hret _ _ _ _ _ _ dM_number_98 (⟨by rw [hkk], by unfold znF; rw [hkk, if_neg hle, hz2]⟩) Z
        · have hgt : mx < k := Nat.lt_of_not_le (fun h9 => hc8 (nI_le h9 (by omega)))
          refine lv_aload_n hx hb dM_number_91 rfl (lv_at hl 2 rfl) ?_
          refine lv_iconst (v := 4) hx hb dM_number_92 (by decide) ?_
          refine lv_iload_n hx hb dM_number_93 rfl (lv_at hl 1 rfl) ?_
          refine zw_callv (va_runV (As := [.int 4, .int (nI q)]) (rest := []) ⟨hx, hb, hml, hown, hts⟩ (c_M_fail l _ g100 4 (nI q)) (kw_M_fail hts ml_M_128 (zR_fit (by omega) (by omega))) (Z.preV g100 rfl _) rfl rfl hl.1 rfl (lv_room (Nat.le_of_ble_eq_true rfl)) dM_number_94 ⟨Nat.le_of_ble_eq_true rfl, Nat.le_of_ble_eq_true rfl⟩) Z (fun w1 H locs hp Z => ?_)
          subst hp
          rw [bx_uu] at Z
          refine lv_lload_n hx hb dM_number_97 rfl (lv_at hl 0 rfl) ?_
          exact hret _ _ _ _ _ _ dM_number_98 (⟨by rw [hkk], by unfold znF; rw [hkk, if_pos hgt, hz2]⟩) Z
      · have hdt := zb_t hc2
        have hTd := (zisd_iff (by have := hTb (q + k); omega)).mp hdt
        have hst := zde_step (T := T) (len := len) (p := q + k) (by omega) hdt
        have h571 : ∀ i, i < k + 1 → T (q + i) ≤ 57 := fun i hi => by
          by_cases e9 : i = k
          · subst e9; exact hTd.2
          · exact h57 i (by omega)
        have hv9 := zvalm (T := T) (q := q) (k := k) hmx h57
        have hv8 := zvalm (T := T) (q := q) (k := k + 1) hmx h571
        refine lv_aload_n hx hb dM_number_33 rfl (lv_at hl 2 rfl) ?_
        refine zw_get (v := .int ((upd F 17 (nI (q + k))) 17)) hx hb hT uM hown Z g100 rfl 17 (by decide) (hT _ mf_M_109) (fun _ h9 => h9) rfl dM_number_34 ?_
        refine zw_top (nI (q + k)) (rfl) ?_
        refine lv_iload_n hx hb dM_number_37 rfl (lv_at hl 1 rfl) ?_
        refine lv_isub hx hb dM_number_38 ?_
        refine zw_top (nI k) (by rw [pk_sub (by omega)]; congr 1; omega) ?_
        refine lv_iload_n hx hb dM_number_39 rfl (lv_at hl 3 rfl) ?_
        have cont : W p l e (zR (2)) s m ([.ref (ad 100), .int (nI mx)] : List Value).toArray below meth c H locs (0) (0) Q (F0 m 67 ls [.long (lN (zval T q (min (k + 1) mx)))]) := by
          refine lv_lstore_n (lv' := [(3, .long (lN (zval T q (min (k + 1) mx)))), (2, .int (nI q)), (0, .ref (ad 100)), (1, .int (nI mx))]) hx hb dM_number_67 rfl hl (by decide) rfl (fun ls hl => ?_)
          refine lv_aload_n hx hb dM_number_68 rfl (lv_at hl 2 rfl) ?_
          refine lv_dup hx hb dM_number_69 rfl ?_
          refine zw_get (v := .int ((upd F 17 (nI (q + k))) 17)) hx hb hT uM hown Z g100 rfl 17 (by decide) (hT _ mf_M_109) (fun _ h9 => h9) rfl dM_number_70 ?_
          refine zw_top (nI (q + k)) (rfl) ?_
          refine lv_iconst (v := 1) hx hb dM_number_73 (by decide) ?_
          refine lv_iadd hx hb dM_number_74 ?_
          refine zw_top (nI (q + (k + 1))) (by rw [nI_1]; rfl) ?_
          refine zw_put (v := .int (nI (q + (k + 1)))) hx hb hT uM hown tM tM_ok nM Z g100 rfl 17 (by decide) (hT _ mf_M_109) (fun _ h9 => h9) rfl rfl rfl (by simp) dM_number_75 (fun H locs Z => ?_)
          have Z : zw G ad (va_up (va_up w 100 (some (oM ad (upd F 17 (nI (q + k)))))) 100 (some (oM ad (upd (upd F 17 (nI (q + k))) 17 (nI (q + (k + 1))))))) s H locs := Z
          rw [bx_uu, upd_upd] at Z
          refine lv_goto (tgt := 7) hx hb dM_number_78 (by decide) ?_
          exact ih (k + 1) _ _ ls (by omega) h571 (by rw [hz]; exact hst) Z (lv_sub hl [0, 1, 2, 3] rfl)
        refine lv_icmp_ge (tgt := 66) hx hb dM_number_40 (by decide) (fun hc3 => ?_) (fun hc3 => ?_)
        · have hmk : mx ≤ k := Nat.le_of_not_lt (fun h9 => nI_ge h9 (by omega) hc3)
          refine lv_lload_n hx hb dM_number_66 rfl (lv_at hl 0 rfl) ?_
          exact (by rw [show min (k + 1) mx = min k mx by omega] at cont; exact cont)
        · have hmk : k < mx := Nat.lt_of_not_le (fun h9 => hc3 (nI_le h9 (by omega)))
          have hmin : min k mx = k := by omega
          rw [hmin] at hv9
          refine lv_ldc2 hx hb hown (hT _ mq_M_124) dM_number_43 ?_
          refine lv_lload_n hx hb dM_number_46 rfl (lv_at hl 0 rfl) ?_
          refine lv_lmul hx hb dM_number_47 ?_
          refine zw_topl (lN (10 * zval T q k)) (by rw [hmin]; exact lN_mul 10 _) ?_
          refine lv_aload_n hx hb dM_number_48 rfl (lv_at hl 2 rfl) ?_
          refine zw_get (v := .ref (ad 107)) hx hb hT uM hown Z g100 rfl 22 (by decide) (hT _ mf_M_36) (fun _ h9 => h9) rfl dM_number_49 ?_
          refine lv_aload_n hx hb dM_number_52 rfl (lv_at hl 2 rfl) ?_
          refine zw_get (v := .int ((upd F 17 (nI (q + k))) 17)) hx hb hT uM hown Z g100 rfl 17 (by decide) (hT _ mf_M_109) (fun _ h9 => h9) rfl dM_number_53 ?_
          refine zw_top (nI (q + k)) (rfl) ?_
          refine zw_iald hx hb Z g107 (vin (by omega) (by decide)) dM_number_56 ?_
          refine zw_top (nI (T (q + k))) (by rw [ncl (by omega)]; exact htx _ (by omega)) ?_
          refine lv_i2l hx hb dM_number_57 rfl ?_
          refine lv_ladd hx hb dM_number_58 ?_
          refine zw_topl (lN (10 * zval T q k + T (q + k))) (by rw [nI_l (by omega)]; exact lN_add _ _) ?_
          refine lv_ldc2 hx hb hown (hT _ mq_M_126) dM_number_59 ?_
          refine lv_lsub hx hb dM_number_62 ?_
          refine zw_topl (lN (zval T q (min (k + 1) mx))) (by rw [show min (k + 1) mx = k + 1 by omega]; refine (lN_sub (b := 48) (by omega)).trans ?_; congr 1; show _ = zval T q k * 10 + (T (q + k) - 48); omega) ?_
          refine lv_goto (tgt := 67) hx hb dM_number_63 (by decide) ?_
          exact cont
  exact loop (len - q) 0 _ _ ls (by omega) (fun i hi => absurd hi (Nat.not_lt_zero _)) rfl (by rw [Nat.add_zero, upd_same hat, zup_id h100]; exact Z) (by rw [show min 0 mx = 0 by omega]; exact (lv_sub hl [0, 1, 2, 3] rfl))

set_option maxHeartbeats 4000000 in
set_option maxRecDepth 100000 in
theorem c_M_variable (l : Launch) {G : zG} {ad : Nat → Nat} {w : Nat → Option va_E} (P n o : Nat) (F : Nat → Int32) (B : Nat → Nat → Nat) (hM : zMod G ad w P n o F B) (c9 : Int32) : Met l yM_variable wM_variable (zR (1)) (va_Pc [.ref (ad 100), .int c9] (zw_U G ad w)) (va_Qi (S := Nat → Option va_E) (fun r w' => r = (if zvar c9 < n then nI (zvar c9) else -1) ∧ w' = w) (fun u t => zw_U G ((fun _ => ad) u) ((fun w' => w') u) t) (zA G)) 0 0 (zA G) := by
  refine zw_methi (S := Nat → Option va_E) (fa := fun _ => ad) (fw := fun w' => w') (by decide) rfl (Nat.le_of_ble_eq_true rfl) ?_
  intro p e s m below meth c Q ls C hname Z hl hret
  obtain ⟨hx, hb, hml, hown, hts, hlk⟩ := C
  have hT : ∀ w ∈ zT, w.before ([.ref (ad 100), .int c9] : List Value).toArray s = true := fun w h => hts w (List.mem_cons_of_mem _ h)
  have hown : s.vm.findClass "PolynomialDeskModel" = some m.cls := hown
  have hl : lv_has ls 3 [(0, .ref (ad 100)), (1, .int c9)] := hl
  obtain ⟨h100, ⟨hF1, hF2, hF3, hF4, hF10⟩, ⟨hP1, hP2⟩, hcfg, ⟨dg, h101, hdg⟩, ⟨ex, h102, hex⟩, ⟨ys, h103, hys⟩, ⟨un, h104, hun⟩, ⟨cl, h105, hcl, hpB⟩⟩ := id hM
  have hct := zCt_le (n := n)
  have hn4 := hcfg.2.1
  have hv4 : zvar c9 ≤ 4 := by
    unfold zvar
    repeat' split
    all_goals omega
  have cont : W p l e (zR (1)) s m ([.ref (ad 100), .int c9] : List Value).toArray below meth c s.heap [] (0) (0) Q (F0 m 41 ls [.int (nI (zvar c9))]) := by
    refine lv_istore_n (lv' := [(2, .int (nI (zvar c9))), (0, .ref (ad 100)), (1, .int c9)]) hx hb dM_variable_41 rfl hl (by decide) rfl (fun ls hl => ?_)
    refine lv_iload_n hx hb dM_variable_42 rfl (lv_at hl 0 rfl) ?_
    refine lv_aload_n hx hb dM_variable_43 rfl (lv_at hl 1 rfl) ?_
    refine zw_get (v := .int (F 2)) hx hb hT uM hown Z h100 rfl 2 (by decide) (hT _ mf_M_55) (fun _ h9 => h9) rfl dM_variable_44 ?_
    refine zw_top (nI n) (hF2) ?_
    refine lv_icmp_ge (tgt := 54) hx hb dM_variable_47 (by decide) (fun hc8 => ?_) (fun hc8 => ?_)
    · refine lv_iconst (v := (-1)) hx hb dM_variable_54 (by decide) ?_
      exact hret _ _ _ _ _ _ dM_variable_55 (⟨by rw [if_neg (fun h9 => nI_ge h9 (by omega) hc8)], rfl⟩) Z
    · refine lv_iload_n hx hb dM_variable_50 rfl (lv_at hl 0 rfl) ?_
      refine lv_goto (tgt := 55) hx hb dM_variable_51 (by decide) ?_
      exact hret _ _ _ _ _ _ dM_variable_55 (⟨by rw [if_pos (Nat.lt_of_not_le (fun h9 => hc8 (nI_le h9 (by omega))))], rfl⟩) Z
  refine lv_iload_n hx hb dM_variable_0 rfl (lv_at hl 1 rfl) ?_
  refine lv_bipush (v := 120) hx hb dM_variable_1 (by decide) ?_
  refine lv_icmp_ne (tgt := 10) hx hb dM_variable_3 (by decide) (fun hc => ?_) (fun hc => ?_)
  · refine lv_iload_n hx hb dM_variable_10 rfl (lv_at hl 1 rfl) ?_
    refine lv_bipush (v := 121) hx hb dM_variable_11 (by decide) ?_
    refine lv_icmp_ne (tgt := 20) hx hb dM_variable_13 (by decide) (fun hc2 => ?_) (fun hc2 => ?_)
    · refine lv_iload_n hx hb dM_variable_20 rfl (lv_at hl 1 rfl) ?_
      refine lv_bipush (v := 122) hx hb dM_variable_21 (by decide) ?_
      refine lv_icmp_ne (tgt := 30) hx hb dM_variable_23 (by decide) (fun hc3 => ?_) (fun hc3 => ?_)
      · refine lv_iload_n hx hb dM_variable_30 rfl (lv_at hl 1 rfl) ?_
        refine lv_bipush (v := 119) hx hb dM_variable_31 (by decide) ?_
        refine lv_icmp_ne (tgt := 40) hx hb dM_variable_33 (by decide) (fun hc4 => ?_) (fun hc4 => ?_)
        · refine lv_iconst (v := 4) hx hb dM_variable_40 (by decide) ?_
          exact (by rw [show zvar c9 = 4 from by unfold zvar; rw [if_neg hc, if_neg hc2, if_neg hc3, if_neg hc4]] at cont; exact cont)
        · refine lv_iconst (v := 3) hx hb dM_variable_36 (by decide) ?_
          refine lv_goto (tgt := 41) hx hb dM_variable_37 (by decide) ?_
          exact (by rw [show zvar c9 = 3 from by unfold zvar; rw [if_neg hc, if_neg hc2, if_neg hc3, if_pos hc4]] at cont; exact cont)
      · refine lv_iconst (v := 2) hx hb dM_variable_26 (by decide) ?_
        refine lv_goto (tgt := 41) hx hb dM_variable_27 (by decide) ?_
        exact (by rw [show zvar c9 = 2 from by unfold zvar; rw [if_neg hc, if_neg hc2, if_pos hc3]] at cont; exact cont)
    · refine lv_iconst (v := 1) hx hb dM_variable_16 (by decide) ?_
      refine lv_goto (tgt := 41) hx hb dM_variable_17 (by decide) ?_
      exact (by rw [show zvar c9 = 1 from by unfold zvar; rw [if_neg hc, if_pos hc2]] at cont; exact cont)
  · refine lv_iconst (v := 0) hx hb dM_variable_6 (by decide) ?_
    refine lv_goto (tgt := 41) hx hb dM_variable_7 (by decide) ?_
    exact (by rw [show zvar c9 = 0 from by unfold zvar; rw [if_pos hc]] at cont; exact cont)

set_option maxHeartbeats 4000000 in
set_option maxRecDepth 100000 in
theorem c_M_begin (l : Launch) {G : zG} {ad : Nat → Nat} {w : Nat → Option va_E} (P n o : Nat) (F : Nat → Int32) (B : Nat → Nat → Nat) (T : Nat → Nat) (len : Nat) (sg : Nat → Bool) (st : Nat → Option Nat) (d : Nat) (hR : zRr G ad w P n o F B T len sg st d d) : Met l yM_begin wM_begin (zR (3)) (va_Pc [.ref (ad 100)] (zw_U G ad w)) (va_Qv (S := Nat → Option va_E) (fun w' => zRr G ad w' P n o (upd F 18 0) (va_up B (8 + 3 * d) (fun _ => 0)) T len (va_up sg d false) (va_up st d none) d (d + 1) ∧ zfr w w') (fun u t => zw_U G ((fun _ => ad) u) ((fun w' => w') u) t) (zA G)) 0 0 (zA G) := by
  refine zw_methv (S := Nat → Option va_E) (fa := fun _ => ad) (fw := fun w' => w') (by decide) rfl (Nat.le_of_ble_eq_true rfl) ?_
  intro p e s m below meth c Q ls C hname Z hl hret
  obtain ⟨hx, hb, hml, hown, hts, hlk⟩ := C
  have hT : ∀ w ∈ zT, w.before ([.ref (ad 100)] : List Value).toArray s = true := fun w h => hts w (List.mem_cons_of_mem _ h)
  have hown : s.vm.findClass "PolynomialDeskModel" = some m.cls := hown
  have hl : lv_has ls 1 [(0, .ref (ad 100))] := hl
  obtain ⟨hM, ⟨hF16, hF19, hd20⟩, ⟨tx, h107, htx⟩, ⟨hTb, hlen⟩, ⟨sa, h108, hsa⟩, ⟨ta, h109, hta⟩⟩ := id hR
  obtain ⟨h100, ⟨hF1, hF2, hF3, hF4, hF10⟩, ⟨hP1, hP2⟩, hcfg, ⟨dg, h101, hdg⟩, ⟨ex, h102, hex⟩, ⟨ys, h103, hys⟩, ⟨un, h104, hun⟩, ⟨cl, h105, hcl, hpB⟩⟩ := id hM
  have hct := zCt_le (n := n)
  refine lv_aload_n hx hb dM_begin_0 rfl (lv_at hl 0 rfl) ?_
  refine lv_aload_n hx hb dM_begin_1 rfl (lv_at hl 0 rfl) ?_
  refine zw_calli (va_runV (As := []) (rest := [.ref (ad 100)]) ⟨hx, hb, hml, hown, hts⟩ (c_M_sum l P n o F B T len sg st d d hR) (kw_M_sum hts ml_M_132 (zR_fit (by omega) (by omega))) (Z.preV h100 rfl _) rfl rfl hl.1 rfl (lv_room (Nat.le_of_ble_eq_true rfl)) dM_begin_2 ⟨Nat.le_of_ble_eq_true rfl, Nat.le_of_ble_eq_true rfl⟩) Z (fun r wq H locs hp Z => ?_)
  obtain ⟨rfl, hw1⟩ := hp
  rw [hw1] at Z
  clear hw1
  refine zw_callv (va_runV (As := [.int (nI (8 + 3 * d))]) (rest := []) ⟨hx, hb, hml, hown, hts⟩ (c_M_clear l P n o F B hM (8 + 3 * d) (by omega)) (kw_M_clear hts ml_M_100 (zR_fit (by omega) (by omega))) (Z.preV h100 rfl _) rfl rfl hl.1 rfl (lv_room (Nat.le_of_ble_eq_true rfl)) dM_begin_5 ⟨Nat.le_of_ble_eq_true rfl, Nat.le_of_ble_eq_true rfl⟩) Z (fun w1 H locs hp Z => ?_)
  obtain ⟨hM1, hz1⟩ := hp
  have hR1 := hR.cel hM1 hz1
  obtain ⟨hMa, ⟨hF16a, hF19a, hd20a⟩, ⟨txa, h107a, htxa⟩, ⟨hTba, hlena⟩, ⟨saa, h108a, hsaa⟩, ⟨taa, h109a, htaa⟩⟩ := id hR1
  obtain ⟨h100a, ⟨hF1a, hF2a, hF3a, hF4a, hF10a⟩, ⟨hP1, hP2⟩, hcfg, ⟨dga, h101a, hdga⟩, ⟨exa, h102a, hexa⟩, ⟨ysa, h103a, hysa⟩, ⟨una, h104a, huna⟩, ⟨cla, h105a, hcla, hpBa⟩⟩ := id hMa
  refine lv_aload_n hx hb dM_begin_8 rfl (lv_at hl 0 rfl) ?_
  refine zw_get (v := .ref (ad 108)) hx hb hT uM hown Z h100a rfl 23 (by decide) (hT _ mf_M_39) (fun _ h9 => h9) rfl dM_begin_9 ?_
  refine lv_aload_n hx hb dM_begin_12 rfl (lv_at hl 0 rfl) ?_
  refine zw_get (v := .int (F 19)) hx hb hT uM hown Z h100a rfl 19 (by decide) (hT _ mf_M_106) (fun _ h9 => h9) rfl dM_begin_13 ?_
  refine zw_top (nI d) (hF19a) ?_
  refine lv_iconst (v := 1) hx hb dM_begin_16 (by decide) ?_
  refine zw_iast hx hb Z h108a (vin (by omega) (by decide)) dM_begin_17 (fun H locs Z => ?_)
  rw [ncl (by omega)] at Z
  have Z : zw G ad (va_up w1 108 (some (zi G 21 (upd saa d 1)))) s H locs := Z
  have g100 : (va_up w1 108 (some (zi G 21 (upd saa d 1)))) 100 = some (oM ad F) := by rw [va_up_ne _ _ (by decide)]; exact h100a
  have g109 : (va_up w1 108 (some (zi G 21 (upd saa d 1)))) 109 = some (zi G 21 taa) := by rw [va_up_ne _ _ (by decide)]; exact h109a
  refine lv_aload_n hx hb dM_begin_18 rfl (lv_at hl 0 rfl) ?_
  refine zw_get (v := .ref (ad 109)) hx hb hT uM hown Z g100 rfl 24 (by decide) (hT _ mf_M_42) (fun _ h9 => h9) rfl dM_begin_19 ?_
  refine lv_aload_n hx hb dM_begin_22 rfl (lv_at hl 0 rfl) ?_
  refine zw_get (v := .int (F 19)) hx hb hT uM hown Z g100 rfl 19 (by decide) (hT _ mf_M_106) (fun _ h9 => h9) rfl dM_begin_23 ?_
  refine zw_top (nI d) (hF19a) ?_
  refine lv_iconst (v := (-1)) hx hb dM_begin_26 (by decide) ?_
  refine zw_iast hx hb Z g109 (vin (by omega) (by decide)) dM_begin_27 (fun H locs Z => ?_)
  rw [ncl (by omega)] at Z
  have hR3 := hR1.deep (x := false) (y := none) hsaa htaa
  have g100 := hR3.1.1
  have Z : zw G ad (va_up (va_up w1 108 (some (zi G 21 (upd saa d (zsI false))))) 109 (some (zi G 21 (upd taa d (ztI none))))) s H locs := Z
  refine lv_aload_n hx hb dM_begin_28 rfl (lv_at hl 0 rfl) ?_
  refine lv_iconst (v := 0) hx hb dM_begin_29 (by decide) ?_
  refine zw_put (v := .int 0) hx hb hT uM hown tM tM_ok nM Z g100 rfl 18 (by decide) (hT _ mf_M_136) (fun _ h9 => h9) rfl rfl rfl (by simp) dM_begin_30 (fun H locs Z => ?_)
  have Z : zw G ad (va_up (va_up (va_up w1 108 (some (zi G 21 (upd saa d (zsI false))))) 109 (some (zi G 21 (upd taa d (ztI none))))) 100 (some (oM ad (upd F 18 0)))) s H locs := Z
  exact hret _ _ _ _ _ dM_begin_33 (⟨hR3.obj (zfF.upd (by decide)) rfl, ((hz1.fr.trans (zfr.up (by decide))).trans (zfr.up (by decide))).trans (zfr.up (by decide))⟩) Z
