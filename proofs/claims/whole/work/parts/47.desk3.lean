theorem zText_ok {n o P : Nat} {T : Nat → Nat} {len : Nat} (hc : zCfg n o) (hP : 2 ≤ P) {A : Nat → Nat} {e : Nat} (h : zText n o P T len = .inr (A, e)) : zpol n P A := by
  unfold zText at h
  split at h
  · cases h
  · next A1 e1 h1 =>
    split at h
    · cases h
      exact (zSum_ok hc hP (zGrp_ok hc hP 20) (Nat.zero_le _) h1).2.2
    · cases h

set_option maxHeartbeats 4000000 in
set_option maxRecDepth 100000 in
theorem c_K_print (l : Launch) (hnt : l.stackTraces = false) {G : zG} {ad : Nat → Nat} {w : Nat → Option va_E} (hX : ∀ U H, G.2.2.2 U H → zTHR G U H) (qs qv : Nat) (hXs : ∀ U H, G.2.2.2 U H → zSTR G qs qv U H) (P n o : Nat) (A : Nat → Nat → Nat) (T : Nat → Nat) (len : Nat) (flt pl : Int32) (out : List Nat) (hD : zDk G ad w P n o A T len flt pl out) (a : Int32) : vx_Met l yK_print wK_print (zRx (7) 4 24) (va_Pc [.ref (ad 0), .int a] (zw_U G ad w)) (va_Qi (S := Nat → Option va_E) (fun r w' => (zip8 a = true ∧ r = nI (zprint n o (A a.toNatClampNeg)).length) ∧ zDk G ad w' P n o A T len flt pl (zprint n o (A a.toNatClampNeg)) ∧ zfk w w') (fun u t => zw_U G ((fun _ => ad) u) ((fun w' => w') u) t) (zA G)) (zXC G ad (fun E u => E = "java/lang/IndexOutOfBoundsException" ∧ zip8 a = false ∧ u = w)) 4 24 (zA G) := by
  refine zx_methi (S := Nat → Option va_E) (fa := fun _ => ad) (fw := fun w' => w') (by decide) rfl (Nat.le_of_ble_eq_true rfl) ?_
  intro p e s m below meth c Q ls C hno hQ Z hl hret
  obtain ⟨hx, hb, hml, hown, hts, hlk⟩ := C
  have hT : ∀ w ∈ zT, w.before ([.ref (ad 0), .int a] : List Value).toArray s = true := fun w h => hts w (List.mem_cons_of_mem _ h)
  have hown : s.vm.findClass "PolynomialDesk" = some m.cls := hown
  have hl : lv_has ls 2 [(0, .ref (ad 0)), (1, .int a)] := hl
  have hthr := hX _ _ Z.2.2.2.2.2
  obtain ⟨FR, FE, hE, hf4, hf5, h0, h14, ⟨gn, h15⟩, hpr, hpo⟩ := id hD
  obtain ⟨-, ⟨hF0, hF1, hF2, hF3, hF4⟩, ⟨hP1, hP2⟩, hcfg, -⟩ := id hE.1
  obtain ⟨FP, pb, h3, -⟩ := id hpr
  have hct := zCt_le (n := n)
  refine lv_iload_n hx hb dK_print_0 rfl (lv_at hl 1 rfl) ?_
  refine zx_callv (vx_runS (As := [.int a]) (rest := []) ⟨hx, hb, hml, hown, hts⟩ (c_K_requirePolynomial l hnt hX a) (kx_K_requirePolynomial hts ml_K_73 (zRx_fit (by omega) (by omega))) (Z.preS _) rfl rfl hl.1 rfl (lv_room (Nat.le_of_ble_eq_true rfl)) dK_print_1 ⟨Nat.le_of_ble_eq_true rfl, Nat.le_of_ble_eq_true rfl⟩) Z hQ hno hlk (fun E u h9 => h9) (Nat.le_of_ble_eq_true rfl) (Nat.le_of_ble_eq_true rfl) (fun w1 H locs hp Z => ?_)
  obtain ⟨hza, hw1⟩ := hp
  rw [hw1] at Z
  clear hw1
  obtain ⟨ja, hja, rfl⟩ := zip8_ok hza
  refine lv_aload_n hx hb dK_print_4 rfl (lv_at hl 0 rfl) ?_
  refine zw_get (v := .ref (ad 3)) hx hb hT uK hown Z h0 rfl 2 (by decide) (hT _ mf_K_32) (fun _ h9 => h9) rfl dK_print_5 ?_
  refine lv_aload_n hx hb dK_print_8 rfl (lv_at hl 0 rfl) ?_
  refine zw_get (v := .ref (ad 14)) hx hb hT uK hown Z h0 rfl 3 (by decide) (hT _ mf_K_38) (fun _ h9 => h9) rfl dK_print_9 ?_
  refine lv_iload_n hx hb dK_print_12 rfl (lv_at hl 1 rfl) ?_
  refine zw_aald (v := .ref (ad (20 + ja))) hx hb Z h14 (vin hja (by decide)) (by rw [ncl (by omega)]; rfl) dK_print_13 ?_
  refine zw_calli (va_runV (As := [.ref (ad (20 + ja))]) (rest := []) ⟨hx, hb, hml, hown, hts⟩ (c_P_writePolynomial l qs qv hXs P n o FR hE.1 out hpr (20 + ja) (A ja) (by omega) (hpo ja hja).1 (hpo ja hja).2) (kw_P_writePolynomial hts ml_K_140 (zRm_fit (by omega) (by omega))) (Z.preV h3 rfl _) rfl rfl hl.1 rfl (lv_room (Nat.le_of_ble_eq_true rfl)) dK_print_14 ⟨Nat.le_of_ble_eq_true rfl, Nat.le_of_ble_eq_true rfl⟩) Z (fun r wq H locs hp Z => ?_)
  obtain ⟨hr, hpr2, hz2⟩ := hp
  exact hret _ _ _ _ _ _ _ _ dK_print_17 (⟨⟨hza, by rw [ncl (by omega)]; exact hr⟩, by rw [ncl (by omega)]; exact hD.outp hpr2 hz2, fun k hk => hz2 k (by omega) (by omega)⟩) Z (Nat.le_of_ble_eq_true rfl) (Nat.le_of_ble_eq_true rfl)

set_option maxHeartbeats 4000000 in
set_option maxRecDepth 100000 in
theorem c_K_read (l : Launch) (hnt : l.stackTraces = false) {G : zG} {ad : Nat → Nat} {w : Nat → Option va_E} (hX : ∀ U H, G.2.2.2 U H → zTHR G U H) (P n o : Nat) (A : Nat → Nat → Nat) (T : Nat → Nat) (len : Nat) (flt pl : Int32) (out : List Nat) (hD : zDk G ad w P n o A T len flt pl out) (a : Int32) : vx_Met l yK_read wK_read (zRx (132) 4 24) (va_Pc [.ref (ad 0), .int a] (zw_U G ad w)) (va_Qi (S := Nat → Option va_E) (fun r w' => zip8 a = true ∧ ∃ (B : Nat → Nat) (e9 : Nat), zText n o P T len = .inr (B, e9) ∧ r = nI (zcnt (fun i => nI (B i)) (zCt n)) ∧ zDk G ad w' P n o (va_up A a.toNatClampNeg B) T 0 0 (-1) out ∧ zfk w w') (fun u t => zw_U G ((fun _ => ad) u) ((fun w' => w') u) t) (zA G)) (zXC G ad (fun E u => (E = "java/lang/IndexOutOfBoundsException" ∧ zip8 a = false ∧ u = w) ∨ (E = "java/lang/IllegalArgumentException" ∧ zip8 a = true ∧ ∃ f9 p9 : Nat, zText n o P T len = .inl (f9, p9) ∧ 1 ≤ f9 ∧ f9 ≤ 4 ∧ zDk G ad u P n o A T 0 (nI f9) (nI p9) out ∧ zfk w u))) 4 24 (zA G) := by
  refine zx_methi (S := Nat → Option va_E) (fa := fun _ => ad) (fw := fun w' => w') (by decide) rfl (Nat.le_of_ble_eq_true rfl) ?_
  intro p e s m below meth c Q ls C hno hQ Z hl hret
  obtain ⟨hx, hb, hml, hown, hts, hlk⟩ := C
  have hT : ∀ w ∈ zT, w.before ([.ref (ad 0), .int a] : List Value).toArray s = true := fun w h => hts w (List.mem_cons_of_mem _ h)
  have hown : s.vm.findClass "PolynomialDesk" = some m.cls := hown
  have hl : lv_has ls 2 [(0, .ref (ad 0)), (1, .int a)] := hl
  have hthr := hX _ _ Z.2.2.2.2.2
  obtain ⟨FR, FE, hE, hf4, hf5, h0, h14, ⟨gn, h15⟩, hpr, hpo⟩ := id hD
  obtain ⟨-, ⟨hF0, hF1, hF2, hF3, hF4⟩, ⟨hP1, hP2⟩, hcfg, -⟩ := id hE.1
  obtain ⟨FP, pb, h3, -⟩ := id hpr
  have hct := zCt_le (n := n)
  refine lv_iload_n hx hb dK_read_0 rfl (lv_at hl 1 rfl) ?_
  refine zx_callv (vx_runS (As := [.int a]) (rest := []) ⟨hx, hb, hml, hown, hts⟩ (c_K_requirePolynomial l hnt hX a) (kx_K_requirePolynomial hts ml_K_73 (zRx_fit (by omega) (by omega))) (Z.preS _) rfl rfl hl.1 rfl (lv_room (Nat.le_of_ble_eq_true rfl)) dK_read_1 ⟨Nat.le_of_ble_eq_true rfl, Nat.le_of_ble_eq_true rfl⟩) Z hQ hno hlk (fun E u h9 => Or.inl h9) (Nat.le_of_ble_eq_true rfl) (Nat.le_of_ble_eq_true rfl) (fun w1 H locs hp Z => ?_)
  obtain ⟨hza, hw1⟩ := hp
  rw [hw1] at Z
  clear hw1
  obtain ⟨ja, hja, rfl⟩ := zip8_ok hza
  refine lv_aload_n hx hb dK_read_4 rfl (lv_at hl 0 rfl) ?_
  refine zw_get (v := .ref (ad 2)) hx hb hT uK hown Z h0 rfl 1 (by decide) (hT _ mf_K_25) (fun _ h9 => h9) rfl dK_read_5 ?_
  refine lv_aload_n hx hb dK_read_8 rfl (lv_at hl 0 rfl) ?_
  refine zw_get (v := .ref (ad 14)) hx hb hT uK hown Z h0 rfl 3 (by decide) (hT _ mf_K_38) (fun _ h9 => h9) rfl dK_read_9 ?_
  refine lv_iload_n hx hb dK_read_12 rfl (lv_at hl 1 rfl) ?_
  refine zw_aald (v := .ref (ad (20 + ja))) hx hb Z h14 (vin hja (by decide)) (by rw [ncl (by omega)]; rfl) dK_read_13 ?_
  refine zw_calli (va_runV (As := [.ref (ad (20 + ja))]) (rest := []) ⟨hx, hb, hml, hown, hts⟩ (c_E_readText l P n o FR FE T len hE (20 + ja) (by omega) (by omega)) (kw_E_readText hts ml_K_77 (zRm_fit (by omega) (by omega))) (Z.preV hE.2.1 rfl _) rfl rfl hl.1 rfl (lv_room (Nat.le_of_ble_eq_true rfl)) dK_read_14 ⟨Nat.le_of_ble_eq_true rfl, Nat.le_of_ble_eq_true rfl⟩) Z (fun r wq H locs hp Z => ?_)
  obtain ⟨FE2, hE2, hz2, hm⟩ := hp
  cases hb8 : zText n o P T len with
  | inl x9 =>
    obtain ⟨f9, p9⟩ := x9
    rw [hb8] at hm
    obtain ⟨hr, h4, h5, h6, h7, h8⟩ := hm
    subst hr
    have hD2 := hD.read hE2 hja hz2 (h8.trans (hpo ja hja).1) (hpo ja hja).2
    rw [zup_id rfl, h4, h5] at hD2
    refine lv_if_ne (tgt := 30) hx hb dK_read_17 (by decide) (fun hc => absurd (show (0 : Int32) = 0 from rfl) hc) (fun _ => ?_)
    exact zw_throwS (text := "a fault in the text") hx hb hnt hown zt_IA_f (hT _ mc_K_49) (hT _ mn_IllegalArgumentException) (fun w h => hT w (zt_IA_g w h)) zt_IA_n zt_IA_o hthr (by decide) Z (hl.1.trans hml.symm) dK_read_20 dK_read_23 dK_read_24 dK_read_26 dK_read_29 hno (Nat.le_of_ble_eq_true rfl) (Nat.le_of_ble_eq_true rfl) (Nat.le_of_ble_eq_true rfl) (Nat.le_of_ble_eq_true rfl) hlk hQ (Or.inr ⟨rfl, hza, f9, p9, hb8, h6, h7, hD2, fun k hk => hz2 k (by omega)⟩) (Nat.le_of_ble_eq_true rfl) (Nat.le_of_ble_eq_true rfl)
  | inr x9 =>
    obtain ⟨B, e9⟩ := x9
    rw [hb8] at hm
    obtain ⟨hr, h4, h5, h8⟩ := hm
    subst hr
    have hpB := zText_ok hcfg hP1 hb8
    have hD2 := hD.read hE2 hja hz2 h8 hpB
    rw [h4, h5] at hD2
    obtain ⟨FR3, FE3, hE3, -, -, g0, g14, -, -, -⟩ := id hD2
    refine lv_if_ne (tgt := 30) hx hb dK_read_17 (by decide) (fun _ => ?_) (fun hc => absurd hc (show ¬ (1 : Int32) = 0 from by decide))
    refine lv_aload_n hx hb dK_read_30 rfl (lv_at hl 0 rfl) ?_
    refine zw_get (v := .ref (ad 1)) hx hb hT uK hown Z g0 rfl 0 (by decide) (hT _ mf_K_10) (fun _ h9 => h9) rfl dK_read_31 ?_
    refine lv_aload_n hx hb dK_read_34 rfl (lv_at hl 0 rfl) ?_
    refine zw_get (v := .ref (ad 14)) hx hb hT uK hown Z g0 rfl 3 (by decide) (hT _ mf_K_38) (fun _ h9 => h9) rfl dK_read_35 ?_
    refine lv_iload_n hx hb dK_read_38 rfl (lv_at hl 1 rfl) ?_
    refine zw_aald (v := .ref (ad (20 + ja))) hx hb Z g14 (vin hja (by decide)) (by rw [ncl (by omega)]; rfl) dK_read_39 ?_
    refine zw_calli (va_runV (As := [.ref (ad (20 + ja))]) (rest := []) ⟨hx, hb, hml, hown, hts⟩ (c_R_countTerms l FR3 hE3.1.1 (20 + ja) _ (zCt n) h8 hE3.1.2.1.2.2.2.2 hct) (kw_R_countTerms hts ml_K_83 (zRm_fit (by omega) (by omega))) (Z.preV hE3.1.1 rfl _) rfl rfl hl.1 rfl (lv_room (Nat.le_of_ble_eq_true rfl)) dK_read_40 ⟨Nat.le_of_ble_eq_true rfl, Nat.le_of_ble_eq_true rfl⟩) Z (fun r wq H locs hp Z => ?_)
    obtain ⟨rfl, hw1⟩ := hp
    rw [hw1] at Z
    clear hw1
    exact hret _ _ _ _ _ _ _ _ dK_read_43 (⟨hza, B, e9, hb8, rfl, by rw [ncl (by omega)]; exact hD2, fun k hk => hz2 k (by omega)⟩) Z (Nat.le_of_ble_eq_true rfl) (Nat.le_of_ble_eq_true rfl)

/-- whether field's numbers are good -/
def zfv (q v o9 : Int32) : Prop := zprb q = true ∧ ¬ v < 1 ∧ v ≤ 4 ∧ (o9 = 0 ∨ o9 = 1)
theorem zfv_ok {q v o9 : Int32} (h : zfv q v o9) : ∃ P n o : Nat, q = nI P ∧ v = nI n ∧ o9 = nI o ∧ zCfg n o ∧ 2 ≤ P ∧ P ≤ 32003 := by
  obtain ⟨h1, h2, h3, h4⟩ := h
  obtain ⟨P, hP, hP1, hP2, -⟩ := zprb_ok h1
  obtain ⟨n, hn4, rfl⟩ := nI_of2 (M := 4) (n := 4) rfl (fun h9 => h2 (Int32.lt_trans h9 (by decide))) h3
  have hn1 : 1 ≤ n := Nat.le_of_not_lt (fun h9 => h2 (nI_lt (b := 1) h9 (by decide)))
  rcases h4 with rfl | rfl
  · exact ⟨P, n, 0, hP, rfl, rfl, ⟨hn1, hn4, by decide⟩, hP1, hP2⟩
  · exact ⟨P, n, 1, hP, rfl, rfl, ⟨hn1, hn4, by decide⟩, hP1, hP2⟩
theorem zRdr.prep {G : zG} {ad : Nat → Nat} {w w' : Nat → Option va_E} {P n o P' n' o' : Nat} {FR FE F' : Nat → Int32} {T : Nat → Nat} {len : Nat} (h : zRdr G ad w P n o FR FE T len) (h1 : zRing G ad w' P' n' o' F') (e : zfrp w w') : zRdr G ad w' P' n' o' F' FE T len := by
  obtain ⟨b1, b2, b3, b4, b5, b6, b7, b8, b9⟩ := h
  exact ⟨h1, by rw [e 2 (by omega)]; exact b2, by rw [e 10 (by omega)]; exact b3, b4, b5, b6, by rw [e 11 (by omega)]; exact b7, by rw [e 12 (by omega)]; exact b8, fun k h2 h3 => by rw [e k (by omega)]; exact b9 k h2 h3⟩

set_option maxHeartbeats 4000000 in
set_option maxRecDepth 100000 in
theorem c_K_field (l : Launch) (hnt : l.stackTraces = false) {G : zG} {ad : Nat → Nat} {w : Nat → Option va_E} (hX : ∀ U H, G.2.2.2 U H → zTHR G U H) (hXh : ∀ U H, G.2.2.2 U H → zHIGH G U H) (P n o : Nat) (A : Nat → Nat → Nat) (T : Nat → Nat) (len : Nat) (flt pl : Int32) (out : List Nat) (hD : zDk G ad w P n o A T len flt pl out) (q v o9 : Int32) : vx_Met l yK_field wK_field (zRx (8) 4 24) (va_Pc [.ref (ad 0), .int q, .int v, .int o9] (zw_U G ad w)) (va_Qv (S := Nat → Option va_E) (fun w' => zfv q v o9 ∧ ∃ P' n' o' : Nat, (q = nI P' ∧ v = nI n' ∧ o9 = nI o') ∧ zCfg n' o' ∧ (2 ≤ P' ∧ P' ≤ 32003) ∧ zDk G ad w' P' n' o' (fun _ _ => 0) T len flt pl [] ∧ zfk w w') (fun u t => zw_U G ((fun _ => ad) u) ((fun w' => w') u) t) (zA G)) (zXC G ad (fun E u => E = "java/lang/IllegalArgumentException" ∧ ¬ zfv q v o9 ∧ u = w)) 4 24 (zA G) := by
  refine zx_methv (S := Nat → Option va_E) (fa := fun _ => ad) (fw := fun w' => w') (by decide) rfl (Nat.le_of_ble_eq_true rfl) ?_
  intro p e s m below meth c Q ls C hno hQ Z hl hret
  obtain ⟨hx, hb, hml, hown, hts, hlk⟩ := C
  have hT : ∀ w ∈ zT, w.before ([.ref (ad 0), .int q, .int v, .int o9] : List Value).toArray s = true := fun w h => hts w (List.mem_cons_of_mem _ h)
  have hown : s.vm.findClass "PolynomialDesk" = some m.cls := hown
  have hl : lv_has ls 5 [(0, .ref (ad 0)), (1, .int q), (2, .int v), (3, .int o9)] := hl
  have hthr := hX _ _ Z.2.2.2.2.2
  obtain ⟨FR, FE, hE, hf4, hf5, h0, h14, ⟨gn, h15⟩, hpr, hpo⟩ := id hD
  obtain ⟨-, ⟨hF0, hF1, hF2, hF3, hF4⟩, ⟨hP1, hP2⟩, hcfg, -⟩ := id hE.1
  obtain ⟨FP, pb, h3, -⟩ := id hpr
  have hct := zCt_le (n := n)
  refine lv_iload_n hx hb dK_field_0 rfl (lv_at hl 1 rfl) ?_
  refine zw_calli (va_runS (As := [.int q]) (rest := []) ⟨hx, hb, hml, hown, hts⟩ (c_K_isPrime l q) (kw_K_isPrime hts ml_K_45 (zRm_fit (by omega) (by omega))) (Z.preS _) rfl rfl hl.1 rfl (lv_room (Nat.le_of_ble_eq_true rfl)) dK_field_1 ⟨Nat.le_of_ble_eq_true rfl, Nat.le_of_ble_eq_true rfl⟩) Z (fun r wq H locs hp Z => ?_)
  obtain ⟨rfl, hw1⟩ := hp
  rw [hw1] at Z
  clear hw1
  refine lv_if_ne (tgt := 17) hx hb dK_field_4 (by decide) (fun hc => ?_) (fun hc => ?_)
  · have hq := zb_t hc
    refine lv_iload_n hx hb dK_field_17 rfl (lv_at hl 2 rfl) ?_
    refine lv_iconst (v := 1) hx hb dK_field_18 (by decide) ?_
    have badn : ¬ (¬ v < 1 ∧ v ≤ 4) → W p l e (zRx (8) 4 24) s m ([.ref (ad 0), .int q, .int v, .int o9] : List Value).toArray below meth c H locs (0) (0) Q (F0 m 27 ls []) := by
      intro hz
      exact zw_throwS (text := "not 1 to 4 variables") hx hb hnt hown zt_IA_f (hT _ mc_K_49) (hT _ mn_IllegalArgumentException) (fun w h => hT w (zt_IA_g w h)) zt_IA_n zt_IA_o hthr (by decide) Z (hl.1.trans hml.symm) dK_field_27 dK_field_30 dK_field_31 dK_field_33 dK_field_36 hno (Nat.le_of_ble_eq_true rfl) (Nat.le_of_ble_eq_true rfl) (Nat.le_of_ble_eq_true rfl) (Nat.le_of_ble_eq_true rfl) hlk hQ (⟨rfl, fun h9 => hz ⟨h9.2.1, h9.2.2.1⟩, rfl⟩) (Nat.le_of_ble_eq_true rfl) (Nat.le_of_ble_eq_true rfl)
    refine lv_icmp_lt (tgt := 27) hx hb dK_field_19 (by decide) (fun hc2 => ?_) (fun hc2 => ?_)
    · exact badn (fun h9 => h9.1 hc2)
    · refine lv_iload_n hx hb dK_field_22 rfl (lv_at hl 2 rfl) ?_
      refine lv_iconst (v := 4) hx hb dK_field_23 (by decide) ?_
      refine lv_icmp_le (tgt := 37) hx hb dK_field_24 (by decide) (fun hc3 => ?_) (fun hc3 => ?_)
      · refine lv_iload_n hx hb dK_field_37 rfl (lv_at hl 3 rfl) ?_
        have good : (o9 = 0 ∨ o9 = 1) → W p l e (zRx (8) 4 24) s m ([.ref (ad 0), .int q, .int v, .int o9] : List Value).toArray below meth c H locs (0) (0) Q (F0 m 56 ls []) := by
          intro ho
          have hfv : zfv q v o9 := ⟨hq, hc2, hc3, ho⟩
          obtain ⟨P', n', o', rfl, rfl, rfl, hcf, hp1, hp2⟩ := zfv_ok hfv
          have hn4 := hcf.2.1
          refine lv_aload_n hx hb dK_field_56 rfl (lv_at hl 0 rfl) ?_
          refine zw_get (v := .ref (ad 1)) hx hb hT uK hown Z h0 rfl 0 (by decide) (hT _ mf_K_10) (fun _ h9 => h9) rfl dK_field_57 ?_
          refine lv_iload_n hx hb dK_field_60 rfl (lv_at hl 1 rfl) ?_
          refine lv_iload_n hx hb dK_field_61 rfl (lv_at hl 2 rfl) ?_
          refine lv_iload_n hx hb dK_field_62 rfl (lv_at hl 3 rfl) ?_
          refine zw_callv (va_runV (As := [.int (nI P'), .int (nI n'), .int (nI o')]) (rest := []) ⟨hx, hb, hml, hown, hts⟩ (c_R_prepare l P' n' o' hXh hE.1.shp hp1 hp2 hcf) (kw_R_prepare hts ml_K_16 (zRm_fit (by omega) (by omega))) (Z.preV hE.1.1 rfl _) rfl rfl hl.1 rfl (lv_room (Nat.le_of_ble_eq_true rfl)) dK_field_63 ⟨Nat.le_of_ble_eq_true rfl, Nat.le_of_ble_eq_true rfl⟩) Z (fun w1 H locs hp Z => ?_)
          obtain ⟨⟨F', hR1⟩, hz1⟩ := hp
          have hE1 := hE.prep hR1 hz1
          refine lv_iconst (v := 0) hx hb dK_field_66 (by decide) ?_
          refine lv_istore (lv' := [(4, .int 0), (0, .ref (ad 0)), (1, .int (nI P')), (2, .int (nI n')), (3, .int (nI o'))]) hx hb dK_field_67 hl (by decide) rfl (fun ls hl => ?_)
          have loop : ∀ (d j : Nat) (wA : Nat → Option va_E) (H : Heap) (locs : List Loc) (ls : Array Slot), d + j = 8 → zRdr G ad wA P' n' o' F' FE T len → (∀ k, k < j → wA (20 + k) = some (zrow G (fun _ => 0))) → (∀ k, ¬ (20 ≤ k ∧ k < 28) → wA k = w1 k) → zw G ad wA s H locs → lv_has ls 5 [(4, .int (nI j)), (0, .ref (ad 0)), (1, .int (nI P')), (2, .int (nI n')), (3, .int (nI o'))] → W p l e (zRx (8) 4 24) s m ([.ref (ad 0), .int (nI P'), .int (nI n'), .int (nI o')] : List Value).toArray below meth c H locs (0) (0) Q (F0 m 69 ls []) := by
            intro d
            induction d with
            | zero =>
              intro j wA H locs ls hdj hEA hz hfr Z hl
              have hj8 : j = 8 := by omega
              subst hj8
              have g0 : wA 0 = some (oK ad (fun _ => 0)) := by rw [hfr 0 (by omega), hz1 0 (by omega)]; exact h0
              have g14 : wA 14 = some (zq G 8 (fun k => some (ad (20 + k)))) := by rw [hfr 14 (by omega), hz1 14 (by omega)]; exact h14
              have hprA : zPrn G ad wA out := hpr.cong (by rw [hfr 3 (by omega), hz1 3 (by omega)]) (by rw [hfr 13 (by omega), hz1 13 (by omega)])
              obtain ⟨FPA, pA, gA3, -⟩ := id hprA
              refine lv_iload hx hb dK_field_69 (lv_at hl 0 rfl) ?_
              refine lv_bipush (v := 8) hx hb dK_field_71 (by decide) ?_
              refine lv_icmp_ge (tgt := 93) hx hb dK_field_73 (by decide) (fun _ => ?_) (fun hc => absurd (show (8 : Int32) ≤ (nI 8) from by decide) hc)
              refine lv_aload_n hx hb dK_field_93 rfl (lv_at hl 1 rfl) ?_
              refine zw_get (v := .ref (ad 3)) hx hb hT uK hown Z g0 rfl 2 (by decide) (hT _ mf_K_32) (fun _ h9 => h9) rfl dK_field_94 ?_
              refine zw_callv (va_runV (As := []) (rest := []) ⟨hx, hb, hml, hown, hts⟩ (c_P_clear l out hprA) (kw_P_clear hts ml_K_66 (zRm_fit (by omega) (by omega))) (Z.preV gA3 rfl _) rfl rfl hl.1 rfl (lv_room (Nat.le_of_ble_eq_true rfl)) dK_field_97 ⟨Nat.le_of_ble_eq_true rfl, Nat.le_of_ble_eq_true rfl⟩) Z (fun wB H locs hp Z => ?_)
              obtain ⟨hprB, hzB⟩ := hp
              have hDA : zDk G ad wA P' n' o' (fun _ _ => 0) T len flt pl out := ⟨F', FE, hEA, hf4, hf5, g0, g14, ⟨gn, by rw [hfr 15 (by omega), hz1 15 (by omega)]; exact h15⟩, hprA, fun k hk => ⟨hz k hk, zpol_0 n' (by omega)⟩⟩
              exact hret _ _ _ _ _ _ _ dK_field_100 (⟨hfv, P', n', o', ⟨rfl, rfl, rfl⟩, hcf, ⟨hp1, hp2⟩, hDA.outp hprB hzB, fun k hk => by rw [hzB k (by omega) (by omega), hfr k (by omega), hz1 k (by omega)]⟩) Z (Nat.le_of_ble_eq_true rfl) (Nat.le_of_ble_eq_true rfl)
            | succ d ih =>
              intro j wA H locs ls hdj hEA hz hfr Z hl
              have g0 : wA 0 = some (oK ad (fun _ => 0)) := by rw [hfr 0 (by omega), hz1 0 (by omega)]; exact h0
              have g14 : wA 14 = some (zq G 8 (fun k => some (ad (20 + k)))) := by rw [hfr 14 (by omega), hz1 14 (by omega)]; exact h14
              obtain ⟨gj, hgj⟩ := hEA.2.2.2.2.2.2.2.2 (20 + j) (by omega) (by omega)
              refine lv_iload hx hb dK_field_69 (lv_at hl 0 rfl) ?_
              refine lv_bipush (v := 8) hx hb dK_field_71 (by decide) ?_
              refine lv_icmp_ge (tgt := 93) hx hb dK_field_73 (by decide) (fun hc => absurd hc (show ¬ ((8 : Int32) ≤ (nI j)) from nI_ge (b := 8) (by omega) (by decide))) (fun _ => ?_)
              refine lv_aload_n hx hb dK_field_76 rfl (lv_at hl 1 rfl) ?_
              refine zw_get (v := .ref (ad 14)) hx hb hT uK hown Z g0 rfl 3 (by decide) (hT _ mf_K_38) (fun _ h9 => h9) rfl dK_field_77 ?_
              refine lv_iload hx hb dK_field_80 (lv_at hl 0 rfl) ?_
              refine zw_aald (v := .ref (ad (20 + j))) hx hb Z g14 (vin (show j < 8 by omega) (by decide)) (by rw [ncl (by omega)]; rfl) dK_field_82 ?_
              refine lv_iconst (v := 0) hx hb dK_field_83 (by decide) ?_
              refine zw_callv (va_runS (As := [.ref (ad (20 + j)), .int 0]) (rest := []) ⟨hx, hb, hml, hown, hts⟩ (c_J_fill l (20 + j) 126 gj 0 hgj (by decide)) (kw_J_fill hts ml_K_60 (zRm_fit (by omega) (by omega))) (Z.preS _) rfl rfl hl.1 rfl (lv_room (Nat.le_of_ble_eq_true rfl)) dK_field_84 ⟨Nat.le_of_ble_eq_true rfl, Nat.le_of_ble_eq_true rfl⟩) Z (fun wB H locs hp Z => ?_)
              subst hp
              refine lv_iinc (v := (nI (j + 1))) (lv' := [(4, .int (nI (j + 1))), (0, .ref (ad 0)), (1, .int (nI P')), (2, .int (nI n')), (3, .int (nI o'))]) hx hb dK_field_87 hl (k := 0) rfl (nI_1 j) (by decide) rfl (fun ls hl => ?_)
              refine lv_goto (tgt := 69) hx hb dK_field_90 (by decide) ?_
              exact ih (j + 1) _ _ _ ls (by omega) (hEA.row (by omega) (by omega)) (fun k hk => by
                by_cases e9 : k = j
                · subst e9; exact va_up_self _ _ _
                · rw [va_up_ne _ _ (by omega)]; exact hz k (by omega)) (fun k hk => by rw [va_up_ne _ _ (by omega)]; exact hfr k hk) Z (lv_sub hl [0, 1, 2, 3, 4] rfl)
          exact loop 8 0 w1 _ _ ls (by omega) hE1 (fun k hk => absurd hk (by omega)) (fun _ _ => rfl) Z (lv_sub hl [0, 1, 2, 3, 4] rfl)
        refine lv_if_eq (tgt := 56) hx hb dK_field_38 (by decide) (fun hc4 => ?_) (fun hc4 => ?_)
        · exact good (Or.inl hc4)
        · refine lv_iload_n hx hb dK_field_41 rfl (lv_at hl 3 rfl) ?_
          refine lv_iconst (v := 1) hx hb dK_field_42 (by decide) ?_
          refine lv_icmp_eq (tgt := 56) hx hb dK_field_43 (by decide) (fun hc5 => ?_) (fun hc5 => ?_)
          · exact good (Or.inr hc5)
          · exact zw_throwS (text := "no such order") hx hb hnt hown zt_IA_f (hT _ mc_K_49) (hT _ mn_IllegalArgumentException) (fun w h => hT w (zt_IA_g w h)) zt_IA_n zt_IA_o hthr (by decide) Z (hl.1.trans hml.symm) dK_field_46 dK_field_49 dK_field_50 dK_field_52 dK_field_55 hno (Nat.le_of_ble_eq_true rfl) (Nat.le_of_ble_eq_true rfl) (Nat.le_of_ble_eq_true rfl) (Nat.le_of_ble_eq_true rfl) hlk hQ (⟨rfl, fun h9 => h9.2.2.2.elim hc4 hc5, rfl⟩) (Nat.le_of_ble_eq_true rfl) (Nat.le_of_ble_eq_true rfl)
      · exact badn (fun h9 => hc3 h9.2)
  · exact zw_throwS (text := "no prime up to 32003") hx hb hnt hown zt_IA_f (hT _ mc_K_49) (hT _ mn_IllegalArgumentException) (fun w h => hT w (zt_IA_g w h)) zt_IA_n zt_IA_o hthr (by decide) Z (hl.1.trans hml.symm) dK_field_7 dK_field_10 dK_field_11 dK_field_13 dK_field_16 hno (Nat.le_of_ble_eq_true rfl) (Nat.le_of_ble_eq_true rfl) (Nat.le_of_ble_eq_true rfl) (Nat.le_of_ble_eq_true rfl) hlk hQ (⟨rfl, fun h9 => zb_nt (zb_f hc) h9.1, rfl⟩) (Nat.le_of_ble_eq_true rfl) (Nat.le_of_ble_eq_true rfl)
