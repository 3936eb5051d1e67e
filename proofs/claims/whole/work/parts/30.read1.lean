set_option maxHeartbeats 4000000 in
set_option maxRecDepth 100000 in
theorem c_E_isSign (l : Launch) {G : zG} {ad : Nat → Nat} {w : Nat → Option va_E} (x : Int32) : Met l yE_isSign wE_isSign (zR (1)) (va_Pc [.int x] (zw_U G ad w)) (va_Qi (S := Nat → Option va_E) (fun r w' => r = zb (decide (x = 43 ∨ x = 45)) ∧ w' = w) (fun u t => zw_U G ((fun _ => ad) u) ((fun w' => w') u) t) (zA G)) 0 0 (zA G) := by
  refine zw_methz (S := Nat → Option va_E) (fa := fun _ => ad) (fw := fun w' => w') (by decide) rfl (Nat.le_of_ble_eq_true rfl) (fun r u h => by rw [h.1]; exact zb_nar _) ?_
  intro p e s m below meth c Q ls C hname Z hl hret
  obtain ⟨hx, hb, hml, hown, hts, hlk⟩ := C
  have hT : ∀ w ∈ zT, w.before ([.int x] : List Value).toArray s = true := fun w h => hts w (List.mem_cons_of_mem _ h)
  have hown : s.vm.findClass "PolynomialDesk$Reader" = some m.cls := hown
  have hl : lv_has ls 1 [(0, .int x)] := hl
  refine lv_iload_n hx hb dE_isSign_0 rfl (lv_at hl 0 rfl) ?_
  refine lv_bipush (v := 43) hx hb dE_isSign_1 (by decide) ?_
  refine lv_icmp_eq (tgt := 12) hx hb dE_isSign_3 (by decide) (fun hc => ?_) (fun hc => ?_)
  · refine lv_iconst (v := 1) hx hb dE_isSign_12 (by decide) ?_
    refine lv_goto (tgt := 17) hx hb dE_isSign_13 (by decide) ?_
    exact hret _ _ _ _ _ _ dE_isSign_17 (⟨by rw [decide_eq_true (Or.inl hc)]; rfl, rfl⟩) Z
  · refine lv_iload_n hx hb dE_isSign_6 rfl (lv_at hl 0 rfl) ?_
    refine lv_bipush (v := 45) hx hb dE_isSign_7 (by decide) ?_
    refine lv_icmp_ne (tgt := 16) hx hb dE_isSign_9 (by decide) (fun hc2 => ?_) (fun hc2 => ?_)
    · refine lv_iconst (v := 0) hx hb dE_isSign_16 (by decide) ?_
      exact hret _ _ _ _ _ _ dE_isSign_17 (⟨by rw [decide_eq_false (by intro h9; rcases h9 with h9 | h9; exact hc h9; exact hc2 h9)]; rfl, rfl⟩) Z
    · refine lv_iconst (v := 1) hx hb dE_isSign_12 (by decide) ?_
      refine lv_goto (tgt := 17) hx hb dE_isSign_13 (by decide) ?_
      exact hret _ _ _ _ _ _ dE_isSign_17 (⟨by rw [decide_eq_true (Or.inr hc2)]; rfl, rfl⟩) Z

set_option maxHeartbeats 4000000 in
set_option maxRecDepth 100000 in
theorem c_E_isDigit (l : Launch) {G : zG} {ad : Nat → Nat} {w : Nat → Option va_E} (x : Int32) : Met l yE_isDigit wE_isDigit (zR (1)) (va_Pc [.int x] (zw_U G ad w)) (va_Qi (S := Nat → Option va_E) (fun r w' => r = zb (zisd x) ∧ w' = w) (fun u t => zw_U G ((fun _ => ad) u) ((fun w' => w') u) t) (zA G)) 0 0 (zA G) := by
  refine zw_methz (S := Nat → Option va_E) (fa := fun _ => ad) (fw := fun w' => w') (by decide) rfl (Nat.le_of_ble_eq_true rfl) (fun r u h => by rw [h.1]; exact zb_nar _) ?_
  intro p e s m below meth c Q ls C hname Z hl hret
  obtain ⟨hx, hb, hml, hown, hts, hlk⟩ := C
  have hT : ∀ w ∈ zT, w.before ([.int x] : List Value).toArray s = true := fun w h => hts w (List.mem_cons_of_mem _ h)
  have hown : s.vm.findClass "PolynomialDesk$Reader" = some m.cls := hown
  have hl : lv_has ls 1 [(0, .int x)] := hl
  refine lv_iload_n hx hb dE_isDigit_0 rfl (lv_at hl 0 rfl) ?_
  refine lv_bipush (v := 48) hx hb dE_isDigit_1 (by decide) ?_
  refine lv_icmp_lt (tgt := 16) hx hb dE_isDigit_3 (by decide) (fun hc => ?_) (fun hc => ?_)
  · refine lv_iconst (v := 0) hx hb dE_isDigit_16 (by decide) ?_
    exact hret _ _ _ _ _ _ dE_isDigit_17 (⟨by rw [zisd, decide_eq_false (Int32.not_le.mpr hc)]; rfl, rfl⟩) Z
  · refine lv_iload_n hx hb dE_isDigit_6 rfl (lv_at hl 0 rfl) ?_
    refine lv_bipush (v := 57) hx hb dE_isDigit_7 (by decide) ?_
    refine lv_icmp_gt (tgt := 16) hx hb dE_isDigit_9 (by decide) (fun hc2 => ?_) (fun hc2 => ?_)
    · refine lv_iconst (v := 0) hx hb dE_isDigit_16 (by decide) ?_
      exact hret _ _ _ _ _ _ dE_isDigit_17 (⟨by rw [zisd, decide_eq_false (p := x ≤ 57) (Int32.not_le.mpr hc2), Bool.and_false]; rfl, rfl⟩) Z
    · refine lv_iconst (v := 1) hx hb dE_isDigit_12 (by decide) ?_
      refine lv_goto (tgt := 17) hx hb dE_isDigit_13 (by decide) ?_
      exact hret _ _ _ _ _ _ dE_isDigit_17 (⟨by rw [zisd, decide_eq_true (Int32.not_lt.mp hc), decide_eq_true (Int32.not_lt.mp hc2)]; rfl, rfl⟩) Z

set_option maxHeartbeats 4000000 in
set_option maxRecDepth 100000 in
theorem c_M_isDigit (l : Launch) {G : zG} {ad : Nat → Nat} {w : Nat → Option va_E} (x : Int32) : Met l yM_isDigit wM_isDigit (zR (1)) (va_Pc [.int x] (zw_U G ad w)) (va_Qi (S := Nat → Option va_E) (fun r w' => r = zb (zisd x) ∧ w' = w) (fun u t => zw_U G ((fun _ => ad) u) ((fun w' => w') u) t) (zA G)) 0 0 (zA G) := by
  refine zw_methz (S := Nat → Option va_E) (fa := fun _ => ad) (fw := fun w' => w') (by decide) rfl (Nat.le_of_ble_eq_true rfl) (fun r u h => by rw [h.1]; exact zb_nar _) ?_
  intro p e s m below meth c Q ls C hname Z hl hret
  obtain ⟨hx, hb, hml, hown, hts, hlk⟩ := C
  have hT : ∀ w ∈ zT, w.before ([.int x] : List Value).toArray s = true := fun w h => hts w (List.mem_cons_of_mem _ h)
  have hown : s.vm.findClass "PolynomialDeskModel" = some m.cls := hown
  have hl : lv_has ls 1 [(0, .int x)] := hl
  refine lv_iload_n hx hb dM_isDigit_0 rfl (lv_at hl 0 rfl) ?_
  refine lv_bipush (v := 48) hx hb dM_isDigit_1 (by decide) ?_
  refine lv_icmp_lt (tgt := 16) hx hb dM_isDigit_3 (by decide) (fun hc => ?_) (fun hc => ?_)
  · refine lv_iconst (v := 0) hx hb dM_isDigit_16 (by decide) ?_
    exact hret _ _ _ _ _ _ dM_isDigit_17 (⟨by rw [zisd, decide_eq_false (Int32.not_le.mpr hc)]; rfl, rfl⟩) Z
  · refine lv_iload_n hx hb dM_isDigit_6 rfl (lv_at hl 0 rfl) ?_
    refine lv_bipush (v := 57) hx hb dM_isDigit_7 (by decide) ?_
    refine lv_icmp_gt (tgt := 16) hx hb dM_isDigit_9 (by decide) (fun hc2 => ?_) (fun hc2 => ?_)
    · refine lv_iconst (v := 0) hx hb dM_isDigit_16 (by decide) ?_
      exact hret _ _ _ _ _ _ dM_isDigit_17 (⟨by rw [zisd, decide_eq_false (p := x ≤ 57) (Int32.not_le.mpr hc2), Bool.and_false]; rfl, rfl⟩) Z
    · refine lv_iconst (v := 1) hx hb dM_isDigit_12 (by decide) ?_
      refine lv_goto (tgt := 17) hx hb dM_isDigit_13 (by decide) ?_
      exact hret _ _ _ _ _ _ dM_isDigit_17 (⟨by rw [zisd, decide_eq_true (Int32.not_lt.mp hc), decide_eq_true (Int32.not_lt.mp hc2)]; rfl, rfl⟩) Z

def zvo (x : Int32) : Int32 := if zvar x < 4 then nI (zvar x) else -1
theorem zvo_mid {x : Int32} (h1 : ¬ x < 120) (h2 : ¬ 122 < x) : x - 120 = zvo x := by
  have a : 120 ≤ x.toInt := by
    have := Int32.le_iff_toInt_le.mp (Int32.not_lt.mp h1)
    simpa using this
  have b : x.toInt ≤ 122 := by
    have := Int32.le_iff_toInt_le.mp (Int32.not_lt.mp h2)
    simpa using this
  have c : x.toInt = 120 ∨ x.toInt = 121 ∨ x.toInt = 122 := by omega
  rcases c with c | c | c
  · rw [show x = 120 from Int32.toInt_inj.mp (by rw [c]; decide)]; decide
  · rw [show x = 121 from Int32.toInt_inj.mp (by rw [c]; decide)]; decide
  · rw [show x = 122 from Int32.toInt_inj.mp (by rw [c]; decide)]; decide
theorem zvo_out {x : Int32} (h0 : ¬ x = 119) (h : x < 120 ∨ 122 < x) : (-1 : Int32) = zvo x := by
  have e0 : ¬ x = 120 := fun e => by rw [e] at h; revert h; decide
  have e1 : ¬ x = 121 := fun e => by rw [e] at h; revert h; decide
  have e2 : ¬ x = 122 := fun e => by rw [e] at h; revert h; decide
  unfold zvo zvar
  rw [if_neg e0, if_neg e1, if_neg e2, if_neg h0]
  rfl

set_option maxHeartbeats 4000000 in
set_option maxRecDepth 100000 in
theorem c_E_variableOf (l : Launch) {G : zG} {ad : Nat → Nat} {w : Nat → Option va_E} (x : Int32) : Met l yE_variableOf wE_variableOf (zR (1)) (va_Pc [.int x] (zw_U G ad w)) (va_Qi (S := Nat → Option va_E) (fun r w' => r = zvo x ∧ w' = w) (fun u t => zw_U G ((fun _ => ad) u) ((fun w' => w') u) t) (zA G)) 0 0 (zA G) := by
  refine zw_methi (S := Nat → Option va_E) (fa := fun _ => ad) (fw := fun w' => w') (by decide) rfl (Nat.le_of_ble_eq_true rfl) ?_
  intro p e s m below meth c Q ls C hname Z hl hret
  obtain ⟨hx, hb, hml, hown, hts, hlk⟩ := C
  have hT : ∀ w ∈ zT, w.before ([.int x] : List Value).toArray s = true := fun w h => hts w (List.mem_cons_of_mem _ h)
  have hown : s.vm.findClass "PolynomialDesk$Reader" = some m.cls := hown
  have hl : lv_has ls 1 [(0, .int x)] := hl
  refine lv_iload_n hx hb dE_variableOf_0 rfl (lv_at hl 0 rfl) ?_
  refine lv_bipush (v := 119) hx hb dE_variableOf_1 (by decide) ?_
  refine lv_icmp_ne (tgt := 8) hx hb dE_variableOf_3 (by decide) (fun hc => ?_) (fun hc => ?_)
  · refine lv_iload_n hx hb dE_variableOf_8 rfl (lv_at hl 0 rfl) ?_
    refine lv_bipush (v := 120) hx hb dE_variableOf_9 (by decide) ?_
    refine lv_icmp_lt (tgt := 27) hx hb dE_variableOf_11 (by decide) (fun hc2 => ?_) (fun hc2 => ?_)
    · refine lv_iconst (v := (-1)) hx hb dE_variableOf_27 (by decide) ?_
      exact hret _ _ _ _ _ _ dE_variableOf_28 (⟨zvo_out hc (Or.inl hc2), rfl⟩) Z
    · refine lv_iload_n hx hb dE_variableOf_14 rfl (lv_at hl 0 rfl) ?_
      refine lv_bipush (v := 122) hx hb dE_variableOf_15 (by decide) ?_
      refine lv_icmp_gt (tgt := 27) hx hb dE_variableOf_17 (by decide) (fun hc3 => ?_) (fun hc3 => ?_)
      · refine lv_iconst (v := (-1)) hx hb dE_variableOf_27 (by decide) ?_
        exact hret _ _ _ _ _ _ dE_variableOf_28 (⟨zvo_out hc (Or.inr hc3), rfl⟩) Z
      · refine lv_iload_n hx hb dE_variableOf_20 rfl (lv_at hl 0 rfl) ?_
        refine lv_bipush (v := 120) hx hb dE_variableOf_21 (by decide) ?_
        refine lv_isub hx hb dE_variableOf_23 ?_
        refine lv_goto (tgt := 28) hx hb dE_variableOf_24 (by decide) ?_
        exact hret _ _ _ _ _ _ dE_variableOf_28 (⟨zvo_mid hc2 hc3, rfl⟩) Z
  · refine lv_iconst (v := 3) hx hb dE_variableOf_6 (by decide) ?_
    exact hret _ _ _ _ _ _ dE_variableOf_7 (⟨by rw [hc]; decide, rfl⟩) Z

set_option maxHeartbeats 4000000 in
set_option maxRecDepth 100000 in
theorem c_E_latestFault (l : Launch) {G : zG} {ad : Nat → Nat} {w : Nat → Option va_E} (FE : Nat → Int32) (h2 : w 2 = some (oE ad FE)) : Met l yE_latestFault wE_latestFault (zR (1)) (va_Pc [.ref (ad 2)] (zw_U G ad w)) (va_Qi (S := Nat → Option va_E) (fun r w' => r = FE 4 ∧ w' = w) (fun u t => zw_U G ((fun _ => ad) u) ((fun w' => w') u) t) (zA G)) 0 0 (zA G) := by
  refine zw_methi (S := Nat → Option va_E) (fa := fun _ => ad) (fw := fun w' => w') (by decide) rfl (Nat.le_of_ble_eq_true rfl) ?_
  intro p e s m below meth c Q ls C hname Z hl hret
  obtain ⟨hx, hb, hml, hown, hts, hlk⟩ := C
  have hT : ∀ w ∈ zT, w.before ([.ref (ad 2)] : List Value).toArray s = true := fun w h => hts w (List.mem_cons_of_mem _ h)
  have hown : s.vm.findClass "PolynomialDesk$Reader" = some m.cls := hown
  have hl : lv_has ls 1 [(0, .ref (ad 2))] := hl
  refine lv_aload_n hx hb dE_latestFault_0 rfl (lv_at hl 0 rfl) ?_
  refine zw_get (v := .int (FE 4)) hx hb hT uE hown Z h2 rfl 4 (by decide) (hT _ mf_E_42) (fun _ h9 => h9) rfl dE_latestFault_1 ?_
  exact hret _ _ _ _ _ _ dE_latestFault_4 (⟨rfl, rfl⟩) Z

set_option maxHeartbeats 4000000 in
set_option maxRecDepth 100000 in
theorem c_E_latestPlace (l : Launch) {G : zG} {ad : Nat → Nat} {w : Nat → Option va_E} (FE : Nat → Int32) (h2 : w 2 = some (oE ad FE)) : Met l yE_latestPlace wE_latestPlace (zR (1)) (va_Pc [.ref (ad 2)] (zw_U G ad w)) (va_Qi (S := Nat → Option va_E) (fun r w' => r = FE 5 ∧ w' = w) (fun u t => zw_U G ((fun _ => ad) u) ((fun w' => w') u) t) (zA G)) 0 0 (zA G) := by
  refine zw_methi (S := Nat → Option va_E) (fa := fun _ => ad) (fw := fun w' => w') (by decide) rfl (Nat.le_of_ble_eq_true rfl) ?_
  intro p e s m below meth c Q ls C hname Z hl hret
  obtain ⟨hx, hb, hml, hown, hts, hlk⟩ := C
  have hT : ∀ w ∈ zT, w.before ([.ref (ad 2)] : List Value).toArray s = true := fun w h => hts w (List.mem_cons_of_mem _ h)
  have hown : s.vm.findClass "PolynomialDesk$Reader" = some m.cls := hown
  have hl : lv_has ls 1 [(0, .ref (ad 2))] := hl
  refine lv_aload_n hx hb dE_latestPlace_0 rfl (lv_at hl 0 rfl) ?_
  refine zw_get (v := .int (FE 5)) hx hb hT uE hown Z h2 rfl 5 (by decide) (hT _ mf_E_19) (fun _ h9 => h9) rfl dE_latestPlace_1 ?_
  exact hret _ _ _ _ _ _ dE_latestPlace_4 (⟨rfl, rfl⟩) Z

set_option maxHeartbeats 4000000 in
set_option maxRecDepth 100000 in
theorem c_E_noteFault (l : Launch) {G : zG} {ad : Nat → Nat} {w : Nat → Option va_E} (FE : Nat → Int32) (h2 : w 2 = some (oE ad FE)) (k q : Int32) : Met l yE_noteFault wE_noteFault (zR (1)) (va_Pc [.ref (ad 2), .int k, .int q] (zw_U G ad w)) (va_Qv (S := Nat → Option va_E) (fun w' => w' = va_up w 2 (some (oE ad (upd (upd FE 4 k) 5 q)))) (fun u t => zw_U G ((fun _ => ad) u) ((fun w' => w') u) t) (zA G)) 0 0 (zA G) := by
  refine zw_methv (S := Nat → Option va_E) (fa := fun _ => ad) (fw := fun w' => w') (by decide) rfl (Nat.le_of_ble_eq_true rfl) ?_
  intro p e s m below meth c Q ls C hname Z hl hret
  obtain ⟨hx, hb, hml, hown, hts, hlk⟩ := C
  have hT : ∀ w ∈ zT, w.before ([.ref (ad 2), .int k, .int q] : List Value).toArray s = true := fun w h => hts w (List.mem_cons_of_mem _ h)
  have hown : s.vm.findClass "PolynomialDesk$Reader" = some m.cls := hown
  have hl : lv_has ls 3 [(0, .ref (ad 2)), (1, .int k), (2, .int q)] := hl
  refine lv_aload_n hx hb dE_noteFault_0 rfl (lv_at hl 0 rfl) ?_
  refine lv_iload_n hx hb dE_noteFault_1 rfl (lv_at hl 1 rfl) ?_
  refine zw_put (v := .int k) hx hb hT uE hown tE tE_ok nE Z h2 rfl 4 (by decide) (hT _ mf_E_42) (fun _ h9 => h9) rfl rfl rfl (by simp) dE_noteFault_2 (fun H locs Z => ?_)
  have Z : zw G ad (va_up w 2 (some (oE ad (upd FE 4 k)))) s H locs := Z
  refine lv_aload_n hx hb dE_noteFault_5 rfl (lv_at hl 0 rfl) ?_
  refine lv_iload_n hx hb dE_noteFault_6 rfl (lv_at hl 2 rfl) ?_
  refine zw_put (v := .int q) hx hb hT uE hown tE tE_ok nE Z (va_up_self _ _ _) rfl 5 (by decide) (hT _ mf_E_19) (fun _ h9 => h9) rfl rfl rfl (by simp) dE_noteFault_7 (fun H locs Z => ?_)
  have Z : zw G ad (va_up (va_up w 2 (some (oE ad (upd FE 4 k)))) 2 (some (oE ad (upd (upd FE 4 k) 5 q)))) s H locs := Z
  rw [bx_uu] at Z
  exact hret _ _ _ _ _ dE_noteFault_10 (rfl) Z

set_option maxHeartbeats 4000000 in
set_option maxRecDepth 100000 in
theorem c_E_nextByte (l : Launch) {G : zG} {ad : Nat → Nat} {w : Nat → Option va_E} (P n o : Nat) (FR FE : Nat → Int32) (T : Nat → Nat) (len : Nat) (hE : zRdr G ad w P n o FR FE T len) (p9 : Nat) (hat : FE 3 = nI p9) (hp : p9 ≤ len) : Met l yE_nextByte wE_nextByte (zR (1)) (va_Pc [.ref (ad 2)] (zw_U G ad w)) (va_Qi (S := Nat → Option va_E) (fun r w' => r = zch T len (zsp T len p9) ∧ w' = va_up w 2 (some (oE ad (upd FE 3 (nI (zsp T len p9)))))) (fun u t => zw_U G ((fun _ => ad) u) ((fun w' => w') u) t) (zA G)) 0 0 (zA G) := by
  refine zw_methi (S := Nat → Option va_E) (fa := fun _ => ad) (fw := fun w' => w') (by decide) rfl (Nat.le_of_ble_eq_true rfl) ?_
  intro p e s m below meth c Q ls C hname Z hl hret
  obtain ⟨hx, hb, hml, hown, hts, hlk⟩ := C
  have hT : ∀ w ∈ zT, w.before ([.ref (ad 2)] : List Value).toArray s = true := fun w h => hts w (List.mem_cons_of_mem _ h)
  have hown : s.vm.findClass "PolynomialDesk$Reader" = some m.cls := hown
  have hl : lv_has ls 1 [(0, .ref (ad 2))] := hl
  obtain ⟨hR, h2, ⟨tx, h10, htx⟩, hTb, hlen, hFl, h11, h12, hrows⟩ := id hE
  have loop : ∀ (k q : Nat) (H : Heap) (locs : List Loc) (ls : Array Slot), q + k = len → zsp T len q = zsp T len p9 → zw G ad (va_up w 2 (some (oE ad (upd FE 3 (nI (q)))))) s H locs → lv_has ls 1 [(0, .ref (ad 2))] → W p l e (zR (1)) s m ([.ref (ad 2)] : List Value).toArray below meth c H locs 0 0 Q (F0 m 0 ls []) := by
    intro k
    induction k with
    | zero =>
      intro q H locs ls hq hz Z hl
      have g10 : (va_up w 2 (some (oE ad (upd FE 3 (nI (q)))))) 10 = some (zc G 200 tx) := by rw [va_up_ne _ _ (by decide)]; exact h10
      refine lv_aload_n hx hb dE_nextByte_0 rfl (lv_at hl 0 rfl) ?_
      refine zw_get (v := .int ((upd FE 3 (nI q)) 3)) hx hb hT uE hown Z (va_up_self _ _ _) rfl 3 (by decide) (hT _ mf_E_45) (fun _ h9 => h9) rfl dE_nextByte_1 ?_
      refine zw_top (nI q) (rfl) ?_
      refine lv_aload_n hx hb dE_nextByte_4 rfl (lv_at hl 0 rfl) ?_
      refine zw_get (v := .int ((upd FE 3 (nI q)) 2)) hx hb hT uE hown Z (va_up_self _ _ _) rfl 2 (by decide) (hT _ mf_E_37) (fun _ h9 => h9) rfl dE_nextByte_5 ?_
      refine zw_top (nI len) (hFl) ?_
      refine lv_icmp_ge (tgt := 38) hx hb dE_nextByte_8 (by decide) (fun _ => ?_) (fun hc => absurd (show (nI len) ≤ (nI q) from nI_le (by omega) (by omega)) hc)
      refine lv_aload_n hx hb dE_nextByte_38 rfl (lv_at hl 0 rfl) ?_
      refine zw_get (v := .int ((upd FE 3 (nI q)) 3)) hx hb hT uE hown Z (va_up_self _ _ _) rfl 3 (by decide) (hT _ mf_E_45) (fun _ h9 => h9) rfl dE_nextByte_39 ?_
      refine zw_top (nI q) (rfl) ?_
      refine lv_aload_n hx hb dE_nextByte_42 rfl (lv_at hl 0 rfl) ?_
      refine zw_get (v := .int ((upd FE 3 (nI q)) 2)) hx hb hT uE hown Z (va_up_self _ _ _) rfl 2 (by decide) (hT _ mf_E_37) (fun _ h9 => h9) rfl dE_nextByte_43 ?_
      refine zw_top (nI len) (hFl) ?_
      refine lv_icmp_ge (tgt := 61) hx hb dE_nextByte_46 (by decide) (fun _ => ?_) (fun hc => absurd (show (nI len) ≤ (nI q) from nI_le (by omega) (by omega)) hc)
      have hz2 : zsp T len q = q := zsp_fix (by omega)
      refine lv_iconst (v := (-1)) hx hb dE_nextByte_61 (by decide) ?_
      exact hret _ _ _ _ _ _ dE_nextByte_62 (⟨by rw [← hz, hz2, zch, if_neg (by omega)], by rw [← hz, hz2]⟩) Z
    | succ k ih =>
      intro q H locs ls hq hz Z hl
      have g10 : (va_up w 2 (some (oE ad (upd FE 3 (nI (q)))))) 10 = some (zc G 200 tx) := by rw [va_up_ne _ _ (by decide)]; exact h10
      refine lv_aload_n hx hb dE_nextByte_0 rfl (lv_at hl 0 rfl) ?_
      refine zw_get (v := .int ((upd FE 3 (nI q)) 3)) hx hb hT uE hown Z (va_up_self _ _ _) rfl 3 (by decide) (hT _ mf_E_45) (fun _ h9 => h9) rfl dE_nextByte_1 ?_
      refine zw_top (nI q) (rfl) ?_
      refine lv_aload_n hx hb dE_nextByte_4 rfl (lv_at hl 0 rfl) ?_
      refine zw_get (v := .int ((upd FE 3 (nI q)) 2)) hx hb hT uE hown Z (va_up_self _ _ _) rfl 2 (by decide) (hT _ mf_E_37) (fun _ h9 => h9) rfl dE_nextByte_5 ?_
      refine zw_top (nI len) (hFl) ?_
      refine lv_icmp_ge (tgt := 38) hx hb dE_nextByte_8 (by decide) (fun hc => absurd hc (show ¬ ((nI len) ≤ (nI q)) from nI_ge (by omega) (by omega))) (fun _ => ?_)
      refine lv_aload_n hx hb dE_nextByte_11 rfl (lv_at hl 0 rfl) ?_
      refine zw_get (v := .ref (ad 10)) hx hb hT uE hown Z (va_up_self _ _ _) rfl 1 (by decide) (hT _ mf_E_15) (fun _ h9 => h9) rfl dE_nextByte_12 ?_
      refine lv_aload_n hx hb dE_nextByte_15 rfl (lv_at hl 0 rfl) ?_
      refine zw_get (v := .int ((upd FE 3 (nI q)) 3)) hx hb hT uE hown Z (va_up_self _ _ _) rfl 3 (by decide) (hT _ mf_E_45) (fun _ h9 => h9) rfl dE_nextByte_16 ?_
      refine zw_top (nI q) (rfl) ?_
      refine zw_cald hx hb Z g10 (vin (by omega) (by decide)) dE_nextByte_19 ?_
      refine zw_top (nI (T q)) (by rw [ncl (by omega)]; exact htx q (by omega)) ?_
      refine lv_bipush (v := 32) hx hb dE_nextByte_20 (by decide) ?_
      refine lv_icmp_ne (tgt := 38) hx hb dE_nextByte_22 (by decide) (fun hc => ?_) (fun hc => ?_)
      · have hz2 : zsp T len q = q := zsp_fix (fun h9 => hc (by rw [h9.2]; rfl))
        refine lv_aload_n hx hb dE_nextByte_38 rfl (lv_at hl 0 rfl) ?_
        refine zw_get (v := .int ((upd FE 3 (nI q)) 3)) hx hb hT uE hown Z (va_up_self _ _ _) rfl 3 (by decide) (hT _ mf_E_45) (fun _ h9 => h9) rfl dE_nextByte_39 ?_
        refine zw_top (nI q) (rfl) ?_
        refine lv_aload_n hx hb dE_nextByte_42 rfl (lv_at hl 0 rfl) ?_
        refine zw_get (v := .int ((upd FE 3 (nI q)) 2)) hx hb hT uE hown Z (va_up_self _ _ _) rfl 2 (by decide) (hT _ mf_E_37) (fun _ h9 => h9) rfl dE_nextByte_43 ?_
        refine zw_top (nI len) (hFl) ?_
        refine lv_icmp_ge (tgt := 61) hx hb dE_nextByte_46 (by decide) (fun hc => absurd hc (show ¬ ((nI len) ≤ (nI q)) from nI_ge (by omega) (by omega))) (fun _ => ?_)
        refine lv_aload_n hx hb dE_nextByte_49 rfl (lv_at hl 0 rfl) ?_
        refine zw_get (v := .ref (ad 10)) hx hb hT uE hown Z (va_up_self _ _ _) rfl 1 (by decide) (hT _ mf_E_15) (fun _ h9 => h9) rfl dE_nextByte_50 ?_
        refine lv_aload_n hx hb dE_nextByte_53 rfl (lv_at hl 0 rfl) ?_
        refine zw_get (v := .int ((upd FE 3 (nI q)) 3)) hx hb hT uE hown Z (va_up_self _ _ _) rfl 3 (by decide) (hT _ mf_E_45) (fun _ h9 => h9) rfl dE_nextByte_54 ?_
        refine zw_top (nI q) (rfl) ?_
        refine zw_cald hx hb Z g10 (vin (by omega) (by decide)) dE_nextByte_57 ?_
        refine zw_top (nI (T q)) (by rw [ncl (by omega)]; exact htx q (by omega)) ?_
        refine lv_goto (tgt := 62) hx hb dE_nextByte_58 (by decide) ?_
        exact hret _ _ _ _ _ _ dE_nextByte_62 (⟨by rw [← hz, hz2, zch, if_pos (by omega)], by rw [← hz, hz2]⟩) Z
      · have h32 : T q = 32 := (nI_eq (by have := hTb q; omega) (by decide)).mp (show nI (T q) = nI 32 from hc)
        refine lv_aload_n hx hb dE_nextByte_25 rfl (lv_at hl 0 rfl) ?_
        refine lv_dup hx hb dE_nextByte_26 rfl ?_
        refine zw_get (v := .int ((upd FE 3 (nI q)) 3)) hx hb hT uE hown Z (va_up_self _ _ _) rfl 3 (by decide) (hT _ mf_E_45) (fun _ h9 => h9) rfl dE_nextByte_27 ?_
        refine zw_top (nI q) (rfl) ?_
        refine lv_iconst (v := 1) hx hb dE_nextByte_30 (by decide) ?_
        refine lv_iadd hx hb dE_nextByte_31 ?_
        refine zw_top (nI (q + 1)) (nI_1 q) ?_
        refine zw_put (v := .int (nI (q + 1))) hx hb hT uE hown tE tE_ok nE Z (va_up_self _ _ _) rfl 3 (by decide) (hT _ mf_E_45) (fun _ h9 => h9) rfl rfl rfl (by simp) dE_nextByte_32 (fun H locs Z => ?_)
        have Z : zw G ad (va_up (va_up w 2 (some (oE ad (upd FE 3 (nI (q)))))) 2 (some (oE ad (upd (upd FE 3 (nI q)) 3 (nI (q + 1)))))) s H locs := Z
        rw [bx_uu, upd_upd] at Z
        refine lv_goto (tgt := 0) hx hb dE_nextByte_35 (by decide) ?_
        exact ih (q + 1) _ _ ls (by omega) (by rw [← zsp_step (by omega) h32]; exact hz) Z hl
  exact loop (len - p9) p9 _ _ ls (by omega) rfl (by rw [upd_same hat, up_same h2]; exact Z) hl

set_option maxHeartbeats 4000000 in
set_option maxRecDepth 100000 in
theorem c_E_readNumber (l : Launch) {G : zG} {ad : Nat → Nat} {w : Nat → Option va_E} (P n o : Nat) (FR FE : Nat → Int32) (T : Nat → Nat) (len : Nat) (hE : zRdr G ad w P n o FR FE T len) (mx p9 : Nat) (hmx : mx ≤ 9) (hat : FE 3 = nI p9) (hp : p9 ≤ len) : Met l yE_readNumber wE_readNumber (zR (2)) (va_Pc [.ref (ad 2), .int (nI mx)] (zw_U G ad w)) (va_Qi (S := Nat → Option va_E) (fun r w' => ∃ FE' : Nat → Int32, w' = va_up w 2 (some (oE ad FE')) ∧ FE' 2 = FE 2 ∧ (match zNm T len mx p9 with | .inl (f, pl) => r = 0 ∧ FE' 4 = nI f ∧ FE' 5 = nI pl | .inr (v, e) => r = nI v ∧ FE' 3 = nI e ∧ FE' 4 = FE 4 ∧ FE' 5 = FE 5)) (fun u t => zw_U G ((fun _ => ad) u) ((fun w' => w') u) t) (zA G)) 0 0 (zA G) := by
  refine zw_methi (S := Nat → Option va_E) (fa := fun _ => ad) (fw := fun w' => w') (by decide) rfl (Nat.le_of_ble_eq_true rfl) ?_
  intro p e s m below meth c Q ls C hname Z hl hret
  obtain ⟨hx, hb, hml, hown, hts, hlk⟩ := C
  have hT : ∀ w ∈ zT, w.before ([.ref (ad 2), .int (nI mx)] : List Value).toArray s = true := fun w h => hts w (List.mem_cons_of_mem _ h)
  have hown : s.vm.findClass "PolynomialDesk$Reader" = some m.cls := hown
  have hl : lv_has ls 4 [(0, .ref (ad 2)), (1, .int (nI mx))] := hl
  obtain ⟨hR, h2, ⟨tx, h10, htx⟩, hTb, hlen, hFl, h11, h12, hrows⟩ := id hE
  obtain ⟨q, hq⟩ : ∃ q, q = zsp T len p9 := ⟨_, rfl⟩
  have hql := zsp_in (T := T) hp
  rw [← hq] at hql
  refine lv_aload_n hx hb dE_readNumber_0 rfl (lv_at hl 0 rfl) ?_
  refine zw_calli (va_runV (As := []) (rest := []) ⟨hx, hb, hml, hown, hts⟩ (c_E_nextByte l P n o FR FE T len hE p9 hat hp) (kw_E_nextByte hts ml_E_52 (zR_fit (by omega) (by omega))) (Z.preV hE.2.1 rfl _) rfl rfl hl.1 rfl (lv_room (Nat.le_of_ble_eq_true rfl)) dE_readNumber_1 ⟨Nat.le_of_ble_eq_true rfl, Nat.le_of_ble_eq_true rfl⟩) Z (fun r w1 H locs hp Z => ?_)
  obtain ⟨hr1, hw1⟩ := hp
  rw [← hq] at hr1 hw1
  subst hr1
  subst hw1
  have hE1 : zRdr G ad (va_up w 2 (some (oE ad (upd FE 3 (nI q))))) P n o FR (upd FE 3 (nI q)) T len := hE.obj rfl
  refine zw_calli (va_runS (As := [.int (zch T len q)]) (rest := []) ⟨hx, hb, hml, hown, hts⟩ (c_E_isDigit l (zch T len q)) (kw_E_isDigit hts ml_E_110 (zR_fit (by omega) (by omega))) (Z.preS _) rfl rfl hl.1 rfl (lv_room (Nat.le_of_ble_eq_true rfl)) dE_readNumber_4 ⟨Nat.le_of_ble_eq_true rfl, Nat.le_of_ble_eq_true rfl⟩) Z (fun r w1 H locs hp Z => ?_)
  obtain ⟨rfl, hw1⟩ := hp
  rw [hw1] at Z
  clear hw1
  refine lv_if_ne (tgt := 21) hx hb dE_readNumber_7 (by decide) (fun hc => ?_) (fun hc => ?_)
  · have hd : zisd (zch T len q) = true := by
      cases h9 : zisd (zch T len q) with
      | true => rfl
      | false => rw [h9] at hc; exact absurd rfl hc
    have hq2 := zch_d hd
    have hnm : zNm T len mx p9 = zNum T len mx q := by unfold zNm; rw [← hq, if_pos hd]
    refine lv_aload_n hx hb dE_readNumber_21 rfl (lv_at hl 0 rfl) ?_
    refine zw_get (v := .int ((upd FE 3 (nI q)) 3)) hx hb hT uE hown Z hE1.2.1 rfl 3 (by decide) (hT _ mf_E_45) (fun _ h9 => h9) rfl dE_readNumber_22 ?_
    refine zw_top (nI q) (rfl) ?_
    refine lv_istore_n (lv' := [(2, .int (nI q)), (0, .ref (ad 2)), (1, .int (nI mx))]) hx hb dE_readNumber_25 rfl hl (by decide) rfl (fun ls hl => ?_)
    refine lv_iconst (v := 0) hx hb dE_readNumber_26 (by decide) ?_
    refine lv_istore_n (lv' := [(3, .int 0), (2, .int (nI q)), (0, .ref (ad 2)), (1, .int (nI mx))]) hx hb dE_readNumber_27 rfl hl (by decide) rfl (fun ls hl => ?_)
    have loop : ∀ (j k : Nat) (H : Heap) (locs : List Loc) (ls : Array Slot), q + k + j = len → k ≤ mx → zde T len q = zde T len (q + k) → zw G ad (va_up w 2 (some (oE ad (upd FE 3 (nI (q + k)))))) s H locs → lv_has ls 4 [(3, .int (nI (zval T q k))), (2, .int (nI q)), (0, .ref (ad 2)), (1, .int (nI mx))] → W p l e (zR (2)) s m ([.ref (ad 2), .int (nI mx)] : List Value).toArray below meth c H locs 0 0 Q (F0 m 28 ls []) := by
      intro j
      induction j with
      | zero =>
        intro k H locs ls hj hk hz Z hl
        have hE2 : zRdr G ad (va_up w 2 (some (oE ad (upd FE 3 (nI (q + k)))))) P n o FR (upd FE 3 (nI (q + k))) T len := hE.obj rfl
        have g10 : (va_up w 2 (some (oE ad (upd FE 3 (nI (q + k)))))) 10 = some (zc G 200 tx) := by rw [va_up_ne _ _ (by decide)]; exact h10
        refine lv_aload_n hx hb dE_readNumber_28 rfl (lv_at hl 2 rfl) ?_
        refine zw_get (v := .int ((upd FE 3 (nI (q + k))) 3)) hx hb hT uE hown Z hE2.2.1 rfl 3 (by decide) (hT _ mf_E_45) (fun _ h9 => h9) rfl dE_readNumber_29 ?_
        refine zw_top (nI (q + k)) (rfl) ?_
        refine lv_aload_n hx hb dE_readNumber_32 rfl (lv_at hl 2 rfl) ?_
        refine zw_get (v := .int ((upd FE 3 (nI (q + k))) 2)) hx hb hT uE hown Z hE2.2.1 rfl 2 (by decide) (hT _ mf_E_37) (fun _ h9 => h9) rfl dE_readNumber_33 ?_
        refine zw_top (nI len) (hFl) ?_
        refine lv_icmp_ge (tgt := 103) hx hb dE_readNumber_36 (by decide) (fun _ => ?_) (fun hc => absurd (show (nI len) ≤ (nI (q + k)) from nI_le (by omega) (by omega)) hc)
        have hz2 : zde T len q = q + k := by rw [hz]; exact zde_fix (by omega)
        refine lv_iload_n hx hb dE_readNumber_103 rfl (lv_at hl 0 rfl) ?_
        exact hret _ _ _ _ _ _ dE_readNumber_104 (⟨upd FE 3 (nI (q + k)), rfl, rfl, by
          rw [hnm, zNum, hz2, if_neg (by omega), show q + k - q = k by omega]
          exact ⟨rfl, rfl, rfl, rfl⟩⟩) Z
      | succ j ih =>
        intro k H locs ls hj hk hz Z hl
        have hE2 : zRdr G ad (va_up w 2 (some (oE ad (upd FE 3 (nI (q + k)))))) P n o FR (upd FE 3 (nI (q + k))) T len := hE.obj rfl
        have g10 : (va_up w 2 (some (oE ad (upd FE 3 (nI (q + k)))))) 10 = some (zc G 200 tx) := by rw [va_up_ne _ _ (by decide)]; exact h10
        refine lv_aload_n hx hb dE_readNumber_28 rfl (lv_at hl 2 rfl) ?_
        refine zw_get (v := .int ((upd FE 3 (nI (q + k))) 3)) hx hb hT uE hown Z hE2.2.1 rfl 3 (by decide) (hT _ mf_E_45) (fun _ h9 => h9) rfl dE_readNumber_29 ?_
        refine zw_top (nI (q + k)) (rfl) ?_
        refine lv_aload_n hx hb dE_readNumber_32 rfl (lv_at hl 2 rfl) ?_
        refine zw_get (v := .int ((upd FE 3 (nI (q + k))) 2)) hx hb hT uE hown Z hE2.2.1 rfl 2 (by decide) (hT _ mf_E_37) (fun _ h9 => h9) rfl dE_readNumber_33 ?_
        refine zw_top (nI len) (hFl) ?_
        refine lv_icmp_ge (tgt := 103) hx hb dE_readNumber_36 (by decide) (fun hc => absurd hc (show ¬ ((nI len) ≤ (nI (q + k))) from nI_ge (by omega) (by omega))) (fun _ => ?_)
        refine lv_aload_n hx hb dE_readNumber_39 rfl (lv_at hl 2 rfl) ?_
        refine zw_get (v := .ref (ad 10)) hx hb hT uE hown Z hE2.2.1 rfl 1 (by decide) (hT _ mf_E_15) (fun _ h9 => h9) rfl dE_readNumber_40 ?_
        refine lv_aload_n hx hb dE_readNumber_43 rfl (lv_at hl 2 rfl) ?_
        refine zw_get (v := .int ((upd FE 3 (nI (q + k))) 3)) hx hb hT uE hown Z hE2.2.1 rfl 3 (by decide) (hT _ mf_E_45) (fun _ h9 => h9) rfl dE_readNumber_44 ?_
        refine zw_top (nI (q + k)) (rfl) ?_
        refine zw_cald hx hb Z g10 (vin (by omega) (by decide)) dE_readNumber_47 ?_
        refine zw_top (nI (T (q + k))) (by rw [ncl (by omega)]; exact htx _ (by omega)) ?_
        refine zw_calli (va_runS (As := [.int (nI (T (q + k)))]) (rest := []) ⟨hx, hb, hml, hown, hts⟩ (c_E_isDigit l (nI (T (q + k)))) (kw_E_isDigit hts ml_E_110 (zR_fit (by omega) (by omega))) (Z.preS _) rfl rfl hl.1 rfl (lv_room (Nat.le_of_ble_eq_true rfl)) dE_readNumber_48 ⟨Nat.le_of_ble_eq_true rfl, Nat.le_of_ble_eq_true rfl⟩) Z (fun r w1 H locs hp Z => ?_)
        obtain ⟨rfl, hw1⟩ := hp
        rw [hw1] at Z
        clear hw1
        refine lv_if_eq (tgt := 103) hx hb dE_readNumber_51 (by decide) (fun hc2 => ?_) (fun hc2 => ?_)
        · have hdf : ¬ zisd (nI (T (q + k))) = true := fun h9 => by rw [h9] at hc2; exact absurd hc2 (by decide)
          have hz2 : zde T len q = q + k := by rw [hz]; exact zde_fix (fun h9 => hdf h9.2)
          refine lv_iload_n hx hb dE_readNumber_103 rfl (lv_at hl 0 rfl) ?_
          exact hret _ _ _ _ _ _ dE_readNumber_104 (⟨upd FE 3 (nI (q + k)), rfl, rfl, by
            rw [hnm, zNum, hz2, if_neg (by omega), show q + k - q = k by omega]
            exact ⟨rfl, rfl, rfl, rfl⟩⟩) Z
        · have hdt : zisd (nI (T (q + k))) = true := by
            cases h9 : zisd (nI (T (q + k))) with
            | true => rfl
            | false => rw [h9] at hc2; exact absurd rfl hc2
          have hTd := (zisd_iff (by have := hTb (q + k); omega)).mp hdt
          have hst := zde_step (T := T) (len := len) (p := q + k) (by omega) hdt
          have hin := zde_in (T := T) (len := len) (p := q + k + 1) (by omega)
          refine lv_aload_n hx hb dE_readNumber_54 rfl (lv_at hl 2 rfl) ?_
          refine zw_get (v := .int ((upd FE 3 (nI (q + k))) 3)) hx hb hT uE hown Z hE2.2.1 rfl 3 (by decide) (hT _ mf_E_45) (fun _ h9 => h9) rfl dE_readNumber_55 ?_
          refine zw_top (nI (q + k)) (rfl) ?_
          refine lv_iload_n hx hb dE_readNumber_58 rfl (lv_at hl 1 rfl) ?_
          refine lv_isub hx hb dE_readNumber_59 ?_
          refine zw_top (nI k) (by rw [pk_sub (by omega)]; congr 1; omega) ?_
          refine lv_iload_n hx hb dE_readNumber_60 rfl (lv_at hl 3 rfl) ?_
          refine lv_icmp_lt (tgt := 72) hx hb dE_readNumber_61 (by decide) (fun hc3 => ?_) (fun hc3 => ?_)
          · have hk2 : k < mx := (nI_ltI (by omega) (by omega)).mp hc3
            refine lv_iload_n hx hb dE_readNumber_72 rfl (lv_at hl 0 rfl) ?_
            refine lv_bipush (v := 10) hx hb dE_readNumber_73 (by decide) ?_
            refine lv_imul hx hb dE_readNumber_75 ?_
            refine zw_top (nI (zval T q k * 10)) (pk_mul (zval T q k) 10) ?_
            refine lv_aload_n hx hb dE_readNumber_76 rfl (lv_at hl 2 rfl) ?_
            refine zw_get (v := .ref (ad 10)) hx hb hT uE hown Z hE2.2.1 rfl 1 (by decide) (hT _ mf_E_15) (fun _ h9 => h9) rfl dE_readNumber_77 ?_
            refine lv_aload_n hx hb dE_readNumber_80 rfl (lv_at hl 2 rfl) ?_
            refine zw_get (v := .int ((upd FE 3 (nI (q + k))) 3)) hx hb hT uE hown Z hE2.2.1 rfl 3 (by decide) (hT _ mf_E_45) (fun _ h9 => h9) rfl dE_readNumber_81 ?_
            refine zw_top (nI (q + k)) (rfl) ?_
            refine zw_cald hx hb Z g10 (vin (by omega) (by decide)) dE_readNumber_84 ?_
            refine zw_top (nI (T (q + k))) (by rw [ncl (by omega)]; exact htx _ (by omega)) ?_
            refine lv_bipush (v := 48) hx hb dE_readNumber_85 (by decide) ?_
            refine lv_isub hx hb dE_readNumber_87 ?_
            refine zw_top (nI (T (q + k) - 48)) (pk_sub (b := 48) hTd.1) ?_
            refine lv_iadd hx hb dE_readNumber_88 ?_
            refine zw_top (nI (zval T q (k + 1))) (nI_add _ _) ?_
            refine lv_istore_n (lv' := [(3, .int (nI (zval T q (k + 1)))), (2, .int (nI q)), (0, .ref (ad 2)), (1, .int (nI mx))]) hx hb dE_readNumber_89 rfl hl (by decide) rfl (fun ls hl => ?_)
            refine lv_aload_n hx hb dE_readNumber_90 rfl (lv_at hl 2 rfl) ?_
            refine lv_dup hx hb dE_readNumber_91 rfl ?_
            refine zw_get (v := .int ((upd FE 3 (nI (q + k))) 3)) hx hb hT uE hown Z hE2.2.1 rfl 3 (by decide) (hT _ mf_E_45) (fun _ h9 => h9) rfl dE_readNumber_92 ?_
            refine zw_top (nI (q + k)) (rfl) ?_
            refine lv_iconst (v := 1) hx hb dE_readNumber_95 (by decide) ?_
            refine lv_iadd hx hb dE_readNumber_96 ?_
            refine zw_top (nI (q + (k + 1))) (by rw [nI_1]; rfl) ?_
            refine zw_put (v := .int (nI (q + (k + 1)))) hx hb hT uE hown tE tE_ok nE Z hE2.2.1 rfl 3 (by decide) (hT _ mf_E_45) (fun _ h9 => h9) rfl rfl rfl (by simp) dE_readNumber_97 (fun H locs Z => ?_)
            have Z : zw G ad (va_up (va_up w 2 (some (oE ad (upd FE 3 (nI (q + k)))))) 2 (some (oE ad (upd (upd FE 3 (nI (q + k))) 3 (nI (q + (k + 1))))))) s H locs := Z
            rw [bx_uu, upd_upd] at Z
            refine lv_goto (tgt := 28) hx hb dE_readNumber_100 (by decide) ?_
            exact ih (k + 1) _ _ ls (by omega) (by omega) (by rw [hz]; exact hst) Z (lv_sub hl [0, 1, 2, 3] rfl)
          · have hk2 : k = mx := by
              have : ¬ k < mx := fun h9 => hc3 (nI_lt h9 (by omega))
              omega
            refine lv_aload_n hx hb dE_readNumber_64 rfl (lv_at hl 2 rfl) ?_
            refine lv_iconst (v := 4) hx hb dE_readNumber_65 (by decide) ?_
            refine lv_iload_n hx hb dE_readNumber_66 rfl (lv_at hl 1 rfl) ?_
            refine zw_callv (va_runV (As := [.int 4, .int (nI q)]) (rest := []) ⟨hx, hb, hml, hown, hts⟩ (c_E_noteFault l _ hE2.2.1 4 (nI q)) (kw_E_noteFault hts ml_E_56 (zR_fit (by omega) (by omega))) (Z.preV hE2.2.1 rfl _) rfl rfl hl.1 rfl (lv_room (Nat.le_of_ble_eq_true rfl)) dE_readNumber_67 ⟨Nat.le_of_ble_eq_true rfl, Nat.le_of_ble_eq_true rfl⟩) Z (fun w1 H locs hp Z => ?_)
            subst hp
            rw [bx_uu] at Z
            refine lv_iconst (v := 0) hx hb dE_readNumber_70 (by decide) ?_
            exact hret _ _ _ _ _ _ dE_readNumber_71 (⟨upd (upd (upd FE 3 (nI (q + k))) 4 4) 5 (nI q), rfl, rfl, by
              rw [hnm, zNum, hz, hst, if_pos (by omega)]
              exact ⟨rfl, rfl, rfl⟩⟩) Z
    exact loop (len - q) 0 _ _ ls (by omega) (by omega) rfl Z hl
  · have hd : ¬ zisd (zch T len q) = true := fun h9 => by rw [h9] at hc; exact absurd hc (by decide)
    have hnm : zNm T len mx p9 = .inl (1, q) := by unfold zNm; rw [← hq, if_neg hd]
    refine lv_aload_n hx hb dE_readNumber_10 rfl (lv_at hl 0 rfl) ?_
    refine lv_iconst (v := 1) hx hb dE_readNumber_11 (by decide) ?_
    refine lv_aload_n hx hb dE_readNumber_12 rfl (lv_at hl 0 rfl) ?_
    refine zw_get (v := .int ((upd FE 3 (nI q)) 3)) hx hb hT uE hown Z hE1.2.1 rfl 3 (by decide) (hT _ mf_E_45) (fun _ h9 => h9) rfl dE_readNumber_13 ?_
    refine zw_top (nI q) (rfl) ?_
    refine zw_callv (va_runV (As := [.int 1, .int (nI q)]) (rest := []) ⟨hx, hb, hml, hown, hts⟩ (c_E_noteFault l _ hE1.2.1 1 (nI q)) (kw_E_noteFault hts ml_E_56 (zR_fit (by omega) (by omega))) (Z.preV hE1.2.1 rfl _) rfl rfl hl.1 rfl (lv_room (Nat.le_of_ble_eq_true rfl)) dE_readNumber_16 ⟨Nat.le_of_ble_eq_true rfl, Nat.le_of_ble_eq_true rfl⟩) Z (fun w1 H locs hp Z => ?_)
    subst hp
    rw [bx_uu] at Z
    refine lv_iconst (v := 0) hx hb dE_readNumber_19 (by decide) ?_
    exact hret _ _ _ _ _ _ dE_readNumber_20 (⟨upd (upd (upd FE 3 (nI q)) 4 1) 5 (nI q), rfl, rfl, by rw [hnm]; exact ⟨rfl, rfl, rfl⟩⟩) Z
