theorem zch_id {q : Nat} (h : q < 65536) : ((nI q).toUInt32 % 65536).toInt32 = nI q := by rw [pk_char, pk_tn (by omega), Nat.mod_eq_of_lt h]
/-- the byte at i -/
def zby (out : List Nat) (i : Int32) : Int32 := if ¬ i < 0 ∧ i < nI out.length then nI (out.getD i.toNatClampNeg 0) else -1
def zu (j : Nat) : Nat := 10 ^ j / 10
theorem zu_s (j : Nat) : zu (j + 1) = 10 ^ j := by
  unfold zu
  rw [Nat.pow_succ, Nat.mul_div_cancel _ (by decide)]
theorem zu_lt : ∀ j, j ≤ 5 → 10 ^ j ≤ 100000 := fun j h => Nat.pow_le_pow_right (n := 10) (by decide) h
/-- when the digits have begun -/
theorem zbegun {v j : Nat} : (10 ^ (j + 1) ≤ v ∨ v / 10 ^ j % 10 ≠ 0 ∨ j = 0) ↔ (10 ^ j ≤ v ∨ j = 0) := by
  have hp : 0 < 10 ^ j := Nat.pow_pos (by decide)
  have hs : 10 ^ (j + 1) = 10 ^ j * 10 := Nat.pow_succ ..
  constructor
  · rintro (h | h | h)
    · exact Or.inl (by omega)
    · refine Or.inl ?_
      apply Nat.le_of_not_lt
      intro h9
      rw [Nat.div_eq_of_lt h9] at h
      exact h rfl
    · exact Or.inr h
  · rintro (h | h)
    · by_cases h9 : v / 10 ^ j % 10 = 0
      · left
        have h1 : 1 ≤ v / 10 ^ j := (Nat.le_div_iff_mul_le hp).mpr (by omega)
        have h2 : 10 ≤ v / 10 ^ j := by omega
        have := (Nat.le_div_iff_mul_le hp).mp h2
        omega
      · exact Or.inr (Or.inl h9)
    · exact Or.inr (Or.inr h)

set_option maxHeartbeats 4000000 in
set_option maxRecDepth 100000 in
theorem c_P_clear (l : Launch) {G : zG} {ad : Nat → Nat} {w : Nat → Option va_E} (out : List Nat) (h : zPrn G ad w out) : Met l yP_clear wP_clear (zR (1)) (va_Pc [.ref (ad 3)] (zw_U G ad w)) (va_Qv (S := Nat → Option va_E) (fun w' => zPrn G ad w' [] ∧ zpf w w') (fun u t => zw_U G ((fun _ => ad) u) ((fun w' => w') u) t) (zA G)) 0 0 (zA G) := by
  refine zw_methv (S := Nat → Option va_E) (fa := fun _ => ad) (fw := fun w' => w') (by decide) rfl (Nat.le_of_ble_eq_true rfl) ?_
  intro p e s m below meth c Q ls C hname Z hl hret
  obtain ⟨hx, hb, hml, hown, hts, hlk⟩ := C
  have hT : ∀ w ∈ zT, w.before ([.ref (ad 3)] : List Value).toArray s = true := fun w h => hts w (List.mem_cons_of_mem _ h)
  have hown : s.vm.findClass "PolynomialDesk$Printer" = some m.cls := hown
  have hl : lv_has ls 1 [(0, .ref (ad 3))] := hl
  obtain ⟨FP, pb, h3, hl3, h13, hb13, hle⟩ := h
  refine lv_aload_n hx hb dP_clear_0 rfl (lv_at hl 0 rfl) ?_
  refine lv_iconst (v := 0) hx hb dP_clear_1 (by decide) ?_
  refine zw_put (v := .int 0) hx hb hT uP hown tP tP_ok nP Z h3 rfl 2 (by decide) (hT _ mf_P_21) (fun _ h9 => h9) rfl rfl rfl (by simp) dP_clear_2 (fun H locs Z => ?_)
  have Z : zw G ad (va_up w 3 (some (oP ad (upd FP 2 0)))) s H locs := Z
  exact hret _ _ _ _ _ dP_clear_5 (⟨⟨upd FP 2 0, pb, va_up_self _ _ _, rfl, by rw [va_up_ne _ _ (by decide)]; exact h13, fun i hi => absurd hi (Nat.not_lt_zero _), Nat.zero_le _⟩, fun k h1 h2 => va_up_ne _ _ h1⟩) Z

set_option maxHeartbeats 4000000 in
set_option maxRecDepth 100000 in
theorem c_P_byteAt (l : Launch) {G : zG} {ad : Nat → Nat} {w : Nat → Option va_E} (out : List Nat) (h : zPrn G ad w out) (i : Int32) : Met l yP_byteAt wP_byteAt (zR (1)) (va_Pc [.ref (ad 3), .int i] (zw_U G ad w)) (va_Qi (S := Nat → Option va_E) (fun r w' => r = zby out i ∧ w' = w) (fun u t => zw_U G ((fun _ => ad) u) ((fun w' => w') u) t) (zA G)) 0 0 (zA G) := by
  refine zw_methi (S := Nat → Option va_E) (fa := fun _ => ad) (fw := fun w' => w') (by decide) rfl (Nat.le_of_ble_eq_true rfl) ?_
  intro p e s m below meth c Q ls C hname Z hl hret
  obtain ⟨hx, hb, hml, hown, hts, hlk⟩ := C
  have hT : ∀ w ∈ zT, w.before ([.ref (ad 3), .int i] : List Value).toArray s = true := fun w h => hts w (List.mem_cons_of_mem _ h)
  have hown : s.vm.findClass "PolynomialDesk$Printer" = some m.cls := hown
  have hl : lv_has ls 2 [(0, .ref (ad 3)), (1, .int i)] := hl
  obtain ⟨FP, pb, h3, hl3, h13, hb13, hle⟩ := h
  refine lv_iload_n hx hb dP_byteAt_0 rfl (lv_at hl 1 rfl) ?_
  refine lv_if_lt (tgt := 21) hx hb dP_byteAt_1 (by decide) (fun hc => ?_) (fun hc => ?_)
  · refine lv_iconst (v := (-1)) hx hb dP_byteAt_21 (by decide) ?_
    exact hret _ _ _ _ _ _ dP_byteAt_22 (⟨(if_neg (fun h9 => h9.1 hc)).symm, rfl⟩) Z
  · refine lv_iload_n hx hb dP_byteAt_4 rfl (lv_at hl 1 rfl) ?_
    refine lv_aload_n hx hb dP_byteAt_5 rfl (lv_at hl 0 rfl) ?_
    refine zw_get (v := .int (FP 2)) hx hb hT uP hown Z h3 rfl 2 (by decide) (hT _ mf_P_21) (fun _ h9 => h9) rfl dP_byteAt_6 ?_
    refine zw_top (nI out.length) (hl3) ?_
    refine lv_icmp_ge (tgt := 21) hx hb dP_byteAt_9 (by decide) (fun hc2 => ?_) (fun hc2 => ?_)
    · refine lv_iconst (v := (-1)) hx hb dP_byteAt_21 (by decide) ?_
      exact hret _ _ _ _ _ _ dP_byteAt_22 (⟨(if_neg (fun h9 => absurd hc2 (Int32.not_le.mpr h9.2))).symm, rfl⟩) Z
    · obtain ⟨j, hj, rfl⟩ := nI_of hc
      have hj2 : j < out.length := Nat.lt_of_not_le (fun h9 => hc2 (nI_le h9 hj))
      refine lv_aload_n hx hb dP_byteAt_12 rfl (lv_at hl 0 rfl) ?_
      refine zw_get (v := .ref (ad 13)) hx hb hT uP hown Z h3 rfl 1 (by decide) (hT _ mf_P_17) (fun _ h9 => h9) rfl dP_byteAt_13 ?_
      refine lv_iload_n hx hb dP_byteAt_16 rfl (lv_at hl 1 rfl) ?_
      refine zw_cald hx hb Z h13 (vin (by omega) (by decide)) dP_byteAt_17 ?_
      refine zw_top (nI (out.getD j 0)) (by rw [ncl hj]; exact hb13 j hj2) ?_
      refine lv_goto (tgt := 22) hx hb dP_byteAt_18 (by decide) ?_
      exact hret _ _ _ _ _ _ dP_byteAt_22 (⟨by unfold zby; rw [if_pos ⟨hc, nI_lt hj2 (by omega)⟩, ncl hj], rfl⟩) Z

set_option maxHeartbeats 4000000 in
set_option maxRecDepth 100000 in
theorem c_P_writeByte (l : Launch) {G : zG} {ad : Nat → Nat} {w : Nat → Option va_E} (out : List Nat) (h : zPrn G ad w out) (hr : out.length < 2268) (c9 : Nat) (hc9 : c9 < 256) : Met l yP_writeByte wP_writeByte (zR (1)) (va_Pc [.ref (ad 3), .int (nI c9)] (zw_U G ad w)) (va_Qv (S := Nat → Option va_E) (fun w' => zPrn G ad w' (out ++ [c9]) ∧ zpf w w') (fun u t => zw_U G ((fun _ => ad) u) ((fun w' => w') u) t) (zA G)) 0 0 (zA G) := by
  refine zw_methv (S := Nat → Option va_E) (fa := fun _ => ad) (fw := fun w' => w') (by decide) rfl (Nat.le_of_ble_eq_true rfl) ?_
  intro p e s m below meth c Q ls C hname Z hl hret
  obtain ⟨hx, hb, hml, hown, hts, hlk⟩ := C
  have hT : ∀ w ∈ zT, w.before ([.ref (ad 3), .int (nI c9)] : List Value).toArray s = true := fun w h => hts w (List.mem_cons_of_mem _ h)
  have hown : s.vm.findClass "PolynomialDesk$Printer" = some m.cls := hown
  have hl : lv_has ls 2 [(0, .ref (ad 3)), (1, .int (nI c9))] := hl
  obtain ⟨FP, pb, h3, hl3, h13, hb13, hle⟩ := h
  refine lv_aload_n hx hb dP_writeByte_0 rfl (lv_at hl 0 rfl) ?_
  refine zw_get (v := .int (FP 2)) hx hb hT uP hown Z h3 rfl 2 (by decide) (hT _ mf_P_21) (fun _ h9 => h9) rfl dP_writeByte_1 ?_
  refine zw_top (nI out.length) (hl3) ?_
  refine lv_aload_n hx hb dP_writeByte_4 rfl (lv_at hl 0 rfl) ?_
  refine zw_get (v := .ref (ad 13)) hx hb hT uP hown Z h3 rfl 1 (by decide) (hT _ mf_P_17) (fun _ h9 => h9) rfl dP_writeByte_5 ?_
  refine zw_alen (v := nI 2268) hx hb Z 1 h13 rfl rfl dP_writeByte_8 ?_
  refine lv_icmp_ge (tgt := 32) hx hb dP_writeByte_9 (by decide) (fun hc => absurd hc (show ¬ (((nI 2268) : Int32) ≤ (nI out.length)) from nI_ge hr (by decide))) (fun _ => ?_)
  refine lv_aload_n hx hb dP_writeByte_12 rfl (lv_at hl 0 rfl) ?_
  refine zw_get (v := .ref (ad 13)) hx hb hT uP hown Z h3 rfl 1 (by decide) (hT _ mf_P_17) (fun _ h9 => h9) rfl dP_writeByte_13 ?_
  refine lv_aload_n hx hb dP_writeByte_16 rfl (lv_at hl 0 rfl) ?_
  refine zw_get (v := .int (FP 2)) hx hb hT uP hown Z h3 rfl 2 (by decide) (hT _ mf_P_21) (fun _ h9 => h9) rfl dP_writeByte_17 ?_
  refine zw_top (nI out.length) (hl3) ?_
  refine lv_iload_n hx hb dP_writeByte_20 rfl (lv_at hl 1 rfl) ?_
  refine zw_cast hx hb Z h13 (vin hr (by decide)) ((pk_charN (by omega)).1) dP_writeByte_21 (fun H locs Z => ?_)
  rw [ncl (by omega)] at Z
  have Z : zw G ad (va_up w 13 (some (zc G 2268 (upd pb out.length (nI c9))))) s H locs := Z
  have g3 : (va_up w 13 (some (zc G 2268 (upd pb out.length (nI c9))))) 3 = some (oP ad FP) := by rw [va_up_ne _ _ (by decide)]; exact h3
  refine lv_aload_n hx hb dP_writeByte_22 rfl (lv_at hl 0 rfl) ?_
  refine lv_dup hx hb dP_writeByte_23 rfl ?_
  refine zw_get (v := .int (FP 2)) hx hb hT uP hown Z g3 rfl 2 (by decide) (hT _ mf_P_21) (fun _ h9 => h9) rfl dP_writeByte_24 ?_
  refine zw_top (nI out.length) (hl3) ?_
  refine lv_iconst (v := 1) hx hb dP_writeByte_27 (by decide) ?_
  refine lv_iadd hx hb dP_writeByte_28 ?_
  refine zw_top (nI (out.length + 1)) (nI_1 _) ?_
  refine zw_put (v := .int (nI (out.length + 1))) hx hb hT uP hown tP tP_ok nP Z g3 rfl 2 (by decide) (hT _ mf_P_21) (fun _ h9 => h9) rfl rfl rfl (by simp) dP_writeByte_29 (fun H locs Z => ?_)
  have Z : zw G ad (va_up (va_up w 13 (some (zc G 2268 (upd pb out.length (nI c9))))) 3 (some (oP ad (upd FP 2 (nI (out.length + 1)))))) s H locs := Z
  exact hret _ _ _ _ _ dP_writeByte_32 (⟨⟨upd FP 2 (nI (out.length + 1)), upd pb out.length (nI c9), va_up_self _ _ _, by rw [List.length_append]; rfl, by rw [va_up_ne _ _ (by decide), va_up_self], fun i hi => by
    rw [List.length_append] at hi
    have hi : i < out.length + 1 := hi
    rw [zgetD_app]
    by_cases e9 : i = out.length
    · subst e9
      rw [pk_us, if_neg (Nat.lt_irrefl _), if_pos rfl]
    · rw [pk_un e9, if_pos (by omega)]
      exact hb13 i (by omega), by rw [List.length_append]; exact hr⟩, fun k h1 h2 => by rw [va_up_ne _ _ h1, va_up_ne _ _ h2]⟩) Z

set_option maxHeartbeats 4000000 in
set_option maxRecDepth 100000 in
theorem c_P_writeNumber (l : Launch) {G : zG} {ad : Nat → Nat} {w : Nat → Option va_E} (out : List Nat) (h : zPrn G ad w out) (v : Nat) (hv : v < 100000) (hr : out.length + (zdig v).length ≤ 2268) : Met l yP_writeNumber wP_writeNumber (zR (2)) (va_Pc [.ref (ad 3), .int (nI v)] (zw_U G ad w)) (va_Qv (S := Nat → Option va_E) (fun w' => zPrn G ad w' (out ++ zdig v) ∧ zpf w w') (fun u t => zw_U G ((fun _ => ad) u) ((fun w' => w') u) t) (zA G)) 0 0 (zA G) := by
  refine zw_methv (S := Nat → Option va_E) (fa := fun _ => ad) (fw := fun w' => w') (by decide) rfl (Nat.le_of_ble_eq_true rfl) ?_
  intro p e s m below meth c Q ls C hname Z hl hret
  obtain ⟨hx, hb, hml, hown, hts, hlk⟩ := C
  have hT : ∀ w ∈ zT, w.before ([.ref (ad 3), .int (nI v)] : List Value).toArray s = true := fun w h => hts w (List.mem_cons_of_mem _ h)
  have hown : s.vm.findClass "PolynomialDesk$Printer" = some m.cls := hown
  have hl : lv_has ls 5 [(0, .ref (ad 3)), (1, .int (nI v))] := hl
  refine lv_iconst (v := 0) hx hb dP_writeNumber_0 (by decide) ?_
  refine lv_istore_n (lv' := [(2, .int 0), (0, .ref (ad 3)), (1, .int (nI v))]) hx hb dP_writeNumber_1 rfl hl (by decide) rfl (fun ls hl => ?_)
  refine lv_sipush (v := 10000) hx hb dP_writeNumber_2 (by decide) ?_
  refine lv_istore_n (lv' := [(3, .int 10000), (2, .int 0), (0, .ref (ad 3)), (1, .int (nI v))]) hx hb dP_writeNumber_5 rfl hl (by decide) rfl (fun ls hl => ?_)
  have loop : ∀ (j : Nat) (bg : Int32) (L : List Nat) (wA : Nat → Option va_E) (H : Heap) (locs : List Loc) (ls : Array Slot), j ≤ 5 → (0 < j → bg = zb (decide (10 ^ j ≤ v))) → zPrn G ad wA L → L.length + (zdr v j).length ≤ 2268 → zpf w wA → L ++ zdr v j = out ++ zdig v → zw G ad wA s H locs → lv_has ls 5 [(3, .int (nI (zu j))), (2, .int bg), (0, .ref (ad 3)), (1, .int (nI v))] → W p l e (zR (2)) s m ([.ref (ad 3), .int (nI v)] : List Value).toArray below meth c H locs 0 0 Q (F0 m 6 ls []) := by
    intro j
    induction j with
    | zero =>
      intro bg L wA H locs ls hj hbg hP hlen hzf he Z hl
      refine lv_iload_n hx hb dP_writeNumber_6 rfl (lv_at hl 0 rfl) ?_
      refine lv_if_le (tgt := 60) hx hb dP_writeNumber_7 (by decide) (fun _ => ?_) (fun hc => absurd (show ((nI (zu 0)) : Int32) ≤ 0 from by decide) hc)
      exact hret _ _ _ _ _ dP_writeNumber_60 (⟨hP.to (by rw [← he]; exact (List.append_nil _).symm), hzf⟩) Z
    | succ j ih =>
      intro bg L wA H locs ls hj hbg hP hlen hzf he Z hl
      rw [zu_s] at hl
      obtain ⟨FA, pA, hA3, -⟩ := id hP
      have hp := zu_lt j (by omega)
      have hp0 : 0 < 10 ^ j := Nat.pow_pos (by decide)
      have hbg := hbg (by omega)
      subst hbg
      have hd := Nat.mod_lt (v / 10 ^ j) (show 0 < 10 by decide)
      have hdv : v / 10 ^ j < 2 ^ 31 := Nat.lt_of_le_of_lt (Nat.div_le_self _ _) (by omega)
      refine lv_iload_n hx hb dP_writeNumber_6 rfl (lv_at hl 0 rfl) ?_
      refine lv_if_le (tgt := 60) hx hb dP_writeNumber_7 (by decide) (fun hc => absurd hc (show ¬ (((nI (10 ^ j)) : Int32) ≤ 0) from nI_nle hp0 (by omega))) (fun _ => ?_)
      refine lv_iload_n hx hb dP_writeNumber_10 rfl (lv_at hl 3 rfl) ?_
      refine lv_iload_n hx hb dP_writeNumber_11 rfl (lv_at hl 0 rfl) ?_
      refine lv_idiv hx hb dP_writeNumber_12 (nI_ne0 hp0 (by omega)) ?_
      refine zw_top (nI (v / 10 ^ j)) (pk_div (by omega) hp0 (by omega)) ?_
      refine lv_bipush (v := 10) hx hb dP_writeNumber_13 (by decide) ?_
      refine lv_irem hx hb dP_writeNumber_15 (by decide) ?_
      refine zw_top (nI (v / 10 ^ j % 10)) (pk_rem (d := 10) hdv (by decide) (by decide)) ?_
      refine lv_istore (lv' := [(4, .int (nI (v / 10 ^ j % 10))), (3, .int (nI (10 ^ j))), (2, .int (zb (decide (10 ^ (j + 1) ≤ v)))), (0, .ref (ad 3)), (1, .int (nI v))]) hx hb dP_writeNumber_16 hl (by decide) rfl (fun ls hl => ?_)
      refine lv_iload_n hx hb dP_writeNumber_18 rfl (lv_at hl 2 rfl) ?_
      have cont : ∀ (ls : Array Slot), lv_has ls 5 [(2, .int (zb (decide (10 ^ j ≤ v ∨ j = 0)))), (4, .int (nI (v / 10 ^ j % 10))), (3, .int (nI (10 ^ j))), (0, .ref (ad 3)), (1, .int (nI v))] → W p l e (zR (2)) s m ([.ref (ad 3), .int (nI v)] : List Value).toArray below meth c H locs 0 0 Q (F0 m 38 ls []) := by
        intro ls hl
        have tail : ∀ (L1 : List Nat) (wB : Nat → Option va_E) (H : Heap) (locs : List Loc), zPrn G ad wB L1 → L1.length + (zdr v j).length ≤ 2268 → zpf w wB → L1 ++ zdr v j = out ++ zdig v → zw G ad wB s H locs → W p l e (zR (2)) s m ([.ref (ad 3), .int (nI v)] : List Value).toArray below meth c H locs 0 0 Q (F0 m 52 ls []) := by
          intro L1 wB H locs hP hlen hzf he Z
          refine lv_iload_n hx hb dP_writeNumber_52 rfl (lv_at hl 2 rfl) ?_
          refine lv_bipush (v := 10) hx hb dP_writeNumber_53 (by decide) ?_
          refine lv_idiv hx hb dP_writeNumber_55 (by decide) ?_
          refine zw_top (nI (zu j)) (pk_div (d := 10) (by omega) (by decide) (by decide)) ?_
          refine lv_istore_n (lv' := [(3, .int (nI (zu j))), (2, .int (zb (decide (10 ^ j ≤ v ∨ j = 0)))), (4, .int (nI (v / 10 ^ j % 10))), (0, .ref (ad 3)), (1, .int (nI v))]) hx hb dP_writeNumber_56 rfl hl (by decide) rfl (fun ls hl => ?_)
          refine lv_goto (tgt := 6) hx hb dP_writeNumber_57 (by decide) ?_
          exact ih _ L1 wB _ _ ls (by omega) (fun h9 => by congr 2; exact propext ⟨fun h8 => h8.elim id (fun h7 => absurd h7 (by omega)), Or.inl⟩) hP hlen hzf he Z (lv_sub hl [0, 1, 3, 4] rfl)
        refine lv_iload_n hx hb dP_writeNumber_38 rfl (lv_at hl 0 rfl) ?_
        refine lv_if_eq (tgt := 52) hx hb dP_writeNumber_39 (by decide) (fun hc => ?_) (fun hc => ?_)
        · have hcd : ¬ (10 ^ j ≤ v ∨ j = 0) := fun h9 => by rw [decide_eq_true h9] at hc; exact absurd hc (by decide)
          exact tail L wA _ _ hP (by rw [zdr, if_neg hcd] at hlen; exact hlen) hzf (by rw [← he, zdr, if_neg hcd]; rfl) Z
        · have hcd : 10 ^ j ≤ v ∨ j = 0 := by
            apply Classical.byContradiction
            intro h9
            rw [decide_eq_false h9] at hc
            exact hc rfl
          have hlen : L.length + (1 + (zdr v j).length) ≤ 2268 := by rw [zdr, if_pos hcd, List.length_append] at hlen; exact hlen
          refine lv_aload_n hx hb dP_writeNumber_42 rfl (lv_at hl 3 rfl) ?_
          refine lv_bipush (v := 48) hx hb dP_writeNumber_43 (by decide) ?_
          refine lv_iload hx hb dP_writeNumber_45 (lv_at hl 1 rfl) ?_
          refine lv_iadd hx hb dP_writeNumber_47 ?_
          refine zw_top (nI (48 + v / 10 ^ j % 10)) (nI_add 48 _) ?_
          refine lv_i2c hx hb dP_writeNumber_48 rfl ?_
          refine zw_top (nI (48 + v / 10 ^ j % 10)) (zch_id (by omega)) ?_
          refine zw_callv (va_runV (As := [.int (nI (48 + v / 10 ^ j % 10))]) (rest := []) ⟨hx, hb, hml, hown, hts⟩ (c_P_writeByte l L hP (by omega) (48 + v / 10 ^ j % 10) (by omega)) (kw_P_writeByte hts ml_P_28 (zR_fit (by omega) (by omega))) (Z.preV hA3 rfl _) rfl rfl hl.1 rfl (lv_room (Nat.le_of_ble_eq_true rfl)) dP_writeNumber_49 ⟨Nat.le_of_ble_eq_true rfl, Nat.le_of_ble_eq_true rfl⟩) Z (fun wB H locs hp Z => ?_)
          exact tail _ wB _ _ hp.1 (by rw [List.length_append]; show L.length + 1 + _ ≤ 2268; omega) (hzf.trans hp.2) (by rw [← he, zdr, if_pos hcd, List.append_assoc]) Z
      refine lv_if_ne (tgt := 32) hx hb dP_writeNumber_19 (by decide) (fun hc => ?_) (fun hc => ?_)
      · have hcd : 10 ^ j ≤ v ∨ j = 0 := by
          apply zbegun.mp
          left
          apply Classical.byContradiction
          intro h9
          rw [decide_eq_false h9] at hc
          exact hc rfl
        refine lv_iconst (v := 1) hx hb dP_writeNumber_32 (by decide) ?_
        refine lv_goto (tgt := 37) hx hb dP_writeNumber_33 (by decide) ?_
        refine lv_istore_n (lv' := [(2, .int 1), (4, .int (nI (v / 10 ^ j % 10))), (3, .int (nI (10 ^ j))), (0, .ref (ad 3)), (1, .int (nI v))]) hx hb dP_writeNumber_37 rfl hl (by decide) rfl (fun ls hl => ?_)
        exact cont ls (by rw [decide_eq_true hcd]; exact hl)
      · have hn1 : ¬ 10 ^ (j + 1) ≤ v := fun h9 => by rw [decide_eq_true h9] at hc; exact absurd hc (by decide)
        refine lv_iload hx hb dP_writeNumber_22 (lv_at hl 0 rfl) ?_
        refine lv_if_ne (tgt := 32) hx hb dP_writeNumber_24 (by decide) (fun hc2 => ?_) (fun hc2 => ?_)
        · have hcd : 10 ^ j ≤ v ∨ j = 0 := zbegun.mp (Or.inr (Or.inl (fun h9 => hc2 (by rw [h9]; rfl))))
          refine lv_iconst (v := 1) hx hb dP_writeNumber_32 (by decide) ?_
          refine lv_goto (tgt := 37) hx hb dP_writeNumber_33 (by decide) ?_
          refine lv_istore_n (lv' := [(2, .int 1), (4, .int (nI (v / 10 ^ j % 10))), (3, .int (nI (10 ^ j))), (0, .ref (ad 3)), (1, .int (nI v))]) hx hb dP_writeNumber_37 rfl hl (by decide) rfl (fun ls hl => ?_)
          exact cont ls (by rw [decide_eq_true hcd]; exact hl)
        · have hn2 : v / 10 ^ j % 10 = 0 := (nI_eq (b := 0) (by omega) (by decide)).mp hc2
          refine lv_iload_n hx hb dP_writeNumber_27 rfl (lv_at hl 1 rfl) ?_
          refine lv_iconst (v := 1) hx hb dP_writeNumber_28 (by decide) ?_
          refine lv_icmp_ne (tgt := 36) hx hb dP_writeNumber_29 (by decide) (fun hc3 => ?_) (fun hc3 => ?_)
          · have hj0 : j ≠ 0 := fun h9 => hc3 (by rw [h9]; rfl)
            refine lv_iconst (v := 0) hx hb dP_writeNumber_36 (by decide) ?_
            refine lv_istore_n (lv' := [(2, .int 0), (4, .int (nI (v / 10 ^ j % 10))), (3, .int (nI (10 ^ j))), (0, .ref (ad 3)), (1, .int (nI v))]) hx hb dP_writeNumber_37 rfl hl (by decide) rfl (fun ls hl => ?_)
            exact cont ls (by rw [decide_eq_false (fun h9 => (zbegun.mpr h9).elim hn1 (fun h8 => h8.elim (fun h7 => h7 hn2) hj0))]; exact hl)
          · have hj0 : j = 0 := by
              apply Classical.byContradiction
              intro h9
              have h8 : 10 ^ 1 ≤ 10 ^ j := Nat.pow_le_pow_right (by decide) (by omega)
              have h7 := (nI_eq (b := 1) (by omega) (by decide)).mp hc3
              omega
            refine lv_iconst (v := 1) hx hb dP_writeNumber_32 (by decide) ?_
            refine lv_goto (tgt := 37) hx hb dP_writeNumber_33 (by decide) ?_
            refine lv_istore_n (lv' := [(2, .int 1), (4, .int (nI (v / 10 ^ j % 10))), (3, .int (nI (10 ^ j))), (0, .ref (ad 3)), (1, .int (nI v))]) hx hb dP_writeNumber_37 rfl hl (by decide) rfl (fun ls hl => ?_)
            exact cont ls (by rw [decide_eq_true (Or.inr hj0)]; exact hl)
  exact loop 5 0 out w _ _ ls (by omega) (fun _ => by rw [decide_eq_false (show ¬ 10 ^ 5 ≤ v by omega)]; rfl) h hr (zpf.rfl' w) rfl Z (by rw [show nI (zu 5) = 10000 by decide]; exact (lv_sub hl [0, 1, 2, 3] rfl))
