set_option maxHeartbeats 4000000 in
set_option maxRecDepth 100000 in
theorem c_M_placeOf (l : Launch) {G : zG} {ad : Nat → Nat} {w : Nat → Option va_E} (P n o : Nat) (F : Nat → Int32) (B : Nat → Nat → Nat) (hM : zMod G ad w P n o F B) (k i : Nat) (hk : k < 73) (hi : i < 2 ^ 31) : Met l yM_placeOf wM_placeOf (zR (2)) (va_Pc [.ref (ad 100), .int (nI k), .int (nI i)] (zw_U G ad w)) (va_Qi (S := Nat → Option va_E) (fun r w' => r = (match zith (fun i => nI (B k i)) (i : Int) 0 (zCt n) with | some j => nI (zKy n o j) | none => -1) ∧ w' = w) (fun u t => zw_U G ((fun _ => ad) u) ((fun w' => w') u) t) (zA G)) 0 0 (zA G) := by
  refine zw_methi (S := Nat → Option va_E) (fa := fun _ => ad) (fw := fun w' => w') (by decide) rfl (Nat.le_of_ble_eq_true rfl) ?_
  intro p e s m below meth c Q ls C hname Z hl hret
  obtain ⟨hx, hb, hml, hown, hts, hlk⟩ := C
  have hT : ∀ w ∈ zT, w.before ([.ref (ad 100), .int (nI k), .int (nI i)] : List Value).toArray s = true := fun w h => hts w (List.mem_cons_of_mem _ h)
  have hown : s.vm.findClass "PolynomialDeskModel" = some m.cls := hown
  have hl : lv_has ls 5 [(0, .ref (ad 100)), (1, .int (nI k)), (2, .int (nI i))] := hl
  obtain ⟨h100, ⟨hF1, hF2, hF3, hF4, hF10⟩, ⟨hP1, hP2⟩, hcfg, ⟨dg, h101, hdg⟩, ⟨ex, h102, hex⟩, ⟨ys, h103, hys⟩, ⟨un, h104, hun⟩, ⟨cl, h105, hcl, hpB⟩⟩ := id hM
  have hct := zCt_le (n := n)
  refine lv_iload_n hx hb dM_placeOf_0 rfl (lv_at hl 2 rfl) ?_
  refine lv_istore_n (lv' := [(3, .int (nI i)), (0, .ref (ad 100)), (1, .int (nI k)), (2, .int (nI i))]) hx hb dM_placeOf_1 rfl hl (by decide) rfl (fun ls hl => ?_)
  refine lv_iconst (v := 0) hx hb dM_placeOf_2 (by decide) ?_
  refine lv_istore (lv' := [(4, .int 0), (3, .int (nI i)), (0, .ref (ad 100)), (1, .int (nI k)), (2, .int (nI i))]) hx hb dM_placeOf_3 hl (by decide) rfl (fun ls hl => ?_)
  have loop : ∀ (d j q : Nat) (H : Heap) (locs : List Loc) (ls : Array Slot), d + j = zCt n → q < 2 ^ 31 → zith (fun i => nI (B k i)) (i : Int) 0 (zCt n) = zith (fun i => nI (B k i)) (q : Int) j d → zw G ad w s H locs → lv_has ls 5 [(4, .int (nI j)), (3, .int (nI q)), (0, .ref (ad 100)), (1, .int (nI k)), (2, .int (nI i))] → W p l e (zR (2)) s m ([.ref (ad 100), .int (nI k), .int (nI i)] : List Value).toArray below meth c H locs (0) (0) Q (F0 m 5 ls []) := by
    intro d
    induction d with
    | zero =>
      intro j q H locs ls hd hq hz Z hl
      refine lv_iload hx hb dM_placeOf_5 (lv_at hl 0 rfl) ?_
      refine lv_aload_n hx hb dM_placeOf_7 rfl (lv_at hl 2 rfl) ?_
      refine zw_get (v := .int (F 10)) hx hb hT uM hown Z h100 rfl 10 (by decide) (hT _ mf_M_67) (fun _ h9 => h9) rfl dM_placeOf_8 ?_
      refine zw_top (nI (zCt n)) (hF10) ?_
      refine lv_icmp_ge (tgt := 53) hx hb dM_placeOf_11 (by decide) (fun _ => ?_) (fun hc => absurd (show ((nI (zCt n)) : Int32) ≤ (nI j) from nI_le (by omega) (by omega)) hc)
      refine lv_iconst (v := (-1)) hx hb dM_placeOf_53 (by decide) ?_
      exact hret _ _ _ _ _ _ dM_placeOf_54 (⟨by rw [hz]; rfl, rfl⟩) Z
    | succ d ih =>
      intro j q H locs ls hd hq hz Z hl
      refine lv_iload hx hb dM_placeOf_5 (lv_at hl 0 rfl) ?_
      refine lv_aload_n hx hb dM_placeOf_7 rfl (lv_at hl 2 rfl) ?_
      refine zw_get (v := .int (F 10)) hx hb hT uM hown Z h100 rfl 10 (by decide) (hT _ mf_M_67) (fun _ h9 => h9) rfl dM_placeOf_8 ?_
      refine zw_top (nI (zCt n)) (hF10) ?_
      refine lv_icmp_ge (tgt := 53) hx hb dM_placeOf_11 (by decide) (fun hc => absurd hc (show ¬ (((nI (zCt n)) : Int32) ≤ (nI j)) from nI_ge (by omega) (by omega))) (fun _ => ?_)
      refine lv_aload_n hx hb dM_placeOf_14 rfl (lv_at hl 2 rfl) ?_
      refine lv_iload_n hx hb dM_placeOf_15 rfl (lv_at hl 3 rfl) ?_
      refine lv_aload_n hx hb dM_placeOf_16 rfl (lv_at hl 2 rfl) ?_
      refine zw_get (v := .ref (ad 103)) hx hb hT uM hown Z h100 rfl 8 (by decide) (hT _ mf_M_20) (fun _ h9 => h9) rfl dM_placeOf_17 ?_
      refine lv_iload hx hb dM_placeOf_20 (lv_at hl 0 rfl) ?_
      refine zw_iald hx hb Z h103 (vin (by omega) (by decide)) dM_placeOf_22 ?_
      refine zw_top (nI (zKy n o j)) (by rw [ncl (by omega)]; exact hys j (by omega)) ?_
      refine zw_calli (va_runV (As := [.int (nI k), .int (nI (zKy n o j))]) (rest := []) ⟨hx, hb, hml, hown, hts⟩ (c_M_cell l P n o F (B) hM k j hk (by omega)) (kw_M_cell hts ml_M_88 (zR_fit (by omega) (by omega))) (Z.preV h100 rfl _) rfl rfl hl.1 rfl (lv_room (Nat.le_of_ble_eq_true rfl)) dM_placeOf_23 ⟨Nat.le_of_ble_eq_true rfl, Nat.le_of_ble_eq_true rfl⟩) Z (fun r wq H locs hp Z => ?_)
      obtain ⟨rfl, hw1⟩ := hp
      rw [hw1] at Z
      clear hw1
      refine lv_if_ne (tgt := 32) hx hb dM_placeOf_26 (by decide) (fun hc => ?_) (fun hc => ?_)
      · refine lv_iload_n hx hb dM_placeOf_32 rfl (lv_at hl 1 rfl) ?_
        refine lv_if_ne (tgt := 44) hx hb dM_placeOf_33 (by decide) (fun hc2 => ?_) (fun hc2 => ?_)
        · have hq0 : q ≠ 0 := fun h9 => hc2 (by rw [h9]; rfl)
          obtain ⟨q1, rfl⟩ : ∃ q1, q = q1 + 1 := ⟨q - 1, by omega⟩
          refine lv_iinc (v := ((nI (q1 + 1)) + (-1))) (lv' := [(3, .int ((nI (q1 + 1)) + (-1))), (4, .int (nI j)), (0, .ref (ad 100)), (1, .int (nI k)), (2, .int (nI i))]) hx hb dM_placeOf_44 hl (k := 1) rfl (rfl) (by decide) rfl (fun ls hl => ?_)
          rw [pk_m1] at hl
          refine lv_iinc (v := (nI (j + 1))) (lv' := [(4, .int (nI (j + 1))), (3, .int (nI q1)), (0, .ref (ad 100)), (1, .int (nI k)), (2, .int (nI i))]) hx hb dM_placeOf_47 hl (k := 1) rfl (nI_1 j) (by decide) rfl (fun ls hl => ?_)
          refine lv_goto (tgt := 5) hx hb dM_placeOf_50 (by decide) ?_
          exact ih (j + 1) q1 _ _ ls (by omega) (by omega) (by rw [hz, zith, if_neg hc, if_neg (by omega)]; congr 1; omega) Z (lv_sub hl [0, 1, 2, 3, 4] rfl)
        · have hq0 : q = 0 := (nI_eq (b := 0) hq (by decide)).mp hc2
          refine lv_aload_n hx hb dM_placeOf_36 rfl (lv_at hl 2 rfl) ?_
          refine zw_get (v := .ref (ad 103)) hx hb hT uM hown Z h100 rfl 8 (by decide) (hT _ mf_M_20) (fun _ h9 => h9) rfl dM_placeOf_37 ?_
          refine lv_iload hx hb dM_placeOf_40 (lv_at hl 0 rfl) ?_
          refine zw_iald hx hb Z h103 (vin (by omega) (by decide)) dM_placeOf_42 ?_
          refine zw_top (nI (zKy n o j)) (by rw [ncl (by omega)]; exact hys j (by omega)) ?_
          exact hret _ _ _ _ _ _ dM_placeOf_43 (⟨by rw [hz, zith, if_neg hc, if_pos (by omega)], rfl⟩) Z
      · refine lv_goto (tgt := 47) hx hb dM_placeOf_29 (by decide) ?_
        refine lv_iinc (v := (nI (j + 1))) (lv' := [(4, .int (nI (j + 1))), (3, .int (nI q)), (0, .ref (ad 100)), (1, .int (nI k)), (2, .int (nI i))]) hx hb dM_placeOf_47 hl (k := 0) rfl (nI_1 j) (by decide) rfl (fun ls hl => ?_)
        refine lv_goto (tgt := 5) hx hb dM_placeOf_50 (by decide) ?_
        exact ih (j + 1) q _ _ ls (by omega) hq (by rw [hz, zith, if_pos hc]) Z (lv_sub hl [0, 1, 2, 3, 4] rfl)
  exact loop (zCt n) 0 i _ _ ls (by omega) hi rfl Z (lv_sub hl [0, 1, 2, 3, 4] rfl)

theorem zith_neg {g : Nat → Int32} : ∀ (n i : Nat) (t : Int), t < 0 → zith g t i n = none
  | 0, _, _, _ => rfl
  | n + 1, i, t, h => by
    simp only [zith]
    split
    · exact zith_neg n (i + 1) t h
    · rw [if_neg (by omega)]
      exact zith_neg n (i + 1) (t - 1) (by omega)

set_option maxHeartbeats 4000000 in
set_option maxRecDepth 100000 in
theorem c_M_term (l : Launch) {G : zG} {ad : Nat → Nat} {w : Nat → Option va_E} (P n o : Nat) (A : Nat → Nat → Nat) (T : Nat → Nat) (len : Nat) (flt pl : Int32) (out : List Nat) (thr : Int32) (hD : zMd G ad w P n o A T len flt pl out thr) (k i x : Int32) : Met l yM_term wM_term (zR (3)) (va_Pc [.ref (ad 100), .int k, .int i, .int x] (zw_U G ad w)) (va_Qi (S := Nat → Option va_E) (fun r w' => r = ztrm n o A k i x ∧ zMd G ad w' P n o (A) (T) (len) (flt) (pl) (out) (0) ∧ zfm w w') (fun u t => zw_U G ((fun _ => ad) u) ((fun w' => w') u) t) (zA G)) 0 0 (zA G) := by
  refine zw_methi (S := Nat → Option va_E) (fa := fun _ => ad) (fw := fun w' => w') (by decide) rfl (Nat.le_of_ble_eq_true rfl) ?_
  intro p e s m below meth c Q ls C hname Z hl hret
  obtain ⟨hx, hb, hml, hown, hts, hlk⟩ := C
  have hT : ∀ w ∈ zT, w.before ([.ref (ad 100), .int k, .int i, .int x] : List Value).toArray s = true := fun w h => hts w (List.mem_cons_of_mem _ h)
  have hown : s.vm.findClass "PolynomialDeskModel" = some m.cls := hown
  have hl : lv_has ls 5 [(0, .ref (ad 100)), (1, .int k), (2, .int i), (3, .int x)] := hl
  obtain ⟨F, B, hM, hBA, ⟨hF0, hF13, hF14, hF15, hF26⟩, hMt⟩ := id hD
  obtain ⟨h100, ⟨hF1, hF2, hF3, hF4, hF10⟩, ⟨hP1, hP2⟩, hcfg, ⟨dg, h101, hdg⟩, ⟨ex, h102, hex⟩, ⟨ys, h103, hys⟩, ⟨un, h104, hun⟩, ⟨cl, h105, hcl, hpB⟩⟩ := id hM
  have hct := zCt_le (n := n)
  refine lv_aload_n hx hb dM_term_0 rfl (lv_at hl 0 rfl) ?_
  refine lv_iconst (v := 0) hx hb dM_term_1 (by decide) ?_
  refine zw_put (v := .int 0) hx hb hT uM hown tM tM_ok nM Z h100 rfl 0 (by decide) (hT _ mf_M_52) (fun _ h9 => h9) rfl rfl rfl (by simp) dM_term_2 (fun H locs Z => ?_)
  have Z : zw G ad (va_up w 100 (some (oM ad (upd F 0 0)))) s H locs := Z
  have hM0 : zMod G ad (va_up w 100 (some (oM ad (upd F 0 0)))) P n o (upd F 0 0) _ := hM.put (by decide)
  have h1001 := hM0.1
  have hfin : zMd G ad (va_up w 100 (some (oM ad (upd F 0 0)))) P n o (A) (T) (len) (flt) (pl) (out) (0) ∧ zfm w (va_up w 100 (some (oM ad (upd F 0 0)))) := ⟨⟨_, B, hM0, hBA, ⟨rfl, hF13, hF14, hF15, hF26⟩, hMt.put⟩, zfm.up (by decide)⟩
  have g102 : (va_up w 100 (some (oM ad (upd F 0 0)))) 102 = some (zi G 5184 ex) := by rw [va_up_ne _ _ (by decide)]; exact h102
  refine lv_iload_n hx hb dM_term_5 rfl (lv_at hl 1 rfl) ?_
  refine zw_calli (va_runS (As := [.int k]) (rest := []) ⟨hx, hb, hml, hown, hts⟩ (c_M_isPolynomial l k) (kw_M_isPolynomial hts ml_M_170 (zR_fit (by omega) (by omega))) (Z.preS _) rfl rfl hl.1 rfl (lv_room (Nat.le_of_ble_eq_true rfl)) dM_term_6 ⟨Nat.le_of_ble_eq_true rfl, Nat.le_of_ble_eq_true rfl⟩) Z (fun r wq H locs hp Z => ?_)
  obtain ⟨rfl, hw1⟩ := hp
  rw [hw1] at Z
  clear hw1
  have none9 : ztrm n o A k i x = -1 → ∀ (H : Heap) (locs : List Loc), zw G ad (va_up w 100 (some (oM ad (upd F 0 0)))) s H locs → W p l e (zR (3)) s m ([.ref (ad 100), .int k, .int i, .int x] : List Value).toArray below meth c H locs (0) (0) Q (F0 m 25 ls []) := by
    intro hn9 H locs Z
    refine lv_iconst (v := (-1)) hx hb dM_term_25 (by decide) ?_
    refine lv_istore (lv' := [(4, .int (-1)), (0, .ref (ad 100)), (1, .int k), (2, .int i), (3, .int x)]) hx hb dM_term_26 hl (by decide) rfl (fun ls hl => ?_)
    refine lv_iload hx hb dM_term_28 (lv_at hl 0 rfl) ?_
    refine lv_if_lt (tgt := 42) hx hb dM_term_30 (by decide) (fun _ => ?_) (fun hc => absurd (show ((-1) : Int32) < 0 from by decide) hc)
    refine lv_iconst (v := (-1)) hx hb dM_term_42 (by decide) ?_
    exact hret _ _ _ _ _ _ dM_term_43 (⟨hn9.symm, hfin⟩) Z
  refine lv_if_eq (tgt := 25) hx hb dM_term_9 (by decide) (fun hc => ?_) (fun hc => ?_)
  · exact none9 (by unfold ztrm; rw [if_neg (fun h9 => zb_nt (zb_f hc) h9.1)]) _ _ Z
  · have hzk := zb_t hc
    refine lv_iload_n hx hb dM_term_12 rfl (lv_at hl 2 rfl) ?_
    refine lv_if_lt (tgt := 25) hx hb dM_term_13 (by decide) (fun hc2 => ?_) (fun hc2 => ?_)
    · exact none9 (by unfold ztrm; rw [zith_neg _ _ _ (by have h9 := Int32.lt_iff_toInt_lt.mp hc2; exact h9)]; split <;> rfl) _ _ Z
    · clear none9
      obtain ⟨j, hj, rfl⟩ := zip8_ok hzk
      obtain ⟨y, hy, rfl⟩ := nI_of hc2
      have htr : ∀ x, ztrm n o A (nI j) (nI y) x = if ¬ x < 0 ∧ x ≤ 4 then (match zith (fun i => nI (B j i)) (y : Int) 0 (zCt n) with | some q => if x = 4 then nI (B j q) else nI (zEx n o x.toNatClampNeg q) | none => -1) else -1 := fun x => by
        unfold ztrm
        rw [ncl (show j < 2 ^ 31 by omega), nI_toInt hy, hBA j hj]
        by_cases h9 : ¬ x < 0 ∧ x ≤ 4
        · rw [if_pos h9, if_pos ⟨hzk, h9⟩]
          all_goals (cases zith (fun i => nI (B j i)) (y : Int) 0 (zCt n) <;> rfl)
        · rw [if_neg h9, if_neg (fun h8 => h9 h8.2)]
      refine lv_aload_n hx hb dM_term_16 rfl (lv_at hl 0 rfl) ?_
      refine lv_iload_n hx hb dM_term_17 rfl (lv_at hl 1 rfl) ?_
      refine lv_iload_n hx hb dM_term_18 rfl (lv_at hl 2 rfl) ?_
      refine zw_calli (va_runV (As := [.int (nI j), .int (nI y)]) (rest := []) ⟨hx, hb, hml, hown, hts⟩ (c_M_placeOf l P n o _ B hM0 j y (by omega) hy) (kw_M_placeOf hts ml_M_195 (zR_fit (by omega) (by omega))) (Z.preV h1001 rfl _) rfl rfl hl.1 rfl (lv_room (Nat.le_of_ble_eq_true rfl)) dM_term_19 ⟨Nat.le_of_ble_eq_true rfl, Nat.le_of_ble_eq_true rfl⟩) Z (fun r w1 H locs hp Z => ?_)
      obtain ⟨hr, hw1⟩ := hp
      rw [hw1] at Z
      clear hw1
      refine lv_goto (tgt := 26) hx hb dM_term_22 (by decide) ?_
      refine lv_istore (lv' := [(4, .int r), (0, .ref (ad 100)), (1, .int (nI j)), (2, .int (nI y)), (3, .int x)]) hx hb dM_term_26 hl (by decide) rfl (fun ls hl => ?_)
      refine lv_iload hx hb dM_term_28 (lv_at hl 0 rfl) ?_
      cases hz9 : zith (fun i => nI (B j i)) (y : Int) 0 (zCt n) with
      | none =>
        rw [hz9] at hr
        simp only [hz9] at htr
        subst hr
        refine lv_if_lt (tgt := 42) hx hb dM_term_30 (by decide) (fun _ => ?_) (fun hc => absurd (show ((-1) : Int32) < 0 from by decide) hc)
        refine lv_iconst (v := (-1)) hx hb dM_term_42 (by decide) ?_
        exact hret _ _ _ _ _ _ dM_term_43 (⟨by rw [htr]; split <;> rfl, hfin⟩) Z
      | some q =>
        rw [hz9] at hr
        simp only [hz9] at htr
        subst hr
        have hq := (zith_in _ _ _ _ hz9).2
        have hq2 : q < zCt n := by omega
        have hkq := zKy_lt hcfg hq2
        refine lv_if_lt (tgt := 42) hx hb dM_term_30 (by decide) (fun hc => absurd hc (show ¬ (((nI (zKy n o q)) : Int32) < 0) from nI_pos (by omega))) (fun _ => ?_)
        refine lv_iload_n hx hb dM_term_33 rfl (lv_at hl 4 rfl) ?_
        refine lv_if_lt (tgt := 42) hx hb dM_term_34 (by decide) (fun hc3 => ?_) (fun hc3 => ?_)
        · refine lv_iconst (v := (-1)) hx hb dM_term_42 (by decide) ?_
          exact hret _ _ _ _ _ _ dM_term_43 (⟨by rw [htr, if_neg (fun h9 => h9.1 hc3)], hfin⟩) Z
        · refine lv_iload_n hx hb dM_term_37 rfl (lv_at hl 4 rfl) ?_
          refine lv_iconst (v := 4) hx hb dM_term_38 (by decide) ?_
          refine lv_icmp_le (tgt := 44) hx hb dM_term_39 (by decide) (fun hc4 => ?_) (fun hc4 => ?_)
          · have hx4 : ¬ x < 0 ∧ x ≤ 4 := ⟨hc3, hc4⟩
            obtain ⟨v, hv4, rfl⟩ := nI_of2 (M := 4) (n := 4) rfl hc3 hc4
            refine lv_iload_n hx hb dM_term_44 rfl (lv_at hl 4 rfl) ?_
            refine lv_iconst (v := 4) hx hb dM_term_45 (by decide) ?_
            refine lv_icmp_ne (tgt := 59) hx hb dM_term_46 (by decide) (fun hc5 => ?_) (fun hc5 => ?_)
            · have hv : v < 4 := by
                have h9 : v ≠ 4 := fun h8 => hc5 (by rw [h8]; rfl)
                omega
              refine lv_aload_n hx hb dM_term_59 rfl (lv_at hl 1 rfl) ?_
              refine zw_get (v := .ref (ad 102)) hx hb hT uM hown Z h1001 rfl 7 (by decide) (hT _ mf_M_17) (fun _ h9 => h9) rfl dM_term_60 ?_
              refine lv_iconst (v := 4) hx hb dM_term_63 (by decide) ?_
              refine lv_iload hx hb dM_term_64 (lv_at hl 0 rfl) ?_
              refine lv_imul hx hb dM_term_66 ?_
              refine zw_top (nI (4 * zKy n o q)) (pk_mul 4 _) ?_
              refine lv_iload_n hx hb dM_term_67 rfl (lv_at hl 4 rfl) ?_
              refine lv_iadd hx hb dM_term_68 ?_
              refine zw_top (nI (4 * zKy n o q + v)) (nI_add _ _) ?_
              refine zw_iald hx hb Z g102 (vin (by omega) (by decide)) dM_term_69 ?_
              refine zw_top (nI (zEx n o v q)) (by rw [ncl (by omega)]; exact hex q hq2 v hv) ?_
              exact hret _ _ _ _ _ _ dM_term_70 (⟨by rw [htr, if_pos hx4, if_neg hc5, ncl (by omega)], hfin⟩) Z
            · refine lv_aload_n hx hb dM_term_49 rfl (lv_at hl 1 rfl) ?_
              refine lv_iload_n hx hb dM_term_50 rfl (lv_at hl 2 rfl) ?_
              refine lv_iload hx hb dM_term_51 (lv_at hl 0 rfl) ?_
              refine zw_calli (va_runV (As := [.int (nI j), .int (nI (zKy n o q))]) (rest := []) ⟨hx, hb, hml, hown, hts⟩ (c_M_cell l P n o _ B hM0 j q (by omega) hq2) (kw_M_cell hts ml_M_88 (zR_fit (by omega) (by omega))) (Z.preV h1001 rfl _) rfl rfl hl.1 rfl (lv_room (Nat.le_of_ble_eq_true rfl)) dM_term_53 ⟨Nat.le_of_ble_eq_true rfl, Nat.le_of_ble_eq_true rfl⟩) Z (fun r wq H locs hp Z => ?_)
              obtain ⟨rfl, hw1⟩ := hp
              rw [hw1] at Z
              clear hw1
              refine lv_goto (tgt := 70) hx hb dM_term_56 (by decide) ?_
              exact hret _ _ _ _ _ _ dM_term_70 (⟨by rw [htr, if_pos hx4, if_pos hc5], hfin⟩) Z
          · refine lv_iconst (v := (-1)) hx hb dM_term_42 (by decide) ?_
            exact hret _ _ _ _ _ _ dM_term_43 (⟨by rw [htr, if_neg (fun h9 => hc4 h9.2)], hfin⟩) Z

set_option maxHeartbeats 4000000 in
set_option maxRecDepth 100000 in
theorem c_M_add (l : Launch) {G : zG} {ad : Nat → Nat} {w : Nat → Option va_E} (P n o : Nat) (A : Nat → Nat → Nat) (T : Nat → Nat) (len : Nat) (flt pl : Int32) (out : List Nat) (thr : Int32) (hD : zMd G ad w P n o A T len flt pl out thr) (a f b t : Int32) : Met l yM_add wM_add (zR (3)) (va_Pc [.ref (ad 100), .int a, .int f, .int b, .int t] (zw_U G ad w)) (va_Qv (S := Nat → Option va_E) (fun w' => ((zip8 a = true ∧ zip8 b = true ∧ zip8 t = true) ∧ zMd G ad w' P n o (va_up A t.toNatClampNeg (zadd n P (zred P f) (A a.toNatClampNeg) (A b.toNatClampNeg))) (T) (len) (flt) (pl) (out) (0) ∨ ¬ (zip8 a = true ∧ zip8 b = true ∧ zip8 t = true) ∧ zMd G ad w' P n o (A) (T) (len) (flt) (pl) (out) (1)) ∧ zfm w w') (fun u t => zw_U G ((fun _ => ad) u) ((fun w' => w') u) t) (zA G)) 0 0 (zA G) := by
  refine zw_methv (S := Nat → Option va_E) (fa := fun _ => ad) (fw := fun w' => w') (by decide) rfl (Nat.le_of_ble_eq_true rfl) ?_
  intro p e s m below meth c Q ls C hname Z hl hret
  obtain ⟨hx, hb, hml, hown, hts, hlk⟩ := C
  have hT : ∀ w ∈ zT, w.before ([.ref (ad 100), .int a, .int f, .int b, .int t] : List Value).toArray s = true := fun w h => hts w (List.mem_cons_of_mem _ h)
  have hown : s.vm.findClass "PolynomialDeskModel" = some m.cls := hown
  have hl : lv_has ls 5 [(0, .ref (ad 100)), (1, .int a), (2, .int f), (3, .int b), (4, .int t)] := hl
  obtain ⟨F, B, hM, hBA, ⟨hF0, hF13, hF14, hF15, hF26⟩, hMt⟩ := id hD
  obtain ⟨h100, ⟨hF1, hF2, hF3, hF4, hF10⟩, ⟨hP1, hP2⟩, hcfg, ⟨dg, h101, hdg⟩, ⟨ex, h102, hex⟩, ⟨ys, h103, hys⟩, ⟨un, h104, hun⟩, ⟨cl, h105, hcl, hpB⟩⟩ := id hM
  have hct := zCt_le (n := n)
  refine lv_aload_n hx hb dM_add_0 rfl (lv_at hl 0 rfl) ?_
  refine lv_iload_n hx hb dM_add_1 rfl (lv_at hl 1 rfl) ?_
  refine lv_iload_n hx hb dM_add_2 rfl (lv_at hl 3 rfl) ?_
  refine lv_iload hx hb dM_add_3 (lv_at hl 4 rfl) ?_
  refine zw_calli (va_runS (As := [.int t]) (rest := [.int b, .int a, .ref (ad 100)]) ⟨hx, hb, hml, hown, hts⟩ (c_M_isPolynomial l t) (kw_M_isPolynomial hts ml_M_170 (zR_fit (by omega) (by omega))) (Z.preS _) rfl rfl hl.1 rfl (lv_room (Nat.le_of_ble_eq_true rfl)) dM_add_5 ⟨Nat.le_of_ble_eq_true rfl, Nat.le_of_ble_eq_true rfl⟩) Z (fun r wq H locs hp Z => ?_)
  obtain ⟨rfl, hw1⟩ := hp
  rw [hw1] at Z
  clear hw1
  have tail : ∀ (H : Heap) (locs : List Loc), zw G ad w s H locs → W p l e (zR (3)) s m ([.ref (ad 100), .int a, .int f, .int b, .int t] : List Value).toArray below meth c H locs (0) (0) Q (F0 m 16 ls [.int (zb (!zip8 t)), .int b, .int a, .ref (ad 100)]) := by
    intro H locs Z
    refine zw_calli (va_runV (As := [.int a, .int b, .int (zb (!zip8 t))]) (rest := []) ⟨hx, hb, hml, hown, hts⟩ (c_M_lacks l P n o F B hM a b (!zip8 t)) (kw_M_lacks hts ml_M_188 (zR_fit (by omega) (by omega))) (Z.preV h100 rfl _) rfl rfl hl.1 rfl (lv_room (Nat.le_of_ble_eq_true rfl)) dM_add_16 ⟨Nat.le_of_ble_eq_true rfl, Nat.le_of_ble_eq_true rfl⟩) Z (fun r w1 H locs hp Z => ?_)
    obtain ⟨rfl, hw1⟩ := hp
    subst hw1
    refine lv_if_eq (tgt := 23) hx hb dM_add_19 (by decide) (fun hc => ?_) (fun hc => ?_)
    · obtain ⟨hza, hzb, hzt9⟩ := zlk_f (zb_f hc)
      have hzt : zip8 t = true := by rw [← Bool.not_not (zip8 t), hzt9]; rfl
      rw [zb_f hc] at Z
      have Z : zw G ad (va_up w 100 (some (oM ad (upd F 0 0)))) s H locs := Z
      have hM0 : zMod G ad (va_up w 100 (some (oM ad (upd F 0 0)))) P n o (upd F 0 0) B := hM.put (by decide)
      have h1001 := hM0.1
      obtain ⟨ja, hja, rfl⟩ := zip8_ok hza
      obtain ⟨jb, hjb, rfl⟩ := zip8_ok hzb
      obtain ⟨jt, hjt, rfl⟩ := zip8_ok hzt
      have hfr := zred_lt f (P := P) (by omega)
      refine lv_aload_n hx hb dM_add_23 rfl (lv_at hl 0 rfl) ?_
      refine lv_iload_n hx hb dM_add_24 rfl (lv_at hl 1 rfl) ?_
      refine lv_bipush (v := 71) hx hb dM_add_25 (by decide) ?_
      refine zw_callv (va_runV (As := [.int (nI ja), .int 71]) (rest := []) ⟨hx, hb, hml, hown, hts⟩ (c_M_copy l P n o _ B hM0 ja 71 (by omega) (by decide) (by omega)) (kw_M_copy hts ml_M_158 (zR_fit (by omega) (by omega))) (Z.preV h1001 rfl _) rfl rfl hl.1 rfl (lv_room (Nat.le_of_ble_eq_true rfl)) dM_add_27 ⟨Nat.le_of_ble_eq_true rfl, Nat.le_of_ble_eq_true rfl⟩) Z (fun w2 H locs hp Z => ?_)
      obtain ⟨hM2, hz2⟩ := hp
      have h1002 := hM2.1
      refine lv_aload_n hx hb dM_add_30 rfl (lv_at hl 0 rfl) ?_
      refine lv_iload_n hx hb dM_add_31 rfl (lv_at hl 3 rfl) ?_
      refine lv_aload_n hx hb dM_add_32 rfl (lv_at hl 0 rfl) ?_
      refine lv_iload_n hx hb dM_add_33 rfl (lv_at hl 2 rfl) ?_
      refine lv_i2l hx hb dM_add_34 rfl ?_
      refine zw_calli (va_runV (As := [.long (f.toInt64)]) (rest := [.int (nI jb), .ref (ad 100)]) ⟨hx, hb, hml, hown, hts⟩ (c_M_modulo l P n o _ _ hM2 f.toInt64) (kw_M_modulo hts ml_M_92 (zR_fit (by omega) (by omega))) (Z.preV h1002 rfl _) rfl rfl hl.1 rfl (lv_room (Nat.le_of_ble_eq_true rfl)) dM_add_35 ⟨Nat.le_of_ble_eq_true rfl, Nat.le_of_ble_eq_true rfl⟩) Z (fun r wq H locs hp Z => ?_)
      obtain ⟨rfl, hw1⟩ := hp
      rw [hw1] at Z
      clear hw1
      refine zw_top (nI (zred P f)) (by rw [zmo_i]) ?_
      refine lv_bipush (v := 71) hx hb dM_add_38 (by decide) ?_
      refine zw_callv (va_runV (As := [.int (nI jb), .int (nI (zred P f)), .int 71]) (rest := []) ⟨hx, hb, hml, hown, hts⟩ (c_M_addTo l P n o _ _ hM2 jb (zred P f) 71 (by omega) (by decide) (by omega) hfr) (kw_M_addTo hts ml_M_167 (zR_fit (by omega) (by omega))) (Z.preV h1002 rfl _) rfl rfl hl.1 rfl (lv_room (Nat.le_of_ble_eq_true rfl)) dM_add_40 ⟨Nat.le_of_ble_eq_true rfl, Nat.le_of_ble_eq_true rfl⟩) Z (fun w3 H locs hp Z => ?_)
      obtain ⟨hM3, hz3⟩ := hp
      have h1003 := hM3.1
      refine lv_aload_n hx hb dM_add_43 rfl (lv_at hl 0 rfl) ?_
      refine lv_bipush (v := 71) hx hb dM_add_44 (by decide) ?_
      refine lv_iload hx hb dM_add_46 (lv_at hl 4 rfl) ?_
      refine zw_callv (va_runV (As := [.int 71, .int (nI jt)]) (rest := []) ⟨hx, hb, hml, hown, hts⟩ (c_M_copy l P n o _ _ hM3 71 jt (by decide) (by omega) (by omega)) (kw_M_copy hts ml_M_158 (zR_fit (by omega) (by omega))) (Z.preV h1003 rfl _) rfl rfl hl.1 rfl (lv_room (Nat.le_of_ble_eq_true rfl)) dM_add_48 ⟨Nat.le_of_ble_eq_true rfl, Nat.le_of_ble_eq_true rfl⟩) Z (fun w4 H locs hp Z => ?_)
      obtain ⟨hM4, hz4⟩ := hp
      exact hret _ _ _ _ _ dM_add_51 (⟨Or.inl ⟨⟨hza, hzb, hzt⟩, _, _, hM4, fun k hk => by
        rw [ncl (show jt < 2 ^ 31 by omega), ncl (show ja < 2 ^ 31 by omega), ncl (show jb < 2 ^ 31 by omega)]
        by_cases e9 : k = jt
        · subst e9
          rw [va_up_self, va_up_self, va_up_self, va_up_self, va_up_ne _ _ (show jb ≠ 71 by omega), hBA ja hja, hBA jb hjb]
        · rw [va_up_ne _ _ e9, va_up_ne _ _ e9, va_up_ne _ _ (by omega), va_up_ne _ _ (by omega)]; exact hBA k hk, ⟨rfl, hF13, hF14, hF15, hF26⟩, ((hMt.put.f5 hz2).f5 hz3).f5 hz4⟩, ((zfm.up (by decide)).trans hz2.fm).trans (hz3.fm.trans hz4.fm)⟩) Z
    · have hzl := zb_t hc
      rw [hzl] at Z
      have hM0 : zMod G ad (va_up w 100 (some (oM ad (upd F 0 1)))) P n o (upd F 0 1) B := hM.put (by decide)
      exact hret _ _ _ _ _ dM_add_22 (⟨Or.inr ⟨fun h9 => zlk_t hzl ⟨h9.1, h9.2.1, by rw [h9.2.2]; rfl⟩, _, B, hM0, hBA, ⟨rfl, hF13, hF14, hF15, hF26⟩, hMt.put⟩, zfm.up (by decide)⟩) Z
  refine lv_if_ne (tgt := 15) hx hb dM_add_8 (by decide) (fun hc => ?_) (fun hc => ?_)
  · refine lv_iconst (v := 0) hx hb dM_add_15 (by decide) ?_
    exact (by rw [show zip8 t = true from zb_t hc] at tail; exact tail _ _ Z)
  · refine lv_iconst (v := 1) hx hb dM_add_11 (by decide) ?_
    refine lv_goto (tgt := 16) hx hb dM_add_12 (by decide) ?_
    exact (by rw [show zip8 t = false from zb_f hc] at tail; exact tail _ _ Z)

set_option maxHeartbeats 4000000 in
set_option maxRecDepth 100000 in
theorem c_M_multiply (l : Launch) {G : zG} {ad : Nat → Nat} {w : Nat → Option va_E} (P n o : Nat) (A : Nat → Nat → Nat) (T : Nat → Nat) (len : Nat) (flt pl : Int32) (out : List Nat) (thr : Int32) (hD : zMd G ad w P n o A T len flt pl out thr) (a b t : Int32) : Met l yM_multiply wM_multiply (zR (4)) (va_Pc [.ref (ad 100), .int a, .int b, .int t] (zw_U G ad w)) (va_Qv (S := Nat → Option va_E) (fun w' => (((zip8 a = true ∧ zip8 b = true ∧ zip8 t = true) ∧ zhigh2 n o (fun i => nI (A a.toNatClampNeg i)) (fun i => nI (A b.toNatClampNeg i)) = false) ∧ zMd G ad w' P n o (va_up A t.toNatClampNeg (zmul n o P (A a.toNatClampNeg) (A b.toNatClampNeg))) (T) (len) (flt) (pl) (out) (0) ∨ ((zip8 a = true ∧ zip8 b = true ∧ zip8 t = true) ∧ zhigh2 n o (fun i => nI (A a.toNatClampNeg i)) (fun i => nI (A b.toNatClampNeg i)) = true) ∧ zMd G ad w' P n o (A) (T) (len) (flt) (pl) (out) (2) ∨ ¬ (zip8 a = true ∧ zip8 b = true ∧ zip8 t = true) ∧ zMd G ad w' P n o (A) (T) (len) (flt) (pl) (out) (1)) ∧ zfm w w') (fun u t => zw_U G ((fun _ => ad) u) ((fun w' => w') u) t) (zA G)) 0 0 (zA G) := by
  refine zw_methv (S := Nat → Option va_E) (fa := fun _ => ad) (fw := fun w' => w') (by decide) rfl (Nat.le_of_ble_eq_true rfl) ?_
  intro p e s m below meth c Q ls C hname Z hl hret
  obtain ⟨hx, hb, hml, hown, hts, hlk⟩ := C
  have hT : ∀ w ∈ zT, w.before ([.ref (ad 100), .int a, .int b, .int t] : List Value).toArray s = true := fun w h => hts w (List.mem_cons_of_mem _ h)
  have hown : s.vm.findClass "PolynomialDeskModel" = some m.cls := hown
  have hl : lv_has ls 4 [(0, .ref (ad 100)), (1, .int a), (2, .int b), (3, .int t)] := hl
  obtain ⟨F, B, hM, hBA, ⟨hF0, hF13, hF14, hF15, hF26⟩, hMt⟩ := id hD
  obtain ⟨h100, ⟨hF1, hF2, hF3, hF4, hF10⟩, ⟨hP1, hP2⟩, hcfg, ⟨dg, h101, hdg⟩, ⟨ex, h102, hex⟩, ⟨ys, h103, hys⟩, ⟨un, h104, hun⟩, ⟨cl, h105, hcl, hpB⟩⟩ := id hM
  have hct := zCt_le (n := n)
  refine lv_aload_n hx hb dM_multiply_0 rfl (lv_at hl 0 rfl) ?_
  refine lv_iload_n hx hb dM_multiply_1 rfl (lv_at hl 1 rfl) ?_
  refine lv_iload_n hx hb dM_multiply_2 rfl (lv_at hl 2 rfl) ?_
  refine lv_iload_n hx hb dM_multiply_3 rfl (lv_at hl 3 rfl) ?_
  refine zw_calli (va_runS (As := [.int t]) (rest := [.int b, .int a, .ref (ad 100)]) ⟨hx, hb, hml, hown, hts⟩ (c_M_isPolynomial l t) (kw_M_isPolynomial hts ml_M_170 (zR_fit (by omega) (by omega))) (Z.preS _) rfl rfl hl.1 rfl (lv_room (Nat.le_of_ble_eq_true rfl)) dM_multiply_4 ⟨Nat.le_of_ble_eq_true rfl, Nat.le_of_ble_eq_true rfl⟩) Z (fun r wq H locs hp Z => ?_)
  obtain ⟨rfl, hw1⟩ := hp
  rw [hw1] at Z
  clear hw1
  have tail : ∀ (H : Heap) (locs : List Loc), zw G ad w s H locs → W p l e (zR (4)) s m ([.ref (ad 100), .int a, .int b, .int t] : List Value).toArray below meth c H locs (0) (0) Q (F0 m 15 ls [.int (zb (!zip8 t)), .int b, .int a, .ref (ad 100)]) := by
    intro H locs Z
    refine zw_calli (va_runV (As := [.int a, .int b, .int (zb (!zip8 t))]) (rest := []) ⟨hx, hb, hml, hown, hts⟩ (c_M_lacks l P n o F B hM a b (!zip8 t)) (kw_M_lacks hts ml_M_188 (zR_fit (by omega) (by omega))) (Z.preV h100 rfl _) rfl rfl hl.1 rfl (lv_room (Nat.le_of_ble_eq_true rfl)) dM_multiply_15 ⟨Nat.le_of_ble_eq_true rfl, Nat.le_of_ble_eq_true rfl⟩) Z (fun r w1 H locs hp Z => ?_)
    obtain ⟨rfl, hw1⟩ := hp
    subst hw1
    refine lv_if_eq (tgt := 22) hx hb dM_multiply_18 (by decide) (fun hc => ?_) (fun hc => ?_)
    · obtain ⟨hza, hzb, hzt9⟩ := zlk_f (zb_f hc)
      have hzt : zip8 t = true := by rw [← Bool.not_not (zip8 t), hzt9]; rfl
      rw [zb_f hc] at Z
      have Z : zw G ad (va_up w 100 (some (oM ad (upd F 0 0)))) s H locs := Z
      have hM0 : zMod G ad (va_up w 100 (some (oM ad (upd F 0 0)))) P n o (upd F 0 0) B := hM.put (by decide)
      have h1001 := hM0.1
      obtain ⟨ja, hja, rfl⟩ := zip8_ok hza
      obtain ⟨jb, hjb, rfl⟩ := zip8_ok hzb
      obtain ⟨jt, hjt, rfl⟩ := zip8_ok hzt
      rw [ncl (show ja < 2 ^ 31 by omega), ncl (show jb < 2 ^ 31 by omega), ncl (show jt < 2 ^ 31 by omega), ← hBA ja hja, ← hBA jb hjb] at hret
      refine lv_aload_n hx hb dM_multiply_22 rfl (lv_at hl 0 rfl) ?_
      refine lv_iload_n hx hb dM_multiply_23 rfl (lv_at hl 1 rfl) ?_
      refine lv_iload_n hx hb dM_multiply_24 rfl (lv_at hl 2 rfl) ?_
      refine zw_calli (va_runV (As := [.int (nI ja), .int (nI jb)]) (rest := []) ⟨hx, hb, hml, hown, hts⟩ (c_M_isTooHigh l P n o _ B hM0 ja jb (by omega) (by omega)) (kw_M_isTooHigh hts ml_M_164 (zR_fit (by omega) (by omega))) (Z.preV h1001 rfl _) rfl rfl hl.1 rfl (lv_room (Nat.le_of_ble_eq_true rfl)) dM_multiply_25 ⟨Nat.le_of_ble_eq_true rfl, Nat.le_of_ble_eq_true rfl⟩) Z (fun r wq H locs hp Z => ?_)
      obtain ⟨rfl, hw1⟩ := hp
      rw [hw1] at Z
      clear hw1
      refine lv_if_eq (tgt := 37) hx hb dM_multiply_28 (by decide) (fun hc2 => ?_) (fun hc2 => ?_)
      · have hhi := zb_f hc2
        refine lv_aload_n hx hb dM_multiply_37 rfl (lv_at hl 0 rfl) ?_
        refine lv_iload_n hx hb dM_multiply_38 rfl (lv_at hl 1 rfl) ?_
        refine lv_iload_n hx hb dM_multiply_39 rfl (lv_at hl 2 rfl) ?_
        refine lv_bipush (v := 71) hx hb dM_multiply_40 (by decide) ?_
        refine zw_callv (va_runV (As := [.int (nI ja), .int (nI jb), .int 71]) (rest := []) ⟨hx, hb, hml, hown, hts⟩ (c_M_times l P n o _ B hM0 ja jb 71 (by omega) (by omega) (by decide) (by omega) (by omega) (zhigh2_deg hcfg hP2 (hpB ja) (hpB jb) (zb_nt hhi))) (kw_M_times hts ml_M_155 (zR_fit (by omega) (by omega))) (Z.preV h1001 rfl _) rfl rfl hl.1 rfl (lv_room (Nat.le_of_ble_eq_true rfl)) dM_multiply_42 ⟨Nat.le_of_ble_eq_true rfl, Nat.le_of_ble_eq_true rfl⟩) Z (fun w2 H locs hp Z => ?_)
        obtain ⟨hM2, hz2⟩ := hp
        have h1002 := hM2.1
        refine lv_aload_n hx hb dM_multiply_45 rfl (lv_at hl 0 rfl) ?_
        refine lv_bipush (v := 71) hx hb dM_multiply_46 (by decide) ?_
        refine lv_iload_n hx hb dM_multiply_48 rfl (lv_at hl 3 rfl) ?_
        refine zw_callv (va_runV (As := [.int 71, .int (nI jt)]) (rest := []) ⟨hx, hb, hml, hown, hts⟩ (c_M_copy l P n o _ _ hM2 71 jt (by decide) (by omega) (by omega)) (kw_M_copy hts ml_M_158 (zR_fit (by omega) (by omega))) (Z.preV h1002 rfl _) rfl rfl hl.1 rfl (lv_room (Nat.le_of_ble_eq_true rfl)) dM_multiply_49 ⟨Nat.le_of_ble_eq_true rfl, Nat.le_of_ble_eq_true rfl⟩) Z (fun w3 H locs hp Z => ?_)
        obtain ⟨hM3, hz3⟩ := hp
        exact hret _ _ _ _ _ dM_multiply_52 (⟨Or.inl ⟨⟨⟨hza, hzb, hzt⟩, hhi⟩, _, _, hM3, fun k hk => by
          by_cases e9 : k = jt
          · subst e9
            rw [va_up_self, va_up_self, va_up_self]
          · rw [va_up_ne _ _ e9, va_up_ne _ _ e9, va_up_ne _ _ (by omega)]; exact hBA k hk, ⟨rfl, hF13, hF14, hF15, hF26⟩, (hMt.put.f5 hz2).f5 hz3⟩, ((zfm.up (by decide)).trans hz2.fm).trans hz3.fm⟩) Z
      · have hhi := zb_t hc2
        refine lv_aload_n hx hb dM_multiply_31 rfl (lv_at hl 0 rfl) ?_
        refine lv_iconst (v := 2) hx hb dM_multiply_32 (by decide) ?_
        refine zw_put (v := .int 2) hx hb hT uM hown tM tM_ok nM Z h1001 rfl 0 (by decide) (hT _ mf_M_52) (fun _ h9 => h9) rfl rfl rfl (by simp) dM_multiply_33 (fun H locs Z => ?_)
        have Z : zw G ad (va_up (va_up w 100 (some (oM ad (upd F 0 0)))) 100 (some (oM ad (upd (upd F 0 0) 0 2)))) s H locs := Z
        have hM9 : zMod G ad (va_up (va_up w 100 (some (oM ad (upd F 0 0)))) 100 (some (oM ad (upd (upd F 0 0) 0 2)))) P n o (upd (upd F 0 0) 0 2) _ := hM0.put (by decide)
        exact hret _ _ _ _ _ dM_multiply_36 (⟨Or.inr (Or.inl ⟨⟨⟨hza, hzb, hzt⟩, hhi⟩, _, B, hM9, hBA, ⟨rfl, hF13, hF14, hF15, hF26⟩, hMt.put.put⟩), (zfm.up (by decide)).trans (zfm.up (by decide))⟩) Z
    · have hzl := zb_t hc
      rw [hzl] at Z
      have hM0 : zMod G ad (va_up w 100 (some (oM ad (upd F 0 1)))) P n o (upd F 0 1) B := hM.put (by decide)
      exact hret _ _ _ _ _ dM_multiply_21 (⟨Or.inr (Or.inr ⟨fun h9 => zlk_t hzl ⟨h9.1, h9.2.1, by rw [h9.2.2]; rfl⟩, _, B, hM0, hBA, ⟨rfl, hF13, hF14, hF15, hF26⟩, hMt.put⟩), zfm.up (by decide)⟩) Z
  refine lv_if_ne (tgt := 14) hx hb dM_multiply_7 (by decide) (fun hc => ?_) (fun hc => ?_)
  · refine lv_iconst (v := 0) hx hb dM_multiply_14 (by decide) ?_
    exact (by rw [show zip8 t = true from zb_t hc] at tail; exact tail _ _ Z)
  · refine lv_iconst (v := 1) hx hb dM_multiply_10 (by decide) ?_
    refine lv_goto (tgt := 15) hx hb dM_multiply_11 (by decide) ?_
    exact (by rw [show zip8 t = false from zb_f hc] at tail; exact tail _ _ Z)
