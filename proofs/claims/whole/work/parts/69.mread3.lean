set_option maxHeartbeats 4000000 in
set_option maxRecDepth 100000 in
theorem c_M_readPower (l : Launch) {G : zG} {ad : Nat → Nat} {w : Nat → Option va_E} (P n o : Nat) (F : Nat → Int32) (B1 B : Nat → Nat → Nat) (T : Nat → Nat) (len : Nat) (sg : Nat → Bool) (st : Nat → Option Nat) (d : Nat) (hR : zRr G ad w P n o F B1 T len sg st d (d + 1)) (hB : ∀ t, t < 71 → B1 t = B t) (q : Nat) (hat : F 17 = nI q) (hq : q ≤ len) (c9 : Int32) (hc9 : c9 = zch T len q) (h20 : F 20 = 0) : Met l yM_readPower wM_readPower (zR (4)) (va_Pc [.ref (ad 100), .int c9] (zw_U G ad w)) (va_Qv (S := Nat → Option va_E) (fun w' => zEA n o P T len (zGo G ad w P n o F T len w') (zFi G ad w P n o F B T len w') q d B sg st) (fun u t => zw_U G ((fun _ => ad) u) ((fun w' => w') u) t) (zA G)) 0 0 (zA G) := by
  refine zw_methv (S := Nat → Option va_E) (fa := fun _ => ad) (fw := fun w' => w') (by decide) rfl (Nat.le_of_ble_eq_true rfl) ?_
  intro p e s m below meth c Q ls C hname Z hl hret
  obtain ⟨hx, hb, hml, hown, hts, hlk⟩ := C
  have hT : ∀ w ∈ zT, w.before ([.ref (ad 100), .int c9] : List Value).toArray s = true := fun w h => hts w (List.mem_cons_of_mem _ h)
  have hown : s.vm.findClass "PolynomialDeskModel" = some m.cls := hown
  have hl : lv_has ls 6 [(0, .ref (ad 100)), (1, .int c9)] := hl
  obtain ⟨hM, ⟨hF16, hF19, hd20⟩, ⟨tx, h107, htx⟩, ⟨hTb, hlen⟩, ⟨sa, h108, hsa⟩, ⟨ta, h109, hta⟩⟩ := id hR
  obtain ⟨h100, ⟨hF1, hF2, hF3, hF4, hF10⟩, ⟨hP1, hP2⟩, hcfg, ⟨dg, h101, hdg⟩, ⟨ex, h102, hex⟩, ⟨ys, h103, hys⟩, ⟨un, h104, hun⟩, ⟨cl, h105, hcl, hpB⟩⟩ := id hM
  have hct := zCt_le (n := n)
  have hi0 := zIdx_ok (n := n) (o := o) (k := 0) (by obtain ⟨i, a, b, _⟩ := zConst hcfg; exact ⟨i, a, b⟩)
  refine lv_aload_n hx hb dM_readPower_0 rfl (lv_at hl 0 rfl) ?_
  refine lv_iconst (v := 3) hx hb dM_readPower_1 (by decide) ?_
  refine zw_put (v := .int 3) hx hb hT uM hown tM tM_ok nM Z h100 rfl 18 (by decide) (hT _ mf_M_136) (fun _ h9 => h9) rfl rfl rfl (by simp) dM_readPower_2 (fun H locs Z => ?_)
  have Z : zw G ad (va_up w 100 (some (oM ad (upd F 18 3)))) s H locs := Z
  have hR1 := hR.obj (F' := (upd F 18 3)) (zfF.upd (by decide)) rfl
  have g100 := hR1.1.1
  refine lv_iload_n hx hb dM_readPower_5 rfl (lv_at hl 1 rfl) ?_
  refine lv_bipush (v := 94) hx hb dM_readPower_6 (by decide) ?_
  refine lv_icmp_eq (tgt := 12) hx hb dM_readPower_8 (by decide) (fun hc => ?_) (fun hc => ?_)
  · rw [hc9] at hc
    have hql := zch_in hc (by decide)
    refine lv_aload_n hx hb dM_readPower_12 rfl (lv_at hl 0 rfl) ?_
    refine zw_get (v := .int ((upd F 18 3) 17)) hx hb hT uM hown Z g100 rfl 17 (by decide) (hT _ mf_M_109) (fun _ h9 => h9) rfl dM_readPower_13 ?_
    refine zw_top (nI q) (hat) ?_
    refine lv_istore_n (lv' := [(2, .int (nI q)), (0, .ref (ad 100)), (1, .int c9)]) hx hb dM_readPower_16 rfl hl (by decide) rfl (fun ls hl => ?_)
    refine lv_aload_n hx hb dM_readPower_17 rfl (lv_at hl 1 rfl) ?_
    refine lv_dup hx hb dM_readPower_18 rfl ?_
    refine zw_get (v := .int ((upd F 18 3) 17)) hx hb hT uM hown Z g100 rfl 17 (by decide) (hT _ mf_M_109) (fun _ h9 => h9) rfl dM_readPower_19 ?_
    refine zw_top (nI q) (hat) ?_
    refine lv_iconst (v := 1) hx hb dM_readPower_22 (by decide) ?_
    refine lv_iadd hx hb dM_readPower_23 ?_
    refine zw_top (nI (q + 1)) (nI_1 q) ?_
    refine zw_put (v := .int (nI (q + 1))) hx hb hT uM hown tM tM_ok nM Z g100 rfl 17 (by decide) (hT _ mf_M_109) (fun _ h9 => h9) rfl rfl rfl (by simp) dM_readPower_24 (fun H locs Z => ?_)
    have Z : zw G ad (va_up (va_up w 100 (some (oM ad (upd F 18 3)))) 100 (some (oM ad (upd (upd F 18 3) 17 (nI (q + 1)))))) s H locs := Z
    have hR2 := hR1.obj (F' := (upd (upd F 18 3) 17 (nI (q + 1)))) (zfF.upd (by decide)) rfl
    have g100 := hR2.1.1
    have hsp := zsp_in (T := T) (len := len) (p := q + 1) (by omega)
    obtain ⟨q1, hq1⟩ : ∃ q1, q1 = zsp T len (q + 1) := ⟨_, rfl⟩
    refine lv_aload_n hx hb dM_readPower_27 rfl (lv_at hl 1 rfl) ?_
    refine zw_calli (va_runV (As := []) (rest := []) ⟨hx, hb, hml, hown, hts⟩ (c_M_here l P n o _ _ T len sg st d (d + 1) hR2 (q + 1) rfl (by omega)) (kw_M_here hts ml_M_152 (zR_fit (by omega) (by omega))) (Z.preV g100 rfl _) rfl rfl hl.1 rfl (lv_room (Nat.le_of_ble_eq_true rfl)) dM_readPower_28 ⟨Nat.le_of_ble_eq_true rfl, Nat.le_of_ble_eq_true rfl⟩) Z (fun r w3 H locs hp Z => ?_)
    rw [← hq1] at hp hsp
    obtain ⟨rfl, hw3⟩ := hp
    subst hw3
    have hR3 := hR2.obj (F' := (upd (upd (upd F 18 3) 17 (nI (q + 1))) 17 (nI q1))) (zfF.upd (by decide)) rfl
    have g100 := hR3.1.1
    have hfr3 : zfr w (va_up (va_up (va_up w 100 (some (oM ad (upd F 18 3)))) 100 (some (oM ad (upd (upd F 18 3) 17 (nI (q + 1)))))) 100 (some (oM ad (upd (upd (upd F 18 3) 17 (nI (q + 1))) 17 (nI q1))))) := ((zfr.up (by decide)).trans (zfr.up (by decide))).trans (zfr.up (by decide))
    have hff3 : zfF F (upd (upd (upd F 18 3) 17 (nI (q + 1))) 17 (nI q1)) := ((zfF.upd (by decide)).trans (zfF.upd (by decide))).trans (zfF.upd (by decide))
    refine zw_calli (va_runS (As := [.int (zch T len q1)]) (rest := []) ⟨hx, hb, hml, hown, hts⟩ (c_M_isDigit l (zch T len q1)) (kw_M_isDigit hts ml_M_121 (zR_fit (by omega) (by omega))) (Z.preS _) rfl rfl hl.1 rfl (lv_room (Nat.le_of_ble_eq_true rfl)) dM_readPower_31 ⟨Nat.le_of_ble_eq_true rfl, Nat.le_of_ble_eq_true rfl⟩) Z (fun r wq H locs hp Z => ?_)
    obtain ⟨rfl, hw1⟩ := hp
    rw [hw1] at Z
    clear hw1
    refine lv_if_ne (tgt := 47) hx hb dM_readPower_34 (by decide) (fun hc2 => ?_) (fun hc2 => ?_)
    · have hd := zb_t hc2
      have hq1l := (zch_d hd).1
      have hn9 : zNm T len 2 (q + 1) = zNum T len 2 q1 := by unfold zNm; rw [← hq1, if_pos hd]
      refine lv_aload_n hx hb dM_readPower_47 rfl (lv_at hl 1 rfl) ?_
      refine lv_iconst (v := 2) hx hb dM_readPower_48 (by decide) ?_
      refine zw_calll (va_runV (As := [.int 2]) (rest := []) ⟨hx, hb, hml, hown, hts⟩ (c_M_number l P n o _ _ T len sg st d (d + 1) hR3 2 q1 (by decide) rfl hq1l) (kw_M_number hts ml_M_148 (zR_fit (by omega) (by omega))) (Z.preV g100 rfl _) rfl rfl hl.1 rfl (lv_room (Nat.le_of_ble_eq_true rfl)) dM_readPower_49 ⟨Nat.le_of_ble_eq_true rfl, Nat.le_of_ble_eq_true rfl⟩) Z (fun r w4 H locs hp Z => ?_)
      obtain ⟨rfl, hw4⟩ := hp
      subst hw4
      have hR4 := hR3.obj (znF_fF T len 2 q1 (upd (upd (upd F 18 3) 17 (nI (q + 1))) 17 (nI q1))) (znF_19 T len 2 q1 (upd (upd (upd F 18 3) 17 (nI (q + 1))) 17 (nI q1)))
      have g100 := hR4.1.1
      have hff4 := hff3.trans (znF_fF T len 2 q1 (upd (upd (upd F 18 3) 17 (nI (q + 1))) 17 (nI q1)))
      have hfr4 : zfr w (va_up (va_up (va_up (va_up w 100 (some (oM ad (upd F 18 3)))) 100 (some (oM ad (upd (upd F 18 3) 17 (nI (q + 1)))))) 100 (some (oM ad (upd (upd (upd F 18 3) 17 (nI (q + 1))) 17 (nI q1))))) 100 (some (oM ad (znF T len 2 q1 (upd (upd (upd F 18 3) 17 (nI (q + 1))) 17 (nI q1)))))) := hfr3.trans (zfr.up (by decide))
      refine lv_l2i hx hb dM_readPower_52 rfl ?_
      refine zw_top (nI (zval T q1 (min (zde T len q1 - q1) 2))) (lN_i _) ?_
      refine lv_istore_n (lv' := [(3, .int (nI (zval T q1 (min (zde T len q1 - q1) 2)))), (2, .int (nI q)), (0, .ref (ad 100)), (1, .int c9)]) hx hb dM_readPower_53 rfl hl (by decide) rfl (fun ls hl => ?_)
      refine lv_aload_n hx hb dM_readPower_54 rfl (lv_at hl 2 rfl) ?_
      by_cases ho : 2 < zde T len q1 - q1
      · have e9 : (znF T len 2 q1 (upd (upd (upd F 18 3) 17 (nI (q + 1))) 17 (nI q1))) = upd (upd (upd (upd (upd (upd F 18 3) 17 (nI (q + 1))) 17 (nI q1)) 17 (nI (zde T len q1))) 20 4) 21 (nI q1) := if_pos ho
        refine zw_get (v := .int ((znF T len 2 q1 (upd (upd (upd F 18 3) 17 (nI (q + 1))) 17 (nI q1))) 20)) hx hb hT uM hown Z g100 rfl 20 (by decide) (hT _ mf_M_115) (fun _ h9 => h9) rfl dM_readPower_55 ?_
        refine zw_top (4) (by rw [e9]; rfl) ?_
        refine lv_if_le (tgt := 62) hx hb dM_readPower_58 (by decide) (fun hc => absurd hc (show ¬ (((4) : Int32) ≤ 0) from by decide)) (fun _ => ?_)
        exact hret _ _ _ _ _ dM_readPower_61 (by
          unfold zEA
          rw [if_pos hc, hn9, show zNum T len 2 q1 = .inl (4, q1) from if_pos ho]
          exact ⟨_, _, hR4.1, fun t ht => hB t (by omega), ⟨by rw [e9]; rfl, by rw [e9]; rfl, by decide, by decide⟩, hR4.ar, hff4, hfr4⟩) Z
      · have e9 : (znF T len 2 q1 (upd (upd (upd F 18 3) 17 (nI (q + 1))) 17 (nI q1))) = upd (upd (upd (upd F 18 3) 17 (nI (q + 1))) 17 (nI q1)) 17 (nI (zde T len q1)) := if_neg ho
        have h57 := zde_57 (T := T) (len := len) (q := q1) hTb
        obtain ⟨v9, hv9⟩ : ∃ v9, v9 = zval T q1 (zde T len q1 - q1) := ⟨_, rfl⟩
        have hv100 : v9 < 100 := by
          rw [hv9]
          exact Nat.lt_of_lt_of_le (zval_lt _ h57) (show 10 ^ _ ≤ 10 ^ 2 from Nat.pow_le_pow_right (by decide) (by omega))
        have hn8 : zNm T len 2 (q + 1) = .inr (v9, zde T len q1) := by rw [hn9, hv9]; exact if_neg ho
        rw [show min (zde T len q1 - q1) 2 = zde T len q1 - q1 by omega, ← hv9] at hl
        refine zw_get (v := .int ((znF T len 2 q1 (upd (upd (upd F 18 3) 17 (nI (q + 1))) 17 (nI q1))) 20)) hx hb hT uM hown Z g100 rfl 20 (by decide) (hT _ mf_M_115) (fun _ h9 => h9) rfl dM_readPower_55 ?_
        refine zw_top (0) (by rw [e9]; exact h20) ?_
        refine lv_if_le (tgt := 62) hx hb dM_readPower_58 (by decide) (fun _ => ?_) (fun hc => absurd (show ((0) : Int32) ≤ 0 from by decide) hc)
        refine lv_aload_n hx hb dM_readPower_62 rfl (lv_at hl 2 rfl) ?_
        refine lv_aload_n hx hb dM_readPower_63 rfl (lv_at hl 2 rfl) ?_
        refine zw_calli (va_runV (As := []) (rest := [.ref (ad 100)]) ⟨hx, hb, hml, hown, hts⟩ (c_M_factor l P n o _ _ T len sg st d (d + 1) hR4) (kw_M_factor hts ml_M_145 (zR_fit (by omega) (by omega))) (Z.preV g100 rfl _) rfl rfl hl.1 rfl (lv_room (Nat.le_of_ble_eq_true rfl)) dM_readPower_64 ⟨Nat.le_of_ble_eq_true rfl, Nat.le_of_ble_eq_true rfl⟩) Z (fun r wq H locs hp Z => ?_)
        obtain ⟨rfl, hw1⟩ := hp
        rw [hw1] at Z
        clear hw1
        refine zw_calli (va_runV (As := [.int (nI (10 + 3 * d))]) (rest := []) ⟨hx, hb, hml, hown, hts⟩ (c_M_degreeOf l P n o _ _ hR4.1 (10 + 3 * d) (by omega)) (kw_M_degreeOf hts ml_M_96 (zR_fit (by omega) (by omega))) (Z.preV g100 rfl _) rfl rfl hl.1 rfl (lv_room (Nat.le_of_ble_eq_true rfl)) dM_readPower_67 ⟨Nat.le_of_ble_eq_true rfl, Nat.le_of_ble_eq_true rfl⟩) Z (fun r wq H locs hp Z => ?_)
        obtain ⟨rfl, hw1⟩ := hp
        rw [hw1] at Z
        clear hw1
        refine lv_istore (lv' := [(4, .int (zdgr n o (fun i => nI (B1 (10 + 3 * d) i)))), (3, .int (nI v9)), (2, .int (nI q)), (0, .ref (ad 100)), (1, .int c9)]) hx hb dM_readPower_70 hl (by decide) rfl (fun ls hl => ?_)
        have hB10 : B1 (10 + 3 * d) = B (10 + 3 * d) := hB _ (by omega)
        have cont : ¬ zhighp n o (fun i => nI (B1 (10 + 3 * d) i)) v9 = true → W p l e (zR (4)) s m ([.ref (ad 100), .int c9] : List Value).toArray below meth c H locs (0) (0) Q (F0 m 95 ls []) := by
          intro hh
          obtain ⟨d9, hd9, hde9⟩ := zhighp_deg hcfg hP2 (hpB (10 + 3 * d)) hv100 hh
          obtain ⟨i0, hi0e⟩ : ∃ i0, i0 = zIdx n o 0 := ⟨_, rfl⟩
          rw [← hi0e] at hi0
          have hdi0 : zDg n o i0 = 0 := by
            obtain ⟨k9, a9, b9, c8⟩ := zConst hcfg
            rw [← zKy_inj hcfg a9 hi0.1 (by rw [b9, hi0.2])]
            exact c8
          have hpd := zpow_dle (P := P) hcfg hdi0 hd9 hde9
          refine lv_aload_n hx hb dM_readPower_95 rfl (lv_at hl 3 rfl) ?_
          refine lv_bipush (v := 71) hx hb dM_readPower_96 (by decide) ?_
          refine zw_callv (va_runV (As := [.int 71]) (rest := []) ⟨hx, hb, hml, hown, hts⟩ (c_M_clear l P n o _ _ hR4.1 71 (by decide)) (kw_M_clear hts ml_M_100 (zR_fit (by omega) (by omega))) (Z.preV g100 rfl _) rfl rfl hl.1 rfl (lv_room (Nat.le_of_ble_eq_true rfl)) dM_readPower_98 ⟨Nat.le_of_ble_eq_true rfl, Nat.le_of_ble_eq_true rfl⟩) Z (fun w5 H locs hp Z => ?_)
          obtain ⟨hM5, hz5⟩ := hp
          refine lv_aload_n hx hb dM_readPower_101 rfl (lv_at hl 3 rfl) ?_
          refine lv_bipush (v := 71) hx hb dM_readPower_102 (by decide) ?_
          refine lv_iconst (v := 0) hx hb dM_readPower_104 (by decide) ?_
          refine lv_iconst (v := 1) hx hb dM_readPower_105 (by decide) ?_
          have hCl := c_M_lay l P n o _ _ hM5 71 i0 1 (by decide) hi0.1 (by omega)
          rw [hi0.2] at hCl
          refine zw_callv (va_runV (As := [.int 71, .int 0, .int 1]) (rest := []) ⟨hx, hb, hml, hown, hts⟩ (hCl) (kw_M_lay hts ml_M_85 (zR_fit (by omega) (by omega))) (Z.preV hM5.1 rfl _) rfl rfl hl.1 rfl (lv_room (Nat.le_of_ble_eq_true rfl)) dM_readPower_106 ⟨Nat.le_of_ble_eq_true rfl, Nat.le_of_ble_eq_true rfl⟩) Z (fun w6 H locs hp Z => ?_)
          obtain ⟨hM6, hz6⟩ := hp
          rw [zcon_up] at hM6
          have hz6 := hz5.trans hz6
          have hR6 := hR4.cel hM6 hz6
          refine lv_iconst (v := 0) hx hb dM_readPower_109 (by decide) ?_
          refine lv_istore (lv' := [(5, .int 0), (4, .int (zdgr n o (fun i => nI (B1 (10 + 3 * d) i)))), (3, .int (nI v9)), (2, .int (nI q)), (0, .ref (ad 100)), (1, .int c9)]) hx hb dM_readPower_110 hl (by decide) rfl (fun ls hl => ?_)
          have loop : ∀ (j k : Nat) (w7 : Nat → Option va_E) (B7 : Nat → Nat → Nat) (H : Heap) (locs : List Loc) (ls : Array Slot), k + j = v9 → zRr G ad w7 P n o (znF T len 2 q1 (upd (upd (upd F 18 3) 17 (nI (q + 1))) 17 (nI q1))) B7 T len sg st d (d + 1) → zf5 (va_up (va_up (va_up (va_up w 100 (some (oM ad (upd F 18 3)))) 100 (some (oM ad (upd (upd F 18 3) 17 (nI (q + 1)))))) 100 (some (oM ad (upd (upd (upd F 18 3) 17 (nI (q + 1))) 17 (nI q1))))) 100 (some (oM ad (znF T len 2 q1 (upd (upd (upd F 18 3) 17 (nI (q + 1))) 17 (nI q1)))))) w7 → (∀ t, t < 71 → B7 t = B1 t) → B7 71 = zpow n o P i0 (B1 (10 + 3 * d)) k → zw G ad w7 s H locs → lv_has ls 6 [(5, .int (nI k)), (4, .int (zdgr n o (fun i => nI (B1 (10 + 3 * d) i)))), (3, .int (nI v9)), (2, .int (nI q)), (0, .ref (ad 100)), (1, .int c9)] → W p l e (zR (4)) s m ([.ref (ad 100), .int c9] : List Value).toArray below meth c H locs (0) (0) Q (F0 m 112 ls []) := by
            intro j
            induction j with
            | zero =>
              intro k w7 B7 H locs ls hk hR7 hz7 hB7 h71 Z hl
              refine lv_iload hx hb dM_readPower_112 (lv_at hl 0 rfl) ?_
              refine lv_iload_n hx hb dM_readPower_114 rfl (lv_at hl 2 rfl) ?_
              refine lv_icmp_ge (tgt := 144) hx hb dM_readPower_115 (by decide) (fun _ => ?_) (fun hc => absurd (show ((nI v9) : Int32) ≤ (nI k) from nI_le (by omega) (by omega)) hc)
              refine lv_aload_n hx hb dM_readPower_144 rfl (lv_at hl 4 rfl) ?_
              refine lv_bipush (v := 71) hx hb dM_readPower_145 (by decide) ?_
              refine lv_aload_n hx hb dM_readPower_147 rfl (lv_at hl 4 rfl) ?_
              refine zw_calli (va_runV (As := []) (rest := [.int 71, .ref (ad 100)]) ⟨hx, hb, hml, hown, hts⟩ (c_M_factor l P n o _ _ T len sg st d (d + 1) hR7) (kw_M_factor hts ml_M_145 (zR_fit (by omega) (by omega))) (Z.preV hR7.1.1 rfl _) rfl rfl hl.1 rfl (lv_room (Nat.le_of_ble_eq_true rfl)) dM_readPower_148 ⟨Nat.le_of_ble_eq_true rfl, Nat.le_of_ble_eq_true rfl⟩) Z (fun r wq H locs hp Z => ?_)
              obtain ⟨rfl, hw1⟩ := hp
              rw [hw1] at Z
              clear hw1
              refine zw_callv (va_runV (As := [.int 71, .int (nI (10 + 3 * d))]) (rest := []) ⟨hx, hb, hml, hown, hts⟩ (c_M_copy l P n o _ _ hR7.1 71 (10 + 3 * d) (by decide) (by omega) (by omega)) (kw_M_copy hts ml_M_158 (zR_fit (by omega) (by omega))) (Z.preV hR7.1.1 rfl _) rfl rfl hl.1 rfl (lv_room (Nat.le_of_ble_eq_true rfl)) dM_readPower_151 ⟨Nat.le_of_ble_eq_true rfl, Nat.le_of_ble_eq_true rfl⟩) Z (fun w8 H locs hp Z => ?_)
              obtain ⟨hM8, hz8⟩ := hp
              have hR8 := hR7.cel hM8 hz8
              exact hret _ _ _ _ _ dM_readPower_154 (by
                unfold zEA
                have hkv : k = v9 := by omega
                rw [hkv] at h71
                rw [if_pos hc, hn8]
                simp only
                rw [← hB10, if_neg hh]
                exact ⟨_, _, hR8, zup_cong (fun t ht => (hB7 t ht).trans (hB t ht)) (by rw [h71, hi0e]), ⟨by rw [e9]; rfl, by rw [e9]; rfl, by rw [e9]; rfl, by rw [e9]; rfl⟩, hff4, (hfr4.trans hz7.fr).trans hz8.fr⟩) Z
            | succ j ih =>
              intro k w7 B7 H locs ls hk hR7 hz7 hB7 h71 Z hl
              refine lv_iload hx hb dM_readPower_112 (lv_at hl 0 rfl) ?_
              refine lv_iload_n hx hb dM_readPower_114 rfl (lv_at hl 2 rfl) ?_
              refine lv_icmp_ge (tgt := 144) hx hb dM_readPower_115 (by decide) (fun hc => absurd hc (show ¬ (((nI v9) : Int32) ≤ (nI k)) from nI_ge (by omega) (by omega))) (fun _ => ?_)
              have hmd : (k + 1) * d9 ≤ zHi n := Nat.le_trans (Nat.mul_le_mul_right d9 (by omega)) hde9
              rw [Nat.succ_mul] at hmd
              have hB7f : B7 (10 + 3 * d) = B1 (10 + 3 * d) := hB7 _ (by omega)
              refine lv_aload_n hx hb dM_readPower_118 rfl (lv_at hl 4 rfl) ?_
              refine lv_bipush (v := 71) hx hb dM_readPower_119 (by decide) ?_
              refine lv_aload_n hx hb dM_readPower_121 rfl (lv_at hl 4 rfl) ?_
              refine zw_calli (va_runV (As := []) (rest := [.int 71, .ref (ad 100)]) ⟨hx, hb, hml, hown, hts⟩ (c_M_factor l P n o _ _ T len sg st d (d + 1) hR7) (kw_M_factor hts ml_M_145 (zR_fit (by omega) (by omega))) (Z.preV hR7.1.1 rfl _) rfl rfl hl.1 rfl (lv_room (Nat.le_of_ble_eq_true rfl)) dM_readPower_122 ⟨Nat.le_of_ble_eq_true rfl, Nat.le_of_ble_eq_true rfl⟩) Z (fun r wq H locs hp Z => ?_)
              obtain ⟨rfl, hw1⟩ := hp
              rw [hw1] at Z
              clear hw1
              refine lv_bipush (v := 72) hx hb dM_readPower_125 (by decide) ?_
              refine zw_callv (va_runV (As := [.int 71, .int (nI (10 + 3 * d)), .int 72]) (rest := []) ⟨hx, hb, hml, hown, hts⟩ (c_M_times l P n o _ _ hR7.1 71 (10 + 3 * d) 72 (by decide) (by omega) (by decide) (by decide) (by omega) (fun i9 j9 hi9 hj9 a9 b9 => by rw [h71] at a9; rw [hB7f] at b9; have := hpd k (by omega) i9 hi9 a9; have := hd9 j9 hj9 b9; omega)) (kw_M_times hts ml_M_155 (zR_fit (by omega) (by omega))) (Z.preV hR7.1.1 rfl _) rfl rfl hl.1 rfl (lv_room (Nat.le_of_ble_eq_true rfl)) dM_readPower_127 ⟨Nat.le_of_ble_eq_true rfl, Nat.le_of_ble_eq_true rfl⟩) Z (fun w8 H locs hp Z => ?_)
              obtain ⟨hM8, hz8⟩ := hp
              refine lv_aload_n hx hb dM_readPower_130 rfl (lv_at hl 4 rfl) ?_
              refine lv_bipush (v := 72) hx hb dM_readPower_131 (by decide) ?_
              refine lv_bipush (v := 71) hx hb dM_readPower_133 (by decide) ?_
              refine zw_callv (va_runV (As := [.int 72, .int 71]) (rest := []) ⟨hx, hb, hml, hown, hts⟩ (c_M_copy l P n o _ _ hM8 72 71 (by decide) (by decide) (by decide)) (kw_M_copy hts ml_M_158 (zR_fit (by omega) (by omega))) (Z.preV hM8.1 rfl _) rfl rfl hl.1 rfl (lv_room (Nat.le_of_ble_eq_true rfl)) dM_readPower_135 ⟨Nat.le_of_ble_eq_true rfl, Nat.le_of_ble_eq_true rfl⟩) Z (fun w9 H locs hp Z => ?_)
              obtain ⟨hM9, hz9⟩ := hp
              have hz9 := hz8.trans hz9
              have hR9 := hR7.cel hM9 hz9
              refine lv_iinc (v := (nI (k + 1))) (lv' := [(5, .int (nI (k + 1))), (4, .int (zdgr n o (fun i => nI (B1 (10 + 3 * d) i)))), (3, .int (nI v9)), (2, .int (nI q)), (0, .ref (ad 100)), (1, .int c9)]) hx hb dM_readPower_138 hl (k := 0) rfl (nI_1 k) (by decide) rfl (fun ls hl => ?_)
              refine lv_goto (tgt := 112) hx hb dM_readPower_141 (by decide) ?_
              exact ih (k + 1) _ _ _ _ ls (by omega) hR9 (hz7.trans hz9) (fun t ht => by rw [va_up_ne _ _ (by omega), va_up_ne _ _ (by omega)]; exact hB7 t ht) (by rw [va_up_self, va_up_self, h71, hB7f]; rfl) Z (lv_sub hl [0, 1, 2, 3, 4, 5] rfl)
          exact loop v9 0 _ _ _ _ ls (by omega) hR6 hz6 (fun t ht => va_up_ne _ _ (by omega)) (va_up_self _ _ _) Z hl
        refine lv_iload hx hb dM_readPower_72 (lv_at hl 0 rfl) ?_
        refine lv_if_le (tgt := 95) hx hb dM_readPower_74 (by decide) (fun hc3 => ?_) (fun hc3 => ?_)
        · exact cont (fun h9 => absurd (zhighp_0.mp h9).1 (fun h8 => by have h7 := Int32.lt_iff_toInt_lt.mp h8; have h6 := Int32.le_iff_toInt_le.mp hc3; omega))
        · refine lv_iload hx hb dM_readPower_77 (lv_at hl 0 rfl) ?_
          refine lv_iload_n hx hb dM_readPower_79 rfl (lv_at hl 1 rfl) ?_
          refine lv_imul hx hb dM_readPower_80 ?_
          refine lv_aload_n hx hb dM_readPower_81 rfl (lv_at hl 3 rfl) ?_
          refine zw_get (v := .int ((znF T len 2 q1 (upd (upd (upd F 18 3) 17 (nI (q + 1))) 17 (nI q1))) 4)) hx hb hT uM hown Z g100 rfl 4 (by decide) (hT _ mf_M_61) (fun _ h9 => h9) rfl dM_readPower_82 ?_
          refine zw_top (nI (zHi n)) (by rw [hff4 4 (by decide)]; exact hF4) ?_
          refine lv_icmp_le (tgt := 95) hx hb dM_readPower_85 (by decide) (fun hc4 => ?_) (fun hc4 => ?_)
          · exact cont (fun h9 => absurd (zhighp_0.mp h9).2 (fun h8 => by have h7 := Int32.lt_iff_toInt_lt.mp h8; have h6 := Int32.le_iff_toInt_le.mp hc4; omega))
          · have hh : zhighp n o (fun i => nI (B1 (10 + 3 * d) i)) v9 = true := zhighp_0.mpr ⟨by rw [Int32.lt_iff_toInt_lt]; rw [Int32.le_iff_toInt_le] at hc3; omega, by rw [Int32.lt_iff_toInt_lt]; rw [Int32.le_iff_toInt_le] at hc4; omega⟩
            refine lv_aload_n hx hb dM_readPower_88 rfl (lv_at hl 3 rfl) ?_
            refine lv_iconst (v := 3) hx hb dM_readPower_89 (by decide) ?_
            refine lv_iload_n hx hb dM_readPower_90 rfl (lv_at hl 2 rfl) ?_
            refine zw_callv (va_runV (As := [.int 3, .int (nI q)]) (rest := []) ⟨hx, hb, hml, hown, hts⟩ (c_M_fail l (znF T len 2 q1 (upd (upd (upd F 18 3) 17 (nI (q + 1))) 17 (nI q1))) g100 3 (nI q)) (kw_M_fail hts ml_M_128 (zR_fit (by omega) (by omega))) (Z.preV g100 rfl _) rfl rfl hl.1 rfl (lv_room (Nat.le_of_ble_eq_true rfl)) dM_readPower_91 ⟨Nat.le_of_ble_eq_true rfl, Nat.le_of_ble_eq_true rfl⟩) Z (fun wq H locs hp Z => ?_)
            subst hp
            exact hret _ _ _ _ _ dM_readPower_94 (by
              unfold zEA
              rw [if_pos hc, hn8]
              simp only
              rw [← hB10, if_pos hh]
              exact ⟨_, _, (hR4).1.obj (fun k hk => va_up_ne _ _ (by omega)) (va_up_self _ _ _) (fun j hj => by rw [pk_un (by omega), pk_un (by omega)]), fun t ht => hB t (by omega), ⟨rfl, rfl, by decide, by decide⟩, (hR4).ar.up, hff4.trans ((zfF.upd (by decide)).trans (zfF.upd (by decide))), hfr4.trans (zfr.up (by decide))⟩) Z
    · have hd := zb_nt (zb_f hc2)
      refine lv_aload_n hx hb dM_readPower_37 rfl (lv_at hl 1 rfl) ?_
      refine lv_iconst (v := 1) hx hb dM_readPower_38 (by decide) ?_
      refine lv_aload_n hx hb dM_readPower_39 rfl (lv_at hl 1 rfl) ?_
      refine zw_get (v := .int ((upd (upd (upd F 18 3) 17 (nI (q + 1))) 17 (nI q1)) 17)) hx hb hT uM hown Z g100 rfl 17 (by decide) (hT _ mf_M_109) (fun _ h9 => h9) rfl dM_readPower_40 ?_
      refine zw_top (nI q1) (rfl) ?_
      refine zw_callv (va_runV (As := [.int 1, .int (nI q1)]) (rest := []) ⟨hx, hb, hml, hown, hts⟩ (c_M_fail l (upd (upd (upd F 18 3) 17 (nI (q + 1))) 17 (nI q1)) g100 1 (nI q1)) (kw_M_fail hts ml_M_128 (zR_fit (by omega) (by omega))) (Z.preV g100 rfl _) rfl rfl hl.1 rfl (lv_room (Nat.le_of_ble_eq_true rfl)) dM_readPower_43 ⟨Nat.le_of_ble_eq_true rfl, Nat.le_of_ble_eq_true rfl⟩) Z (fun wq H locs hp Z => ?_)
      subst hp
      exact hret _ _ _ _ _ dM_readPower_46 (by
        unfold zEA
        rw [if_pos hc, show zNm T len 2 (q + 1) = .inl (1, q1) by unfold zNm; rw [← hq1, if_neg hd]]
        exact ⟨_, _, (hR3).1.obj (fun k hk => va_up_ne _ _ (by omega)) (va_up_self _ _ _) (fun j hj => by rw [pk_un (by omega), pk_un (by omega)]), fun t ht => hB t (by omega), ⟨rfl, rfl, by decide, by decide⟩, (hR3).ar.up, hff3.trans ((zfF.upd (by decide)).trans (zfF.upd (by decide))), hfr3.trans (zfr.up (by decide))⟩) Z
  · rw [hc9] at hc
    exact hret _ _ _ _ _ dM_readPower_11 (by unfold zEA; rw [if_neg hc]; exact ⟨_, _, hR1, hB, ⟨hat, rfl, rfl, rfl⟩, zfF.upd (by decide), zfr.up (by decide)⟩) Z
