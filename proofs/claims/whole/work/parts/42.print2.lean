set_option maxHeartbeats 4000000 in
set_option maxRecDepth 100000 in
theorem c_P_writeTerm (l : Launch) {G : zG} {ad : Nat → Nat} {w : Nat → Option va_E} (qs qv : Nat) (hX : ∀ U H, G.2.2.2 U H → zSTR G qs qv U H) (P n o : Nat) (FR : Nat → Int32) (hR : zRing G ad w P n o FR) (out : List Nat) (h : zPrn G ad w out) (i c9 : Nat) (hi : i < zCt n) (hc9 : c9 < 32003) (hr : out.length + 17 ≤ 2268) : Met l yP_writeTerm wP_writeTerm (zR (5)) (va_Pc [.ref (ad 3), .int (nI i), .int (nI c9)] (zw_U G ad w)) (va_Qv (S := Nat → Option va_E) (fun w' => zPrn G ad w' (out ++ zpt n o i c9) ∧ zpf w w') (fun u t => zw_U G ((fun _ => ad) u) ((fun w' => w') u) t) (zA G)) 0 0 (zA G) := by
  refine zw_methv (S := Nat → Option va_E) (fa := fun _ => ad) (fw := fun w' => w') (by decide) rfl (Nat.le_of_ble_eq_true rfl) ?_
  intro p e s m below meth c Q ls C hname Z hl hret
  obtain ⟨hx, hb, hml, hown, hts, hlk⟩ := C
  have hT : ∀ w ∈ zT, w.before ([.ref (ad 3), .int (nI i), .int (nI c9)] : List Value).toArray s = true := fun w h => hts w (List.mem_cons_of_mem _ h)
  have hown : s.vm.findClass "PolynomialDesk$Printer" = some m.cls := hown
  have hl : lv_has ls 6 [(0, .ref (ad 3)), (1, .int (nI i)), (2, .int (nI c9))] := hl
  have hcfg := hR.2.2.2.1
  have hct := zCt_le (n := n)
  obtain ⟨hx1, hx2, hx3, hx4⟩ := hX _ _ Z.2.2.2.2.2
  obtain ⟨FP, pb, h3, hl3, h13, hb13, hle⟩ := id h
  have hl0 := zl0_len c9
  refine lv_aload_n hx hb dP_writeTerm_0 rfl (lv_at hl 0 rfl) ?_
  refine zw_get (v := .int (FP 2)) hx hb hT uP hown Z h3 rfl 2 (by decide) (hT _ mf_P_21) (fun _ h9 => h9) rfl dP_writeTerm_1 ?_
  refine zw_top (nI out.length) (hl3) ?_
  refine lv_istore_n (lv' := [(3, .int (nI out.length)), (0, .ref (ad 3)), (1, .int (nI i)), (2, .int (nI c9))]) hx hb dP_writeTerm_4 rfl hl (by decide) rfl (fun ls hl => ?_)
  have loop : ∀ (d v : Nat) (wA : Nat → Option va_E) (H : Heap) (locs : List Loc) (ls : Array Slot), d + v = 4 → zPrn G ad wA (out ++ zpv n o i (zl0 c9) v) → zpf w wA → zw G ad wA s H locs → lv_has ls 6 [(4, .int (nI v)), (3, .int (nI out.length)), (0, .ref (ad 3)), (1, .int (nI i)), (2, .int (nI c9))] → W p l e (zR (5)) s m ([.ref (ad 3), .int (nI i), .int (nI c9)] : List Value).toArray below meth c H locs 0 0 Q (F0 m 18 ls []) := by
    intro d
    induction d with
    | zero =>
      intro v wA H locs ls hdv hP hzf Z hl
      have hv4 : v = 4 := by omega
      subst hv4
      obtain ⟨FA, pA, hA3, hAl, -⟩ := id hP
      have hlen := zpv_len hcfg hi (zl0 c9) 4 (by omega)
      have hfs := zfs_le hcfg hi 4 (by omega)
      have hLe : (out ++ zpv n o i (zl0 c9) 4).length = out.length + (zpv n o i (zl0 c9) 4).length := List.length_append ..
      refine lv_iload hx hb dP_writeTerm_18 (lv_at hl 0 rfl) ?_
      refine lv_iconst (v := 4) hx hb dP_writeTerm_20 (by decide) ?_
      refine lv_icmp_ge (tgt := 90) hx hb dP_writeTerm_21 (by decide) (fun _ => ?_) (fun hc => absurd (show (4 : Int32) ≤ (nI 4) from by decide) hc)
      refine lv_aload_n hx hb dP_writeTerm_90 rfl (lv_at hl 2 rfl) ?_
      refine zw_get (v := .int (FA 2)) hx hb hT uP hown Z hA3 rfl 2 (by decide) (hT _ mf_P_21) (fun _ h9 => h9) rfl dP_writeTerm_91 ?_
      refine zw_top (nI (out ++ zpv n o i (zl0 c9) 4).length) (hAl) ?_
      refine lv_iload_n hx hb dP_writeTerm_94 rfl (lv_at hl 1 rfl) ?_
      refine lv_icmp_ne (tgt := 104) hx hb dP_writeTerm_95 (by decide) (fun hc => ?_) (fun hc => ?_)
      · have hne : ¬ zpv n o i (zl0 c9) 4 = [] := fun h9 => hc (by rw [h9, List.append_nil])
        exact hret _ _ _ _ _ dP_writeTerm_104 (⟨hP.to (by unfold zpt; rw [if_neg hne]), hzf⟩) Z
      · have hn0 : zpv n o i (zl0 c9) 4 = [] := by
          have h9 := (nI_eq (by omega) (by omega)).mp hc
          rw [hLe] at h9
          exact List.length_eq_zero_iff.mp (by omega)
        rw [hn0, List.append_nil] at hP
        refine lv_aload_n hx hb dP_writeTerm_98 rfl (lv_at hl 2 rfl) ?_
        refine lv_bipush (v := 49) hx hb dP_writeTerm_99 (by decide) ?_
        refine zw_callv (va_runV (As := [.int 49]) (rest := []) ⟨hx, hb, hml, hown, hts⟩ (c_P_writeByte l out hP (by omega) 49 (by decide)) (kw_P_writeByte hts ml_P_28 (zR_fit (by omega) (by omega))) (Z.preV hA3 rfl _) rfl rfl hl.1 rfl (lv_room (Nat.le_of_ble_eq_true rfl)) dP_writeTerm_101 ⟨Nat.le_of_ble_eq_true rfl, Nat.le_of_ble_eq_true rfl⟩) Z (fun wB H locs hp Z => ?_)
        exact hret _ _ _ _ _ dP_writeTerm_104 (⟨hp.1.to (by unfold zpt; rw [if_pos hn0]), hzf.trans hp.2⟩) Z
    | succ d ih =>
      intro v wA H locs ls hdv hP hzf Z hl
      have hv4 : v < 4 := by omega
      obtain ⟨L, hL⟩ : ∃ L, L = zpv n o i (zl0 c9) v := ⟨_, rfl⟩
      rw [← hL] at hP
      obtain ⟨e9, he9⟩ : ∃ e9, e9 = zEx n o v i := ⟨_, rfl⟩
      have he30 := zEx_30 hcfg hi hv4
      rw [← he9] at he30
      have hnx : zpv n o i (zl0 c9) (v + 1) = zjoin L (zvf v e9) := by rw [hL, he9]; rfl
      have hroom : e9 ≠ 0 → L.length + 1 + (zvf v e9).length ≤ 17 := fun h9 => by
        have := zpv_room hcfg hi hv4 (zl0 c9) (by rw [← he9]; exact h9)
        rw [← hL, ← he9] at this
        omega
      have hRA := hR.pf hzf
      obtain ⟨FA, pA, hA3, hAl, -⟩ := id hP
      have hLe : (out ++ L).length = out.length + L.length := List.length_append ..
      refine lv_iload hx hb dP_writeTerm_18 (lv_at hl 0 rfl) ?_
      refine lv_iconst (v := 4) hx hb dP_writeTerm_20 (by decide) ?_
      refine lv_icmp_ge (tgt := 90) hx hb dP_writeTerm_21 (by decide) (fun hc => absurd hc (show ¬ ((4 : Int32) ≤ (nI v)) from nI_ge (b := 4) hv4 (by decide))) (fun _ => ?_)
      refine lv_aload_n hx hb dP_writeTerm_24 rfl (lv_at hl 2 rfl) ?_
      refine zw_get (v := .ref (ad 1)) hx hb hT uP hown Z hA3 rfl 0 (by decide) (hT _ mf_P_9) (fun _ h9 => h9) rfl dP_writeTerm_25 ?_
      refine lv_iload_n hx hb dP_writeTerm_28 rfl (lv_at hl 3 rfl) ?_
      refine lv_iload hx hb dP_writeTerm_29 (lv_at hl 0 rfl) ?_
      refine zw_calli (va_runV (As := [.int (nI i), .int (nI v)]) (rest := []) ⟨hx, hb, hml, hown, hts⟩ (c_R_exponentOf l P n o FR hRA i v hi hv4) (kw_R_exponentOf hts ml_P_40 (zR_fit (by omega) (by omega))) (Z.preV hRA.1 rfl _) rfl rfl hl.1 rfl (lv_room (Nat.le_of_ble_eq_true rfl)) dP_writeTerm_31 ⟨Nat.le_of_ble_eq_true rfl, Nat.le_of_ble_eq_true rfl⟩) Z (fun r wq H locs hp Z => ?_)
      obtain ⟨rfl, hw1⟩ := hp
      rw [hw1] at Z
      clear hw1
      rw [← he9]
      refine lv_istore (lv' := [(5, .int (nI e9)), (4, .int (nI v)), (3, .int (nI out.length)), (0, .ref (ad 3)), (1, .int (nI i)), (2, .int (nI c9))]) hx hb dP_writeTerm_34 hl (by decide) rfl (fun ls hl => ?_)
      refine lv_iload hx hb dP_writeTerm_36 (lv_at hl 0 rfl) ?_
      have tail : ∀ (wB : Nat → Option va_E) (H : Heap) (locs : List Loc), zPrn G ad wB (out ++ zjoin L (zvf v e9)) → zpf w wB → zw G ad wB s H locs → W p l e (zR (5)) s m ([.ref (ad 3), .int (nI i), .int (nI c9)] : List Value).toArray below meth c H locs 0 0 Q (F0 m 84 ls []) := by
        intro wB H locs hP hzf Z
        refine lv_iinc (v := (nI (v + 1))) (lv' := [(4, .int (nI (v + 1))), (5, .int (nI e9)), (3, .int (nI out.length)), (0, .ref (ad 3)), (1, .int (nI i)), (2, .int (nI c9))]) hx hb dP_writeTerm_84 hl (k := 1) rfl (nI_1 v) (by decide) rfl (fun ls hl => ?_)
        refine lv_goto (tgt := 18) hx hb dP_writeTerm_87 (by decide) ?_
        exact ih (v + 1) wB _ _ ls (by omega) (by rw [hnx]; exact hP) hzf Z (lv_sub hl [0, 2, 3, 4, 5] rfl)
      refine lv_if_le (tgt := 84) hx hb dP_writeTerm_38 (by decide) (fun hc => ?_) (fun hc => ?_)
      · have h0 : e9 = 0 := by
          apply Classical.byContradiction
          intro h9
          exact nI_nle (by omega) (by omega) hc
        exact tail wA _ _ (by rw [zjoin_0 h0]; exact hP) hzf Z
      · have h0 : e9 ≠ 0 := fun h9 => hc (by rw [h9]; decide)
        have hroom := hroom h0
        have hvl : (zvf v e9).length = 1 + (if 1 < e9 then 94 :: zdig e9 else []).length := by unfold zvf; rw [if_neg h0, List.length_cons, Nat.add_comm]
        refine lv_aload_n hx hb dP_writeTerm_41 rfl (lv_at hl 3 rfl) ?_
        refine zw_get (v := .int (FA 2)) hx hb hT uP hown Z hA3 rfl 2 (by decide) (hT _ mf_P_21) (fun _ h9 => h9) rfl dP_writeTerm_42 ?_
        refine zw_top (nI (out ++ L).length) (hAl) ?_
        refine lv_iload_n hx hb dP_writeTerm_45 rfl (lv_at hl 2 rfl) ?_
        have cont : ∀ (Lb : List Nat) (wB : Nat → Option va_E) (H : Heap) (locs : List Loc), Lb = (if L = [] then [] else L ++ [42]) → zPrn G ad wB (out ++ Lb) → zpf w wB → zw G ad wB s H locs → W p l e (zR (5)) s m ([.ref (ad 3), .int (nI i), .int (nI c9)] : List Value).toArray below meth c H locs 0 0 Q (F0 m 55 ls []) := by
          intro Lb wB H locs hLb hP hzf Z
          have hLbl : Lb.length ≤ L.length + 1 := by
            rw [hLb]
            split
            · exact Nat.zero_le _
            · rw [List.length_append]; exact Nat.le_refl _
          have hLe : (out ++ Lb).length = out.length + Lb.length := List.length_append ..
          have hje := zjoin_e (L := L) (v := v) h0
          rw [← hLb] at hje
          obtain ⟨FA, pA, hA3, hAl, -⟩ := id hP
          refine lv_aload_n hx hb dP_writeTerm_55 rfl (lv_at hl 3 rfl) ?_
          refine va_ldcS hx hb hown hx1 dP_writeTerm_56 ?_
          refine lv_iload hx hb dP_writeTerm_58 (lv_at hl 1 rfl) ?_
          refine zw_calli (va_runV (As := [.int (nI v)]) (rest := [.ref (ad 3)]) ⟨hx, hb, hml, hown, hts⟩ (c_S_charAt l qs qv hX v hv4) (kw_S_charAt hts mlp_P_46 (zR_fit (by omega) (by omega))) ⟨zw.blind, vk_recv hx2 (i := 0) (by decide) Z.2.2.1, fun U hU hW => ⟨rfl, Z.at' hU hW⟩⟩ rfl rfl hl.1 rfl (lv_room (Nat.le_of_ble_eq_true rfl)) dP_writeTerm_60 ⟨Nat.le_of_ble_eq_true rfl, Nat.le_of_ble_eq_true rfl⟩) Z (fun r w1 H locs hp Z => ?_)
          obtain ⟨rfl, hw1⟩ := hp
          rw [hw1] at Z
          clear hw1
          refine zw_callv (va_runV (As := [.int (nI (znm v))]) (rest := []) ⟨hx, hb, hml, hown, hts⟩ (c_P_writeByte l _ hP (by omega) (znm v) (znm_lt v)) (kw_P_writeByte hts ml_P_28 (zR_fit (by omega) (by omega))) (Z.preV hA3 rfl _) rfl rfl hl.1 rfl (lv_room (Nat.le_of_ble_eq_true rfl)) dP_writeTerm_63 ⟨Nat.le_of_ble_eq_true rfl, Nat.le_of_ble_eq_true rfl⟩) Z (fun wC H locs hp Z => ?_)
          obtain ⟨hPC, hzC⟩ := hp
          have hzC := hzf.trans hzC
          obtain ⟨FC, pC, hC3, hCl, -⟩ := id hPC
          have hLeC : (out ++ Lb ++ [znm v]).length = out.length + Lb.length + 1 := by rw [List.length_append, hLe]; rfl
          refine lv_iload hx hb dP_writeTerm_66 (lv_at hl 0 rfl) ?_
          refine lv_iconst (v := 1) hx hb dP_writeTerm_68 (by decide) ?_
          refine lv_icmp_le (tgt := 84) hx hb dP_writeTerm_69 (by decide) (fun hc3 => ?_) (fun hc3 => ?_)
          · have h1 : ¬ 1 < e9 := fun h9 => absurd hc3 (nI_ge (b := e9) (a := 1) h9 (by omega))
            exact tail wC _ _ (hPC.to (by rw [hje, if_neg h1, List.append_nil, List.append_assoc])) hzC Z
          · have h1 : 1 < e9 := Nat.lt_of_not_le (fun h9 => hc3 (nI_le (b := 1) h9 (by decide)))
            rw [if_pos h1] at hje hvl
            have hdl := zdig_len e9
            have hd30 := zdig_l30 e9 he30
            rw [List.length_cons] at hvl
            refine lv_aload_n hx hb dP_writeTerm_72 rfl (lv_at hl 3 rfl) ?_
            refine lv_bipush (v := 94) hx hb dP_writeTerm_73 (by decide) ?_
            refine zw_callv (va_runV (As := [.int 94]) (rest := []) ⟨hx, hb, hml, hown, hts⟩ (c_P_writeByte l _ hPC (by omega) 94 (by decide)) (kw_P_writeByte hts ml_P_28 (zR_fit (by omega) (by omega))) (Z.preV hC3 rfl _) rfl rfl hl.1 rfl (lv_room (Nat.le_of_ble_eq_true rfl)) dP_writeTerm_75 ⟨Nat.le_of_ble_eq_true rfl, Nat.le_of_ble_eq_true rfl⟩) Z (fun wD H locs hp Z => ?_)
            obtain ⟨hPD, hzD⟩ := hp
            have hzD := hzC.trans hzD
            obtain ⟨FD, pD, hD3, hDl, -⟩ := id hPD
            refine lv_aload_n hx hb dP_writeTerm_78 rfl (lv_at hl 3 rfl) ?_
            refine lv_iload hx hb dP_writeTerm_79 (lv_at hl 0 rfl) ?_
            refine zw_callv (va_runV (As := [.int (nI e9)]) (rest := []) ⟨hx, hb, hml, hown, hts⟩ (c_P_writeNumber l _ hPD e9 (by omega) (by rw [List.length_append, hLeC]; show out.length + Lb.length + 1 + 1 + (zdig e9).length ≤ 2268; omega)) (kw_P_writeNumber hts ml_P_36 (zR_fit (by omega) (by omega))) (Z.preV hD3 rfl _) rfl rfl hl.1 rfl (lv_room (Nat.le_of_ble_eq_true rfl)) dP_writeTerm_81 ⟨Nat.le_of_ble_eq_true rfl, Nat.le_of_ble_eq_true rfl⟩) Z (fun wE H locs hp Z => ?_)
            exact tail wE _ _ (hp.1.to (by rw [hje]; simp)) (hzD.trans hp.2) Z
        refine lv_icmp_le (tgt := 55) hx hb dP_writeTerm_46 (by decide) (fun hc2 => ?_) (fun hc2 => ?_)
        · have hLn : L = [] := by
            apply Classical.byContradiction
            intro h9
            have h8 : 0 < L.length := List.length_pos_iff.mpr h9
            exact nI_ge (a := out.length) (b := (out ++ L).length) (by omega) (by omega) hc2
          exact cont [] wA _ _ (by rw [if_pos hLn]) (hP.to (by rw [hLn])) hzf Z
        · have hLn : ¬ L = [] := fun h9 => hc2 (by rw [h9, List.append_nil]; exact nI_le (Nat.le_refl _) (by omega))
          refine lv_aload_n hx hb dP_writeTerm_49 rfl (lv_at hl 3 rfl) ?_
          refine lv_bipush (v := 42) hx hb dP_writeTerm_50 (by decide) ?_
          refine zw_callv (va_runV (As := [.int 42]) (rest := []) ⟨hx, hb, hml, hown, hts⟩ (c_P_writeByte l _ hP (by omega) 42 (by decide)) (kw_P_writeByte hts ml_P_28 (zR_fit (by omega) (by omega))) (Z.preV hA3 rfl _) rfl rfl hl.1 rfl (lv_room (Nat.le_of_ble_eq_true rfl)) dP_writeTerm_52 ⟨Nat.le_of_ble_eq_true rfl, Nat.le_of_ble_eq_true rfl⟩) Z (fun wB H locs hp Z => ?_)
          exact cont (L ++ [42]) wB _ _ (by rw [if_neg hLn]) (hp.1.to (List.append_assoc ..)) (hzf.trans hp.2) Z
  have cont : ∀ (wA : Nat → Option va_E) (H : Heap) (locs : List Loc), zPrn G ad wA (out ++ zl0 c9) → zpf w wA → zw G ad wA s H locs → W p l e (zR (5)) s m ([.ref (ad 3), .int (nI i), .int (nI c9)] : List Value).toArray below meth c H locs 0 0 Q (F0 m 15 ls []) := by
    intro wA H locs hP hzf Z
    refine lv_iconst (v := 0) hx hb dP_writeTerm_15 (by decide) ?_
    refine lv_istore (lv' := [(4, .int 0), (3, .int (nI out.length)), (0, .ref (ad 3)), (1, .int (nI i)), (2, .int (nI c9))]) hx hb dP_writeTerm_16 hl (by decide) rfl (fun ls hl => ?_)
    exact loop 4 0 wA _ _ ls (by omega) hP hzf Z (lv_sub hl [0, 1, 2, 3, 4] rfl)
  refine lv_iload_n hx hb dP_writeTerm_5 rfl (lv_at hl 3 rfl) ?_
  refine lv_iconst (v := 1) hx hb dP_writeTerm_6 (by decide) ?_
  refine lv_icmp_eq (tgt := 15) hx hb dP_writeTerm_7 (by decide) (fun hc => ?_) (fun hc => ?_)
  · have h1 : c9 = 1 := (nI_eq (b := 1) (by omega) (by decide)).mp hc
    exact cont w _ _ (h.to (by unfold zl0; rw [if_pos h1, List.append_nil])) (zpf.rfl' w) Z
  · have h1 : ¬ c9 = 1 := fun h9 => hc (by rw [h9]; rfl)
    refine lv_aload_n hx hb dP_writeTerm_10 rfl (lv_at hl 1 rfl) ?_
    refine lv_iload_n hx hb dP_writeTerm_11 rfl (lv_at hl 3 rfl) ?_
    refine zw_callv (va_runV (As := [.int (nI c9)]) (rest := []) ⟨hx, hb, hml, hown, hts⟩ (c_P_writeNumber l out h c9 (by omega) (by have := zdig_len c9; omega)) (kw_P_writeNumber hts ml_P_36 (zR_fit (by omega) (by omega))) (Z.preV h3 rfl _) rfl rfl hl.1 rfl (lv_room (Nat.le_of_ble_eq_true rfl)) dP_writeTerm_12 ⟨Nat.le_of_ble_eq_true rfl, Nat.le_of_ble_eq_true rfl⟩) Z (fun wB H locs hp Z => ?_)
    exact cont wB _ _ (hp.1.to (by unfold zl0; rw [if_neg h1])) hp.2 Z

set_option maxHeartbeats 4000000 in
set_option maxRecDepth 100000 in
theorem c_P_writePolynomial (l : Launch) {G : zG} {ad : Nat → Nat} {w : Nat → Option va_E} (qs qv : Nat) (hX : ∀ U H, G.2.2.2 U H → zSTR G qs qv U H) (P n o : Nat) (FR : Nat → Int32) (hR : zRing G ad w P n o FR) (out0 : List Nat) (h : zPrn G ad w out0) (t : Nat) (A : Nat → Nat) (ht : 20 ≤ t) (hA : w t = some (zrow G A)) (hpA : zpol n P A) : Met l yP_writePolynomial wP_writePolynomial (zR (6)) (va_Pc [.ref (ad 3), .ref (ad t)] (zw_U G ad w)) (va_Qi (S := Nat → Option va_E) (fun r w' => r = nI (zprint n o A).length ∧ zPrn G ad w' (zprint n o A) ∧ zpf w w') (fun u t => zw_U G ((fun _ => ad) u) ((fun w' => w') u) t) (zA G)) 0 0 (zA G) := by
  refine zw_methi (S := Nat → Option va_E) (fa := fun _ => ad) (fw := fun w' => w') (by decide) rfl (Nat.le_of_ble_eq_true rfl) ?_
  intro p e s m below meth c Q ls C hname Z hl hret
  obtain ⟨hx, hb, hml, hown, hts, hlk⟩ := C
  have hT : ∀ w ∈ zT, w.before ([.ref (ad 3), .ref (ad t)] : List Value).toArray s = true := fun w h => hts w (List.mem_cons_of_mem _ h)
  have hown : s.vm.findClass "PolynomialDesk$Printer" = some m.cls := hown
  have hl : lv_has ls 3 [(0, .ref (ad 3)), (1, .ref (ad t))] := hl
  have hcfg := hR.2.2.2.1
  have hct := zCt_le (n := n)
  have hP2 := hR.2.2.1.2
  obtain ⟨FP0, p0, h03, -⟩ := id h
  have hz126 : zpr n o A 126 = zpr n o A (zCt n) := zpr_out (c := zCt n) hpA.2 126 hct
  refine lv_aload_n hx hb dP_writePolynomial_0 rfl (lv_at hl 0 rfl) ?_
  refine zw_callv (va_runV (As := []) (rest := []) ⟨hx, hb, hml, hown, hts⟩ (c_P_clear l out0 h) (kw_P_clear hts ml_P_25 (zR_fit (by omega) (by omega))) (Z.preV h03 rfl _) rfl rfl hl.1 rfl (lv_room (Nat.le_of_ble_eq_true rfl)) dP_writePolynomial_1 ⟨Nat.le_of_ble_eq_true rfl, Nat.le_of_ble_eq_true rfl⟩) Z (fun w1 H locs hp Z => ?_)
  obtain ⟨hP1, hz1⟩ := hp
  refine lv_iconst (v := 0) hx hb dP_writePolynomial_4 (by decide) ?_
  refine lv_istore_n (lv' := [(2, .int 0), (0, .ref (ad 3)), (1, .ref (ad t))]) hx hb dP_writePolynomial_5 rfl hl (by decide) rfl (fun ls hl => ?_)
  have loop : ∀ (d j : Nat) (wA : Nat → Option va_E) (H : Heap) (locs : List Loc) (ls : Array Slot), d + j = 126 → zPrn G ad wA (zpr n o A j) → zpf w wA → zw G ad wA s H locs → lv_has ls 3 [(2, .int (nI j)), (0, .ref (ad 3)), (1, .ref (ad t))] → W p l e (zR (6)) s m ([.ref (ad 3), .ref (ad t)] : List Value).toArray below meth c H locs 0 0 Q (F0 m 6 ls []) := by
    intro d
    induction d with
    | zero =>
      intro j wA H locs ls hdj hP hzf Z hl
      have hj4 : j = 126 := by omega
      subst hj4
      rw [hz126] at hP
      have hln := zpr_len hcfg A (zCt n) (Nat.le_refl _)
      obtain ⟨FA, pA, hA3, hAl, -⟩ := id hP
      have hAt : wA t = some (zrow G A) := by rw [hzf t (by omega) (by omega)]; exact hA
      refine lv_iload_n hx hb dP_writePolynomial_6 rfl (lv_at hl 0 rfl) ?_
      refine lv_aload_n hx hb dP_writePolynomial_7 rfl (lv_at hl 2 rfl) ?_
      refine zw_alen (v := nI 126) hx hb Z 0 hAt rfl rfl dP_writePolynomial_8 ?_
      refine lv_icmp_ge (tgt := 45) hx hb dP_writePolynomial_9 (by decide) (fun _ => ?_) (fun hc => absurd (show ((nI 126) : Int32) ≤ (nI 126) from by decide) hc)
      refine lv_aload_n hx hb dP_writePolynomial_45 rfl (lv_at hl 1 rfl) ?_
      refine zw_get (v := .int (FA 2)) hx hb hT uP hown Z hA3 rfl 2 (by decide) (hT _ mf_P_21) (fun _ h9 => h9) rfl dP_writePolynomial_46 ?_
      refine zw_top (nI (zpr n o A (zCt n)).length) (hAl) ?_
      refine lv_if_ne (tgt := 58) hx hb dP_writePolynomial_49 (by decide) (fun hc => ?_) (fun hc => ?_)
      · have hne : ¬ zpr n o A (zCt n) = [] := fun h9 => hc (by rw [h9]; rfl)
        have hpe : zprint n o A = zpr n o A (zCt n) := if_neg hne
        refine lv_aload_n hx hb dP_writePolynomial_58 rfl (lv_at hl 1 rfl) ?_
        refine zw_get (v := .int (FA 2)) hx hb hT uP hown Z hA3 rfl 2 (by decide) (hT _ mf_P_21) (fun _ h9 => h9) rfl dP_writePolynomial_59 ?_
        refine zw_top (nI (zpr n o A (zCt n)).length) (hAl) ?_
        exact hret _ _ _ _ _ _ dP_writePolynomial_62 (by rw [hpe]; exact ⟨rfl, hP, hzf⟩) Z
      · have hn0 : zpr n o A (zCt n) = [] := List.length_eq_zero_iff.mp ((nI_eq (b := 0) (by omega) (by decide)).mp hc)
        have hpe : zprint n o A = [48] := if_pos hn0
        rw [hn0] at hP
        refine lv_aload_n hx hb dP_writePolynomial_52 rfl (lv_at hl 1 rfl) ?_
        refine lv_bipush (v := 48) hx hb dP_writePolynomial_53 (by decide) ?_
        refine zw_callv (va_runV (As := [.int 48]) (rest := []) ⟨hx, hb, hml, hown, hts⟩ (c_P_writeByte l [] hP (by decide) 48 (by decide)) (kw_P_writeByte hts ml_P_28 (zR_fit (by omega) (by omega))) (Z.preV hA3 rfl _) rfl rfl hl.1 rfl (lv_room (Nat.le_of_ble_eq_true rfl)) dP_writePolynomial_55 ⟨Nat.le_of_ble_eq_true rfl, Nat.le_of_ble_eq_true rfl⟩) Z (fun wB H locs hp Z => ?_)
        obtain ⟨hPB, hzB⟩ := hp
        obtain ⟨FB, pB, hB3, hBl, -⟩ := id hPB
        refine lv_aload_n hx hb dP_writePolynomial_58 rfl (lv_at hl 1 rfl) ?_
        refine zw_get (v := .int (FB 2)) hx hb hT uP hown Z hB3 rfl 2 (by decide) (hT _ mf_P_21) (fun _ h9 => h9) rfl dP_writePolynomial_59 ?_
        refine zw_top (nI 1) (hBl) ?_
        exact hret _ _ _ _ _ _ dP_writePolynomial_62 (by rw [hpe]; exact ⟨rfl, hPB, hzf.trans hzB⟩) Z
    | succ d ih =>
      intro j wA H locs ls hdj hP hzf Z hl
      obtain ⟨FA, pA, hA3, hAl, -⟩ := id hP
      have hAt : wA t = some (zrow G A) := by rw [hzf t (by omega) (by omega)]; exact hA
      have hAj := hpA.1 j
      refine lv_iload_n hx hb dP_writePolynomial_6 rfl (lv_at hl 0 rfl) ?_
      refine lv_aload_n hx hb dP_writePolynomial_7 rfl (lv_at hl 2 rfl) ?_
      refine zw_alen (v := nI 126) hx hb Z 0 hAt rfl rfl dP_writePolynomial_8 ?_
      refine lv_icmp_ge (tgt := 45) hx hb dP_writePolynomial_9 (by decide) (fun hc => absurd hc (show ¬ (((nI 126) : Int32) ≤ (nI j)) from nI_ge (b := 126) (by omega) (by decide))) (fun _ => ?_)
      refine lv_aload_n hx hb dP_writePolynomial_12 rfl (lv_at hl 2 rfl) ?_
      refine lv_iload_n hx hb dP_writePolynomial_13 rfl (lv_at hl 0 rfl) ?_
      refine zw_iald hx hb Z hAt (vin (by omega) (by decide)) dP_writePolynomial_14 ?_
      refine zw_top (nI (A j)) (by rw [ncl (by omega)]) ?_
      have tail : ∀ (wB : Nat → Option va_E) (H : Heap) (locs : List Loc), zPrn G ad wB (zpr n o A (j + 1)) → zpf w wB → zw G ad wB s H locs → W p l e (zR (6)) s m ([.ref (ad 3), .ref (ad t)] : List Value).toArray below meth c H locs 0 0 Q (F0 m 39 ls []) := by
        intro wB H locs hP hzf Z
        refine lv_iinc (v := (nI (j + 1))) (lv' := [(2, .int (nI (j + 1))), (0, .ref (ad 3)), (1, .ref (ad t))]) hx hb dP_writePolynomial_39 hl (k := 0) rfl (nI_1 j) (by decide) rfl (fun ls hl => ?_)
        refine lv_goto (tgt := 6) hx hb dP_writePolynomial_42 (by decide) ?_
        exact ih (j + 1) wB _ _ ls (by omega) hP hzf Z (lv_sub hl [0, 1, 2] rfl)
      refine lv_if_eq (tgt := 39) hx hb dP_writePolynomial_15 (by decide) (fun hc => ?_) (fun hc => ?_)
      · have h0 : A j = 0 := (nI_eq (b := 0) (by omega) (by decide)).mp hc
        exact tail wA _ _ (hP.to (by rw [zpr, if_pos h0])) hzf Z
      · have h0 : ¬ A j = 0 := fun h9 => hc (by rw [h9]; rfl)
        have hjc : j < zCt n := Nat.lt_of_not_le (fun h9 => h0 (hpA.2 j h9))
        have hln := zpr_len hcfg A j (by omega)
        refine lv_aload_n hx hb dP_writePolynomial_18 rfl (lv_at hl 1 rfl) ?_
        refine zw_get (v := .int (FA 2)) hx hb hT uP hown Z hA3 rfl 2 (by decide) (hT _ mf_P_21) (fun _ h9 => h9) rfl dP_writePolynomial_19 ?_
        refine zw_top (nI (zpr n o A j).length) (hAl) ?_
        have cont : ∀ (L : List Nat) (wB : Nat → Option va_E) (H : Heap) (locs : List Loc), L ++ zpt n o j (A j) = zpr n o A (j + 1) → L.length ≤ 18 * j + 1 → zPrn G ad wB L → zpf w wB → zw G ad wB s H locs → W p l e (zR (6)) s m ([.ref (ad 3), .ref (ad t)] : List Value).toArray below meth c H locs 0 0 Q (F0 m 31 ls []) := by
          intro L wB H locs hL hLl hP hzf Z
          obtain ⟨FB, pB, hB3, hBl, -⟩ := id hP
          have hAt : wB t = some (zrow G A) := by rw [hzf t (by omega) (by omega)]; exact hA
          refine lv_aload_n hx hb dP_writePolynomial_31 rfl (lv_at hl 1 rfl) ?_
          refine lv_iload_n hx hb dP_writePolynomial_32 rfl (lv_at hl 0 rfl) ?_
          refine lv_aload_n hx hb dP_writePolynomial_33 rfl (lv_at hl 2 rfl) ?_
          refine lv_iload_n hx hb dP_writePolynomial_34 rfl (lv_at hl 0 rfl) ?_
          refine zw_iald hx hb Z hAt (vin (by omega) (by decide)) dP_writePolynomial_35 ?_
          refine zw_top (nI (A j)) (by rw [ncl (by omega)]) ?_
          refine zw_callv (va_runV (As := [.int (nI j), .int (nI (A j))]) (rest := []) ⟨hx, hb, hml, hown, hts⟩ (c_P_writeTerm l qs qv hX P n o FR (hR.pf hzf) L hP j (A j) hjc (by omega) (by omega)) (kw_P_writeTerm hts ml_P_32 (zR_fit (by omega) (by omega))) (Z.preV hB3 rfl _) rfl rfl hl.1 rfl (lv_room (Nat.le_of_ble_eq_true rfl)) dP_writePolynomial_36 ⟨Nat.le_of_ble_eq_true rfl, Nat.le_of_ble_eq_true rfl⟩) Z (fun wC H locs hp Z => ?_)
          exact tail wC _ _ (hp.1.to hL) (hzf.trans hp.2) Z
        refine lv_if_le (tgt := 31) hx hb dP_writePolynomial_22 (by decide) (fun hc2 => ?_) (fun hc2 => ?_)
        · have hn : zpr n o A j = [] := by
            apply Classical.byContradiction
            intro h9
            have h8 : 0 < (zpr n o A j).length := List.length_pos_iff.mpr h9
            exact nI_nle h8 (by omega) hc2
          exact cont (zpr n o A j) wA _ _ (by rw [hn, zpr, if_neg h0, if_pos hn]; rfl) (by omega) hP hzf Z
        · have hn : ¬ zpr n o A j = [] := fun h9 => hc2 (by rw [h9]; decide)
          refine lv_aload_n hx hb dP_writePolynomial_25 rfl (lv_at hl 1 rfl) ?_
          refine lv_bipush (v := 43) hx hb dP_writePolynomial_26 (by decide) ?_
          refine zw_callv (va_runV (As := [.int 43]) (rest := []) ⟨hx, hb, hml, hown, hts⟩ (c_P_writeByte l _ hP (by omega) 43 (by decide)) (kw_P_writeByte hts ml_P_28 (zR_fit (by omega) (by omega))) (Z.preV hA3 rfl _) rfl rfl hl.1 rfl (lv_room (Nat.le_of_ble_eq_true rfl)) dP_writePolynomial_28 ⟨Nat.le_of_ble_eq_true rfl, Nat.le_of_ble_eq_true rfl⟩) Z (fun wB H locs hp Z => ?_)
          exact cont (zpr n o A j ++ [43]) wB _ _ (by rw [zpr, if_neg h0, if_neg hn, List.append_assoc]; rfl) (by rw [List.length_append]; show _ + 1 ≤ _; omega) hp.1 (hzf.trans hp.2) Z
  exact loop 126 0 w1 _ _ ls (by omega) hP1 hz1 Z (lv_sub hl [0, 1, 2] rfl)
