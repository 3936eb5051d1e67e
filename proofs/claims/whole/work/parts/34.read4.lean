set_option maxHeartbeats 4000000 in
set_option maxRecDepth 100000 in
theorem c_E_readTerm (l : Launch) {G : zG} {ad : Nat → Nat} (P n o : Nat) (FR : Nat → Int32) (T : Nat → Nat) (len k : Nat) (hk : k ≤ 20) (hFc : zFC l G ad P n o FR T len k) : zTC l G ad P n o FR T len k := by
  intro w FE p9 hE hat hf0 hp9
  refine zw_methv (S := Nat → Option va_E) (fa := fun _ => ad) (fw := fun w' => w') (by decide) rfl (Nat.le_of_ble_eq_true rfl) ?_
  intro p e s m below meth c Q ls C hname Z hl hret
  obtain ⟨hx, hb, hml, hown, hts, hlk⟩ := C
  have hT : ∀ w ∈ zT, w.before ([.ref (ad 2), .int (nI (20 - k))] : List Value).toArray s = true := fun w h => hts w (List.mem_cons_of_mem _ h)
  have hown : s.vm.findClass "PolynomialDesk$Reader" = some m.cls := hown
  have hl : lv_has ls 5 [(0, .ref (ad 2)), (1, .int (nI (20 - k)))] := hl
  obtain ⟨hR, h2, ⟨tx, h10, htx⟩, hTb, hlen, hFl, h11, h12, hrows⟩ := id hE
  obtain ⟨-, ⟨hF0, hF1, hF2, hF3, hF4⟩, ⟨hP1, hP2⟩, hcfg, -⟩ := id hR
  have hi0 := zIdx_ok (n := n) (o := o) (k := 0) (by obtain ⟨i, a, b, _⟩ := zConst hcfg; exact ⟨i, a, b⟩)
  have hd0 : zDg n o (zIdx n o 0) = 0 := by obtain ⟨i, a, b, c9⟩ := zConst hcfg; rw [zKy_inj hcfg hi0.1 a (by rw [hi0.2, b])]; exact c9
  have hn4 := hcfg.2.1
  have hgr := zGrp_ok (T := T) (len := len) hcfg hP1 k
  refine lv_iload_n hx hb dE_readTerm_0 rfl (lv_at hl 1 rfl) ?_
  refine lv_if_lt (tgt := 10) hx hb dE_readTerm_1 (by decide) (fun hc => absurd hc (show ¬ (((nI (20 - k)) : Int32) < 0) from nI_pos (by omega))) (fun _ => ?_)
  refine lv_iload_n hx hb dE_readTerm_4 rfl (lv_at hl 1 rfl) ?_
  refine lv_bipush (v := 20) hx hb dE_readTerm_5 (by decide) ?_
  refine lv_icmp_le (tgt := 11) hx hb dE_readTerm_7 (by decide) (fun _ => ?_) (fun hc => absurd (show ((nI (20 - k)) : Int32) ≤ 20 from nI_le (b := 20) (by omega) (by decide)) hc)
  refine lv_aload_n hx hb dE_readTerm_11 rfl (lv_at hl 0 rfl) ?_
  refine zw_get (v := .ref (ad 12)) hx hb hT uE hown Z hE.2.1 rfl 7 (by decide) (hT _ mf_E_30) (fun _ h9 => h9) rfl dE_readTerm_12 ?_
  refine lv_iload_n hx hb dE_readTerm_15 rfl (lv_at hl 1 rfl) ?_
  refine zw_aald (v := .ref (ad (49 + (20 - k)))) hx hb Z h12 (vin (by omega) (by decide)) (by rw [ncl (by omega)]; rfl) dE_readTerm_16 ?_
  refine lv_astore_n (lv' := [(2, .ref (ad (49 + (20 - k)))), (0, .ref (ad 2)), (1, .int (nI (20 - k)))]) hx hb dE_readTerm_17 rfl hl (by decide) rfl (fun ls hl => ?_)
  refine lv_aload_n hx hb dE_readTerm_18 rfl (lv_at hl 1 rfl) ?_
  refine lv_iload_n hx hb dE_readTerm_19 rfl (lv_at hl 2 rfl) ?_
  refine zw_callv (va_runV (As := [.int (nI (20 - k))]) (rest := []) ⟨hx, hb, hml, hown, hts⟩ (hFc _ _ p9 hE hat hf0 hp9) (kw_E_readFactor hts ml_E_81 (zR_fit (by omega) (by omega))) (Z.preV hE.2.1 rfl _) rfl rfl hl.1 rfl (lv_room (Nat.le_of_ble_eq_true rfl)) dE_readTerm_20 ⟨Nat.le_of_ble_eq_true rfl, Nat.le_of_ble_eq_true rfl⟩) Z (fun w1 H locs hp Z => ?_)
  obtain ⟨FE1, hE1, hz1, hm⟩ := hp
  obtain ⟨g70, h701⟩ := hE1.2.2.2.2.2.2.2.2 70 (by decide) (by decide)
  obtain ⟨gp, hgp⟩ := hE1.2.2.2.2.2.2.2.2 (49 + (20 - k)) (by omega) (by omega)
  refine lv_aload_n hx hb dE_readTerm_23 rfl (lv_at hl 1 rfl) ?_
  refine zw_get (v := .ref (ad 1)) hx hb hT uE hown Z hE1.2.1 rfl 0 (by decide) (hT _ mf_E_9) (fun _ h9 => h9) rfl dE_readTerm_24 ?_
  refine lv_aload_n hx hb dE_readTerm_27 rfl (lv_at hl 1 rfl) ?_
  refine zw_get (v := .ref (ad 70)) hx hb hT uE hown Z hE1.2.1 rfl 8 (by decide) (hT _ mf_E_33) (fun _ h9 => h9) rfl dE_readTerm_28 ?_
  refine lv_aload_n hx hb dE_readTerm_31 rfl (lv_at hl 0 rfl) ?_
  refine zw_callv (va_runV (As := [.ref (ad 70), .ref (ad (49 + (20 - k)))]) (rest := []) ⟨hx, hb, hml, hown, hts⟩ (c_R_writeCopy l 70 (49 + (20 - k)) g70 gp h701 hgp) (kw_R_writeCopy hts ml_E_60 (zR_fit (by omega) (by omega))) (Z.preV hE1.1.1 rfl _) rfl rfl hl.1 rfl (lv_room (Nat.le_of_ble_eq_true rfl)) dE_readTerm_32 ⟨Nat.le_of_ble_eq_true rfl, Nat.le_of_ble_eq_true rfl⟩) Z (fun w2 H locs hp Z => ?_)
  subst hp
  have hE2 : zRdr G ad (va_up w1 (49 + (20 - k)) (some (zi G 126 g70))) P n o FR FE1 T len := hE1.row (by omega) (by omega)
  have hz2 : zrf (21 - k) (20 - k) w (va_up w1 (49 + (20 - k)) (some (zi G 126 g70))) := (hz1.mono (by omega) (by omega)).trans (zrf.row (by omega) (by omega) (by omega))
  cases hb9 : zFac n o P T len (zGrp n o P T len k) p9 with
  | inl x9 =>
    obtain ⟨f, pl⟩ := x9
    rw [hb9] at hm
    refine lv_iconst (v := 1) hx hb dE_readTerm_35 (by decide) ?_
    refine lv_istore_n (lv' := [(3, .int 1), (2, .ref (ad (49 + (20 - k)))), (0, .ref (ad 2)), (1, .int (nI (20 - k)))]) hx hb dE_readTerm_36 rfl hl (by decide) rfl (fun ls hl => ?_)
    refine lv_iload_n hx hb dE_readTerm_37 rfl (lv_at hl 0 rfl) ?_
    refine lv_sipush (v := 200) hx hb dE_readTerm_38 (by decide) ?_
    refine lv_icmp_ge (tgt := 136) hx hb dE_readTerm_41 (by decide) (fun hc => absurd hc (show ¬ ((200 : Int32) ≤ 1) from by decide)) (fun _ => ?_)
    refine lv_aload_n hx hb dE_readTerm_44 rfl (lv_at hl 2 rfl) ?_
    refine zw_get (v := .int (FE1 4)) hx hb hT uE hown Z hE2.2.1 rfl 4 (by decide) (hT _ mf_E_42) (fun _ h9 => h9) rfl dE_readTerm_45 ?_
    refine zw_top (nI f) (hm.1) ?_
    refine lv_if_ne (tgt := 136) hx hb dE_readTerm_48 (by decide) (fun _ => ?_) (fun hc => absurd hc (show ¬ ((nI f) : Int32) = 0 from nI_ne0 (by omega) (by omega)))
    exact hret _ _ _ _ _ dE_readTerm_136 (⟨FE1, hE2, hz2, by rw [zTerm, hb9]; exact hm⟩) Z
  | inr x9 =>
    obtain ⟨A, e1⟩ := x9
    rw [hb9] at hm
    obtain ⟨ha1, hf1, h51, h70A⟩ := hm
    have hgA : g70 = fun j => nI (A j) := by
      have h9 := h701.symm.trans h70A
      injection h9 with h9
      injection h9 with h9
      injection h9 with _ h9
      injection h9 with _ h9
      injection h9
    subst hgA
    have hok := zFac_ok hcfg hP1 hgr hp9 hb9
    refine lv_iconst (v := 1) hx hb dE_readTerm_35 (by decide) ?_
    refine lv_istore_n (lv' := [(3, .int 1), (2, .ref (ad (49 + (20 - k)))), (0, .ref (ad 2)), (1, .int (nI (20 - k)))]) hx hb dE_readTerm_36 rfl hl (by decide) rfl (fun ls hl => ?_)
    have loop : ∀ (f9 : Nat) (A : Nat → Nat) (e1 : Nat) (wA : Nat → Option va_E) (FA : Nat → Int32) (H : Heap) (locs : List Loc) (ls : Array Slot), f9 ≤ 199 → zRdr G ad wA P n o FR FA T len → zrf (21 - k) (20 - k) w wA → FA 3 = nI e1 → FA 4 = 0 → FA 5 = FE 5 → wA (49 + (20 - k)) = some (zrow G A) → e1 ≤ len → zpol n P A → zTerm n o P T len (zGrp n o P T len k) p9 = zTL n o P T len (zGrp n o P T len k) f9 A e1 → zw G ad wA s H locs → lv_has ls 5 [(3, .int (nI (200 - f9))), (2, .ref (ad (49 + (20 - k)))), (0, .ref (ad 2)), (1, .int (nI (20 - k)))] → W p l e (zR (6 * k + 9)) s m ([.ref (ad 2), .int (nI (20 - k))] : List Value).toArray below meth c H locs 0 0 Q (F0 m 37 ls []) := by
      intro f9
      induction f9 with
      | zero =>
        intro A e1 wA FA H locs ls hf9 hEA hzA haA hfA h5A hrA heA hpA hsp Z hl
        refine lv_iload_n hx hb dE_readTerm_37 rfl (lv_at hl 0 rfl) ?_
        refine lv_sipush (v := 200) hx hb dE_readTerm_38 (by decide) ?_
        refine lv_icmp_ge (tgt := 136) hx hb dE_readTerm_41 (by decide) (fun _ => ?_) (fun hc => absurd (show (200 : Int32) ≤ (nI (200 - 0)) from by decide) hc)
        exact hret _ _ _ _ _ dE_readTerm_136 (⟨FA, hEA, hzA, by rw [hsp]; exact ⟨haA, hfA, h5A, hrA⟩⟩) Z
      | succ f9 ih =>
        intro A e1 wA FA H locs ls hf9 hEA hzA haA hfA h5A hrA heA hpA hsp Z hl
        obtain ⟨q, hq⟩ : ∃ q, q = zsp T len e1 := ⟨_, rfl⟩
        have hql := zsp_in (T := T) heA
        rw [← hq] at hql
        refine lv_iload_n hx hb dE_readTerm_37 rfl (lv_at hl 0 rfl) ?_
        refine lv_sipush (v := 200) hx hb dE_readTerm_38 (by decide) ?_
        refine lv_icmp_ge (tgt := 136) hx hb dE_readTerm_41 (by decide) (fun hc => absurd hc (show ¬ ((200 : Int32) ≤ (nI (200 - (f9 + 1)))) from nI_ge (b := 200) (by omega) (by decide))) (fun _ => ?_)
        refine lv_aload_n hx hb dE_readTerm_44 rfl (lv_at hl 2 rfl) ?_
        refine zw_get (v := .int (FA 4)) hx hb hT uE hown Z hEA.2.1 rfl 4 (by decide) (hT _ mf_E_42) (fun _ h9 => h9) rfl dE_readTerm_45 ?_
        refine zw_top (0) (hfA) ?_
        refine lv_if_ne (tgt := 136) hx hb dE_readTerm_48 (by decide) (fun hc => absurd (show ((0) : Int32) = 0 from rfl) hc) (fun _ => ?_)
        refine lv_aload_n hx hb dE_readTerm_51 rfl (lv_at hl 2 rfl) ?_
        refine zw_calli (va_runV (As := []) (rest := []) ⟨hx, hb, hml, hown, hts⟩ (c_E_nextByte l P n o FR FA T len hEA e1 haA heA) (kw_E_nextByte hts ml_E_52 (zR_fit (by omega) (by omega))) (Z.preV hEA.2.1 rfl _) rfl rfl hl.1 rfl (lv_room (Nat.le_of_ble_eq_true rfl)) dE_readTerm_52 ⟨Nat.le_of_ble_eq_true rfl, Nat.le_of_ble_eq_true rfl⟩) Z (fun r wB H locs hp Z => ?_)
        obtain ⟨hr1, hwB⟩ := hp
        rw [← hq] at hr1 hwB
        subst hr1
        subst hwB
        have hEB : zRdr G ad (va_up wA 2 (some (oE ad (upd FA 3 (nI q))))) P n o FR (upd FA 3 (nI q)) T len := hEA.obj rfl
        refine lv_bipush (v := 42) hx hb dE_readTerm_55 (by decide) ?_
        refine lv_icmp_ne (tgt := 136) hx hb dE_readTerm_57 (by decide) (fun hc => ?_) (fun hc => ?_)
        · exact hret _ _ _ _ _ dE_readTerm_136 (⟨upd FA 3 (nI q), hEB, hzA.trans (zrf.obj (by omega) (by omega)), by rw [hsp, zTL, ← hq, if_neg hc]; exact ⟨rfl, hfA, h5A, by rw [va_up_ne _ _ (by omega)]; exact hrA⟩⟩) Z
        · have hqlt := (zch_c hc (by decide)).1
          refine lv_aload_n hx hb dE_readTerm_60 rfl (lv_at hl 2 rfl) ?_
          refine zw_get (v := .int ((upd FA 3 (nI q)) 3)) hx hb hT uE hown Z hEB.2.1 rfl 3 (by decide) (hT _ mf_E_45) (fun _ h9 => h9) rfl dE_readTerm_61 ?_
          refine zw_top (nI q) (rfl) ?_
          refine lv_istore (lv' := [(4, .int (nI q)), (3, .int (nI (200 - (f9 + 1)))), (2, .ref (ad (49 + (20 - k)))), (0, .ref (ad 2)), (1, .int (nI (20 - k)))]) hx hb dE_readTerm_64 hl (by decide) rfl (fun ls hl => ?_)
          refine lv_aload_n hx hb dE_readTerm_66 rfl (lv_at hl 3 rfl) ?_
          refine lv_dup hx hb dE_readTerm_67 rfl ?_
          refine zw_get (v := .int ((upd FA 3 (nI q)) 3)) hx hb hT uE hown Z hEB.2.1 rfl 3 (by decide) (hT _ mf_E_45) (fun _ h9 => h9) rfl dE_readTerm_68 ?_
          refine zw_top (nI q) (rfl) ?_
          refine lv_iconst (v := 1) hx hb dE_readTerm_71 (by decide) ?_
          refine lv_iadd hx hb dE_readTerm_72 ?_
          refine zw_top (nI (q + 1)) (nI_1 q) ?_
          refine zw_put (v := .int (nI (q + 1))) hx hb hT uE hown tE tE_ok nE Z hEB.2.1 rfl 3 (by decide) (hT _ mf_E_45) (fun _ h9 => h9) rfl rfl rfl (by simp) dE_readTerm_73 (fun H locs Z => ?_)
          have Z : zw G ad (va_up (va_up wA 2 (some (oE ad (upd FA 3 (nI q))))) 2 (some (oE ad (upd (upd FA 3 (nI q)) 3 (nI (q + 1)))))) s H locs := Z
          rw [bx_uu, upd_upd] at Z
          have hEC : zRdr G ad (va_up wA 2 (some (oE ad (upd FA 3 (nI (q + 1)))))) P n o FR (upd FA 3 (nI (q + 1))) T len := hEA.obj rfl
          refine lv_aload_n hx hb dE_readTerm_76 rfl (lv_at hl 3 rfl) ?_
          refine lv_iload_n hx hb dE_readTerm_77 rfl (lv_at hl 4 rfl) ?_
          refine zw_callv (va_runV (As := [.int (nI (20 - k))]) (rest := []) ⟨hx, hb, hml, hown, hts⟩ (hFc _ _ (q + 1) hEC rfl hfA (by omega)) (kw_E_readFactor hts ml_E_81 (zR_fit (by omega) (by omega))) (Z.preV hEC.2.1 rfl _) rfl rfl hl.1 rfl (lv_room (Nat.le_of_ble_eq_true rfl)) dE_readTerm_78 ⟨Nat.le_of_ble_eq_true rfl, Nat.le_of_ble_eq_true rfl⟩) Z (fun wD H locs hp Z => ?_)
          obtain ⟨FD, hED, hzD, hmD⟩ := hp
          have hrD : wD (49 + (20 - k)) = some (zrow G A) := by rw [hzD _ (by omega), va_up_ne _ _ (by omega)]; exact hrA
          have hzD2 : zrf (21 - k) (20 - k) w wD := (hzA.trans (zrf.obj (by omega) (by omega))).trans (hzD.mono (by omega) (by omega))
          have fin : ∀ (f pl : Nat) (wF : Nat → Option va_E) (FF : Nat → Int32) (H : Heap) (locs : List Loc) (ls : Array Slot), zRdr G ad wF P n o FR FF T len → zrf (21 - k) (20 - k) w wF → FF 4 = nI f → FF 5 = nI pl → 1 ≤ f → f ≤ 4 → zTerm n o P T len (zGrp n o P T len k) p9 = .inl (f, pl) → zw G ad wF s H locs → lv_has ls 5 [(4, .int (nI q)), (3, .int (nI (200 - (f9 + 1)))), (2, .ref (ad (49 + (20 - k)))), (0, .ref (ad 2)), (1, .int (nI (20 - k)))] → W p l e (zR (6 * k + 9)) s m ([.ref (ad 2), .int (nI (20 - k))] : List Value).toArray below meth c H locs 0 0 Q (F0 m 130 ls []) := by
            intro f pl wF FF H locs ls hEF hzF h4F h5F hf1 hf4 hspF Z hl
            refine lv_iinc (v := (nI ((200 - (f9 + 1)) + 1))) (lv' := [(3, .int (nI ((200 - (f9 + 1)) + 1))), (4, .int (nI q)), (2, .ref (ad (49 + (20 - k)))), (0, .ref (ad 2)), (1, .int (nI (20 - k)))]) hx hb dE_readTerm_130 hl (k := 1) rfl (nI_1 (200 - (f9 + 1))) (by decide) rfl (fun ls hl => ?_)
            refine lv_goto (tgt := 37) hx hb dE_readTerm_133 (by decide) ?_
            refine lv_iload_n hx hb dE_readTerm_37 rfl (lv_at hl 0 rfl) ?_
            refine lv_sipush (v := 200) hx hb dE_readTerm_38 (by decide) ?_
            refine lv_icmp_ge (tgt := 136) hx hb dE_readTerm_41 (by decide) (fun hc9 => ?_) (fun hc9 => ?_)
            · exact hret _ _ _ _ _ dE_readTerm_136 (⟨FF, hEF, hzF, by rw [hspF]; exact ⟨h4F, h5F, hf1, hf4⟩⟩) Z
            · refine lv_aload_n hx hb dE_readTerm_44 rfl (lv_at hl 3 rfl) ?_
              refine zw_get (v := .int (FF 4)) hx hb hT uE hown Z hEF.2.1 rfl 4 (by decide) (hT _ mf_E_42) (fun _ h9 => h9) rfl dE_readTerm_45 ?_
              refine zw_top (nI f) (h4F) ?_
              refine lv_if_ne (tgt := 136) hx hb dE_readTerm_48 (by decide) (fun _ => ?_) (fun hc => absurd hc (show ¬ ((nI f) : Int32) = 0 from nI_ne0 (by omega) (by omega)))
              exact hret _ _ _ _ _ dE_readTerm_136 (⟨FF, hEF, hzF, by rw [hspF]; exact ⟨h4F, h5F, hf1, hf4⟩⟩) Z
          cases hb8 : zFac n o P T len (zGrp n o P T len k) (q + 1) with
          | inl x9 =>
            obtain ⟨f, pl⟩ := x9
            rw [hb8] at hmD
            refine lv_aload_n hx hb dE_readTerm_81 rfl (lv_at hl 3 rfl) ?_
            refine zw_get (v := .int (FD 4)) hx hb hT uE hown Z hED.2.1 rfl 4 (by decide) (hT _ mf_E_42) (fun _ h9 => h9) rfl dE_readTerm_82 ?_
            refine zw_top (nI f) (hmD.1) ?_
            refine lv_if_ne (tgt := 110) hx hb dE_readTerm_85 (by decide) (fun _ => ?_) (fun hc => absurd hc (show ¬ ((nI f) : Int32) = 0 from nI_ne0 (by omega) (by omega)))
            refine lv_aload_n hx hb dE_readTerm_110 rfl (lv_at hl 3 rfl) ?_
            refine zw_get (v := .int (FD 4)) hx hb hT uE hown Z hED.2.1 rfl 4 (by decide) (hT _ mf_E_42) (fun _ h9 => h9) rfl dE_readTerm_111 ?_
            refine zw_top (nI f) (hmD.1) ?_
            refine lv_if_ne (tgt := 130) hx hb dE_readTerm_114 (by decide) (fun _ => ?_) (fun hc => absurd hc (show ¬ ((nI f) : Int32) = 0 from nI_ne0 (by omega) (by omega)))
            exact fin f pl _ FD _ _ ls hED hzD2 hmD.1 hmD.2.1 hmD.2.2.1 hmD.2.2.2 (by rw [hsp, zTL, ← hq, if_pos hc, hb8]) Z hl
          | inr x9 =>
            obtain ⟨B, e2⟩ := x9
            rw [hb8] at hmD
            obtain ⟨haD, hfD, h5D, h70D⟩ := hmD
            have hokD := zFac_ok hcfg hP1 hgr (by omega) hb8
            refine lv_aload_n hx hb dE_readTerm_81 rfl (lv_at hl 3 rfl) ?_
            refine zw_get (v := .int (FD 4)) hx hb hT uE hown Z hED.2.1 rfl 4 (by decide) (hT _ mf_E_42) (fun _ h9 => h9) rfl dE_readTerm_82 ?_
            refine zw_top (0) (hfD) ?_
            refine lv_if_ne (tgt := 110) hx hb dE_readTerm_85 (by decide) (fun hc => absurd (show ((0) : Int32) = 0 from rfl) hc) (fun _ => ?_)
            refine lv_aload_n hx hb dE_readTerm_88 rfl (lv_at hl 3 rfl) ?_
            refine zw_get (v := .ref (ad 1)) hx hb hT uE hown Z hED.2.1 rfl 0 (by decide) (hT _ mf_E_9) (fun _ h9 => h9) rfl dE_readTerm_89 ?_
            refine lv_aload_n hx hb dE_readTerm_92 rfl (lv_at hl 2 rfl) ?_
            refine lv_aload_n hx hb dE_readTerm_93 rfl (lv_at hl 3 rfl) ?_
            refine zw_get (v := .ref (ad 70)) hx hb hT uE hown Z hED.2.1 rfl 8 (by decide) (hT _ mf_E_33) (fun _ h9 => h9) rfl dE_readTerm_94 ?_
            refine zw_calli (va_runV (As := [.ref (ad (49 + (20 - k))), .ref (ad 70)]) (rest := []) ⟨hx, hb, hml, hown, hts⟩ (c_R_isProductTooHigh l P n o FR hED.1 (49 + (20 - k)) 70 (fun i => nI (A i)) (fun i => nI (B i)) hrD h70D) (kw_R_isProductTooHigh hts ml_E_84 (zR_fit (by omega) (by omega))) (Z.preV hED.1.1 rfl _) rfl rfl hl.1 rfl (lv_room (Nat.le_of_ble_eq_true rfl)) dE_readTerm_97 ⟨Nat.le_of_ble_eq_true rfl, Nat.le_of_ble_eq_true rfl⟩) Z (fun r wq H locs hp Z => ?_)
            obtain ⟨rfl, hw1⟩ := hp
            rw [hw1] at Z
            clear hw1
            by_cases hh9 : zhigh2 n o (fun i => nI (A i)) (fun i => nI (B i)) = true
            · rw [hh9]
              refine lv_if_eq (tgt := 110) hx hb dE_readTerm_100 (by decide) (fun hc => absurd hc (show ¬ (((zb true) : Int32) = 0) from by decide)) (fun _ => ?_)
              refine lv_aload_n hx hb dE_readTerm_103 rfl (lv_at hl 3 rfl) ?_
              refine lv_iconst (v := 3) hx hb dE_readTerm_104 (by decide) ?_
              refine lv_iload hx hb dE_readTerm_105 (lv_at hl 0 rfl) ?_
              refine zw_callv (va_runV (As := [.int 3, .int (nI q)]) (rest := []) ⟨hx, hb, hml, hown, hts⟩ (c_E_noteFault l _ hED.2.1 3 (nI q)) (kw_E_noteFault hts ml_E_56 (zR_fit (by omega) (by omega))) (Z.preV hED.2.1 rfl _) rfl rfl hl.1 rfl (lv_room (Nat.le_of_ble_eq_true rfl)) dE_readTerm_107 ⟨Nat.le_of_ble_eq_true rfl, Nat.le_of_ble_eq_true rfl⟩) Z (fun wE H locs hp Z => ?_)
              subst hp
              have hEE : zRdr G ad (va_up wD 2 (some (oE ad (upd (upd FD 4 3) 5 (nI q))))) P n o FR (upd (upd FD 4 3) 5 (nI q)) T len := hED.obj rfl
              refine lv_aload_n hx hb dE_readTerm_110 rfl (lv_at hl 3 rfl) ?_
              refine zw_get (v := .int ((upd (upd FD 4 3) 5 (nI q)) 4)) hx hb hT uE hown Z hEE.2.1 rfl 4 (by decide) (hT _ mf_E_42) (fun _ h9 => h9) rfl dE_readTerm_111 ?_
              refine zw_top (3) (rfl) ?_
              refine lv_if_ne (tgt := 130) hx hb dE_readTerm_114 (by decide) (fun _ => ?_) (fun hc => absurd hc (show ¬ ((3) : Int32) = 0 from by decide))
              exact fin 3 q _ _ _ _ ls hEE (hzD2.trans (zrf.obj (by omega) (by omega))) rfl rfl (by decide) (by decide) (by rw [hsp, zTL, ← hq, if_pos hc, hb8]; simp only; rw [if_pos hh9]) Z hl
            · have hhf : zhigh2 n o (fun i => nI (A i)) (fun i => nI (B i)) = false := by
                cases h8 : zhigh2 n o (fun i => nI (A i)) (fun i => nI (B i)) with
                | true => exact absurd h8 hh9
                | false => rfl
              rw [hhf]
              refine lv_if_eq (tgt := 110) hx hb dE_readTerm_100 (by decide) (fun _ => ?_) (fun hc => absurd (show ((zb false) : Int32) = 0 from by decide) hc)
              refine lv_aload_n hx hb dE_readTerm_110 rfl (lv_at hl 3 rfl) ?_
              refine zw_get (v := .int (FD 4)) hx hb hT uE hown Z hED.2.1 rfl 4 (by decide) (hT _ mf_E_42) (fun _ h9 => h9) rfl dE_readTerm_111 ?_
              refine zw_top (0) (hfD) ?_
              refine lv_if_ne (tgt := 130) hx hb dE_readTerm_114 (by decide) (fun hc => absurd (show ((0) : Int32) = 0 from rfl) hc) (fun _ => ?_)
              obtain ⟨g71, h71D⟩ := hED.2.2.2.2.2.2.2.2 71 (by decide) (by decide)
              refine lv_aload_n hx hb dE_readTerm_117 rfl (lv_at hl 3 rfl) ?_
              refine zw_get (v := .ref (ad 1)) hx hb hT uE hown Z hED.2.1 rfl 0 (by decide) (hT _ mf_E_9) (fun _ h9 => h9) rfl dE_readTerm_118 ?_
              refine lv_aload_n hx hb dE_readTerm_121 rfl (lv_at hl 2 rfl) ?_
              refine lv_aload_n hx hb dE_readTerm_122 rfl (lv_at hl 3 rfl) ?_
              refine zw_get (v := .ref (ad 70)) hx hb hT uE hown Z hED.2.1 rfl 8 (by decide) (hT _ mf_E_33) (fun _ h9 => h9) rfl dE_readTerm_123 ?_
              refine lv_aload_n hx hb dE_readTerm_126 rfl (lv_at hl 2 rfl) ?_
              refine zw_callv (va_runV (As := [.ref (ad (49 + (20 - k))), .ref (ad 70), .ref (ad (49 + (20 - k)))]) (rest := []) ⟨hx, hb, hml, hown, hts⟩ (c_R_writeProduct l P n o FR hED.1 (49 + (20 - k)) 70 (49 + (20 - k)) A B g71 _ (by omega) (by decide) (by omega) hpA.1 hokD.2.2.1 hrD h70D h71D hrD (zhigh2_deg hcfg hP2 hpA hokD.2.2 hh9)) (kw_R_writeProduct hts ml_E_88 (zR_fit (by omega) (by omega))) (Z.preV hED.1.1 rfl _) rfl rfl hl.1 rfl (lv_room (Nat.le_of_ble_eq_true rfl)) dE_readTerm_127 ⟨Nat.le_of_ble_eq_true rfl, Nat.le_of_ble_eq_true rfl⟩) Z (fun wE H locs hp Z => ?_)
              subst hp
              refine lv_iinc (v := (nI ((200 - (f9 + 1)) + 1))) (lv' := [(3, .int (nI ((200 - (f9 + 1)) + 1))), (4, .int (nI q)), (2, .ref (ad (49 + (20 - k)))), (0, .ref (ad 2)), (1, .int (nI (20 - k)))]) hx hb dE_readTerm_130 hl (k := 1) rfl (nI_1 (200 - (f9 + 1))) (by decide) rfl (fun ls hl => ?_)
              refine lv_goto (tgt := 37) hx hb dE_readTerm_133 (by decide) ?_
              refine ih (zmul n o P A B) e2 _ FD _ _ ls (by omega) ((hED.row (by decide) (by decide)).row (by omega) (by omega)) ((hzD2.trans (zrf.row (by omega) (by omega) (by omega))).trans (zrf.row (by omega) (by omega) (by omega))) haD hfD (h5D.trans h5A) (va_up_self _ _ _) hokD.2.1 (zmul_pol (by omega) _ _) (by rw [hsp, zTL, ← hq, if_pos hc, hb8]; simp only; rw [if_neg hh9]) Z (by rw [show 200 - f9 = 200 - (f9 + 1) + 1 by omega]; exact (lv_sub hl [0, 2, 3, 4] rfl))
    exact loop 199 A e1 _ FE1 _ _ ls (by decide) hE2 hz2 ha1 hf1 h51 (va_up_self _ _ _) hok.2.1 hok.2.2 (by rw [zTerm, hb9]) Z hl
