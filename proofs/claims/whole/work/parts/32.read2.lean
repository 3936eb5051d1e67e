def zGC (l : Launch) (G : zG) (ad : Nat → Nat) (P n o : Nat) (FR : Nat → Int32) (T : Nat → Nat) (len k : Nat) : Prop := ∀ (w : Nat → Option va_E) (FE : Nat → Int32) (p9 : Nat), zRdr G ad w P n o FR FE T len → FE 3 = nI p9 → FE 4 = 0 → p9 < len → Met l yE_readGroup wE_readGroup (zR (6 * k + 6)) (va_Pc [.ref (ad 2), .int (nI (21 - k))] (zw_U G ad w)) (va_Qv (S := Nat → Option va_E) (fun w' => zOut G ad w P n o FR FE T len (70) (21 - k) (21 - k) (zGrp n o P T len k p9) w') (fun u t => zw_U G ((fun _ => ad) u) ((fun w' => w') u) t) (zA G)) 0 0 (zA G)

def zBC (l : Launch) (G : zG) (ad : Nat → Nat) (P n o : Nat) (FR : Nat → Int32) (T : Nat → Nat) (len k : Nat) : Prop := ∀ (w : Nat → Option va_E) (FE : Nat → Int32) (p9 : Nat), zRdr G ad w P n o FR FE T len → FE 3 = nI p9 → FE 4 = 0 → p9 ≤ len → Met l yE_readBareFactor wE_readBareFactor (zR (6 * k + 7)) (va_Pc [.ref (ad 2), .int (nI (20 - k))] (zw_U G ad w)) (va_Qv (S := Nat → Option va_E) (fun w' => zOut G ad w P n o FR FE T len (70) (21 - k) (21 - k) (zBare n o P T len (zGrp n o P T len k) p9) w') (fun u t => zw_U G ((fun _ => ad) u) ((fun w' => w') u) t) (zA G)) 0 0 (zA G)

def zFC (l : Launch) (G : zG) (ad : Nat → Nat) (P n o : Nat) (FR : Nat → Int32) (T : Nat → Nat) (len k : Nat) : Prop := ∀ (w : Nat → Option va_E) (FE : Nat → Int32) (p9 : Nat), zRdr G ad w P n o FR FE T len → FE 3 = nI p9 → FE 4 = 0 → p9 ≤ len → Met l yE_readFactor wE_readFactor (zR (6 * k + 8)) (va_Pc [.ref (ad 2), .int (nI (20 - k))] (zw_U G ad w)) (va_Qv (S := Nat → Option va_E) (fun w' => zOut G ad w P n o FR FE T len (70) (21 - k) (21 - k) (zFac n o P T len (zGrp n o P T len k) p9) w') (fun u t => zw_U G ((fun _ => ad) u) ((fun w' => w') u) t) (zA G)) 0 0 (zA G)

def zTC (l : Launch) (G : zG) (ad : Nat → Nat) (P n o : Nat) (FR : Nat → Int32) (T : Nat → Nat) (len k : Nat) : Prop := ∀ (w : Nat → Option va_E) (FE : Nat → Int32) (p9 : Nat), zRdr G ad w P n o FR FE T len → FE 3 = nI p9 → FE 4 = 0 → p9 ≤ len → Met l yE_readTerm wE_readTerm (zR (6 * k + 9)) (va_Pc [.ref (ad 2), .int (nI (20 - k))] (zw_U G ad w)) (va_Qv (S := Nat → Option va_E) (fun w' => zOut G ad w P n o FR FE T len (49 + (20 - k)) (21 - k) (20 - k) (zTerm n o P T len (zGrp n o P T len k) p9) w') (fun u t => zw_U G ((fun _ => ad) u) ((fun w' => w') u) t) (zA G)) 0 0 (zA G)

def zSC (l : Launch) (G : zG) (ad : Nat → Nat) (P n o : Nat) (FR : Nat → Int32) (T : Nat → Nat) (len k : Nat) : Prop := ∀ (w : Nat → Option va_E) (FE : Nat → Int32) (p9 : Nat), zRdr G ad w P n o FR FE T len → FE 3 = nI p9 → FE 4 = 0 → p9 ≤ len → Met l yE_readSum wE_readSum (zR (6 * k + 10)) (va_Pc [.ref (ad 2), .int (nI (20 - k))] (zw_U G ad w)) (va_Qv (S := Nat → Option va_E) (fun w' => zOut G ad w P n o FR FE T len (28 + (20 - k)) (20 - k) (20 - k) (zSum n o P T len (zGrp n o P T len k) p9) w') (fun u t => zw_U G ((fun _ => ad) u) ((fun w' => w') u) t) (zA G)) 0 0 (zA G)

set_option maxHeartbeats 4000000 in
set_option maxRecDepth 100000 in
theorem c_E_readBareFactor (l : Launch) {G : zG} {ad : Nat → Nat} (P n o : Nat) (FR : Nat → Int32) (T : Nat → Nat) (len k : Nat) (hk : k ≤ 20) (hG : zGC l G ad P n o FR T len k) : zBC l G ad P n o FR T len k := by
  intro w FE p9 hE hat hf0 hp9
  refine zw_methv (S := Nat → Option va_E) (fa := fun _ => ad) (fw := fun w' => w') (by decide) rfl (Nat.le_of_ble_eq_true rfl) ?_
  intro p e s m below meth c Q ls C hname Z hl hret
  obtain ⟨hx, hb, hml, hown, hts, hlk⟩ := C
  have hT : ∀ w ∈ zT, w.before ([.ref (ad 2), .int (nI (20 - k))] : List Value).toArray s = true := fun w h => hts w (List.mem_cons_of_mem _ h)
  have hown : s.vm.findClass "PolynomialDesk$Reader" = some m.cls := hown
  have hl : lv_has ls 4 [(0, .ref (ad 2)), (1, .int (nI (20 - k)))] := hl
  obtain ⟨hR, h2, ⟨tx, h10, htx⟩, hTb, hlen, hFl, h11, h12, hrows⟩ := id hE
  obtain ⟨-, ⟨hF0, hF1, hF2, hF3, hF4⟩, ⟨hP1, hP2⟩, hcfg, -⟩ := id hR
  have hi0 := zIdx_ok (n := n) (o := o) (k := 0) (by obtain ⟨i, a, b, _⟩ := zConst hcfg; exact ⟨i, a, b⟩)
  have hd0 : zDg n o (zIdx n o 0) = 0 := by obtain ⟨i, a, b, c9⟩ := zConst hcfg; rw [zKy_inj hcfg hi0.1 a (by rw [hi0.2, b])]; exact c9
  have hn4 := hcfg.2.1
  obtain ⟨q, hq⟩ : ∃ q, q = zsp T len p9 := ⟨_, rfl⟩
  have hql := zsp_in (T := T) hp9
  have hqe := zsp_end (T := T) hp9
  rw [← hq] at hql hqe
  refine lv_aload_n hx hb dE_readBareFactor_0 rfl (lv_at hl 0 rfl) ?_
  refine zw_calli (va_runV (As := []) (rest := []) ⟨hx, hb, hml, hown, hts⟩ (c_E_nextByte l P n o FR FE T len hE p9 hat hp9) (kw_E_nextByte hts ml_E_52 (zR_fit (by omega) (by omega))) (Z.preV hE.2.1 rfl _) rfl rfl hl.1 rfl (lv_room (Nat.le_of_ble_eq_true rfl)) dE_readBareFactor_1 ⟨Nat.le_of_ble_eq_true rfl, Nat.le_of_ble_eq_true rfl⟩) Z (fun r w1 H locs hp Z => ?_)
  obtain ⟨hr1, hw1⟩ := hp
  rw [← hq] at hr1 hw1
  subst hr1
  subst hw1
  have hE1 : zRdr G ad (va_up w 2 (some (oE ad (upd FE 3 (nI q))))) P n o FR (upd FE 3 (nI q)) T len := hE.obj rfl
  have hz1 : zrf (21 - k) (21 - k) w (va_up w 2 (some (oE ad (upd FE 3 (nI q))))) := zrf.obj (by omega) (by omega)
  refine lv_istore_n (lv' := [(2, .int (zch T len q)), (0, .ref (ad 2)), (1, .int (nI (20 - k)))]) hx hb dE_readBareFactor_4 rfl hl (by decide) rfl (fun ls hl => ?_)
  refine lv_iload_n hx hb dE_readBareFactor_5 rfl (lv_at hl 0 rfl) ?_
  refine zw_calli (va_runS (As := [.int (zch T len q)]) (rest := []) ⟨hx, hb, hml, hown, hts⟩ (c_E_variableOf l (zch T len q)) (kw_E_variableOf hts ml_E_107 (zR_fit (by omega) (by omega))) (Z.preS _) rfl rfl hl.1 rfl (lv_room (Nat.le_of_ble_eq_true rfl)) dE_readBareFactor_6 ⟨Nat.le_of_ble_eq_true rfl, Nat.le_of_ble_eq_true rfl⟩) Z (fun r w1 H locs hp Z => ?_)
  obtain ⟨rfl, hw1⟩ := hp
  rw [hw1] at Z
  clear hw1
  refine lv_istore_n (lv' := [(3, .int (zvo (zch T len q))), (2, .int (zch T len q)), (0, .ref (ad 2)), (1, .int (nI (20 - k)))]) hx hb dE_readBareFactor_9 rfl hl (by decide) rfl (fun ls hl => ?_)
  refine lv_iload_n hx hb dE_readBareFactor_10 rfl (lv_at hl 1 rfl) ?_
  refine zw_calli (va_runS (As := [.int (zch T len q)]) (rest := []) ⟨hx, hb, hml, hown, hts⟩ (c_E_isDigit l (zch T len q)) (kw_E_isDigit hts ml_E_110 (zR_fit (by omega) (by omega))) (Z.preS _) rfl rfl hl.1 rfl (lv_room (Nat.le_of_ble_eq_true rfl)) dE_readBareFactor_11 ⟨Nat.le_of_ble_eq_true rfl, Nat.le_of_ble_eq_true rfl⟩) Z (fun r w1 H locs hp Z => ?_)
  obtain ⟨rfl, hw1⟩ := hp
  rw [hw1] at Z
  clear hw1
  refine lv_if_eq (tgt := 37) hx hb dE_readBareFactor_14 (by decide) (fun hc => ?_) (fun hc => ?_)
  · have hd : ¬ zisd (zch T len q) = true := fun h9 => by rw [h9] at hc; exact absurd hc (by decide)
    have cont : ∀ (H : Heap) (locs : List Loc), zw G ad (va_up w 2 (some (oE ad (upd FE 3 (nI q))))) s H locs → ¬ zvar (zch T len q) < n → W p l e (zR (6 * k + 7)) s m ([.ref (ad 2), .int (nI (20 - k))] : List Value).toArray below meth c H locs 0 0 Q (F0 m 77 ls []) := by
      intro H locs Z hv
      refine lv_iload_n hx hb dE_readBareFactor_77 rfl (lv_at hl 1 rfl) ?_
      refine lv_bipush (v := 40) hx hb dE_readBareFactor_78 (by decide) ?_
      refine lv_icmp_ne (tgt := 93) hx hb dE_readBareFactor_80 (by decide) (fun hc2 => ?_) (fun hc2 => ?_)
      · refine lv_aload_n hx hb dE_readBareFactor_93 rfl (lv_at hl 2 rfl) ?_
        refine lv_iconst (v := 1) hx hb dE_readBareFactor_94 (by decide) ?_
        refine lv_aload_n hx hb dE_readBareFactor_95 rfl (lv_at hl 2 rfl) ?_
        refine zw_get (v := .int ((upd FE 3 (nI q)) 3)) hx hb hT uE hown Z hE1.2.1 rfl 3 (by decide) (hT _ mf_E_45) (fun _ h9 => h9) rfl dE_readBareFactor_96 ?_
        refine zw_top (nI q) (rfl) ?_
        refine zw_callv (va_runV (As := [.int 1, .int (nI q)]) (rest := []) ⟨hx, hb, hml, hown, hts⟩ (c_E_noteFault l _ hE1.2.1 1 (nI q)) (kw_E_noteFault hts ml_E_56 (zR_fit (by omega) (by omega))) (Z.preV hE1.2.1 rfl _) rfl rfl hl.1 rfl (lv_room (Nat.le_of_ble_eq_true rfl)) dE_readBareFactor_99 ⟨Nat.le_of_ble_eq_true rfl, Nat.le_of_ble_eq_true rfl⟩) Z (fun w2 H locs hp Z => ?_)
        subst hp
        rw [bx_uu] at Z
        exact hret _ _ _ _ _ dE_readBareFactor_102 (⟨upd (upd (upd FE 3 (nI q)) 4 1) 5 (nI q), hE.obj rfl, zrf.obj (by omega) (by omega), by rw [zBare_4 hq hd hv hc2]; exact ⟨rfl, rfl, by decide, by decide⟩⟩) Z
      · have hqlt := (zch_c hc2 (by decide)).1
        refine lv_aload_n hx hb dE_readBareFactor_83 rfl (lv_at hl 2 rfl) ?_
        refine lv_iload_n hx hb dE_readBareFactor_84 rfl (lv_at hl 3 rfl) ?_
        refine lv_iconst (v := 1) hx hb dE_readBareFactor_85 (by decide) ?_
        refine lv_iadd hx hb dE_readBareFactor_86 ?_
        refine zw_top (nI (21 - k)) (by rw [nI_1]; congr 1; omega) ?_
        refine zw_callv (va_runV (As := [.int (nI (21 - k))]) (rest := []) ⟨hx, hb, hml, hown, hts⟩ (hG _ _ q hE1 rfl hf0 hqlt) (kw_E_readGroup hts ml_E_123 (zR_fit (by omega) (by omega))) (Z.preV hE1.2.1 rfl _) rfl rfl hl.1 rfl (lv_room (Nat.le_of_ble_eq_true rfl)) dE_readBareFactor_87 ⟨Nat.le_of_ble_eq_true rfl, Nat.le_of_ble_eq_true rfl⟩) Z (fun w2 H locs hp Z => ?_)
        refine lv_goto (tgt := 102) hx hb dE_readBareFactor_90 (by decide) ?_
        exact hret _ _ _ _ _ dE_readBareFactor_102 (by rw [zBare_3 hq hd hv hc2]; exact hp.pre hz1 (Nat.le_refl _) (Nat.le_refl _) rfl) Z
    refine lv_iload_n hx hb dE_readBareFactor_37 rfl (lv_at hl 0 rfl) ?_
    refine lv_if_lt (tgt := 77) hx hb dE_readBareFactor_38 (by decide) (fun hc2 => ?_) (fun hc2 => ?_)
    · exact cont _ _ Z (fun h9 => by
        have h4 := hcfg.2.1
        have : zvo (zch T len q) = nI (zvar (zch T len q)) := if_pos (by omega)
        rw [this] at hc2
        exact nI_pos (by omega) hc2)
    · have hv4 : zvar (zch T len q) < 4 := by
        apply Nat.lt_of_not_le
        intro h9
        exact hc2 (by rw [show zvo (zch T len q) = -1 from if_neg (by omega)]; decide)
      have hvo : zvo (zch T len q) = nI (zvar (zch T len q)) := if_pos hv4
      refine lv_iload_n hx hb dE_readBareFactor_41 rfl (lv_at hl 0 rfl) ?_
      refine lv_aload_n hx hb dE_readBareFactor_42 rfl (lv_at hl 2 rfl) ?_
      refine zw_get (v := .ref (ad 1)) hx hb hT uE hown Z hE1.2.1 rfl 0 (by decide) (hT _ mf_E_9) (fun _ h9 => h9) rfl dE_readBareFactor_43 ?_
      refine zw_calli (va_runV (As := []) (rest := [.int (zvo (zch T len q))]) ⟨hx, hb, hml, hown, hts⟩ (c_R_variables l FR hE1.1.1) (kw_R_variables hts ml_E_117 (zR_fit (by omega) (by omega))) (Z.preV hE1.1.1 rfl _) rfl rfl hl.1 rfl (lv_room (Nat.le_of_ble_eq_true rfl)) dE_readBareFactor_46 ⟨Nat.le_of_ble_eq_true rfl, Nat.le_of_ble_eq_true rfl⟩) Z (fun r w1 H locs hp Z => ?_)
      obtain ⟨rfl, hw1⟩ := hp
      rw [hw1] at Z
      clear hw1
      refine lv_icmp_ge (tgt := 77) hx hb dE_readBareFactor_49 (by decide) (fun hc3 => ?_) (fun hc3 => ?_)
      · exact cont _ _ Z (fun h9 => absurd hc3 (by rw [hvo, hF1]; exact nI_ge h9 (by omega)))
      · have hvn : zvar (zch T len q) < n := Nat.lt_of_not_le (fun h9 => hc3 (by rw [hvo, hF1]; exact nI_le h9 (by omega)))
        have hqlt : q < len := by
          apply Nat.lt_of_not_le
          intro h9
          rw [show zch T len q = -1 from if_neg (by omega)] at hv4
          exact absurd hv4 (by decide)
        have hiv := zIdx_ok (n := n) (o := o) (k := zWt n (zvar (zch T len q))) (by obtain ⟨i, a, b, _⟩ := zVar hcfg hvn; exact ⟨i, a, b⟩)
        obtain ⟨g70, h70⟩ := hE1.2.2.2.2.2.2.2.2 70 (by decide) (by decide)
        refine lv_aload_n hx hb dE_readBareFactor_52 rfl (lv_at hl 2 rfl) ?_
        refine zw_get (v := .ref (ad 1)) hx hb hT uE hown Z hE1.2.1 rfl 0 (by decide) (hT _ mf_E_9) (fun _ h9 => h9) rfl dE_readBareFactor_53 ?_
        refine lv_iload_n hx hb dE_readBareFactor_56 rfl (lv_at hl 0 rfl) ?_
        refine lv_aload_n hx hb dE_readBareFactor_57 rfl (lv_at hl 2 rfl) ?_
        refine zw_get (v := .ref (ad 70)) hx hb hT uE hown Z hE1.2.1 rfl 8 (by decide) (hT _ mf_E_33) (fun _ h9 => h9) rfl dE_readBareFactor_58 ?_
        rw [hvo]
        have hl := hl
        refine zw_callv (va_runV (As := [.int (nI (zvar (zch T len q))), .ref (ad 70)]) (rest := []) ⟨hx, hb, hml, hown, hts⟩ (c_R_writeVariable l P n o FR hE1.1 (zvar (zch T len q)) 70 (zIdx n o (zWt n (zvar (zch T len q)))) g70 hvn (by decide) hiv.1 hiv.2 h70) (kw_R_writeVariable hts ml_E_120 (zR_fit (by omega) (by omega))) (Z.preV hE1.1.1 rfl _) rfl rfl hl.1 rfl (lv_room (Nat.le_of_ble_eq_true rfl)) dE_readBareFactor_61 ⟨Nat.le_of_ble_eq_true rfl, Nat.le_of_ble_eq_true rfl⟩) Z (fun w2 H locs hp Z => ?_)
        subst hp
        have hE2 := hE1.row (t := 70) (f := fun j => nI (zcon (zIdx n o (zWt n (zvar (zch T len q)))) 1 j)) (by decide) (by decide)
        refine lv_aload_n hx hb dE_readBareFactor_64 rfl (lv_at hl 2 rfl) ?_
        refine lv_dup hx hb dE_readBareFactor_65 rfl ?_
        refine zw_get (v := .int ((upd FE 3 (nI q)) 3)) hx hb hT uE hown Z hE2.2.1 rfl 3 (by decide) (hT _ mf_E_45) (fun _ h9 => h9) rfl dE_readBareFactor_66 ?_
        refine zw_top (nI q) (rfl) ?_
        refine lv_iconst (v := 1) hx hb dE_readBareFactor_69 (by decide) ?_
        refine lv_iadd hx hb dE_readBareFactor_70 ?_
        refine zw_top (nI (q + 1)) (nI_1 q) ?_
        refine zw_put (v := .int (nI (q + 1))) hx hb hT uE hown tE tE_ok nE Z hE2.2.1 rfl 3 (by decide) (hT _ mf_E_45) (fun _ h9 => h9) rfl rfl rfl (by simp) dE_readBareFactor_71 (fun H locs Z => ?_)
        have Z : zw G ad (va_up (va_up (va_up w 2 (some (oE ad (upd FE 3 (nI q))))) 70 (some (zrow G (zcon (zIdx n o (zWt n (zvar (zch T len q)))) 1)))) 2 (some (oE ad (upd (upd FE 3 (nI q)) 3 (nI (q + 1)))))) s H locs := Z
        refine lv_goto (tgt := 102) hx hb dE_readBareFactor_74 (by decide) ?_
        exact hret _ _ _ _ _ dE_readBareFactor_102 (⟨upd (upd FE 3 (nI q)) 3 (nI (q + 1)), hE2.obj rfl, (hz1.trans (zrf.row (by omega) (by omega) (by omega))).trans (zrf.obj (by omega) (by omega)), by rw [zBare_2 hq hd hvn]; exact ⟨rfl, hf0, rfl, by rw [va_up_ne _ _ (by decide), va_up_self]⟩⟩) Z
  · have hd : zisd (zch T len q) = true := by
      cases h9 : zisd (zch T len q) with
      | true => rfl
      | false => rw [h9] at hc; exact absurd rfl hc
    have hqlt := (zch_d hd).1
    refine lv_aload_n hx hb dE_readBareFactor_17 rfl (lv_at hl 2 rfl) ?_
    refine zw_get (v := .ref (ad 1)) hx hb hT uE hown Z hE1.2.1 rfl 0 (by decide) (hT _ mf_E_9) (fun _ h9 => h9) rfl dE_readBareFactor_18 ?_
    refine lv_aload_n hx hb dE_readBareFactor_21 rfl (lv_at hl 2 rfl) ?_
    refine lv_bipush (v := 9) hx hb dE_readBareFactor_22 (by decide) ?_
    refine zw_calli (va_runV (As := [.int 9]) (rest := [.ref (ad 1)]) ⟨hx, hb, hml, hown, hts⟩ (c_E_readNumber l P n o FR _ T len hE1 9 q (by decide) rfl (by omega)) (kw_E_readNumber hts ml_E_95 (zR_fit (by omega) (by omega))) (Z.preV hE1.2.1 rfl _) rfl rfl hl.1 rfl (lv_room (Nat.le_of_ble_eq_true rfl)) dE_readBareFactor_24 ⟨Nat.le_of_ble_eq_true rfl, Nat.le_of_ble_eq_true rfl⟩) Z (fun r w2 H locs hp Z => ?_)
    obtain ⟨FE2, hw2, hl2, hm⟩ := hp
    subst hw2
    rw [bx_uu] at Z
    rw [zNm_d hqe hd] at hm
    have hE2 : zRdr G ad (va_up w 2 (some (oE ad FE2))) P n o FR FE2 T len := hE.obj hl2
    obtain ⟨g70, h70⟩ := hE2.2.2.2.2.2.2.2.2 70 (by decide) (by decide)
    refine lv_aload_n hx hb dE_readBareFactor_27 rfl (lv_at hl 2 rfl) ?_
    refine zw_get (v := .ref (ad 70)) hx hb hT uE hown Z hE2.2.1 rfl 8 (by decide) (hT _ mf_E_33) (fun _ h9 => h9) rfl dE_readBareFactor_28 ?_
    refine zw_callv (va_runV (As := [.int r, .ref (ad 70)]) (rest := []) ⟨hx, hb, hml, hown, hts⟩ (c_R_writeNumber l P n o FR hE2.1 r 70 (zIdx n o 0) g70 (by decide) hi0.1 hi0.2 h70) (kw_R_writeNumber hts ml_E_113 (zR_fit (by omega) (by omega))) (Z.preV hE2.1.1 rfl _) rfl rfl hl.1 rfl (lv_room (Nat.le_of_ble_eq_true rfl)) dE_readBareFactor_31 ⟨Nat.le_of_ble_eq_true rfl, Nat.le_of_ble_eq_true rfl⟩) Z (fun w3 H locs hp Z => ?_)
    subst hp
    have post : zOut G ad w P n o FR FE T len 70 (21 - k) (21 - k) (zBare n o P T len (zGrp n o P T len k) p9) (va_up (va_up w 2 (some (oE ad FE2))) 70 (some (zrow G (zcon (zIdx n o 0) (zred P r))))) := by
      refine ⟨FE2, hE2.row (by decide) (by decide), (zrf.obj (by omega) (by omega)).trans (zrf.row (by omega) (by omega) (by omega)), ?_⟩
      rw [zBare_1 hq hd]
      cases hn : zNum T len 9 q with
      | inl x =>
        obtain ⟨f, pl⟩ := x
        rw [hn] at hm
        have hf : f = 4 := by
          unfold zNum at hn
          split at hn
          · cases hn; rfl
          · cases hn
        exact ⟨hm.2.1, hm.2.2, by omega, by omega⟩
      | inr x =>
        obtain ⟨v, e⟩ := x
        rw [hn] at hm
        have hv := zNum_lt (by decide) hqlt hTb hd hn
        refine ⟨hm.2.1, hm.2.2.1.trans hf0, hm.2.2.2, ?_⟩
        rw [va_up_self, hm.1, zred_nI (by omega)]
    refine lv_goto (tgt := 102) hx hb dE_readBareFactor_34 (by decide) ?_
    exact hret _ _ _ _ _ dE_readBareFactor_102 (post) Z
