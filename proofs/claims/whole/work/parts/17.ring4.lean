set_option maxHeartbeats 4000000 in
set_option maxRecDepth 100000 in
theorem c_R_writeProduct (l : Launch) {G : zG} {ad : Nat → Nat} {w : Nat → Option va_E} (P n o : Nat) (F : Nat → Int32) (hR : zRing G ad w P n o F) (a b t : Nat) (A B : Nat → Nat) (gs gt : Nat → Int32) (ha0 : a ≠ 71) (hb0 : b ≠ 71) (ht0 : 20 ≤ t) (hA : ∀ i, A i < P) (hB : ∀ i, B i < P) (ha : w a = some (zrow G A)) (hb9 : w b = some (zrow G B)) (hs : w 71 = some (zi G 126 gs)) (ht : w t = some (zi G 126 gt)) (hdeg : ∀ i j, i < zCt n → j < zCt n → A i ≠ 0 → B j ≠ 0 → zDg n o i + zDg n o j ≤ zHi n) : Met l yR_writeProduct wR_writeProduct (zR (2)) (va_Pc [.ref (ad 1), .ref (ad a), .ref (ad b), .ref (ad t)] (zw_U G ad w)) (va_Qv (S := Nat → Option va_E) (fun w' => w' = va_up (va_up w 71 (some (zrow G (zmul n o P A B)))) t (some (zrow G (zmul n o P A B)))) (fun u t => zw_U G ((fun _ => ad) u) ((fun w' => w') u) t) (zA G)) 0 0 (zA G) := by
  refine zw_methv (S := Nat → Option va_E) (fa := fun _ => ad) (fw := fun w' => w') (by decide) rfl (Nat.le_of_ble_eq_true rfl) ?_
  intro p e s m below meth c Q ls C hname Z hl hret
  obtain ⟨hx, hb, hml, hown, hts, hlk⟩ := C
  have hT : ∀ w ∈ zT, w.before ([.ref (ad 1), .ref (ad a), .ref (ad b), .ref (ad t)] : List Value).toArray s = true := fun w h => hts w (List.mem_cons_of_mem _ h)
  have hown : s.vm.findClass "PolynomialDesk$Ring" = some m.cls := hown
  have hl : lv_has ls 7 [(0, .ref (ad 1)), (1, .ref (ad a)), (2, .ref (ad b)), (3, .ref (ad t))] := hl
  obtain ⟨h1, ⟨hF0, hF1, hF2, hF3, hF4⟩, ⟨hP1, hP2⟩, hcfg, h4, h16, ⟨dg, h5, hdg⟩, ⟨ky, h6, hky⟩, ⟨wt, h7, hwt⟩, ⟨ix, h8, hix⟩, ⟨ch, h9⟩⟩ := id hR
  have hct := zCt_le (n := n)
  have hn4 := hcfg.2.1
  refine lv_aload_n hx hb dR_writeProduct_0 rfl (lv_at hl 0 rfl) ?_
  refine zw_get (v := .ref (ad 71)) hx hb hT uR hown Z h1 rfl 11 (by decide) (hT _ mf_R_32) (fun _ h9 => h9) rfl dR_writeProduct_1 ?_
  refine lv_iconst (v := 0) hx hb dR_writeProduct_4 (by decide) ?_
  refine zw_callv (va_runS (As := [.ref (ad 71), .int 0]) (rest := []) ⟨hx, hb, hml, hown, hts⟩ (c_J_fill l 71 126 gs 0 hs (by decide)) (kw_J_fill hts ml_R_57 (zR_fit (by omega) (by omega))) (Z.preS _) rfl rfl hl.1 rfl (lv_room (Nat.le_of_ble_eq_true rfl)) dR_writeProduct_5 ⟨Nat.le_of_ble_eq_true rfl, Nat.le_of_ble_eq_true rfl⟩) Z (fun w1 H locs hp Z => ?_)
  subst hp
  have hR1 : zRing G ad (va_up w 71 (some (zi G 126 (fun _ => 0)))) P n o F := hR.up (by decide)
  have ha1 : va_up w 71 (some (zi G 126 (fun _ => 0))) a = some (zrow G A) := by rw [va_up_ne _ _ ha0]; exact ha
  have hb1 : va_up w 71 (some (zi G 126 (fun _ => 0))) b = some (zrow G B) := by rw [va_up_ne _ _ hb0]; exact hb9
  refine lv_aload_n hx hb dR_writeProduct_8 rfl (lv_at hl 0 rfl) ?_
  refine lv_aload_n hx hb dR_writeProduct_9 rfl (lv_at hl 2 rfl) ?_
  refine zw_calli (va_runV (As := [.ref (ad b)]) (rest := []) ⟨hx, hb, hml, hown, hts⟩ (c_R_leadingOf l F hR1.1 b _ (zCt n) hb1 hF4 hct) (kw_R_leadingOf hts ml_R_71 (zR_fit (by omega) (by omega))) (Z.preV hR1.1 rfl _) rfl rfl hl.1 rfl (lv_room (Nat.le_of_ble_eq_true rfl)) dR_writeProduct_10 ⟨Nat.le_of_ble_eq_true rfl, Nat.le_of_ble_eq_true rfl⟩) Z (fun r w1 H locs hp Z => ?_)
  obtain ⟨rfl, hw1⟩ := hp
  rw [hw1] at Z
  clear hw1
  refine lv_istore (lv' := [(4, .int (nI (zfst (fun i => nI (B i)) 0 (zCt n)))), (0, .ref (ad 1)), (1, .ref (ad a)), (2, .ref (ad b)), (3, .ref (ad t))]) hx hb dR_writeProduct_13 hl (by decide) rfl (fun ls hl => ?_)
  refine lv_aload_n hx hb dR_writeProduct_15 rfl (lv_at hl 1 rfl) ?_
  refine lv_aload_n hx hb dR_writeProduct_16 rfl (lv_at hl 2 rfl) ?_
  refine zw_calli (va_runV (As := [.ref (ad a)]) (rest := []) ⟨hx, hb, hml, hown, hts⟩ (c_R_leadingOf l F hR1.1 a _ (zCt n) ha1 hF4 hct) (kw_R_leadingOf hts ml_R_71 (zR_fit (by omega) (by omega))) (Z.preV hR1.1 rfl _) rfl rfl hl.1 rfl (lv_room (Nat.le_of_ble_eq_true rfl)) dR_writeProduct_17 ⟨Nat.le_of_ble_eq_true rfl, Nat.le_of_ble_eq_true rfl⟩) Z (fun r w1 H locs hp Z => ?_)
  obtain ⟨rfl, hw1⟩ := hp
  rw [hw1] at Z
  clear hw1
  refine lv_istore (lv' := [(5, .int (nI (zfst (fun i => nI (A i)) 0 (zCt n)))), (4, .int (nI (zfst (fun i => nI (B i)) 0 (zCt n)))), (0, .ref (ad 1)), (1, .ref (ad a)), (2, .ref (ad b)), (3, .ref (ad t))]) hx hb dR_writeProduct_20 hl (by decide) rfl (fun ls hl => ?_)
  have hla := zfst_nz (ct := zCt n) hA hP2
  have hlb := zfst_nz (ct := zCt n) hB hP2
  have hla2 := (zfst_in (fun i => nI (A i)) (zCt n) 0).2
  have hlb2 := (zfst_in (fun i => nI (B i)) (zCt n) 0).2
  generalize zfst (fun i => nI (A i)) 0 (zCt n) = la at hl hla hla2 ⊢
  generalize zfst (fun i => nI (B i)) 0 (zCt n) = lb at hl hlb hlb2 ⊢
  have inner : ∀ (i : Nat), i < zCt n → ¬ A i = 0 → (∀ (H : Heap) (locs : List Loc) (ls : Array Slot), zw G ad (va_up w 71 (some (zrow G (zS0 n o P A B (i + 1))))) s H locs → lv_has ls 7 [(5, .int (nI i)), (4, .int (nI lb)), (0, .ref (ad 1)), (1, .ref (ad a)), (2, .ref (ad b)), (3, .ref (ad t))] → W p l e (zR (2)) s m ([.ref (ad 1), .ref (ad a), .ref (ad b), .ref (ad t)] : List Value).toArray below meth c H locs 0 0 Q (F0 m 96 ls [])) → ∀ (k j : Nat) (H : Heap) (locs : List Loc) (ls : Array Slot), j + k = zCt n → zw G ad (va_up w 71 (some (zrow G (zS1 n o P A B i j)))) s H locs → lv_has ls 7 [(6, .int (nI j)), (5, .int (nI i)), (4, .int (nI lb)), (0, .ref (ad 1)), (1, .ref (ad a)), (2, .ref (ad b)), (3, .ref (ad t))] → W p l e (zR (2)) s m ([.ref (ad 1), .ref (ad a), .ref (ad b), .ref (ad t)] : List Value).toArray below meth c H locs 0 0 Q (F0 m 35 ls []) := by
    intro i hi hAi cont k
    induction k with
    | zero =>
      intro j H locs ls hj Z hl
      have hR1 : zRing G ad (va_up w 71 (some (zrow G (zS1 n o P A B i j)))) P n o F := hR.up (by decide)
      have ha1 : (va_up w 71 (some (zrow G (zS1 n o P A B i j)))) a = some (zrow G A) := by rw [va_up_ne _ _ ha0]; exact ha
      have hb1 : (va_up w 71 (some (zrow G (zS1 n o P A B i j)))) b = some (zrow G B) := by rw [va_up_ne _ _ hb0]; exact hb9
      have h61 : (va_up w 71 (some (zrow G (zS1 n o P A B i j)))) 6 = some (zi G 126 ky) := by rw [va_up_ne _ _ (by decide)]; exact h6
      refine lv_aload_n hx hb dR_writeProduct_35 rfl (lv_at hl 4 rfl) ?_
      refine lv_iload hx hb dR_writeProduct_36 (lv_at hl 1 rfl) ?_
      refine zw_iald hx hb Z ha1 (vin (by omega) (by decide)) dR_writeProduct_38 ?_
      refine zw_top (nI (A i)) (by rw [ncl (by omega)]) ?_
      refine lv_if_eq (tgt := 96) hx hb dR_writeProduct_39 (by decide) (fun hc => absurd hc (show ¬ ((nI (A i)) = 0) from fun h9 => hAi (nI_z (by have := hA i; omega) h9))) (fun _ => ?_)
      refine lv_iload hx hb dR_writeProduct_42 (lv_at hl 0 rfl) ?_
      refine lv_aload_n hx hb dR_writeProduct_44 rfl (lv_at hl 3 rfl) ?_
      refine zw_get (v := .int (F 4)) hx hb hT uR hown Z hR1.1 rfl 4 (by decide) (hT _ mf_R_54) (fun _ h9 => h9) rfl dR_writeProduct_45 ?_
      refine lv_icmp_ge (tgt := 96) hx hb dR_writeProduct_48 (by decide) (fun _ => ?_) (fun hc => absurd (show (F 4) ≤ (nI j) from by rw [hF4]; exact nI_le (by omega) (by omega)) hc)
      rw [show j = zCt n by omega, zS1_end] at Z
      exact cont _ _ ls Z (lv_sub hl [1, 2, 3, 4, 5, 6] rfl)
    | succ k ih =>
      intro j H locs ls hj Z hl
      have hR1 : zRing G ad (va_up w 71 (some (zrow G (zS1 n o P A B i j)))) P n o F := hR.up (by decide)
      have ha1 : (va_up w 71 (some (zrow G (zS1 n o P A B i j)))) a = some (zrow G A) := by rw [va_up_ne _ _ ha0]; exact ha
      have hb1 : (va_up w 71 (some (zrow G (zS1 n o P A B i j)))) b = some (zrow G B) := by rw [va_up_ne _ _ hb0]; exact hb9
      have h61 : (va_up w 71 (some (zrow G (zS1 n o P A B i j)))) 6 = some (zi G 126 ky) := by rw [va_up_ne _ _ (by decide)]; exact h6
      refine lv_aload_n hx hb dR_writeProduct_35 rfl (lv_at hl 4 rfl) ?_
      refine lv_iload hx hb dR_writeProduct_36 (lv_at hl 1 rfl) ?_
      refine zw_iald hx hb Z ha1 (vin (by omega) (by decide)) dR_writeProduct_38 ?_
      refine zw_top (nI (A i)) (by rw [ncl (by omega)]) ?_
      refine lv_if_eq (tgt := 96) hx hb dR_writeProduct_39 (by decide) (fun hc => absurd hc (show ¬ ((nI (A i)) = 0) from fun h9 => hAi (nI_z (by have := hA i; omega) h9))) (fun _ => ?_)
      refine lv_iload hx hb dR_writeProduct_42 (lv_at hl 0 rfl) ?_
      refine lv_aload_n hx hb dR_writeProduct_44 rfl (lv_at hl 3 rfl) ?_
      refine zw_get (v := .int (F 4)) hx hb hT uR hown Z hR1.1 rfl 4 (by decide) (hT _ mf_R_54) (fun _ h9 => h9) rfl dR_writeProduct_45 ?_
      refine lv_icmp_ge (tgt := 96) hx hb dR_writeProduct_48 (by decide) (fun hc => absurd hc (show ¬ ((F 4) ≤ (nI j)) from by rw [hF4]; exact nI_ge (by omega) (by omega))) (fun _ => ?_)
      refine lv_aload_n hx hb dR_writeProduct_51 rfl (lv_at hl 5 rfl) ?_
      refine lv_iload hx hb dR_writeProduct_52 (lv_at hl 0 rfl) ?_
      refine zw_iald hx hb Z hb1 (vin (by omega) (by decide)) dR_writeProduct_54 ?_
      refine zw_top (nI (B j)) (by rw [ncl (by omega)]) ?_
      refine lv_if_eq (tgt := 90) hx hb dR_writeProduct_55 (by decide) (fun hq => ?_) (fun hq => ?_)
      · refine lv_iinc (v := (nI (j + 1))) (lv' := [(6, .int (nI (j + 1))), (5, .int (nI i)), (4, .int (nI lb)), (0, .ref (ad 1)), (1, .ref (ad a)), (2, .ref (ad b)), (3, .ref (ad t))]) hx hb dR_writeProduct_90 hl (k := 0) rfl (nI_1 j) (by decide) rfl (fun ls hl => ?_)
        refine lv_goto (tgt := 35) hx hb dR_writeProduct_93 (by decide) ?_
        exact ih (j + 1) _ _ ls (by omega) (by rw [zS1_nob (nI_z (by have := hB j; omega) hq)]; exact Z) (lv_sub hl [0, 1, 2, 3, 4, 5, 6] rfl)
      · have hBj : B j ≠ 0 := fun h9 => hq (by rw [h9]; rfl)
        obtain ⟨q, hq1, hq2, -⟩ := zAdd hcfg hi (show j < zCt n by omega) (hdeg i j hi (by omega) hAi hBj)
        have hm9 := zmul_lt hP2 (hA i) (hB j)
        have hs9 := zS1_lt (n := n) (o := o) (show 0 < P by omega) A B i j q
        refine lv_aload_n hx hb dR_writeProduct_58 rfl (lv_at hl 3 rfl) ?_
        refine lv_aload_n hx hb dR_writeProduct_59 rfl (lv_at hl 3 rfl) ?_
        refine zw_get (v := .ref (ad 6)) hx hb hT uR hown Z hR1.1 rfl 7 (by decide) (hT _ mf_R_20) (fun _ h9 => h9) rfl dR_writeProduct_60 ?_
        refine lv_iload hx hb dR_writeProduct_63 (lv_at hl 1 rfl) ?_
        refine zw_iald hx hb Z h61 (vin (by omega) (by decide)) dR_writeProduct_65 ?_
        refine zw_top (nI (zKy n o i)) (by rw [ncl (by omega)]; exact hky i hi) ?_
        refine lv_aload_n hx hb dR_writeProduct_66 rfl (lv_at hl 3 rfl) ?_
        refine zw_get (v := .ref (ad 6)) hx hb hT uR hown Z hR1.1 rfl 7 (by decide) (hT _ mf_R_20) (fun _ h9 => h9) rfl dR_writeProduct_67 ?_
        refine lv_iload hx hb dR_writeProduct_70 (lv_at hl 0 rfl) ?_
        refine zw_iald hx hb Z h61 (vin (by omega) (by decide)) dR_writeProduct_72 ?_
        refine zw_top (nI (zKy n o j)) (by rw [ncl (by omega)]; exact hky j (by omega)) ?_
        refine lv_iadd hx hb dR_writeProduct_73 ?_
        refine zw_top (nI (zKy n o i + zKy n o j)) (nI_add _ _) ?_
        refine lv_aload_n hx hb dR_writeProduct_74 rfl (lv_at hl 4 rfl) ?_
        refine lv_iload hx hb dR_writeProduct_75 (lv_at hl 1 rfl) ?_
        refine zw_iald hx hb Z ha1 (vin (by omega) (by decide)) dR_writeProduct_77 ?_
        refine zw_top (nI (A i)) (by rw [ncl (by omega)]) ?_
        refine lv_aload_n hx hb dR_writeProduct_78 rfl (lv_at hl 5 rfl) ?_
        refine lv_iload hx hb dR_writeProduct_79 (lv_at hl 0 rfl) ?_
        refine zw_iald hx hb Z hb1 (vin (by omega) (by decide)) dR_writeProduct_81 ?_
        refine zw_top (nI (B j)) (by rw [ncl (by omega)]) ?_
        refine lv_imul hx hb dR_writeProduct_82 ?_
        refine zw_top (nI (A i * B j)) (pk_mul _ _) ?_
        refine lv_aload_n hx hb dR_writeProduct_83 rfl (lv_at hl 3 rfl) ?_
        refine zw_get (v := .ref (ad 71)) hx hb hT uR hown Z hR1.1 rfl 11 (by decide) (hT _ mf_R_32) (fun _ h9 => h9) rfl dR_writeProduct_84 ?_
        refine zw_callv (va_runV (As := [.int (nI (zKy n o i + zKy n o j)), .int (nI (A i * B j)), .ref (ad 71)]) (rest := []) ⟨hx, hb, hml, hown, hts⟩ (c_R_addAt l P n o F hR1 (zKy n o i + zKy n o j) q (A i * B j) 71 (zS1 n o P A B i j) hq1 hq2.symm (va_up_self _ _ _) (by omega)) (kw_R_addAt hts ml_R_82 (zR_fit (by omega) (by omega))) (Z.preV hR1.1 rfl _) rfl rfl hl.1 rfl (lv_room (Nat.le_of_ble_eq_true rfl)) dR_writeProduct_87 ⟨Nat.le_of_ble_eq_true rfl, Nat.le_of_ble_eq_true rfl⟩) Z (fun w1 H locs hp Z => ?_)
        subst hp
        rw [bx_uu, zS1_step hcfg hq1 hq2] at Z
        refine lv_iinc (v := (nI (j + 1))) (lv' := [(6, .int (nI (j + 1))), (5, .int (nI i)), (4, .int (nI lb)), (0, .ref (ad 1)), (1, .ref (ad a)), (2, .ref (ad b)), (3, .ref (ad t))]) hx hb dR_writeProduct_90 hl (k := 0) rfl (nI_1 j) (by decide) rfl (fun ls hl => ?_)
        refine lv_goto (tgt := 35) hx hb dR_writeProduct_93 (by decide) ?_
        exact ih (j + 1) _ _ ls (by omega) Z (lv_sub hl [0, 1, 2, 3, 4, 5, 6] rfl)
  have outer : ∀ (k i : Nat) (H : Heap) (locs : List Loc) (ls : Array Slot), i + k = zCt n → zw G ad (va_up w 71 (some (zrow G (zS0 n o P A B i)))) s H locs → lv_has ls 7 [(5, .int (nI i)), (4, .int (nI lb)), (0, .ref (ad 1)), (1, .ref (ad a)), (2, .ref (ad b)), (3, .ref (ad t))] → W p l e (zR (2)) s m ([.ref (ad 1), .ref (ad a), .ref (ad b), .ref (ad t)] : List Value).toArray below meth c H locs 0 0 Q (F0 m 22 ls []) := by
    intro k
    induction k with
    | zero =>
      intro i H locs ls hi Z hl
      have hR1 : zRing G ad (va_up w 71 (some (zrow G (zS0 n o P A B i)))) P n o F := hR.up (by decide)
      have ha1 : (va_up w 71 (some (zrow G (zS0 n o P A B i)))) a = some (zrow G A) := by rw [va_up_ne _ _ ha0]; exact ha
      have hb1 : (va_up w 71 (some (zrow G (zS0 n o P A B i)))) b = some (zrow G B) := by rw [va_up_ne _ _ hb0]; exact hb9
      have h61 : (va_up w 71 (some (zrow G (zS0 n o P A B i)))) 6 = some (zi G 126 ky) := by rw [va_up_ne _ _ (by decide)]; exact h6
      refine lv_iload hx hb dR_writeProduct_22 (lv_at hl 0 rfl) ?_
      refine lv_aload_n hx hb dR_writeProduct_24 rfl (lv_at hl 2 rfl) ?_
      refine zw_get (v := .int (F 4)) hx hb hT uR hown Z hR1.1 rfl 4 (by decide) (hT _ mf_R_54) (fun _ h9 => h9) rfl dR_writeProduct_25 ?_
      refine lv_icmp_ge (tgt := 102) hx hb dR_writeProduct_28 (by decide) (fun _ => ?_) (fun hc => absurd (show (F 4) ≤ (nI i) from by rw [hF4]; exact nI_le (by omega) (by omega)) hc)
      rw [show i = zCt n by omega] at Z
      have ht1 : ∃ g9 : Nat → Int32, va_up w 71 (some (zrow G (zmul n o P A B))) t = some (zi G 126 g9) := by
        by_cases h : t = 71
        · subst h
          exact ⟨_, va_up_self _ _ _⟩
        · exact ⟨gt, by rw [va_up_ne _ _ h]; exact ht⟩
      obtain ⟨g9, ht1⟩ := ht1
      have Z : zw G ad (va_up w 71 (some (zrow G (zmul n o P A B)))) s H locs := Z
      have hR1 : zRing G ad (va_up w 71 (some (zrow G (zmul n o P A B)))) P n o F := hR.up (by decide)
      refine lv_aload_n hx hb dR_writeProduct_102 rfl (lv_at hl 2 rfl) ?_
      refine zw_get (v := .ref (ad 71)) hx hb hT uR hown Z hR1.1 rfl 11 (by decide) (hT _ mf_R_32) (fun _ h9 => h9) rfl dR_writeProduct_103 ?_
      refine lv_iconst (v := 0) hx hb dR_writeProduct_106 (by decide) ?_
      refine lv_aload_n hx hb dR_writeProduct_107 rfl (lv_at hl 5 rfl) ?_
      refine lv_iconst (v := 0) hx hb dR_writeProduct_108 (by decide) ?_
      refine lv_bipush (v := 126) hx hb dR_writeProduct_109 (by decide) ?_
      refine zw_copy hx hb (hml.trans hl.1.symm) hown (hT _ ml_R_86) (hT _ mx_copy) (hT _ mt_copy) (hT _ mn_System) Z (n := 126) (va_up_self _ _ _) ht1 (by decide) (Nat.le_of_ble_eq_true rfl) (Nat.le_of_ble_eq_true rfl) dR_writeProduct_111 (fun H locs Z => ?_)
      exact hret _ _ _ _ _ dR_writeProduct_114 (rfl) Z
    | succ k ih =>
      intro i H locs ls hi Z hl
      have hR1 : zRing G ad (va_up w 71 (some (zrow G (zS0 n o P A B i)))) P n o F := hR.up (by decide)
      have ha1 : (va_up w 71 (some (zrow G (zS0 n o P A B i)))) a = some (zrow G A) := by rw [va_up_ne _ _ ha0]; exact ha
      have hb1 : (va_up w 71 (some (zrow G (zS0 n o P A B i)))) b = some (zrow G B) := by rw [va_up_ne _ _ hb0]; exact hb9
      have h61 : (va_up w 71 (some (zrow G (zS0 n o P A B i)))) 6 = some (zi G 126 ky) := by rw [va_up_ne _ _ (by decide)]; exact h6
      refine lv_iload hx hb dR_writeProduct_22 (lv_at hl 0 rfl) ?_
      refine lv_aload_n hx hb dR_writeProduct_24 rfl (lv_at hl 2 rfl) ?_
      refine zw_get (v := .int (F 4)) hx hb hT uR hown Z hR1.1 rfl 4 (by decide) (hT _ mf_R_54) (fun _ h9 => h9) rfl dR_writeProduct_25 ?_
      refine lv_icmp_ge (tgt := 102) hx hb dR_writeProduct_28 (by decide) (fun hc => absurd hc (show ¬ ((F 4) ≤ (nI i)) from by rw [hF4]; exact nI_ge (by omega) (by omega))) (fun _ => ?_)
      refine lv_iload hx hb dR_writeProduct_31 (lv_at hl 1 rfl) ?_
      refine lv_istore (lv' := [(6, .int (nI lb)), (5, .int (nI i)), (4, .int (nI lb)), (0, .ref (ad 1)), (1, .ref (ad a)), (2, .ref (ad b)), (3, .ref (ad t))]) hx hb dR_writeProduct_33 hl (by decide) rfl (fun ls hl => ?_)
      have cont : ∀ (H : Heap) (locs : List Loc) (ls : Array Slot), zw G ad (va_up w 71 (some (zrow G (zS0 n o P A B (i + 1))))) s H locs → lv_has ls 7 [(5, .int (nI i)), (4, .int (nI lb)), (0, .ref (ad 1)), (1, .ref (ad a)), (2, .ref (ad b)), (3, .ref (ad t))] → W p l e (zR (2)) s m ([.ref (ad 1), .ref (ad a), .ref (ad b), .ref (ad t)] : List Value).toArray below meth c H locs 0 0 Q (F0 m 96 ls []) := by
        intro H locs ls Z hl
        refine lv_iinc (v := (nI (i + 1))) (lv' := [(5, .int (nI (i + 1))), (4, .int (nI lb)), (0, .ref (ad 1)), (1, .ref (ad a)), (2, .ref (ad b)), (3, .ref (ad t))]) hx hb dR_writeProduct_96 hl (k := 0) rfl (nI_1 i) (by decide) rfl (fun ls hl => ?_)
        refine lv_goto (tgt := 22) hx hb dR_writeProduct_99 (by decide) ?_
        exact ih (i + 1) _ _ ls (by omega) Z (lv_sub hl [0, 1, 2, 3, 4, 5] rfl)
      by_cases hAi : A i = 0
      · have Z0 := Z
        refine lv_aload_n hx hb dR_writeProduct_35 rfl (lv_at hl 4 rfl) ?_
        refine lv_iload hx hb dR_writeProduct_36 (lv_at hl 1 rfl) ?_
        refine zw_iald hx hb Z ha1 (vin (by omega) (by decide)) dR_writeProduct_38 ?_
        refine zw_top (nI (A i)) (by rw [ncl (by omega)]) ?_
        refine lv_if_eq (tgt := 96) hx hb dR_writeProduct_39 (by decide) (fun _ => ?_) (fun hc => absurd (show (nI (A i)) = 0 from by rw [hAi]; rfl) hc)
        rw [zS1_skip hAi] at Z
        exact cont _ _ ls Z (lv_sub hl [1, 2, 3, 4, 5, 6] rfl)
      · exact inner i (by omega) hAi cont (zCt n - lb) lb _ _ ls (by omega) (by rw [zS1_first hlb]; exact Z) hl
  exact outer (zCt n - la) la _ _ ls (by omega) (by rw [zS0_first hla]; exact Z) hl
