theorem zShp.up0 {G : zG} {ad : Nat → Nat} {w : Nat → Option va_E} {x : Option va_E} (h : zShp G ad w) : zShp G ad (va_up w 0 x) := by
  obtain ⟨h1, h4, ⟨e, h16⟩, h5, h6, h7, h8, h9⟩ := h
  have g : ∀ k, k ≠ 0 → va_up w 0 x k = w k := fun k hk => va_up_ne _ _ hk
  exact ⟨by rw [g _ (by decide)]; exact h1, by rw [g _ (by decide)]; exact h4, ⟨e, fun v hv => by rw [g _ (by omega)]; exact h16 v hv⟩, by rw [g _ (by decide)]; exact h5, by rw [g _ (by decide)]; exact h6, by rw [g _ (by decide)]; exact h7, by rw [g _ (by decide)]; exact h8, by rw [g _ (by decide)]; exact h9⟩
theorem zRing.mv {G : zG} {ad ad' : Nat → Nat} {w w' : Nat → Option va_E} {P n o : Nat} {F : Nat → Int32} (h : zRing G ad w P n o F) (ha : ∀ k, (4 ≤ k ∧ k ≤ 9) ∨ k = 71 ∨ k = 72 → ad' k = ad k) (hw : ∀ k, k = 1 ∨ (5 ≤ k ∧ k ≤ 9) ∨ (16 ≤ k ∧ k ≤ 19) → w' k = w k) (h4 : w' 4 = some (zq G 4 (fun v => some (ad' (16 + v))))) : zRing G ad' w' P n o F := by
  obtain ⟨b1, b2, b3, b4, b5, b6, b7, b8, b9, b10, b11⟩ := h
  refine ⟨?_, b2, b3, b4, h4, fun v hv => by rw [hw _ (by omega)]; exact b6 v hv, by rw [hw _ (by omega)]; exact b7, by rw [hw _ (by omega)]; exact b8, by rw [hw _ (by omega)]; exact b9, by rw [hw _ (by omega)]; exact b10, by rw [hw _ (by omega)]; exact b11⟩
  rw [hw 1 (by omega), b1]
  show (some (.inr (2, [.int (F 0), .int (F 1), .int (F 2), .int (F 3), .int (F 4), .ref (ad 4), .ref (ad 5), .ref (ad 6), .ref (ad 7), .ref (ad 8), .ref (ad 9), .ref (ad 71), .ref (ad 72)])) : Option va_E) = some (.inr (2, [.int (F 0), .int (F 1), .int (F 2), .int (F 3), .int (F 4), .ref (ad' 4), .ref (ad' 5), .ref (ad' 6), .ref (ad' 7), .ref (ad' 8), .ref (ad' 9), .ref (ad' 71), .ref (ad' 72)]))
  rw [ha 4 (by omega), ha 5 (by omega), ha 6 (by omega), ha 7 (by omega), ha 8 (by omega), ha 9 (by omega), ha 71 (by omega), ha 72 (by omega)]

set_option maxHeartbeats 4000000 in
set_option maxRecDepth 100000 in
theorem c_K_init (l : Launch) {G : zG} {ad : Nat → Nat} {w : Nat → Option va_E} (hXa : ∀ U H, G.2.2.2 U H → va_AOA .int U) (hXh : ∀ U H, G.2.2.2 U H → zHIGH G U H) (a0 : Nat) (ha0 : ad 0 = a0) (h0 : w 0 = some (.inr (3, [.null, .null, .null, .null, .null]))) (hfree : ∀ k, 1 ≤ k → k ≤ 72 → w k = none) : Met l yK_init wK_init (zRx (6) 72 11289) (va_Pc [.ref a0] (zw_U G ad w)) (va_Qv (S := (Nat → Nat) × (Nat → Option va_E)) (fun u => (∀ j, (j = 0 ∨ 73 ≤ j) → u.1 j = ad j) ∧ zDk G u.1 u.2 7 2 0 (fun _ _ => 0) (fun _ => 0) 0 0 (-1) [] ∧ ∀ k, 73 ≤ k → u.2 k = w k) (fun u t => zw_U G ((fun u => u.1) u) ((fun u => u.2) u) t) (zA G)) 72 11289 (zA G) := by
  refine zw_methv (S := (Nat → Nat) × (Nat → Option va_E)) (fa := fun u => u.1) (fw := fun u => u.2) (by decide) rfl (Nat.le_of_ble_eq_true rfl) ?_
  intro p e s m below meth c Q ls C hname Z hl hret
  obtain ⟨hx, hb, hml, hown, hts, hlk⟩ := C
  have hT : ∀ w ∈ zT, w.before ([.ref a0] : List Value).toArray s = true := fun w h => hts w (List.mem_cons_of_mem _ h)
  have hown : s.vm.findClass "PolynomialDesk" = some m.cls := hown
  have hl : lv_has ls 1 [(0, .ref a0)] := hl
  refine lv_aload_n hx hb dK_init_0 rfl (lv_at hl 0 rfl) ?_
  refine W.objInit hx hb hown (hT _ ml_K_1) (hT _ mi_obj) (hT _ mk_obj) rfl (hl.1.trans hml.symm) rfl dK_init_1 (Nat.le_of_ble_eq_true rfl) (Nat.le_of_ble_eq_true rfl) ?_
  show W p l e (zRx (6) 72 11289) s m ([.ref a0] : List Value).toArray below meth c s.heap [] (0) (0) Q (F0 m 4 ls [])
  refine lv_aload_n hx hb dK_init_4 rfl (lv_at hl 0 rfl) ?_
  refine zn_new (ci := 2) (fs := [.int 0, .int 0, .int 0, .int 0, .int 0, .null, .null, .null, .null, .null, .null, .null, .null]) hx hb hT uR tR tR_ok hown (hT _ mc_K_7) (hT _ mb_R) (hT _ mn_R) Z 1 (hfree 1 (by decide) (by decide)) rfl (by decide) (Nat.le_of_ble_eq_true rfl) (Nat.le_of_ble_eq_true rfl) dK_init_5 (fun ad_1 q1 H hq1 had1 Z => ?_)
  refine lv_dup hx hb dK_init_8 rfl ?_
  refine zw_callv (va_runI (As := []) (rest := [.ref q1, .ref a0]) ⟨hx, hb, hml, hown, hts⟩ (c_R_init l hXa q1 hq1 rfl (fun k hk => by simp only [va_up]; (repeat rw [if_neg (by omega)]); exact hfree k (by omega) (by omega))) (kw_R_init hts ml_K_9 rfl rfl (zRx_fit (by omega) (by omega))) (Z.preS _) rfl rfl hl.1 rfl (lv_room (Nat.le_of_ble_eq_true rfl)) dK_init_9 ⟨Nat.le_of_ble_eq_true rfl, Nat.le_of_ble_eq_true rfl⟩) Z (fun u H locs hp Z => ?_)
  obtain ⟨adR, wR⟩ := u
  have Z : zw G adR wR s H locs := Z
  obtain ⟨hadR, hShp, ⟨g71, h71⟩, ⟨g72, h72⟩, hkR⟩ := hp
  have hadR : ∀ j, ¬ zRn j → adR j = ad_1 j := hadR
  have hShp : zShp G adR wR := hShp
  have h71 : wR 71 = some (zi G 126 g71) := h71
  have h72 : wR 72 = some (zi G 126 g72) := h72
  have hkR : ∀ k, k ≠ 1 → ¬ zRn k → wR k = (va_up w 1 (some (.inr (2, [.int 0, .int 0, .int 0, .int 0, .int 0, .null, .null, .null, .null, .null, .null, .null, .null])))) k := hkR
  refine zn_putF (v := .ref q1) hx hb hT uK hown tK tK_ok nK Z ((hadR 0 (by decide)).trans ((had1 0 (by decide)).trans (ha0))) (show wR 0 = some (.inr (3, [.null, .null, .null, .null, .null])) from ((hkR 0 (by decide) (by decide)).trans h0)) rfl 0 (by decide) (hT _ mf_K_10) (fun _ h9 => h9) rfl hname rfl rfl rfl (by simp) dK_init_12 (fun H locs Z => ?_)
  have Z : zw G adR (va_up wR 0 (some (.inr (3, [.ref q1, .null, .null, .null, .null])))) s H locs := Z
  refine lv_aload_n hx hb dK_init_15 rfl (lv_at hl 0 rfl) ?_
  refine zn_get (v := .ref q1) hx hb hT uK hown Z ((hadR 0 (by decide)).trans ((had1 0 (by decide)).trans (ha0))) (show (va_up wR 0 (some (.inr (3, [.ref q1, .null, .null, .null, .null])))) 0 = some (.inr (3, [.ref q1, .null, .null, .null, .null])) from rfl) rfl 0 (by decide) (hT _ mf_K_10) (fun _ h9 => h9) rfl dK_init_16 ?_
  refine lv_bipush (v := 7) hx hb dK_init_19 (by decide) ?_
  refine lv_iconst (v := 2) hx hb dK_init_21 (by decide) ?_
  refine lv_iconst (v := 0) hx hb dK_init_22 (by decide) ?_
  have hq1R : q1 = adR 1 := ((hadR 1 (by decide)).trans (hq1)).symm
  have hShp2 : zShp G adR (va_up wR 0 (some (.inr (3, [.ref q1, .null, .null, .null, .null])))) := hShp.up0
  obtain ⟨⟨F1, hR1⟩, -⟩ := id hShp2
  rw [hq1R]
  refine zw_callv (va_runV (As := [.int (nI 7), .int (nI 2), .int (nI 0)]) (rest := []) ⟨hx, hb, hml, hown, hts⟩ (c_R_prepare l 7 2 0 hXh hShp2 (by decide) (by decide) ⟨by decide, by decide, by decide⟩) (kw_R_prepare hts ml_K_16 (zRm_fit (by omega) (by omega))) (Z.preV hR1 rfl _) rfl rfl hl.1 rfl (lv_room (Nat.le_of_ble_eq_true rfl)) dK_init_23 ⟨Nat.le_of_ble_eq_true rfl, Nat.le_of_ble_eq_true rfl⟩) Z (fun wP H locs hp Z => ?_)
  obtain ⟨⟨F', hRg⟩, hzP⟩ := hp
  have hzP : zfrp (va_up wR 0 (some (.inr (3, [.ref q1, .null, .null, .null, .null])))) wP := hzP
  have Z : zw G adR wP s H locs := Z
  have hfP : ∀ k, k = 2 ∨ k = 3 ∨ (10 ≤ k ∧ k < 16) ∨ (20 ≤ k ∧ k ≤ 70) → wP k = none := fun k hk => by
    rw [hzP k (by omega), va_up_ne _ _ (by omega), hkR k (by omega) (by omega)]
    simp only [va_up]
    (repeat rw [if_neg (by omega)])
    exact hfree k (by omega) (by omega)
  refine lv_aload_n hx hb dK_init_26 rfl (lv_at hl 0 rfl) ?_
  refine zn_new (ci := 1) (fs := [.null, .null, .int 0, .int 0, .int 0, .int 0, .null, .null, .null]) hx hb hT uE tE tE_ok hown (hT _ mc_K_20) (hT _ mb_E) (hT _ mn_E) Z 2 (hfP 2 (by decide)) rfl (by decide) (Nat.le_of_ble_eq_true rfl) (Nat.le_of_ble_eq_true rfl) dK_init_27 (fun ad_3 q2 H hq2 had3 Z => ?_)
  refine lv_dup hx hb dK_init_30 rfl ?_
  refine lv_aload_n hx hb dK_init_31 rfl (lv_at hl 0 rfl) ?_
  refine zn_get (v := .ref q1) hx hb hT uK hown Z ((had3 0 (by decide)).trans ((hadR 0 (by decide)).trans ((had1 0 (by decide)).trans (ha0)))) (show (va_up wP 2 (some (.inr (1, [.null, .null, .int 0, .int 0, .int 0, .int 0, .null, .null, .null])))) 0 = some (.inr (3, [.ref q1, .null, .null, .null, .null])) from (hzP 0 (by omega))) rfl 0 (by decide) (hT _ mf_K_10) (fun _ h9 => h9) rfl dK_init_32 ?_
  refine zw_callv (va_runI (As := [.ref q1]) (rest := [.ref q2, .ref a0]) ⟨hx, hb, hml, hown, hts⟩ (c_E_init l hXa q2 q1 hq2 ((had3 1 (by decide)).trans ((hadR 1 (by decide)).trans (hq1))) rfl (fun k hk => by simp only [va_up]; (repeat rw [if_neg (by omega)]); exact hfP k (by omega))) (kw_E_init hts ml_K_22 rfl rfl (zRx_fit (by omega) (by omega))) (Z.preS _) rfl rfl hl.1 rfl (lv_room (Nat.le_of_ble_eq_true rfl)) dK_init_35 ⟨Nat.le_of_ble_eq_true rfl, Nat.le_of_ble_eq_true rfl⟩) Z (fun u H locs hp Z => ?_)
  obtain ⟨adE, wE⟩ := u
  have Z : zw G adE wE s H locs := Z
  obtain ⟨hadE, ⟨FE, hE2, hFE2, hFE4, hFE5⟩, h10, ⟨f11, h11, hf11⟩, ⟨f12, h12, hf12⟩, hrows, hkE⟩ := hp
  have hadE : ∀ j, ¬ zEn j → adE j = ad_3 j := hadE
  have hE2 : wE 2 = some (oE adE FE) := hE2
  have h10 : wE 10 = some (zc G 200 (fun _ => 0)) := h10
  have h11 : wE 11 = some (zq G 21 f11) := h11
  have hf11 : ∀ d, d < 21 → f11 d = some (adE (28 + d)) := hf11
  have h12 : wE 12 = some (zq G 21 f12) := h12
  have hf12 : ∀ d, d < 21 → f12 d = some (adE (49 + d)) := hf12
  have hrows : ∀ k, 28 ≤ k → k ≤ 70 → ∃ g : Nat → Int32, wE k = some (zi G 126 g) := hrows
  have hkE : ∀ k, k ≠ 2 → ¬ zEn k → wE k = (va_up wP 2 (some (.inr (1, [.null, .null, .int 0, .int 0, .int 0, .int 0, .null, .null, .null])))) k := hkE
  have hfE : ∀ k, k = 3 ∨ k = 13 ∨ k = 14 ∨ k = 15 ∨ (20 ≤ k ∧ k ≤ 27) → wE k = none := fun k hk => by
    rw [hkE k (by omega) (by omega)]
    simp only [va_up]
    (repeat rw [if_neg (by omega)])
    exact hfP k (by omega)
  refine zn_putF (v := .ref q2) hx hb hT uK hown tK tK_ok nK Z ((hadE 0 (by decide)).trans ((had3 0 (by decide)).trans ((hadR 0 (by decide)).trans ((had1 0 (by decide)).trans (ha0))))) (show wE 0 = some (.inr (3, [.ref q1, .null, .null, .null, .null])) from ((hkE 0 (by decide) (by decide)).trans (hzP 0 (by omega)))) rfl 1 (by decide) (hT _ mf_K_25) (fun _ h9 => h9) rfl hname rfl rfl rfl (by simp) dK_init_38 (fun H locs Z => ?_)
  have Z : zw G adE (va_up wE 0 (some (.inr (3, [.ref q1, .ref q2, .null, .null, .null])))) s H locs := Z
  refine lv_aload_n hx hb dK_init_41 rfl (lv_at hl 0 rfl) ?_
  refine zn_new (ci := 0) (fs := [.null, .null, .int 0]) hx hb hT uP tP tP_ok hown (hT _ mc_K_29) (hT _ mb_P) (hT _ mn_P) Z 3 (hfE 3 (by decide)) rfl (by decide) (Nat.le_of_ble_eq_true rfl) (Nat.le_of_ble_eq_true rfl) dK_init_42 (fun ad_5 q3 H hq3 had5 Z => ?_)
  refine lv_dup hx hb dK_init_45 rfl ?_
  refine lv_aload_n hx hb dK_init_46 rfl (lv_at hl 0 rfl) ?_
  refine zn_get (v := .ref q1) hx hb hT uK hown Z ((had5 0 (by decide)).trans ((hadE 0 (by decide)).trans ((had3 0 (by decide)).trans ((hadR 0 (by decide)).trans ((had1 0 (by decide)).trans (ha0)))))) (show (va_up (va_up wE 0 (some (.inr (3, [.ref q1, .ref q2, .null, .null, .null])))) 3 (some (.inr (0, [.null, .null, .int 0])))) 0 = some (.inr (3, [.ref q1, .ref q2, .null, .null, .null])) from rfl) rfl 0 (by decide) (hT _ mf_K_10) (fun _ h9 => h9) rfl dK_init_47 ?_
  refine zw_callv (va_runI (As := [.ref q1]) (rest := [.ref q3, .ref a0]) ⟨hx, hb, hml, hown, hts⟩ (c_P_init l q3 q1 hq3 ((had5 1 (by decide)).trans ((hadE 1 (by decide)).trans ((had3 1 (by decide)).trans ((hadR 1 (by decide)).trans (hq1))))) rfl (fun k hk => by subst hk; exact hfE 13 (by decide))) (kw_P_init hts ml_K_31 rfl rfl (zRx_fit (by omega) (by omega))) (Z.preS _) rfl rfl hl.1 rfl (lv_room (Nat.le_of_ble_eq_true rfl)) dK_init_50 ⟨Nat.le_of_ble_eq_true rfl, Nat.le_of_ble_eq_true rfl⟩) Z (fun u H locs hp Z => ?_)
  obtain ⟨adQ, wQ⟩ := u
  have Z : zw G adQ wQ s H locs := Z
  obtain ⟨hadQ, ⟨FP, hP3, hFP2⟩, h13, hkQ⟩ := hp
  have hadQ : ∀ j, j ≠ 13 → adQ j = ad_5 j := hadQ
  have hP3 : wQ 3 = some (oP adQ FP) := hP3
  have h13 : wQ 13 = some (zc G 2268 (fun _ => 0)) := h13
  have hkQ : ∀ k, k ≠ 3 → k ≠ 13 → wQ k = (va_up (va_up wE 0 (some (.inr (3, [.ref q1, .ref q2, .null, .null, .null])))) 3 (some (.inr (0, [.null, .null, .int 0])))) k := hkQ
  have hfQ : ∀ k, k = 14 ∨ k = 15 ∨ (20 ≤ k ∧ k ≤ 27) → wQ k = none := fun k hk => by
    rw [hkQ k (by omega) (by omega)]
    simp only [va_up]
    (repeat rw [if_neg (by omega)])
    exact hfE k (by omega)
  refine zn_putF (v := .ref q3) hx hb hT uK hown tK tK_ok nK Z ((hadQ 0 (by decide)).trans ((had5 0 (by decide)).trans ((hadE 0 (by decide)).trans ((had3 0 (by decide)).trans ((hadR 0 (by decide)).trans ((had1 0 (by decide)).trans (ha0))))))) (show wQ 0 = some (.inr (3, [.ref q1, .ref q2, .null, .null, .null])) from (hkQ 0 (by decide) (by decide))) rfl 2 (by decide) (hT _ mf_K_32) (fun _ h9 => h9) rfl hname rfl rfl rfl (by simp) dK_init_53 (fun H locs Z => ?_)
  have Z : zw G adQ (va_up wQ 0 (some (.inr (3, [.ref q1, .ref q2, .ref q3, .null, .null])))) s H locs := Z
  refine lv_aload_n hx hb dK_init_56 rfl (lv_at hl 0 rfl) ?_
  refine lv_bipush (v := 8) hx hb dK_init_57 (by decide) ?_
  refine lv_bipush (v := 126) hx hb dK_init_59 (by decide) ?_
  refine zw_mna hx hb hown (hT _ mc_K_36) (hXa _ _ Z.2.2.2.2.2) (hT _ ma_int) Z 14 20 8 126 rfl rfl (by decide) (by decide) (hfQ 14 (by decide)) (fun i hi => by (try simp only [va_up, zgrid]); (repeat rw [if_neg (by omega)]); exact hfQ _ (by omega)) (by decide) (Nat.le_of_ble_eq_true rfl) (Nat.le_of_ble_eq_true rfl) dK_init_61 (fun ad_7 q14 H hq14 had7 Z => ?_)
  refine zn_putF (v := .ref q14) hx hb hT uK hown tK tK_ok nK Z ((had7 0 (by decide) (by decide)).trans ((hadQ 0 (by decide)).trans ((had5 0 (by decide)).trans ((hadE 0 (by decide)).trans ((had3 0 (by decide)).trans ((hadR 0 (by decide)).trans ((had1 0 (by decide)).trans (ha0)))))))) (show (zgrid G (va_up wQ 0 (some (.inr (3, [.ref q1, .ref q2, .ref q3, .null, .null])))) ad_7 14 20 8 126) 0 = some (.inr (3, [.ref q1, .ref q2, .ref q3, .null, .null])) from rfl) rfl 3 (by decide) (hT _ mf_K_38) (fun _ h9 => h9) rfl hname rfl rfl rfl (by simp) dK_init_65 (fun H locs Z => ?_)
  have Z : zw G ad_7 (va_up (zgrid G (va_up wQ 0 (some (.inr (3, [.ref q1, .ref q2, .ref q3, .null, .null])))) ad_7 14 20 8 126) 0 (some (.inr (3, [.ref q1, .ref q2, .ref q3, .ref q14, .null])))) s H locs := Z
  refine lv_aload_n hx hb dK_init_68 rfl (lv_at hl 0 rfl) ?_
  refine lv_iconst (v := 4) hx hb dK_init_69 (by decide) ?_
  refine zn_newa (atype := .int) hx hb (hT _ ma_int) rfl Z 15 (hfQ 15 (by decide)) 0 rfl (znew_i G 4) rfl (by decide) (Nat.le_of_ble_eq_true rfl) (Nat.le_of_ble_eq_true rfl) (Nat.le_of_ble_eq_true rfl) dK_init_70 (fun ad_8 q15 H hq15 had8 Z => ?_)
  refine zn_putF (v := .ref q15) hx hb hT uK hown tK tK_ok nK Z ((had8 0 (by decide)).trans ((had7 0 (by decide) (by decide)).trans ((hadQ 0 (by decide)).trans ((had5 0 (by decide)).trans ((hadE 0 (by decide)).trans ((had3 0 (by decide)).trans ((hadR 0 (by decide)).trans ((had1 0 (by decide)).trans (ha0))))))))) (show (va_up (va_up (zgrid G (va_up wQ 0 (some (.inr (3, [.ref q1, .ref q2, .ref q3, .null, .null])))) ad_7 14 20 8 126) 0 (some (.inr (3, [.ref q1, .ref q2, .ref q3, .ref q14, .null])))) 15 (some (zi G 4 (fun _ => 0)))) 0 = some (.inr (3, [.ref q1, .ref q2, .ref q3, .ref q14, .null])) from rfl) rfl 4 (by decide) (hT _ mf_K_41) (fun _ h9 => h9) rfl hname rfl rfl rfl (by simp) dK_init_72 (fun H locs Z => ?_)
  have Z : zw G ad_8 (va_up (va_up (va_up (zgrid G (va_up wQ 0 (some (.inr (3, [.ref q1, .ref q2, .ref q3, .null, .null])))) ad_7 14 20 8 126) 0 (some (.inr (3, [.ref q1, .ref q2, .ref q3, .ref q14, .null])))) 15 (some (zi G 4 (fun _ => 0)))) 0 (some (.inr (3, [.ref q1, .ref q2, .ref q3, .ref q14, .ref q15])))) s H locs := Z
  have e1 : ad_8 1 = q1 := (had8 1 (by decide)).trans ((had7 1 (by decide) (by decide)).trans ((hadQ 1 (by decide)).trans ((had5 1 (by decide)).trans ((hadE 1 (by decide)).trans ((had3 1 (by decide)).trans ((hadR 1 (by decide)).trans (hq1)))))))
  have e2 : ad_8 2 = q2 := (had8 2 (by decide)).trans ((had7 2 (by decide) (by decide)).trans ((hadQ 2 (by decide)).trans ((had5 2 (by decide)).trans ((hadE 2 (by decide)).trans (hq2)))))
  have e3 : ad_8 3 = q3 := (had8 3 (by decide)).trans ((had7 3 (by decide) (by decide)).trans ((hadQ 3 (by decide)).trans (hq3)))
  have e14 : ad_8 14 = q14 := (had8 14 (by decide)).trans (hq14)
  have e15 : ad_8 15 = q15 := hq15
  have o0 : (some (.inr (3, [.ref q1, .ref q2, .ref q3, .ref q14, .ref q15])) : Option va_E) = some (oK ad_8 (fun _ => 0)) := by
    show (some (.inr (3, [.ref q1, .ref q2, .ref q3, .ref q14, .ref q15])) : Option va_E) = some (.inr (3, [.ref (ad_8 1), .ref (ad_8 2), .ref (ad_8 3), .ref (ad_8 14), .ref (ad_8 15)]))
    rw [e1, e2, e3, e14, e15]
  obtain ⟨WF, hWF⟩ : ∃ WF, WF = (va_up (va_up (va_up (zgrid G (va_up wQ 0 (some (.inr (3, [.ref q1, .ref q2, .ref q3, .null, .null])))) ad_7 14 20 8 126) 0 (some (.inr (3, [.ref q1, .ref q2, .ref q3, .ref q14, .null])))) 15 (some (zi G 4 (fun _ => 0)))) 0 (some (.inr (3, [.ref q1, .ref q2, .ref q3, .ref q14, .ref q15])))) := ⟨_, rfl⟩
  have hFQ : ∀ k, k ≠ 0 → k ≠ 14 → k ≠ 15 → ¬ (20 ≤ k ∧ k ≤ 27) → WF k = wQ k := fun k h1 h2 h3 h4 => by
    rw [hWF]
    simp only [va_up, zgrid]
    (repeat rw [if_neg (by omega)])
  have hFE : ∀ k, k ≠ 0 → k ≠ 3 → k ≠ 13 → k ≠ 14 → k ≠ 15 → ¬ (20 ≤ k ∧ k ≤ 27) → WF k = wE k := fun k h1 h5 h6 h2 h3 h4 => by
    rw [hFQ k h1 h2 h3 h4, hkQ k h5 h6]
    simp only [va_up]
    (repeat rw [if_neg (by omega)])
  have hFP : ∀ k, k ≠ 0 → k ≠ 2 → k ≠ 3 → ¬ (10 ≤ k ∧ k ≤ 15) → ¬ (20 ≤ k ∧ k ≤ 70) → WF k = wP k := fun k h1 h2 h3 h4 h5 => by
    rw [hFE k h1 h3 (by omega) (by omega) (by omega) (by omega), hkE k h2 (by omega)]
    simp only [va_up]
    (repeat rw [if_neg (by omega)])
  have hF14 : WF 14 = some (zq G 8 (fun i => some (ad_7 (20 + i)))) := by rw [hWF]; rfl
  have hF15 : WF 15 = some (zi G 4 (fun _ => 0)) := by rw [hWF]; rfl
  have hF0 : WF 0 = some (oK ad_8 (fun _ => 0)) := by rw [hWF]; exact o0
  have hF20 : ∀ k, k < 8 → WF (20 + k) = some (zi G 126 (fun _ => 0)) := fun k hk => by
    have h9 : k = 0 ∨ k = 1 ∨ k = 2 ∨ k = 3 ∨ k = 4 ∨ k = 5 ∨ k = 6 ∨ k = 7 := by omega
    rw [hWF]
    rcases h9 with rfl | rfl | rfl | rfl | rfl | rfl | rfl | rfl <;> rfl
  rw [← hWF] at Z
  have eqR : ∀ k, (4 ≤ k ∧ k ≤ 9) ∨ (16 ≤ k ∧ k ≤ 19) ∨ k = 71 ∨ k = 72 → ad_8 k = adR k := fun k hk => (had8 k (by omega)).trans ((had7 k (by omega) (by omega)).trans ((hadQ k (by omega)).trans ((had5 k (by omega)).trans ((hadE k (by omega)).trans ((had3 k (by omega)).trans (rfl))))))
  have eqE : ∀ k, k = 1 ∨ k = 2 ∨ zEn k → ad_8 k = adE k := fun k hk => (had8 k (by omega)).trans ((had7 k (by omega) (by omega)).trans ((hadQ k (by omega)).trans ((had5 k (by omega)).trans (rfl))))
  have eqQ : ∀ k, k = 1 ∨ k = 3 ∨ k = 13 → ad_8 k = adQ k := fun k hk => (had8 k (by omega)).trans ((had7 k (by omega) (by omega)).trans (rfl))
  have eqG : ∀ k, (20 ≤ k ∧ k ≤ 27) → ad_8 k = ad_7 k := fun k hk => (had8 k (by omega)).trans (rfl)
  have Z := Z.extq (k := 4) (n := 4) (f' := fun v => some (ad_8 (16 + v))) ((hFP 4 (by decide) (by decide) (by decide) (by decide) (by decide)).trans hRg.2.2.2.2.1) (fun v hv => by rw [eqR _ (by omega)])
  have Z := Z.extq (k := 11) (n := 21) (f' := fun d => some (ad_8 (28 + d))) (by rw [va_up_ne _ _ (by decide)]; exact (hFE 11 (by decide) (by decide) (by decide) (by decide) (by decide) (by decide)).trans h11) (fun d hd => by rw [hf11 d hd, eqE _ (by omega)])
  have Z := Z.extq (k := 12) (n := 21) (f' := fun d => some (ad_8 (49 + d))) (by rw [va_up_ne _ _ (by decide), va_up_ne _ _ (by decide)]; exact (hFE 12 (by decide) (by decide) (by decide) (by decide) (by decide) (by decide)).trans h12) (fun d hd => by rw [hf12 d hd, eqE _ (by omega)])
  have Z := Z.extq (k := 14) (n := 8) (f' := fun i => some (ad_8 (20 + i))) (by rw [va_up_ne _ _ (by decide), va_up_ne _ _ (by decide), va_up_ne _ _ (by decide)]; exact hF14) (fun i hi => by rw [eqG _ (by omega)])
  obtain ⟨WX, hWX⟩ : ∃ WX, WX = (va_up (va_up (va_up (va_up WF 4 (some (zq G 4 (fun v => some (ad_8 (16 + v)))))) 11 (some (zq G 21 (fun d => some (ad_8 (28 + d)))))) 12 (some (zq G 21 (fun d => some (ad_8 (49 + d)))))) 14 (some (zq G 8 (fun i => some (ad_8 (20 + i)))))) := ⟨_, rfl⟩
  rw [← hWX] at Z
  have hX : ∀ k, k ≠ 4 → k ≠ 11 → k ≠ 12 → k ≠ 14 → WX k = WF k := fun k h1 h2 h3 h4 => by rw [hWX, va_up_ne _ _ h4, va_up_ne _ _ h3, va_up_ne _ _ h2, va_up_ne _ _ h1]
  have hX4 : WX 4 = some (zq G 4 (fun v => some (ad_8 (16 + v)))) := by rw [hWX]; rfl
  have hX11 : WX 11 = some (zq G 21 (fun d => some (ad_8 (28 + d)))) := by rw [hWX]; rfl
  have hX12 : WX 12 = some (zq G 21 (fun d => some (ad_8 (49 + d)))) := by rw [hWX]; rfl
  have hX14 : WX 14 = some (zq G 8 (fun i => some (ad_8 (20 + i)))) := by rw [hWX]; rfl
  have hRF : zRing G ad_8 WX 7 2 0 F' := hRg.mv (fun k hk => eqR k (by omega)) (fun k hk => by rw [hX k (by omega) (by omega) (by omega) (by omega), hFP k (by omega) (by omega) (by omega) (by omega) (by omega)]) hX4
  have hX2 : WX 2 = some (oE ad_8 FE) := by
    rw [hX 2 (by decide) (by decide) (by decide) (by decide), hFE 2 (by decide) (by decide) (by decide) (by decide) (by decide) (by decide), hE2]
    show (some (.inr (1, [.ref (adE 1), .ref (adE 10), .int (FE 2), .int (FE 3), .int (FE 4), .int (FE 5), .ref (adE 11), .ref (adE 12), .ref (adE 70)])) : Option va_E) = some (.inr (1, [.ref (ad_8 1), .ref (ad_8 10), .int (FE 2), .int (FE 3), .int (FE 4), .int (FE 5), .ref (ad_8 11), .ref (ad_8 12), .ref (ad_8 70)]))
    rw [eqE 1 (by decide), eqE 10 (by decide), eqE 11 (by decide), eqE 12 (by decide), eqE 70 (by decide)]
  have hX3 : WX 3 = some (oP ad_8 FP) := by
    rw [hX 3 (by decide) (by decide) (by decide) (by decide), hFQ 3 (by decide) (by decide) (by decide) (by decide), hP3]
    show (some (.inr (0, [.ref (adQ 1), .ref (adQ 13), .int (FP 2)])) : Option va_E) = some (.inr (0, [.ref (ad_8 1), .ref (ad_8 13), .int (FP 2)]))
    rw [eqQ 1 (by decide), eqQ 13 (by decide)]
  have hrw : ∀ k, 20 ≤ k → k ≤ 72 → ∃ g : Nat → Int32, WX k = some (zi G 126 g) := fun k h1 h2 => by
    rw [hX k (by omega) (by omega) (by omega) (by omega)]
    by_cases c1 : k ≤ 27
    · have := hF20 (k - 20) (by omega)
      rw [show 20 + (k - 20) = k by omega] at this
      exact ⟨_, this⟩
    · by_cases c2 : k ≤ 70
      · rw [hFE k (by omega) (by omega) (by omega) (by omega) (by omega) (by omega)]
        exact hrows k (by omega) c2
      · rw [hFP k (by omega) (by omega) (by omega) (by omega) (by omega), hzP k (by omega), va_up_ne _ _ (by omega)]
        have h9 : k = 71 ∨ k = 72 := by omega
        rcases h9 with rfl | rfl
        · exact ⟨_, h71⟩
        · exact ⟨_, h72⟩
  have hRd : zRdr G ad_8 WX 7 2 0 F' FE (fun _ => 0) 0 := ⟨hRF, hX2, ⟨fun _ => 0, by rw [hX 10 (by decide) (by decide) (by decide) (by decide), hFE 10 (by decide) (by decide) (by decide) (by decide) (by decide) (by decide)]; exact h10, fun i hi => absurd hi (Nat.not_lt_zero _)⟩, fun _ => (by decide : (0 : Nat) < 256), by decide, hFE2, hX11, hX12, hrw⟩
  have hDk : zDk G ad_8 WX 7 2 0 (fun _ _ => 0) (fun _ => 0) 0 0 (-1) [] := ⟨F', FE, hRd, hFE4, hFE5, by rw [hX 0 (by decide) (by decide) (by decide) (by decide)]; exact hF0, hX14, ⟨_, by rw [hX 15 (by decide) (by decide) (by decide) (by decide)]; exact hF15⟩, ⟨FP, fun _ => 0, hX3, hFP2, by rw [hX 13 (by decide) (by decide) (by decide) (by decide), hFQ 13 (by decide) (by decide) (by decide) (by decide)]; exact h13, fun i hi => absurd hi (Nat.not_lt_zero _), Nat.zero_le _⟩, fun k hk => ⟨by rw [hX _ (by omega) (by omega) (by omega) (by omega)]; exact hF20 k hk, zpol_0 2 (by decide)⟩⟩
  have hkeep : ∀ k, 73 ≤ k → WX k = w k := fun k hk => by
    rw [hX k (by omega) (by omega) (by omega) (by omega), hFP k (by omega) (by omega) (by omega) (by omega) (by omega), hzP k (by omega), va_up_ne _ _ (by omega), hkR k (by omega) (by omega)]
    simp only [va_up]
    (repeat rw [if_neg (by omega)])
  exact hret _ _ (ad_8, WX) _ _ dK_init_75 (⟨fun j hj => (had8 j (by omega)).trans ((had7 j (by omega) (by omega)).trans ((hadQ j (by omega)).trans ((had5 j (by omega)).trans ((hadE j (by omega)).trans ((had3 j (by omega)).trans ((hadR j (by omega)).trans ((had1 j (by omega)).trans (rfl)))))))), hDk, hkeep⟩) Z
