set_option maxHeartbeats 4000000 in
set_option maxRecDepth 100000 in
theorem c_M_modulo (l : Launch) {G : zG} {ad : Nat → Nat} {w : Nat → Option va_E} (P n o : Nat) (F : Nat → Int32) (B : Nat → Nat → Nat) (hM : zMod G ad w P n o F B) (x : Int64) : Met l yM_modulo wM_modulo (zR (1)) (va_Pc [.ref (ad 100), .long x] (zw_U G ad w)) (va_Qi (S := Nat → Option va_E) (fun r w' => r = nI (zmo P x) ∧ w' = w) (fun u t => zw_U G ((fun _ => ad) u) ((fun w' => w') u) t) (zA G)) 0 0 (zA G) := by
  refine zw_methi (S := Nat → Option va_E) (fa := fun _ => ad) (fw := fun w' => w') (by decide) rfl (Nat.le_of_ble_eq_true rfl) ?_
  intro p e s m below meth c Q ls C hname Z hl hret
  obtain ⟨hx, hb, hml, hown, hts, hlk⟩ := C
  have hT : ∀ w ∈ zT, w.before ([.ref (ad 100), .long x] : List Value).toArray s = true := fun w h => hts w (List.mem_cons_of_mem _ h)
  have hown : s.vm.findClass "PolynomialDeskModel" = some m.cls := hown
  have hl : lv_has ls 4 [(0, .ref (ad 100)), (1, .long x)] := hl
  obtain ⟨h100, ⟨hF1, hF2, hF3, hF4, hF10⟩, ⟨hP1, hP2⟩, hcfg, ⟨dg, h101, hdg⟩, ⟨ex, h102, hex⟩, ⟨ys, h103, hys⟩, ⟨un, h104, hun⟩, ⟨cl, h105, hcl, hpB⟩⟩ := id hM
  have hct := zCt_le (n := n)
  refine lv_lload_n hx hb dM_modulo_0 rfl (lv_at hl 1 rfl) ?_
  refine lv_aload_n hx hb dM_modulo_1 rfl (lv_at hl 0 rfl) ?_
  refine zw_get (v := .int (F 1)) hx hb hT uM hown Z h100 rfl 1 (by decide) (hT _ mf_M_7) (fun _ h9 => h9) rfl dM_modulo_2 ?_
  refine zw_top (nI P) (hF1) ?_
  refine lv_i2l hx hb dM_modulo_5 rfl ?_
  refine zw_topl (lN P) (nI_l (by omega)) ?_
  refine lv_lrem hx hb dM_modulo_6 (by intro h9; have h8 := congrArg Int64.toInt h9; rw [lN_toInt (by omega)] at h8; have h7 : (0 : Int64).toInt = 0 := rfl; omega) ?_
  refine lv_l2i hx hb dM_modulo_7 rfl ?_
  refine lv_topi (fun r9 hr9 => ?_)
  have hr : r9.toInt = x.toInt.tmod P := by rw [hr9]; exact zrem64i x (by omega) (by omega)
  obtain ⟨-, hb1, hb2, -, -⟩ := ztmx x.toInt (P := P) (by omega)
  have hlt := zmo_lt x (P := P) (by omega)
  refine lv_istore_n (lv' := [(3, .int r9), (0, .ref (ad 100)), (1, .long x)]) hx hb dM_modulo_8 rfl hl (by decide) rfl (fun ls hl => ?_)
  refine lv_iload_n hx hb dM_modulo_9 rfl (lv_at hl 0 rfl) ?_
  refine lv_if_ge (tgt := 22) hx hb dM_modulo_10 (by decide) (fun hc => ?_) (fun hc => ?_)
  · refine lv_iload_n hx hb dM_modulo_22 rfl (lv_at hl 0 rfl) ?_
    exact hret _ _ _ _ _ _ dM_modulo_23 (⟨by
      have h0 : ¬ x.toInt.tmod P < 0 := fun h9 => by
        have h8 := Int32.le_iff_toInt_le.mp hc
        have h7 : (0 : Int32).toInt = 0 := rfl
        omega
      have h1 := zmo_of x (P := P) (by omega) (r := r9.toInt) (by rw [if_neg h0]; exact hr)
      apply Int32.toInt_inj.mp
      rw [h1, nI_toInt (by omega)], rfl⟩) Z
  · refine lv_iload_n hx hb dM_modulo_13 rfl (lv_at hl 0 rfl) ?_
    refine lv_aload_n hx hb dM_modulo_14 rfl (lv_at hl 1 rfl) ?_
    refine zw_get (v := .int (F 1)) hx hb hT uM hown Z h100 rfl 1 (by decide) (hT _ mf_M_7) (fun _ h9 => h9) rfl dM_modulo_15 ?_
    refine zw_top (nI P) (hF1) ?_
    refine lv_iadd hx hb dM_modulo_18 ?_
    refine lv_goto (tgt := 23) hx hb dM_modulo_19 (by decide) ?_
    exact hret _ _ _ _ _ _ dM_modulo_23 (⟨by
      have h0 : x.toInt.tmod P < 0 := by
        apply Int.lt_of_not_ge
        intro h9
        apply hc
        apply Int32.le_iff_toInt_le.mpr
        have h7 : (0 : Int32).toInt = 0 := rfl
        omega
      have h1 := zmo_of x (P := P) (by omega) (r := r9.toInt + P) (by rw [if_pos h0, hr])
      apply Int32.toInt_inj.mp
      rw [Int32.toInt_add, nI_toInt (by omega), nI_toInt (by omega), Int.bmod_eq_of_le (by omega) (by omega)]
      exact h1, rfl⟩) Z

set_option maxHeartbeats 4000000 in
set_option maxRecDepth 100000 in
theorem c_M_cell (l : Launch) {G : zG} {ad : Nat → Nat} {w : Nat → Option va_E} (P n o : Nat) (F : Nat → Int32) (B : Nat → Nat → Nat) (hM : zMod G ad w P n o F B) (t i : Nat) (ht : t < 73) (hi : i < zCt n) : Met l yM_cell wM_cell (zR (1)) (va_Pc [.ref (ad 100), .int (nI t), .int (nI (zKy n o i))] (zw_U G ad w)) (va_Qi (S := Nat → Option va_E) (fun r w' => r = nI (B t i) ∧ w' = w) (fun u t => zw_U G ((fun _ => ad) u) ((fun w' => w') u) t) (zA G)) 0 0 (zA G) := by
  refine zw_methi (S := Nat → Option va_E) (fa := fun _ => ad) (fw := fun w' => w') (by decide) rfl (Nat.le_of_ble_eq_true rfl) ?_
  intro p e s m below meth c Q ls C hname Z hl hret
  obtain ⟨hx, hb, hml, hown, hts, hlk⟩ := C
  have hT : ∀ w ∈ zT, w.before ([.ref (ad 100), .int (nI t), .int (nI (zKy n o i))] : List Value).toArray s = true := fun w h => hts w (List.mem_cons_of_mem _ h)
  have hown : s.vm.findClass "PolynomialDeskModel" = some m.cls := hown
  have hl : lv_has ls 3 [(0, .ref (ad 100)), (1, .int (nI t)), (2, .int (nI (zKy n o i)))] := hl
  obtain ⟨h100, ⟨hF1, hF2, hF3, hF4, hF10⟩, ⟨hP1, hP2⟩, hcfg, ⟨dg, h101, hdg⟩, ⟨ex, h102, hex⟩, ⟨ys, h103, hys⟩, ⟨un, h104, hun⟩, ⟨cl, h105, hcl, hpB⟩⟩ := id hM
  have hct := zCt_le (n := n)
  have hk := zKy_lt hcfg hi
  refine lv_aload_n hx hb dM_cell_0 rfl (lv_at hl 0 rfl) ?_
  refine zw_get (v := .ref (ad 105)) hx hb hT uM hown Z h100 rfl 11 (by decide) (hT _ mf_M_27) (fun _ h9 => h9) rfl dM_cell_1 ?_
  refine lv_sipush (v := 1296) hx hb dM_cell_4 (by decide) ?_
  refine lv_iload_n hx hb dM_cell_7 rfl (lv_at hl 1 rfl) ?_
  refine lv_imul hx hb dM_cell_8 ?_
  refine zw_top (nI (1296 * t)) (pk_mul 1296 t) ?_
  refine lv_iload_n hx hb dM_cell_9 rfl (lv_at hl 2 rfl) ?_
  refine lv_iadd hx hb dM_cell_10 ?_
  refine zw_top (nI (1296 * t + zKy n o i)) (nI_add _ _) ?_
  refine zw_iald hx hb Z h105 (vin (by omega) (by decide)) dM_cell_11 ?_
  refine zw_top (nI (B t i)) (by rw [ncl (by omega)]; exact hcl t ht i hi) ?_
  exact hret _ _ _ _ _ _ dM_cell_12 (⟨rfl, rfl⟩) Z

set_option maxHeartbeats 4000000 in
set_option maxRecDepth 100000 in
theorem c_M_lay (l : Launch) {G : zG} {ad : Nat → Nat} {w : Nat → Option va_E} (P n o : Nat) (F : Nat → Int32) (B : Nat → Nat → Nat) (hM : zMod G ad w P n o F B) (t i v : Nat) (ht : t < 73) (hi : i < zCt n) (hv : v < P) : Met l yM_lay wM_lay (zR (1)) (va_Pc [.ref (ad 100), .int (nI t), .int (nI (zKy n o i)), .int (nI v)] (zw_U G ad w)) (va_Qv (S := Nat → Option va_E) (fun w' => zMod G ad w' P n o F (va_up B t (va_up (B t) i v)) ∧ zf5 w w') (fun u t => zw_U G ((fun _ => ad) u) ((fun w' => w') u) t) (zA G)) 0 0 (zA G) := by
  refine zw_methv (S := Nat → Option va_E) (fa := fun _ => ad) (fw := fun w' => w') (by decide) rfl (Nat.le_of_ble_eq_true rfl) ?_
  intro p e s m below meth c Q ls C hname Z hl hret
  obtain ⟨hx, hb, hml, hown, hts, hlk⟩ := C
  have hT : ∀ w ∈ zT, w.before ([.ref (ad 100), .int (nI t), .int (nI (zKy n o i)), .int (nI v)] : List Value).toArray s = true := fun w h => hts w (List.mem_cons_of_mem _ h)
  have hown : s.vm.findClass "PolynomialDeskModel" = some m.cls := hown
  have hl : lv_has ls 4 [(0, .ref (ad 100)), (1, .int (nI t)), (2, .int (nI (zKy n o i))), (3, .int (nI v))] := hl
  obtain ⟨h100, ⟨hF1, hF2, hF3, hF4, hF10⟩, ⟨hP1, hP2⟩, hcfg, ⟨dg, h101, hdg⟩, ⟨ex, h102, hex⟩, ⟨ys, h103, hys⟩, ⟨un, h104, hun⟩, ⟨cl, h105, hcl, hpB⟩⟩ := id hM
  have hct := zCt_le (n := n)
  have hk := zKy_lt hcfg hi
  refine lv_aload_n hx hb dM_lay_0 rfl (lv_at hl 0 rfl) ?_
  refine zw_get (v := .ref (ad 105)) hx hb hT uM hown Z h100 rfl 11 (by decide) (hT _ mf_M_27) (fun _ h9 => h9) rfl dM_lay_1 ?_
  refine lv_sipush (v := 1296) hx hb dM_lay_4 (by decide) ?_
  refine lv_iload_n hx hb dM_lay_7 rfl (lv_at hl 1 rfl) ?_
  refine lv_imul hx hb dM_lay_8 ?_
  refine zw_top (nI (1296 * t)) (pk_mul 1296 t) ?_
  refine lv_iload_n hx hb dM_lay_9 rfl (lv_at hl 2 rfl) ?_
  refine lv_iadd hx hb dM_lay_10 ?_
  refine zw_top (nI (1296 * t + zKy n o i)) (nI_add _ _) ?_
  refine lv_iload_n hx hb dM_lay_11 rfl (lv_at hl 3 rfl) ?_
  refine zw_iast hx hb Z h105 (vin (by omega) (by decide)) dM_lay_12 (fun H locs Z => ?_)
  rw [ncl (by omega)] at Z
  have hz5 : zf5 w (va_up w 105 (some (zi G 94608 (upd cl (1296 * t + zKy n o i) (nI v))))) := fun k hk => va_up_ne _ _ hk
  exact hret _ _ _ _ _ dM_lay_13 (⟨hM.cel hz5 (zCel.set hcfg hcl hpB ht hi hv), hz5⟩) Z

set_option maxHeartbeats 4000000 in
set_option maxRecDepth 100000 in
theorem c_M_clear (l : Launch) {G : zG} {ad : Nat → Nat} {w : Nat → Option va_E} (P n o : Nat) (F : Nat → Int32) (B : Nat → Nat → Nat) (hM : zMod G ad w P n o F B) (t : Nat) (ht : t < 73) : Met l yM_clear wM_clear (zR (2)) (va_Pc [.ref (ad 100), .int (nI t)] (zw_U G ad w)) (va_Qv (S := Nat → Option va_E) (fun w' => zMod G ad w' P n o F (va_up B t (fun _ => 0)) ∧ zf5 w w') (fun u t => zw_U G ((fun _ => ad) u) ((fun w' => w') u) t) (zA G)) 0 0 (zA G) := by
  refine zw_methv (S := Nat → Option va_E) (fa := fun _ => ad) (fw := fun w' => w') (by decide) rfl (Nat.le_of_ble_eq_true rfl) ?_
  intro p e s m below meth c Q ls C hname Z hl hret
  obtain ⟨hx, hb, hml, hown, hts, hlk⟩ := C
  have hT : ∀ w ∈ zT, w.before ([.ref (ad 100), .int (nI t)] : List Value).toArray s = true := fun w h => hts w (List.mem_cons_of_mem _ h)
  have hown : s.vm.findClass "PolynomialDeskModel" = some m.cls := hown
  have hl : lv_has ls 3 [(0, .ref (ad 100)), (1, .int (nI t))] := hl
  obtain ⟨h100, ⟨hF1, hF2, hF3, hF4, hF10⟩, ⟨hP1, hP2⟩, hcfg, ⟨dg, h101, hdg⟩, ⟨ex, h102, hex⟩, ⟨ys, h103, hys⟩, ⟨un, h104, hun⟩, ⟨cl, h105, hcl, hpB⟩⟩ := id hM
  have hct := zCt_le (n := n)
  refine lv_iconst (v := 0) hx hb dM_clear_0 (by decide) ?_
  refine lv_istore_n (lv' := [(2, .int 0), (0, .ref (ad 100)), (1, .int (nI t))]) hx hb dM_clear_1 rfl hl (by decide) rfl (fun ls hl => ?_)
  have loop : ∀ (d j : Nat) (wA : Nat → Option va_E) (H : Heap) (locs : List Loc) (ls : Array Slot), d + j = zCt n → zMod G ad wA P n o F (va_up B t (zmix j (fun _ => 0) (B t))) → zf5 w wA → zw G ad wA s H locs → lv_has ls 3 [(2, .int (nI j)), (0, .ref (ad 100)), (1, .int (nI t))] → W p l e (zR (2)) s m ([.ref (ad 100), .int (nI t)] : List Value).toArray below meth c H locs (0) (0) Q (F0 m 2 ls []) := by
    intro d
    induction d with
    | zero =>
      intro j wA H locs ls hdj hA hz Z hl
      obtain ⟨h100a, ⟨hF1a, hF2a, hF3a, hF4a, hF10a⟩, ⟨hP1, hP2⟩, hcfg, ⟨dga, h101a, hdga⟩, ⟨exa, h102a, hexa⟩, ⟨ysa, h103a, hysa⟩, ⟨una, h104a, huna⟩, ⟨cla, h105a, hcla, hpBa⟩⟩ := id hA
      refine lv_iload_n hx hb dM_clear_2 rfl (lv_at hl 0 rfl) ?_
      refine lv_aload_n hx hb dM_clear_3 rfl (lv_at hl 1 rfl) ?_
      refine zw_get (v := .int (F 10)) hx hb hT uM hown Z h100a rfl 10 (by decide) (hT _ mf_M_67) (fun _ h9 => h9) rfl dM_clear_4 ?_
      refine zw_top (nI (zCt n)) (hF10a) ?_
      refine lv_icmp_ge (tgt := 28) hx hb dM_clear_7 (by decide) (fun _ => ?_) (fun hc => absurd (show ((nI (zCt n)) : Int32) ≤ (nI j) from nI_le (by omega) (by omega)) hc)
      exact hret _ _ _ _ _ dM_clear_28 (⟨hA.to (by rw [show j = zCt n by omega, zmix_e (zpol_0 n (by omega)) (hpB t)]), hz⟩) Z
    | succ d ih =>
      intro j wA H locs ls hdj hA hz Z hl
      obtain ⟨h100a, ⟨hF1a, hF2a, hF3a, hF4a, hF10a⟩, ⟨hP1, hP2⟩, hcfg, ⟨dga, h101a, hdga⟩, ⟨exa, h102a, hexa⟩, ⟨ysa, h103a, hysa⟩, ⟨una, h104a, huna⟩, ⟨cla, h105a, hcla, hpBa⟩⟩ := id hA
      refine lv_iload_n hx hb dM_clear_2 rfl (lv_at hl 0 rfl) ?_
      refine lv_aload_n hx hb dM_clear_3 rfl (lv_at hl 1 rfl) ?_
      refine zw_get (v := .int (F 10)) hx hb hT uM hown Z h100a rfl 10 (by decide) (hT _ mf_M_67) (fun _ h9 => h9) rfl dM_clear_4 ?_
      refine zw_top (nI (zCt n)) (hF10a) ?_
      refine lv_icmp_ge (tgt := 28) hx hb dM_clear_7 (by decide) (fun hc => absurd hc (show ¬ (((nI (zCt n)) : Int32) ≤ (nI j)) from nI_ge (by omega) (by omega))) (fun _ => ?_)
      refine lv_aload_n hx hb dM_clear_10 rfl (lv_at hl 1 rfl) ?_
      refine lv_iload_n hx hb dM_clear_11 rfl (lv_at hl 2 rfl) ?_
      refine lv_aload_n hx hb dM_clear_12 rfl (lv_at hl 1 rfl) ?_
      refine zw_get (v := .ref (ad 103)) hx hb hT uM hown Z h100a rfl 8 (by decide) (hT _ mf_M_20) (fun _ h9 => h9) rfl dM_clear_13 ?_
      refine lv_iload_n hx hb dM_clear_16 rfl (lv_at hl 0 rfl) ?_
      refine zw_iald hx hb Z h103a (vin (by omega) (by decide)) dM_clear_17 ?_
      refine zw_top (nI (zKy n o j)) (by rw [ncl (by omega)]; exact hysa j (by omega)) ?_
      refine lv_iconst (v := 0) hx hb dM_clear_18 (by decide) ?_
      refine zw_callv (va_runV (As := [.int (nI t), .int (nI (zKy n o j)), .int 0]) (rest := []) ⟨hx, hb, hml, hown, hts⟩ (c_M_lay l P n o F _ hA t j 0 ht (by omega) (by omega)) (kw_M_lay hts ml_M_85 (zR_fit (by omega) (by omega))) (Z.preV h100a rfl _) rfl rfl hl.1 rfl (lv_room (Nat.le_of_ble_eq_true rfl)) dM_clear_19 ⟨Nat.le_of_ble_eq_true rfl, Nat.le_of_ble_eq_true rfl⟩) Z (fun w1 H locs hp Z => ?_)
      refine lv_iinc (v := (nI (j + 1))) (lv' := [(2, .int (nI (j + 1))), (0, .ref (ad 100)), (1, .int (nI t))]) hx hb dM_clear_22 hl (k := 0) rfl (nI_1 j) (by decide) rfl (fun ls hl => ?_)
      refine lv_goto (tgt := 2) hx hb dM_clear_25 (by decide) ?_
      exact ih (j + 1) w1 _ _ ls (by omega) (hp.1.to (by rw [va_up_self, zup2, zmix_s])) (hz.trans hp.2) Z (lv_sub hl [0, 1, 2] rfl)
  exact loop (zCt n) 0 w _ _ ls (by omega) (hM.to (by rw [zmix_0, zup_id rfl])) (zf5.rfl' w) Z (lv_sub hl [0, 1, 2] rfl)

set_option maxHeartbeats 4000000 in
set_option maxRecDepth 100000 in
theorem c_M_copy (l : Launch) {G : zG} {ad : Nat → Nat} {w : Nat → Option va_E} (P n o : Nat) (F : Nat → Int32) (B : Nat → Nat → Nat) (hM : zMod G ad w P n o F B) (a b : Nat) (ha : a < 73) (hb9 : b < 73) (hab : a ≠ b) : Met l yM_copy wM_copy (zR (2)) (va_Pc [.ref (ad 100), .int (nI a), .int (nI b)] (zw_U G ad w)) (va_Qv (S := Nat → Option va_E) (fun w' => zMod G ad w' P n o F (va_up B b (B a)) ∧ zf5 w w') (fun u t => zw_U G ((fun _ => ad) u) ((fun w' => w') u) t) (zA G)) 0 0 (zA G) := by
  refine zw_methv (S := Nat → Option va_E) (fa := fun _ => ad) (fw := fun w' => w') (by decide) rfl (Nat.le_of_ble_eq_true rfl) ?_
  intro p e s m below meth c Q ls C hname Z hl hret
  obtain ⟨hx, hb, hml, hown, hts, hlk⟩ := C
  have hT : ∀ w ∈ zT, w.before ([.ref (ad 100), .int (nI a), .int (nI b)] : List Value).toArray s = true := fun w h => hts w (List.mem_cons_of_mem _ h)
  have hown : s.vm.findClass "PolynomialDeskModel" = some m.cls := hown
  have hl : lv_has ls 4 [(0, .ref (ad 100)), (1, .int (nI a)), (2, .int (nI b))] := hl
  obtain ⟨h100, ⟨hF1, hF2, hF3, hF4, hF10⟩, ⟨hP1, hP2⟩, hcfg, ⟨dg, h101, hdg⟩, ⟨ex, h102, hex⟩, ⟨ys, h103, hys⟩, ⟨un, h104, hun⟩, ⟨cl, h105, hcl, hpB⟩⟩ := id hM
  have hct := zCt_le (n := n)
  refine lv_iconst (v := 0) hx hb dM_copy_0 (by decide) ?_
  refine lv_istore_n (lv' := [(3, .int 0), (0, .ref (ad 100)), (1, .int (nI a)), (2, .int (nI b))]) hx hb dM_copy_1 rfl hl (by decide) rfl (fun ls hl => ?_)
  have loop : ∀ (d j : Nat) (wA : Nat → Option va_E) (H : Heap) (locs : List Loc) (ls : Array Slot), d + j = zCt n → zMod G ad wA P n o F (va_up B b (zmix j (B a) (B b))) → zf5 w wA → zw G ad wA s H locs → lv_has ls 4 [(3, .int (nI j)), (0, .ref (ad 100)), (1, .int (nI a)), (2, .int (nI b))] → W p l e (zR (2)) s m ([.ref (ad 100), .int (nI a), .int (nI b)] : List Value).toArray below meth c H locs (0) (0) Q (F0 m 2 ls []) := by
    intro d
    induction d with
    | zero =>
      intro j wA H locs ls hdj hA hz Z hl
      obtain ⟨h100a, ⟨hF1a, hF2a, hF3a, hF4a, hF10a⟩, ⟨hP1, hP2⟩, hcfg, ⟨dga, h101a, hdga⟩, ⟨exa, h102a, hexa⟩, ⟨ysa, h103a, hysa⟩, ⟨una, h104a, huna⟩, ⟨cla, h105a, hcla, hpBa⟩⟩ := id hA
      refine lv_iload_n hx hb dM_copy_2 rfl (lv_at hl 0 rfl) ?_
      refine lv_aload_n hx hb dM_copy_3 rfl (lv_at hl 1 rfl) ?_
      refine zw_get (v := .int (F 10)) hx hb hT uM hown Z h100a rfl 10 (by decide) (hT _ mf_M_67) (fun _ h9 => h9) rfl dM_copy_4 ?_
      refine zw_top (nI (zCt n)) (hF10a) ?_
      refine lv_icmp_ge (tgt := 38) hx hb dM_copy_7 (by decide) (fun _ => ?_) (fun hc => absurd (show ((nI (zCt n)) : Int32) ≤ (nI j) from nI_le (by omega) (by omega)) hc)
      exact hret _ _ _ _ _ dM_copy_38 (⟨hA.to (by rw [show j = zCt n by omega, zmix_e (hpB a) (hpB b)]), hz⟩) Z
    | succ d ih =>
      intro j wA H locs ls hdj hA hz Z hl
      obtain ⟨h100a, ⟨hF1a, hF2a, hF3a, hF4a, hF10a⟩, ⟨hP1, hP2⟩, hcfg, ⟨dga, h101a, hdga⟩, ⟨exa, h102a, hexa⟩, ⟨ysa, h103a, hysa⟩, ⟨una, h104a, huna⟩, ⟨cla, h105a, hcla, hpBa⟩⟩ := id hA
      refine lv_iload_n hx hb dM_copy_2 rfl (lv_at hl 0 rfl) ?_
      refine lv_aload_n hx hb dM_copy_3 rfl (lv_at hl 1 rfl) ?_
      refine zw_get (v := .int (F 10)) hx hb hT uM hown Z h100a rfl 10 (by decide) (hT _ mf_M_67) (fun _ h9 => h9) rfl dM_copy_4 ?_
      refine zw_top (nI (zCt n)) (hF10a) ?_
      refine lv_icmp_ge (tgt := 38) hx hb dM_copy_7 (by decide) (fun hc => absurd hc (show ¬ (((nI (zCt n)) : Int32) ≤ (nI j)) from nI_ge (by omega) (by omega))) (fun _ => ?_)
      refine lv_aload_n hx hb dM_copy_10 rfl (lv_at hl 1 rfl) ?_
      refine lv_iload_n hx hb dM_copy_11 rfl (lv_at hl 3 rfl) ?_
      refine lv_aload_n hx hb dM_copy_12 rfl (lv_at hl 1 rfl) ?_
      refine zw_get (v := .ref (ad 103)) hx hb hT uM hown Z h100a rfl 8 (by decide) (hT _ mf_M_20) (fun _ h9 => h9) rfl dM_copy_13 ?_
      refine lv_iload_n hx hb dM_copy_16 rfl (lv_at hl 0 rfl) ?_
      refine zw_iald hx hb Z h103a (vin (by omega) (by decide)) dM_copy_17 ?_
      refine zw_top (nI (zKy n o j)) (by rw [ncl (by omega)]; exact hysa j (by omega)) ?_
      refine lv_aload_n hx hb dM_copy_18 rfl (lv_at hl 1 rfl) ?_
      refine lv_iload_n hx hb dM_copy_19 rfl (lv_at hl 2 rfl) ?_
      refine lv_aload_n hx hb dM_copy_20 rfl (lv_at hl 1 rfl) ?_
      refine zw_get (v := .ref (ad 103)) hx hb hT uM hown Z h100a rfl 8 (by decide) (hT _ mf_M_20) (fun _ h9 => h9) rfl dM_copy_21 ?_
      refine lv_iload_n hx hb dM_copy_24 rfl (lv_at hl 0 rfl) ?_
      refine zw_iald hx hb Z h103a (vin (by omega) (by decide)) dM_copy_25 ?_
      refine zw_top (nI (zKy n o j)) (by rw [ncl (by omega)]; exact hysa j (by omega)) ?_
      refine zw_calli (va_runV (As := [.int (nI a), .int (nI (zKy n o j))]) (rest := [.int (nI (zKy n o j)), .int (nI b), .ref (ad 100)]) ⟨hx, hb, hml, hown, hts⟩ (c_M_cell l P n o F (va_up B b (zmix j (B a) (B b))) hA a j ha (by omega)) (kw_M_cell hts ml_M_88 (zR_fit (by omega) (by omega))) (Z.preV h100a rfl _) rfl rfl hl.1 rfl (lv_room (Nat.le_of_ble_eq_true rfl)) dM_copy_26 ⟨Nat.le_of_ble_eq_true rfl, Nat.le_of_ble_eq_true rfl⟩) Z (fun r wq H locs hp Z => ?_)
      obtain ⟨rfl, hw1⟩ := hp
      rw [hw1] at Z
      clear hw1
      refine zw_top (nI (B a j)) (by rw [va_up_ne _ _ hab]) ?_
      refine zw_callv (va_runV (As := [.int (nI b), .int (nI (zKy n o j)), .int (nI (B a j))]) (rest := []) ⟨hx, hb, hml, hown, hts⟩ (c_M_lay l P n o F _ hA b j (B a j) hb9 (by omega) ((hpB a).1 j)) (kw_M_lay hts ml_M_85 (zR_fit (by omega) (by omega))) (Z.preV h100a rfl _) rfl rfl hl.1 rfl (lv_room (Nat.le_of_ble_eq_true rfl)) dM_copy_29 ⟨Nat.le_of_ble_eq_true rfl, Nat.le_of_ble_eq_true rfl⟩) Z (fun w1 H locs hp Z => ?_)
      refine lv_iinc (v := (nI (j + 1))) (lv' := [(3, .int (nI (j + 1))), (0, .ref (ad 100)), (1, .int (nI a)), (2, .int (nI b))]) hx hb dM_copy_32 hl (k := 0) rfl (nI_1 j) (by decide) rfl (fun ls hl => ?_)
      refine lv_goto (tgt := 2) hx hb dM_copy_35 (by decide) ?_
      exact ih (j + 1) w1 _ _ ls (by omega) (hp.1.to (by rw [va_up_self, zup2, zmix_s])) (hz.trans hp.2) Z (lv_sub hl [0, 1, 2, 3] rfl)
  exact loop (zCt n) 0 w _ _ ls (by omega) (hM.to (by rw [zmix_0, zup_id rfl])) (zf5.rfl' w) Z (lv_sub hl [0, 1, 2, 3] rfl)

set_option maxHeartbeats 4000000 in
set_option maxRecDepth 100000 in
theorem c_M_degreeOf (l : Launch) {G : zG} {ad : Nat → Nat} {w : Nat → Option va_E} (P n o : Nat) (F : Nat → Int32) (B : Nat → Nat → Nat) (hM : zMod G ad w P n o F B) (t : Nat) (ht : t < 73) : Met l yM_degreeOf wM_degreeOf (zR (2)) (va_Pc [.ref (ad 100), .int (nI t)] (zw_U G ad w)) (va_Qi (S := Nat → Option va_E) (fun r w' => r = zdgr n o (fun i => nI (B t i)) ∧ w' = w) (fun u t => zw_U G ((fun _ => ad) u) ((fun w' => w') u) t) (zA G)) 0 0 (zA G) := by
  refine zw_methi (S := Nat → Option va_E) (fa := fun _ => ad) (fw := fun w' => w') (by decide) rfl (Nat.le_of_ble_eq_true rfl) ?_
  intro p e s m below meth c Q ls C hname Z hl hret
  obtain ⟨hx, hb, hml, hown, hts, hlk⟩ := C
  have hT : ∀ w ∈ zT, w.before ([.ref (ad 100), .int (nI t)] : List Value).toArray s = true := fun w h => hts w (List.mem_cons_of_mem _ h)
  have hown : s.vm.findClass "PolynomialDeskModel" = some m.cls := hown
  have hl : lv_has ls 3 [(0, .ref (ad 100)), (1, .int (nI t))] := hl
  obtain ⟨h100, ⟨hF1, hF2, hF3, hF4, hF10⟩, ⟨hP1, hP2⟩, hcfg, ⟨dg, h101, hdg⟩, ⟨ex, h102, hex⟩, ⟨ys, h103, hys⟩, ⟨un, h104, hun⟩, ⟨cl, h105, hcl, hpB⟩⟩ := id hM
  have hct := zCt_le (n := n)
  refine lv_iconst (v := 0) hx hb dM_degreeOf_0 (by decide) ?_
  refine lv_istore_n (lv' := [(2, .int 0), (0, .ref (ad 100)), (1, .int (nI t))]) hx hb dM_degreeOf_1 rfl hl (by decide) rfl (fun ls hl => ?_)
  have loop : ∀ (d j : Nat) (H : Heap) (locs : List Loc) (ls : Array Slot), d + j = zCt n → zfst (fun i => nI (B t i)) 0 (zCt n) = zfst (fun i => nI (B t i)) j d → zw G ad w s H locs → lv_has ls 3 [(2, .int (nI j)), (0, .ref (ad 100)), (1, .int (nI t))] → W p l e (zR (2)) s m ([.ref (ad 100), .int (nI t)] : List Value).toArray below meth c H locs (0) (0) Q (F0 m 2 ls []) := by
    intro d
    induction d with
    | zero =>
      intro j H locs ls hdj hf Z hl
      refine lv_iload_n hx hb dM_degreeOf_2 rfl (lv_at hl 0 rfl) ?_
      refine lv_aload_n hx hb dM_degreeOf_3 rfl (lv_at hl 1 rfl) ?_
      refine zw_get (v := .int (F 10)) hx hb hT uM hown Z h100 rfl 10 (by decide) (hT _ mf_M_67) (fun _ h9 => h9) rfl dM_degreeOf_4 ?_
      refine zw_top (nI (zCt n)) (hF10) ?_
      refine lv_icmp_ge (tgt := 42) hx hb dM_degreeOf_7 (by decide) (fun _ => ?_) (fun hc => absurd (show ((nI (zCt n)) : Int32) ≤ (nI j) from nI_le (by omega) (by omega)) hc)
      refine lv_iconst (v := (-1)) hx hb dM_degreeOf_42 (by decide) ?_
      exact hret _ _ _ _ _ _ dM_degreeOf_43 (⟨by unfold zdgr; rw [hf, show zfst (fun i => nI (B t i)) j 0 = j from rfl, if_neg (by omega)], rfl⟩) Z
    | succ d ih =>
      intro j H locs ls hdj hf Z hl
      refine lv_iload_n hx hb dM_degreeOf_2 rfl (lv_at hl 0 rfl) ?_
      refine lv_aload_n hx hb dM_degreeOf_3 rfl (lv_at hl 1 rfl) ?_
      refine zw_get (v := .int (F 10)) hx hb hT uM hown Z h100 rfl 10 (by decide) (hT _ mf_M_67) (fun _ h9 => h9) rfl dM_degreeOf_4 ?_
      refine zw_top (nI (zCt n)) (hF10) ?_
      refine lv_icmp_ge (tgt := 42) hx hb dM_degreeOf_7 (by decide) (fun hc => absurd hc (show ¬ (((nI (zCt n)) : Int32) ≤ (nI j)) from nI_ge (by omega) (by omega))) (fun _ => ?_)
      refine lv_aload_n hx hb dM_degreeOf_10 rfl (lv_at hl 1 rfl) ?_
      refine lv_iload_n hx hb dM_degreeOf_11 rfl (lv_at hl 2 rfl) ?_
      refine lv_aload_n hx hb dM_degreeOf_12 rfl (lv_at hl 1 rfl) ?_
      refine zw_get (v := .ref (ad 103)) hx hb hT uM hown Z h100 rfl 8 (by decide) (hT _ mf_M_20) (fun _ h9 => h9) rfl dM_degreeOf_13 ?_
      refine lv_iload_n hx hb dM_degreeOf_16 rfl (lv_at hl 0 rfl) ?_
      refine zw_iald hx hb Z h103 (vin (by omega) (by decide)) dM_degreeOf_17 ?_
      refine zw_top (nI (zKy n o j)) (by rw [ncl (by omega)]; exact hys j (by omega)) ?_
      refine zw_calli (va_runV (As := [.int (nI t), .int (nI (zKy n o j))]) (rest := []) ⟨hx, hb, hml, hown, hts⟩ (c_M_cell l P n o F (B) hM t j ht (by omega)) (kw_M_cell hts ml_M_88 (zR_fit (by omega) (by omega))) (Z.preV h100 rfl _) rfl rfl hl.1 rfl (lv_room (Nat.le_of_ble_eq_true rfl)) dM_degreeOf_18 ⟨Nat.le_of_ble_eq_true rfl, Nat.le_of_ble_eq_true rfl⟩) Z (fun r wq H locs hp Z => ?_)
      obtain ⟨rfl, hw1⟩ := hp
      rw [hw1] at Z
      clear hw1
      refine lv_if_eq (tgt := 36) hx hb dM_degreeOf_21 (by decide) (fun hc => ?_) (fun hc => ?_)
      · refine lv_iinc (v := (nI (j + 1))) (lv' := [(2, .int (nI (j + 1))), (0, .ref (ad 100)), (1, .int (nI t))]) hx hb dM_degreeOf_36 hl (k := 0) rfl (nI_1 j) (by decide) rfl (fun ls hl => ?_)
        refine lv_goto (tgt := 2) hx hb dM_degreeOf_39 (by decide) ?_
        exact ih (j + 1) _ _ ls (by omega) (by rw [hf]; exact if_pos hc) Z (lv_sub hl [0, 1, 2] rfl)
      · have hk := zKy_lt hcfg (show j < zCt n by omega)
        refine lv_aload_n hx hb dM_degreeOf_24 rfl (lv_at hl 1 rfl) ?_
        refine zw_get (v := .ref (ad 101)) hx hb hT uM hown Z h100 rfl 6 (by decide) (hT _ mf_M_13) (fun _ h9 => h9) rfl dM_degreeOf_25 ?_
        refine lv_aload_n hx hb dM_degreeOf_28 rfl (lv_at hl 1 rfl) ?_
        refine zw_get (v := .ref (ad 103)) hx hb hT uM hown Z h100 rfl 8 (by decide) (hT _ mf_M_20) (fun _ h9 => h9) rfl dM_degreeOf_29 ?_
        refine lv_iload_n hx hb dM_degreeOf_32 rfl (lv_at hl 0 rfl) ?_
        refine zw_iald hx hb Z h103 (vin (by omega) (by decide)) dM_degreeOf_33 ?_
        refine zw_top (nI (zKy n o j)) (by rw [ncl (by omega)]; exact hys j (by omega)) ?_
        refine zw_iald hx hb Z h101 (vin (by omega) (by decide)) dM_degreeOf_34 ?_
        refine zw_top (nI (zDg n o j)) (by rw [ncl (by omega)]; exact hdg j (by omega)) ?_
        exact hret _ _ _ _ _ _ dM_degreeOf_35 (⟨by unfold zdgr; rw [hf, show zfst (fun i => nI (B t i)) j (d + 1) = j from if_neg hc, if_pos (by omega)], rfl⟩) Z
  exact loop (zCt n) 0 _ _ ls (by omega) rfl Z (lv_sub hl [0, 1, 2] rfl)

set_option maxHeartbeats 4000000 in
set_option maxRecDepth 100000 in
theorem c_M_terms (l : Launch) {G : zG} {ad : Nat → Nat} {w : Nat → Option va_E} (P n o : Nat) (F : Nat → Int32) (B : Nat → Nat → Nat) (hM : zMod G ad w P n o F B) (t : Nat) (ht : t < 73) : Met l yM_terms wM_terms (zR (2)) (va_Pc [.ref (ad 100), .int (nI t)] (zw_U G ad w)) (va_Qi (S := Nat → Option va_E) (fun r w' => r = nI (zcnt (fun i => nI (B t i)) (zCt n)) ∧ w' = w) (fun u t => zw_U G ((fun _ => ad) u) ((fun w' => w') u) t) (zA G)) 0 0 (zA G) := by
  refine zw_methi (S := Nat → Option va_E) (fa := fun _ => ad) (fw := fun w' => w') (by decide) rfl (Nat.le_of_ble_eq_true rfl) ?_
  intro p e s m below meth c Q ls C hname Z hl hret
  obtain ⟨hx, hb, hml, hown, hts, hlk⟩ := C
  have hT : ∀ w ∈ zT, w.before ([.ref (ad 100), .int (nI t)] : List Value).toArray s = true := fun w h => hts w (List.mem_cons_of_mem _ h)
  have hown : s.vm.findClass "PolynomialDeskModel" = some m.cls := hown
  have hl : lv_has ls 4 [(0, .ref (ad 100)), (1, .int (nI t))] := hl
  obtain ⟨h100, ⟨hF1, hF2, hF3, hF4, hF10⟩, ⟨hP1, hP2⟩, hcfg, ⟨dg, h101, hdg⟩, ⟨ex, h102, hex⟩, ⟨ys, h103, hys⟩, ⟨un, h104, hun⟩, ⟨cl, h105, hcl, hpB⟩⟩ := id hM
  have hct := zCt_le (n := n)
  refine lv_iconst (v := 0) hx hb dM_terms_0 (by decide) ?_
  refine lv_istore_n (lv' := [(2, .int 0), (0, .ref (ad 100)), (1, .int (nI t))]) hx hb dM_terms_1 rfl hl (by decide) rfl (fun ls hl => ?_)
  refine lv_iconst (v := 0) hx hb dM_terms_2 (by decide) ?_
  refine lv_istore_n (lv' := [(3, .int 0), (2, .int 0), (0, .ref (ad 100)), (1, .int (nI t))]) hx hb dM_terms_3 rfl hl (by decide) rfl (fun ls hl => ?_)
  have loop : ∀ (d j : Nat) (H : Heap) (locs : List Loc) (ls : Array Slot), d + j = zCt n → zw G ad w s H locs → lv_has ls 4 [(3, .int (nI j)), (2, .int (nI (zcnt (fun i => nI (B t i)) j))), (0, .ref (ad 100)), (1, .int (nI t))] → W p l e (zR (2)) s m ([.ref (ad 100), .int (nI t)] : List Value).toArray below meth c H locs (0) (0) Q (F0 m 4 ls []) := by
    intro d
    induction d with
    | zero =>
      intro j H locs ls hdj Z hl
      refine lv_iload_n hx hb dM_terms_4 rfl (lv_at hl 0 rfl) ?_
      refine lv_aload_n hx hb dM_terms_5 rfl (lv_at hl 2 rfl) ?_
      refine zw_get (v := .int (F 10)) hx hb hT uM hown Z h100 rfl 10 (by decide) (hT _ mf_M_67) (fun _ h9 => h9) rfl dM_terms_6 ?_
      refine zw_top (nI (zCt n)) (hF10) ?_
      refine lv_icmp_ge (tgt := 40) hx hb dM_terms_9 (by decide) (fun _ => ?_) (fun hc => absurd (show ((nI (zCt n)) : Int32) ≤ (nI j) from nI_le (by omega) (by omega)) hc)
      refine lv_iload_n hx hb dM_terms_40 rfl (lv_at hl 1 rfl) ?_
      exact hret _ _ _ _ _ _ dM_terms_41 (⟨by rw [show j = zCt n by omega], rfl⟩) Z
    | succ d ih =>
      intro j H locs ls hdj Z hl
      refine lv_iload_n hx hb dM_terms_4 rfl (lv_at hl 0 rfl) ?_
      refine lv_aload_n hx hb dM_terms_5 rfl (lv_at hl 2 rfl) ?_
      refine zw_get (v := .int (F 10)) hx hb hT uM hown Z h100 rfl 10 (by decide) (hT _ mf_M_67) (fun _ h9 => h9) rfl dM_terms_6 ?_
      refine zw_top (nI (zCt n)) (hF10) ?_
      refine lv_icmp_ge (tgt := 40) hx hb dM_terms_9 (by decide) (fun hc => absurd hc (show ¬ (((nI (zCt n)) : Int32) ≤ (nI j)) from nI_ge (by omega) (by omega))) (fun _ => ?_)
      refine lv_iload_n hx hb dM_terms_12 rfl (lv_at hl 1 rfl) ?_
      refine lv_aload_n hx hb dM_terms_13 rfl (lv_at hl 2 rfl) ?_
      refine lv_iload_n hx hb dM_terms_14 rfl (lv_at hl 3 rfl) ?_
      refine lv_aload_n hx hb dM_terms_15 rfl (lv_at hl 2 rfl) ?_
      refine zw_get (v := .ref (ad 103)) hx hb hT uM hown Z h100 rfl 8 (by decide) (hT _ mf_M_20) (fun _ h9 => h9) rfl dM_terms_16 ?_
      refine lv_iload_n hx hb dM_terms_19 rfl (lv_at hl 0 rfl) ?_
      refine zw_iald hx hb Z h103 (vin (by omega) (by decide)) dM_terms_20 ?_
      refine zw_top (nI (zKy n o j)) (by rw [ncl (by omega)]; exact hys j (by omega)) ?_
      refine zw_calli (va_runV (As := [.int (nI t), .int (nI (zKy n o j))]) (rest := [.int (nI (zcnt (fun i => nI (B t i)) j))]) ⟨hx, hb, hml, hown, hts⟩ (c_M_cell l P n o F (B) hM t j ht (by omega)) (kw_M_cell hts ml_M_88 (zR_fit (by omega) (by omega))) (Z.preV h100 rfl _) rfl rfl hl.1 rfl (lv_room (Nat.le_of_ble_eq_true rfl)) dM_terms_21 ⟨Nat.le_of_ble_eq_true rfl, Nat.le_of_ble_eq_true rfl⟩) Z (fun r wq H locs hp Z => ?_)
      obtain ⟨rfl, hw1⟩ := hp
      rw [hw1] at Z
      clear hw1
      refine lv_if_eq (tgt := 31) hx hb dM_terms_24 (by decide) (fun hc => ?_) (fun hc => ?_)
      · refine lv_iconst (v := 0) hx hb dM_terms_31 (by decide) ?_
        refine lv_iadd hx hb dM_terms_32 ?_
        refine zw_top (nI (zcnt (fun i => nI (B t i)) (j + 1))) (by rw [zcnt, if_pos hc]; exact nI_add _ 0) ?_
        refine lv_istore_n (lv' := [(2, .int (nI (zcnt (fun i => nI (B t i)) (j + 1)))), (3, .int (nI j)), (0, .ref (ad 100)), (1, .int (nI t))]) hx hb dM_terms_33 rfl hl (by decide) rfl (fun ls hl => ?_)
        refine lv_iinc (v := (nI (j + 1))) (lv' := [(3, .int (nI (j + 1))), (2, .int (nI (zcnt (fun i => nI (B t i)) (j + 1)))), (0, .ref (ad 100)), (1, .int (nI t))]) hx hb dM_terms_34 hl (k := 1) rfl (nI_1 j) (by decide) rfl (fun ls hl => ?_)
        refine lv_goto (tgt := 4) hx hb dM_terms_37 (by decide) ?_
        exact ih (j + 1) _ _ ls (by omega) Z (lv_sub hl [0, 1, 2, 3] rfl)
      · refine lv_iconst (v := 1) hx hb dM_terms_27 (by decide) ?_
        refine lv_goto (tgt := 32) hx hb dM_terms_28 (by decide) ?_
        refine lv_iadd hx hb dM_terms_32 ?_
        refine zw_top (nI (zcnt (fun i => nI (B t i)) (j + 1))) (by rw [zcnt, if_neg hc]; exact nI_add _ 1) ?_
        refine lv_istore_n (lv' := [(2, .int (nI (zcnt (fun i => nI (B t i)) (j + 1)))), (3, .int (nI j)), (0, .ref (ad 100)), (1, .int (nI t))]) hx hb dM_terms_33 rfl hl (by decide) rfl (fun ls hl => ?_)
        refine lv_iinc (v := (nI (j + 1))) (lv' := [(3, .int (nI (j + 1))), (2, .int (nI (zcnt (fun i => nI (B t i)) (j + 1)))), (0, .ref (ad 100)), (1, .int (nI t))]) hx hb dM_terms_34 hl (k := 1) rfl (nI_1 j) (by decide) rfl (fun ls hl => ?_)
        refine lv_goto (tgt := 4) hx hb dM_terms_37 (by decide) ?_
        exact ih (j + 1) _ _ ls (by omega) Z (lv_sub hl [0, 1, 2, 3] rfl)
  exact loop (zCt n) 0 _ _ ls (by omega) Z (lv_sub hl [0, 1, 2, 3] rfl)

set_option maxHeartbeats 4000000 in
set_option maxRecDepth 100000 in
theorem c_M_addTo (l : Launch) {G : zG} {ad : Nat → Nat} {w : Nat → Option va_E} (P n o : Nat) (F : Nat → Int32) (B : Nat → Nat → Nat) (hM : zMod G ad w P n o F B) (a f b : Nat) (ha : a < 73) (hb9 : b < 73) (hab : a ≠ b) (hf : f < P) : Met l yM_addTo wM_addTo (zR (2)) (va_Pc [.ref (ad 100), .int (nI a), .int (nI f), .int (nI b)] (zw_U G ad w)) (va_Qv (S := Nat → Option va_E) (fun w' => zMod G ad w' P n o F (va_up B b (zadd n P f (B b) (B a))) ∧ zf5 w w') (fun u t => zw_U G ((fun _ => ad) u) ((fun w' => w') u) t) (zA G)) 0 0 (zA G) := by
  refine zw_methv (S := Nat → Option va_E) (fa := fun _ => ad) (fw := fun w' => w') (by decide) rfl (Nat.le_of_ble_eq_true rfl) ?_
  intro p e s m below meth c Q ls C hname Z hl hret
  obtain ⟨hx, hb, hml, hown, hts, hlk⟩ := C
  have hT : ∀ w ∈ zT, w.before ([.ref (ad 100), .int (nI a), .int (nI f), .int (nI b)] : List Value).toArray s = true := fun w h => hts w (List.mem_cons_of_mem _ h)
  have hown : s.vm.findClass "PolynomialDeskModel" = some m.cls := hown
  have hl : lv_has ls 5 [(0, .ref (ad 100)), (1, .int (nI a)), (2, .int (nI f)), (3, .int (nI b))] := hl
  obtain ⟨h100, ⟨hF1, hF2, hF3, hF4, hF10⟩, ⟨hP1, hP2⟩, hcfg, ⟨dg, h101, hdg⟩, ⟨ex, h102, hex⟩, ⟨ys, h103, hys⟩, ⟨un, h104, hun⟩, ⟨cl, h105, hcl, hpB⟩⟩ := id hM
  have hct := zCt_le (n := n)
  refine lv_iconst (v := 0) hx hb dM_addTo_0 (by decide) ?_
  refine lv_istore (lv' := [(4, .int 0), (0, .ref (ad 100)), (1, .int (nI a)), (2, .int (nI f)), (3, .int (nI b))]) hx hb dM_addTo_1 hl (by decide) rfl (fun ls hl => ?_)
  have loop : ∀ (d j : Nat) (wA : Nat → Option va_E) (H : Heap) (locs : List Loc) (ls : Array Slot), d + j = zCt n → zMod G ad wA P n o F (va_up B b (zmix j (zadd n P f (B b) (B a)) (B b))) → zf5 w wA → zw G ad wA s H locs → lv_has ls 5 [(4, .int (nI j)), (0, .ref (ad 100)), (1, .int (nI a)), (2, .int (nI f)), (3, .int (nI b))] → W p l e (zR (2)) s m ([.ref (ad 100), .int (nI a), .int (nI f), .int (nI b)] : List Value).toArray below meth c H locs (0) (0) Q (F0 m 3 ls []) := by
    intro d
    induction d with
    | zero =>
      intro j wA H locs ls hdj hA hz Z hl
      obtain ⟨h100a, ⟨hF1a, hF2a, hF3a, hF4a, hF10a⟩, ⟨hP1, hP2⟩, hcfg, ⟨dga, h101a, hdga⟩, ⟨exa, h102a, hexa⟩, ⟨ysa, h103a, hysa⟩, ⟨una, h104a, huna⟩, ⟨cla, h105a, hcla, hpBa⟩⟩ := id hA
      refine lv_iload hx hb dM_addTo_3 (lv_at hl 0 rfl) ?_
      refine lv_aload_n hx hb dM_addTo_5 rfl (lv_at hl 1 rfl) ?_
      refine zw_get (v := .int (F 10)) hx hb hT uM hown Z h100a rfl 10 (by decide) (hT _ mf_M_67) (fun _ h9 => h9) rfl dM_addTo_6 ?_
      refine zw_top (nI (zCt n)) (hF10a) ?_
      refine lv_icmp_ge (tgt := 64) hx hb dM_addTo_9 (by decide) (fun _ => ?_) (fun hc => absurd (show ((nI (zCt n)) : Int32) ≤ (nI j) from nI_le (by omega) (by omega)) hc)
      exact hret _ _ _ _ _ dM_addTo_64 (⟨hA.to (by rw [show j = zCt n by omega, zmix_e (zadd_pol (by omega)) (hpB b)]), hz⟩) Z
    | succ d ih =>
      intro j wA H locs ls hdj hA hz Z hl
      obtain ⟨h100a, ⟨hF1a, hF2a, hF3a, hF4a, hF10a⟩, ⟨hP1, hP2⟩, hcfg, ⟨dga, h101a, hdga⟩, ⟨exa, h102a, hexa⟩, ⟨ysa, h103a, hysa⟩, ⟨una, h104a, huna⟩, ⟨cla, h105a, hcla, hpBa⟩⟩ := id hA
      have h1 := (hpB a).1 j
      have h2 := (hpB b).1 j
      have h4 := zmul_lt hP2 hf h1
      refine lv_iload hx hb dM_addTo_3 (lv_at hl 0 rfl) ?_
      refine lv_aload_n hx hb dM_addTo_5 rfl (lv_at hl 1 rfl) ?_
      refine zw_get (v := .int (F 10)) hx hb hT uM hown Z h100a rfl 10 (by decide) (hT _ mf_M_67) (fun _ h9 => h9) rfl dM_addTo_6 ?_
      refine zw_top (nI (zCt n)) (hF10a) ?_
      refine lv_icmp_ge (tgt := 64) hx hb dM_addTo_9 (by decide) (fun hc => absurd hc (show ¬ (((nI (zCt n)) : Int32) ≤ (nI j)) from nI_ge (by omega) (by omega))) (fun _ => ?_)
      refine lv_aload_n hx hb dM_addTo_12 rfl (lv_at hl 1 rfl) ?_
      refine lv_iload_n hx hb dM_addTo_13 rfl (lv_at hl 4 rfl) ?_
      refine lv_aload_n hx hb dM_addTo_14 rfl (lv_at hl 1 rfl) ?_
      refine zw_get (v := .ref (ad 103)) hx hb hT uM hown Z h100a rfl 8 (by decide) (hT _ mf_M_20) (fun _ h9 => h9) rfl dM_addTo_15 ?_
      refine lv_iload hx hb dM_addTo_18 (lv_at hl 0 rfl) ?_
      refine zw_iald hx hb Z h103a (vin (by omega) (by decide)) dM_addTo_20 ?_
      refine zw_top (nI (zKy n o j)) (by rw [ncl (by omega)]; exact hysa j (by omega)) ?_
      refine lv_aload_n hx hb dM_addTo_21 rfl (lv_at hl 1 rfl) ?_
      refine lv_aload_n hx hb dM_addTo_22 rfl (lv_at hl 1 rfl) ?_
      refine lv_iload_n hx hb dM_addTo_23 rfl (lv_at hl 4 rfl) ?_
      refine lv_aload_n hx hb dM_addTo_24 rfl (lv_at hl 1 rfl) ?_
      refine zw_get (v := .ref (ad 103)) hx hb hT uM hown Z h100a rfl 8 (by decide) (hT _ mf_M_20) (fun _ h9 => h9) rfl dM_addTo_25 ?_
      refine lv_iload hx hb dM_addTo_28 (lv_at hl 0 rfl) ?_
      refine zw_iald hx hb Z h103a (vin (by omega) (by decide)) dM_addTo_30 ?_
      refine zw_top (nI (zKy n o j)) (by rw [ncl (by omega)]; exact hysa j (by omega)) ?_
      refine zw_calli (va_runV (As := [.int (nI b), .int (nI (zKy n o j))]) (rest := [.ref (ad 100), .int (nI (zKy n o j)), .int (nI b), .ref (ad 100)]) ⟨hx, hb, hml, hown, hts⟩ (c_M_cell l P n o F (va_up B b (zmix j (zadd n P f (B b) (B a)) (B b))) hA b j hb9 (by omega)) (kw_M_cell hts ml_M_88 (zR_fit (by omega) (by omega))) (Z.preV h100a rfl _) rfl rfl hl.1 rfl (lv_room (Nat.le_of_ble_eq_true rfl)) dM_addTo_31 ⟨Nat.le_of_ble_eq_true rfl, Nat.le_of_ble_eq_true rfl⟩) Z (fun r wq H locs hp Z => ?_)
      obtain ⟨rfl, hw1⟩ := hp
      rw [hw1] at Z
      clear hw1
      refine zw_top (nI (B b j)) (by rw [va_up_self, zmix_at]) ?_
      refine lv_i2l hx hb dM_addTo_34 rfl ?_
      refine lv_iload_n hx hb dM_addTo_35 rfl (lv_at hl 3 rfl) ?_
      refine lv_i2l hx hb dM_addTo_36 rfl ?_
      refine lv_aload_n hx hb dM_addTo_37 rfl (lv_at hl 1 rfl) ?_
      refine lv_iload_n hx hb dM_addTo_38 rfl (lv_at hl 2 rfl) ?_
      refine lv_aload_n hx hb dM_addTo_39 rfl (lv_at hl 1 rfl) ?_
      refine zw_get (v := .ref (ad 103)) hx hb hT uM hown Z h100a rfl 8 (by decide) (hT _ mf_M_20) (fun _ h9 => h9) rfl dM_addTo_40 ?_
      refine lv_iload hx hb dM_addTo_43 (lv_at hl 0 rfl) ?_
      refine zw_iald hx hb Z h103a (vin (by omega) (by decide)) dM_addTo_45 ?_
      refine zw_top (nI (zKy n o j)) (by rw [ncl (by omega)]; exact hysa j (by omega)) ?_
      refine zw_calli (va_runV (As := [.int (nI a), .int (nI (zKy n o j))]) (rest := [.long ((nI f).toInt64), .long ((nI (B b j)).toInt64), .ref (ad 100), .int (nI (zKy n o j)), .int (nI b), .ref (ad 100)]) ⟨hx, hb, hml, hown, hts⟩ (c_M_cell l P n o F (va_up B b (zmix j (zadd n P f (B b) (B a)) (B b))) hA a j ha (by omega)) (kw_M_cell hts ml_M_88 (zR_fit (by omega) (by omega))) (Z.preV h100a rfl _) rfl rfl hl.1 rfl (lv_room (Nat.le_of_ble_eq_true rfl)) dM_addTo_46 ⟨Nat.le_of_ble_eq_true rfl, Nat.le_of_ble_eq_true rfl⟩) Z (fun r wq H locs hp Z => ?_)
      obtain ⟨rfl, hw1⟩ := hp
      rw [hw1] at Z
      clear hw1
      refine zw_top (nI (B a j)) (by rw [va_up_ne _ _ hab]) ?_
      refine lv_i2l hx hb dM_addTo_49 rfl ?_
      refine lv_lmul hx hb dM_addTo_50 ?_
      refine lv_ladd hx hb dM_addTo_51 ?_
      refine zw_topl (lN (B b j + f * B a j)) (by rw [nI_l (by omega), nI_l (by omega), nI_l (by omega), lN_mul, lN_add]) ?_
      refine zw_calli (va_runV (As := [.long (lN (B b j + f * B a j))]) (rest := [.int (nI (zKy n o j)), .int (nI b), .ref (ad 100)]) ⟨hx, hb, hml, hown, hts⟩ (c_M_modulo l P n o F _ hA (lN (B b j + f * B a j))) (kw_M_modulo hts ml_M_92 (zR_fit (by omega) (by omega))) (Z.preV h100a rfl _) rfl rfl hl.1 rfl (lv_room (Nat.le_of_ble_eq_true rfl)) dM_addTo_52 ⟨Nat.le_of_ble_eq_true rfl, Nat.le_of_ble_eq_true rfl⟩) Z (fun r wq H locs hp Z => ?_)
      obtain ⟨rfl, hw1⟩ := hp
      rw [hw1] at Z
      clear hw1
      refine zw_top (nI ((zadd n P f (B b) (B a)) j)) (by rw [zmo_N (by omega)]; unfold zadd; rw [if_pos (by omega)]) ?_
      refine zw_callv (va_runV (As := [.int (nI b), .int (nI (zKy n o j)), .int (nI ((zadd n P f (B b) (B a)) j))]) (rest := []) ⟨hx, hb, hml, hown, hts⟩ (c_M_lay l P n o F _ hA b j ((zadd n P f (B b) (B a)) j) hb9 (by omega) ((zadd_pol (by omega)).1 j)) (kw_M_lay hts ml_M_85 (zR_fit (by omega) (by omega))) (Z.preV h100a rfl _) rfl rfl hl.1 rfl (lv_room (Nat.le_of_ble_eq_true rfl)) dM_addTo_55 ⟨Nat.le_of_ble_eq_true rfl, Nat.le_of_ble_eq_true rfl⟩) Z (fun w1 H locs hp Z => ?_)
      refine lv_iinc (v := (nI (j + 1))) (lv' := [(4, .int (nI (j + 1))), (0, .ref (ad 100)), (1, .int (nI a)), (2, .int (nI f)), (3, .int (nI b))]) hx hb dM_addTo_58 hl (k := 0) rfl (nI_1 j) (by decide) rfl (fun ls hl => ?_)
      refine lv_goto (tgt := 3) hx hb dM_addTo_61 (by decide) ?_
      exact ih (j + 1) w1 _ _ ls (by omega) (hp.1.to (by rw [va_up_self, zup2, zmix_s])) (hz.trans hp.2) Z (lv_sub hl [0, 1, 2, 3, 4] rfl)
  exact loop (zCt n) 0 w _ _ ls (by omega) (hM.to (by rw [zmix_0, zup_id rfl])) (zf5.rfl' w) Z (lv_sub hl [0, 1, 2, 3, 4] rfl)

set_option maxHeartbeats 4000000 in
set_option maxRecDepth 100000 in
theorem c_M_isTooHigh (l : Launch) {G : zG} {ad : Nat → Nat} {w : Nat → Option va_E} (P n o : Nat) (F : Nat → Int32) (B : Nat → Nat → Nat) (hM : zMod G ad w P n o F B) (a b : Nat) (ha : a < 73) (hb9 : b < 73) : Met l yM_isTooHigh wM_isTooHigh (zR (3)) (va_Pc [.ref (ad 100), .int (nI a), .int (nI b)] (zw_U G ad w)) (va_Qi (S := Nat → Option va_E) (fun r w' => r = zb (zhigh2 n o (fun i => nI (B a i)) (fun i => nI (B b i))) ∧ w' = w) (fun u t => zw_U G ((fun _ => ad) u) ((fun w' => w') u) t) (zA G)) 0 0 (zA G) := by
  refine zw_methz (S := Nat → Option va_E) (fa := fun _ => ad) (fw := fun w' => w') (by decide) rfl (Nat.le_of_ble_eq_true rfl) (fun r u h => by rw [h.1]; exact zb_nar _) ?_
  intro p e s m below meth c Q ls C hname Z hl hret
  obtain ⟨hx, hb, hml, hown, hts, hlk⟩ := C
  have hT : ∀ w ∈ zT, w.before ([.ref (ad 100), .int (nI a), .int (nI b)] : List Value).toArray s = true := fun w h => hts w (List.mem_cons_of_mem _ h)
  have hown : s.vm.findClass "PolynomialDeskModel" = some m.cls := hown
  have hl : lv_has ls 5 [(0, .ref (ad 100)), (1, .int (nI a)), (2, .int (nI b))] := hl
  obtain ⟨h100, ⟨hF1, hF2, hF3, hF4, hF10⟩, ⟨hP1, hP2⟩, hcfg, ⟨dg, h101, hdg⟩, ⟨ex, h102, hex⟩, ⟨ys, h103, hys⟩, ⟨un, h104, hun⟩, ⟨cl, h105, hcl, hpB⟩⟩ := id hM
  have hct := zCt_le (n := n)
  refine lv_aload_n hx hb dM_isTooHigh_0 rfl (lv_at hl 0 rfl) ?_
  refine lv_iload_n hx hb dM_isTooHigh_1 rfl (lv_at hl 1 rfl) ?_
  refine zw_calli (va_runV (As := [.int (nI a)]) (rest := []) ⟨hx, hb, hml, hown, hts⟩ (c_M_degreeOf l P n o F B hM a ha) (kw_M_degreeOf hts ml_M_96 (zR_fit (by omega) (by omega))) (Z.preV h100 rfl _) rfl rfl hl.1 rfl (lv_room (Nat.le_of_ble_eq_true rfl)) dM_isTooHigh_2 ⟨Nat.le_of_ble_eq_true rfl, Nat.le_of_ble_eq_true rfl⟩) Z (fun r wq H locs hp Z => ?_)
  obtain ⟨rfl, hw1⟩ := hp
  rw [hw1] at Z
  clear hw1
  refine lv_istore_n (lv' := [(3, .int (zdgr n o (fun i => nI (B a i)))), (0, .ref (ad 100)), (1, .int (nI a)), (2, .int (nI b))]) hx hb dM_isTooHigh_5 rfl hl (by decide) rfl (fun ls hl => ?_)
  refine lv_aload_n hx hb dM_isTooHigh_6 rfl (lv_at hl 1 rfl) ?_
  refine lv_iload_n hx hb dM_isTooHigh_7 rfl (lv_at hl 3 rfl) ?_
  refine zw_calli (va_runV (As := [.int (nI b)]) (rest := []) ⟨hx, hb, hml, hown, hts⟩ (c_M_degreeOf l P n o F B hM b hb9) (kw_M_degreeOf hts ml_M_96 (zR_fit (by omega) (by omega))) (Z.preV h100 rfl _) rfl rfl hl.1 rfl (lv_room (Nat.le_of_ble_eq_true rfl)) dM_isTooHigh_8 ⟨Nat.le_of_ble_eq_true rfl, Nat.le_of_ble_eq_true rfl⟩) Z (fun r wq H locs hp Z => ?_)
  obtain ⟨rfl, hw1⟩ := hp
  rw [hw1] at Z
  clear hw1
  refine lv_istore (lv' := [(4, .int (zdgr n o (fun i => nI (B b i)))), (3, .int (zdgr n o (fun i => nI (B a i)))), (0, .ref (ad 100)), (1, .int (nI a)), (2, .int (nI b))]) hx hb dM_isTooHigh_11 hl (by decide) rfl (fun ls hl => ?_)
  refine lv_iload_n hx hb dM_isTooHigh_13 rfl (lv_at hl 1 rfl) ?_
  refine lv_if_lt (tgt := 37) hx hb dM_isTooHigh_14 (by decide) (fun hc => ?_) (fun hc => ?_)
  · refine lv_iconst (v := 0) hx hb dM_isTooHigh_37 (by decide) ?_
    exact hret _ _ _ _ _ _ dM_isTooHigh_38 (⟨by rw [show zhigh2 n o (fun i => nI (B a i)) (fun i => nI (B b i)) = false from by unfold zhigh2; rw [decide_eq_false (Int32.not_le.mpr hc)]; rfl]; rfl, rfl⟩) Z
  · refine lv_iload hx hb dM_isTooHigh_17 (lv_at hl 0 rfl) ?_
    refine lv_if_lt (tgt := 37) hx hb dM_isTooHigh_19 (by decide) (fun hc2 => ?_) (fun hc2 => ?_)
    · refine lv_iconst (v := 0) hx hb dM_isTooHigh_37 (by decide) ?_
      exact hret _ _ _ _ _ _ dM_isTooHigh_38 (⟨by rw [show zhigh2 n o (fun i => nI (B a i)) (fun i => nI (B b i)) = false from by unfold zhigh2; rw [decide_eq_false (p := 0 ≤ zdgr n o (fun i => nI (B b i))) (Int32.not_le.mpr hc2), Bool.false_and, Bool.and_false]]; rfl, rfl⟩) Z
    · refine lv_iload_n hx hb dM_isTooHigh_22 rfl (lv_at hl 1 rfl) ?_
      refine lv_iload hx hb dM_isTooHigh_23 (lv_at hl 0 rfl) ?_
      refine lv_iadd hx hb dM_isTooHigh_25 ?_
      refine lv_aload_n hx hb dM_isTooHigh_26 rfl (lv_at hl 2 rfl) ?_
      refine zw_get (v := .int (F 4)) hx hb hT uM hown Z h100 rfl 4 (by decide) (hT _ mf_M_61) (fun _ h9 => h9) rfl dM_isTooHigh_27 ?_
      refine zw_top (nI (zHi n)) (hF4) ?_
      refine lv_icmp_le (tgt := 37) hx hb dM_isTooHigh_30 (by decide) (fun hc3 => ?_) (fun hc3 => ?_)
      · refine lv_iconst (v := 0) hx hb dM_isTooHigh_37 (by decide) ?_
        exact hret _ _ _ _ _ _ dM_isTooHigh_38 (⟨by rw [show zhigh2 n o (fun i => nI (B a i)) (fun i => nI (B b i)) = false from by unfold zhigh2; rw [decide_eq_false (p := nI (zHi n) < _) (Int32.not_lt.mpr hc3), Bool.and_false, Bool.and_false]]; rfl, rfl⟩) Z
      · refine lv_iconst (v := 1) hx hb dM_isTooHigh_33 (by decide) ?_
        refine lv_goto (tgt := 38) hx hb dM_isTooHigh_34 (by decide) ?_
        exact hret _ _ _ _ _ _ dM_isTooHigh_38 (⟨by rw [show zhigh2 n o (fun i => nI (B a i)) (fun i => nI (B b i)) = true from by unfold zhigh2; rw [decide_eq_true (Int32.not_lt.mp hc), decide_eq_true (Int32.not_lt.mp hc2), decide_eq_true (Int32.not_le.mp hc3)]; rfl]; rfl, rfl⟩) Z
