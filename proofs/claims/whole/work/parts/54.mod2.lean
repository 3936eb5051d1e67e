set_option maxHeartbeats 4000000 in
set_option maxRecDepth 100000 in
theorem c_M_times (l : Launch) {G : zG} {ad : Nat → Nat} {w : Nat → Option va_E} (P n o : Nat) (F : Nat → Int32) (B : Nat → Nat → Nat) (hM : zMod G ad w P n o F B) (a b c9 : Nat) (ha : a < 73) (hb9 : b < 73) (hc9 : c9 < 73) (hac : a ≠ c9) (hbc : b ≠ c9) (hdeg : ∀ i j, i < zCt n → j < zCt n → B a i ≠ 0 → B b j ≠ 0 → zDg n o i + zDg n o j ≤ zHi n) : Met l yM_times wM_times (zR (3)) (va_Pc [.ref (ad 100), .int (nI a), .int (nI b), .int (nI c9)] (zw_U G ad w)) (va_Qv (S := Nat → Option va_E) (fun w' => zMod G ad w' P n o F (va_up B c9 (zmul n o P (B a) (B b))) ∧ zf5 w w') (fun u t => zw_U G ((fun _ => ad) u) ((fun w' => w') u) t) (zA G)) 0 0 (zA G) := by
  refine zw_methv (S := Nat → Option va_E) (fa := fun _ => ad) (fw := fun w' => w') (by decide) rfl (Nat.le_of_ble_eq_true rfl) ?_
  intro p e s m below meth c Q ls C hname Z hl hret
  obtain ⟨hx, hb, hml, hown, hts, hlk⟩ := C
  have hT : ∀ w ∈ zT, w.before ([.ref (ad 100), .int (nI a), .int (nI b), .int (nI c9)] : List Value).toArray s = true := fun w h => hts w (List.mem_cons_of_mem _ h)
  have hown : s.vm.findClass "PolynomialDeskModel" = some m.cls := hown
  have hl : lv_has ls 8 [(0, .ref (ad 100)), (1, .int (nI a)), (2, .int (nI b)), (3, .int (nI c9))] := hl
  obtain ⟨h100, ⟨hF1, hF2, hF3, hF4, hF10⟩, ⟨hP1, hP2⟩, hcfg, ⟨dg, h101, hdg⟩, ⟨ex, h102, hex⟩, ⟨ys, h103, hys⟩, ⟨un, h104, hun⟩, ⟨cl, h105, hcl, hpB⟩⟩ := id hM
  have hct := zCt_le (n := n)
  refine lv_aload_n hx hb dM_times_0 rfl (lv_at hl 0 rfl) ?_
  refine lv_iload_n hx hb dM_times_1 rfl (lv_at hl 3 rfl) ?_
  refine zw_callv (va_runV (As := [.int (nI c9)]) (rest := []) ⟨hx, hb, hml, hown, hts⟩ (c_M_clear l P n o F B hM c9 hc9) (kw_M_clear hts ml_M_100 (zR_fit (by omega) (by omega))) (Z.preV h100 rfl _) rfl rfl hl.1 rfl (lv_room (Nat.le_of_ble_eq_true rfl)) dM_times_2 ⟨Nat.le_of_ble_eq_true rfl, Nat.le_of_ble_eq_true rfl⟩) Z (fun w1 H locs hp Z => ?_)
  obtain ⟨hM1, hz1⟩ := hp
  refine lv_iconst (v := 0) hx hb dM_times_5 (by decide) ?_
  refine lv_istore (lv' := [(4, .int 0), (0, .ref (ad 100)), (1, .int (nI a)), (2, .int (nI b)), (3, .int (nI c9))]) hx hb dM_times_6 hl (by decide) rfl (fun ls hl => ?_)
  have inner : ∀ (i : Nat), i < zCt n → (∀ (wA : Nat → Option va_E) (H : Heap) (locs : List Loc) (ls : Array Slot), zMod G ad wA P n o F (va_up B c9 (zS0 n o P (B a) (B b) (i + 1))) → zf5 w wA → zw G ad wA s H locs → lv_has ls 8 [(4, .int (nI i)), (0, .ref (ad 100)), (1, .int (nI a)), (2, .int (nI b)), (3, .int (nI c9))] → W p l e (zR (3)) s m ([.ref (ad 100), .int (nI a), .int (nI b), .int (nI c9)] : List Value).toArray below meth c H locs (0) (0) Q (F0 m 116 ls [])) → ∀ (k j : Nat) (wA : Nat → Option va_E) (H : Heap) (locs : List Loc) (ls : Array Slot), j + k = zCt n → zMod G ad wA P n o F (va_up B c9 (zS1 n o P (B a) (B b) i j)) → zf5 w wA → zw G ad wA s H locs → lv_has ls 8 [(6, .int (nI j)), (5, .int (nI (zKy n o i))), (4, .int (nI i)), (0, .ref (ad 100)), (1, .int (nI a)), (2, .int (nI b)), (3, .int (nI c9))] → W p l e (zR (3)) s m ([.ref (ad 100), .int (nI a), .int (nI b), .int (nI c9)] : List Value).toArray below meth c H locs (0) (0) Q (F0 m 29 ls []) := by
    intro i hi cont k
    induction k with
    | zero =>
      intro j wA H locs ls hj hA hz Z hl
      obtain ⟨h100a, ⟨hF1a, hF2a, hF3a, hF4a, hF10a⟩, ⟨hP1, hP2⟩, hcfg, ⟨dga, h101a, hdga⟩, ⟨exa, h102a, hexa⟩, ⟨ysa, h103a, hysa⟩, ⟨una, h104a, huna⟩, ⟨cla, h105a, hcla, hpBa⟩⟩ := id hA
      refine lv_iload hx hb dM_times_29 (lv_at hl 0 rfl) ?_
      refine lv_aload_n hx hb dM_times_31 rfl (lv_at hl 3 rfl) ?_
      refine zw_get (v := .int (F 10)) hx hb hT uM hown Z h100a rfl 10 (by decide) (hT _ mf_M_67) (fun _ h9 => h9) rfl dM_times_32 ?_
      refine zw_top (nI (zCt n)) (hF10a) ?_
      refine lv_icmp_ge (tgt := 116) hx hb dM_times_35 (by decide) (fun _ => ?_) (fun hc => absurd (show ((nI (zCt n)) : Int32) ≤ (nI j) from nI_le (by omega) (by omega)) hc)
      exact cont wA _ _ ls (hA.to (by rw [show j = zCt n by omega, zS1_end])) hz Z (lv_sub hl [2, 3, 4, 5, 6] rfl)
    | succ k ih =>
      intro j wA H locs ls hj hA hz Z hl
      obtain ⟨h100a, ⟨hF1a, hF2a, hF3a, hF4a, hF10a⟩, ⟨hP1, hP2⟩, hcfg, ⟨dga, h101a, hdga⟩, ⟨exa, h102a, hexa⟩, ⟨ysa, h103a, hysa⟩, ⟨una, h104a, huna⟩, ⟨cla, h105a, hcla, hpBa⟩⟩ := id hA
      have hky := zKy_lt hcfg hi
      have hA1 := (hpB a).1 i
      have hB1 := (hpB b).1 j
      have hm9 := zmul_lt hP2 hA1 hB1
      refine lv_iload hx hb dM_times_29 (lv_at hl 0 rfl) ?_
      refine lv_aload_n hx hb dM_times_31 rfl (lv_at hl 3 rfl) ?_
      refine zw_get (v := .int (F 10)) hx hb hT uM hown Z h100a rfl 10 (by decide) (hT _ mf_M_67) (fun _ h9 => h9) rfl dM_times_32 ?_
      refine zw_top (nI (zCt n)) (hF10a) ?_
      refine lv_icmp_ge (tgt := 116) hx hb dM_times_35 (by decide) (fun hc => absurd hc (show ¬ (((nI (zCt n)) : Int32) ≤ (nI j)) from nI_ge (by omega) (by omega))) (fun _ => ?_)
      refine lv_aload_n hx hb dM_times_38 rfl (lv_at hl 3 rfl) ?_
      refine lv_iload_n hx hb dM_times_39 rfl (lv_at hl 4 rfl) ?_
      refine lv_iload hx hb dM_times_40 (lv_at hl 1 rfl) ?_
      refine zw_calli (va_runV (As := [.int (nI a), .int (nI (zKy n o i))]) (rest := []) ⟨hx, hb, hml, hown, hts⟩ (c_M_cell l P n o F (va_up B c9 (zS1 n o P (B a) (B b) i j)) hA a i ha hi) (kw_M_cell hts ml_M_88 (zR_fit (by omega) (by omega))) (Z.preV h100a rfl _) rfl rfl hl.1 rfl (lv_room (Nat.le_of_ble_eq_true rfl)) dM_times_42 ⟨Nat.le_of_ble_eq_true rfl, Nat.le_of_ble_eq_true rfl⟩) Z (fun r wq H locs hp Z => ?_)
      obtain ⟨rfl, hw1⟩ := hp
      rw [hw1] at Z
      clear hw1
      refine zw_top (nI (B a i)) (by rw [va_up_ne _ _ hac]) ?_
      refine lv_if_eq (tgt := 116) hx hb dM_times_45 (by decide) (fun hc => ?_) (fun hc => ?_)
      · have hz0 : B a i = 0 := nI_z (by omega) hc
        have hS : zS1 n o P (B a) (B b) i j = zS0 n o P (B a) (B b) (i + 1) := by
          rw [← zS1_skip hz0]
          funext k9
          unfold zS1 zS0
          rw [zpp_z hz0, Nat.add_zero]
        exact cont wA _ _ ls (hA.to (by rw [hS])) hz Z (lv_sub hl [2, 3, 4, 5, 6] rfl)
      · have hnz : B a i ≠ 0 := fun h9 => hc (by rw [h9]; rfl)
        refine lv_aload_n hx hb dM_times_48 rfl (lv_at hl 3 rfl) ?_
        refine zw_get (v := .ref (ad 103)) hx hb hT uM hown Z h100a rfl 8 (by decide) (hT _ mf_M_20) (fun _ h9 => h9) rfl dM_times_49 ?_
        refine lv_iload hx hb dM_times_52 (lv_at hl 0 rfl) ?_
        refine zw_iald hx hb Z h103a (vin (by omega) (by decide)) dM_times_54 ?_
        refine zw_top (nI (zKy n o j)) (by rw [ncl (by omega)]; exact hysa j (by omega)) ?_
        refine lv_istore (lv' := [(7, .int (nI (zKy n o j))), (6, .int (nI j)), (5, .int (nI (zKy n o i))), (4, .int (nI i)), (0, .ref (ad 100)), (1, .int (nI a)), (2, .int (nI b)), (3, .int (nI c9))]) hx hb dM_times_55 hl (by decide) rfl (fun ls hl => ?_)
        refine lv_aload_n hx hb dM_times_57 rfl (lv_at hl 4 rfl) ?_
        refine lv_iload_n hx hb dM_times_58 rfl (lv_at hl 6 rfl) ?_
        refine lv_iload hx hb dM_times_59 (lv_at hl 0 rfl) ?_
        refine zw_calli (va_runV (As := [.int (nI b), .int (nI (zKy n o j))]) (rest := []) ⟨hx, hb, hml, hown, hts⟩ (c_M_cell l P n o F (va_up B c9 (zS1 n o P (B a) (B b) i j)) hA b j hb9 (by omega)) (kw_M_cell hts ml_M_88 (zR_fit (by omega) (by omega))) (Z.preV h100a rfl _) rfl rfl hl.1 rfl (lv_room (Nat.le_of_ble_eq_true rfl)) dM_times_61 ⟨Nat.le_of_ble_eq_true rfl, Nat.le_of_ble_eq_true rfl⟩) Z (fun r wq H locs hp Z => ?_)
        obtain ⟨rfl, hw1⟩ := hp
        rw [hw1] at Z
        clear hw1
        refine zw_top (nI (B b j)) (by rw [va_up_ne _ _ hbc]) ?_
        refine lv_if_eq (tgt := 110) hx hb dM_times_64 (by decide) (fun hc2 => ?_) (fun hc2 => ?_)
        · have hz0 : B b j = 0 := nI_z (by omega) hc2
          refine lv_iinc (v := (nI (j + 1))) (lv' := [(6, .int (nI (j + 1))), (7, .int (nI (zKy n o j))), (5, .int (nI (zKy n o i))), (4, .int (nI i)), (0, .ref (ad 100)), (1, .int (nI a)), (2, .int (nI b)), (3, .int (nI c9))]) hx hb dM_times_110 hl (k := 1) rfl (nI_1 j) (by decide) rfl (fun ls hl => ?_)
          refine lv_goto (tgt := 29) hx hb dM_times_113 (by decide) ?_
          exact ih (j + 1) wA _ _ ls (by omega) (hA.to (by rw [zS1_nob hz0])) hz Z (lv_sub hl [0, 2, 3, 4, 5, 6, 7] rfl)
        · have hnb : B b j ≠ 0 := fun h9 => hc2 (by rw [h9]; rfl)
          obtain ⟨q, hq1, hq2, -⟩ := zAdd hcfg hi (show j < zCt n by omega) (hdeg i j hi (by omega) hnz hnb)
          have hs9 := zS1_lt (n := n) (o := o) (show 0 < P by omega) (B a) (B b) i j q
          have hkj := zKy_lt hcfg (show j < zCt n by omega)
          refine lv_aload_n hx hb dM_times_67 rfl (lv_at hl 4 rfl) ?_
          refine lv_iload_n hx hb dM_times_68 rfl (lv_at hl 7 rfl) ?_
          refine lv_iload hx hb dM_times_69 (lv_at hl 2 rfl) ?_
          refine lv_iload hx hb dM_times_71 (lv_at hl 0 rfl) ?_
          refine lv_iadd hx hb dM_times_73 ?_
          refine zw_top (nI (zKy n o q)) (by rw [hq2]; exact nI_add _ _) ?_
          refine lv_aload_n hx hb dM_times_74 rfl (lv_at hl 4 rfl) ?_
          refine lv_aload_n hx hb dM_times_75 rfl (lv_at hl 4 rfl) ?_
          refine lv_iload_n hx hb dM_times_76 rfl (lv_at hl 7 rfl) ?_
          refine lv_iload hx hb dM_times_77 (lv_at hl 2 rfl) ?_
          refine lv_iload hx hb dM_times_79 (lv_at hl 0 rfl) ?_
          refine lv_iadd hx hb dM_times_81 ?_
          refine zw_top (nI (zKy n o q)) (by rw [hq2]; exact nI_add _ _) ?_
          refine zw_calli (va_runV (As := [.int (nI c9), .int (nI (zKy n o q))]) (rest := [.ref (ad 100), .int (nI (zKy n o q)), .int (nI c9), .ref (ad 100)]) ⟨hx, hb, hml, hown, hts⟩ (c_M_cell l P n o F (va_up B c9 (zS1 n o P (B a) (B b) i j)) hA c9 q hc9 hq1) (kw_M_cell hts ml_M_88 (zR_fit (by omega) (by omega))) (Z.preV h100a rfl _) rfl rfl hl.1 rfl (lv_room (Nat.le_of_ble_eq_true rfl)) dM_times_82 ⟨Nat.le_of_ble_eq_true rfl, Nat.le_of_ble_eq_true rfl⟩) Z (fun r wq H locs hp Z => ?_)
          obtain ⟨rfl, hw1⟩ := hp
          rw [hw1] at Z
          clear hw1
          refine zw_top (nI (zS1 n o P (B a) (B b) i j q)) (by rw [va_up_self]) ?_
          refine lv_i2l hx hb dM_times_85 rfl ?_
          refine lv_aload_n hx hb dM_times_86 rfl (lv_at hl 4 rfl) ?_
          refine lv_iload_n hx hb dM_times_87 rfl (lv_at hl 5 rfl) ?_
          refine lv_iload hx hb dM_times_88 (lv_at hl 2 rfl) ?_
          refine zw_calli (va_runV (As := [.int (nI a), .int (nI (zKy n o i))]) (rest := [.long ((nI (zS1 n o P (B a) (B b) i j q)).toInt64), .ref (ad 100), .int (nI (zKy n o q)), .int (nI c9), .ref (ad 100)]) ⟨hx, hb, hml, hown, hts⟩ (c_M_cell l P n o F (va_up B c9 (zS1 n o P (B a) (B b) i j)) hA a i ha hi) (kw_M_cell hts ml_M_88 (zR_fit (by omega) (by omega))) (Z.preV h100a rfl _) rfl rfl hl.1 rfl (lv_room (Nat.le_of_ble_eq_true rfl)) dM_times_90 ⟨Nat.le_of_ble_eq_true rfl, Nat.le_of_ble_eq_true rfl⟩) Z (fun r wq H locs hp Z => ?_)
          obtain ⟨rfl, hw1⟩ := hp
          rw [hw1] at Z
          clear hw1
          refine zw_top (nI (B a i)) (by rw [va_up_ne _ _ hac]) ?_
          refine lv_i2l hx hb dM_times_93 rfl ?_
          refine lv_aload_n hx hb dM_times_94 rfl (lv_at hl 4 rfl) ?_
          refine lv_iload_n hx hb dM_times_95 rfl (lv_at hl 6 rfl) ?_
          refine lv_iload hx hb dM_times_96 (lv_at hl 0 rfl) ?_
          refine zw_calli (va_runV (As := [.int (nI b), .int (nI (zKy n o j))]) (rest := [.long ((nI (B a i)).toInt64), .long ((nI (zS1 n o P (B a) (B b) i j q)).toInt64), .ref (ad 100), .int (nI (zKy n o q)), .int (nI c9), .ref (ad 100)]) ⟨hx, hb, hml, hown, hts⟩ (c_M_cell l P n o F (va_up B c9 (zS1 n o P (B a) (B b) i j)) hA b j hb9 (by omega)) (kw_M_cell hts ml_M_88 (zR_fit (by omega) (by omega))) (Z.preV h100a rfl _) rfl rfl hl.1 rfl (lv_room (Nat.le_of_ble_eq_true rfl)) dM_times_98 ⟨Nat.le_of_ble_eq_true rfl, Nat.le_of_ble_eq_true rfl⟩) Z (fun r wq H locs hp Z => ?_)
          obtain ⟨rfl, hw1⟩ := hp
          rw [hw1] at Z
          clear hw1
          refine zw_top (nI (B b j)) (by rw [va_up_ne _ _ hbc]) ?_
          refine lv_i2l hx hb dM_times_101 rfl ?_
          refine lv_lmul hx hb dM_times_102 ?_
          refine lv_ladd hx hb dM_times_103 ?_
          refine zw_topl (lN (zS1 n o P (B a) (B b) i j q + B a i * B b j)) (by rw [nI_l (by omega), nI_l (by omega), nI_l (by omega), lN_mul, lN_add]) ?_
          refine zw_calli (va_runV (As := [.long (lN (zS1 n o P (B a) (B b) i j q + B a i * B b j))]) (rest := [.int (nI (zKy n o q)), .int (nI c9), .ref (ad 100)]) ⟨hx, hb, hml, hown, hts⟩ (c_M_modulo l P n o F _ hA (lN (zS1 n o P (B a) (B b) i j q + B a i * B b j))) (kw_M_modulo hts ml_M_92 (zR_fit (by omega) (by omega))) (Z.preV h100a rfl _) rfl rfl hl.1 rfl (lv_room (Nat.le_of_ble_eq_true rfl)) dM_times_104 ⟨Nat.le_of_ble_eq_true rfl, Nat.le_of_ble_eq_true rfl⟩) Z (fun r wq H locs hp Z => ?_)
          obtain ⟨rfl, hw1⟩ := hp
          rw [hw1] at Z
          clear hw1
          refine zw_top (nI ((zS1 n o P (B a) (B b) i j q + B a i * B b j) % P)) (by rw [zmo_N (by omega)]) ?_
          refine zw_callv (va_runV (As := [.int (nI c9), .int (nI (zKy n o q)), .int (nI ((zS1 n o P (B a) (B b) i j q + B a i * B b j) % P))]) (rest := []) ⟨hx, hb, hml, hown, hts⟩ (c_M_lay l P n o F _ hA c9 q ((zS1 n o P (B a) (B b) i j q + B a i * B b j) % P) hc9 hq1 (Nat.mod_lt _ (by omega))) (kw_M_lay hts ml_M_85 (zR_fit (by omega) (by omega))) (Z.preV h100a rfl _) rfl rfl hl.1 rfl (lv_room (Nat.le_of_ble_eq_true rfl)) dM_times_107 ⟨Nat.le_of_ble_eq_true rfl, Nat.le_of_ble_eq_true rfl⟩) Z (fun w2 H locs hp Z => ?_)
          refine lv_iinc (v := (nI (j + 1))) (lv' := [(6, .int (nI (j + 1))), (7, .int (nI (zKy n o j))), (5, .int (nI (zKy n o i))), (4, .int (nI i)), (0, .ref (ad 100)), (1, .int (nI a)), (2, .int (nI b)), (3, .int (nI c9))]) hx hb dM_times_110 hl (k := 1) rfl (nI_1 j) (by decide) rfl (fun ls hl => ?_)
          refine lv_goto (tgt := 29) hx hb dM_times_113 (by decide) ?_
          exact ih (j + 1) w2 _ _ ls (by omega) (hp.1.to (by rw [va_up_self, zup2, zS1_step hcfg hq1 hq2])) (hz.trans hp.2) Z (lv_sub hl [0, 2, 3, 4, 5, 6, 7] rfl)
  have outer : ∀ (k i : Nat) (wA : Nat → Option va_E) (H : Heap) (locs : List Loc) (ls : Array Slot), i + k = zCt n → zMod G ad wA P n o F (va_up B c9 (zS0 n o P (B a) (B b) i)) → zf5 w wA → zw G ad wA s H locs → lv_has ls 8 [(4, .int (nI i)), (0, .ref (ad 100)), (1, .int (nI a)), (2, .int (nI b)), (3, .int (nI c9))] → W p l e (zR (3)) s m ([.ref (ad 100), .int (nI a), .int (nI b), .int (nI c9)] : List Value).toArray below meth c H locs (0) (0) Q (F0 m 8 ls []) := by
    intro k
    induction k with
    | zero =>
      intro i wA H locs ls hi hA hz Z hl
      obtain ⟨h100a, ⟨hF1a, hF2a, hF3a, hF4a, hF10a⟩, ⟨hP1, hP2⟩, hcfg, ⟨dga, h101a, hdga⟩, ⟨exa, h102a, hexa⟩, ⟨ysa, h103a, hysa⟩, ⟨una, h104a, huna⟩, ⟨cla, h105a, hcla, hpBa⟩⟩ := id hA
      refine lv_iload hx hb dM_times_8 (lv_at hl 0 rfl) ?_
      refine lv_aload_n hx hb dM_times_10 rfl (lv_at hl 1 rfl) ?_
      refine zw_get (v := .int (F 10)) hx hb hT uM hown Z h100a rfl 10 (by decide) (hT _ mf_M_67) (fun _ h9 => h9) rfl dM_times_11 ?_
      refine zw_top (nI (zCt n)) (hF10a) ?_
      refine lv_icmp_ge (tgt := 122) hx hb dM_times_14 (by decide) (fun _ => ?_) (fun hc => absurd (show ((nI (zCt n)) : Int32) ≤ (nI i) from nI_le (by omega) (by omega)) hc)
      exact hret _ _ _ _ _ dM_times_122 (⟨hA.to (by rw [show i = zCt n by omega]; rfl), hz⟩) Z
    | succ k ih =>
      intro i wA H locs ls hi hA hz Z hl
      obtain ⟨h100a, ⟨hF1a, hF2a, hF3a, hF4a, hF10a⟩, ⟨hP1, hP2⟩, hcfg, ⟨dga, h101a, hdga⟩, ⟨exa, h102a, hexa⟩, ⟨ysa, h103a, hysa⟩, ⟨una, h104a, huna⟩, ⟨cla, h105a, hcla, hpBa⟩⟩ := id hA
      refine lv_iload hx hb dM_times_8 (lv_at hl 0 rfl) ?_
      refine lv_aload_n hx hb dM_times_10 rfl (lv_at hl 1 rfl) ?_
      refine zw_get (v := .int (F 10)) hx hb hT uM hown Z h100a rfl 10 (by decide) (hT _ mf_M_67) (fun _ h9 => h9) rfl dM_times_11 ?_
      refine zw_top (nI (zCt n)) (hF10a) ?_
      refine lv_icmp_ge (tgt := 122) hx hb dM_times_14 (by decide) (fun hc => absurd hc (show ¬ (((nI (zCt n)) : Int32) ≤ (nI i)) from nI_ge (by omega) (by omega))) (fun _ => ?_)
      refine lv_aload_n hx hb dM_times_17 rfl (lv_at hl 1 rfl) ?_
      refine zw_get (v := .ref (ad 103)) hx hb hT uM hown Z h100a rfl 8 (by decide) (hT _ mf_M_20) (fun _ h9 => h9) rfl dM_times_18 ?_
      refine lv_iload hx hb dM_times_21 (lv_at hl 0 rfl) ?_
      refine zw_iald hx hb Z h103a (vin (by omega) (by decide)) dM_times_23 ?_
      refine zw_top (nI (zKy n o i)) (by rw [ncl (by omega)]; exact hysa i (by omega)) ?_
      refine lv_istore (lv' := [(5, .int (nI (zKy n o i))), (4, .int (nI i)), (0, .ref (ad 100)), (1, .int (nI a)), (2, .int (nI b)), (3, .int (nI c9))]) hx hb dM_times_24 hl (by decide) rfl (fun ls hl => ?_)
      refine lv_iconst (v := 0) hx hb dM_times_26 (by decide) ?_
      refine lv_istore (lv' := [(6, .int 0), (5, .int (nI (zKy n o i))), (4, .int (nI i)), (0, .ref (ad 100)), (1, .int (nI a)), (2, .int (nI b)), (3, .int (nI c9))]) hx hb dM_times_27 hl (by decide) rfl (fun ls hl => ?_)
      refine inner i (by omega) ?_ (zCt n) 0 wA _ _ ls (by omega) (hA.to (by rw [zS1_first (fun j9 h9 => absurd h9 (Nat.not_lt_zero _))])) hz Z (lv_sub hl [0, 1, 2, 3, 4, 5, 6] rfl)
      intro wB H locs ls hB hzB Z hl
      refine lv_iinc (v := (nI (i + 1))) (lv' := [(4, .int (nI (i + 1))), (0, .ref (ad 100)), (1, .int (nI a)), (2, .int (nI b)), (3, .int (nI c9))]) hx hb dM_times_116 hl (k := 0) rfl (nI_1 i) (by decide) rfl (fun ls hl => ?_)
      refine lv_goto (tgt := 8) hx hb dM_times_119 (by decide) ?_
      exact ih (i + 1) wB _ _ ls (by omega) hB hzB Z (lv_sub hl [0, 1, 2, 3, 4] rfl)
  exact outer (zCt n) 0 w1 _ _ ls (by omega) (hM1.to (by rw [zS0_first (fun i9 h9 => absurd h9 (Nat.not_lt_zero _))])) hz1 Z (lv_sub hl [0, 1, 2, 3, 4] rfl)

theorem ztp_one {P c x : Nat} (hc : c < P) (hP : 1 < P) : ∀ e, c * ztp P 1 x e % P = ztp P c x e
  | 0 => by
    show c * 1 % P = c
    rw [Nat.mul_one, Nat.mod_eq_of_lt hc]
  | e + 1 => by
    show c * (ztp P 1 x e * x % P) % P = ztp P c x e * x % P
    rw [← ztp_one hc hP e, Nat.mul_mod_mod, Nat.mod_mul_mod, Nat.mul_assoc]

set_option maxHeartbeats 4000000 in
set_option maxRecDepth 100000 in
theorem c_M_power (l : Launch) {G : zG} {ad : Nat → Nat} {w : Nat → Option va_E} (P n o : Nat) (F : Nat → Int32) (B : Nat → Nat → Nat) (hM : zMod G ad w P n o F B) (x : Int32) (e9 : Nat) (he9 : e9 < 1000) : Met l yM_power wM_power (zR (2)) (va_Pc [.ref (ad 100), .int x, .int (nI e9)] (zw_U G ad w)) (va_Qi (S := Nat → Option va_E) (fun r w' => r = nI (ztp P 1 (zred P x) e9) ∧ w' = w) (fun u t => zw_U G ((fun _ => ad) u) ((fun w' => w') u) t) (zA G)) 0 0 (zA G) := by
  refine zw_methi (S := Nat → Option va_E) (fa := fun _ => ad) (fw := fun w' => w') (by decide) rfl (Nat.le_of_ble_eq_true rfl) ?_
  intro p e s m below meth c Q ls C hname Z hl hret
  obtain ⟨hx, hb, hml, hown, hts, hlk⟩ := C
  have hT : ∀ w ∈ zT, w.before ([.ref (ad 100), .int x, .int (nI e9)] : List Value).toArray s = true := fun w h => hts w (List.mem_cons_of_mem _ h)
  have hown : s.vm.findClass "PolynomialDeskModel" = some m.cls := hown
  have hl : lv_has ls 5 [(0, .ref (ad 100)), (1, .int x), (2, .int (nI e9))] := hl
  obtain ⟨h100, ⟨hF1, hF2, hF3, hF4, hF10⟩, ⟨hP1, hP2⟩, hcfg, ⟨dg, h101, hdg⟩, ⟨ex, h102, hex⟩, ⟨ys, h103, hys⟩, ⟨un, h104, hun⟩, ⟨cl, h105, hcl, hpB⟩⟩ := id hM
  have hct := zCt_le (n := n)
  have hxr := zred_lt x (P := P) (by omega)
  refine lv_aload_n hx hb dM_power_0 rfl (lv_at hl 0 rfl) ?_
  refine lv_lconst (v := 1) hx hb dM_power_1 (by decide) ?_
  refine zw_calli (va_runV (As := [.long 1]) (rest := []) ⟨hx, hb, hml, hown, hts⟩ (c_M_modulo l P n o F B hM 1) (kw_M_modulo hts ml_M_92 (zR_fit (by omega) (by omega))) (Z.preV h100 rfl _) rfl rfl hl.1 rfl (lv_room (Nat.le_of_ble_eq_true rfl)) dM_power_2 ⟨Nat.le_of_ble_eq_true rfl, Nat.le_of_ble_eq_true rfl⟩) Z (fun r wq H locs hp Z => ?_)
  obtain ⟨rfl, hw1⟩ := hp
  rw [hw1] at Z
  clear hw1
  refine zw_top (nI 1) (by rw [show zmo P 1 = 1 from (zmo_N (P := P) (a := 1) (by decide)).trans (Nat.mod_eq_of_lt (by omega))]) ?_
  refine lv_istore_n (lv' := [(3, .int (nI 1)), (0, .ref (ad 100)), (1, .int x), (2, .int (nI e9))]) hx hb dM_power_5 rfl hl (by decide) rfl (fun ls hl => ?_)
  refine lv_iconst (v := 0) hx hb dM_power_6 (by decide) ?_
  refine lv_istore (lv' := [(4, .int 0), (3, .int (nI 1)), (0, .ref (ad 100)), (1, .int x), (2, .int (nI e9))]) hx hb dM_power_7 hl (by decide) rfl (fun ls hl => ?_)
  have loop : ∀ (d j : Nat) (H : Heap) (locs : List Loc) (ls : Array Slot), d + j = e9 → zw G ad w s H locs → lv_has ls 5 [(4, .int (nI j)), (3, .int (nI (ztp P 1 (zred P x) j))), (0, .ref (ad 100)), (1, .int x), (2, .int (nI e9))] → W p l e (zR (2)) s m ([.ref (ad 100), .int x, .int (nI e9)] : List Value).toArray below meth c H locs (0) (0) Q (F0 m 9 ls []) := by
    intro d
    induction d with
    | zero =>
      intro j H locs ls hd Z hl
      refine lv_iload hx hb dM_power_9 (lv_at hl 0 rfl) ?_
      refine lv_iload_n hx hb dM_power_11 rfl (lv_at hl 4 rfl) ?_
      refine lv_icmp_ge (tgt := 36) hx hb dM_power_12 (by decide) (fun _ => ?_) (fun hc => absurd (show ((nI e9) : Int32) ≤ (nI j) from nI_le (by omega) (by omega)) hc)
      refine lv_iload_n hx hb dM_power_36 rfl (lv_at hl 1 rfl) ?_
      exact hret _ _ _ _ _ _ dM_power_37 (⟨by rw [show j = e9 by omega], rfl⟩) Z
    | succ d ih =>
      intro j H locs ls hd Z hl
      have htl := ztp_lt (x := zred P x) (show 1 < P by omega) j
      have hm9 := zmul_lt hP2 htl hxr
      refine lv_iload hx hb dM_power_9 (lv_at hl 0 rfl) ?_
      refine lv_iload_n hx hb dM_power_11 rfl (lv_at hl 4 rfl) ?_
      refine lv_icmp_ge (tgt := 36) hx hb dM_power_12 (by decide) (fun hc => absurd hc (show ¬ (((nI e9) : Int32) ≤ (nI j)) from nI_ge (by omega) (by omega))) (fun _ => ?_)
      refine lv_aload_n hx hb dM_power_15 rfl (lv_at hl 2 rfl) ?_
      refine lv_iload_n hx hb dM_power_16 rfl (lv_at hl 1 rfl) ?_
      refine lv_i2l hx hb dM_power_17 rfl ?_
      refine lv_aload_n hx hb dM_power_18 rfl (lv_at hl 2 rfl) ?_
      refine lv_iload_n hx hb dM_power_19 rfl (lv_at hl 3 rfl) ?_
      refine lv_i2l hx hb dM_power_20 rfl ?_
      refine zw_calli (va_runV (As := [.long (x.toInt64)]) (rest := [.long ((nI (ztp P 1 (zred P x) j)).toInt64), .ref (ad 100)]) ⟨hx, hb, hml, hown, hts⟩ (c_M_modulo l P n o F B hM x.toInt64) (kw_M_modulo hts ml_M_92 (zR_fit (by omega) (by omega))) (Z.preV h100 rfl _) rfl rfl hl.1 rfl (lv_room (Nat.le_of_ble_eq_true rfl)) dM_power_21 ⟨Nat.le_of_ble_eq_true rfl, Nat.le_of_ble_eq_true rfl⟩) Z (fun r wq H locs hp Z => ?_)
      obtain ⟨rfl, hw1⟩ := hp
      rw [hw1] at Z
      clear hw1
      refine zw_top (nI (zred P x)) (by rw [zmo_i]) ?_
      refine lv_i2l hx hb dM_power_24 rfl ?_
      refine lv_lmul hx hb dM_power_25 ?_
      refine zw_topl (lN (ztp P 1 (zred P x) j * zred P x)) (by rw [nI_l (by omega), nI_l (by omega), lN_mul]) ?_
      refine zw_calli (va_runV (As := [.long (lN (ztp P 1 (zred P x) j * zred P x))]) (rest := []) ⟨hx, hb, hml, hown, hts⟩ (c_M_modulo l P n o F B hM (lN (ztp P 1 (zred P x) j * zred P x))) (kw_M_modulo hts ml_M_92 (zR_fit (by omega) (by omega))) (Z.preV h100 rfl _) rfl rfl hl.1 rfl (lv_room (Nat.le_of_ble_eq_true rfl)) dM_power_26 ⟨Nat.le_of_ble_eq_true rfl, Nat.le_of_ble_eq_true rfl⟩) Z (fun r wq H locs hp Z => ?_)
      obtain ⟨rfl, hw1⟩ := hp
      rw [hw1] at Z
      clear hw1
      refine zw_top (nI (ztp P 1 (zred P x) (j + 1))) (by rw [zmo_N (by omega)]; rfl) ?_
      refine lv_istore_n (lv' := [(3, .int (nI (ztp P 1 (zred P x) (j + 1)))), (4, .int (nI j)), (0, .ref (ad 100)), (1, .int x), (2, .int (nI e9))]) hx hb dM_power_29 rfl hl (by decide) rfl (fun ls hl => ?_)
      refine lv_iinc (v := (nI (j + 1))) (lv' := [(4, .int (nI (j + 1))), (3, .int (nI (ztp P 1 (zred P x) (j + 1)))), (0, .ref (ad 100)), (1, .int x), (2, .int (nI e9))]) hx hb dM_power_30 hl (k := 1) rfl (nI_1 j) (by decide) rfl (fun ls hl => ?_)
      refine lv_goto (tgt := 9) hx hb dM_power_33 (by decide) ?_
      exact ih (j + 1) _ _ ls (by omega) Z (lv_sub hl [0, 1, 2, 3, 4] rfl)
  exact loop e9 0 _ _ ls (by omega) Z (lv_sub hl [0, 1, 2, 3, 4] rfl)
