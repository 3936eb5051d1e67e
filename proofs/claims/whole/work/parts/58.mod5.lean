set_option maxHeartbeats 4000000 in
set_option maxRecDepth 100000 in
theorem c_M_derive (l : Launch) {G : zG} {ad : Nat → Nat} {w : Nat → Option va_E} (P n o : Nat) (A : Nat → Nat → Nat) (T : Nat → Nat) (len : Nat) (flt pl : Int32) (out : List Nat) (thr : Int32) (hD : zMd G ad w P n o A T len flt pl out thr) (a v t : Int32) : Met l yM_derive wM_derive (zR (3)) (va_Pc [.ref (ad 100), .int a, .int v, .int t] (zw_U G ad w)) (va_Qv (S := Nat → Option va_E) (fun w' => ((zip8 a = true ∧ zvv n v = true ∧ zip8 t = true) ∧ zMd G ad w' P n o (va_up A t.toNatClampNeg (zder n o P v.toNatClampNeg (A a.toNatClampNeg))) (T) (len) (flt) (pl) (out) (0) ∨ ¬ (zip8 a = true ∧ zvv n v = true ∧ zip8 t = true) ∧ zMd G ad w' P n o (A) (T) (len) (flt) (pl) (out) (1)) ∧ zfm w w') (fun u t => zw_U G ((fun _ => ad) u) ((fun w' => w') u) t) (zA G)) 0 0 (zA G) := by
  refine zw_methv (S := Nat → Option va_E) (fa := fun _ => ad) (fw := fun w' => w') (by decide) rfl (Nat.le_of_ble_eq_true rfl) ?_
  intro p e s m below meth c Q ls C hname Z hl hret
  obtain ⟨hx, hb, hml, hown, hts, hlk⟩ := C
  have hT : ∀ w ∈ zT, w.before ([.ref (ad 100), .int a, .int v, .int t] : List Value).toArray s = true := fun w h => hts w (List.mem_cons_of_mem _ h)
  have hown : s.vm.findClass "PolynomialDeskModel" = some m.cls := hown
  have hl : lv_has ls 7 [(0, .ref (ad 100)), (1, .int a), (2, .int v), (3, .int t)] := hl
  obtain ⟨F, B, hM, hBA, ⟨hF0, hF13, hF14, hF15, hF26⟩, hMt⟩ := id hD
  obtain ⟨h100, ⟨hF1, hF2, hF3, hF4, hF10⟩, ⟨hP1, hP2⟩, hcfg, ⟨dg, h101, hdg⟩, ⟨ex, h102, hex⟩, ⟨ys, h103, hys⟩, ⟨un, h104, hun⟩, ⟨cl, h105, hcl, hpB⟩⟩ := id hM
  have hct := zCt_le (n := n)
  have hn4 := hcfg.2.1
  have tail : ∀ (H : Heap) (locs : List Loc), zw G ad w s H locs → W p l e (zR (3)) s m ([.ref (ad 100), .int a, .int v, .int t] : List Value).toArray below meth c H locs (0) (0) Q (F0 m 20 ls [.int (zb (!zvv n v)), .int t, .int a, .ref (ad 100)]) := by
    intro H locs Z
    refine zw_calli (va_runV (As := [.int a, .int t, .int (zb (!zvv n v))]) (rest := []) ⟨hx, hb, hml, hown, hts⟩ (c_M_lacks l P n o F B hM a t (!zvv n v)) (kw_M_lacks hts ml_M_188 (zR_fit (by omega) (by omega))) (Z.preV h100 rfl _) rfl rfl hl.1 rfl (lv_room (Nat.le_of_ble_eq_true rfl)) dM_derive_20 ⟨Nat.le_of_ble_eq_true rfl, Nat.le_of_ble_eq_true rfl⟩) Z (fun r w1 H locs hp Z => ?_)
    obtain ⟨rfl, hw1⟩ := hp
    subst hw1
    refine lv_if_eq (tgt := 27) hx hb dM_derive_23 (by decide) (fun hc => ?_) (fun hc => ?_)
    · obtain ⟨hza, hzt, hzv9⟩ := zlk_f (zb_f hc)
      have hzv : zvv n v = true := by rw [← Bool.not_not (zvv n v), hzv9]; rfl
      rw [zb_f hc] at Z
      have Z : zw G ad (va_up w 100 (some (oM ad (upd F 0 0)))) s H locs := Z
      have hM0 : zMod G ad (va_up w 100 (some (oM ad (upd F 0 0)))) P n o (upd F 0 0) B := hM.put (by decide)
      have h1001 := hM0.1
      obtain ⟨ja, hja, rfl⟩ := zip8_ok hza
      obtain ⟨jt, hjt, rfl⟩ := zip8_ok hzt
      obtain ⟨jv, hjv, rfl⟩ := zvv_ok hn4 hzv
      rw [ncl (show ja < 2 ^ 31 by omega), ncl (show jv < 2 ^ 31 by omega), ncl (show jt < 2 ^ 31 by omega), ← hBA ja hja] at hret
      refine lv_aload_n hx hb dM_derive_27 rfl (lv_at hl 0 rfl) ?_
      refine lv_bipush (v := 71) hx hb dM_derive_28 (by decide) ?_
      refine zw_callv (va_runV (As := [.int 71]) (rest := []) ⟨hx, hb, hml, hown, hts⟩ (c_M_clear l P n o _ B hM0 71 (by decide)) (kw_M_clear hts ml_M_100 (zR_fit (by omega) (by omega))) (Z.preV h1001 rfl _) rfl rfl hl.1 rfl (lv_room (Nat.le_of_ble_eq_true rfl)) dM_derive_30 ⟨Nat.le_of_ble_eq_true rfl, Nat.le_of_ble_eq_true rfl⟩) Z (fun w2 H locs hp Z => ?_)
      obtain ⟨hM2, hz2⟩ := hp
      have h1002 := hM2.1
      refine lv_iconst (v := 0) hx hb dM_derive_33 (by decide) ?_
      refine lv_istore (lv' := [(4, .int 0), (0, .ref (ad 100)), (1, .int (nI ja)), (2, .int (nI jv)), (3, .int (nI jt))]) hx hb dM_derive_34 hl (by decide) rfl (fun ls hl => ?_)
      have loop : ∀ (d i : Nat) (wA : Nat → Option va_E) (H : Heap) (locs : List Loc) (ls : Array Slot), d + i = zCt n → zMod G ad wA P n o (upd F 0 0) (va_up B 71 (zD0 n o P jv (B ja) i)) → zf5 (va_up w 100 (some (oM ad (upd F 0 0)))) wA → zw G ad wA s H locs → lv_has ls 7 [(4, .int (nI i)), (0, .ref (ad 100)), (1, .int (nI ja)), (2, .int (nI jv)), (3, .int (nI jt))] → W p l e (zR (3)) s m ([.ref (ad 100), .int (nI ja), .int (nI jv), .int (nI jt)] : List Value).toArray below meth c H locs (0) (0) Q (F0 m 36 ls []) := by
        intro d
        induction d with
        | zero =>
          intro i wA H locs ls hd hA hz Z hl
          obtain ⟨h100a, ⟨hF1a, hF2a, hF3a, hF4a, hF10a⟩, ⟨hP1, hP2⟩, hcfg, ⟨dga, h101a, hdga⟩, ⟨exa, h102a, hexa⟩, ⟨ysa, h103a, hysa⟩, ⟨una, h104a, huna⟩, ⟨cla, h105a, hcla, hpBa⟩⟩ := id hA
          refine lv_iload hx hb dM_derive_36 (lv_at hl 0 rfl) ?_
          refine lv_aload_n hx hb dM_derive_38 rfl (lv_at hl 1 rfl) ?_
          refine zw_get (v := .int ((upd F 0 0) 10)) hx hb hT uM hown Z h100a rfl 10 (by decide) (hT _ mf_M_67) (fun _ h9 => h9) rfl dM_derive_39 ?_
          refine zw_top (nI (zCt n)) (hF10a) ?_
          refine lv_icmp_ge (tgt := 109) hx hb dM_derive_42 (by decide) (fun _ => ?_) (fun hc => absurd (show ((nI (zCt n)) : Int32) ≤ (nI i) from nI_le (by omega) (by omega)) hc)
          refine lv_aload_n hx hb dM_derive_109 rfl (lv_at hl 1 rfl) ?_
          refine lv_bipush (v := 71) hx hb dM_derive_110 (by decide) ?_
          refine lv_iload_n hx hb dM_derive_112 rfl (lv_at hl 4 rfl) ?_
          refine zw_callv (va_runV (As := [.int 71, .int (nI jt)]) (rest := []) ⟨hx, hb, hml, hown, hts⟩ (c_M_copy l P n o _ _ hA 71 jt (by decide) (by omega) (by omega)) (kw_M_copy hts ml_M_158 (zR_fit (by omega) (by omega))) (Z.preV h100a rfl _) rfl rfl hl.1 rfl (lv_room (Nat.le_of_ble_eq_true rfl)) dM_derive_113 ⟨Nat.le_of_ble_eq_true rfl, Nat.le_of_ble_eq_true rfl⟩) Z (fun w3 H locs hp Z => ?_)
          obtain ⟨hM3, hz3⟩ := hp
          exact hret _ _ _ _ _ dM_derive_116 (⟨Or.inl ⟨⟨hza, hzv, hzt⟩, _, _, hM3, fun k hk => by
            by_cases e9 : k = jt
            · subst e9
              rw [va_up_self, va_up_self, va_up_self, show i = zCt n by omega]
              rfl
            · rw [va_up_ne _ _ e9, va_up_ne _ _ e9, va_up_ne _ _ (by omega)]; exact hBA k hk, ⟨rfl, hF13, hF14, hF15, hF26⟩, (hMt.put.f5 hz).f5 hz3⟩, ((zfm.up (by decide)).trans hz.fm).trans hz3.fm⟩) Z
        | succ d ih =>
          intro i wA H locs ls hd hA hz Z hl
          obtain ⟨h100a, ⟨hF1a, hF2a, hF3a, hF4a, hF10a⟩, ⟨hP1, hP2⟩, hcfg, ⟨dga, h101a, hdga⟩, ⟨exa, h102a, hexa⟩, ⟨ysa, h103a, hysa⟩, ⟨una, h104a, huna⟩, ⟨cla, h105a, hcla, hpBa⟩⟩ := id hA
          have hi : i < zCt n := by omega
          have hky := zKy_lt hcfg hi
          have hA1 := (hpB ja).1 i
          have he30 := zEx_30 hcfg hi (show jv < 4 by omega)
          refine lv_iload hx hb dM_derive_36 (lv_at hl 0 rfl) ?_
          refine lv_aload_n hx hb dM_derive_38 rfl (lv_at hl 1 rfl) ?_
          refine zw_get (v := .int ((upd F 0 0) 10)) hx hb hT uM hown Z h100a rfl 10 (by decide) (hT _ mf_M_67) (fun _ h9 => h9) rfl dM_derive_39 ?_
          refine zw_top (nI (zCt n)) (hF10a) ?_
          refine lv_icmp_ge (tgt := 109) hx hb dM_derive_42 (by decide) (fun hc => absurd hc (show ¬ (((nI (zCt n)) : Int32) ≤ (nI i)) from nI_ge (by omega) (by omega))) (fun _ => ?_)
          refine lv_aload_n hx hb dM_derive_45 rfl (lv_at hl 1 rfl) ?_
          refine zw_get (v := .ref (ad 103)) hx hb hT uM hown Z h100a rfl 8 (by decide) (hT _ mf_M_20) (fun _ h9 => h9) rfl dM_derive_46 ?_
          refine lv_iload hx hb dM_derive_49 (lv_at hl 0 rfl) ?_
          refine zw_iald hx hb Z h103a (vin (by omega) (by decide)) dM_derive_51 ?_
          refine zw_top (nI (zKy n o i)) (by rw [ncl (by omega)]; exact hysa i (by omega)) ?_
          refine lv_istore (lv' := [(5, .int (nI (zKy n o i))), (4, .int (nI i)), (0, .ref (ad 100)), (1, .int (nI ja)), (2, .int (nI jv)), (3, .int (nI jt))]) hx hb dM_derive_52 hl (by decide) rfl (fun ls hl => ?_)
          refine lv_aload_n hx hb dM_derive_54 rfl (lv_at hl 2 rfl) ?_
          refine zw_get (v := .ref (ad 102)) hx hb hT uM hown Z h100a rfl 7 (by decide) (hT _ mf_M_17) (fun _ h9 => h9) rfl dM_derive_55 ?_
          refine lv_iconst (v := 4) hx hb dM_derive_58 (by decide) ?_
          refine lv_iload hx hb dM_derive_59 (lv_at hl 0 rfl) ?_
          refine lv_imul hx hb dM_derive_61 ?_
          refine zw_top (nI (4 * zKy n o i)) (pk_mul 4 _) ?_
          refine lv_iload_n hx hb dM_derive_62 rfl (lv_at hl 4 rfl) ?_
          refine lv_iadd hx hb dM_derive_63 ?_
          refine zw_top (nI (4 * zKy n o i + jv)) (nI_add _ _) ?_
          refine zw_iald hx hb Z h102a (vin (by omega) (by decide)) dM_derive_64 ?_
          refine zw_top (nI (zEx n o jv i)) (by rw [ncl (by omega)]; exact hexa i hi jv (by omega)) ?_
          refine lv_istore (lv' := [(6, .int (nI (zEx n o jv i))), (5, .int (nI (zKy n o i))), (4, .int (nI i)), (0, .ref (ad 100)), (1, .int (nI ja)), (2, .int (nI jv)), (3, .int (nI jt))]) hx hb dM_derive_65 hl (by decide) rfl (fun ls hl => ?_)
          refine lv_iload hx hb dM_derive_67 (lv_at hl 0 rfl) ?_
          refine lv_if_le (tgt := 103) hx hb dM_derive_69 (by decide) (fun hc9 => ?_) (fun hc9 => ?_)
          · have h0 : zEx n o jv i = 0 := by
              apply Classical.byContradiction
              intro h9
              exact nI_nle (by omega) (by omega) hc9
            refine lv_iinc (v := (nI (i + 1))) (lv' := [(4, .int (nI (i + 1))), (6, .int (nI (zEx n o jv i))), (5, .int (nI (zKy n o i))), (0, .ref (ad 100)), (1, .int (nI ja)), (2, .int (nI jv)), (3, .int (nI jt))]) hx hb dM_derive_103 hl (k := 2) rfl (nI_1 i) (by decide) rfl (fun ls hl => ?_)
            refine lv_goto (tgt := 36) hx hb dM_derive_106 (by decide) ?_
            exact ih (i + 1) wA _ _ ls (by omega) (hA.to (by rw [zD0_skip (Or.inr h0)])) hz Z (lv_sub hl [0, 3, 4, 5, 6] rfl)
          · have h0 : 0 < zEx n o jv i := Nat.pos_of_ne_zero (fun h9 => hc9 (by rw [h9]; decide))
            obtain ⟨q, hq1, hq2, -⟩ := zSub hcfg hi (show jv < 4 by omega) (show 1 ≤ zEx n o jv i from h0)
            rw [Nat.one_mul] at hq2
            have hm9 : zEx n o jv i * B ja i ≤ 30 * 32003 := Nat.mul_le_mul (by omega) (by omega)
            refine lv_aload_n hx hb dM_derive_72 rfl (lv_at hl 3 rfl) ?_
            refine lv_bipush (v := 71) hx hb dM_derive_73 (by decide) ?_
            refine lv_iload hx hb dM_derive_75 (lv_at hl 1 rfl) ?_
            refine lv_aload_n hx hb dM_derive_77 rfl (lv_at hl 3 rfl) ?_
            refine zw_get (v := .ref (ad 104)) hx hb hT uM hown Z h100a rfl 9 (by decide) (hT _ mf_M_23) (fun _ h9 => h9) rfl dM_derive_78 ?_
            refine lv_iload_n hx hb dM_derive_81 rfl (lv_at hl 5 rfl) ?_
            refine zw_iald hx hb Z h104a (vin (by omega) (by decide)) dM_derive_82 ?_
            refine zw_top (nI (zWt n jv)) (by rw [ncl (by omega)]; exact huna jv hjv) ?_
            refine lv_isub hx hb dM_derive_83 ?_
            refine zw_top (nI (zKy n o q)) (by rw [pk_sub (by omega)]; congr 1; omega) ?_
            refine lv_aload_n hx hb dM_derive_84 rfl (lv_at hl 3 rfl) ?_
            refine lv_iload hx hb dM_derive_85 (lv_at hl 0 rfl) ?_
            refine lv_i2l hx hb dM_derive_87 rfl ?_
            refine lv_aload_n hx hb dM_derive_88 rfl (lv_at hl 3 rfl) ?_
            refine lv_iload_n hx hb dM_derive_89 rfl (lv_at hl 4 rfl) ?_
            refine lv_iload hx hb dM_derive_90 (lv_at hl 1 rfl) ?_
            refine zw_calli (va_runV (As := [.int (nI ja), .int (nI (zKy n o i))]) (rest := [.long ((nI (zEx n o jv i)).toInt64), .ref (ad 100), .int (nI (zKy n o q)), .int 71, .ref (ad 100)]) ⟨hx, hb, hml, hown, hts⟩ (c_M_cell l P n o _ _ hA ja i (by omega) hi) (kw_M_cell hts ml_M_88 (zR_fit (by omega) (by omega))) (Z.preV h100a rfl _) rfl rfl hl.1 rfl (lv_room (Nat.le_of_ble_eq_true rfl)) dM_derive_92 ⟨Nat.le_of_ble_eq_true rfl, Nat.le_of_ble_eq_true rfl⟩) Z (fun r wq H locs hp Z => ?_)
            obtain ⟨rfl, hw1⟩ := hp
            rw [hw1] at Z
            clear hw1
            refine zw_top (nI (B ja i)) (by rw [va_up_ne _ _ (by omega)]) ?_
            refine lv_i2l hx hb dM_derive_95 rfl ?_
            refine lv_lmul hx hb dM_derive_96 ?_
            refine zw_topl (lN (zEx n o jv i * B ja i)) (by rw [nI_l (by omega), nI_l (by omega), lN_mul]) ?_
            refine zw_calli (va_runV (As := [.long (lN (zEx n o jv i * B ja i))]) (rest := [.int (nI (zKy n o q)), .int 71, .ref (ad 100)]) ⟨hx, hb, hml, hown, hts⟩ (c_M_modulo l P n o _ _ hA (lN (zEx n o jv i * B ja i))) (kw_M_modulo hts ml_M_92 (zR_fit (by omega) (by omega))) (Z.preV h100a rfl _) rfl rfl hl.1 rfl (lv_room (Nat.le_of_ble_eq_true rfl)) dM_derive_97 ⟨Nat.le_of_ble_eq_true rfl, Nat.le_of_ble_eq_true rfl⟩) Z (fun r wq H locs hp Z => ?_)
            obtain ⟨rfl, hw1⟩ := hp
            rw [hw1] at Z
            clear hw1
            refine zw_top (nI ((zD0 n o P jv (B ja) i q + B ja i * zEx n o jv i) % P)) (by rw [zmo_N (by omega), zD0_new hcfg hi hq2, Nat.zero_add, Nat.mul_comm]) ?_
            refine zw_callv (va_runV (As := [.int 71, .int (nI (zKy n o q)), .int (nI ((zD0 n o P jv (B ja) i q + B ja i * zEx n o jv i) % P))]) (rest := []) ⟨hx, hb, hml, hown, hts⟩ (c_M_lay l P n o _ _ hA 71 q ((zD0 n o P jv (B ja) i q + B ja i * zEx n o jv i) % P) (by decide) hq1 (Nat.mod_lt _ (by omega))) (kw_M_lay hts ml_M_85 (zR_fit (by omega) (by omega))) (Z.preV h100a rfl _) rfl rfl hl.1 rfl (lv_room (Nat.le_of_ble_eq_true rfl)) dM_derive_100 ⟨Nat.le_of_ble_eq_true rfl, Nat.le_of_ble_eq_true rfl⟩) Z (fun w3 H locs hp Z => ?_)
            refine lv_iinc (v := (nI (i + 1))) (lv' := [(4, .int (nI (i + 1))), (6, .int (nI (zEx n o jv i))), (5, .int (nI (zKy n o i))), (0, .ref (ad 100)), (1, .int (nI ja)), (2, .int (nI jv)), (3, .int (nI jt))]) hx hb dM_derive_103 hl (k := 2) rfl (nI_1 i) (by decide) rfl (fun ls hl => ?_)
            refine lv_goto (tgt := 36) hx hb dM_derive_106 (by decide) ?_
            exact ih (i + 1) w3 _ _ ls (by omega) (hp.1.to (by rw [va_up_self, zup2, zD0_step hcfg hq1 h0 hq2])) (hz.trans hp.2) Z (lv_sub hl [0, 3, 4, 5, 6] rfl)
      exact loop (zCt n) 0 w2 _ _ ls (by omega) (hM2.to (by
        congr 1
        funext k9
        show 0 = (if k9 < zCt n then 0 % P else 0)
        rw [Nat.zero_mod]
        split <;> rfl)) hz2 Z (lv_sub hl [0, 1, 2, 3, 4] rfl)
    · have hzl := zb_t hc
      rw [hzl] at Z
      have hM0 : zMod G ad (va_up w 100 (some (oM ad (upd F 0 1)))) P n o (upd F 0 1) B := hM.put (by decide)
      exact hret _ _ _ _ _ dM_derive_26 (⟨Or.inr ⟨fun h9 => zlk_t hzl ⟨h9.1, h9.2.2, by rw [h9.2.1]; rfl⟩, _, B, hM0, hBA, ⟨rfl, hF13, hF14, hF15, hF26⟩, hMt.put⟩, zfm.up (by decide)⟩) Z
  refine lv_aload_n hx hb dM_derive_0 rfl (lv_at hl 0 rfl) ?_
  refine lv_iload_n hx hb dM_derive_1 rfl (lv_at hl 1 rfl) ?_
  refine lv_iload_n hx hb dM_derive_2 rfl (lv_at hl 3 rfl) ?_
  refine lv_iload_n hx hb dM_derive_3 rfl (lv_at hl 2 rfl) ?_
  refine lv_if_lt (tgt := 15) hx hb dM_derive_4 (by decide) (fun hc => ?_) (fun hc => ?_)
  · refine lv_iconst (v := 1) hx hb dM_derive_15 (by decide) ?_
    refine lv_goto (tgt := 20) hx hb dM_derive_16 (by decide) ?_
    exact (by rw [show zvv n v = false from decide_eq_false (fun h9 => h9.1 hc)] at tail; exact tail _ _ Z)
  · refine lv_iload_n hx hb dM_derive_7 rfl (lv_at hl 2 rfl) ?_
    refine lv_aload_n hx hb dM_derive_8 rfl (lv_at hl 0 rfl) ?_
    refine zw_get (v := .int (F 2)) hx hb hT uM hown Z h100 rfl 2 (by decide) (hT _ mf_M_55) (fun _ h9 => h9) rfl dM_derive_9 ?_
    refine zw_top (nI n) (hF2) ?_
    refine lv_icmp_lt (tgt := 19) hx hb dM_derive_12 (by decide) (fun hc2 => ?_) (fun hc2 => ?_)
    · refine lv_iconst (v := 0) hx hb dM_derive_19 (by decide) ?_
      exact (by rw [show zvv n v = true from decide_eq_true ⟨hc, hc2⟩] at tail; exact tail _ _ Z)
    · refine lv_iconst (v := 1) hx hb dM_derive_15 (by decide) ?_
      refine lv_goto (tgt := 20) hx hb dM_derive_16 (by decide) ?_
      exact (by rw [show zvv n v = false from decide_eq_false (fun h9 => hc2 h9.2)] at tail; exact tail _ _ Z)

set_option maxHeartbeats 4000000 in
set_option maxRecDepth 100000 in
theorem c_M_set (l : Launch) {G : zG} {ad : Nat → Nat} {w : Nat → Option va_E} (P n o : Nat) (A : Nat → Nat → Nat) (T : Nat → Nat) (len : Nat) (flt pl : Int32) (out : List Nat) (thr : Int32) (hD : zMd G ad w P n o A T len flt pl out thr) (a v x t : Int32) : Met l yM_set wM_set (zR (3)) (va_Pc [.ref (ad 100), .int a, .int v, .int x, .int t] (zw_U G ad w)) (va_Qv (S := Nat → Option va_E) (fun w' => ((zip8 a = true ∧ zvv n v = true ∧ zip8 t = true) ∧ zMd G ad w' P n o (va_up A t.toNatClampNeg (zsub n o P v.toNatClampNeg (zred P x) (A a.toNatClampNeg))) (T) (len) (flt) (pl) (out) (0) ∨ ¬ (zip8 a = true ∧ zvv n v = true ∧ zip8 t = true) ∧ zMd G ad w' P n o (A) (T) (len) (flt) (pl) (out) (1)) ∧ zfm w w') (fun u t => zw_U G ((fun _ => ad) u) ((fun w' => w') u) t) (zA G)) 0 0 (zA G) := by
  refine zw_methv (S := Nat → Option va_E) (fa := fun _ => ad) (fw := fun w' => w') (by decide) rfl (Nat.le_of_ble_eq_true rfl) ?_
  intro p e s m below meth c Q ls C hname Z hl hret
  obtain ⟨hx, hb, hml, hown, hts, hlk⟩ := C
  have hT : ∀ w ∈ zT, w.before ([.ref (ad 100), .int a, .int v, .int x, .int t] : List Value).toArray s = true := fun w h => hts w (List.mem_cons_of_mem _ h)
  have hown : s.vm.findClass "PolynomialDeskModel" = some m.cls := hown
  have hl : lv_has ls 9 [(0, .ref (ad 100)), (1, .int a), (2, .int v), (3, .int x), (4, .int t)] := hl
  obtain ⟨F, B, hM, hBA, ⟨hF0, hF13, hF14, hF15, hF26⟩, hMt⟩ := id hD
  obtain ⟨h100, ⟨hF1, hF2, hF3, hF4, hF10⟩, ⟨hP1, hP2⟩, hcfg, ⟨dg, h101, hdg⟩, ⟨ex, h102, hex⟩, ⟨ys, h103, hys⟩, ⟨un, h104, hun⟩, ⟨cl, h105, hcl, hpB⟩⟩ := id hM
  have hct := zCt_le (n := n)
  have hn4 := hcfg.2.1
  have tail : ∀ (H : Heap) (locs : List Loc), zw G ad w s H locs → W p l e (zR (3)) s m ([.ref (ad 100), .int a, .int v, .int x, .int t] : List Value).toArray below meth c H locs (0) (0) Q (F0 m 21 ls [.int (zb (!zvv n v)), .int t, .int a, .ref (ad 100)]) := by
    intro H locs Z
    refine zw_calli (va_runV (As := [.int a, .int t, .int (zb (!zvv n v))]) (rest := []) ⟨hx, hb, hml, hown, hts⟩ (c_M_lacks l P n o F B hM a t (!zvv n v)) (kw_M_lacks hts ml_M_188 (zR_fit (by omega) (by omega))) (Z.preV h100 rfl _) rfl rfl hl.1 rfl (lv_room (Nat.le_of_ble_eq_true rfl)) dM_set_21 ⟨Nat.le_of_ble_eq_true rfl, Nat.le_of_ble_eq_true rfl⟩) Z (fun r w1 H locs hp Z => ?_)
    obtain ⟨rfl, hw1⟩ := hp
    subst hw1
    refine lv_if_eq (tgt := 28) hx hb dM_set_24 (by decide) (fun hc => ?_) (fun hc => ?_)
    · obtain ⟨hza, hzt, hzv9⟩ := zlk_f (zb_f hc)
      have hzv : zvv n v = true := by rw [← Bool.not_not (zvv n v), hzv9]; rfl
      rw [zb_f hc] at Z
      have Z : zw G ad (va_up w 100 (some (oM ad (upd F 0 0)))) s H locs := Z
      have hM0 : zMod G ad (va_up w 100 (some (oM ad (upd F 0 0)))) P n o (upd F 0 0) B := hM.put (by decide)
      have h1001 := hM0.1
      obtain ⟨ja, hja, rfl⟩ := zip8_ok hza
      obtain ⟨jt, hjt, rfl⟩ := zip8_ok hzt
      obtain ⟨jv, hjv, rfl⟩ := zvv_ok hn4 hzv
      rw [ncl (show ja < 2 ^ 31 by omega), ncl (show jv < 2 ^ 31 by omega), ncl (show jt < 2 ^ 31 by omega), ← hBA ja hja] at hret
      have hxr := zred_lt x (P := P) (by omega)
      generalize hx9 : zred P x = x9 at hret hxr
      refine lv_aload_n hx hb dM_set_28 rfl (lv_at hl 0 rfl) ?_
      refine lv_bipush (v := 71) hx hb dM_set_29 (by decide) ?_
      refine zw_callv (va_runV (As := [.int 71]) (rest := []) ⟨hx, hb, hml, hown, hts⟩ (c_M_clear l P n o _ B hM0 71 (by decide)) (kw_M_clear hts ml_M_100 (zR_fit (by omega) (by omega))) (Z.preV h1001 rfl _) rfl rfl hl.1 rfl (lv_room (Nat.le_of_ble_eq_true rfl)) dM_set_31 ⟨Nat.le_of_ble_eq_true rfl, Nat.le_of_ble_eq_true rfl⟩) Z (fun w2 H locs hp Z => ?_)
      obtain ⟨hM2, hz2⟩ := hp
      have h1002 := hM2.1
      refine lv_iconst (v := 0) hx hb dM_set_34 (by decide) ?_
      refine lv_istore (lv' := [(5, .int 0), (0, .ref (ad 100)), (1, .int (nI ja)), (2, .int (nI jv)), (3, .int x), (4, .int (nI jt))]) hx hb dM_set_35 hl (by decide) rfl (fun ls hl => ?_)
      have loop : ∀ (d i : Nat) (wA : Nat → Option va_E) (H : Heap) (locs : List Loc) (ls : Array Slot), d + i = zCt n → zMod G ad wA P n o (upd F 0 0) (va_up B 71 (zB0 n o P jv x9 (B ja) i)) → zf5 (va_up w 100 (some (oM ad (upd F 0 0)))) wA → zw G ad wA s H locs → lv_has ls 9 [(5, .int (nI i)), (0, .ref (ad 100)), (1, .int (nI ja)), (2, .int (nI jv)), (3, .int x), (4, .int (nI jt))] → W p l e (zR (3)) s m ([.ref (ad 100), .int (nI ja), .int (nI jv), .int x, .int (nI jt)] : List Value).toArray below meth c H locs (0) (0) Q (F0 m 37 ls []) := by
        intro d
        induction d with
        | zero =>
          intro i wA H locs ls hd hA hz Z hl
          obtain ⟨h100a, ⟨hF1a, hF2a, hF3a, hF4a, hF10a⟩, ⟨hP1, hP2⟩, hcfg, ⟨dga, h101a, hdga⟩, ⟨exa, h102a, hexa⟩, ⟨ysa, h103a, hysa⟩, ⟨una, h104a, huna⟩, ⟨cla, h105a, hcla, hpBa⟩⟩ := id hA
          refine lv_iload hx hb dM_set_37 (lv_at hl 0 rfl) ?_
          refine lv_aload_n hx hb dM_set_39 rfl (lv_at hl 1 rfl) ?_
          refine zw_get (v := .int ((upd F 0 0) 10)) hx hb hT uM hown Z h100a rfl 10 (by decide) (hT _ mf_M_67) (fun _ h9 => h9) rfl dM_set_40 ?_
          refine zw_top (nI (zCt n)) (hF10a) ?_
          refine lv_icmp_ge (tgt := 127) hx hb dM_set_43 (by decide) (fun _ => ?_) (fun hc => absurd (show ((nI (zCt n)) : Int32) ≤ (nI i) from nI_le (by omega) (by omega)) hc)
          refine lv_aload_n hx hb dM_set_127 rfl (lv_at hl 1 rfl) ?_
          refine lv_bipush (v := 71) hx hb dM_set_128 (by decide) ?_
          refine lv_iload hx hb dM_set_130 (lv_at hl 5 rfl) ?_
          refine zw_callv (va_runV (As := [.int 71, .int (nI jt)]) (rest := []) ⟨hx, hb, hml, hown, hts⟩ (c_M_copy l P n o _ _ hA 71 jt (by decide) (by omega) (by omega)) (kw_M_copy hts ml_M_158 (zR_fit (by omega) (by omega))) (Z.preV h100a rfl _) rfl rfl hl.1 rfl (lv_room (Nat.le_of_ble_eq_true rfl)) dM_set_132 ⟨Nat.le_of_ble_eq_true rfl, Nat.le_of_ble_eq_true rfl⟩) Z (fun w3 H locs hp Z => ?_)
          obtain ⟨hM3, hz3⟩ := hp
          exact hret _ _ _ _ _ dM_set_135 (⟨Or.inl ⟨⟨hza, hzv, hzt⟩, _, _, hM3, fun k hk => by
            by_cases e9 : k = jt
            · subst e9
              rw [va_up_self, va_up_self, va_up_self, show i = zCt n by omega]
              rfl
            · rw [va_up_ne _ _ e9, va_up_ne _ _ e9, va_up_ne _ _ (by omega)]; exact hBA k hk, ⟨rfl, hF13, hF14, hF15, hF26⟩, (hMt.put.f5 hz).f5 hz3⟩, ((zfm.up (by decide)).trans hz.fm).trans hz3.fm⟩) Z
        | succ d ih =>
          intro i wA H locs ls hd hA hz Z hl
          obtain ⟨h100a, ⟨hF1a, hF2a, hF3a, hF4a, hF10a⟩, ⟨hP1, hP2⟩, hcfg, ⟨dga, h101a, hdga⟩, ⟨exa, h102a, hexa⟩, ⟨ysa, h103a, hysa⟩, ⟨una, h104a, huna⟩, ⟨cla, h105a, hcla, hpBa⟩⟩ := id hA
          have hi : i < zCt n := by omega
          have hky := zKy_lt hcfg hi
          have hA1 := (hpB ja).1 i
          have he30 := zEx_30 hcfg hi (show jv < 4 by omega)
          refine lv_iload hx hb dM_set_37 (lv_at hl 0 rfl) ?_
          refine lv_aload_n hx hb dM_set_39 rfl (lv_at hl 1 rfl) ?_
          refine zw_get (v := .int ((upd F 0 0) 10)) hx hb hT uM hown Z h100a rfl 10 (by decide) (hT _ mf_M_67) (fun _ h9 => h9) rfl dM_set_40 ?_
          refine zw_top (nI (zCt n)) (hF10a) ?_
          refine lv_icmp_ge (tgt := 127) hx hb dM_set_43 (by decide) (fun hc => absurd hc (show ¬ (((nI (zCt n)) : Int32) ≤ (nI i)) from nI_ge (by omega) (by omega))) (fun _ => ?_)
          refine lv_aload_n hx hb dM_set_46 rfl (lv_at hl 1 rfl) ?_
          refine zw_get (v := .ref (ad 103)) hx hb hT uM hown Z h100a rfl 8 (by decide) (hT _ mf_M_20) (fun _ h9 => h9) rfl dM_set_47 ?_
          refine lv_iload hx hb dM_set_50 (lv_at hl 0 rfl) ?_
          refine zw_iald hx hb Z h103a (vin (by omega) (by decide)) dM_set_52 ?_
          refine zw_top (nI (zKy n o i)) (by rw [ncl (by omega)]; exact hysa i (by omega)) ?_
          refine lv_istore (lv' := [(6, .int (nI (zKy n o i))), (5, .int (nI i)), (0, .ref (ad 100)), (1, .int (nI ja)), (2, .int (nI jv)), (3, .int x), (4, .int (nI jt))]) hx hb dM_set_53 hl (by decide) rfl (fun ls hl => ?_)
          refine lv_aload_n hx hb dM_set_55 rfl (lv_at hl 2 rfl) ?_
          refine zw_get (v := .ref (ad 102)) hx hb hT uM hown Z h100a rfl 7 (by decide) (hT _ mf_M_17) (fun _ h9 => h9) rfl dM_set_56 ?_
          refine lv_iconst (v := 4) hx hb dM_set_59 (by decide) ?_
          refine lv_iload hx hb dM_set_60 (lv_at hl 0 rfl) ?_
          refine lv_imul hx hb dM_set_62 ?_
          refine zw_top (nI (4 * zKy n o i)) (pk_mul 4 _) ?_
          refine lv_iload_n hx hb dM_set_63 rfl (lv_at hl 4 rfl) ?_
          refine lv_iadd hx hb dM_set_64 ?_
          refine zw_top (nI (4 * zKy n o i + jv)) (nI_add _ _) ?_
          refine zw_iald hx hb Z h102a (vin (by omega) (by decide)) dM_set_65 ?_
          refine zw_top (nI (zEx n o jv i)) (by rw [ncl (by omega)]; exact hexa i hi jv (by omega)) ?_
          obtain ⟨q, hq1, hq2, -⟩ := zSub hcfg hi (show jv < 4 by omega) (Nat.le_refl (zEx n o jv i))
          have hs9 := zB0_lt (n := n) (o := o) (v := jv) (x := x9) (show 0 < P by omega) (B ja) i q
          have htl := ztp_lt (x := x9) (show 1 < P by omega) (zEx n o jv i)
          have hm9 := zmul_lt hP2 hA1 htl
          refine lv_istore (lv' := [(7, .int (nI (zEx n o jv i))), (6, .int (nI (zKy n o i))), (5, .int (nI i)), (0, .ref (ad 100)), (1, .int (nI ja)), (2, .int (nI jv)), (3, .int x), (4, .int (nI jt))]) hx hb dM_set_66 hl (by decide) rfl (fun ls hl => ?_)
          refine lv_iload hx hb dM_set_68 (lv_at hl 1 rfl) ?_
          refine lv_iload hx hb dM_set_70 (lv_at hl 0 rfl) ?_
          refine lv_aload_n hx hb dM_set_72 rfl (lv_at hl 3 rfl) ?_
          refine zw_get (v := .ref (ad 104)) hx hb hT uM hown Z h100a rfl 9 (by decide) (hT _ mf_M_23) (fun _ h9 => h9) rfl dM_set_73 ?_
          refine lv_iload_n hx hb dM_set_76 rfl (lv_at hl 5 rfl) ?_
          refine zw_iald hx hb Z h104a (vin (by omega) (by decide)) dM_set_77 ?_
          refine zw_top (nI (zWt n jv)) (by rw [ncl (by omega)]; exact huna jv hjv) ?_
          refine lv_imul hx hb dM_set_78 ?_
          refine zw_top (nI (zEx n o jv i * zWt n jv)) (pk_mul _ _) ?_
          refine lv_isub hx hb dM_set_79 ?_
          refine zw_top (nI (zKy n o q)) (by rw [pk_sub (by omega)]; congr 1; omega) ?_
          refine lv_istore (lv' := [(8, .int (nI (zKy n o q))), (7, .int (nI (zEx n o jv i))), (6, .int (nI (zKy n o i))), (5, .int (nI i)), (0, .ref (ad 100)), (1, .int (nI ja)), (2, .int (nI jv)), (3, .int x), (4, .int (nI jt))]) hx hb dM_set_80 hl (by decide) rfl (fun ls hl => ?_)
          refine lv_aload_n hx hb dM_set_82 rfl (lv_at hl 4 rfl) ?_
          refine lv_bipush (v := 71) hx hb dM_set_83 (by decide) ?_
          refine lv_iload hx hb dM_set_85 (lv_at hl 0 rfl) ?_
          refine lv_aload_n hx hb dM_set_87 rfl (lv_at hl 4 rfl) ?_
          refine lv_aload_n hx hb dM_set_88 rfl (lv_at hl 4 rfl) ?_
          refine lv_bipush (v := 71) hx hb dM_set_89 (by decide) ?_
          refine lv_iload hx hb dM_set_91 (lv_at hl 0 rfl) ?_
          refine zw_calli (va_runV (As := [.int 71, .int (nI (zKy n o q))]) (rest := [.ref (ad 100), .int (nI (zKy n o q)), .int 71, .ref (ad 100)]) ⟨hx, hb, hml, hown, hts⟩ (c_M_cell l P n o _ _ hA 71 q (by decide) hq1) (kw_M_cell hts ml_M_88 (zR_fit (by omega) (by omega))) (Z.preV h100a rfl _) rfl rfl hl.1 rfl (lv_room (Nat.le_of_ble_eq_true rfl)) dM_set_93 ⟨Nat.le_of_ble_eq_true rfl, Nat.le_of_ble_eq_true rfl⟩) Z (fun r wq H locs hp Z => ?_)
          obtain ⟨rfl, hw1⟩ := hp
          rw [hw1] at Z
          clear hw1
          refine zw_top (nI (zB0 n o P jv x9 (B ja) i q)) (by rw [va_up_self]) ?_
          refine lv_i2l hx hb dM_set_96 rfl ?_
          refine lv_aload_n hx hb dM_set_97 rfl (lv_at hl 4 rfl) ?_
          refine lv_iload_n hx hb dM_set_98 rfl (lv_at hl 5 rfl) ?_
          refine lv_iload hx hb dM_set_99 (lv_at hl 2 rfl) ?_
          refine zw_calli (va_runV (As := [.int (nI ja), .int (nI (zKy n o i))]) (rest := [.long ((nI (zB0 n o P jv x9 (B ja) i q)).toInt64), .ref (ad 100), .int (nI (zKy n o q)), .int 71, .ref (ad 100)]) ⟨hx, hb, hml, hown, hts⟩ (c_M_cell l P n o _ _ hA ja i (by omega) hi) (kw_M_cell hts ml_M_88 (zR_fit (by omega) (by omega))) (Z.preV h100a rfl _) rfl rfl hl.1 rfl (lv_room (Nat.le_of_ble_eq_true rfl)) dM_set_101 ⟨Nat.le_of_ble_eq_true rfl, Nat.le_of_ble_eq_true rfl⟩) Z (fun r wq H locs hp Z => ?_)
          obtain ⟨rfl, hw1⟩ := hp
          rw [hw1] at Z
          clear hw1
          refine zw_top (nI (B ja i)) (by rw [va_up_ne _ _ (by omega)]) ?_
          refine lv_i2l hx hb dM_set_104 rfl ?_
          refine lv_aload_n hx hb dM_set_105 rfl (lv_at hl 4 rfl) ?_
          refine lv_iload_n hx hb dM_set_106 rfl (lv_at hl 7 rfl) ?_
          refine lv_iload hx hb dM_set_107 (lv_at hl 1 rfl) ?_
          refine zw_calli (va_runV (As := [.int x, .int (nI (zEx n o jv i))]) (rest := [.long ((nI (B ja i)).toInt64), .long ((nI (zB0 n o P jv x9 (B ja) i q)).toInt64), .ref (ad 100), .int (nI (zKy n o q)), .int 71, .ref (ad 100)]) ⟨hx, hb, hml, hown, hts⟩ (c_M_power l P n o _ _ hA x (zEx n o jv i) (by omega)) (kw_M_power hts ml_M_192 (zR_fit (by omega) (by omega))) (Z.preV h100a rfl _) rfl rfl hl.1 rfl (lv_room (Nat.le_of_ble_eq_true rfl)) dM_set_109 ⟨Nat.le_of_ble_eq_true rfl, Nat.le_of_ble_eq_true rfl⟩) Z (fun r wq H locs hp Z => ?_)
          obtain ⟨rfl, hw1⟩ := hp
          rw [hw1] at Z
          clear hw1
          refine zw_top (nI (ztp P 1 x9 (zEx n o jv i))) (by rw [hx9]) ?_
          refine lv_i2l hx hb dM_set_112 rfl ?_
          refine lv_lmul hx hb dM_set_113 ?_
          refine lv_ladd hx hb dM_set_114 ?_
          refine zw_topl (lN (zB0 n o P jv x9 (B ja) i q + B ja i * ztp P 1 x9 (zEx n o jv i))) (by rw [nI_l (by omega), nI_l (by omega), nI_l (by omega), lN_mul, lN_add]) ?_
          refine zw_calli (va_runV (As := [.long (lN (zB0 n o P jv x9 (B ja) i q + B ja i * ztp P 1 x9 (zEx n o jv i)))]) (rest := [.int (nI (zKy n o q)), .int 71, .ref (ad 100)]) ⟨hx, hb, hml, hown, hts⟩ (c_M_modulo l P n o _ _ hA (lN (zB0 n o P jv x9 (B ja) i q + B ja i * ztp P 1 x9 (zEx n o jv i)))) (kw_M_modulo hts ml_M_92 (zR_fit (by omega) (by omega))) (Z.preV h100a rfl _) rfl rfl hl.1 rfl (lv_room (Nat.le_of_ble_eq_true rfl)) dM_set_115 ⟨Nat.le_of_ble_eq_true rfl, Nat.le_of_ble_eq_true rfl⟩) Z (fun r w3 H locs hp Z => ?_)
          obtain ⟨hr, hw3⟩ := hp
          subst hr
          rw [hw3] at Z
          clear hw3
          refine zw_top (nI ((zB0 n o P jv x9 (B ja) i q + ztp P (B ja i) x9 (zEx n o jv i)) % P)) (by rw [zmo_N (by omega), ← ztp_one hA1 (by omega), Nat.add_mod_mod]) ?_
          refine zw_callv (va_runV (As := [.int 71, .int (nI (zKy n o q)), .int (nI ((zB0 n o P jv x9 (B ja) i q + ztp P (B ja i) x9 (zEx n o jv i)) % P))]) (rest := []) ⟨hx, hb, hml, hown, hts⟩ (c_M_lay l P n o _ _ hA 71 q ((zB0 n o P jv x9 (B ja) i q + ztp P (B ja i) x9 (zEx n o jv i)) % P) (by decide) hq1 (Nat.mod_lt _ (by omega))) (kw_M_lay hts ml_M_85 (zR_fit (by omega) (by omega))) (Z.preV h100a rfl _) rfl rfl hl.1 rfl (lv_room (Nat.le_of_ble_eq_true rfl)) dM_set_118 ⟨Nat.le_of_ble_eq_true rfl, Nat.le_of_ble_eq_true rfl⟩) Z (fun w4 H locs hp Z => ?_)
          refine lv_iinc (v := (nI (i + 1))) (lv' := [(5, .int (nI (i + 1))), (8, .int (nI (zKy n o q))), (7, .int (nI (zEx n o jv i))), (6, .int (nI (zKy n o i))), (0, .ref (ad 100)), (1, .int (nI ja)), (2, .int (nI jv)), (3, .int x), (4, .int (nI jt))]) hx hb dM_set_121 hl (k := 3) rfl (nI_1 i) (by decide) rfl (fun ls hl => ?_)
          refine lv_goto (tgt := 37) hx hb dM_set_124 (by decide) ?_
          exact ih (i + 1) w4 _ _ ls (by omega) (hp.1.to (by rw [va_up_self, zup2, zB0_step hcfg hq1 hq2])) (hz.trans hp.2) Z (lv_sub hl [0, 4, 5, 6, 7, 8] rfl)
      exact loop (zCt n) 0 w2 _ _ ls (by omega) (hM2.to (by
        congr 1
        funext k9
        show 0 = (if k9 < zCt n then 0 % P else 0)
        rw [Nat.zero_mod]
        split <;> rfl)) hz2 Z (lv_sub hl [0, 1, 2, 3, 4, 5] rfl)
    · have hzl := zb_t hc
      rw [hzl] at Z
      have hM0 : zMod G ad (va_up w 100 (some (oM ad (upd F 0 1)))) P n o (upd F 0 1) B := hM.put (by decide)
      exact hret _ _ _ _ _ dM_set_27 (⟨Or.inr ⟨fun h9 => zlk_t hzl ⟨h9.1, h9.2.2, by rw [h9.2.1]; rfl⟩, _, B, hM0, hBA, ⟨rfl, hF13, hF14, hF15, hF26⟩, hMt.put⟩, zfm.up (by decide)⟩) Z
  refine lv_aload_n hx hb dM_set_0 rfl (lv_at hl 0 rfl) ?_
  refine lv_iload_n hx hb dM_set_1 rfl (lv_at hl 1 rfl) ?_
  refine lv_iload hx hb dM_set_2 (lv_at hl 4 rfl) ?_
  refine lv_iload_n hx hb dM_set_4 rfl (lv_at hl 2 rfl) ?_
  refine lv_if_lt (tgt := 16) hx hb dM_set_5 (by decide) (fun hc => ?_) (fun hc => ?_)
  · refine lv_iconst (v := 1) hx hb dM_set_16 (by decide) ?_
    refine lv_goto (tgt := 21) hx hb dM_set_17 (by decide) ?_
    exact (by rw [show zvv n v = false from decide_eq_false (fun h9 => h9.1 hc)] at tail; exact tail _ _ Z)
  · refine lv_iload_n hx hb dM_set_8 rfl (lv_at hl 2 rfl) ?_
    refine lv_aload_n hx hb dM_set_9 rfl (lv_at hl 0 rfl) ?_
    refine zw_get (v := .int (F 2)) hx hb hT uM hown Z h100 rfl 2 (by decide) (hT _ mf_M_55) (fun _ h9 => h9) rfl dM_set_10 ?_
    refine zw_top (nI n) (hF2) ?_
    refine lv_icmp_lt (tgt := 20) hx hb dM_set_13 (by decide) (fun hc2 => ?_) (fun hc2 => ?_)
    · refine lv_iconst (v := 0) hx hb dM_set_20 (by decide) ?_
      exact (by rw [show zvv n v = true from decide_eq_true ⟨hc, hc2⟩] at tail; exact tail _ _ Z)
    · refine lv_iconst (v := 1) hx hb dM_set_16 (by decide) ?_
      refine lv_goto (tgt := 21) hx hb dM_set_17 (by decide) ?_
      exact (by rw [show zvv n v = false from decide_eq_false (fun h9 => hc2 h9.2)] at tail; exact tail _ _ Z)

set_option maxHeartbeats 4000000 in
set_option maxRecDepth 100000 in
theorem c_M_value (l : Launch) {G : zG} {ad : Nat → Nat} {w : Nat → Option va_E} (P n o : Nat) (A : Nat → Nat → Nat) (T : Nat → Nat) (len : Nat) (flt pl : Int32) (out : List Nat) (thr : Int32) (hD : zMd G ad w P n o A T len flt pl out thr) (a x y z u9 : Int32) : Met l yM_value wM_value (zR (3)) (va_Pc [.ref (ad 100), .int a, .int x, .int y, .int z, .int u9] (zw_U G ad w)) (va_Qi (S := Nat → Option va_E) (fun r w' => (zip8 a = true ∧ r = nI (zevl n o P (fun v => zred P (zx4 x y z u9 v)) (A a.toNatClampNeg) (zCt n)) ∧ zMd G ad w' P n o (A) (T) (len) (flt) (pl) (out) (0) ∨ zip8 a = false ∧ zMd G ad w' P n o (A) (T) (len) (flt) (pl) (out) (1)) ∧ zfm w w') (fun u t => zw_U G ((fun _ => ad) u) ((fun w' => w') u) t) (zA G)) 0 0 (zA G) := by
  refine zw_methi (S := Nat → Option va_E) (fa := fun _ => ad) (fw := fun w' => w') (by decide) rfl (Nat.le_of_ble_eq_true rfl) ?_
  intro p e s m below meth c Q ls C hname Z hl hret
  obtain ⟨hx, hb, hml, hown, hts, hlk⟩ := C
  have hT : ∀ w ∈ zT, w.before ([.ref (ad 100), .int a, .int x, .int y, .int z, .int u9] : List Value).toArray s = true := fun w h => hts w (List.mem_cons_of_mem _ h)
  have hown : s.vm.findClass "PolynomialDeskModel" = some m.cls := hown
  have hl : lv_has ls 10 [(0, .ref (ad 100)), (1, .int a), (2, .int x), (3, .int y), (4, .int z), (5, .int u9)] := hl
  obtain ⟨F, B, hM, hBA, ⟨hF0, hF13, hF14, hF15, hF26⟩, hMt⟩ := id hD
  obtain ⟨h100, ⟨hF1, hF2, hF3, hF4, hF10⟩, ⟨hP1, hP2⟩, hcfg, ⟨dg, h101, hdg⟩, ⟨ex, h102, hex⟩, ⟨ys, h103, hys⟩, ⟨un, h104, hun⟩, ⟨cl, h105, hcl, hpB⟩⟩ := id hM
  have hct := zCt_le (n := n)
  refine lv_aload_n hx hb dM_value_0 rfl (lv_at hl 0 rfl) ?_
  refine lv_iload_n hx hb dM_value_1 rfl (lv_at hl 1 rfl) ?_
  refine lv_iload_n hx hb dM_value_2 rfl (lv_at hl 1 rfl) ?_
  refine lv_iconst (v := 0) hx hb dM_value_3 (by decide) ?_
  show W p l e (zR (3)) s m ([.ref (ad 100), .int a, .int x, .int y, .int z, .int u9] : List Value).toArray below meth c s.heap [] (0) (0) Q (F0 m 4 ls [.int (zb false), .int a, .int a, .ref (ad 100)])
  refine zw_calli (va_runV (As := [.int a, .int a, .int (zb false)]) (rest := []) ⟨hx, hb, hml, hown, hts⟩ (c_M_lacks l P n o F B hM a a (false)) (kw_M_lacks hts ml_M_188 (zR_fit (by omega) (by omega))) (Z.preV h100 rfl _) rfl rfl hl.1 rfl (lv_room (Nat.le_of_ble_eq_true rfl)) dM_value_4 ⟨Nat.le_of_ble_eq_true rfl, Nat.le_of_ble_eq_true rfl⟩) Z (fun r w1 H locs hp Z => ?_)
  obtain ⟨rfl, hw1⟩ := hp
  subst hw1
  refine lv_if_eq (tgt := 12) hx hb dM_value_7 (by decide) (fun hc => ?_) (fun hc => ?_)
  · obtain ⟨hza, -, -⟩ := zlk_f (zb_f hc)
    rw [zb_f hc] at Z
    have Z : zw G ad (va_up w 100 (some (oM ad (upd F 0 0)))) s H locs := Z
    have hM0 : zMod G ad (va_up w 100 (some (oM ad (upd F 0 0)))) P n o (upd F 0 0) B := hM.put (by decide)
    obtain ⟨h1000, ⟨hF10, hF20, hF30, hF40, hF100⟩, ⟨hP1, hP2⟩, hcfg, ⟨dg0, h1010, hdg0⟩, ⟨ex0, h1020, hex0⟩, ⟨ys0, h1030, hys0⟩, ⟨un0, h1040, hun0⟩, ⟨cl0, h1050, hcl0, hpB0⟩⟩ := id hM0
    obtain ⟨ja, hja, rfl⟩ := zip8_ok hza
    rw [ncl (show ja < 2 ^ 31 by omega), ← hBA ja hja] at hret
    obtain ⟨X, hX⟩ : ∃ X : Nat → Nat, X = fun v => zred P (zx4 x y z u9 v) := ⟨_, rfl⟩
    rw [← hX] at hret
    refine lv_iconst (v := 0) hx hb dM_value_12 (by decide) ?_
    refine lv_istore (lv' := [(6, .int 0), (0, .ref (ad 100)), (1, .int (nI ja)), (2, .int x), (3, .int y), (4, .int z), (5, .int u9)]) hx hb dM_value_13 hl (by decide) rfl (fun ls hl => ?_)
    refine lv_iconst (v := 0) hx hb dM_value_15 (by decide) ?_
    refine lv_istore (lv' := [(7, .int 0), (6, .int 0), (0, .ref (ad 100)), (1, .int (nI ja)), (2, .int x), (3, .int y), (4, .int z), (5, .int u9)]) hx hb dM_value_16 hl (by decide) rfl (fun ls hl => ?_)
    have loop : ∀ (d i : Nat) (H : Heap) (locs : List Loc) (ls : Array Slot), d + i = zCt n → zw G ad (va_up w 100 (some (oM ad (upd F 0 0)))) s H locs → lv_has ls 10 [(7, .int (nI i)), (6, .int (nI (zevl n o P X (B ja) i))), (0, .ref (ad 100)), (1, .int (nI ja)), (2, .int x), (3, .int y), (4, .int z), (5, .int u9)] → W p l e (zR (3)) s m ([.ref (ad 100), .int (nI ja), .int x, .int y, .int z, .int u9] : List Value).toArray below meth c H locs (0) (0) Q (F0 m 18 ls []) := by
      intro d
      induction d with
      | zero =>
        intro i H locs ls hd Z hl
        refine lv_iload hx hb dM_value_18 (lv_at hl 0 rfl) ?_
        refine lv_aload_n hx hb dM_value_20 rfl (lv_at hl 2 rfl) ?_
        refine zw_get (v := .int ((upd F 0 0) 10)) hx hb hT uM hown Z h1000 rfl 10 (by decide) (hT _ mf_M_67) (fun _ h9 => h9) rfl dM_value_21 ?_
        refine zw_top (nI (zCt n)) (hF100) ?_
        refine lv_icmp_ge (tgt := 172) hx hb dM_value_24 (by decide) (fun _ => ?_) (fun hc => absurd (show ((nI (zCt n)) : Int32) ≤ (nI i) from nI_le (by omega) (by omega)) hc)
        refine lv_iload hx hb dM_value_172 (lv_at hl 1 rfl) ?_
        exact hret _ _ _ _ _ _ dM_value_174 (⟨Or.inl ⟨hza, by rw [show i = zCt n by omega], _, B, hM0, hBA, ⟨rfl, hF13, hF14, hF15, hF26⟩, hMt.put⟩, zfm.up (by decide)⟩) Z
      | succ d ih =>
        intro i H locs ls hd Z hl
        have hi : i < zCt n := by omega
        have hky := zKy_lt hcfg hi
        have hA1 := (hpB ja).1 i
        have hsum : zevl n o P X (B ja) i < P := Nat.mod_lt _ (by omega)
        have hnext : (zevl n o P X (B ja) i + zvp n o P X (B ja i) i 4) % P = zevl n o P X (B ja) (i + 1) := by
          rw [zvp_4 hcfg hi]
          show (_ % P + _) % P = (_ + _) % P
          rw [Nat.mod_add_mod]
        refine lv_iload hx hb dM_value_18 (lv_at hl 0 rfl) ?_
        refine lv_aload_n hx hb dM_value_20 rfl (lv_at hl 2 rfl) ?_
        refine zw_get (v := .int ((upd F 0 0) 10)) hx hb hT uM hown Z h1000 rfl 10 (by decide) (hT _ mf_M_67) (fun _ h9 => h9) rfl dM_value_21 ?_
        refine zw_top (nI (zCt n)) (hF100) ?_
        refine lv_icmp_ge (tgt := 172) hx hb dM_value_24 (by decide) (fun hc => absurd hc (show ¬ (((nI (zCt n)) : Int32) ≤ (nI i)) from nI_ge (by omega) (by omega))) (fun _ => ?_)
        refine lv_aload_n hx hb dM_value_27 rfl (lv_at hl 2 rfl) ?_
        refine zw_get (v := .ref (ad 103)) hx hb hT uM hown Z h1000 rfl 8 (by decide) (hT _ mf_M_20) (fun _ h9 => h9) rfl dM_value_28 ?_
        refine lv_iload hx hb dM_value_31 (lv_at hl 0 rfl) ?_
        refine zw_iald hx hb Z h1030 (vin (by omega) (by decide)) dM_value_33 ?_
        refine zw_top (nI (zKy n o i)) (by rw [ncl (by omega)]; exact hys0 i (by omega)) ?_
        refine lv_istore (lv' := [(8, .int (nI (zKy n o i))), (7, .int (nI i)), (6, .int (nI (zevl n o P X (B ja) i))), (0, .ref (ad 100)), (1, .int (nI ja)), (2, .int x), (3, .int y), (4, .int z), (5, .int u9)]) hx hb dM_value_34 hl (by decide) rfl (fun ls hl => ?_)
        refine lv_aload_n hx hb dM_value_36 rfl (lv_at hl 3 rfl) ?_
        refine lv_iload_n hx hb dM_value_37 rfl (lv_at hl 4 rfl) ?_
        refine lv_iload hx hb dM_value_38 (lv_at hl 0 rfl) ?_
        refine zw_calli (va_runV (As := [.int (nI ja), .int (nI (zKy n o i))]) (rest := []) ⟨hx, hb, hml, hown, hts⟩ (c_M_cell l P n o _ B hM0 ja i (by omega) hi) (kw_M_cell hts ml_M_88 (zR_fit (by omega) (by omega))) (Z.preV h1000 rfl _) rfl rfl hl.1 rfl (lv_room (Nat.le_of_ble_eq_true rfl)) dM_value_40 ⟨Nat.le_of_ble_eq_true rfl, Nat.le_of_ble_eq_true rfl⟩) Z (fun r wq H locs hp Z => ?_)
        obtain ⟨rfl, hw1⟩ := hp
        rw [hw1] at Z
        clear hw1
        refine lv_if_ne (tgt := 49) hx hb dM_value_43 (by decide) (fun hc2 => ?_) (fun hc2 => ?_)
        · have ht0 := ztp_lt (x := X 0) (show 1 < P by omega) (zEx n o 0 i)
          have hv0 : zvp n o P X (B ja i) i 0 < P := zvp_lt hA1 0
          have hm0 := zmul_lt hP2 hv0 ht0
          refine lv_aload_n hx hb dM_value_49 rfl (lv_at hl 3 rfl) ?_
          refine lv_aload_n hx hb dM_value_50 rfl (lv_at hl 3 rfl) ?_
          refine lv_iload_n hx hb dM_value_51 rfl (lv_at hl 4 rfl) ?_
          refine lv_iload hx hb dM_value_52 (lv_at hl 0 rfl) ?_
          refine zw_calli (va_runV (As := [.int (nI ja), .int (nI (zKy n o i))]) (rest := [.ref (ad 100)]) ⟨hx, hb, hml, hown, hts⟩ (c_M_cell l P n o _ B hM0 ja i (by omega) hi) (kw_M_cell hts ml_M_88 (zR_fit (by omega) (by omega))) (Z.preV h1000 rfl _) rfl rfl hl.1 rfl (lv_room (Nat.le_of_ble_eq_true rfl)) dM_value_54 ⟨Nat.le_of_ble_eq_true rfl, Nat.le_of_ble_eq_true rfl⟩) Z (fun r wq H locs hp Z => ?_)
          obtain ⟨rfl, hw1⟩ := hp
          rw [hw1] at Z
          clear hw1
          refine lv_i2l hx hb dM_value_57 rfl ?_
          refine lv_aload_n hx hb dM_value_58 rfl (lv_at hl 3 rfl) ?_
          refine lv_iload_n hx hb dM_value_59 rfl (lv_at hl 5 rfl) ?_
          refine lv_aload_n hx hb dM_value_60 rfl (lv_at hl 3 rfl) ?_
          refine zw_get (v := .ref (ad 102)) hx hb hT uM hown Z h1000 rfl 7 (by decide) (hT _ mf_M_17) (fun _ h9 => h9) rfl dM_value_61 ?_
          refine lv_iconst (v := 4) hx hb dM_value_64 (by decide) ?_
          refine lv_iload hx hb dM_value_65 (lv_at hl 0 rfl) ?_
          refine lv_imul hx hb dM_value_67 ?_
          refine zw_top (nI (4 * zKy n o i + 0)) (pk_mul 4 _) ?_
          refine zw_iald hx hb Z h1020 (vin (by omega) (by decide)) dM_value_68 ?_
          refine zw_top (nI (zEx n o 0 i)) (by rw [ncl (by omega)]; exact hex0 i hi 0 (by decide)) ?_
          refine zw_calli (va_runV (As := [.int x, .int (nI (zEx n o 0 i))]) (rest := [.long ((nI (B ja i)).toInt64), .ref (ad 100)]) ⟨hx, hb, hml, hown, hts⟩ (c_M_power l P n o _ B hM0 x (zEx n o 0 i) (by have := zEx_30 hcfg hi (show 0 < 4 by decide); omega)) (kw_M_power hts ml_M_192 (zR_fit (by omega) (by omega))) (Z.preV h1000 rfl _) rfl rfl hl.1 rfl (lv_room (Nat.le_of_ble_eq_true rfl)) dM_value_69 ⟨Nat.le_of_ble_eq_true rfl, Nat.le_of_ble_eq_true rfl⟩) Z (fun r wq H locs hp Z => ?_)
          obtain ⟨rfl, hw1⟩ := hp
          rw [hw1] at Z
          clear hw1
          refine zw_top (nI (ztp P 1 (X 0) (zEx n o 0 i))) (by rw [hX]; rfl) ?_
          refine lv_i2l hx hb dM_value_72 rfl ?_
          refine lv_lmul hx hb dM_value_73 ?_
          refine zw_topl (lN (zvp n o P X (B ja i) i 0 * ztp P 1 (X 0) (zEx n o 0 i))) (by rw [nI_l (by omega), nI_l (by omega)]; exact lN_mul _ _) ?_
          refine zw_calli (va_runV (As := [.long (lN (zvp n o P X (B ja i) i 0 * ztp P 1 (X 0) (zEx n o 0 i)))]) (rest := []) ⟨hx, hb, hml, hown, hts⟩ (c_M_modulo l P n o _ B hM0 (lN (zvp n o P X (B ja i) i 0 * ztp P 1 (X 0) (zEx n o 0 i)))) (kw_M_modulo hts ml_M_92 (zR_fit (by omega) (by omega))) (Z.preV h1000 rfl _) rfl rfl hl.1 rfl (lv_room (Nat.le_of_ble_eq_true rfl)) dM_value_74 ⟨Nat.le_of_ble_eq_true rfl, Nat.le_of_ble_eq_true rfl⟩) Z (fun r wq H locs hp Z => ?_)
          obtain ⟨rfl, hw1⟩ := hp
          rw [hw1] at Z
          clear hw1
          refine zw_top (nI (zvp n o P X (B ja i) i 1)) (by rw [zmo_N (by omega), ztp_one hv0 (by omega)]; rfl) ?_
          have ht1 := ztp_lt (x := X 1) (show 1 < P by omega) (zEx n o 1 i)
          have hv1 : zvp n o P X (B ja i) i 1 < P := zvp_lt hA1 1
          have hm1 := zmul_lt hP2 hv1 ht1
          refine lv_istore (lv' := [(9, .int (nI (zvp n o P X (B ja i) i 1))), (8, .int (nI (zKy n o i))), (7, .int (nI i)), (6, .int (nI (zevl n o P X (B ja) i))), (0, .ref (ad 100)), (1, .int (nI ja)), (2, .int x), (3, .int y), (4, .int z), (5, .int u9)]) hx hb dM_value_77 hl (by decide) rfl (fun ls hl => ?_)
          refine lv_aload_n hx hb dM_value_79 rfl (lv_at hl 4 rfl) ?_
          refine lv_iload hx hb dM_value_80 (lv_at hl 0 rfl) ?_
          refine lv_i2l hx hb dM_value_82 rfl ?_
          refine lv_aload_n hx hb dM_value_83 rfl (lv_at hl 4 rfl) ?_
          refine lv_iload_n hx hb dM_value_84 rfl (lv_at hl 7 rfl) ?_
          refine lv_aload_n hx hb dM_value_85 rfl (lv_at hl 4 rfl) ?_
          refine zw_get (v := .ref (ad 102)) hx hb hT uM hown Z h1000 rfl 7 (by decide) (hT _ mf_M_17) (fun _ h9 => h9) rfl dM_value_86 ?_
          refine lv_iconst (v := 4) hx hb dM_value_89 (by decide) ?_
          refine lv_iload hx hb dM_value_90 (lv_at hl 1 rfl) ?_
          refine lv_imul hx hb dM_value_92 ?_
          refine zw_top (nI (4 * zKy n o i)) (pk_mul 4 _) ?_
          refine lv_iconst (v := 1) hx hb dM_value_93 (by decide) ?_
          refine lv_iadd hx hb dM_value_94 ?_
          refine zw_top (nI (4 * zKy n o i + 1)) (nI_add _ 1) ?_
          refine zw_iald hx hb Z h1020 (vin (by omega) (by decide)) dM_value_95 ?_
          refine zw_top (nI (zEx n o 1 i)) (by rw [ncl (by omega)]; exact hex0 i hi 1 (by decide)) ?_
          refine zw_calli (va_runV (As := [.int y, .int (nI (zEx n o 1 i))]) (rest := [.long ((nI (zvp n o P X (B ja i) i 1)).toInt64), .ref (ad 100)]) ⟨hx, hb, hml, hown, hts⟩ (c_M_power l P n o _ B hM0 y (zEx n o 1 i) (by have := zEx_30 hcfg hi (show 1 < 4 by decide); omega)) (kw_M_power hts ml_M_192 (zR_fit (by omega) (by omega))) (Z.preV h1000 rfl _) rfl rfl hl.1 rfl (lv_room (Nat.le_of_ble_eq_true rfl)) dM_value_96 ⟨Nat.le_of_ble_eq_true rfl, Nat.le_of_ble_eq_true rfl⟩) Z (fun r wq H locs hp Z => ?_)
          obtain ⟨rfl, hw1⟩ := hp
          rw [hw1] at Z
          clear hw1
          refine zw_top (nI (ztp P 1 (X 1) (zEx n o 1 i))) (by rw [hX]; rfl) ?_
          refine lv_i2l hx hb dM_value_99 rfl ?_
          refine lv_lmul hx hb dM_value_100 ?_
          refine zw_topl (lN (zvp n o P X (B ja i) i 1 * ztp P 1 (X 1) (zEx n o 1 i))) (by rw [nI_l (by omega), nI_l (by omega)]; exact lN_mul _ _) ?_
          refine zw_calli (va_runV (As := [.long (lN (zvp n o P X (B ja i) i 1 * ztp P 1 (X 1) (zEx n o 1 i)))]) (rest := []) ⟨hx, hb, hml, hown, hts⟩ (c_M_modulo l P n o _ B hM0 (lN (zvp n o P X (B ja i) i 1 * ztp P 1 (X 1) (zEx n o 1 i)))) (kw_M_modulo hts ml_M_92 (zR_fit (by omega) (by omega))) (Z.preV h1000 rfl _) rfl rfl hl.1 rfl (lv_room (Nat.le_of_ble_eq_true rfl)) dM_value_101 ⟨Nat.le_of_ble_eq_true rfl, Nat.le_of_ble_eq_true rfl⟩) Z (fun r wq H locs hp Z => ?_)
          obtain ⟨rfl, hw1⟩ := hp
          rw [hw1] at Z
          clear hw1
          refine zw_top (nI (zvp n o P X (B ja i) i 2)) (by rw [zmo_N (by omega), ztp_one hv1 (by omega)]; rfl) ?_
          have ht2 := ztp_lt (x := X 2) (show 1 < P by omega) (zEx n o 2 i)
          have hv2 : zvp n o P X (B ja i) i 2 < P := zvp_lt hA1 2
          have hm2 := zmul_lt hP2 hv2 ht2
          refine lv_istore (lv' := [(9, .int (nI (zvp n o P X (B ja i) i 2))), (8, .int (nI (zKy n o i))), (7, .int (nI i)), (6, .int (nI (zevl n o P X (B ja) i))), (0, .ref (ad 100)), (1, .int (nI ja)), (2, .int x), (3, .int y), (4, .int z), (5, .int u9)]) hx hb dM_value_104 hl (by decide) rfl (fun ls hl => ?_)
          refine lv_aload_n hx hb dM_value_106 rfl (lv_at hl 4 rfl) ?_
          refine lv_iload hx hb dM_value_107 (lv_at hl 0 rfl) ?_
          refine lv_i2l hx hb dM_value_109 rfl ?_
          refine lv_aload_n hx hb dM_value_110 rfl (lv_at hl 4 rfl) ?_
          refine lv_iload hx hb dM_value_111 (lv_at hl 8 rfl) ?_
          refine lv_aload_n hx hb dM_value_113 rfl (lv_at hl 4 rfl) ?_
          refine zw_get (v := .ref (ad 102)) hx hb hT uM hown Z h1000 rfl 7 (by decide) (hT _ mf_M_17) (fun _ h9 => h9) rfl dM_value_114 ?_
          refine lv_iconst (v := 4) hx hb dM_value_117 (by decide) ?_
          refine lv_iload hx hb dM_value_118 (lv_at hl 1 rfl) ?_
          refine lv_imul hx hb dM_value_120 ?_
          refine zw_top (nI (4 * zKy n o i)) (pk_mul 4 _) ?_
          refine lv_iconst (v := 2) hx hb dM_value_121 (by decide) ?_
          refine lv_iadd hx hb dM_value_122 ?_
          refine zw_top (nI (4 * zKy n o i + 2)) (nI_add _ 2) ?_
          refine zw_iald hx hb Z h1020 (vin (by omega) (by decide)) dM_value_123 ?_
          refine zw_top (nI (zEx n o 2 i)) (by rw [ncl (by omega)]; exact hex0 i hi 2 (by decide)) ?_
          refine zw_calli (va_runV (As := [.int z, .int (nI (zEx n o 2 i))]) (rest := [.long ((nI (zvp n o P X (B ja i) i 2)).toInt64), .ref (ad 100)]) ⟨hx, hb, hml, hown, hts⟩ (c_M_power l P n o _ B hM0 z (zEx n o 2 i) (by have := zEx_30 hcfg hi (show 2 < 4 by decide); omega)) (kw_M_power hts ml_M_192 (zR_fit (by omega) (by omega))) (Z.preV h1000 rfl _) rfl rfl hl.1 rfl (lv_room (Nat.le_of_ble_eq_true rfl)) dM_value_124 ⟨Nat.le_of_ble_eq_true rfl, Nat.le_of_ble_eq_true rfl⟩) Z (fun r wq H locs hp Z => ?_)
          obtain ⟨rfl, hw1⟩ := hp
          rw [hw1] at Z
          clear hw1
          refine zw_top (nI (ztp P 1 (X 2) (zEx n o 2 i))) (by rw [hX]; rfl) ?_
          refine lv_i2l hx hb dM_value_127 rfl ?_
          refine lv_lmul hx hb dM_value_128 ?_
          refine zw_topl (lN (zvp n o P X (B ja i) i 2 * ztp P 1 (X 2) (zEx n o 2 i))) (by rw [nI_l (by omega), nI_l (by omega)]; exact lN_mul _ _) ?_
          refine zw_calli (va_runV (As := [.long (lN (zvp n o P X (B ja i) i 2 * ztp P 1 (X 2) (zEx n o 2 i)))]) (rest := []) ⟨hx, hb, hml, hown, hts⟩ (c_M_modulo l P n o _ B hM0 (lN (zvp n o P X (B ja i) i 2 * ztp P 1 (X 2) (zEx n o 2 i)))) (kw_M_modulo hts ml_M_92 (zR_fit (by omega) (by omega))) (Z.preV h1000 rfl _) rfl rfl hl.1 rfl (lv_room (Nat.le_of_ble_eq_true rfl)) dM_value_129 ⟨Nat.le_of_ble_eq_true rfl, Nat.le_of_ble_eq_true rfl⟩) Z (fun r wq H locs hp Z => ?_)
          obtain ⟨rfl, hw1⟩ := hp
          rw [hw1] at Z
          clear hw1
          refine zw_top (nI (zvp n o P X (B ja i) i 3)) (by rw [zmo_N (by omega), ztp_one hv2 (by omega)]; rfl) ?_
          have ht3 := ztp_lt (x := X 3) (show 1 < P by omega) (zEx n o 3 i)
          have hv3 : zvp n o P X (B ja i) i 3 < P := zvp_lt hA1 3
          have hm3 := zmul_lt hP2 hv3 ht3
          refine lv_istore (lv' := [(9, .int (nI (zvp n o P X (B ja i) i 3))), (8, .int (nI (zKy n o i))), (7, .int (nI i)), (6, .int (nI (zevl n o P X (B ja) i))), (0, .ref (ad 100)), (1, .int (nI ja)), (2, .int x), (3, .int y), (4, .int z), (5, .int u9)]) hx hb dM_value_132 hl (by decide) rfl (fun ls hl => ?_)
          refine lv_aload_n hx hb dM_value_134 rfl (lv_at hl 4 rfl) ?_
          refine lv_iload hx hb dM_value_135 (lv_at hl 3 rfl) ?_
          refine lv_i2l hx hb dM_value_137 rfl ?_
          refine lv_iload hx hb dM_value_138 (lv_at hl 0 rfl) ?_
          refine lv_i2l hx hb dM_value_140 rfl ?_
          refine lv_aload_n hx hb dM_value_141 rfl (lv_at hl 4 rfl) ?_
          refine lv_iload hx hb dM_value_142 (lv_at hl 9 rfl) ?_
          refine lv_aload_n hx hb dM_value_144 rfl (lv_at hl 4 rfl) ?_
          refine zw_get (v := .ref (ad 102)) hx hb hT uM hown Z h1000 rfl 7 (by decide) (hT _ mf_M_17) (fun _ h9 => h9) rfl dM_value_145 ?_
          refine lv_iconst (v := 4) hx hb dM_value_148 (by decide) ?_
          refine lv_iload hx hb dM_value_149 (lv_at hl 1 rfl) ?_
          refine lv_imul hx hb dM_value_151 ?_
          refine zw_top (nI (4 * zKy n o i)) (pk_mul 4 _) ?_
          refine lv_iconst (v := 3) hx hb dM_value_152 (by decide) ?_
          refine lv_iadd hx hb dM_value_153 ?_
          refine zw_top (nI (4 * zKy n o i + 3)) (nI_add _ 3) ?_
          refine zw_iald hx hb Z h1020 (vin (by omega) (by decide)) dM_value_154 ?_
          refine zw_top (nI (zEx n o 3 i)) (by rw [ncl (by omega)]; exact hex0 i hi 3 (by decide)) ?_
          refine zw_calli (va_runV (As := [.int u9, .int (nI (zEx n o 3 i))]) (rest := [.long ((nI (zvp n o P X (B ja i) i 3)).toInt64), .long ((nI (zevl n o P X (B ja) i)).toInt64), .ref (ad 100)]) ⟨hx, hb, hml, hown, hts⟩ (c_M_power l P n o _ B hM0 u9 (zEx n o 3 i) (by have := zEx_30 hcfg hi (show 3 < 4 by decide); omega)) (kw_M_power hts ml_M_192 (zR_fit (by omega) (by omega))) (Z.preV h1000 rfl _) rfl rfl hl.1 rfl (lv_room (Nat.le_of_ble_eq_true rfl)) dM_value_155 ⟨Nat.le_of_ble_eq_true rfl, Nat.le_of_ble_eq_true rfl⟩) Z (fun r wq H locs hp Z => ?_)
          obtain ⟨rfl, hw1⟩ := hp
          rw [hw1] at Z
          clear hw1
          refine zw_top (nI (ztp P 1 (X 3) (zEx n o 3 i))) (by rw [hX]; rfl) ?_
          refine lv_i2l hx hb dM_value_158 rfl ?_
          refine lv_lmul hx hb dM_value_159 ?_
          refine lv_ladd hx hb dM_value_160 ?_
          refine zw_topl (lN (zevl n o P X (B ja) i + zvp n o P X (B ja i) i 3 * ztp P 1 (X 3) (zEx n o 3 i))) (by rw [nI_l (by omega), nI_l (by omega), nI_l (by omega), lN_mul, lN_add]) ?_
          refine zw_calli (va_runV (As := [.long (lN (zevl n o P X (B ja) i + zvp n o P X (B ja i) i 3 * ztp P 1 (X 3) (zEx n o 3 i)))]) (rest := []) ⟨hx, hb, hml, hown, hts⟩ (c_M_modulo l P n o _ B hM0 (lN (zevl n o P X (B ja) i + zvp n o P X (B ja i) i 3 * ztp P 1 (X 3) (zEx n o 3 i)))) (kw_M_modulo hts ml_M_92 (zR_fit (by omega) (by omega))) (Z.preV h1000 rfl _) rfl rfl hl.1 rfl (lv_room (Nat.le_of_ble_eq_true rfl)) dM_value_161 ⟨Nat.le_of_ble_eq_true rfl, Nat.le_of_ble_eq_true rfl⟩) Z (fun r wq H locs hp Z => ?_)
          obtain ⟨rfl, hw1⟩ := hp
          rw [hw1] at Z
          clear hw1
          refine zw_top (nI (zevl n o P X (B ja) (i + 1))) (by rw [zmo_N (by omega), ← hnext]; show nI ((_ + _) % P) = nI ((_ + ztp P _ _ _) % P); rw [← ztp_one hv3 (by omega), Nat.add_mod_mod]) ?_
          refine lv_istore (lv' := [(6, .int (nI (zevl n o P X (B ja) (i + 1)))), (9, .int (nI (zvp n o P X (B ja i) i 3))), (8, .int (nI (zKy n o i))), (7, .int (nI i)), (0, .ref (ad 100)), (1, .int (nI ja)), (2, .int x), (3, .int y), (4, .int z), (5, .int u9)]) hx hb dM_value_164 hl (by decide) rfl (fun ls hl => ?_)
          refine lv_iinc (v := (nI (i + 1))) (lv' := [(7, .int (nI (i + 1))), (6, .int (nI (zevl n o P X (B ja) (i + 1)))), (9, .int (nI (zvp n o P X (B ja i) i 3))), (8, .int (nI (zKy n o i))), (0, .ref (ad 100)), (1, .int (nI ja)), (2, .int x), (3, .int y), (4, .int z), (5, .int u9)]) hx hb dM_value_166 hl (k := 3) rfl (nI_1 i) (by decide) rfl (fun ls hl => ?_)
          refine lv_goto (tgt := 18) hx hb dM_value_169 (by decide) ?_
          exact ih (i + 1) _ _ ls (by omega) Z (lv_sub hl [0, 1, 4, 5, 6, 7, 8, 9] rfl)
        · have hz0 : B ja i = 0 := nI_z (by omega) hc2
          have hsk : zevl n o P X (B ja) (i + 1) = zevl n o P X (B ja) i := by
            rw [← hnext, hz0, show zvp n o P X 0 i 4 = 0 from by have := zvp_z (n := n) (o := o) (P := P) (xs := X) (c := 0) (i := i) (v := 0) rfl 4; exact this, Nat.add_zero]
            exact Nat.mod_eq_of_lt hsum
          refine lv_goto (tgt := 166) hx hb dM_value_46 (by decide) ?_
          refine lv_iinc (v := (nI (i + 1))) (lv' := [(7, .int (nI (i + 1))), (8, .int (nI (zKy n o i))), (6, .int (nI (zevl n o P X (B ja) i))), (0, .ref (ad 100)), (1, .int (nI ja)), (2, .int x), (3, .int y), (4, .int z), (5, .int u9)]) hx hb dM_value_166 hl (k := 1) rfl (nI_1 i) (by decide) rfl (fun ls hl => ?_)
          refine lv_goto (tgt := 18) hx hb dM_value_169 (by decide) ?_
          exact ih (i + 1) _ _ ls (by omega) Z (by rw [hsk]; exact (lv_sub hl [0, 2, 3, 4, 5, 6, 7, 8] rfl))
    exact loop (zCt n) 0 _ _ ls (by omega) Z (by rw [show zevl n o P X (B ja) 0 = 0 from Nat.zero_mod P]; exact (lv_sub hl [0, 1, 2, 3, 4, 5, 6, 7] rfl))
  · have hzl := zb_t hc
    rw [hzl] at Z
    have hM0 : zMod G ad (va_up w 100 (some (oM ad (upd F 0 1)))) P n o (upd F 0 1) B := hM.put (by decide)
    refine lv_iconst (v := 0) hx hb dM_value_10 (by decide) ?_
    exact hret _ _ _ _ _ _ dM_value_11 (⟨Or.inr ⟨by
      cases h9 : zip8 a with
      | false => rfl
      | true => exact absurd ⟨h9, h9, rfl⟩ (zlk_t hzl), _, B, hM0, hBA, ⟨rfl, hF13, hF14, hF15, hF26⟩, hMt.put⟩, zfm.up (by decide)⟩) Z
