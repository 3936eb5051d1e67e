set_option maxHeartbeats 4000000 in
set_option maxRecDepth 100000 in
theorem c_M_goOn (l : Launch) {G : zG} {ad : Nat → Nat} {w : Nat → Option va_E} (P n o : Nat) (F : Nat → Int32) (B1 B : Nat → Nat → Nat) (T : Nat → Nat) (len : Nat) (sg : Nat → Bool) (st : Nat → Option Nat) (d : Nat) (hR : zRr G ad w P n o F B1 T len sg st d (d + 1)) (hB : ∀ t, t < 71 → B1 t = B t) (q : Nat) (hat : F 17 = nI q) (hq : q ≤ len) (c9 : Int32) (hc9 : c9 = zch T len q) (hst : ∀ q9, st d = some q9 → q9 < len) : Met l yM_goOn wM_goOn (zR (4)) (va_Pc [.ref (ad 100), .int c9] (zw_U G ad w)) (va_Qv (S := Nat → Option va_E) (fun w' => zED n o P T len (zGo G ad w P n o F T len w') (zFi G ad w P n o F B T len w') q d B sg st) (fun u t => zw_U G ((fun _ => ad) u) ((fun w' => w') u) t) (zA G)) 0 0 (zA G) := by
  refine zw_methv (S := Nat → Option va_E) (fa := fun _ => ad) (fw := fun w' => w') (by decide) rfl (Nat.le_of_ble_eq_true rfl) ?_
  intro p e s m below meth c Q ls C hname Z hl hret
  obtain ⟨hx, hb, hml, hown, hts, hlk⟩ := C
  have hT : ∀ w ∈ zT, w.before ([.ref (ad 100), .int c9] : List Value).toArray s = true := fun w h => hts w (List.mem_cons_of_mem _ h)
  have hown : s.vm.findClass "PolynomialDeskModel" = some m.cls := hown
  have hl : lv_has ls 4 [(0, .ref (ad 100)), (1, .int c9)] := hl
  obtain ⟨hM, ⟨hF16, hF19, hd20⟩, ⟨tx, h107, htx⟩, ⟨hTb, hlen⟩, ⟨sa, h108, hsa⟩, ⟨ta, h109, hta⟩⟩ := id hR
  obtain ⟨h100, ⟨hF1, hF2, hF3, hF4, hF10⟩, ⟨hP1, hP2⟩, hcfg, ⟨dg, h101, hdg⟩, ⟨ex, h102, hex⟩, ⟨ys, h103, hys⟩, ⟨un, h104, hun⟩, ⟨cl, h105, hcl, hpB⟩⟩ := id hM
  have hct := zCt_le (n := n)
  have hi0 := zIdx_ok (n := n) (o := o) (k := 0) (by obtain ⟨i, a, b, _⟩ := zConst hcfg; exact ⟨i, a, b⟩)
  have hB8 : B1 (8 + 3 * d) = B (8 + 3 * d) := hB _ (by omega)
  have hB9 : B1 (9 + 3 * d) = B (9 + 3 * d) := hB _ (by omega)
  have hB10 : B1 (10 + 3 * d) = B (10 + 3 * d) := hB _ (by omega)
  have cont81 : ∀ (T9 : Nat → Nat) (w1 : Nat → Option va_E) (B2 : Nat → Nat → Nat) (H : Heap) (locs : List Loc), zcomb n o P (st d) (B (9 + 3 * d)) (B (10 + 3 * d)) = .inr T9 → zRr G ad w1 P n o F B2 T len sg st d (d + 1) → (∀ t, t < 71 → B2 t = va_up B (9 + 3 * d) T9 t) → zf5 w w1 → zw G ad w1 s H locs → W p l e (zR (4)) s m ([.ref (ad 100), .int c9] : List Value).toArray below meth c H locs (0) (0) Q (F0 m 81 ls []) := by
    intro T9 w1 B2 H locs hcb hR1 hB2 hz1 Z
    obtain ⟨hMa, ⟨hF16a, hF19a, hd20a⟩, ⟨txa, h107a, htxa⟩, ⟨hTba, hlena⟩, ⟨saa, h108a, hsaa⟩, ⟨taa, h109a, htaa⟩⟩ := id hR1
    obtain ⟨h100a, ⟨hF1a, hF2a, hF3a, hF4a, hF10a⟩, ⟨hP1, hP2⟩, hcfg, ⟨dga, h101a, hdga⟩, ⟨exa, h102a, hexa⟩, ⟨ysa, h103a, hysa⟩, ⟨una, h104a, huna⟩, ⟨cla, h105a, hcla, hpBa⟩⟩ := id hMa
    have hB2t : B2 (9 + 3 * d) = T9 := by rw [hB2 _ (by omega), va_up_self]
    have hB2s : B2 (8 + 3 * d) = B (8 + 3 * d) := by rw [hB2 _ (by omega), va_up_ne _ _ (by omega)]
    refine lv_iload_n hx hb dM_goOn_81 rfl (lv_at hl 1 rfl) ?_
    refine lv_bipush (v := 42) hx hb dM_goOn_82 (by decide) ?_
    refine lv_icmp_ne (tgt := 116) hx hb dM_goOn_84 (by decide) (fun hc => ?_) (fun hc => ?_)
    · rw [hc9] at hc
      have cont173 : ∀ (r9 : Int32) (ls : Array Slot), (zch T len q = 43 ∨ zch T len q = 45 ∨ zch T len q = 41 ∧ 0 < d ∨ zch T len q = -1 ∧ d = 0) → lv_has ls 4 [(2, .int r9), (0, .ref (ad 100)), (1, .int c9)] → W p l e (zR (4)) s m ([.ref (ad 100), .int c9] : List Value).toArray below meth c H locs (0) (0) Q (F0 m 173 ls []) := by
        intro r9 ls hcs hl
        refine lv_aload_n hx hb dM_goOn_173 rfl (lv_at hl 1 rfl) ?_
        refine lv_aload_n hx hb dM_goOn_174 rfl (lv_at hl 1 rfl) ?_
        refine zw_calli (va_runV (As := []) (rest := [.ref (ad 100)]) ⟨hx, hb, hml, hown, hts⟩ (c_M_product l P n o F B2 T len sg st d (d + 1) hR1) (kw_M_product hts ml_M_161 (zR_fit (by omega) (by omega))) (Z.preV h100a rfl _) rfl rfl hl.1 rfl (lv_room (Nat.le_of_ble_eq_true rfl)) dM_goOn_175 ⟨Nat.le_of_ble_eq_true rfl, Nat.le_of_ble_eq_true rfl⟩) Z (fun r wq H locs hp Z => ?_)
        obtain ⟨rfl, hw1⟩ := hp
        rw [hw1] at Z
        clear hw1
        have hsnP : zsn P (sg d) < P := by unfold zsn; split <;> omega
        have cont200 : ∀ (H : Heap) (locs : List Loc), zw G ad w1 s H locs → W p l e (zR (4)) s m ([.ref (ad 100), .int c9] : List Value).toArray below meth c H locs (0) (0) Q (F0 m 200 ls [.int (nI (zsn P (sg d))), .int (nI (9 + 3 * d)), .ref (ad 100)]) := by
          intro H locs Z
          refine lv_aload_n hx hb dM_goOn_200 rfl (lv_at hl 1 rfl) ?_
          refine zw_calli (va_runV (As := []) (rest := [.int (nI (zsn P (sg d))), .int (nI (9 + 3 * d)), .ref (ad 100)]) ⟨hx, hb, hml, hown, hts⟩ (c_M_sum l P n o F B2 T len sg st d (d + 1) hR1) (kw_M_sum hts ml_M_132 (zR_fit (by omega) (by omega))) (Z.preV h100a rfl _) rfl rfl hl.1 rfl (lv_room (Nat.le_of_ble_eq_true rfl)) dM_goOn_201 ⟨Nat.le_of_ble_eq_true rfl, Nat.le_of_ble_eq_true rfl⟩) Z (fun r wq H locs hp Z => ?_)
          obtain ⟨rfl, hw1⟩ := hp
          rw [hw1] at Z
          clear hw1
          refine zw_callv (va_runV (As := [.int (nI (9 + 3 * d)), .int (nI (zsn P (sg d))), .int (nI (8 + 3 * d))]) (rest := []) ⟨hx, hb, hml, hown, hts⟩ (c_M_addTo l P n o F B2 hR1.1 (9 + 3 * d) (zsn P (sg d)) (8 + 3 * d) (by omega) (by omega) (by omega) hsnP) (kw_M_addTo hts ml_M_167 (zR_fit (by omega) (by omega))) (Z.preV h100a rfl _) rfl rfl hl.1 rfl (lv_room (Nat.le_of_ble_eq_true rfl)) dM_goOn_204 ⟨Nat.le_of_ble_eq_true rfl, Nat.le_of_ble_eq_true rfl⟩) Z (fun w2 H locs hp Z => ?_)
          obtain ⟨hM2, hz2⟩ := hp
          rw [hB2s, hB2t] at hM2
          have hz2 := hz1.trans hz2
          have hR2 := hR1.cel hM2 (fun k hk => (hz2 k hk).trans (hz1 k hk).symm)
          obtain ⟨B3, hB3e⟩ : ∃ B3, B3 = va_up B2 (8 + 3 * d) (zadd n P (zsn P (sg d)) (B (8 + 3 * d)) T9) := ⟨_, rfl⟩
          rw [← hB3e] at hR2
          have hB3 : ∀ t, t < 71 → B3 t = va_up (va_up B (9 + 3 * d) T9) (8 + 3 * d) (zadd n P (zsn P (sg d)) (B (8 + 3 * d)) T9) t := by rw [hB3e]; exact zup_cong hB2 rfl
          obtain ⟨hMb, ⟨hF16b, hF19b, hd20b⟩, ⟨txb, h107b, htxb⟩, ⟨hTbb, hlenb⟩, ⟨sab, h108b, hsab⟩, ⟨tab, h109b, htab⟩⟩ := id hR2
          obtain ⟨h100b, ⟨hF1b, hF2b, hF3b, hF4b, hF10b⟩, ⟨hP1, hP2⟩, hcfg, ⟨dgb, h101b, hdgb⟩, ⟨exb, h102b, hexb⟩, ⟨ysb, h103b, hysb⟩, ⟨unb, h104b, hunb⟩, ⟨clb, h105b, hclb, hpBb⟩⟩ := id hMb
          refine lv_aload_n hx hb dM_goOn_207 rfl (lv_at hl 1 rfl) ?_
          refine zw_get (v := .ref (ad 109)) hx hb hT uM hown Z h100b rfl 24 (by decide) (hT _ mf_M_42) (fun _ h9 => h9) rfl dM_goOn_208 ?_
          refine lv_aload_n hx hb dM_goOn_211 rfl (lv_at hl 1 rfl) ?_
          refine zw_get (v := .int (F 19)) hx hb hT uM hown Z h100b rfl 19 (by decide) (hT _ mf_M_106) (fun _ h9 => h9) rfl dM_goOn_212 ?_
          refine zw_top (nI d) (hF19b) ?_
          refine lv_iconst (v := (-1)) hx hb dM_goOn_215 (by decide) ?_
          refine zw_iast hx hb Z h109b (vin (by omega) (by decide)) dM_goOn_216 (fun H locs Z => ?_)
          rw [ncl (by omega)] at Z
          have hR3 := hR2.str (ztI_up (d := d) (x := none) htab)
          have Z : zw G ad (va_up w2 109 (some (zi G 21 (upd tab d (ztI none))))) s H locs := Z
          obtain ⟨hMc, ⟨hF16c, hF19c, hd20c⟩, ⟨txc, h107c, htxc⟩, ⟨hTbc, hlenc⟩, ⟨sac, h108c, hsac⟩, ⟨tac, h109c, htac⟩⟩ := id hR3
          obtain ⟨h100c, ⟨hF1c, hF2c, hF3c, hF4c, hF10c⟩, ⟨hP1, hP2⟩, hcfg, ⟨dgc, h101c, hdgc⟩, ⟨exc, h102c, hexc⟩, ⟨ysc, h103c, hysc⟩, ⟨unc, h104c, hunc⟩, ⟨clc, h105c, hclc, hpBc⟩⟩ := id hMc
          refine lv_aload_n hx hb dM_goOn_217 rfl (lv_at hl 1 rfl) ?_
          refine zw_get (v := .ref (ad 108)) hx hb hT uM hown Z h100c rfl 23 (by decide) (hT _ mf_M_39) (fun _ h9 => h9) rfl dM_goOn_218 ?_
          refine lv_aload_n hx hb dM_goOn_221 rfl (lv_at hl 1 rfl) ?_
          refine zw_get (v := .int (F 19)) hx hb hT uM hown Z h100c rfl 19 (by decide) (hT _ mf_M_106) (fun _ h9 => h9) rfl dM_goOn_222 ?_
          refine zw_top (nI d) (hF19c) ?_
          have cont236 : W p l e (zR (4)) s m ([.ref (ad 100), .int c9] : List Value).toArray below meth c H locs (0) (0) Q (F0 m 236 ls [.int (zsI (decide (zch T len q = 45))), .int (nI d), .ref (ad 108)]) := by
            refine zw_iast hx hb Z h108c (vin (by omega) (by decide)) dM_goOn_236 (fun H locs Z => ?_)
            rw [ncl (by omega)] at Z
            have hR4 := hR3.sgn (zsI_up (d := d) (b := decide (zch T len q = 45)) hsac)
            have Z : zw G ad (va_up (va_up w2 109 (some (zi G 21 (upd tab d (ztI none))))) 108 (some (zi G 21 (upd sac d (zsI (decide (zch T len q = 45))))))) s H locs := Z
            have g100 := hR4.1.1
            refine lv_aload_n hx hb dM_goOn_237 rfl (lv_at hl 1 rfl) ?_
            refine lv_iconst (v := 1) hx hb dM_goOn_238 (by decide) ?_
            refine zw_put (v := .int 1) hx hb hT uM hown tM tM_ok nM Z g100 rfl 18 (by decide) (hT _ mf_M_136) (fun _ h9 => h9) rfl rfl rfl (by simp) dM_goOn_239 (fun H locs Z => ?_)
            have Z : zw G ad (va_up (va_up (va_up w2 109 (some (zi G 21 (upd tab d (ztI none))))) 108 (some (zi G 21 (upd sac d (zsI (decide (zch T len q = 45))))))) 100 (some (oM ad (upd F 18 1)))) s H locs := Z
            have hR5 := hR4.obj (F' := (upd F 18 1)) (zfF.upd (by decide)) rfl
            have g100 := hR5.1.1
            have hfr5 : zfr w (va_up (va_up (va_up w2 109 (some (zi G 21 (upd tab d (ztI none))))) 108 (some (zi G 21 (upd sac d (zsI (decide (zch T len q = 45))))))) 100 (some (oM ad (upd F 18 1)))) := (((hz2.fr).trans (zfr.up (by decide))).trans (zfr.up (by decide))).trans (zfr.up (by decide))
            refine lv_iload_n hx hb dM_goOn_242 rfl (lv_at hl 2 rfl) ?_
            refine lv_iconst (v := (-1)) hx hb dM_goOn_243 (by decide) ?_
            refine lv_icmp_eq (tgt := 257) hx hb dM_goOn_244 (by decide) (fun hc8 => ?_) (fun hc8 => ?_)
            · rw [hc9] at hc8
              have hd0 : d = 0 := by
                rcases hcs with h9 | h9 | h9 | h9
                · rw [h9] at hc8; exact absurd hc8 (by decide)
                · rw [h9] at hc8; exact absurd hc8 (by decide)
                · rw [h9.1] at hc8; exact absurd hc8 (by decide)
                · exact h9.2
              refine lv_iload_n hx hb dM_goOn_257 rfl (lv_at hl 2 rfl) ?_
              refine lv_bipush (v := 41) hx hb dM_goOn_258 (by decide) ?_
              refine lv_icmp_eq (tgt := 264) hx hb dM_goOn_260 (by decide) (fun hc => absurd hc (show ¬ ((c9 : Int32) = 41) from by rw [hc9, hc8]; decide)) (fun _ => ?_)
              exact hret _ _ _ _ _ dM_goOn_263 (by
                unfold zED
                rw [hcb]
                simp only
                rw [if_neg hc, if_neg (by rw [hc8]; decide), if_neg (fun h9 => by rw [hc8] at h9; exact absurd h9.1 (by decide)), if_pos ⟨hc8, hd0⟩]
                subst hd0
                exact ⟨_, _, _, _, hR5, fun t ht => by rw [hB3 t (by omega), va_up_ne _ _ (by omega), va_up_ne _ _ (by omega)], ⟨(hB3 8 (by decide)).trans (va_up_self _ _ _), rfl, rfl⟩, zfF.upd (by decide), hfr5⟩) Z
            · rw [hc9] at hc8
              refine lv_aload_n hx hb dM_goOn_247 rfl (lv_at hl 1 rfl) ?_
              refine lv_dup hx hb dM_goOn_248 rfl ?_
              refine zw_get (v := .int ((upd F 18 1) 17)) hx hb hT uM hown Z g100 rfl 17 (by decide) (hT _ mf_M_109) (fun _ h9 => h9) rfl dM_goOn_249 ?_
              refine zw_top (nI q) (hat) ?_
              refine lv_iconst (v := 1) hx hb dM_goOn_252 (by decide) ?_
              refine lv_iadd hx hb dM_goOn_253 ?_
              refine zw_top (nI (q + 1)) (nI_1 q) ?_
              refine zw_put (v := .int (nI (q + 1))) hx hb hT uM hown tM tM_ok nM Z g100 rfl 17 (by decide) (hT _ mf_M_109) (fun _ h9 => h9) rfl rfl rfl (by simp) dM_goOn_254 (fun H locs Z => ?_)
              have Z : zw G ad (va_up (va_up (va_up (va_up w2 109 (some (zi G 21 (upd tab d (ztI none))))) 108 (some (zi G 21 (upd sac d (zsI (decide (zch T len q = 45))))))) 100 (some (oM ad (upd F 18 1)))) 100 (some (oM ad (upd (upd F 18 1) 17 (nI (q + 1)))))) s H locs := Z
              have hR6 := hR5.obj (F' := (upd (upd F 18 1) 17 (nI (q + 1)))) (zfF.upd (by decide)) rfl
              have g100 := hR6.1.1
              have hfr6 : zfr w (va_up (va_up (va_up (va_up w2 109 (some (zi G 21 (upd tab d (ztI none))))) 108 (some (zi G 21 (upd sac d (zsI (decide (zch T len q = 45))))))) 100 (some (oM ad (upd F 18 1)))) 100 (some (oM ad (upd (upd F 18 1) 17 (nI (q + 1)))))) := hfr5.trans (zfr.up (by decide))
              have hff6 : zfF F (upd (upd F 18 1) 17 (nI (q + 1))) := (zfF.upd (by decide)).trans (zfF.upd (by decide))
              refine lv_iload_n hx hb dM_goOn_257 rfl (lv_at hl 2 rfl) ?_
              refine lv_bipush (v := 41) hx hb dM_goOn_258 (by decide) ?_
              refine lv_icmp_eq (tgt := 264) hx hb dM_goOn_260 (by decide) (fun hc7 => ?_) (fun hc7 => ?_)
              · rw [hc9] at hc7
                have hd0 : 0 < d := by
                  rcases hcs with h9 | h9 | h9 | h9
                  · rw [h9] at hc7; exact absurd hc7 (by decide)
                  · rw [h9] at hc7; exact absurd hc7 (by decide)
                  · exact h9.2
                  · exact absurd h9.1 hc8
                refine lv_aload_n hx hb dM_goOn_264 rfl (lv_at hl 1 rfl) ?_
                refine zw_calli (va_runV (As := []) (rest := []) ⟨hx, hb, hml, hown, hts⟩ (c_M_sum l P n o _ _ T len _ _ d (d + 1) hR6) (kw_M_sum hts ml_M_132 (zR_fit (by omega) (by omega))) (Z.preV g100 rfl _) rfl rfl hl.1 rfl (lv_room (Nat.le_of_ble_eq_true rfl)) dM_goOn_265 ⟨Nat.le_of_ble_eq_true rfl, Nat.le_of_ble_eq_true rfl⟩) Z (fun r wq H locs hp Z => ?_)
                obtain ⟨rfl, hw1⟩ := hp
                rw [hw1] at Z
                clear hw1
                refine lv_istore_n (lv' := [(3, .int (nI (8 + 3 * d))), (2, .int r9), (0, .ref (ad 100)), (1, .int c9)]) hx hb dM_goOn_268 rfl hl (by decide) rfl (fun ls hl => ?_)
                refine lv_aload_n hx hb dM_goOn_269 rfl (lv_at hl 2 rfl) ?_
                refine lv_dup hx hb dM_goOn_270 rfl ?_
                refine zw_get (v := .int ((upd (upd F 18 1) 17 (nI (q + 1))) 19)) hx hb hT uM hown Z g100 rfl 19 (by decide) (hT _ mf_M_106) (fun _ h9 => h9) rfl dM_goOn_271 ?_
                refine zw_top (nI d) (hF19) ?_
                refine lv_iconst (v := 1) hx hb dM_goOn_274 (by decide) ?_
                refine lv_isub hx hb dM_goOn_275 ?_
                refine zw_top (nI (d - 1)) (pk_sub (b := 1) (by omega)) ?_
                refine zw_put (v := .int (nI (d - 1))) hx hb hT uM hown tM tM_ok nM Z g100 rfl 19 (by decide) (hT _ mf_M_106) (fun _ h9 => h9) rfl rfl rfl (by simp) dM_goOn_276 (fun H locs Z => ?_)
                have Z : zw G ad (va_up (va_up (va_up (va_up (va_up w2 109 (some (zi G 21 (upd tab d (ztI none))))) 108 (some (zi G 21 (upd sac d (zsI (decide (zch T len q = 45))))))) 100 (some (oM ad (upd F 18 1)))) 100 (some (oM ad (upd (upd F 18 1) 17 (nI (q + 1)))))) 100 (some (oM ad (upd (upd (upd F 18 1) 17 (nI (q + 1))) 19 (nI (d - 1)))))) s H locs := Z
                have hR7 := hR6.dep (F' := (upd (upd (upd F 18 1) 17 (nI (q + 1))) 19 (nI (d - 1)))) (d' := d - 1) (b' := d - 1 + 1) (zfF.upd (by decide)) rfl (by omega) (by omega)
                have g100 := hR7.1.1
                refine lv_aload_n hx hb dM_goOn_279 rfl (lv_at hl 2 rfl) ?_
                refine lv_iload_n hx hb dM_goOn_280 rfl (lv_at hl 0 rfl) ?_
                refine lv_aload_n hx hb dM_goOn_281 rfl (lv_at hl 2 rfl) ?_
                refine zw_calli (va_runV (As := []) (rest := [.int (nI (8 + 3 * d)), .ref (ad 100)]) ⟨hx, hb, hml, hown, hts⟩ (c_M_factor l P n o _ _ T len _ _ (d - 1) _ hR7) (kw_M_factor hts ml_M_145 (zR_fit (by omega) (by omega))) (Z.preV g100 rfl _) rfl rfl hl.1 rfl (lv_room (Nat.le_of_ble_eq_true rfl)) dM_goOn_282 ⟨Nat.le_of_ble_eq_true rfl, Nat.le_of_ble_eq_true rfl⟩) Z (fun r wq H locs hp Z => ?_)
                obtain ⟨rfl, hw1⟩ := hp
                rw [hw1] at Z
                clear hw1
                refine zw_callv (va_runV (As := [.int (nI (8 + 3 * d)), .int (nI (10 + 3 * (d - 1)))]) (rest := []) ⟨hx, hb, hml, hown, hts⟩ (c_M_copy l P n o _ _ hR7.1 (8 + 3 * d) (10 + 3 * (d - 1)) (by omega) (by omega) (by omega)) (kw_M_copy hts ml_M_158 (zR_fit (by omega) (by omega))) (Z.preV g100 rfl _) rfl rfl hl.1 rfl (lv_room (Nat.le_of_ble_eq_true rfl)) dM_goOn_285 ⟨Nat.le_of_ble_eq_true rfl, Nat.le_of_ble_eq_true rfl⟩) Z (fun w8 H locs hp Z => ?_)
                obtain ⟨hM8, hz8⟩ := hp
                have hR8 := hR7.cel hM8 hz8
                refine lv_aload_n hx hb dM_goOn_288 rfl (lv_at hl 2 rfl) ?_
                refine lv_iconst (v := 2) hx hb dM_goOn_289 (by decide) ?_
                refine zw_put (v := .int 2) hx hb hT uM hown tM tM_ok nM Z hM8.1 rfl 18 (by decide) (hT _ mf_M_136) (fun _ h9 => h9) rfl rfl rfl (by simp) dM_goOn_290 (fun H locs Z => ?_)
                have Z : zw G ad (va_up w8 100 (some (oM ad (upd (upd (upd (upd F 18 1) 17 (nI (q + 1))) 19 (nI (d - 1))) 18 2)))) s H locs := Z
                have hR9 := hR8.obj (F' := (upd (upd (upd (upd F 18 1) 17 (nI (q + 1))) 19 (nI (d - 1))) 18 2)) (zfF.upd (by decide)) rfl
                have g100 := hR9.1.1
                exact hret _ _ _ _ _ dM_goOn_293 (by
                  unfold zED
                  rw [hcb]
                  simp only
                  rw [if_neg hc, if_neg (by rw [hc7]; decide), if_pos ⟨hc7, hd0⟩]
                  have e9 : decide (zch T len q = 45) = false := decide_eq_false (by rw [hc7]; decide)
                  rw [e9] at hR9
                  exact ⟨_, _, hR9, zup_cong hB3 ((hB3 _ (by omega)).trans (va_up_self _ _ _)), ⟨rfl, rfl, rfl, rfl⟩, hff6.trans ((zfF.upd (by decide)).trans (zfF.upd (by decide))), ((hfr6.trans (zfr.up (by decide))).trans hz8.fr).trans (zfr.up (by decide))⟩) Z
              · rw [hc9] at hc7
                have hpm : zch T len q = 43 ∨ zch T len q = 45 := by
                  rcases hcs with h9 | h9 | h9 | h9
                  · exact .inl h9
                  · exact .inr h9
                  · exact absurd h9.1 hc7
                  · exact absurd h9.1 hc8
                exact hret _ _ _ _ _ dM_goOn_263 (by
                  unfold zED
                  rw [hcb]
                  simp only
                  rw [if_neg hc, if_pos hpm]
                  exact ⟨_, _, hR6, hB3, ⟨rfl, rfl, rfl, rfl⟩, hff6, hfr6⟩) Z
          refine lv_iload_n hx hb dM_goOn_225 rfl (lv_at hl 2 rfl) ?_
          refine lv_bipush (v := 45) hx hb dM_goOn_226 (by decide) ?_
          refine lv_icmp_ne (tgt := 235) hx hb dM_goOn_228 (by decide) (fun hc6 => ?_) (fun hc6 => ?_)
          · have e9 : decide (zch T len q = 45) = false := decide_eq_false (by rw [← hc9]; exact hc6)
            rw [e9] at cont236
            refine lv_iconst (v := 1) hx hb dM_goOn_235 (by decide) ?_
            exact cont236
          · have e9 : decide (zch T len q = 45) = true := decide_eq_true (by rw [← hc9]; exact hc6)
            rw [e9] at cont236
            refine lv_iconst (v := (-1)) hx hb dM_goOn_231 (by decide) ?_
            refine lv_goto (tgt := 236) hx hb dM_goOn_232 (by decide) ?_
            exact cont236
        refine lv_aload_n hx hb dM_goOn_178 rfl (lv_at hl 1 rfl) ?_
        refine zw_get (v := .ref (ad 108)) hx hb hT uM hown Z h100a rfl 23 (by decide) (hT _ mf_M_39) (fun _ h9 => h9) rfl dM_goOn_179 ?_
        refine lv_aload_n hx hb dM_goOn_182 rfl (lv_at hl 1 rfl) ?_
        refine zw_get (v := .int (F 19)) hx hb hT uM hown Z h100a rfl 19 (by decide) (hT _ mf_M_106) (fun _ h9 => h9) rfl dM_goOn_183 ?_
        refine zw_top (nI d) (hF19a) ?_
        cases hsg : sg d with
        | true =>
          rw [hsg] at cont200
          refine zw_iald hx hb Z h108a (vin (by omega) (by decide)) dM_goOn_186 ?_
          refine zw_top (-1) (by rw [ncl (by omega), hsaa d (by omega), hsg]; rfl) ?_
          refine lv_if_le (tgt := 194) hx hb dM_goOn_187 (by decide) (fun _ => ?_) (fun hc => absurd (show ((-1) : Int32) ≤ 0 from by decide) hc)
          refine lv_aload_n hx hb dM_goOn_194 rfl (lv_at hl 1 rfl) ?_
          refine zw_get (v := .int (F 1)) hx hb hT uM hown Z h100a rfl 1 (by decide) (hT _ mf_M_7) (fun _ h9 => h9) rfl dM_goOn_195 ?_
          refine zw_top (nI P) (hF1a) ?_
          refine lv_iconst (v := 1) hx hb dM_goOn_198 (by decide) ?_
          refine lv_isub hx hb dM_goOn_199 ?_
          refine zw_top (nI (zsn P true)) (pk_sub (b := 1) (by omega)) ?_
          exact cont200 _ _ Z
        | false =>
          rw [hsg] at cont200
          refine zw_iald hx hb Z h108a (vin (by omega) (by decide)) dM_goOn_186 ?_
          refine zw_top (1) (by rw [ncl (by omega), hsaa d (by omega), hsg]; rfl) ?_
          refine lv_if_le (tgt := 194) hx hb dM_goOn_187 (by decide) (fun hc => absurd hc (show ¬ (((1) : Int32) ≤ 0) from by decide)) (fun _ => ?_)
          refine lv_iconst (v := 1) hx hb dM_goOn_190 (by decide) ?_
          refine lv_goto (tgt := 200) hx hb dM_goOn_191 (by decide) ?_
          exact cont200 _ _ Z
      refine lv_iload_n hx hb dM_goOn_116 rfl (lv_at hl 1 rfl) ?_
      refine lv_iconst (v := (-1)) hx hb dM_goOn_117 (by decide) ?_
      refine lv_icmp_ne (tgt := 128) hx hb dM_goOn_118 (by decide) (fun hc2 => ?_) (fun hc2 => ?_)
      · rw [hc9] at hc2
        refine lv_iload_n hx hb dM_goOn_128 rfl (lv_at hl 1 rfl) ?_
        refine lv_bipush (v := 41) hx hb dM_goOn_129 (by decide) ?_
        refine lv_icmp_ne (tgt := 145) hx hb dM_goOn_131 (by decide) (fun hc3 => ?_) (fun hc3 => ?_)
        · rw [hc9] at hc3
          refine lv_iconst (v := 0) hx hb dM_goOn_145 (by decide) ?_
          refine lv_istore_n (lv' := [(2, .int 0), (0, .ref (ad 100)), (1, .int c9)]) hx hb dM_goOn_146 rfl hl (by decide) rfl (fun ls hl => ?_)
          refine lv_iload_n hx hb dM_goOn_147 rfl (lv_at hl 0 rfl) ?_
          refine lv_if_ne (tgt := 173) hx hb dM_goOn_148 (by decide) (fun hc => absurd (show (0 : Int32) = 0 from rfl) hc) (fun _ => ?_)
          refine lv_iload_n hx hb dM_goOn_151 rfl (lv_at hl 2 rfl) ?_
          refine lv_bipush (v := 43) hx hb dM_goOn_152 (by decide) ?_
          refine lv_icmp_eq (tgt := 173) hx hb dM_goOn_154 (by decide) (fun hc4 => ?_) (fun hc4 => ?_)
          · rw [hc9] at hc4
            exact cont173 _ ls (.inl hc4) hl
          · rw [hc9] at hc4
            refine lv_iload_n hx hb dM_goOn_157 rfl (lv_at hl 2 rfl) ?_
            refine lv_bipush (v := 45) hx hb dM_goOn_158 (by decide) ?_
            refine lv_icmp_eq (tgt := 173) hx hb dM_goOn_160 (by decide) (fun hc5 => ?_) (fun hc5 => ?_)
            · rw [hc9] at hc5
              exact cont173 _ ls (.inr (.inl hc5)) hl
            · rw [hc9] at hc5
              refine lv_aload_n hx hb dM_goOn_163 rfl (lv_at hl 1 rfl) ?_
              refine lv_iconst (v := 1) hx hb dM_goOn_164 (by decide) ?_
              refine lv_aload_n hx hb dM_goOn_165 rfl (lv_at hl 1 rfl) ?_
              refine zw_get (v := .int (F 17)) hx hb hT uM hown Z h100a rfl 17 (by decide) (hT _ mf_M_109) (fun _ h9 => h9) rfl dM_goOn_166 ?_
              refine zw_top (nI q) (hat) ?_
              refine zw_callv (va_runV (As := [.int 1, .int (nI q)]) (rest := []) ⟨hx, hb, hml, hown, hts⟩ (c_M_fail l F h100a 1 (nI q)) (kw_M_fail hts ml_M_128 (zR_fit (by omega) (by omega))) (Z.preV h100a rfl _) rfl rfl hl.1 rfl (lv_room (Nat.le_of_ble_eq_true rfl)) dM_goOn_169 ⟨Nat.le_of_ble_eq_true rfl, Nat.le_of_ble_eq_true rfl⟩) Z (fun wq H locs hp Z => ?_)
              subst hp
              exact hret _ _ _ _ _ dM_goOn_172 (by
                unfold zED
                rw [hcb]
                simp only
                rw [if_neg hc, if_neg (fun h9 => h9.elim hc4 hc5), if_neg (fun h9 => hc3 h9.1), if_neg (fun h9 => hc2 h9.1)]
                exact ⟨_, _, (hR1).1.obj (fun k hk => va_up_ne _ _ (by omega)) (va_up_self _ _ _) (fun j hj => by rw [pk_un (by omega), pk_un (by omega)]), fun t ht => by rw [hB2 t (by omega), va_up_ne _ _ (by omega)], ⟨rfl, rfl, by decide, by decide⟩, (hR1).ar.up, (zfF.upd (by decide)).trans (zfF.upd (by decide)), hz1.fr.trans (zfr.up (by decide))⟩) Z
        · rw [hc9] at hc3
          refine lv_aload_n hx hb dM_goOn_134 rfl (lv_at hl 0 rfl) ?_
          refine zw_get (v := .int (F 19)) hx hb hT uM hown Z h100a rfl 19 (by decide) (hT _ mf_M_106) (fun _ h9 => h9) rfl dM_goOn_135 ?_
          refine zw_top (nI d) (hF19a) ?_
          refine lv_if_le (tgt := 145) hx hb dM_goOn_138 (by decide) (fun hc4 => ?_) (fun hc4 => ?_)
          · have hd0 : d = 0 := Nat.eq_zero_of_le_zero (Nat.le_of_not_lt (fun h9 => absurd hc4 (nI_ge (a := 0) h9 (by omega))))
            refine lv_iconst (v := 0) hx hb dM_goOn_145 (by decide) ?_
            refine lv_istore_n (lv' := [(2, .int 0), (0, .ref (ad 100)), (1, .int c9)]) hx hb dM_goOn_146 rfl hl (by decide) rfl (fun ls hl => ?_)
            refine lv_iload_n hx hb dM_goOn_147 rfl (lv_at hl 0 rfl) ?_
            refine lv_if_ne (tgt := 173) hx hb dM_goOn_148 (by decide) (fun hc => absurd (show (0 : Int32) = 0 from rfl) hc) (fun _ => ?_)
            refine lv_iload_n hx hb dM_goOn_151 rfl (lv_at hl 2 rfl) ?_
            refine lv_bipush (v := 43) hx hb dM_goOn_152 (by decide) ?_
            refine lv_icmp_eq (tgt := 173) hx hb dM_goOn_154 (by decide) (fun hc => absurd hc (show ¬ ((c9 : Int32) = 43) from by rw [hc9, hc3]; decide)) (fun _ => ?_)
            refine lv_iload_n hx hb dM_goOn_157 rfl (lv_at hl 2 rfl) ?_
            refine lv_bipush (v := 45) hx hb dM_goOn_158 (by decide) ?_
            refine lv_icmp_eq (tgt := 173) hx hb dM_goOn_160 (by decide) (fun hc => absurd hc (show ¬ ((c9 : Int32) = 45) from by rw [hc9, hc3]; decide)) (fun _ => ?_)
            refine lv_aload_n hx hb dM_goOn_163 rfl (lv_at hl 1 rfl) ?_
            refine lv_iconst (v := 1) hx hb dM_goOn_164 (by decide) ?_
            refine lv_aload_n hx hb dM_goOn_165 rfl (lv_at hl 1 rfl) ?_
            refine zw_get (v := .int (F 17)) hx hb hT uM hown Z h100a rfl 17 (by decide) (hT _ mf_M_109) (fun _ h9 => h9) rfl dM_goOn_166 ?_
            refine zw_top (nI q) (hat) ?_
            refine zw_callv (va_runV (As := [.int 1, .int (nI q)]) (rest := []) ⟨hx, hb, hml, hown, hts⟩ (c_M_fail l F h100a 1 (nI q)) (kw_M_fail hts ml_M_128 (zR_fit (by omega) (by omega))) (Z.preV h100a rfl _) rfl rfl hl.1 rfl (lv_room (Nat.le_of_ble_eq_true rfl)) dM_goOn_169 ⟨Nat.le_of_ble_eq_true rfl, Nat.le_of_ble_eq_true rfl⟩) Z (fun wq H locs hp Z => ?_)
            subst hp
            exact hret _ _ _ _ _ dM_goOn_172 (by
              unfold zED
              rw [hcb]
              simp only
              rw [if_neg hc, if_neg (by rw [hc3]; decide), if_neg (by omega), if_neg (fun h9 => hc2 h9.1)]
              exact ⟨_, _, (hR1).1.obj (fun k hk => va_up_ne _ _ (by omega)) (va_up_self _ _ _) (fun j hj => by rw [pk_un (by omega), pk_un (by omega)]), fun t ht => by rw [hB2 t (by omega), va_up_ne _ _ (by omega)], ⟨rfl, rfl, by decide, by decide⟩, (hR1).ar.up, (zfF.upd (by decide)).trans (zfF.upd (by decide)), hz1.fr.trans (zfr.up (by decide))⟩) Z
          · have hd0 : 0 < d := Nat.lt_of_not_le (fun h9 => hc4 (nI_le (b := 0) h9 (by decide)))
            refine lv_iconst (v := 1) hx hb dM_goOn_141 (by decide) ?_
            refine lv_goto (tgt := 146) hx hb dM_goOn_142 (by decide) ?_
            refine lv_istore_n (lv' := [(2, .int 1), (0, .ref (ad 100)), (1, .int c9)]) hx hb dM_goOn_146 rfl hl (by decide) rfl (fun ls hl => ?_)
            refine lv_iload_n hx hb dM_goOn_147 rfl (lv_at hl 0 rfl) ?_
            refine lv_if_ne (tgt := 173) hx hb dM_goOn_148 (by decide) (fun _ => ?_) (fun hc => absurd hc (show ¬ (1 : Int32) = 0 from by decide))
            exact cont173 _ ls (.inr (.inr (.inl ⟨hc3, hd0⟩))) hl
      · rw [hc9] at hc2
        refine lv_aload_n hx hb dM_goOn_121 rfl (lv_at hl 0 rfl) ?_
        refine zw_get (v := .int (F 19)) hx hb hT uM hown Z h100a rfl 19 (by decide) (hT _ mf_M_106) (fun _ h9 => h9) rfl dM_goOn_122 ?_
        refine zw_top (nI d) (hF19a) ?_
        refine lv_if_eq (tgt := 141) hx hb dM_goOn_125 (by decide) (fun hc3 => ?_) (fun hc3 => ?_)
        · have hd0 : d = 0 := (nI_eq (by omega) (by decide)).mp (show nI d = nI 0 from hc3)
          refine lv_iconst (v := 1) hx hb dM_goOn_141 (by decide) ?_
          refine lv_goto (tgt := 146) hx hb dM_goOn_142 (by decide) ?_
          refine lv_istore_n (lv' := [(2, .int 1), (0, .ref (ad 100)), (1, .int c9)]) hx hb dM_goOn_146 rfl hl (by decide) rfl (fun ls hl => ?_)
          refine lv_iload_n hx hb dM_goOn_147 rfl (lv_at hl 0 rfl) ?_
          refine lv_if_ne (tgt := 173) hx hb dM_goOn_148 (by decide) (fun _ => ?_) (fun hc => absurd hc (show ¬ (1 : Int32) = 0 from by decide))
          exact cont173 _ ls (.inr (.inr (.inr ⟨hc2, hd0⟩))) hl
        · have hd0 : ¬ d = 0 := fun h9 => hc3 (by rw [h9]; rfl)
          refine lv_iload_n hx hb dM_goOn_128 rfl (lv_at hl 1 rfl) ?_
          refine lv_bipush (v := 41) hx hb dM_goOn_129 (by decide) ?_
          refine lv_icmp_ne (tgt := 145) hx hb dM_goOn_131 (by decide) (fun _ => ?_) (fun hc => absurd hc (show ¬ (c9 : Int32) = 41 from by rw [hc9, hc2]; decide))
          refine lv_iconst (v := 0) hx hb dM_goOn_145 (by decide) ?_
          refine lv_istore_n (lv' := [(2, .int 0), (0, .ref (ad 100)), (1, .int c9)]) hx hb dM_goOn_146 rfl hl (by decide) rfl (fun ls hl => ?_)
          refine lv_iload_n hx hb dM_goOn_147 rfl (lv_at hl 0 rfl) ?_
          refine lv_if_ne (tgt := 173) hx hb dM_goOn_148 (by decide) (fun hc => absurd (show (0 : Int32) = 0 from rfl) hc) (fun _ => ?_)
          refine lv_iload_n hx hb dM_goOn_151 rfl (lv_at hl 2 rfl) ?_
          refine lv_bipush (v := 43) hx hb dM_goOn_152 (by decide) ?_
          refine lv_icmp_eq (tgt := 173) hx hb dM_goOn_154 (by decide) (fun hc => absurd hc (show ¬ ((c9 : Int32) = 43) from by rw [hc9, hc2]; decide)) (fun _ => ?_)
          refine lv_iload_n hx hb dM_goOn_157 rfl (lv_at hl 2 rfl) ?_
          refine lv_bipush (v := 45) hx hb dM_goOn_158 (by decide) ?_
          refine lv_icmp_eq (tgt := 173) hx hb dM_goOn_160 (by decide) (fun hc => absurd hc (show ¬ ((c9 : Int32) = 45) from by rw [hc9, hc2]; decide)) (fun _ => ?_)
          refine lv_aload_n hx hb dM_goOn_163 rfl (lv_at hl 1 rfl) ?_
          refine lv_iconst (v := 1) hx hb dM_goOn_164 (by decide) ?_
          refine lv_aload_n hx hb dM_goOn_165 rfl (lv_at hl 1 rfl) ?_
          refine zw_get (v := .int (F 17)) hx hb hT uM hown Z h100a rfl 17 (by decide) (hT _ mf_M_109) (fun _ h9 => h9) rfl dM_goOn_166 ?_
          refine zw_top (nI q) (hat) ?_
          refine zw_callv (va_runV (As := [.int 1, .int (nI q)]) (rest := []) ⟨hx, hb, hml, hown, hts⟩ (c_M_fail l F h100a 1 (nI q)) (kw_M_fail hts ml_M_128 (zR_fit (by omega) (by omega))) (Z.preV h100a rfl _) rfl rfl hl.1 rfl (lv_room (Nat.le_of_ble_eq_true rfl)) dM_goOn_169 ⟨Nat.le_of_ble_eq_true rfl, Nat.le_of_ble_eq_true rfl⟩) Z (fun wq H locs hp Z => ?_)
          subst hp
          exact hret _ _ _ _ _ dM_goOn_172 (by
            unfold zED
            rw [hcb]
            simp only
            rw [if_neg hc, if_neg (by rw [hc2]; decide), if_neg (fun h9 => by rw [hc2] at h9; exact absurd h9.1 (by decide)), if_neg (fun h9 => hd0 h9.2)]
            exact ⟨_, _, (hR1).1.obj (fun k hk => va_up_ne _ _ (by omega)) (va_up_self _ _ _) (fun j hj => by rw [pk_un (by omega), pk_un (by omega)]), fun t ht => by rw [hB2 t (by omega), va_up_ne _ _ (by omega)], ⟨rfl, rfl, by decide, by decide⟩, (hR1).ar.up, (zfF.upd (by decide)).trans (zfF.upd (by decide)), hz1.fr.trans (zfr.up (by decide))⟩) Z
    · rw [hc9] at hc
      have hql := zch_in hc (by decide)
      refine lv_aload_n hx hb dM_goOn_87 rfl (lv_at hl 0 rfl) ?_
      refine zw_get (v := .ref (ad 109)) hx hb hT uM hown Z h100a rfl 24 (by decide) (hT _ mf_M_42) (fun _ h9 => h9) rfl dM_goOn_88 ?_
      refine lv_aload_n hx hb dM_goOn_91 rfl (lv_at hl 0 rfl) ?_
      refine zw_get (v := .int (F 19)) hx hb hT uM hown Z h100a rfl 19 (by decide) (hT _ mf_M_106) (fun _ h9 => h9) rfl dM_goOn_92 ?_
      refine zw_top (nI d) (hF19a) ?_
      refine lv_aload_n hx hb dM_goOn_95 rfl (lv_at hl 0 rfl) ?_
      refine zw_get (v := .int (F 17)) hx hb hT uM hown Z h100a rfl 17 (by decide) (hT _ mf_M_109) (fun _ h9 => h9) rfl dM_goOn_96 ?_
      refine zw_top (nI q) (hat) ?_
      refine zw_iast hx hb Z h109a (vin (by omega) (by decide)) dM_goOn_99 (fun H locs Z => ?_)
      rw [ncl (by omega)] at Z
      have hR3 := hR1.str (ztI_up (d := d) (x := some q) htaa)
      have Z : zw G ad (va_up w1 109 (some (zi G 21 (upd taa d (ztI (some q)))))) s H locs := Z
      have g100 := hR3.1.1
      refine lv_aload_n hx hb dM_goOn_100 rfl (lv_at hl 0 rfl) ?_
      refine lv_dup hx hb dM_goOn_101 rfl ?_
      refine zw_get (v := .int (F 17)) hx hb hT uM hown Z g100 rfl 17 (by decide) (hT _ mf_M_109) (fun _ h9 => h9) rfl dM_goOn_102 ?_
      refine zw_top (nI q) (hat) ?_
      refine lv_iconst (v := 1) hx hb dM_goOn_105 (by decide) ?_
      refine lv_iadd hx hb dM_goOn_106 ?_
      refine zw_top (nI (q + 1)) (nI_1 q) ?_
      refine zw_put (v := .int (nI (q + 1))) hx hb hT uM hown tM tM_ok nM Z g100 rfl 17 (by decide) (hT _ mf_M_109) (fun _ h9 => h9) rfl rfl rfl (by simp) dM_goOn_107 (fun H locs Z => ?_)
      have Z : zw G ad (va_up (va_up w1 109 (some (zi G 21 (upd taa d (ztI (some q)))))) 100 (some (oM ad (upd F 17 (nI (q + 1)))))) s H locs := Z
      have hR4 := hR3.obj (F' := (upd F 17 (nI (q + 1)))) (zfF.upd (by decide)) rfl
      have g100 := hR4.1.1
      refine lv_aload_n hx hb dM_goOn_110 rfl (lv_at hl 0 rfl) ?_
      refine lv_iconst (v := 1) hx hb dM_goOn_111 (by decide) ?_
      refine zw_put (v := .int 1) hx hb hT uM hown tM tM_ok nM Z g100 rfl 18 (by decide) (hT _ mf_M_136) (fun _ h9 => h9) rfl rfl rfl (by simp) dM_goOn_112 (fun H locs Z => ?_)
      have Z : zw G ad (va_up (va_up (va_up w1 109 (some (zi G 21 (upd taa d (ztI (some q)))))) 100 (some (oM ad (upd F 17 (nI (q + 1)))))) 100 (some (oM ad (upd (upd F 17 (nI (q + 1))) 18 1)))) s H locs := Z
      have hR5 := hR4.obj (F' := (upd (upd F 17 (nI (q + 1))) 18 1)) (zfF.upd (by decide)) rfl
      have g100 := hR5.1.1
      exact hret _ _ _ _ _ dM_goOn_115 (by
        unfold zED
        rw [hcb]
        simp only
        rw [if_pos hc]
        exact ⟨_, _, hR5, hB2, ⟨rfl, rfl, rfl, rfl⟩, (zfF.upd (by decide)).trans (zfF.upd (by decide)), ((hz1.fr.trans (zfr.up (by decide))).trans (zfr.up (by decide))).trans (zfr.up (by decide))⟩) Z
  refine lv_aload_n hx hb dM_goOn_0 rfl (lv_at hl 0 rfl) ?_
  refine zw_get (v := .ref (ad 109)) hx hb hT uM hown Z h100 rfl 24 (by decide) (hT _ mf_M_42) (fun _ h9 => h9) rfl dM_goOn_1 ?_
  refine lv_aload_n hx hb dM_goOn_4 rfl (lv_at hl 0 rfl) ?_
  refine zw_get (v := .int (F 19)) hx hb hT uM hown Z h100 rfl 19 (by decide) (hT _ mf_M_106) (fun _ h9 => h9) rfl dM_goOn_5 ?_
  refine zw_top (nI d) (hF19) ?_
  cases hs : st d with
  | none =>
    refine zw_iald hx hb Z h109 (vin (by omega) (by decide)) dM_goOn_8 ?_
    refine zw_top (-1) (by rw [ncl (by omega), hta d (by omega), hs]; rfl) ?_
    refine lv_if_lt (tgt := 69) hx hb dM_goOn_9 (by decide) (fun _ => ?_) (fun hc => absurd (show ((-1) : Int32) < 0 from by decide) hc)
    refine lv_aload_n hx hb dM_goOn_69 rfl (lv_at hl 0 rfl) ?_
    refine lv_aload_n hx hb dM_goOn_70 rfl (lv_at hl 0 rfl) ?_
    refine zw_calli (va_runV (As := []) (rest := [.ref (ad 100)]) ⟨hx, hb, hml, hown, hts⟩ (c_M_factor l P n o F B1 T len sg st d (d + 1) hR) (kw_M_factor hts ml_M_145 (zR_fit (by omega) (by omega))) (Z.preV h100 rfl _) rfl rfl hl.1 rfl (lv_room (Nat.le_of_ble_eq_true rfl)) dM_goOn_71 ⟨Nat.le_of_ble_eq_true rfl, Nat.le_of_ble_eq_true rfl⟩) Z (fun r wq H locs hp Z => ?_)
    obtain ⟨rfl, hw1⟩ := hp
    rw [hw1] at Z
    clear hw1
    refine lv_aload_n hx hb dM_goOn_74 rfl (lv_at hl 0 rfl) ?_
    refine zw_calli (va_runV (As := []) (rest := [.int (nI (10 + 3 * d)), .ref (ad 100)]) ⟨hx, hb, hml, hown, hts⟩ (c_M_product l P n o F B1 T len sg st d (d + 1) hR) (kw_M_product hts ml_M_161 (zR_fit (by omega) (by omega))) (Z.preV h100 rfl _) rfl rfl hl.1 rfl (lv_room (Nat.le_of_ble_eq_true rfl)) dM_goOn_75 ⟨Nat.le_of_ble_eq_true rfl, Nat.le_of_ble_eq_true rfl⟩) Z (fun r wq H locs hp Z => ?_)
    obtain ⟨rfl, hw1⟩ := hp
    rw [hw1] at Z
    clear hw1
    refine zw_callv (va_runV (As := [.int (nI (10 + 3 * d)), .int (nI (9 + 3 * d))]) (rest := []) ⟨hx, hb, hml, hown, hts⟩ (c_M_copy l P n o F B1 hM (10 + 3 * d) (9 + 3 * d) (by omega) (by omega) (by omega)) (kw_M_copy hts ml_M_158 (zR_fit (by omega) (by omega))) (Z.preV h100 rfl _) rfl rfl hl.1 rfl (lv_room (Nat.le_of_ble_eq_true rfl)) dM_goOn_78 ⟨Nat.le_of_ble_eq_true rfl, Nat.le_of_ble_eq_true rfl⟩) Z (fun w1 H locs hp Z => ?_)
    obtain ⟨hM1, hz1⟩ := hp
    exact cont81 (B (10 + 3 * d)) _ _ _ _ (by rw [hs]; rfl) (hR.cel hM1 hz1) (zup_cong hB hB10) hz1 Z
  | some q0 =>
    have hq0 := hst q0 hs
    refine zw_iald hx hb Z h109 (vin (by omega) (by decide)) dM_goOn_8 ?_
    refine zw_top (nI q0) (by rw [ncl (by omega), hta d (by omega), hs]; rfl) ?_
    refine lv_if_lt (tgt := 69) hx hb dM_goOn_9 (by decide) (fun hc => absurd hc (show ¬ (((nI q0) : Int32) < 0) from nI_pos (by omega))) (fun _ => ?_)
    refine lv_aload_n hx hb dM_goOn_12 rfl (lv_at hl 0 rfl) ?_
    refine lv_aload_n hx hb dM_goOn_13 rfl (lv_at hl 0 rfl) ?_
    refine zw_calli (va_runV (As := []) (rest := [.ref (ad 100)]) ⟨hx, hb, hml, hown, hts⟩ (c_M_product l P n o F B1 T len sg st d (d + 1) hR) (kw_M_product hts ml_M_161 (zR_fit (by omega) (by omega))) (Z.preV h100 rfl _) rfl rfl hl.1 rfl (lv_room (Nat.le_of_ble_eq_true rfl)) dM_goOn_14 ⟨Nat.le_of_ble_eq_true rfl, Nat.le_of_ble_eq_true rfl⟩) Z (fun r wq H locs hp Z => ?_)
    obtain ⟨rfl, hw1⟩ := hp
    rw [hw1] at Z
    clear hw1
    refine lv_aload_n hx hb dM_goOn_17 rfl (lv_at hl 0 rfl) ?_
    refine zw_calli (va_runV (As := []) (rest := [.int (nI (9 + 3 * d)), .ref (ad 100)]) ⟨hx, hb, hml, hown, hts⟩ (c_M_factor l P n o F B1 T len sg st d (d + 1) hR) (kw_M_factor hts ml_M_145 (zR_fit (by omega) (by omega))) (Z.preV h100 rfl _) rfl rfl hl.1 rfl (lv_room (Nat.le_of_ble_eq_true rfl)) dM_goOn_18 ⟨Nat.le_of_ble_eq_true rfl, Nat.le_of_ble_eq_true rfl⟩) Z (fun r wq H locs hp Z => ?_)
    obtain ⟨rfl, hw1⟩ := hp
    rw [hw1] at Z
    clear hw1
    refine zw_calli (va_runV (As := [.int (nI (9 + 3 * d)), .int (nI (10 + 3 * d))]) (rest := []) ⟨hx, hb, hml, hown, hts⟩ (c_M_isTooHigh l P n o F B1 hM (9 + 3 * d) (10 + 3 * d) (by omega) (by omega)) (kw_M_isTooHigh hts ml_M_164 (zR_fit (by omega) (by omega))) (Z.preV h100 rfl _) rfl rfl hl.1 rfl (lv_room (Nat.le_of_ble_eq_true rfl)) dM_goOn_21 ⟨Nat.le_of_ble_eq_true rfl, Nat.le_of_ble_eq_true rfl⟩) Z (fun r wq H locs hp Z => ?_)
    obtain ⟨rfl, hw1⟩ := hp
    rw [hw1] at Z
    clear hw1
    refine lv_if_eq (tgt := 42) hx hb dM_goOn_24 (by decide) (fun hc => ?_) (fun hc => ?_)
    · have hh := zb_nt (zb_f hc)
      refine lv_aload_n hx hb dM_goOn_42 rfl (lv_at hl 0 rfl) ?_
      refine lv_aload_n hx hb dM_goOn_43 rfl (lv_at hl 0 rfl) ?_
      refine zw_calli (va_runV (As := []) (rest := [.ref (ad 100)]) ⟨hx, hb, hml, hown, hts⟩ (c_M_product l P n o F B1 T len sg st d (d + 1) hR) (kw_M_product hts ml_M_161 (zR_fit (by omega) (by omega))) (Z.preV h100 rfl _) rfl rfl hl.1 rfl (lv_room (Nat.le_of_ble_eq_true rfl)) dM_goOn_44 ⟨Nat.le_of_ble_eq_true rfl, Nat.le_of_ble_eq_true rfl⟩) Z (fun r wq H locs hp Z => ?_)
      obtain ⟨rfl, hw1⟩ := hp
      rw [hw1] at Z
      clear hw1
      refine lv_aload_n hx hb dM_goOn_47 rfl (lv_at hl 0 rfl) ?_
      refine zw_calli (va_runV (As := []) (rest := [.int (nI (9 + 3 * d)), .ref (ad 100)]) ⟨hx, hb, hml, hown, hts⟩ (c_M_factor l P n o F B1 T len sg st d (d + 1) hR) (kw_M_factor hts ml_M_145 (zR_fit (by omega) (by omega))) (Z.preV h100 rfl _) rfl rfl hl.1 rfl (lv_room (Nat.le_of_ble_eq_true rfl)) dM_goOn_48 ⟨Nat.le_of_ble_eq_true rfl, Nat.le_of_ble_eq_true rfl⟩) Z (fun r wq H locs hp Z => ?_)
      obtain ⟨rfl, hw1⟩ := hp
      rw [hw1] at Z
      clear hw1
      refine lv_bipush (v := 71) hx hb dM_goOn_51 (by decide) ?_
      refine zw_callv (va_runV (As := [.int (nI (9 + 3 * d)), .int (nI (10 + 3 * d)), .int 71]) (rest := []) ⟨hx, hb, hml, hown, hts⟩ (c_M_times l P n o F B1 hM (9 + 3 * d) (10 + 3 * d) 71 (by omega) (by omega) (by decide) (by omega) (by omega) (zhigh2_deg hcfg hP2 (hpB _) (hpB _) hh)) (kw_M_times hts ml_M_155 (zR_fit (by omega) (by omega))) (Z.preV h100 rfl _) rfl rfl hl.1 rfl (lv_room (Nat.le_of_ble_eq_true rfl)) dM_goOn_53 ⟨Nat.le_of_ble_eq_true rfl, Nat.le_of_ble_eq_true rfl⟩) Z (fun w1 H locs hp Z => ?_)
      obtain ⟨hM1, hz1⟩ := hp
      have hR1 := hR.cel hM1 hz1
      refine lv_aload_n hx hb dM_goOn_56 rfl (lv_at hl 0 rfl) ?_
      refine lv_bipush (v := 71) hx hb dM_goOn_57 (by decide) ?_
      refine lv_aload_n hx hb dM_goOn_59 rfl (lv_at hl 0 rfl) ?_
      refine zw_calli (va_runV (As := []) (rest := [.int 71, .ref (ad 100)]) ⟨hx, hb, hml, hown, hts⟩ (c_M_product l P n o F _ T len sg st d (d + 1) hR1) (kw_M_product hts ml_M_161 (zR_fit (by omega) (by omega))) (Z.preV hM1.1 rfl _) rfl rfl hl.1 rfl (lv_room (Nat.le_of_ble_eq_true rfl)) dM_goOn_60 ⟨Nat.le_of_ble_eq_true rfl, Nat.le_of_ble_eq_true rfl⟩) Z (fun r wq H locs hp Z => ?_)
      obtain ⟨rfl, hw1⟩ := hp
      rw [hw1] at Z
      clear hw1
      refine zw_callv (va_runV (As := [.int 71, .int (nI (9 + 3 * d))]) (rest := []) ⟨hx, hb, hml, hown, hts⟩ (c_M_copy l P n o F _ hM1 71 (9 + 3 * d) (by decide) (by omega) (by omega)) (kw_M_copy hts ml_M_158 (zR_fit (by omega) (by omega))) (Z.preV hM1.1 rfl _) rfl rfl hl.1 rfl (lv_room (Nat.le_of_ble_eq_true rfl)) dM_goOn_63 ⟨Nat.le_of_ble_eq_true rfl, Nat.le_of_ble_eq_true rfl⟩) Z (fun w2 H locs hp Z => ?_)
      obtain ⟨hM2, hz2⟩ := hp
      have hz2 := hz1.trans hz2
      refine lv_goto (tgt := 81) hx hb dM_goOn_66 (by decide) ?_
      exact cont81 (zmul n o P (B (9 + 3 * d)) (B (10 + 3 * d))) _ _ _ _ (by rw [hs]; show (if _ then _ else _) = _; rw [← hB9, ← hB10, if_neg hh]) (hR.cel hM2 hz2) (zup_cong (fun t ht => by rw [va_up_ne _ _ (by omega)]; exact hB t ht) (by rw [va_up_self, hB9, hB10])) hz2 Z
    · have hh := zb_t hc
      refine lv_aload_n hx hb dM_goOn_27 rfl (lv_at hl 0 rfl) ?_
      refine lv_iconst (v := 3) hx hb dM_goOn_28 (by decide) ?_
      refine lv_aload_n hx hb dM_goOn_29 rfl (lv_at hl 0 rfl) ?_
      refine zw_get (v := .ref (ad 109)) hx hb hT uM hown Z h100 rfl 24 (by decide) (hT _ mf_M_42) (fun _ h9 => h9) rfl dM_goOn_30 ?_
      refine lv_aload_n hx hb dM_goOn_33 rfl (lv_at hl 0 rfl) ?_
      refine zw_get (v := .int (F 19)) hx hb hT uM hown Z h100 rfl 19 (by decide) (hT _ mf_M_106) (fun _ h9 => h9) rfl dM_goOn_34 ?_
      refine zw_top (nI d) (hF19) ?_
      refine zw_iald hx hb Z h109 (vin (by omega) (by decide)) dM_goOn_37 ?_
      refine zw_top (nI q0) (by rw [ncl (by omega), hta d (by omega), hs]; rfl) ?_
      refine zw_callv (va_runV (As := [.int 3, .int (nI q0)]) (rest := []) ⟨hx, hb, hml, hown, hts⟩ (c_M_fail l F h100 3 (nI q0)) (kw_M_fail hts ml_M_128 (zR_fit (by omega) (by omega))) (Z.preV h100 rfl _) rfl rfl hl.1 rfl (lv_room (Nat.le_of_ble_eq_true rfl)) dM_goOn_38 ⟨Nat.le_of_ble_eq_true rfl, Nat.le_of_ble_eq_true rfl⟩) Z (fun wq H locs hp Z => ?_)
      subst hp
      exact hret _ _ _ _ _ dM_goOn_41 (by
        unfold zED
        rw [show zcomb n o P (st d) (B (9 + 3 * d)) (B (10 + 3 * d)) = .inl (3, q0) from by rw [hs]; show (if _ then _ else _) = _; rw [← hB9, ← hB10, if_pos hh]]
        exact ⟨_, _, (hR).1.obj (fun k hk => va_up_ne _ _ (by omega)) (va_up_self _ _ _) (fun j hj => by rw [pk_un (by omega), pk_un (by omega)]), fun t ht => hB t (by omega), ⟨rfl, rfl, by decide, by decide⟩, (hR).ar.up, (zfF.upd (by decide)).trans (zfF.upd (by decide)), zfr.up (by decide)⟩) Z
