set_option maxHeartbeats 4000000 in
set_option maxRecDepth 100000 in
theorem c_R_listMonomials (l : Launch) {G : zG} {ad : Nat → Nat} (P n o deg : Nat) (hcfg : zCfg n o) : ∀ (K : Nat) (w : Nat → Option va_E) (F : Nat → Int32) (L : List (List Nat)) (D : List Nat) (c9 : Nat → Int32) (ch : List Nat) (rs : Nat) (tail : List (List Nat)), K + 1 ≤ n → zBld G ad w P n o F L D c9 → ch.length = 4 → (∀ v, v < 4 → zfix o n (K + 1) v → c9 v = nI (ch.getD v 0)) → rs ≤ 30 → zTab n o = L ++ zGen o n (K + 1) rs ch ++ tail → Met l yR_listMonomials wR_listMonomials (zR (K + 2)) (va_Pc [.ref (ad 1), .int (nI (n - (K + 1))), .int (nI rs), .int (nI deg)] (zw_U G ad w)) (va_Qv (S := Nat → Option va_E) (fun w' => (∃ (F' c' : Nat → Int32), zBld G ad w' P n o F' (L ++ zGen o n (K + 1) rs ch) (D ++ List.replicate (zGen o n (K + 1) rs ch).length deg) c' ∧ ∀ v, v < 4 → zfix o n (K + 1) v → c' v = c9 v) ∧ zfrm w w') (fun u t => zw_U G ((fun _ => ad) u) ((fun w' => w') u) t) (zA G)) 0 0 (zA G) := by
  intro K
  induction K using Nat.strongRecOn with
  | ind K ih =>
    intro w F L D c9 ch rs tail hKn hB hch hc9 hrs htab
    refine zw_methv (S := Nat → Option va_E) (fa := fun _ => ad) (fw := fun w' => w') (by decide) rfl (Nat.le_of_ble_eq_true rfl) ?_
    intro p e s m below meth c Q ls C hname Z hl hret
    obtain ⟨hx, hb, hml, hown, hts, hlk⟩ := C
    have hT : ∀ w ∈ zT, w.before ([.ref (ad 1), .int (nI (n - (K + 1))), .int (nI rs), .int (nI deg)] : List Value).toArray s = true := fun w h => hts w (List.mem_cons_of_mem _ h)
    have hown : s.vm.findClass "PolynomialDesk$Ring" = some m.cls := hown
    have hl : lv_has ls 7 [(0, .ref (ad 1)), (1, .int (nI (n - (K + 1)))), (2, .int (nI rs)), (3, .int (nI deg))] := hl
    obtain ⟨h1, ⟨hF0, hF1, hF2, hF3, hF4⟩, hDL, h4, ⟨ex, hex⟩, ⟨dg, h5, hdg⟩, ⟨ky, h6, hky⟩, ⟨wt, h7, hwt⟩, ⟨ix, h8, hix⟩, h9⟩ := id hB
    have hn4 := hcfg.2.1
    have hn1 := hcfg.1
    have ho1 := hcfg.2.2
    obtain ⟨vv, hvv⟩ : ∃ vv, vv = zV o n (n - (K + 1)) := ⟨_, rfl⟩
    have hv4 : vv < n := by rw [hvv]; unfold zV; split <;> omega
    have hvne : ∀ v, zfix o n (K + 1) v → v ≠ vv := fun v hf e9 => by
      rw [hvv] at e9
      unfold zV at e9
      unfold zfix at hf
      split at e9 <;> omega
    have hvin : ∀ v, v < 4 → v ≠ vv → zfix o n K v → zfix o n (K + 1) v := fun v h4 hne hf => by
      rw [hvv] at hne
      unfold zV at hne
      unfold zfix at hf ⊢
      split at hne <;> omega
    have cont : ∀ (ls : Array Slot), lv_has ls 7 [(4, .int (nI vv)), (0, .ref (ad 1)), (1, .int (nI (n - (K + 1)))), (2, .int (nI rs)), (3, .int (nI deg))] → W p l e (zR (K + 2)) s m ([.ref (ad 1), .int (nI (n - (K + 1))), .int (nI rs), .int (nI deg)] : List Value).toArray below meth c s.heap [] 0 0 Q (F0 m 35 ls []) := by
      intro ls hl
      refine lv_iload_n hx hb dR_listMonomials_35 rfl (lv_at hl 2 rfl) ?_
      refine lv_aload_n hx hb dR_listMonomials_36 rfl (lv_at hl 1 rfl) ?_
      refine zw_get (v := .int (F 1)) hx hb hT uR hown Z h1 rfl 1 (by decide) (hT _ mf_R_42) (fun _ h9 => h9) rfl dR_listMonomials_37 ?_
      refine lv_iconst (v := 1) hx hb dR_listMonomials_40 (by decide) ?_
      refine lv_isub hx hb dR_listMonomials_41 ?_
      refine zw_top (nI (n - 1)) (by rw [hF1]; exact pk_sub (b := 1) hn1) ?_
      refine lv_icmp_ne (tgt := 59) hx hb dR_listMonomials_42 (by decide) (fun hc => ?_) (fun hc => ?_)
      · obtain ⟨J, hJ⟩ : ∃ J, K = J + 1 := ⟨K - 1, by have : ¬ n - (K + 1) = n - 1 := fun h9 => hc (by rw [h9]); omega⟩
        refine lv_iconst (v := 0) hx hb dR_listMonomials_59 (by decide) ?_
        refine lv_istore (lv' := [(5, .int 0), (4, .int (nI vv)), (0, .ref (ad 1)), (1, .int (nI (n - (K + 1)))), (2, .int (nI rs)), (3, .int (nI deg))]) hx hb dR_listMonomials_60 hl (by decide) rfl (fun ls hl => ?_)
        have hgen : zGen o n (K + 1) rs ch = (List.range (rs + 1)).flatMap (fun st => zGen o n (J + 1) (rs - zE o rs st) (ch.set vv (zE o rs st))) := by rw [hvv, hJ]; rfl
        have loop : ∀ (k st : Nat) (w1 : Nat → Option va_E) (F1 c1 : Nat → Int32) (H : Heap) (locs : List Loc) (ls : Array Slot), st + k = rs + 1 → zBld G ad w1 P n o F1 (L ++ (List.range st).flatMap (fun st => zGen o n (J + 1) (rs - zE o rs st) (ch.set vv (zE o rs st)))) (D ++ List.replicate ((List.range st).flatMap (fun st => zGen o n (J + 1) (rs - zE o rs st) (ch.set vv (zE o rs st)))).length deg) c1 → (∀ v, v < 4 → zfix o n (K + 1) v → c1 v = c9 v) → zfrm w w1 → zw G ad w1 s H locs → lv_has ls 7 [(5, .int (nI st)), (4, .int (nI vv)), (0, .ref (ad 1)), (1, .int (nI (n - (K + 1)))), (2, .int (nI rs)), (3, .int (nI deg))] → W p l e (zR (K + 2)) s m ([.ref (ad 1), .int (nI (n - (K + 1))), .int (nI rs), .int (nI deg)] : List Value).toArray below meth c H locs 0 0 Q (F0 m 62 ls []) := by
          intro k
          induction k with
          | zero =>
            intro st w1 F1 c1 H locs ls hst hB1 hc1 hfr Z hl
            refine lv_iload hx hb dR_listMonomials_62 (lv_at hl 0 rfl) ?_
            refine lv_iload_n hx hb dR_listMonomials_64 rfl (lv_at hl 4 rfl) ?_
            refine lv_icmp_gt (tgt := 114) hx hb dR_listMonomials_65 (by decide) (fun _ => ?_) (fun hc => absurd (show (nI rs) < (nI st) from nI_lt (by omega) (by omega)) hc)
            rw [show st = rs + 1 by omega, ← hgen] at hB1
            exact hret _ _ _ _ _ dR_listMonomials_114 (⟨⟨F1, c1, hB1, hc1⟩, hfr⟩) Z
          | succ k ih2 =>
            intro st w1 F1 c1 H locs ls hst hB1 hc1 hfr Z hl
            obtain ⟨g1, ⟨gF0, gF1, gF2, gF3, gF4⟩, gDL, g4, gex, gdg, gky, gwt, gix, g9⟩ := id hB1
            have hze : zE o rs st ≤ rs := by unfold zE; split <;> omega
            refine lv_iload hx hb dR_listMonomials_62 (lv_at hl 0 rfl) ?_
            refine lv_iload_n hx hb dR_listMonomials_64 rfl (lv_at hl 4 rfl) ?_
            refine lv_icmp_gt (tgt := 114) hx hb dR_listMonomials_65 (by decide) (fun hc => absurd hc (show ¬ ((nI rs) < (nI st)) from nI_nlt (by omega) (by omega))) (fun _ => ?_)
            have cont2 : W p l e (zR (K + 2)) s m ([.ref (ad 1), .int (nI (n - (K + 1))), .int (nI rs), .int (nI deg)] : List Value).toArray below meth c H locs 0 0 Q (F0 m 85 ls [.int (nI (zE o rs st))]) := by
              refine lv_istore (lv' := [(6, .int (nI (zE o rs st))), (5, .int (nI st)), (4, .int (nI vv)), (0, .ref (ad 1)), (1, .int (nI (n - (K + 1)))), (2, .int (nI rs)), (3, .int (nI deg))]) hx hb dR_listMonomials_85 hl (by decide) rfl (fun ls hl => ?_)
              refine lv_aload_n hx hb dR_listMonomials_87 rfl (lv_at hl 3 rfl) ?_
              refine zw_get (v := .ref (ad 9)) hx hb hT uR hown Z g1 rfl 10 (by decide) (hT _ mf_R_29) (fun _ h9 => h9) rfl dR_listMonomials_88 ?_
              refine lv_iload hx hb dR_listMonomials_91 (lv_at hl 2 rfl) ?_
              refine lv_iload hx hb dR_listMonomials_93 (lv_at hl 0 rfl) ?_
              refine zw_iast hx hb Z g9 (vin (by omega) (by decide)) dR_listMonomials_95 (fun H locs Z => ?_)
              rw [ncl (by omega)] at Z
              have hB2 := hB1.chosen (c' := upd c1 vv (nI (zE o rs st)))
              obtain ⟨t9, ht9⟩ := flat_split (fun st => zGen o n (J + 1) (rs - zE o rs st) (ch.set vv (zE o rs st))) (rs + 1) st (by omega)
              have hrec := ih J (by omega) (va_up w1 9 (some (zi G 4 (upd c1 vv (nI (zE o rs st)))))) F1 (L ++ (List.range st).flatMap (fun st => zGen o n (J + 1) (rs - zE o rs st) (ch.set vv (zE o rs st)))) (D ++ List.replicate ((List.range st).flatMap (fun st => zGen o n (J + 1) (rs - zE o rs st) (ch.set vv (zE o rs st)))).length deg) (upd c1 vv (nI (zE o rs st))) (ch.set vv (zE o rs st)) (rs - zE o rs st) (t9 ++ tail) (by omega) hB2 (by rw [List.length_set]; exact hch) (fun v hv hf => by
                by_cases e9 : v = vv
                · subst e9
                  rw [getD_set_self (by omega)]
                  simp [upd]
                · rw [getD_set_ne (Ne.symm e9)]
                  simp only [upd, e9, if_false]
                  rw [hc1 v hv (hvin v hv e9 (by rw [hJ]; exact hf))]
                  exact hc9 v hv (hvin v hv e9 (by rw [hJ]; exact hf))) (by omega) (by rw [htab, hgen, ht9]; simp only [List.append_assoc])
              refine lv_aload_n hx hb dR_listMonomials_96 rfl (lv_at hl 3 rfl) ?_
              refine lv_iload_n hx hb dR_listMonomials_97 rfl (lv_at hl 4 rfl) ?_
              refine lv_iconst (v := 1) hx hb dR_listMonomials_98 (by decide) ?_
              refine lv_iadd hx hb dR_listMonomials_99 ?_
              refine zw_top (nI (n - (J + 1))) (by rw [nI_1]; congr 1; omega) ?_
              refine lv_iload_n hx hb dR_listMonomials_100 rfl (lv_at hl 5 rfl) ?_
              refine lv_iload hx hb dR_listMonomials_101 (lv_at hl 0 rfl) ?_
              refine lv_isub hx hb dR_listMonomials_103 ?_
              refine zw_top (nI (rs - zE o rs st)) (pk_sub hze) ?_
              refine lv_iload_n hx hb dR_listMonomials_104 rfl (lv_at hl 6 rfl) ?_
              refine zw_callv (va_runV (As := [.int (nI (n - (J + 1))), .int (nI (rs - zE o rs st)), .int (nI deg)]) (rest := []) ⟨hx, hb, hml, hown, hts⟩ (hrec) (kw_R_listMonomials hts ml_R_63 (zR_fit (by omega) (by omega))) (Z.preV hB2.1 rfl _) rfl rfl hl.1 rfl (lv_room (Nat.le_of_ble_eq_true rfl)) dR_listMonomials_105 ⟨Nat.le_of_ble_eq_true rfl, Nat.le_of_ble_eq_true rfl⟩) Z (fun w2 H locs hp Z => ?_)
              obtain ⟨⟨F2, c2, hB3, hc2⟩, hfr2⟩ := hp
              refine lv_iinc (v := (nI (st + 1))) (lv' := [(5, .int (nI (st + 1))), (6, .int (nI (zE o rs st))), (4, .int (nI vv)), (0, .ref (ad 1)), (1, .int (nI (n - (K + 1)))), (2, .int (nI rs)), (3, .int (nI deg))]) hx hb dR_listMonomials_108 hl (k := 1) rfl (nI_1 st) (by decide) rfl (fun ls hl => ?_)
              refine lv_goto (tgt := 62) hx hb dR_listMonomials_111 (by decide) ?_
              refine ih2 (st + 1) w2 F2 c2 _ _ ls (by omega) ?_ (fun v hv hf => ?_) (hfr.trans hfr2.chosen) Z (lv_sub hl [0, 2, 3, 4, 5, 6] rfl)
              · rw [flat_succ, List.length_append, ← List.replicate_append_replicate, ← List.append_assoc, ← List.append_assoc]
                exact hB3
              · have hne := hvne v hf
                rw [hc2 v hv (by unfold zfix at hf ⊢; omega)]
                simp only [upd, hne, if_false]
                exact hc1 v hv hf
            refine lv_aload_n hx hb dR_listMonomials_68 rfl (lv_at hl 2 rfl) ?_
            refine zw_get (v := .int (F1 2)) hx hb hT uR hown Z g1 rfl 2 (by decide) (hT _ mf_R_45) (fun _ h9 => h9) rfl dR_listMonomials_69 ?_
            refine lv_iconst (v := 1) hx hb dR_listMonomials_72 (by decide) ?_
            refine lv_icmp_ne (tgt := 83) hx hb dR_listMonomials_73 (by decide) (fun hc2 => ?_) (fun hc2 => ?_)
            · have ho : zE o rs st = st := if_neg (fun h9 => hc2 (by rw [gF2, h9]; rfl))
              rw [ho] at cont2
              refine lv_iload hx hb dR_listMonomials_83 (lv_at hl 0 rfl) ?_
              exact cont2
            · have ho : zE o rs st = rs - st := if_pos ((nI_eq (by omega) (by decide)).mp (show nI o = nI 1 by rw [← gF2]; exact hc2))
              rw [ho] at cont2
              refine lv_iload_n hx hb dR_listMonomials_76 rfl (lv_at hl 4 rfl) ?_
              refine lv_iload hx hb dR_listMonomials_77 (lv_at hl 0 rfl) ?_
              refine lv_isub hx hb dR_listMonomials_79 ?_
              refine zw_top (nI (rs - st)) (pk_sub (by omega)) ?_
              refine lv_goto (tgt := 85) hx hb dR_listMonomials_80 (by decide) ?_
              exact cont2
        exact loop (rs + 1) 0 w F c9 _ _ ls (by omega) (by simpa using hB) (fun _ _ _ => rfl) (zfrm.refl w) Z hl
      · have hK0 : K = 0 := by
          have := (nI_eq (by omega) (by omega)).mp hc
          omega
        subst hK0
        have hgen : zGen o n (0 + 1) rs ch = [ch.set vv rs] := by rw [hvv]; rfl
        refine lv_aload_n hx hb dR_listMonomials_45 rfl (lv_at hl 1 rfl) ?_
        refine zw_get (v := .ref (ad 9)) hx hb hT uR hown Z h1 rfl 10 (by decide) (hT _ mf_R_29) (fun _ h9 => h9) rfl dR_listMonomials_46 ?_
        refine lv_iload hx hb dR_listMonomials_49 (lv_at hl 0 rfl) ?_
        refine lv_iload_n hx hb dR_listMonomials_51 rfl (lv_at hl 3 rfl) ?_
        refine zw_iast hx hb Z h9 (vin (by omega) (by decide)) dR_listMonomials_52 (fun H locs Z => ?_)
        rw [ncl (by omega)] at Z
        have hB2 := hB.chosen (c' := upd c9 vv (nI rs))
        rw [hgen] at htab
        obtain ⟨hq1, hq2, hq3⟩ := zTab_at hcfg htab
        refine lv_aload_n hx hb dR_listMonomials_53 rfl (lv_at hl 1 rfl) ?_
        refine lv_iload_n hx hb dR_listMonomials_54 rfl (lv_at hl 4 rfl) ?_
        refine zw_callv (va_runV (As := [.int (nI deg)]) (rest := []) ⟨hx, hb, hml, hown, hts⟩ (c_R_recordMonomial l P n o F L D (upd c9 vv (nI rs)) hB2 deg (ch.set vv rs) hq1 (fun v hv => by
          by_cases e9 : v = vv
          · subst e9
            rw [getD_set_self (by omega)]
            simp [upd]
          · rw [getD_set_ne (Ne.symm e9)]
            simp only [upd, e9, if_false]
            exact hc9 v hv (by rw [hvv] at e9; unfold zV at e9; unfold zfix; split at e9 <;> omega)) hq2 hq3) (kw_R_recordMonomial hts ml_R_67 (zR_fit (by omega) (by omega))) (Z.preV hB2.1 rfl _) rfl rfl hl.1 rfl (lv_room (Nat.le_of_ble_eq_true rfl)) dR_listMonomials_55 ⟨Nat.le_of_ble_eq_true rfl, Nat.le_of_ble_eq_true rfl⟩) Z (fun w2 H locs hp Z => ?_)
        obtain ⟨⟨F2, hB3⟩, hfr2⟩ := hp
        exact hret _ _ _ _ _ dR_listMonomials_58 (⟨⟨F2, _, by rw [hgen]; exact hB3, fun v hv hf => by simp only [upd, hvne v hf, if_false]⟩, hfr2.chosen⟩) Z
    refine lv_iload_n hx hb dR_listMonomials_0 rfl (lv_at hl 1 rfl) ?_
    refine lv_if_lt (tgt := 12) hx hb dR_listMonomials_1 (by decide) (fun hc => absurd hc (show ¬ ((nI (n - (K + 1))) < 0) from nI_pos (by omega))) (fun _ => ?_)
    refine lv_iload_n hx hb dR_listMonomials_4 rfl (lv_at hl 1 rfl) ?_
    refine lv_aload_n hx hb dR_listMonomials_5 rfl (lv_at hl 0 rfl) ?_
    refine zw_get (v := .int (F 1)) hx hb hT uR hown Z h1 rfl 1 (by decide) (hT _ mf_R_42) (fun _ h9 => h9) rfl dR_listMonomials_6 ?_
    refine lv_icmp_lt (tgt := 13) hx hb dR_listMonomials_9 (by decide) (fun _ => ?_) (fun hc => absurd (show (nI (n - (K + 1))) < (F 1) from by rw [hF1]; exact nI_lt (by omega) (by omega)) hc)
    refine lv_aload_n hx hb dR_listMonomials_13 rfl (lv_at hl 0 rfl) ?_
    refine zw_get (v := .int (F 2)) hx hb hT uR hown Z h1 rfl 2 (by decide) (hT _ mf_R_45) (fun _ h9 => h9) rfl dR_listMonomials_14 ?_
    refine lv_iconst (v := 1) hx hb dR_listMonomials_17 (by decide) ?_
    refine lv_icmp_ne (tgt := 25) hx hb dR_listMonomials_18 (by decide) (fun hc => ?_) (fun hc => ?_)
    · have ho : vv = n - 1 - (n - (K + 1)) := by rw [hvv]; exact if_neg (fun h9 => hc (by rw [hF2, h9]; rfl))
      refine lv_aload_n hx hb dR_listMonomials_25 rfl (lv_at hl 0 rfl) ?_
      refine zw_get (v := .int (F 1)) hx hb hT uR hown Z h1 rfl 1 (by decide) (hT _ mf_R_42) (fun _ h9 => h9) rfl dR_listMonomials_26 ?_
      refine lv_iconst (v := 1) hx hb dR_listMonomials_29 (by decide) ?_
      refine lv_isub hx hb dR_listMonomials_30 ?_
      refine zw_top (nI (n - 1)) (by rw [hF1]; exact pk_sub (b := 1) hn1) ?_
      refine lv_iload_n hx hb dR_listMonomials_31 rfl (lv_at hl 1 rfl) ?_
      refine lv_isub hx hb dR_listMonomials_32 ?_
      refine zw_top (nI vv) (by rw [ho]; exact pk_sub (by omega)) ?_
      refine lv_istore (lv' := [(4, .int (nI vv)), (0, .ref (ad 1)), (1, .int (nI (n - (K + 1)))), (2, .int (nI rs)), (3, .int (nI deg))]) hx hb dR_listMonomials_33 hl (by decide) rfl (fun ls hl => ?_)
      exact cont ls hl
    · have ho : vv = n - (K + 1) := by rw [hvv]; exact if_pos ((nI_eq (by omega) (by decide)).mp (show nI o = nI 1 by rw [← hF2]; exact hc))
      refine lv_iload_n hx hb dR_listMonomials_21 rfl (lv_at hl 1 rfl) ?_
      refine lv_goto (tgt := 33) hx hb dR_listMonomials_22 (by decide) ?_
      refine zw_top (nI vv) (by rw [ho]) ?_
      refine lv_istore (lv' := [(4, .int (nI vv)), (0, .ref (ad 1)), (1, .int (nI (n - (K + 1)))), (2, .int (nI rs)), (3, .int (nI deg))]) hx hb dR_listMonomials_33 hl (by decide) rfl (fun ls hl => ?_)
      exact cont ls hl
