set_option maxHeartbeats 4000000 in
set_option maxRecDepth 100000 in
theorem c_M_thrown (l : Launch) {G : zG} {ad : Nat → Nat} {w : Nat → Option va_E} (P n o : Nat) (A : Nat → Nat → Nat) (T : Nat → Nat) (len : Nat) (flt pl : Int32) (out : List Nat) (thr : Int32) (hD : zMd G ad w P n o A T len flt pl out thr) : Met l yM_thrown wM_thrown (zR (1)) (va_Pc [.ref (ad 100)] (zw_U G ad w)) (va_Qi (S := Nat → Option va_E) (fun r w' => r = thr ∧ w' = w) (fun u t => zw_U G ((fun _ => ad) u) ((fun w' => w') u) t) (zA G)) 0 0 (zA G) := by
  refine zw_methi (S := Nat → Option va_E) (fa := fun _ => ad) (fw := fun w' => w') (by decide) rfl (Nat.le_of_ble_eq_true rfl) ?_
  intro p e s m below meth c Q ls C hname Z hl hret
  obtain ⟨hx, hb, hml, hown, hts, hlk⟩ := C
  have hT : ∀ w ∈ zT, w.before ([.ref (ad 100)] : List Value).toArray s = true := fun w h => hts w (List.mem_cons_of_mem _ h)
  have hown : s.vm.findClass "PolynomialDeskModel" = some m.cls := hown
  have hl : lv_has ls 1 [(0, .ref (ad 100))] := hl
  obtain ⟨F, B, hM, hBA, ⟨hF0, hF13, hF14, hF15, hF26⟩, hMt⟩ := id hD
  obtain ⟨h100, ⟨hF1, hF2, hF3, hF4, hF10⟩, ⟨hP1, hP2⟩, hcfg, ⟨dg, h101, hdg⟩, ⟨ex, h102, hex⟩, ⟨ys, h103, hys⟩, ⟨un, h104, hun⟩, ⟨cl, h105, hcl, hpB⟩⟩ := id hM
  have hct := zCt_le (n := n)
  refine lv_aload_n hx hb dM_thrown_0 rfl (lv_at hl 0 rfl) ?_
  refine zw_get (v := .int (F 0)) hx hb hT uM hown Z h100 rfl 0 (by decide) (hT _ mf_M_52) (fun _ h9 => h9) rfl dM_thrown_1 ?_
  exact hret _ _ _ _ _ _ dM_thrown_4 (⟨hF0, rfl⟩) Z

set_option maxHeartbeats 4000000 in
set_option maxRecDepth 100000 in
theorem c_M_lacks (l : Launch) {G : zG} {ad : Nat → Nat} {w : Nat → Option va_E} (P n o : Nat) (F : Nat → Int32) (B : Nat → Nat → Nat) (hM : zMod G ad w P n o F B) (a b : Int32) (q : Bool) : Met l yM_lacks wM_lacks (zR (2)) (va_Pc [.ref (ad 100), .int a, .int b, .int (zb q)] (zw_U G ad w)) (va_Qi (S := Nat → Option va_E) (fun r w' => r = zb (zlk a b q) ∧ w' = va_up w 100 (some (oM ad (upd F 0 (zb (zlk a b q)))))) (fun u t => zw_U G ((fun _ => ad) u) ((fun w' => w') u) t) (zA G)) 0 0 (zA G) := by
  refine zw_methz (S := Nat → Option va_E) (fa := fun _ => ad) (fw := fun w' => w') (by decide) rfl (Nat.le_of_ble_eq_true rfl) (fun r u h => by rw [h.1]; exact zb_nar _) ?_
  intro p e s m below meth c Q ls C hname Z hl hret
  obtain ⟨hx, hb, hml, hown, hts, hlk⟩ := C
  have hT : ∀ w ∈ zT, w.before ([.ref (ad 100), .int a, .int b, .int (zb q)] : List Value).toArray s = true := fun w h => hts w (List.mem_cons_of_mem _ h)
  have hown : s.vm.findClass "PolynomialDeskModel" = some m.cls := hown
  have hl : lv_has ls 4 [(0, .ref (ad 100)), (1, .int a), (2, .int b), (3, .int (zb q))] := hl
  obtain ⟨h100, ⟨hF1, hF2, hF3, hF4, hF10⟩, ⟨hP1, hP2⟩, hcfg, ⟨dg, h101, hdg⟩, ⟨ex, h102, hex⟩, ⟨ys, h103, hys⟩, ⟨un, h104, hun⟩, ⟨cl, h105, hcl, hpB⟩⟩ := id hM
  have hct := zCt_le (n := n)
  refine lv_aload_n hx hb dM_lacks_0 rfl (lv_at hl 0 rfl) ?_
  refine lv_iload_n hx hb dM_lacks_1 rfl (lv_at hl 1 rfl) ?_
  refine zw_calli (va_runS (As := [.int a]) (rest := [.ref (ad 100)]) ⟨hx, hb, hml, hown, hts⟩ (c_M_isPolynomial l a) (kw_M_isPolynomial hts ml_M_170 (zR_fit (by omega) (by omega))) (Z.preS _) rfl rfl hl.1 rfl (lv_room (Nat.le_of_ble_eq_true rfl)) dM_lacks_2 ⟨Nat.le_of_ble_eq_true rfl, Nat.le_of_ble_eq_true rfl⟩) Z (fun r wq H locs hp Z => ?_)
  obtain ⟨rfl, hw1⟩ := hp
  rw [hw1] at Z
  clear hw1
  have tail : ∀ (H : Heap) (locs : List Loc), zw G ad w s H locs → W p l e (zR (2)) s m ([.ref (ad 100), .int a, .int b, .int (zb q)] : List Value).toArray below meth c H locs (0) (0) Q (F0 m 24 ls [.int (zb (zlk a b q)), .ref (ad 100)]) := by
    intro H locs Z
    refine zw_put (v := .int (zb (zlk a b q))) hx hb hT uM hown tM tM_ok nM Z h100 rfl 0 (by decide) (hT _ mf_M_52) (fun _ h9 => h9) rfl rfl rfl (by simp) dM_lacks_24 (fun H locs Z => ?_)
    have Z : zw G ad (va_up w 100 (some (oM ad (upd F 0 (zb (zlk a b q)))))) s H locs := Z
    have hM0 : zMod G ad (va_up w 100 (some (oM ad (upd F 0 (zb (zlk a b q)))))) P n o (upd F 0 (zb (zlk a b q))) _ := hM.put (by decide)
    have h1002 := hM0.1
    refine lv_aload_n hx hb dM_lacks_27 rfl (lv_at hl 0 rfl) ?_
    refine zw_get (v := .int ((upd F 0 (zb (zlk a b q))) 0)) hx hb hT uM hown Z h1002 rfl 0 (by decide) (hT _ mf_M_52) (fun _ h9 => h9) rfl dM_lacks_28 ?_
    refine lv_if_le (tgt := 38) hx hb dM_lacks_31 (by decide) (fun hc => ?_) (fun hc => ?_)
    · have hz : zlk a b q = false := by
        cases h9 : zlk a b q with
        | false => rfl
        | true => rw [show upd F 0 (zb (zlk a b q)) 0 = zb (zlk a b q) from rfl, h9] at hc; exact absurd hc (by decide)
      refine lv_iconst (v := 0) hx hb dM_lacks_38 (by decide) ?_
      exact hret _ _ _ _ _ _ dM_lacks_39 (⟨by rw [hz]; rfl, rfl⟩) Z
    · have hz : zlk a b q = true := by
        cases h9 : zlk a b q with
        | true => rfl
        | false => rw [show upd F 0 (zb (zlk a b q)) 0 = zb (zlk a b q) from rfl, h9] at hc; exact absurd (by decide) hc
      refine lv_iconst (v := 1) hx hb dM_lacks_34 (by decide) ?_
      refine lv_goto (tgt := 39) hx hb dM_lacks_35 (by decide) ?_
      exact hret _ _ _ _ _ _ dM_lacks_39 (⟨by rw [hz]; rfl, rfl⟩) Z
  refine lv_if_eq (tgt := 23) hx hb dM_lacks_5 (by decide) (fun hc => ?_) (fun hc => ?_)
  · refine lv_iconst (v := 1) hx hb dM_lacks_23 (by decide) ?_
    exact (by rw [show zlk a b q = true from by unfold zlk; rw [zb_f hc]; rfl] at tail; exact tail _ _ Z)
  · refine lv_iload_n hx hb dM_lacks_8 rfl (lv_at hl 2 rfl) ?_
    refine zw_calli (va_runS (As := [.int b]) (rest := [.ref (ad 100)]) ⟨hx, hb, hml, hown, hts⟩ (c_M_isPolynomial l b) (kw_M_isPolynomial hts ml_M_170 (zR_fit (by omega) (by omega))) (Z.preS _) rfl rfl hl.1 rfl (lv_room (Nat.le_of_ble_eq_true rfl)) dM_lacks_9 ⟨Nat.le_of_ble_eq_true rfl, Nat.le_of_ble_eq_true rfl⟩) Z (fun r wq H locs hp Z => ?_)
    obtain ⟨rfl, hw1⟩ := hp
    rw [hw1] at Z
    clear hw1
    refine lv_if_eq (tgt := 23) hx hb dM_lacks_12 (by decide) (fun hc2 => ?_) (fun hc2 => ?_)
    · refine lv_iconst (v := 1) hx hb dM_lacks_23 (by decide) ?_
      exact (by rw [show zlk a b q = true from by unfold zlk; rw [zb_f hc2, Bool.and_false]; rfl] at tail; exact tail _ _ Z)
    · refine lv_iload_n hx hb dM_lacks_15 rfl (lv_at hl 3 rfl) ?_
      refine lv_if_ne (tgt := 23) hx hb dM_lacks_16 (by decide) (fun hc3 => ?_) (fun hc3 => ?_)
      · refine lv_iconst (v := 1) hx hb dM_lacks_23 (by decide) ?_
        exact (by rw [show zlk a b q = true from by unfold zlk; rw [zb_t hc3]; simp] at tail; exact tail _ _ Z)
      · refine lv_iconst (v := 0) hx hb dM_lacks_19 (by decide) ?_
        refine lv_goto (tgt := 24) hx hb dM_lacks_20 (by decide) ?_
        exact (by rw [show zlk a b q = false from by unfold zlk; rw [zb_t hc, zb_t hc2, zb_f hc3]; rfl] at tail; exact tail _ _ Z)

set_option maxHeartbeats 4000000 in
set_option maxRecDepth 100000 in
theorem c_M_put (l : Launch) {G : zG} {ad : Nat → Nat} {w : Nat → Option va_E} (P n o : Nat) (A : Nat → Nat → Nat) (T : Nat → Nat) (len : Nat) (flt pl : Int32) (out : List Nat) (thr : Int32) (hD : zMd G ad w P n o A T len flt pl out thr) (v : Int64) (q : Int32) : Met l yM_put wM_put (zR (1)) (va_Pc [.ref (ad 100), .long v, .int q] (zw_U G ad w)) (va_Qi (S := Nat → Option va_E) (fun r w' => r = zb (zfit len q) ∧ zMd G ad w' P n o (A) (zapp T len v q) (zlen len q) (flt) (pl) (out) (0) ∧ zfm w w') (fun u t => zw_U G ((fun _ => ad) u) ((fun w' => w') u) t) (zA G)) 0 0 (zA G) := by
  refine zw_methz (S := Nat → Option va_E) (fa := fun _ => ad) (fw := fun w' => w') (by decide) rfl (Nat.le_of_ble_eq_true rfl) (fun r u h => by rw [h.1]; exact zb_nar _) ?_
  intro p e s m below meth c Q ls C hname Z hl hret
  obtain ⟨hx, hb, hml, hown, hts, hlk⟩ := C
  have hT : ∀ w ∈ zT, w.before ([.ref (ad 100), .long v, .int q] : List Value).toArray s = true := fun w h => hts w (List.mem_cons_of_mem _ h)
  have hown : s.vm.findClass "PolynomialDeskModel" = some m.cls := hown
  have hl : lv_has ls 5 [(0, .ref (ad 100)), (1, .long v), (3, .int q)] := hl
  obtain ⟨F, B, hM, hBA, ⟨hF0, hF13, hF14, hF15, hF26⟩, hMt⟩ := id hD
  obtain ⟨h100, ⟨hF1, hF2, hF3, hF4, hF10⟩, ⟨hP1, hP2⟩, hcfg, ⟨dg, h101, hdg⟩, ⟨ex, h102, hex⟩, ⟨ys, h103, hys⟩, ⟨un, h104, hun⟩, ⟨cl, h105, hcl, hpB⟩⟩ := id hM
  have hct := zCt_le (n := n)
  obtain ⟨⟨hd, h106, hhd⟩, hTb, hlen, h107, h108, h109, h110, hol⟩ := id hMt
  refine lv_aload_n hx hb dM_put_0 rfl (lv_at hl 0 rfl) ?_
  refine lv_iconst (v := 0) hx hb dM_put_1 (by decide) ?_
  refine zw_put (v := .int 0) hx hb hT uM hown tM tM_ok nM Z h100 rfl 0 (by decide) (hT _ mf_M_52) (fun _ h9 => h9) rfl rfl rfl (by simp) dM_put_2 (fun H locs Z => ?_)
  have Z : zw G ad (va_up w 100 (some (oM ad (upd F 0 0)))) s H locs := Z
  have hM0 : zMod G ad (va_up w 100 (some (oM ad (upd F 0 0)))) P n o (upd F 0 0) _ := hM.put (by decide)
  have h1001 := hM0.1
  have hMt0 : zMt G (va_up w 100 (some (oM ad (upd F 0 0)))) T len out := hMt.put
  have hno : ¬ zfit len q = true → (zb false = zb (zfit len q) ∧ zMd G ad (va_up w 100 (some (oM ad (upd F 0 0)))) P n o (A) (zapp T len v q) (zlen len q) (flt) (pl) (out) (0) ∧ zfm w (va_up w 100 (some (oM ad (upd F 0 0))))) := fun h => by
    rw [zlen_no h, zapp_no h, zfit_no h]
    exact ⟨rfl, ⟨_, B, hM0, hBA, ⟨rfl, hF13, hF14, hF15, hF26⟩, hMt0⟩, zfm.up (by decide)⟩
  have refuse : ¬ zfit len q = true → W p l e (zR (1)) s m ([.ref (ad 100), .long v, .int q] : List Value).toArray below meth c H locs (0) (0) Q (F0 m 27 ls []) := by
    intro hf
    refine lv_iconst (v := 0) hx hb dM_put_27 (by decide) ?_
    exact hret _ _ _ _ _ _ dM_put_28 (hno hf) Z
  refine lv_iload_n hx hb dM_put_5 rfl (lv_at hl 2 rfl) ?_
  refine lv_if_lt (tgt := 27) hx hb dM_put_6 (by decide) (fun hc => ?_) (fun hc => ?_)
  · exact refuse (fun h => (of_decide_eq_true h).1 hc)
  · refine lv_iload_n hx hb dM_put_9 rfl (lv_at hl 2 rfl) ?_
    refine lv_bipush (v := 8) hx hb dM_put_10 (by decide) ?_
    refine lv_icmp_gt (tgt := 27) hx hb dM_put_12 (by decide) (fun hc2 => ?_) (fun hc2 => ?_)
    · exact refuse (fun h => absurd (of_decide_eq_true h).2.1 (by rw [Int32.not_le]; exact hc2))
    · obtain ⟨k, hk8, rfl⟩ := nI_of2 (M := 8) (n := 8) rfl hc (by rw [Int32.not_lt] at hc2; exact hc2)
      refine lv_aload_n hx hb dM_put_15 rfl (lv_at hl 0 rfl) ?_
      refine zw_get (v := .int ((upd F 0 0) 13)) hx hb hT uM hown Z h1001 rfl 13 (by decide) (hT _ mf_M_103) (fun _ h9 => h9) rfl dM_put_16 ?_
      refine zw_top (nI len) (hF13) ?_
      refine lv_iload_n hx hb dM_put_19 rfl (lv_at hl 2 rfl) ?_
      refine lv_iadd hx hb dM_put_20 ?_
      refine zw_top (nI (len + k)) (nI_add len k) ?_
      refine lv_sipush (v := 200) hx hb dM_put_21 (by decide) ?_
      refine lv_icmp_le (tgt := 29) hx hb dM_put_24 (by decide) (fun hc3 => ?_) (fun hc3 => ?_)
      · have hk2 : len + k ≤ 200 := (nI_leI (b := 200) (by omega) (by decide)).mp hc3
        rw [zlen_yes hk8 hk2, zapp_yes hk8 hk2, zfit_yes hk8 hk2] at hret
        refine lv_iload_n hx hb dM_put_29 rfl (lv_at hl 2 rfl) ?_
        refine lv_iconst (v := 1) hx hb dM_put_30 (by decide) ?_
        refine lv_isub hx hb dM_put_31 ?_
        refine lv_istore (lv' := [(4, .int ((nI k) - 1)), (0, .ref (ad 100)), (1, .long v), (3, .int (nI k))]) hx hb dM_put_32 hl (by decide) rfl (fun ls hl => ?_)
        have loop : ∀ (j : Nat) (ty : Nat → Int32) (H : Heap) (locs : List Loc) (ls : Array Slot), j ≤ k → (∀ i, i < len + (k - j) → ty i = nI (zapk T len v k i)) → zw G ad (va_up (va_up w 106 (some (zi G 200 ty))) 100 (some (oM ad (upd (upd F 0 0) 13 (nI (len + (k - j))))))) s H locs → lv_has ls 5 [(4, .int (nI j - 1)), (0, .ref (ad 100)), (1, .long v), (3, .int (nI k))] → W p l e (zR (1)) s m ([.ref (ad 100), .long v, .int (nI k)] : List Value).toArray below meth c H locs (0) (0) Q (F0 m 34 ls []) := by
          intro j
          induction j with
          | zero =>
            intro ty H locs ls hj hty Z hl
            refine lv_iload hx hb dM_put_34 (lv_at hl 0 rfl) ?_
            refine lv_if_lt (tgt := 76) hx hb dM_put_36 (by decide) (fun _ => ?_) (fun hc => absurd (show ((nI 0 - 1) : Int32) < 0 from by decide) hc)
            have hMF : zMod G ad (va_up (va_up w 106 (some (zi G 200 ty))) 100 (some (oM ad (upd (upd F 0 0) 13 (nI (len + (k - 0))))))) P n o (upd (upd F 0 0) 13 (nI (len + (k - 0)))) B := hM.obj (fun i hi => by rw [va_up_ne _ _ (by omega), va_up_ne _ _ (by omega)]) (va_up_self _ _ _) (fun i hi => by rw [pk_un (by omega), pk_un (by omega)])
            refine lv_iconst (v := 1) hx hb dM_put_76 (by decide) ?_
            exact hret _ _ _ _ _ _ dM_put_77 (⟨rfl, ⟨_, B, hMF, hBA, ⟨rfl, rfl, hF14, hF15, hF26⟩, ⟨⟨ty, by rw [va_up_ne _ _ (by decide)]; exact va_up_self _ _ _, hty⟩, zapk_lt hTb, hk2, by rw [va_up_ne _ _ (by decide), va_up_ne _ _ (by decide)]; exact h107, by rw [va_up_ne _ _ (by decide), va_up_ne _ _ (by decide)]; exact h108, by rw [va_up_ne _ _ (by decide), va_up_ne _ _ (by decide)]; exact h109, by rw [va_up_ne _ _ (by decide), va_up_ne _ _ (by decide)]; exact h110, hol⟩⟩, (zfm.up (by decide)).trans (zfm.up (by decide))⟩) Z
          | succ j ih =>
            intro ty H locs ls hj hty Z hl
            rw [nI_pred] at hl
            obtain ⟨L, hL⟩ : ∃ L, L = len + (k - (j + 1)) := ⟨_, rfl⟩
            rw [← hL] at hty Z
            have g2 : (va_up (va_up w 106 (some (zi G 200 ty))) 100 (some (oM ad (upd (upd F 0 0) 13 (nI L))))) 100 = some (oM ad (upd (upd F 0 0) 13 (nI L))) := va_up_self _ _ _
            have g10 : (va_up (va_up w 106 (some (zi G 200 ty))) 100 (some (oM ad (upd (upd F 0 0) 13 (nI L))))) 106 = some (zi G 200 ty) := by rw [va_up_ne _ _ (by decide), va_up_self]
            refine lv_iload hx hb dM_put_34 (lv_at hl 0 rfl) ?_
            refine lv_if_lt (tgt := 76) hx hb dM_put_36 (by decide) (fun hc => absurd hc (show ¬ (((nI j) : Int32) < 0) from nI_pos (by omega))) (fun _ => ?_)
            refine lv_aload_n hx hb dM_put_39 rfl (lv_at hl 1 rfl) ?_
            refine zw_get (v := .ref (ad 106)) hx hb hT uM hown Z g2 rfl 12 (by decide) (hT _ mf_M_30) (fun _ h9 => h9) rfl dM_put_40 ?_
            refine lv_aload_n hx hb dM_put_43 rfl (lv_at hl 1 rfl) ?_
            refine zw_get (v := .int ((upd (upd F 0 0) 13 (nI L)) 13)) hx hb hT uM hown Z g2 rfl 13 (by decide) (hT _ mf_M_103) (fun _ h9 => h9) rfl dM_put_44 ?_
            refine zw_top (nI L) (rfl) ?_
            refine lv_lload_n hx hb dM_put_47 rfl (lv_at hl 2 rfl) ?_
            refine lv_bipush (v := 8) hx hb dM_put_48 (by decide) ?_
            refine lv_iload hx hb dM_put_50 (lv_at hl 0 rfl) ?_
            refine lv_imul hx hb dM_put_52 ?_
            refine lv_lshr hx hb dM_put_53 rfl ?_
            refine lv_l2i hx hb dM_put_54 rfl ?_
            refine lv_sipush (v := 255) hx hb dM_put_55 (by decide) ?_
            refine lv_iand hx hb dM_put_58 ?_
            refine zw_top (nI (zbyt v j)) (zbyt_m v (by omega)) ?_
            refine zw_iast hx hb Z g10 (vin (by omega) (by decide)) dM_put_59 (fun H locs Z => ?_)
            rw [ncl (by omega)] at Z
            have Z : zw G ad (va_up (va_up (va_up w 106 (some (zi G 200 ty))) 100 (some (oM ad (upd (upd F 0 0) 13 (nI L))))) 106 (some (zi G 200 (upd ty L (nI (zbyt v j)))))) s H locs := Z
            have g2 : (va_up (va_up (va_up w 106 (some (zi G 200 ty))) 100 (some (oM ad (upd (upd F 0 0) 13 (nI L))))) 106 (some (zi G 200 (upd ty L (nI (zbyt v j)))))) 100 = some (oM ad (upd (upd F 0 0) 13 (nI L))) := by rw [va_up_ne _ _ (by decide), va_up_self]
            refine lv_aload_n hx hb dM_put_60 rfl (lv_at hl 1 rfl) ?_
            refine lv_dup hx hb dM_put_61 rfl ?_
            refine zw_get (v := .int ((upd (upd F 0 0) 13 (nI L)) 13)) hx hb hT uM hown Z g2 rfl 13 (by decide) (hT _ mf_M_103) (fun _ h9 => h9) rfl dM_put_62 ?_
            refine zw_top (nI L) (rfl) ?_
            refine lv_iconst (v := 1) hx hb dM_put_65 (by decide) ?_
            refine lv_iadd hx hb dM_put_66 ?_
            refine zw_top (nI (L + 1)) (nI_1 L) ?_
            refine zw_put (v := .int (nI (L + 1))) hx hb hT uM hown tM tM_ok nM Z g2 rfl 13 (by decide) (hT _ mf_M_103) (fun _ h9 => h9) rfl rfl rfl (by simp) dM_put_67 (fun H locs Z => ?_)
            have Z : zw G ad (va_up (va_up (va_up (va_up w 106 (some (zi G 200 ty))) 100 (some (oM ad (upd (upd F 0 0) 13 (nI L))))) 106 (some (zi G 200 (upd ty L (nI (zbyt v j)))))) 100 (some (oM ad (upd (upd (upd F 0 0) 13 (nI L)) 13 (nI (L + 1)))))) s H locs := Z
            rw [upd_upd, zup_comm (a := 100) (b := 106) (by decide), bx_uu, bx_uu] at Z
            refine lv_iinc (v := ((nI j) + (-1))) (lv' := [(4, .int ((nI j) + (-1))), (0, .ref (ad 100)), (1, .long v), (3, .int (nI k))]) hx hb dM_put_70 hl (k := 0) rfl (rfl) (by decide) rfl (fun ls hl => ?_)
            refine lv_goto (tgt := 34) hx hb dM_put_73 (by decide) ?_
            exact ih (upd ty L (nI (zbyt v j))) _ _ ls (by omega) (fun i hi => by
              by_cases e9 : i = L
              · subst e9
                rw [pk_us]
                unfold zapk
                rw [if_neg (by omega), if_pos (by omega)]
                congr 2
                omega
              · rw [pk_un e9]
                exact hty i (by omega)) (by rw [show len + (k - j) = L + 1 by omega]; exact Z) (by rw [zm1]; exact (lv_sub hl [0, 1, 2, 3] rfl))
        exact loop k hd _ _ ls (Nat.le_refl _) (fun i hi => by rw [hhd i (by omega)]; unfold zapk; rw [if_pos (by omega)]) (by rw [Nat.sub_self, Nat.add_zero, upd_same (show upd F 0 0 13 = nI len from hF13), zup_id h106]; exact Z) hl
      · exact refuse (fun h => hc3 (by
          obtain ⟨k2, h1, h2, h3⟩ := zfit_ok h
          have := (nI_eq (by omega) (by omega)).mp h1
          subst this
          exact nI_le (b := 200) h3 (by decide)))

set_option maxHeartbeats 4000000 in
set_option maxRecDepth 100000 in
theorem c_M_fault (l : Launch) {G : zG} {ad : Nat → Nat} {w : Nat → Option va_E} (P n o : Nat) (A : Nat → Nat → Nat) (T : Nat → Nat) (len : Nat) (flt pl : Int32) (out : List Nat) (thr : Int32) (hD : zMd G ad w P n o A T len flt pl out thr) (x : Int32) : Met l yM_fault wM_fault (zR (1)) (va_Pc [.ref (ad 100), .int x] (zw_U G ad w)) (va_Qi (S := Nat → Option va_E) (fun r w' => r = zflt flt pl x ∧ zMd G ad w' P n o (A) (T) (len) (flt) (pl) (out) (0) ∧ zfm w w') (fun u t => zw_U G ((fun _ => ad) u) ((fun w' => w') u) t) (zA G)) 0 0 (zA G) := by
  refine zw_methi (S := Nat → Option va_E) (fa := fun _ => ad) (fw := fun w' => w') (by decide) rfl (Nat.le_of_ble_eq_true rfl) ?_
  intro p e s m below meth c Q ls C hname Z hl hret
  obtain ⟨hx, hb, hml, hown, hts, hlk⟩ := C
  have hT : ∀ w ∈ zT, w.before ([.ref (ad 100), .int x] : List Value).toArray s = true := fun w h => hts w (List.mem_cons_of_mem _ h)
  have hown : s.vm.findClass "PolynomialDeskModel" = some m.cls := hown
  have hl : lv_has ls 2 [(0, .ref (ad 100)), (1, .int x)] := hl
  obtain ⟨F, B, hM, hBA, ⟨hF0, hF13, hF14, hF15, hF26⟩, hMt⟩ := id hD
  obtain ⟨h100, ⟨hF1, hF2, hF3, hF4, hF10⟩, ⟨hP1, hP2⟩, hcfg, ⟨dg, h101, hdg⟩, ⟨ex, h102, hex⟩, ⟨ys, h103, hys⟩, ⟨un, h104, hun⟩, ⟨cl, h105, hcl, hpB⟩⟩ := id hM
  have hct := zCt_le (n := n)
  refine lv_aload_n hx hb dM_fault_0 rfl (lv_at hl 0 rfl) ?_
  refine lv_iconst (v := 0) hx hb dM_fault_1 (by decide) ?_
  refine zw_put (v := .int 0) hx hb hT uM hown tM tM_ok nM Z h100 rfl 0 (by decide) (hT _ mf_M_52) (fun _ h9 => h9) rfl rfl rfl (by simp) dM_fault_2 (fun H locs Z => ?_)
  have Z : zw G ad (va_up w 100 (some (oM ad (upd F 0 0)))) s H locs := Z
  have hM0 : zMod G ad (va_up w 100 (some (oM ad (upd F 0 0)))) P n o (upd F 0 0) _ := hM.put (by decide)
  have h1001 := hM0.1
  have hfin : zMd G ad (va_up w 100 (some (oM ad (upd F 0 0)))) P n o (A) (T) (len) (flt) (pl) (out) (0) ∧ zfm w (va_up w 100 (some (oM ad (upd F 0 0)))) := ⟨⟨_, B, hM0, hBA, ⟨rfl, hF13, hF14, hF15, hF26⟩, hMt.put⟩, zfm.up (by decide)⟩
  refine lv_iload_n hx hb dM_fault_5 rfl (lv_at hl 1 rfl) ?_
  refine lv_if_ne (tgt := 16) hx hb dM_fault_6 (by decide) (fun hc => ?_) (fun hc => ?_)
  · refine lv_iload_n hx hb dM_fault_16 rfl (lv_at hl 1 rfl) ?_
    refine lv_iconst (v := 1) hx hb dM_fault_17 (by decide) ?_
    refine lv_icmp_ne (tgt := 28) hx hb dM_fault_18 (by decide) (fun hc2 => ?_) (fun hc2 => ?_)
    · refine lv_iconst (v := (-1)) hx hb dM_fault_28 (by decide) ?_
      exact hret _ _ _ _ _ _ dM_fault_29 (⟨by unfold zflt; rw [if_neg hc, if_neg hc2], hfin⟩) Z
    · refine lv_aload_n hx hb dM_fault_21 rfl (lv_at hl 0 rfl) ?_
      refine zw_get (v := .int ((upd F 0 0) 15)) hx hb hT uM hown Z h1001 rfl 15 (by decide) (hT _ mf_M_33) (fun _ h9 => h9) rfl dM_fault_22 ?_
      refine zw_top (pl) (hF15) ?_
      refine lv_goto (tgt := 29) hx hb dM_fault_25 (by decide) ?_
      exact hret _ _ _ _ _ _ dM_fault_29 (⟨by unfold zflt; rw [if_neg hc, if_pos hc2], hfin⟩) Z
  · refine lv_aload_n hx hb dM_fault_9 rfl (lv_at hl 0 rfl) ?_
    refine zw_get (v := .int ((upd F 0 0) 14)) hx hb hT uM hown Z h1001 rfl 14 (by decide) (hT _ mf_M_182) (fun _ h9 => h9) rfl dM_fault_10 ?_
    refine zw_top (flt) (hF14) ?_
    refine lv_goto (tgt := 29) hx hb dM_fault_13 (by decide) ?_
    exact hret _ _ _ _ _ _ dM_fault_29 (⟨by unfold zflt; rw [if_pos hc], hfin⟩) Z

set_option maxHeartbeats 4000000 in
set_option maxRecDepth 100000 in
theorem c_M_output (l : Launch) {G : zG} {ad : Nat → Nat} {w : Nat → Option va_E} (P n o : Nat) (A : Nat → Nat → Nat) (T : Nat → Nat) (len : Nat) (flt pl : Int32) (out : List Nat) (thr : Int32) (hD : zMd G ad w P n o A T len flt pl out thr) (i : Int32) : Met l yM_output wM_output (zR (1)) (va_Pc [.ref (ad 100), .int i] (zw_U G ad w)) (va_Qi (S := Nat → Option va_E) (fun r w' => r = zby out i ∧ zMd G ad w' P n o (A) (T) (len) (flt) (pl) (out) (0) ∧ zfm w w') (fun u t => zw_U G ((fun _ => ad) u) ((fun w' => w') u) t) (zA G)) 0 0 (zA G) := by
  refine zw_methi (S := Nat → Option va_E) (fa := fun _ => ad) (fw := fun w' => w') (by decide) rfl (Nat.le_of_ble_eq_true rfl) ?_
  intro p e s m below meth c Q ls C hname Z hl hret
  obtain ⟨hx, hb, hml, hown, hts, hlk⟩ := C
  have hT : ∀ w ∈ zT, w.before ([.ref (ad 100), .int i] : List Value).toArray s = true := fun w h => hts w (List.mem_cons_of_mem _ h)
  have hown : s.vm.findClass "PolynomialDeskModel" = some m.cls := hown
  have hl : lv_has ls 2 [(0, .ref (ad 100)), (1, .int i)] := hl
  obtain ⟨F, B, hM, hBA, ⟨hF0, hF13, hF14, hF15, hF26⟩, hMt⟩ := id hD
  obtain ⟨h100, ⟨hF1, hF2, hF3, hF4, hF10⟩, ⟨hP1, hP2⟩, hcfg, ⟨dg, h101, hdg⟩, ⟨ex, h102, hex⟩, ⟨ys, h103, hys⟩, ⟨un, h104, hun⟩, ⟨cl, h105, hcl, hpB⟩⟩ := id hM
  have hct := zCt_le (n := n)
  obtain ⟨-, -, -, -, -, -, ⟨ob, h110, hob⟩, hol⟩ := id hMt
  refine lv_aload_n hx hb dM_output_0 rfl (lv_at hl 0 rfl) ?_
  refine lv_iconst (v := 0) hx hb dM_output_1 (by decide) ?_
  refine zw_put (v := .int 0) hx hb hT uM hown tM tM_ok nM Z h100 rfl 0 (by decide) (hT _ mf_M_52) (fun _ h9 => h9) rfl rfl rfl (by simp) dM_output_2 (fun H locs Z => ?_)
  have Z : zw G ad (va_up w 100 (some (oM ad (upd F 0 0)))) s H locs := Z
  have hM0 : zMod G ad (va_up w 100 (some (oM ad (upd F 0 0)))) P n o (upd F 0 0) _ := hM.put (by decide)
  have h1001 := hM0.1
  have hfin : zMd G ad (va_up w 100 (some (oM ad (upd F 0 0)))) P n o (A) (T) (len) (flt) (pl) (out) (0) ∧ zfm w (va_up w 100 (some (oM ad (upd F 0 0)))) := ⟨⟨_, B, hM0, hBA, ⟨rfl, hF13, hF14, hF15, hF26⟩, hMt.put⟩, zfm.up (by decide)⟩
  have g110 : (va_up w 100 (some (oM ad (upd F 0 0)))) 110 = some (zi G 4000 ob) := by rw [va_up_ne _ _ (by decide)]; exact h110
  refine lv_iload_n hx hb dM_output_5 rfl (lv_at hl 1 rfl) ?_
  refine lv_if_lt (tgt := 17) hx hb dM_output_6 (by decide) (fun hc => ?_) (fun hc => ?_)
  · refine lv_iconst (v := (-1)) hx hb dM_output_17 (by decide) ?_
    refine lv_goto (tgt := 27) hx hb dM_output_18 (by decide) ?_
    exact hret _ _ _ _ _ _ dM_output_27 (⟨(if_neg (fun h9 => h9.1 hc)).symm, hfin⟩) Z
  · refine lv_iload_n hx hb dM_output_9 rfl (lv_at hl 1 rfl) ?_
    refine lv_aload_n hx hb dM_output_10 rfl (lv_at hl 0 rfl) ?_
    refine zw_get (v := .int ((upd F 0 0) 26)) hx hb hT uM hown Z h1001 rfl 26 (by decide) (hT _ mf_M_74) (fun _ h9 => h9) rfl dM_output_11 ?_
    refine zw_top (nI out.length) (hF26) ?_
    refine lv_icmp_lt (tgt := 21) hx hb dM_output_14 (by decide) (fun hc2 => ?_) (fun hc2 => ?_)
    · obtain ⟨j, hj, rfl⟩ := nI_of hc
      have hj2 : j < out.length := (nI_ltI hj (by omega)).mp hc2
      refine lv_aload_n hx hb dM_output_21 rfl (lv_at hl 0 rfl) ?_
      refine zw_get (v := .ref (ad 110)) hx hb hT uM hown Z h1001 rfl 25 (by decide) (hT _ mf_M_45) (fun _ h9 => h9) rfl dM_output_22 ?_
      refine lv_iload_n hx hb dM_output_25 rfl (lv_at hl 1 rfl) ?_
      refine zw_iald hx hb Z g110 (vin (by omega) (by decide)) dM_output_26 ?_
      refine zw_top (nI (out.getD j 0)) (by rw [ncl hj]; exact hob j hj2) ?_
      exact hret _ _ _ _ _ _ dM_output_27 (⟨by unfold zby; rw [if_pos ⟨hc, hc2⟩, ncl hj], hfin⟩) Z
    · refine lv_iconst (v := (-1)) hx hb dM_output_17 (by decide) ?_
      refine lv_goto (tgt := 27) hx hb dM_output_18 (by decide) ?_
      exact hret _ _ _ _ _ _ dM_output_27 (⟨(if_neg (fun h9 => hc2 h9.2)).symm, hfin⟩) Z

set_option maxHeartbeats 4000000 in
set_option maxRecDepth 100000 in
theorem c_M_about (l : Launch) {G : zG} {ad : Nat → Nat} {w : Nat → Option va_E} (P n o : Nat) (A : Nat → Nat → Nat) (T : Nat → Nat) (len : Nat) (flt pl : Int32) (out : List Nat) (thr : Int32) (hD : zMd G ad w P n o A T len flt pl out thr) (k x : Int32) : Met l yM_about wM_about (zR (3)) (va_Pc [.ref (ad 100), .int k, .int x] (zw_U G ad w)) (va_Qi (S := Nat → Option va_E) (fun r w' => r = zabt n o A k x ∧ zMd G ad w' P n o (A) (T) (len) (flt) (pl) (out) (0) ∧ zfm w w') (fun u t => zw_U G ((fun _ => ad) u) ((fun w' => w') u) t) (zA G)) 0 0 (zA G) := by
  refine zw_methi (S := Nat → Option va_E) (fa := fun _ => ad) (fw := fun w' => w') (by decide) rfl (Nat.le_of_ble_eq_true rfl) ?_
  intro p e s m below meth c Q ls C hname Z hl hret
  obtain ⟨hx, hb, hml, hown, hts, hlk⟩ := C
  have hT : ∀ w ∈ zT, w.before ([.ref (ad 100), .int k, .int x] : List Value).toArray s = true := fun w h => hts w (List.mem_cons_of_mem _ h)
  have hown : s.vm.findClass "PolynomialDeskModel" = some m.cls := hown
  have hl : lv_has ls 3 [(0, .ref (ad 100)), (1, .int k), (2, .int x)] := hl
  obtain ⟨F, B, hM, hBA, ⟨hF0, hF13, hF14, hF15, hF26⟩, hMt⟩ := id hD
  obtain ⟨h100, ⟨hF1, hF2, hF3, hF4, hF10⟩, ⟨hP1, hP2⟩, hcfg, ⟨dg, h101, hdg⟩, ⟨ex, h102, hex⟩, ⟨ys, h103, hys⟩, ⟨un, h104, hun⟩, ⟨cl, h105, hcl, hpB⟩⟩ := id hM
  have hct := zCt_le (n := n)
  refine lv_aload_n hx hb dM_about_0 rfl (lv_at hl 0 rfl) ?_
  refine lv_iconst (v := 0) hx hb dM_about_1 (by decide) ?_
  refine zw_put (v := .int 0) hx hb hT uM hown tM tM_ok nM Z h100 rfl 0 (by decide) (hT _ mf_M_52) (fun _ h9 => h9) rfl rfl rfl (by simp) dM_about_2 (fun H locs Z => ?_)
  have Z : zw G ad (va_up w 100 (some (oM ad (upd F 0 0)))) s H locs := Z
  have hM0 : zMod G ad (va_up w 100 (some (oM ad (upd F 0 0)))) P n o (upd F 0 0) _ := hM.put (by decide)
  have h1001 := hM0.1
  have hfin : zMd G ad (va_up w 100 (some (oM ad (upd F 0 0)))) P n o (A) (T) (len) (flt) (pl) (out) (0) ∧ zfm w (va_up w 100 (some (oM ad (upd F 0 0)))) := ⟨⟨_, B, hM0, hBA, ⟨rfl, hF13, hF14, hF15, hF26⟩, hMt.put⟩, zfm.up (by decide)⟩
  refine lv_iload_n hx hb dM_about_5 rfl (lv_at hl 1 rfl) ?_
  refine zw_calli (va_runS (As := [.int k]) (rest := []) ⟨hx, hb, hml, hown, hts⟩ (c_M_isPolynomial l k) (kw_M_isPolynomial hts ml_M_170 (zR_fit (by omega) (by omega))) (Z.preS _) rfl rfl hl.1 rfl (lv_room (Nat.le_of_ble_eq_true rfl)) dM_about_6 ⟨Nat.le_of_ble_eq_true rfl, Nat.le_of_ble_eq_true rfl⟩) Z (fun r wq H locs hp Z => ?_)
  obtain ⟨rfl, hw1⟩ := hp
  rw [hw1] at Z
  clear hw1
  refine lv_if_ne (tgt := 14) hx hb dM_about_9 (by decide) (fun hc => ?_) (fun hc => ?_)
  · have hzk := zb_t hc
    obtain ⟨j, hj, rfl⟩ := zip8_ok hzk
    have hab : ∀ x, zabt n o A (nI j) x = if x = 0 then nI (zcnt (fun i => nI (B j i)) (zCt n)) else if x = 1 then zdgr n o (fun i => nI (B j i)) else -1 := fun x => by unfold zabt; rw [if_pos hzk, ncl (by omega), hBA j hj]
    refine lv_iload_n hx hb dM_about_14 rfl (lv_at hl 2 rfl) ?_
    refine lv_if_ne (tgt := 26) hx hb dM_about_15 (by decide) (fun hc2 => ?_) (fun hc2 => ?_)
    · refine lv_iload_n hx hb dM_about_26 rfl (lv_at hl 2 rfl) ?_
      refine lv_iconst (v := 1) hx hb dM_about_27 (by decide) ?_
      refine lv_icmp_ne (tgt := 39) hx hb dM_about_28 (by decide) (fun hc3 => ?_) (fun hc3 => ?_)
      · refine lv_iconst (v := (-1)) hx hb dM_about_39 (by decide) ?_
        exact hret _ _ _ _ _ _ dM_about_40 (⟨by rw [hab, if_neg hc2, if_neg hc3], hfin⟩) Z
      · refine lv_aload_n hx hb dM_about_31 rfl (lv_at hl 0 rfl) ?_
        refine lv_iload_n hx hb dM_about_32 rfl (lv_at hl 1 rfl) ?_
        refine zw_calli (va_runV (As := [.int (nI j)]) (rest := []) ⟨hx, hb, hml, hown, hts⟩ (c_M_degreeOf l P n o _ B hM0 j (by omega)) (kw_M_degreeOf hts ml_M_96 (zR_fit (by omega) (by omega))) (Z.preV h1001 rfl _) rfl rfl hl.1 rfl (lv_room (Nat.le_of_ble_eq_true rfl)) dM_about_33 ⟨Nat.le_of_ble_eq_true rfl, Nat.le_of_ble_eq_true rfl⟩) Z (fun r wq H locs hp Z => ?_)
        obtain ⟨rfl, hw1⟩ := hp
        rw [hw1] at Z
        clear hw1
        refine lv_goto (tgt := 40) hx hb dM_about_36 (by decide) ?_
        exact hret _ _ _ _ _ _ dM_about_40 (⟨by rw [hab, if_neg hc2, if_pos hc3], hfin⟩) Z
    · refine lv_aload_n hx hb dM_about_18 rfl (lv_at hl 0 rfl) ?_
      refine lv_iload_n hx hb dM_about_19 rfl (lv_at hl 1 rfl) ?_
      refine zw_calli (va_runV (As := [.int (nI j)]) (rest := []) ⟨hx, hb, hml, hown, hts⟩ (c_M_terms l P n o _ B hM0 j (by omega)) (kw_M_terms hts ml_M_185 (zR_fit (by omega) (by omega))) (Z.preV h1001 rfl _) rfl rfl hl.1 rfl (lv_room (Nat.le_of_ble_eq_true rfl)) dM_about_20 ⟨Nat.le_of_ble_eq_true rfl, Nat.le_of_ble_eq_true rfl⟩) Z (fun r wq H locs hp Z => ?_)
      obtain ⟨rfl, hw1⟩ := hp
      rw [hw1] at Z
      clear hw1
      refine lv_goto (tgt := 40) hx hb dM_about_23 (by decide) ?_
      exact hret _ _ _ _ _ _ dM_about_40 (⟨by rw [hab, if_pos hc2], hfin⟩) Z
  · refine lv_iconst (v := (-1)) hx hb dM_about_12 (by decide) ?_
    exact hret _ _ _ _ _ _ dM_about_13 (⟨by unfold zabt; rw [if_neg (zb_nt (zb_f hc))], hfin⟩) Z
