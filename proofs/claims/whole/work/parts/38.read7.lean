/-- the text grows -/
theorem zRdr.text {G : zG} {ad : Nat → Nat} {w : Nat → Option va_E} {P n o : Nat} {FR FE FE' : Nat → Int32} {T T' : Nat → Nat} {len len' : Nat} {tx : Nat → Int32} (h : zRdr G ad w P n o FR FE T len) (hT : ∀ i, T' i < 256) (hl : len' ≤ 200) (h2 : FE' 2 = nI len') (ht : ∀ i, i < len' → tx i = nI (T' i)) : zRdr G ad (va_up (va_up w 10 (some (zc G 200 tx))) 2 (some (oE ad FE'))) P n o FR FE' T' len' := by
  obtain ⟨a1, a2, -, a4, a5, a6, a7, a8, a9⟩ := h
  have e : ∀ k, k ≠ 2 → k ≠ 10 → (va_up (va_up w 10 (some (zc G 200 tx))) 2 (some (oE ad FE'))) k = w k := fun k h1 h2 => by rw [va_up_ne _ _ h1, va_up_ne _ _ h2]
  refine ⟨?_, va_up_self _ _ _, ⟨tx, by rw [va_up_ne _ _ (by decide)]; exact va_up_self _ _ _, ht⟩, hT, hl, h2, by rw [e _ (by decide) (by decide)]; exact a7, by rw [e _ (by decide) (by decide)]; exact a8, fun k h1 h3 => by rw [e _ (by omega) (by omega)]; exact a9 k h1 h3⟩
  obtain ⟨b1, b2, b3, b4, b5, b6, b7, b8, b9, b10, b11⟩ := a1
  exact ⟨by rw [e _ (by decide) (by decide)]; exact b1, b2, b3, b4, by rw [e _ (by decide) (by decide)]; exact b5, fun v hv => by rw [e _ (by omega) (by omega)]; exact b6 v hv, by rw [e _ (by decide) (by decide)]; exact b7, by rw [e _ (by decide) (by decide)]; exact b8, by rw [e _ (by decide) (by decide)]; exact b9, by rw [e _ (by decide) (by decide)]; exact b10, by rw [e _ (by decide) (by decide)]; exact b11⟩

set_option maxHeartbeats 4000000 in
set_option maxRecDepth 100000 in
theorem c_E_takeBytes (l : Launch) {G : zG} {ad : Nat → Nat} {w : Nat → Option va_E} (P n o : Nat) (FR FE : Nat → Int32) (T : Nat → Nat) (len : Nat) (hE : zRdr G ad w P n o FR FE T len) (v : Int64) (q : Int32) : Met l yE_takeBytes wE_takeBytes (zR (1)) (va_Pc [.ref (ad 2), .long v, .int q] (zw_U G ad w)) (va_Qi (S := Nat → Option va_E) (fun r w' => r = zb (zfit len q) ∧ zRdr G ad w' P n o FR (upd FE 2 (nI (zlen len q))) (zapp T len v q) (zlen len q) ∧ ∀ k, k ≠ 2 → k ≠ 10 → w' k = w k) (fun u t => zw_U G ((fun _ => ad) u) ((fun w' => w') u) t) (zA G)) 0 0 (zA G) := by
  refine zw_methz (S := Nat → Option va_E) (fa := fun _ => ad) (fw := fun w' => w') (by decide) rfl (Nat.le_of_ble_eq_true rfl) (fun r u h => by rw [h.1]; exact zb_nar _) ?_
  intro p e s m below meth c Q ls C hname Z hl hret
  obtain ⟨hx, hb, hml, hown, hts, hlk⟩ := C
  have hT : ∀ w ∈ zT, w.before ([.ref (ad 2), .long v, .int q] : List Value).toArray s = true := fun w h => hts w (List.mem_cons_of_mem _ h)
  have hown : s.vm.findClass "PolynomialDesk$Reader" = some m.cls := hown
  have hl : lv_has ls 5 [(0, .ref (ad 2)), (1, .long v), (3, .int q)] := hl
  obtain ⟨hR, h2, ⟨tx, h10, htx⟩, hTb, hlen, hFl, -⟩ := id hE
  have hno : ¬ zfit len q = true → (zb false = zb (zfit len q) ∧ zRdr G ad w P n o FR (upd FE 2 (nI (zlen len q))) (zapp T len v q) (zlen len q) ∧ ∀ k, k ≠ 2 → k ≠ 10 → w k = w k) := fun h => by
    rw [zlen_no h, zapp_no h, zfit_no h, upd_same hFl]
    exact ⟨rfl, hE, fun _ _ _ => rfl⟩
  have refuse : ¬ zfit len q = true → W p l e (zR (1)) s m ([.ref (ad 2), .long v, .int q] : List Value).toArray below meth c s.heap [] 0 0 Q (F0 m 22 ls []) := by
    intro hf
    refine lv_iconst (v := 0) hx hb dE_takeBytes_22 (by decide) ?_
    exact hret _ _ _ _ _ _ dE_takeBytes_23 (hno hf) Z
  refine lv_iload_n hx hb dE_takeBytes_0 rfl (lv_at hl 2 rfl) ?_
  refine lv_if_lt (tgt := 22) hx hb dE_takeBytes_1 (by decide) (fun hc => ?_) (fun hc => ?_)
  · exact refuse (fun h => (of_decide_eq_true h).1 hc)
  · refine lv_iload_n hx hb dE_takeBytes_4 rfl (lv_at hl 2 rfl) ?_
    refine lv_bipush (v := 8) hx hb dE_takeBytes_5 (by decide) ?_
    refine lv_icmp_gt (tgt := 22) hx hb dE_takeBytes_7 (by decide) (fun hc2 => ?_) (fun hc2 => ?_)
    · exact refuse (fun h => absurd (of_decide_eq_true h).2.1 (by rw [Int32.not_le]; exact hc2))
    · obtain ⟨k, hk8, rfl⟩ := nI_of2 (M := 8) (n := 8) rfl hc (by rw [Int32.not_lt] at hc2; exact hc2)
      refine lv_aload_n hx hb dE_takeBytes_10 rfl (lv_at hl 0 rfl) ?_
      refine zw_get (v := .int (FE 2)) hx hb hT uE hown Z h2 rfl 2 (by decide) (hT _ mf_E_37) (fun _ h9 => h9) rfl dE_takeBytes_11 ?_
      refine zw_top (nI len) (hFl) ?_
      refine lv_iload_n hx hb dE_takeBytes_14 rfl (lv_at hl 2 rfl) ?_
      refine lv_iadd hx hb dE_takeBytes_15 ?_
      refine zw_top (nI (len + k)) (nI_add len k) ?_
      refine lv_sipush (v := 200) hx hb dE_takeBytes_16 (by decide) ?_
      refine lv_icmp_le (tgt := 24) hx hb dE_takeBytes_19 (by decide) (fun hc3 => ?_) (fun hc3 => ?_)
      · have hk2 : len + k ≤ 200 := (nI_leI (b := 200) (by omega) (by decide)).mp hc3
        rw [zlen_yes hk8 hk2, zapp_yes hk8 hk2, zfit_yes hk8 hk2] at hret
        refine lv_iload_n hx hb dE_takeBytes_24 rfl (lv_at hl 2 rfl) ?_
        refine lv_iconst (v := 1) hx hb dE_takeBytes_25 (by decide) ?_
        refine lv_isub hx hb dE_takeBytes_26 ?_
        refine lv_istore (lv' := [(4, .int ((nI k) - 1)), (0, .ref (ad 2)), (1, .long v), (3, .int (nI k))]) hx hb dE_takeBytes_27 hl (by decide) rfl (fun ls hl => ?_)
        have loop : ∀ (j : Nat) (ty : Nat → Int32) (H : Heap) (locs : List Loc) (ls : Array Slot), j ≤ k → (∀ i, i < len + (k - j) → ty i = nI (zapk T len v k i)) → zw G ad (va_up (va_up w 10 (some (zc G 200 ty))) 2 (some (oE ad (upd FE 2 (nI (len + (k - j))))))) s H locs → lv_has ls 5 [(4, .int (nI j - 1)), (0, .ref (ad 2)), (1, .long v), (3, .int (nI k))] → W p l e (zR (1)) s m ([.ref (ad 2), .long v, .int (nI k)] : List Value).toArray below meth c H locs 0 0 Q (F0 m 29 ls []) := by
          intro j
          induction j with
          | zero =>
            intro ty H locs ls hj hty Z hl
            refine lv_iload hx hb dE_takeBytes_29 (lv_at hl 0 rfl) ?_
            refine lv_if_lt (tgt := 72) hx hb dE_takeBytes_31 (by decide) (fun _ => ?_) (fun hc => absurd (show ((nI 0 - 1) : Int32) < 0 from by decide) hc)
            refine lv_iconst (v := 1) hx hb dE_takeBytes_72 (by decide) ?_
            exact hret _ _ _ _ _ _ dE_takeBytes_73 (⟨rfl, hE.text (zapk_lt hTb) hk2 rfl hty, fun i h1 h2 => by rw [va_up_ne _ _ h1, va_up_ne _ _ h2]⟩) Z
          | succ j ih =>
            intro ty H locs ls hj hty Z hl
            rw [nI_pred] at hl
            obtain ⟨L, hL⟩ : ∃ L, L = len + (k - (j + 1)) := ⟨_, rfl⟩
            rw [← hL] at hty Z
            have g2 : (va_up (va_up w 10 (some (zc G 200 ty))) 2 (some (oE ad (upd FE 2 (nI L))))) 2 = some (oE ad (upd FE 2 (nI L))) := va_up_self _ _ _
            have g10 : (va_up (va_up w 10 (some (zc G 200 ty))) 2 (some (oE ad (upd FE 2 (nI L))))) 10 = some (zc G 200 ty) := by rw [va_up_ne _ _ (by decide), va_up_self]
            refine lv_iload hx hb dE_takeBytes_29 (lv_at hl 0 rfl) ?_
            refine lv_if_lt (tgt := 72) hx hb dE_takeBytes_31 (by decide) (fun hc => absurd hc (show ¬ (((nI j) : Int32) < 0) from nI_pos (by omega))) (fun _ => ?_)
            refine lv_aload_n hx hb dE_takeBytes_34 rfl (lv_at hl 1 rfl) ?_
            refine zw_get (v := .ref (ad 10)) hx hb hT uE hown Z g2 rfl 1 (by decide) (hT _ mf_E_15) (fun _ h9 => h9) rfl dE_takeBytes_35 ?_
            refine lv_aload_n hx hb dE_takeBytes_38 rfl (lv_at hl 1 rfl) ?_
            refine zw_get (v := .int ((upd FE 2 (nI L)) 2)) hx hb hT uE hown Z g2 rfl 2 (by decide) (hT _ mf_E_37) (fun _ h9 => h9) rfl dE_takeBytes_39 ?_
            refine zw_top (nI L) (rfl) ?_
            refine lv_lload_n hx hb dE_takeBytes_42 rfl (lv_at hl 2 rfl) ?_
            refine lv_bipush (v := 8) hx hb dE_takeBytes_43 (by decide) ?_
            refine lv_iload hx hb dE_takeBytes_45 (lv_at hl 0 rfl) ?_
            refine lv_imul hx hb dE_takeBytes_47 ?_
            refine lv_lushr hx hb dE_takeBytes_48 rfl ?_
            refine lv_ldc2 hx hb hown (hT _ mq_E_40) dE_takeBytes_49 ?_
            refine lv_land hx hb dE_takeBytes_52 ?_
            refine lv_l2i hx hb dE_takeBytes_53 rfl ?_
            refine zw_top (nI (zbyt v j)) (zbyt_c v (by omega)) ?_
            refine lv_i2c hx hb dE_takeBytes_54 rfl ?_
            refine zw_top (nI (zbyt v j)) (zbyt_ch v j) ?_
            refine zw_cast hx hb Z g10 (vin (by omega) (by decide)) ((pk_charN (by have := zbyt_lt v j; omega)).1) dE_takeBytes_55 (fun H locs Z => ?_)
            rw [ncl (by omega)] at Z
            have Z : zw G ad (va_up (va_up (va_up w 10 (some (zc G 200 ty))) 2 (some (oE ad (upd FE 2 (nI L))))) 10 (some (zc G 200 (upd ty L (nI (zbyt v j)))))) s H locs := Z
            have g2 : (va_up (va_up (va_up w 10 (some (zc G 200 ty))) 2 (some (oE ad (upd FE 2 (nI L))))) 10 (some (zc G 200 (upd ty L (nI (zbyt v j)))))) 2 = some (oE ad (upd FE 2 (nI L))) := by rw [va_up_ne _ _ (by decide), va_up_self]
            refine lv_aload_n hx hb dE_takeBytes_56 rfl (lv_at hl 1 rfl) ?_
            refine lv_dup hx hb dE_takeBytes_57 rfl ?_
            refine zw_get (v := .int ((upd FE 2 (nI L)) 2)) hx hb hT uE hown Z g2 rfl 2 (by decide) (hT _ mf_E_37) (fun _ h9 => h9) rfl dE_takeBytes_58 ?_
            refine zw_top (nI L) (rfl) ?_
            refine lv_iconst (v := 1) hx hb dE_takeBytes_61 (by decide) ?_
            refine lv_iadd hx hb dE_takeBytes_62 ?_
            refine zw_top (nI (L + 1)) (nI_1 L) ?_
            refine zw_put (v := .int (nI (L + 1))) hx hb hT uE hown tE tE_ok nE Z g2 rfl 2 (by decide) (hT _ mf_E_37) (fun _ h9 => h9) rfl rfl rfl (by simp) dE_takeBytes_63 (fun H locs Z => ?_)
            have Z : zw G ad (va_up (va_up (va_up (va_up w 10 (some (zc G 200 ty))) 2 (some (oE ad (upd FE 2 (nI L))))) 10 (some (zc G 200 (upd ty L (nI (zbyt v j)))))) 2 (some (oE ad (upd (upd FE 2 (nI L)) 2 (nI (L + 1)))))) s H locs := Z
            rw [upd_upd, zup_comm (a := 2) (b := 10) (by decide), bx_uu, bx_uu] at Z
            refine lv_iinc (v := ((nI j) + (-1))) (lv' := [(4, .int ((nI j) + (-1))), (0, .ref (ad 2)), (1, .long v), (3, .int (nI k))]) hx hb dE_takeBytes_66 hl (k := 0) rfl (rfl) (by decide) rfl (fun ls hl => ?_)
            refine lv_goto (tgt := 29) hx hb dE_takeBytes_69 (by decide) ?_
            exact ih (upd ty L (nI (zbyt v j))) _ _ ls (by omega) (fun i hi => by
              by_cases e9 : i = L
              · subst e9
                rw [pk_us]
                unfold zapk
                rw [if_neg (by omega), if_pos (by omega)]
                congr 2
                omega
              · rw [pk_un e9]
                exact hty i (by omega)) (by rw [show len + (k - j) = L + 1 by omega]; exact Z) (by rw [zm1]; exact (lv_sub hl [0, 1, 2, 3] rfl))
        exact loop k tx _ _ ls (Nat.le_refl _) (fun i hi => by rw [htx i (by omega)]; unfold zapk; rw [if_pos (by omega)]) (by rw [Nat.sub_self, Nat.add_zero, upd_same hFl, zup_id h10, zup_id h2]; exact Z) hl
      · exact refuse (fun h => hc3 (by
          obtain ⟨k2, h1, h2, h3⟩ := zfit_ok h
          have := (nI_eq (by omega) (by omega)).mp h1
          subst this
          exact nI_le (b := 200) h3 (by decide)))
