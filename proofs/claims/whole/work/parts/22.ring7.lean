set_option maxHeartbeats 4000000 in
set_option maxRecDepth 100000 in
theorem c_R_recordMonomial (l : Launch) {G : zG} {ad : Nat → Nat} {w : Nat → Option va_E} (P n o : Nat) (F : Nat → Int32) (L : List (List Nat)) (D : List Nat) (c9 : Nat → Int32) (hB : zBld G ad w P n o F L D c9) (deg : Nat) (el : List Nat) (hlen : L.length < 126) (hel : ∀ v, v < 4 → c9 v = nI (el.getD v 0)) (hkey : zKm n el < 1296) (hnew : ∀ i, i < L.length → zKm n (L.getD i []) ≠ zKm n el) : Met l yR_recordMonomial wR_recordMonomial (zR (1)) (va_Pc [.ref (ad 1), .int (nI deg)] (zw_U G ad w)) (va_Qv (S := Nat → Option va_E) (fun w' => (∃ F' : Nat → Int32, zBld G ad w' P n o F' (L ++ [el]) (D ++ [deg]) c9) ∧ zfrm w w') (fun u t => zw_U G ((fun _ => ad) u) ((fun w' => w') u) t) (zA G)) 0 0 (zA G) := by
  refine zw_methv (S := Nat → Option va_E) (fa := fun _ => ad) (fw := fun w' => w') (by decide) rfl (Nat.le_of_ble_eq_true rfl) ?_
  intro p e s m below meth c Q ls C hname Z hl hret
  obtain ⟨hx, hb, hml, hown, hts, hlk⟩ := C
  have hT : ∀ w ∈ zT, w.before ([.ref (ad 1), .int (nI deg)] : List Value).toArray s = true := fun w h => hts w (List.mem_cons_of_mem _ h)
  have hown : s.vm.findClass "PolynomialDesk$Ring" = some m.cls := hown
  have hl : lv_has ls 4 [(0, .ref (ad 1)), (1, .int (nI deg))] := hl
  obtain ⟨h1, ⟨hF0, hF1, hF2, hF3, hF4⟩, hDL, h4, ⟨ex, hex⟩, ⟨dg, h5, hdg⟩, ⟨ky, h6, hky⟩, ⟨wt, h7, hwt⟩, ⟨ix, h8, hix⟩, h9⟩ := id hB
  refine lv_aload_n hx hb dR_recordMonomial_0 rfl (lv_at hl 0 rfl) ?_
  refine zw_get (v := .int (F 4)) hx hb hT uR hown Z h1 rfl 4 (by decide) (hT _ mf_R_54) (fun _ h9 => h9) rfl dR_recordMonomial_1 ?_
  refine lv_bipush (v := 126) hx hb dR_recordMonomial_4 (by decide) ?_
  refine lv_icmp_lt (tgt := 10) hx hb dR_recordMonomial_6 (by decide) (fun _ => ?_) (fun hc => absurd (show (F 4) < 126 from by rw [hF4]; exact nI_lt (b := 126) hlen (by decide)) hc)
  refine lv_iconst (v := 0) hx hb dR_recordMonomial_10 (by decide) ?_
  refine lv_istore_n (lv' := [(2, .int 0), (0, .ref (ad 1)), (1, .int (nI deg))]) hx hb dR_recordMonomial_11 rfl hl (by decide) rfl (fun ls hl => ?_)
  refine lv_iconst (v := 0) hx hb dR_recordMonomial_12 (by decide) ?_
  refine lv_istore_n (lv' := [(3, .int 0), (2, .int 0), (0, .ref (ad 1)), (1, .int (nI deg))]) hx hb dR_recordMonomial_13 rfl hl (by decide) rfl (fun ls hl => ?_)
  have loop : ∀ (k v : Nat) (H : Heap) (locs : List Loc) (ls : Array Slot), v + k = 4 → zw G ad (zwv G w ex c9 L.length (v)) s H locs → lv_has ls 4 [(3, .int (nI v)), (2, .int (nI (zkp n el v))), (0, .ref (ad 1)), (1, .int (nI deg))] → W p l e (zR (1)) s m ([.ref (ad 1), .int (nI deg)] : List Value).toArray below meth c H locs 0 0 Q (F0 m 14 ls []) := by
    intro k
    induction k with
    | zero =>
      intro v H locs ls hv Z hl
      rw [show v = 4 by omega] at Z hl
      rw [zkp_4] at hl
      have h11 : (zwv G w ex c9 L.length (4)) 1 = some (oR ad F) := by rw [zwv_lo _ _ _ _ _ _ (by omega)]; exact h1
      have h41 : (zwv G w ex c9 L.length (4)) 4 = some (zq G 4 (fun v => some (ad (16 + v)))) := by rw [zwv_lo _ _ _ _ _ _ (by omega)]; exact h4
      have h51 : (zwv G w ex c9 L.length (4)) 5 = some (zi G 126 dg) := by rw [zwv_lo _ _ _ _ _ _ (by omega)]; exact h5
      have h61 : (zwv G w ex c9 L.length (4)) 6 = some (zi G 126 ky) := by rw [zwv_lo _ _ _ _ _ _ (by omega)]; exact h6
      have h71 : (zwv G w ex c9 L.length (4)) 7 = some (zi G 4 wt) := by rw [zwv_lo _ _ _ _ _ _ (by omega)]; exact h7
      have h81 : (zwv G w ex c9 L.length (4)) 8 = some (zi G 1296 ix) := by rw [zwv_lo _ _ _ _ _ _ (by omega)]; exact h8
      have h91 : (zwv G w ex c9 L.length (4)) 9 = some (zi G 4 c9) := by rw [zwv_lo _ _ _ _ _ _ (by omega)]; exact h9
      refine lv_iload_n hx hb dR_recordMonomial_14 rfl (lv_at hl 0 rfl) ?_
      refine lv_iconst (v := 4) hx hb dR_recordMonomial_15 (by decide) ?_
      refine lv_icmp_ge (tgt := 58) hx hb dR_recordMonomial_16 (by decide) (fun _ => ?_) (fun hc => absurd (show 4 ≤ (nI 4) from by decide) hc)
      refine lv_aload_n hx hb dR_recordMonomial_58 rfl (lv_at hl 2 rfl) ?_
      refine zw_get (v := .ref (ad 5)) hx hb hT uR hown Z h11 rfl 6 (by decide) (hT _ mf_R_16) (fun _ h9 => h9) rfl dR_recordMonomial_59 ?_
      refine lv_aload_n hx hb dR_recordMonomial_62 rfl (lv_at hl 2 rfl) ?_
      refine zw_get (v := .int (F 4)) hx hb hT uR hown Z h11 rfl 4 (by decide) (hT _ mf_R_54) (fun _ h9 => h9) rfl dR_recordMonomial_63 ?_
      refine zw_top (nI L.length) (hF4) ?_
      refine lv_iload_n hx hb dR_recordMonomial_66 rfl (lv_at hl 3 rfl) ?_
      refine zw_iast hx hb Z h51 (vin hlen (by decide)) dR_recordMonomial_67 (fun H locs Z => ?_)
      rw [ncl (by omega)] at Z
      obtain ⟨w5, hw5⟩ : ∃ w5, w5 = va_up (zwv G w ex c9 L.length (4)) 5 (some (zi G 126 (upd dg L.length (nI deg)))) := ⟨_, rfl⟩
      rw [← hw5] at Z
      have h11 : w5 1 = some (oR ad F) := by rw [hw5, va_up_ne _ _ (by decide)]; exact h11
      have h41 : w5 4 = some (zq G 4 (fun v => some (ad (16 + v)))) := by rw [hw5, va_up_ne _ _ (by decide)]; exact h41
      have h61 : w5 6 = some (zi G 126 ky) := by rw [hw5, va_up_ne _ _ (by decide)]; exact h61
      have h71 : w5 7 = some (zi G 4 wt) := by rw [hw5, va_up_ne _ _ (by decide)]; exact h71
      have h81 : w5 8 = some (zi G 1296 ix) := by rw [hw5, va_up_ne _ _ (by decide)]; exact h81
      have h91 : w5 9 = some (zi G 4 c9) := by rw [hw5, va_up_ne _ _ (by decide)]; exact h91
      refine lv_aload_n hx hb dR_recordMonomial_68 rfl (lv_at hl 2 rfl) ?_
      refine zw_get (v := .ref (ad 6)) hx hb hT uR hown Z h11 rfl 7 (by decide) (hT _ mf_R_20) (fun _ h9 => h9) rfl dR_recordMonomial_69 ?_
      refine lv_aload_n hx hb dR_recordMonomial_72 rfl (lv_at hl 2 rfl) ?_
      refine zw_get (v := .int (F 4)) hx hb hT uR hown Z h11 rfl 4 (by decide) (hT _ mf_R_54) (fun _ h9 => h9) rfl dR_recordMonomial_73 ?_
      refine zw_top (nI L.length) (hF4) ?_
      refine lv_iload_n hx hb dR_recordMonomial_76 rfl (lv_at hl 1 rfl) ?_
      refine zw_iast hx hb Z h61 (vin hlen (by decide)) dR_recordMonomial_77 (fun H locs Z => ?_)
      rw [ncl (by omega)] at Z
      obtain ⟨w6, hw6⟩ : ∃ w6, w6 = va_up w5 6 (some (zi G 126 (upd ky L.length (nI (zKm n el))))) := ⟨_, rfl⟩
      rw [← hw6] at Z
      have h11 : w6 1 = some (oR ad F) := by rw [hw6, va_up_ne _ _ (by decide)]; exact h11
      have h41 : w6 4 = some (zq G 4 (fun v => some (ad (16 + v)))) := by rw [hw6, va_up_ne _ _ (by decide)]; exact h41
      have h71 : w6 7 = some (zi G 4 wt) := by rw [hw6, va_up_ne _ _ (by decide)]; exact h71
      have h81 : w6 8 = some (zi G 1296 ix) := by rw [hw6, va_up_ne _ _ (by decide)]; exact h81
      have h91 : w6 9 = some (zi G 4 c9) := by rw [hw6, va_up_ne _ _ (by decide)]; exact h91
      refine lv_iload_n hx hb dR_recordMonomial_78 rfl (lv_at hl 1 rfl) ?_
      refine lv_if_lt (tgt := 99) hx hb dR_recordMonomial_79 (by decide) (fun hc => absurd hc (show ¬ ((nI (zKm n el)) < 0) from nI_pos (by omega))) (fun _ => ?_)
      refine lv_iload_n hx hb dR_recordMonomial_82 rfl (lv_at hl 1 rfl) ?_
      refine lv_sipush (v := 1296) hx hb dR_recordMonomial_83 (by decide) ?_
      refine lv_icmp_ge (tgt := 99) hx hb dR_recordMonomial_86 (by decide) (fun hc => absurd hc (show ¬ (1296 ≤ (nI (zKm n el))) from nI_ge (b := 1296) hkey (by decide))) (fun _ => ?_)
      refine lv_aload_n hx hb dR_recordMonomial_89 rfl (lv_at hl 2 rfl) ?_
      refine zw_get (v := .ref (ad 8)) hx hb hT uR hown Z h11 rfl 9 (by decide) (hT _ mf_R_26) (fun _ h9 => h9) rfl dR_recordMonomial_90 ?_
      refine lv_iload_n hx hb dR_recordMonomial_93 rfl (lv_at hl 1 rfl) ?_
      refine lv_aload_n hx hb dR_recordMonomial_94 rfl (lv_at hl 2 rfl) ?_
      refine zw_get (v := .int (F 4)) hx hb hT uR hown Z h11 rfl 4 (by decide) (hT _ mf_R_54) (fun _ h9 => h9) rfl dR_recordMonomial_95 ?_
      refine zw_top (nI L.length) (hF4) ?_
      refine zw_iast hx hb Z h81 (vin hkey (by decide)) dR_recordMonomial_98 (fun H locs Z => ?_)
      rw [ncl (by omega)] at Z
      obtain ⟨w8, hw8⟩ : ∃ w8, w8 = va_up w6 8 (some (zi G 1296 (upd ix (zKm n el) (nI L.length)))) := ⟨_, rfl⟩
      rw [← hw8] at Z
      have h11 : w8 1 = some (oR ad F) := by rw [hw8, va_up_ne _ _ (by decide)]; exact h11
      have h41 : w8 4 = some (zq G 4 (fun v => some (ad (16 + v)))) := by rw [hw8, va_up_ne _ _ (by decide)]; exact h41
      have h71 : w8 7 = some (zi G 4 wt) := by rw [hw8, va_up_ne _ _ (by decide)]; exact h71
      have h91 : w8 9 = some (zi G 4 c9) := by rw [hw8, va_up_ne _ _ (by decide)]; exact h91
      refine lv_aload_n hx hb dR_recordMonomial_99 rfl (lv_at hl 2 rfl) ?_
      refine lv_dup hx hb dR_recordMonomial_100 rfl ?_
      refine zw_get (v := .int (F 4)) hx hb hT uR hown Z h11 rfl 4 (by decide) (hT _ mf_R_54) (fun _ h9 => h9) rfl dR_recordMonomial_101 ?_
      refine zw_top (nI L.length) (hF4) ?_
      refine lv_iconst (v := 1) hx hb dR_recordMonomial_104 (by decide) ?_
      refine lv_iadd hx hb dR_recordMonomial_105 ?_
      refine zw_top (nI (L.length + 1)) (nI_1 _) ?_
      refine zw_put (v := .int (nI (L.length + 1))) hx hb hT uR hown tR tR_ok nR Z h11 rfl 4 (by decide) (hT _ mf_R_54) (fun _ h9 => h9) rfl rfl rfl (by simp) dR_recordMonomial_106 (fun H locs Z => ?_)
      have Z : zw G ad (va_up w8 1 (some (oR ad (upd F 4 (nI (L.length + 1)))))) s H locs := Z
      have look : ∀ k, k ≠ 1 → k ≠ 5 → k ≠ 6 → k ≠ 8 → va_up w8 1 (some (oR ad (upd F 4 (nI (L.length + 1))))) k = (zwv G w ex c9 L.length (4)) k := fun k a1 a2 a3 a4 => by rw [va_up_ne _ _ a1, hw8, va_up_ne _ _ a4, hw6, va_up_ne _ _ a3, hw5, va_up_ne _ _ a2]
      have post : zBld G ad (va_up w8 1 (some (oR ad (upd F 4 (nI (L.length + 1)))))) P n o (upd F 4 (nI (L.length + 1))) (L ++ [el]) (D ++ [deg]) c9 := by
        refine ⟨va_up_self _ _ _, ⟨hF0, hF1, hF2, hF3, by rw [List.length_append]; rfl⟩, by rw [List.length_append, List.length_append, hDL]; rfl, ?_, ⟨fun v => upd (ex v) L.length (c9 v), fun v hv => ⟨?_, fun i hi => ?_⟩⟩, ⟨upd dg L.length (nI deg), ?_, fun i hi => ?_⟩, ⟨upd ky L.length (nI (zKm n el)), ?_, fun i hi => ?_⟩, ⟨wt, ?_, hwt⟩, ⟨upd ix (zKm n el) (nI L.length), ?_, fun i hi => ?_⟩, ?_⟩
        · rw [look 4 (by decide) (by decide) (by decide) (by decide), zwv_lo _ _ _ _ _ _ (by omega)]; exact h4
        · rw [look (16 + v) (by omega) (by omega) (by omega) (by omega)]
          unfold zwv
          rw [if_pos (by omega), show 16 + v - 16 = v by omega]
        · rw [List.length_append] at hi
          by_cases h : i < L.length
          · rw [getD_old h]
            simp only [upd, Nat.ne_of_lt h, if_false]
            exact (hex v hv).2 i h
          · rw [show i = L.length by simp at hi; omega, getD_new]
            simp only [upd, if_true]
            exact hel v hv
        · rw [va_up_ne _ _ (by decide), hw8, va_up_ne _ _ (by decide), hw6, va_up_ne _ _ (by decide), hw5, va_up_self]
        · rw [List.length_append] at hi
          by_cases h : i < L.length
          · rw [getD_old (by omega)]
            simp only [upd, Nat.ne_of_lt h, if_false]
            exact hdg i h
          · rw [show i = L.length by simp at hi; omega, ← hDL, getD_new]
            simp [upd]
        · rw [va_up_ne _ _ (by decide), hw8, va_up_ne _ _ (by decide), hw6, va_up_self]
        · rw [List.length_append] at hi
          by_cases h : i < L.length
          · rw [getD_old h]
            simp only [upd, Nat.ne_of_lt h, if_false]
            exact hky i h
          · rw [show i = L.length by simp at hi; omega, getD_new]
            simp [upd]
        · rw [look 7 (by decide) (by decide) (by decide) (by decide), zwv_lo _ _ _ _ _ _ (by omega)]; exact h7
        · rw [va_up_ne _ _ (by decide), hw8, va_up_self]
        · rw [List.length_append] at hi
          by_cases h : i < L.length
          · rw [getD_old h]
            simp only [upd, hnew i h, if_false]
            exact hix i h
          · rw [show i = L.length by simp at hi; omega, getD_new]
            simp [upd]
        · rw [look 9 (by decide) (by decide) (by decide) (by decide), zwv_lo _ _ _ _ _ _ (by omega)]; exact h9
      exact hret _ _ _ _ _ dR_recordMonomial_109 (⟨⟨_, post⟩, fun k hk => by rw [look k (by omega) (by omega) (by omega) (by omega)]; exact zwv_lo _ _ _ _ _ _ (by omega)⟩) Z
    | succ k ih =>
      intro v H locs ls hv Z hl
      have h11 : (zwv G w ex c9 L.length (v)) 1 = some (oR ad F) := by rw [zwv_lo _ _ _ _ _ _ (by omega)]; exact h1
      have h41 : (zwv G w ex c9 L.length (v)) 4 = some (zq G 4 (fun v => some (ad (16 + v)))) := by rw [zwv_lo _ _ _ _ _ _ (by omega)]; exact h4
      have h51 : (zwv G w ex c9 L.length (v)) 5 = some (zi G 126 dg) := by rw [zwv_lo _ _ _ _ _ _ (by omega)]; exact h5
      have h61 : (zwv G w ex c9 L.length (v)) 6 = some (zi G 126 ky) := by rw [zwv_lo _ _ _ _ _ _ (by omega)]; exact h6
      have h71 : (zwv G w ex c9 L.length (v)) 7 = some (zi G 4 wt) := by rw [zwv_lo _ _ _ _ _ _ (by omega)]; exact h7
      have h81 : (zwv G w ex c9 L.length (v)) 8 = some (zi G 1296 ix) := by rw [zwv_lo _ _ _ _ _ _ (by omega)]; exact h8
      have h91 : (zwv G w ex c9 L.length (v)) 9 = some (zi G 4 c9) := by rw [zwv_lo _ _ _ _ _ _ (by omega)]; exact h9
      have hxv : (zwv G w ex c9 L.length (v)) (16 + v) = some (zi G 126 (ex v)) := by rw [zwv_lo _ _ _ _ _ _ (by omega)]; exact (hex v (by omega)).1
      refine lv_iload_n hx hb dR_recordMonomial_14 rfl (lv_at hl 0 rfl) ?_
      refine lv_iconst (v := 4) hx hb dR_recordMonomial_15 (by decide) ?_
      refine lv_icmp_ge (tgt := 58) hx hb dR_recordMonomial_16 (by decide) (fun hc => absurd hc (show ¬ (4 ≤ (nI v)) from nI_ge (b := 4) (by omega) (by decide))) (fun _ => ?_)
      refine lv_aload_n hx hb dR_recordMonomial_19 rfl (lv_at hl 2 rfl) ?_
      refine zw_get (v := .ref (ad 4)) hx hb hT uR hown Z h11 rfl 5 (by decide) (hT _ mf_R_13) (fun _ h9 => h9) rfl dR_recordMonomial_20 ?_
      refine lv_iload_n hx hb dR_recordMonomial_23 rfl (lv_at hl 0 rfl) ?_
      refine zw_aald (v := .ref (ad (16 + v))) hx hb Z h41 (vin (by omega) (by decide)) (by rw [ncl (by omega)]; rfl) dR_recordMonomial_24 ?_
      refine lv_aload_n hx hb dR_recordMonomial_25 rfl (lv_at hl 2 rfl) ?_
      refine zw_get (v := .int (F 4)) hx hb hT uR hown Z h11 rfl 4 (by decide) (hT _ mf_R_54) (fun _ h9 => h9) rfl dR_recordMonomial_26 ?_
      refine zw_top (nI L.length) (hF4) ?_
      refine lv_aload_n hx hb dR_recordMonomial_29 rfl (lv_at hl 2 rfl) ?_
      refine zw_get (v := .ref (ad 9)) hx hb hT uR hown Z h11 rfl 10 (by decide) (hT _ mf_R_29) (fun _ h9 => h9) rfl dR_recordMonomial_30 ?_
      refine lv_iload_n hx hb dR_recordMonomial_33 rfl (lv_at hl 0 rfl) ?_
      refine zw_iald hx hb Z h91 (vin (by omega) (by decide)) dR_recordMonomial_34 ?_
      refine zw_top (c9 v) (by rw [ncl (by omega)]) ?_
      refine zw_iast hx hb Z hxv (vin hlen (by decide)) dR_recordMonomial_35 (fun H locs Z => ?_)
      rw [ncl (by omega), zwv_s] at Z
      have h11 : (zwv G w ex c9 L.length (v + 1)) 1 = some (oR ad F) := by rw [zwv_lo _ _ _ _ _ _ (by omega)]; exact h1
      have h41 : (zwv G w ex c9 L.length (v + 1)) 4 = some (zq G 4 (fun v => some (ad (16 + v)))) := by rw [zwv_lo _ _ _ _ _ _ (by omega)]; exact h4
      have h51 : (zwv G w ex c9 L.length (v + 1)) 5 = some (zi G 126 dg) := by rw [zwv_lo _ _ _ _ _ _ (by omega)]; exact h5
      have h61 : (zwv G w ex c9 L.length (v + 1)) 6 = some (zi G 126 ky) := by rw [zwv_lo _ _ _ _ _ _ (by omega)]; exact h6
      have h71 : (zwv G w ex c9 L.length (v + 1)) 7 = some (zi G 4 wt) := by rw [zwv_lo _ _ _ _ _ _ (by omega)]; exact h7
      have h81 : (zwv G w ex c9 L.length (v + 1)) 8 = some (zi G 1296 ix) := by rw [zwv_lo _ _ _ _ _ _ (by omega)]; exact h8
      have h91 : (zwv G w ex c9 L.length (v + 1)) 9 = some (zi G 4 c9) := by rw [zwv_lo _ _ _ _ _ _ (by omega)]; exact h9
      refine lv_iload_n hx hb dR_recordMonomial_36 rfl (lv_at hl 1 rfl) ?_
      refine lv_aload_n hx hb dR_recordMonomial_37 rfl (lv_at hl 2 rfl) ?_
      refine zw_get (v := .ref (ad 9)) hx hb hT uR hown Z h11 rfl 10 (by decide) (hT _ mf_R_29) (fun _ h9 => h9) rfl dR_recordMonomial_38 ?_
      refine lv_iload_n hx hb dR_recordMonomial_41 rfl (lv_at hl 0 rfl) ?_
      refine zw_iald hx hb Z h91 (vin (by omega) (by decide)) dR_recordMonomial_42 ?_
      refine zw_top (nI (el.getD v 0)) (by rw [ncl (by omega)]; exact hel v (by omega)) ?_
      refine lv_aload_n hx hb dR_recordMonomial_43 rfl (lv_at hl 2 rfl) ?_
      refine zw_get (v := .ref (ad 7)) hx hb hT uR hown Z h11 rfl 8 (by decide) (hT _ mf_R_23) (fun _ h9 => h9) rfl dR_recordMonomial_44 ?_
      refine lv_iload_n hx hb dR_recordMonomial_47 rfl (lv_at hl 0 rfl) ?_
      refine zw_iald hx hb Z h71 (vin (by omega) (by decide)) dR_recordMonomial_48 ?_
      refine zw_top (nI (zWt n v)) (by rw [ncl (by omega)]; exact hwt v (by omega)) ?_
      refine lv_imul hx hb dR_recordMonomial_49 ?_
      refine zw_top (nI (el.getD v 0 * zWt n v)) (pk_mul _ _) ?_
      refine lv_iadd hx hb dR_recordMonomial_50 ?_
      refine zw_top (nI (zkp n el (v + 1))) (nI_add _ _) ?_
      refine lv_istore_n (lv' := [(2, .int (nI (zkp n el (v + 1)))), (3, .int (nI v)), (0, .ref (ad 1)), (1, .int (nI deg))]) hx hb dR_recordMonomial_51 rfl hl (by decide) rfl (fun ls hl => ?_)
      refine lv_iinc (v := (nI (v + 1))) (lv' := [(3, .int (nI (v + 1))), (2, .int (nI (zkp n el (v + 1)))), (0, .ref (ad 1)), (1, .int (nI deg))]) hx hb dR_recordMonomial_52 hl (k := 1) rfl (nI_1 v) (by decide) rfl (fun ls hl => ?_)
      refine lv_goto (tgt := 14) hx hb dR_recordMonomial_55 (by decide) ?_
      exact ih (v + 1) _ _ ls (by omega) Z (lv_sub hl [0, 1, 2, 3] rfl)
  exact loop 4 0 _ _ ls (by omega) (by rw [zwv_0]; exact Z) hl
