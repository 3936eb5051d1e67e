theorem zdgt_31 {n o : Nat} (h : zCfg n o) (i v : Nat) : zdgt n i v ≤ 30 := by
  have h2 := (zHi_le (n := n)).2
  unfold zdgt
  split
  · have := Nat.mod_lt (i / zBs n ^ v) (show 0 < zBs n from Nat.succ_pos _)
    unfold zBs at *
    omega
  · omega
theorem zdg0_lt {n o : Nat} (h : zCfg n o) (i : Nat) : zdg0 n i ≤ 120 := by
  have h0 := zdgt_31 h i 0
  have h1 := zdgt_31 h i 1
  have h2 := zdgt_31 h i 2
  have h3 := zdgt_31 h i 3
  unfold zdg0
  omega
/-- a place's degree and exponents stand in the tables -/
def zPl (n : Nat) (dg ex : Nat → Int32) (i : Nat) : Prop := i < 1296 ∧ dg i = nI (zdg0 n i) ∧ ∀ v, v < 4 → ex (4 * i + v) = nI (zdgt n i v)

set_option maxHeartbeats 4000000 in
set_option maxRecDepth 100000 in
theorem c_M_isGreater (l : Launch) {G : zG} {ad : Nat → Nat} {w : Nat → Option va_E} (n o : Nat) (F dg ex : Nat → Int32) (hcfg : zCfg n o) (h100 : w 100 = some (oM ad F)) (hF2 : F 2 = nI n) (hF3 : F 3 = nI o) (h101 : w 101 = some (zi G 1296 dg)) (h102 : w 102 = some (zi G 5184 ex)) (i j : Nat) (hi : zPl n dg ex i) (hj : zPl n dg ex j) : Met l yM_isGreater wM_isGreater (zR (1)) (va_Pc [.ref (ad 100), .int (nI i), .int (nI j)] (zw_U G ad w)) (va_Qi (S := Nat → Option va_E) (fun r w' => r = zb (zgt n o i j) ∧ w' = w) (fun u t => zw_U G ((fun _ => ad) u) ((fun w' => w') u) t) (zA G)) 0 0 (zA G) := by
  refine zw_methz (S := Nat → Option va_E) (fa := fun _ => ad) (fw := fun w' => w') (by decide) rfl (Nat.le_of_ble_eq_true rfl) (fun r u h => by rw [h.1]; exact zb_nar _) ?_
  intro p e s m below meth c Q ls C hname Z hl hret
  obtain ⟨hx, hb, hml, hown, hts, hlk⟩ := C
  have hT : ∀ w ∈ zT, w.before ([.ref (ad 100), .int (nI i), .int (nI j)] : List Value).toArray s = true := fun w h => hts w (List.mem_cons_of_mem _ h)
  have hown : s.vm.findClass "PolynomialDeskModel" = some m.cls := hown
  have hl : lv_has ls 6 [(0, .ref (ad 100)), (1, .int (nI i)), (2, .int (nI j))] := hl
  obtain ⟨hi1, hi2, hi3⟩ := hi
  obtain ⟨hj1, hj2, hj3⟩ := hj
  obtain ⟨hn1, hn4, ho1⟩ := id hcfg
  have hdi := zdg0_lt hcfg i
  have hdj := zdg0_lt hcfg j
  refine lv_aload_n hx hb dM_isGreater_0 rfl (lv_at hl 0 rfl) ?_
  refine zw_get (v := .ref (ad 101)) hx hb hT uM hown Z h100 rfl 6 (by decide) (hT _ mf_M_13) (fun _ h9 => h9) rfl dM_isGreater_1 ?_
  refine lv_iload_n hx hb dM_isGreater_4 rfl (lv_at hl 1 rfl) ?_
  refine zw_iald hx hb Z h101 (vin (by omega) (by decide)) dM_isGreater_5 ?_
  refine zw_top (nI (zdg0 n i)) (by rw [ncl (by omega)]; exact hi2) ?_
  refine lv_aload_n hx hb dM_isGreater_6 rfl (lv_at hl 0 rfl) ?_
  refine zw_get (v := .ref (ad 101)) hx hb hT uM hown Z h100 rfl 6 (by decide) (hT _ mf_M_13) (fun _ h9 => h9) rfl dM_isGreater_7 ?_
  refine lv_iload_n hx hb dM_isGreater_10 rfl (lv_at hl 2 rfl) ?_
  refine zw_iald hx hb Z h101 (vin (by omega) (by decide)) dM_isGreater_11 ?_
  refine zw_top (nI (zdg0 n j)) (by rw [ncl (by omega)]; exact hj2) ?_
  refine lv_icmp_eq (tgt := 36) hx hb dM_isGreater_12 (by decide) (fun hc => ?_) (fun hc => ?_)
  · have hde : zdg0 n i = zdg0 n j := (nI_eq (by omega) (by omega)).mp hc
    have hg : zgt n o i j = zgtf n o i j n 0 := if_pos hde
    refine lv_iconst (v := 0) hx hb dM_isGreater_36 (by decide) ?_
    refine lv_istore_n (lv' := [(3, .int 0), (0, .ref (ad 100)), (1, .int (nI i)), (2, .int (nI j))]) hx hb dM_isGreater_37 rfl hl (by decide) rfl (fun ls hl => ?_)
    have loop : ∀ (d s9 : Nat) (H : Heap) (locs : List Loc) (ls : Array Slot), d + s9 = n → zgt n o i j = zgtf n o i j d s9 → zw G ad w s H locs → lv_has ls 6 [(3, .int (nI s9)), (0, .ref (ad 100)), (1, .int (nI i)), (2, .int (nI j))] → W p l e (zR (1)) s m ([.ref (ad 100), .int (nI i), .int (nI j)] : List Value).toArray below meth c H locs (0) (0) Q (F0 m 38 ls []) := by
      intro d
      induction d with
      | zero =>
        intro s9 H locs ls hd hg Z hl
        refine lv_iload_n hx hb dM_isGreater_38 rfl (lv_at hl 0 rfl) ?_
        refine lv_aload_n hx hb dM_isGreater_39 rfl (lv_at hl 1 rfl) ?_
        refine zw_get (v := .int (F 2)) hx hb hT uM hown Z h100 rfl 2 (by decide) (hT _ mf_M_55) (fun _ h9 => h9) rfl dM_isGreater_40 ?_
        refine zw_top (nI n) (hF2) ?_
        refine lv_icmp_ge (tgt := 134) hx hb dM_isGreater_43 (by decide) (fun _ => ?_) (fun hc => absurd (show ((nI n) : Int32) ≤ (nI s9) from nI_le (by omega) (by omega)) hc)
        refine lv_iconst (v := 0) hx hb dM_isGreater_134 (by decide) ?_
        exact hret _ _ _ _ _ _ dM_isGreater_135 (⟨by rw [hg]; rfl, rfl⟩) Z
      | succ d ih =>
        intro s9 H locs ls hd hg Z hl
        obtain ⟨k, hk⟩ : ∃ k, k = (if o = 0 then n - 1 - s9 else s9) := ⟨_, rfl⟩
        have hk4 : k < 4 := by
          rw [hk]
          split <;> omega
        have hgs : zgt n o i j = if zdgt n i k = zdgt n j k then zgtf n o i j d (s9 + 1) else if o = 0 then decide (zdgt n i k < zdgt n j k) else decide (zdgt n j k < zdgt n i k) := by rw [hg, hk]; rfl
        have ha30 := zdgt_31 hcfg i k
        have hb30 := zdgt_31 hcfg j k
        refine lv_iload_n hx hb dM_isGreater_38 rfl (lv_at hl 0 rfl) ?_
        refine lv_aload_n hx hb dM_isGreater_39 rfl (lv_at hl 1 rfl) ?_
        refine zw_get (v := .int (F 2)) hx hb hT uM hown Z h100 rfl 2 (by decide) (hT _ mf_M_55) (fun _ h9 => h9) rfl dM_isGreater_40 ?_
        refine zw_top (nI n) (hF2) ?_
        refine lv_icmp_ge (tgt := 134) hx hb dM_isGreater_43 (by decide) (fun hc => absurd hc (show ¬ (((nI n) : Int32) ≤ (nI s9)) from nI_ge (by omega) (by omega))) (fun _ => ?_)
        refine lv_aload_n hx hb dM_isGreater_46 rfl (lv_at hl 1 rfl) ?_
        refine zw_get (v := .int (F 3)) hx hb hT uM hown Z h100 rfl 3 (by decide) (hT _ mf_M_58) (fun _ h9 => h9) rfl dM_isGreater_47 ?_
        refine zw_top (nI o) (hF3) ?_
        have cont : W p l e (zR (1)) s m ([.ref (ad 100), .int (nI i), .int (nI j)] : List Value).toArray below meth c H locs (0) (0) Q (F0 m 65 ls [.int (nI k)]) := by
          refine lv_istore (lv' := [(4, .int (nI k)), (3, .int (nI s9)), (0, .ref (ad 100)), (1, .int (nI i)), (2, .int (nI j))]) hx hb dM_isGreater_65 hl (by decide) rfl (fun ls hl => ?_)
          refine lv_aload_n hx hb dM_isGreater_67 rfl (lv_at hl 2 rfl) ?_
          refine zw_get (v := .ref (ad 102)) hx hb hT uM hown Z h100 rfl 7 (by decide) (hT _ mf_M_17) (fun _ h9 => h9) rfl dM_isGreater_68 ?_
          refine lv_iconst (v := 4) hx hb dM_isGreater_71 (by decide) ?_
          refine lv_iload_n hx hb dM_isGreater_72 rfl (lv_at hl 3 rfl) ?_
          refine lv_imul hx hb dM_isGreater_73 ?_
          refine zw_top (nI (4 * i)) (pk_mul 4 i) ?_
          refine lv_iload hx hb dM_isGreater_74 (lv_at hl 0 rfl) ?_
          refine lv_iadd hx hb dM_isGreater_76 ?_
          refine zw_top (nI (4 * i + k)) (nI_add _ _) ?_
          refine zw_iald hx hb Z h102 (vin (by omega) (by decide)) dM_isGreater_77 ?_
          refine zw_top (nI (zdgt n i k)) (by rw [ncl (by omega)]; exact hi3 k hk4) ?_
          refine lv_aload_n hx hb dM_isGreater_78 rfl (lv_at hl 2 rfl) ?_
          refine zw_get (v := .ref (ad 102)) hx hb hT uM hown Z h100 rfl 7 (by decide) (hT _ mf_M_17) (fun _ h9 => h9) rfl dM_isGreater_79 ?_
          refine lv_iconst (v := 4) hx hb dM_isGreater_82 (by decide) ?_
          refine lv_iload_n hx hb dM_isGreater_83 rfl (lv_at hl 4 rfl) ?_
          refine lv_imul hx hb dM_isGreater_84 ?_
          refine zw_top (nI (4 * j)) (pk_mul 4 j) ?_
          refine lv_iload hx hb dM_isGreater_85 (lv_at hl 0 rfl) ?_
          refine lv_iadd hx hb dM_isGreater_87 ?_
          refine zw_top (nI (4 * j + k)) (nI_add _ _) ?_
          refine zw_iald hx hb Z h102 (vin (by omega) (by decide)) dM_isGreater_88 ?_
          refine zw_top (nI (zdgt n j k)) (by rw [ncl (by omega)]; exact hj3 k hk4) ?_
          refine lv_isub hx hb dM_isGreater_89 ?_
          refine lv_topi (fun df hdf => ?_)
          have hdi9 : df.toInt = (zdgt n i k : Int) - zdgt n j k := by rw [hdf]; exact pk_sub_toInt (by omega) (by omega)
          have h00 : (0 : Int32).toInt = 0 := rfl
          refine lv_istore (lv' := [(5, .int df), (4, .int (nI k)), (3, .int (nI s9)), (0, .ref (ad 100)), (1, .int (nI i)), (2, .int (nI j))]) hx hb dM_isGreater_90 hl (by decide) rfl (fun ls hl => ?_)
          refine lv_iload hx hb dM_isGreater_92 (lv_at hl 0 rfl) ?_
          refine lv_if_eq (tgt := 128) hx hb dM_isGreater_94 (by decide) (fun hc2 => ?_) (fun hc2 => ?_)
          · have he : zdgt n i k = zdgt n j k := by
              rw [hc2] at hdi9
              omega
            refine lv_iinc (v := (nI (s9 + 1))) (lv' := [(3, .int (nI (s9 + 1))), (5, .int df), (4, .int (nI k)), (0, .ref (ad 100)), (1, .int (nI i)), (2, .int (nI j))]) hx hb dM_isGreater_128 hl (k := 2) rfl (nI_1 s9) (by decide) rfl (fun ls hl => ?_)
            refine lv_goto (tgt := 38) hx hb dM_isGreater_131 (by decide) ?_
            exact ih (s9 + 1) _ _ ls (by omega) (by rw [hgs, if_pos he]) Z (lv_sub hl [0, 3, 4, 5] rfl)
          · have he : ¬ zdgt n i k = zdgt n j k := fun h9 => hc2 (Int32.toInt_inj.mp (by rw [hdi9, h9, h00]; omega))
            refine lv_aload_n hx hb dM_isGreater_97 rfl (lv_at hl 3 rfl) ?_
            refine zw_get (v := .int (F 3)) hx hb hT uM hown Z h100 rfl 3 (by decide) (hT _ mf_M_58) (fun _ h9 => h9) rfl dM_isGreater_98 ?_
            refine zw_top (nI o) (hF3) ?_
            refine lv_if_ne (tgt := 117) hx hb dM_isGreater_101 (by decide) (fun hc3 => ?_) (fun hc3 => ?_)
            · have ho : ¬ o = 0 := fun h9 => hc3 (by rw [h9]; rfl)
              refine lv_iload hx hb dM_isGreater_117 (lv_at hl 0 rfl) ?_
              refine lv_if_le (tgt := 126) hx hb dM_isGreater_119 (by decide) (fun hc4 => ?_) (fun hc4 => ?_)
              · refine lv_iconst (v := 0) hx hb dM_isGreater_126 (by decide) ?_
                exact hret _ _ _ _ _ _ dM_isGreater_127 (⟨by rw [hgs, if_neg he, if_neg ho, decide_eq_false (fun h9 => by have h8 := Int32.le_iff_toInt_le.mp hc4; omega)]; rfl, rfl⟩) Z
              · refine lv_iconst (v := 1) hx hb dM_isGreater_122 (by decide) ?_
                refine lv_goto (tgt := 127) hx hb dM_isGreater_123 (by decide) ?_
                exact hret _ _ _ _ _ _ dM_isGreater_127 (⟨by rw [hgs, if_neg he, if_neg ho, decide_eq_true (show zdgt n j k < zdgt n i k from Nat.lt_of_not_le (fun h9 => hc4 (Int32.le_iff_toInt_le.mpr (by omega))))]; rfl, rfl⟩) Z
            · have ho : o = 0 := (nI_eq (b := 0) (by omega) (by decide)).mp hc3
              refine lv_iload hx hb dM_isGreater_104 (lv_at hl 0 rfl) ?_
              refine lv_if_ge (tgt := 113) hx hb dM_isGreater_106 (by decide) (fun hc4 => ?_) (fun hc4 => ?_)
              · refine lv_iconst (v := 0) hx hb dM_isGreater_113 (by decide) ?_
                refine lv_goto (tgt := 127) hx hb dM_isGreater_114 (by decide) ?_
                exact hret _ _ _ _ _ _ dM_isGreater_127 (⟨by rw [hgs, if_neg he, if_pos ho, decide_eq_false (fun h9 => by have h8 := Int32.le_iff_toInt_le.mp hc4; omega)]; rfl, rfl⟩) Z
              · refine lv_iconst (v := 1) hx hb dM_isGreater_109 (by decide) ?_
                refine lv_goto (tgt := 127) hx hb dM_isGreater_110 (by decide) ?_
                exact hret _ _ _ _ _ _ dM_isGreater_127 (⟨by rw [hgs, if_neg he, if_pos ho, decide_eq_true (show zdgt n i k < zdgt n j k from Nat.lt_of_not_le (fun h9 => hc4 (Int32.le_iff_toInt_le.mpr (by omega))))]; rfl, rfl⟩) Z
        refine lv_if_ne (tgt := 64) hx hb dM_isGreater_50 (by decide) (fun hc2 => ?_) (fun hc2 => ?_)
        · have ho : ¬ o = 0 := fun h9 => hc2 (by rw [h9]; rfl)
          refine lv_iload_n hx hb dM_isGreater_64 rfl (lv_at hl 0 rfl) ?_
          exact (by rw [show k = s9 by rw [hk, if_neg ho]] at cont; exact cont)
        · have ho : o = 0 := (nI_eq (b := 0) (by omega) (by decide)).mp hc2
          refine lv_aload_n hx hb dM_isGreater_53 rfl (lv_at hl 1 rfl) ?_
          refine zw_get (v := .int (F 2)) hx hb hT uM hown Z h100 rfl 2 (by decide) (hT _ mf_M_55) (fun _ h9 => h9) rfl dM_isGreater_54 ?_
          refine zw_top (nI n) (hF2) ?_
          refine lv_iconst (v := 1) hx hb dM_isGreater_57 (by decide) ?_
          refine lv_isub hx hb dM_isGreater_58 ?_
          refine zw_top (nI (n - 1)) (pk_sub (a := n) (b := 1) hn1) ?_
          refine lv_iload_n hx hb dM_isGreater_59 rfl (lv_at hl 0 rfl) ?_
          refine lv_isub hx hb dM_isGreater_60 ?_
          refine zw_top (nI (n - 1 - s9)) (pk_sub (by omega)) ?_
          refine lv_goto (tgt := 65) hx hb dM_isGreater_61 (by decide) ?_
          exact (by rw [show k = n - 1 - s9 by rw [hk, if_pos ho]] at cont; exact cont)
    exact loop n 0 _ _ ls (by omega) hg Z (lv_sub hl [0, 1, 2, 3] rfl)
  · have hde : ¬ zdg0 n i = zdg0 n j := fun h9 => hc (by rw [h9])
    have hg : zgt n o i j = decide (zdg0 n j < zdg0 n i) := if_neg hde
    refine lv_aload_n hx hb dM_isGreater_15 rfl (lv_at hl 0 rfl) ?_
    refine zw_get (v := .ref (ad 101)) hx hb hT uM hown Z h100 rfl 6 (by decide) (hT _ mf_M_13) (fun _ h9 => h9) rfl dM_isGreater_16 ?_
    refine lv_iload_n hx hb dM_isGreater_19 rfl (lv_at hl 1 rfl) ?_
    refine zw_iald hx hb Z h101 (vin (by omega) (by decide)) dM_isGreater_20 ?_
    refine zw_top (nI (zdg0 n i)) (by rw [ncl (by omega)]; exact hi2) ?_
    refine lv_aload_n hx hb dM_isGreater_21 rfl (lv_at hl 0 rfl) ?_
    refine zw_get (v := .ref (ad 101)) hx hb hT uM hown Z h100 rfl 6 (by decide) (hT _ mf_M_13) (fun _ h9 => h9) rfl dM_isGreater_22 ?_
    refine lv_iload_n hx hb dM_isGreater_25 rfl (lv_at hl 2 rfl) ?_
    refine zw_iald hx hb Z h101 (vin (by omega) (by decide)) dM_isGreater_26 ?_
    refine zw_top (nI (zdg0 n j)) (by rw [ncl (by omega)]; exact hj2) ?_
    refine lv_icmp_le (tgt := 34) hx hb dM_isGreater_27 (by decide) (fun hc2 => ?_) (fun hc2 => ?_)
    · refine lv_iconst (v := 0) hx hb dM_isGreater_34 (by decide) ?_
      exact hret _ _ _ _ _ _ dM_isGreater_35 (⟨by rw [hg, decide_eq_false (fun h9 => nI_ge h9 (by omega) hc2)]; rfl, rfl⟩) Z
    · refine lv_iconst (v := 1) hx hb dM_isGreater_30 (by decide) ?_
      refine lv_goto (tgt := 35) hx hb dM_isGreater_31 (by decide) ?_
      exact hret _ _ _ _ _ _ dM_isGreater_35 (⟨by rw [hg, decide_eq_true (show zdg0 n j < zdg0 n i from Nat.lt_of_not_le (fun h9 => hc2 (nI_le h9 (by omega))))]; rfl, rfl⟩) Z

set_option maxHeartbeats 4000000 in
set_option maxRecDepth 100000 in
theorem c_M_list (l : Launch) {G : zG} {ad : Nat → Nat} {w : Nat → Option va_E} (n o : Nat) (F dg ex ys : Nat → Int32) (hcfg : zCfg n o) (h100 : w 100 = some (oM ad F)) (hF2 : F 2 = nI n) (hF3 : F 3 = nI o) (h101 : w 101 = some (zi G 1296 dg)) (h102 : w 102 = some (zi G 5184 ex)) (h103 : w 103 = some (zi G 126 ys)) (i : Nat) (R : List Nat) (hF10 : F 10 = nI R.length) (hR : R.length < 126) (hi : zPl n dg ex i) (hall : ∀ x ∈ R, zPl n dg ex x) (hys : ∀ j, j < R.length → ys j = nI (R.getD (R.length - 1 - j) 0)) : Met l yM_list wM_list (zR (2)) (va_Pc [.ref (ad 100), .int (nI i)] (zw_U G ad w)) (va_Qv (S := Nat → Option va_E) (fun w' => ∃ ys' : Nat → Int32, w' = va_up (va_up w 103 (some (zi G 126 ys'))) 100 (some (oM ad (upd F 10 (nI (R.length + 1))))) ∧ ∀ j, j < R.length + 1 → ys' j = nI ((zinsr (zgt n o i) i R).getD (R.length - j) 0)) (fun u t => zw_U G ((fun _ => ad) u) ((fun w' => w') u) t) (zA G)) 0 0 (zA G) := by
  refine zw_methv (S := Nat → Option va_E) (fa := fun _ => ad) (fw := fun w' => w') (by decide) rfl (Nat.le_of_ble_eq_true rfl) ?_
  intro p e s m below meth c Q ls C hname Z hl hret
  obtain ⟨hx, hb, hml, hown, hts, hlk⟩ := C
  have hT : ∀ w ∈ zT, w.before ([.ref (ad 100), .int (nI i)] : List Value).toArray s = true := fun w h => hts w (List.mem_cons_of_mem _ h)
  have hown : s.vm.findClass "PolynomialDeskModel" = some m.cls := hown
  have hl : lv_has ls 3 [(0, .ref (ad 100)), (1, .int (nI i))] := hl
  have hi1 := hi.1
  refine lv_aload_n hx hb dM_list_0 rfl (lv_at hl 0 rfl) ?_
  refine zw_get (v := .int (F 10)) hx hb hT uM hown Z h100 rfl 10 (by decide) (hT _ mf_M_67) (fun _ h9 => h9) rfl dM_list_1 ?_
  refine zw_top (nI R.length) (hF10) ?_
  refine lv_istore_n (lv' := [(2, .int (nI R.length)), (0, .ref (ad 100)), (1, .int (nI i))]) hx hb dM_list_4 rfl hl (by decide) rfl (fun ls hl => ?_)
  have loop : ∀ (k : Nat) (yA : Nat → Int32) (H : Heap) (locs : List Loc) (ls : Array Slot), k ≤ R.length → (∀ j, j < k → yA j = nI (R.getD (R.length - 1 - j) 0)) → (∀ j, k < j → j ≤ R.length → yA j = nI (R.getD (R.length - j) 0)) → (∀ q, q < R.length - k → zgt n o i (R.getD q 0) = true) → zw G ad (va_up w 103 (some (zi G 126 yA))) s H locs → lv_has ls 3 [(2, .int (nI k)), (0, .ref (ad 100)), (1, .int (nI i))] → W p l e (zR (2)) s m ([.ref (ad 100), .int (nI i)] : List Value).toArray below meth c H locs (0) (0) Q (F0 m 5 ls []) := by
    have done : ∀ (k : Nat) (yA : Nat → Int32) (H : Heap) (locs : List Loc) (ls : Array Slot), k ≤ R.length → (∀ j, j < k → yA j = nI (R.getD (R.length - 1 - j) 0)) → (∀ j, k < j → j ≤ R.length → yA j = nI (R.getD (R.length - j) 0)) → zinm (zgt n o i) R = R.length - k → zw G ad (va_up w 103 (some (zi G 126 yA))) s H locs → lv_has ls 3 [(2, .int (nI k)), (0, .ref (ad 100)), (1, .int (nI i))] → W p l e (zR (2)) s m ([.ref (ad 100), .int (nI i)] : List Value).toArray below meth c H locs (0) (0) Q (F0 m 45 ls []) := by
      intro k yA H locs ls hk hlo hhi hm Z hl
      have g100 : (va_up w 103 (some (zi G 126 yA))) 100 = some (oM ad F) := by rw [va_up_ne _ _ (by decide)]; exact h100
      have g103 : (va_up w 103 (some (zi G 126 yA))) 103 = some (zi G 126 yA) := va_up_self _ _ _
      refine lv_aload_n hx hb dM_list_45 rfl (lv_at hl 1 rfl) ?_
      refine zw_get (v := .ref (ad 103)) hx hb hT uM hown Z g100 rfl 8 (by decide) (hT _ mf_M_20) (fun _ h9 => h9) rfl dM_list_46 ?_
      refine lv_iload_n hx hb dM_list_49 rfl (lv_at hl 0 rfl) ?_
      refine lv_iload_n hx hb dM_list_50 rfl (lv_at hl 2 rfl) ?_
      refine zw_iast hx hb Z g103 (vin (by omega) (by decide)) dM_list_51 (fun H locs Z => ?_)
      rw [ncl (by omega), bx_uu] at Z
      have Z : zw G ad (va_up w 103 (some (zi G 126 (upd yA k (nI i))))) s H locs := Z
      have g100 : (va_up w 103 (some (zi G 126 (upd yA k (nI i))))) 100 = some (oM ad F) := by rw [va_up_ne _ _ (by decide)]; exact h100
      refine lv_aload_n hx hb dM_list_52 rfl (lv_at hl 1 rfl) ?_
      refine lv_dup hx hb dM_list_53 rfl ?_
      refine zw_get (v := .int (F 10)) hx hb hT uM hown Z g100 rfl 10 (by decide) (hT _ mf_M_67) (fun _ h9 => h9) rfl dM_list_54 ?_
      refine zw_top (nI R.length) (hF10) ?_
      refine lv_iconst (v := 1) hx hb dM_list_57 (by decide) ?_
      refine lv_iadd hx hb dM_list_58 ?_
      refine zw_top (nI (R.length + 1)) (nI_1 _) ?_
      refine zw_put (v := .int (nI (R.length + 1))) hx hb hT uM hown tM tM_ok nM Z g100 rfl 10 (by decide) (hT _ mf_M_67) (fun _ h9 => h9) rfl rfl rfl (by simp) dM_list_59 (fun H locs Z => ?_)
      have Z : zw G ad (va_up (va_up w 103 (some (zi G 126 (upd yA k (nI i))))) 100 (some (oM ad (upd F 10 (nI (R.length + 1)))))) s H locs := Z
      exact hret _ _ _ _ _ dM_list_62 (⟨upd yA k (nI i), rfl, fun j hj => by
        rw [zinsr_get _ _ _ _ (by omega), hm]
        by_cases e1 : j = k
        · subst e1
          rw [pk_us, if_neg (by omega), if_pos rfl]
        · rw [pk_un e1]
          by_cases e2 : j < k
          · rw [hlo j e2, if_neg (by omega), if_neg (by omega)]
            congr 2
            omega
          · rw [hhi j (by omega) (by omega), if_pos (by omega)]⟩) Z
    intro k
    induction k with
    | zero =>
      intro yA H locs ls hk hlo hhi hg Z hl
      refine lv_iload_n hx hb dM_list_5 rfl (lv_at hl 0 rfl) ?_
      refine lv_if_le (tgt := 45) hx hb dM_list_6 (by decide) (fun _ => ?_) (fun hc => absurd (show ((nI 0) : Int32) ≤ 0 from by decide) hc)
      exact done 0 yA _ _ ls hk hlo hhi (zinm_eq (by omega) hg (Or.inl (by omega))) Z (lv_sub hl [0, 1, 2] rfl)
    | succ k ih =>
      intro yA H locs ls hk hlo hhi hg Z hl
      have g100 : (va_up w 103 (some (zi G 126 yA))) 100 = some (oM ad F) := by rw [va_up_ne _ _ (by decide)]; exact h100
      have g103 : (va_up w 103 (some (zi G 126 yA))) 103 = some (zi G 126 yA) := va_up_self _ _ _
      have g101 : (va_up w 103 (some (zi G 126 yA))) 101 = some (zi G 1296 dg) := by rw [va_up_ne _ _ (by decide)]; exact h101
      have g102 : (va_up w 103 (some (zi G 126 yA))) 102 = some (zi G 5184 ex) := by rw [va_up_ne _ _ (by decide)]; exact h102
      have hxR := hall _ (zgetD_mem (R := R) (q := R.length - 1 - k) (by omega))
      refine lv_iload_n hx hb dM_list_5 rfl (lv_at hl 0 rfl) ?_
      refine lv_if_le (tgt := 45) hx hb dM_list_6 (by decide) (fun hc => absurd hc (show ¬ (((nI (k + 1)) : Int32) ≤ 0) from nI_nle (by omega) (by omega))) (fun _ => ?_)
      refine lv_aload_n hx hb dM_list_9 rfl (lv_at hl 1 rfl) ?_
      refine lv_iload_n hx hb dM_list_10 rfl (lv_at hl 2 rfl) ?_
      refine lv_aload_n hx hb dM_list_11 rfl (lv_at hl 1 rfl) ?_
      refine zw_get (v := .ref (ad 103)) hx hb hT uM hown Z g100 rfl 8 (by decide) (hT _ mf_M_20) (fun _ h9 => h9) rfl dM_list_12 ?_
      refine lv_iload_n hx hb dM_list_15 rfl (lv_at hl 0 rfl) ?_
      refine lv_iconst (v := 1) hx hb dM_list_16 (by decide) ?_
      refine lv_isub hx hb dM_list_17 ?_
      refine zw_top (nI k) (nI_pred k) ?_
      refine zw_iald hx hb Z g103 (vin (by omega) (by decide)) dM_list_18 ?_
      refine zw_top (nI (R.getD (R.length - 1 - k) 0)) (by rw [ncl (by omega)]; exact hlo k (by omega)) ?_
      refine zw_calli (va_runV (As := [.int (nI i), .int (nI (R.getD (R.length - 1 - k) 0))]) (rest := []) ⟨hx, hb, hml, hown, hts⟩ (c_M_isGreater l n o F dg ex hcfg g100 hF2 hF3 g101 g102 i (R.getD (R.length - 1 - k) 0) hi hxR) (kw_M_isGreater hts ml_M_77 (zR_fit (by omega) (by omega))) (Z.preV g100 rfl _) rfl rfl hl.1 rfl (lv_room (Nat.le_of_ble_eq_true rfl)) dM_list_19 ⟨Nat.le_of_ble_eq_true rfl, Nat.le_of_ble_eq_true rfl⟩) Z (fun r wq H locs hp Z => ?_)
      obtain ⟨rfl, hw1⟩ := hp
      rw [hw1] at Z
      clear hw1
      refine lv_if_eq (tgt := 45) hx hb dM_list_22 (by decide) (fun hc => ?_) (fun hc => ?_)
      · exact done (k + 1) yA _ _ ls hk hlo hhi (zinm_eq (by omega) hg (Or.inr (by rw [show R.length - (k + 1) = R.length - 1 - k by omega]; exact zb_f hc))) Z (lv_sub hl [0, 1, 2] rfl)
      · have hgt := zb_t hc
        refine lv_aload_n hx hb dM_list_25 rfl (lv_at hl 1 rfl) ?_
        refine zw_get (v := .ref (ad 103)) hx hb hT uM hown Z g100 rfl 8 (by decide) (hT _ mf_M_20) (fun _ h9 => h9) rfl dM_list_26 ?_
        refine lv_iload_n hx hb dM_list_29 rfl (lv_at hl 0 rfl) ?_
        refine lv_aload_n hx hb dM_list_30 rfl (lv_at hl 1 rfl) ?_
        refine zw_get (v := .ref (ad 103)) hx hb hT uM hown Z g100 rfl 8 (by decide) (hT _ mf_M_20) (fun _ h9 => h9) rfl dM_list_31 ?_
        refine lv_iload_n hx hb dM_list_34 rfl (lv_at hl 0 rfl) ?_
        refine lv_iconst (v := 1) hx hb dM_list_35 (by decide) ?_
        refine lv_isub hx hb dM_list_36 ?_
        refine zw_top (nI k) (nI_pred k) ?_
        refine zw_iald hx hb Z g103 (vin (by omega) (by decide)) dM_list_37 ?_
        refine zw_top (nI (R.getD (R.length - 1 - k) 0)) (by rw [ncl (by omega)]; exact hlo k (by omega)) ?_
        refine zw_iast hx hb Z g103 (vin (by omega) (by decide)) dM_list_38 (fun H locs Z => ?_)
        rw [ncl (by omega), bx_uu] at Z
        refine lv_iinc (v := ((nI (k + 1)) + (-1))) (lv' := [(2, .int ((nI (k + 1)) + (-1))), (0, .ref (ad 100)), (1, .int (nI i))]) hx hb dM_list_39 hl (k := 0) rfl (rfl) (by decide) rfl (fun ls hl => ?_)
        rw [pk_m1] at hl
        refine lv_goto (tgt := 5) hx hb dM_list_42 (by decide) ?_
        exact ih (upd yA (k + 1) (nI (R.getD (R.length - 1 - k) 0))) _ _ ls (by omega) (fun j hj => by rw [pk_un (by omega)]; exact hlo j (by omega)) (fun j h1 h2 => by
          by_cases e1 : j = k + 1
          · subst e1
            rw [pk_us]
            congr 2
            omega
          · rw [pk_un e1]
            exact hhi j (by omega) h2) (fun q hq => by
          by_cases e1 : q = R.length - 1 - k
          · rw [e1]; exact hgt
          · exact hg q (by omega)) Z (lv_sub hl [0, 1, 2] rfl)
  exact loop R.length ys _ _ ls (Nat.le_refl _) hys (fun j h1 h2 => absurd h1 (by omega)) (fun q hq => absurd hq (by omega)) (by rw [zup_id h103]; exact Z) (lv_sub hl [0, 1, 2] rfl)
