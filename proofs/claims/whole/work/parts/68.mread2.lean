theorem zde_57 {T : Nat → Nat} {len q : Nat} (hT : ∀ i, T i < 256) : ∀ j, j < zde T len q - q → T (q + j) ≤ 57 := by
  have h : ∀ (f q : Nat), ∀ j, j < zdef T len f q - q → T (q + j) ≤ 57 := by
    intro f
    induction f with
    | zero => intro q j hj; simp only [zdef] at hj; omega
    | succ f ih =>
      intro q j hj
      simp only [zdef] at hj
      split at hj
      · next h9 =>
        cases j with
        | zero => exact ((zisd_iff (by have := hT q; omega)).mp h9.2).2
        | succ j =>
          have := ih (q + 1) j (by omega)
          rwa [show q + 1 + j = q + (j + 1) by omega] at this
      · omega
  exact h (len - q) q
set_option maxHeartbeats 4000000 in
set_option maxRecDepth 100000 in
theorem c_M_readFactor (l : Launch) {G : zG} {ad : Nat → Nat} {w : Nat → Option va_E} (P n o : Nat) (F : Nat → Int32) (B1 B : Nat → Nat → Nat) (T : Nat → Nat) (len : Nat) (sg : Nat → Bool) (st : Nat → Option Nat) (d : Nat) (hR : zRr G ad w P n o F B1 T len sg st d (d + 1)) (hB : ∀ t, t < 71 → B1 t = B t) (q : Nat) (hat : F 17 = nI q) (hq : q ≤ len) (c9 : Int32) (hc9 : c9 = zch T len q) : Met l yM_readFactor wM_readFactor (zR (4)) (va_Pc [.ref (ad 100), .int c9] (zw_U G ad w)) (va_Qv (S := Nat → Option va_E) (fun w' => zEF n o P T len (zGo G ad w P n o F T len w') (zFi G ad w P n o F B T len w') q d B sg st) (fun u t => zw_U G ((fun _ => ad) u) ((fun w' => w') u) t) (zA G)) 0 0 (zA G) := by
  refine zw_methv (S := Nat → Option va_E) (fa := fun _ => ad) (fw := fun w' => w') (by decide) rfl (Nat.le_of_ble_eq_true rfl) ?_
  intro p e s m below meth c Q ls C hname Z hl hret
  obtain ⟨hx, hb, hml, hown, hts, hlk⟩ := C
  have hT : ∀ w ∈ zT, w.before ([.ref (ad 100), .int c9] : List Value).toArray s = true := fun w h => hts w (List.mem_cons_of_mem _ h)
  have hown : s.vm.findClass "PolynomialDeskModel" = some m.cls := hown
  have hl : lv_has ls 3 [(0, .ref (ad 100)), (1, .int c9)] := hl
  obtain ⟨hM, ⟨hF16, hF19, hd20⟩, ⟨tx, h107, htx⟩, ⟨hTb, hlen⟩, ⟨sa, h108, hsa⟩, ⟨ta, h109, hta⟩⟩ := id hR
  obtain ⟨h100, ⟨hF1, hF2, hF3, hF4, hF10⟩, ⟨hP1, hP2⟩, hcfg, ⟨dg, h101, hdg⟩, ⟨ex, h102, hex⟩, ⟨ys, h103, hys⟩, ⟨un, h104, hun⟩, ⟨cl, h105, hcl, hpB⟩⟩ := id hM
  have hct := zCt_le (n := n)
  have hi0 := zIdx_ok (n := n) (o := o) (k := 0) (by obtain ⟨i, a, b, _⟩ := zConst hcfg; exact ⟨i, a, b⟩)
  refine lv_iload_n hx hb dM_readFactor_0 rfl (lv_at hl 1 rfl) ?_
  refine lv_bipush (v := 40) hx hb dM_readFactor_1 (by decide) ?_
  refine lv_icmp_ne (tgt := 50) hx hb dM_readFactor_3 (by decide) (fun hc => ?_) (fun hc => ?_)
  · rw [hc9] at hc
    refine lv_aload_n hx hb dM_readFactor_50 rfl (lv_at hl 0 rfl) ?_
    refine lv_iload_n hx hb dM_readFactor_51 rfl (lv_at hl 1 rfl) ?_
    refine zw_calli (va_runV (As := [.int c9]) (rest := []) ⟨hx, hb, hml, hown, hts⟩ (c_M_variable l P n o F B1 hM c9) (kw_M_variable hts ml_M_142 (zR_fit (by omega) (by omega))) (Z.preV h100 rfl _) rfl rfl hl.1 rfl (lv_room (Nat.le_of_ble_eq_true rfl)) dM_readFactor_52 ⟨Nat.le_of_ble_eq_true rfl, Nat.le_of_ble_eq_true rfl⟩) Z (fun r wq H locs hp Z => ?_)
    obtain ⟨rfl, hw1⟩ := hp
    rw [hw1] at Z
    clear hw1
    refine lv_istore_n (lv' := [(2, .int (if zvar c9 < n then nI (zvar c9) else -1)), (0, .ref (ad 100)), (1, .int c9)]) hx hb dM_readFactor_55 rfl hl (by decide) rfl (fun ls hl => ?_)
    refine lv_iload_n hx hb dM_readFactor_56 rfl (lv_at hl 2 rfl) ?_
    refine zw_calli (va_runS (As := [.int c9]) (rest := []) ⟨hx, hb, hml, hown, hts⟩ (c_M_isDigit l c9) (kw_M_isDigit hts ml_M_121 (zR_fit (by omega) (by omega))) (Z.preS _) rfl rfl hl.1 rfl (lv_room (Nat.le_of_ble_eq_true rfl)) dM_readFactor_57 ⟨Nat.le_of_ble_eq_true rfl, Nat.le_of_ble_eq_true rfl⟩) Z (fun r wq H locs hp Z => ?_)
    obtain ⟨rfl, hw1⟩ := hp
    rw [hw1] at Z
    clear hw1
    refine lv_if_ne (tgt := 77) hx hb dM_readFactor_60 (by decide) (fun hc2 => ?_) (fun hc2 => ?_)
    · have hd := zb_t hc2
      have hvn : ¬ zvar c9 < n := by rw [zisd_var hd]; exact Nat.not_lt.mpr hcfg.2.1
      rw [if_neg hvn] at hl
      have hd1 := hd
      rw [hc9] at hd1
      have hql := (zch_d hd1).1
      refine lv_aload_n hx hb dM_readFactor_77 rfl (lv_at hl 1 rfl) ?_
      refine lv_aload_n hx hb dM_readFactor_78 rfl (lv_at hl 1 rfl) ?_
      refine zw_calli (va_runV (As := []) (rest := [.ref (ad 100)]) ⟨hx, hb, hml, hown, hts⟩ (c_M_factor l P n o F B1 T len sg st d (d + 1) hR) (kw_M_factor hts ml_M_145 (zR_fit (by omega) (by omega))) (Z.preV h100 rfl _) rfl rfl hl.1 rfl (lv_room (Nat.le_of_ble_eq_true rfl)) dM_readFactor_79 ⟨Nat.le_of_ble_eq_true rfl, Nat.le_of_ble_eq_true rfl⟩) Z (fun r wq H locs hp Z => ?_)
      obtain ⟨rfl, hw1⟩ := hp
      rw [hw1] at Z
      clear hw1
      refine zw_callv (va_runV (As := [.int (nI (10 + 3 * d))]) (rest := []) ⟨hx, hb, hml, hown, hts⟩ (c_M_clear l P n o F B1 hM (10 + 3 * d) (by omega)) (kw_M_clear hts ml_M_100 (zR_fit (by omega) (by omega))) (Z.preV h100 rfl _) rfl rfl hl.1 rfl (lv_room (Nat.le_of_ble_eq_true rfl)) dM_readFactor_82 ⟨Nat.le_of_ble_eq_true rfl, Nat.le_of_ble_eq_true rfl⟩) Z (fun w1 H locs hp Z => ?_)
      obtain ⟨hM1, hz1⟩ := hp
      have hR1 := hR.cel hM1 hz1
      refine lv_iload_n hx hb dM_readFactor_85 rfl (lv_at hl 0 rfl) ?_
      refine lv_if_lt (tgt := 117) hx hb dM_readFactor_86 (by decide) (fun _ => ?_) (fun hc => absurd (show ((-1) : Int32) < 0 from by decide) hc)
      refine lv_aload_n hx hb dM_readFactor_117 rfl (lv_at hl 1 rfl) ?_
      refine lv_aload_n hx hb dM_readFactor_118 rfl (lv_at hl 1 rfl) ?_
      refine zw_calli (va_runV (As := []) (rest := [.ref (ad 100)]) ⟨hx, hb, hml, hown, hts⟩ (c_M_factor l P n o F _ T len sg st d (d + 1) hR1) (kw_M_factor hts ml_M_145 (zR_fit (by omega) (by omega))) (Z.preV hM1.1 rfl _) rfl rfl hl.1 rfl (lv_room (Nat.le_of_ble_eq_true rfl)) dM_readFactor_119 ⟨Nat.le_of_ble_eq_true rfl, Nat.le_of_ble_eq_true rfl⟩) Z (fun r wq H locs hp Z => ?_)
      obtain ⟨rfl, hw1⟩ := hp
      rw [hw1] at Z
      clear hw1
      refine lv_iconst (v := 0) hx hb dM_readFactor_122 (by decide) ?_
      refine lv_aload_n hx hb dM_readFactor_123 rfl (lv_at hl 1 rfl) ?_
      refine lv_aload_n hx hb dM_readFactor_124 rfl (lv_at hl 1 rfl) ?_
      refine lv_bipush (v := 9) hx hb dM_readFactor_125 (by decide) ?_
      refine zw_calll (va_runV (As := [.int 9]) (rest := [.ref (ad 100), .int 0, .int (nI (10 + 3 * d)), .ref (ad 100)]) ⟨hx, hb, hml, hown, hts⟩ (c_M_number l P n o F _ T len sg st d (d + 1) hR1 9 q (by decide) hat hql) (kw_M_number hts ml_M_148 (zR_fit (by omega) (by omega))) (Z.preV hM1.1 rfl _) rfl rfl hl.1 rfl (lv_room (Nat.le_of_ble_eq_true rfl)) dM_readFactor_127 ⟨Nat.le_of_ble_eq_true rfl, Nat.le_of_ble_eq_true rfl⟩) Z (fun r w2 H locs hp Z => ?_)
      obtain ⟨rfl, hw2⟩ := hp
      subst hw2
      have hR2 := hR1.obj (znF_fF T len 9 q F) (znF_19 T len 9 q F)
      have g100 := hR2.1.1
      refine zw_calli (va_runV (As := [.long (lN (zval T q (min (zde T len q - q) 9)))]) (rest := [.int 0, .int (nI (10 + 3 * d)), .ref (ad 100)]) ⟨hx, hb, hml, hown, hts⟩ (c_M_modulo l P n o _ _ hR2.1 (lN (zval T q (min (zde T len q - q) 9)))) (kw_M_modulo hts ml_M_92 (zR_fit (by omega) (by omega))) (Z.preV g100 rfl _) rfl rfl hl.1 rfl (lv_room (Nat.le_of_ble_eq_true rfl)) dM_readFactor_130 ⟨Nat.le_of_ble_eq_true rfl, Nat.le_of_ble_eq_true rfl⟩) Z (fun r wq H locs hp Z => ?_)
      obtain ⟨rfl, hw1⟩ := hp
      rw [hw1] at Z
      clear hw1
      have hmo := zmo_lt (lN (zval T q (min (zde T len q - q) 9))) (P := P) (by omega)
      refine zw_top (nI (zmo P (lN (zval T q (min (zde T len q - q) 9))))) rfl ?_
      have hCl := c_M_lay l P n o _ _ hR2.1 (10 + 3 * d) (zIdx n o 0) (zmo P (lN (zval T q (min (zde T len q - q) 9)))) (by omega) hi0.1 hmo
      rw [hi0.2] at hCl
      refine zw_callv (va_runV (As := [.int (nI (10 + 3 * d)), .int 0, .int (nI (zmo P (lN (zval T q (min (zde T len q - q) 9)))))]) (rest := []) ⟨hx, hb, hml, hown, hts⟩ (hCl) (kw_M_lay hts ml_M_85 (zR_fit (by omega) (by omega))) (Z.preV g100 rfl _) rfl rfl hl.1 rfl (lv_room (Nat.le_of_ble_eq_true rfl)) dM_readFactor_133 ⟨Nat.le_of_ble_eq_true rfl, Nat.le_of_ble_eq_true rfl⟩) Z (fun w3 H locs hp Z => ?_)
      obtain ⟨hM3, hz3⟩ := hp
      rw [zcon_up] at hM3
      have hR3 := hR2.cel hM3 hz3
      refine lv_aload_n hx hb dM_readFactor_136 rfl (lv_at hl 1 rfl) ?_
      refine lv_iconst (v := 2) hx hb dM_readFactor_137 (by decide) ?_
      refine zw_put (v := .int 2) hx hb hT uM hown tM tM_ok nM Z hM3.1 rfl 18 (by decide) (hT _ mf_M_136) (fun _ h9 => h9) rfl rfl rfl (by simp) dM_readFactor_138 (fun H locs Z => ?_)
      have Z : zw G ad (va_up w3 100 (some (oM ad (upd (znF T len 9 q F) 18 2)))) s H locs := Z
      have hR4 := hR3.obj (F' := upd (znF T len 9 q F) 18 2) (zfF.upd (by decide)) rfl
      have hfr : zfr w (va_up w3 100 (some (oM ad (upd (znF T len 9 q F) 18 2)))) := ((hz1.fr.trans (zfr.up (by decide))).trans hz3.fr).trans (zfr.up (by decide))
      have hff : zfF F (upd (znF T len 9 q F) 18 2) := (znF_fF T len 9 q F).trans (zfF.upd (by decide))
      exact hret _ _ _ _ _ dM_readFactor_141 (by
        unfold zEF
        rw [if_neg hc, if_pos hd1]
        by_cases ho : 9 < zde T len q - q
        · rw [show zNum T len 9 q = .inl (4, q) from if_pos ho]
          have e9 : znF T len 9 q F = upd (upd (upd F 17 (nI (zde T len q))) 20 4) 21 (nI q) := if_pos ho
          exact ⟨_, _, hR4.1, fun t ht => by rw [va_up_ne _ _ (by omega)]; exact hB t (by omega), ⟨by rw [e9]; rfl, by rw [e9]; rfl, by decide, by decide⟩, hR4.ar, hff, hfr⟩
        · rw [show zNum T len 9 q = .inr (zval T q (zde T len q - q), zde T len q) from if_neg ho]
          have e9 : znF T len 9 q F = upd F 17 (nI (zde T len q)) := if_neg ho
          have hv9 : zval T q (zde T len q - q) < 2 ^ 63 := by
            have := zde_57 (T := T) (len := len) (q := q) hTb
            have := zvalm (T := T) (q := q) (k := zde T len q - q) (m := 9) (by decide) this
            rw [show min (zde T len q - q) 9 = zde T len q - q by omega] at this
            omega
          refine ⟨_, _, hR4, zup_cong hB (by rw [show min (zde T len q - q) 9 = zde T len q - q by omega, zmo_N hv9]), ⟨by rw [e9]; rfl, rfl, by rw [e9]; rfl, by rw [e9]; rfl⟩, hff, hfr⟩) Z
    · have hd := zb_nt (zb_f hc2)
      have hd1 := hd
      rw [hc9] at hd1
      by_cases hv : zvar c9 < n
      · rw [if_pos hv] at hl
        have hv4 := hcfg.2.1
        have hv1 := hv
        rw [hc9] at hv1
        have hiv := zIdx_ok (n := n) (o := o) (k := zWt n (zvar c9)) (by obtain ⟨i, a, b, _⟩ := zVar hcfg hv; exact ⟨i, a, b⟩)
        refine lv_iload_n hx hb dM_readFactor_63 rfl (lv_at hl 0 rfl) ?_
        refine lv_if_ge (tgt := 77) hx hb dM_readFactor_64 (by decide) (fun _ => ?_) (fun hc => absurd (show (0 : Int32) ≤ (nI (zvar c9)) from nI_le (Nat.zero_le _) (by omega)) hc)
        refine lv_aload_n hx hb dM_readFactor_77 rfl (lv_at hl 1 rfl) ?_
        refine lv_aload_n hx hb dM_readFactor_78 rfl (lv_at hl 1 rfl) ?_
        refine zw_calli (va_runV (As := []) (rest := [.ref (ad 100)]) ⟨hx, hb, hml, hown, hts⟩ (c_M_factor l P n o F B1 T len sg st d (d + 1) hR) (kw_M_factor hts ml_M_145 (zR_fit (by omega) (by omega))) (Z.preV h100 rfl _) rfl rfl hl.1 rfl (lv_room (Nat.le_of_ble_eq_true rfl)) dM_readFactor_79 ⟨Nat.le_of_ble_eq_true rfl, Nat.le_of_ble_eq_true rfl⟩) Z (fun r wq H locs hp Z => ?_)
        obtain ⟨rfl, hw1⟩ := hp
        rw [hw1] at Z
        clear hw1
        refine zw_callv (va_runV (As := [.int (nI (10 + 3 * d))]) (rest := []) ⟨hx, hb, hml, hown, hts⟩ (c_M_clear l P n o F B1 hM (10 + 3 * d) (by omega)) (kw_M_clear hts ml_M_100 (zR_fit (by omega) (by omega))) (Z.preV h100 rfl _) rfl rfl hl.1 rfl (lv_room (Nat.le_of_ble_eq_true rfl)) dM_readFactor_82 ⟨Nat.le_of_ble_eq_true rfl, Nat.le_of_ble_eq_true rfl⟩) Z (fun w1 H locs hp Z => ?_)
        obtain ⟨hM1, hz1⟩ := hp
        have hR1 := hR.cel hM1 hz1
        obtain ⟨hMa, ⟨hF16a, hF19a, hd20a⟩, ⟨txa, h107a, htxa⟩, ⟨hTba, hlena⟩, ⟨saa, h108a, hsaa⟩, ⟨taa, h109a, htaa⟩⟩ := id hR1
        obtain ⟨h100a, ⟨hF1a, hF2a, hF3a, hF4a, hF10a⟩, ⟨hP1, hP2⟩, hcfg, ⟨dga, h101a, hdga⟩, ⟨exa, h102a, hexa⟩, ⟨ysa, h103a, hysa⟩, ⟨una, h104a, huna⟩, ⟨cla, h105a, hcla, hpBa⟩⟩ := id hMa
        refine lv_iload_n hx hb dM_readFactor_85 rfl (lv_at hl 0 rfl) ?_
        refine lv_if_lt (tgt := 117) hx hb dM_readFactor_86 (by decide) (fun hc => absurd hc (show ¬ (((nI (zvar c9)) : Int32) < 0) from nI_pos (by omega))) (fun _ => ?_)
        refine lv_aload_n hx hb dM_readFactor_89 rfl (lv_at hl 1 rfl) ?_
        refine lv_aload_n hx hb dM_readFactor_90 rfl (lv_at hl 1 rfl) ?_
        refine zw_calli (va_runV (As := []) (rest := [.ref (ad 100)]) ⟨hx, hb, hml, hown, hts⟩ (c_M_factor l P n o F _ T len sg st d (d + 1) hR1) (kw_M_factor hts ml_M_145 (zR_fit (by omega) (by omega))) (Z.preV h100a rfl _) rfl rfl hl.1 rfl (lv_room (Nat.le_of_ble_eq_true rfl)) dM_readFactor_91 ⟨Nat.le_of_ble_eq_true rfl, Nat.le_of_ble_eq_true rfl⟩) Z (fun r wq H locs hp Z => ?_)
        obtain ⟨rfl, hw1⟩ := hp
        rw [hw1] at Z
        clear hw1
        refine lv_aload_n hx hb dM_readFactor_94 rfl (lv_at hl 1 rfl) ?_
        refine zw_get (v := .ref (ad 104)) hx hb hT uM hown Z h100a rfl 9 (by decide) (hT _ mf_M_23) (fun _ h9 => h9) rfl dM_readFactor_95 ?_
        refine lv_iload_n hx hb dM_readFactor_98 rfl (lv_at hl 0 rfl) ?_
        refine zw_iald hx hb Z h104a (vin (by omega) (by decide)) dM_readFactor_99 ?_
        refine zw_top (nI (zWt n (zvar c9))) (by rw [ncl (by omega)]; exact huna _ hv) ?_
        refine lv_iconst (v := 1) hx hb dM_readFactor_100 (by decide) ?_
        have hCl := c_M_lay l P n o _ _ hR1.1 (10 + 3 * d) (zIdx n o (zWt n (zvar c9))) 1 (by omega) hiv.1 (by omega)
        rw [hiv.2] at hCl
        refine zw_callv (va_runV (As := [.int (nI (10 + 3 * d)), .int (nI (zWt n (zvar c9))), .int 1]) (rest := []) ⟨hx, hb, hml, hown, hts⟩ (hCl) (kw_M_lay hts ml_M_85 (zR_fit (by omega) (by omega))) (Z.preV h100a rfl _) rfl rfl hl.1 rfl (lv_room (Nat.le_of_ble_eq_true rfl)) dM_readFactor_101 ⟨Nat.le_of_ble_eq_true rfl, Nat.le_of_ble_eq_true rfl⟩) Z (fun w3 H locs hp Z => ?_)
        obtain ⟨hM3, hz3⟩ := hp
        rw [zcon_up] at hM3
        have hR3 := hR1.cel hM3 hz3
        refine lv_aload_n hx hb dM_readFactor_104 rfl (lv_at hl 1 rfl) ?_
        refine lv_dup hx hb dM_readFactor_105 rfl ?_
        refine zw_get (v := .int (F 17)) hx hb hT uM hown Z hM3.1 rfl 17 (by decide) (hT _ mf_M_109) (fun _ h9 => h9) rfl dM_readFactor_106 ?_
        refine zw_top (nI q) (hat) ?_
        refine lv_iconst (v := 1) hx hb dM_readFactor_109 (by decide) ?_
        refine lv_iadd hx hb dM_readFactor_110 ?_
        refine zw_top (nI (q + 1)) (nI_1 q) ?_
        refine zw_put (v := .int (nI (q + 1))) hx hb hT uM hown tM tM_ok nM Z hM3.1 rfl 17 (by decide) (hT _ mf_M_109) (fun _ h9 => h9) rfl rfl rfl (by simp) dM_readFactor_111 (fun H locs Z => ?_)
        have Z : zw G ad (va_up w3 100 (some (oM ad (upd F 17 (nI (q + 1)))))) s H locs := Z
        have hR4 := hR3.obj (F' := (upd F 17 (nI (q + 1)))) (zfF.upd (by decide)) rfl
        have g100 := hR4.1.1
        refine lv_goto (tgt := 136) hx hb dM_readFactor_114 (by decide) ?_
        refine lv_aload_n hx hb dM_readFactor_136 rfl (lv_at hl 1 rfl) ?_
        refine lv_iconst (v := 2) hx hb dM_readFactor_137 (by decide) ?_
        refine zw_put (v := .int 2) hx hb hT uM hown tM tM_ok nM Z g100 rfl 18 (by decide) (hT _ mf_M_136) (fun _ h9 => h9) rfl rfl rfl (by simp) dM_readFactor_138 (fun H locs Z => ?_)
        have Z : zw G ad (va_up (va_up w3 100 (some (oM ad (upd F 17 (nI (q + 1)))))) 100 (some (oM ad (upd (upd F 17 (nI (q + 1))) 18 2)))) s H locs := Z
        have hR5 := hR4.obj (F' := (upd (upd F 17 (nI (q + 1))) 18 2)) (zfF.upd (by decide)) rfl
        exact hret _ _ _ _ _ dM_readFactor_141 (by
          unfold zEF
          rw [if_neg hc, if_neg hd1, if_pos hv1]
          exact ⟨_, _, hR5, zup_cong hB (by rw [← hc9]), ⟨rfl, rfl, rfl, rfl⟩, (zfF.upd (by decide)).trans (zfF.upd (by decide)), ((hz1.fr.trans hz3.fr).trans (zfr.up (by decide))).trans (zfr.up (by decide))⟩) Z
      · rw [if_neg hv] at hl
        have hv1 := hv
        rw [hc9] at hv1
        refine lv_iload_n hx hb dM_readFactor_63 rfl (lv_at hl 0 rfl) ?_
        refine lv_if_ge (tgt := 77) hx hb dM_readFactor_64 (by decide) (fun hc => absurd hc (show ¬ ((0 : Int32) ≤ (-1)) from by decide)) (fun _ => ?_)
        refine lv_aload_n hx hb dM_readFactor_67 rfl (lv_at hl 1 rfl) ?_
        refine lv_iconst (v := 1) hx hb dM_readFactor_68 (by decide) ?_
        refine lv_aload_n hx hb dM_readFactor_69 rfl (lv_at hl 1 rfl) ?_
        refine zw_get (v := .int (F 17)) hx hb hT uM hown Z h100 rfl 17 (by decide) (hT _ mf_M_109) (fun _ h9 => h9) rfl dM_readFactor_70 ?_
        refine zw_top (nI q) (hat) ?_
        refine zw_callv (va_runV (As := [.int 1, .int (nI q)]) (rest := []) ⟨hx, hb, hml, hown, hts⟩ (c_M_fail l F h100 1 (nI q)) (kw_M_fail hts ml_M_128 (zR_fit (by omega) (by omega))) (Z.preV h100 rfl _) rfl rfl hl.1 rfl (lv_room (Nat.le_of_ble_eq_true rfl)) dM_readFactor_73 ⟨Nat.le_of_ble_eq_true rfl, Nat.le_of_ble_eq_true rfl⟩) Z (fun wq H locs hp Z => ?_)
        subst hp
        exact hret _ _ _ _ _ dM_readFactor_76 (by
          unfold zEF
          rw [if_neg hc, if_neg hd1, if_neg hv1]
          exact ⟨_, _, (hR).1.obj (fun k hk => va_up_ne _ _ (by omega)) (va_up_self _ _ _) (fun j hj => by rw [pk_un (by omega), pk_un (by omega)]), fun t ht => hB t (by omega), ⟨rfl, rfl, by decide, by decide⟩, (hR).ar.up, (zfF.upd (by decide)).trans (zfF.upd (by decide)), zfr.up (by decide)⟩) Z
  · rw [hc9] at hc
    have hql := zch_in hc (by decide)
    refine lv_aload_n hx hb dM_readFactor_6 rfl (lv_at hl 0 rfl) ?_
    refine zw_get (v := .int (F 19)) hx hb hT uM hown Z h100 rfl 19 (by decide) (hT _ mf_M_106) (fun _ h9 => h9) rfl dM_readFactor_7 ?_
    refine zw_top (nI d) (hF19) ?_
    refine lv_bipush (v := 20) hx hb dM_readFactor_10 (by decide) ?_
    refine lv_icmp_ne (tgt := 25) hx hb dM_readFactor_12 (by decide) (fun hc2 => ?_) (fun hc2 => ?_)
    · have hd9 : d ≠ 20 := fun h9 => hc2 (by rw [h9]; rfl)
      refine lv_aload_n hx hb dM_readFactor_25 rfl (lv_at hl 0 rfl) ?_
      refine lv_dup hx hb dM_readFactor_26 rfl ?_
      refine zw_get (v := .int (F 17)) hx hb hT uM hown Z h100 rfl 17 (by decide) (hT _ mf_M_109) (fun _ h9 => h9) rfl dM_readFactor_27 ?_
      refine zw_top (nI q) (hat) ?_
      refine lv_iconst (v := 1) hx hb dM_readFactor_30 (by decide) ?_
      refine lv_iadd hx hb dM_readFactor_31 ?_
      refine zw_top (nI (q + 1)) (nI_1 q) ?_
      refine zw_put (v := .int (nI (q + 1))) hx hb hT uM hown tM tM_ok nM Z h100 rfl 17 (by decide) (hT _ mf_M_109) (fun _ h9 => h9) rfl rfl rfl (by simp) dM_readFactor_32 (fun H locs Z => ?_)
      have Z : zw G ad (va_up w 100 (some (oM ad (upd F 17 (nI (q + 1)))))) s H locs := Z
      have hR1 := hR.obj (F' := (upd F 17 (nI (q + 1)))) (zfF.upd (by decide)) rfl
      have g100 := hR1.1.1
      refine lv_aload_n hx hb dM_readFactor_35 rfl (lv_at hl 0 rfl) ?_
      refine lv_dup hx hb dM_readFactor_36 rfl ?_
      refine zw_get (v := .int ((upd F 17 (nI (q + 1))) 19)) hx hb hT uM hown Z g100 rfl 19 (by decide) (hT _ mf_M_106) (fun _ h9 => h9) rfl dM_readFactor_37 ?_
      refine zw_top (nI d) (hF19) ?_
      refine lv_iconst (v := 1) hx hb dM_readFactor_40 (by decide) ?_
      refine lv_iadd hx hb dM_readFactor_41 ?_
      refine zw_top (nI (d + 1)) (nI_1 d) ?_
      refine zw_put (v := .int (nI (d + 1))) hx hb hT uM hown tM tM_ok nM Z g100 rfl 19 (by decide) (hT _ mf_M_106) (fun _ h9 => h9) rfl rfl rfl (by simp) dM_readFactor_42 (fun H locs Z => ?_)
      have Z : zw G ad (va_up (va_up w 100 (some (oM ad (upd F 17 (nI (q + 1)))))) 100 (some (oM ad (upd (upd F 17 (nI (q + 1))) 19 (nI (d + 1)))))) s H locs := Z
      have hR2 := hR1.dep (F' := (upd (upd F 17 (nI (q + 1))) 19 (nI (d + 1)))) (d' := d + 1) (b' := d + 1) (zfF.upd (by decide)) rfl (by omega) (Nat.le_refl _)
      have g100 := hR2.1.1
      refine lv_aload_n hx hb dM_readFactor_45 rfl (lv_at hl 0 rfl) ?_
      refine zw_callv (va_runV (As := []) (rest := []) ⟨hx, hb, hml, hown, hts⟩ (c_M_begin l P n o _ _ T len sg st (d + 1) hR2) (kw_M_begin hts ml_M_139 (zR_fit (by omega) (by omega))) (Z.preV g100 rfl _) rfl rfl hl.1 rfl (lv_room (Nat.le_of_ble_eq_true rfl)) dM_readFactor_46 ⟨Nat.le_of_ble_eq_true rfl, Nat.le_of_ble_eq_true rfl⟩) Z (fun w1 H locs hp Z => ?_)
      obtain ⟨hR3, hz3⟩ := hp
      exact hret _ _ _ _ _ dM_readFactor_49 (by
        unfold zEF
        rw [if_pos hc, if_neg hd9]
        exact ⟨_, _, hR3, zup_cong hB rfl, ⟨rfl, rfl, rfl, rfl⟩, ((zfF.upd (by decide)).trans (zfF.upd (by decide))).trans (zfF.upd (by decide)), ((zfr.up (by decide)).trans (zfr.up (by decide))).trans hz3⟩) Z
    · have hd9 : d = 20 := (nI_eq (by omega) (by decide)).mp (show nI d = nI 20 from hc2)
      refine lv_aload_n hx hb dM_readFactor_15 rfl (lv_at hl 0 rfl) ?_
      refine lv_iconst (v := 2) hx hb dM_readFactor_16 (by decide) ?_
      refine lv_aload_n hx hb dM_readFactor_17 rfl (lv_at hl 0 rfl) ?_
      refine zw_get (v := .int (F 17)) hx hb hT uM hown Z h100 rfl 17 (by decide) (hT _ mf_M_109) (fun _ h9 => h9) rfl dM_readFactor_18 ?_
      refine zw_top (nI q) (hat) ?_
      refine zw_callv (va_runV (As := [.int 2, .int (nI q)]) (rest := []) ⟨hx, hb, hml, hown, hts⟩ (c_M_fail l F h100 2 (nI q)) (kw_M_fail hts ml_M_128 (zR_fit (by omega) (by omega))) (Z.preV h100 rfl _) rfl rfl hl.1 rfl (lv_room (Nat.le_of_ble_eq_true rfl)) dM_readFactor_21 ⟨Nat.le_of_ble_eq_true rfl, Nat.le_of_ble_eq_true rfl⟩) Z (fun wq H locs hp Z => ?_)
      subst hp
      exact hret _ _ _ _ _ dM_readFactor_24 (by
        unfold zEF
        rw [if_pos hc, if_pos hd9]
        exact ⟨_, _, (hR).1.obj (fun k hk => va_up_ne _ _ (by omega)) (va_up_self _ _ _) (fun j hj => by rw [pk_un (by omega), pk_un (by omega)]), fun t ht => hB t (by omega), ⟨rfl, rfl, by decide, by decide⟩, (hR).ar.up, (zfF.upd (by decide)).trans (zfF.upd (by decide)), zfr.up (by decide)⟩) Z
