theorem zNm_f {T : Nat → Nat} {len m p f pl : Nat} (h : zNm T len m p = .inl (f, pl)) : 1 ≤ f ∧ f ≤ 4 := by
  unfold zNm zNum at h
  split at h
  · split at h
    · cases h; exact ⟨by decide, by decide⟩
    · cases h
  · cases h; exact ⟨by decide, by decide⟩
theorem zNm_v {T : Nat → Nat} {len m p v e : Nat} (hm : m ≤ 9) (hp : p ≤ len) (hTb : ∀ i, T i < 256) (h : zNm T len m p = .inr (v, e)) : v < 10 ^ m ∧ p < e ∧ e ≤ len := by
  unfold zNm at h
  have hi := zsp_in (T := T) hp
  split at h
  · next hd =>
    have h1 := (zch_d hd).1
    have h2 := zNum_ok h1 hd h
    exact ⟨zNum_lt hm h1 hTb hd h, by omega, h2.2.1⟩
  · cases h

set_option maxHeartbeats 4000000 in
set_option maxRecDepth 100000 in
theorem c_E_readFactor (l : Launch) {G : zG} {ad : Nat → Nat} (P n o : Nat) (FR : Nat → Int32) (T : Nat → Nat) (len k : Nat) (hk : k ≤ 20) (hB : zBC l G ad P n o FR T len k) : zFC l G ad P n o FR T len k := by
  intro w FE p9 hE hat hf0 hp9
  refine zw_methv (S := Nat → Option va_E) (fa := fun _ => ad) (fw := fun w' => w') (by decide) rfl (Nat.le_of_ble_eq_true rfl) ?_
  intro p e s m below meth c Q ls C hname Z hl hret
  obtain ⟨hx, hb, hml, hown, hts, hlk⟩ := C
  have hT : ∀ w ∈ zT, w.before ([.ref (ad 2), .int (nI (20 - k))] : List Value).toArray s = true := fun w h => hts w (List.mem_cons_of_mem _ h)
  have hown : s.vm.findClass "PolynomialDesk$Reader" = some m.cls := hown
  have hl : lv_has ls 4 [(0, .ref (ad 2)), (1, .int (nI (20 - k)))] := hl
  obtain ⟨hR, h2, ⟨tx, h10, htx⟩, hTb, hlen, hFl, h11, h12, hrows⟩ := id hE
  obtain ⟨-, ⟨hF0, hF1, hF2, hF3, hF4⟩, ⟨hP1, hP2⟩, hcfg, -⟩ := id hR
  have hi0 := zIdx_ok (n := n) (o := o) (k := 0) (by obtain ⟨i, a, b, _⟩ := zConst hcfg; exact ⟨i, a, b⟩)
  have hd0 : zDg n o (zIdx n o 0) = 0 := by obtain ⟨i, a, b, c9⟩ := zConst hcfg; rw [zKy_inj hcfg hi0.1 a (by rw [hi0.2, b])]; exact c9
  have hn4 := hcfg.2.1
  refine lv_aload_n hx hb dE_readFactor_0 rfl (lv_at hl 0 rfl) ?_
  refine lv_iload_n hx hb dE_readFactor_1 rfl (lv_at hl 1 rfl) ?_
  refine zw_callv (va_runV (As := [.int (nI (20 - k))]) (rest := []) ⟨hx, hb, hml, hown, hts⟩ (hB _ _ p9 hE hat hf0 hp9) (kw_E_readBareFactor hts ml_E_92 (zR_fit (by omega) (by omega))) (Z.preV hE.2.1 rfl _) rfl rfl hl.1 rfl (lv_room (Nat.le_of_ble_eq_true rfl)) dE_readFactor_2 ⟨Nat.le_of_ble_eq_true rfl, Nat.le_of_ble_eq_true rfl⟩) Z (fun w1 H locs hp Z => ?_)
  obtain ⟨FE1, hE1, hz1, hm⟩ := hp
  cases hb9 : zBare n o P T len (zGrp n o P T len k) p9 with
  | inl x9 =>
    obtain ⟨f, pl⟩ := x9
    rw [hb9] at hm
    refine lv_aload_n hx hb dE_readFactor_5 rfl (lv_at hl 0 rfl) ?_
    refine zw_get (v := .int (FE1 4)) hx hb hT uE hown Z hE1.2.1 rfl 4 (by decide) (hT _ mf_E_42) (fun _ h9 => h9) rfl dE_readFactor_6 ?_
    refine zw_top (nI f) (hm.1) ?_
    refine lv_if_ne (tgt := 21) hx hb dE_readFactor_9 (by decide) (fun _ => ?_) (fun hc => absurd hc (show ¬ ((nI f) : Int32) = 0 from nI_ne0 (by omega) (by omega)))
    exact hret _ _ _ _ _ dE_readFactor_21 (⟨FE1, hE1, hz1, by rw [zFac_nm, hb9]; exact hm⟩) Z
  | inr x9 =>
    obtain ⟨A, e1⟩ := x9
    rw [hb9] at hm
    obtain ⟨ha1, hf1, h51, h701⟩ := hm
    have hok := zBare_ok hcfg hP1 (zGrp_ok hcfg hP1 k) hp9 hb9
    refine lv_aload_n hx hb dE_readFactor_5 rfl (lv_at hl 0 rfl) ?_
    refine zw_get (v := .int (FE1 4)) hx hb hT uE hown Z hE1.2.1 rfl 4 (by decide) (hT _ mf_E_42) (fun _ h9 => h9) rfl dE_readFactor_6 ?_
    refine zw_top (0) (hf1) ?_
    refine lv_if_ne (tgt := 21) hx hb dE_readFactor_9 (by decide) (fun hc => absurd (show ((0) : Int32) = 0 from rfl) hc) (fun _ => ?_)
    obtain ⟨q, hq⟩ : ∃ q, q = zsp T len e1 := ⟨_, rfl⟩
    have hql := zsp_in (T := T) hok.2.1
    rw [← hq] at hql
    refine lv_aload_n hx hb dE_readFactor_12 rfl (lv_at hl 0 rfl) ?_
    refine zw_calli (va_runV (As := []) (rest := []) ⟨hx, hb, hml, hown, hts⟩ (c_E_nextByte l P n o FR FE1 T len hE1 e1 ha1 hok.2.1) (kw_E_nextByte hts ml_E_52 (zR_fit (by omega) (by omega))) (Z.preV hE1.2.1 rfl _) rfl rfl hl.1 rfl (lv_room (Nat.le_of_ble_eq_true rfl)) dE_readFactor_13 ⟨Nat.le_of_ble_eq_true rfl, Nat.le_of_ble_eq_true rfl⟩) Z (fun r w2 H locs hp Z => ?_)
    obtain ⟨hr1, hw2⟩ := hp
    rw [← hq] at hr1 hw2
    subst hr1
    subst hw2
    have hE2 : zRdr G ad (va_up w1 2 (some (oE ad (upd FE1 3 (nI q))))) P n o FR (upd FE1 3 (nI q)) T len := hE1.obj rfl
    refine lv_bipush (v := 94) hx hb dE_readFactor_16 (by decide) ?_
    refine lv_icmp_eq (tgt := 22) hx hb dE_readFactor_18 (by decide) (fun hc => ?_) (fun hc => ?_)
    · have hqlt := (zch_c hc (by decide)).1
      refine lv_aload_n hx hb dE_readFactor_22 rfl (lv_at hl 0 rfl) ?_
      refine zw_get (v := .int ((upd FE1 3 (nI q)) 3)) hx hb hT uE hown Z hE2.2.1 rfl 3 (by decide) (hT _ mf_E_45) (fun _ h9 => h9) rfl dE_readFactor_23 ?_
      refine zw_top (nI q) (rfl) ?_
      refine lv_istore_n (lv' := [(2, .int (nI q)), (0, .ref (ad 2)), (1, .int (nI (20 - k)))]) hx hb dE_readFactor_26 rfl hl (by decide) rfl (fun ls hl => ?_)
      refine lv_aload_n hx hb dE_readFactor_27 rfl (lv_at hl 1 rfl) ?_
      refine lv_dup hx hb dE_readFactor_28 rfl ?_
      refine zw_get (v := .int ((upd FE1 3 (nI q)) 3)) hx hb hT uE hown Z hE2.2.1 rfl 3 (by decide) (hT _ mf_E_45) (fun _ h9 => h9) rfl dE_readFactor_29 ?_
      refine zw_top (nI q) (rfl) ?_
      refine lv_iconst (v := 1) hx hb dE_readFactor_32 (by decide) ?_
      refine lv_iadd hx hb dE_readFactor_33 ?_
      refine zw_top (nI (q + 1)) (nI_1 q) ?_
      refine zw_put (v := .int (nI (q + 1))) hx hb hT uE hown tE tE_ok nE Z hE2.2.1 rfl 3 (by decide) (hT _ mf_E_45) (fun _ h9 => h9) rfl rfl rfl (by simp) dE_readFactor_34 (fun H locs Z => ?_)
      have Z : zw G ad (va_up (va_up w1 2 (some (oE ad (upd FE1 3 (nI q))))) 2 (some (oE ad (upd (upd FE1 3 (nI q)) 3 (nI (q + 1)))))) s H locs := Z
      rw [bx_uu, upd_upd] at Z
      have hE3 : zRdr G ad (va_up w1 2 (some (oE ad (upd FE1 3 (nI (q + 1)))))) P n o FR (upd FE1 3 (nI (q + 1))) T len := hE1.obj rfl
      refine lv_aload_n hx hb dE_readFactor_37 rfl (lv_at hl 1 rfl) ?_
      refine lv_iconst (v := 2) hx hb dE_readFactor_38 (by decide) ?_
      refine zw_calli (va_runV (As := [.int 2]) (rest := []) ⟨hx, hb, hml, hown, hts⟩ (c_E_readNumber l P n o FR _ T len hE3 2 (q + 1) (by decide) rfl (by omega)) (kw_E_readNumber hts ml_E_95 (zR_fit (by omega) (by omega))) (Z.preV hE3.2.1 rfl _) rfl rfl hl.1 rfl (lv_room (Nat.le_of_ble_eq_true rfl)) dE_readFactor_39 ⟨Nat.le_of_ble_eq_true rfl, Nat.le_of_ble_eq_true rfl⟩) Z (fun r w3 H locs hp Z => ?_)
      obtain ⟨FE4, hw4, hl4, hm4⟩ := hp
      subst hw4
      rw [bx_uu] at Z
      have hE4 : zRdr G ad (va_up w1 2 (some (oE ad FE4))) P n o FR FE4 T len := hE1.obj hl4
      have hz4 : zrf (21 - k) (21 - k) w (va_up w1 2 (some (oE ad FE4))) := hz1.trans (zrf.obj (by omega) (by omega))
      cases hn9 : zNm T len 2 (q + 1) with
      | inl x9 =>
        obtain ⟨f, pl⟩ := x9
        rw [hn9] at hm4
        obtain ⟨rfl, hf4, h54⟩ := hm4
        have hff := zNm_f hn9
        refine lv_istore_n (lv' := [(3, .int 0), (2, .int (nI q)), (0, .ref (ad 2)), (1, .int (nI (20 - k)))]) hx hb dE_readFactor_42 rfl hl (by decide) rfl (fun ls hl => ?_)
        refine lv_aload_n hx hb dE_readFactor_43 rfl (lv_at hl 2 rfl) ?_
        refine zw_get (v := .int (FE4 4)) hx hb hT uE hown Z hE4.2.1 rfl 4 (by decide) (hT _ mf_E_42) (fun _ h9 => h9) rfl dE_readFactor_44 ?_
        refine zw_top (nI f) (hf4) ?_
        refine lv_if_ne (tgt := 71) hx hb dE_readFactor_47 (by decide) (fun _ => ?_) (fun hc => absurd hc (show ¬ ((nI f) : Int32) = 0 from nI_ne0 (by omega) (by omega)))
        refine lv_aload_n hx hb dE_readFactor_71 rfl (lv_at hl 2 rfl) ?_
        refine zw_get (v := .int (FE4 4)) hx hb hT uE hown Z hE4.2.1 rfl 4 (by decide) (hT _ mf_E_42) (fun _ h9 => h9) rfl dE_readFactor_72 ?_
        refine zw_top (nI f) (hf4) ?_
        refine lv_if_ne (tgt := 94) hx hb dE_readFactor_75 (by decide) (fun _ => ?_) (fun hc => absurd hc (show ¬ ((nI f) : Int32) = 0 from nI_ne0 (by omega) (by omega)))
        exact hret _ _ _ _ _ dE_readFactor_94 (⟨FE4, hE4, hz4, by rw [zFac_nm, hb9]; simp only; rw [← hq, if_pos hc, hn9]; exact ⟨hf4, h54, hff⟩⟩) Z
      | inr x9 =>
        obtain ⟨v9, e2⟩ := x9
        rw [hn9] at hm4
        obtain ⟨rfl, ha4, hf4, h54⟩ := hm4
        have hvv := zNm_v (by decide) (by omega) hTb hn9
        have hf4 : FE4 4 = 0 := hf4.trans hf1
        have h54 : FE4 5 = FE 5 := h54.trans h51
        have h704 : (va_up w1 2 (some (oE ad FE4))) 70 = some (zrow G A) := by rw [va_up_ne _ _ (by decide)]; exact h701
        refine lv_istore_n (lv' := [(3, .int (nI v9)), (2, .int (nI q)), (0, .ref (ad 2)), (1, .int (nI (20 - k)))]) hx hb dE_readFactor_42 rfl hl (by decide) rfl (fun ls hl => ?_)
        refine lv_aload_n hx hb dE_readFactor_43 rfl (lv_at hl 2 rfl) ?_
        refine zw_get (v := .int (FE4 4)) hx hb hT uE hown Z hE4.2.1 rfl 4 (by decide) (hT _ mf_E_42) (fun _ h9 => h9) rfl dE_readFactor_44 ?_
        refine zw_top (0) (hf4) ?_
        refine lv_if_ne (tgt := 71) hx hb dE_readFactor_47 (by decide) (fun hc => absurd (show ((0) : Int32) = 0 from rfl) hc) (fun _ => ?_)
        refine lv_aload_n hx hb dE_readFactor_50 rfl (lv_at hl 2 rfl) ?_
        refine zw_get (v := .ref (ad 1)) hx hb hT uE hown Z hE4.2.1 rfl 0 (by decide) (hT _ mf_E_9) (fun _ h9 => h9) rfl dE_readFactor_51 ?_
        refine lv_aload_n hx hb dE_readFactor_54 rfl (lv_at hl 2 rfl) ?_
        refine zw_get (v := .ref (ad 70)) hx hb hT uE hown Z hE4.2.1 rfl 8 (by decide) (hT _ mf_E_33) (fun _ h9 => h9) rfl dE_readFactor_55 ?_
        refine lv_iload_n hx hb dE_readFactor_58 rfl (lv_at hl 0 rfl) ?_
        refine zw_calli (va_runV (As := [.ref (ad 70), .int (nI v9)]) (rest := []) ⟨hx, hb, hml, hown, hts⟩ (c_R_isPowerTooHigh l P n o FR hE4.1 70 (fun i => nI (A i)) h704 v9) (kw_R_isPowerTooHigh hts ml_E_99 (zR_fit (by omega) (by omega))) (Z.preV hE4.1.1 rfl _) rfl rfl hl.1 rfl (lv_room (Nat.le_of_ble_eq_true rfl)) dE_readFactor_59 ⟨Nat.le_of_ble_eq_true rfl, Nat.le_of_ble_eq_true rfl⟩) Z (fun r wq H locs hp Z => ?_)
        obtain ⟨rfl, hw1⟩ := hp
        rw [hw1] at Z
        clear hw1
        by_cases hh9 : zhighp n o (fun i => nI (A i)) v9 = true
        · rw [hh9]
          refine lv_if_eq (tgt := 71) hx hb dE_readFactor_62 (by decide) (fun hc => absurd hc (show ¬ (((zb true) : Int32) = 0) from by decide)) (fun _ => ?_)
          refine lv_aload_n hx hb dE_readFactor_65 rfl (lv_at hl 2 rfl) ?_
          refine lv_iconst (v := 3) hx hb dE_readFactor_66 (by decide) ?_
          refine lv_iload_n hx hb dE_readFactor_67 rfl (lv_at hl 1 rfl) ?_
          refine zw_callv (va_runV (As := [.int 3, .int (nI q)]) (rest := []) ⟨hx, hb, hml, hown, hts⟩ (c_E_noteFault l _ hE4.2.1 3 (nI q)) (kw_E_noteFault hts ml_E_56 (zR_fit (by omega) (by omega))) (Z.preV hE4.2.1 rfl _) rfl rfl hl.1 rfl (lv_room (Nat.le_of_ble_eq_true rfl)) dE_readFactor_68 ⟨Nat.le_of_ble_eq_true rfl, Nat.le_of_ble_eq_true rfl⟩) Z (fun w5 H locs hp Z => ?_)
          subst hp
          rw [bx_uu] at Z
          have hE5 : zRdr G ad (va_up w1 2 (some (oE ad (upd (upd FE4 4 3) 5 (nI q))))) P n o FR (upd (upd FE4 4 3) 5 (nI q)) T len := hE1.obj hl4
          refine lv_aload_n hx hb dE_readFactor_71 rfl (lv_at hl 2 rfl) ?_
          refine zw_get (v := .int ((upd (upd FE4 4 3) 5 (nI q)) 4)) hx hb hT uE hown Z hE5.2.1 rfl 4 (by decide) (hT _ mf_E_42) (fun _ h9 => h9) rfl dE_readFactor_72 ?_
          refine zw_top (3) (rfl) ?_
          refine lv_if_ne (tgt := 94) hx hb dE_readFactor_75 (by decide) (fun _ => ?_) (fun hc => absurd hc (show ¬ ((3) : Int32) = 0 from by decide))
          exact hret _ _ _ _ _ dE_readFactor_94 (⟨_, hE5, hz1.trans (zrf.obj (by omega) (by omega)), by rw [zFac_nm, hb9]; simp only; rw [← hq, if_pos hc, hn9]; simp only; rw [if_pos hh9]; exact ⟨rfl, rfl, by decide, by decide⟩⟩) Z
        · have hhf : zhighp n o (fun i => nI (A i)) v9 = false := by
            cases h8 : zhighp n o (fun i => nI (A i)) v9 with
            | true => exact absurd h8 hh9
            | false => rfl
          rw [hhf]
          refine lv_if_eq (tgt := 71) hx hb dE_readFactor_62 (by decide) (fun _ => ?_) (fun hc => absurd (show ((zb false) : Int32) = 0 from by decide) hc)
          refine lv_aload_n hx hb dE_readFactor_71 rfl (lv_at hl 2 rfl) ?_
          refine zw_get (v := .int (FE4 4)) hx hb hT uE hown Z hE4.2.1 rfl 4 (by decide) (hT _ mf_E_42) (fun _ h9 => h9) rfl dE_readFactor_72 ?_
          refine zw_top (0) (hf4) ?_
          refine lv_if_ne (tgt := 94) hx hb dE_readFactor_75 (by decide) (fun hc => absurd (show ((0) : Int32) = 0 from rfl) hc) (fun _ => ?_)
          obtain ⟨d9, hd9, hde9⟩ := zhighp_deg hcfg hP2 hok.2.2 (by omega) hh9
          obtain ⟨g71, h714⟩ := hE4.2.2.2.2.2.2.2.2 71 (by decide) (by decide)
          obtain ⟨g72, h724⟩ := hE4.2.2.2.2.2.2.2.2 72 (by decide) (by decide)
          refine lv_aload_n hx hb dE_readFactor_78 rfl (lv_at hl 2 rfl) ?_
          refine zw_get (v := .ref (ad 1)) hx hb hT uE hown Z hE4.2.1 rfl 0 (by decide) (hT _ mf_E_9) (fun _ h9 => h9) rfl dE_readFactor_79 ?_
          refine lv_aload_n hx hb dE_readFactor_82 rfl (lv_at hl 2 rfl) ?_
          refine zw_get (v := .ref (ad 70)) hx hb hT uE hown Z hE4.2.1 rfl 8 (by decide) (hT _ mf_E_33) (fun _ h9 => h9) rfl dE_readFactor_83 ?_
          refine lv_iload_n hx hb dE_readFactor_86 rfl (lv_at hl 0 rfl) ?_
          refine lv_aload_n hx hb dE_readFactor_87 rfl (lv_at hl 2 rfl) ?_
          refine zw_get (v := .ref (ad 70)) hx hb hT uE hown Z hE4.2.1 rfl 8 (by decide) (hT _ mf_E_33) (fun _ h9 => h9) rfl dE_readFactor_88 ?_
          refine zw_callv (va_runV (As := [.ref (ad 70), .int (nI v9), .ref (ad 70)]) (rest := []) ⟨hx, hb, hml, hown, hts⟩ (c_R_writePower l P n o FR hE4.1 (zIdx n o 0) hi0.1 hi0.2 hd0 70 70 v9 d9 A g71 _ g72 h704 h704 h714 h724 (by decide) (by decide) (by decide) hok.2.2 hd9 hde9 (by omega)) (kw_R_writePower hts ml_E_103 (zR_fit (by omega) (by omega))) (Z.preV hE4.1.1 rfl _) rfl rfl hl.1 rfl (lv_room (Nat.le_of_ble_eq_true rfl)) dE_readFactor_91 ⟨Nat.le_of_ble_eq_true rfl, Nat.le_of_ble_eq_true rfl⟩) Z (fun w5 H locs hp Z => ?_)
          obtain ⟨g9, hw5⟩ := hp
          subst hw5
          exact hret _ _ _ _ _ dE_readFactor_94 (⟨FE4, ((hE4.row (by decide) (by decide)).row (by decide) (by decide)).row (by decide) (by decide), ((hz4.trans (zrf.row (by omega) (by omega) (by omega))).trans (zrf.row (by omega) (by omega) (by omega))).trans (zrf.row (by omega) (by omega) (by omega)), by rw [zFac_nm, hb9]; simp only; rw [← hq, if_pos hc, hn9]; simp only; rw [if_neg hh9]; exact ⟨ha4, hf4, h54, va_up_self _ _ _⟩⟩) Z
    · exact hret _ _ _ _ _ dE_readFactor_21 (⟨upd FE1 3 (nI q), hE2, hz1.trans (zrf.obj (by omega) (by omega)), by rw [zFac_nm, hb9]; simp only; rw [← hq, if_neg hc]; exact ⟨rfl, hf1, h51, by rw [va_up_ne _ _ (by decide)]; exact h701⟩⟩) Z

set_option maxHeartbeats 4000000 in
set_option maxRecDepth 100000 in
theorem c_E_readGroup (l : Launch) {G : zG} {ad : Nat → Nat} (P n o : Nat) (FR : Nat → Int32) (T : Nat → Nat) (len k : Nat) (hk : k ≤ 21) (hS : ∀ j, k = j + 1 → zSC l G ad P n o FR T len j) : zGC l G ad P n o FR T len k := by
  intro w FE p9 hE hat hf0 hp9
  refine zw_methv (S := Nat → Option va_E) (fa := fun _ => ad) (fw := fun w' => w') (by decide) rfl (Nat.le_of_ble_eq_true rfl) ?_
  intro p e s m below meth c Q ls C hname Z hl hret
  obtain ⟨hx, hb, hml, hown, hts, hlk⟩ := C
  have hT : ∀ w ∈ zT, w.before ([.ref (ad 2), .int (nI (21 - k))] : List Value).toArray s = true := fun w h => hts w (List.mem_cons_of_mem _ h)
  have hown : s.vm.findClass "PolynomialDesk$Reader" = some m.cls := hown
  have hl : lv_has ls 2 [(0, .ref (ad 2)), (1, .int (nI (21 - k)))] := hl
  obtain ⟨hR, h2, ⟨tx, h10, htx⟩, hTb, hlen, hFl, h11, h12, hrows⟩ := id hE
  obtain ⟨-, -, ⟨hP1, hP2⟩, hcfg, -⟩ := id hR
  refine lv_iload_n hx hb dE_readGroup_0 rfl (lv_at hl 1 rfl) ?_
  refine lv_if_lt (tgt := 10) hx hb dE_readGroup_1 (by decide) (fun hc => absurd hc (show ¬ (((nI (21 - k)) : Int32) < 0) from nI_pos (by omega))) (fun _ => ?_)
  refine lv_iload_n hx hb dE_readGroup_4 rfl (lv_at hl 1 rfl) ?_
  refine lv_bipush (v := 20) hx hb dE_readGroup_5 (by decide) ?_
  refine lv_icmp_le (tgt := 20) hx hb dE_readGroup_7 (by decide) (fun hc => ?_) (fun hc => ?_)
  · have hk1 : 1 ≤ k := by
      have := (nI_leI (by omega) (by decide)).mp (show nI (21 - k) ≤ nI 20 from hc)
      omega
    obtain ⟨j, hj⟩ : ∃ j, k = j + 1 := ⟨k - 1, by omega⟩
    refine lv_aload_n hx hb dE_readGroup_20 rfl (lv_at hl 0 rfl) ?_
    refine lv_dup hx hb dE_readGroup_21 rfl ?_
    refine zw_get (v := .int (FE 3)) hx hb hT uE hown Z hE.2.1 rfl 3 (by decide) (hT _ mf_E_45) (fun _ h9 => h9) rfl dE_readGroup_22 ?_
    refine zw_top (nI p9) (hat) ?_
    refine lv_iconst (v := 1) hx hb dE_readGroup_25 (by decide) ?_
    refine lv_iadd hx hb dE_readGroup_26 ?_
    refine zw_top (nI (p9 + 1)) (nI_1 p9) ?_
    refine zw_put (v := .int (nI (p9 + 1))) hx hb hT uE hown tE tE_ok nE Z hE.2.1 rfl 3 (by decide) (hT _ mf_E_45) (fun _ h9 => h9) rfl rfl rfl (by simp) dE_readGroup_27 (fun H locs Z => ?_)
    have Z : zw G ad (va_up w 2 (some (oE ad (upd FE 3 (nI (p9 + 1)))))) s H locs := Z
    have hE1 : zRdr G ad (va_up w 2 (some (oE ad (upd FE 3 (nI (p9 + 1)))))) P n o FR (upd FE 3 (nI (p9 + 1))) T len := hE.obj rfl
    have hS1 := hS j hj _ _ (p9 + 1) hE1 rfl hf0 (by omega)
    rw [show 20 - j = 21 - k by omega] at hS1
    refine lv_aload_n hx hb dE_readGroup_30 rfl (lv_at hl 0 rfl) ?_
    refine lv_iload_n hx hb dE_readGroup_31 rfl (lv_at hl 1 rfl) ?_
    refine zw_callv (va_runV (As := [.int (nI (21 - k))]) (rest := []) ⟨hx, hb, hml, hown, hts⟩ (hS1) (kw_E_readSum hts ml_E_48 (zR_fit (by omega) (by omega))) (Z.preV hE1.2.1 rfl _) rfl rfl hl.1 rfl (lv_room (Nat.le_of_ble_eq_true rfl)) dE_readGroup_32 ⟨Nat.le_of_ble_eq_true rfl, Nat.le_of_ble_eq_true rfl⟩) Z (fun w2 H locs hp Z => ?_)
    obtain ⟨FE2, hE2, hz2, hm⟩ := hp
    have hz2 : zrf (21 - k) (21 - k) w w2 := (zrf.obj (by omega) (by omega)).trans hz2
    cases hb9 : zSum n o P T len (zGrp n o P T len j) (p9 + 1) with
    | inl x9 =>
      obtain ⟨f, pl⟩ := x9
      rw [hb9] at hm
      refine lv_aload_n hx hb dE_readGroup_35 rfl (lv_at hl 0 rfl) ?_
      refine zw_get (v := .int (FE2 4)) hx hb hT uE hown Z hE2.2.1 rfl 4 (by decide) (hT _ mf_E_42) (fun _ h9 => h9) rfl dE_readGroup_36 ?_
      refine zw_top (nI f) (hm.1) ?_
      refine lv_if_eq (tgt := 43) hx hb dE_readGroup_39 (by decide) (fun hc => absurd hc (show ¬ (((nI f) : Int32) = 0) from nI_ne0 (by omega) (by omega))) (fun _ => ?_)
      exact hret _ _ _ _ _ dE_readGroup_42 (⟨FE2, hE2, hz2, by rw [hj, zGrp, hb9]; exact hm⟩) Z
    | inr x9 =>
      obtain ⟨A, e1⟩ := x9
      rw [hb9] at hm
      obtain ⟨ha2, hf2, h52, hrow⟩ := hm
      have hok := zSum_ok hcfg hP1 (zGrp_ok hcfg hP1 j) (by omega) hb9
      refine lv_aload_n hx hb dE_readGroup_35 rfl (lv_at hl 0 rfl) ?_
      refine zw_get (v := .int (FE2 4)) hx hb hT uE hown Z hE2.2.1 rfl 4 (by decide) (hT _ mf_E_42) (fun _ h9 => h9) rfl dE_readGroup_36 ?_
      refine zw_top (0) (hf2) ?_
      refine lv_if_eq (tgt := 43) hx hb dE_readGroup_39 (by decide) (fun _ => ?_) (fun hc => absurd (show ((0) : Int32) = 0 from rfl) hc)
      obtain ⟨q, hq⟩ : ∃ q, q = zsp T len e1 := ⟨_, rfl⟩
      have hql := zsp_in (T := T) hok.2.1
      rw [← hq] at hql
      refine lv_aload_n hx hb dE_readGroup_43 rfl (lv_at hl 0 rfl) ?_
      refine zw_calli (va_runV (As := []) (rest := []) ⟨hx, hb, hml, hown, hts⟩ (c_E_nextByte l P n o FR FE2 T len hE2 e1 ha2 hok.2.1) (kw_E_nextByte hts ml_E_52 (zR_fit (by omega) (by omega))) (Z.preV hE2.2.1 rfl _) rfl rfl hl.1 rfl (lv_room (Nat.le_of_ble_eq_true rfl)) dE_readGroup_44 ⟨Nat.le_of_ble_eq_true rfl, Nat.le_of_ble_eq_true rfl⟩) Z (fun r w3 H locs hp Z => ?_)
      obtain ⟨hr1, hw3⟩ := hp
      rw [← hq] at hr1 hw3
      subst hr1
      subst hw3
      have hE3 : zRdr G ad (va_up w2 2 (some (oE ad (upd FE2 3 (nI q))))) P n o FR (upd FE2 3 (nI q)) T len := hE2.obj rfl
      refine lv_bipush (v := 41) hx hb dE_readGroup_47 (by decide) ?_
      refine lv_icmp_eq (tgt := 62) hx hb dE_readGroup_49 (by decide) (fun hc2 => ?_) (fun hc2 => ?_)
      · have hqlt := (zch_c hc2 (by decide)).1
        refine lv_aload_n hx hb dE_readGroup_62 rfl (lv_at hl 0 rfl) ?_
        refine lv_dup hx hb dE_readGroup_63 rfl ?_
        refine zw_get (v := .int ((upd FE2 3 (nI q)) 3)) hx hb hT uE hown Z hE3.2.1 rfl 3 (by decide) (hT _ mf_E_45) (fun _ h9 => h9) rfl dE_readGroup_64 ?_
        refine zw_top (nI q) (rfl) ?_
        refine lv_iconst (v := 1) hx hb dE_readGroup_67 (by decide) ?_
        refine lv_iadd hx hb dE_readGroup_68 ?_
        refine zw_top (nI (q + 1)) (nI_1 q) ?_
        refine zw_put (v := .int (nI (q + 1))) hx hb hT uE hown tE tE_ok nE Z hE3.2.1 rfl 3 (by decide) (hT _ mf_E_45) (fun _ h9 => h9) rfl rfl rfl (by simp) dE_readGroup_69 (fun H locs Z => ?_)
        have Z : zw G ad (va_up (va_up w2 2 (some (oE ad (upd FE2 3 (nI q))))) 2 (some (oE ad (upd (upd FE2 3 (nI q)) 3 (nI (q + 1)))))) s H locs := Z
        rw [bx_uu, upd_upd] at Z
        have hE4 : zRdr G ad (va_up w2 2 (some (oE ad (upd FE2 3 (nI (q + 1)))))) P n o FR (upd FE2 3 (nI (q + 1))) T len := hE2.obj rfl
        have g11 := hE4.2.2.2.2.2.2.1
        have hrow4 : (va_up w2 2 (some (oE ad (upd FE2 3 (nI (q + 1)))))) (28 + (21 - k)) = some (zrow G A) := by rw [va_up_ne _ _ (by omega)]; exact hrow
        obtain ⟨g70, h704⟩ := hE4.2.2.2.2.2.2.2.2 70 (by decide) (by decide)
        refine lv_aload_n hx hb dE_readGroup_72 rfl (lv_at hl 0 rfl) ?_
        refine zw_get (v := .ref (ad 1)) hx hb hT uE hown Z hE4.2.1 rfl 0 (by decide) (hT _ mf_E_9) (fun _ h9 => h9) rfl dE_readGroup_73 ?_
        refine lv_aload_n hx hb dE_readGroup_76 rfl (lv_at hl 0 rfl) ?_
        refine zw_get (v := .ref (ad 11)) hx hb hT uE hown Z hE4.2.1 rfl 6 (by decide) (hT _ mf_E_27) (fun _ h9 => h9) rfl dE_readGroup_77 ?_
        refine lv_iload_n hx hb dE_readGroup_80 rfl (lv_at hl 1 rfl) ?_
        refine zw_aald (v := .ref (ad (28 + (21 - k)))) hx hb Z g11 (vin (by omega) (by decide)) (by rw [ncl (by omega)]; rfl) dE_readGroup_81 ?_
        refine lv_aload_n hx hb dE_readGroup_82 rfl (lv_at hl 0 rfl) ?_
        refine zw_get (v := .ref (ad 70)) hx hb hT uE hown Z hE4.2.1 rfl 8 (by decide) (hT _ mf_E_33) (fun _ h9 => h9) rfl dE_readGroup_83 ?_
        refine zw_callv (va_runV (As := [.ref (ad (28 + (21 - k))), .ref (ad 70)]) (rest := []) ⟨hx, hb, hml, hown, hts⟩ (c_R_writeCopy l (28 + (21 - k)) 70 _ g70 hrow4 h704) (kw_R_writeCopy hts ml_E_60 (zR_fit (by omega) (by omega))) (Z.preV hE4.1.1 rfl _) rfl rfl hl.1 rfl (lv_room (Nat.le_of_ble_eq_true rfl)) dE_readGroup_86 ⟨Nat.le_of_ble_eq_true rfl, Nat.le_of_ble_eq_true rfl⟩) Z (fun w5 H locs hp Z => ?_)
        subst hp
        exact hret _ _ _ _ _ dE_readGroup_89 (⟨upd FE2 3 (nI (q + 1)), hE4.row (by decide) (by decide), (hz2.trans (zrf.obj (by omega) (by omega))).trans (zrf.row (by omega) (by omega) (by omega)), by rw [hj, zGrp, hb9]; simp only; rw [← hq, if_pos hc2]; exact ⟨rfl, hf2, h52, va_up_self _ _ _⟩⟩) Z
      · refine lv_aload_n hx hb dE_readGroup_52 rfl (lv_at hl 0 rfl) ?_
        refine lv_iconst (v := 1) hx hb dE_readGroup_53 (by decide) ?_
        refine lv_aload_n hx hb dE_readGroup_54 rfl (lv_at hl 0 rfl) ?_
        refine zw_get (v := .int ((upd FE2 3 (nI q)) 3)) hx hb hT uE hown Z hE3.2.1 rfl 3 (by decide) (hT _ mf_E_45) (fun _ h9 => h9) rfl dE_readGroup_55 ?_
        refine zw_top (nI q) (rfl) ?_
        refine zw_callv (va_runV (As := [.int 1, .int (nI q)]) (rest := []) ⟨hx, hb, hml, hown, hts⟩ (c_E_noteFault l _ hE3.2.1 1 (nI q)) (kw_E_noteFault hts ml_E_56 (zR_fit (by omega) (by omega))) (Z.preV hE3.2.1 rfl _) rfl rfl hl.1 rfl (lv_room (Nat.le_of_ble_eq_true rfl)) dE_readGroup_58 ⟨Nat.le_of_ble_eq_true rfl, Nat.le_of_ble_eq_true rfl⟩) Z (fun w5 H locs hp Z => ?_)
        subst hp
        rw [bx_uu] at Z
        exact hret _ _ _ _ _ dE_readGroup_61 (⟨upd (upd (upd FE2 3 (nI q)) 4 1) 5 (nI q), hE2.obj rfl, hz2.trans (zrf.obj (by omega) (by omega)), by rw [hj, zGrp, hb9]; simp only; rw [← hq, if_neg hc2]; exact ⟨rfl, rfl, by decide, by decide⟩⟩) Z
  · have hk0 : k = 0 := by
      have : ¬ 21 - k ≤ 20 := fun h9 => hc (nI_le (b := 20) h9 (by decide))
      omega
    refine lv_aload_n hx hb dE_readGroup_10 rfl (lv_at hl 0 rfl) ?_
    refine lv_iconst (v := 2) hx hb dE_readGroup_11 (by decide) ?_
    refine lv_aload_n hx hb dE_readGroup_12 rfl (lv_at hl 0 rfl) ?_
    refine zw_get (v := .int (FE 3)) hx hb hT uE hown Z hE.2.1 rfl 3 (by decide) (hT _ mf_E_45) (fun _ h9 => h9) rfl dE_readGroup_13 ?_
    refine zw_top (nI p9) (hat) ?_
    refine zw_callv (va_runV (As := [.int 2, .int (nI p9)]) (rest := []) ⟨hx, hb, hml, hown, hts⟩ (c_E_noteFault l _ hE.2.1 2 (nI p9)) (kw_E_noteFault hts ml_E_56 (zR_fit (by omega) (by omega))) (Z.preV hE.2.1 rfl _) rfl rfl hl.1 rfl (lv_room (Nat.le_of_ble_eq_true rfl)) dE_readGroup_16 ⟨Nat.le_of_ble_eq_true rfl, Nat.le_of_ble_eq_true rfl⟩) Z (fun w5 H locs hp Z => ?_)
    subst hp
    exact hret _ _ _ _ _ dE_readGroup_19 (⟨upd (upd FE 4 2) 5 (nI p9), hE.obj rfl, zrf.obj (by omega) (by omega), by rw [hk0, zGrp]; exact ⟨rfl, rfl, by decide, by decide⟩⟩) Z
