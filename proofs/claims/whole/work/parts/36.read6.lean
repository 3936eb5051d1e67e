/-- the text is used up -/
theorem zRdr.obj0 {G : zG} {ad : Nat → Nat} {w : Nat → Option va_E} {P n o : Nat} {FR FE FE' : Nat → Int32} {T : Nat → Nat} {len : Nat} (h : zRdr G ad w P n o FR FE T len) (h2 : FE' 2 = 0) : zRdr G ad (va_up w 2 (some (oE ad FE'))) P n o FR FE' T 0 := by
  obtain ⟨a1, a2, ⟨tx, a3, a3'⟩, a4, a5, a6, a7, a8, a9⟩ := h
  refine ⟨a1.cong' ?_, va_up_self _ _ _, ⟨tx, by rw [va_up_ne _ _ (by decide)]; exact a3, fun i hi => absurd hi (by omega)⟩, a4, by omega, h2, by rw [va_up_ne _ _ (by decide)]; exact a7, by rw [va_up_ne _ _ (by decide)]; exact a8, fun k h1 h3 => by rw [va_up_ne _ _ (by omega)]; exact a9 k h1 h3⟩
  intro k h1 h3 h4
  exact va_up_ne _ _ h4
/-- what reading a text leaves alone -/
def zrt (t : Nat) (w w' : Nat → Option va_E) : Prop := ∀ k, (k < 28 ∧ k ≠ 2 ∧ k ≠ t) ∨ 73 ≤ k → w' k = w k
def zTxt (G : zG) (ad : Nat → Nat) (w : Nat → Option va_E) (P n o : Nat) (FR : Nat → Int32) (T : Nat → Nat) (len t : Nat) (r : Int32) (w' : Nat → Option va_E) : Prop :=
  ∃ FE' : Nat → Int32, zRdr G ad w' P n o FR FE' T 0 ∧ zrt t w w' ∧ (match zText n o P T len with
    | .inl (f, pl) => r = 0 ∧ FE' 4 = nI f ∧ FE' 5 = nI pl ∧ 1 ≤ f ∧ f ≤ 4 ∧ w' t = w t
    | .inr (A, _) => r = 1 ∧ FE' 4 = 0 ∧ FE' 5 = -1 ∧ w' t = some (zrow G A))
theorem zTxt_bit {G : zG} {ad : Nat → Nat} {w w' : Nat → Option va_E} {P n o : Nat} {FR : Nat → Int32} {T : Nat → Nat} {len t : Nat} {r : Int32} (h : zTxt G ad w P n o FR T len t r w') : narrow .boolean (.int r) = .int r := by
  obtain ⟨FE', -, -, h⟩ := h
  cases hb : zText n o P T len with
  | inl x =>
    obtain ⟨f, pl⟩ := x
    rw [hb] at h
    rw [h.1]
    decide
  | inr x =>
    obtain ⟨A, e⟩ := x
    rw [hb] at h
    rw [h.1]
    decide

set_option maxHeartbeats 4000000 in
set_option maxRecDepth 100000 in
theorem c_E_readText (l : Launch) {G : zG} {ad : Nat → Nat} {w : Nat → Option va_E} (P n o : Nat) (FR FE : Nat → Int32) (T : Nat → Nat) (len : Nat) (hE : zRdr G ad w P n o FR FE T len) (t : Nat) (ht1 : 20 ≤ t) (ht2 : t < 28) : Met l yE_readText wE_readText (zR (131)) (va_Pc [.ref (ad 2), .ref (ad t)] (zw_U G ad w)) (va_Qi (S := Nat → Option va_E) (fun r w' => zTxt G ad w P n o FR T len t r w') (fun u t => zw_U G ((fun _ => ad) u) ((fun w' => w') u) t) (zA G)) 0 0 (zA G) := by
  refine zw_methz (S := Nat → Option va_E) (fa := fun _ => ad) (fw := fun w' => w') (by decide) rfl (Nat.le_of_ble_eq_true rfl) (fun r u h => zTxt_bit h) ?_
  intro p e s m below meth c Q ls C hname Z hl hret
  obtain ⟨hx, hb, hml, hown, hts, hlk⟩ := C
  have hT : ∀ w ∈ zT, w.before ([.ref (ad 2), .ref (ad t)] : List Value).toArray s = true := fun w h => hts w (List.mem_cons_of_mem _ h)
  have hown : s.vm.findClass "PolynomialDesk$Reader" = some m.cls := hown
  have hl : lv_has ls 2 [(0, .ref (ad 2)), (1, .ref (ad t))] := hl
  obtain ⟨hR, h2, ⟨tx, h10, htx⟩, hTb, hlen, hFl, h11, h12, hrows⟩ := id hE
  obtain ⟨-, ⟨hF0, hF1, hF2, hF3, hF4⟩, ⟨hP1, hP2⟩, hcfg, -⟩ := id hR
  have tail : ∀ (wA : Nat → Option va_E) (FA : Nat → Int32) (H : Heap) (locs : List Loc) (ls : Array Slot), zRdr G ad wA P n o FR FA T len → zrf 0 0 w wA → (match zText n o P T len with | .inl (f, pl) => FA 4 = nI f ∧ FA 5 = nI pl ∧ 1 ≤ f ∧ f ≤ 4 | .inr (A, _) => FA 4 = 0 ∧ FA 5 = -1 ∧ wA 28 = some (zrow G A)) → zw G ad wA s H locs → lv_has ls 2 [(0, .ref (ad 2)), (1, .ref (ad t))] → W p l e (zR (131)) s m ([.ref (ad 2), .ref (ad t)] : List Value).toArray below meth c H locs 0 0 Q (F0 m 44 ls []) := by
    intro wA FA H locs ls hEA hzA hmA Z hl
    refine lv_aload_n hx hb dE_readText_44 rfl (lv_at hl 0 rfl) ?_
    refine lv_iconst (v := 0) hx hb dE_readText_45 (by decide) ?_
    refine zw_put (v := .int 0) hx hb hT uE hown tE tE_ok nE Z hEA.2.1 rfl 2 (by decide) (hT _ mf_E_37) (fun _ h9 => h9) rfl rfl rfl (by simp) dE_readText_46 (fun H locs Z => ?_)
    have Z : zw G ad (va_up wA 2 (some (oE ad (upd FA 2 0)))) s H locs := Z
    have hE0 : zRdr G ad (va_up wA 2 (some (oE ad (upd FA 2 0)))) P n o FR (upd FA 2 0) T 0 := hEA.obj0 rfl
    have hz0 : zrf 0 0 w (va_up wA 2 (some (oE ad (upd FA 2 0)))) := hzA.trans (zrf.obj (by omega) (by omega))
    cases hb8 : zText n o P T len with
    | inl x9 =>
      obtain ⟨f, pl⟩ := x9
      rw [hb8] at hmA
      refine lv_aload_n hx hb dE_readText_49 rfl (lv_at hl 0 rfl) ?_
      refine zw_get (v := .int ((upd FA 2 0) 4)) hx hb hT uE hown Z hE0.2.1 rfl 4 (by decide) (hT _ mf_E_42) (fun _ h9 => h9) rfl dE_readText_50 ?_
      refine zw_top (nI f) (hmA.1) ?_
      refine lv_if_eq (tgt := 58) hx hb dE_readText_53 (by decide) (fun hc => absurd hc (show ¬ (((nI f) : Int32) = 0) from nI_ne0 (by omega) (by omega))) (fun _ => ?_)
      refine lv_iconst (v := 0) hx hb dE_readText_56 (by decide) ?_
      exact hret _ _ _ _ _ _ dE_readText_57 (⟨upd FA 2 0, hE0, fun k hk => hz0 k (by omega), by rw [hb8]; exact ⟨rfl, hmA.1, hmA.2.1, hmA.2.2.1, hmA.2.2.2, hz0 t (by omega)⟩⟩) Z
    | inr x9 =>
      obtain ⟨A, e1⟩ := x9
      rw [hb8] at hmA
      have h28 : (va_up wA 2 (some (oE ad (upd FA 2 0)))) 28 = some (zrow G A) := by rw [va_up_ne _ _ (by decide)]; exact hmA.2.2
      obtain ⟨gt, hgt⟩ := hE0.2.2.2.2.2.2.2.2 t ht1 (by omega)
      have g11 := hE0.2.2.2.2.2.2.1
      refine lv_aload_n hx hb dE_readText_49 rfl (lv_at hl 0 rfl) ?_
      refine zw_get (v := .int ((upd FA 2 0) 4)) hx hb hT uE hown Z hE0.2.1 rfl 4 (by decide) (hT _ mf_E_42) (fun _ h9 => h9) rfl dE_readText_50 ?_
      refine zw_top (0) (hmA.1) ?_
      refine lv_if_eq (tgt := 58) hx hb dE_readText_53 (by decide) (fun _ => ?_) (fun hc => absurd (show ((0) : Int32) = 0 from rfl) hc)
      refine lv_aload_n hx hb dE_readText_58 rfl (lv_at hl 0 rfl) ?_
      refine zw_get (v := .ref (ad 1)) hx hb hT uE hown Z hE0.2.1 rfl 0 (by decide) (hT _ mf_E_9) (fun _ h9 => h9) rfl dE_readText_59 ?_
      refine lv_aload_n hx hb dE_readText_62 rfl (lv_at hl 0 rfl) ?_
      refine zw_get (v := .ref (ad 11)) hx hb hT uE hown Z hE0.2.1 rfl 6 (by decide) (hT _ mf_E_27) (fun _ h9 => h9) rfl dE_readText_63 ?_
      refine lv_iconst (v := 0) hx hb dE_readText_66 (by decide) ?_
      refine zw_aald (v := .ref (ad 28)) hx hb Z g11 (vin (i := 0) (by omega) (by decide)) (rfl) dE_readText_67 ?_
      refine lv_aload_n hx hb dE_readText_68 rfl (lv_at hl 1 rfl) ?_
      refine zw_callv (va_runV (As := [.ref (ad 28), .ref (ad t)]) (rest := []) ⟨hx, hb, hml, hown, hts⟩ (c_R_writeCopy l 28 t _ gt h28 hgt) (kw_R_writeCopy hts ml_E_60 (zR_fit (by omega) (by omega))) (Z.preV hE0.1.1 rfl _) rfl rfl hl.1 rfl (lv_room (Nat.le_of_ble_eq_true rfl)) dE_readText_69 ⟨Nat.le_of_ble_eq_true rfl, Nat.le_of_ble_eq_true rfl⟩) Z (fun wB H locs hp Z => ?_)
      subst hp
      refine lv_iconst (v := 1) hx hb dE_readText_72 (by decide) ?_
      exact hret _ _ _ _ _ _ dE_readText_73 (⟨upd FA 2 0, hE0.row ht1 (by omega), fun k hk => by rw [va_up_ne _ _ (by omega)]; exact hz0 k (by omega), by rw [hb8]; exact ⟨rfl, hmA.1, hmA.2.1, va_up_self _ _ _⟩⟩) Z
  refine lv_aload_n hx hb dE_readText_0 rfl (lv_at hl 0 rfl) ?_
  refine lv_iconst (v := 0) hx hb dE_readText_1 (by decide) ?_
  refine zw_put (v := .int 0) hx hb hT uE hown tE tE_ok nE Z hE.2.1 rfl 3 (by decide) (hT _ mf_E_45) (fun _ h9 => h9) rfl rfl rfl (by simp) dE_readText_2 (fun H locs Z => ?_)
  have Z : zw G ad (va_up w 2 (some (oE ad (upd FE 3 0)))) s H locs := Z
  have hE1 : zRdr G ad (va_up w 2 (some (oE ad (upd FE 3 0)))) P n o FR (upd FE 3 0) T len := hE.obj rfl
  refine lv_aload_n hx hb dE_readText_5 rfl (lv_at hl 0 rfl) ?_
  refine lv_iconst (v := 0) hx hb dE_readText_6 (by decide) ?_
  refine zw_put (v := .int 0) hx hb hT uE hown tE tE_ok nE Z hE1.2.1 rfl 4 (by decide) (hT _ mf_E_42) (fun _ h9 => h9) rfl rfl rfl (by simp) dE_readText_7 (fun H locs Z => ?_)
  have Z : zw G ad (va_up (va_up w 2 (some (oE ad (upd FE 3 0)))) 2 (some (oE ad (upd (upd FE 3 0) 4 0)))) s H locs := Z
  rw [bx_uu] at Z
  have hE2 : zRdr G ad (va_up w 2 (some (oE ad (upd (upd FE 3 0) 4 0)))) P n o FR (upd (upd FE 3 0) 4 0) T len := hE.obj rfl
  refine lv_aload_n hx hb dE_readText_10 rfl (lv_at hl 0 rfl) ?_
  refine lv_iconst (v := (-1)) hx hb dE_readText_11 (by decide) ?_
  refine zw_put (v := .int (-1)) hx hb hT uE hown tE tE_ok nE Z hE2.2.1 rfl 5 (by decide) (hT _ mf_E_19) (fun _ h9 => h9) rfl rfl rfl (by simp) dE_readText_12 (fun H locs Z => ?_)
  have Z : zw G ad (va_up (va_up w 2 (some (oE ad (upd (upd FE 3 0) 4 0)))) 2 (some (oE ad (upd (upd (upd FE 3 0) 4 0) 5 (-1))))) s H locs := Z
  rw [bx_uu] at Z
  have hE3 : zRdr G ad (va_up w 2 (some (oE ad (upd (upd (upd FE 3 0) 4 0) 5 (-1))))) P n o FR (upd (upd (upd FE 3 0) 4 0) 5 (-1)) T len := hE.obj rfl
  refine lv_aload_n hx hb dE_readText_15 rfl (lv_at hl 0 rfl) ?_
  refine lv_iconst (v := 0) hx hb dE_readText_16 (by decide) ?_
  refine zw_callv (va_runV (As := [.int 0]) (rest := []) ⟨hx, hb, hml, hown, hts⟩ ((c_E_descent l P n o FR T len 20 (Nat.le_refl _)).2 _ _ 0 hE3 rfl rfl (by omega)) (kw_E_readSum hts ml_E_48 (zR_fit (by omega) (by omega))) (Z.preV hE3.2.1 rfl _) rfl rfl hl.1 rfl (lv_room (Nat.le_of_ble_eq_true rfl)) dE_readText_17 ⟨Nat.le_of_ble_eq_true rfl, Nat.le_of_ble_eq_true rfl⟩) Z (fun wA H locs hp Z => ?_)
  obtain ⟨FA, hEA, hzA, hmA⟩ := hp
  have hzA2 : zrf 0 0 w wA := (zrf.obj (by omega) (by omega)).trans (hzA.mono (by omega) (by omega))
  have hgr := zGrp_ok (T := T) (len := len) hcfg hP1 20
  cases hb8 : zSum n o P T len (zGrp n o P T len 20) 0 with
  | inl x9 =>
    obtain ⟨f, pl⟩ := x9
    rw [hb8] at hmA
    refine lv_aload_n hx hb dE_readText_20 rfl (lv_at hl 0 rfl) ?_
    refine zw_get (v := .int (FA 4)) hx hb hT uE hown Z hEA.2.1 rfl 4 (by decide) (hT _ mf_E_42) (fun _ h9 => h9) rfl dE_readText_21 ?_
    refine zw_top (nI f) (hmA.1) ?_
    refine lv_if_ne (tgt := 44) hx hb dE_readText_24 (by decide) (fun _ => ?_) (fun hc => absurd hc (show ¬ ((nI f) : Int32) = 0 from nI_ne0 (by omega) (by omega)))
    exact tail wA FA _ _ ls hEA hzA2 (by unfold zText; rw [hb8]; exact hmA) Z hl
  | inr x9 =>
    obtain ⟨A, e1⟩ := x9
    rw [hb8] at hmA
    obtain ⟨haA, hfA, h5A, h28⟩ := hmA
    have hok := zSum_ok hcfg hP1 hgr (by omega) hb8
    refine lv_aload_n hx hb dE_readText_20 rfl (lv_at hl 0 rfl) ?_
    refine zw_get (v := .int (FA 4)) hx hb hT uE hown Z hEA.2.1 rfl 4 (by decide) (hT _ mf_E_42) (fun _ h9 => h9) rfl dE_readText_21 ?_
    refine zw_top (0) (hfA) ?_
    refine lv_if_ne (tgt := 44) hx hb dE_readText_24 (by decide) (fun hc => absurd (show ((0) : Int32) = 0 from rfl) hc) (fun _ => ?_)
    refine lv_aload_n hx hb dE_readText_27 rfl (lv_at hl 0 rfl) ?_
    refine zw_calli (va_runV (As := []) (rest := []) ⟨hx, hb, hml, hown, hts⟩ (c_E_nextByte l P n o FR FA T len hEA e1 haA hok.2.1) (kw_E_nextByte hts ml_E_52 (zR_fit (by omega) (by omega))) (Z.preV hEA.2.1 rfl _) rfl rfl hl.1 rfl (lv_room (Nat.le_of_ble_eq_true rfl)) dE_readText_28 ⟨Nat.le_of_ble_eq_true rfl, Nat.le_of_ble_eq_true rfl⟩) Z (fun r wB H locs hp Z => ?_)
    obtain ⟨rfl, hwB⟩ := hp
    subst hwB
    have hEB : zRdr G ad (va_up wA 2 (some (oE ad (upd FA 3 (nI (zsp T len e1)))))) P n o FR (upd FA 3 (nI (zsp T len e1))) T len := hEA.obj rfl
    refine lv_iconst (v := (-1)) hx hb dE_readText_31 (by decide) ?_
    refine lv_icmp_eq (tgt := 44) hx hb dE_readText_32 (by decide) (fun hc => ?_) (fun hc => ?_)
    · exact tail _ _ _ _ ls hEB (hzA2.trans (zrf.obj (by omega) (by omega))) (by unfold zText; rw [hb8]; simp only; rw [if_pos hc]; exact ⟨hfA, h5A, by rw [va_up_ne _ _ (by decide)]; exact h28⟩) Z hl
    · refine lv_aload_n hx hb dE_readText_35 rfl (lv_at hl 0 rfl) ?_
      refine lv_iconst (v := 1) hx hb dE_readText_36 (by decide) ?_
      refine lv_aload_n hx hb dE_readText_37 rfl (lv_at hl 0 rfl) ?_
      refine zw_get (v := .int ((upd FA 3 (nI (zsp T len e1))) 3)) hx hb hT uE hown Z hEB.2.1 rfl 3 (by decide) (hT _ mf_E_45) (fun _ h9 => h9) rfl dE_readText_38 ?_
      refine zw_top (nI (zsp T len e1)) (rfl) ?_
      refine zw_callv (va_runV (As := [.int 1, .int (nI (zsp T len e1))]) (rest := []) ⟨hx, hb, hml, hown, hts⟩ (c_E_noteFault l _ hEB.2.1 1 (nI (zsp T len e1))) (kw_E_noteFault hts ml_E_56 (zR_fit (by omega) (by omega))) (Z.preV hEB.2.1 rfl _) rfl rfl hl.1 rfl (lv_room (Nat.le_of_ble_eq_true rfl)) dE_readText_41 ⟨Nat.le_of_ble_eq_true rfl, Nat.le_of_ble_eq_true rfl⟩) Z (fun wC H locs hp Z => ?_)
      subst hp
      rw [bx_uu] at Z
      exact tail _ (upd (upd (upd FA 3 (nI (zsp T len e1))) 4 1) 5 (nI (zsp T len e1))) _ _ ls (hEA.obj rfl) (hzA2.trans (zrf.obj (by omega) (by omega))) (by unfold zText; rw [hb8]; simp only; rw [if_neg hc]; exact ⟨rfl, rfl, by decide, by decide⟩) Z hl
