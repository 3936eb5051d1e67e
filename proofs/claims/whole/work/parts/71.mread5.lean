set_option maxHeartbeats 4000000 in
set_option maxRecDepth 100000 in
theorem c_M_read (l : Launch) {G : zG} {ad : Nat → Nat} {w : Nat → Option va_E} (P n o : Nat) (A : Nat → Nat → Nat) (T : Nat → Nat) (len : Nat) (flt pl : Int32) (out : List Nat) (thr : Int32) (hD : zMd G ad w P n o A T len flt pl out thr) (a : Int32) : Met l yM_read wM_read (zR (6)) (va_Pc [.ref (ad 100), .int a] (zw_U G ad w)) (va_Qi (S := Nat → Option va_E) (fun r w' => (zip8 a = false ∧ zMd G ad w' P n o (A) (T) (len) (flt) (pl) (out) (1) ∨ zip8 a = true ∧ (∃ f9 p9 : Nat, zText n o P T len = .inl (f9, p9) ∧ 1 ≤ f9 ∧ f9 ≤ 4 ∧ zMd G ad w' P n o (A) (T) (0) (nI f9) (nI p9) (out) (2)) ∨ zip8 a = true ∧ ∃ (C : Nat → Nat) (e9 : Nat), zText n o P T len = .inr (C, e9) ∧ r = nI (zcnt (fun i => nI (C i)) (zCt n)) ∧ zMd G ad w' P n o (va_up A a.toNatClampNeg C) (T) (0) (0) (-1) (out) (0)) ∧ zfm w w') (fun u t => zw_U G ((fun _ => ad) u) ((fun w' => w') u) t) (zA G)) 0 0 (zA G) := by
  refine zw_methi (S := Nat → Option va_E) (fa := fun _ => ad) (fw := fun w' => w') (by decide) rfl (Nat.le_of_ble_eq_true rfl) ?_
  intro p e s m below meth c Q ls C hname Z hl hret
  obtain ⟨hx, hb, hml, hown, hts, hlk⟩ := C
  have hT : ∀ w ∈ zT, w.before ([.ref (ad 100), .int a] : List Value).toArray s = true := fun w h => hts w (List.mem_cons_of_mem _ h)
  have hown : s.vm.findClass "PolynomialDeskModel" = some m.cls := hown
  have hl : lv_has ls 4 [(0, .ref (ad 100)), (1, .int a)] := hl
  obtain ⟨F, B, hM, hBA, ⟨hF0, hF13, hF14, hF15, hF26⟩, hMt⟩ := id hD
  obtain ⟨h100, ⟨hF1, hF2, hF3, hF4, hF10⟩, ⟨hP1, hP2⟩, hcfg, ⟨dg, h101, hdg⟩, ⟨ex, h102, hex⟩, ⟨ys, h103, hys⟩, ⟨un, h104, hun⟩, ⟨cl, h105, hcl, hpB⟩⟩ := id hM
  have hct := zCt_le (n := n)
  refine lv_aload_n hx hb dM_read_0 rfl (lv_at hl 0 rfl) ?_
  refine lv_iload_n hx hb dM_read_1 rfl (lv_at hl 1 rfl) ?_
  refine zw_calli (va_runS (As := [.int a]) (rest := [.ref (ad 100)]) ⟨hx, hb, hml, hown, hts⟩ (c_M_isPolynomial l a) (kw_M_isPolynomial hts ml_M_170 (zR_fit (by omega) (by omega))) (Z.preS _) rfl rfl hl.1 rfl (lv_room (Nat.le_of_ble_eq_true rfl)) dM_read_2 ⟨Nat.le_of_ble_eq_true rfl, Nat.le_of_ble_eq_true rfl⟩) Z (fun r wq H locs hp Z => ?_)
  obtain ⟨rfl, hw1⟩ := hp
  rw [hw1] at Z
  clear hw1
  refine lv_if_eq (tgt := 12) hx hb dM_read_5 (by decide) (fun hc => ?_) (fun hc => ?_)
  · have hz := zb_f hc
    refine lv_iconst (v := 1) hx hb dM_read_12 (by decide) ?_
    refine zw_put (v := .int 1) hx hb hT uM hown tM tM_ok nM Z h100 rfl 0 (by decide) (hT _ mf_M_52) (fun _ h9 => h9) rfl rfl rfl (by simp) dM_read_13 (fun H locs Z => ?_)
    have Z : zw G ad (va_up w 100 (some (oM ad (upd F 0 1)))) s H locs := Z
    have hM0 : zMod G ad (va_up w 100 (some (oM ad (upd F 0 1)))) P n o (upd F 0 1) B := hM.put (by decide)
    have g100 := hM0.1
    refine lv_aload_n hx hb dM_read_16 rfl (lv_at hl 0 rfl) ?_
    refine zw_get (v := .int ((upd F 0 1) 0)) hx hb hT uM hown Z g100 rfl 0 (by decide) (hT _ mf_M_52) (fun _ h9 => h9) rfl dM_read_17 ?_
    refine zw_top (1) (rfl) ?_
    refine lv_if_le (tgt := 25) hx hb dM_read_20 (by decide) (fun hc => absurd hc (show ¬ (((1) : Int32) ≤ 0) from by decide)) (fun _ => ?_)
    refine lv_iconst (v := 0) hx hb dM_read_23 (by decide) ?_
    exact hret _ _ _ _ _ _ dM_read_24 (⟨.inl ⟨hz, ⟨_, B, hM0, hBA, ⟨rfl, hF13, hF14, hF15, hF26⟩, hMt.put⟩⟩, zfm.up (by decide)⟩) Z
  · have hza := zb_t hc
    obtain ⟨j, hj, rfl⟩ := zip8_ok hza
    refine lv_iconst (v := 0) hx hb dM_read_8 (by decide) ?_
    refine lv_goto (tgt := 13) hx hb dM_read_9 (by decide) ?_
    refine zw_put (v := .int 0) hx hb hT uM hown tM tM_ok nM Z h100 rfl 0 (by decide) (hT _ mf_M_52) (fun _ h9 => h9) rfl rfl rfl (by simp) dM_read_13 (fun H locs Z => ?_)
    have Z : zw G ad (va_up w 100 (some (oM ad (upd F 0 0)))) s H locs := Z
    have g100 : (va_up w 100 (some (oM ad (upd F 0 0)))) 100 = some (oM ad (upd F 0 0)) := va_up_self _ _ _
    refine lv_aload_n hx hb dM_read_16 rfl (lv_at hl 0 rfl) ?_
    refine zw_get (v := .int ((upd F 0 0) 0)) hx hb hT uM hown Z g100 rfl 0 (by decide) (hT _ mf_M_52) (fun _ h9 => h9) rfl dM_read_17 ?_
    refine zw_top (0) (rfl) ?_
    refine lv_if_le (tgt := 25) hx hb dM_read_20 (by decide) (fun _ => ?_) (fun hc => absurd (show ((0) : Int32) ≤ 0 from by decide) hc)
    refine lv_aload_n hx hb dM_read_25 rfl (lv_at hl 0 rfl) ?_
    refine lv_aload_n hx hb dM_read_26 rfl (lv_at hl 0 rfl) ?_
    refine zw_get (v := .int ((upd F 0 0) 13)) hx hb hT uM hown Z g100 rfl 13 (by decide) (hT _ mf_M_103) (fun _ h9 => h9) rfl dM_read_27 ?_
    refine zw_top (nI len) (hF13) ?_
    refine zw_put (v := .int (nI len)) hx hb hT uM hown tM tM_ok nM Z g100 rfl 16 (by decide) (hT _ mf_M_112) (fun _ h9 => h9) rfl rfl rfl (by simp) dM_read_30 (fun H locs Z => ?_)
    have Z : zw G ad (va_up (va_up w 100 (some (oM ad (upd F 0 0)))) 100 (some (oM ad (upd (upd F 0 0) 16 (nI len))))) s H locs := Z
    rw [bx_uu] at Z
    have g100 : (va_up w 100 (some (oM ad (upd (upd F 0 0) 16 (nI len))))) 100 = some (oM ad (upd (upd F 0 0) 16 (nI len))) := va_up_self _ _ _
    obtain ⟨⟨hd, h106, hhd⟩, hTb, hlen, ⟨tx, h107⟩, ⟨sg9, h108⟩, ⟨st9, h109⟩, ⟨ob, h110, hob⟩, hout⟩ := id hMt
    refine lv_iconst (v := 0) hx hb dM_read_33 (by decide) ?_
    refine lv_istore_n (lv' := [(2, .int 0), (0, .ref (ad 100)), (1, .int (nI j))]) hx hb dM_read_34 rfl hl (by decide) rfl (fun ls hl => ?_)
    have cont : ∀ (g : Nat → Int32) (H : Heap) (locs : List Loc) (ls : Array Slot), (∀ i, i < len → g i = nI (T i)) → zw G ad (va_up (va_up w 100 (some (oM ad (upd (upd F 0 0) 16 (nI len))))) 107 (some (zi G 200 g))) s H locs → lv_has ls 4 [(0, .ref (ad 100)), (1, .int (nI j))] → W p l e (zR (6)) s m ([.ref (ad 100), .int (nI j)] : List Value).toArray below meth c H locs (0) (0) Q (F0 m 61 ls []) := by
      intro g H locs ls hg Z hl
      rw [zup_comm (by decide)] at Z
      obtain ⟨w3, hw3⟩ : ∃ w3, w3 = va_up w 107 (some (zi G 200 g)) := ⟨_, rfl⟩
      rw [← hw3] at Z
      have k3 : ∀ k, k ≠ 107 → w3 k = w k := fun k hk => by rw [hw3]; exact va_up_ne _ _ hk
      have k107 : w3 107 = some (zi G 200 g) := by rw [hw3]; exact va_up_self _ _ _
      have g100 : (va_up w3 100 (some (oM ad (upd (upd F 0 0) 16 (nI len))))) 100 = some (oM ad (upd (upd F 0 0) 16 (nI len))) := va_up_self _ _ _
      refine lv_aload_n hx hb dM_read_61 rfl (lv_at hl 0 rfl) ?_
      refine lv_iconst (v := 0) hx hb dM_read_62 (by decide) ?_
      refine zw_put (v := .int 0) hx hb hT uM hown tM tM_ok nM Z g100 rfl 13 (by decide) (hT _ mf_M_103) (fun _ h9 => h9) rfl rfl rfl (by simp) dM_read_63 (fun H locs Z => ?_)
      have Z : zw G ad (va_up (va_up w3 100 (some (oM ad (upd (upd F 0 0) 16 (nI len))))) 100 (some (oM ad (upd (upd (upd F 0 0) 16 (nI len)) 13 0)))) s H locs := Z
      rw [bx_uu] at Z
      have g100 : (va_up w3 100 (some (oM ad (upd (upd (upd F 0 0) 16 (nI len)) 13 0)))) 100 = some (oM ad (upd (upd (upd F 0 0) 16 (nI len)) 13 0)) := va_up_self _ _ _
      refine lv_aload_n hx hb dM_read_66 rfl (lv_at hl 0 rfl) ?_
      refine lv_iconst (v := 0) hx hb dM_read_67 (by decide) ?_
      refine zw_put (v := .int 0) hx hb hT uM hown tM tM_ok nM Z g100 rfl 17 (by decide) (hT _ mf_M_109) (fun _ h9 => h9) rfl rfl rfl (by simp) dM_read_68 (fun H locs Z => ?_)
      have Z : zw G ad (va_up (va_up w3 100 (some (oM ad (upd (upd (upd F 0 0) 16 (nI len)) 13 0)))) 100 (some (oM ad (upd (upd (upd (upd F 0 0) 16 (nI len)) 13 0) 17 0)))) s H locs := Z
      rw [bx_uu] at Z
      have g100 : (va_up w3 100 (some (oM ad (upd (upd (upd (upd F 0 0) 16 (nI len)) 13 0) 17 0)))) 100 = some (oM ad (upd (upd (upd (upd F 0 0) 16 (nI len)) 13 0) 17 0)) := va_up_self _ _ _
      refine lv_aload_n hx hb dM_read_71 rfl (lv_at hl 0 rfl) ?_
      refine lv_iconst (v := 0) hx hb dM_read_72 (by decide) ?_
      refine zw_put (v := .int 0) hx hb hT uM hown tM tM_ok nM Z g100 rfl 19 (by decide) (hT _ mf_M_106) (fun _ h9 => h9) rfl rfl rfl (by simp) dM_read_73 (fun H locs Z => ?_)
      have Z : zw G ad (va_up (va_up w3 100 (some (oM ad (upd (upd (upd (upd F 0 0) 16 (nI len)) 13 0) 17 0)))) 100 (some (oM ad (upd (upd (upd (upd (upd F 0 0) 16 (nI len)) 13 0) 17 0) 19 0)))) s H locs := Z
      rw [bx_uu] at Z
      have g100 : (va_up w3 100 (some (oM ad (upd (upd (upd (upd (upd F 0 0) 16 (nI len)) 13 0) 17 0) 19 0)))) 100 = some (oM ad (upd (upd (upd (upd (upd F 0 0) 16 (nI len)) 13 0) 17 0) 19 0)) := va_up_self _ _ _
      refine lv_aload_n hx hb dM_read_76 rfl (lv_at hl 0 rfl) ?_
      refine lv_iconst (v := 0) hx hb dM_read_77 (by decide) ?_
      refine zw_put (v := .int 0) hx hb hT uM hown tM tM_ok nM Z g100 rfl 20 (by decide) (hT _ mf_M_115) (fun _ h9 => h9) rfl rfl rfl (by simp) dM_read_78 (fun H locs Z => ?_)
      have Z : zw G ad (va_up (va_up w3 100 (some (oM ad (upd (upd (upd (upd (upd F 0 0) 16 (nI len)) 13 0) 17 0) 19 0)))) 100 (some (oM ad (upd (upd (upd (upd (upd (upd F 0 0) 16 (nI len)) 13 0) 17 0) 19 0) 20 0)))) s H locs := Z
      rw [bx_uu] at Z
      have g100 : (va_up w3 100 (some (oM ad (upd (upd (upd (upd (upd (upd F 0 0) 16 (nI len)) 13 0) 17 0) 19 0) 20 0)))) 100 = some (oM ad (upd (upd (upd (upd (upd (upd F 0 0) 16 (nI len)) 13 0) 17 0) 19 0) 20 0)) := va_up_self _ _ _
      refine lv_aload_n hx hb dM_read_81 rfl (lv_at hl 0 rfl) ?_
      refine lv_iconst (v := (-1)) hx hb dM_read_82 (by decide) ?_
      refine zw_put (v := .int (-1)) hx hb hT uM hown tM tM_ok nM Z g100 rfl 21 (by decide) (hT _ mf_M_118) (fun _ h9 => h9) rfl rfl rfl (by simp) dM_read_83 (fun H locs Z => ?_)
      have Z : zw G ad (va_up (va_up w3 100 (some (oM ad (upd (upd (upd (upd (upd (upd F 0 0) 16 (nI len)) 13 0) 17 0) 19 0) 20 0)))) 100 (some (oM ad (upd (upd (upd (upd (upd (upd (upd F 0 0) 16 (nI len)) 13 0) 17 0) 19 0) 20 0) 21 (-1))))) s H locs := Z
      rw [bx_uu] at Z
      have g100 : (va_up w3 100 (some (oM ad (upd (upd (upd (upd (upd (upd (upd F 0 0) 16 (nI len)) 13 0) 17 0) 19 0) 20 0) 21 (-1))))) 100 = some (oM ad (upd (upd (upd (upd (upd (upd (upd F 0 0) 16 (nI len)) 13 0) 17 0) 19 0) 20 0) 21 (-1))) := va_up_self _ _ _
      obtain ⟨F7, hF7⟩ : ∃ F7, F7 = (upd (upd (upd (upd (upd (upd (upd F 0 0) 16 (nI len)) 13 0) 17 0) 19 0) 20 0) 21 (-1)) := ⟨_, rfl⟩
      rw [← hF7] at Z g100
      have hM7 : zMod G ad (va_up w3 100 (some (oM ad F7))) P n o F7 B := hM.obj (fun k hk => by rw [va_up_ne _ _ (by omega)]; exact k3 k (by omega)) (va_up_self _ _ _) (fun i hi => by rw [hF7, pk_un (by omega), pk_un (by omega), pk_un (by omega), pk_un (by omega), pk_un (by omega), pk_un (by omega), pk_un (by omega)])
      have hR7 : zRr G ad (va_up w3 100 (some (oM ad F7))) P n o F7 B T len (fun _ => false) (fun _ => none) 0 0 := ⟨hM7, ⟨by rw [hF7]; rfl, by rw [hF7]; rfl, by decide⟩, ⟨g, by rw [va_up_ne _ _ (by decide)]; exact k107, hg⟩, ⟨hTb, hlen⟩, ⟨sg9, by rw [va_up_ne _ _ (by decide), k3 _ (by decide)]; exact h108, fun j hj => absurd hj (Nat.not_lt_zero _)⟩, st9, by rw [va_up_ne _ _ (by decide), k3 _ (by decide)]; exact h109, fun j hj => absurd hj (Nat.not_lt_zero _)⟩
      refine lv_aload_n hx hb dM_read_86 rfl (lv_at hl 0 rfl) ?_
      refine zw_callv (va_runV (As := []) (rest := []) ⟨hx, hb, hml, hown, hts⟩ (c_M_begin l P n o _ _ T len _ _ 0 hR7) (kw_M_begin hts ml_M_139 (zR_fit (by omega) (by omega))) (Z.preV g100 rfl _) rfl rfl hl.1 rfl (lv_room (Nat.le_of_ble_eq_true rfl)) dM_read_87 ⟨Nat.le_of_ble_eq_true rfl, Nat.le_of_ble_eq_true rfl⟩) Z (fun w5 H locs hp Z => ?_)
      obtain ⟨hR5, hz5⟩ := hp
      obtain ⟨F8, hF8⟩ : ∃ F8, F8 = upd F7 18 0 := ⟨_, rfl⟩
      rw [← hF8] at hR5
      have f20 : F8 20 = 0 := by rw [hF8, hF7]; rfl
      have f21 : F8 21 = -1 := by rw [hF8, hF7]; rfl
      have f13 : F8 13 = nI 0 := by rw [hF8, hF7]; rfl
      have f17 : F8 17 = nI 0 := by rw [hF8, hF7]; rfl
      have f18 : F8 18 = nI 0 := by rw [hF8]; rfl
      have f26 : F8 26 = nI out.length := by rw [hF8, hF7]; exact hF26
      have hfr0 : ∀ k, k = 106 ∨ k = 110 ∨ ¬ (100 ≤ k ∧ k ≤ 110) → w5 k = w k := fun k hk => by rw [hz5 k (by omega) (by omega) (by omega) (by omega), va_up_ne _ _ (by omega)]; exact k3 k (by omega)
      have h5107 : w5 107 = some (zi G 200 g) := by rw [hz5 107 (by decide) (by decide) (by decide) (by decide), va_up_ne _ _ (by decide)]; exact k107
      have hfin : ∀ (w1 : Nat → Option va_E), zfr w5 w1 → zAr G w1 → zMt G w1 T 0 out ∧ zfm w w1 := fun w1 h1 h2 => ⟨⟨⟨hd, by rw [h1 106 (by decide) (by decide) (by decide) (by decide), hfr0 106 (by decide)]; exact h106, fun i hi => absurd hi (Nat.not_lt_zero _)⟩, hTb, Nat.zero_le _, ⟨g, by rw [h1 107 (by decide) (by decide) (by decide) (by decide)]; exact h5107⟩, h2.1, h2.2, ⟨ob, by rw [h1 110 (by decide) (by decide) (by decide) (by decide), hfr0 110 (by decide)]; exact h110, hob⟩, hout⟩, fun k hk => by rw [h1 k (by omega) (by omega) (by omega) (by omega)]; exact hfr0 k (.inr (.inr hk))⟩
      refine lv_iconst (v := 1) hx hb dM_read_90 (by decide) ?_
      refine lv_istore_n (lv' := [(2, .int 1), (0, .ref (ad 100)), (1, .int (nI j))]) hx hb dM_read_91 rfl hl (by decide) rfl (fun ls hl => ?_)
      obtain ⟨Good, hG⟩ : ∃ Good : zGd, ∀ (p9 s9 d : Nat) (Bx : Nat → Nat → Nat) (sg : Nat → Bool) (st : Nat → Option Nat), Good p9 s9 d Bx sg st ↔ ((∀ t, t < 8 → Bx t = B t) → ∀ (w1 : Nat → Option va_E) (F1 : Nat → Int32) (B1 : Nat → Nat → Nat) (H : Heap) (locs : List Loc) (ls : Array Slot), zRr G ad w1 P n o F1 B1 T len sg st d (d + 1) → (∀ t, t < 71 → B1 t = Bx t) → (F1 17 = nI p9 ∧ F1 18 = nI s9 ∧ F1 20 = 0 ∧ F1 21 = -1) → zfF F8 F1 → zfr w5 w1 → zw G ad w1 s H locs → lv_has ls 4 [(2, .int 1), (0, .ref (ad 100)), (1, .int (nI j))] → W p l e (zR (6)) s m ([.ref (ad 100), .int (nI j)] : List Value).toArray below meth c H locs (0) (0) Q (F0 m 92 ls [])) := ⟨_, fun _ _ _ _ _ _ => Iff.rfl⟩
      obtain ⟨Fin, hFl, hFr⟩ : ∃ Fin : zFn, (∀ (f9 p9 : Nat), Fin (.inl (f9, p9)) ↔ ∀ (w1 : Nat → Option va_E) (F1 : Nat → Int32) (B1 : Nat → Nat → Nat) (H : Heap) (locs : List Loc) (ls : Array Slot), zMod G ad w1 P n o F1 B1 → (∀ t, t < 8 → B1 t = B t) → (F1 20 = nI f9 ∧ F1 21 = nI p9 ∧ 1 ≤ f9 ∧ f9 ≤ 4) → zAr G w1 → zfF F8 F1 → zfr w5 w1 → zw G ad w1 s H locs → lv_has ls 4 [(0, .ref (ad 100)), (1, .int (nI j))] → W p l e (zR (6)) s m ([.ref (ad 100), .int (nI j)] : List Value).toArray below meth c H locs (0) (0) Q (F0 m 210 ls [])) ∧ ∀ C, Fin (.inr C) ↔ ∀ (w1 : Nat → Option va_E) (F1 : Nat → Int32) (B1 : Nat → Nat → Nat) (sg : Nat → Bool) (st : Nat → Option Nat) (H : Heap) (locs : List Loc) (ls : Array Slot), zRr G ad w1 P n o F1 B1 T len sg st 0 1 → (∀ t, t < 8 → B1 t = B t) → (B1 8 = C ∧ F1 20 = 0 ∧ F1 21 = -1) → zfF F8 F1 → zfr w5 w1 → zw G ad w1 s H locs → lv_has ls 4 [(0, .ref (ad 100)), (1, .int (nI j))] → W p l e (zR (6)) s m ([.ref (ad 100), .int (nI j)] : List Value).toArray below meth c H locs (0) (0) Q (F0 m 210 ls []) :=
        ⟨fun r => match r with
          | .inl (f9, p9) => ∀ (w1 : Nat → Option va_E) (F1 : Nat → Int32) (B1 : Nat → Nat → Nat) (H : Heap) (locs : List Loc) (ls : Array Slot), zMod G ad w1 P n o F1 B1 → (∀ t, t < 8 → B1 t = B t) → (F1 20 = nI f9 ∧ F1 21 = nI p9 ∧ 1 ≤ f9 ∧ f9 ≤ 4) → zAr G w1 → zfF F8 F1 → zfr w5 w1 → zw G ad w1 s H locs → lv_has ls 4 [(0, .ref (ad 100)), (1, .int (nI j))] → W p l e (zR (6)) s m ([.ref (ad 100), .int (nI j)] : List Value).toArray below meth c H locs (0) (0) Q (F0 m 210 ls [])
          | .inr C => ∀ (w1 : Nat → Option va_E) (F1 : Nat → Int32) (B1 : Nat → Nat → Nat) (sg : Nat → Bool) (st : Nat → Option Nat) (H : Heap) (locs : List Loc) (ls : Array Slot), zRr G ad w1 P n o F1 B1 T len sg st 0 1 → (∀ t, t < 8 → B1 t = B t) → (B1 8 = C ∧ F1 20 = 0 ∧ F1 21 = -1) → zfF F8 F1 → zfr w5 w1 → zw G ad w1 s H locs → lv_has ls 4 [(0, .ref (ad 100)), (1, .int (nI j))] → W p l e (zR (6)) s m ([.ref (ad 100), .int (nI j)] : List Value).toArray below meth c H locs (0) (0) Q (F0 m 210 ls []), fun _ _ => Iff.rfl, fun _ => Iff.rfl⟩
      have hCS : zClS n P T len Good := by
        intro p9 d Bx sg st hp9 hd20 hpx hE
        refine (hG _ _ _ _ _ _).mpr ?_
        intro hB8 w1 F1 B1 H locs ls hR1 hB1 ⟨e17, e18, e20, e21⟩ hff hfr Z hl
        have hspi := zsp_in (T := T) hp9
        obtain ⟨q9, hq9⟩ : ∃ q9, q9 = zsp T len p9 := ⟨_, rfl⟩
        rw [← hq9] at hE hspi
        refine lv_iload_n hx hb dM_read_92 rfl (lv_at hl 0 rfl) ?_
        refine lv_if_eq (tgt := 210) hx hb dM_read_93 (by decide) (fun hc => absurd hc (show ¬ ((1 : Int32) = 0) from by decide)) (fun _ => ?_)
        refine lv_aload_n hx hb dM_read_96 rfl (lv_at hl 1 rfl) ?_
        refine zw_calli (va_runV (As := []) (rest := []) ⟨hx, hb, hml, hown, hts⟩ (c_M_here l P n o F1 B1 T len sg st d (d + 1) hR1 p9 e17 hp9) (kw_M_here hts ml_M_152 (zR_fit (by omega) (by omega))) (Z.preV hR1.1.1 rfl _) rfl rfl hl.1 rfl (lv_room (Nat.le_of_ble_eq_true rfl)) dM_read_97 ⟨Nat.le_of_ble_eq_true rfl, Nat.le_of_ble_eq_true rfl⟩) Z (fun r w2 H locs hp Z => ?_)
        rw [← hq9] at hp
        obtain ⟨rfl, hw2⟩ := hp
        subst hw2
        have hR2 := hR1.obj (F' := upd F1 17 (nI q9)) (zfF.upd (by decide)) rfl
        have g100 := hR2.1.1
        have hff2 : zfF F8 (upd F1 17 (nI q9)) := hff.trans (zfF.upd (by decide))
        have hfr2 : zfr w5 (va_up w1 100 (some (oM ad (upd F1 17 (nI q9))))) := hfr.trans (zfr.up (by decide))
        refine lv_istore_n (lv' := [(3, .int (zch T len q9)), (2, .int 1), (0, .ref (ad 100)), (1, .int (nI j))]) hx hb dM_read_100 rfl hl (by decide) rfl (fun ls hl => ?_)
        refine lv_aload_n hx hb dM_read_101 rfl (lv_at hl 2 rfl) ?_
        refine zw_get (v := .int ((upd F1 17 (nI q9)) 18)) hx hb hT uM hown Z g100 rfl 18 (by decide) (hT _ mf_M_136) (fun _ h9 => h9) rfl dM_read_102 ?_
        refine zw_top (nI 0) (e18) ?_
        refine lv_if_ne (tgt := 142) hx hb dM_read_105 (by decide) (fun hc => absurd (show ((nI 0) : Int32) = 0 from rfl) hc) (fun _ => ?_)
        refine lv_iload_n hx hb dM_read_108 rfl (lv_at hl 0 rfl) ?_
        refine lv_bipush (v := 45) hx hb dM_read_109 (by decide) ?_
        refine lv_icmp_ne (tgt := 134) hx hb dM_read_111 (by decide) (fun hc1 => ?_) (fun hc1 => ?_)
        · rw [if_neg hc1] at hE
          refine lv_aload_n hx hb dM_read_134 rfl (lv_at hl 2 rfl) ?_
          refine lv_iconst (v := 1) hx hb dM_read_135 (by decide) ?_
          refine zw_put (v := .int 1) hx hb hT uM hown tM tM_ok nM Z g100 rfl 18 (by decide) (hT _ mf_M_136) (fun _ h9 => h9) rfl rfl rfl (by simp) dM_read_136 (fun H locs Z => ?_)
          have Z : zw G ad (va_up (va_up w1 100 (some (oM ad (upd F1 17 (nI q9))))) 100 (some (oM ad (upd (upd F1 17 (nI q9)) 18 1)))) s H locs := Z
          have hR3 := hR2.obj (F' := (upd (upd F1 17 (nI q9)) 18 1)) (zfF.upd (by decide)) rfl
          have g100 := hR3.1.1
          refine lv_goto (tgt := 190) hx hb dM_read_139 (by decide) ?_
          refine lv_iload_n hx hb dM_read_190 rfl (lv_at hl 1 rfl) ?_
          refine lv_if_eq (tgt := 205) hx hb dM_read_191 (by decide) (fun hc => absurd hc (show ¬ ((1 : Int32) = 0) from by decide)) (fun _ => ?_)
          refine lv_aload_n hx hb dM_read_194 rfl (lv_at hl 2 rfl) ?_
          refine zw_get (v := .int ((upd (upd F1 17 (nI q9)) 18 1) 20)) hx hb hT uM hown Z g100 rfl 20 (by decide) (hT _ mf_M_115) (fun _ h9 => h9) rfl dM_read_195 ?_
          refine zw_top (0) (e20) ?_
          refine lv_if_ne (tgt := 205) hx hb dM_read_198 (by decide) (fun hc => absurd (show ((0) : Int32) = 0 from rfl) hc) (fun _ => ?_)
          refine lv_iconst (v := 1) hx hb dM_read_201 (by decide) ?_
          refine lv_goto (tgt := 206) hx hb dM_read_202 (by decide) ?_
          refine lv_istore_n (lv' := [(2, .int 1), (3, .int (zch T len q9)), (0, .ref (ad 100)), (1, .int (nI j))]) hx hb dM_read_206 rfl hl (by decide) rfl (fun ls hl => ?_)
          refine lv_goto (tgt := 92) hx hb dM_read_207 (by decide) ?_
          exact (hG _ _ _ _ _ _).mp hE hB8 _ _ _ _ _ ls hR3 hB1 ⟨rfl, rfl, e20, e21⟩ (hff2.trans (zfF.upd (by decide))) (hfr2.trans (zfr.up (by decide))) Z (lv_sub hl [0, 2, 3] rfl)
        · rw [if_pos hc1] at hE
          obtain ⟨sa, h108a, hsa⟩ := hR2.2.2.2.2.1
          refine lv_aload_n hx hb dM_read_114 rfl (lv_at hl 2 rfl) ?_
          refine zw_get (v := .ref (ad 108)) hx hb hT uM hown Z g100 rfl 23 (by decide) (hT _ mf_M_39) (fun _ h9 => h9) rfl dM_read_115 ?_
          refine lv_aload_n hx hb dM_read_118 rfl (lv_at hl 2 rfl) ?_
          refine zw_get (v := .int ((upd F1 17 (nI q9)) 19)) hx hb hT uM hown Z g100 rfl 19 (by decide) (hT _ mf_M_106) (fun _ h9 => h9) rfl dM_read_119 ?_
          refine zw_top (nI d) (hR1.2.1.2.1) ?_
          refine lv_iconst (v := (-1)) hx hb dM_read_122 (by decide) ?_
          refine zw_iast hx hb Z h108a (vin (by omega) (by decide)) dM_read_123 (fun H locs Z => ?_)
          rw [ncl (by omega)] at Z
          have hR3 := hR2.sgn (zsI_up (d := d) (b := true) hsa)
          have Z : zw G ad (va_up (va_up w1 100 (some (oM ad (upd F1 17 (nI q9))))) 108 (some (zi G 21 (upd sa d (zsI true))))) s H locs := Z
          have g100 := hR3.1.1
          refine lv_aload_n hx hb dM_read_124 rfl (lv_at hl 2 rfl) ?_
          refine lv_dup hx hb dM_read_125 rfl ?_
          refine zw_get (v := .int ((upd F1 17 (nI q9)) 17)) hx hb hT uM hown Z g100 rfl 17 (by decide) (hT _ mf_M_109) (fun _ h9 => h9) rfl dM_read_126 ?_
          refine zw_top (nI q9) (rfl) ?_
          refine lv_iconst (v := 1) hx hb dM_read_129 (by decide) ?_
          refine lv_iadd hx hb dM_read_130 ?_
          refine zw_top (nI (q9 + 1)) (nI_1 q9) ?_
          refine zw_put (v := .int (nI (q9 + 1))) hx hb hT uM hown tM tM_ok nM Z g100 rfl 17 (by decide) (hT _ mf_M_109) (fun _ h9 => h9) rfl rfl rfl (by simp) dM_read_131 (fun H locs Z => ?_)
          have Z : zw G ad (va_up (va_up (va_up w1 100 (some (oM ad (upd F1 17 (nI q9))))) 108 (some (zi G 21 (upd sa d (zsI true))))) 100 (some (oM ad (upd (upd F1 17 (nI q9)) 17 (nI (q9 + 1)))))) s H locs := Z
          have hR4 := hR3.obj (F' := (upd (upd F1 17 (nI q9)) 17 (nI (q9 + 1)))) (zfF.upd (by decide)) rfl
          have g100 := hR4.1.1
          refine lv_aload_n hx hb dM_read_134 rfl (lv_at hl 2 rfl) ?_
          refine lv_iconst (v := 1) hx hb dM_read_135 (by decide) ?_
          refine zw_put (v := .int 1) hx hb hT uM hown tM tM_ok nM Z g100 rfl 18 (by decide) (hT _ mf_M_136) (fun _ h9 => h9) rfl rfl rfl (by simp) dM_read_136 (fun H locs Z => ?_)
          have Z : zw G ad (va_up (va_up (va_up (va_up w1 100 (some (oM ad (upd F1 17 (nI q9))))) 108 (some (zi G 21 (upd sa d (zsI true))))) 100 (some (oM ad (upd (upd F1 17 (nI q9)) 17 (nI (q9 + 1)))))) 100 (some (oM ad (upd (upd (upd F1 17 (nI q9)) 17 (nI (q9 + 1))) 18 1)))) s H locs := Z
          have hR5a := hR4.obj (F' := (upd (upd (upd F1 17 (nI q9)) 17 (nI (q9 + 1))) 18 1)) (zfF.upd (by decide)) rfl
          have g100 := hR5a.1.1
          refine lv_goto (tgt := 190) hx hb dM_read_139 (by decide) ?_
          refine lv_iload_n hx hb dM_read_190 rfl (lv_at hl 1 rfl) ?_
          refine lv_if_eq (tgt := 205) hx hb dM_read_191 (by decide) (fun hc => absurd hc (show ¬ ((1 : Int32) = 0) from by decide)) (fun _ => ?_)
          refine lv_aload_n hx hb dM_read_194 rfl (lv_at hl 2 rfl) ?_
          refine zw_get (v := .int ((upd (upd (upd F1 17 (nI q9)) 17 (nI (q9 + 1))) 18 1) 20)) hx hb hT uM hown Z g100 rfl 20 (by decide) (hT _ mf_M_115) (fun _ h9 => h9) rfl dM_read_195 ?_
          refine zw_top (0) (e20) ?_
          refine lv_if_ne (tgt := 205) hx hb dM_read_198 (by decide) (fun hc => absurd (show ((0) : Int32) = 0 from rfl) hc) (fun _ => ?_)
          refine lv_iconst (v := 1) hx hb dM_read_201 (by decide) ?_
          refine lv_goto (tgt := 206) hx hb dM_read_202 (by decide) ?_
          refine lv_istore_n (lv' := [(2, .int 1), (3, .int (zch T len q9)), (0, .ref (ad 100)), (1, .int (nI j))]) hx hb dM_read_206 rfl hl (by decide) rfl (fun ls hl => ?_)
          refine lv_goto (tgt := 92) hx hb dM_read_207 (by decide) ?_
          exact (hG _ _ _ _ _ _).mp hE hB8 _ _ _ _ _ ls hR5a hB1 ⟨rfl, rfl, e20, e21⟩ ((hff2.trans (zfF.upd (by decide))).trans (zfF.upd (by decide))) (((hfr2.trans (zfr.up (by decide))).trans (zfr.up (by decide))).trans (zfr.up (by decide))) Z (lv_sub hl [0, 2, 3] rfl)
      have hCF : zClF n o P T len Good Fin := by
        intro p9 d Bx sg st hp9 hd20 hpx hE
        refine (hG _ _ _ _ _ _).mpr ?_
        intro hB8 w1 F1 B1 H locs ls hR1 hB1 ⟨e17, e18, e20, e21⟩ hff hfr Z hl
        have hspi := zsp_in (T := T) hp9
        obtain ⟨q9, hq9⟩ : ∃ q9, q9 = zsp T len p9 := ⟨_, rfl⟩
        rw [← hq9] at hE hspi
        refine lv_iload_n hx hb dM_read_92 rfl (lv_at hl 0 rfl) ?_
        refine lv_if_eq (tgt := 210) hx hb dM_read_93 (by decide) (fun hc => absurd hc (show ¬ ((1 : Int32) = 0) from by decide)) (fun _ => ?_)
        refine lv_aload_n hx hb dM_read_96 rfl (lv_at hl 1 rfl) ?_
        refine zw_calli (va_runV (As := []) (rest := []) ⟨hx, hb, hml, hown, hts⟩ (c_M_here l P n o F1 B1 T len sg st d (d + 1) hR1 p9 e17 hp9) (kw_M_here hts ml_M_152 (zR_fit (by omega) (by omega))) (Z.preV hR1.1.1 rfl _) rfl rfl hl.1 rfl (lv_room (Nat.le_of_ble_eq_true rfl)) dM_read_97 ⟨Nat.le_of_ble_eq_true rfl, Nat.le_of_ble_eq_true rfl⟩) Z (fun r w2 H locs hp Z => ?_)
        rw [← hq9] at hp
        obtain ⟨rfl, hw2⟩ := hp
        subst hw2
        have hR2 := hR1.obj (F' := upd F1 17 (nI q9)) (zfF.upd (by decide)) rfl
        have g100 := hR2.1.1
        have hff2 : zfF F8 (upd F1 17 (nI q9)) := hff.trans (zfF.upd (by decide))
        have hfr2 : zfr w5 (va_up w1 100 (some (oM ad (upd F1 17 (nI q9))))) := hfr.trans (zfr.up (by decide))
        refine lv_istore_n (lv' := [(3, .int (zch T len q9)), (2, .int 1), (0, .ref (ad 100)), (1, .int (nI j))]) hx hb dM_read_100 rfl hl (by decide) rfl (fun ls hl => ?_)
        refine lv_aload_n hx hb dM_read_101 rfl (lv_at hl 2 rfl) ?_
        refine zw_get (v := .int ((upd F1 17 (nI q9)) 18)) hx hb hT uM hown Z g100 rfl 18 (by decide) (hT _ mf_M_136) (fun _ h9 => h9) rfl dM_read_102 ?_
        refine zw_top (nI 1) (e18) ?_
        refine lv_if_ne (tgt := 142) hx hb dM_read_105 (by decide) (fun _ => ?_) (fun hc => absurd hc (show ¬ ((nI 1) : Int32) = 0 from by decide))
        refine lv_aload_n hx hb dM_read_142 rfl (lv_at hl 2 rfl) ?_
        refine zw_get (v := .int ((upd F1 17 (nI q9)) 18)) hx hb hT uM hown Z g100 rfl 18 (by decide) (hT _ mf_M_136) (fun _ h9 => h9) rfl dM_read_143 ?_
        refine zw_top (nI 1) (e18) ?_
        refine lv_iconst (v := 1) hx hb dM_read_146 (by decide) ?_
        refine lv_icmp_ne (tgt := 158) hx hb dM_read_147 (by decide) (fun hc => absurd (show ((nI 1) : Int32) = 1 from rfl) hc) (fun _ => ?_)
        refine lv_aload_n hx hb dM_read_150 rfl (lv_at hl 2 rfl) ?_
        refine lv_iload_n hx hb dM_read_151 rfl (lv_at hl 0 rfl) ?_
        refine zw_callv (va_runV (As := [.int (zch T len q9)]) (rest := []) ⟨hx, hb, hml, hown, hts⟩ (c_M_readFactor l P n o _ B1 Bx T len sg st d hR2 hB1 q9 rfl hspi.2 (zch T len q9) rfl) (kw_M_readFactor hts ml_M_173 (zR_fit (by omega) (by omega))) (Z.preV g100 rfl _) rfl rfl hl.1 rfl (lv_room (Nat.le_of_ble_eq_true rfl)) dM_read_152 ⟨Nat.le_of_ble_eq_true rfl, Nat.le_of_ble_eq_true rfl⟩) Z (fun w3 H locs hp Z => ?_)
        rcases zEF.both hE hp with ⟨p8, s8, d8, B8, sg8, st8, h8, h1, h2⟩ | ⟨f9, p8, h1, h2⟩
        · obtain ⟨F3, B3, hR3, hB3, ⟨x17, x18, x20, x21⟩, hff3, hfr3⟩ := h2
          refine lv_goto (tgt := 190) hx hb dM_read_155 (by decide) ?_
          refine lv_iload_n hx hb dM_read_190 rfl (lv_at hl 1 rfl) ?_
          refine lv_if_eq (tgt := 205) hx hb dM_read_191 (by decide) (fun hc => absurd hc (show ¬ ((1 : Int32) = 0) from by decide)) (fun _ => ?_)
          refine lv_aload_n hx hb dM_read_194 rfl (lv_at hl 2 rfl) ?_
          refine zw_get (v := .int (F3 20)) hx hb hT uM hown Z hR3.1.1 rfl 20 (by decide) (hT _ mf_M_115) (fun _ h9 => h9) rfl dM_read_195 ?_
          refine zw_top (0) (x20.trans e20) ?_
          refine lv_if_ne (tgt := 205) hx hb dM_read_198 (by decide) (fun hc => absurd (show ((0) : Int32) = 0 from rfl) hc) (fun _ => ?_)
          refine lv_iconst (v := 1) hx hb dM_read_201 (by decide) ?_
          refine lv_goto (tgt := 206) hx hb dM_read_202 (by decide) ?_
          refine lv_istore_n (lv' := [(2, .int 1), (3, .int (zch T len q9)), (0, .ref (ad 100)), (1, .int (nI j))]) hx hb dM_read_206 rfl hl (by decide) rfl (fun ls hl => ?_)
          refine lv_goto (tgt := 92) hx hb dM_read_207 (by decide) ?_
          exact (hG _ _ _ _ _ _).mp h1 (fun t ht => (h8 t ht).trans (hB8 t ht)) _ _ _ _ _ ls hR3 hB3 ⟨x17, x18, (x20.trans e20), (x21.trans e21)⟩ (hff2.trans hff3) (hfr2.trans hfr3) Z (lv_sub hl [0, 2, 3] rfl)
        · obtain ⟨F3, B3, hM3, hB3, ⟨x20, x21, hf1, hf4⟩, har, hff3, hfr3⟩ := h2
          have hB3 : ∀ t, t < 8 → B3 t = B t := fun t ht => (hB3 t ht).trans (hB8 t ht)
          refine lv_goto (tgt := 190) hx hb dM_read_155 (by decide) ?_
          refine lv_iload_n hx hb dM_read_190 rfl (lv_at hl 1 rfl) ?_
          refine lv_if_eq (tgt := 205) hx hb dM_read_191 (by decide) (fun hc => absurd hc (show ¬ ((1 : Int32) = 0) from by decide)) (fun _ => ?_)
          refine lv_aload_n hx hb dM_read_194 rfl (lv_at hl 2 rfl) ?_
          refine zw_get (v := .int (F3 20)) hx hb hT uM hown Z hM3.1 rfl 20 (by decide) (hT _ mf_M_115) (fun _ h9 => h9) rfl dM_read_195 ?_
          refine zw_top (nI f9) (x20) ?_
          refine lv_if_ne (tgt := 205) hx hb dM_read_198 (by decide) (fun _ => ?_) (fun hc => absurd hc (show ¬ ((nI f9) : Int32) = 0 from fun h9 => absurd ((nI_eq (b := 0) (by omega) (by decide)).mp h9) (by omega)))
          refine lv_iconst (v := 0) hx hb dM_read_205 (by decide) ?_
          refine lv_istore_n (lv' := [(2, .int 0), (3, .int (zch T len q9)), (0, .ref (ad 100)), (1, .int (nI j))]) hx hb dM_read_206 rfl hl (by decide) rfl (fun ls hl => ?_)
          refine lv_goto (tgt := 92) hx hb dM_read_207 (by decide) ?_
          refine lv_iload_n hx hb dM_read_92 rfl (lv_at hl 0 rfl) ?_
          refine lv_if_eq (tgt := 210) hx hb dM_read_93 (by decide) (fun _ => ?_) (fun hc => absurd (show (0 : Int32) = 0 from rfl) hc)
          exact (hFl _ _).mp h1 _ _ _ _ _ ls hM3 hB3 ⟨x20, x21, hf1, hf4⟩ har (hff2.trans hff3) (hfr2.trans hfr3) Z (lv_sub hl [2, 3] rfl)
      have hCA : zClA n o P T len Good Fin := by
        intro p9 d Bx sg st hp9 hd20 hpx hE
        refine (hG _ _ _ _ _ _).mpr ?_
        intro hB8 w1 F1 B1 H locs ls hR1 hB1 ⟨e17, e18, e20, e21⟩ hff hfr Z hl
        have hspi := zsp_in (T := T) hp9
        obtain ⟨q9, hq9⟩ : ∃ q9, q9 = zsp T len p9 := ⟨_, rfl⟩
        rw [← hq9] at hE hspi
        refine lv_iload_n hx hb dM_read_92 rfl (lv_at hl 0 rfl) ?_
        refine lv_if_eq (tgt := 210) hx hb dM_read_93 (by decide) (fun hc => absurd hc (show ¬ ((1 : Int32) = 0) from by decide)) (fun _ => ?_)
        refine lv_aload_n hx hb dM_read_96 rfl (lv_at hl 1 rfl) ?_
        refine zw_calli (va_runV (As := []) (rest := []) ⟨hx, hb, hml, hown, hts⟩ (c_M_here l P n o F1 B1 T len sg st d (d + 1) hR1 p9 e17 hp9) (kw_M_here hts ml_M_152 (zR_fit (by omega) (by omega))) (Z.preV hR1.1.1 rfl _) rfl rfl hl.1 rfl (lv_room (Nat.le_of_ble_eq_true rfl)) dM_read_97 ⟨Nat.le_of_ble_eq_true rfl, Nat.le_of_ble_eq_true rfl⟩) Z (fun r w2 H locs hp Z => ?_)
        rw [← hq9] at hp
        obtain ⟨rfl, hw2⟩ := hp
        subst hw2
        have hR2 := hR1.obj (F' := upd F1 17 (nI q9)) (zfF.upd (by decide)) rfl
        have g100 := hR2.1.1
        have hff2 : zfF F8 (upd F1 17 (nI q9)) := hff.trans (zfF.upd (by decide))
        have hfr2 : zfr w5 (va_up w1 100 (some (oM ad (upd F1 17 (nI q9))))) := hfr.trans (zfr.up (by decide))
        refine lv_istore_n (lv' := [(3, .int (zch T len q9)), (2, .int 1), (0, .ref (ad 100)), (1, .int (nI j))]) hx hb dM_read_100 rfl hl (by decide) rfl (fun ls hl => ?_)
        refine lv_aload_n hx hb dM_read_101 rfl (lv_at hl 2 rfl) ?_
        refine zw_get (v := .int ((upd F1 17 (nI q9)) 18)) hx hb hT uM hown Z g100 rfl 18 (by decide) (hT _ mf_M_136) (fun _ h9 => h9) rfl dM_read_102 ?_
        refine zw_top (nI 2) (e18) ?_
        refine lv_if_ne (tgt := 142) hx hb dM_read_105 (by decide) (fun _ => ?_) (fun hc => absurd hc (show ¬ ((nI 2) : Int32) = 0 from by decide))
        refine lv_aload_n hx hb dM_read_142 rfl (lv_at hl 2 rfl) ?_
        refine zw_get (v := .int ((upd F1 17 (nI q9)) 18)) hx hb hT uM hown Z g100 rfl 18 (by decide) (hT _ mf_M_136) (fun _ h9 => h9) rfl dM_read_143 ?_
        refine zw_top (nI 2) (e18) ?_
        refine lv_iconst (v := 1) hx hb dM_read_146 (by decide) ?_
        refine lv_icmp_ne (tgt := 158) hx hb dM_read_147 (by decide) (fun _ => ?_) (fun hc => absurd hc (show ¬ ((nI 2) : Int32) = 1 from by decide))
        refine lv_aload_n hx hb dM_read_158 rfl (lv_at hl 2 rfl) ?_
        refine zw_get (v := .int ((upd F1 17 (nI q9)) 18)) hx hb hT uM hown Z g100 rfl 18 (by decide) (hT _ mf_M_136) (fun _ h9 => h9) rfl dM_read_159 ?_
        refine zw_top (nI 2) (e18) ?_
        refine lv_iconst (v := 2) hx hb dM_read_162 (by decide) ?_
        refine lv_icmp_ne (tgt := 174) hx hb dM_read_163 (by decide) (fun hc => absurd (show ((nI 2) : Int32) = 2 from rfl) hc) (fun _ => ?_)
        refine lv_aload_n hx hb dM_read_166 rfl (lv_at hl 2 rfl) ?_
        refine lv_iload_n hx hb dM_read_167 rfl (lv_at hl 0 rfl) ?_
        refine zw_callv (va_runV (As := [.int (zch T len q9)]) (rest := []) ⟨hx, hb, hml, hown, hts⟩ (c_M_readPower l P n o _ B1 Bx T len sg st d hR2 hB1 q9 rfl hspi.2 (zch T len q9) rfl e20) (kw_M_readPower hts ml_M_176 (zR_fit (by omega) (by omega))) (Z.preV g100 rfl _) rfl rfl hl.1 rfl (lv_room (Nat.le_of_ble_eq_true rfl)) dM_read_168 ⟨Nat.le_of_ble_eq_true rfl, Nat.le_of_ble_eq_true rfl⟩) Z (fun w3 H locs hp Z => ?_)
        rcases zEA.both hE hp with ⟨p8, s8, d8, B8, sg8, st8, h8, h1, h2⟩ | ⟨f9, p8, h1, h2⟩
        · obtain ⟨F3, B3, hR3, hB3, ⟨x17, x18, x20, x21⟩, hff3, hfr3⟩ := h2
          refine lv_goto (tgt := 190) hx hb dM_read_171 (by decide) ?_
          refine lv_iload_n hx hb dM_read_190 rfl (lv_at hl 1 rfl) ?_
          refine lv_if_eq (tgt := 205) hx hb dM_read_191 (by decide) (fun hc => absurd hc (show ¬ ((1 : Int32) = 0) from by decide)) (fun _ => ?_)
          refine lv_aload_n hx hb dM_read_194 rfl (lv_at hl 2 rfl) ?_
          refine zw_get (v := .int (F3 20)) hx hb hT uM hown Z hR3.1.1 rfl 20 (by decide) (hT _ mf_M_115) (fun _ h9 => h9) rfl dM_read_195 ?_
          refine zw_top (0) (x20.trans e20) ?_
          refine lv_if_ne (tgt := 205) hx hb dM_read_198 (by decide) (fun hc => absurd (show ((0) : Int32) = 0 from rfl) hc) (fun _ => ?_)
          refine lv_iconst (v := 1) hx hb dM_read_201 (by decide) ?_
          refine lv_goto (tgt := 206) hx hb dM_read_202 (by decide) ?_
          refine lv_istore_n (lv' := [(2, .int 1), (3, .int (zch T len q9)), (0, .ref (ad 100)), (1, .int (nI j))]) hx hb dM_read_206 rfl hl (by decide) rfl (fun ls hl => ?_)
          refine lv_goto (tgt := 92) hx hb dM_read_207 (by decide) ?_
          exact (hG _ _ _ _ _ _).mp h1 (fun t ht => (h8 t ht).trans (hB8 t ht)) _ _ _ _ _ ls hR3 hB3 ⟨x17, x18, (x20.trans e20), (x21.trans e21)⟩ (hff2.trans hff3) (hfr2.trans hfr3) Z (lv_sub hl [0, 2, 3] rfl)
        · obtain ⟨F3, B3, hM3, hB3, ⟨x20, x21, hf1, hf4⟩, har, hff3, hfr3⟩ := h2
          have hB3 : ∀ t, t < 8 → B3 t = B t := fun t ht => (hB3 t ht).trans (hB8 t ht)
          refine lv_goto (tgt := 190) hx hb dM_read_171 (by decide) ?_
          refine lv_iload_n hx hb dM_read_190 rfl (lv_at hl 1 rfl) ?_
          refine lv_if_eq (tgt := 205) hx hb dM_read_191 (by decide) (fun hc => absurd hc (show ¬ ((1 : Int32) = 0) from by decide)) (fun _ => ?_)
          refine lv_aload_n hx hb dM_read_194 rfl (lv_at hl 2 rfl) ?_
          refine zw_get (v := .int (F3 20)) hx hb hT uM hown Z hM3.1 rfl 20 (by decide) (hT _ mf_M_115) (fun _ h9 => h9) rfl dM_read_195 ?_
          refine zw_top (nI f9) (x20) ?_
          refine lv_if_ne (tgt := 205) hx hb dM_read_198 (by decide) (fun _ => ?_) (fun hc => absurd hc (show ¬ ((nI f9) : Int32) = 0 from fun h9 => absurd ((nI_eq (b := 0) (by omega) (by decide)).mp h9) (by omega)))
          refine lv_iconst (v := 0) hx hb dM_read_205 (by decide) ?_
          refine lv_istore_n (lv' := [(2, .int 0), (3, .int (zch T len q9)), (0, .ref (ad 100)), (1, .int (nI j))]) hx hb dM_read_206 rfl hl (by decide) rfl (fun ls hl => ?_)
          refine lv_goto (tgt := 92) hx hb dM_read_207 (by decide) ?_
          refine lv_iload_n hx hb dM_read_92 rfl (lv_at hl 0 rfl) ?_
          refine lv_if_eq (tgt := 210) hx hb dM_read_93 (by decide) (fun _ => ?_) (fun hc => absurd (show (0 : Int32) = 0 from rfl) hc)
          exact (hFl _ _).mp h1 _ _ _ _ _ ls hM3 hB3 ⟨x20, x21, hf1, hf4⟩ har (hff2.trans hff3) (hfr2.trans hfr3) Z (lv_sub hl [2, 3] rfl)
      have hCD : zClD n o P T len Good Fin := by
        intro p9 d Bx sg st hp9 hd20 hpx hst9 hE
        refine (hG _ _ _ _ _ _).mpr ?_
        intro hB8 w1 F1 B1 H locs ls hR1 hB1 ⟨e17, e18, e20, e21⟩ hff hfr Z hl
        have hspi := zsp_in (T := T) hp9
        obtain ⟨q9, hq9⟩ : ∃ q9, q9 = zsp T len p9 := ⟨_, rfl⟩
        rw [← hq9] at hE hspi
        refine lv_iload_n hx hb dM_read_92 rfl (lv_at hl 0 rfl) ?_
        refine lv_if_eq (tgt := 210) hx hb dM_read_93 (by decide) (fun hc => absurd hc (show ¬ ((1 : Int32) = 0) from by decide)) (fun _ => ?_)
        refine lv_aload_n hx hb dM_read_96 rfl (lv_at hl 1 rfl) ?_
        refine zw_calli (va_runV (As := []) (rest := []) ⟨hx, hb, hml, hown, hts⟩ (c_M_here l P n o F1 B1 T len sg st d (d + 1) hR1 p9 e17 hp9) (kw_M_here hts ml_M_152 (zR_fit (by omega) (by omega))) (Z.preV hR1.1.1 rfl _) rfl rfl hl.1 rfl (lv_room (Nat.le_of_ble_eq_true rfl)) dM_read_97 ⟨Nat.le_of_ble_eq_true rfl, Nat.le_of_ble_eq_true rfl⟩) Z (fun r w2 H locs hp Z => ?_)
        rw [← hq9] at hp
        obtain ⟨rfl, hw2⟩ := hp
        subst hw2
        have hR2 := hR1.obj (F' := upd F1 17 (nI q9)) (zfF.upd (by decide)) rfl
        have g100 := hR2.1.1
        have hff2 : zfF F8 (upd F1 17 (nI q9)) := hff.trans (zfF.upd (by decide))
        have hfr2 : zfr w5 (va_up w1 100 (some (oM ad (upd F1 17 (nI q9))))) := hfr.trans (zfr.up (by decide))
        refine lv_istore_n (lv' := [(3, .int (zch T len q9)), (2, .int 1), (0, .ref (ad 100)), (1, .int (nI j))]) hx hb dM_read_100 rfl hl (by decide) rfl (fun ls hl => ?_)
        refine lv_aload_n hx hb dM_read_101 rfl (lv_at hl 2 rfl) ?_
        refine zw_get (v := .int ((upd F1 17 (nI q9)) 18)) hx hb hT uM hown Z g100 rfl 18 (by decide) (hT _ mf_M_136) (fun _ h9 => h9) rfl dM_read_102 ?_
        refine zw_top (nI 3) (e18) ?_
        refine lv_if_ne (tgt := 142) hx hb dM_read_105 (by decide) (fun _ => ?_) (fun hc => absurd hc (show ¬ ((nI 3) : Int32) = 0 from by decide))
        refine lv_aload_n hx hb dM_read_142 rfl (lv_at hl 2 rfl) ?_
        refine zw_get (v := .int ((upd F1 17 (nI q9)) 18)) hx hb hT uM hown Z g100 rfl 18 (by decide) (hT _ mf_M_136) (fun _ h9 => h9) rfl dM_read_143 ?_
        refine zw_top (nI 3) (e18) ?_
        refine lv_iconst (v := 1) hx hb dM_read_146 (by decide) ?_
        refine lv_icmp_ne (tgt := 158) hx hb dM_read_147 (by decide) (fun _ => ?_) (fun hc => absurd hc (show ¬ ((nI 3) : Int32) = 1 from by decide))
        refine lv_aload_n hx hb dM_read_158 rfl (lv_at hl 2 rfl) ?_
        refine zw_get (v := .int ((upd F1 17 (nI q9)) 18)) hx hb hT uM hown Z g100 rfl 18 (by decide) (hT _ mf_M_136) (fun _ h9 => h9) rfl dM_read_159 ?_
        refine zw_top (nI 3) (e18) ?_
        refine lv_iconst (v := 2) hx hb dM_read_162 (by decide) ?_
        refine lv_icmp_ne (tgt := 174) hx hb dM_read_163 (by decide) (fun _ => ?_) (fun hc => absurd hc (show ¬ ((nI 3) : Int32) = 2 from by decide))
        refine lv_aload_n hx hb dM_read_174 rfl (lv_at hl 2 rfl) ?_
        refine lv_iload_n hx hb dM_read_175 rfl (lv_at hl 0 rfl) ?_
        refine zw_callv (va_runV (As := [.int (zch T len q9)]) (rest := []) ⟨hx, hb, hml, hown, hts⟩ (c_M_goOn l P n o _ B1 Bx T len sg st d hR2 hB1 q9 rfl hspi.2 (zch T len q9) rfl hst9) (kw_M_goOn hts ml_M_179 (zR_fit (by omega) (by omega))) (Z.preV g100 rfl _) rfl rfl hl.1 rfl (lv_room (Nat.le_of_ble_eq_true rfl)) dM_read_176 ⟨Nat.le_of_ble_eq_true rfl, Nat.le_of_ble_eq_true rfl⟩) Z (fun w3 H locs hp Z => ?_)
        rcases zED.both hE hp with ⟨p8, s8, d8, B8, sg8, st8, h8, hne, h1, h2⟩ | ⟨f9, p8, h1, h2⟩ | ⟨C, hme, h1, h2⟩
        · have hne9 := hne
          refine lv_iload_n hx hb dM_read_179 rfl (lv_at hl 0 rfl) ?_
          refine lv_iconst (v := (-1)) hx hb dM_read_180 (by decide) ?_
          refine lv_icmp_eq (tgt := 188) hx hb dM_read_181 (by decide) (fun hc => absurd hc (show ¬ (((zch T len q9) : Int32) = (-1)) from hne9)) (fun _ => ?_)
          obtain ⟨F3, B3, hR3, hB3, ⟨x17, x18, x20, x21⟩, hff3, hfr3⟩ := h2
          refine lv_iconst (v := 1) hx hb dM_read_184 (by decide) ?_
          refine lv_goto (tgt := 189) hx hb dM_read_185 (by decide) ?_
          refine lv_istore_n (lv' := [(2, .int 1), (3, .int (zch T len q9)), (0, .ref (ad 100)), (1, .int (nI j))]) hx hb dM_read_189 rfl hl (by decide) rfl (fun ls hl => ?_)
          refine lv_iload_n hx hb dM_read_190 rfl (lv_at hl 0 rfl) ?_
          refine lv_if_eq (tgt := 205) hx hb dM_read_191 (by decide) (fun hc => absurd hc (show ¬ ((1 : Int32) = 0) from by decide)) (fun _ => ?_)
          refine lv_aload_n hx hb dM_read_194 rfl (lv_at hl 2 rfl) ?_
          refine zw_get (v := .int (F3 20)) hx hb hT uM hown Z hR3.1.1 rfl 20 (by decide) (hT _ mf_M_115) (fun _ h9 => h9) rfl dM_read_195 ?_
          refine zw_top (0) (x20.trans e20) ?_
          refine lv_if_ne (tgt := 205) hx hb dM_read_198 (by decide) (fun hc => absurd (show ((0) : Int32) = 0 from rfl) hc) (fun _ => ?_)
          refine lv_iconst (v := 1) hx hb dM_read_201 (by decide) ?_
          refine lv_goto (tgt := 206) hx hb dM_read_202 (by decide) ?_
          refine lv_istore_n (lv' := [(2, .int 1), (3, .int (zch T len q9)), (0, .ref (ad 100)), (1, .int (nI j))]) hx hb dM_read_206 rfl hl (by decide) rfl (fun ls hl => ?_)
          refine lv_goto (tgt := 92) hx hb dM_read_207 (by decide) ?_
          exact (hG _ _ _ _ _ _).mp h1 (fun t ht => (h8 t ht).trans (hB8 t ht)) _ _ _ _ _ ls hR3 hB3 ⟨x17, x18, (x20.trans e20), (x21.trans e21)⟩ (hff2.trans hff3) (hfr2.trans hfr3) Z (lv_sub hl [0, 2, 3] rfl)
        · refine lv_iload_n hx hb dM_read_179 rfl (lv_at hl 0 rfl) ?_
          refine lv_iconst (v := (-1)) hx hb dM_read_180 (by decide) ?_
          refine lv_icmp_eq (tgt := 188) hx hb dM_read_181 (by decide) (fun hc5 => ?_) (fun hc5 => ?_)
          · obtain ⟨F3, B3, hM3, hB3, ⟨x20, x21, hf1, hf4⟩, har, hff3, hfr3⟩ := h2
            have hB3 : ∀ t, t < 8 → B3 t = B t := fun t ht => (hB3 t ht).trans (hB8 t ht)
            refine lv_iconst (v := 0) hx hb dM_read_188 (by decide) ?_
            refine lv_istore_n (lv' := [(2, .int 0), (3, .int (zch T len q9)), (0, .ref (ad 100)), (1, .int (nI j))]) hx hb dM_read_189 rfl hl (by decide) rfl (fun ls hl => ?_)
            refine lv_iload_n hx hb dM_read_190 rfl (lv_at hl 0 rfl) ?_
            refine lv_if_eq (tgt := 205) hx hb dM_read_191 (by decide) (fun _ => ?_) (fun hc => absurd (show (0 : Int32) = 0 from rfl) hc)
            refine lv_iconst (v := 0) hx hb dM_read_205 (by decide) ?_
            refine lv_istore_n (lv' := [(2, .int 0), (3, .int (zch T len q9)), (0, .ref (ad 100)), (1, .int (nI j))]) hx hb dM_read_206 rfl hl (by decide) rfl (fun ls hl => ?_)
            refine lv_goto (tgt := 92) hx hb dM_read_207 (by decide) ?_
            refine lv_iload_n hx hb dM_read_92 rfl (lv_at hl 0 rfl) ?_
            refine lv_if_eq (tgt := 210) hx hb dM_read_93 (by decide) (fun _ => ?_) (fun hc => absurd (show (0 : Int32) = 0 from rfl) hc)
            exact (hFl _ _).mp h1 _ _ _ _ _ ls hM3 hB3 ⟨x20, x21, hf1, hf4⟩ har (hff2.trans hff3) (hfr2.trans hfr3) Z (lv_sub hl [2, 3] rfl)
          · obtain ⟨F3, B3, hM3, hB3, ⟨x20, x21, hf1, hf4⟩, har, hff3, hfr3⟩ := h2
            have hB3 : ∀ t, t < 8 → B3 t = B t := fun t ht => (hB3 t ht).trans (hB8 t ht)
            refine lv_iconst (v := 1) hx hb dM_read_184 (by decide) ?_
            refine lv_goto (tgt := 189) hx hb dM_read_185 (by decide) ?_
            refine lv_istore_n (lv' := [(2, .int 1), (3, .int (zch T len q9)), (0, .ref (ad 100)), (1, .int (nI j))]) hx hb dM_read_189 rfl hl (by decide) rfl (fun ls hl => ?_)
            refine lv_iload_n hx hb dM_read_190 rfl (lv_at hl 0 rfl) ?_
            refine lv_if_eq (tgt := 205) hx hb dM_read_191 (by decide) (fun hc => absurd hc (show ¬ ((1 : Int32) = 0) from by decide)) (fun _ => ?_)
            refine lv_aload_n hx hb dM_read_194 rfl (lv_at hl 2 rfl) ?_
            refine zw_get (v := .int (F3 20)) hx hb hT uM hown Z hM3.1 rfl 20 (by decide) (hT _ mf_M_115) (fun _ h9 => h9) rfl dM_read_195 ?_
            refine zw_top (nI f9) (x20) ?_
            refine lv_if_ne (tgt := 205) hx hb dM_read_198 (by decide) (fun _ => ?_) (fun hc => absurd hc (show ¬ ((nI f9) : Int32) = 0 from fun h9 => absurd ((nI_eq (b := 0) (by omega) (by decide)).mp h9) (by omega)))
            refine lv_iconst (v := 0) hx hb dM_read_205 (by decide) ?_
            refine lv_istore_n (lv' := [(2, .int 0), (3, .int (zch T len q9)), (0, .ref (ad 100)), (1, .int (nI j))]) hx hb dM_read_206 rfl hl (by decide) rfl (fun ls hl => ?_)
            refine lv_goto (tgt := 92) hx hb dM_read_207 (by decide) ?_
            refine lv_iload_n hx hb dM_read_92 rfl (lv_at hl 0 rfl) ?_
            refine lv_if_eq (tgt := 210) hx hb dM_read_93 (by decide) (fun _ => ?_) (fun hc => absurd (show (0 : Int32) = 0 from rfl) hc)
            exact (hFl _ _).mp h1 _ _ _ _ _ ls hM3 hB3 ⟨x20, x21, hf1, hf4⟩ har (hff2.trans hff3) (hfr2.trans hfr3) Z (lv_sub hl [2, 3] rfl)
        · obtain ⟨F3, B3, sg3, st3, hR3, hB3, ⟨xC, x20, x21⟩, hff3, hfr3⟩ := h2
          refine lv_iload_n hx hb dM_read_179 rfl (lv_at hl 0 rfl) ?_
          refine lv_iconst (v := (-1)) hx hb dM_read_180 (by decide) ?_
          refine lv_icmp_eq (tgt := 188) hx hb dM_read_181 (by decide) (fun _ => ?_) (fun hc => absurd (show ((zch T len q9) : Int32) = (-1) from hme) hc)
          refine lv_iconst (v := 0) hx hb dM_read_188 (by decide) ?_
          refine lv_istore_n (lv' := [(2, .int 0), (3, .int (zch T len q9)), (0, .ref (ad 100)), (1, .int (nI j))]) hx hb dM_read_189 rfl hl (by decide) rfl (fun ls hl => ?_)
          refine lv_iload_n hx hb dM_read_190 rfl (lv_at hl 0 rfl) ?_
          refine lv_if_eq (tgt := 205) hx hb dM_read_191 (by decide) (fun _ => ?_) (fun hc => absurd (show (0 : Int32) = 0 from rfl) hc)
          refine lv_iconst (v := 0) hx hb dM_read_205 (by decide) ?_
          refine lv_istore_n (lv' := [(2, .int 0), (3, .int (zch T len q9)), (0, .ref (ad 100)), (1, .int (nI j))]) hx hb dM_read_206 rfl hl (by decide) rfl (fun ls hl => ?_)
          refine lv_goto (tgt := 92) hx hb dM_read_207 (by decide) ?_
          refine lv_iload_n hx hb dM_read_92 rfl (lv_at hl 0 rfl) ?_
          refine lv_if_eq (tgt := 210) hx hb dM_read_93 (by decide) (fun _ => ?_) (fun hc => absurd (show (0 : Int32) = 0 from rfl) hc)
          exact (hFr _).mp h1 _ _ _ _ _ _ _ ls hR3 (fun t ht => (hB3 t ht).trans (hB8 t ht)) ⟨xC, x20.trans e20, x21.trans e21⟩ (hff2.trans hff3) (hfr2.trans hfr3) Z (lv_sub hl [2, 3] rfl)
      have hEnd : Fin (zOf (zText n o P T len)) := by
        cases hTx : zText n o P T len with
        | inl x =>
          obtain ⟨f9, p9⟩ := x
          refine (hFl f9 p9).mpr ?_
          intro w1 F1 B1 H locs ls hM1 hB1 ⟨e20, e21, hf1, hf4⟩ har hff hfr Z hl
          refine lv_aload_n hx hb dM_read_210 rfl (lv_at hl 0 rfl) ?_
          refine lv_aload_n hx hb dM_read_211 rfl (lv_at hl 0 rfl) ?_
          refine zw_get (v := .int (F1 20)) hx hb hT uM hown Z hM1.1 rfl 20 (by decide) (hT _ mf_M_115) (fun _ h9 => h9) rfl dM_read_212 ?_
          refine zw_top (nI f9) (e20) ?_
          refine zw_put (v := .int (nI f9)) hx hb hT uM hown tM tM_ok nM Z hM1.1 rfl 14 (by decide) (hT _ mf_M_182) (fun _ h9 => h9) rfl rfl rfl (by simp) dM_read_215 (fun H locs Z => ?_)
          have Z : zw G ad (va_up w1 100 (some (oM ad (upd F1 14 (nI f9))))) s H locs := Z
          have hM2 := hM1.put (j := 14) (x := (nI f9)) (by decide)
          have g100 := hM2.1
          refine lv_aload_n hx hb dM_read_218 rfl (lv_at hl 0 rfl) ?_
          refine lv_aload_n hx hb dM_read_219 rfl (lv_at hl 0 rfl) ?_
          refine zw_get (v := .int ((upd F1 14 (nI f9)) 21)) hx hb hT uM hown Z g100 rfl 21 (by decide) (hT _ mf_M_118) (fun _ h9 => h9) rfl dM_read_220 ?_
          refine zw_top (nI p9) (e21) ?_
          refine zw_put (v := .int (nI p9)) hx hb hT uM hown tM tM_ok nM Z g100 rfl 15 (by decide) (hT _ mf_M_33) (fun _ h9 => h9) rfl rfl rfl (by simp) dM_read_223 (fun H locs Z => ?_)
          have Z : zw G ad (va_up (va_up w1 100 (some (oM ad (upd F1 14 (nI f9))))) 100 (some (oM ad (upd (upd F1 14 (nI f9)) 15 (nI p9))))) s H locs := Z
          have hM3 := hM2.put (j := 15) (x := (nI p9)) (by decide)
          have g100 := hM3.1
          refine lv_aload_n hx hb dM_read_226 rfl (lv_at hl 0 rfl) ?_
          refine lv_aload_n hx hb dM_read_227 rfl (lv_at hl 0 rfl) ?_
          refine zw_get (v := .int ((upd (upd F1 14 (nI f9)) 15 (nI p9)) 20)) hx hb hT uM hown Z g100 rfl 20 (by decide) (hT _ mf_M_115) (fun _ h9 => h9) rfl dM_read_228 ?_
          refine zw_top (nI f9) (e20) ?_
          refine lv_if_le (tgt := 238) hx hb dM_read_231 (by decide) (fun hc => absurd hc (show ¬ (((nI f9) : Int32) ≤ 0) from fun h9 => nI_ge (a := 0) (show 0 < f9 by omega) (by omega) h9)) (fun _ => ?_)
          refine lv_iconst (v := 2) hx hb dM_read_234 (by decide) ?_
          refine lv_goto (tgt := 239) hx hb dM_read_235 (by decide) ?_
          refine zw_put (v := .int 2) hx hb hT uM hown tM tM_ok nM Z g100 rfl 0 (by decide) (hT _ mf_M_52) (fun _ h9 => h9) rfl rfl rfl (by simp) dM_read_239 (fun H locs Z => ?_)
          have Z : zw G ad (va_up (va_up (va_up w1 100 (some (oM ad (upd F1 14 (nI f9))))) 100 (some (oM ad (upd (upd F1 14 (nI f9)) 15 (nI p9))))) 100 (some (oM ad (upd (upd (upd F1 14 (nI f9)) 15 (nI p9)) 0 2)))) s H locs := Z
          have hM4 := hM3.put (j := 0) (x := 2) (by decide)
          have g100 := hM4.1
          refine lv_aload_n hx hb dM_read_242 rfl (lv_at hl 0 rfl) ?_
          refine zw_get (v := .int ((upd (upd (upd F1 14 (nI f9)) 15 (nI p9)) 0 2) 0)) hx hb hT uM hown Z g100 rfl 0 (by decide) (hT _ mf_M_52) (fun _ h9 => h9) rfl dM_read_243 ?_
          refine zw_top (2) (rfl) ?_
          refine lv_if_le (tgt := 251) hx hb dM_read_246 (by decide) (fun hc => absurd hc (show ¬ (((2) : Int32) ≤ 0) from by decide)) (fun _ => ?_)
          refine lv_iconst (v := 0) hx hb dM_read_249 (by decide) ?_
          have hfn := hfin w1 hfr har
          exact hret _ _ _ _ _ _ dM_read_250 (⟨.inr (.inl ⟨hza, f9, p9, hTx, hf1, hf4, ⟨_, B1, hM4, fun t ht => (hB1 t ht).trans (hBA t ht), ⟨rfl, by rw [show (upd (upd (upd F1 14 (nI f9)) 15 (nI p9)) 0 2) 13 = F1 13 from rfl, hff 13 (by decide)]; exact f13, rfl, rfl, by rw [show (upd (upd (upd F1 14 (nI f9)) 15 (nI p9)) 0 2) 26 = F1 26 from rfl, hff 26 (by decide)]; exact f26⟩, hfn.1.put.put.put⟩⟩), ((hfn.2.trans (zfm.up (by decide))).trans (zfm.up (by decide))).trans (zfm.up (by decide))⟩) Z
        | inr x =>
          obtain ⟨C, e9⟩ := x
          refine (hFr C).mpr ?_
          intro w1 F1 B1 sg st H locs ls hR1 hB1 ⟨e8, e20, e21⟩ hff hfr Z hl
          refine lv_aload_n hx hb dM_read_210 rfl (lv_at hl 0 rfl) ?_
          refine lv_aload_n hx hb dM_read_211 rfl (lv_at hl 0 rfl) ?_
          refine zw_get (v := .int (F1 20)) hx hb hT uM hown Z hR1.1.1 rfl 20 (by decide) (hT _ mf_M_115) (fun _ h9 => h9) rfl dM_read_212 ?_
          refine zw_top (0) (e20) ?_
          refine zw_put (v := .int (0)) hx hb hT uM hown tM tM_ok nM Z hR1.1.1 rfl 14 (by decide) (hT _ mf_M_182) (fun _ h9 => h9) rfl rfl rfl (by simp) dM_read_215 (fun H locs Z => ?_)
          have Z : zw G ad (va_up w1 100 (some (oM ad (upd F1 14 0)))) s H locs := Z
          have hR2 := hR1.put (j := 14) (x := 0) (by decide)
          have g100 := hR2.1.1
          refine lv_aload_n hx hb dM_read_218 rfl (lv_at hl 0 rfl) ?_
          refine lv_aload_n hx hb dM_read_219 rfl (lv_at hl 0 rfl) ?_
          refine zw_get (v := .int ((upd F1 14 0) 21)) hx hb hT uM hown Z g100 rfl 21 (by decide) (hT _ mf_M_118) (fun _ h9 => h9) rfl dM_read_220 ?_
          refine zw_top (-1) (e21) ?_
          refine zw_put (v := .int (-1)) hx hb hT uM hown tM tM_ok nM Z g100 rfl 15 (by decide) (hT _ mf_M_33) (fun _ h9 => h9) rfl rfl rfl (by simp) dM_read_223 (fun H locs Z => ?_)
          have Z : zw G ad (va_up (va_up w1 100 (some (oM ad (upd F1 14 0)))) 100 (some (oM ad (upd (upd F1 14 0) 15 (-1))))) s H locs := Z
          have hR3 := hR2.put (j := 15) (x := (-1)) (by decide)
          have g100 := hR3.1.1
          refine lv_aload_n hx hb dM_read_226 rfl (lv_at hl 0 rfl) ?_
          refine lv_aload_n hx hb dM_read_227 rfl (lv_at hl 0 rfl) ?_
          refine zw_get (v := .int ((upd (upd F1 14 0) 15 (-1)) 20)) hx hb hT uM hown Z g100 rfl 20 (by decide) (hT _ mf_M_115) (fun _ h9 => h9) rfl dM_read_228 ?_
          refine zw_top (0) (e20) ?_
          refine lv_if_le (tgt := 238) hx hb dM_read_231 (by decide) (fun _ => ?_) (fun hc => absurd (show ((0) : Int32) ≤ 0 from by decide) hc)
          refine lv_iconst (v := 0) hx hb dM_read_238 (by decide) ?_
          refine zw_put (v := .int 0) hx hb hT uM hown tM tM_ok nM Z g100 rfl 0 (by decide) (hT _ mf_M_52) (fun _ h9 => h9) rfl rfl rfl (by simp) dM_read_239 (fun H locs Z => ?_)
          have Z : zw G ad (va_up (va_up (va_up w1 100 (some (oM ad (upd F1 14 0)))) 100 (some (oM ad (upd (upd F1 14 0) 15 (-1))))) 100 (some (oM ad (upd (upd (upd F1 14 0) 15 (-1)) 0 0)))) s H locs := Z
          have hR4 := hR3.put (j := 0) (x := 0) (by decide)
          have g100 := hR4.1.1
          refine lv_aload_n hx hb dM_read_242 rfl (lv_at hl 0 rfl) ?_
          refine zw_get (v := .int ((upd (upd (upd F1 14 0) 15 (-1)) 0 0) 0)) hx hb hT uM hown Z g100 rfl 0 (by decide) (hT _ mf_M_52) (fun _ h9 => h9) rfl dM_read_243 ?_
          refine zw_top (0) (rfl) ?_
          refine lv_if_le (tgt := 251) hx hb dM_read_246 (by decide) (fun _ => ?_) (fun hc => absurd (show ((0) : Int32) ≤ 0 from by decide) hc)
          refine lv_aload_n hx hb dM_read_251 rfl (lv_at hl 0 rfl) ?_
          refine lv_aload_n hx hb dM_read_252 rfl (lv_at hl 0 rfl) ?_
          refine zw_calli (va_runV (As := []) (rest := [.ref (ad 100)]) ⟨hx, hb, hml, hown, hts⟩ (c_M_sum l P n o _ _ T len sg st 0 1 hR4) (kw_M_sum hts ml_M_132 (zR_fit (by omega) (by omega))) (Z.preV g100 rfl _) rfl rfl hl.1 rfl (lv_room (Nat.le_of_ble_eq_true rfl)) dM_read_253 ⟨Nat.le_of_ble_eq_true rfl, Nat.le_of_ble_eq_true rfl⟩) Z (fun r wq H locs hp Z => ?_)
          obtain ⟨rfl, hw1⟩ := hp
          rw [hw1] at Z
          clear hw1
          refine lv_iload_n hx hb dM_read_256 rfl (lv_at hl 1 rfl) ?_
          refine zw_callv (va_runV (As := [.int (nI (8 + 3 * 0)), .int (nI j)]) (rest := []) ⟨hx, hb, hml, hown, hts⟩ (c_M_copy l P n o _ _ hR4.1 (8 + 3 * 0) j (by decide) (by omega) (by omega)) (kw_M_copy hts ml_M_158 (zR_fit (by omega) (by omega))) (Z.preV g100 rfl _) rfl rfl hl.1 rfl (lv_room (Nat.le_of_ble_eq_true rfl)) dM_read_257 ⟨Nat.le_of_ble_eq_true rfl, Nat.le_of_ble_eq_true rfl⟩) Z (fun w6 H locs hp Z => ?_)
          obtain ⟨hM6, hz6⟩ := hp
          rw [show B1 (8 + 3 * 0) = C from e8] at hM6
          refine lv_aload_n hx hb dM_read_260 rfl (lv_at hl 0 rfl) ?_
          refine lv_iload_n hx hb dM_read_261 rfl (lv_at hl 1 rfl) ?_
          refine zw_calli (va_runV (As := [.int (nI j)]) (rest := []) ⟨hx, hb, hml, hown, hts⟩ (c_M_terms l P n o _ _ hM6 j (by omega)) (kw_M_terms hts ml_M_185 (zR_fit (by omega) (by omega))) (Z.preV hM6.1 rfl _) rfl rfl hl.1 rfl (lv_room (Nat.le_of_ble_eq_true rfl)) dM_read_262 ⟨Nat.le_of_ble_eq_true rfl, Nat.le_of_ble_eq_true rfl⟩) Z (fun r wq H locs hp Z => ?_)
          obtain ⟨rfl, hw1⟩ := hp
          rw [hw1] at Z
          clear hw1
          have hfn := hfin w1 hfr hR1.ar
          rw [va_up_self]
          exact hret _ _ _ _ _ _ dM_read_265 (⟨.inr (.inr ⟨hza, C, e9, hTx, rfl, ⟨_, _, hM6, fun t ht => by rw [ncl (by omega)]; exact zup_cong (k := 8) (fun t9 h9 => (hB1 t9 h9).trans (hBA t9 h9)) rfl t ht, ⟨rfl, by rw [show (upd (upd (upd F1 14 0) 15 (-1)) 0 0) 13 = F1 13 from rfl, hff 13 (by decide)]; exact f13, rfl, rfl, by rw [show (upd (upd (upd F1 14 0) 15 (-1)) 0 0) 26 = F1 26 from rfl, hff 26 (by decide)]; exact f26⟩, hfn.1.put.put.put.f5 hz6⟩⟩), (((hfn.2.trans (zfm.up (by decide))).trans (zfm.up (by decide))).trans (zfm.up (by decide))).trans hz6.fm⟩) Z
      have hgo := zMACH hCS hCF hCA hCD hlen hcfg hP1 (B := va_up B 8 (fun _ => 0)) (sg := va_up (fun _ => false) 0 false) (st := va_up (fun _ => none) 0 none) (zpol_up hpB (zpol_0 n (by omega))) (va_up_self _ _ _) (va_up_self _ _ _) (va_up_self _ _ _) hEnd
      exact (hG _ _ _ _ _ _).mp hgo (fun t ht => va_up_ne _ _ (by omega)) _ _ _ _ _ ls hR5 (fun t ht => rfl) ⟨f17, f18, f20, f21⟩ (zfF.rfl' _) (zfr.rfl' _) Z (lv_sub hl [0, 1, 2] rfl)
    have loop : ∀ (i k : Nat) (g : Nat → Int32) (H : Heap) (locs : List Loc) (ls : Array Slot), k + i = len → (∀ i, i < k → g i = nI (T i)) → zw G ad (va_up (va_up w 100 (some (oM ad (upd (upd F 0 0) 16 (nI len))))) 107 (some (zi G 200 g))) s H locs → lv_has ls 4 [(2, .int (nI k)), (0, .ref (ad 100)), (1, .int (nI j))] → W p l e (zR (6)) s m ([.ref (ad 100), .int (nI j)] : List Value).toArray below meth c H locs (0) (0) Q (F0 m 35 ls []) := by
      intro i
      induction i with
      | zero =>
        intro k g H locs ls hk hg Z hl
        have l100 : (va_up (va_up w 100 (some (oM ad (upd (upd F 0 0) 16 (nI len))))) 107 (some (zi G 200 g))) 100 = some (oM ad (upd (upd F 0 0) 16 (nI len))) := by rw [va_up_ne _ _ (by decide)]; exact va_up_self _ _ _
        have l106 : (va_up (va_up w 100 (some (oM ad (upd (upd F 0 0) 16 (nI len))))) 107 (some (zi G 200 g))) 106 = some (zi G 200 hd) := by rw [va_up_ne _ _ (by decide), va_up_ne _ _ (by decide)]; exact h106
        have l107 : (va_up (va_up w 100 (some (oM ad (upd (upd F 0 0) 16 (nI len))))) 107 (some (zi G 200 g))) 107 = some (zi G 200 g) := va_up_self _ _ _
        refine lv_iload_n hx hb dM_read_35 rfl (lv_at hl 0 rfl) ?_
        refine lv_aload_n hx hb dM_read_36 rfl (lv_at hl 1 rfl) ?_
        refine zw_get (v := .int ((upd (upd F 0 0) 16 (nI len)) 16)) hx hb hT uM hown Z l100 rfl 16 (by decide) (hT _ mf_M_112) (fun _ h9 => h9) rfl dM_read_37 ?_
        refine zw_top (nI len) (rfl) ?_
        refine lv_icmp_ge (tgt := 61) hx hb dM_read_40 (by decide) (fun _ => ?_) (fun hc => absurd (show ((nI len) : Int32) ≤ (nI k) from nI_le (by omega) (by omega)) hc)
        exact cont g _ _ ls (fun i9 h9 => hg i9 (by omega)) Z (lv_sub hl [1, 2] rfl)
      | succ i ih =>
        intro k g H locs ls hk hg Z hl
        have l100 : (va_up (va_up w 100 (some (oM ad (upd (upd F 0 0) 16 (nI len))))) 107 (some (zi G 200 g))) 100 = some (oM ad (upd (upd F 0 0) 16 (nI len))) := by rw [va_up_ne _ _ (by decide)]; exact va_up_self _ _ _
        have l106 : (va_up (va_up w 100 (some (oM ad (upd (upd F 0 0) 16 (nI len))))) 107 (some (zi G 200 g))) 106 = some (zi G 200 hd) := by rw [va_up_ne _ _ (by decide), va_up_ne _ _ (by decide)]; exact h106
        have l107 : (va_up (va_up w 100 (some (oM ad (upd (upd F 0 0) 16 (nI len))))) 107 (some (zi G 200 g))) 107 = some (zi G 200 g) := va_up_self _ _ _
        refine lv_iload_n hx hb dM_read_35 rfl (lv_at hl 0 rfl) ?_
        refine lv_aload_n hx hb dM_read_36 rfl (lv_at hl 1 rfl) ?_
        refine zw_get (v := .int ((upd (upd F 0 0) 16 (nI len)) 16)) hx hb hT uM hown Z l100 rfl 16 (by decide) (hT _ mf_M_112) (fun _ h9 => h9) rfl dM_read_37 ?_
        refine zw_top (nI len) (rfl) ?_
        refine lv_icmp_ge (tgt := 61) hx hb dM_read_40 (by decide) (fun hc => absurd hc (show ¬ (((nI len) : Int32) ≤ (nI k)) from nI_ge (by omega) (by omega))) (fun _ => ?_)
        refine lv_aload_n hx hb dM_read_43 rfl (lv_at hl 1 rfl) ?_
        refine zw_get (v := .ref (ad 107)) hx hb hT uM hown Z l100 rfl 22 (by decide) (hT _ mf_M_36) (fun _ h9 => h9) rfl dM_read_44 ?_
        refine lv_iload_n hx hb dM_read_47 rfl (lv_at hl 0 rfl) ?_
        refine lv_aload_n hx hb dM_read_48 rfl (lv_at hl 1 rfl) ?_
        refine zw_get (v := .ref (ad 106)) hx hb hT uM hown Z l100 rfl 12 (by decide) (hT _ mf_M_30) (fun _ h9 => h9) rfl dM_read_49 ?_
        refine lv_iload_n hx hb dM_read_52 rfl (lv_at hl 0 rfl) ?_
        refine zw_iald hx hb Z l106 (vin (by omega) (by decide)) dM_read_53 ?_
        refine zw_top (nI (T k)) (by rw [ncl (by omega)]; exact hhd k (by omega)) ?_
        refine zw_iast hx hb Z l107 (vin (by omega) (by decide)) dM_read_54 (fun H locs Z => ?_)
        rw [ncl (by omega), bx_uu] at Z
        refine lv_iinc (v := (nI (k + 1))) (lv' := [(2, .int (nI (k + 1))), (0, .ref (ad 100)), (1, .int (nI j))]) hx hb dM_read_55 hl (k := 0) rfl (nI_1 k) (by decide) rfl (fun ls hl => ?_)
        refine lv_goto (tgt := 35) hx hb dM_read_58 (by decide) ?_
        exact ih (k + 1) _ _ _ ls (by omega) (fun i9 h9 => by
          by_cases e9 : i9 = k
          · subst e9; rw [pk_us]
          · rw [pk_un e9]; exact hg i9 (by omega)) Z (lv_sub hl [0, 1, 2] rfl)
    exact loop len 0 tx _ _ ls (by omega) (fun i9 h9 => absurd h9 (Nat.not_lt_zero _)) (by rw [zup_id (by rw [va_up_ne _ _ (by decide)]; exact h107)]; exact Z) (lv_sub hl [0, 1, 2] rfl)
