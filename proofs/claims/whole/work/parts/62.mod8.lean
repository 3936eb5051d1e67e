/-- the reference before its tables are made -/
def zMsh (G : zG) (ad : Nat → Nat) (w : Nat → Option va_E) (F : Nat → Int32) : Prop := w 100 = some (oM ad F) ∧ (∃ d : Nat → Int32, w 101 = some (zi G 1296 d)) ∧ (∃ x : Nat → Int32, w 102 = some (zi G 5184 x)) ∧ (∃ y : Nat → Int32, w 103 = some (zi G 126 y)) ∧ (∃ u : Nat → Int32, w 104 = some (zi G 4 u)) ∧ ∃ c : Nat → Int32, w 105 = some (zi G 94608 c)
theorem zMod.shp {G : zG} {ad : Nat → Nat} {w : Nat → Option va_E} {P n o : Nat} {F : Nat → Int32} {B : Nat → Nat → Nat} (h : zMod G ad w P n o F B) : zMsh G ad w F := by
  obtain ⟨h1, -, -, -, ⟨d, h5, -⟩, ⟨x, h6, -⟩, ⟨y, h7, -⟩, ⟨u, h8, -⟩, ⟨c, h9, -⟩⟩ := h
  exact ⟨h1, ⟨d, h5⟩, ⟨x, h6⟩, ⟨y, h7⟩, ⟨u, h8⟩, ⟨c, h9⟩⟩
def zdp (n i : Nat) : Nat → Nat
  | 0 => 0
  | k + 1 => zdp n i k + zdgt n i k
theorem zdp_le {n o : Nat} (h : zCfg n o) (i : Nat) : ∀ k, zdp n i k ≤ 30 * k
  | 0 => Nat.le_refl _
  | k + 1 => by
    have h1 := zdp_le h i k
    have h2 := zdgt_31 h i k
    show zdp n i k + zdgt n i k ≤ _
    omega
theorem zdp_4 (n i : Nat) : zdp n i 4 = zdg0 n i := by
  simp only [zdp, zdg0]
  omega
def zun (n k : Nat) : Nat := zBs n ^ (min k n)
theorem zun_le {n o k : Nat} (h : zCfg n o) : 0 < zun n k ∧ zun n k ≤ 1296 := by
  have h1 := zTo_le h
  have hb : 0 < zBs n := Nat.succ_pos _
  refine ⟨Nat.pow_pos hb, Nat.le_trans (Nat.pow_le_pow_right hb (Nat.min_le_right k n)) h1⟩
theorem zun_s {n k : Nat} : zun n (k + 1) = zun n k * (if k < n then zBs n else 1) := by
  unfold zun
  by_cases h : k < n
  · rw [if_pos h, Nat.min_eq_left (by omega), Nat.min_eq_left (by omega), Nat.pow_succ]
  · rw [if_neg h, Nat.min_eq_right (by omega), Nat.min_eq_right (by omega), Nat.mul_one]

set_option maxHeartbeats 4000000 in
set_option maxRecDepth 100000 in
theorem c_M_prepare (l : Launch) {G : zG} {ad : Nat → Nat} {w : Nat → Option va_E} (P n o : Nat) (F : Nat → Int32) (hS9 : zMsh G ad w F) (hP1 : 2 ≤ P) (hP2 : P ≤ 32003) (hcfg : zCfg n o) : Met l yM_prepare wM_prepare (zR (3)) (va_Pc [.ref (ad 100), .int (nI P), .int (nI n), .int (nI o)] (zw_U G ad w)) (va_Qv (S := Nat → Option va_E) (fun w' => ∃ F' : Nat → Int32, zMod G ad w' P n o F' (fun _ _ => 0) ∧ F' 26 = 0 ∧ (∀ j, ¬ (1 ≤ j ∧ j ≤ 5) → j ≠ 10 → j ≠ 26 → F' j = F j) ∧ ∀ k, ¬ (100 ≤ k ∧ k ≤ 105) → w' k = w k) (fun u t => zw_U G ((fun _ => ad) u) ((fun w' => w') u) t) (zA G)) 0 0 (zA G) := by
  refine zw_methv (S := Nat → Option va_E) (fa := fun _ => ad) (fw := fun w' => w') (by decide) rfl (Nat.le_of_ble_eq_true rfl) ?_
  intro p e s m below meth c Q ls C hname Z hl hret
  obtain ⟨hx, hb, hml, hown, hts, hlk⟩ := C
  have hT : ∀ w ∈ zT, w.before ([.ref (ad 100), .int (nI P), .int (nI n), .int (nI o)] : List Value).toArray s = true := fun w h => hts w (List.mem_cons_of_mem _ h)
  have hown : s.vm.findClass "PolynomialDeskModel" = some m.cls := hown
  have hl : lv_has ls 7 [(0, .ref (ad 100)), (1, .int (nI P)), (2, .int (nI n)), (3, .int (nI o))] := hl
  obtain ⟨h100, ⟨d0, h101⟩, ⟨x0, h102⟩, ⟨y0, h103⟩, ⟨u0, h104⟩, ⟨c0, h105⟩⟩ := hS9
  obtain ⟨hn1, hn4, ho1⟩ := id hcfg
  have hto := zTo_le hcfg
  have hHi := zHi_le (n := n)
  refine lv_aload_n hx hb dM_prepare_0 rfl (lv_at hl 0 rfl) ?_
  refine lv_iload_n hx hb dM_prepare_1 rfl (lv_at hl 1 rfl) ?_
  refine zw_put (v := .int (nI P)) hx hb hT uM hown tM tM_ok nM Z h100 rfl 1 (by decide) (hT _ mf_M_7) (fun _ h9 => h9) rfl rfl rfl (by simp) dM_prepare_2 (fun H locs Z => ?_)
  have Z : zw G ad (va_up w 100 (some (oM ad (upd F 1 (nI P))))) s H locs := Z
  have h100 : (va_up w 100 (some (oM ad (upd F 1 (nI P))))) 100 = some (oM ad (upd F 1 (nI P))) := va_up_self _ _ _
  refine lv_aload_n hx hb dM_prepare_5 rfl (lv_at hl 0 rfl) ?_
  refine lv_iload_n hx hb dM_prepare_6 rfl (lv_at hl 2 rfl) ?_
  refine zw_put (v := .int (nI n)) hx hb hT uM hown tM tM_ok nM Z h100 rfl 2 (by decide) (hT _ mf_M_55) (fun _ h9 => h9) rfl rfl rfl (by simp) dM_prepare_7 (fun H locs Z => ?_)
  have Z : zw G ad (va_up (va_up w 100 (some (oM ad (upd F 1 (nI P))))) 100 (some (oM ad (upd (upd F 1 (nI P)) 2 (nI n))))) s H locs := Z
  rw [bx_uu] at Z
  have h100 : (va_up w 100 (some (oM ad (upd (upd F 1 (nI P)) 2 (nI n))))) 100 = some (oM ad (upd (upd F 1 (nI P)) 2 (nI n))) := va_up_self _ _ _
  refine lv_aload_n hx hb dM_prepare_10 rfl (lv_at hl 0 rfl) ?_
  refine lv_iload_n hx hb dM_prepare_11 rfl (lv_at hl 3 rfl) ?_
  refine zw_put (v := .int (nI o)) hx hb hT uM hown tM tM_ok nM Z h100 rfl 3 (by decide) (hT _ mf_M_58) (fun _ h9 => h9) rfl rfl rfl (by simp) dM_prepare_12 (fun H locs Z => ?_)
  have Z : zw G ad (va_up (va_up w 100 (some (oM ad (upd (upd F 1 (nI P)) 2 (nI n))))) 100 (some (oM ad (upd (upd (upd F 1 (nI P)) 2 (nI n)) 3 (nI o))))) s H locs := Z
  rw [bx_uu] at Z
  have h100 : (va_up w 100 (some (oM ad (upd (upd (upd F 1 (nI P)) 2 (nI n)) 3 (nI o))))) 100 = some (oM ad (upd (upd (upd F 1 (nI P)) 2 (nI n)) 3 (nI o))) := va_up_self _ _ _
  refine lv_aload_n hx hb dM_prepare_15 rfl (lv_at hl 0 rfl) ?_
  refine lv_iload_n hx hb dM_prepare_16 rfl (lv_at hl 2 rfl) ?_
  refine lv_iconst (v := 1) hx hb dM_prepare_17 (by decide) ?_
  have cont : W p l e (zR (3)) s m ([.ref (ad 100), .int (nI P), .int (nI n), .int (nI o)] : List Value).toArray below meth c H locs (0) (0) Q (F0 m 47 ls [.int (nI (zHi n)), .ref (ad 100)]) := by
    refine zw_put (v := .int (nI (zHi n))) hx hb hT uM hown tM tM_ok nM Z h100 rfl 4 (by decide) (hT _ mf_M_61) (fun _ h9 => h9) rfl rfl rfl (by simp) dM_prepare_47 (fun H locs Z => ?_)
    have Z : zw G ad (va_up (va_up w 100 (some (oM ad (upd (upd (upd F 1 (nI P)) 2 (nI n)) 3 (nI o))))) 100 (some (oM ad (upd (upd (upd (upd F 1 (nI P)) 2 (nI n)) 3 (nI o)) 4 (nI (zHi n)))))) s H locs := Z
    rw [bx_uu] at Z
    have h100 : (va_up w 100 (some (oM ad (upd (upd (upd (upd F 1 (nI P)) 2 (nI n)) 3 (nI o)) 4 (nI (zHi n)))))) 100 = some (oM ad (upd (upd (upd (upd F 1 (nI P)) 2 (nI n)) 3 (nI o)) 4 (nI (zHi n)))) := va_up_self _ _ _
    refine lv_aload_n hx hb dM_prepare_50 rfl (lv_at hl 0 rfl) ?_
    refine lv_aload_n hx hb dM_prepare_51 rfl (lv_at hl 0 rfl) ?_
    refine zw_get (v := .int ((upd (upd (upd (upd F 1 (nI P)) 2 (nI n)) 3 (nI o)) 4 (nI (zHi n))) 4)) hx hb hT uM hown Z h100 rfl 4 (by decide) (hT _ mf_M_61) (fun _ h9 => h9) rfl dM_prepare_52 ?_
    refine zw_top (nI (zHi n)) (rfl) ?_
    refine lv_iconst (v := 1) hx hb dM_prepare_55 (by decide) ?_
    refine lv_iadd hx hb dM_prepare_56 ?_
    refine zw_top (nI (zBs n)) (nI_1 _) ?_
    refine zw_put (v := .int (nI (zBs n))) hx hb hT uM hown tM tM_ok nM Z h100 rfl 5 (by decide) (hT _ mf_M_64) (fun _ h9 => h9) rfl rfl rfl (by simp) dM_prepare_57 (fun H locs Z => ?_)
    have Z : zw G ad (va_up (va_up w 100 (some (oM ad (upd (upd (upd (upd F 1 (nI P)) 2 (nI n)) 3 (nI o)) 4 (nI (zHi n)))))) 100 (some (oM ad (upd (upd (upd (upd (upd F 1 (nI P)) 2 (nI n)) 3 (nI o)) 4 (nI (zHi n))) 5 (nI (zBs n)))))) s H locs := Z
    rw [bx_uu] at Z
    have h100 : (va_up w 100 (some (oM ad (upd (upd (upd (upd (upd F 1 (nI P)) 2 (nI n)) 3 (nI o)) 4 (nI (zHi n))) 5 (nI (zBs n)))))) 100 = some (oM ad (upd (upd (upd (upd (upd F 1 (nI P)) 2 (nI n)) 3 (nI o)) 4 (nI (zHi n))) 5 (nI (zBs n)))) := va_up_self _ _ _
    obtain ⟨F1, hF1⟩ : ∃ F1, F1 = (upd (upd (upd (upd (upd F 1 (nI P)) 2 (nI n)) 3 (nI o)) 4 (nI (zHi n))) 5 (nI (zBs n))) := ⟨_, rfl⟩
    have f1 : F1 1 = nI P := by rw [hF1]; rfl
    have f2 : F1 2 = nI n := by rw [hF1]; rfl
    have f3 : F1 3 = nI o := by rw [hF1]; rfl
    have f4 : F1 4 = nI (zHi n) := by rw [hF1]; rfl
    have f5 : F1 5 = nI (zBs n) := by rw [hF1]; rfl
    have ff : ∀ j, ¬ (1 ≤ j ∧ j ≤ 5) → F1 j = F j := fun j hj => by rw [hF1, pk_un (by omega), pk_un (by omega), pk_un (by omega), pk_un (by omega), pk_un (by omega)]
    rw [← hF1] at Z
    clear h100 hF1
    refine lv_iconst (v := 1) hx hb dM_prepare_60 (by decide) ?_
    refine lv_istore (lv' := [(4, .int 1), (0, .ref (ad 100)), (1, .int (nI P)), (2, .int (nI n)), (3, .int (nI o))]) hx hb dM_prepare_61 hl (by decide) rfl (fun ls hl => ?_)
    refine lv_iconst (v := 0) hx hb dM_prepare_63 (by decide) ?_
    refine lv_istore (lv' := [(5, .int 0), (4, .int 1), (0, .ref (ad 100)), (1, .int (nI P)), (2, .int (nI n)), (3, .int (nI o))]) hx hb dM_prepare_64 hl (by decide) rfl (fun ls hl => ?_)
    obtain ⟨w1, hw1⟩ : ∃ w1, w1 = va_up w 100 (some (oM ad F1)) := ⟨_, rfl⟩
    rw [← hw1] at Z
    have k100 : w1 100 = some (oM ad F1) := by rw [hw1]; exact va_up_self _ _ _
    have kk1 : ∀ k, k ≠ 100 → w1 k = w k := fun k hk => by rw [hw1]; exact va_up_ne _ _ hk
    clear hw1
    have after : ∀ (u1 : Nat → Int32) (H : Heap) (locs : List Loc) (ls : Array Slot), (∀ j, j < 4 → u1 j = nI (zun n j)) → zw G ad (va_up w1 104 (some (zi G 4 u1))) s H locs → lv_has ls 7 [(5, .int (nI 4)), (4, .int (nI (zun n 4))), (0, .ref (ad 100)), (1, .int (nI P)), (2, .int (nI n)), (3, .int (nI o))] → W p l e (zR (3)) s m ([.ref (ad 100), .int (nI P), .int (nI n), .int (nI o)] : List Value).toArray below meth c H locs (0) (0) Q (F0 m 106 ls []) := by
      intro u1 H locs ls hu1 Z hl
      have hto4 : zun n 4 = zTo n := by unfold zun zTo; rw [Nat.min_eq_right (by omega)]
      rw [hto4] at hl
      obtain ⟨w2, hw2⟩ : ∃ w2, w2 = va_up w1 104 (some (zi G 4 u1)) := ⟨_, rfl⟩
      rw [← hw2] at Z
      have k100 : w2 100 = some (oM ad F1) := by rw [hw2, va_up_ne _ _ (by decide)]; exact k100
      have k104 : w2 104 = some (zi G 4 u1) := by rw [hw2]; exact va_up_self _ _ _
      have kk2 : ∀ k, k ≠ 100 → k ≠ 104 → w2 k = w k := fun k h1 h2 => by rw [hw2, va_up_ne _ _ h2]; exact kk1 k h1
      clear hw2
      refine lv_aload_n hx hb dM_prepare_106 rfl (lv_at hl 2 rfl) ?_
      refine lv_iconst (v := 0) hx hb dM_prepare_107 (by decide) ?_
      refine zw_put (v := .int 0) hx hb hT uM hown tM tM_ok nM Z k100 rfl 10 (by decide) (hT _ mf_M_67) (fun _ h9 => h9) rfl rfl rfl (by simp) dM_prepare_108 (fun H locs Z => ?_)
      have Z : zw G ad (va_up w2 100 (some (oM ad (upd F1 10 0)))) s H locs := Z
      refine lv_iconst (v := 0) hx hb dM_prepare_111 (by decide) ?_
      refine lv_istore (lv' := [(5, .int 0), (4, .int (nI (zTo n))), (0, .ref (ad 100)), (1, .int (nI P)), (2, .int (nI n)), (3, .int (nI o))]) hx hb dM_prepare_112 hl (by decide) rfl (fun ls hl => ?_)
      have finish : ∀ (wA : Nat → Option va_E) (FA dg ex ys : Nat → Int32) (H : Heap) (locs : List Loc) (ls : Array Slot), wA 100 = some (oM ad FA) → (∀ j, j ≠ 10 → FA j = F1 j) → wA 101 = some (zi G 1296 dg) → wA 102 = some (zi G 5184 ex) → wA 103 = some (zi G 126 ys) → wA 104 = some (zi G 4 u1) → (∀ k, ¬ (100 ≤ k ∧ k ≤ 104) → wA k = w k) → FA 10 = nI (zrl n o (zTo n)).length → (∀ x, x < (zTo n) → zPl n dg ex x) → (∀ j, j < (zrl n o (zTo n)).length → ys j = nI ((zrl n o (zTo n)).getD ((zrl n o (zTo n)).length - 1 - j) 0)) → zw G ad wA s H locs → lv_has ls 7 [(5, .int (nI (zTo n))), (4, .int (nI (zTo n))), (0, .ref (ad 100)), (1, .int (nI P)), (2, .int (nI n)), (3, .int (nI o))] → W p l e (zR (3)) s m ([.ref (ad 100), .int (nI P), .int (nI n), .int (nI o)] : List Value).toArray below meth c H locs (0) (0) Q (F0 m 229 ls []) := by
        intro wA FA dg ex ys H locs ls q100 qF q101 q102 q103 q104 qfr qF10 qpl qys Z hl
        refine lv_iconst (v := 0) hx hb dM_prepare_229 (by decide) ?_
        refine lv_istore (lv' := [(5, .int 0), (4, .int (nI (zTo n))), (0, .ref (ad 100)), (1, .int (nI P)), (2, .int (nI n)), (3, .int (nI o))]) hx hb dM_prepare_230 hl (by decide) rfl (fun ls hl => ?_)
        have q105 : wA 105 = some (zi G 94608 c0) := by rw [qfr 105 (by decide)]; exact h105
        have loopC : ∀ (d i : Nat) (cl : Nat → Int32) (H : Heap) (locs : List Loc) (ls : Array Slot), d + i = 94608 → (∀ j, j < i → cl j = 0) → zw G ad (va_up wA 105 (some (zi G 94608 cl))) s H locs → lv_has ls 7 [(5, .int (nI i)), (4, .int (nI (zTo n))), (0, .ref (ad 100)), (1, .int (nI P)), (2, .int (nI n)), (3, .int (nI o))] → W p l e (zR (3)) s m ([.ref (ad 100), .int (nI P), .int (nI n), .int (nI o)] : List Value).toArray below meth c H locs (0) (0) Q (F0 m 232 ls []) := by
          intro d
          induction d with
          | zero =>
            intro i cl H locs ls hd hcl Z hl
            have r100 : (va_up wA 105 (some (zi G 94608 cl))) 100 = some (oM ad FA) := by rw [va_up_ne _ _ (by decide)]; exact q100
            have r105 : (va_up wA 105 (some (zi G 94608 cl))) 105 = some (zi G 94608 cl) := va_up_self _ _ _
            refine lv_iload hx hb dM_prepare_232 (lv_at hl 0 rfl) ?_
            refine lv_aload_n hx hb dM_prepare_234 rfl (lv_at hl 2 rfl) ?_
            refine zw_get (v := .ref (ad 105)) hx hb hT uM hown Z r100 rfl 11 (by decide) (hT _ mf_M_27) (fun _ h9 => h9) rfl dM_prepare_235 ?_
            refine zw_alen (v := nI 94608) hx hb Z 0 r105 rfl rfl dM_prepare_238 ?_
            refine lv_icmp_ge (tgt := 256) hx hb dM_prepare_239 (by decide) (fun _ => ?_) (fun hc => absurd (show ((nI 94608) : Int32) ≤ (nI i) from nI_le (by omega) (by omega)) hc)
            refine lv_aload_n hx hb dM_prepare_256 rfl (lv_at hl 2 rfl) ?_
            refine lv_iconst (v := 0) hx hb dM_prepare_257 (by decide) ?_
            refine zw_put (v := .int 0) hx hb hT uM hown tM tM_ok nM Z r100 rfl 26 (by decide) (hT _ mf_M_74) (fun _ h9 => h9) rfl rfl rfl (by simp) dM_prepare_258 (fun H locs Z => ?_)
            have Z : zw G ad (va_up (va_up wA 105 (some (zi G 94608 cl))) 100 (some (oM ad (upd FA 26 0)))) s H locs := Z
            have hlen := zrl_len hcfg
            have hmem : ∀ i, i < zCt n → zKy n o i < zTo n := fun i hi => by
              rw [← zrl_get hcfg hi]
              exact zrl_lt _ _ (zgetD_mem (by rw [hlen]; omega))
            have gz : ∀ k, k ≠ 100 → k ≠ 105 → (va_up (va_up wA 105 (some (zi G 94608 cl))) 100 (some (oM ad (upd FA 26 0)))) k = wA k := fun k h1 h2 => by rw [va_up_ne _ _ h1, va_up_ne _ _ h2]
            exact hret _ _ _ _ _ dM_prepare_261 (⟨upd FA 26 0, ⟨va_up_self _ _ _, ⟨(qF 1 (by decide)).trans f1, (qF 2 (by decide)).trans f2, (qF 3 (by decide)).trans f3, (qF 4 (by decide)).trans f4, by show FA 10 = _; rw [qF10, hlen]⟩, ⟨hP1, hP2⟩, hcfg, ⟨dg, by rw [gz _ (by decide) (by decide)]; exact q101, fun i hi => by rw [(qpl _ (hmem i hi)).2.1, zdg0_ok hcfg hi]⟩, ⟨ex, by rw [gz _ (by decide) (by decide)]; exact q102, fun i hi v hv => by rw [(qpl _ (hmem i hi)).2.2 v hv, zdgt_ok hcfg hi hv]⟩, ⟨ys, by rw [gz _ (by decide) (by decide)]; exact q103, fun i hi => by rw [qys i (by rw [hlen]; exact hi), hlen, zrl_get hcfg hi]⟩, ⟨u1, by rw [gz _ (by decide) (by decide)]; exact q104, fun v hv => by
              rw [hu1 v (by omega)]
              unfold zun zWt
              rw [if_pos hv, Nat.min_eq_left (by omega)]
              rfl⟩, cl, by rw [va_up_ne _ _ (by decide), va_up_self], fun t ht i hi => hcl _ (by have := zKy_lt hcfg hi; omega), fun t => zpol_0 n (by omega)⟩, rfl, fun j h1 h2 h3 => by rw [pk_un h3, qF j h2]; exact ff j h1, fun k hk => by rw [gz k (by omega) (by omega)]; exact qfr k (by omega)⟩) Z
          | succ d ih =>
            intro i cl H locs ls hd hcl Z hl
            have r100 : (va_up wA 105 (some (zi G 94608 cl))) 100 = some (oM ad FA) := by rw [va_up_ne _ _ (by decide)]; exact q100
            have r105 : (va_up wA 105 (some (zi G 94608 cl))) 105 = some (zi G 94608 cl) := va_up_self _ _ _
            refine lv_iload hx hb dM_prepare_232 (lv_at hl 0 rfl) ?_
            refine lv_aload_n hx hb dM_prepare_234 rfl (lv_at hl 2 rfl) ?_
            refine zw_get (v := .ref (ad 105)) hx hb hT uM hown Z r100 rfl 11 (by decide) (hT _ mf_M_27) (fun _ h9 => h9) rfl dM_prepare_235 ?_
            refine zw_alen (v := nI 94608) hx hb Z 0 r105 rfl rfl dM_prepare_238 ?_
            refine lv_icmp_ge (tgt := 256) hx hb dM_prepare_239 (by decide) (fun hc => absurd hc (show ¬ (((nI 94608) : Int32) ≤ (nI i)) from nI_ge (by omega) (by omega))) (fun _ => ?_)
            refine lv_aload_n hx hb dM_prepare_242 rfl (lv_at hl 2 rfl) ?_
            refine zw_get (v := .ref (ad 105)) hx hb hT uM hown Z r100 rfl 11 (by decide) (hT _ mf_M_27) (fun _ h9 => h9) rfl dM_prepare_243 ?_
            refine lv_iload hx hb dM_prepare_246 (lv_at hl 0 rfl) ?_
            refine lv_iconst (v := 0) hx hb dM_prepare_248 (by decide) ?_
            refine zw_iast hx hb Z r105 (vin (by omega) (by decide)) dM_prepare_249 (fun H locs Z => ?_)
            rw [ncl (by omega), bx_uu] at Z
            refine lv_iinc (v := (nI (i + 1))) (lv' := [(5, .int (nI (i + 1))), (4, .int (nI (zTo n))), (0, .ref (ad 100)), (1, .int (nI P)), (2, .int (nI n)), (3, .int (nI o))]) hx hb dM_prepare_250 hl (k := 0) rfl (nI_1 i) (by decide) rfl (fun ls hl => ?_)
            refine lv_goto (tgt := 232) hx hb dM_prepare_253 (by decide) ?_
            exact ih (i + 1) (upd cl i 0) _ _ ls (by omega) (fun j hj => by
              by_cases e9 : j = i
              · subst e9; exact pk_us
              · rw [pk_un e9]; exact hcl j (by omega)) Z (lv_sub hl [0, 1, 2, 3, 4, 5] rfl)
        exact loopC 94608 0 c0 _ _ ls (by omega) (fun j hj => absurd hj (Nat.not_lt_zero _)) (by rw [zup_id q105]; exact Z) (lv_sub hl [0, 1, 2, 3, 4, 5] rfl)
      have loopB : ∀ (d i : Nat) (wA : Nat → Option va_E) (FA dg ex ys : Nat → Int32) (H : Heap) (locs : List Loc) (ls : Array Slot), d + i = zTo n → wA 100 = some (oM ad FA) → (∀ j, j ≠ 10 → FA j = F1 j) → wA 101 = some (zi G 1296 dg) → wA 102 = some (zi G 5184 ex) → wA 103 = some (zi G 126 ys) → wA 104 = some (zi G 4 u1) → (∀ k, ¬ (100 ≤ k ∧ k ≤ 104) → wA k = w k) → FA 10 = nI (zrl n o i).length → (∀ x, x < i → zPl n dg ex x) → (∀ j, j < (zrl n o i).length → ys j = nI ((zrl n o i).getD ((zrl n o i).length - 1 - j) 0)) → zw G ad wA s H locs → lv_has ls 7 [(5, .int (nI i)), (4, .int (nI (zTo n))), (0, .ref (ad 100)), (1, .int (nI P)), (2, .int (nI n)), (3, .int (nI o))] → W p l e (zR (3)) s m ([.ref (ad 100), .int (nI P), .int (nI n), .int (nI o)] : List Value).toArray below meth c H locs (0) (0) Q (F0 m 114 ls []) := by
        intro d
        induction d with
        | zero =>
          intro i wA FA dg ex ys H locs ls hd q100 qF q101 q102 q103 q104 qfr qF10 qpl qys Z hl
          have hit : i = zTo n := by omega
          subst hit
          refine lv_iload hx hb dM_prepare_114 (lv_at hl 0 rfl) ?_
          refine lv_iload hx hb dM_prepare_116 (lv_at hl 1 rfl) ?_
          refine lv_icmp_ge (tgt := 229) hx hb dM_prepare_118 (by decide) (fun _ => ?_) (fun hc => absurd (show ((nI (zTo n)) : Int32) ≤ (nI (zTo n)) from nI_le (by omega) (by omega)) hc)
          exact finish wA FA dg ex ys _ _ ls q100 qF q101 q102 q103 q104 qfr qF10 qpl qys Z (lv_sub hl [0, 1, 2, 3, 4, 5] rfl)
        | succ d ih =>
          intro i wA FA dg ex ys H locs ls hd q100 qF q101 q102 q103 q104 qfr qF10 qpl qys Z hl
          have hi : i < 1296 := by omega
          have hR126 := zrl_126 hcfg (i := i + 1) (by omega)
          refine lv_iload hx hb dM_prepare_114 (lv_at hl 0 rfl) ?_
          refine lv_iload hx hb dM_prepare_116 (lv_at hl 1 rfl) ?_
          refine lv_icmp_ge (tgt := 229) hx hb dM_prepare_118 (by decide) (fun hc => absurd hc (show ¬ (((nI (zTo n)) : Int32) ≤ (nI i)) from nI_ge (by omega) (by omega))) (fun _ => ?_)
          refine lv_aload_n hx hb dM_prepare_121 rfl (lv_at hl 2 rfl) ?_
          refine zw_get (v := .ref (ad 101)) hx hb hT uM hown Z q100 rfl 6 (by decide) (hT _ mf_M_13) (fun _ h9 => h9) rfl dM_prepare_122 ?_
          refine lv_iload hx hb dM_prepare_125 (lv_at hl 0 rfl) ?_
          refine lv_iconst (v := 0) hx hb dM_prepare_127 (by decide) ?_
          refine zw_iast hx hb Z q101 (vin (by omega) (by decide)) dM_prepare_128 (fun H locs Z => ?_)
          rw [ncl (by omega)] at Z
          refine lv_iconst (v := 0) hx hb dM_prepare_129 (by decide) ?_
          refine lv_istore (lv' := [(6, .int 0), (5, .int (nI i)), (4, .int (nI (zTo n))), (0, .ref (ad 100)), (1, .int (nI P)), (2, .int (nI n)), (3, .int (nI o))]) hx hb dM_prepare_130 hl (by decide) rfl (fun ls hl => ?_)
          have listed : ∀ (dk xk : Nat → Int32) (H : Heap) (locs : List Loc) (ls : Array Slot), (∀ x, x < i → dk x = dg x) → dk i = nI (zdp n i 4) → (∀ x, x < 4 * i → xk x = ex x) → (∀ v, v < 4 → xk (4 * i + v) = nI (zdgt n i v)) → zw G ad (va_up (va_up wA 101 (some (zi G 1296 dk))) 102 (some (zi G 5184 xk))) s H locs → lv_has ls 7 [(6, .int (nI 4)), (5, .int (nI i)), (4, .int (nI (zTo n))), (0, .ref (ad 100)), (1, .int (nI P)), (2, .int (nI n)), (3, .int (nI o))] → W p l e (zR (3)) s m ([.ref (ad 100), .int (nI P), .int (nI n), .int (nI o)] : List Value).toArray below meth c H locs (0) (0) Q (F0 m 203 ls []) := by
            intro dk xk H locs ls hd1 hd2 hx1 hx2 Z hl
            have r100 : (va_up (va_up wA 101 (some (zi G 1296 dk))) 102 (some (zi G 5184 xk))) 100 = some (oM ad FA) := by rw [va_up_ne _ _ (by decide), va_up_ne _ _ (by decide)]; exact q100
            have r101 : (va_up (va_up wA 101 (some (zi G 1296 dk))) 102 (some (zi G 5184 xk))) 101 = some (zi G 1296 dk) := by rw [va_up_ne _ _ (by decide), va_up_self]
            have r102 : (va_up (va_up wA 101 (some (zi G 1296 dk))) 102 (some (zi G 5184 xk))) 102 = some (zi G 5184 xk) := va_up_self _ _ _
            have r104 : (va_up (va_up wA 101 (some (zi G 1296 dk))) 102 (some (zi G 5184 xk))) 104 = some (zi G 4 u1) := by rw [va_up_ne _ _ (by decide), va_up_ne _ _ (by decide)]; exact q104
            rw [zdp_4] at hd2
            have hdl := zdg0_lt hcfg i
            have hpl : ∀ x, x < i + 1 → zPl n dk xk x := fun x hx9 => by
              by_cases e9 : x = i
              · subst e9
                exact ⟨hi, hd2, hx2⟩
              · have h9 := qpl x (by omega)
                exact ⟨h9.1, by rw [hd1 x (by omega)]; exact h9.2.1, fun v hv => by rw [hx1 _ (by omega)]; exact h9.2.2 v hv⟩
            have r103 : (va_up (va_up wA 101 (some (zi G 1296 dk))) 102 (some (zi G 5184 xk))) 103 = some (zi G 126 ys) := by rw [va_up_ne _ _ (by decide), va_up_ne _ _ (by decide)]; exact q103
            have rfr : ∀ k, ¬ (100 ≤ k ∧ k ≤ 104) → (va_up (va_up wA 101 (some (zi G 1296 dk))) 102 (some (zi G 5184 xk))) k = w k := fun k hk => by rw [va_up_ne _ _ (by omega), va_up_ne _ _ (by omega)]; exact qfr k hk
            refine lv_aload_n hx hb dM_prepare_203 rfl (lv_at hl 3 rfl) ?_
            refine zw_get (v := .ref (ad 101)) hx hb hT uM hown Z r100 rfl 6 (by decide) (hT _ mf_M_13) (fun _ h9 => h9) rfl dM_prepare_204 ?_
            refine lv_iload hx hb dM_prepare_207 (lv_at hl 1 rfl) ?_
            refine zw_iald hx hb Z r101 (vin (by omega) (by decide)) dM_prepare_209 ?_
            refine zw_top (nI (zdg0 n i)) (by rw [ncl (by omega)]; exact hd2) ?_
            refine lv_aload_n hx hb dM_prepare_210 rfl (lv_at hl 3 rfl) ?_
            refine zw_get (v := .int (FA 4)) hx hb hT uM hown Z r100 rfl 4 (by decide) (hT _ mf_M_61) (fun _ h9 => h9) rfl dM_prepare_211 ?_
            refine zw_top (nI (zHi n)) ((qF 4 (by decide)).trans f4) ?_
            refine lv_icmp_gt (tgt := 223) hx hb dM_prepare_214 (by decide) (fun hc9 => ?_) (fun hc9 => ?_)
            · have hgt : ¬ zdg0 n i ≤ zHi n := fun h9 => nI_nlt h9 (by omega) hc9
              have hrl : zrl n o (i + 1) = zrl n o i := if_neg hgt
              refine lv_iinc (v := (nI (i + 1))) (lv' := [(5, .int (nI (i + 1))), (6, .int (nI 4)), (4, .int (nI (zTo n))), (0, .ref (ad 100)), (1, .int (nI P)), (2, .int (nI n)), (3, .int (nI o))]) hx hb dM_prepare_223 hl (k := 1) rfl (nI_1 i) (by decide) rfl (fun ls hl => ?_)
              refine lv_goto (tgt := 114) hx hb dM_prepare_226 (by decide) ?_
              exact ih (i + 1) _ FA dk xk ys _ _ ls (by omega) r100 qF r101 r102 r103 r104 rfr (by rw [hrl]; exact qF10) hpl (by rw [hrl]; exact qys) Z (lv_sub hl [0, 2, 3, 4, 5, 6] rfl)
            · have hle : zdg0 n i ≤ zHi n := Nat.le_of_not_lt (fun h9 => hc9 (nI_lt h9 (by omega)))
              have hrl : zrl n o (i + 1) = zinsr (zgt n o i) i (zrl n o i) := if_pos hle
              have hlen : (zrl n o (i + 1)).length = (zrl n o i).length + 1 := by rw [hrl, zinsr_len]
              refine lv_aload_n hx hb dM_prepare_217 rfl (lv_at hl 3 rfl) ?_
              refine lv_iload hx hb dM_prepare_218 (lv_at hl 1 rfl) ?_
              refine zw_callv (va_runV (As := [.int (nI i)]) (rest := []) ⟨hx, hb, hml, hown, hts⟩ (c_M_list l n o FA dk xk ys hcfg r100 ((qF 2 (by decide)).trans f2) ((qF 3 (by decide)).trans f3) r101 r102 r103 i (zrl n o i) qF10 (by omega) (hpl i (by omega)) (fun x hx9 => hpl x (by have := zrl_lt i x hx9; omega)) qys) (kw_M_list hts ml_M_70 (zR_fit (by omega) (by omega))) (Z.preV r100 rfl _) rfl rfl hl.1 rfl (lv_room (Nat.le_of_ble_eq_true rfl)) dM_prepare_220 ⟨Nat.le_of_ble_eq_true rfl, Nat.le_of_ble_eq_true rfl⟩) Z (fun w9 H locs hp Z => ?_)
              obtain ⟨ys', hw9, hys'⟩ := hp
              subst hw9
              refine lv_iinc (v := (nI (i + 1))) (lv' := [(5, .int (nI (i + 1))), (6, .int (nI 4)), (4, .int (nI (zTo n))), (0, .ref (ad 100)), (1, .int (nI P)), (2, .int (nI n)), (3, .int (nI o))]) hx hb dM_prepare_223 hl (k := 1) rfl (nI_1 i) (by decide) rfl (fun ls hl => ?_)
              refine lv_goto (tgt := 114) hx hb dM_prepare_226 (by decide) ?_
              exact ih (i + 1) _ (upd FA 10 (nI ((zrl n o i).length + 1))) dk xk ys' _ _ ls (by omega) (va_up_self _ _ _) (fun j hj => by rw [pk_un hj]; exact qF j hj) (by rw [va_up_ne _ _ (by decide), va_up_ne _ _ (by decide)]; exact r101) (by rw [va_up_ne _ _ (by decide), va_up_ne _ _ (by decide)]; exact r102) (by rw [va_up_ne _ _ (by decide)]; exact va_up_self _ _ _) (by rw [va_up_ne _ _ (by decide), va_up_ne _ _ (by decide)]; exact r104) (fun k hk => by rw [va_up_ne _ _ (by omega), va_up_ne _ _ (by omega)]; exact rfr k hk) (by rw [hlen]; rfl) hpl (fun j hj => by rw [hlen] at hj ⊢; rw [hys' j hj, hrl]; congr 2) Z (lv_sub hl [0, 2, 3, 4, 5, 6] rfl)
          have inner : ∀ (d9 k : Nat) (dk xk : Nat → Int32) (H : Heap) (locs : List Loc) (ls : Array Slot), d9 + k = 4 → (∀ x, x < i → dk x = dg x) → dk i = nI (zdp n i k) → (∀ x, x < 4 * i → xk x = ex x) → (∀ v, v < k → xk (4 * i + v) = nI (zdgt n i v)) → zw G ad (va_up (va_up wA 101 (some (zi G 1296 dk))) 102 (some (zi G 5184 xk))) s H locs → lv_has ls 7 [(6, .int (nI k)), (5, .int (nI i)), (4, .int (nI (zTo n))), (0, .ref (ad 100)), (1, .int (nI P)), (2, .int (nI n)), (3, .int (nI o))] → W p l e (zR (3)) s m ([.ref (ad 100), .int (nI P), .int (nI n), .int (nI o)] : List Value).toArray below meth c H locs (0) (0) Q (F0 m 132 ls []) := by
            intro d9
            induction d9 with
            | zero =>
              intro k dk xk H locs ls hk hd1 hd2 hx1 hx2 Z hl
              have hk4 : k = 4 := by omega
              subst hk4
              refine lv_iload hx hb dM_prepare_132 (lv_at hl 0 rfl) ?_
              refine lv_iconst (v := 4) hx hb dM_prepare_134 (by decide) ?_
              refine lv_icmp_ge (tgt := 203) hx hb dM_prepare_135 (by decide) (fun _ => ?_) (fun hc => absurd (show (4 : Int32) ≤ (nI 4) from by decide) hc)
              exact listed dk xk _ _ ls hd1 hd2 hx1 hx2 Z (lv_sub hl [0, 1, 2, 3, 4, 5, 6] rfl)
            | succ d9 ih9 =>
              intro k dk xk H locs ls hk hd1 hd2 hx1 hx2 Z hl
              have r100 : (va_up (va_up wA 101 (some (zi G 1296 dk))) 102 (some (zi G 5184 xk))) 100 = some (oM ad FA) := by rw [va_up_ne _ _ (by decide), va_up_ne _ _ (by decide)]; exact q100
              have r101 : (va_up (va_up wA 101 (some (zi G 1296 dk))) 102 (some (zi G 5184 xk))) 101 = some (zi G 1296 dk) := by rw [va_up_ne _ _ (by decide), va_up_self]
              have r102 : (va_up (va_up wA 101 (some (zi G 1296 dk))) 102 (some (zi G 5184 xk))) 102 = some (zi G 5184 xk) := va_up_self _ _ _
              have r104 : (va_up (va_up wA 101 (some (zi G 1296 dk))) 102 (some (zi G 5184 xk))) 104 = some (zi G 4 u1) := by rw [va_up_ne _ _ (by decide), va_up_ne _ _ (by decide)]; exact q104
              have hunl := zun_le (k := k) hcfg
              have hd30 := zdgt_31 hcfg i k
              have hdp := zdp_le hcfg i k
              have hbs : 0 < zBs n ∧ zBs n ≤ 31 := ⟨Nat.succ_pos _, by unfold zBs; omega⟩
              refine lv_iload hx hb dM_prepare_132 (lv_at hl 0 rfl) ?_
              refine lv_iconst (v := 4) hx hb dM_prepare_134 (by decide) ?_
              refine lv_icmp_ge (tgt := 203) hx hb dM_prepare_135 (by decide) (fun hc => absurd hc (show ¬ ((4 : Int32) ≤ (nI k)) from nI_ge (b := 4) (by omega) (by decide))) (fun _ => ?_)
              refine lv_aload_n hx hb dM_prepare_138 rfl (lv_at hl 3 rfl) ?_
              refine zw_get (v := .ref (ad 102)) hx hb hT uM hown Z r100 rfl 7 (by decide) (hT _ mf_M_17) (fun _ h9 => h9) rfl dM_prepare_139 ?_
              refine lv_iconst (v := 4) hx hb dM_prepare_142 (by decide) ?_
              refine lv_iload hx hb dM_prepare_143 (lv_at hl 1 rfl) ?_
              refine lv_imul hx hb dM_prepare_145 ?_
              refine zw_top (nI (4 * i)) (pk_mul 4 i) ?_
              refine lv_iload hx hb dM_prepare_146 (lv_at hl 0 rfl) ?_
              refine lv_iadd hx hb dM_prepare_148 ?_
              refine zw_top (nI (4 * i + k)) (nI_add _ _) ?_
              refine lv_iload hx hb dM_prepare_149 (lv_at hl 0 rfl) ?_
              refine lv_iload_n hx hb dM_prepare_151 rfl (lv_at hl 5 rfl) ?_
              have store : W p l e (zR (3)) s m ([.ref (ad 100), .int (nI P), .int (nI n), .int (nI o)] : List Value).toArray below meth c H locs (0) (0) Q (F0 m 174 ls [.int (nI (zdgt n i k)), .int (nI (4 * i + k)), .ref (ad 102)]) := by
                refine zw_iast hx hb Z r102 (vin (by omega) (by decide)) dM_prepare_174 (fun H locs Z => ?_)
                rw [ncl (by omega), bx_uu] at Z
                have Z : zw G ad (va_up (va_up wA 101 (some (zi G 1296 dk))) 102 (some (zi G 5184 (upd xk (4 * i + k) (nI (zdgt n i k)))))) s H locs := Z
                have r100 : (va_up (va_up wA 101 (some (zi G 1296 dk))) 102 (some (zi G 5184 (upd xk (4 * i + k) (nI (zdgt n i k)))))) 100 = some (oM ad FA) := by rw [va_up_ne _ _ (by decide), va_up_ne _ _ (by decide)]; exact q100
                have r101 : (va_up (va_up wA 101 (some (zi G 1296 dk))) 102 (some (zi G 5184 (upd xk (4 * i + k) (nI (zdgt n i k)))))) 101 = some (zi G 1296 dk) := by rw [va_up_ne _ _ (by decide), va_up_self]
                have r102 : (va_up (va_up wA 101 (some (zi G 1296 dk))) 102 (some (zi G 5184 (upd xk (4 * i + k) (nI (zdgt n i k)))))) 102 = some (zi G 5184 (upd xk (4 * i + k) (nI (zdgt n i k)))) := va_up_self _ _ _
                refine lv_aload_n hx hb dM_prepare_175 rfl (lv_at hl 3 rfl) ?_
                refine zw_get (v := .ref (ad 101)) hx hb hT uM hown Z r100 rfl 6 (by decide) (hT _ mf_M_13) (fun _ h9 => h9) rfl dM_prepare_176 ?_
                refine lv_iload hx hb dM_prepare_179 (lv_at hl 1 rfl) ?_
                refine lv_dup2_11 hx hb dM_prepare_181 rfl rfl ?_
                refine zw_iald hx hb Z r101 (vin (by omega) (by decide)) dM_prepare_182 ?_
                refine zw_top (nI (zdp n i k)) (by rw [ncl (by omega)]; exact hd2) ?_
                refine lv_aload_n hx hb dM_prepare_183 rfl (lv_at hl 3 rfl) ?_
                refine zw_get (v := .ref (ad 102)) hx hb hT uM hown Z r100 rfl 7 (by decide) (hT _ mf_M_17) (fun _ h9 => h9) rfl dM_prepare_184 ?_
                refine lv_iconst (v := 4) hx hb dM_prepare_187 (by decide) ?_
                refine lv_iload hx hb dM_prepare_188 (lv_at hl 1 rfl) ?_
                refine lv_imul hx hb dM_prepare_190 ?_
                refine zw_top (nI (4 * i)) (pk_mul 4 i) ?_
                refine lv_iload hx hb dM_prepare_191 (lv_at hl 0 rfl) ?_
                refine lv_iadd hx hb dM_prepare_193 ?_
                refine zw_top (nI (4 * i + k)) (nI_add _ _) ?_
                refine zw_iald hx hb Z r102 (vin (by omega) (by decide)) dM_prepare_194 ?_
                refine zw_top (nI (zdgt n i k)) (by rw [ncl (by omega)]; exact pk_us) ?_
                refine lv_iadd hx hb dM_prepare_195 ?_
                refine zw_top (nI (zdp n i (k + 1))) (nI_add _ _) ?_
                refine zw_iast hx hb Z r101 (vin (by omega) (by decide)) dM_prepare_196 (fun H locs Z => ?_)
                rw [ncl (by omega), zup_comm (a := 102) (b := 101) (by decide), bx_uu] at Z
                refine lv_iinc (v := (nI (k + 1))) (lv' := [(6, .int (nI (k + 1))), (5, .int (nI i)), (4, .int (nI (zTo n))), (0, .ref (ad 100)), (1, .int (nI P)), (2, .int (nI n)), (3, .int (nI o))]) hx hb dM_prepare_197 hl (k := 0) rfl (nI_1 k) (by decide) rfl (fun ls hl => ?_)
                refine lv_goto (tgt := 132) hx hb dM_prepare_200 (by decide) ?_
                exact ih9 (k + 1) (upd dk i (nI (zdp n i (k + 1)))) (upd xk (4 * i + k) (nI (zdgt n i k))) _ _ ls (by omega) (fun x hx9 => by rw [pk_un (by omega)]; exact hd1 x hx9) pk_us (fun x hx9 => by rw [pk_un (by omega)]; exact hx1 x hx9) (fun v hv => by
                  by_cases e9 : v = k
                  · subst e9; exact pk_us
                  · rw [pk_un (by omega)]; exact hx2 v (by omega)) Z (lv_sub hl [0, 1, 2, 3, 4, 5, 6] rfl)
              refine lv_icmp_ge (tgt := 173) hx hb dM_prepare_152 (by decide) (fun hc8 => ?_) (fun hc8 => ?_)
              · have hz9 : zdgt n i k = 0 := if_neg (fun h9 => nI_ge h9 (by omega) hc8)
                refine lv_iconst (v := 0) hx hb dM_prepare_173 (by decide) ?_
                exact (by rw [hz9] at store; exact store)
              · have hkn : k < n := Nat.lt_of_not_le (fun h9 => hc8 (nI_le h9 (by omega)))
                have hdv : i / zun n k < 2 ^ 31 := Nat.lt_of_le_of_lt (Nat.div_le_self _ _) (by omega)
                have hz9 : zdgt n i k = i / zun n k % zBs n := by unfold zdgt zun; rw [if_pos hkn, Nat.min_eq_left (by omega)]
                refine lv_iload hx hb dM_prepare_155 (lv_at hl 1 rfl) ?_
                refine lv_aload_n hx hb dM_prepare_157 rfl (lv_at hl 3 rfl) ?_
                refine zw_get (v := .ref (ad 104)) hx hb hT uM hown Z r100 rfl 9 (by decide) (hT _ mf_M_23) (fun _ h9 => h9) rfl dM_prepare_158 ?_
                refine lv_iload hx hb dM_prepare_161 (lv_at hl 0 rfl) ?_
                refine zw_iald hx hb Z r104 (vin (by omega) (by decide)) dM_prepare_163 ?_
                refine zw_top (nI (zun n k)) (by rw [ncl (by omega)]; exact hu1 k (by omega)) ?_
                refine lv_idiv hx hb dM_prepare_164 (nI_ne0 hunl.1 (by omega)) ?_
                refine zw_top (nI (i / zun n k)) (pk_div (by omega) hunl.1 (by omega)) ?_
                refine lv_aload_n hx hb dM_prepare_165 rfl (lv_at hl 3 rfl) ?_
                refine zw_get (v := .int (FA 5)) hx hb hT uM hown Z r100 rfl 5 (by decide) (hT _ mf_M_64) (fun _ h9 => h9) rfl dM_prepare_166 ?_
                refine zw_top (nI (zBs n)) ((qF 5 (by decide)).trans f5) ?_
                refine lv_irem hx hb dM_prepare_169 (nI_ne0 hbs.1 (by omega)) ?_
                refine zw_top (nI (i / zun n k % zBs n)) (pk_rem hdv hbs.1 (by omega)) ?_
                refine lv_goto (tgt := 174) hx hb dM_prepare_170 (by decide) ?_
                exact (by rw [hz9] at store; exact store)
          exact inner 4 0 (upd dg i 0) ex _ _ ls (by omega) (fun x hx9 => pk_un (by omega)) pk_us (fun x _ => rfl) (fun v hv => absurd hv (Nat.not_lt_zero _)) (by rw [zup_id (show (va_up wA 101 (some (zi G 1296 (upd dg i 0)))) 102 = some (zi G 5184 ex) from by rw [va_up_ne _ _ (by decide)]; exact q102)]; exact Z) (lv_sub hl [0, 1, 2, 3, 4, 5, 6] rfl)
      exact loopB (zTo n) 0 _ (upd F1 10 0) d0 x0 y0 _ _ ls (by omega) (va_up_self _ _ _) (fun j hj => pk_un hj) (by rw [va_up_ne _ _ (by decide), kk2 _ (by decide) (by decide)]; exact h101) (by rw [va_up_ne _ _ (by decide), kk2 _ (by decide) (by decide)]; exact h102) (by rw [va_up_ne _ _ (by decide), kk2 _ (by decide) (by decide)]; exact h103) (by rw [va_up_ne _ _ (by decide)]; exact k104) (fun k hk => by rw [va_up_ne _ _ (by omega)]; exact kk2 k (by omega) (by omega)) rfl (fun x hx9 => absurd hx9 (Nat.not_lt_zero _)) (fun j hj => absurd hj (Nat.not_lt_zero _)) Z (lv_sub hl [0, 1, 2, 3, 4, 5] rfl)
    have loopA : ∀ (d k : Nat) (u1 : Nat → Int32) (H : Heap) (locs : List Loc) (ls : Array Slot), d + k = 4 → (∀ j, j < k → u1 j = nI (zun n j)) → zw G ad (va_up w1 104 (some (zi G 4 u1))) s H locs → lv_has ls 7 [(5, .int (nI k)), (4, .int (nI (zun n k))), (0, .ref (ad 100)), (1, .int (nI P)), (2, .int (nI n)), (3, .int (nI o))] → W p l e (zR (3)) s m ([.ref (ad 100), .int (nI P), .int (nI n), .int (nI o)] : List Value).toArray below meth c H locs (0) (0) Q (F0 m 66 ls []) := by
      intro d
      induction d with
      | zero =>
        intro k u1 H locs ls hd hu Z hl
        have hk4 : k = 4 := by omega
        subst hk4
        refine lv_iload hx hb dM_prepare_66 (lv_at hl 0 rfl) ?_
        refine lv_iconst (v := 4) hx hb dM_prepare_68 (by decide) ?_
        refine lv_icmp_ge (tgt := 106) hx hb dM_prepare_69 (by decide) (fun _ => ?_) (fun hc => absurd (show (4 : Int32) ≤ (nI 4) from by decide) hc)
        exact after u1 _ _ ls hu Z (lv_sub hl [0, 1, 2, 3, 4, 5] rfl)
      | succ d ih =>
        intro k u1 H locs ls hd hu Z hl
        have r100 : (va_up w1 104 (some (zi G 4 u1))) 100 = some (oM ad F1) := by rw [va_up_ne _ _ (by decide)]; exact k100
        have r104 : (va_up w1 104 (some (zi G 4 u1))) 104 = some (zi G 4 u1) := va_up_self _ _ _
        have hunl := zun_le (k := k) hcfg
        have huns := zun_s (n := n) (k := k)
        refine lv_iload hx hb dM_prepare_66 (lv_at hl 0 rfl) ?_
        refine lv_iconst (v := 4) hx hb dM_prepare_68 (by decide) ?_
        refine lv_icmp_ge (tgt := 106) hx hb dM_prepare_69 (by decide) (fun hc => absurd hc (show ¬ ((4 : Int32) ≤ (nI k)) from nI_ge (b := 4) (by omega) (by decide))) (fun _ => ?_)
        refine lv_aload_n hx hb dM_prepare_72 rfl (lv_at hl 2 rfl) ?_
        refine zw_get (v := .ref (ad 104)) hx hb hT uM hown Z r100 rfl 9 (by decide) (hT _ mf_M_23) (fun _ h9 => h9) rfl dM_prepare_73 ?_
        refine lv_iload hx hb dM_prepare_76 (lv_at hl 0 rfl) ?_
        refine lv_iload hx hb dM_prepare_78 (lv_at hl 1 rfl) ?_
        refine zw_iast hx hb Z r104 (vin (by omega) (by decide)) dM_prepare_80 (fun H locs Z => ?_)
        rw [ncl (by omega), bx_uu] at Z
        have r100 : (va_up w1 104 (some (zi G 4 (upd u1 k (nI (zun n k)))))) 100 = some (oM ad F1) := by rw [va_up_ne _ _ (by decide)]; exact k100
        refine lv_iload hx hb dM_prepare_81 (lv_at hl 1 rfl) ?_
        refine lv_iload hx hb dM_prepare_83 (lv_at hl 0 rfl) ?_
        refine lv_iload_n hx hb dM_prepare_85 rfl (lv_at hl 4 rfl) ?_
        refine lv_icmp_ge (tgt := 96) hx hb dM_prepare_86 (by decide) (fun hc8 => ?_) (fun hc8 => ?_)
        · have hkn : ¬ k < n := fun h9 => nI_ge h9 (by omega) hc8
          refine lv_iconst (v := 1) hx hb dM_prepare_96 (by decide) ?_
          refine lv_imul hx hb dM_prepare_97 ?_
          refine zw_top (nI (zun n (k + 1))) (by rw [huns, if_neg hkn]; exact pk_mul _ 1) ?_
          refine lv_istore (lv' := [(4, .int (nI (zun n (k + 1)))), (5, .int (nI k)), (0, .ref (ad 100)), (1, .int (nI P)), (2, .int (nI n)), (3, .int (nI o))]) hx hb dM_prepare_98 hl (by decide) rfl (fun ls hl => ?_)
          refine lv_iinc (v := (nI (k + 1))) (lv' := [(5, .int (nI (k + 1))), (4, .int (nI (zun n (k + 1)))), (0, .ref (ad 100)), (1, .int (nI P)), (2, .int (nI n)), (3, .int (nI o))]) hx hb dM_prepare_100 hl (k := 1) rfl (nI_1 k) (by decide) rfl (fun ls hl => ?_)
          refine lv_goto (tgt := 66) hx hb dM_prepare_103 (by decide) ?_
          exact ih (k + 1) (upd u1 k (nI (zun n k))) _ _ ls (by omega) (fun j hj => by
            by_cases e9 : j = k
            · subst e9; exact pk_us
            · rw [pk_un e9]; exact hu j (by omega)) Z (lv_sub hl [0, 1, 2, 3, 4, 5] rfl)
        · have hkn : k < n := Nat.lt_of_not_le (fun h9 => hc8 (nI_le h9 (by omega)))
          refine lv_aload_n hx hb dM_prepare_89 rfl (lv_at hl 2 rfl) ?_
          refine zw_get (v := .int (F1 5)) hx hb hT uM hown Z r100 rfl 5 (by decide) (hT _ mf_M_64) (fun _ h9 => h9) rfl dM_prepare_90 ?_
          refine zw_top (nI (zBs n)) (f5) ?_
          refine lv_goto (tgt := 97) hx hb dM_prepare_93 (by decide) ?_
          refine lv_imul hx hb dM_prepare_97 ?_
          refine zw_top (nI (zun n (k + 1))) (by rw [huns, if_pos hkn]; exact pk_mul _ _) ?_
          refine lv_istore (lv' := [(4, .int (nI (zun n (k + 1)))), (5, .int (nI k)), (0, .ref (ad 100)), (1, .int (nI P)), (2, .int (nI n)), (3, .int (nI o))]) hx hb dM_prepare_98 hl (by decide) rfl (fun ls hl => ?_)
          refine lv_iinc (v := (nI (k + 1))) (lv' := [(5, .int (nI (k + 1))), (4, .int (nI (zun n (k + 1)))), (0, .ref (ad 100)), (1, .int (nI P)), (2, .int (nI n)), (3, .int (nI o))]) hx hb dM_prepare_100 hl (k := 1) rfl (nI_1 k) (by decide) rfl (fun ls hl => ?_)
          refine lv_goto (tgt := 66) hx hb dM_prepare_103 (by decide) ?_
          exact ih (k + 1) (upd u1 k (nI (zun n k))) _ _ ls (by omega) (fun j hj => by
            by_cases e9 : j = k
            · subst e9; exact pk_us
            · rw [pk_un e9]; exact hu j (by omega)) Z (lv_sub hl [0, 1, 2, 3, 4, 5] rfl)
    exact loopA 4 0 u0 _ _ ls (by omega) (fun j hj => absurd hj (Nat.not_lt_zero _)) (by rw [zup_id (show w1 104 = some (zi G 4 u0) from by rw [kk1 _ (by decide)]; exact h104)]; exact Z) (lv_sub hl [0, 1, 2, 3, 4, 5] rfl)
  refine lv_icmp_ne (tgt := 26) hx hb dM_prepare_18 (by decide) (fun hc => ?_) (fun hc => ?_)
  · have e1 : n ≠ 1 := fun h9 => hc (by rw [h9]; rfl)
    refine lv_iload_n hx hb dM_prepare_26 rfl (lv_at hl 2 rfl) ?_
    refine lv_iconst (v := 2) hx hb dM_prepare_27 (by decide) ?_
    refine lv_icmp_ne (tgt := 36) hx hb dM_prepare_28 (by decide) (fun hc2 => ?_) (fun hc2 => ?_)
    · have e2 : n ≠ 2 := fun h9 => hc2 (by rw [h9]; rfl)
      refine lv_iload_n hx hb dM_prepare_36 rfl (lv_at hl 2 rfl) ?_
      refine lv_iconst (v := 3) hx hb dM_prepare_37 (by decide) ?_
      refine lv_icmp_ne (tgt := 46) hx hb dM_prepare_38 (by decide) (fun hc3 => ?_) (fun hc3 => ?_)
      · have e3 : n ≠ 3 := fun h9 => hc3 (by rw [h9]; rfl)
        refine lv_iconst (v := 5) hx hb dM_prepare_46 (by decide) ?_
        exact (by rw [show zHi n = 5 from by rw [show n = 4 by omega]; rfl] at cont; exact cont)
      · refine lv_bipush (v := 7) hx hb dM_prepare_41 (by decide) ?_
        refine lv_goto (tgt := 47) hx hb dM_prepare_43 (by decide) ?_
        exact (by rw [show zHi n = 7 from by rw [(nI_eq (b := 3) (by omega) (by decide)).mp hc3]; rfl] at cont; exact cont)
    · refine lv_bipush (v := 12) hx hb dM_prepare_31 (by decide) ?_
      refine lv_goto (tgt := 47) hx hb dM_prepare_33 (by decide) ?_
      exact (by rw [show zHi n = 12 from by rw [(nI_eq (b := 2) (by omega) (by decide)).mp hc2]; rfl] at cont; exact cont)
  · refine lv_bipush (v := 30) hx hb dM_prepare_21 (by decide) ?_
    refine lv_goto (tgt := 47) hx hb dM_prepare_23 (by decide) ?_
    exact (by rw [show zHi n = 30 from by rw [(nI_eq (b := 1) (by omega) (by decide)).mp hc]; rfl] at cont; exact cont)
