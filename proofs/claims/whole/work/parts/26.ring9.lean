set_option maxHeartbeats 4000000 in
set_option maxRecDepth 100000 in
theorem c_R_prepare (l : Launch) {G : zG} {ad : Nat → Nat} {w : Nat → Option va_E} (P n o : Nat) (hX : ∀ U H, G.2.2.2 U H → zHIGH G U H) (hS9 : zShp G ad w) (hP1 : 2 ≤ P) (hP2 : P ≤ 32003) (hcfg : zCfg n o) : Met l yR_prepare wR_prepare (zR (n + 3)) (va_Pc [.ref (ad 1), .int (nI P), .int (nI n), .int (nI o)] (zw_U G ad w)) (va_Qv (S := Nat → Option va_E) (fun w' => (∃ F' : Nat → Int32, zRing G ad w' P n o F') ∧ zfrp w w') (fun u t => zw_U G ((fun _ => ad) u) ((fun w' => w') u) t) (zA G)) 0 0 (zA G) := by
  refine zw_methv (S := Nat → Option va_E) (fa := fun _ => ad) (fw := fun w' => w') (by decide) rfl (Nat.le_of_ble_eq_true rfl) ?_
  intro p e s m below meth c Q ls C hname Z hl hret
  obtain ⟨hx, hb, hml, hown, hts, hlk⟩ := C
  have hT : ∀ w ∈ zT, w.before ([.ref (ad 1), .int (nI P), .int (nI n), .int (nI o)] : List Value).toArray s = true := fun w h => hts w (List.mem_cons_of_mem _ h)
  have hown : s.vm.findClass "PolynomialDesk$Ring" = some m.cls := hown
  have hl : lv_has ls 6 [(0, .ref (ad 1)), (1, .int (nI P)), (2, .int (nI n)), (3, .int (nI o))] := hl
  obtain ⟨⟨F, h1⟩, h4, ⟨ex, hex⟩, ⟨dg, h5⟩, ⟨ky, h6⟩, ⟨wt, h7⟩, ⟨ix, h8⟩, ⟨c9, h9⟩⟩ := hS9
  have hn4 := hcfg.2.1
  have hn1 := hcfg.1
  have ho1 := hcfg.2.2
  have hhi := zHi_le (n := n)
  refine lv_iload_n hx hb dR_prepare_0 rfl (lv_at hl 1 rfl) ?_
  refine lv_iconst (v := 2) hx hb dR_prepare_1 (by decide) ?_
  refine lv_icmp_lt (tgt := 15) hx hb dR_prepare_2 (by decide) (fun hc => absurd hc (show ¬ ((nI P) < 2) from nI_nlt (b := 2) hP1 (by omega))) (fun _ => ?_)
  refine lv_iload_n hx hb dR_prepare_5 rfl (lv_at hl 2 rfl) ?_
  refine lv_iconst (v := 1) hx hb dR_prepare_6 (by decide) ?_
  refine lv_icmp_lt (tgt := 15) hx hb dR_prepare_7 (by decide) (fun hc => absurd hc (show ¬ ((nI n) < 1) from nI_nlt (b := 1) hn1 (by omega))) (fun _ => ?_)
  refine lv_iload_n hx hb dR_prepare_10 rfl (lv_at hl 2 rfl) ?_
  refine lv_iconst (v := 4) hx hb dR_prepare_11 (by decide) ?_
  refine lv_icmp_le (tgt := 16) hx hb dR_prepare_12 (by decide) (fun _ => ?_) (fun hc => absurd (show (nI n) ≤ 4 from nI_le (b := 4) hn4 (by decide)) hc)
  refine lv_aload_n hx hb dR_prepare_16 rfl (lv_at hl 0 rfl) ?_
  refine lv_iload_n hx hb dR_prepare_17 rfl (lv_at hl 1 rfl) ?_
  refine zw_put (v := .int (nI P)) hx hb hT uR hown tR tR_ok nR Z h1 rfl 0 (by decide) (hT _ mf_R_38) (fun _ h9 => h9) rfl rfl rfl (by simp) dR_prepare_18 (fun H locs Z => ?_)
  have Z : zw G ad (va_up (w) 1 (some (oR ad (upd F 0 ((nI P)))))) s H locs := Z
  refine lv_aload_n hx hb dR_prepare_21 rfl (lv_at hl 0 rfl) ?_
  refine lv_iload_n hx hb dR_prepare_22 rfl (lv_at hl 2 rfl) ?_
  refine zw_put (v := .int (nI n)) hx hb hT uR hown tR tR_ok nR Z (va_up_self _ _ _) rfl 1 (by decide) (hT _ mf_R_42) (fun _ h9 => h9) rfl rfl rfl (by simp) dR_prepare_23 (fun H locs Z => ?_)
  have Z : zw G ad (va_up (va_up w 1 (some (oR ad (upd F 0 ((nI P)))))) 1 (some (oR ad (upd (upd F 0 ((nI P))) 1 ((nI n)))))) s H locs := Z
  rw [bx_uu] at Z
  refine lv_aload_n hx hb dR_prepare_26 rfl (lv_at hl 0 rfl) ?_
  refine lv_iload_n hx hb dR_prepare_27 rfl (lv_at hl 3 rfl) ?_
  refine zw_put (v := .int (nI o)) hx hb hT uR hown tR tR_ok nR Z (va_up_self _ _ _) rfl 2 (by decide) (hT _ mf_R_45) (fun _ h9 => h9) rfl rfl rfl (by simp) dR_prepare_28 (fun H locs Z => ?_)
  have Z : zw G ad (va_up (va_up w 1 (some (oR ad (upd (upd F 0 ((nI P))) 1 ((nI n)))))) 1 (some (oR ad (upd (upd (upd F 0 ((nI P))) 1 ((nI n))) 2 ((nI o)))))) s H locs := Z
  rw [bx_uu] at Z
  refine lv_aload_n hx hb dR_prepare_31 rfl (lv_at hl 0 rfl) ?_
  obtain ⟨tt, hZ9, hT9⟩ := hX s s.heap Z.2.2.2.2.2
  refine va_gets hx hb hZ9 Z.2.2.1 hown (hT _ mf_R_48) (fun _ h9 => h9) dR_prepare_32 ?_
  refine lv_iload_n hx hb dR_prepare_35 rfl (lv_at hl 2 rfl) ?_
  refine lv_iconst (v := 1) hx hb dR_prepare_36 (by decide) ?_
  refine lv_isub hx hb dR_prepare_37 ?_
  refine zw_top (nI (n - 1)) (pk_sub (b := 1) hn1) ?_
  refine va_ti (v := .int (nI (zHi n))) hx hb hT9 Z.2.2.1 (vin (by omega) (by decide)) (by
    rw [ncl (by omega)]
    have hn : n = 1 ∨ n = 2 ∨ n = 3 ∨ n = 4 := by omega
    rcases hn with rfl | rfl | rfl | rfl <;> rfl) dR_prepare_38 ?_
  refine zw_put (v := .int (nI (zHi n))) hx hb hT uR hown tR tR_ok nR Z (va_up_self _ _ _) rfl 3 (by decide) (hT _ mf_R_51) (fun _ h9 => h9) rfl rfl rfl (by simp) dR_prepare_39 (fun H locs Z => ?_)
  have Z : zw G ad (va_up (va_up w 1 (some (oR ad (upd (upd (upd F 0 ((nI P))) 1 ((nI n))) 2 ((nI o)))))) 1 (some (oR ad (upd (upd (upd (upd F 0 ((nI P))) 1 ((nI n))) 2 ((nI o))) 3 ((nI (zHi n))))))) s H locs := Z
  rw [bx_uu] at Z
  refine lv_aload_n hx hb dR_prepare_42 rfl (lv_at hl 0 rfl) ?_
  refine lv_iconst (v := 0) hx hb dR_prepare_43 (by decide) ?_
  refine zw_put (v := .int 0) hx hb hT uR hown tR tR_ok nR Z (va_up_self _ _ _) rfl 4 (by decide) (hT _ mf_R_54) (fun _ h9 => h9) rfl rfl rfl (by simp) dR_prepare_44 (fun H locs Z => ?_)
  have Z : zw G ad (va_up (va_up w 1 (some (oR ad (upd (upd (upd (upd F 0 ((nI P))) 1 ((nI n))) 2 ((nI o))) 3 ((nI (zHi n))))))) 1 (some (oR ad (upd (upd (upd (upd (upd F 0 ((nI P))) 1 ((nI n))) 2 ((nI o))) 3 ((nI (zHi n)))) 4 (0))))) s H locs := Z
  rw [bx_uu] at Z
  obtain ⟨F5, hF5⟩ : ∃ F5, F5 = (upd (upd (upd (upd (upd F 0 ((nI P))) 1 ((nI n))) 2 ((nI o))) 3 ((nI (zHi n)))) 4 (0)) := ⟨_, rfl⟩
  rw [← hF5] at Z
  have hF : F5 0 = nI P ∧ F5 1 = nI n ∧ F5 2 = nI o ∧ F5 3 = nI (zHi n) ∧ F5 4 = nI 0 := by rw [hF5]; exact ⟨rfl, rfl, rfl, rfl, rfl⟩
  obtain ⟨hF0, hF1, hF2, hF3, hF4⟩ := hF
  clear hF5
  refine lv_aload_n hx hb dR_prepare_47 rfl (lv_at hl 0 rfl) ?_
  refine zw_get (v := .ref (ad 8)) hx hb hT uR hown Z (va_up_self _ _ _) rfl 9 (by decide) (hT _ mf_R_26) (fun _ h9 => h9) rfl dR_prepare_48 ?_
  refine lv_iconst (v := (-1)) hx hb dR_prepare_51 (by decide) ?_
  refine zw_callv (va_runS (As := [.ref (ad 8), .int (-1)]) (rest := []) ⟨hx, hb, hml, hown, hts⟩ (c_J_fill l 8 1296 ix (-1) (show (va_up w 1 (some (oR ad F5))) 8 = _ by rw [va_up_ne _ _ (by decide)]; exact h8) (by decide)) (kw_J_fill hts ml_R_57 (zR_fit (by omega) (by omega))) (Z.preS _) rfl rfl hl.1 rfl (lv_room (Nat.le_of_ble_eq_true rfl)) dR_prepare_52 ⟨Nat.le_of_ble_eq_true rfl, Nat.le_of_ble_eq_true rfl⟩) Z (fun w1 H locs hp Z => ?_)
  subst hp
  have q1 : (va_up (va_up w 1 (some (oR ad F5))) 8 (some (zi G 1296 (fun _ => -1)))) 1 = some (oR ad F5) := by rw [va_up_ne _ _ (by decide), va_up_self]
  refine lv_aload_n hx hb dR_prepare_55 rfl (lv_at hl 0 rfl) ?_
  refine zw_get (v := .ref (ad 9)) hx hb hT uR hown Z q1 rfl 10 (by decide) (hT _ mf_R_29) (fun _ h9 => h9) rfl dR_prepare_56 ?_
  refine lv_iconst (v := 0) hx hb dR_prepare_59 (by decide) ?_
  refine zw_callv (va_runS (As := [.ref (ad 9), .int 0]) (rest := []) ⟨hx, hb, hml, hown, hts⟩ (c_J_fill l 9 4 c9 0 (show (va_up (va_up w 1 (some (oR ad F5))) 8 (some (zi G 1296 (fun _ => -1)))) 9 = _ by rw [va_up_ne _ _ (by decide), va_up_ne _ _ (by decide)]; exact h9) (by decide)) (kw_J_fill hts ml_R_57 (zR_fit (by omega) (by omega))) (Z.preS _) rfl rfl hl.1 rfl (lv_room (Nat.le_of_ble_eq_true rfl)) dR_prepare_60 ⟨Nat.le_of_ble_eq_true rfl, Nat.le_of_ble_eq_true rfl⟩) Z (fun w1 H locs hp Z => ?_)
  subst hp
  obtain ⟨w3, hw3⟩ : ∃ w3, w3 = va_up (va_up (va_up w 1 (some (oR ad F5))) 8 (some (zi G 1296 (fun _ => -1)))) 9 (some (zi G 4 (fun _ => 0))) := ⟨_, rfl⟩
  rw [← hw3] at Z
  have look3 : ∀ k, k ≠ 1 → k ≠ 8 → k ≠ 9 → w3 k = w k := fun k a1 a2 a3 => by rw [hw3, va_up_ne _ _ a3, va_up_ne _ _ a2, va_up_ne _ _ a1]
  have r1 : w3 1 = some (oR ad F5) := by rw [hw3, va_up_ne _ _ (by decide), va_up_ne _ _ (by decide), va_up_self]
  have r8 : w3 8 = some (zi G 1296 (fun _ => -1)) := by rw [hw3, va_up_ne _ _ (by decide), va_up_self]
  have r9 : w3 9 = some (zi G 4 (fun _ => 0)) := by rw [hw3, va_up_self]
  have r7 : w3 7 = some (zi G 4 wt) := by rw [look3 7 (by decide) (by decide) (by decide)]; exact h7
  refine lv_iconst (v := 1) hx hb dR_prepare_63 (by decide) ?_
  refine lv_istore (lv' := [(4, .int 1), (0, .ref (ad 1)), (1, .int (nI P)), (2, .int (nI n)), (3, .int (nI o))]) hx hb dR_prepare_64 hl (by decide) rfl (fun ls hl => ?_)
  refine lv_iconst (v := 0) hx hb dR_prepare_66 (by decide) ?_
  refine lv_istore (lv' := [(5, .int 0), (4, .int 1), (0, .ref (ad 1)), (1, .int (nI P)), (2, .int (nI n)), (3, .int (nI o))]) hx hb dR_prepare_67 hl (by decide) rfl (fun ls hl => ?_)
  have cont : ∀ (H : Heap) (locs : List Loc) (ls : Array Slot), zw G ad (va_up w3 7 (some (zi G 4 (fun j => if j < 4 then nI (zWt n j) else wt j)))) s H locs → lv_has ls 6 [(0, .ref (ad 1)), (1, .int (nI P)), (2, .int (nI n)), (3, .int (nI o))] → W p l e (zR (n + 3)) s m ([.ref (ad 1), .int (nI P), .int (nI n), .int (nI o)] : List Value).toArray below meth c H locs 0 0 Q (F0 m 114 ls []) := by
    intro H locs ls Z hl
    have hB : zBld G ad (va_up w3 7 (some (zi G 4 (fun j => if j < 4 then nI (zWt n j) else wt j)))) P n o F5 [] [] (fun _ => 0) := ⟨by rw [va_up_ne _ _ (by decide)]; exact r1, ⟨hF0, hF1, hF2, hF3, hF4⟩, rfl, by rw [va_up_ne _ _ (by decide), look3 4 (by decide) (by decide) (by decide)]; exact h4, ⟨ex, fun v hv => ⟨by rw [va_up_ne _ _ (by omega), look3 _ (by omega) (by omega) (by omega)]; exact hex v hv, fun i hi => absurd hi (Nat.not_lt_zero i)⟩⟩, ⟨dg, by rw [va_up_ne _ _ (by decide), look3 5 (by decide) (by decide) (by decide)]; exact h5, fun i hi => absurd hi (Nat.not_lt_zero i)⟩, ⟨ky, by rw [va_up_ne _ _ (by decide), look3 6 (by decide) (by decide) (by decide)]; exact h6, fun i hi => absurd hi (Nat.not_lt_zero i)⟩, ⟨_, va_up_self _ _ _, fun v hv => if_pos hv⟩, ⟨_, by rw [va_up_ne _ _ (by decide)]; exact r8, fun i hi => absurd hi (Nat.not_lt_zero i)⟩, by rw [va_up_ne _ _ (by decide)]; exact r9⟩
    have hfr : zfrp w (va_up w3 7 (some (zi G 4 (fun j => if j < 4 then nI (zWt n j) else wt j)))) := fun k hk => by rw [va_up_ne _ _ (by omega), look3 k (by omega) (by omega) (by omega)]
    generalize (va_up w3 7 (some (zi G 4 (fun j => if j < 4 then nI (zWt n j) else wt j)))) = w4 at hB hfr Z
    refine lv_aload_n hx hb dR_prepare_114 rfl (lv_at hl 0 rfl) ?_
    refine zw_get (v := .int (F5 3)) hx hb hT uR hown Z hB.1 rfl 3 (by decide) (hT _ mf_R_51) (fun _ h9 => h9) rfl dR_prepare_115 ?_
    refine zw_top (nI (zHi n + 1) - 1) (by rw [nI_pred, hF3]) ?_
    refine lv_istore (lv' := [(5, .int (nI (zHi n + 1) - 1)), (0, .ref (ad 1)), (1, .int (nI P)), (2, .int (nI n)), (3, .int (nI o))]) hx hb dR_prepare_118 hl (by decide) rfl (fun ls hl => ?_)
    have loop : ∀ (k : Nat) (w1 : Nat → Option va_E) (F1 c1 : Nat → Int32) (H : Heap) (locs : List Loc) (ls : Array Slot), k ≤ zHi n + 1 → zBld G ad w1 P n o F1 ((List.range (zHi n + 1 - k)).flatMap (fun d => zGen o n n (zHi n - d) [0, 0, 0, 0])) ((List.range (zHi n + 1 - k)).flatMap (fun d => List.replicate (zGen o n n (zHi n - d) [0, 0, 0, 0]).length (zHi n - d))) c1 → (∀ v, v < 4 → n ≤ v → c1 v = nI 0) → zfrp w w1 → zw G ad w1 s H locs → lv_has ls 6 [(5, .int (nI k - 1)), (0, .ref (ad 1)), (1, .int (nI P)), (2, .int (nI n)), (3, .int (nI o))] → W p l e (zR (n + 3)) s m ([.ref (ad 1), .int (nI P), .int (nI n), .int (nI o)] : List Value).toArray below meth c H locs 0 0 Q (F0 m 120 ls []) := by
      intro k
      induction k with
      | zero =>
        intro w1 F1 c1 H locs ls hk hB1 hc1 hfr Z hl
        refine lv_iload hx hb dR_prepare_120 (lv_at hl 0 rfl) ?_
        refine lv_if_lt (tgt := 140) hx hb dR_prepare_122 (by decide) (fun _ => ?_) (fun hc => absurd (show (nI 0 - 1) < 0 from by decide) hc)
        obtain ⟨g1, ⟨gF0, gF1, gF2, gF3, gF4⟩, gDL, g4, ⟨ge, hge⟩, ⟨gd, g5, hgd⟩, ⟨gk, g6, hgk⟩, gwt, ⟨gx, g8, hgx⟩, g9⟩ := hB1
        have hlen := hcfg.split.1
        rw [show (List.range (zHi n + 1 - 0)).flatMap (fun d => zGen o n n (zHi n - d) [0, 0, 0, 0]) = zTab n o from rfl] at gF4 gDL hge hgd hgk hgx
        rw [hlen] at gF4 hge hgd hgk hgx
        exact hret _ _ _ _ _ dR_prepare_140 (⟨⟨F1, g1, ⟨gF0, gF1, gF2, gF3, gF4⟩, ⟨hP1, hP2⟩, hcfg, g4, fun v hv => ⟨ge v, (hge v hv).1, fun i hi => (hge v hv).2 i hi⟩, ⟨gd, g5, fun i hi => by rw [hgd i hi]; exact congrArg nI (zTabD_ok hcfg hi)⟩, ⟨gk, g6, fun i hi => hgk i hi⟩, gwt, ⟨gx, g8, fun i hi => hgx i hi⟩, ⟨c1, g9⟩⟩, hfr⟩) Z
      | succ k ih =>
        intro w1 F1 c1 H locs ls hk hB1 hc1 hfr Z hl
        rw [nI_pred] at hl
        refine lv_iload hx hb dR_prepare_120 (lv_at hl 0 rfl) ?_
        refine lv_if_lt (tgt := 140) hx hb dR_prepare_122 (by decide) (fun hc => absurd hc (show ¬ ((nI k) < 0) from nI_pos (by omega))) (fun _ => ?_)
        obtain ⟨t9, ht9⟩ := flat_split (fun d => zGen o n n (zHi n - d) [0, 0, 0, 0]) (zHi n + 1) (zHi n + 1 - (k + 1)) (by omega)
        have hcall := c_R_listMonomials l P n o k hcfg (n - 1) w1 F1 _ _ c1 [0, 0, 0, 0] k t9 (by omega) hB1 rfl (fun v hv hf => by
          rw [hc1 v hv (by unfold zfix at hf; omega)]
          have : v = 0 ∨ v = 1 ∨ v = 2 ∨ v = 3 := by omega
          rcases this with rfl | rfl | rfl | rfl <;> rfl) (by omega) (by rw [show n - 1 + 1 = n by omega]; show (List.range (zHi n + 1)).flatMap (fun d => zGen o n n (zHi n - d) [0, 0, 0, 0]) = _; rw [ht9, show zHi n - (zHi n + 1 - (k + 1)) = k by omega])
        rw [show n - 1 + 1 = n by omega, show nI (n - n) = 0 by rw [Nat.sub_self]; rfl] at hcall
        refine lv_aload_n hx hb dR_prepare_125 rfl (lv_at hl 1 rfl) ?_
        refine lv_iconst (v := 0) hx hb dR_prepare_126 (by decide) ?_
        refine lv_iload hx hb dR_prepare_127 (lv_at hl 0 rfl) ?_
        refine lv_iload hx hb dR_prepare_129 (lv_at hl 0 rfl) ?_
        refine zw_callv (va_runV (As := [.int 0, .int (nI k), .int (nI k)]) (rest := []) ⟨hx, hb, hml, hown, hts⟩ (hcall) (kw_R_listMonomials hts ml_R_63 (zR_fit (by omega) (by omega))) (Z.preV hB1.1 rfl _) rfl rfl hl.1 rfl (lv_room (Nat.le_of_ble_eq_true rfl)) dR_prepare_131 ⟨Nat.le_of_ble_eq_true rfl, Nat.le_of_ble_eq_true rfl⟩) Z (fun w2 H locs hp Z => ?_)
        obtain ⟨⟨F2, c2, hB3, hc2⟩, hfr2⟩ := hp
        refine lv_iinc (v := ((nI k) + (-1))) (lv' := [(5, .int ((nI k) + (-1))), (0, .ref (ad 1)), (1, .int (nI P)), (2, .int (nI n)), (3, .int (nI o))]) hx hb dR_prepare_134 hl (k := 0) rfl (rfl) (by decide) rfl (fun ls hl => ?_)
        refine lv_goto (tgt := 120) hx hb dR_prepare_137 (by decide) ?_
        refine ih w2 F2 c2 _ _ ls (by omega) ?_ (fun v hv hn => ?_) (fun q hq => ?_) Z (by rw [Int32.sub_eq_add_neg]; exact (lv_sub hl [0, 1, 2, 3, 4] rfl))
        · rw [show zHi n + 1 - k = zHi n + 1 - (k + 1) + 1 by omega, flat_succ, flatD_succ, show zHi n - (zHi n + 1 - (k + 1)) = k by omega]
          exact hB3
        · rw [hc2 v hv (by unfold zfix; omega)]
          exact hc1 v hv hn
        · rw [hfr2 q (by omega)]
          exact hfr q hq
    exact loop (zHi n + 1) w4 F5 (fun _ => 0) _ _ ls (Nat.le_refl _) (by rw [Nat.sub_self]; exact hB) (fun _ _ _ => rfl) hfr Z hl
  have loop : ∀ (k v : Nat) (H : Heap) (locs : List Loc) (ls : Array Slot), v + k = 4 → zw G ad (va_up w3 7 (some (zi G 4 (fun j => if j < v then nI (zWt n j) else wt j)))) s H locs → lv_has ls 6 [(5, .int (nI v)), (4, .int (nI ((zHi n + 1) ^ v))), (0, .ref (ad 1)), (1, .int (nI P)), (2, .int (nI n)), (3, .int (nI o))] → W p l e (zR (n + 3)) s m ([.ref (ad 1), .int (nI P), .int (nI n), .int (nI o)] : List Value).toArray below meth c H locs 0 0 Q (F0 m 69 ls []) := by
    intro k
    induction k with
    | zero =>
      intro v H locs ls hv Z hl
      refine lv_iload hx hb dR_prepare_69 (lv_at hl 0 rfl) ?_
      refine lv_iconst (v := 4) hx hb dR_prepare_71 (by decide) ?_
      refine lv_icmp_ge (tgt := 114) hx hb dR_prepare_72 (by decide) (fun _ => ?_) (fun hc => absurd (show 4 ≤ (nI v) from nI_le (a := 4) (by omega) (by omega)) hc)
      rw [show v = 4 by omega] at Z
      exact cont _ _ ls Z (lv_sub hl [2, 3, 4, 5] rfl)
    | succ k ih =>
      intro v H locs ls hv Z hl
      have q1 : (va_up w3 7 (some (zi G 4 (fun j => if j < v then nI (zWt n j) else wt j)))) 1 = some (oR ad F5) := by rw [va_up_ne _ _ (by decide)]; exact r1
      refine lv_iload hx hb dR_prepare_69 (lv_at hl 0 rfl) ?_
      refine lv_iconst (v := 4) hx hb dR_prepare_71 (by decide) ?_
      refine lv_icmp_ge (tgt := 114) hx hb dR_prepare_72 (by decide) (fun hc => absurd hc (show ¬ (4 ≤ (nI v)) from nI_ge (b := 4) (by omega) (by decide))) (fun _ => ?_)
      refine lv_aload_n hx hb dR_prepare_75 rfl (lv_at hl 2 rfl) ?_
      refine zw_get (v := .ref (ad 7)) hx hb hT uR hown Z q1 rfl 8 (by decide) (hT _ mf_R_23) (fun _ h9 => h9) rfl dR_prepare_76 ?_
      refine lv_iload hx hb dR_prepare_79 (lv_at hl 0 rfl) ?_
      refine lv_iload hx hb dR_prepare_81 (lv_at hl 0 rfl) ?_
      refine lv_aload_n hx hb dR_prepare_83 rfl (lv_at hl 2 rfl) ?_
      refine zw_get (v := .int (F5 1)) hx hb hT uR hown Z q1 rfl 1 (by decide) (hT _ mf_R_42) (fun _ h9 => h9) rfl dR_prepare_84 ?_
      have cont2 : W p l e (zR (n + 3)) s m ([.ref (ad 1), .int (nI P), .int (nI n), .int (nI o)] : List Value).toArray below meth c H locs 0 0 Q (F0 m 96 ls [.int (nI (zWt n v)), .int (nI v), .ref (ad 7)]) := by
        refine zw_iast hx hb Z (va_up_self _ _ _) (vin (by omega) (by decide)) dR_prepare_96 (fun H locs Z => ?_)
        have Z := Z.ext (va_up_self _ _ _) (f' := fun j => if j < v + 1 then nI (zWt n j) else wt j) (fun j hj => by
          rw [ncl (by omega)]
          by_cases h : j = v
          · subst h
            simp [upd]
          · simp only [upd, h, if_false]
            by_cases h2 : j < v
            · rw [if_pos h2, if_pos (by omega)]
            · rw [if_neg h2, if_neg (by omega)])
        rw [bx_uu, bx_uu] at Z
        have q1 : (va_up w3 7 (some (zi G 4 (fun j => if j < v + 1 then nI (zWt n j) else wt j)))) 1 = some (oR ad F5) := by rw [va_up_ne _ _ (by decide)]; exact r1
        refine lv_iload hx hb dR_prepare_97 (lv_at hl 1 rfl) ?_
        refine lv_aload_n hx hb dR_prepare_99 rfl (lv_at hl 2 rfl) ?_
        refine zw_get (v := .int (F5 3)) hx hb hT uR hown Z q1 rfl 3 (by decide) (hT _ mf_R_51) (fun _ h9 => h9) rfl dR_prepare_100 ?_
        refine lv_iconst (v := 1) hx hb dR_prepare_103 (by decide) ?_
        refine lv_iadd hx hb dR_prepare_104 ?_
        refine zw_top (nI (zHi n + 1)) (by rw [hF3]; exact nI_1 _) ?_
        refine lv_imul hx hb dR_prepare_105 ?_
        refine zw_top (nI ((zHi n + 1) ^ (v + 1))) (by rw [Nat.pow_succ]; exact pk_mul _ _) ?_
        refine lv_istore (lv' := [(4, .int (nI ((zHi n + 1) ^ (v + 1)))), (5, .int (nI v)), (0, .ref (ad 1)), (1, .int (nI P)), (2, .int (nI n)), (3, .int (nI o))]) hx hb dR_prepare_106 hl (by decide) rfl (fun ls hl => ?_)
        refine lv_iinc (v := (nI (v + 1))) (lv' := [(5, .int (nI (v + 1))), (4, .int (nI ((zHi n + 1) ^ (v + 1)))), (0, .ref (ad 1)), (1, .int (nI P)), (2, .int (nI n)), (3, .int (nI o))]) hx hb dR_prepare_108 hl (k := 1) rfl (nI_1 v) (by decide) rfl (fun ls hl => ?_)
        refine lv_goto (tgt := 69) hx hb dR_prepare_111 (by decide) ?_
        exact ih (v + 1) _ _ ls (by omega) Z (lv_sub hl [0, 1, 2, 3, 4, 5] rfl)
      refine lv_icmp_ge (tgt := 95) hx hb dR_prepare_87 (by decide) (fun hc => ?_) (fun hc => ?_)
      · have hz : zWt n v = 0 := if_neg (fun h9 => absurd hc (by rw [hF1]; exact nI_ge h9 (by omega)))
        rw [hz] at cont2
        refine lv_iconst (v := 0) hx hb dR_prepare_95 (by decide) ?_
        exact cont2
      · have hz : zWt n v = (zHi n + 1) ^ v := if_pos (Nat.not_le.mp (fun h9 => hc (by rw [hF1]; exact nI_le h9 (by omega))))
        rw [hz] at cont2
        refine lv_iload hx hb dR_prepare_90 (lv_at hl 1 rfl) ?_
        refine lv_goto (tgt := 96) hx hb dR_prepare_92 (by decide) ?_
        exact cont2
  have Z := Z.ext r7 (f' := fun j => if j < 0 then nI (zWt n j) else wt j) (fun j _ => (if_neg (Nat.not_lt_zero j)).symm)
  exact loop 4 0 _ _ ls (by omega) Z hl
