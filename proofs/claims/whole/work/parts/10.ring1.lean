theorem zred_hi {P : Nat} {x q : Int32} (h0 : 0 < P) (hP : P < 2 ^ 31) (hq : q = x - x / nI P * nI P) (h : 0 ≤ q) : q = nI (zred P x) := by
  have h1 : q.toInt = x.toInt.tmod P := by rw [hq]; exact zrem32 x h0 hP
  have h2 : 0 ≤ q.toInt := by simpa using Int32.le_iff_toInt_le.mp h
  have h3 := zred_of x h0 (r := q.toInt) (by rw [h1] at h2 ⊢; rw [if_neg (by omega)])
  have h4 := zred_lt x h0
  apply Int32.toInt_inj.mp
  rw [h3, nI_toInt (by omega)]
theorem zred_lo {P : Nat} {x q : Int32} (h0 : 0 < P) (hP : P < 2 ^ 31) (hq : q = x - x / nI P * nI P) (h : ¬ 0 ≤ q) : q + nI P = nI (zred P x) := by
  have h1 : q.toInt = x.toInt.tmod P := by rw [hq]; exact zrem32 x h0 hP
  have h2 : q.toInt < 0 := by
    have := Int32.le_iff_toInt_le (x := 0) (y := q)
    rw [this] at h
    simpa using h
  have h3 := zred_of x h0 (r := q.toInt + P) (by rw [h1] at h2 ⊢; rw [if_pos (by omega)])
  have h4 := zred_lt x h0
  obtain ⟨a, b, c, d, e⟩ := ztmx x.toInt h0
  apply Int32.toInt_inj.mp
  rw [Int32.toInt_add, nI_toInt hP, Int.bmod_eq_of_le (by omega) (by omega), h3, nI_toInt (by omega)]

set_option maxHeartbeats 4000000 in
set_option maxRecDepth 100000 in
theorem c_R_reduce (l : Launch) {G : zG} {ad : Nat → Nat} {w : Nat → Option va_E} (F : Nat → Int32) (h1 : w 1 = some (oR ad F)) (P : Nat) (x : Int32) (hF : F 0 = nI P) (hP : 2 ≤ P) (hP2 : P < 2 ^ 31) : Met l yR_reduce wR_reduce (zR (1)) (va_Pc [.ref (ad 1), .int x] (zw_U G ad w)) (va_Qi (S := Nat → Option va_E) (fun r w' => r = nI (zred P x) ∧ w' = w) (fun u t => zw_U G ((fun _ => ad) u) ((fun w' => w') u) t) (zA G)) 0 0 (zA G) := by
  refine zw_methi (S := Nat → Option va_E) (fa := fun _ => ad) (fw := fun w' => w') (by decide) rfl (Nat.le_of_ble_eq_true rfl) ?_
  intro p e s m below meth c Q ls C hname Z hl hret
  obtain ⟨hx, hb, hml, hown, hts, hlk⟩ := C
  have hT : ∀ w ∈ zT, w.before ([.ref (ad 1), .int x] : List Value).toArray s = true := fun w h => hts w (List.mem_cons_of_mem _ h)
  have hown : s.vm.findClass "PolynomialDesk$Ring" = some m.cls := hown
  have hl : lv_has ls 3 [(0, .ref (ad 1)), (1, .int x)] := hl
  refine lv_aload_n hx hb dR_reduce_0 rfl (lv_at hl 0 rfl) ?_
  refine zw_get (v := .int (F 0)) hx hb hT uR hown Z h1 rfl 0 (by decide) (hT _ mf_R_38) (fun _ h9 => h9) rfl dR_reduce_1 ?_
  refine lv_iconst (v := 2) hx hb dR_reduce_4 (by decide) ?_
  refine lv_icmp_ge (tgt := 10) hx hb dR_reduce_5 (by decide) (fun _ => ?_) (fun hc => absurd (show 2 ≤ (F 0) from by rw [hF]; exact nI_le (a := 2) hP hP2) hc)
  refine lv_iload_n hx hb dR_reduce_10 rfl (lv_at hl 1 rfl) ?_
  refine lv_aload_n hx hb dR_reduce_11 rfl (lv_at hl 0 rfl) ?_
  refine zw_get (v := .int (F 0)) hx hb hT uR hown Z h1 rfl 0 (by decide) (hT _ mf_R_38) (fun _ h9 => h9) rfl dR_reduce_12 ?_
  refine lv_irem hx hb dR_reduce_15 (by rw [hF]; exact nI_ne0 (by omega) hP2) ?_
  refine lv_topi (fun q hq => ?_)
  rw [hF] at hq
  refine lv_istore_n (lv' := [(2, .int q), (0, .ref (ad 1)), (1, .int x)]) hx hb dR_reduce_16 rfl hl (by decide) rfl (fun ls hl => ?_)
  refine lv_iload_n hx hb dR_reduce_17 rfl (lv_at hl 0 rfl) ?_
  refine lv_if_ge (tgt := 30) hx hb dR_reduce_18 (by decide) (fun hc => ?_) (fun hc => ?_)
  · refine lv_iload_n hx hb dR_reduce_30 rfl (lv_at hl 0 rfl) ?_
    exact hret _ _ _ _ _ _ dR_reduce_31 (⟨zred_hi (by omega) hP2 hq hc, rfl⟩) Z
  · refine lv_iload_n hx hb dR_reduce_21 rfl (lv_at hl 0 rfl) ?_
    refine lv_aload_n hx hb dR_reduce_22 rfl (lv_at hl 1 rfl) ?_
    refine zw_get (v := .int (F 0)) hx hb hT uR hown Z h1 rfl 0 (by decide) (hT _ mf_R_38) (fun _ h9 => h9) rfl dR_reduce_23 ?_
    refine lv_iadd hx hb dR_reduce_26 ?_
    refine lv_goto (tgt := 31) hx hb dR_reduce_27 (by decide) ?_
    refine zw_top (nI (zred P x)) (by rw [hF]; exact zred_lo (by omega) hP2 hq hc) ?_
    exact hret _ _ _ _ _ _ dR_reduce_31 (⟨rfl, rfl⟩) Z

set_option maxHeartbeats 4000000 in
set_option maxRecDepth 100000 in
theorem c_R_variables (l : Launch) {G : zG} {ad : Nat → Nat} {w : Nat → Option va_E} (F : Nat → Int32) (h1 : w 1 = some (oR ad F)) : Met l yR_variables wR_variables (zR (1)) (va_Pc [.ref (ad 1)] (zw_U G ad w)) (va_Qi (S := Nat → Option va_E) (fun r w' => r = F 1 ∧ w' = w) (fun u t => zw_U G ((fun _ => ad) u) ((fun w' => w') u) t) (zA G)) 0 0 (zA G) := by
  refine zw_methi (S := Nat → Option va_E) (fa := fun _ => ad) (fw := fun w' => w') (by decide) rfl (Nat.le_of_ble_eq_true rfl) ?_
  intro p e s m below meth c Q ls C hname Z hl hret
  obtain ⟨hx, hb, hml, hown, hts, hlk⟩ := C
  have hT : ∀ w ∈ zT, w.before ([.ref (ad 1)] : List Value).toArray s = true := fun w h => hts w (List.mem_cons_of_mem _ h)
  have hown : s.vm.findClass "PolynomialDesk$Ring" = some m.cls := hown
  have hl : lv_has ls 1 [(0, .ref (ad 1))] := hl
  refine lv_aload_n hx hb dR_variables_0 rfl (lv_at hl 0 rfl) ?_
  refine zw_get (v := .int (F 1)) hx hb hT uR hown Z h1 rfl 1 (by decide) (hT _ mf_R_42) (fun _ h9 => h9) rfl dR_variables_1 ?_
  exact hret _ _ _ _ _ _ dR_variables_4 (⟨rfl, rfl⟩) Z

set_option maxHeartbeats 4000000 in
set_option maxRecDepth 100000 in
theorem c_R_leadingOf (l : Launch) {G : zG} {ad : Nat → Nat} {w : Nat → Option va_E} (F : Nat → Int32) (h1 : w 1 = some (oR ad F)) (a : Nat) (g : Nat → Int32) (ct : Nat) (ha : w a = some (zi G 126 g)) (hF : F 4 = nI ct) (hc : ct ≤ 126) : Met l yR_leadingOf wR_leadingOf (zR (1)) (va_Pc [.ref (ad 1), .ref (ad a)] (zw_U G ad w)) (va_Qi (S := Nat → Option va_E) (fun r w' => r = nI (zfst g 0 ct) ∧ w' = w) (fun u t => zw_U G ((fun _ => ad) u) ((fun w' => w') u) t) (zA G)) 0 0 (zA G) := by
  refine zw_methi (S := Nat → Option va_E) (fa := fun _ => ad) (fw := fun w' => w') (by decide) rfl (Nat.le_of_ble_eq_true rfl) ?_
  intro p e s m below meth c Q ls C hname Z hl hret
  obtain ⟨hx, hb, hml, hown, hts, hlk⟩ := C
  have hT : ∀ w ∈ zT, w.before ([.ref (ad 1), .ref (ad a)] : List Value).toArray s = true := fun w h => hts w (List.mem_cons_of_mem _ h)
  have hown : s.vm.findClass "PolynomialDesk$Ring" = some m.cls := hown
  have hl : lv_has ls 3 [(0, .ref (ad 1)), (1, .ref (ad a))] := hl
  refine lv_iconst (v := 0) hx hb dR_leadingOf_0 (by decide) ?_
  refine lv_istore_n (lv' := [(2, .int 0), (0, .ref (ad 1)), (1, .ref (ad a))]) hx hb dR_leadingOf_1 rfl hl (by decide) rfl (fun ls hl => ?_)
  have loop : ∀ (n i : Nat) (ls : Array Slot), lv_has ls 3 [(2, .int (nI i)), (0, .ref (ad 1)), (1, .ref (ad a))] → i + n = ct → zfst g i n = zfst g 0 ct → W p l e (zR (1)) s m ([.ref (ad 1), .ref (ad a)] : List Value).toArray below meth c s.heap [] 0 0 Q (F0 m 2 ls []) := by
    intro n
    induction n with
    | zero =>
      intro i ls hl hi hz
      refine lv_iload_n hx hb dR_leadingOf_2 rfl (lv_at hl 0 rfl) ?_
      refine lv_aload_n hx hb dR_leadingOf_3 rfl (lv_at hl 1 rfl) ?_
      refine zw_get (v := .int (F 4)) hx hb hT uR hown Z h1 rfl 4 (by decide) (hT _ mf_R_54) (fun _ h9 => h9) rfl dR_leadingOf_4 ?_
      refine lv_icmp_ge (tgt := 22) hx hb dR_leadingOf_7 (by decide) (fun _ => ?_) (fun hc => absurd (show (F 4) ≤ (nI i) from by rw [hF]; exact nI_le (by omega) (by omega)) hc)
      refine lv_iload_n hx hb dR_leadingOf_22 rfl (lv_at hl 0 rfl) ?_
      exact hret _ _ _ _ _ _ dR_leadingOf_23 (⟨by rw [← hz]; rfl, rfl⟩) Z
    | succ n ih =>
      intro i ls hl hi hz
      refine lv_iload_n hx hb dR_leadingOf_2 rfl (lv_at hl 0 rfl) ?_
      refine lv_aload_n hx hb dR_leadingOf_3 rfl (lv_at hl 1 rfl) ?_
      refine zw_get (v := .int (F 4)) hx hb hT uR hown Z h1 rfl 4 (by decide) (hT _ mf_R_54) (fun _ h9 => h9) rfl dR_leadingOf_4 ?_
      refine lv_icmp_ge (tgt := 22) hx hb dR_leadingOf_7 (by decide) (fun hc => absurd hc (show ¬ ((F 4) ≤ (nI i)) from by rw [hF]; exact nI_ge (by omega) (by omega))) (fun _ => ?_)
      refine lv_aload_n hx hb dR_leadingOf_10 rfl (lv_at hl 2 rfl) ?_
      refine lv_iload_n hx hb dR_leadingOf_11 rfl (lv_at hl 0 rfl) ?_
      refine zw_iald hx hb Z ha (vin (by omega) (by omega)) dR_leadingOf_12 ?_
      refine zw_top (g i) (by rw [ncl (by omega)]) ?_
      refine lv_if_ne (tgt := 22) hx hb dR_leadingOf_13 (by decide) (fun hq => ?_) (fun hq => ?_)
      · refine lv_iload_n hx hb dR_leadingOf_22 rfl (lv_at hl 0 rfl) ?_
        exact hret _ _ _ _ _ _ dR_leadingOf_23 (⟨by rw [← hz, zfst, if_neg hq], rfl⟩) Z
      · refine lv_iinc (v := (nI (i + 1))) (lv' := [(2, .int (nI (i + 1))), (0, .ref (ad 1)), (1, .ref (ad a))]) hx hb dR_leadingOf_16 hl (k := 0) rfl (nI_1 i) (by decide) rfl (fun ls hl => ?_)
        refine lv_goto (tgt := 2) hx hb dR_leadingOf_19 (by decide) ?_
        exact ih (i + 1) ls hl (by omega) (by rw [← hz, zfst, if_pos hq])
  exact loop ct 0 ls hl (by omega) rfl
