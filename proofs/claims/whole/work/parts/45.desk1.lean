theorem zb_t {b : Bool} (h : ¬ zb b = 0) : b = true := by
  cases b with
  | true => rfl
  | false => exact absurd rfl h
theorem zb_f {b : Bool} (h : zb b = 0) : b = false := by
  cases b with
  | true => exact absurd h (by decide)
  | false => rfl
theorem zb_nt {b : Bool} (h : b = false) : ¬ b = true := by rw [h]; decide

set_option maxHeartbeats 4000000 in
set_option maxRecDepth 100000 in
theorem c_K_isPrime (l : Launch) {G : zG} {ad : Nat → Nat} {w : Nat → Option va_E} (q : Int32) : Met l yK_isPrime wK_isPrime (zR (1)) (va_Pc [.int q] (zw_U G ad w)) (va_Qi (S := Nat → Option va_E) (fun r w' => r = zb (zprb q) ∧ w' = w) (fun u t => zw_U G ((fun _ => ad) u) ((fun w' => w') u) t) (zA G)) 0 0 (zA G) := by
  refine zw_methz (S := Nat → Option va_E) (fa := fun _ => ad) (fw := fun w' => w') (by decide) rfl (Nat.le_of_ble_eq_true rfl) (fun r u h => by rw [h.1]; exact zb_nar _) ?_
  intro p e s m below meth c Q ls C hname Z hl hret
  obtain ⟨hx, hb, hml, hown, hts, hlk⟩ := C
  have hT : ∀ w ∈ zT, w.before ([.int q] : List Value).toArray s = true := fun w h => hts w (List.mem_cons_of_mem _ h)
  have hown : s.vm.findClass "PolynomialDesk" = some m.cls := hown
  have hl : lv_has ls 2 [(0, .int q)] := hl
  refine lv_iload_n hx hb dK_isPrime_0 rfl (lv_at hl 0 rfl) ?_
  refine lv_iconst (v := 2) hx hb dK_isPrime_1 (by decide) ?_
  refine lv_icmp_lt (tgt := 12) hx hb dK_isPrime_2 (by decide) (fun hc => ?_) (fun hc => ?_)
  · refine lv_iconst (v := 0) hx hb dK_isPrime_12 (by decide) ?_
    exact hret _ _ _ _ _ _ dK_isPrime_13 (⟨by rw [zprb_f (fun ⟨P, h1, h2, _⟩ => absurd hc (by rw [h1]; exact nI_nlt (b := 2) h2 (by omega)))]; rfl, rfl⟩) Z
  · refine lv_iload_n hx hb dK_isPrime_5 rfl (lv_at hl 0 rfl) ?_
    refine lv_sipush (v := 32003) hx hb dK_isPrime_6 (by decide) ?_
    refine lv_icmp_le (tgt := 14) hx hb dK_isPrime_9 (by decide) (fun hc2 => ?_) (fun hc2 => ?_)
    · obtain ⟨P, hPb, rfl⟩ := nI_of (x := q) (fun h9 => hc (Int32.lt_trans h9 (by decide)))
      have hP1 : 2 ≤ P := Nat.le_of_not_lt (fun h9 => hc (nI_lt (b := 2) h9 (by decide)))
      have hP2 : P ≤ 32003 := (nI_leI (b := 32003) hPb (by decide)).mp hc2
      refine lv_iconst (v := 2) hx hb dK_isPrime_14 (by decide) ?_
      refine lv_istore_n (lv' := [(1, .int 2), (0, .int (nI P))]) hx hb dK_isPrime_15 rfl hl (by decide) rfl (fun ls hl => ?_)
      have loop : ∀ (f9 d : Nat) (ls : Array Slot), f9 + d = 200 → 2 ≤ d → (∀ e9, 2 ≤ e9 → e9 < d → e9 * e9 ≤ P → P % e9 ≠ 0) → lv_has ls 2 [(1, .int (nI d)), (0, .int (nI P))] → W p l e (zR (1)) s m ([.int (nI P)] : List Value).toArray below meth c s.heap [] (0) (0) Q (F0 m 16 ls []) := by
        intro f9
        induction f9 with
        | zero =>
          intro d ls hfd hd2 hall hl
          have hdd : d = 200 := by omega
          subst hdd
          refine lv_iload_n hx hb dK_isPrime_16 rfl (lv_at hl 0 rfl) ?_
          refine lv_iload_n hx hb dK_isPrime_17 rfl (lv_at hl 0 rfl) ?_
          refine lv_imul hx hb dK_isPrime_18 ?_
          refine zw_top (nI 40000) (pk_mul 200 200) ?_
          refine lv_iload_n hx hb dK_isPrime_19 rfl (lv_at hl 1 rfl) ?_
          refine lv_icmp_gt (tgt := 37) hx hb dK_isPrime_20 (by decide) (fun _ => ?_) (fun hc => absurd (show ((nI P) : Int32) < (nI 40000) from nI_lt (b := 40000) (by omega) (by decide)) hc)
          refine lv_iconst (v := 1) hx hb dK_isPrime_37 (by decide) ?_
          exact hret _ _ _ _ _ _ dK_isPrime_38 (⟨by rw [zprb_t ⟨P, rfl, hP1, hP2, fun e9 h1 h2 => hall e9 h1 (Nat.lt_of_not_le (fun h9 => by have := Nat.mul_le_mul h9 h9; omega)) h2⟩]; rfl, rfl⟩) Z
        | succ f9 ih =>
          intro d ls hfd hd2 hall hl
          have hd9 : d * d ≤ 200 * 200 := Nat.mul_le_mul (by omega) (by omega)
          refine lv_iload_n hx hb dK_isPrime_16 rfl (lv_at hl 0 rfl) ?_
          refine lv_iload_n hx hb dK_isPrime_17 rfl (lv_at hl 0 rfl) ?_
          refine lv_imul hx hb dK_isPrime_18 ?_
          refine zw_top (nI (d * d)) (pk_mul d d) ?_
          refine lv_iload_n hx hb dK_isPrime_19 rfl (lv_at hl 1 rfl) ?_
          refine lv_icmp_gt (tgt := 37) hx hb dK_isPrime_20 (by decide) (fun hc3 => ?_) (fun hc3 => ?_)
          · have hlt : P < d * d := (nI_ltI (by omega) (by omega)).mp hc3
            refine lv_iconst (v := 1) hx hb dK_isPrime_37 (by decide) ?_
            exact hret _ _ _ _ _ _ dK_isPrime_38 (⟨by rw [zprb_t ⟨P, rfl, hP1, hP2, fun e9 h1 h2 => hall e9 h1 (Nat.lt_of_not_le (fun h9 => by have := Nat.mul_le_mul h9 h9; omega)) h2⟩]; rfl, rfl⟩) Z
          · have hle : d * d ≤ P := Nat.le_of_not_lt (fun h9 => hc3 (nI_lt h9 (by omega)))
            refine lv_iload_n hx hb dK_isPrime_23 rfl (lv_at hl 1 rfl) ?_
            refine lv_iload_n hx hb dK_isPrime_24 rfl (lv_at hl 0 rfl) ?_
            refine lv_irem hx hb dK_isPrime_25 (nI_ne0 (by omega) (by omega)) ?_
            refine zw_top (nI (P % d)) (pk_rem (by omega) (by omega) (by omega)) ?_
            have hmd := Nat.mod_lt P (show 0 < d by omega)
            refine lv_if_ne (tgt := 31) hx hb dK_isPrime_26 (by decide) (fun hc4 => ?_) (fun hc4 => ?_)
            · have hne : P % d ≠ 0 := fun h9 => hc4 (by rw [h9]; rfl)
              refine lv_iinc (v := (nI (d + 1))) (lv' := [(1, .int (nI (d + 1))), (0, .int (nI P))]) hx hb dK_isPrime_31 hl (k := 0) rfl (nI_1 d) (by decide) rfl (fun ls hl => ?_)
              refine lv_goto (tgt := 16) hx hb dK_isPrime_34 (by decide) ?_
              exact ih (d + 1) ls (by omega) (by omega) (fun e9 h1 h2 h3 => by
                by_cases h4 : e9 = d
                · rw [h4]; exact hne
                · exact hall e9 h1 (by omega) h3) (lv_sub hl [0, 1] rfl)
            · have he : P % d = 0 := (nI_eq (b := 0) (by omega) (by decide)).mp hc4
              have hnp : ¬ zprm (nI P) := fun ⟨P2, h1, _, h3, h4⟩ => by
                have h5 := (nI_eq (by omega) (by omega)).mp h1
                subst h5
                exact h4 d hd2 hle he
              refine lv_iconst (v := 0) hx hb dK_isPrime_29 (by decide) ?_
              exact hret _ _ _ _ _ _ dK_isPrime_30 (⟨by rw [zprb_f hnp]; rfl, rfl⟩) Z
      exact loop 198 2 ls (by omega) (by omega) (fun e9 h1 h2 => absurd h1 (by omega)) hl
    · refine lv_iconst (v := 0) hx hb dK_isPrime_12 (by decide) ?_
      exact hret _ _ _ _ _ _ dK_isPrime_13 (⟨by rw [zprb_f (fun ⟨P, h1, _, h3, _⟩ => hc2 (by rw [h1]; exact nI_le (b := 32003) h3 (by decide)))]; rfl, rfl⟩) Z

set_option maxHeartbeats 4000000 in
set_option maxRecDepth 100000 in
theorem c_M_isPrime (l : Launch) {G : zG} {ad : Nat → Nat} {w : Nat → Option va_E} (q : Int32) : Met l yM_isPrime wM_isPrime (zR (1)) (va_Pc [.int q] (zw_U G ad w)) (va_Qi (S := Nat → Option va_E) (fun r w' => r = zb (zprb q) ∧ w' = w) (fun u t => zw_U G ((fun _ => ad) u) ((fun w' => w') u) t) (zA G)) 0 0 (zA G) := by
  refine zw_methz (S := Nat → Option va_E) (fa := fun _ => ad) (fw := fun w' => w') (by decide) rfl (Nat.le_of_ble_eq_true rfl) (fun r u h => by rw [h.1]; exact zb_nar _) ?_
  intro p e s m below meth c Q ls C hname Z hl hret
  obtain ⟨hx, hb, hml, hown, hts, hlk⟩ := C
  have hT : ∀ w ∈ zT, w.before ([.int q] : List Value).toArray s = true := fun w h => hts w (List.mem_cons_of_mem _ h)
  have hown : s.vm.findClass "PolynomialDeskModel" = some m.cls := hown
  have hl : lv_has ls 2 [(0, .int q)] := hl
  refine lv_iload_n hx hb dM_isPrime_0 rfl (lv_at hl 0 rfl) ?_
  refine lv_iconst (v := 2) hx hb dM_isPrime_1 (by decide) ?_
  refine lv_icmp_lt (tgt := 12) hx hb dM_isPrime_2 (by decide) (fun hc => ?_) (fun hc => ?_)
  · refine lv_iconst (v := 0) hx hb dM_isPrime_12 (by decide) ?_
    exact hret _ _ _ _ _ _ dM_isPrime_13 (⟨by rw [zprb_f (fun ⟨P, h1, h2, _⟩ => absurd hc (by rw [h1]; exact nI_nlt (b := 2) h2 (by omega)))]; rfl, rfl⟩) Z
  · refine lv_iload_n hx hb dM_isPrime_5 rfl (lv_at hl 0 rfl) ?_
    refine lv_sipush (v := 32003) hx hb dM_isPrime_6 (by decide) ?_
    refine lv_icmp_le (tgt := 14) hx hb dM_isPrime_9 (by decide) (fun hc2 => ?_) (fun hc2 => ?_)
    · obtain ⟨P, hPb, rfl⟩ := nI_of (x := q) (fun h9 => hc (Int32.lt_trans h9 (by decide)))
      have hP1 : 2 ≤ P := Nat.le_of_not_lt (fun h9 => hc (nI_lt (b := 2) h9 (by decide)))
      have hP2 : P ≤ 32003 := (nI_leI (b := 32003) hPb (by decide)).mp hc2
      refine lv_iconst (v := 2) hx hb dM_isPrime_14 (by decide) ?_
      refine lv_istore_n (lv' := [(1, .int 2), (0, .int (nI P))]) hx hb dM_isPrime_15 rfl hl (by decide) rfl (fun ls hl => ?_)
      have loop : ∀ (f9 d : Nat) (ls : Array Slot), f9 + d = 200 → 2 ≤ d → (∀ e9, 2 ≤ e9 → e9 < d → e9 * e9 ≤ P → P % e9 ≠ 0) → lv_has ls 2 [(1, .int (nI d)), (0, .int (nI P))] → W p l e (zR (1)) s m ([.int (nI P)] : List Value).toArray below meth c s.heap [] (0) (0) Q (F0 m 16 ls []) := by
        intro f9
        induction f9 with
        | zero =>
          intro d ls hfd hd2 hall hl
          have hdd : d = 200 := by omega
          subst hdd
          refine lv_iload_n hx hb dM_isPrime_16 rfl (lv_at hl 0 rfl) ?_
          refine lv_iload_n hx hb dM_isPrime_17 rfl (lv_at hl 0 rfl) ?_
          refine lv_imul hx hb dM_isPrime_18 ?_
          refine zw_top (nI 40000) (pk_mul 200 200) ?_
          refine lv_iload_n hx hb dM_isPrime_19 rfl (lv_at hl 1 rfl) ?_
          refine lv_icmp_gt (tgt := 37) hx hb dM_isPrime_20 (by decide) (fun _ => ?_) (fun hc => absurd (show ((nI P) : Int32) < (nI 40000) from nI_lt (b := 40000) (by omega) (by decide)) hc)
          refine lv_iconst (v := 1) hx hb dM_isPrime_37 (by decide) ?_
          exact hret _ _ _ _ _ _ dM_isPrime_38 (⟨by rw [zprb_t ⟨P, rfl, hP1, hP2, fun e9 h1 h2 => hall e9 h1 (Nat.lt_of_not_le (fun h9 => by have := Nat.mul_le_mul h9 h9; omega)) h2⟩]; rfl, rfl⟩) Z
        | succ f9 ih =>
          intro d ls hfd hd2 hall hl
          have hd9 : d * d ≤ 200 * 200 := Nat.mul_le_mul (by omega) (by omega)
          refine lv_iload_n hx hb dM_isPrime_16 rfl (lv_at hl 0 rfl) ?_
          refine lv_iload_n hx hb dM_isPrime_17 rfl (lv_at hl 0 rfl) ?_
          refine lv_imul hx hb dM_isPrime_18 ?_
          refine zw_top (nI (d * d)) (pk_mul d d) ?_
          refine lv_iload_n hx hb dM_isPrime_19 rfl (lv_at hl 1 rfl) ?_
          refine lv_icmp_gt (tgt := 37) hx hb dM_isPrime_20 (by decide) (fun hc3 => ?_) (fun hc3 => ?_)
          · have hlt : P < d * d := (nI_ltI (by omega) (by omega)).mp hc3
            refine lv_iconst (v := 1) hx hb dM_isPrime_37 (by decide) ?_
            exact hret _ _ _ _ _ _ dM_isPrime_38 (⟨by rw [zprb_t ⟨P, rfl, hP1, hP2, fun e9 h1 h2 => hall e9 h1 (Nat.lt_of_not_le (fun h9 => by have := Nat.mul_le_mul h9 h9; omega)) h2⟩]; rfl, rfl⟩) Z
          · have hle : d * d ≤ P := Nat.le_of_not_lt (fun h9 => hc3 (nI_lt h9 (by omega)))
            refine lv_iload_n hx hb dM_isPrime_23 rfl (lv_at hl 1 rfl) ?_
            refine lv_iload_n hx hb dM_isPrime_24 rfl (lv_at hl 0 rfl) ?_
            refine lv_irem hx hb dM_isPrime_25 (nI_ne0 (by omega) (by omega)) ?_
            refine zw_top (nI (P % d)) (pk_rem (by omega) (by omega) (by omega)) ?_
            have hmd := Nat.mod_lt P (show 0 < d by omega)
            refine lv_if_ne (tgt := 31) hx hb dM_isPrime_26 (by decide) (fun hc4 => ?_) (fun hc4 => ?_)
            · have hne : P % d ≠ 0 := fun h9 => hc4 (by rw [h9]; rfl)
              refine lv_iinc (v := (nI (d + 1))) (lv' := [(1, .int (nI (d + 1))), (0, .int (nI P))]) hx hb dM_isPrime_31 hl (k := 0) rfl (nI_1 d) (by decide) rfl (fun ls hl => ?_)
              refine lv_goto (tgt := 16) hx hb dM_isPrime_34 (by decide) ?_
              exact ih (d + 1) ls (by omega) (by omega) (fun e9 h1 h2 h3 => by
                by_cases h4 : e9 = d
                · rw [h4]; exact hne
                · exact hall e9 h1 (by omega) h3) (lv_sub hl [0, 1] rfl)
            · have he : P % d = 0 := (nI_eq (b := 0) (by omega) (by decide)).mp hc4
              have hnp : ¬ zprm (nI P) := fun ⟨P2, h1, _, h3, h4⟩ => by
                have h5 := (nI_eq (by omega) (by omega)).mp h1
                subst h5
                exact h4 d hd2 hle he
              refine lv_iconst (v := 0) hx hb dM_isPrime_29 (by decide) ?_
              exact hret _ _ _ _ _ _ dM_isPrime_30 (⟨by rw [zprb_f hnp]; rfl, rfl⟩) Z
      exact loop 198 2 ls (by omega) (by omega) (fun e9 h1 h2 => absurd h1 (by omega)) hl
    · refine lv_iconst (v := 0) hx hb dM_isPrime_12 (by decide) ?_
      exact hret _ _ _ _ _ _ dM_isPrime_13 (⟨by rw [zprb_f (fun ⟨P, h1, _, h3, _⟩ => hc2 (by rw [h1]; exact nI_le (b := 32003) h3 (by decide)))]; rfl, rfl⟩) Z

set_option maxHeartbeats 4000000 in
set_option maxRecDepth 100000 in
theorem c_K_isPolynomial (l : Launch) {G : zG} {ad : Nat → Nat} {w : Nat → Option va_E} (k : Int32) : Met l yK_isPolynomial wK_isPolynomial (zR (1)) (va_Pc [.int k] (zw_U G ad w)) (va_Qi (S := Nat → Option va_E) (fun r w' => r = zb (zip8 k) ∧ w' = w) (fun u t => zw_U G ((fun _ => ad) u) ((fun w' => w') u) t) (zA G)) 0 0 (zA G) := by
  refine zw_methz (S := Nat → Option va_E) (fa := fun _ => ad) (fw := fun w' => w') (by decide) rfl (Nat.le_of_ble_eq_true rfl) (fun r u h => by rw [h.1]; exact zb_nar _) ?_
  intro p e s m below meth c Q ls C hname Z hl hret
  obtain ⟨hx, hb, hml, hown, hts, hlk⟩ := C
  have hT : ∀ w ∈ zT, w.before ([.int k] : List Value).toArray s = true := fun w h => hts w (List.mem_cons_of_mem _ h)
  have hown : s.vm.findClass "PolynomialDesk" = some m.cls := hown
  have hl : lv_has ls 1 [(0, .int k)] := hl
  refine lv_iload_n hx hb dK_isPolynomial_0 rfl (lv_at hl 0 rfl) ?_
  refine lv_if_lt (tgt := 14) hx hb dK_isPolynomial_1 (by decide) (fun hc => ?_) (fun hc => ?_)
  · refine lv_iconst (v := 0) hx hb dK_isPolynomial_14 (by decide) ?_
    exact hret _ _ _ _ _ _ dK_isPolynomial_15 (⟨by rw [show zip8 k = false from decide_eq_false (fun h9 => h9.1 hc)]; rfl, rfl⟩) Z
  · refine lv_iload_n hx hb dK_isPolynomial_4 rfl (lv_at hl 0 rfl) ?_
    refine lv_bipush (v := 8) hx hb dK_isPolynomial_5 (by decide) ?_
    refine lv_icmp_ge (tgt := 14) hx hb dK_isPolynomial_7 (by decide) (fun hc2 => ?_) (fun hc2 => ?_)
    · refine lv_iconst (v := 0) hx hb dK_isPolynomial_14 (by decide) ?_
      exact hret _ _ _ _ _ _ dK_isPolynomial_15 (⟨by rw [show zip8 k = false from decide_eq_false (fun h9 => absurd hc2 (Int32.not_le.mpr h9.2))]; rfl, rfl⟩) Z
    · refine lv_iconst (v := 1) hx hb dK_isPolynomial_10 (by decide) ?_
      refine lv_goto (tgt := 15) hx hb dK_isPolynomial_11 (by decide) ?_
      exact hret _ _ _ _ _ _ dK_isPolynomial_15 (⟨by rw [show zip8 k = true from decide_eq_true ⟨hc, Int32.not_le.mp hc2⟩]; rfl, rfl⟩) Z

set_option maxHeartbeats 4000000 in
set_option maxRecDepth 100000 in
theorem c_M_isPolynomial (l : Launch) {G : zG} {ad : Nat → Nat} {w : Nat → Option va_E} (k : Int32) : Met l yM_isPolynomial wM_isPolynomial (zR (1)) (va_Pc [.int k] (zw_U G ad w)) (va_Qi (S := Nat → Option va_E) (fun r w' => r = zb (zip8 k) ∧ w' = w) (fun u t => zw_U G ((fun _ => ad) u) ((fun w' => w') u) t) (zA G)) 0 0 (zA G) := by
  refine zw_methz (S := Nat → Option va_E) (fa := fun _ => ad) (fw := fun w' => w') (by decide) rfl (Nat.le_of_ble_eq_true rfl) (fun r u h => by rw [h.1]; exact zb_nar _) ?_
  intro p e s m below meth c Q ls C hname Z hl hret
  obtain ⟨hx, hb, hml, hown, hts, hlk⟩ := C
  have hT : ∀ w ∈ zT, w.before ([.int k] : List Value).toArray s = true := fun w h => hts w (List.mem_cons_of_mem _ h)
  have hown : s.vm.findClass "PolynomialDeskModel" = some m.cls := hown
  have hl : lv_has ls 1 [(0, .int k)] := hl
  refine lv_iload_n hx hb dM_isPolynomial_0 rfl (lv_at hl 0 rfl) ?_
  refine lv_if_lt (tgt := 14) hx hb dM_isPolynomial_1 (by decide) (fun hc => ?_) (fun hc => ?_)
  · refine lv_iconst (v := 0) hx hb dM_isPolynomial_14 (by decide) ?_
    exact hret _ _ _ _ _ _ dM_isPolynomial_15 (⟨by rw [show zip8 k = false from decide_eq_false (fun h9 => h9.1 hc)]; rfl, rfl⟩) Z
  · refine lv_iload_n hx hb dM_isPolynomial_4 rfl (lv_at hl 0 rfl) ?_
    refine lv_bipush (v := 8) hx hb dM_isPolynomial_5 (by decide) ?_
    refine lv_icmp_ge (tgt := 14) hx hb dM_isPolynomial_7 (by decide) (fun hc2 => ?_) (fun hc2 => ?_)
    · refine lv_iconst (v := 0) hx hb dM_isPolynomial_14 (by decide) ?_
      exact hret _ _ _ _ _ _ dM_isPolynomial_15 (⟨by rw [show zip8 k = false from decide_eq_false (fun h9 => absurd hc2 (Int32.not_le.mpr h9.2))]; rfl, rfl⟩) Z
    · refine lv_iconst (v := 1) hx hb dM_isPolynomial_10 (by decide) ?_
      refine lv_goto (tgt := 15) hx hb dM_isPolynomial_11 (by decide) ?_
      exact hret _ _ _ _ _ _ dM_isPolynomial_15 (⟨by rw [show zip8 k = true from decide_eq_true ⟨hc, Int32.not_le.mp hc2⟩]; rfl, rfl⟩) Z

set_option maxHeartbeats 4000000 in
set_option maxRecDepth 100000 in
theorem c_K_requirePolynomial (l : Launch) (hnt : l.stackTraces = false) {G : zG} {ad : Nat → Nat} {w : Nat → Option va_E} (hX : ∀ U H, G.2.2.2 U H → zTHR G U H) (k : Int32) : vx_Met l yK_requirePolynomial wK_requirePolynomial (zRx (3) 1 6) (va_Pc [.int k] (zw_U G ad w)) (va_Qv (S := Nat → Option va_E) (fun w' => zip8 k = true ∧ w' = w) (fun u t => zw_U G ((fun _ => ad) u) ((fun w' => w') u) t) (zA G)) (zXC G ad (fun E u => E = "java/lang/IndexOutOfBoundsException" ∧ zip8 k = false ∧ u = w)) 1 6 (zA G) := by
  refine zx_methv (S := Nat → Option va_E) (fa := fun _ => ad) (fw := fun w' => w') (by decide) rfl (Nat.le_of_ble_eq_true rfl) ?_
  intro p e s m below meth c Q ls C hno hQ Z hl hret
  obtain ⟨hx, hb, hml, hown, hts, hlk⟩ := C
  have hT : ∀ w ∈ zT, w.before ([.int k] : List Value).toArray s = true := fun w h => hts w (List.mem_cons_of_mem _ h)
  have hown : s.vm.findClass "PolynomialDesk" = some m.cls := hown
  have hl : lv_has ls 1 [(0, .int k)] := hl
  have hthr := hX _ _ Z.2.2.2.2.2
  refine lv_iload_n hx hb dK_requirePolynomial_0 rfl (lv_at hl 0 rfl) ?_
  refine zw_calli (va_runS (As := [.int k]) (rest := []) ⟨hx, hb, hml, hown, hts⟩ (c_K_isPolynomial l k) (kw_K_isPolynomial hts ml_K_126 (zRm_fit (by omega) (by omega))) (Z.preS _) rfl rfl hl.1 rfl (lv_room (Nat.le_of_ble_eq_true rfl)) dK_requirePolynomial_1 ⟨Nat.le_of_ble_eq_true rfl, Nat.le_of_ble_eq_true rfl⟩) Z (fun r wq H locs hp Z => ?_)
  obtain ⟨rfl, hw1⟩ := hp
  rw [hw1] at Z
  clear hw1
  refine lv_if_ne (tgt := 17) hx hb dK_requirePolynomial_4 (by decide) (fun hc => ?_) (fun hc => ?_)
  · exact hret _ _ _ _ _ _ _ dK_requirePolynomial_17 (⟨zb_t hc, rfl⟩) Z (Nat.le_of_ble_eq_true rfl) (Nat.le_of_ble_eq_true rfl)
  · have hz : zip8 k = false := zb_f hc
    exact zw_throwS (text := "no such polynomial") hx hb hnt hown zt_IO_f (hT _ mc_K_147) (hT _ mn_IndexOutOfBoundsException) (fun w h => hT w (zt_IO_g w h)) zt_IO_n zt_IO_o hthr (by decide) Z (hl.1.trans hml.symm) dK_requirePolynomial_7 dK_requirePolynomial_10 dK_requirePolynomial_11 dK_requirePolynomial_13 dK_requirePolynomial_16 hno (Nat.le_of_ble_eq_true rfl) (Nat.le_of_ble_eq_true rfl) (Nat.le_of_ble_eq_true rfl) (Nat.le_of_ble_eq_true rfl) hlk hQ (⟨rfl, hz, rfl⟩) (Nat.le_of_ble_eq_true rfl) (Nat.le_of_ble_eq_true rfl)

/-- whether it is a variable's number -/
def zvv (n : Nat) (v : Int32) : Bool := decide (¬ v < 0 ∧ v < nI n)
theorem zvv_ok {n : Nat} {v : Int32} (hn : n ≤ 4) (h : zvv n v = true) : ∃ j : Nat, j < n ∧ v = nI j := by
  have h9 := of_decide_eq_true h
  obtain ⟨j, h1, rfl⟩ := nI_of h9.1
  exact ⟨j, (nI_ltI h1 (by omega)).mp h9.2, rfl⟩

set_option maxHeartbeats 4000000 in
set_option maxRecDepth 100000 in
theorem c_K_requireVariable (l : Launch) (hnt : l.stackTraces = false) {G : zG} {ad : Nat → Nat} {w : Nat → Option va_E} (hX : ∀ U H, G.2.2.2 U H → zTHR G U H) (P n o : Nat) (A : Nat → Nat → Nat) (T : Nat → Nat) (len : Nat) (flt pl : Int32) (out : List Nat) (hD : zDk G ad w P n o A T len flt pl out) (v : Int32) : vx_Met l yK_requireVariable wK_requireVariable (zRx (3) 1 6) (va_Pc [.ref (ad 0), .int v] (zw_U G ad w)) (va_Qv (S := Nat → Option va_E) (fun w' => zvv n v = true ∧ w' = w) (fun u t => zw_U G ((fun _ => ad) u) ((fun w' => w') u) t) (zA G)) (zXC G ad (fun E u => E = "java/lang/IndexOutOfBoundsException" ∧ zvv n v = false ∧ u = w)) 1 6 (zA G) := by
  refine zx_methv (S := Nat → Option va_E) (fa := fun _ => ad) (fw := fun w' => w') (by decide) rfl (Nat.le_of_ble_eq_true rfl) ?_
  intro p e s m below meth c Q ls C hno hQ Z hl hret
  obtain ⟨hx, hb, hml, hown, hts, hlk⟩ := C
  have hT : ∀ w ∈ zT, w.before ([.ref (ad 0), .int v] : List Value).toArray s = true := fun w h => hts w (List.mem_cons_of_mem _ h)
  have hown : s.vm.findClass "PolynomialDesk" = some m.cls := hown
  have hl : lv_has ls 2 [(0, .ref (ad 0)), (1, .int v)] := hl
  have hthr := hX _ _ Z.2.2.2.2.2
  obtain ⟨FR, FE, hE, hf4, hf5, h0, h14, ⟨gn, h15⟩, hpr, hpo⟩ := id hD
  obtain ⟨-, ⟨hF0, hF1, hF2, hF3, hF4⟩, ⟨hP1, hP2⟩, hcfg, -⟩ := id hE.1
  obtain ⟨FP, pb, h3, -⟩ := id hpr
  have hct := zCt_le (n := n)
  have bad : ∀ (H : Heap) (locs : List Loc), zw G ad w s H locs → zvv n v = false → W p l e (zRx (3) 1 6) s m ([.ref (ad 0), .int v] : List Value).toArray below meth c H locs (0) (0) Q (F0 m 15 ls []) := by
    intro H locs Z hz
    exact zw_throwS (text := "no such variable") hx hb hnt hown zt_IO_f (hT _ mc_K_147) (hT _ mn_IndexOutOfBoundsException) (fun w h => hT w (zt_IO_g w h)) zt_IO_n zt_IO_o hthr (by decide) Z (hl.1.trans hml.symm) dK_requireVariable_15 dK_requireVariable_18 dK_requireVariable_19 dK_requireVariable_21 dK_requireVariable_24 hno (Nat.le_of_ble_eq_true rfl) (Nat.le_of_ble_eq_true rfl) (Nat.le_of_ble_eq_true rfl) (Nat.le_of_ble_eq_true rfl) hlk hQ (⟨rfl, hz, rfl⟩) (Nat.le_of_ble_eq_true rfl) (Nat.le_of_ble_eq_true rfl)
  refine lv_iload_n hx hb dK_requireVariable_0 rfl (lv_at hl 1 rfl) ?_
  refine lv_if_lt (tgt := 15) hx hb dK_requireVariable_1 (by decide) (fun hc => ?_) (fun hc => ?_)
  · exact bad _ _ Z (decide_eq_false (fun h9 => h9.1 hc))
  · refine lv_iload_n hx hb dK_requireVariable_4 rfl (lv_at hl 1 rfl) ?_
    refine lv_aload_n hx hb dK_requireVariable_5 rfl (lv_at hl 0 rfl) ?_
    refine zw_get (v := .ref (ad 1)) hx hb hT uK hown Z h0 rfl 0 (by decide) (hT _ mf_K_10) (fun _ h9 => h9) rfl dK_requireVariable_6 ?_
    refine zw_calli (va_runV (As := []) (rest := [.int v]) ⟨hx, hb, hml, hown, hts⟩ (c_R_variables l FR hE.1.1) (kw_R_variables hts ml_K_152 (zRm_fit (by omega) (by omega))) (Z.preV hE.1.1 rfl _) rfl rfl hl.1 rfl (lv_room (Nat.le_of_ble_eq_true rfl)) dK_requireVariable_9 ⟨Nat.le_of_ble_eq_true rfl, Nat.le_of_ble_eq_true rfl⟩) Z (fun r wq H locs hp Z => ?_)
    obtain ⟨rfl, hw1⟩ := hp
    rw [hw1] at Z
    clear hw1
    refine zw_top (nI n) (hF1) ?_
    refine lv_icmp_lt (tgt := 25) hx hb dK_requireVariable_12 (by decide) (fun hc2 => ?_) (fun hc2 => ?_)
    · exact hret _ _ _ _ _ _ _ dK_requireVariable_25 (⟨decide_eq_true ⟨hc, hc2⟩, rfl⟩) Z (Nat.le_of_ble_eq_true rfl) (Nat.le_of_ble_eq_true rfl)
    · exact bad _ _ Z (decide_eq_false (fun h9 => hc2 h9.2))
