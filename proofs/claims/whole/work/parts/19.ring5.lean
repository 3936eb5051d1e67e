theorem up_same {α : Type} {f : Nat → α} {k : Nat} {v : α} (h : f k = v) : va_up f k v = f := by
  funext j
  by_cases e : j = k
  · subst e
    rw [va_up_self, h]
  · rw [va_up_ne _ _ e]
theorem up_swap {α : Type} {f : Nat → α} {k t : Nat} {g y x z : α} (h : t ≠ k) : va_up (va_up (va_up (va_up f k g) t y) k x) t z = va_up (va_up f k x) t z := by
  funext j
  by_cases e : j = t
  · subst e
    rw [va_up_self, va_up_self]
  · rw [va_up_ne _ _ e, va_up_ne _ _ e]
    by_cases e2 : j = k
    · subst e2
      rw [va_up_self, va_up_self]
    · rw [va_up_ne _ _ e2, va_up_ne _ _ e, va_up_ne _ _ e2, va_up_ne _ _ e2]
theorem zsh31 : ∀ b, b < 32 → ((nI b &&& 31).toBitVec.smod 32).toNat = b := by decide +kernel

set_option maxHeartbeats 4000000 in
set_option maxRecDepth 100000 in
theorem c_R_writePower (l : Launch) {G : zG} {ad : Nat → Nat} {w : Nat → Option va_E} (P n o : Nat) (F : Nat → Int32) (hR : zRing G ad w P n o F) (i0 : Nat) (hi0 : i0 < zCt n) (hk0 : zKy n o i0 = 0) (hd0 : zDg n o i0 = 0) (a t e9 d : Nat) (A : Nat → Nat) (gs gt gb : Nat → Int32) (ha : w a = some (zrow G A)) (ht : w t = some (zi G 126 gt)) (hs : w 71 = some (zi G 126 gs)) (h72 : w 72 = some (zi G 126 gb)) (ht0 : 20 ≤ t) (ht1 : t ≠ 71) (ht2 : t ≠ 72) (hA : zpol n P A) (hd : zdle n o A d) (hde : e9 * d ≤ zHi n) (he : e9 < 128) : Met l yR_writePower wR_writePower (zR (3)) (va_Pc [.ref (ad 1), .ref (ad a), .int (nI e9), .ref (ad t)] (zw_U G ad w)) (va_Qv (S := Nat → Option va_E) (fun w' => ∃ g : Nat → Int32, w' = va_up (va_up (va_up w 72 (some (zrow G A))) 71 (some (zi G 126 g))) t (some (zrow G (zpow n o P i0 A (e9))))) (fun u t => zw_U G ((fun _ => ad) u) ((fun w' => w') u) t) (zA G)) 0 0 (zA G) := by
  refine zw_methv (S := Nat → Option va_E) (fa := fun _ => ad) (fw := fun w' => w') (by decide) rfl (Nat.le_of_ble_eq_true rfl) ?_
  intro p e s m below meth c Q ls C hname Z hl hret
  obtain ⟨hx, hb, hml, hown, hts, hlk⟩ := C
  have hT : ∀ w ∈ zT, w.before ([.ref (ad 1), .ref (ad a), .int (nI e9), .ref (ad t)] : List Value).toArray s = true := fun w h => hts w (List.mem_cons_of_mem _ h)
  have hown : s.vm.findClass "PolynomialDesk$Ring" = some m.cls := hown
  have hl : lv_has ls 5 [(0, .ref (ad 1)), (1, .ref (ad a)), (2, .int (nI e9)), (3, .ref (ad t))] := hl
  obtain ⟨h1, ⟨hF0, hF1, hF2, hF3, hF4⟩, ⟨hP1, hP2⟩, hcfg, h4, h16, ⟨dg, h5, hdg⟩, ⟨ky, h6, hky⟩, ⟨wt, h7, hwt⟩, ⟨ix, h8, hix⟩, ⟨ch, h9⟩⟩ := id hR
  have hct := zCt_le (n := n)
  have hn4 := hcfg.2.1
  refine lv_aload_n hx hb dR_writePower_0 rfl (lv_at hl 1 rfl) ?_
  refine lv_iconst (v := 0) hx hb dR_writePower_1 (by decide) ?_
  refine lv_aload_n hx hb dR_writePower_2 rfl (lv_at hl 0 rfl) ?_
  refine zw_get (v := .ref (ad 72)) hx hb hT uR hown Z h1 rfl 12 (by decide) (hT _ mf_R_35) (fun _ h9 => h9) rfl dR_writePower_3 ?_
  refine lv_iconst (v := 0) hx hb dR_writePower_6 (by decide) ?_
  refine lv_bipush (v := 126) hx hb dR_writePower_7 (by decide) ?_
  refine zw_copy hx hb (hml.trans hl.1.symm) hown (hT _ ml_R_86) (hT _ mx_copy) (hT _ mt_copy) (hT _ mn_System) Z (n := 126) ha h72 (by decide) (Nat.le_of_ble_eq_true rfl) (Nat.le_of_ble_eq_true rfl) dR_writePower_9 (fun H locs Z => ?_)
  have hR1 : zRing G ad (va_up w 72 (some (zrow G A))) P n o F := hR.up (by decide)
  have ht9 : va_up w 72 (some (zrow G A)) t = some (zi G 126 gt) := by rw [va_up_ne _ _ ht2]; exact ht
  refine lv_aload_n hx hb dR_writePower_12 rfl (lv_at hl 0 rfl) ?_
  refine lv_iconst (v := 1) hx hb dR_writePower_13 (by decide) ?_
  refine lv_aload_n hx hb dR_writePower_14 rfl (lv_at hl 3 rfl) ?_
  refine zw_callv (va_runV (As := [.int 1, .ref (ad t)]) (rest := []) ⟨hx, hb, hml, hown, hts⟩ (c_R_writeNumber l P n o F hR1 1 t i0 gt ht0 hi0 hk0 ht9) (kw_R_writeNumber hts ml_R_92 (zR_fit (by omega) (by omega))) (Z.preV hR1.1 rfl _) rfl rfl hl.1 rfl (lv_room (Nat.le_of_ble_eq_true rfl)) dR_writePower_15 ⟨Nat.le_of_ble_eq_true rfl, Nat.le_of_ble_eq_true rfl⟩) Z (fun w1 H locs hp Z => ?_)
  have hz1 : zred P 1 = 1 := (zred_nI (P := P) (a := 1) (by decide)).trans (Nat.mod_eq_of_lt (by omega))
  subst hp
  rw [hz1, ← up_same (f := va_up w 72 (some (zrow G A))) (k := 71) (v := some (zi G 126 gs)) (by rw [va_up_ne _ _ (by decide)]; exact hs)] at Z
  refine lv_bipush (v := 6) hx hb dR_writePower_18 (by decide) ?_
  refine lv_istore (lv' := [(4, .int 6), (0, .ref (ad 1)), (1, .ref (ad a)), (2, .int (nI e9)), (3, .ref (ad t))]) hx hb dR_writePower_20 hl (by decide) rfl (fun ls hl => ?_)
  have loop : ∀ (k : Nat) (g : Nat → Int32) (H : Heap) (locs : List Loc) (ls : Array Slot), k ≤ 7 → zw G ad (va_up (va_up (va_up w 72 (some (zrow G A))) 71 (some (zi G 126 g))) t (some (zrow G (zpow n o P i0 A (e9 / 2 ^ k))))) s H locs → lv_has ls 5 [(4, .int (nI k - 1)), (0, .ref (ad 1)), (1, .ref (ad a)), (2, .int (nI e9)), (3, .ref (ad t))] → W p l e (zR (3)) s m ([.ref (ad 1), .ref (ad a), .int (nI e9), .ref (ad t)] : List Value).toArray below meth c H locs 0 0 Q (F0 m 22 ls []) := by
    intro k
    induction k with
    | zero =>
      intro g H locs ls hk Z hl
      rw [Nat.pow_zero, Nat.div_one] at Z
      have hR1 : zRing G ad (va_up (va_up (va_up w 72 (some (zrow G A))) 71 (some (zi G 126 g))) t (some (zrow G (zpow n o P i0 A (e9))))) P n o F := ((hR.up (by decide)).up (by decide)).up ht0
      have hL71 : (va_up (va_up (va_up w 72 (some (zrow G A))) 71 (some (zi G 126 g))) t (some (zrow G (zpow n o P i0 A (e9))))) 71 = some (zi G 126 g) := by rw [va_up_ne _ _ (Ne.symm ht1), va_up_self]
      have hLt : (va_up (va_up (va_up w 72 (some (zrow G A))) 71 (some (zi G 126 g))) t (some (zrow G (zpow n o P i0 A (e9))))) t = some (zrow G (zpow n o P i0 A (e9))) := va_up_self _ _ _
      have hL72 : (va_up (va_up (va_up w 72 (some (zrow G A))) 71 (some (zi G 126 g))) t (some (zrow G (zpow n o P i0 A (e9))))) 72 = some (zrow G A) := by rw [va_up_ne _ _ (Ne.symm ht2), va_up_ne _ _ (by decide), va_up_self]
      refine lv_iload hx hb dR_writePower_22 (lv_at hl 0 rfl) ?_
      refine lv_if_lt (tgt := 68) hx hb dR_writePower_24 (by decide) (fun _ => ?_) (fun hc => absurd (show (nI 0 - 1) < 0 from by decide) hc)
      exact hret _ _ _ _ _ dR_writePower_68 (⟨g, rfl⟩) Z
    | succ k ih =>
      intro g H locs ls hk Z hl
      rw [nI_pred] at hl
      obtain ⟨q, hq⟩ : ∃ q, q = e9 / 2 ^ k := ⟨_, rfl⟩
      have hq2 : e9 / 2 ^ (k + 1) = q / 2 := by rw [Nat.pow_succ, ← Nat.div_div_eq_div_mul, hq]
      have hqe : q ≤ e9 := by rw [hq]; exact Nat.div_le_self _ _
      rw [hq2] at Z
      have hmd : q * d ≤ zHi n := Nat.le_trans (Nat.mul_le_mul_right d hqe) hde
      have hhalf : q / 2 * d + q / 2 * d ≤ q * d := by rw [← Nat.add_mul]; exact Nat.mul_le_mul_right d (by omega)
      have hdl := zpow_dle (P := P) hcfg hd0 hd hde
      have cont : ∀ (g : Nat → Int32) (H : Heap) (locs : List Loc) (ls : Array Slot), zw G ad (va_up (va_up (va_up w 72 (some (zrow G A))) 71 (some (zi G 126 g))) t (some (zrow G (zpow n o P i0 A (q / 2 + q / 2))))) s H locs → lv_has ls 5 [(4, .int (nI k)), (0, .ref (ad 1)), (1, .ref (ad a)), (2, .int (nI e9)), (3, .ref (ad t))] → W p l e (zR (3)) s m ([.ref (ad 1), .ref (ad a), .int (nI e9), .ref (ad t)] : List Value).toArray below meth c H locs 0 0 Q (F0 m 42 ls []) := by
        intro g H locs ls Z hl
        have hR1 : zRing G ad (va_up (va_up (va_up w 72 (some (zrow G A))) 71 (some (zi G 126 g))) t (some (zrow G (zpow n o P i0 A (q / 2 + q / 2))))) P n o F := ((hR.up (by decide)).up (by decide)).up ht0
        have hL71 : (va_up (va_up (va_up w 72 (some (zrow G A))) 71 (some (zi G 126 g))) t (some (zrow G (zpow n o P i0 A (q / 2 + q / 2))))) 71 = some (zi G 126 g) := by rw [va_up_ne _ _ (Ne.symm ht1), va_up_self]
        have hLt : (va_up (va_up (va_up w 72 (some (zrow G A))) 71 (some (zi G 126 g))) t (some (zrow G (zpow n o P i0 A (q / 2 + q / 2))))) t = some (zrow G (zpow n o P i0 A (q / 2 + q / 2))) := va_up_self _ _ _
        have hL72 : (va_up (va_up (va_up w 72 (some (zrow G A))) 71 (some (zi G 126 g))) t (some (zrow G (zpow n o P i0 A (q / 2 + q / 2))))) 72 = some (zrow G A) := by rw [va_up_ne _ _ (Ne.symm ht2), va_up_ne _ _ (by decide), va_up_self]
        refine lv_iload_n hx hb dR_writePower_42 rfl (lv_at hl 3 rfl) ?_
        refine lv_iload hx hb dR_writePower_43 (lv_at hl 0 rfl) ?_
        refine lv_ishr hx hb dR_writePower_45 ?_
        refine zw_top (nI q) (by rw [hq]; exact pk_shrN (by omega) _ k (zsh31 k (by omega))) ?_
        refine lv_iconst (v := 1) hx hb dR_writePower_46 (by decide) ?_
        refine lv_iand hx hb dR_writePower_47 ?_
        refine zw_top (nI (q % 2)) (pk_andN (by omega) 1 (by decide)) ?_
        refine lv_iconst (v := 1) hx hb dR_writePower_48 (by decide) ?_
        refine lv_icmp_ne (tgt := 62) hx hb dR_writePower_49 (by decide) (fun hc => ?_) (fun hc => ?_)
        · have hq0 : q % 2 = 0 := by
            have : q % 2 ≠ 1 := fun h9 => hc (by rw [h9]; rfl)
            omega
          refine lv_iinc (v := ((nI k) + (-1))) (lv' := [(4, .int ((nI k) + (-1))), (0, .ref (ad 1)), (1, .ref (ad a)), (2, .int (nI e9)), (3, .ref (ad t))]) hx hb dR_writePower_62 hl (k := 0) rfl (rfl) (by decide) rfl (fun ls hl => ?_)
          refine lv_goto (tgt := 22) hx hb dR_writePower_65 (by decide) ?_
          exact ih g _ _ ls (by omega) (by rw [← hq, show q = q / 2 + q / 2 by omega]; exact Z) (by rw [Int32.sub_eq_add_neg]; exact (lv_sub hl [0, 1, 2, 3, 4] rfl))
        · have hq1 : q % 2 = 1 := (nI_eq (by omega) (by decide)).mp (show nI (q % 2) = nI 1 from hc)
          have hdl1 := hdl (q / 2 + q / 2) (by omega)
          have hdd : (q / 2 + q / 2) * d + d ≤ zHi n := by
            have h9 : (q / 2 + q / 2 + 1) * d ≤ q * d := Nat.mul_le_mul_right d (by omega)
            rw [Nat.add_mul, Nat.one_mul] at h9
            omega
          refine lv_aload_n hx hb dR_writePower_52 rfl (lv_at hl 1 rfl) ?_
          refine lv_aload_n hx hb dR_writePower_53 rfl (lv_at hl 4 rfl) ?_
          refine lv_aload_n hx hb dR_writePower_54 rfl (lv_at hl 1 rfl) ?_
          refine zw_get (v := .ref (ad 72)) hx hb hT uR hown Z hR1.1 rfl 12 (by decide) (hT _ mf_R_35) (fun _ h9 => h9) rfl dR_writePower_55 ?_
          refine lv_aload_n hx hb dR_writePower_58 rfl (lv_at hl 4 rfl) ?_
          refine zw_callv (va_runV (As := [.ref (ad t), .ref (ad 72), .ref (ad t)]) (rest := []) ⟨hx, hb, hml, hown, hts⟩ (c_R_writeProduct l P n o F hR1 t 72 t (zpow n o P i0 A (q / 2 + q / 2)) A g _ ht1 (by decide) ht0 (zpow_pol hP1 hi0 _).1 hA.1 hLt hL72 hL71 hLt (fun i j hi hj h8 h9 => by have := hdl1 i hi h8; have := hd j hj h9; omega)) (kw_R_writeProduct hts ml_R_96 (zR_fit (by omega) (by omega))) (Z.preV hR1.1 rfl _) rfl rfl hl.1 rfl (lv_room (Nat.le_of_ble_eq_true rfl)) dR_writePower_59 ⟨Nat.le_of_ble_eq_true rfl, Nat.le_of_ble_eq_true rfl⟩) Z (fun w1 H locs hp Z => ?_)
          subst hp
          rw [up_swap ht1] at Z
          refine lv_iinc (v := ((nI k) + (-1))) (lv' := [(4, .int ((nI k) + (-1))), (0, .ref (ad 1)), (1, .ref (ad a)), (2, .int (nI e9)), (3, .ref (ad t))]) hx hb dR_writePower_62 hl (k := 0) rfl (rfl) (by decide) rfl (fun ls hl => ?_)
          refine lv_goto (tgt := 22) hx hb dR_writePower_65 (by decide) ?_
          exact ih _ _ _ ls (by omega) (by rw [← hq, show q = q / 2 + q / 2 + 1 by omega]; exact Z) (by rw [Int32.sub_eq_add_neg]; exact (lv_sub hl [0, 1, 2, 3, 4] rfl))
      have hR1 : zRing G ad (va_up (va_up (va_up w 72 (some (zrow G A))) 71 (some (zi G 126 g))) t (some (zrow G (zpow n o P i0 A (q / 2))))) P n o F := ((hR.up (by decide)).up (by decide)).up ht0
      have hL71 : (va_up (va_up (va_up w 72 (some (zrow G A))) 71 (some (zi G 126 g))) t (some (zrow G (zpow n o P i0 A (q / 2))))) 71 = some (zi G 126 g) := by rw [va_up_ne _ _ (Ne.symm ht1), va_up_self]
      have hLt : (va_up (va_up (va_up w 72 (some (zrow G A))) 71 (some (zi G 126 g))) t (some (zrow G (zpow n o P i0 A (q / 2))))) t = some (zrow G (zpow n o P i0 A (q / 2))) := va_up_self _ _ _
      have hL72 : (va_up (va_up (va_up w 72 (some (zrow G A))) 71 (some (zi G 126 g))) t (some (zrow G (zpow n o P i0 A (q / 2))))) 72 = some (zrow G A) := by rw [va_up_ne _ _ (Ne.symm ht2), va_up_ne _ _ (by decide), va_up_self]
      refine lv_iload hx hb dR_writePower_22 (lv_at hl 0 rfl) ?_
      refine lv_if_lt (tgt := 68) hx hb dR_writePower_24 (by decide) (fun hc => absurd hc (show ¬ ((nI k) < 0) from nI_pos (by omega))) (fun _ => ?_)
      refine lv_iload_n hx hb dR_writePower_27 rfl (lv_at hl 3 rfl) ?_
      refine lv_iload hx hb dR_writePower_28 (lv_at hl 0 rfl) ?_
      refine lv_ishr hx hb dR_writePower_30 ?_
      refine zw_top (nI q) (by rw [hq]; exact pk_shrN (by omega) _ k (zsh31 k (by omega))) ?_
      refine lv_iconst (v := 1) hx hb dR_writePower_31 (by decide) ?_
      refine lv_icmp_le (tgt := 42) hx hb dR_writePower_32 (by decide) (fun hc => ?_) (fun hc => ?_)
      · have hq1 : q ≤ 1 := (nI_leI (by omega) (by decide)).mp (show nI q ≤ nI 1 from hc)
        exact cont g _ _ ls (by rw [show q / 2 + q / 2 = q / 2 by omega]; exact Z) (lv_sub hl [0, 1, 2, 3, 4] rfl)
      · have hdl1 := hdl (q / 2) (by omega)
        refine lv_aload_n hx hb dR_writePower_35 rfl (lv_at hl 1 rfl) ?_
        refine lv_aload_n hx hb dR_writePower_36 rfl (lv_at hl 4 rfl) ?_
        refine lv_aload_n hx hb dR_writePower_37 rfl (lv_at hl 4 rfl) ?_
        refine lv_aload_n hx hb dR_writePower_38 rfl (lv_at hl 4 rfl) ?_
        refine zw_callv (va_runV (As := [.ref (ad t), .ref (ad t), .ref (ad t)]) (rest := []) ⟨hx, hb, hml, hown, hts⟩ (c_R_writeProduct l P n o F hR1 t t t (zpow n o P i0 A (q / 2)) (zpow n o P i0 A (q / 2)) g _ ht1 ht1 ht0 (zpow_pol hP1 hi0 _).1 (zpow_pol hP1 hi0 _).1 hLt hLt hL71 hLt (fun i j hi hj h8 h9 => by have := hdl1 i hi h8; have := hdl1 j hj h9; omega)) (kw_R_writeProduct hts ml_R_96 (zR_fit (by omega) (by omega))) (Z.preV hR1.1 rfl _) rfl rfl hl.1 rfl (lv_room (Nat.le_of_ble_eq_true rfl)) dR_writePower_39 ⟨Nat.le_of_ble_eq_true rfl, Nat.le_of_ble_eq_true rfl⟩) Z (fun w1 H locs hp Z => ?_)
        subst hp
        rw [up_swap ht1] at Z
        rw [zpow_add hP1 hcfg hi0 hk0 hd0 hd hde (q / 2) (q / 2) (by omega)] at Z
        exact cont _ _ _ ls Z (lv_sub hl [0, 1, 2, 3, 4] rfl)
  exact loop 7 gs _ _ ls (by omega) (by rw [Nat.div_eq_of_lt (show e9 < 2 ^ 7 by omega)]; exact Z) hl
