theorem zsum_nat {n P : Nat} {S A : Nat → Nat} {f : Int32} (hP1 : 2 ≤ P) (hP2 : P ≤ 32003) (hS : zpol n P S) (hA : zpol n P A) : zsum P (zCt n) (fun j => nI (S j)) f (fun j => nI (A j)) (fun j => nI (S j)) = fun j => nI (zadd n P (zred P f) S A j) := by
  funext j
  unfold zsum zadd
  by_cases h : j < zCt n
  · have h1 := hS.1 j
    have h2 := hA.1 j
    have h3 := zred_lt f (P := P) (by omega)
    have h4 := zmul_lt hP2 h3 h2
    rw [if_pos h, if_pos h, pk_mul, nI_add, zred_nI (by omega)]
  · rw [if_neg h, if_neg h]; show nI (S j) = nI 0; rw [hS.2 j (by omega)]
theorem zred_one {P : Nat} (h : 2 ≤ P) : zred P 1 = 1 := (zred_nI (P := P) (a := 1) (by decide)).trans (Nat.mod_eq_of_lt (by omega))
theorem zred_m1 {P : Nat} (h : 2 ≤ P) : zred P (-1) = P - 1 := by
  unfold zred
  rw [show (-1 : Int32).toInt = -1 from by decide, show (-1 : Int) % (P : Int) = P - 1 from ?_]
  · omega
  · rw [show (-1 : Int) = (P - 1) + (P : Int) * (-1) by omega, Int.add_mul_emod_self_left]
    exact Int.emod_eq_of_lt (by omega) (by omega)
/-- a sign as the class has it -/
def zsi (c : Int32) : Int32 := if c = 45 then -1 else 1
theorem zsi_red {P : Nat} (h : 2 ≤ P) (c : Int32) : zred P (zsi c) = zsg P c := by
  unfold zsi zsg
  split
  · exact zred_m1 h
  · exact zred_one h
theorem zpol_0 (n : Nat) {P : Nat} (h : 0 < P) : zpol n P (fun _ => 0) := ⟨fun _ => h, fun _ _ => rfl⟩

set_option maxHeartbeats 4000000 in
set_option maxRecDepth 100000 in
theorem c_E_readSum (l : Launch) {G : zG} {ad : Nat → Nat} (P n o : Nat) (FR : Nat → Int32) (T : Nat → Nat) (len k : Nat) (hk : k ≤ 20) (hTc : zTC l G ad P n o FR T len k) : zSC l G ad P n o FR T len k := by
  intro w FE p9 hE hat hf0 hp9
  refine zw_methv (S := Nat → Option va_E) (fa := fun _ => ad) (fw := fun w' => w') (by decide) rfl (Nat.le_of_ble_eq_true rfl) ?_
  intro p e s m below meth c Q ls C hname Z hl hret
  obtain ⟨hx, hb, hml, hown, hts, hlk⟩ := C
  have hT : ∀ w ∈ zT, w.before ([.ref (ad 2), .int (nI (20 - k))] : List Value).toArray s = true := fun w h => hts w (List.mem_cons_of_mem _ h)
  have hown : s.vm.findClass "PolynomialDesk$Reader" = some m.cls := hown
  have hl : lv_has ls 5 [(0, .ref (ad 2)), (1, .int (nI (20 - k)))] := hl
  obtain ⟨hR, h2, ⟨tx, h10, htx⟩, hTb, hlen, hFl, h11, h12, hrows⟩ := id hE
  obtain ⟨-, ⟨hF0, hF1, hF2, hF3, hF4⟩, ⟨hP1, hP2⟩, hcfg, -⟩ := id hR
  have hi0 := zIdx_ok (n := n) (o := o) (k := 0) (by obtain ⟨i, a, b, _⟩ := zConst hcfg; exact ⟨i, a, b⟩)
  have hd0 : zDg n o (zIdx n o 0) = 0 := by obtain ⟨i, a, b, c9⟩ := zConst hcfg; rw [zKy_inj hcfg hi0.1 a (by rw [hi0.2, b])]; exact c9
  have hn4 := hcfg.2.1
  have hgr := zGrp_ok (T := T) (len := len) hcfg hP1 k
  obtain ⟨gs0, hgs0⟩ := hrows (28 + (20 - k)) (by omega) (by omega)
  refine lv_iload_n hx hb dE_readSum_0 rfl (lv_at hl 1 rfl) ?_
  refine lv_if_lt (tgt := 10) hx hb dE_readSum_1 (by decide) (fun hc => absurd hc (show ¬ (((nI (20 - k)) : Int32) < 0) from nI_pos (by omega))) (fun _ => ?_)
  refine lv_iload_n hx hb dE_readSum_4 rfl (lv_at hl 1 rfl) ?_
  refine lv_bipush (v := 20) hx hb dE_readSum_5 (by decide) ?_
  refine lv_icmp_le (tgt := 11) hx hb dE_readSum_7 (by decide) (fun _ => ?_) (fun hc => absurd (show ((nI (20 - k)) : Int32) ≤ 20 from nI_le (b := 20) (by omega) (by decide)) hc)
  refine lv_aload_n hx hb dE_readSum_11 rfl (lv_at hl 0 rfl) ?_
  refine zw_get (v := .ref (ad 11)) hx hb hT uE hown Z hE.2.1 rfl 6 (by decide) (hT _ mf_E_27) (fun _ h9 => h9) rfl dE_readSum_12 ?_
  refine lv_iload_n hx hb dE_readSum_15 rfl (lv_at hl 1 rfl) ?_
  refine zw_aald (v := .ref (ad (28 + (20 - k)))) hx hb Z h11 (vin (by omega) (by decide)) (by rw [ncl (by omega)]; rfl) dE_readSum_16 ?_
  refine lv_astore_n (lv' := [(2, .ref (ad (28 + (20 - k)))), (0, .ref (ad 2)), (1, .int (nI (20 - k)))]) hx hb dE_readSum_17 rfl hl (by decide) rfl (fun ls hl => ?_)
  refine lv_aload_n hx hb dE_readSum_18 rfl (lv_at hl 0 rfl) ?_
  refine lv_iconst (v := 0) hx hb dE_readSum_19 (by decide) ?_
  refine zw_callv (va_runS (As := [.ref (ad (28 + (20 - k))), .int 0]) (rest := []) ⟨hx, hb, hml, hown, hts⟩ (c_J_fill l (28 + (20 - k)) 126 gs0 0 hgs0 (by decide)) (kw_J_fill hts ml_E_64 (zR_fit (by omega) (by omega))) (Z.preS _) rfl rfl hl.1 rfl (lv_room (Nat.le_of_ble_eq_true rfl)) dE_readSum_20 ⟨Nat.le_of_ble_eq_true rfl, Nat.le_of_ble_eq_true rfl⟩) Z (fun w1 H locs hp Z => ?_)
  subst hp
  have hE1 : zRdr G ad (va_up w (28 + (20 - k)) (some (zi G 126 (fun _ => 0)))) P n o FR FE T len := hE.row (by omega) (by omega)
  have hz1 : zrf (20 - k) (20 - k) w (va_up w (28 + (20 - k)) (some (zi G 126 (fun _ => 0)))) := zrf.row (by omega) (by omega) (by omega)
  have hs1 : (va_up w (28 + (20 - k)) (some (zi G 126 (fun _ => 0)))) (28 + (20 - k)) = some (zrow G (fun _ => 0)) := va_up_self _ _ _
  generalize (va_up w (28 + (20 - k)) (some (zi G 126 (fun _ => 0)))) = w1 at hE1 hz1 hs1 Z
  obtain ⟨q, hq⟩ : ∃ q, q = zsp T len p9 := ⟨_, rfl⟩
  have hql := zsp_in (T := T) hp9
  rw [← hq] at hql
  refine lv_iconst (v := 1) hx hb dE_readSum_23 (by decide) ?_
  refine lv_istore_n (lv' := [(3, .int 1), (2, .ref (ad (28 + (20 - k)))), (0, .ref (ad 2)), (1, .int (nI (20 - k)))]) hx hb dE_readSum_24 rfl hl (by decide) rfl (fun ls hl => ?_)
  refine lv_aload_n hx hb dE_readSum_25 rfl (lv_at hl 2 rfl) ?_
  refine zw_calli (va_runV (As := []) (rest := []) ⟨hx, hb, hml, hown, hts⟩ (c_E_nextByte l P n o FR FE T len hE1 p9 hat hp9) (kw_E_nextByte hts ml_E_52 (zR_fit (by omega) (by omega))) (Z.preV hE1.2.1 rfl _) rfl rfl hl.1 rfl (lv_room (Nat.le_of_ble_eq_true rfl)) dE_readSum_26 ⟨Nat.le_of_ble_eq_true rfl, Nat.le_of_ble_eq_true rfl⟩) Z (fun r w2 H locs hp Z => ?_)
  obtain ⟨hr1, hw2⟩ := hp
  rw [← hq] at hr1 hw2
  subst hr1
  subst hw2
  have hE2 : zRdr G ad (va_up w1 2 (some (oE ad (upd FE 3 (nI q))))) P n o FR (upd FE 3 (nI q)) T len := hE1.obj rfl
  refine lv_bipush (v := 45) hx hb dE_readSum_29 (by decide) ?_
  have loop : ∀ (f9 : Nat) (sg : Int32) (S : Nat → Nat) (e1 : Nat) (wA : Nat → Option va_E) (FA : Nat → Int32) (H : Heap) (locs : List Loc) (ls : Array Slot), f9 ≤ 199 → zRdr G ad wA P n o FR FA T len → zrf (20 - k) (20 - k) w wA → FA 3 = nI e1 → FA 4 = 0 → FA 5 = FE 5 → wA (28 + (20 - k)) = some (zrow G S) → e1 ≤ len → zpol n P S → zSum n o P T len (zGrp n o P T len k) p9 = zSL n o P T len (zGrp n o P T len k) f9 S e1 → zw G ad wA s H locs → lv_has ls 5 [(4, .int (nI (200 - f9))), (3, .int sg), (2, .ref (ad (28 + (20 - k)))), (0, .ref (ad 2)), (1, .int (nI (20 - k)))] → W p l e (zR (6 * k + 10)) s m ([.ref (ad 2), .int (nI (20 - k))] : List Value).toArray below meth c H locs 0 0 Q (F0 m 70 ls []) := by
    intro f9
    induction f9 with
    | zero =>
      intro sg S e1 wA FA H locs ls hf9 hEA hzA haA hfA h5A hrA heA hpS hsp Z hl
      refine lv_iload hx hb dE_readSum_70 (lv_at hl 0 rfl) ?_
      refine lv_sipush (v := 200) hx hb dE_readSum_72 (by decide) ?_
      refine lv_icmp_ge (tgt := 147) hx hb dE_readSum_75 (by decide) (fun _ => ?_) (fun hc => absurd (show (200 : Int32) ≤ (nI (200 - 0)) from by decide) hc)
      exact hret _ _ _ _ _ dE_readSum_147 (⟨FA, hEA, hzA, by rw [hsp]; exact ⟨haA, hfA, h5A, hrA⟩⟩) Z
    | succ f9 ih =>
      intro sg S e1 wA FA H locs ls hf9 hEA hzA haA hfA h5A hrA heA hpS hsp Z hl
      obtain ⟨q, hq⟩ : ∃ q, q = zsp T len e1 := ⟨_, rfl⟩
      have hql := zsp_in (T := T) heA
      rw [← hq] at hql
      have hqi : zsp T len q = q := by rw [hq]; exact zsp_idem heA
      refine lv_iload hx hb dE_readSum_70 (lv_at hl 0 rfl) ?_
      refine lv_sipush (v := 200) hx hb dE_readSum_72 (by decide) ?_
      refine lv_icmp_ge (tgt := 147) hx hb dE_readSum_75 (by decide) (fun hc => absurd hc (show ¬ ((200 : Int32) ≤ (nI (200 - (f9 + 1)))) from nI_ge (b := 200) (by omega) (by decide))) (fun _ => ?_)
      refine lv_aload_n hx hb dE_readSum_78 rfl (lv_at hl 3 rfl) ?_
      refine zw_get (v := .int (FA 4)) hx hb hT uE hown Z hEA.2.1 rfl 4 (by decide) (hT _ mf_E_42) (fun _ h9 => h9) rfl dE_readSum_79 ?_
      refine zw_top (0) (hfA) ?_
      refine lv_if_ne (tgt := 147) hx hb dE_readSum_82 (by decide) (fun hc => absurd (show ((0) : Int32) = 0 from rfl) hc) (fun _ => ?_)
      refine lv_aload_n hx hb dE_readSum_85 rfl (lv_at hl 3 rfl) ?_
      refine zw_calli (va_runV (As := []) (rest := []) ⟨hx, hb, hml, hown, hts⟩ (c_E_nextByte l P n o FR FA T len hEA e1 haA heA) (kw_E_nextByte hts ml_E_52 (zR_fit (by omega) (by omega))) (Z.preV hEA.2.1 rfl _) rfl rfl hl.1 rfl (lv_room (Nat.le_of_ble_eq_true rfl)) dE_readSum_86 ⟨Nat.le_of_ble_eq_true rfl, Nat.le_of_ble_eq_true rfl⟩) Z (fun r wB H locs hp Z => ?_)
      obtain ⟨hr1, hwB⟩ := hp
      rw [← hq] at hr1 hwB
      subst hr1
      subst hwB
      have hEB : zRdr G ad (va_up wA 2 (some (oE ad (upd FA 3 (nI q))))) P n o FR (upd FA 3 (nI q)) T len := hEA.obj rfl
      refine zw_calli (va_runS (As := [.int (zch T len q)]) (rest := []) ⟨hx, hb, hml, hown, hts⟩ (c_E_isSign l (zch T len q)) (kw_E_isSign hts ml_E_77 (zR_fit (by omega) (by omega))) (Z.preS _) rfl rfl hl.1 rfl (lv_room (Nat.le_of_ble_eq_true rfl)) dE_readSum_89 ⟨Nat.le_of_ble_eq_true rfl, Nat.le_of_ble_eq_true rfl⟩) Z (fun r wq H locs hp Z => ?_)
      obtain ⟨rfl, hw1⟩ := hp
      rw [hw1] at Z
      clear hw1
      refine lv_if_eq (tgt := 147) hx hb dE_readSum_92 (by decide) (fun hc => ?_) (fun hc => ?_)
      · have hns : ¬ (zch T len q = 43 ∨ zch T len q = 45) := fun h9 => by rw [decide_eq_true h9] at hc; exact absurd hc (by decide)
        exact hret _ _ _ _ _ dE_readSum_147 (⟨upd FA 3 (nI q), hEB, hzA.trans (zrf.obj (by omega) (by omega)), by rw [hsp, zSL, ← hq, if_neg hns]; exact ⟨rfl, hfA, h5A, by rw [va_up_ne _ _ (by omega)]; exact hrA⟩⟩) Z
      · have hs9 : zch T len q = 43 ∨ zch T len q = 45 := by
          apply Classical.byContradiction
          intro h9
          rw [decide_eq_false h9] at hc
          exact hc rfl
        have hqlt : q < len := by
          rcases hs9 with h9 | h9
          · exact (zch_c h9 (by decide)).1
          · exact (zch_c h9 (by decide)).1
        refine lv_aload_n hx hb dE_readSum_95 rfl (lv_at hl 3 rfl) ?_
        refine zw_calli (va_runV (As := []) (rest := []) ⟨hx, hb, hml, hown, hts⟩ (c_E_nextByte l P n o FR _ T len hEB q rfl (by omega)) (kw_E_nextByte hts ml_E_52 (zR_fit (by omega) (by omega))) (Z.preV hEB.2.1 rfl _) rfl rfl hl.1 rfl (lv_room (Nat.le_of_ble_eq_true rfl)) dE_readSum_96 ⟨Nat.le_of_ble_eq_true rfl, Nat.le_of_ble_eq_true rfl⟩) Z (fun r wC H locs hp Z => ?_)
        obtain ⟨hr1, hwC⟩ := hp
        rw [hqi] at hr1 hwC
        subst hr1
        rw [bx_uu, upd_upd] at hwC
        subst hwC
        refine lv_bipush (v := 45) hx hb dE_readSum_99 (by decide) ?_
        have cont : ∀ (ls : Array Slot), lv_has ls 5 [(3, .int (zsi (zch T len q))), (4, .int (nI (200 - (f9 + 1)))), (2, .ref (ad (28 + (20 - k)))), (0, .ref (ad 2)), (1, .int (nI (20 - k)))] → W p l e (zR (6 * k + 10)) s m ([.ref (ad 2), .int (nI (20 - k))] : List Value).toArray below meth c H locs 0 0 Q (F0 m 110 ls []) := by
          intro ls hl
          refine lv_aload_n hx hb dE_readSum_110 rfl (lv_at hl 3 rfl) ?_
          refine lv_dup hx hb dE_readSum_111 rfl ?_
          refine zw_get (v := .int ((upd FA 3 (nI q)) 3)) hx hb hT uE hown Z hEB.2.1 rfl 3 (by decide) (hT _ mf_E_45) (fun _ h9 => h9) rfl dE_readSum_112 ?_
          refine zw_top (nI q) (rfl) ?_
          refine lv_iconst (v := 1) hx hb dE_readSum_115 (by decide) ?_
          refine lv_iadd hx hb dE_readSum_116 ?_
          refine zw_top (nI (q + 1)) (nI_1 q) ?_
          refine zw_put (v := .int (nI (q + 1))) hx hb hT uE hown tE tE_ok nE Z hEB.2.1 rfl 3 (by decide) (hT _ mf_E_45) (fun _ h9 => h9) rfl rfl rfl (by simp) dE_readSum_117 (fun H locs Z => ?_)
          have Z : zw G ad (va_up (va_up wA 2 (some (oE ad (upd FA 3 (nI q))))) 2 (some (oE ad (upd (upd FA 3 (nI q)) 3 (nI (q + 1)))))) s H locs := Z
          rw [bx_uu, upd_upd] at Z
          have hEC : zRdr G ad (va_up wA 2 (some (oE ad (upd FA 3 (nI (q + 1)))))) P n o FR (upd FA 3 (nI (q + 1))) T len := hEA.obj rfl
          refine lv_aload_n hx hb dE_readSum_120 rfl (lv_at hl 3 rfl) ?_
          refine lv_iload_n hx hb dE_readSum_121 rfl (lv_at hl 4 rfl) ?_
          refine zw_callv (va_runV (As := [.int (nI (20 - k))]) (rest := []) ⟨hx, hb, hml, hown, hts⟩ (hTc _ _ (q + 1) hEC rfl hfA (by omega)) (kw_E_readTerm hts ml_E_70 (zR_fit (by omega) (by omega))) (Z.preV hEC.2.1 rfl _) rfl rfl hl.1 rfl (lv_room (Nat.le_of_ble_eq_true rfl)) dE_readSum_122 ⟨Nat.le_of_ble_eq_true rfl, Nat.le_of_ble_eq_true rfl⟩) Z (fun wD H locs hp Z => ?_)
          obtain ⟨FD, hED, hzD, hmD⟩ := hp
          have hrD : wD (28 + (20 - k)) = some (zrow G S) := by rw [hzD _ (by omega), va_up_ne _ _ (by omega)]; exact hrA
          have hzD2 : zrf (20 - k) (20 - k) w wD := (hzA.trans (zrf.obj (by omega) (by omega))).trans (hzD.mono (by omega) (by omega))
          have g12 := hED.2.2.2.2.2.2.2.1
          obtain ⟨gp, hgp⟩ := hED.2.2.2.2.2.2.2.2 (49 + (20 - k)) (by omega) (by omega)
          refine lv_aload_n hx hb dE_readSum_125 rfl (lv_at hl 3 rfl) ?_
          refine zw_get (v := .ref (ad 1)) hx hb hT uE hown Z hED.2.1 rfl 0 (by decide) (hT _ mf_E_9) (fun _ h9 => h9) rfl dE_readSum_126 ?_
          refine lv_aload_n hx hb dE_readSum_129 rfl (lv_at hl 2 rfl) ?_
          refine lv_iload_n hx hb dE_readSum_130 rfl (lv_at hl 0 rfl) ?_
          refine lv_aload_n hx hb dE_readSum_131 rfl (lv_at hl 3 rfl) ?_
          refine zw_get (v := .ref (ad 12)) hx hb hT uE hown Z hED.2.1 rfl 7 (by decide) (hT _ mf_E_30) (fun _ h9 => h9) rfl dE_readSum_132 ?_
          refine lv_iload_n hx hb dE_readSum_135 rfl (lv_at hl 4 rfl) ?_
          refine zw_aald (v := .ref (ad (49 + (20 - k)))) hx hb Z g12 (vin (by omega) (by decide)) (by rw [ncl (by omega)]; rfl) dE_readSum_136 ?_
          refine lv_aload_n hx hb dE_readSum_137 rfl (lv_at hl 2 rfl) ?_
          refine zw_callv (va_runV (As := [.ref (ad (28 + (20 - k))), .int (zsi (zch T len q)), .ref (ad (49 + (20 - k))), .ref (ad (28 + (20 - k)))]) (rest := []) ⟨hx, hb, hml, hown, hts⟩ (c_R_writeSum l P n o FR hED.1 (28 + (20 - k)) (49 + (20 - k)) (28 + (20 - k)) (zsi (zch T len q)) _ gp _ (by omega) hrD hgp hrD) (kw_R_writeSum hts ml_E_73 (zR_fit (by omega) (by omega))) (Z.preV hED.1.1 rfl _) rfl rfl hl.1 rfl (lv_room (Nat.le_of_ble_eq_true rfl)) dE_readSum_138 ⟨Nat.le_of_ble_eq_true rfl, Nat.le_of_ble_eq_true rfl⟩) Z (fun wE H locs hp Z => ?_)
          subst hp
          have hEE := hED.row (t := 28 + (20 - k)) (f := zsum P (zCt n) (fun j => nI (S j)) (zsi (zch T len q)) gp (fun j => nI (S j))) (by omega) (by omega)
          have hzE := hzD2.trans (zrf.row (t := 28 + (20 - k)) (x := some (zi G 126 (zsum P (zCt n) (fun j => nI (S j)) (zsi (zch T len q)) gp (fun j => nI (S j))))) (by omega) (by omega) (by omega))
          refine lv_iinc (v := (nI ((200 - (f9 + 1)) + 1))) (lv' := [(4, .int (nI ((200 - (f9 + 1)) + 1))), (3, .int (zsi (zch T len q))), (2, .ref (ad (28 + (20 - k)))), (0, .ref (ad 2)), (1, .int (nI (20 - k)))]) hx hb dE_readSum_141 hl (k := 1) rfl (nI_1 (200 - (f9 + 1))) (by decide) rfl (fun ls hl => ?_)
          refine lv_goto (tgt := 70) hx hb dE_readSum_144 (by decide) ?_
          cases hb8 : zTerm n o P T len (zGrp n o P T len k) (q + 1) with
          | inl x9 =>
            obtain ⟨f, pl⟩ := x9
            rw [hb8] at hmD
            have hspF : zSum n o P T len (zGrp n o P T len k) p9 = .inl (f, pl) := by rw [hsp, zSL, ← hq, if_pos hs9, hb8]
            refine lv_iload hx hb dE_readSum_70 (lv_at hl 0 rfl) ?_
            refine lv_sipush (v := 200) hx hb dE_readSum_72 (by decide) ?_
            refine lv_icmp_ge (tgt := 147) hx hb dE_readSum_75 (by decide) (fun hc9 => ?_) (fun hc9 => ?_)
            · exact hret _ _ _ _ _ dE_readSum_147 (⟨FD, hEE, hzE, by rw [hspF]; exact hmD⟩) Z
            · refine lv_aload_n hx hb dE_readSum_78 rfl (lv_at hl 3 rfl) ?_
              refine zw_get (v := .int (FD 4)) hx hb hT uE hown Z hEE.2.1 rfl 4 (by decide) (hT _ mf_E_42) (fun _ h9 => h9) rfl dE_readSum_79 ?_
              refine zw_top (nI f) (hmD.1) ?_
              refine lv_if_ne (tgt := 147) hx hb dE_readSum_82 (by decide) (fun _ => ?_) (fun hc => absurd hc (show ¬ ((nI f) : Int32) = 0 from nI_ne0 (by omega) (by omega)))
              exact hret _ _ _ _ _ dE_readSum_147 (⟨FD, hEE, hzE, by rw [hspF]; exact hmD⟩) Z
          | inr x9 =>
            obtain ⟨A, e2⟩ := x9
            rw [hb8] at hmD
            obtain ⟨haD, hfD, h5D, hPD⟩ := hmD
            have hgA : gp = fun j => nI (A j) := by
              have h9 := hgp.symm.trans hPD
              injection h9 with h9
              injection h9 with h9
              injection h9 with _ h9
              injection h9 with _ h9
              injection h9
            subst hgA
            have hokD := zTerm_ok hcfg hP1 hgr (by omega) hb8
            rw [zsum_nat hP1 hP2 hpS hokD.2.2, zsi_red hP1] at Z hEE hzE
            exact ih _ _ e2 _ FD _ _ ls (by omega) hEE hzE haD hfD (h5D.trans h5A) (va_up_self _ _ _) hokD.2.1 (zadd_pol (by omega)) (by rw [hsp, zSL, ← hq, if_pos hs9, hb8]) Z (by rw [show 200 - f9 = 200 - (f9 + 1) + 1 by omega]; exact (lv_sub hl [0, 1, 2, 3, 4] rfl))
        refine lv_icmp_ne (tgt := 108) hx hb dE_readSum_101 (by decide) (fun hc2 => ?_) (fun hc2 => ?_)
        · refine lv_iconst (v := 1) hx hb dE_readSum_108 (by decide) ?_
          refine lv_istore_n (lv' := [(3, .int 1), (4, .int (nI (200 - (f9 + 1)))), (2, .ref (ad (28 + (20 - k)))), (0, .ref (ad 2)), (1, .int (nI (20 - k)))]) hx hb dE_readSum_109 rfl hl (by decide) rfl (fun ls hl => ?_)
          exact cont ls (by rw [show zsi (zch T len q) = 1 from if_neg hc2]; exact hl)
        · refine lv_iconst (v := (-1)) hx hb dE_readSum_104 (by decide) ?_
          refine lv_goto (tgt := 109) hx hb dE_readSum_105 (by decide) ?_
          refine lv_istore_n (lv' := [(3, .int (-1)), (4, .int (nI (200 - (f9 + 1)))), (2, .ref (ad (28 + (20 - k)))), (0, .ref (ad 2)), (1, .int (nI (20 - k)))]) hx hb dE_readSum_109 rfl hl (by decide) rfl (fun ls hl => ?_)
          exact cont ls (by rw [show zsi (zch T len q) = -1 from if_pos hc2]; exact hl)
  obtain ⟨p1, hp1⟩ : ∃ p1, p1 = (if zch T len q = 45 then q + 1 else q) := ⟨_, rfl⟩
  have hp1l : p1 ≤ len := by
    rw [hp1]
    split
    · next h9 => have := (zch_c h9 (by decide)).1; omega
    · omega
  have hspm : zSum n o P T len (zGrp n o P T len k) p9 = (match zTerm n o P T len (zGrp n o P T len k) p1 with | .inl x => .inl x | .inr (A, e) => zSL n o P T len (zGrp n o P T len k) 199 (zadd n P (zsg P (zch T len q)) (fun _ => 0) A) e) := by rw [hp1, hq]; rfl
  have cont : ∀ (H : Heap) (locs : List Loc) (ls : Array Slot), zw G ad (va_up w1 2 (some (oE ad (upd FE 3 (nI p1))))) s H locs → lv_has ls 5 [(3, .int (zsi (zch T len q))), (2, .ref (ad (28 + (20 - k)))), (0, .ref (ad 2)), (1, .int (nI (20 - k)))] → W p l e (zR (6 * k + 10)) s m ([.ref (ad 2), .int (nI (20 - k))] : List Value).toArray below meth c H locs 0 0 Q (F0 m 46 ls []) := by
    intro H locs ls Z hl
    have hE3 : zRdr G ad (va_up w1 2 (some (oE ad (upd FE 3 (nI p1))))) P n o FR (upd FE 3 (nI p1)) T len := hE1.obj rfl
    refine lv_aload_n hx hb dE_readSum_46 rfl (lv_at hl 2 rfl) ?_
    refine lv_iload_n hx hb dE_readSum_47 rfl (lv_at hl 3 rfl) ?_
    refine zw_callv (va_runV (As := [.int (nI (20 - k))]) (rest := []) ⟨hx, hb, hml, hown, hts⟩ (hTc _ _ p1 hE3 rfl hf0 hp1l) (kw_E_readTerm hts ml_E_70 (zR_fit (by omega) (by omega))) (Z.preV hE3.2.1 rfl _) rfl rfl hl.1 rfl (lv_room (Nat.le_of_ble_eq_true rfl)) dE_readSum_48 ⟨Nat.le_of_ble_eq_true rfl, Nat.le_of_ble_eq_true rfl⟩) Z (fun wD H locs hp Z => ?_)
    obtain ⟨FD, hED, hzD, hmD⟩ := hp
    have hrD : wD (28 + (20 - k)) = some (zrow G (fun _ => 0)) := by rw [hzD _ (by omega), va_up_ne _ _ (by omega)]; exact hs1
    have hzD2 : zrf (20 - k) (20 - k) w wD := (hz1.trans (zrf.obj (by omega) (by omega))).trans (hzD.mono (by omega) (by omega))
    have g12 := hED.2.2.2.2.2.2.2.1
    obtain ⟨gp, hgp⟩ := hED.2.2.2.2.2.2.2.2 (49 + (20 - k)) (by omega) (by omega)
    refine lv_aload_n hx hb dE_readSum_51 rfl (lv_at hl 2 rfl) ?_
    refine zw_get (v := .ref (ad 1)) hx hb hT uE hown Z hED.2.1 rfl 0 (by decide) (hT _ mf_E_9) (fun _ h9 => h9) rfl dE_readSum_52 ?_
    refine lv_aload_n hx hb dE_readSum_55 rfl (lv_at hl 1 rfl) ?_
    refine lv_iload_n hx hb dE_readSum_56 rfl (lv_at hl 0 rfl) ?_
    refine lv_aload_n hx hb dE_readSum_57 rfl (lv_at hl 2 rfl) ?_
    refine zw_get (v := .ref (ad 12)) hx hb hT uE hown Z hED.2.1 rfl 7 (by decide) (hT _ mf_E_30) (fun _ h9 => h9) rfl dE_readSum_58 ?_
    refine lv_iload_n hx hb dE_readSum_61 rfl (lv_at hl 3 rfl) ?_
    refine zw_aald (v := .ref (ad (49 + (20 - k)))) hx hb Z g12 (vin (by omega) (by decide)) (by rw [ncl (by omega)]; rfl) dE_readSum_62 ?_
    refine lv_aload_n hx hb dE_readSum_63 rfl (lv_at hl 1 rfl) ?_
    refine zw_callv (va_runV (As := [.ref (ad (28 + (20 - k))), .int (zsi (zch T len q)), .ref (ad (49 + (20 - k))), .ref (ad (28 + (20 - k)))]) (rest := []) ⟨hx, hb, hml, hown, hts⟩ (c_R_writeSum l P n o FR hED.1 (28 + (20 - k)) (49 + (20 - k)) (28 + (20 - k)) (zsi (zch T len q)) _ gp _ (by omega) hrD hgp hrD) (kw_R_writeSum hts ml_E_73 (zR_fit (by omega) (by omega))) (Z.preV hED.1.1 rfl _) rfl rfl hl.1 rfl (lv_room (Nat.le_of_ble_eq_true rfl)) dE_readSum_64 ⟨Nat.le_of_ble_eq_true rfl, Nat.le_of_ble_eq_true rfl⟩) Z (fun wE H locs hp Z => ?_)
    subst hp
    have hEE := hED.row (t := 28 + (20 - k)) (f := zsum P (zCt n) (fun j => nI ((fun _ => 0) j)) (zsi (zch T len q)) gp (fun j => nI ((fun _ => 0) j))) (by omega) (by omega)
    have hzE := hzD2.trans (zrf.row (t := 28 + (20 - k)) (x := some (zi G 126 (zsum P (zCt n) (fun j => nI ((fun _ => 0) j)) (zsi (zch T len q)) gp (fun j => nI ((fun _ => 0) j))))) (by omega) (by omega) (by omega))
    refine lv_iconst (v := 1) hx hb dE_readSum_67 (by decide) ?_
    refine lv_istore (lv' := [(4, .int 1), (3, .int (zsi (zch T len q))), (2, .ref (ad (28 + (20 - k)))), (0, .ref (ad 2)), (1, .int (nI (20 - k)))]) hx hb dE_readSum_68 hl (by decide) rfl (fun ls hl => ?_)
    cases hb8 : zTerm n o P T len (zGrp n o P T len k) p1 with
    | inl x9 =>
      obtain ⟨f, pl⟩ := x9
      rw [hb8] at hmD
      refine lv_iload hx hb dE_readSum_70 (lv_at hl 0 rfl) ?_
      refine lv_sipush (v := 200) hx hb dE_readSum_72 (by decide) ?_
      refine lv_icmp_ge (tgt := 147) hx hb dE_readSum_75 (by decide) (fun hc => absurd hc (show ¬ ((200 : Int32) ≤ 1) from by decide)) (fun _ => ?_)
      refine lv_aload_n hx hb dE_readSum_78 rfl (lv_at hl 3 rfl) ?_
      refine zw_get (v := .int (FD 4)) hx hb hT uE hown Z hEE.2.1 rfl 4 (by decide) (hT _ mf_E_42) (fun _ h9 => h9) rfl dE_readSum_79 ?_
      refine zw_top (nI f) (hmD.1) ?_
      refine lv_if_ne (tgt := 147) hx hb dE_readSum_82 (by decide) (fun _ => ?_) (fun hc => absurd hc (show ¬ ((nI f) : Int32) = 0 from nI_ne0 (by omega) (by omega)))
      exact hret _ _ _ _ _ dE_readSum_147 (⟨FD, hEE, hzE, by rw [hspm, hb8]; exact hmD⟩) Z
    | inr x9 =>
      obtain ⟨A, e2⟩ := x9
      rw [hb8] at hmD
      obtain ⟨haD, hfD, h5D, hPD⟩ := hmD
      have hgA : gp = fun j => nI (A j) := by
        have h9 := hgp.symm.trans hPD
        injection h9 with h9
        injection h9 with h9
        injection h9 with _ h9
        injection h9 with _ h9
        injection h9
      subst hgA
      have hokD := zTerm_ok hcfg hP1 hgr hp1l hb8
      rw [zsum_nat (S := fun _ => 0) hP1 hP2 (zpol_0 n (by omega)) hokD.2.2, zsi_red hP1] at Z hEE hzE
      exact loop 199 _ _ e2 _ FD _ _ ls (by decide) hEE hzE haD hfD h5D (va_up_self _ _ _) hokD.2.1 (zadd_pol (by omega)) (by rw [hspm, hb8]) Z (lv_sub hl [0, 1, 2, 3, 4] rfl)
  refine lv_icmp_ne (tgt := 46) hx hb dE_readSum_31 (by decide) (fun hc => ?_) (fun hc => ?_)
  · exact cont _ _ ls (by rw [show p1 = q by rw [hp1, if_neg hc]]; exact Z) (by rw [show zsi (zch T len q) = 1 from if_neg hc]; exact hl)
  · refine lv_iconst (v := (-1)) hx hb dE_readSum_34 (by decide) ?_
    refine lv_istore_n (lv' := [(3, .int (-1)), (2, .ref (ad (28 + (20 - k)))), (0, .ref (ad 2)), (1, .int (nI (20 - k)))]) hx hb dE_readSum_35 rfl hl (by decide) rfl (fun ls hl => ?_)
    refine lv_aload_n hx hb dE_readSum_36 rfl (lv_at hl 2 rfl) ?_
    refine lv_dup hx hb dE_readSum_37 rfl ?_
    refine zw_get (v := .int ((upd FE 3 (nI q)) 3)) hx hb hT uE hown Z hE2.2.1 rfl 3 (by decide) (hT _ mf_E_45) (fun _ h9 => h9) rfl dE_readSum_38 ?_
    refine zw_top (nI q) (rfl) ?_
    refine lv_iconst (v := 1) hx hb dE_readSum_41 (by decide) ?_
    refine lv_iadd hx hb dE_readSum_42 ?_
    refine zw_top (nI (q + 1)) (nI_1 q) ?_
    refine zw_put (v := .int (nI (q + 1))) hx hb hT uE hown tE tE_ok nE Z hE2.2.1 rfl 3 (by decide) (hT _ mf_E_45) (fun _ h9 => h9) rfl rfl rfl (by simp) dE_readSum_43 (fun H locs Z => ?_)
    have Z : zw G ad (va_up (va_up w1 2 (some (oE ad (upd FE 3 (nI q))))) 2 (some (oE ad (upd (upd FE 3 (nI q)) 3 (nI (q + 1)))))) s H locs := Z
    rw [bx_uu, upd_upd] at Z
    exact cont _ _ ls (by rw [show p1 = q + 1 by rw [hp1, if_pos hc]]; exact Z) (by rw [show zsi (zch T len q) = -1 from if_pos hc]; exact hl)

/-- reading by descent, at every depth -/
theorem c_E_descent (l : Launch) {G : zG} {ad : Nat → Nat} (P n o : Nat) (FR : Nat → Int32) (T : Nat → Nat) (len : Nat) : ∀ k, k ≤ 20 → zGC l G ad P n o FR T len k ∧ zSC l G ad P n o FR T len k
  | 0, hk => by
    have hG : zGC l G ad P n o FR T len 0 := c_E_readGroup l P n o FR T len 0 (by omega) (fun j h => by omega)
    exact ⟨hG, c_E_readSum l P n o FR T len 0 hk (c_E_readTerm l P n o FR T len 0 hk (c_E_readFactor l P n o FR T len 0 hk (c_E_readBareFactor l P n o FR T len 0 hk hG)))⟩
  | k + 1, hk => by
    have hG : zGC l G ad P n o FR T len (k + 1) := c_E_readGroup l P n o FR T len (k + 1) (by omega) (fun j h => by
      have : j = k := by omega
      subst this
      exact (c_E_descent l P n o FR T len j (by omega)).2)
    exact ⟨hG, c_E_readSum l P n o FR T len (k + 1) hk (c_E_readTerm l P n o FR T len (k + 1) hk (c_E_readFactor l P n o FR T len (k + 1) hk (c_E_readBareFactor l P n o FR T len (k + 1) hk hG)))⟩
