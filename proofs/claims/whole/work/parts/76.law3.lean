set_option maxHeartbeats 4000000 in
set_option maxRecDepth 100000 in
theorem lw_c8 (l : Launch) (hnt : l.stackTraces = false) {p : Program} {e : Env} {s : State} {m : MethodId} {below : List Frame} {meth : Method} {c : Code} {Q : State → Prop} {b L : Nat} {xs : Nat → Int32} {G : zG} {ad : Nat → Nat} {w : Nat → Option va_E} {qs qv : Nat} (hLa : zLa p s m c b L xs G) (hX : ∀ U H, G.2.2.2 U H → zTHR G U H) (hXh : ∀ U H, G.2.2.2 U H → zHIGH G U H) (hXs : ∀ U H, G.2.2.2 U H → zSTR G qs qv U H) (hL : L ≤ 3072) (i cells slots : Nat) (hi : i + 6 ≤ L) (hc4 : cells + 4 ≤ 601024) (hs4 : slots + 24 ≤ 7293034) {H : Heap} {locs : List Loc} {ls : Array Slot} (hLw : zLw G ad w) (Z : zw G ad w s H locs) (hl : lv_has ls 7 [(4, .int (nI i)), (0, .ref b), (1, .ref (ad 0)), (2, .ref (ad 100)), (3, .ref (ad 111))]) (kk : ∀ (w' : Nat → Option va_E) (H : Heap) (locs : List Loc) (ls : Array Slot), zLw G ad w' → zw G ad w' s H locs → lv_has ls 7 [(4, .int (nI i)), (0, .ref b), (1, .ref (ad 0)), (2, .ref (ad 100)), (3, .ref (ad 111))] → W p l e room_1 s m #[Value.ref b] below meth c H locs (cells + 4) (slots + 24) Q (F0 m 853 ls [])) : W p l e room_1 s m #[Value.ref b] below meth c H locs (cells) (slots) Q (F0 m 582 ls []) := by
  obtain ⟨hx, hb, hml, hown, hts, hXb, hbl, hbA⟩ := hLa
  have hT : ∀ w ∈ zT, w.before #[Value.ref b] s = true := fun w h => hts w (List.mem_cons_of_mem _ h)
  obtain ⟨P, n, o, A, T, len, flt, pl, out, thr, f, hD, hMd, h111⟩ := hLw
  refine lv_aload_n hx hb dL_law_582 rfl (lv_at hl 2 rfl) ?_
  refine lv_aload_n hx hb dL_law_583 rfl (lv_at hl 1 rfl) ?_
  refine lv_iload hx hb dL_law_584 (lv_at hl 0 rfl) ?_
  refine lv_iconst (v := 1) hx hb dL_law_586 (by decide) ?_
  refine lv_iadd hx hb dL_law_587 ?_
  refine zw_top (nI (i + 1)) (nI_add i 1) ?_
  refine va_sld hx hb hXb hbl hbA Z.2.2.1 (vin (by omega) (by omega)) dL_law_588 ?_
  refine zw_top (xs (i + 1)) (by rw [ncl (by omega)]) ?_
  refine lv_aload_n hx hb dL_law_589 rfl (lv_at hl 1 rfl) ?_
  refine lv_iload hx hb dL_law_590 (lv_at hl 0 rfl) ?_
  refine lv_iconst (v := 2) hx hb dL_law_592 (by decide) ?_
  refine lv_iadd hx hb dL_law_593 ?_
  refine zw_top (nI (i + 2)) (nI_add i 2) ?_
  refine va_sld hx hb hXb hbl hbA Z.2.2.1 (vin (by omega) (by omega)) dL_law_594 ?_
  refine zw_top (xs (i + 2)) (by rw [ncl (by omega)]) ?_
  refine lv_aload_n hx hb dL_law_595 rfl (lv_at hl 1 rfl) ?_
  refine lv_iload hx hb dL_law_596 (lv_at hl 0 rfl) ?_
  refine lv_iconst (v := 3) hx hb dL_law_598 (by decide) ?_
  refine lv_iadd hx hb dL_law_599 ?_
  refine zw_top (nI (i + 3)) (nI_add i 3) ?_
  refine va_sld hx hb hXb hbl hbA Z.2.2.1 (vin (by omega) (by omega)) dL_law_600 ?_
  refine zw_top (xs (i + 3)) (by rw [ncl (by omega)]) ?_
  refine lv_aload_n hx hb dL_law_601 rfl (lv_at hl 1 rfl) ?_
  refine lv_iload hx hb dL_law_602 (lv_at hl 0 rfl) ?_
  refine lv_iconst (v := 4) hx hb dL_law_604 (by decide) ?_
  refine lv_iadd hx hb dL_law_605 ?_
  refine zw_top (nI (i + 4)) (nI_add i 4) ?_
  refine va_sld hx hb hXb hbl hbA Z.2.2.1 (vin (by omega) (by omega)) dL_law_606 ?_
  refine zw_top (xs (i + 4)) (by rw [ncl (by omega)]) ?_
  refine lv_aload_n hx hb dL_law_607 rfl (lv_at hl 1 rfl) ?_
  refine lv_iload hx hb dL_law_608 (lv_at hl 0 rfl) ?_
  refine lv_iconst (v := 5) hx hb dL_law_610 (by decide) ?_
  refine lv_iadd hx hb dL_law_611 ?_
  refine zw_top (nI (i + 5)) (nI_add i 5) ?_
  refine va_sld hx hb hXb hbl hbA Z.2.2.1 (vin (by omega) (by omega)) dL_law_612 ?_
  refine zw_top (xs (i + 5)) (by rw [ncl (by omega)]) ?_
  refine lv_aload_n hx hb dL_law_613 rfl (lv_at hl 4 rfl) ?_
  refine zw_calli (vx_runSW (As := [.ref (ad 0), .int (xs (i + 1)), .int (xs (i + 2)), .int (xs (i + 3)), .int (xs (i + 4)), .int (xs (i + 5)), .ref (ad 111)]) (rest := []) ⟨hx, hb, hml, hown, hts⟩ (c_L_value l hnt hX P n o A T len flt pl out hD (xs (i + 1)) (xs (i + 2)) (xs (i + 3)) (xs (i + 4)) (xs (i + 5)) f h111) (kv_L_value hts ml_L_85 ⟨Nat.le_of_ble_eq_true rfl, Nat.le_of_ble_eq_true rfl⟩) (Z.preS _) rfl rfl hl.1 rfl (lv_room (Nat.le_of_ble_eq_true rfl)) dL_law_614 ⟨(by show (_ : Nat) ≤ 601024; omega), (by show (_ : Nat) ≤ 7293034; omega)⟩) Z (fun r9 w1 H locs hp Z => ?_)
  obtain ⟨hp, hk1⟩ := hp
  have hMd1 := hMd.cong (fun k h1 h2 => hk1 k (by omega) (by omega))
  obtain ⟨F9, h100⟩ := hMd1.o100
  refine lv_istore (lv' := [(5, .int r9), (4, .int (nI i)), (0, .ref b), (1, .ref (ad 0)), (2, .ref (ad 100)), (3, .ref (ad 111))]) hx hb dL_law_617 hl (by decide) rfl (fun ls hl => ?_)
  refine lv_aload_n hx hb dL_law_619 rfl (lv_at hl 4 rfl) ?_
  refine lv_aload_n hx hb dL_law_620 rfl (lv_at hl 2 rfl) ?_
  refine lv_iload hx hb dL_law_621 (lv_at hl 1 rfl) ?_
  refine lv_iconst (v := 1) hx hb dL_law_623 (by decide) ?_
  refine lv_iadd hx hb dL_law_624 ?_
  refine zw_top (nI (i + 1)) (nI_add i 1) ?_
  refine va_sld hx hb hXb hbl hbA Z.2.2.1 (vin (by omega) (by omega)) dL_law_625 ?_
  refine zw_top (xs (i + 1)) (by rw [ncl (by omega)]) ?_
  refine lv_aload_n hx hb dL_law_626 rfl (lv_at hl 2 rfl) ?_
  refine lv_iload hx hb dL_law_627 (lv_at hl 1 rfl) ?_
  refine lv_iconst (v := 2) hx hb dL_law_629 (by decide) ?_
  refine lv_iadd hx hb dL_law_630 ?_
  refine zw_top (nI (i + 2)) (nI_add i 2) ?_
  refine va_sld hx hb hXb hbl hbA Z.2.2.1 (vin (by omega) (by omega)) dL_law_631 ?_
  refine zw_top (xs (i + 2)) (by rw [ncl (by omega)]) ?_
  refine lv_aload_n hx hb dL_law_632 rfl (lv_at hl 2 rfl) ?_
  refine lv_iload hx hb dL_law_633 (lv_at hl 1 rfl) ?_
  refine lv_iconst (v := 3) hx hb dL_law_635 (by decide) ?_
  refine lv_iadd hx hb dL_law_636 ?_
  refine zw_top (nI (i + 3)) (nI_add i 3) ?_
  refine va_sld hx hb hXb hbl hbA Z.2.2.1 (vin (by omega) (by omega)) dL_law_637 ?_
  refine zw_top (xs (i + 3)) (by rw [ncl (by omega)]) ?_
  refine lv_aload_n hx hb dL_law_638 rfl (lv_at hl 2 rfl) ?_
  refine lv_iload hx hb dL_law_639 (lv_at hl 1 rfl) ?_
  refine lv_iconst (v := 4) hx hb dL_law_641 (by decide) ?_
  refine lv_iadd hx hb dL_law_642 ?_
  refine zw_top (nI (i + 4)) (nI_add i 4) ?_
  refine va_sld hx hb hXb hbl hbA Z.2.2.1 (vin (by omega) (by omega)) dL_law_643 ?_
  refine zw_top (xs (i + 4)) (by rw [ncl (by omega)]) ?_
  refine lv_aload_n hx hb dL_law_644 rfl (lv_at hl 2 rfl) ?_
  refine lv_iload hx hb dL_law_645 (lv_at hl 1 rfl) ?_
  refine lv_iconst (v := 5) hx hb dL_law_647 (by decide) ?_
  refine lv_iadd hx hb dL_law_648 ?_
  refine zw_top (nI (i + 5)) (nI_add i 5) ?_
  refine va_sld hx hb hXb hbl hbA Z.2.2.1 (vin (by omega) (by omega)) dL_law_649 ?_
  refine zw_top (xs (i + 5)) (by rw [ncl (by omega)]) ?_
  refine zw_calli (va_runV (As := [.int (xs (i + 1)), .int (xs (i + 2)), .int (xs (i + 3)), .int (xs (i + 4)), .int (xs (i + 5))]) (rest := []) ⟨hx, hb, hml, hown, hts⟩ (c_M_value l P n o A T len flt pl out thr hMd1 (xs (i + 1)) (xs (i + 2)) (xs (i + 3)) (xs (i + 4)) (xs (i + 5))) (kw_M_value hts ml_L_88 ⟨Nat.le_of_ble_eq_true rfl, Nat.le_of_ble_eq_true rfl⟩) (Z.preV h100 rfl _) rfl rfl hl.1 rfl (lv_room (Nat.le_of_ble_eq_true rfl)) dL_law_650 ⟨(by show (_ : Nat) ≤ 601024; omega), (by show (_ : Nat) ≤ 7293034; omega)⟩) Z (fun r7 w2 H locs hq Z => ?_)
  obtain ⟨hq, hk2⟩ := hq
  refine lv_istore (lv' := [(6, .int r7), (5, .int r9), (4, .int (nI i)), (0, .ref b), (1, .ref (ad 0)), (2, .ref (ad 100)), (3, .ref (ad 111))]) hx hb dL_law_653 hl (by decide) rfl (fun ls hl => ?_)
  rcases hp with ⟨rfl, a1, D1, f1, h1111, hf1⟩ | ⟨rfl, a1, D1, f1, h1111⟩
  · rcases hq with ⟨b1, b2, hM2⟩ | ⟨b1, hM2⟩
    · have g111 : w2 111 = some (zj G 1 f1) := (hk2 111 (by decide)).trans h1111
      have hv7 : f1 (0 : Int32).toNatClampNeg = r7.toInt64 := by rw [b2]; exact hf1
      obtain ⟨F8, h1008⟩ := hM2.o100
      refine lv_aload_n hx hb dL_law_655 rfl (lv_at hl 5 rfl) ?_
      refine zw_calli (va_runV (As := []) (rest := []) ⟨hx, hb, hml, hown, hts⟩ (c_M_thrown l _ _ _ _ _ _ _ _ _ _ hM2) (kw_M_thrown hts ml_L_53 ⟨Nat.le_of_ble_eq_true rfl, Nat.le_of_ble_eq_true rfl⟩) (Z.preV h1008 rfl _) rfl rfl hl.1 rfl (lv_room (Nat.le_of_ble_eq_true rfl)) dL_law_656 ⟨(by show (_ : Nat) ≤ 601024; omega), (by show (_ : Nat) ≤ 7293034; omega)⟩) Z (fun r8 w3 H locs hp Z => ?_)
      obtain ⟨rfl, hw3⟩ := hp
      rw [hw3] at Z
      refine lv_iload hx hb dL_law_659 (lv_at hl 1 rfl) ?_
      refine lv_icmp_eq (tgt := 666) hx hb dL_law_661 (by decide) (fun _ => ?_) (fun hc => absurd (show (0 : Int32) = 0 from rfl) hc)
      refine lv_iload hx hb dL_law_666 (lv_at hl 1 rfl) ?_
      refine lv_if_ne (tgt := 683) hx hb dL_law_668 (by decide) (fun hc => absurd (show (0 : Int32) = 0 from rfl) hc) (fun _ => ?_)
      refine lv_aload_n hx hb dL_law_671 rfl (lv_at hl 6 rfl) ?_
      refine lv_iconst (v := 0) hx hb dL_law_672 (by decide) ?_
      refine zw_lald hx hb Z g111 ((show vp_in (nI 0) 1 from vin (by decide) (by decide))) dL_law_673 ?_
      refine zw_topl (r7.toInt64) (hv7) ?_
      refine lv_iload hx hb dL_law_674 (lv_at hl 0 rfl) ?_
      refine lv_i2l hx hb dL_law_676 rfl ?_
      refine W.lcmp hx hb dL_law_677 ?_
      refine zw_top (0) (zcmp_self _) ?_
      refine lv_if_eq (tgt := 683) hx hb dL_law_678 (by decide) (fun _ => ?_) (fun hc => absurd (show ((0) : Int32) = 0 from rfl) hc)
      refine lv_goto (tgt := 853) hx hb dL_law_683 (by decide) ?_
      refine W.widen (k := cells + 4) (n := slots + 24) (by omega) (by omega) ?_
      exact kk _ _ _ ls ⟨P, n, o, _, T, len, flt, pl, out, 0, f1, D1.cong (fun k hk => hk2 k (by omega)), hM2, g111⟩ Z (lv_sub hl [2, 3, 4, 5, 6] rfl)
    · exact absurd (a1.symm.trans b1) (by decide)
  · rcases hq with ⟨b1, b2, hM2⟩ | ⟨b1, hM2⟩
    · exact absurd (b1.symm.trans a1) (by decide)
    · have g111 : w2 111 = some (zj G 1 f1) := (hk2 111 (by decide)).trans h1111
      obtain ⟨F8, h1008⟩ := hM2.o100
      refine lv_aload_n hx hb dL_law_655 rfl (lv_at hl 5 rfl) ?_
      refine zw_calli (va_runV (As := []) (rest := []) ⟨hx, hb, hml, hown, hts⟩ (c_M_thrown l _ _ _ _ _ _ _ _ _ _ hM2) (kw_M_thrown hts ml_L_53 ⟨Nat.le_of_ble_eq_true rfl, Nat.le_of_ble_eq_true rfl⟩) (Z.preV h1008 rfl _) rfl rfl hl.1 rfl (lv_room (Nat.le_of_ble_eq_true rfl)) dL_law_656 ⟨(by show (_ : Nat) ≤ 601024; omega), (by show (_ : Nat) ≤ 7293034; omega)⟩) Z (fun r8 w3 H locs hp Z => ?_)
      obtain ⟨rfl, hw3⟩ := hp
      rw [hw3] at Z
      refine lv_iload hx hb dL_law_659 (lv_at hl 1 rfl) ?_
      refine lv_icmp_eq (tgt := 666) hx hb dL_law_661 (by decide) (fun _ => ?_) (fun hc => absurd (show (1 : Int32) = 1 from rfl) hc)
      refine lv_iload hx hb dL_law_666 (lv_at hl 1 rfl) ?_
      refine lv_if_ne (tgt := 683) hx hb dL_law_668 (by decide) (fun _ => ?_) (fun hc => absurd hc (show ¬ (1 : Int32) = 0 from by decide))
      refine lv_goto (tgt := 853) hx hb dL_law_683 (by decide) ?_
      refine W.widen (k := cells + 4) (n := slots + 24) (by omega) (by omega) ?_
      exact kk _ _ _ ls ⟨P, n, o, _, T, len, flt, pl, out, 1, f1, D1.cong (fun k hk => hk2 k (by omega)), hM2, g111⟩ Z (lv_sub hl [2, 3, 4, 5, 6] rfl)

set_option maxHeartbeats 4000000 in
set_option maxRecDepth 100000 in
theorem lw_c11 (l : Launch) (hnt : l.stackTraces = false) {p : Program} {e : Env} {s : State} {m : MethodId} {below : List Frame} {meth : Method} {c : Code} {Q : State → Prop} {b L : Nat} {xs : Nat → Int32} {G : zG} {ad : Nat → Nat} {w : Nat → Option va_E} {qs qv : Nat} (hLa : zLa p s m c b L xs G) (hX : ∀ U H, G.2.2.2 U H → zTHR G U H) (hXh : ∀ U H, G.2.2.2 U H → zHIGH G U H) (hXs : ∀ U H, G.2.2.2 U H → zSTR G qs qv U H) (hL : L ≤ 3072) (i cells slots : Nat) (hi : i + 6 ≤ L) (hc4 : cells + 4 ≤ 601024) (hs4 : slots + 24 ≤ 7293034) {H : Heap} {locs : List Loc} {ls : Array Slot} (hLw : zLw G ad w) (Z : zw G ad w s H locs) (hl : lv_has ls 7 [(4, .int (nI i)), (0, .ref b), (1, .ref (ad 0)), (2, .ref (ad 100)), (3, .ref (ad 111))]) (kk : ∀ (w' : Nat → Option va_E) (H : Heap) (locs : List Loc) (ls : Array Slot), zLw G ad w' → zw G ad w' s H locs → lv_has ls 7 [(4, .int (nI i)), (0, .ref b), (1, .ref (ad 0)), (2, .ref (ad 100)), (3, .ref (ad 111))] → W p l e room_1 s m #[Value.ref b] below meth c H locs (cells + 4) (slots + 24) Q (F0 m 853 ls [])) : W p l e room_1 s m #[Value.ref b] below meth c H locs (cells) (slots) Q (F0 m 772 ls []) := by
  obtain ⟨hx, hb, hml, hown, hts, hXb, hbl, hbA⟩ := hLa
  have hT : ∀ w ∈ zT, w.before #[Value.ref b] s = true := fun w h => hts w (List.mem_cons_of_mem _ h)
  obtain ⟨P, n, o, A, T, len, flt, pl, out, thr, f, hD, hMd, h111⟩ := hLw
  refine lv_aload_n hx hb dL_law_772 rfl (lv_at hl 2 rfl) ?_
  refine lv_aload_n hx hb dL_law_773 rfl (lv_at hl 1 rfl) ?_
  refine lv_iload hx hb dL_law_774 (lv_at hl 0 rfl) ?_
  refine lv_iconst (v := 1) hx hb dL_law_776 (by decide) ?_
  refine lv_iadd hx hb dL_law_777 ?_
  refine zw_top (nI (i + 1)) (nI_add i 1) ?_
  refine va_sld hx hb hXb hbl hbA Z.2.2.1 (vin (by omega) (by omega)) dL_law_778 ?_
  refine zw_top (xs (i + 1)) (by rw [ncl (by omega)]) ?_
  refine lv_aload_n hx hb dL_law_779 rfl (lv_at hl 4 rfl) ?_
  refine zw_calli (vx_runSW (As := [.ref (ad 0), .int (xs (i + 1)), .ref (ad 111)]) (rest := []) ⟨hx, hb, hml, hown, hts⟩ (c_L_print l hnt hX qs qv hXs P n o A T len flt pl out hD (xs (i + 1)) f h111) (kv_L_print hts ml_L_99 ⟨Nat.le_of_ble_eq_true rfl, Nat.le_of_ble_eq_true rfl⟩) (Z.preS _) rfl rfl hl.1 rfl (lv_room (Nat.le_of_ble_eq_true rfl)) dL_law_780 ⟨(by show (_ : Nat) ≤ 601024; omega), (by show (_ : Nat) ≤ 7293034; omega)⟩) Z (fun r9 w1 H locs hp Z => ?_)
  obtain ⟨hp, hk1⟩ := hp
  have hMd1 := hMd.cong (fun k h1 h2 => hk1 k (by omega) (by omega))
  obtain ⟨F9, h100⟩ := hMd1.o100
  refine lv_istore (lv' := [(5, .int r9), (4, .int (nI i)), (0, .ref b), (1, .ref (ad 0)), (2, .ref (ad 100)), (3, .ref (ad 111))]) hx hb dL_law_783 hl (by decide) rfl (fun ls hl => ?_)
  refine lv_aload_n hx hb dL_law_785 rfl (lv_at hl 4 rfl) ?_
  refine lv_aload_n hx hb dL_law_786 rfl (lv_at hl 2 rfl) ?_
  refine lv_iload hx hb dL_law_787 (lv_at hl 1 rfl) ?_
  refine lv_iconst (v := 1) hx hb dL_law_789 (by decide) ?_
  refine lv_iadd hx hb dL_law_790 ?_
  refine zw_top (nI (i + 1)) (nI_add i 1) ?_
  refine va_sld hx hb hXb hbl hbA Z.2.2.1 (vin (by omega) (by omega)) dL_law_791 ?_
  refine zw_top (xs (i + 1)) (by rw [ncl (by omega)]) ?_
  refine zw_calli (va_runV (As := [.int (xs (i + 1))]) (rest := []) ⟨hx, hb, hml, hown, hts⟩ (c_M_print l P n o A T len flt pl out thr hMd1 (xs (i + 1))) (kw_M_print hts ml_L_101 ⟨Nat.le_of_ble_eq_true rfl, Nat.le_of_ble_eq_true rfl⟩) (Z.preV h100 rfl _) rfl rfl hl.1 rfl (lv_room (Nat.le_of_ble_eq_true rfl)) dL_law_792 ⟨(by show (_ : Nat) ≤ 601024; omega), (by show (_ : Nat) ≤ 7293034; omega)⟩) Z (fun r7 w2 H locs hq Z => ?_)
  obtain ⟨hq, hk2⟩ := hq
  refine lv_istore (lv' := [(6, .int r7), (5, .int r9), (4, .int (nI i)), (0, .ref b), (1, .ref (ad 0)), (2, .ref (ad 100)), (3, .ref (ad 111))]) hx hb dL_law_795 hl (by decide) rfl (fun ls hl => ?_)
  rcases hp with ⟨rfl, a1, D1, f1, h1111, hf1⟩ | ⟨rfl, a1, D1, f1, h1111⟩
  · rcases hq with ⟨b1, b2, hM2⟩ | ⟨b1, hM2⟩
    · have g111 : w2 111 = some (zj G 1 f1) := (hk2 111 (by decide)).trans h1111
      have hv7 : f1 (0 : Int32).toNatClampNeg = r7.toInt64 := by rw [b2]; exact hf1
      obtain ⟨F8, h1008⟩ := hM2.o100
      refine lv_aload_n hx hb dL_law_797 rfl (lv_at hl 5 rfl) ?_
      refine zw_calli (va_runV (As := []) (rest := []) ⟨hx, hb, hml, hown, hts⟩ (c_M_thrown l _ _ _ _ _ _ _ _ _ _ hM2) (kw_M_thrown hts ml_L_53 ⟨Nat.le_of_ble_eq_true rfl, Nat.le_of_ble_eq_true rfl⟩) (Z.preV h1008 rfl _) rfl rfl hl.1 rfl (lv_room (Nat.le_of_ble_eq_true rfl)) dL_law_798 ⟨(by show (_ : Nat) ≤ 601024; omega), (by show (_ : Nat) ≤ 7293034; omega)⟩) Z (fun r8 w3 H locs hp Z => ?_)
      obtain ⟨rfl, hw3⟩ := hp
      rw [hw3] at Z
      refine lv_iload hx hb dL_law_801 (lv_at hl 1 rfl) ?_
      refine lv_icmp_eq (tgt := 808) hx hb dL_law_803 (by decide) (fun _ => ?_) (fun hc => absurd (show (0 : Int32) = 0 from rfl) hc)
      refine lv_iload hx hb dL_law_808 (lv_at hl 1 rfl) ?_
      refine lv_if_ne (tgt := 825) hx hb dL_law_810 (by decide) (fun hc => absurd (show (0 : Int32) = 0 from rfl) hc) (fun _ => ?_)
      refine lv_aload_n hx hb dL_law_813 rfl (lv_at hl 6 rfl) ?_
      refine lv_iconst (v := 0) hx hb dL_law_814 (by decide) ?_
      refine zw_lald hx hb Z g111 ((show vp_in (nI 0) 1 from vin (by decide) (by decide))) dL_law_815 ?_
      refine zw_topl (r7.toInt64) (hv7) ?_
      refine lv_iload hx hb dL_law_816 (lv_at hl 0 rfl) ?_
      refine lv_i2l hx hb dL_law_818 rfl ?_
      refine W.lcmp hx hb dL_law_819 ?_
      refine zw_top (0) (zcmp_self _) ?_
      refine lv_if_eq (tgt := 825) hx hb dL_law_820 (by decide) (fun _ => ?_) (fun hc => absurd (show ((0) : Int32) = 0 from rfl) hc)
      refine lv_goto (tgt := 853) hx hb dL_law_825 (by decide) ?_
      refine W.widen (k := cells + 4) (n := slots + 24) (by omega) (by omega) ?_
      exact kk _ _ _ ls ⟨P, n, o, _, T, len, flt, pl, _, 0, f1, D1.cong (fun k hk => hk2 k (by omega)), hM2, g111⟩ Z (lv_sub hl [2, 3, 4, 5, 6] rfl)
    · exact absurd (a1.symm.trans b1) (by decide)
  · rcases hq with ⟨b1, b2, hM2⟩ | ⟨b1, hM2⟩
    · exact absurd (b1.symm.trans a1) (by decide)
    · have g111 : w2 111 = some (zj G 1 f1) := (hk2 111 (by decide)).trans h1111
      obtain ⟨F8, h1008⟩ := hM2.o100
      refine lv_aload_n hx hb dL_law_797 rfl (lv_at hl 5 rfl) ?_
      refine zw_calli (va_runV (As := []) (rest := []) ⟨hx, hb, hml, hown, hts⟩ (c_M_thrown l _ _ _ _ _ _ _ _ _ _ hM2) (kw_M_thrown hts ml_L_53 ⟨Nat.le_of_ble_eq_true rfl, Nat.le_of_ble_eq_true rfl⟩) (Z.preV h1008 rfl _) rfl rfl hl.1 rfl (lv_room (Nat.le_of_ble_eq_true rfl)) dL_law_798 ⟨(by show (_ : Nat) ≤ 601024; omega), (by show (_ : Nat) ≤ 7293034; omega)⟩) Z (fun r8 w3 H locs hp Z => ?_)
      obtain ⟨rfl, hw3⟩ := hp
      rw [hw3] at Z
      refine lv_iload hx hb dL_law_801 (lv_at hl 1 rfl) ?_
      refine lv_icmp_eq (tgt := 808) hx hb dL_law_803 (by decide) (fun _ => ?_) (fun hc => absurd (show (1 : Int32) = 1 from rfl) hc)
      refine lv_iload hx hb dL_law_808 (lv_at hl 1 rfl) ?_
      refine lv_if_ne (tgt := 825) hx hb dL_law_810 (by decide) (fun _ => ?_) (fun hc => absurd hc (show ¬ (1 : Int32) = 0 from by decide))
      refine lv_goto (tgt := 853) hx hb dL_law_825 (by decide) ?_
      refine W.widen (k := cells + 4) (n := slots + 24) (by omega) (by omega) ?_
      exact kk _ _ _ ls ⟨P, n, o, _, T, len, flt, pl, out, 1, f1, D1.cong (fun k hk => hk2 k (by omega)), hM2, g111⟩ Z (lv_sub hl [2, 3, 4, 5, 6] rfl)

set_option maxHeartbeats 4000000 in
set_option maxRecDepth 100000 in
theorem lw_c2 (l : Launch) (hnt : l.stackTraces = false) {p : Program} {e : Env} {s : State} {m : MethodId} {below : List Frame} {meth : Method} {c : Code} {Q : State → Prop} {b L : Nat} {xs : Nat → Int32} {G : zG} {ad : Nat → Nat} {w : Nat → Option va_E} {qs qv : Nat} (hLa : zLa p s m c b L xs G) (hX : ∀ U H, G.2.2.2 U H → zTHR G U H) (hXh : ∀ U H, G.2.2.2 U H → zHIGH G U H) (hXs : ∀ U H, G.2.2.2 U H → zSTR G qs qv U H) (hL : L ≤ 3072) (i cells slots : Nat) (hi : i + 6 ≤ L) (hc4 : cells + 4 ≤ 601024) (hs4 : slots + 24 ≤ 7293034) {H : Heap} {locs : List Loc} {ls : Array Slot} (hLw : zLw G ad w) (Z : zw G ad w s H locs) (hl : lv_has ls 7 [(4, .int (nI i)), (0, .ref b), (1, .ref (ad 0)), (2, .ref (ad 100)), (3, .ref (ad 111))]) (kk : ∀ (w' : Nat → Option va_E) (H : Heap) (locs : List Loc) (ls : Array Slot), zLw G ad w' → zw G ad w' s H locs → lv_has ls 7 [(4, .int (nI i)), (0, .ref b), (1, .ref (ad 0)), (2, .ref (ad 100)), (3, .ref (ad 111))] → W p l e room_1 s m #[Value.ref b] below meth c H locs (cells + 4) (slots + 24) Q (F0 m 853 ls [])) : W p l e room_1 s m #[Value.ref b] below meth c H locs (cells) (slots) Q (F0 m 237 ls []) := by
  obtain ⟨hx, hb, hml, hown, hts, hXb, hbl, hbA⟩ := hLa
  have hT : ∀ w ∈ zT, w.before #[Value.ref b] s = true := fun w h => hts w (List.mem_cons_of_mem _ h)
  obtain ⟨P, n, o, A, T, len, flt, pl, out, thr, f, hD, hMd, h111⟩ := hLw
  refine lv_aload_n hx hb dL_law_237 rfl (lv_at hl 2 rfl) ?_
  refine lv_aload_n hx hb dL_law_238 rfl (lv_at hl 1 rfl) ?_
  refine lv_iload hx hb dL_law_239 (lv_at hl 0 rfl) ?_
  refine lv_iconst (v := 1) hx hb dL_law_241 (by decide) ?_
  refine lv_iadd hx hb dL_law_242 ?_
  refine zw_top (nI (i + 1)) (nI_add i 1) ?_
  refine va_sld hx hb hXb hbl hbA Z.2.2.1 (vin (by omega) (by omega)) dL_law_243 ?_
  refine zw_top (xs (i + 1)) (by rw [ncl (by omega)]) ?_
  refine lv_aload_n hx hb dL_law_244 rfl (lv_at hl 4 rfl) ?_
  refine zw_calli (vx_runSW (As := [.ref (ad 0), .int (xs (i + 1)), .ref (ad 111)]) (rest := []) ⟨hx, hb, hml, hown, hts⟩ (c_L_read l hnt hX P n o A T len flt pl out hD (xs (i + 1)) f h111) (kv_L_read hts ml_L_64 ⟨Nat.le_of_ble_eq_true rfl, Nat.le_of_ble_eq_true rfl⟩) (Z.preS _) rfl rfl hl.1 rfl (lv_room (Nat.le_of_ble_eq_true rfl)) dL_law_245 ⟨(by show (_ : Nat) ≤ 601024; omega), (by show (_ : Nat) ≤ 7293034; omega)⟩) Z (fun r9 w1 H locs hp Z => ?_)
  obtain ⟨hp, hk1⟩ := hp
  have hMd1 := hMd.cong (fun k h1 h2 => hk1 k (by omega) (by omega))
  obtain ⟨F9, h100⟩ := hMd1.o100
  refine lv_istore (lv' := [(5, .int r9), (4, .int (nI i)), (0, .ref b), (1, .ref (ad 0)), (2, .ref (ad 100)), (3, .ref (ad 111))]) hx hb dL_law_248 hl (by decide) rfl (fun ls hl => ?_)
  refine lv_aload_n hx hb dL_law_250 rfl (lv_at hl 4 rfl) ?_
  refine lv_aload_n hx hb dL_law_251 rfl (lv_at hl 2 rfl) ?_
  refine lv_iload hx hb dL_law_252 (lv_at hl 1 rfl) ?_
  refine lv_iconst (v := 1) hx hb dL_law_254 (by decide) ?_
  refine lv_iadd hx hb dL_law_255 ?_
  refine zw_top (nI (i + 1)) (nI_add i 1) ?_
  refine va_sld hx hb hXb hbl hbA Z.2.2.1 (vin (by omega) (by omega)) dL_law_256 ?_
  refine zw_top (xs (i + 1)) (by rw [ncl (by omega)]) ?_
  refine zw_calli (va_runV (As := [.int (xs (i + 1))]) (rest := []) ⟨hx, hb, hml, hown, hts⟩ (c_M_read l P n o A T len flt pl out thr hMd1 (xs (i + 1))) (kw_M_read hts ml_L_67 ⟨Nat.le_of_ble_eq_true rfl, Nat.le_of_ble_eq_true rfl⟩) (Z.preV h100 rfl _) rfl rfl hl.1 rfl (lv_room (Nat.le_of_ble_eq_true rfl)) dL_law_257 ⟨(by show (_ : Nat) ≤ 601024; omega), (by show (_ : Nat) ≤ 7293034; omega)⟩) Z (fun r7 w2 H locs hq Z => ?_)
  obtain ⟨hq, hk2⟩ := hq
  refine lv_istore (lv' := [(6, .int r7), (5, .int r9), (4, .int (nI i)), (0, .ref b), (1, .ref (ad 0)), (2, .ref (ad 100)), (3, .ref (ad 111))]) hx hb dL_law_260 hl (by decide) rfl (fun ls hl => ?_)
  rcases hp with ⟨rfl, a1, C, e9, a2, D1, f1, h1111, hf1⟩ | ⟨rfl, a1, D1, f1, h1111⟩ | ⟨rfl, a1, f9, p9, a2, D1, f1, h1111⟩
  · rcases hq with ⟨b1, hM2⟩ | ⟨b1, f8, p8, b2, b3, b4, hM2⟩ | ⟨b1, C2, e8, b2, b3, hM2⟩
    · exact absurd (a1.symm.trans b1) (by decide)
    · exact absurd (a2.symm.trans b2) (fun h9 => by cases h9)
    · have g111 : w2 111 = some (zj G 1 f1) := (hk2 111 (by decide)).trans h1111
      have he9 : (Sum.inr (C, e9) : zRs) = .inr (C2, e8) := a2.symm.trans b2
      obtain ⟨rfl, -⟩ := Prod.mk.inj (Sum.inr.inj he9)
      have hv7 : f1 (0 : Int32).toNatClampNeg = r7.toInt64 := by rw [b3]; exact hf1
      obtain ⟨F8, h1008⟩ := hM2.o100
      refine lv_aload_n hx hb dL_law_262 rfl (lv_at hl 5 rfl) ?_
      refine zw_calli (va_runV (As := []) (rest := []) ⟨hx, hb, hml, hown, hts⟩ (c_M_thrown l _ _ _ _ _ _ _ _ _ _ hM2) (kw_M_thrown hts ml_L_53 ⟨Nat.le_of_ble_eq_true rfl, Nat.le_of_ble_eq_true rfl⟩) (Z.preV h1008 rfl _) rfl rfl hl.1 rfl (lv_room (Nat.le_of_ble_eq_true rfl)) dL_law_263 ⟨(by show (_ : Nat) ≤ 601024; omega), (by show (_ : Nat) ≤ 7293034; omega)⟩) Z (fun r8 w3 H locs hp Z => ?_)
      obtain ⟨rfl, hw3⟩ := hp
      rw [hw3] at Z
      refine lv_iload hx hb dL_law_266 (lv_at hl 1 rfl) ?_
      refine lv_icmp_eq (tgt := 273) hx hb dL_law_268 (by decide) (fun _ => ?_) (fun hc => absurd (show (0 : Int32) = 0 from rfl) hc)
      refine lv_iload hx hb dL_law_273 (lv_at hl 1 rfl) ?_
      refine lv_if_ne (tgt := 290) hx hb dL_law_275 (by decide) (fun hc => absurd (show (0 : Int32) = 0 from rfl) hc) (fun _ => ?_)
      refine lv_aload_n hx hb dL_law_278 rfl (lv_at hl 6 rfl) ?_
      refine lv_iconst (v := 0) hx hb dL_law_279 (by decide) ?_
      refine zw_lald hx hb Z g111 ((show vp_in (nI 0) 1 from vin (by decide) (by decide))) dL_law_280 ?_
      refine zw_topl (r7.toInt64) (hv7) ?_
      refine lv_iload hx hb dL_law_281 (lv_at hl 0 rfl) ?_
      refine lv_i2l hx hb dL_law_283 rfl ?_
      refine W.lcmp hx hb dL_law_284 ?_
      refine zw_top (0) (zcmp_self _) ?_
      refine lv_if_eq (tgt := 290) hx hb dL_law_285 (by decide) (fun _ => ?_) (fun hc => absurd (show ((0) : Int32) = 0 from rfl) hc)
      refine lv_goto (tgt := 853) hx hb dL_law_290 (by decide) ?_
      refine W.widen (k := cells + 4) (n := slots + 24) (by omega) (by omega) ?_
      exact kk _ _ _ ls ⟨P, n, o, _, T, 0, 0, -1, out, 0, f1, D1.cong (fun k hk => hk2 k (by omega)), hM2, g111⟩ Z (lv_sub hl [2, 3, 4, 5, 6] rfl)
  · rcases hq with ⟨b1, hM2⟩ | ⟨b1, f8, p8, b2, b3, b4, hM2⟩ | ⟨b1, C2, e8, b2, b3, hM2⟩
    · have g111 : w2 111 = some (zj G 1 f1) := (hk2 111 (by decide)).trans h1111
      obtain ⟨F8, h1008⟩ := hM2.o100
      refine lv_aload_n hx hb dL_law_262 rfl (lv_at hl 5 rfl) ?_
      refine zw_calli (va_runV (As := []) (rest := []) ⟨hx, hb, hml, hown, hts⟩ (c_M_thrown l _ _ _ _ _ _ _ _ _ _ hM2) (kw_M_thrown hts ml_L_53 ⟨Nat.le_of_ble_eq_true rfl, Nat.le_of_ble_eq_true rfl⟩) (Z.preV h1008 rfl _) rfl rfl hl.1 rfl (lv_room (Nat.le_of_ble_eq_true rfl)) dL_law_263 ⟨(by show (_ : Nat) ≤ 601024; omega), (by show (_ : Nat) ≤ 7293034; omega)⟩) Z (fun r8 w3 H locs hp Z => ?_)
      obtain ⟨rfl, hw3⟩ := hp
      rw [hw3] at Z
      refine lv_iload hx hb dL_law_266 (lv_at hl 1 rfl) ?_
      refine lv_icmp_eq (tgt := 273) hx hb dL_law_268 (by decide) (fun _ => ?_) (fun hc => absurd (show (1 : Int32) = 1 from rfl) hc)
      refine lv_iload hx hb dL_law_273 (lv_at hl 1 rfl) ?_
      refine lv_if_ne (tgt := 290) hx hb dL_law_275 (by decide) (fun _ => ?_) (fun hc => absurd hc (show ¬ (1 : Int32) = 0 from by decide))
      refine lv_goto (tgt := 853) hx hb dL_law_290 (by decide) ?_
      refine W.widen (k := cells + 4) (n := slots + 24) (by omega) (by omega) ?_
      exact kk _ _ _ ls ⟨P, n, o, _, T, len, flt, pl, out, 1, f1, D1.cong (fun k hk => hk2 k (by omega)), hM2, g111⟩ Z (lv_sub hl [2, 3, 4, 5, 6] rfl)
    · exact absurd (b1.symm.trans a1) (by decide)
    · exact absurd (b1.symm.trans a1) (by decide)
  · rcases hq with ⟨b1, hM2⟩ | ⟨b1, f8, p8, b2, b3, b4, hM2⟩ | ⟨b1, C2, e8, b2, b3, hM2⟩
    · exact absurd (a1.symm.trans b1) (by decide)
    · have g111 : w2 111 = some (zj G 1 f1) := (hk2 111 (by decide)).trans h1111
      have he9 : (Sum.inl (f9, p9) : zRs) = .inl (f8, p8) := a2.symm.trans b2
      obtain ⟨rfl, rfl⟩ := Prod.mk.inj (Sum.inl.inj he9)
      obtain ⟨F8, h1008⟩ := hM2.o100
      refine lv_aload_n hx hb dL_law_262 rfl (lv_at hl 5 rfl) ?_
      refine zw_calli (va_runV (As := []) (rest := []) ⟨hx, hb, hml, hown, hts⟩ (c_M_thrown l _ _ _ _ _ _ _ _ _ _ hM2) (kw_M_thrown hts ml_L_53 ⟨Nat.le_of_ble_eq_true rfl, Nat.le_of_ble_eq_true rfl⟩) (Z.preV h1008 rfl _) rfl rfl hl.1 rfl (lv_room (Nat.le_of_ble_eq_true rfl)) dL_law_263 ⟨(by show (_ : Nat) ≤ 601024; omega), (by show (_ : Nat) ≤ 7293034; omega)⟩) Z (fun r8 w3 H locs hp Z => ?_)
      obtain ⟨rfl, hw3⟩ := hp
      rw [hw3] at Z
      refine lv_iload hx hb dL_law_266 (lv_at hl 1 rfl) ?_
      refine lv_icmp_eq (tgt := 273) hx hb dL_law_268 (by decide) (fun _ => ?_) (fun hc => absurd (show (2 : Int32) = 2 from rfl) hc)
      refine lv_iload hx hb dL_law_273 (lv_at hl 1 rfl) ?_
      refine lv_if_ne (tgt := 290) hx hb dL_law_275 (by decide) (fun _ => ?_) (fun hc => absurd hc (show ¬ (2 : Int32) = 0 from by decide))
      refine lv_goto (tgt := 853) hx hb dL_law_290 (by decide) ?_
      refine W.widen (k := cells + 4) (n := slots + 24) (by omega) (by omega) ?_
      exact kk _ _ _ ls ⟨P, n, o, _, T, 0, _, _, out, 2, f1, D1.cong (fun k hk => hk2 k (by omega)), hM2, g111⟩ Z (lv_sub hl [2, 3, 4, 5, 6] rfl)
    · exact absurd (a2.symm.trans b2) (fun h9 => by cases h9)
