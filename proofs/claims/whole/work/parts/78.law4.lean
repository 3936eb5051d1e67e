theorem zgt6 {i L : Nat} (hi : i ≤ 5000) (hL : L ≤ 5000) : (nI L - 6 < nI i) ↔ L < i + 6 := by
  rw [Int32.lt_iff_toInt_lt, Int32.toInt_sub, nI_toInt (by omega), nI_toInt (by omega), show (6 : Int32).toInt = 6 from rfl, Int.bmod_eq_of_le (by omega) (by omega)]
  omega
theorem zand15 (x : Int32) : ∃ k, k < 16 ∧ x &&& 15 = nI k := ⟨x.toBitVec.toNat % 2 ^ 4, Nat.mod_lt _ (by decide), pk_and x 4 (by decide)⟩

set_option maxHeartbeats 4000000 in
set_option maxRecDepth 100000 in
theorem lw_loop (l : Launch) (hnt : l.stackTraces = false) {p : Program} {e : Env} {s : State} {m : MethodId} {below : List Frame} {meth : Method} {c : Code} {Q : State → Prop} {b L : Nat} {xs : Nat → Int32} {G : zG} {ad : Nat → Nat} {qs qv : Nat} (hLa : zLa p s m c b L xs G) (hX : ∀ U H, G.2.2.2 U H → zTHR G U H) (hXh : ∀ U H, G.2.2.2 U H → zHIGH G U H) (hXs : ∀ U H, G.2.2.2 U H → zSTR G qs qv U H) (hL : L ≤ 3072) (hend : ∀ (cells slots : Nat) (w : Nat → Option va_E) (H : Heap) (locs : List Loc) (ls : Array Slot), cells ≤ 601024 → slots ≤ 7293034 → zw G ad w s H locs → W p l e room_1 s m #[Value.ref b] below meth c H locs (cells) (slots) Q (F0 m 860 ls [.int 1])) : ∀ (d i cells slots : Nat) (w : Nat → Option va_E) (H : Heap) (locs : List Loc) (ls : Array Slot), L < i + 6 * d + 6 → i ≤ L → cells + 4 * d ≤ 601024 → slots + 24 * d ≤ 7293034 → zLw G ad w → zw G ad w s H locs → lv_has ls 7 [(4, .int (nI i)), (0, .ref b), (1, .ref (ad 0)), (2, .ref (ad 100)), (3, .ref (ad 111))] → W p l e room_1 s m #[Value.ref b] below meth c H locs (cells) (slots) Q (F0 m 23 ls []) := by
  obtain ⟨hx, hb, hml, hown, hts, hXb, hbl, hbA⟩ := id hLa
  have hT : ∀ w ∈ zT, w.before #[Value.ref b] s = true := fun w h => hts w (List.mem_cons_of_mem _ h)
  intro d
  induction d with
  | zero =>
    intro i cells slots w H locs ls hd hiL hc4 hs4 hLw Z hl
    refine lv_iload hx hb dL_law_23 (lv_at hl 0 rfl) ?_
    refine lv_aload_n hx hb dL_law_25 rfl (lv_at hl 1 rfl) ?_
    refine va_slen hx hb hXb hbl hbA Z.2.2.1 dL_law_26 ?_
    refine zw_top (nI L) (rfl) ?_
    refine lv_bipush (v := 6) hx hb dL_law_27 (by decide) ?_
    refine lv_isub hx hb dL_law_29 ?_
    refine lv_icmp_gt (tgt := 859) hx hb dL_law_30 (by decide) (fun _ => ?_) (fun hc => absurd (show (((nI L) - 6) : Int32) < (nI i) from (zgt6 (by omega) (by omega)).mpr (by omega)) hc)
    refine lv_iconst (v := 1) hx hb dL_law_859 (by decide) ?_
    exact hend _ _ _ _ _ ls (by omega) (by omega) Z
  | succ d ih =>
    intro i cells slots w H locs ls hd hiL hc4 hs4 hLw Z hl
    refine lv_iload hx hb dL_law_23 (lv_at hl 0 rfl) ?_
    refine lv_aload_n hx hb dL_law_25 rfl (lv_at hl 1 rfl) ?_
    refine va_slen hx hb hXb hbl hbA Z.2.2.1 dL_law_26 ?_
    refine zw_top (nI L) (rfl) ?_
    refine lv_bipush (v := 6) hx hb dL_law_27 (by decide) ?_
    refine lv_isub hx hb dL_law_29 ?_
    refine lv_icmp_gt (tgt := 859) hx hb dL_law_30 (by decide) (fun hc => ?_) (fun hc => ?_)
    · refine lv_iconst (v := 1) hx hb dL_law_859 (by decide) ?_
      exact hend _ _ _ _ _ ls (by omega) (by omega) Z
    · have hi6 : i + 6 ≤ L := Nat.le_of_not_lt (fun h9 => hc ((zgt6 (by omega) (by omega)).mpr h9))
      have back : ∀ (w' : Nat → Option va_E) (H : Heap) (locs : List Loc) (ls : Array Slot), zLw G ad w' → zw G ad w' s H locs → lv_has ls 7 [(4, .int (nI i)), (0, .ref b), (1, .ref (ad 0)), (2, .ref (ad 100)), (3, .ref (ad 111))] → W p l e room_1 s m #[Value.ref b] below meth c H locs (cells + 4) (slots + 24) Q (F0 m 853 ls []) := by
        intro w' H locs ls hLw Z hl
        refine lv_iinc (v := nI (i + 6)) (lv' := [(4, .int (nI (i + 6))), (0, .ref b), (1, .ref (ad 0)), (2, .ref (ad 100)), (3, .ref (ad 111))]) hx hb dL_law_853 hl (k := 0) rfl (nI_add i 6) (by decide) rfl (fun ls hl => ?_)
        refine lv_goto (tgt := 23) hx hb dL_law_856 (by decide) ?_
        exact ih (i + 6) (cells + 4) (slots + 24) _ _ _ ls (by omega) (by omega) (by omega) (by omega) hLw Z hl
      refine lv_aload_n hx hb dL_law_33 rfl (lv_at hl 1 rfl) ?_
      refine lv_iload hx hb dL_law_34 (lv_at hl 0 rfl) ?_
      refine va_sld hx hb hXb hbl hbA Z.2.2.1 (vin (by omega) (by omega)) dL_law_36 ?_
      refine zw_top (xs i) (by rw [ncl (by omega)]) ?_
      refine lv_bipush (v := 15) hx hb dL_law_37 (by decide) ?_
      refine lv_iand hx hb dL_law_39 ?_
      obtain ⟨k9, hk9, hv9⟩ := zand15 (xs i)
      refine zw_top (nI k9) (hv9) ?_
      have hk : k9 = 0 ∨ k9 = 1 ∨ k9 = 2 ∨ k9 = 3 ∨ k9 = 4 ∨ k9 = 5 ∨ k9 = 6 ∨ k9 = 7 ∨ k9 = 8 ∨ k9 = 9 ∨ k9 = 10 ∨ k9 = 11 ∨ k9 = 12 ∨ 13 ≤ k9 := by omega
      rcases hk with rfl | rfl | rfl | rfl | rfl | rfl | rfl | rfl | rfl | rfl | rfl | rfl | rfl | h13
      · refine lv_tableIn (tgt := 108) (off := 68) hx hb dL_law_40 (by decide) (by decide) (by decide) (by decide) ?_
        exact lw_c0 l hnt hLa hX hXh hXs hL i cells slots hi6 (by omega) (by omega) hLw Z hl back
      · refine lv_tableIn (tgt := 168) (off := 128) hx hb dL_law_40 (by decide) (by decide) (by decide) (by decide) ?_
        exact lw_c1 l hnt hLa hX hXh hXs hL i cells slots hi6 (by omega) (by omega) hLw Z hl back
      · refine lv_tableIn (tgt := 237) (off := 197) hx hb dL_law_40 (by decide) (by decide) (by decide) (by decide) ?_
        exact lw_c2 l hnt hLa hX hXh hXs hL i cells slots hi6 (by omega) (by omega) hLw Z hl back
      · refine lv_tableIn (tgt := 293) (off := 253) hx hb dL_law_40 (by decide) (by decide) (by decide) (by decide) ?_
        exact lw_c3 l hnt hLa hX hXh hXs hL i cells slots hi6 (by omega) (by omega) hLw Z hl back
      · refine lv_tableIn (tgt := 318) (off := 278) hx hb dL_law_40 (by decide) (by decide) (by decide) (by decide) ?_
        exact lw_c4 l hnt hLa hX hXh hXs hL i cells slots hi6 (by omega) (by omega) hLw Z hl back
      · refine lv_tableIn (tgt := 390) (off := 350) hx hb dL_law_40 (by decide) (by decide) (by decide) (by decide) ?_
        exact lw_c5 l hnt hLa hX hXh hXs hL i cells slots hi6 (by omega) (by omega) hLw Z hl back
      · refine lv_tableIn (tgt := 450) (off := 410) hx hb dL_law_40 (by decide) (by decide) (by decide) (by decide) ?_
        exact lw_c6 l hnt hLa hX hXh hXs hL i cells slots hi6 (by omega) (by omega) hLw Z hl back
      · refine lv_tableIn (tgt := 510) (off := 470) hx hb dL_law_40 (by decide) (by decide) (by decide) (by decide) ?_
        exact lw_c7 l hnt hLa hX hXh hXs hL i cells slots hi6 (by omega) (by omega) hLw Z hl back
      · refine lv_tableIn (tgt := 582) (off := 542) hx hb dL_law_40 (by decide) (by decide) (by decide) (by decide) ?_
        exact lw_c8 l hnt hLa hX hXh hXs hL i cells slots hi6 (by omega) (by omega) hLw Z hl back
      · refine lv_tableIn (tgt := 686) (off := 646) hx hb dL_law_40 (by decide) (by decide) (by decide) (by decide) ?_
        exact lw_c9 l hnt hLa hX hXh hXs hL i cells slots hi6 (by omega) (by omega) hLw Z hl back
      · refine lv_tableIn (tgt := 723) (off := 683) hx hb dL_law_40 (by decide) (by decide) (by decide) (by decide) ?_
        exact lw_c10 l hnt hLa hX hXh hXs hL i cells slots hi6 (by omega) (by omega) hLw Z hl back
      · refine lv_tableIn (tgt := 772) (off := 732) hx hb dL_law_40 (by decide) (by decide) (by decide) (by decide) ?_
        exact lw_c11 l hnt hLa hX hXh hXs hL i cells slots hi6 (by omega) (by omega) hLw Z hl back
      · refine lv_tableIn (tgt := 828) (off := 788) hx hb dL_law_40 (by decide) (by decide) (by decide) (by decide) ?_
        exact lw_c12 l hnt hLa hX hXh hXs hL i cells slots hi6 (by omega) (by omega) hLw Z hl back
      · refine lv_tableOut (tgt := 853) hx hb dL_law_40 (Or.inr (by rw [nI_toInt (by omega)]; omega)) (by decide) ?_
        refine W.widen (k := cells + 4) (n := slots + 24) (by omega) (by omega) ?_
        exact back _ _ _ ls hLw Z hl
