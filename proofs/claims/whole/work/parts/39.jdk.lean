/-! names of the JDK methods under charAt, by program (wip/whole/jdk.py) -/
def yS_charAt : MethodName := ⟨"java/lang/String", "charAt", "(I)C"⟩
abbrev bS_charAt : ByteArray := prog_12_method_56_code
def yS_isLatin1 : MethodName := ⟨"java/lang/String", "isLatin1", "()Z"⟩
abbrev bS_isLatin1 : ByteArray := prog_12_method_154_code
def yB_charAt : MethodName := ⟨"java/lang/StringLatin1", "charAt", "([BI)C"⟩
abbrev bB_charAt : ByteArray := prog_13_method_2_code
def yS_checkIndex : MethodName := ⟨"java/lang/String", "checkIndex", "(II)V"⟩
abbrev bS_checkIndex : ByteArray := prog_12_method_155_code
def yQ_checkIndex : MethodName := ⟨"jdk/internal/util/Preconditions", "checkIndex", "(IILjava/util/function/BiFunction;)I"⟩
abbrev bQ_checkIndex : ByteArray := prog_18_method_11_code
abbrev kS_charAt : Cond := .code yS_charAt bS_charAt 2 (some .char)
theorem mk_S_charAt : kS_charAt ∈ zT := zT_in (List.mem_append_right _ (List.mem_append_right _ (List.mem_append_right _ (List.mem_append_left _ (List.mem_of_getElem? (l := tables_1_3) (i := 58) rfl))))) rfl
abbrev wS_charAt : List Cond := kS_charAt :: zT
abbrev kS_isLatin1 : Cond := .code yS_isLatin1 bS_isLatin1 1 (some .boolean)
theorem mk_S_isLatin1 : kS_isLatin1 ∈ zT := zT_in (List.mem_append_right _ (List.mem_append_right _ (List.mem_append_right _ (List.mem_append_left _ (List.mem_of_getElem? (l := tables_1_3) (i := 62) rfl))))) rfl
abbrev wS_isLatin1 : List Cond := kS_isLatin1 :: zT
abbrev kB_charAt : Cond := .code yB_charAt bB_charAt 2 (some .char)
theorem mk_B_charAt : kB_charAt ∈ zT := zT_in (List.mem_append_right _ (List.mem_append_right _ (List.mem_append_right _ (List.mem_append_left _ (List.mem_of_getElem? (l := tables_1_3) (i := 67) rfl))))) rfl
abbrev wB_charAt : List Cond := kB_charAt :: zT
abbrev kS_checkIndex : Cond := .code yS_checkIndex bS_checkIndex 2 none
theorem mk_S_checkIndex : kS_checkIndex ∈ zT := zT_in (List.mem_append_right _ (List.mem_append_right _ (List.mem_append_right _ (List.mem_append_left _ (List.mem_of_getElem? (l := tables_1_3) (i := 70) rfl))))) rfl
abbrev wS_checkIndex : List Cond := kS_checkIndex :: zT
abbrev kQ_checkIndex : Cond := .code yQ_checkIndex bQ_checkIndex 3 (some .int)
theorem mk_Q_checkIndex : kQ_checkIndex ∈ zT := zT_in (List.mem_append_right _ (List.mem_append_right _ (List.mem_append_right _ (List.mem_append_left _ (List.mem_of_getElem? (l := tables_1_3) (i := 75) rfl))))) rfl
abbrev wQ_checkIndex : List Cond := kQ_checkIndex :: zT
theorem mlp_P_46 : (.methodLink "PolynomialDesk$Printer" 46 yS_charAt : Cond) ∈ zT := zT_in (List.mem_append_right _ (List.mem_append_right _ (List.mem_append_right _ (List.mem_append_left _ (List.mem_of_getElem? (l := tables_1_3) (i := 55) rfl))))) rfl
theorem mi_S_charAt : (.instanceMethod yS_charAt : Cond) ∈ zT := zT_in (List.mem_append_right _ (List.mem_append_right _ (List.mem_append_right _ (List.mem_append_left _ (List.mem_of_getElem? (l := tables_1_3) (i := 56) rfl))))) rfl
theorem ms_S_charAt : (.selects "java/lang/String" yS_charAt yS_charAt : Cond) ∈ zT := zT_in (List.mem_append_right _ (List.mem_append_right _ (List.mem_append_right _ (List.mem_append_left _ (List.mem_of_getElem? (l := tables_1_3) (i := 57) rfl))))) rfl
theorem ml_S_492 : (.methodLink "java/lang/String" 492 yS_isLatin1 : Cond) ∈ zT := zT_in (List.mem_append_right _ (List.mem_append_right _ (List.mem_append_right _ (List.mem_append_left _ (List.mem_of_getElem? (l := tables_1_3) (i := 59) rfl))))) rfl
theorem mi_S_isLatin1 : (.instanceMethod yS_isLatin1 : Cond) ∈ zT := zT_in (List.mem_append_right _ (List.mem_append_right _ (List.mem_append_right _ (List.mem_append_left _ (List.mem_of_getElem? (l := tables_1_3) (i := 60) rfl))))) rfl
theorem ms_S_isLatin1 : (.selects "java/lang/String" yS_isLatin1 yS_isLatin1 : Cond) ∈ zT := zT_in (List.mem_append_right _ (List.mem_append_right _ (List.mem_append_right _ (List.mem_append_left _ (List.mem_of_getElem? (l := tables_1_3) (i := 61) rfl))))) rfl
theorem mf_S_38 : (.fieldLink "java/lang/String" 38 "java/lang/String" "COMPACT_STRINGS" "Z" : Cond) ∈ zT := zT_in (List.mem_append_right _ (List.mem_append_right _ (List.mem_append_right _ (List.mem_append_left _ (List.mem_of_getElem? (l := tables_1_3) (i := 63) rfl))))) rfl
theorem ml_S_495 : (.methodLink "java/lang/String" 495 yB_charAt : Cond) ∈ zT := zT_in (List.mem_append_right _ (List.mem_append_right _ (List.mem_append_right _ (List.mem_append_left _ (List.mem_of_getElem? (l := tables_1_3) (i := 65) rfl))))) rfl
theorem mt_B_charAt : (.static yB_charAt : Cond) ∈ zT := zT_in (List.mem_append_right _ (List.mem_append_right _ (List.mem_append_right _ (List.mem_append_left _ (List.mem_of_getElem? (l := tables_1_3) (i := 66) rfl))))) rfl
theorem ml_B_9 : (.methodLink "java/lang/StringLatin1" 9 yS_checkIndex : Cond) ∈ zT := zT_in (List.mem_append_right _ (List.mem_append_right _ (List.mem_append_right _ (List.mem_append_left _ (List.mem_of_getElem? (l := tables_1_3) (i := 68) rfl))))) rfl
theorem mt_S_checkIndex : (.static yS_checkIndex : Cond) ∈ zT := zT_in (List.mem_append_right _ (List.mem_append_right _ (List.mem_append_right _ (List.mem_append_left _ (List.mem_of_getElem? (l := tables_1_3) (i := 69) rfl))))) rfl
theorem mf_S_1053 : (.fieldLink "java/lang/String" 1053 "jdk/internal/util/Preconditions" "SIOOBE_FORMATTER" "Ljava/util/function/BiFunction;" : Cond) ∈ zT := zT_in (List.mem_append_right _ (List.mem_append_right _ (List.mem_append_right _ (List.mem_append_left _ (List.mem_of_getElem? (l := tables_1_3) (i := 71) rfl))))) rfl
theorem ml_S_1059 : (.methodLink "java/lang/String" 1059 yQ_checkIndex : Cond) ∈ zT := zT_in (List.mem_append_right _ (List.mem_append_right _ (List.mem_append_right _ (List.mem_append_left _ (List.mem_of_getElem? (l := tables_1_3) (i := 73) rfl))))) rfl
theorem mt_Q_checkIndex : (.static yQ_checkIndex : Cond) ∈ zT := zT_in (List.mem_append_right _ (List.mem_append_right _ (List.mem_append_right _ (List.mem_append_left _ (List.mem_of_getElem? (l := tables_1_3) (i := 74) rfl))))) rfl
theorem ml_S_498 : (.methodLink "java/lang/String" 498 ⟨"java/lang/StringUTF16", "charAt", "([BI)C"⟩ : Cond) ∈ zT := zT_in (List.mem_append_right _ (List.mem_append_right _ (List.mem_append_right _ (List.mem_append_left _ (List.mem_of_getElem? (l := tables_1_3) (i := 76) rfl))))) rfl
theorem mf_S_15 : (.fieldLink "java/lang/String" 15 "java/lang/String" "coder" "B" : Cond) ∈ zT := zT_in (List.mem_append_right _ (List.mem_append_right _ (List.mem_append_right _ (List.mem_append_right _ (List.mem_of_getElem? (l := tables_1_4) (i := 134) rfl))))) rfl
theorem mf_S_9 : (.fieldLink "java/lang/String" 9 "java/lang/String" "value" "[B" : Cond) ∈ zT := zT_in (List.mem_append_right _ (List.mem_append_right _ (List.mem_append_right _ (List.mem_append_right _ (List.mem_of_getElem? (l := tables_1_4) (i := 135) rfl))))) rfl
theorem mn_S : (.initialized "java/lang/String" : Cond) ∈ zT := mn_String
theorem mn_B : (.initialized "java/lang/StringLatin1" : Cond) ∈ zT := mn_StringLatin1
theorem mn_Q : (.initialized "jdk/internal/util/Preconditions" : Cond) ∈ zT := mn_Preconditions
theorem dS_charAt_0 : decode bS_charAt 0 = .ok (.aload_n 0, 1) := by decide +kernel
theorem dS_charAt_1 : decode bS_charAt 1 = .ok (.invokevirtual 492, 3) := by decide +kernel
theorem dS_charAt_4 : decode bS_charAt 4 = .ok (.ifCond .eq 12, 3) := by decide +kernel
theorem dS_charAt_7 : decode bS_charAt 7 = .ok (.aload_n 0, 1) := by decide +kernel
theorem dS_charAt_8 : decode bS_charAt 8 = .ok (.getfield 9, 3) := by decide +kernel
theorem dS_charAt_11 : decode bS_charAt 11 = .ok (.iload_n 1, 1) := by decide +kernel
theorem dS_charAt_12 : decode bS_charAt 12 = .ok (.invokestatic 495, 3) := by decide +kernel
theorem dS_charAt_15 : decode bS_charAt 15 = .ok (.ireturn, 1) := by decide +kernel
theorem dS_isLatin1_0 : decode bS_isLatin1 0 = .ok (.getstatic 38, 3) := by decide +kernel
theorem dS_isLatin1_3 : decode bS_isLatin1 3 = .ok (.ifCond .eq 14, 3) := by decide +kernel
theorem dS_isLatin1_6 : decode bS_isLatin1 6 = .ok (.aload_n 0, 1) := by decide +kernel
theorem dS_isLatin1_7 : decode bS_isLatin1 7 = .ok (.getfield 15, 3) := by decide +kernel
theorem dS_isLatin1_10 : decode bS_isLatin1 10 = .ok (.ifCond .ne 7, 3) := by decide +kernel
theorem dS_isLatin1_13 : decode bS_isLatin1 13 = .ok (.iconst 1, 1) := by decide +kernel
theorem dS_isLatin1_14 : decode bS_isLatin1 14 = .ok (.goto 4, 3) := by decide +kernel
theorem dS_isLatin1_17 : decode bS_isLatin1 17 = .ok (.iconst 0, 1) := by decide +kernel
theorem dS_isLatin1_18 : decode bS_isLatin1 18 = .ok (.ireturn, 1) := by decide +kernel
theorem dB_charAt_0 : decode bB_charAt 0 = .ok (.iload_n 1, 1) := by decide +kernel
theorem dB_charAt_1 : decode bB_charAt 1 = .ok (.aload_n 0, 1) := by decide +kernel
theorem dB_charAt_2 : decode bB_charAt 2 = .ok (.arraylength, 1) := by decide +kernel
theorem dB_charAt_3 : decode bB_charAt 3 = .ok (.invokestatic 9, 3) := by decide +kernel
theorem dB_charAt_6 : decode bB_charAt 6 = .ok (.aload_n 0, 1) := by decide +kernel
theorem dB_charAt_7 : decode bB_charAt 7 = .ok (.iload_n 1, 1) := by decide +kernel
theorem dB_charAt_8 : decode bB_charAt 8 = .ok (.baload, 1) := by decide +kernel
theorem dB_charAt_9 : decode bB_charAt 9 = .ok (.sipush 255, 3) := by decide +kernel
theorem dB_charAt_12 : decode bB_charAt 12 = .ok (.iand, 1) := by decide +kernel
theorem dB_charAt_13 : decode bB_charAt 13 = .ok (.i2c, 1) := by decide +kernel
theorem dB_charAt_14 : decode bB_charAt 14 = .ok (.ireturn, 1) := by decide +kernel
theorem dS_checkIndex_0 : decode bS_checkIndex 0 = .ok (.iload_n 0, 1) := by decide +kernel
theorem dS_checkIndex_1 : decode bS_checkIndex 1 = .ok (.iload_n 1, 1) := by decide +kernel
theorem dS_checkIndex_2 : decode bS_checkIndex 2 = .ok (.getstatic 1053, 3) := by decide +kernel
theorem dS_checkIndex_5 : decode bS_checkIndex 5 = .ok (.invokestatic 1059, 3) := by decide +kernel
theorem dS_checkIndex_8 : decode bS_checkIndex 8 = .ok (.pop, 1) := by decide +kernel
theorem dS_checkIndex_9 : decode bS_checkIndex 9 = .ok (.return_, 1) := by decide +kernel
theorem dQ_checkIndex_0 : decode bQ_checkIndex 0 = .ok (.iload_n 0, 1) := by decide +kernel
theorem dQ_checkIndex_1 : decode bQ_checkIndex 1 = .ok (.ifCond .lt 8, 3) := by decide +kernel
theorem dQ_checkIndex_4 : decode bQ_checkIndex 4 = .ok (.iload_n 0, 1) := by decide +kernel
theorem dQ_checkIndex_5 : decode bQ_checkIndex 5 = .ok (.iload_n 1, 1) := by decide +kernel
theorem dQ_checkIndex_6 : decode bQ_checkIndex 6 = .ok (.if_icmp .lt 10, 3) := by decide +kernel
theorem dQ_checkIndex_16 : decode bQ_checkIndex 16 = .ok (.iload_n 0, 1) := by decide +kernel
theorem dQ_checkIndex_17 : decode bQ_checkIndex 17 = .ok (.ireturn, 1) := by decide +kernel
theorem kw_S_charAt {R : Room} {k : Nat} {s : State} {args : Array Value} {own : String} {index : Nat} {c0 : Cond} (hts : ∀ w ∈ c0 :: zT, w.before args s = true) (hl : Cond.methodLink own index yS_charAt ∈ zT) (hR : (zR k).frames + 1 ≤ R.frames ∧ 8 + (2 + 11) + (zR k).locals ≤ R.locals) : CallW R s args own "java/lang/String" index yS_charAt bS_charAt 2 (some .char) wS_charAt (zR k) 0 0 1 :=
  cwV 1 hts (zG_V hl mi_S_charAt ms_S_charAt mn_S mk_S_charAt) rfl rfl rfl (by decide +kernel) hR
theorem kw_S_isLatin1 {R : Room} {k : Nat} {s : State} {args : Array Value} {own : String} {index : Nat} {c0 : Cond} (hts : ∀ w ∈ c0 :: zT, w.before args s = true) (hl : Cond.methodLink own index yS_isLatin1 ∈ zT) (hR : (zR k).frames + 1 ≤ R.frames ∧ 8 + (1 + 11) + (zR k).locals ≤ R.locals) : CallW R s args own "java/lang/String" index yS_isLatin1 bS_isLatin1 1 (some .boolean) wS_isLatin1 (zR k) 0 0 0 :=
  cwV 0 hts (zG_V hl mi_S_isLatin1 ms_S_isLatin1 mn_S mk_S_isLatin1) rfl rfl rfl (by decide +kernel) hR
theorem kw_B_charAt {R : Room} {k : Nat} {s : State} {args : Array Value} {own : String} {index : Nat} {c0 : Cond} (hts : ∀ w ∈ c0 :: zT, w.before args s = true) (hl : Cond.methodLink own index yB_charAt ∈ zT) (hR : (zR k).frames + 1 ≤ R.frames ∧ 8 + (2 + 11) + (zR k).locals ≤ R.locals) : CallB R s args own index yB_charAt bB_charAt 2 (some .char) wB_charAt (zR k) 0 0 2 ∧ (Cond.static yB_charAt).before args s = true :=
  va_cwS 2 hts (zG_S hl mt_B_charAt mn_B mk_B_charAt) rfl rfl rfl (by decide +kernel) hR
theorem kw_S_checkIndex {R : Room} {k : Nat} {s : State} {args : Array Value} {own : String} {index : Nat} {c0 : Cond} (hts : ∀ w ∈ c0 :: zT, w.before args s = true) (hl : Cond.methodLink own index yS_checkIndex ∈ zT) (hR : (zR k).frames + 1 ≤ R.frames ∧ 8 + (2 + 11) + (zR k).locals ≤ R.locals) : CallB R s args own index yS_checkIndex bS_checkIndex 2 none wS_checkIndex (zR k) 0 0 2 ∧ (Cond.static yS_checkIndex).before args s = true :=
  va_cwS 2 hts (zG_S hl mt_S_checkIndex mn_S mk_S_checkIndex) rfl rfl rfl (by decide +kernel) hR
theorem kw_Q_checkIndex {R : Room} {k : Nat} {s : State} {args : Array Value} {own : String} {index : Nat} {c0 : Cond} (hts : ∀ w ∈ c0 :: zT, w.before args s = true) (hl : Cond.methodLink own index yQ_checkIndex ∈ zT) (hR : (zR k).frames + 1 ≤ R.frames ∧ 8 + (3 + 11) + (zR k).locals ≤ R.locals) : CallB R s args own index yQ_checkIndex bQ_checkIndex 3 (some .int) wQ_checkIndex (zR k) 0 0 3 ∧ (Cond.static yQ_checkIndex).before args s = true :=
  va_cwS 3 hts (zG_S hl mt_Q_checkIndex mn_Q mk_Q_checkIndex) rfl rfl rfl (by decide +kernel) hR
/-- what is known of the text xyzw, and of the statics that charAt reads -/
def zSTR (G : zG) (qs qv : Nat) (U : State) (H : Heap) : Prop := vk_R "PolynomialDesk$Printer" 44 "xyzw" qs U ∧ vk_S 1 [4] [[120, 121, 122, 119]] (fun _ => qs) (fun _ => qv) (zA G) U H ∧ va_Z "java/lang/String" "COMPACT_STRINGS" "Z" (.int 1) (zA G) U H ∧ va_Zq "jdk/internal/util/Preconditions" "SIOOBE_FORMATTER" "Ljava/util/function/BiFunction;" (zA G) U H
def znm (v : Nat) : Nat := ([120, 121, 122, 119] : List Nat).getD v 0
theorem znm_ch : ∀ v, v < 4 → (((([120, 121, 122, 119] : List Int32).getD v 0) &&& 255).toUInt32 % 65536).toInt32 = nI (znm v) := by decide
theorem znm_lt (v : Nat) : znm v < 256 := by
  unfold znm
  match v with
  | 0 => decide
  | 1 => decide
  | 2 => decide
  | 3 => decide
  | _ + 4 => exact (by decide : (0 : Nat) < 256)

set_option maxHeartbeats 4000000 in
set_option maxRecDepth 100000 in
theorem c_Q_checkIndexN (l : Launch) {G : zG} {ad : Nat → Nat} {w : Nat → Option va_E} (i n : Nat) (hi : i < n) (hn : n < 2 ^ 31) : Met l yQ_checkIndex wQ_checkIndex (zR (1)) (va_Pc [.int (nI i), .int (nI n), .null] (zw_U G ad w)) (va_Qi (S := Nat → Option va_E) (fun r w' => r = nI i ∧ w' = w) (fun u t => zw_U G ((fun _ => ad) u) ((fun w' => w') u) t) (zA G)) 0 0 (zA G) := by
  refine zw_methi (S := Nat → Option va_E) (fa := fun _ => ad) (fw := fun w' => w') (by decide) rfl (Nat.le_of_ble_eq_true rfl) ?_
  intro p e s m below meth c Q ls C hname Z hl hret
  obtain ⟨hx, hb, hml, hown, hts, hlk⟩ := C
  have hT : ∀ w ∈ zT, w.before ([.int (nI i), .int (nI n), .null] : List Value).toArray s = true := fun w h => hts w (List.mem_cons_of_mem _ h)
  have hown : s.vm.findClass "jdk/internal/util/Preconditions" = some m.cls := hown
  have hl : lv_has ls 3 [(0, .int (nI i)), (1, .int (nI n)), (2, .null)] := hl
  refine lv_iload_n hx hb dQ_checkIndex_0 rfl (lv_at hl 0 rfl) ?_
  refine lv_if_lt (tgt := 9) hx hb dQ_checkIndex_1 (by decide) (fun hc => absurd hc (show ¬ (((nI i) : Int32) < 0) from nI_pos (by omega))) (fun _ => ?_)
  refine lv_iload_n hx hb dQ_checkIndex_4 rfl (lv_at hl 0 rfl) ?_
  refine lv_iload_n hx hb dQ_checkIndex_5 rfl (lv_at hl 1 rfl) ?_
  refine lv_icmp_lt (tgt := 16) hx hb dQ_checkIndex_6 (by decide) (fun _ => ?_) (fun hc => absurd (show ((nI i) : Int32) < (nI n) from nI_lt hi hn) hc)
  refine lv_iload_n hx hb dQ_checkIndex_16 rfl (lv_at hl 0 rfl) ?_
  exact hret _ _ _ _ _ _ dQ_checkIndex_17 (⟨rfl, rfl⟩) Z

set_option maxHeartbeats 4000000 in
set_option maxRecDepth 100000 in
theorem c_Q_checkIndexR (l : Launch) {G : zG} {ad : Nat → Nat} {w : Nat → Option va_E} (t : Nat) (i n : Nat) (hi : i < n) (hn : n < 2 ^ 31) : Met l yQ_checkIndex wQ_checkIndex (zR (1)) (va_Pc [.int (nI i), .int (nI n), .ref t] (zw_U G ad w)) (va_Qi (S := Nat → Option va_E) (fun r w' => r = nI i ∧ w' = w) (fun u t => zw_U G ((fun _ => ad) u) ((fun w' => w') u) t) (zA G)) 0 0 (zA G) := by
  refine zw_methi (S := Nat → Option va_E) (fa := fun _ => ad) (fw := fun w' => w') (by decide) rfl (Nat.le_of_ble_eq_true rfl) ?_
  intro p e s m below meth c Q ls C hname Z hl hret
  obtain ⟨hx, hb, hml, hown, hts, hlk⟩ := C
  have hT : ∀ w ∈ zT, w.before ([.int (nI i), .int (nI n), .ref t] : List Value).toArray s = true := fun w h => hts w (List.mem_cons_of_mem _ h)
  have hown : s.vm.findClass "jdk/internal/util/Preconditions" = some m.cls := hown
  have hl : lv_has ls 3 [(0, .int (nI i)), (1, .int (nI n)), (2, .ref t)] := hl
  refine lv_iload_n hx hb dQ_checkIndex_0 rfl (lv_at hl 0 rfl) ?_
  refine lv_if_lt (tgt := 9) hx hb dQ_checkIndex_1 (by decide) (fun hc => absurd hc (show ¬ (((nI i) : Int32) < 0) from nI_pos (by omega))) (fun _ => ?_)
  refine lv_iload_n hx hb dQ_checkIndex_4 rfl (lv_at hl 0 rfl) ?_
  refine lv_iload_n hx hb dQ_checkIndex_5 rfl (lv_at hl 1 rfl) ?_
  refine lv_icmp_lt (tgt := 16) hx hb dQ_checkIndex_6 (by decide) (fun _ => ?_) (fun hc => absurd (show ((nI i) : Int32) < (nI n) from nI_lt hi hn) hc)
  refine lv_iload_n hx hb dQ_checkIndex_16 rfl (lv_at hl 0 rfl) ?_
  exact hret _ _ _ _ _ _ dQ_checkIndex_17 (⟨rfl, rfl⟩) Z

set_option maxHeartbeats 4000000 in
set_option maxRecDepth 100000 in
theorem c_S_checkIndex (l : Launch) {G : zG} {ad : Nat → Nat} {w : Nat → Option va_E} (qs qv : Nat) (hX : ∀ U H, G.2.2.2 U H → zSTR G qs qv U H) (i n : Nat) (hi : i < n) (hn : n < 2 ^ 31) : Met l yS_checkIndex wS_checkIndex (zR (2)) (va_Pc [.int (nI i), .int (nI n)] (zw_U G ad w)) (va_Qv (S := Nat → Option va_E) (fun w' => w' = w) (fun u t => zw_U G ((fun _ => ad) u) ((fun w' => w') u) t) (zA G)) 0 0 (zA G) := by
  refine zw_methv (S := Nat → Option va_E) (fa := fun _ => ad) (fw := fun w' => w') (by decide) rfl (Nat.le_of_ble_eq_true rfl) ?_
  intro p e s m below meth c Q ls C hname Z hl hret
  obtain ⟨hx, hb, hml, hown, hts, hlk⟩ := C
  have hT : ∀ w ∈ zT, w.before ([.int (nI i), .int (nI n)] : List Value).toArray s = true := fun w h => hts w (List.mem_cons_of_mem _ h)
  have hown : s.vm.findClass "java/lang/String" = some m.cls := hown
  have hl : lv_has ls 2 [(0, .int (nI i)), (1, .int (nI n))] := hl
  obtain ⟨hx1, hx2, hx3, hx4⟩ := hX _ _ Z.2.2.2.2.2
  refine lv_iload_n hx hb dS_checkIndex_0 rfl (lv_at hl 0 rfl) ?_
  refine lv_iload_n hx hb dS_checkIndex_1 rfl (lv_at hl 1 rfl) ?_
  rcases hx4 with hx4 | ⟨t, hx4⟩
  · refine va_gets hx hb hx4 Z.2.2.1 hown (hT _ mf_S_1053) (fun _ h9 => h9) dS_checkIndex_2 ?_
    refine zw_calli (va_runS (As := [.int (nI i), .int (nI n), .null]) (rest := []) ⟨hx, hb, hml, hown, hts⟩ (c_Q_checkIndexN l i n hi hn) (kw_Q_checkIndex hts ml_S_1059 (zR_fit (by omega) (by omega))) (Z.preS _) rfl rfl hl.1 rfl (lv_room (Nat.le_of_ble_eq_true rfl)) dS_checkIndex_5 ⟨Nat.le_of_ble_eq_true rfl, Nat.le_of_ble_eq_true rfl⟩) Z (fun r wq H locs hp Z => ?_)
    obtain ⟨rfl, hw1⟩ := hp
    rw [hw1] at Z
    clear hw1
    refine lv_pop hx hb dS_checkIndex_8 rfl ?_
    exact hret _ _ _ _ _ dS_checkIndex_9 (rfl) Z
  · refine va_gets hx hb hx4 Z.2.2.1 hown (hT _ mf_S_1053) (fun _ h9 => h9) dS_checkIndex_2 ?_
    refine zw_calli (va_runS (As := [.int (nI i), .int (nI n), .ref t]) (rest := []) ⟨hx, hb, hml, hown, hts⟩ (c_Q_checkIndexR l t i n hi hn) (kw_Q_checkIndex hts ml_S_1059 (zR_fit (by omega) (by omega))) (Z.preS _) rfl rfl hl.1 rfl (lv_room (Nat.le_of_ble_eq_true rfl)) dS_checkIndex_5 ⟨Nat.le_of_ble_eq_true rfl, Nat.le_of_ble_eq_true rfl⟩) Z (fun r wq H locs hp Z => ?_)
    obtain ⟨rfl, hw1⟩ := hp
    rw [hw1] at Z
    clear hw1
    refine lv_pop hx hb dS_checkIndex_8 rfl ?_
    exact hret _ _ _ _ _ dS_checkIndex_9 (rfl) Z

set_option maxHeartbeats 4000000 in
set_option maxRecDepth 100000 in
theorem c_B_charAt (l : Launch) {G : zG} {ad : Nat → Nat} {w : Nat → Option va_E} (qs qv : Nat) (hX : ∀ U H, G.2.2.2 U H → zSTR G qs qv U H) (v : Nat) (hv : v < 4) : Met l yB_charAt wB_charAt (zR (3)) (va_Pc [.ref qv, .int (nI v)] (zw_U G ad w)) (va_Qi (S := Nat → Option va_E) (fun r w' => r = nI (znm v) ∧ w' = w) (fun u t => zw_U G ((fun _ => ad) u) ((fun w' => w') u) t) (zA G)) 0 0 (zA G) := by
  refine zw_methc (S := Nat → Option va_E) (fa := fun _ => ad) (fw := fun w' => w') (by decide) rfl (Nat.le_of_ble_eq_true rfl) (fun r u h => by rw [h.1]; exact (pk_charN (by have := znm_lt v; omega)).1) ?_
  intro p e s m below meth c Q ls C hname Z hl hret
  obtain ⟨hx, hb, hml, hown, hts, hlk⟩ := C
  have hT : ∀ w ∈ zT, w.before ([.ref qv, .int (nI v)] : List Value).toArray s = true := fun w h => hts w (List.mem_cons_of_mem _ h)
  have hown : s.vm.findClass "java/lang/StringLatin1" = some m.cls := hown
  have hl : lv_has ls 2 [(0, .ref qv), (1, .int (nI v))] := hl
  obtain ⟨hx1, hx2, hx3, hx4⟩ := hX _ _ Z.2.2.2.2.2
  have hTb := (hx2.1 0 (by decide)).2.2.2
  refine lv_iload_n hx hb dB_charAt_0 rfl (lv_at hl 1 rfl) ?_
  refine lv_aload_n hx hb dB_charAt_1 rfl (lv_at hl 0 rfl) ?_
  refine va_tlen hx hb hTb Z.2.2.1 (v := nI 4) rfl dB_charAt_2 ?_
  refine zw_callv (va_runS (As := [.int (nI v), .int (nI 4)]) (rest := []) ⟨hx, hb, hml, hown, hts⟩ (c_S_checkIndex l qs qv hX v 4 hv (by decide)) (kw_S_checkIndex hts ml_B_9 (zR_fit (by omega) (by omega))) (Z.preS _) rfl rfl hl.1 rfl (lv_room (Nat.le_of_ble_eq_true rfl)) dB_charAt_3 ⟨Nat.le_of_ble_eq_true rfl, Nat.le_of_ble_eq_true rfl⟩) Z (fun w1 H locs hp Z => ?_)
  have hw1 := hp
  rw [hw1] at Z
  clear hw1
  refine lv_aload_n hx hb dB_charAt_6 rfl (lv_at hl 0 rfl) ?_
  refine lv_iload_n hx hb dB_charAt_7 rfl (lv_at hl 1 rfl) ?_
  refine va_tb hx hb hTb Z.2.2.1 (vin hv (by decide)) (v := .int (([120, 121, 122, 119] : List Int32).getD v 0)) (by rw [ncl (by omega)]; rfl) dB_charAt_8 ?_
  refine lv_sipush (v := 255) hx hb dB_charAt_9 (by decide) ?_
  refine lv_iand hx hb dB_charAt_12 ?_
  refine lv_i2c hx hb dB_charAt_13 rfl ?_
  refine zw_top (nI (znm v)) (znm_ch v hv) ?_
  exact hret _ _ _ _ _ _ dB_charAt_14 (⟨rfl, rfl⟩) Z

set_option maxHeartbeats 4000000 in
set_option maxRecDepth 100000 in
theorem c_S_isLatin1 (l : Launch) {G : zG} {ad : Nat → Nat} {w : Nat → Option va_E} (qs qv : Nat) (hX : ∀ U H, G.2.2.2 U H → zSTR G qs qv U H) : Met l yS_isLatin1 wS_isLatin1 (zR (1)) (va_Pc [.ref qs] (zw_U G ad w)) (va_Qi (S := Nat → Option va_E) (fun r w' => r = 1 ∧ w' = w) (fun u t => zw_U G ((fun _ => ad) u) ((fun w' => w') u) t) (zA G)) 0 0 (zA G) := by
  refine zw_methz (S := Nat → Option va_E) (fa := fun _ => ad) (fw := fun w' => w') (by decide) rfl (Nat.le_of_ble_eq_true rfl) (fun r u h => by rw [h.1]; decide) ?_
  intro p e s m below meth c Q ls C hname Z hl hret
  obtain ⟨hx, hb, hml, hown, hts, hlk⟩ := C
  have hT : ∀ w ∈ zT, w.before ([.ref qs] : List Value).toArray s = true := fun w h => hts w (List.mem_cons_of_mem _ h)
  have hown : s.vm.findClass "java/lang/String" = some m.cls := hown
  have hl : lv_has ls 1 [(0, .ref qs)] := hl
  obtain ⟨hx1, hx2, hx3, hx4⟩ := hX _ _ Z.2.2.2.2.2
  refine va_gets hx hb hx3 Z.2.2.1 hown (hT _ mf_S_38) (fun _ h9 => h9) dS_isLatin1_0 ?_
  refine lv_if_eq (tgt := 17) hx hb dS_isLatin1_3 (by decide) (fun hc => absurd hc (show ¬ ((1 : Int32) = 0) from by decide)) (fun _ => ?_)
  refine lv_aload_n hx hb dS_isLatin1_6 rfl (lv_at hl 0 rfl) ?_
  refine vk_getf hx hb (hx2.1 0 (by decide)).2.1 Z.2.2.1 hown (hT _ mf_S_15) (fun _ h9 => h9) dS_isLatin1_7 ?_
  refine lv_if_ne (tgt := 17) hx hb dS_isLatin1_10 (by decide) (fun hc => absurd (show (0 : Int32) = 0 from by decide) hc) (fun _ => ?_)
  refine lv_iconst (v := 1) hx hb dS_isLatin1_13 (by decide) ?_
  refine lv_goto (tgt := 18) hx hb dS_isLatin1_14 (by decide) ?_
  exact hret _ _ _ _ _ _ dS_isLatin1_18 (⟨rfl, rfl⟩) Z

set_option maxHeartbeats 4000000 in
set_option maxRecDepth 100000 in
theorem c_S_charAt (l : Launch) {G : zG} {ad : Nat → Nat} {w : Nat → Option va_E} (qs qv : Nat) (hX : ∀ U H, G.2.2.2 U H → zSTR G qs qv U H) (v : Nat) (hv : v < 4) : Met l yS_charAt wS_charAt (zR (4)) (va_Pc [.ref qs, .int (nI v)] (zw_U G ad w)) (va_Qi (S := Nat → Option va_E) (fun r w' => r = nI (znm v) ∧ w' = w) (fun u t => zw_U G ((fun _ => ad) u) ((fun w' => w') u) t) (zA G)) 0 0 (zA G) := by
  refine zw_methc (S := Nat → Option va_E) (fa := fun _ => ad) (fw := fun w' => w') (by decide) rfl (Nat.le_of_ble_eq_true rfl) (fun r u h => by rw [h.1]; exact (pk_charN (by have := znm_lt v; omega)).1) ?_
  intro p e s m below meth c Q ls C hname Z hl hret
  obtain ⟨hx, hb, hml, hown, hts, hlk⟩ := C
  have hT : ∀ w ∈ zT, w.before ([.ref qs, .int (nI v)] : List Value).toArray s = true := fun w h => hts w (List.mem_cons_of_mem _ h)
  have hown : s.vm.findClass "java/lang/String" = some m.cls := hown
  have hl : lv_has ls 2 [(0, .ref qs), (1, .int (nI v))] := hl
  obtain ⟨hx1, hx2, hx3, hx4⟩ := hX _ _ Z.2.2.2.2.2
  refine lv_aload_n hx hb dS_charAt_0 rfl (lv_at hl 0 rfl) ?_
  refine zw_calli (va_runV (As := []) (rest := []) ⟨hx, hb, hml, hown, hts⟩ (c_S_isLatin1 l qs qv hX) (kw_S_isLatin1 hts ml_S_492 (zR_fit (by omega) (by omega))) ⟨zw.blind, vk_recv hx2 (i := 0) (by decide) Z.2.2.1, fun U hU hW => ⟨rfl, Z.at' hU hW⟩⟩ rfl rfl hl.1 rfl (lv_room (Nat.le_of_ble_eq_true rfl)) dS_charAt_1 ⟨Nat.le_of_ble_eq_true rfl, Nat.le_of_ble_eq_true rfl⟩) Z (fun r w1 H locs hp Z => ?_)
  obtain ⟨rfl, hw1⟩ := hp
  rw [hw1] at Z
  clear hw1
  refine lv_if_eq (tgt := 16) hx hb dS_charAt_4 (by decide) (fun hc => absurd hc (show ¬ ((1 : Int32) = 0) from by decide)) (fun _ => ?_)
  refine lv_aload_n hx hb dS_charAt_7 rfl (lv_at hl 0 rfl) ?_
  refine vk_getf hx hb (hx2.1 0 (by decide)).2.2.1 Z.2.2.1 hown (hT _ mf_S_9) (fun _ h9 => h9) dS_charAt_8 ?_
  refine lv_iload_n hx hb dS_charAt_11 rfl (lv_at hl 1 rfl) ?_
  refine zw_calli (va_runS (As := [.ref qv, .int (nI v)]) (rest := []) ⟨hx, hb, hml, hown, hts⟩ (c_B_charAt l qs qv hX v hv) (kw_B_charAt hts ml_S_495 (zR_fit (by omega) (by omega))) (Z.preS _) rfl rfl hl.1 rfl (lv_room (Nat.le_of_ble_eq_true rfl)) dS_charAt_12 ⟨Nat.le_of_ble_eq_true rfl, Nat.le_of_ble_eq_true rfl⟩) Z (fun r wq H locs hp Z => ?_)
  obtain ⟨rfl, hw1⟩ := hp
  rw [hw1] at Z
  clear hw1
  exact hret _ _ _ _ _ _ dS_charAt_15 (⟨rfl, rfl⟩) Z
