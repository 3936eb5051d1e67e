theorem mk_L_field : kL_field ∈ zT := zT_in (List.mem_append_right _ (List.mem_append_left _ (List.mem_of_getElem? (l := tables_1_1) (i := 223) rfl))) rfl
abbrev wL_field : List Cond := kL_field :: zT
theorem kv_L_field {R : Room} {k c1 n1 : Nat} {s : State} {args : Array Value} {own : String} {index : Nat} {c0 : Cond} (hts : ∀ w ∈ c0 :: zT, w.before args s = true) (hl : Cond.methodLink own index yL_field ∈ zT) (hR : (zRx k c1 n1).frames + 1 ≤ R.frames ∧ 8 + (5 + 11) + (zRx k c1 n1).locals ≤ R.locals) : vx_CSW R s args own index yL_field bL_field 5 (some .int) [(0, 7, 10, 13)] wL_field (zRx k c1 n1) c1 n1 4 :=
  vx_cwSW 4 hts (zG_S hl mt_L_field mn_L mk_L_field) rfl rfl rfl (by decide +kernel) hR
set_option maxHeartbeats 4000000 in
set_option maxRecDepth 100000 in
theorem c_L_field (l : Launch) (hnt : l.stackTraces = false) {G : zG} {ad : Nat → Nat} {w : Nat → Option va_E} (hX : ∀ U H, G.2.2.2 U H → zTHR G U H) (hXh : ∀ U H, G.2.2.2 U H → zHIGH G U H) (P n o : Nat) (A : Nat → Nat → Nat) (T : Nat → Nat) (len : Nat) (flt pl : Int32) (out : List Nat) (hD : zDk G ad w P n o A T len flt pl out) (q v o9 : Int32) : Met l yL_field wL_field (zRx (9) 4 24) (va_Pc [.ref (ad 0), .int q, .int v, .int o9] (zw_U G ad w)) (va_Qi (S := Nat → Option va_E) (fun r w' => ((r = 0 ∧ zfv q v o9 ∧ ∃ P' n' o' : Nat, (q = nI P' ∧ v = nI n' ∧ o9 = nI o') ∧ zCfg n' o' ∧ (2 ≤ P' ∧ P' ≤ 32003) ∧ zDk G ad w' P' n' o' (fun _ _ => 0) T len flt pl []) ∨ (r = 1 ∧ ¬ zfv q v o9 ∧ zDk G ad w' P n o (A) (T) (len) (flt) (pl) (out))) ∧ zfk w w') (fun u t => zw_U G ((fun _ => ad) u) ((fun w' => w') u) t) (zA G)) 4 24 (zA G) := by
  refine zw_methH (hh := [(0, 7, 10, 13)]) (S := Nat → Option va_E) (fa := fun _ => ad) (fw := fun w' => w') (by decide) rfl (Nat.le_of_ble_eq_true rfl) ?_
  intro p e s m below meth c Q ls C htab Z hl hret
  obtain ⟨hx, hb, hml, hown, hts, hlk⟩ := C
  have hT : ∀ w ∈ zT, w.before ([.ref (ad 0), .int q, .int v, .int o9] : List Value).toArray s = true := fun w h => hts w (List.mem_cons_of_mem _ h)
  have hown : s.vm.findClass "PolynomialDeskLaw" = some m.cls := hown
  have hl : lv_has ls 5 [(0, .ref (ad 0)), (1, .int q), (2, .int v), (3, .int o9)] := hl
  have hthr := hX _ _ Z.2.2.2.2.2
  refine lv_aload_n hx hb dL_field_0 rfl (lv_at hl 0 rfl) ?_
  refine lv_iload_n hx hb dL_field_1 rfl (lv_at hl 1 rfl) ?_
  refine lv_iload_n hx hb dL_field_2 rfl (lv_at hl 2 rfl) ?_
  refine lv_iload_n hx hb dL_field_3 rfl (lv_at hl 3 rfl) ?_
  refine zx_callcv (vx_runV (As := [.int q, .int v, .int o9]) (rest := []) ⟨hx, hb, hml, hown, hts⟩ (c_K_field l hnt hX hXh P n o A T len flt pl out hD q v o9) (kx_K_field hts ml_L_7 (zRx_fit (by omega) (by omega))) (Z.preV hD.o0 rfl _) rfl rfl hl.1 rfl (lv_room (Nat.le_of_ble_eq_true rfl)) dL_field_4 ⟨Nat.le_of_ble_eq_true rfl, Nat.le_of_ble_eq_true rfl⟩) Z (fun E u H locs q9 ce hpe Zx hce hcv hcl => ?_) (fun w1 H locs hp Z => ?_)
  · obtain ⟨rfl, hn, rfl⟩ := hpe
    refine vx_catch (own := "PolynomialDeskLaw") (name := "java/lang/IllegalArgumentException") hown [] (⟨0, 7, 10, 13⟩ : ExceptionTableEntry) [] (by rw [htab]; rfl) (fun z hz => absurd hz List.not_mem_nil) (by decide) (by decide) (hT _ mc_L_13) (va_Nw.use (zNgw_ot (.castable "java/lang/IllegalArgumentException" "java/lang/IllegalArgumentException") (by decide +kernel)) (hthr.2.1 _ (by decide +kernel))) hce hcv hcl ?_
    refine lv_astore (lv' := [(4, .ref q9), (0, .ref (ad 0)), (1, .int q), (2, .int v), (3, .int o9)]) hx hb dL_field_10 hl (by decide) rfl (fun ls hl => ?_)
    refine lv_iconst (v := 1) hx hb dL_field_12 (by decide) ?_
    exact hret _ _ _ _ _ _ _ _ dL_field_13 (⟨.inr ⟨rfl, hn, hD⟩, zfk.rfl' _⟩) Zx (Nat.le_of_ble_eq_true rfl) (Nat.le_of_ble_eq_true rfl)
  · refine lv_goto (tgt := 14) hx hb dL_field_7 (by decide) ?_
    refine lv_iconst (v := 0) hx hb dL_field_14 (by decide) ?_
    exact hret _ _ _ _ _ _ _ _ dL_field_15 (by obtain ⟨a1, P', n', o', a2, a3, a4, a5, a6⟩ := hp; exact ⟨.inl ⟨rfl, a1, P', n', o', a2, a3, a4, a5⟩, a6⟩) Z (Nat.le_of_ble_eq_true rfl) (Nat.le_of_ble_eq_true rfl)

theorem mk_L_add : kL_add ∈ zT := zT_in (List.mem_append_right _ (List.mem_append_right _ (List.mem_append_left _ (List.mem_of_getElem? (l := tables_1_2) (i := 193) rfl)))) rfl
abbrev wL_add : List Cond := kL_add :: zT
theorem kv_L_add {R : Room} {k c1 n1 : Nat} {s : State} {args : Array Value} {own : String} {index : Nat} {c0 : Cond} (hts : ∀ w ∈ c0 :: zT, w.before args s = true) (hl : Cond.methodLink own index yL_add ∈ zT) (hR : (zRx k c1 n1).frames + 1 ≤ R.frames ∧ 8 + (6 + 11) + (zRx k c1 n1).locals ≤ R.locals) : vx_CSW R s args own index yL_add bL_add 6 (some .int) [(0, 9, 12, 19)] wL_add (zRx k c1 n1) c1 n1 5 :=
  vx_cwSW 5 hts (zG_S hl mt_L_add mn_L mk_L_add) rfl rfl rfl (by decide +kernel) hR
set_option maxHeartbeats 4000000 in
set_option maxRecDepth 100000 in
theorem c_L_add (l : Launch) (hnt : l.stackTraces = false) {G : zG} {ad : Nat → Nat} {w : Nat → Option va_E} (hX : ∀ U H, G.2.2.2 U H → zTHR G U H) (P n o : Nat) (A : Nat → Nat → Nat) (T : Nat → Nat) (len : Nat) (flt pl : Int32) (out : List Nat) (hD : zDk G ad w P n o A T len flt pl out) (a f b t : Int32) : Met l yL_add wL_add (zRx (5) 4 24) (va_Pc [.ref (ad 0), .int a, .int f, .int b, .int t] (zw_U G ad w)) (va_Qi (S := Nat → Option va_E) (fun r w' => ((r = 0 ∧ (zip8 a = true ∧ zip8 b = true ∧ zip8 t = true) ∧ zDk G ad w' P n o (va_up A t.toNatClampNeg (zadd n P (zred P f) (A a.toNatClampNeg) (A b.toNatClampNeg))) (T) (len) (flt) (pl) (out)) ∨ (r = 1 ∧ ¬ (zip8 a = true ∧ zip8 b = true ∧ zip8 t = true) ∧ zDk G ad w' P n o (A) (T) (len) (flt) (pl) (out))) ∧ zfk w w') (fun u t => zw_U G ((fun _ => ad) u) ((fun w' => w') u) t) (zA G)) 4 24 (zA G) := by
  refine zw_methH (hh := [(0, 9, 12, 19)]) (S := Nat → Option va_E) (fa := fun _ => ad) (fw := fun w' => w') (by decide) rfl (Nat.le_of_ble_eq_true rfl) ?_
  intro p e s m below meth c Q ls C htab Z hl hret
  obtain ⟨hx, hb, hml, hown, hts, hlk⟩ := C
  have hT : ∀ w ∈ zT, w.before ([.ref (ad 0), .int a, .int f, .int b, .int t] : List Value).toArray s = true := fun w h => hts w (List.mem_cons_of_mem _ h)
  have hown : s.vm.findClass "PolynomialDeskLaw" = some m.cls := hown
  have hl : lv_has ls 6 [(0, .ref (ad 0)), (1, .int a), (2, .int f), (3, .int b), (4, .int t)] := hl
  have hthr := hX _ _ Z.2.2.2.2.2
  refine lv_aload_n hx hb dL_add_0 rfl (lv_at hl 0 rfl) ?_
  refine lv_iload_n hx hb dL_add_1 rfl (lv_at hl 1 rfl) ?_
  refine lv_iload_n hx hb dL_add_2 rfl (lv_at hl 2 rfl) ?_
  refine lv_iload_n hx hb dL_add_3 rfl (lv_at hl 3 rfl) ?_
  refine lv_iload hx hb dL_add_4 (lv_at hl 4 rfl) ?_
  refine zx_callcv (vx_runV (As := [.int a, .int f, .int b, .int t]) (rest := []) ⟨hx, hb, hml, hown, hts⟩ (c_K_add l hnt hX P n o A T len flt pl out hD a f b t) (kx_K_add hts ml_L_21 (zRx_fit (by omega) (by omega))) (Z.preV hD.o0 rfl _) rfl rfl hl.1 rfl (lv_room (Nat.le_of_ble_eq_true rfl)) dL_add_6 ⟨Nat.le_of_ble_eq_true rfl, Nat.le_of_ble_eq_true rfl⟩) Z (fun E u H locs q9 ce hpe Zx hce hcv hcl => ?_) (fun w1 H locs hp Z => ?_)
  · obtain ⟨rfl, hn, rfl⟩ := hpe
    refine vx_catch (own := "PolynomialDeskLaw") (name := "java/lang/IndexOutOfBoundsException") hown [] (⟨0, 9, 12, 19⟩ : ExceptionTableEntry) [] (by rw [htab]; rfl) (fun z hz => absurd hz List.not_mem_nil) (by decide) (by decide) (hT _ mc_L_19) (va_Nw.use (zNgw_ot (.castable "java/lang/IndexOutOfBoundsException" "java/lang/IndexOutOfBoundsException") (by decide +kernel)) (hthr.2.1 _ (by decide +kernel))) hce hcv hcl ?_
    refine lv_astore (lv' := [(5, .ref q9), (0, .ref (ad 0)), (1, .int a), (2, .int f), (3, .int b), (4, .int t)]) hx hb dL_add_12 hl (by decide) rfl (fun ls hl => ?_)
    refine lv_iconst (v := 1) hx hb dL_add_14 (by decide) ?_
    exact hret _ _ _ _ _ _ _ _ dL_add_15 (⟨.inr ⟨rfl, hn, hD⟩, zfk.rfl' _⟩) Zx (Nat.le_of_ble_eq_true rfl) (Nat.le_of_ble_eq_true rfl)
  · refine lv_goto (tgt := 16) hx hb dL_add_9 (by decide) ?_
    refine lv_iconst (v := 0) hx hb dL_add_16 (by decide) ?_
    exact hret _ _ _ _ _ _ _ _ dL_add_17 (by obtain ⟨a1, a5, a6⟩ := hp; exact ⟨.inl ⟨rfl, a1, a5⟩, a6⟩) Z (Nat.le_of_ble_eq_true rfl) (Nat.le_of_ble_eq_true rfl)

theorem mk_L_derive : kL_derive ∈ zT := zT_in (List.mem_append_right _ (List.mem_append_right _ (List.mem_append_left _ (List.mem_of_getElem? (l := tables_1_2) (i := 227) rfl)))) rfl
abbrev wL_derive : List Cond := kL_derive :: zT
theorem kv_L_derive {R : Room} {k c1 n1 : Nat} {s : State} {args : Array Value} {own : String} {index : Nat} {c0 : Cond} (hts : ∀ w ∈ c0 :: zT, w.before args s = true) (hl : Cond.methodLink own index yL_derive ∈ zT) (hR : (zRx k c1 n1).frames + 1 ≤ R.frames ∧ 8 + (5 + 11) + (zRx k c1 n1).locals ≤ R.locals) : vx_CSW R s args own index yL_derive bL_derive 5 (some .int) [(0, 7, 10, 19)] wL_derive (zRx k c1 n1) c1 n1 4 :=
  vx_cwSW 4 hts (zG_S hl mt_L_derive mn_L mk_L_derive) rfl rfl rfl (by decide +kernel) hR
set_option maxHeartbeats 4000000 in
set_option maxRecDepth 100000 in
theorem c_L_derive (l : Launch) (hnt : l.stackTraces = false) {G : zG} {ad : Nat → Nat} {w : Nat → Option va_E} (hX : ∀ U H, G.2.2.2 U H → zTHR G U H) (P n o : Nat) (A : Nat → Nat → Nat) (T : Nat → Nat) (len : Nat) (flt pl : Int32) (out : List Nat) (hD : zDk G ad w P n o A T len flt pl out) (a v t : Int32) : Met l yL_derive wL_derive (zRx (5) 4 24) (va_Pc [.ref (ad 0), .int a, .int v, .int t] (zw_U G ad w)) (va_Qi (S := Nat → Option va_E) (fun r w' => ((r = 0 ∧ (zip8 a = true ∧ zvv n v = true ∧ zip8 t = true) ∧ zDk G ad w' P n o (va_up A t.toNatClampNeg (zder n o P v.toNatClampNeg (A a.toNatClampNeg))) (T) (len) (flt) (pl) (out)) ∨ (r = 1 ∧ ¬ (zip8 a = true ∧ zvv n v = true ∧ zip8 t = true) ∧ zDk G ad w' P n o (A) (T) (len) (flt) (pl) (out))) ∧ zfk w w') (fun u t => zw_U G ((fun _ => ad) u) ((fun w' => w') u) t) (zA G)) 4 24 (zA G) := by
  refine zw_methH (hh := [(0, 7, 10, 19)]) (S := Nat → Option va_E) (fa := fun _ => ad) (fw := fun w' => w') (by decide) rfl (Nat.le_of_ble_eq_true rfl) ?_
  intro p e s m below meth c Q ls C htab Z hl hret
  obtain ⟨hx, hb, hml, hown, hts, hlk⟩ := C
  have hT : ∀ w ∈ zT, w.before ([.ref (ad 0), .int a, .int v, .int t] : List Value).toArray s = true := fun w h => hts w (List.mem_cons_of_mem _ h)
  have hown : s.vm.findClass "PolynomialDeskLaw" = some m.cls := hown
  have hl : lv_has ls 5 [(0, .ref (ad 0)), (1, .int a), (2, .int v), (3, .int t)] := hl
  have hthr := hX _ _ Z.2.2.2.2.2
  refine lv_aload_n hx hb dL_derive_0 rfl (lv_at hl 0 rfl) ?_
  refine lv_iload_n hx hb dL_derive_1 rfl (lv_at hl 1 rfl) ?_
  refine lv_iload_n hx hb dL_derive_2 rfl (lv_at hl 2 rfl) ?_
  refine lv_iload_n hx hb dL_derive_3 rfl (lv_at hl 3 rfl) ?_
  refine zx_callcv (vx_runV (As := [.int a, .int v, .int t]) (rest := []) ⟨hx, hb, hml, hown, hts⟩ (c_K_derive l hnt hX P n o A T len flt pl out hD a v t) (kx_K_derive hts ml_L_30 (zRx_fit (by omega) (by omega))) (Z.preV hD.o0 rfl _) rfl rfl hl.1 rfl (lv_room (Nat.le_of_ble_eq_true rfl)) dL_derive_4 ⟨Nat.le_of_ble_eq_true rfl, Nat.le_of_ble_eq_true rfl⟩) Z (fun E u H locs q9 ce hpe Zx hce hcv hcl => ?_) (fun w1 H locs hp Z => ?_)
  · obtain ⟨rfl, hn, rfl⟩ := hpe
    refine vx_catch (own := "PolynomialDeskLaw") (name := "java/lang/IndexOutOfBoundsException") hown [] (⟨0, 7, 10, 19⟩ : ExceptionTableEntry) [] (by rw [htab]; rfl) (fun z hz => absurd hz List.not_mem_nil) (by decide) (by decide) (hT _ mc_L_19) (va_Nw.use (zNgw_ot (.castable "java/lang/IndexOutOfBoundsException" "java/lang/IndexOutOfBoundsException") (by decide +kernel)) (hthr.2.1 _ (by decide +kernel))) hce hcv hcl ?_
    refine lv_astore (lv' := [(4, .ref q9), (0, .ref (ad 0)), (1, .int a), (2, .int v), (3, .int t)]) hx hb dL_derive_10 hl (by decide) rfl (fun ls hl => ?_)
    refine lv_iconst (v := 1) hx hb dL_derive_12 (by decide) ?_
    exact hret _ _ _ _ _ _ _ _ dL_derive_13 (⟨.inr ⟨rfl, hn, hD⟩, zfk.rfl' _⟩) Zx (Nat.le_of_ble_eq_true rfl) (Nat.le_of_ble_eq_true rfl)
  · refine lv_goto (tgt := 14) hx hb dL_derive_7 (by decide) ?_
    refine lv_iconst (v := 0) hx hb dL_derive_14 (by decide) ?_
    exact hret _ _ _ _ _ _ _ _ dL_derive_15 (by obtain ⟨a1, a5, a6⟩ := hp; exact ⟨.inl ⟨rfl, a1, a5⟩, a6⟩) Z (Nat.le_of_ble_eq_true rfl) (Nat.le_of_ble_eq_true rfl)

theorem mk_L_set : kL_set ∈ zT := zT_in (List.mem_append_right _ (List.mem_append_right _ (List.mem_append_right _ (List.mem_append_left _ (List.mem_of_getElem? (l := tables_1_3) (i := 5) rfl))))) rfl
abbrev wL_set : List Cond := kL_set :: zT
theorem kv_L_set {R : Room} {k c1 n1 : Nat} {s : State} {args : Array Value} {own : String} {index : Nat} {c0 : Cond} (hts : ∀ w ∈ c0 :: zT, w.before args s = true) (hl : Cond.methodLink own index yL_set ∈ zT) (hR : (zRx k c1 n1).frames + 1 ≤ R.frames ∧ 8 + (6 + 11) + (zRx k c1 n1).locals ≤ R.locals) : vx_CSW R s args own index yL_set bL_set 6 (some .int) [(0, 9, 12, 19)] wL_set (zRx k c1 n1) c1 n1 5 :=
  vx_cwSW 5 hts (zG_S hl mt_L_set mn_L mk_L_set) rfl rfl rfl (by decide +kernel) hR
set_option maxHeartbeats 4000000 in
set_option maxRecDepth 100000 in
theorem c_L_set (l : Launch) (hnt : l.stackTraces = false) {G : zG} {ad : Nat → Nat} {w : Nat → Option va_E} (hX : ∀ U H, G.2.2.2 U H → zTHR G U H) (P n o : Nat) (A : Nat → Nat → Nat) (T : Nat → Nat) (len : Nat) (flt pl : Int32) (out : List Nat) (hD : zDk G ad w P n o A T len flt pl out) (a v x t : Int32) : Met l yL_set wL_set (zRx (5) 4 24) (va_Pc [.ref (ad 0), .int a, .int v, .int x, .int t] (zw_U G ad w)) (va_Qi (S := Nat → Option va_E) (fun r w' => ((r = 0 ∧ (zip8 a = true ∧ zvv n v = true ∧ zip8 t = true) ∧ zDk G ad w' P n o (va_up A t.toNatClampNeg (zsub n o P v.toNatClampNeg (zred P x) (A a.toNatClampNeg))) (T) (len) (flt) (pl) (out)) ∨ (r = 1 ∧ ¬ (zip8 a = true ∧ zvv n v = true ∧ zip8 t = true) ∧ zDk G ad w' P n o (A) (T) (len) (flt) (pl) (out))) ∧ zfk w w') (fun u t => zw_U G ((fun _ => ad) u) ((fun w' => w') u) t) (zA G)) 4 24 (zA G) := by
  refine zw_methH (hh := [(0, 9, 12, 19)]) (S := Nat → Option va_E) (fa := fun _ => ad) (fw := fun w' => w') (by decide) rfl (Nat.le_of_ble_eq_true rfl) ?_
  intro p e s m below meth c Q ls C htab Z hl hret
  obtain ⟨hx, hb, hml, hown, hts, hlk⟩ := C
  have hT : ∀ w ∈ zT, w.before ([.ref (ad 0), .int a, .int v, .int x, .int t] : List Value).toArray s = true := fun w h => hts w (List.mem_cons_of_mem _ h)
  have hown : s.vm.findClass "PolynomialDeskLaw" = some m.cls := hown
  have hl : lv_has ls 6 [(0, .ref (ad 0)), (1, .int a), (2, .int v), (3, .int x), (4, .int t)] := hl
  have hthr := hX _ _ Z.2.2.2.2.2
  refine lv_aload_n hx hb dL_set_0 rfl (lv_at hl 0 rfl) ?_
  refine lv_iload_n hx hb dL_set_1 rfl (lv_at hl 1 rfl) ?_
  refine lv_iload_n hx hb dL_set_2 rfl (lv_at hl 2 rfl) ?_
  refine lv_iload_n hx hb dL_set_3 rfl (lv_at hl 3 rfl) ?_
  refine lv_iload hx hb dL_set_4 (lv_at hl 4 rfl) ?_
  refine zx_callcv (vx_runV (As := [.int a, .int v, .int x, .int t]) (rest := []) ⟨hx, hb, hml, hown, hts⟩ (c_K_set l hnt hX P n o A T len flt pl out hD a v x t) (kx_K_set hts ml_L_33 (zRx_fit (by omega) (by omega))) (Z.preV hD.o0 rfl _) rfl rfl hl.1 rfl (lv_room (Nat.le_of_ble_eq_true rfl)) dL_set_6 ⟨Nat.le_of_ble_eq_true rfl, Nat.le_of_ble_eq_true rfl⟩) Z (fun E u H locs q9 ce hpe Zx hce hcv hcl => ?_) (fun w1 H locs hp Z => ?_)
  · obtain ⟨rfl, hn, rfl⟩ := hpe
    refine vx_catch (own := "PolynomialDeskLaw") (name := "java/lang/IndexOutOfBoundsException") hown [] (⟨0, 9, 12, 19⟩ : ExceptionTableEntry) [] (by rw [htab]; rfl) (fun z hz => absurd hz List.not_mem_nil) (by decide) (by decide) (hT _ mc_L_19) (va_Nw.use (zNgw_ot (.castable "java/lang/IndexOutOfBoundsException" "java/lang/IndexOutOfBoundsException") (by decide +kernel)) (hthr.2.1 _ (by decide +kernel))) hce hcv hcl ?_
    refine lv_astore (lv' := [(5, .ref q9), (0, .ref (ad 0)), (1, .int a), (2, .int v), (3, .int x), (4, .int t)]) hx hb dL_set_12 hl (by decide) rfl (fun ls hl => ?_)
    refine lv_iconst (v := 1) hx hb dL_set_14 (by decide) ?_
    exact hret _ _ _ _ _ _ _ _ dL_set_15 (⟨.inr ⟨rfl, hn, hD⟩, zfk.rfl' _⟩) Zx (Nat.le_of_ble_eq_true rfl) (Nat.le_of_ble_eq_true rfl)
  · refine lv_goto (tgt := 16) hx hb dL_set_9 (by decide) ?_
    refine lv_iconst (v := 0) hx hb dL_set_16 (by decide) ?_
    exact hret _ _ _ _ _ _ _ _ dL_set_17 (by obtain ⟨a1, a5, a6⟩ := hp; exact ⟨.inl ⟨rfl, a1, a5⟩, a6⟩) Z (Nat.le_of_ble_eq_true rfl) (Nat.le_of_ble_eq_true rfl)

theorem mk_L_value : kL_value ∈ zT := zT_in (List.mem_append_right _ (List.mem_append_right _ (List.mem_append_right _ (List.mem_append_left _ (List.mem_of_getElem? (l := tables_1_3) (i := 20) rfl))))) rfl
abbrev wL_value : List Cond := kL_value :: zT
theorem kv_L_value {R : Room} {k c1 n1 : Nat} {s : State} {args : Array Value} {own : String} {index : Nat} {c0 : Cond} (hts : ∀ w ∈ c0 :: zT, w.before args s = true) (hl : Cond.methodLink own index yL_value ∈ zT) (hR : (zRx k c1 n1).frames + 1 ≤ R.frames ∧ 8 + (8 + 11) + (zRx k c1 n1).locals ≤ R.locals) : vx_CSW R s args own index yL_value bL_value 8 (some .int) [(0, 16, 19, 19)] wL_value (zRx k c1 n1) c1 n1 7 :=
  vx_cwSW 7 hts (zG_S hl mt_L_value mn_L mk_L_value) rfl rfl rfl (by decide +kernel) hR
set_option maxHeartbeats 4000000 in
set_option maxRecDepth 100000 in
theorem c_L_value (l : Launch) (hnt : l.stackTraces = false) {G : zG} {ad : Nat → Nat} {w : Nat → Option va_E} (hX : ∀ U H, G.2.2.2 U H → zTHR G U H) (P n o : Nat) (A : Nat → Nat → Nat) (T : Nat → Nat) (len : Nat) (flt pl : Int32) (out : List Nat) (hD : zDk G ad w P n o A T len flt pl out) (a x y z u9 : Int32) (f0 : Nat → Int64) (h111 : w 111 = some (zj G 1 f0)) : Met l yL_value wL_value (zRx (5) 4 24) (va_Pc [.ref (ad 0), .int a, .int x, .int y, .int z, .int u9, .ref (ad 111)] (zw_U G ad w)) (va_Qi (S := Nat → Option va_E) (fun r w' => ((r = 0 ∧ zip8 a = true ∧ zDk G ad w' P n o (A) (T) (len) (flt) (pl) (out) ∧ ∃ f : Nat → Int64, w' 111 = some (zj G 1 f) ∧ f 0 = (nI (zevl n o P (fun v => zred P (zx4 x y z u9 v)) (A a.toNatClampNeg) (zCt n))).toInt64) ∨ (r = 1 ∧ zip8 a = false ∧ zDk G ad w' P n o (A) (T) (len) (flt) (pl) (out) ∧ ∃ f : Nat → Int64, w' 111 = some (zj G 1 f))) ∧ ∀ k, 73 ≤ k → k ≠ 111 → w' k = w k) (fun u t => zw_U G ((fun _ => ad) u) ((fun w' => w') u) t) (zA G)) 4 24 (zA G) := by
  refine zw_methH (hh := [(0, 16, 19, 19)]) (S := Nat → Option va_E) (fa := fun _ => ad) (fw := fun w' => w') (by decide) rfl (Nat.le_of_ble_eq_true rfl) ?_
  intro p e s m below meth c Q ls C htab Z hl hret
  obtain ⟨hx, hb, hml, hown, hts, hlk⟩ := C
  have hT : ∀ w ∈ zT, w.before ([.ref (ad 0), .int a, .int x, .int y, .int z, .int u9, .ref (ad 111)] : List Value).toArray s = true := fun w h => hts w (List.mem_cons_of_mem _ h)
  have hown : s.vm.findClass "PolynomialDeskLaw" = some m.cls := hown
  have hl : lv_has ls 8 [(0, .ref (ad 0)), (1, .int a), (2, .int x), (3, .int y), (4, .int z), (5, .int u9), (6, .ref (ad 111))] := hl
  have hthr := hX _ _ Z.2.2.2.2.2
  refine lv_aload hx hb dL_value_0 (lv_at hl 6 rfl) ?_
  refine lv_iconst (v := 0) hx hb dL_value_2 (by decide) ?_
  refine lv_aload_n hx hb dL_value_3 rfl (lv_at hl 0 rfl) ?_
  refine lv_iload_n hx hb dL_value_4 rfl (lv_at hl 1 rfl) ?_
  refine lv_iload_n hx hb dL_value_5 rfl (lv_at hl 2 rfl) ?_
  refine lv_iload_n hx hb dL_value_6 rfl (lv_at hl 3 rfl) ?_
  refine lv_iload hx hb dL_value_7 (lv_at hl 4 rfl) ?_
  refine lv_iload hx hb dL_value_9 (lv_at hl 5 rfl) ?_
  refine zx_callci (vx_runV (As := [.int a, .int x, .int y, .int z, .int u9]) (rest := [.int 0, .ref (ad 111)]) ⟨hx, hb, hml, hown, hts⟩ (c_K_value l hnt hX P n o A T len flt pl out hD a x y z u9) (kx_K_value hts ml_L_36 (zRx_fit (by omega) (by omega))) (Z.preV hD.o0 rfl _) rfl rfl hl.1 rfl (lv_room (Nat.le_of_ble_eq_true rfl)) dL_value_11 ⟨Nat.le_of_ble_eq_true rfl, Nat.le_of_ble_eq_true rfl⟩) Z (fun E u H locs q9 ce hpe Zx hce hcv hcl => ?_) (fun r9 w1 H locs hp Z => ?_)
  · obtain ⟨rfl, hn, rfl⟩ := hpe
    refine vx_catch (own := "PolynomialDeskLaw") (name := "java/lang/IndexOutOfBoundsException") hown [] (⟨0, 16, 19, 19⟩ : ExceptionTableEntry) [] (by rw [htab]; rfl) (fun z hz => absurd hz List.not_mem_nil) (by decide) (by decide) (hT _ mc_L_19) (va_Nw.use (zNgw_ot (.castable "java/lang/IndexOutOfBoundsException" "java/lang/IndexOutOfBoundsException") (by decide +kernel)) (hthr.2.1 _ (by decide +kernel))) hce hcv hcl ?_
    refine lv_astore (lv' := [(7, .ref q9), (0, .ref (ad 0)), (1, .int a), (2, .int x), (3, .int y), (4, .int z), (5, .int u9), (6, .ref (ad 111))]) hx hb dL_value_19 hl (by decide) rfl (fun ls hl => ?_)
    refine lv_iconst (v := 1) hx hb dL_value_21 (by decide) ?_
    exact hret _ _ _ _ _ _ _ _ dL_value_22 (⟨.inr ⟨rfl, hn, hD, f0, h111⟩, fun k _ _ => rfl⟩) Zx (Nat.le_of_ble_eq_true rfl) (Nat.le_of_ble_eq_true rfl)
  · obtain ⟨⟨a1, hr9⟩, a5, hk1⟩ := hp
    refine lv_i2l hx hb dL_value_14 rfl ?_
    have g111 : w1 111 = some (zj G 1 f0) := (hk1 111 (by decide)).trans h111
    refine zw_last hx hb Z g111 ((show vp_in (nI 0) 1 from vin (by decide) (by decide))) dL_value_15 (fun H locs Z => ?_)
    have Z : zw G ad (va_up w1 111 (some (zj G 1 (vp_updL f0 0 (r9.toInt64))))) s H locs := Z
    refine lv_goto (tgt := 23) hx hb dL_value_16 (by decide) ?_
    refine lv_iconst (v := 0) hx hb dL_value_23 (by decide) ?_
    exact hret _ _ _ _ _ _ _ _ dL_value_24 (⟨.inl ⟨rfl, a1, a5.cong (fun k hk => va_up_ne _ _ (by omega)), _, va_up_self _ _ _, congrArg Int32.toInt64 hr9⟩, fun k h1 h2 => (va_up_ne _ _ h2).trans (hk1 k h1)⟩) Z (Nat.le_of_ble_eq_true rfl) (Nat.le_of_ble_eq_true rfl)

theorem mk_L_print : kL_print ∈ zT := zT_in (List.mem_append_right _ (List.mem_append_right _ (List.mem_append_right _ (List.mem_append_left _ (List.mem_of_getElem? (l := tables_1_3) (i := 31) rfl))))) rfl
abbrev wL_print : List Cond := kL_print :: zT
theorem kv_L_print {R : Room} {k c1 n1 : Nat} {s : State} {args : Array Value} {own : String} {index : Nat} {c0 : Cond} (hts : ∀ w ∈ c0 :: zT, w.before args s = true) (hl : Cond.methodLink own index yL_print ∈ zT) (hR : (zRx k c1 n1).frames + 1 ≤ R.frames ∧ 8 + (4 + 11) + (zRx k c1 n1).locals ≤ R.locals) : vx_CSW R s args own index yL_print bL_print 4 (some .int) [(0, 9, 12, 19)] wL_print (zRx k c1 n1) c1 n1 3 :=
  vx_cwSW 3 hts (zG_S hl mt_L_print mn_L mk_L_print) rfl rfl rfl (by decide +kernel) hR
set_option maxHeartbeats 4000000 in
set_option maxRecDepth 100000 in
theorem c_L_print (l : Launch) (hnt : l.stackTraces = false) {G : zG} {ad : Nat → Nat} {w : Nat → Option va_E} (hX : ∀ U H, G.2.2.2 U H → zTHR G U H) (qs qv : Nat) (hXs : ∀ U H, G.2.2.2 U H → zSTR G qs qv U H) (P n o : Nat) (A : Nat → Nat → Nat) (T : Nat → Nat) (len : Nat) (flt pl : Int32) (out : List Nat) (hD : zDk G ad w P n o A T len flt pl out) (a : Int32) (f0 : Nat → Int64) (h111 : w 111 = some (zj G 1 f0)) : Met l yL_print wL_print (zRx (8) 4 24) (va_Pc [.ref (ad 0), .int a, .ref (ad 111)] (zw_U G ad w)) (va_Qi (S := Nat → Option va_E) (fun r w' => ((r = 0 ∧ zip8 a = true ∧ zDk G ad w' P n o (A) (T) (len) (flt) (pl) (zprint n o (A a.toNatClampNeg)) ∧ ∃ f : Nat → Int64, w' 111 = some (zj G 1 f) ∧ f 0 = (nI ((zprint n o (A a.toNatClampNeg)).length)).toInt64) ∨ (r = 1 ∧ zip8 a = false ∧ zDk G ad w' P n o (A) (T) (len) (flt) (pl) (out) ∧ ∃ f : Nat → Int64, w' 111 = some (zj G 1 f))) ∧ ∀ k, 73 ≤ k → k ≠ 111 → w' k = w k) (fun u t => zw_U G ((fun _ => ad) u) ((fun w' => w') u) t) (zA G)) 4 24 (zA G) := by
  refine zw_methH (hh := [(0, 9, 12, 19)]) (S := Nat → Option va_E) (fa := fun _ => ad) (fw := fun w' => w') (by decide) rfl (Nat.le_of_ble_eq_true rfl) ?_
  intro p e s m below meth c Q ls C htab Z hl hret
  obtain ⟨hx, hb, hml, hown, hts, hlk⟩ := C
  have hT : ∀ w ∈ zT, w.before ([.ref (ad 0), .int a, .ref (ad 111)] : List Value).toArray s = true := fun w h => hts w (List.mem_cons_of_mem _ h)
  have hown : s.vm.findClass "PolynomialDeskLaw" = some m.cls := hown
  have hl : lv_has ls 4 [(0, .ref (ad 0)), (1, .int a), (2, .ref (ad 111))] := hl
  have hthr := hX _ _ Z.2.2.2.2.2
  refine lv_aload_n hx hb dL_print_0 rfl (lv_at hl 2 rfl) ?_
  refine lv_iconst (v := 0) hx hb dL_print_1 (by decide) ?_
  refine lv_aload_n hx hb dL_print_2 rfl (lv_at hl 0 rfl) ?_
  refine lv_iload_n hx hb dL_print_3 rfl (lv_at hl 1 rfl) ?_
  refine zx_callci (vx_runV (As := [.int a]) (rest := [.int 0, .ref (ad 111)]) ⟨hx, hb, hml, hown, hts⟩ (c_K_print l hnt hX qs qv hXs P n o A T len flt pl out hD a) (kx_K_print hts ml_L_40 (zRx_fit (by omega) (by omega))) (Z.preV hD.o0 rfl _) rfl rfl hl.1 rfl (lv_room (Nat.le_of_ble_eq_true rfl)) dL_print_4 ⟨Nat.le_of_ble_eq_true rfl, Nat.le_of_ble_eq_true rfl⟩) Z (fun E u H locs q9 ce hpe Zx hce hcv hcl => ?_) (fun r9 w1 H locs hp Z => ?_)
  · obtain ⟨rfl, hn, rfl⟩ := hpe
    refine vx_catch (own := "PolynomialDeskLaw") (name := "java/lang/IndexOutOfBoundsException") hown [] (⟨0, 9, 12, 19⟩ : ExceptionTableEntry) [] (by rw [htab]; rfl) (fun z hz => absurd hz List.not_mem_nil) (by decide) (by decide) (hT _ mc_L_19) (va_Nw.use (zNgw_ot (.castable "java/lang/IndexOutOfBoundsException" "java/lang/IndexOutOfBoundsException") (by decide +kernel)) (hthr.2.1 _ (by decide +kernel))) hce hcv hcl ?_
    refine lv_astore_n (lv' := [(3, .ref q9), (0, .ref (ad 0)), (1, .int a), (2, .ref (ad 111))]) hx hb dL_print_12 rfl hl (by decide) rfl (fun ls hl => ?_)
    refine lv_iconst (v := 1) hx hb dL_print_13 (by decide) ?_
    exact hret _ _ _ _ _ _ _ _ dL_print_14 (⟨.inr ⟨rfl, hn, hD, f0, h111⟩, fun k _ _ => rfl⟩) Zx (Nat.le_of_ble_eq_true rfl) (Nat.le_of_ble_eq_true rfl)
  · obtain ⟨⟨a1, hr9⟩, a5, hk1⟩ := hp
    refine lv_i2l hx hb dL_print_7 rfl ?_
    have g111 : w1 111 = some (zj G 1 f0) := (hk1 111 (by decide)).trans h111
    refine zw_last hx hb Z g111 ((show vp_in (nI 0) 1 from vin (by decide) (by decide))) dL_print_8 (fun H locs Z => ?_)
    have Z : zw G ad (va_up w1 111 (some (zj G 1 (vp_updL f0 0 (r9.toInt64))))) s H locs := Z
    refine lv_goto (tgt := 15) hx hb dL_print_9 (by decide) ?_
    refine lv_iconst (v := 0) hx hb dL_print_15 (by decide) ?_
    exact hret _ _ _ _ _ _ _ _ dL_print_16 (⟨.inl ⟨rfl, a1, a5.cong (fun k hk => va_up_ne _ _ (by omega)), _, va_up_self _ _ _, congrArg Int32.toInt64 hr9⟩, fun k h1 h2 => (va_up_ne _ _ h2).trans (hk1 k h1)⟩) Z (Nat.le_of_ble_eq_true rfl) (Nat.le_of_ble_eq_true rfl)

theorem mk_L_multiply : kL_multiply ∈ zT := zT_in (List.mem_append_right _ (List.mem_append_right _ (List.mem_append_left _ (List.mem_of_getElem? (l := tables_1_2) (i := 201) rfl)))) rfl
abbrev wL_multiply : List Cond := kL_multiply :: zT
theorem kv_L_multiply {R : Room} {k c1 n1 : Nat} {s : State} {args : Array Value} {own : String} {index : Nat} {c0 : Cond} (hts : ∀ w ∈ c0 :: zT, w.before args s = true) (hl : Cond.methodLink own index yL_multiply ∈ zT) (hR : (zRx k c1 n1).frames + 1 ≤ R.frames ∧ 8 + (5 + 11) + (zRx k c1 n1).locals ≤ R.locals) : vx_CSW R s args own index yL_multiply bL_multiply 5 (some .int) [(0, 7, 10, 19), (0, 7, 14, 28)] wL_multiply (zRx k c1 n1) c1 n1 4 :=
  vx_cwSW 4 hts (zG_S hl mt_L_multiply mn_L mk_L_multiply) rfl rfl rfl (by decide +kernel) hR
set_option maxHeartbeats 4000000 in
set_option maxRecDepth 100000 in
theorem c_L_multiply (l : Launch) (hnt : l.stackTraces = false) {G : zG} {ad : Nat → Nat} {w : Nat → Option va_E} (hX : ∀ U H, G.2.2.2 U H → zTHR G U H) (P n o : Nat) (A : Nat → Nat → Nat) (T : Nat → Nat) (len : Nat) (flt pl : Int32) (out : List Nat) (hD : zDk G ad w P n o A T len flt pl out) (a b t : Int32) : Met l yL_multiply wL_multiply (zRx (5) 4 24) (va_Pc [.ref (ad 0), .int a, .int b, .int t] (zw_U G ad w)) (va_Qi (S := Nat → Option va_E) (fun r w' => ((r = 0 ∧ ((zip8 a = true ∧ zip8 b = true ∧ zip8 t = true) ∧ zhigh2 n o (fun i => nI (A a.toNatClampNeg i)) (fun i => nI (A b.toNatClampNeg i)) = false) ∧ zDk G ad w' P n o (va_up A t.toNatClampNeg (zmul n o P (A a.toNatClampNeg) (A b.toNatClampNeg))) (T) (len) (flt) (pl) (out)) ∨ (r = 1 ∧ ¬ (zip8 a = true ∧ zip8 b = true ∧ zip8 t = true) ∧ zDk G ad w' P n o (A) (T) (len) (flt) (pl) (out)) ∨ (r = 2 ∧ ((zip8 a = true ∧ zip8 b = true ∧ zip8 t = true) ∧ zhigh2 n o (fun i => nI (A a.toNatClampNeg i)) (fun i => nI (A b.toNatClampNeg i)) = true) ∧ zDk G ad w' P n o (A) (T) (len) (flt) (pl) (out))) ∧ zfk w w') (fun u t => zw_U G ((fun _ => ad) u) ((fun w' => w') u) t) (zA G)) 4 24 (zA G) := by
  refine zw_methH (hh := [(0, 7, 10, 19), (0, 7, 14, 28)]) (S := Nat → Option va_E) (fa := fun _ => ad) (fw := fun w' => w') (by decide) rfl (Nat.le_of_ble_eq_true rfl) ?_
  intro p e s m below meth c Q ls C htab Z hl hret
  obtain ⟨hx, hb, hml, hown, hts, hlk⟩ := C
  have hT : ∀ w ∈ zT, w.before ([.ref (ad 0), .int a, .int b, .int t] : List Value).toArray s = true := fun w h => hts w (List.mem_cons_of_mem _ h)
  have hown : s.vm.findClass "PolynomialDeskLaw" = some m.cls := hown
  have hl : lv_has ls 5 [(0, .ref (ad 0)), (1, .int a), (2, .int b), (3, .int t)] := hl
  have hthr := hX _ _ Z.2.2.2.2.2
  refine lv_aload_n hx hb dL_multiply_0 rfl (lv_at hl 0 rfl) ?_
  refine lv_iload_n hx hb dL_multiply_1 rfl (lv_at hl 1 rfl) ?_
  refine lv_iload_n hx hb dL_multiply_2 rfl (lv_at hl 2 rfl) ?_
  refine lv_iload_n hx hb dL_multiply_3 rfl (lv_at hl 3 rfl) ?_
  refine zx_callcv (vx_runV (As := [.int a, .int b, .int t]) (rest := []) ⟨hx, hb, hml, hown, hts⟩ (c_K_multiply l hnt hX P n o A T len flt pl out hD a b t) (kx_K_multiply hts ml_L_25 (zRx_fit (by omega) (by omega))) (Z.preV hD.o0 rfl _) rfl rfl hl.1 rfl (lv_room (Nat.le_of_ble_eq_true rfl)) dL_multiply_4 ⟨Nat.le_of_ble_eq_true rfl, Nat.le_of_ble_eq_true rfl⟩) Z (fun E u H locs q9 ce hpe Zx hce hcv hcl => ?_) (fun w1 H locs hp Z => ?_)
  · rcases hpe with ⟨⟨rfl, hn⟩ | ⟨rfl, hn⟩, rfl⟩
    · refine vx_catch (own := "PolynomialDeskLaw") (name := "java/lang/IndexOutOfBoundsException") hown [] (⟨0, 7, 10, 19⟩ : ExceptionTableEntry) [(⟨0, 7, 14, 28⟩ : ExceptionTableEntry)] (by rw [htab]; rfl) (fun z hz => absurd hz List.not_mem_nil) (by decide) (by decide) (hT _ mc_L_19) (va_Nw.use (zNgw_ot (.castable "java/lang/IndexOutOfBoundsException" "java/lang/IndexOutOfBoundsException") (by decide +kernel)) (hthr.2.1 _ (by decide +kernel))) hce hcv hcl ?_
      refine lv_astore (lv' := [(4, .ref q9), (0, .ref (ad 0)), (1, .int a), (2, .int b), (3, .int t)]) hx hb dL_multiply_10 hl (by decide) rfl (fun ls hl => ?_)
      refine lv_iconst (v := 1) hx hb dL_multiply_12 (by decide) ?_
      exact hret _ _ _ _ _ _ _ _ dL_multiply_13 (⟨.inr (.inl ⟨rfl, hn, hD⟩), zfk.rfl' _⟩) Zx (Nat.le_of_ble_eq_true rfl) (Nat.le_of_ble_eq_true rfl)
    · refine vx_catch (own := "PolynomialDeskLaw") (name := "java/lang/IllegalStateException") hown [(⟨0, 7, 10, 19⟩ : ExceptionTableEntry)] (⟨0, 7, 14, 28⟩ : ExceptionTableEntry) [] (by rw [htab]; rfl) (fun z hz => Or.inr (by rw [List.mem_singleton.mp hz]; exact ⟨by decide, "java/lang/IndexOutOfBoundsException", hT _ mc_L_19, hthr.2.2.2.2.2⟩)) (by decide) (by decide) (hT _ mc_L_28) (va_Nw.use (zNgw_ot (.castable "java/lang/IllegalStateException" "java/lang/IllegalStateException") (by decide +kernel)) (hthr.2.1 _ (by decide +kernel))) hce hcv hcl ?_
      refine lv_astore (lv' := [(4, .ref q9), (0, .ref (ad 0)), (1, .int a), (2, .int b), (3, .int t)]) hx hb dL_multiply_14 hl (by decide) rfl (fun ls hl => ?_)
      refine lv_iconst (v := 2) hx hb dL_multiply_16 (by decide) ?_
      exact hret _ _ _ _ _ _ _ _ dL_multiply_17 (⟨.inr (.inr ⟨rfl, hn, hD⟩), zfk.rfl' _⟩) Zx (Nat.le_of_ble_eq_true rfl) (Nat.le_of_ble_eq_true rfl)
  · refine lv_goto (tgt := 18) hx hb dL_multiply_7 (by decide) ?_
    refine lv_iconst (v := 0) hx hb dL_multiply_18 (by decide) ?_
    exact hret _ _ _ _ _ _ _ _ dL_multiply_19 (by obtain ⟨a1, a5, a6⟩ := hp; exact ⟨.inl ⟨rfl, a1, a5⟩, a6⟩) Z (Nat.le_of_ble_eq_true rfl) (Nat.le_of_ble_eq_true rfl)

theorem mk_L_read : kL_read ∈ zT := zT_in (List.mem_append_right _ (List.mem_append_right _ (List.mem_append_left _ (List.mem_of_getElem? (l := tables_1_2) (i := 69) rfl)))) rfl
abbrev wL_read : List Cond := kL_read :: zT
theorem kv_L_read {R : Room} {k c1 n1 : Nat} {s : State} {args : Array Value} {own : String} {index : Nat} {c0 : Cond} (hts : ∀ w ∈ c0 :: zT, w.before args s = true) (hl : Cond.methodLink own index yL_read ∈ zT) (hR : (zRx k c1 n1).frames + 1 ≤ R.frames ∧ 8 + (4 + 11) + (zRx k c1 n1).locals ≤ R.locals) : vx_CSW R s args own index yL_read bL_read 4 (some .int) [(0, 9, 12, 19), (0, 9, 15, 13)] wL_read (zRx k c1 n1) c1 n1 3 :=
  vx_cwSW 3 hts (zG_S hl mt_L_read mn_L mk_L_read) rfl rfl rfl (by decide +kernel) hR
set_option maxHeartbeats 4000000 in
set_option maxRecDepth 100000 in
theorem c_L_read (l : Launch) (hnt : l.stackTraces = false) {G : zG} {ad : Nat → Nat} {w : Nat → Option va_E} (hX : ∀ U H, G.2.2.2 U H → zTHR G U H) (P n o : Nat) (A : Nat → Nat → Nat) (T : Nat → Nat) (len : Nat) (flt pl : Int32) (out : List Nat) (hD : zDk G ad w P n o A T len flt pl out) (a : Int32) (f0 : Nat → Int64) (h111 : w 111 = some (zj G 1 f0)) : Met l yL_read wL_read (zRx (133) 4 24) (va_Pc [.ref (ad 0), .int a, .ref (ad 111)] (zw_U G ad w)) (va_Qi (S := Nat → Option va_E) (fun r w' => ((r = 0 ∧ zip8 a = true ∧ ∃ (C : Nat → Nat) (e9 : Nat), zText n o P T len = .inr (C, e9) ∧ zDk G ad w' P n o (va_up A a.toNatClampNeg C) (T) (0) (0) (-1) (out) ∧ ∃ f : Nat → Int64, w' 111 = some (zj G 1 f) ∧ f 0 = (nI (zcnt (fun i => nI (C i)) (zCt n))).toInt64) ∨ (r = 1 ∧ zip8 a = false ∧ zDk G ad w' P n o (A) (T) (len) (flt) (pl) (out) ∧ ∃ f : Nat → Int64, w' 111 = some (zj G 1 f)) ∨ (r = 2 ∧ zip8 a = true ∧ ∃ f9 p9 : Nat, zText n o P T len = .inl (f9, p9) ∧ zDk G ad w' P n o (A) (T) (0) (nI f9) (nI p9) (out) ∧ ∃ f : Nat → Int64, w' 111 = some (zj G 1 f))) ∧ ∀ k, 73 ≤ k → k ≠ 111 → w' k = w k) (fun u t => zw_U G ((fun _ => ad) u) ((fun w' => w') u) t) (zA G)) 4 24 (zA G) := by
  refine zw_methH (hh := [(0, 9, 12, 19), (0, 9, 15, 13)]) (S := Nat → Option va_E) (fa := fun _ => ad) (fw := fun w' => w') (by decide) rfl (Nat.le_of_ble_eq_true rfl) ?_
  intro p e s m below meth c Q ls C htab Z hl hret
  obtain ⟨hx, hb, hml, hown, hts, hlk⟩ := C
  have hT : ∀ w ∈ zT, w.before ([.ref (ad 0), .int a, .ref (ad 111)] : List Value).toArray s = true := fun w h => hts w (List.mem_cons_of_mem _ h)
  have hown : s.vm.findClass "PolynomialDeskLaw" = some m.cls := hown
  have hl : lv_has ls 4 [(0, .ref (ad 0)), (1, .int a), (2, .ref (ad 111))] := hl
  have hthr := hX _ _ Z.2.2.2.2.2
  refine lv_aload_n hx hb dL_read_0 rfl (lv_at hl 2 rfl) ?_
  refine lv_iconst (v := 0) hx hb dL_read_1 (by decide) ?_
  refine lv_aload_n hx hb dL_read_2 rfl (lv_at hl 0 rfl) ?_
  refine lv_iload_n hx hb dL_read_3 rfl (lv_at hl 1 rfl) ?_
  refine zx_callci (vx_runV (As := [.int a]) (rest := [.int 0, .ref (ad 111)]) ⟨hx, hb, hml, hown, hts⟩ (c_K_read l hnt hX P n o A T len flt pl out hD a) (kx_K_read hts ml_L_15 (zRx_fit (by omega) (by omega))) (Z.preV hD.o0 rfl _) rfl rfl hl.1 rfl (lv_room (Nat.le_of_ble_eq_true rfl)) dL_read_4 ⟨Nat.le_of_ble_eq_true rfl, Nat.le_of_ble_eq_true rfl⟩) Z (fun E u H locs q9 ce hpe Zx hce hcv hcl => ?_) (fun r9 w1 H locs hp Z => ?_)
  · rcases hpe with ⟨rfl, hn, rfl⟩ | ⟨rfl, hn, f9, p9, a2, b1, b2, a5, hk1⟩
    · refine vx_catch (own := "PolynomialDeskLaw") (name := "java/lang/IndexOutOfBoundsException") hown [] (⟨0, 9, 12, 19⟩ : ExceptionTableEntry) [(⟨0, 9, 15, 13⟩ : ExceptionTableEntry)] (by rw [htab]; rfl) (fun z hz => absurd hz List.not_mem_nil) (by decide) (by decide) (hT _ mc_L_19) (va_Nw.use (zNgw_ot (.castable "java/lang/IndexOutOfBoundsException" "java/lang/IndexOutOfBoundsException") (by decide +kernel)) (hthr.2.1 _ (by decide +kernel))) hce hcv hcl ?_
      refine lv_astore_n (lv' := [(3, .ref q9), (0, .ref (ad 0)), (1, .int a), (2, .ref (ad 111))]) hx hb dL_read_12 rfl hl (by decide) rfl (fun ls hl => ?_)
      refine lv_iconst (v := 1) hx hb dL_read_13 (by decide) ?_
      exact hret _ _ _ _ _ _ _ _ dL_read_14 (⟨.inr (.inl ⟨rfl, hn, hD, f0, h111⟩), fun k _ _ => rfl⟩) Zx (Nat.le_of_ble_eq_true rfl) (Nat.le_of_ble_eq_true rfl)
    · refine vx_catch (own := "PolynomialDeskLaw") (name := "java/lang/IllegalArgumentException") hown [(⟨0, 9, 12, 19⟩ : ExceptionTableEntry)] (⟨0, 9, 15, 13⟩ : ExceptionTableEntry) [] (by rw [htab]; rfl) (fun z hz => Or.inr (by rw [List.mem_singleton.mp hz]; exact ⟨by decide, "java/lang/IndexOutOfBoundsException", hT _ mc_L_19, hthr.2.2.2.2.1⟩)) (by decide) (by decide) (hT _ mc_L_13) (va_Nw.use (zNgw_ot (.castable "java/lang/IllegalArgumentException" "java/lang/IllegalArgumentException") (by decide +kernel)) (hthr.2.1 _ (by decide +kernel))) hce hcv hcl ?_
      refine lv_astore_n (lv' := [(3, .ref q9), (0, .ref (ad 0)), (1, .int a), (2, .ref (ad 111))]) hx hb dL_read_15 rfl hl (by decide) rfl (fun ls hl => ?_)
      refine lv_iconst (v := 2) hx hb dL_read_16 (by decide) ?_
      exact hret _ _ _ _ _ _ _ _ dL_read_17 (⟨.inr (.inr ⟨rfl, hn, f9, p9, a2, a5, f0, (hk1 111 (by decide)).trans h111⟩), fun k h1 _ => hk1 k h1⟩) Zx (Nat.le_of_ble_eq_true rfl) (Nat.le_of_ble_eq_true rfl)
  · obtain ⟨a1, C, e9, a2, hr9, a5, hk1⟩ := hp
    refine lv_i2l hx hb dL_read_7 rfl ?_
    have g111 : w1 111 = some (zj G 1 f0) := (hk1 111 (by decide)).trans h111
    refine zw_last hx hb Z g111 ((show vp_in (nI 0) 1 from vin (by decide) (by decide))) dL_read_8 (fun H locs Z => ?_)
    have Z : zw G ad (va_up w1 111 (some (zj G 1 (vp_updL f0 0 (r9.toInt64))))) s H locs := Z
    refine lv_goto (tgt := 18) hx hb dL_read_9 (by decide) ?_
    refine lv_iconst (v := 0) hx hb dL_read_18 (by decide) ?_
    exact hret _ _ _ _ _ _ _ _ dL_read_19 (⟨.inl ⟨rfl, a1, C, e9, a2, a5.cong (fun k hk => va_up_ne _ _ (by omega)), _, va_up_self _ _ _, congrArg Int32.toInt64 hr9⟩, fun k h1 h2 => (va_up_ne _ _ h2).trans (hk1 k h1)⟩) Z (Nat.le_of_ble_eq_true rfl) (Nat.le_of_ble_eq_true rfl)
