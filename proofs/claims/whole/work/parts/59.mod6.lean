/-- the reference with what it has said so far -/
def zSay (G : zG) (ad : Nat → Nat) (w : Nat → Option va_E) (P n o : Nat) (F : Nat → Int32) (B : Nat → Nat → Nat) (out : List Nat) : Prop := zMod G ad w P n o F B ∧ F 26 = nI out.length ∧ ∃ ob : Nat → Int32, w 110 = some (zi G 4000 ob) ∧ ∀ i, i < out.length → ob i = nI (out.getD i 0)
def zf60 (w w' : Nat → Option va_E) : Prop := ∀ k, k ≠ 100 → k ≠ 110 → w' k = w k
theorem zf60.rfl' (w : Nat → Option va_E) : zf60 w w := fun _ _ _ => rfl
theorem zf60.trans {w w1 w2 : Nat → Option va_E} (h1 : zf60 w w1) (h2 : zf60 w1 w2) : zf60 w w2 := fun k a b => (h2 k a b).trans (h1 k a b)
/-- a term as the reference begins it -/
def zm0 (n o i c : Nat) : List Nat := if c = 1 ∧ 0 < zDg n o i then [] else zdig c
theorem zjoin_ne {L x : List Nat} (h : L ≠ []) : zjoin L x ≠ [] := by
  unfold zjoin
  split
  · exact h
  · (try rw [if_neg h])
    simp
theorem zpv_ne {n o i : Nat} {L : List Nat} (h : L ≠ []) : ∀ k, zpv n o i L k ≠ []
  | 0 => h
  | k + 1 => zjoin_ne (zpv_ne h k)
theorem zpv_n {n o i : Nat} (hc : zCfg n o) (hi : i < zCt n) (L : List Nat) : zpv n o i L 4 = zpv n o i L n := by
  have hn := hc.2.1
  have h : ∀ d v, v + d = 4 → n ≤ v → zpv n o i L 4 = zpv n o i L v := by
    intro d
    induction d with
    | zero => intro v h1 h2; rw [show v = 4 by omega]
    | succ d ih =>
      intro v h1 h2
      rw [ih (v + 1) (by omega) (by omega)]
      exact zjoin_0 (zEx_out hc hi (by omega) h2)
  exact h (4 - n) n (by omega) (Nat.le_refl _)
theorem zpv_nil {n o i : Nat} : ∀ k, zpv n o i [] k = [] → ∀ v, v < k → zEx n o v i = 0
  | 0, _, v, hv => absurd hv (Nat.not_lt_zero _)
  | k + 1, h, v, hv => by
    have h1 : zjoin (zpv n o i [] k) (zvf k (zEx n o k i)) = [] := h
    by_cases e : zpv n o i [] k = []
    · by_cases ev : v = k
      · subst ev
        apply Classical.byContradiction
        intro h9
        rw [zjoin_e h9] at h1
        simp at h1
      · exact zpv_nil k e v (by omega)
    · exact absurd h1 (zjoin_ne e)
theorem zpv_z {n o i : Nat} {L : List Nat} : ∀ k, (∀ v, v < k → zEx n o v i = 0) → zpv n o i L k = L
  | 0, _ => rfl
  | k + 1, h => by
    show zjoin (zpv n o i L k) (zvf k (zEx n o k i)) = L
    rw [zjoin_0 (h k (by omega)), zpv_z k (fun v hv => h v (by omega))]
theorem zm0_ok {n o i c : Nat} (hc : zCfg n o) (hi : i < zCt n) : zpv n o i (zm0 n o i c) n = zpt n o i c := by
  unfold zpt
  by_cases h1 : c = 1
  · subst h1
    rw [show zl0 1 = [] from rfl]
    by_cases h2 : 0 < zDg n o i
    · rw [show zm0 n o i 1 = [] from if_pos ⟨rfl, h2⟩, if_neg ?_, zpv_n hc hi]
      intro h9
      have := zpv_nil 4 h9
      have a0 := this 0 (by decide)
      have a1 := this 1 (by decide)
      have a2 := this 2 (by decide)
      have a3 := this 3 (by decide)
      unfold zDg at h2
      omega
    · have hz : ∀ v, v < 4 → zEx n o v i = 0 := by
        intro v hv
        unfold zDg at h2
        have h3 : v = 0 ∨ v = 1 ∨ v = 2 ∨ v = 3 := by omega
        rcases h3 with rfl | rfl | rfl | rfl <;> omega
      rw [show zm0 n o i 1 = [49] from if_neg (fun h9 => h2 h9.2), if_pos (zpv_z 4 hz), zpv_z n (fun v hv => hz v (by have := hc.2.1; omega))]
  · rw [show zl0 c = zdig c from if_neg h1, show zm0 n o i c = zdig c from if_neg (fun h9 => h1 h9.1), if_neg (zpv_ne (zdig_pos c) 4), zpv_n hc hi]
theorem zm0_len (n o i c : Nat) : (zm0 n o i c).length ≤ 5 := by
  unfold zm0
  split
  · exact Nat.zero_le _
  · exact zdig_len c

set_option maxHeartbeats 4000000 in
set_option maxRecDepth 100000 in
theorem c_M_say (l : Launch) {G : zG} {ad : Nat → Nat} {w : Nat → Option va_E} (P n o : Nat) (F : Nat → Int32) (B : Nat → Nat → Nat) (out : List Nat) (hS : zSay G ad w P n o F B out) (c9 : Nat) (hr : out.length < 3999) : Met l yM_say wM_say (zR (1)) (va_Pc [.ref (ad 100), .int (nI c9)] (zw_U G ad w)) (va_Qv (S := Nat → Option va_E) (fun w' => zSay G ad w' P n o (upd F 26 (nI (out ++ [c9]).length)) B (out ++ [c9]) ∧ zf60 w w') (fun u t => zw_U G ((fun _ => ad) u) ((fun w' => w') u) t) (zA G)) 0 0 (zA G) := by
  refine zw_methv (S := Nat → Option va_E) (fa := fun _ => ad) (fw := fun w' => w') (by decide) rfl (Nat.le_of_ble_eq_true rfl) ?_
  intro p e s m below meth c Q ls C hname Z hl hret
  obtain ⟨hx, hb, hml, hown, hts, hlk⟩ := C
  have hT : ∀ w ∈ zT, w.before ([.ref (ad 100), .int (nI c9)] : List Value).toArray s = true := fun w h => hts w (List.mem_cons_of_mem _ h)
  have hown : s.vm.findClass "PolynomialDeskModel" = some m.cls := hown
  have hl : lv_has ls 2 [(0, .ref (ad 100)), (1, .int (nI c9))] := hl
  obtain ⟨hM, hF26, ob, h110, hob⟩ := id hS
  obtain ⟨h100, ⟨hF1, hF2, hF3, hF4, hF10⟩, ⟨hP1, hP2⟩, hcfg, ⟨dg, h101, hdg⟩, ⟨ex, h102, hex⟩, ⟨ys, h103, hys⟩, ⟨un, h104, hun⟩, ⟨cl, h105, hcl, hpB⟩⟩ := id hM
  have hct := zCt_le (n := n)
  refine lv_aload_n hx hb dM_say_0 rfl (lv_at hl 0 rfl) ?_
  refine zw_get (v := .ref (ad 110)) hx hb hT uM hown Z h100 rfl 25 (by decide) (hT _ mf_M_45) (fun _ h9 => h9) rfl dM_say_1 ?_
  refine lv_aload_n hx hb dM_say_4 rfl (lv_at hl 0 rfl) ?_
  refine zw_get (v := .int (F 26)) hx hb hT uM hown Z h100 rfl 26 (by decide) (hT _ mf_M_74) (fun _ h9 => h9) rfl dM_say_5 ?_
  refine zw_top (nI (out).length) (hF26) ?_
  refine lv_iload_n hx hb dM_say_8 rfl (lv_at hl 1 rfl) ?_
  refine zw_iast hx hb Z h110 (vin (by omega) (by decide)) dM_say_9 (fun H locs Z => ?_)
  rw [ncl (by omega)] at Z
  have Z : zw G ad (va_up w 110 (some (zi G 4000 (upd ob out.length (nI c9))))) s H locs := Z
  have g100 : (va_up w 110 (some (zi G 4000 (upd ob out.length (nI c9))))) 100 = some (oM ad F) := by rw [va_up_ne _ _ (by decide)]; exact h100
  refine lv_aload_n hx hb dM_say_10 rfl (lv_at hl 0 rfl) ?_
  refine lv_dup hx hb dM_say_11 rfl ?_
  refine zw_get (v := .int (F 26)) hx hb hT uM hown Z g100 rfl 26 (by decide) (hT _ mf_M_74) (fun _ h9 => h9) rfl dM_say_12 ?_
  refine zw_top (nI (out).length) (hF26) ?_
  refine lv_iconst (v := 1) hx hb dM_say_15 (by decide) ?_
  refine lv_iadd hx hb dM_say_16 ?_
  refine zw_top (nI (out.length + 1)) (nI_1 _) ?_
  refine zw_put (v := .int (nI (out.length + 1))) hx hb hT uM hown tM tM_ok nM Z g100 rfl 26 (by decide) (hT _ mf_M_74) (fun _ h9 => h9) rfl rfl rfl (by simp) dM_say_17 (fun H locs Z => ?_)
  have hln : (out ++ [c9]).length = out.length + 1 := by rw [List.length_append]; rfl
  have Z : zw G ad (va_up (va_up w 110 (some (zi G 4000 (upd ob out.length (nI c9))))) 100 (some (oM ad (upd F 26 (nI (out.length + 1)))))) s H locs := Z
  rw [← hln] at Z
  exact hret _ _ _ _ _ dM_say_20 (⟨⟨hM.obj (fun k hk => by rw [va_up_ne _ _ (by omega), va_up_ne _ _ (by omega)]) (va_up_self _ _ _) (fun j hj => pk_un (by omega)), rfl, upd ob out.length (nI c9), by rw [va_up_ne _ _ (by decide), va_up_self], fun i hi => by
    rw [hln] at hi
    rw [zgetD_app]
    by_cases e9 : i = out.length
    · subst e9
      rw [pk_us, if_neg (Nat.lt_irrefl _), if_pos rfl]
    · rw [pk_un e9, if_pos (by omega)]
      exact hob i (by omega)⟩, fun k h1 h2 => by rw [va_up_ne _ _ h1, va_up_ne _ _ h2]⟩) Z

set_option maxHeartbeats 4000000 in
set_option maxRecDepth 100000 in
theorem c_M_sayNumber (l : Launch) {G : zG} {ad : Nat → Nat} {w : Nat → Option va_E} (P n o : Nat) (F : Nat → Int32) (B : Nat → Nat → Nat) (out : List Nat) (hS : zSay G ad w P n o F B out) (v : Nat) (hv : v < 100000) (hr : out.length + 5 < 3999) : Met l yM_sayNumber wM_sayNumber (zR (2)) (va_Pc [.ref (ad 100), .int (nI v)] (zw_U G ad w)) (va_Qv (S := Nat → Option va_E) (fun w' => zSay G ad w' P n o (upd F 26 (nI (out ++ zdig v).length)) B (out ++ zdig v) ∧ zf60 w w') (fun u t => zw_U G ((fun _ => ad) u) ((fun w' => w') u) t) (zA G)) 0 0 (zA G) := by
  refine zw_methv (S := Nat → Option va_E) (fa := fun _ => ad) (fw := fun w' => w') (by decide) rfl (Nat.le_of_ble_eq_true rfl) ?_
  intro p e s m below meth c Q ls C hname Z hl hret
  obtain ⟨hx, hb, hml, hown, hts, hlk⟩ := C
  have hT : ∀ w ∈ zT, w.before ([.ref (ad 100), .int (nI v)] : List Value).toArray s = true := fun w h => hts w (List.mem_cons_of_mem _ h)
  have hown : s.vm.findClass "PolynomialDeskModel" = some m.cls := hown
  have hl : lv_has ls 3 [(0, .ref (ad 100)), (1, .int (nI v))] := hl
  refine lv_sipush (v := 10000) hx hb dM_sayNumber_0 (by decide) ?_
  refine lv_istore_n (lv' := [(2, .int 10000), (0, .ref (ad 100)), (1, .int (nI v))]) hx hb dM_sayNumber_3 rfl hl (by decide) rfl (fun ls hl => ?_)
  have loop : ∀ (j : Nat) (L : List Nat) (wA : Nat → Option va_E) (H : Heap) (locs : List Loc) (ls : Array Slot), j ≤ 5 → zSay G ad wA P n o (upd F 26 (nI L.length)) B L → L.length + j < 3999 → zf60 w wA → L ++ zdr v j = out ++ zdig v → zw G ad wA s H locs → lv_has ls 3 [(2, .int (nI (zu j))), (0, .ref (ad 100)), (1, .int (nI v))] → W p l e (zR (2)) s m ([.ref (ad 100), .int (nI v)] : List Value).toArray below meth c H locs (0) (0) Q (F0 m 4 ls []) := by
    intro j
    induction j with
    | zero =>
      intro L wA H locs ls hj hA hlen hz he Z hl
      refine lv_iload_n hx hb dM_sayNumber_4 rfl (lv_at hl 0 rfl) ?_
      refine lv_if_le (tgt := 39) hx hb dM_sayNumber_5 (by decide) (fun _ => ?_) (fun hc => absurd (show ((nI (zu 0)) : Int32) ≤ 0 from by decide) hc)
      rw [show zdr v 0 = [] from rfl, List.append_nil] at he
      subst he
      exact hret _ _ _ _ _ dM_sayNumber_39 (⟨hA, hz⟩) Z
    | succ j ih =>
      intro L wA H locs ls hj hA hlen hz he Z hl
      rw [zu_s] at hl
      have hp := zu_lt j (by omega)
      have hp0 : 0 < 10 ^ j := Nat.pow_pos (by decide)
      have hd := Nat.mod_lt (v / 10 ^ j) (show 0 < 10 by decide)
      have hdv : v / 10 ^ j < 2 ^ 31 := Nat.lt_of_le_of_lt (Nat.div_le_self _ _) (by omega)
      have hA100 := hA.1.1
      refine lv_iload_n hx hb dM_sayNumber_4 rfl (lv_at hl 0 rfl) ?_
      refine lv_if_le (tgt := 39) hx hb dM_sayNumber_5 (by decide) (fun hc => absurd hc (show ¬ (((nI (10 ^ j)) : Int32) ≤ 0) from nI_nle hp0 (by omega))) (fun _ => ?_)
      refine lv_iload_n hx hb dM_sayNumber_8 rfl (lv_at hl 2 rfl) ?_
      refine lv_iload_n hx hb dM_sayNumber_9 rfl (lv_at hl 0 rfl) ?_
      have tail : ∀ (L1 : List Nat) (wB : Nat → Option va_E) (H : Heap) (locs : List Loc), zSay G ad wB P n o (upd F 26 (nI L1.length)) B L1 → L1.length + j < 3999 → zf60 w wB → L1 ++ zdr v j = out ++ zdig v → zw G ad wB s H locs → W p l e (zR (2)) s m ([.ref (ad 100), .int (nI v)] : List Value).toArray below meth c H locs (0) (0) Q (F0 m 31 ls []) := by
        intro L1 wB H locs hA hlen hz he Z
        refine lv_iload_n hx hb dM_sayNumber_31 rfl (lv_at hl 0 rfl) ?_
        refine lv_bipush (v := 10) hx hb dM_sayNumber_32 (by decide) ?_
        refine lv_idiv hx hb dM_sayNumber_34 (by decide) ?_
        refine zw_top (nI (zu j)) (pk_div (d := 10) (by omega) (by decide) (by decide)) ?_
        refine lv_istore_n (lv' := [(2, .int (nI (zu j))), (0, .ref (ad 100)), (1, .int (nI v))]) hx hb dM_sayNumber_35 rfl hl (by decide) rfl (fun ls hl => ?_)
        refine lv_goto (tgt := 4) hx hb dM_sayNumber_36 (by decide) ?_
        exact ih L1 wB _ _ ls (by omega) hA hlen hz he Z (lv_sub hl [0, 1, 2] rfl)
      have write : (10 ^ j ≤ v ∨ j = 0) → W p l e (zR (2)) s m ([.ref (ad 100), .int (nI v)] : List Value).toArray below meth c H locs (0) (0) Q (F0 m 18 ls []) := by
        intro hcd
        refine lv_aload_n hx hb dM_sayNumber_18 rfl (lv_at hl 1 rfl) ?_
        refine lv_bipush (v := 48) hx hb dM_sayNumber_19 (by decide) ?_
        refine lv_iload_n hx hb dM_sayNumber_21 rfl (lv_at hl 2 rfl) ?_
        refine lv_iload_n hx hb dM_sayNumber_22 rfl (lv_at hl 0 rfl) ?_
        refine lv_idiv hx hb dM_sayNumber_23 (nI_ne0 hp0 (by omega)) ?_
        refine zw_top (nI (v / 10 ^ j)) (pk_div (by omega) hp0 (by omega)) ?_
        refine lv_bipush (v := 10) hx hb dM_sayNumber_24 (by decide) ?_
        refine lv_irem hx hb dM_sayNumber_26 (by decide) ?_
        refine zw_top (nI (v / 10 ^ j % 10)) (pk_rem (d := 10) hdv (by decide) (by decide)) ?_
        refine lv_iadd hx hb dM_sayNumber_27 ?_
        refine zw_top (nI (48 + v / 10 ^ j % 10)) (nI_add 48 _) ?_
        refine zw_callv (va_runV (As := [.int (nI (48 + v / 10 ^ j % 10))]) (rest := []) ⟨hx, hb, hml, hown, hts⟩ (c_M_say l P n o _ B L hA (48 + v / 10 ^ j % 10) (by omega)) (kw_M_say hts ml_M_198 (zR_fit (by omega) (by omega))) (Z.preV hA100 rfl _) rfl rfl hl.1 rfl (lv_room (Nat.le_of_ble_eq_true rfl)) dM_sayNumber_28 ⟨Nat.le_of_ble_eq_true rfl, Nat.le_of_ble_eq_true rfl⟩) Z (fun wB H locs hp Z => ?_)
        exact tail _ wB _ _ (by rw [upd_upd] at hp; exact hp.1) (by rw [List.length_append]; show L.length + 1 + j < 3999; omega) (hz.trans hp.2) (by rw [← he, zdr, if_pos hcd, List.append_assoc]) Z
      refine lv_icmp_ge (tgt := 18) hx hb dM_sayNumber_10 (by decide) (fun hc => ?_) (fun hc => ?_)
      · exact write (Or.inl ((nI_leI (by omega) (by omega)).mp hc))
      · have hn1 : ¬ 10 ^ j ≤ v := fun h9 => hc (nI_le h9 (by omega))
        refine lv_iload_n hx hb dM_sayNumber_13 rfl (lv_at hl 0 rfl) ?_
        refine lv_iconst (v := 1) hx hb dM_sayNumber_14 (by decide) ?_
        refine lv_icmp_ne (tgt := 31) hx hb dM_sayNumber_15 (by decide) (fun hc2 => ?_) (fun hc2 => ?_)
        · have hj0 : j ≠ 0 := fun h9 => hc2 (by rw [h9]; rfl)
          exact tail L wA _ _ hA (by omega) hz (by rw [← he, zdr, if_neg (fun h9 => h9.elim hn1 hj0)]; rfl) Z
        · have hj0 : j = 0 := by
            apply Classical.byContradiction
            intro h9
            have h8 : 10 ^ 1 ≤ 10 ^ j := Nat.pow_le_pow_right (by decide) (by omega)
            have h7 := (nI_eq (b := 1) (by omega) (by decide)).mp hc2
            omega
          exact write (Or.inr hj0)
  exact loop 5 out w _ _ ls (by omega) (by rw [upd_same hS.2.1]; exact hS) hr (zf60.rfl' w) rfl Z (by rw [show nI (zu 5) = 10000 by decide]; exact (lv_sub hl [0, 1, 2] rfl))

set_option maxHeartbeats 4000000 in
set_option maxRecDepth 100000 in
theorem c_M_sayTerm (l : Launch) {G : zG} {ad : Nat → Nat} {w : Nat → Option va_E} (P n o : Nat) (F : Nat → Int32) (B : Nat → Nat → Nat) (out : List Nat) (hS : zSay G ad w P n o F B out) (k i : Nat) (hk : k < 73) (hi : i < zCt n) (hr : out.length + 30 < 3999) : Met l yM_sayTerm wM_sayTerm (zR (3)) (va_Pc [.ref (ad 100), .int (nI k), .int (nI (zKy n o i))] (zw_U G ad w)) (va_Qv (S := Nat → Option va_E) (fun w' => zSay G ad w' P n o (upd F 26 (nI (out ++ zpt n o i (B k i)).length)) B (out ++ zpt n o i (B k i)) ∧ zf60 w w') (fun u t => zw_U G ((fun _ => ad) u) ((fun w' => w') u) t) (zA G)) 0 0 (zA G) := by
  refine zw_methv (S := Nat → Option va_E) (fa := fun _ => ad) (fw := fun w' => w') (by decide) rfl (Nat.le_of_ble_eq_true rfl) ?_
  intro p e s m below meth c Q ls C hname Z hl hret
  obtain ⟨hx, hb, hml, hown, hts, hlk⟩ := C
  have hT : ∀ w ∈ zT, w.before ([.ref (ad 100), .int (nI k), .int (nI (zKy n o i))] : List Value).toArray s = true := fun w h => hts w (List.mem_cons_of_mem _ h)
  have hown : s.vm.findClass "PolynomialDeskModel" = some m.cls := hown
  have hl : lv_has ls 7 [(0, .ref (ad 100)), (1, .int (nI k)), (2, .int (nI (zKy n o i)))] := hl
  obtain ⟨hM, hF26, ob, h110, hob⟩ := id hS
  obtain ⟨h100, ⟨hF1, hF2, hF3, hF4, hF10⟩, ⟨hP1, hP2⟩, hcfg, ⟨dg, h101, hdg⟩, ⟨ex, h102, hex⟩, ⟨ys, h103, hys⟩, ⟨un, h104, hun⟩, ⟨cl, h105, hcl, hpB⟩⟩ := id hM
  have hct := zCt_le (n := n)
  have hn4 := hcfg.2.1
  have hky := zKy_lt hcfg hi
  have hBk := (hpB k).1 i
  have hl0 := zm0_len n o i (B k i)
  have hdl := zDg_le hcfg hi
  have hHi := (zHi_le (n := n)).2
  refine lv_aload_n hx hb dM_sayTerm_0 rfl (lv_at hl 0 rfl) ?_
  refine lv_iload_n hx hb dM_sayTerm_1 rfl (lv_at hl 1 rfl) ?_
  refine lv_iload_n hx hb dM_sayTerm_2 rfl (lv_at hl 2 rfl) ?_
  refine zw_calli (va_runV (As := [.int (nI k), .int (nI (zKy n o i))]) (rest := []) ⟨hx, hb, hml, hown, hts⟩ (c_M_cell l P n o F (B) hM k i hk hi) (kw_M_cell hts ml_M_88 (zR_fit (by omega) (by omega))) (Z.preV h100 rfl _) rfl rfl hl.1 rfl (lv_room (Nat.le_of_ble_eq_true rfl)) dM_sayTerm_3 ⟨Nat.le_of_ble_eq_true rfl, Nat.le_of_ble_eq_true rfl⟩) Z (fun r wq H locs hp Z => ?_)
  obtain ⟨rfl, hw1⟩ := hp
  rw [hw1] at Z
  clear hw1
  generalize hcc : B k i = c9 at hBk hl0 hret ⊢
  refine lv_istore_n (lv' := [(3, .int (nI c9)), (0, .ref (ad 100)), (1, .int (nI k)), (2, .int (nI (zKy n o i)))]) hx hb dM_sayTerm_6 rfl hl (by decide) rfl (fun ls hl => ?_)
  have loop : ∀ (d v : Nat) (wA : Nat → Option va_E) (H : Heap) (locs : List Loc) (ls : Array Slot), d + v = n → zSay G ad wA P n o (upd F 26 (nI (out ++ zpv n o i (zm0 n o i c9) v).length)) B (out ++ zpv n o i (zm0 n o i c9) v) → zf60 w wA → zw G ad wA s H locs → lv_has ls 7 [(5, .int (nI v)), (4, .int (zb (decide (zpv n o i (zm0 n o i c9) v = [])))), (3, .int (nI c9)), (0, .ref (ad 100)), (1, .int (nI k)), (2, .int (nI (zKy n o i)))] → W p l e (zR (3)) s m ([.ref (ad 100), .int (nI k), .int (nI (zKy n o i))] : List Value).toArray below meth c H locs (0) (0) Q (F0 m 41 ls []) := by
    intro d
    induction d with
    | zero =>
      intro v wA H locs ls hd hA hz Z hl
      obtain ⟨hMa, hF26a, oba, h110a, hoba⟩ := id hA
      obtain ⟨h100a, ⟨hF1a, hF2a, hF3a, hF4a, hF10a⟩, ⟨hP1, hP2⟩, hcfg, ⟨dga, h101a, hdga⟩, ⟨exa, h102a, hexa⟩, ⟨ysa, h103a, hysa⟩, ⟨una, h104a, huna⟩, ⟨cla, h105a, hcla, hpBa⟩⟩ := id hMa
      refine lv_iload hx hb dM_sayTerm_41 (lv_at hl 0 rfl) ?_
      refine lv_aload_n hx hb dM_sayTerm_43 rfl (lv_at hl 3 rfl) ?_
      refine zw_get (v := .int ((upd F 26 (nI (out ++ zpv n o i (zm0 n o i c9) v).length)) 2)) hx hb hT uM hown Z h100a rfl 2 (by decide) (hT _ mf_M_55) (fun _ h9 => h9) rfl dM_sayTerm_44 ?_
      refine zw_top (nI n) (hF2a) ?_
      refine lv_icmp_ge (tgt := 150) hx hb dM_sayTerm_47 (by decide) (fun _ => ?_) (fun hc => absurd (show ((nI n) : Int32) ≤ (nI v) from nI_le (by omega) (by omega)) hc)
      rw [show v = n by omega, zm0_ok hcfg hi] at hA
      exact hret _ _ _ _ _ dM_sayTerm_150 (⟨hA, hz⟩) Z
    | succ d ih =>
      intro v wA H locs ls hd hA hz Z hl
      have hv4 : v < 4 := by omega
      obtain ⟨L, hL⟩ : ∃ L, L = zpv n o i (zm0 n o i c9) v := ⟨_, rfl⟩
      rw [← hL] at hA hl
      obtain ⟨e9, he9⟩ : ∃ e9, e9 = zEx n o v i := ⟨_, rfl⟩
      have he30 := zEx_30 hcfg hi hv4
      rw [← he9] at he30
      have hnx : zpv n o i (zm0 n o i c9) (v + 1) = zjoin L (zvf v e9) := by rw [hL, he9]; rfl
      have hLl : L.length ≤ 17 := by
        have h1 := zpv_len hcfg hi (zm0 n o i c9) v (by omega)
        have h2 := zfs_le hcfg hi v (by omega)
        rw [← hL] at h1
        omega
      have hLe : (out ++ L).length = out.length + L.length := List.length_append ..
      obtain ⟨hMa, hF26a, oba, h110a, hoba⟩ := id hA
      obtain ⟨h100a, ⟨hF1a, hF2a, hF3a, hF4a, hF10a⟩, ⟨hP1, hP2⟩, hcfg, ⟨dga, h101a, hdga⟩, ⟨exa, h102a, hexa⟩, ⟨ysa, h103a, hysa⟩, ⟨una, h104a, huna⟩, ⟨cla, h105a, hcla, hpBa⟩⟩ := id hMa
      refine lv_iload hx hb dM_sayTerm_41 (lv_at hl 0 rfl) ?_
      refine lv_aload_n hx hb dM_sayTerm_43 rfl (lv_at hl 3 rfl) ?_
      refine zw_get (v := .int ((upd F 26 (nI (out ++ L).length)) 2)) hx hb hT uM hown Z h100a rfl 2 (by decide) (hT _ mf_M_55) (fun _ h9 => h9) rfl dM_sayTerm_44 ?_
      refine zw_top (nI n) (hF2a) ?_
      refine lv_icmp_ge (tgt := 150) hx hb dM_sayTerm_47 (by decide) (fun hc => absurd hc (show ¬ (((nI n) : Int32) ≤ (nI v)) from nI_ge (by omega) (by omega))) (fun _ => ?_)
      refine lv_aload_n hx hb dM_sayTerm_50 rfl (lv_at hl 3 rfl) ?_
      refine zw_get (v := .ref (ad 102)) hx hb hT uM hown Z h100a rfl 7 (by decide) (hT _ mf_M_17) (fun _ h9 => h9) rfl dM_sayTerm_51 ?_
      refine lv_iconst (v := 4) hx hb dM_sayTerm_54 (by decide) ?_
      refine lv_iload_n hx hb dM_sayTerm_55 rfl (lv_at hl 5 rfl) ?_
      refine lv_imul hx hb dM_sayTerm_56 ?_
      refine zw_top (nI (4 * zKy n o i)) (pk_mul 4 _) ?_
      refine lv_iload hx hb dM_sayTerm_57 (lv_at hl 0 rfl) ?_
      refine lv_iadd hx hb dM_sayTerm_59 ?_
      refine zw_top (nI (4 * zKy n o i + v)) (nI_add _ _) ?_
      refine zw_iald hx hb Z h102a (vin (by omega) (by decide)) dM_sayTerm_60 ?_
      refine zw_top (nI e9) (by rw [ncl (by omega), he9]; exact hexa i hi v hv4) ?_
      refine lv_istore (lv' := [(6, .int (nI e9)), (5, .int (nI v)), (4, .int (zb (decide (L = [])))), (3, .int (nI c9)), (0, .ref (ad 100)), (1, .int (nI k)), (2, .int (nI (zKy n o i)))]) hx hb dM_sayTerm_61 hl (by decide) rfl (fun ls hl => ?_)
      refine lv_iload hx hb dM_sayTerm_63 (lv_at hl 0 rfl) ?_
      have tail : ∀ (f9 : Int32) (wB : Nat → Option va_E) (H : Heap) (locs : List Loc) (ls : Array Slot), f9 = zb (decide (zjoin L (zvf v e9) = [])) → zSay G ad wB P n o (upd F 26 (nI (out ++ zjoin L (zvf v e9)).length)) B (out ++ zjoin L (zvf v e9)) → zf60 w wB → zw G ad wB s H locs → lv_has ls 7 [(6, .int (nI e9)), (5, .int (nI v)), (4, .int f9), (3, .int (nI c9)), (0, .ref (ad 100)), (1, .int (nI k)), (2, .int (nI (zKy n o i)))] → W p l e (zR (3)) s m ([.ref (ad 100), .int (nI k), .int (nI (zKy n o i))] : List Value).toArray below meth c H locs (0) (0) Q (F0 m 144 ls []) := by
        intro f9 wB H locs ls hf9 hB hzB Z hl
        refine lv_iinc (v := (nI (v + 1))) (lv' := [(5, .int (nI (v + 1))), (6, .int (nI e9)), (4, .int f9), (3, .int (nI c9)), (0, .ref (ad 100)), (1, .int (nI k)), (2, .int (nI (zKy n o i)))]) hx hb dM_sayTerm_144 hl (k := 1) rfl (nI_1 v) (by decide) rfl (fun ls hl => ?_)
        refine lv_goto (tgt := 41) hx hb dM_sayTerm_147 (by decide) ?_
        exact ih (v + 1) wB _ _ ls (by omega) (by rw [hnx]; exact hB) hzB Z (by rw [hnx, ← hf9]; exact (lv_sub hl [0, 2, 3, 4, 5, 6] rfl))
      refine lv_if_ne (tgt := 71) hx hb dM_sayTerm_65 (by decide) (fun hc => ?_) (fun hc => ?_)
      · have h0 : e9 ≠ 0 := fun h9 => hc (by rw [h9]; rfl)
        refine lv_iload hx hb dM_sayTerm_71 (lv_at hl 2 rfl) ?_
        have cont : ∀ (Lb : List Nat) (wB : Nat → Option va_E) (H : Heap) (locs : List Loc), Lb = (if L = [] then [] else L ++ [42]) → zSay G ad wB P n o (upd F 26 (nI (out ++ Lb).length)) B (out ++ Lb) → zf60 w wB → zw G ad wB s H locs → W p l e (zR (3)) s m ([.ref (ad 100), .int (nI k), .int (nI (zKy n o i))] : List Value).toArray below meth c H locs (0) (0) Q (F0 m 82 ls []) := by
          intro Lb wB H locs hLb hB hzB Z
          have hLbl : Lb.length ≤ L.length + 1 := by
            rw [hLb]
            split
            · exact Nat.zero_le _
            · rw [List.length_append]; exact Nat.le_refl _
          have hLe : (out ++ Lb).length = out.length + Lb.length := List.length_append ..
          have hje := zjoin_e (L := L) (v := v) h0
          rw [← hLb] at hje
          have hjn : zb (decide (zjoin L (zvf v e9) = [])) = 0 := by rw [decide_eq_false (by rw [hje]; simp)]; rfl
          have hB100 := hB.1.1
          refine lv_iconst (v := 0) hx hb dM_sayTerm_82 (by decide) ?_
          refine lv_istore (lv' := [(4, .int 0), (6, .int (nI e9)), (5, .int (nI v)), (3, .int (nI c9)), (0, .ref (ad 100)), (1, .int (nI k)), (2, .int (nI (zKy n o i)))]) hx hb dM_sayTerm_83 hl (by decide) rfl (fun ls hl => ?_)
          refine lv_aload_n hx hb dM_sayTerm_85 rfl (lv_at hl 4 rfl) ?_
          refine lv_iload hx hb dM_sayTerm_86 (lv_at hl 2 rfl) ?_
          have name : W p l e (zR (3)) s m ([.ref (ad 100), .int (nI k), .int (nI (zKy n o i))] : List Value).toArray below meth c H locs (0) (0) Q (F0 m 120 ls [.int (nI (znm v)), .ref (ad 100)]) := by
            refine zw_callv (va_runV (As := [.int (nI (znm v))]) (rest := []) ⟨hx, hb, hml, hown, hts⟩ (c_M_say l P n o _ B _ hB (znm v) (by omega)) (kw_M_say hts ml_M_198 (zR_fit (by omega) (by omega))) (Z.preV hB100 rfl _) rfl rfl hl.1 rfl (lv_room (Nat.le_of_ble_eq_true rfl)) dM_sayTerm_120 ⟨Nat.le_of_ble_eq_true rfl, Nat.le_of_ble_eq_true rfl⟩) Z (fun wC H locs hp Z => ?_)
            rw [upd_upd] at hp
            obtain ⟨hC, hzC⟩ := hp
            have hzC := hzB.trans hzC
            have hC100 := hC.1.1
            have hLeC : (out ++ Lb ++ [znm v]).length = out.length + Lb.length + 1 := by rw [List.length_append, hLe]; rfl
            refine lv_iload hx hb dM_sayTerm_123 (lv_at hl 1 rfl) ?_
            refine lv_iconst (v := 2) hx hb dM_sayTerm_125 (by decide) ?_
            refine lv_icmp_ge (tgt := 132) hx hb dM_sayTerm_126 (by decide) (fun hc3 => ?_) (fun hc3 => ?_)
            · have h1 : 1 < e9 := (nI_leI (a := 2) (by decide) (by omega)).mp hc3
              rw [if_pos h1] at hje
              have hd5 := zdig_len e9
              refine lv_aload_n hx hb dM_sayTerm_132 rfl (lv_at hl 4 rfl) ?_
              refine lv_bipush (v := 94) hx hb dM_sayTerm_133 (by decide) ?_
              refine zw_callv (va_runV (As := [.int 94]) (rest := []) ⟨hx, hb, hml, hown, hts⟩ (c_M_say l P n o _ B _ hC 94 (by omega)) (kw_M_say hts ml_M_198 (zR_fit (by omega) (by omega))) (Z.preV hC100 rfl _) rfl rfl hl.1 rfl (lv_room (Nat.le_of_ble_eq_true rfl)) dM_sayTerm_135 ⟨Nat.le_of_ble_eq_true rfl, Nat.le_of_ble_eq_true rfl⟩) Z (fun wD H locs hp Z => ?_)
              rw [upd_upd] at hp
              obtain ⟨hDd, hzD⟩ := hp
              have hzD := hzC.trans hzD
              have hD100 := hDd.1.1
              refine lv_aload_n hx hb dM_sayTerm_138 rfl (lv_at hl 4 rfl) ?_
              refine lv_iload hx hb dM_sayTerm_139 (lv_at hl 1 rfl) ?_
              refine zw_callv (va_runV (As := [.int (nI e9)]) (rest := []) ⟨hx, hb, hml, hown, hts⟩ (c_M_sayNumber l P n o _ B _ hDd e9 (by omega) (by rw [List.length_append, hLeC]; show out.length + Lb.length + 1 + 1 + 5 < 3999; omega)) (kw_M_sayNumber hts ml_M_201 (zR_fit (by omega) (by omega))) (Z.preV hD100 rfl _) rfl rfl hl.1 rfl (lv_room (Nat.le_of_ble_eq_true rfl)) dM_sayTerm_141 ⟨Nat.le_of_ble_eq_true rfl, Nat.le_of_ble_eq_true rfl⟩) Z (fun wE H locs hp Z => ?_)
              rw [upd_upd] at hp
              have hjoin : out ++ Lb ++ [znm v] ++ [94] ++ zdig e9 = out ++ zjoin L (zvf v e9) := by rw [hje]; simp
              rw [hjoin] at hp
              exact tail 0 wE _ _ ls hjn.symm hp.1 (hzD.trans hp.2) Z (lv_sub hl [1, 2, 0, 3, 4, 5, 6] rfl)
            · have h1 : ¬ 1 < e9 := fun h9 => hc3 (nI_le (a := 2) (by omega) (by omega))
              have hjoin : out ++ Lb ++ [znm v] = out ++ zjoin L (zvf v e9) := by rw [hje, if_neg h1, List.append_nil, List.append_assoc]
              rw [hjoin] at hC
              refine lv_goto (tgt := 144) hx hb dM_sayTerm_129 (by decide) ?_
              exact tail 0 wC _ _ ls hjn.symm hC hzC Z (lv_sub hl [1, 2, 0, 3, 4, 5, 6] rfl)
          refine lv_if_ne (tgt := 96) hx hb dM_sayTerm_88 (by decide) (fun hc4 => ?_) (fun hc4 => ?_)
          · refine lv_iload hx hb dM_sayTerm_96 (lv_at hl 2 rfl) ?_
            refine lv_iconst (v := 1) hx hb dM_sayTerm_98 (by decide) ?_
            refine lv_icmp_ne (tgt := 107) hx hb dM_sayTerm_99 (by decide) (fun hc5 => ?_) (fun hc5 => ?_)
            · refine lv_iload hx hb dM_sayTerm_107 (lv_at hl 2 rfl) ?_
              refine lv_iconst (v := 2) hx hb dM_sayTerm_109 (by decide) ?_
              refine lv_icmp_ne (tgt := 118) hx hb dM_sayTerm_110 (by decide) (fun hc6 => ?_) (fun hc6 => ?_)
              · have hv3 : v = 3 := by
                  have a0 : v ≠ 0 := fun h9 => hc4 (by rw [h9]; rfl)
                  have a1 : v ≠ 1 := fun h9 => hc5 (by rw [h9]; rfl)
                  have a2 : v ≠ 2 := fun h9 => hc6 (by rw [h9]; rfl)
                  omega
                refine lv_bipush (v := 119) hx hb dM_sayTerm_118 (by decide) ?_
                exact (by rw [show znm v = 119 from by rw [hv3]; rfl] at name; exact name)
              · have hv2 : v = 2 := (nI_eq (b := 2) (by omega) (by decide)).mp hc6
                refine lv_bipush (v := 122) hx hb dM_sayTerm_113 (by decide) ?_
                refine lv_goto (tgt := 120) hx hb dM_sayTerm_115 (by decide) ?_
                exact (by rw [show znm v = 122 from by rw [hv2]; rfl] at name; exact name)
            · have hv1 : v = 1 := (nI_eq (b := 1) (by omega) (by decide)).mp hc5
              refine lv_bipush (v := 121) hx hb dM_sayTerm_102 (by decide) ?_
              refine lv_goto (tgt := 120) hx hb dM_sayTerm_104 (by decide) ?_
              exact (by rw [show znm v = 121 from by rw [hv1]; rfl] at name; exact name)
          · have hv0 : v = 0 := (nI_eq (b := 0) (by omega) (by decide)).mp hc4
            refine lv_bipush (v := 120) hx hb dM_sayTerm_91 (by decide) ?_
            refine lv_goto (tgt := 120) hx hb dM_sayTerm_93 (by decide) ?_
            exact (by rw [show znm v = 120 from by rw [hv0]; rfl] at name; exact name)
        refine lv_if_ne (tgt := 82) hx hb dM_sayTerm_73 (by decide) (fun hc2 => ?_) (fun hc2 => ?_)
        · have hLn : L = [] := by
            apply Classical.byContradiction
            intro h9
            rw [decide_eq_false h9] at hc2
            exact hc2 rfl
          exact cont [] wA _ _ (by rw [if_pos hLn]) (by rw [hLn] at hA; exact hA) hz Z
        · have hLn : ¬ L = [] := fun h9 => by rw [decide_eq_true h9] at hc2; exact absurd hc2 (by decide)
          refine lv_aload_n hx hb dM_sayTerm_76 rfl (lv_at hl 4 rfl) ?_
          refine lv_bipush (v := 42) hx hb dM_sayTerm_77 (by decide) ?_
          refine zw_callv (va_runV (As := [.int 42]) (rest := []) ⟨hx, hb, hml, hown, hts⟩ (c_M_say l P n o _ B _ hA 42 (by omega)) (kw_M_say hts ml_M_198 (zR_fit (by omega) (by omega))) (Z.preV h100a rfl _) rfl rfl hl.1 rfl (lv_room (Nat.le_of_ble_eq_true rfl)) dM_sayTerm_79 ⟨Nat.le_of_ble_eq_true rfl, Nat.le_of_ble_eq_true rfl⟩) Z (fun wB H locs hp Z => ?_)
          rw [upd_upd] at hp
          rw [List.append_assoc] at hp
          exact cont (L ++ [42]) wB _ _ (by rw [if_neg hLn]) hp.1 (hz.trans hp.2) Z
      · have h0 : e9 = 0 := nI_z (by omega) hc
        refine lv_goto (tgt := 144) hx hb dM_sayTerm_68 (by decide) ?_
        exact tail _ wA _ _ ls (by rw [zjoin_0 h0]) (by rw [zjoin_0 h0]; exact hA) hz Z (lv_sub hl [0, 1, 2, 3, 4, 5, 6] rfl)
  have head : ∀ (ls : Array Slot), lv_has ls 7 [(4, .int (zb (decide (zm0 n o i c9 = [])))), (3, .int (nI c9)), (0, .ref (ad 100)), (1, .int (nI k)), (2, .int (nI (zKy n o i)))] → W p l e (zR (3)) s m ([.ref (ad 100), .int (nI k), .int (nI (zKy n o i))] : List Value).toArray below meth c H locs (0) (0) Q (F0 m 28 ls []) := by
    intro ls hl
    refine lv_iload hx hb dM_sayTerm_28 (lv_at hl 0 rfl) ?_
    refine lv_if_ne (tgt := 38) hx hb dM_sayTerm_30 (by decide) (fun hc => ?_) (fun hc => ?_)
    · have hn : zm0 n o i c9 = [] := by
        apply Classical.byContradiction
        intro h9
        rw [decide_eq_false h9] at hc
        exact hc rfl
      refine lv_iconst (v := 0) hx hb dM_sayTerm_38 (by decide) ?_
      refine lv_istore (lv' := [(5, .int 0), (4, .int (zb (decide (zm0 n o i c9 = [])))), (3, .int (nI c9)), (0, .ref (ad 100)), (1, .int (nI k)), (2, .int (nI (zKy n o i)))]) hx hb dM_sayTerm_39 hl (by decide) rfl (fun ls hl => ?_)
      exact loop n 0 w _ _ ls (by omega) (by rw [show zpv n o i (zm0 n o i c9) 0 = [] from hn, List.append_nil, upd_same hF26]; exact hS) (zf60.rfl' w) Z (lv_sub hl [0, 1, 2, 3, 4, 5] rfl)
    · have hn : ¬ zm0 n o i c9 = [] := fun h9 => by rw [decide_eq_true h9] at hc; exact absurd hc (by decide)
      have hz0 : zm0 n o i c9 = zdig c9 := by
        unfold zm0 at hn ⊢
        split
        · next h9 => rw [if_pos h9] at hn; exact absurd rfl hn
        · rfl
      refine lv_aload_n hx hb dM_sayTerm_33 rfl (lv_at hl 2 rfl) ?_
      refine lv_iload_n hx hb dM_sayTerm_34 rfl (lv_at hl 1 rfl) ?_
      refine zw_callv (va_runV (As := [.int (nI c9)]) (rest := []) ⟨hx, hb, hml, hown, hts⟩ (c_M_sayNumber l P n o F B out hS c9 (by omega) (by omega)) (kw_M_sayNumber hts ml_M_201 (zR_fit (by omega) (by omega))) (Z.preV h100 rfl _) rfl rfl hl.1 rfl (lv_room (Nat.le_of_ble_eq_true rfl)) dM_sayTerm_35 ⟨Nat.le_of_ble_eq_true rfl, Nat.le_of_ble_eq_true rfl⟩) Z (fun w1 H locs hp Z => ?_)
      refine lv_iconst (v := 0) hx hb dM_sayTerm_38 (by decide) ?_
      refine lv_istore (lv' := [(5, .int 0), (4, .int (zb (decide (zm0 n o i c9 = [])))), (3, .int (nI c9)), (0, .ref (ad 100)), (1, .int (nI k)), (2, .int (nI (zKy n o i)))]) hx hb dM_sayTerm_39 hl (by decide) rfl (fun ls hl => ?_)
      exact loop n 0 w1 _ _ ls (by omega) (by rw [show zpv n o i (zm0 n o i c9) 0 = zdig c9 from hz0]; exact hp.1) hp.2 Z (lv_sub hl [0, 1, 2, 3, 4, 5] rfl)
  refine lv_iload_n hx hb dM_sayTerm_7 rfl (lv_at hl 0 rfl) ?_
  refine lv_iconst (v := 1) hx hb dM_sayTerm_8 (by decide) ?_
  refine lv_icmp_ne (tgt := 25) hx hb dM_sayTerm_9 (by decide) (fun hc => ?_) (fun hc => ?_)
  · refine lv_iconst (v := 0) hx hb dM_sayTerm_25 (by decide) ?_
    refine lv_istore (lv' := [(4, .int 0), (3, .int (nI c9)), (0, .ref (ad 100)), (1, .int (nI k)), (2, .int (nI (zKy n o i)))]) hx hb dM_sayTerm_26 hl (by decide) rfl (fun ls hl => ?_)
    exact head ls (by rw [decide_eq_false (show ¬ zm0 n o i c9 = [] from by unfold zm0; rw [if_neg (fun h9 => hc (by rw [h9.1]; rfl))]; exact zdig_pos c9)]; exact hl)
  · have h1 : c9 = 1 := (nI_eq (b := 1) (by omega) (by decide)).mp hc
    refine lv_aload_n hx hb dM_sayTerm_12 rfl (lv_at hl 1 rfl) ?_
    refine zw_get (v := .ref (ad 101)) hx hb hT uM hown Z h100 rfl 6 (by decide) (hT _ mf_M_13) (fun _ h9 => h9) rfl dM_sayTerm_13 ?_
    refine lv_iload_n hx hb dM_sayTerm_16 rfl (lv_at hl 3 rfl) ?_
    refine zw_iald hx hb Z h101 (vin (by omega) (by decide)) dM_sayTerm_17 ?_
    refine zw_top (nI (zDg n o i)) (by rw [ncl (by omega)]; exact hdg i hi) ?_
    refine lv_if_le (tgt := 25) hx hb dM_sayTerm_18 (by decide) (fun hc2 => ?_) (fun hc2 => ?_)
    · refine lv_iconst (v := 0) hx hb dM_sayTerm_25 (by decide) ?_
      refine lv_istore (lv' := [(4, .int 0), (3, .int (nI c9)), (0, .ref (ad 100)), (1, .int (nI k)), (2, .int (nI (zKy n o i)))]) hx hb dM_sayTerm_26 hl (by decide) rfl (fun ls hl => ?_)
      exact head ls (by rw [decide_eq_false (show ¬ zm0 n o i c9 = [] from by unfold zm0; rw [if_neg (fun h9 => nI_nle h9.2 (by omega) hc2)]; exact zdig_pos c9)]; exact hl)
    · refine lv_iconst (v := 1) hx hb dM_sayTerm_21 (by decide) ?_
      refine lv_goto (tgt := 26) hx hb dM_sayTerm_22 (by decide) ?_
      refine lv_istore (lv' := [(4, .int 1), (3, .int (nI c9)), (0, .ref (ad 100)), (1, .int (nI k)), (2, .int (nI (zKy n o i)))]) hx hb dM_sayTerm_26 hl (by decide) rfl (fun ls hl => ?_)
      exact head ls (by rw [decide_eq_true (show zm0 n o i c9 = [] from by unfold zm0; rw [if_pos ⟨h1, Nat.pos_of_ne_zero (fun h9 => hc2 (by rw [h9]; decide))⟩])]; exact hl)

set_option maxHeartbeats 4000000 in
set_option maxRecDepth 100000 in
theorem c_M_print (l : Launch) {G : zG} {ad : Nat → Nat} {w : Nat → Option va_E} (P n o : Nat) (A : Nat → Nat → Nat) (T : Nat → Nat) (len : Nat) (flt pl : Int32) (out : List Nat) (thr : Int32) (hD : zMd G ad w P n o A T len flt pl out thr) (a : Int32) : Met l yM_print wM_print (zR (4)) (va_Pc [.ref (ad 100), .int a] (zw_U G ad w)) (va_Qi (S := Nat → Option va_E) (fun r w' => (zip8 a = true ∧ r = nI (zprint n o (A a.toNatClampNeg)).length ∧ zMd G ad w' P n o (A) (T) (len) (flt) (pl) (zprint n o (A a.toNatClampNeg)) (0) ∨ zip8 a = false ∧ zMd G ad w' P n o (A) (T) (len) (flt) (pl) (out) (1)) ∧ zfm w w') (fun u t => zw_U G ((fun _ => ad) u) ((fun w' => w') u) t) (zA G)) 0 0 (zA G) := by
  refine zw_methi (S := Nat → Option va_E) (fa := fun _ => ad) (fw := fun w' => w') (by decide) rfl (Nat.le_of_ble_eq_true rfl) ?_
  intro p e s m below meth c Q ls C hname Z hl hret
  obtain ⟨hx, hb, hml, hown, hts, hlk⟩ := C
  have hT : ∀ w ∈ zT, w.before ([.ref (ad 100), .int a] : List Value).toArray s = true := fun w h => hts w (List.mem_cons_of_mem _ h)
  have hown : s.vm.findClass "PolynomialDeskModel" = some m.cls := hown
  have hl : lv_has ls 3 [(0, .ref (ad 100)), (1, .int a)] := hl
  obtain ⟨F, B, hM, hBA, ⟨hF0, hF13, hF14, hF15, hF26⟩, hMt⟩ := id hD
  obtain ⟨h100, ⟨hF1, hF2, hF3, hF4, hF10⟩, ⟨hP1, hP2⟩, hcfg, ⟨dg, h101, hdg⟩, ⟨ex, h102, hex⟩, ⟨ys, h103, hys⟩, ⟨un, h104, hun⟩, ⟨cl, h105, hcl, hpB⟩⟩ := id hM
  have hct := zCt_le (n := n)
  refine lv_aload_n hx hb dM_print_0 rfl (lv_at hl 0 rfl) ?_
  refine lv_iload_n hx hb dM_print_1 rfl (lv_at hl 1 rfl) ?_
  refine lv_iload_n hx hb dM_print_2 rfl (lv_at hl 1 rfl) ?_
  refine lv_iconst (v := 0) hx hb dM_print_3 (by decide) ?_
  show W p l e (zR (4)) s m ([.ref (ad 100), .int a] : List Value).toArray below meth c s.heap [] (0) (0) Q (F0 m 4 ls [.int (zb false), .int a, .int a, .ref (ad 100)])
  refine zw_calli (va_runV (As := [.int a, .int a, .int (zb false)]) (rest := []) ⟨hx, hb, hml, hown, hts⟩ (c_M_lacks l P n o F B hM a a (false)) (kw_M_lacks hts ml_M_188 (zR_fit (by omega) (by omega))) (Z.preV h100 rfl _) rfl rfl hl.1 rfl (lv_room (Nat.le_of_ble_eq_true rfl)) dM_print_4 ⟨Nat.le_of_ble_eq_true rfl, Nat.le_of_ble_eq_true rfl⟩) Z (fun r w1 H locs hp Z => ?_)
  obtain ⟨rfl, hw1⟩ := hp
  subst hw1
  refine lv_if_eq (tgt := 12) hx hb dM_print_7 (by decide) (fun hc => ?_) (fun hc => ?_)
  · obtain ⟨hza, -, -⟩ := zlk_f (zb_f hc)
    rw [zb_f hc] at Z
    have Z : zw G ad (va_up w 100 (some (oM ad (upd F 0 0)))) s H locs := Z
    have hM0 : zMod G ad (va_up w 100 (some (oM ad (upd F 0 0)))) P n o (upd F 0 0) B := hM.put (by decide)
    have h1001 := hM0.1
    obtain ⟨ja, hja, rfl⟩ := zip8_ok hza
    rw [ncl (show ja < 2 ^ 31 by omega), ← hBA ja hja] at hret
    obtain ⟨-, -, -, -, -, -, ⟨ob, h110, hob⟩, hol⟩ := id hMt
    refine lv_aload_n hx hb dM_print_12 rfl (lv_at hl 0 rfl) ?_
    refine lv_iconst (v := 0) hx hb dM_print_13 (by decide) ?_
    refine zw_put (v := .int 0) hx hb hT uM hown tM tM_ok nM Z h1001 rfl 26 (by decide) (hT _ mf_M_74) (fun _ h9 => h9) rfl rfl rfl (by simp) dM_print_14 (fun H locs Z => ?_)
    have Z : zw G ad (va_up (va_up w 100 (some (oM ad (upd F 0 0)))) 100 (some (oM ad (upd (upd F 0 0) 26 0)))) s H locs := Z
    have hM1 : zMod G ad (va_up (va_up w 100 (some (oM ad (upd F 0 0)))) 100 (some (oM ad (upd (upd F 0 0) 26 0)))) P n o (upd (upd F 0 0) 26 0) _ := hM0.put (by decide)
    have hS1 : zSay G ad (va_up (va_up w 100 (some (oM ad (upd F 0 0)))) 100 (some (oM ad (upd (upd F 0 0) 26 0)))) P n o (upd (upd F 0 0) 26 0) B [] := ⟨hM1, rfl, ob, by rw [va_up_ne _ _ (by decide), va_up_ne _ _ (by decide)]; exact h110, fun i hi => absurd hi (Nat.not_lt_zero _)⟩
    refine lv_iconst (v := 0) hx hb dM_print_17 (by decide) ?_
    refine lv_istore_n (lv' := [(2, .int 0), (0, .ref (ad 100)), (1, .int (nI ja))]) hx hb dM_print_18 rfl hl (by decide) rfl (fun ls hl => ?_)
    have loop : ∀ (d j : Nat) (wA : Nat → Option va_E) (H : Heap) (locs : List Loc) (ls : Array Slot), d + j = zCt n → zSay G ad wA P n o (upd (upd F 0 0) 26 (nI (zpr n o (B ja) j).length)) B (zpr n o (B ja) j) → zf60 w wA → zw G ad wA s H locs → lv_has ls 3 [(2, .int (nI j)), (0, .ref (ad 100)), (1, .int (nI ja))] → W p l e (zR (4)) s m ([.ref (ad 100), .int (nI ja)] : List Value).toArray below meth c H locs (0) (0) Q (F0 m 19 ls []) := by
      intro d
      induction d with
      | zero =>
        intro j wA H locs ls hd hA hz Z hl
        have hjc : j = zCt n := by omega
        have hln := zpr_len hcfg (B ja) j (by omega)
        obtain ⟨hMa, hF26a, oba, h110a, hoba⟩ := id hA
        obtain ⟨h100a, ⟨hF1a, hF2a, hF3a, hF4a, hF10a⟩, ⟨hP1, hP2⟩, hcfg, ⟨dga, h101a, hdga⟩, ⟨exa, h102a, hexa⟩, ⟨ysa, h103a, hysa⟩, ⟨una, h104a, huna⟩, ⟨cla, h105a, hcla, hpBa⟩⟩ := id hMa
        refine lv_iload_n hx hb dM_print_19 rfl (lv_at hl 0 rfl) ?_
        refine lv_aload_n hx hb dM_print_20 rfl (lv_at hl 1 rfl) ?_
        refine zw_get (v := .int ((upd (upd F 0 0) 26 (nI (zpr n o (B ja) j).length)) 10)) hx hb hT uM hown Z h100a rfl 10 (by decide) (hT _ mf_M_67) (fun _ h9 => h9) rfl dM_print_21 ?_
        refine zw_top (nI (zCt n)) (hF10a) ?_
        refine lv_icmp_ge (tgt := 74) hx hb dM_print_24 (by decide) (fun _ => ?_) (fun hc => absurd (show ((nI (zCt n)) : Int32) ≤ (nI j) from nI_le (by omega) (by omega)) hc)
        refine lv_aload_n hx hb dM_print_74 rfl (lv_at hl 1 rfl) ?_
        refine zw_get (v := .int ((upd (upd F 0 0) 26 (nI (zpr n o (B ja) j).length)) 26)) hx hb hT uM hown Z h100a rfl 26 (by decide) (hT _ mf_M_74) (fun _ h9 => h9) rfl dM_print_75 ?_
        refine zw_top (nI (zpr n o (B ja) j).length) (hF26a) ?_
        refine lv_if_ne (tgt := 87) hx hb dM_print_78 (by decide) (fun hc2 => ?_) (fun hc2 => ?_)
        · have hne : ¬ zpr n o (B ja) (zCt n) = [] := fun h9 => hc2 (by rw [hjc, h9]; rfl)
          have hpe : zprint n o (B ja) = zpr n o (B ja) j := by rw [hjc]; exact if_neg hne
          rw [hpe] at hret
          have hpl := zprint_len hcfg (B ja)
          rw [hpe] at hpl
          refine lv_aload_n hx hb dM_print_87 rfl (lv_at hl 1 rfl) ?_
          refine zw_get (v := .int ((upd (upd F 0 0) 26 (nI (zpr n o (B ja) j).length)) 26)) hx hb hT uM hown Z h100a rfl 26 (by decide) (hT _ mf_M_74) (fun _ h9 => h9) rfl dM_print_88 ?_
          refine zw_top (nI (zpr n o (B ja) j).length) (hF26a) ?_
          exact hret _ _ _ _ _ _ dM_print_91 (⟨Or.inl ⟨hza, rfl, _, B, hA.1, hBA, ⟨rfl, hF13, hF14, hF15, hA.2.1⟩, (by
            obtain ⟨q1, q2, q3, q4, q5, q6, -, -⟩ := hMt
            obtain ⟨o9, ho1, ho2⟩ := hA.2.2
            exact ⟨by rw [hz _ (by decide) (by decide)]; exact q1, q2, q3, by rw [hz _ (by decide) (by decide)]; exact q4, by rw [hz _ (by decide) (by decide)]; exact q5, by rw [hz _ (by decide) (by decide)]; exact q6, ⟨o9, ho1, ho2⟩, hpl⟩)⟩, fun k hk => hz k (by omega) (by omega)⟩) Z
        · have hn0 : zpr n o (B ja) j = [] := List.length_eq_zero_iff.mp ((nI_eq (b := 0) (by omega) (by decide)).mp hc2)
          have hpe : zprint n o (B ja) = [48] := if_pos (by rw [← hjc]; exact hn0)
          rw [hpe] at hret
          rw [hn0] at hA
          refine lv_aload_n hx hb dM_print_81 rfl (lv_at hl 1 rfl) ?_
          refine lv_bipush (v := 48) hx hb dM_print_82 (by decide) ?_
          refine zw_callv (va_runV (As := [.int 48]) (rest := []) ⟨hx, hb, hml, hown, hts⟩ (c_M_say l P n o _ B [] hA 48 (by decide)) (kw_M_say hts ml_M_198 (zR_fit (by omega) (by omega))) (Z.preV h100a rfl _) rfl rfl hl.1 rfl (lv_room (Nat.le_of_ble_eq_true rfl)) dM_print_84 ⟨Nat.le_of_ble_eq_true rfl, Nat.le_of_ble_eq_true rfl⟩) Z (fun wB H locs hp Z => ?_)
          rw [upd_upd] at hp
          obtain ⟨hB, hzB⟩ := hp
          have hzB := hz.trans hzB
          have hB100 := hB.1.1
          refine lv_aload_n hx hb dM_print_87 rfl (lv_at hl 1 rfl) ?_
          refine zw_get (v := .int ((upd (upd F 0 0) 26 (nI ([] ++ [48] : List Nat).length)) 26)) hx hb hT uM hown Z hB100 rfl 26 (by decide) (hT _ mf_M_74) (fun _ h9 => h9) rfl dM_print_88 ?_
          refine zw_top (nI 1) (rfl) ?_
          exact hret _ _ _ _ _ _ dM_print_91 (⟨Or.inl ⟨hza, rfl, _, B, hB.1, hBA, ⟨rfl, hF13, hF14, hF15, hB.2.1⟩, (by
            obtain ⟨q1, q2, q3, q4, q5, q6, -, -⟩ := hMt
            obtain ⟨o9, ho1, ho2⟩ := hB.2.2
            exact ⟨by rw [hzB _ (by decide) (by decide)]; exact q1, q2, q3, by rw [hzB _ (by decide) (by decide)]; exact q4, by rw [hzB _ (by decide) (by decide)]; exact q5, by rw [hzB _ (by decide) (by decide)]; exact q6, ⟨o9, ho1, ho2⟩, by decide⟩)⟩, fun k hk => hzB k (by omega) (by omega)⟩) Z
      | succ d ih =>
        intro j wA H locs ls hd hA hz Z hl
        have hjc : j < zCt n := by omega
        have hln := zpr_len hcfg (B ja) j (by omega)
        have hAj := (hpB ja).1 j
        obtain ⟨hMa, hF26a, oba, h110a, hoba⟩ := id hA
        obtain ⟨h100a, ⟨hF1a, hF2a, hF3a, hF4a, hF10a⟩, ⟨hP1, hP2⟩, hcfg, ⟨dga, h101a, hdga⟩, ⟨exa, h102a, hexa⟩, ⟨ysa, h103a, hysa⟩, ⟨una, h104a, huna⟩, ⟨cla, h105a, hcla, hpBa⟩⟩ := id hMa
        refine lv_iload_n hx hb dM_print_19 rfl (lv_at hl 0 rfl) ?_
        refine lv_aload_n hx hb dM_print_20 rfl (lv_at hl 1 rfl) ?_
        refine zw_get (v := .int ((upd (upd F 0 0) 26 (nI (zpr n o (B ja) j).length)) 10)) hx hb hT uM hown Z h100a rfl 10 (by decide) (hT _ mf_M_67) (fun _ h9 => h9) rfl dM_print_21 ?_
        refine zw_top (nI (zCt n)) (hF10a) ?_
        refine lv_icmp_ge (tgt := 74) hx hb dM_print_24 (by decide) (fun hc => absurd hc (show ¬ (((nI (zCt n)) : Int32) ≤ (nI j)) from nI_ge (by omega) (by omega))) (fun _ => ?_)
        refine lv_aload_n hx hb dM_print_27 rfl (lv_at hl 1 rfl) ?_
        refine lv_iload_n hx hb dM_print_28 rfl (lv_at hl 2 rfl) ?_
        refine lv_aload_n hx hb dM_print_29 rfl (lv_at hl 1 rfl) ?_
        refine zw_get (v := .ref (ad 103)) hx hb hT uM hown Z h100a rfl 8 (by decide) (hT _ mf_M_20) (fun _ h9 => h9) rfl dM_print_30 ?_
        refine lv_iload_n hx hb dM_print_33 rfl (lv_at hl 0 rfl) ?_
        refine zw_iald hx hb Z h103a (vin (by omega) (by decide)) dM_print_34 ?_
        refine zw_top (nI (zKy n o j)) (by rw [ncl (by omega)]; exact hysa j (by omega)) ?_
        refine zw_calli (va_runV (As := [.int (nI ja), .int (nI (zKy n o j))]) (rest := []) ⟨hx, hb, hml, hown, hts⟩ (c_M_cell l P n o _ B hMa ja j (by omega) hjc) (kw_M_cell hts ml_M_88 (zR_fit (by omega) (by omega))) (Z.preV h100a rfl _) rfl rfl hl.1 rfl (lv_room (Nat.le_of_ble_eq_true rfl)) dM_print_35 ⟨Nat.le_of_ble_eq_true rfl, Nat.le_of_ble_eq_true rfl⟩) Z (fun r wq H locs hp Z => ?_)
        obtain ⟨rfl, hw1⟩ := hp
        rw [hw1] at Z
        clear hw1
        have tail : ∀ (wB : Nat → Option va_E) (H : Heap) (locs : List Loc), zSay G ad wB P n o (upd (upd F 0 0) 26 (nI (zpr n o (B ja) (j + 1)).length)) B (zpr n o (B ja) (j + 1)) → zf60 w wB → zw G ad wB s H locs → W p l e (zR (4)) s m ([.ref (ad 100), .int (nI ja)] : List Value).toArray below meth c H locs (0) (0) Q (F0 m 68 ls []) := by
          intro wB H locs hB hzB Z
          refine lv_iinc (v := (nI (j + 1))) (lv' := [(2, .int (nI (j + 1))), (0, .ref (ad 100)), (1, .int (nI ja))]) hx hb dM_print_68 hl (k := 0) rfl (nI_1 j) (by decide) rfl (fun ls hl => ?_)
          refine lv_goto (tgt := 19) hx hb dM_print_71 (by decide) ?_
          exact ih (j + 1) wB _ _ ls (by omega) hB hzB Z (lv_sub hl [0, 1, 2] rfl)
        refine lv_if_ne (tgt := 44) hx hb dM_print_38 (by decide) (fun hc2 => ?_) (fun hc2 => ?_)
        · have h0 : ¬ B ja j = 0 := fun h9 => hc2 (by rw [h9]; rfl)
          refine lv_aload_n hx hb dM_print_44 rfl (lv_at hl 1 rfl) ?_
          refine zw_get (v := .int ((upd (upd F 0 0) 26 (nI (zpr n o (B ja) j).length)) 26)) hx hb hT uM hown Z h100a rfl 26 (by decide) (hT _ mf_M_74) (fun _ h9 => h9) rfl dM_print_45 ?_
          refine zw_top (nI (zpr n o (B ja) j).length) (hF26a) ?_
          have cont : ∀ (L : List Nat) (wB : Nat → Option va_E) (H : Heap) (locs : List Loc), L ++ zpt n o j (B ja j) = zpr n o (B ja) (j + 1) → L.length ≤ 18 * j + 1 → zSay G ad wB P n o (upd (upd F 0 0) 26 (nI L.length)) B L → zf60 w wB → zw G ad wB s H locs → W p l e (zR (4)) s m ([.ref (ad 100), .int (nI ja)] : List Value).toArray below meth c H locs (0) (0) Q (F0 m 57 ls []) := by
            intro L wB H locs hL hLl hB hzB Z
            obtain ⟨hMb, hF26b, obb, h110b, hobb⟩ := id hB
            obtain ⟨h100b, ⟨hF1b, hF2b, hF3b, hF4b, hF10b⟩, ⟨hP1, hP2⟩, hcfg, ⟨dgb, h101b, hdgb⟩, ⟨exb, h102b, hexb⟩, ⟨ysb, h103b, hysb⟩, ⟨unb, h104b, hunb⟩, ⟨clb, h105b, hclb, hpBb⟩⟩ := id hMb
            refine lv_aload_n hx hb dM_print_57 rfl (lv_at hl 1 rfl) ?_
            refine lv_iload_n hx hb dM_print_58 rfl (lv_at hl 2 rfl) ?_
            refine lv_aload_n hx hb dM_print_59 rfl (lv_at hl 1 rfl) ?_
            refine zw_get (v := .ref (ad 103)) hx hb hT uM hown Z h100b rfl 8 (by decide) (hT _ mf_M_20) (fun _ h9 => h9) rfl dM_print_60 ?_
            refine lv_iload_n hx hb dM_print_63 rfl (lv_at hl 0 rfl) ?_
            refine zw_iald hx hb Z h103b (vin (by omega) (by decide)) dM_print_64 ?_
            refine zw_top (nI (zKy n o j)) (by rw [ncl (by omega)]; exact hysb j (by omega)) ?_
            refine zw_callv (va_runV (As := [.int (nI ja), .int (nI (zKy n o j))]) (rest := []) ⟨hx, hb, hml, hown, hts⟩ (c_M_sayTerm l P n o _ B L hB ja j (by omega) hjc (by omega)) (kw_M_sayTerm hts ml_M_204 (zR_fit (by omega) (by omega))) (Z.preV h100b rfl _) rfl rfl hl.1 rfl (lv_room (Nat.le_of_ble_eq_true rfl)) dM_print_65 ⟨Nat.le_of_ble_eq_true rfl, Nat.le_of_ble_eq_true rfl⟩) Z (fun wC H locs hp Z => ?_)
            rw [upd_upd, hL] at hp
            exact tail wC _ _ hp.1 (hzB.trans hp.2) Z
          refine lv_if_le (tgt := 57) hx hb dM_print_48 (by decide) (fun hc3 => ?_) (fun hc3 => ?_)
          · have hn : zpr n o (B ja) j = [] := by
              apply Classical.byContradiction
              intro h9
              have h8 : 0 < (zpr n o (B ja) j).length := List.length_pos_iff.mpr h9
              exact nI_nle h8 (by omega) hc3
            exact cont (zpr n o (B ja) j) wA _ _ (by rw [hn, zpr, if_neg h0, if_pos hn]; rfl) (by omega) hA hz Z
          · have hn : ¬ zpr n o (B ja) j = [] := fun h9 => hc3 (by rw [h9]; decide)
            refine lv_aload_n hx hb dM_print_51 rfl (lv_at hl 1 rfl) ?_
            refine lv_bipush (v := 43) hx hb dM_print_52 (by decide) ?_
            refine zw_callv (va_runV (As := [.int 43]) (rest := []) ⟨hx, hb, hml, hown, hts⟩ (c_M_say l P n o _ B _ hA 43 (by omega)) (kw_M_say hts ml_M_198 (zR_fit (by omega) (by omega))) (Z.preV h100a rfl _) rfl rfl hl.1 rfl (lv_room (Nat.le_of_ble_eq_true rfl)) dM_print_54 ⟨Nat.le_of_ble_eq_true rfl, Nat.le_of_ble_eq_true rfl⟩) Z (fun wB H locs hp Z => ?_)
            rw [upd_upd] at hp
            exact cont (zpr n o (B ja) j ++ [43]) wB _ _ (by rw [zpr, if_neg h0, if_neg hn, List.append_assoc]; rfl) (by rw [List.length_append]; show _ + 1 ≤ _; omega) hp.1 (hz.trans hp.2) Z
        · have h0 : B ja j = 0 := nI_z (by omega) hc2
          refine lv_goto (tgt := 68) hx hb dM_print_41 (by decide) ?_
          exact tail wA _ _ (by rw [zpr, if_pos h0]; exact hA) hz Z
    exact loop (zCt n) 0 _ _ _ ls (by omega) hS1 (fun k h1 h2 => by rw [va_up_ne _ _ h1, va_up_ne _ _ h1]) Z (lv_sub hl [0, 1, 2] rfl)
  · have hzl := zb_t hc
    rw [hzl] at Z
    have hM0 : zMod G ad (va_up w 100 (some (oM ad (upd F 0 1)))) P n o (upd F 0 1) B := hM.put (by decide)
    refine lv_iconst (v := 0) hx hb dM_print_10 (by decide) ?_
    exact hret _ _ _ _ _ _ dM_print_11 (⟨Or.inr ⟨by
      cases h9 : zip8 a with
      | false => rfl
      | true => exact absurd ⟨h9, h9, rfl⟩ (zlk_t hzl), _, B, hM0, hBA, ⟨rfl, hF13, hF14, hF15, hF26⟩, hMt.put⟩, zfm.up (by decide)⟩) Z
