theorem upd_nI (A : Nat → Nat) (k v : Nat) : upd (fun j => nI (A j)) k (nI v) = fun j => nI (va_up A k v j) := by
  funext j
  by_cases h : j = k
  · subst h
    simp [upd, va_up]
  · simp [upd, va_up, h]
section ZWP
variable {p : Program} {l : Launch} {e : Env} {R : Room} {s : State} {m : MethodId} {args : Array Value} {below : List Frame} {meth : Method} {c : Code} {H : Heap} {locs : List Loc} {cells slots : Nat} {Q : State → Prop} {cc : ByteArray} {pc : Nat} {ls : Array Slot} {rest : List Value} {G : zG} {ad : Nat → Nat} {w : Nat → Option va_E}
/-- System.arraycopy of a whole int row to another -/
theorem zw_copy (hexec : p.tables.exec = Jvm.exec) (hb : c.code = cc) (hml : c.maxLocals = ls.size) {own : String} {index : Nat} (hown : s.vm.findClass own = some m.cls) (hlink : (Cond.methodLink own index arraycopyName).before args s = true) (hnat : (Cond.native arraycopyName).before args s = true) (hstat : (Cond.static arraycopyName).before args s = true) (hini : (Cond.initialized "java/lang/System").before args s = true)
    (Z : zw G ad w s H locs) {k0 k1 n : Nat} {f g : Nat → Int32} (h0 : w k0 = some (zi G n f)) (h1 : w k1 = some (zi G n g)) (hn : n < 2 ^ 31)
    (hframes : 1 ≤ R.frames) (hlocals : (rest.map fun v => v.category).sum + (nativeFrameWords "java/lang/System" "arraycopy" 5 + 11) ≤ R.locals) (hdg : decode cc pc = .ok (.invokestatic index, 3))
    (kk : ∀ (H1 : Heap) (locs1 : List Loc), zw G ad (va_up w k1 (some (zi G n f))) s H1 locs1 → W p l e R s m args below meth c H1 locs1 cells slots Q (F0 m (pc + 3) ls rest)) : W p l e R s m args below meth c H locs cells slots Q (F0 m pc ls (.int (nI n) :: .int 0 :: .ref (ad k1) :: .int 0 :: .ref (ad k0) :: rest)) := by
  intro T hT X
  have hc0 : H[ad k0]? = some (vp_cell (G.2.1 0) (n, .inl f)) := (Z.2.1.1 k0 _ h0).1
  have hc1 : H[ad k1]? = some (vp_cell (G.2.1 0) (n, .inl g)) := (Z.2.1.1 k1 _ h1).1
  obtain ⟨-, k0', hk0, cm0, hkk0⟩ := (Z.1.2 0 _ rfl).1 n (fun j => .int (f j))
  obtain ⟨-, k1', hk1, cm1, hkk1⟩ := (Z.1.2 0 _ rfl).1 n (fun j => .int (g j))
  have z0 : (0 : Int32).toNatClampNeg = 0 := by decide
  have zn : (nI n).toNatClampNeg = n := nI_clamp hn
  have y0 : (0 : Int32).toInt = 0 := by decide
  obtain ⟨vm', X', step⟩ := X.arraycopy hexec hown hlink hnat hstat hini (src := ad k0) (dst := ad k1) (cs := vp_cell (G.2.1 0) (n, .inl f)) (cd := vp_cell (G.2.1 0) (n, .inl g)) (srcPos := 0) (destPos := 0) (n := nI n) (by rw [hT]; exact hc0) (by rw [hT]; exact hc1)
    (fun _ h => by cases h) (fun _ h => by cases h) (fun h => by cases h) (fun h => by cases h) hk0 hk1 hkk0 hkk1 (by simp [refKind]) (by decide) (by decide) (nI_pos hn)
    (by rw [nI_toInt hn, y0]; show ¬ _ > ((arrV (G.2.1 0) n (fun j => .int (f j))).slots.size : Int); rw [arrV_size]; omega)
    (by rw [nI_toInt hn, y0]; show ¬ _ > ((arrV (G.2.1 0) n (fun j => .int (g j))).slots.size : Int); rw [arrV_size]; omega)
    (fun vm₁ _ i hi => by
      rw [zn] at hi
      have e : (vp_cell (G.2.1 0) (n, .inl f)).slots.getD ((0 : Int32).toNatClampNeg + i) .null = .int (f i) := by
        show (arrV (G.2.1 0) n (fun j => .int (f j))).slots.getD _ _ = _
        rw [z0, Nat.zero_add, Array.getD_eq_getD_getElem?, arrV_read _ _ hi]
        rfl
      refine ⟨?_, ?_⟩
      · rw [e]
        rfl
      · rw [e]
        exact trivial)
    (g := F0 m pc ls (.int (nI n) :: .int 0 :: .ref (ad k1) :: .int 0 :: .ref (ad k0) :: rest)) rfl (by rw [hml]) (rest := rest) rfl (by rw [hb]; exact hdg) hframes (by show 2 * 0 + _ + _ ≤ _; omega)
  have e1 : copied (vp_cell (G.2.1 0) (n, .inl f)) (vp_cell (G.2.1 0) (n, .inl g)) 0 0 (nI n) = vp_cell (G.2.1 0) (n, .inl f) := by
    have h := va_copied (fun z : Int32 => Value.int z) (G.2.1 0) (G.2.1 0) (n0 := n) (n1 := n) (sp := 0) (dp := 0) (n := n) f g (by omega)
    have h2 : copied (vp_cell (G.2.1 0) (n, .inl f)) (vp_cell (G.2.1 0) (n, .inl g)) 0 0 (nI n) = (arrV (G.2.1 0) n (fun j => .int (g j))).storeRun 0 ((arrV (G.2.1 0) n (fun j => .int (f j))).stretch 0 n) := by
      unfold copied
      rw [z0, zn]
      rfl
    rw [h2, h, vp_cell_i]
    exact arrV_ext_z (fun j hj => by simp [va_cpy, hj])
  rw [e1] at X' step
  have hl : ad k1 < H.size := (Array.getElem?_eq_some_iff.mp hc1).1
  have hheap : ((T.setVm vm').setCell (ad k1) (vp_cell (G.2.1 0) (n, .inl f))).heap = H.setIfInBounds (ad k1) (vp_cell (G.2.1 0) (n, .inl f)) := by rw [← hT]; rfl
  have oq : ∀ q : Nat, q ≠ ad k1 → (H.setIfInBounds (ad k1) (vp_cell (G.2.1 0) (n, .inl f)))[q]? = H[q]? := fun q hq => by simp [Array.getElem?_setIfInBounds, Ne.symm hq]
  obtain ⟨t, a1, b1⟩ := kk _ _ ⟨Z.1, Z.2.1.set h1 (show (H.setIfInBounds (ad k1) _)[ad k1]? = some _ by simp [Array.getElem?_setIfInBounds, hl]) oq, ⟨by simp; exact Z.2.2.1.1, fun q g1 g2 => by
      rw [oq q (fun e => g2 (by rw [e]; exact (Z.2.1.1 k1 _ h1).2))]
      exact Z.2.2.1.2.1 q g1 g2, fun q hq => by
      rcases List.mem_append.mp hq with h | h
      · exact Z.2.2.1.2.2 q h
      · obtain ⟨z, -, hz⟩ := List.mem_map.mp h
        rw [← hz]
        exact (Z.2.1.1 k1 _ h1).2⟩, Z.2.2.2⟩ _ hheap X'
  exact ⟨t, step t a1, b1⟩
end ZWP

set_option maxHeartbeats 4000000 in
set_option maxRecDepth 100000 in
theorem c_J_fill (l : Launch) {G : zG} {ad : Nat → Nat} {w : Nat → Option va_E} (a n : Nat) (f : Nat → Int32) (v : Int32) (ha : w a = some (zi G n f)) (hn : n < 2 ^ 31) : Met l yJ_fill wJ_fill (zR (1)) (va_Pc [.ref (ad a), .int v] (zw_U G ad w)) (va_Qv (S := Nat → Option va_E) (fun w' => w' = va_up w a (some (zi G n (fun _ => v)))) (fun u t => zw_U G ((fun _ => ad) u) ((fun w' => w') u) t) (zA G)) 0 0 (zA G) := by
  refine zw_methv (S := Nat → Option va_E) (fa := fun _ => ad) (fw := fun w' => w') (by decide) rfl (Nat.le_of_ble_eq_true rfl) ?_
  intro p e s m below meth c Q ls C hname Z hl hret
  obtain ⟨hx, hb, hml, hown, hts, hlk⟩ := C
  have hT : ∀ w ∈ zT, w.before ([.ref (ad a), .int v] : List Value).toArray s = true := fun w h => hts w (List.mem_cons_of_mem _ h)
  have hown : s.vm.findClass "java/util/Arrays" = some m.cls := hown
  have hl : lv_has ls 4 [(0, .ref (ad a)), (1, .int v)] := hl
  refine lv_iconst (v := 0) hx hb dJ_fill_0 (by decide) ?_
  refine lv_istore_n (lv' := [(2, .int 0), (0, .ref (ad a)), (1, .int v)]) hx hb dJ_fill_1 rfl hl (by decide) rfl (fun ls hl => ?_)
  refine lv_aload_n hx hb dJ_fill_2 rfl (lv_at hl 1 rfl) ?_
  refine zw_alen (v := nI n) hx hb Z 0 ha rfl rfl dJ_fill_3 ?_
  refine lv_istore_n (lv' := [(3, .int (nI n)), (2, .int 0), (0, .ref (ad a)), (1, .int v)]) hx hb dJ_fill_4 rfl hl (by decide) rfl (fun ls hl => ?_)
  have loop : ∀ (k i : Nat) (H : Heap) (locs : List Loc) (ls : Array Slot), i + k = n → zw G ad (va_up w a (some (zi G n (fun j => if j < i then v else f j)))) s H locs → lv_has ls 4 [(3, .int (nI n)), (2, .int (nI i)), (0, .ref (ad a)), (1, .int v)] → W p l e (zR (1)) s m ([.ref (ad a), .int v] : List Value).toArray below meth c H locs 0 0 Q (F0 m 5 ls []) := by
    intro k
    induction k with
    | zero =>
      intro i H locs ls hi Z hl
      have hw : (va_up w a (some (zi G n (fun j => if j < i then v else f j)))) a = some (zi G n (fun j => if j < i then v else f j)) := va_up_self _ _ _
      refine lv_iload_n hx hb dJ_fill_5 rfl (lv_at hl 1 rfl) ?_
      refine lv_iload_n hx hb dJ_fill_6 rfl (lv_at hl 0 rfl) ?_
      refine lv_icmp_ge (tgt := 20) hx hb dJ_fill_7 (by decide) (fun _ => ?_) (fun hc => absurd (show (nI n) ≤ (nI i) from nI_le (by omega) (by omega)) hc)
      have Z := Z.ext hw (f' := fun _ => v) (fun j hj => if_pos (by omega))
      rw [bx_uu] at Z
      exact hret _ _ _ _ _ dJ_fill_20 (rfl) Z
    | succ k ih =>
      intro i H locs ls hi Z hl
      have hw : (va_up w a (some (zi G n (fun j => if j < i then v else f j)))) a = some (zi G n (fun j => if j < i then v else f j)) := va_up_self _ _ _
      refine lv_iload_n hx hb dJ_fill_5 rfl (lv_at hl 1 rfl) ?_
      refine lv_iload_n hx hb dJ_fill_6 rfl (lv_at hl 0 rfl) ?_
      refine lv_icmp_ge (tgt := 20) hx hb dJ_fill_7 (by decide) (fun hc => absurd hc (show ¬ ((nI n) ≤ (nI i)) from nI_ge (by omega) (by omega))) (fun _ => ?_)
      refine lv_aload_n hx hb dJ_fill_10 rfl (lv_at hl 2 rfl) ?_
      refine lv_iload_n hx hb dJ_fill_11 rfl (lv_at hl 1 rfl) ?_
      refine lv_iload_n hx hb dJ_fill_12 rfl (lv_at hl 3 rfl) ?_
      refine zw_iast hx hb Z hw (vin (by omega) hn) dJ_fill_13 (fun H locs Z => ?_)
      have Z := Z.ext (va_up_self _ _ _) (f' := fun j => if j < i + 1 then v else f j) (fun j hj => by
        rw [ncl (by omega)]
        by_cases h : j = i
        · subst h
          simp [upd]
        · simp only [upd, h, if_false]
          by_cases h2 : j < i
          · rw [if_pos h2, if_pos (by omega)]
          · rw [if_neg h2, if_neg (by omega)])
      rw [bx_uu, bx_uu] at Z
      refine lv_iinc (v := (nI (i + 1))) (lv' := [(2, .int (nI (i + 1))), (3, .int (nI n)), (0, .ref (ad a)), (1, .int v)]) hx hb dJ_fill_14 hl (k := 1) rfl (nI_1 i) (by decide) rfl (fun ls hl => ?_)
      refine lv_goto (tgt := 5) hx hb dJ_fill_17 (by decide) ?_
      exact ih (i + 1) _ _ ls (by omega) Z (lv_sub hl [1, 0, 2, 3] rfl)
  have Z := Z.ext ha (f' := fun j => if j < 0 then v else f j) (fun j _ => (if_neg (Nat.not_lt_zero j)).symm)
  exact loop n 0 _ _ ls (by omega) Z hl

set_option maxHeartbeats 4000000 in
set_option maxRecDepth 100000 in
theorem c_R_countTerms (l : Launch) {G : zG} {ad : Nat → Nat} {w : Nat → Option va_E} (F : Nat → Int32) (h1 : w 1 = some (oR ad F)) (a : Nat) (g : Nat → Int32) (ct : Nat) (ha : w a = some (zi G 126 g)) (hF : F 4 = nI ct) (hc : ct ≤ 126) : Met l yR_countTerms wR_countTerms (zR (1)) (va_Pc [.ref (ad 1), .ref (ad a)] (zw_U G ad w)) (va_Qi (S := Nat → Option va_E) (fun r w' => r = nI (zcnt g ct) ∧ w' = w) (fun u t => zw_U G ((fun _ => ad) u) ((fun w' => w') u) t) (zA G)) 0 0 (zA G) := by
  refine zw_methi (S := Nat → Option va_E) (fa := fun _ => ad) (fw := fun w' => w') (by decide) rfl (Nat.le_of_ble_eq_true rfl) ?_
  intro p e s m below meth c Q ls C hname Z hl hret
  obtain ⟨hx, hb, hml, hown, hts, hlk⟩ := C
  have hT : ∀ w ∈ zT, w.before ([.ref (ad 1), .ref (ad a)] : List Value).toArray s = true := fun w h => hts w (List.mem_cons_of_mem _ h)
  have hown : s.vm.findClass "PolynomialDesk$Ring" = some m.cls := hown
  have hl : lv_has ls 4 [(0, .ref (ad 1)), (1, .ref (ad a))] := hl
  refine lv_iconst (v := 0) hx hb dR_countTerms_0 (by decide) ?_
  refine lv_istore_n (lv' := [(2, .int 0), (0, .ref (ad 1)), (1, .ref (ad a))]) hx hb dR_countTerms_1 rfl hl (by decide) rfl (fun ls hl => ?_)
  refine lv_iconst (v := 0) hx hb dR_countTerms_2 (by decide) ?_
  refine lv_istore_n (lv' := [(3, .int 0), (2, .int 0), (0, .ref (ad 1)), (1, .ref (ad a))]) hx hb dR_countTerms_3 rfl hl (by decide) rfl (fun ls hl => ?_)
  have loop : ∀ (n i : Nat) (ls : Array Slot), lv_has ls 4 [(3, .int (nI i)), (2, .int (nI (zcnt g i))), (0, .ref (ad 1)), (1, .ref (ad a))] → i + n = ct → W p l e (zR (1)) s m ([.ref (ad 1), .ref (ad a)] : List Value).toArray below meth c s.heap [] 0 0 Q (F0 m 4 ls []) := by
    intro n
    induction n with
    | zero =>
      intro i ls hl hi
      refine lv_iload_n hx hb dR_countTerms_4 rfl (lv_at hl 0 rfl) ?_
      refine lv_aload_n hx hb dR_countTerms_5 rfl (lv_at hl 2 rfl) ?_
      refine zw_get (v := .int (F 4)) hx hb hT uR hown Z h1 rfl 4 (by decide) (hT _ mf_R_54) (fun _ h9 => h9) rfl dR_countTerms_6 ?_
      refine lv_icmp_ge (tgt := 27) hx hb dR_countTerms_9 (by decide) (fun _ => ?_) (fun hc => absurd (show (F 4) ≤ (nI i) from by rw [hF]; exact nI_le (by omega) (by omega)) hc)
      refine lv_iload_n hx hb dR_countTerms_27 rfl (lv_at hl 1 rfl) ?_
      exact hret _ _ _ _ _ _ dR_countTerms_28 (⟨by rw [show i = ct by omega], rfl⟩) Z
    | succ n ih =>
      intro i ls hl hi
      refine lv_iload_n hx hb dR_countTerms_4 rfl (lv_at hl 0 rfl) ?_
      refine lv_aload_n hx hb dR_countTerms_5 rfl (lv_at hl 2 rfl) ?_
      refine zw_get (v := .int (F 4)) hx hb hT uR hown Z h1 rfl 4 (by decide) (hT _ mf_R_54) (fun _ h9 => h9) rfl dR_countTerms_6 ?_
      refine lv_icmp_ge (tgt := 27) hx hb dR_countTerms_9 (by decide) (fun hc => absurd hc (show ¬ ((F 4) ≤ (nI i)) from by rw [hF]; exact nI_ge (by omega) (by omega))) (fun _ => ?_)
      refine lv_aload_n hx hb dR_countTerms_12 rfl (lv_at hl 3 rfl) ?_
      refine lv_iload_n hx hb dR_countTerms_13 rfl (lv_at hl 0 rfl) ?_
      refine zw_iald hx hb Z ha (vin (by omega) (by omega)) dR_countTerms_14 ?_
      refine zw_top (g i) (by rw [ncl (by omega)]) ?_
      refine lv_if_eq (tgt := 21) hx hb dR_countTerms_15 (by decide) (fun hq => ?_) (fun hq => ?_)
      · refine lv_iinc (v := (nI (i + 1))) (lv' := [(3, .int (nI (i + 1))), (2, .int (nI (zcnt g i))), (0, .ref (ad 1)), (1, .ref (ad a))]) hx hb dR_countTerms_21 hl (k := 0) rfl (nI_1 i) (by decide) rfl (fun ls hl => ?_)
        refine lv_goto (tgt := 4) hx hb dR_countTerms_24 (by decide) ?_
        exact ih (i + 1) ls (by rw [show zcnt g (i + 1) = zcnt g i by simp [zcnt, hq]]; exact lv_sub hl [0, 1, 2, 3] rfl) (by omega)
      · refine lv_iinc (v := (nI ((zcnt g i) + 1))) (lv' := [(2, .int (nI ((zcnt g i) + 1))), (3, .int (nI i)), (0, .ref (ad 1)), (1, .ref (ad a))]) hx hb dR_countTerms_18 hl (k := 1) rfl (nI_1 (zcnt g i)) (by decide) rfl (fun ls hl => ?_)
        refine lv_iinc (v := (nI (i + 1))) (lv' := [(3, .int (nI (i + 1))), (2, .int (nI ((zcnt g i) + 1))), (0, .ref (ad 1)), (1, .ref (ad a))]) hx hb dR_countTerms_21 hl (k := 1) rfl (nI_1 i) (by decide) rfl (fun ls hl => ?_)
        refine lv_goto (tgt := 4) hx hb dR_countTerms_24 (by decide) ?_
        exact ih (i + 1) ls (by rw [show zcnt g (i + 1) = zcnt g i + 1 by simp [zcnt, hq]]; exact lv_sub hl [0, 1, 2, 3] rfl) (by omega)
  exact loop ct 0 ls hl (by omega)

set_option maxHeartbeats 4000000 in
set_option maxRecDepth 100000 in
theorem c_R_indexOfTerm (l : Launch) {G : zG} {ad : Nat → Nat} {w : Nat → Option va_E} (F : Nat → Int32) (h1 : w 1 = some (oR ad F)) (a : Nat) (g : Nat → Int32) (ct : Nat) (ha : w a = some (zi G 126 g)) (hF : F 4 = nI ct) (hc : ct ≤ 126) (x : Int32) : Met l yR_indexOfTerm wR_indexOfTerm (zR (1)) (va_Pc [.ref (ad 1), .ref (ad a), .int x] (zw_U G ad w)) (va_Qi (S := Nat → Option va_E) (fun r w' => r = (match zith g x.toInt 0 ct with | some k => nI k | none => -1) ∧ w' = w) (fun u t => zw_U G ((fun _ => ad) u) ((fun w' => w') u) t) (zA G)) 0 0 (zA G) := by
  refine zw_methi (S := Nat → Option va_E) (fa := fun _ => ad) (fw := fun w' => w') (by decide) rfl (Nat.le_of_ble_eq_true rfl) ?_
  intro p e s m below meth c Q ls C hname Z hl hret
  obtain ⟨hx, hb, hml, hown, hts, hlk⟩ := C
  have hT : ∀ w ∈ zT, w.before ([.ref (ad 1), .ref (ad a), .int x] : List Value).toArray s = true := fun w h => hts w (List.mem_cons_of_mem _ h)
  have hown : s.vm.findClass "PolynomialDesk$Ring" = some m.cls := hown
  have hl : lv_has ls 5 [(0, .ref (ad 1)), (1, .ref (ad a)), (2, .int x)] := hl
  refine lv_iconst (v := 0) hx hb dR_indexOfTerm_0 (by decide) ?_
  refine lv_istore_n (lv' := [(3, .int 0), (0, .ref (ad 1)), (1, .ref (ad a)), (2, .int x)]) hx hb dR_indexOfTerm_1 rfl hl (by decide) rfl (fun ls hl => ?_)
  refine lv_iconst (v := 0) hx hb dR_indexOfTerm_2 (by decide) ?_
  refine lv_istore (lv' := [(4, .int 0), (3, .int 0), (0, .ref (ad 1)), (1, .ref (ad a)), (2, .int x)]) hx hb dR_indexOfTerm_3 hl (by decide) rfl (fun ls hl => ?_)
  have loop : ∀ (n i t : Nat) (ls : Array Slot), lv_has ls 5 [(4, .int (nI i)), (3, .int (nI t)), (0, .ref (ad 1)), (1, .ref (ad a)), (2, .int x)] → i + n = ct → t ≤ i → zith g (x.toInt - t) i n = zith g x.toInt 0 ct → W p l e (zR (1)) s m ([.ref (ad 1), .ref (ad a), .int x] : List Value).toArray below meth c s.heap [] 0 0 Q (F0 m 5 ls []) := by
    intro n
    induction n with
    | zero =>
      intro i t ls hl hi ht hz
      refine lv_iload hx hb dR_indexOfTerm_5 (lv_at hl 0 rfl) ?_
      refine lv_aload_n hx hb dR_indexOfTerm_7 rfl (lv_at hl 2 rfl) ?_
      refine zw_get (v := .int (F 4)) hx hb hT uR hown Z h1 rfl 4 (by decide) (hT _ mf_R_54) (fun _ h9 => h9) rfl dR_indexOfTerm_8 ?_
      refine lv_icmp_ge (tgt := 38) hx hb dR_indexOfTerm_11 (by decide) (fun _ => ?_) (fun hc => absurd (show (F 4) ≤ (nI i) from by rw [hF]; exact nI_le (by omega) (by omega)) hc)
      refine lv_iconst (v := (-1)) hx hb dR_indexOfTerm_38 (by decide) ?_
      exact hret _ _ _ _ _ _ dR_indexOfTerm_39 (⟨by rw [← hz]; rfl, rfl⟩) Z
    | succ n ih =>
      intro i t ls hl hi ht hz
      refine lv_iload hx hb dR_indexOfTerm_5 (lv_at hl 0 rfl) ?_
      refine lv_aload_n hx hb dR_indexOfTerm_7 rfl (lv_at hl 2 rfl) ?_
      refine zw_get (v := .int (F 4)) hx hb hT uR hown Z h1 rfl 4 (by decide) (hT _ mf_R_54) (fun _ h9 => h9) rfl dR_indexOfTerm_8 ?_
      refine lv_icmp_ge (tgt := 38) hx hb dR_indexOfTerm_11 (by decide) (fun hc => absurd hc (show ¬ ((F 4) ≤ (nI i)) from by rw [hF]; exact nI_ge (by omega) (by omega))) (fun _ => ?_)
      refine lv_aload_n hx hb dR_indexOfTerm_14 rfl (lv_at hl 3 rfl) ?_
      refine lv_iload hx hb dR_indexOfTerm_15 (lv_at hl 0 rfl) ?_
      refine zw_iald hx hb Z ha (vin (by omega) (by omega)) dR_indexOfTerm_17 ?_
      refine zw_top (g i) (by rw [ncl (by omega)]) ?_
      refine lv_if_eq (tgt := 32) hx hb dR_indexOfTerm_18 (by decide) (fun hq => ?_) (fun hq => ?_)
      · refine lv_iinc (v := (nI (i + 1))) (lv' := [(4, .int (nI (i + 1))), (3, .int (nI t)), (0, .ref (ad 1)), (1, .ref (ad a)), (2, .int x)]) hx hb dR_indexOfTerm_32 hl (k := 0) rfl (nI_1 i) (by decide) rfl (fun ls hl => ?_)
        refine lv_goto (tgt := 5) hx hb dR_indexOfTerm_35 (by decide) ?_
        exact ih (i + 1) t ls (lv_sub hl [0, 1, 2, 3, 4] rfl) (by omega) (by omega) (by rw [← hz, zith, if_pos hq])
      · refine lv_iload_n hx hb dR_indexOfTerm_21 rfl (lv_at hl 1 rfl) ?_
        refine lv_iload_n hx hb dR_indexOfTerm_22 rfl (lv_at hl 4 rfl) ?_
        refine lv_icmp_ne (tgt := 29) hx hb dR_indexOfTerm_23 (by decide) (fun hr => ?_) (fun hr => ?_)
        · refine lv_iinc (v := (nI (t + 1))) (lv' := [(3, .int (nI (t + 1))), (4, .int (nI i)), (0, .ref (ad 1)), (1, .ref (ad a)), (2, .int x)]) hx hb dR_indexOfTerm_29 hl (k := 1) rfl (nI_1 t) (by decide) rfl (fun ls hl => ?_)
          refine lv_iinc (v := (nI (i + 1))) (lv' := [(4, .int (nI (i + 1))), (3, .int (nI (t + 1))), (0, .ref (ad 1)), (1, .ref (ad a)), (2, .int x)]) hx hb dR_indexOfTerm_32 hl (k := 1) rfl (nI_1 i) (by decide) rfl (fun ls hl => ?_)
          refine lv_goto (tgt := 5) hx hb dR_indexOfTerm_35 (by decide) ?_
          exact ih (i + 1) (t + 1) ls (lv_sub hl [0, 1, 2, 3, 4] rfl) (by omega) (by omega) (by rw [← hz, zith, if_neg hq, if_neg (fun h9 => hr (Int32.toInt_inj.mp (by rw [nI_toInt (by omega)]; omega)))]; congr 1; omega)
        · refine lv_iload hx hb dR_indexOfTerm_26 (lv_at hl 0 rfl) ?_
          exact hret _ _ _ _ _ _ dR_indexOfTerm_28 (⟨by rw [← hz, zith, if_neg hq, if_pos (by rw [← hr, nI_toInt (by omega)]; omega)], rfl⟩) Z
  exact loop ct 0 0 ls hl (by omega) (by omega) (by simp)

/-- the degree of a row: that of its first coefficient which isn't 0 -/
def zdeg (dg g : Nat → Int32) (ct : Nat) : Int32 := if zfst g 0 ct < ct then dg (zfst g 0 ct) else -1

set_option maxHeartbeats 4000000 in
set_option maxRecDepth 100000 in
theorem c_R_degreeOf (l : Launch) {G : zG} {ad : Nat → Nat} {w : Nat → Option va_E} (F : Nat → Int32) (h1 : w 1 = some (oR ad F)) (a : Nat) (g : Nat → Int32) (ct : Nat) (ha : w a = some (zi G 126 g)) (hF : F 4 = nI ct) (hc : ct ≤ 126) (dg : Nat → Int32) (h5 : w 5 = some (zi G 126 dg)) : Met l yR_degreeOf wR_degreeOf (zR (2)) (va_Pc [.ref (ad 1), .ref (ad a)] (zw_U G ad w)) (va_Qi (S := Nat → Option va_E) (fun r w' => r = zdeg dg g ct ∧ w' = w) (fun u t => zw_U G ((fun _ => ad) u) ((fun w' => w') u) t) (zA G)) 0 0 (zA G) := by
  refine zw_methi (S := Nat → Option va_E) (fa := fun _ => ad) (fw := fun w' => w') (by decide) rfl (Nat.le_of_ble_eq_true rfl) ?_
  intro p e s m below meth c Q ls C hname Z hl hret
  obtain ⟨hx, hb, hml, hown, hts, hlk⟩ := C
  have hT : ∀ w ∈ zT, w.before ([.ref (ad 1), .ref (ad a)] : List Value).toArray s = true := fun w h => hts w (List.mem_cons_of_mem _ h)
  have hown : s.vm.findClass "PolynomialDesk$Ring" = some m.cls := hown
  have hl : lv_has ls 3 [(0, .ref (ad 1)), (1, .ref (ad a))] := hl
  refine lv_aload_n hx hb dR_degreeOf_0 rfl (lv_at hl 0 rfl) ?_
  refine lv_aload_n hx hb dR_degreeOf_1 rfl (lv_at hl 1 rfl) ?_
  refine zw_calli (va_runV (As := [.ref (ad a)]) (rest := []) ⟨hx, hb, hml, hown, hts⟩ (c_R_leadingOf l F h1 a g ct ha hF hc) (kw_R_leadingOf hts ml_R_71 (zR_fit (by omega) (by omega))) (Z.preV h1 rfl _) rfl rfl hl.1 rfl (lv_room (Nat.le_of_ble_eq_true rfl)) dR_degreeOf_2 ⟨Nat.le_of_ble_eq_true rfl, Nat.le_of_ble_eq_true rfl⟩) Z (fun r w1 H locs hp Z => ?_)
  obtain ⟨rfl, hw1⟩ := hp
  rw [hw1] at Z
  clear hw1
  have hle := (zfst_in g ct 0).2
  refine lv_istore_n (lv' := [(2, .int (nI (zfst g 0 ct))), (0, .ref (ad 1)), (1, .ref (ad a))]) hx hb dR_degreeOf_5 rfl hl (by decide) rfl (fun ls hl => ?_)
  refine lv_iload_n hx hb dR_degreeOf_6 rfl (lv_at hl 0 rfl) ?_
  refine lv_aload_n hx hb dR_degreeOf_7 rfl (lv_at hl 1 rfl) ?_
  refine zw_get (v := .int (F 4)) hx hb hT uR hown Z h1 rfl 4 (by decide) (hT _ mf_R_54) (fun _ h9 => h9) rfl dR_degreeOf_8 ?_
  refine lv_icmp_ge (tgt := 23) hx hb dR_degreeOf_11 (by decide) (fun hq => ?_) (fun hq => ?_)
  · refine lv_iconst (v := (-1)) hx hb dR_degreeOf_23 (by decide) ?_
    exact hret _ _ _ _ _ _ dR_degreeOf_24 (⟨by rw [hF] at hq; rw [zdeg, if_neg (fun h9 => absurd hq (nI_ge h9 (by omega)))], rfl⟩) Z
  · have hlt : zfst g 0 ct < ct := by
      rw [hF] at hq
      exact Nat.not_le.mp (fun h9 => hq (nI_le h9 (by omega)))
    refine lv_aload_n hx hb dR_degreeOf_14 rfl (lv_at hl 1 rfl) ?_
    refine zw_get (v := .ref (ad 5)) hx hb hT uR hown Z h1 rfl 6 (by decide) (hT _ mf_R_16) (fun _ h9 => h9) rfl dR_degreeOf_15 ?_
    refine lv_iload_n hx hb dR_degreeOf_18 rfl (lv_at hl 0 rfl) ?_
    refine zw_iald hx hb Z h5 (vin (by omega) (by omega)) dR_degreeOf_19 ?_
    refine zw_top (dg (zfst g 0 ct)) (by rw [ncl (by omega)]) ?_
    refine lv_goto (tgt := 24) hx hb dR_degreeOf_20 (by decide) ?_
    exact hret _ _ _ _ _ _ dR_degreeOf_24 (⟨by rw [zdeg, if_pos hlt], rfl⟩) Z
