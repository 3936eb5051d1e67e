/-! THE CLAIM OUT OF ONE WALK OF THE LAW'S BODY. Your part is whole_start (and what it stands on); all else here is the same for every law, but numbers. -/
def R_law : String := "PolynomialDeskLaw"
def lw_P (b : Addr) (xs : List Int32) (args : Array Value) (s : State) : Prop := args = #[.ref b] ∧ s.IntsAt b xs ∧ xs.length ≤ 3072 ∧ (Jvm.Cond.and given_1 narrow_1).before args s = true
def lw_Q (_ : Array Value) (s : State) (o : Outcome) (t : State) : Prop := o = .returned (some (.int 1)) ∧ Framed s o t [] 601024 7293034
def lw_Z (below : List Frame) (a : Array Value) (s : State) : State → Prop := fun t => ∃ o, t.status = .running ∧ Ended t below o ∧ lw_Q a s o t
/-- the law's own end, with 1 on the stack, nothing written that was there before, its room as the claim has it -/
theorem lw_ret {p : Program} {l : Launch} {e : Env} {s : State} {m : MethodId} {below : List Frame} {meth : Method} {c : Code} {b : Nat} (hx : p.tables.exec = Jvm.exec) (hb : c.code = code) (hr : meth.sig.returnType = ret) (hlocks : meth.locks = false) {pc : Nat} {H : Heap} {ls : Array Slot} (hdg : decode code pc = .ok (.ireturn, 1)) : W p l e room_1 s m #[Value.ref b] below meth c H [] 601024 7293034 (lw_Z below #[Value.ref b] s) (F0 m pc ls [.int 1]) := by
  intro T hT X
  obtain ⟨fs, hret, hrun, hended, hW, hframe⟩ := X.leave (v := some (.int 1)) (hlocks := hlocks) (fun h => by rw [hr] at h; cases h)
  have hmeth' : T.vm.method? m = some meth := X.method'
  refine ⟨T.setFrames fs, ?_, .returned (some (.int 1)), hrun, hended, rfl, ⟨_, rfl⟩, hW, hframe⟩
  jvm_step X.here [X.here.top, hx, hb, hdg, hmeth', hr, ret, narrow_b1]
  (try refine ⟨rfl, ?_⟩); (try refine ⟨rfl, ?_⟩)
  first | (intro acts; rw [hret _ acts rfl rfl rfl]) | rw [hret _ _ rfl rfl rfl]
  exact Steps.refl _
/-- what holds at the law's entry: the machine, the code, the tables' words (any of lw_tbl by 'hts w (by decide +kernel)'), the script of L ints xs at the cell b, what the Statement gives of the start (any of its parts by flat_of_before) -/
def lw_At (p : Program) (s : State) (m : MethodId) (meth : Method) (c : Code) (b L : Nat) (xs : Nat → Int32) : Prop :=
  p.tables.exec = Jvm.exec ∧ c.code = code ∧ meth.sig.returnType = ret ∧ c.maxLocals = 7 ∧ s.vm.findClass R_law = some m.cls ∧ (∀ w ∈ lw_tbl, w.before #[Value.ref b] s = true) ∧ va_X b L xs s s.heap ∧ b < s.heap.size ∧ meth.locks = false ∧ (Jvm.Cond.and given_1 narrow_1).before #[Value.ref b] s = true
set_option maxHeartbeats 4000000 in
set_option maxRecDepth 100000 in
theorem whole_start {p : Program} {e : Env} {s : State} {m : MethodId} {below : List Frame} {meth : Method} {c : Code} (l : Launch) (hnt : l.stackTraces = false) {b L : Nat} {xs : Nat → Int32} (hL : L ≤ 3072) (C0 : lw_At p s m meth c b L xs) : W p l e room_1 s m #[Value.ref b] below meth c s.heap [] 0 0 (lw_Z below #[Value.ref b] s) (entryFrame m ([Value.ref b] : List Value).toArray 7) := by
  obtain ⟨hx, hb, hr, hml, hown, hts0, hXb, hbl, hlocks, hgv⟩ := id C0
  have hT : ∀ w ∈ zT, w.before #[Value.ref b] s = true := zT_hts hts0
  have hts : ∀ w ∈ kK_init :: zT, w.before #[Value.ref b] s = true := List.forall_mem_cons.mpr ⟨hT _ mk_K_init, hT⟩
  have hown : s.vm.findClass "PolynomialDeskLaw" = some m.cls := hown
  obtain ⟨c0, i0, hKn0⟩ := u_known (C := "PolynomialDesk$Printer") (T := TP) (N := 3) (n := 3) hT uP (hT _ mb_P)
  obtain ⟨c1, i1, hKn1⟩ := u_known (C := "PolynomialDesk$Reader") (T := TE) (N := 9) (n := 9) hT uE (hT _ mb_E)
  obtain ⟨c2, i2, hKn2⟩ := u_known (C := "PolynomialDesk$Ring") (T := TR) (N := 13) (n := 13) hT uR (hT _ mb_R)
  obtain ⟨c3, i3, hKn3⟩ := u_known (C := "PolynomialDesk") (T := TK) (N := 5) (n := 5) hT uK (hT _ mb_K)
  obtain ⟨c4, i4, hKn4⟩ := u_known (C := "PolynomialDeskModel") (T := TM) (N := 27) (n := 27) hT uM (hT _ mb_M)
  obtain ⟨aI, kI, pI, fI, nI9, eI⟩ := Cond.arrayClass_spec (hT _ ma_int)
  obtain ⟨aC, kC, pC, fC, nC, eC⟩ := Cond.arrayClass_spec (hT _ ma_char)
  obtain ⟨aJ, kJ, pJ, fJ, nJ, eJ⟩ := Cond.arrayClass_spec (hT _ ma_long)
  obtain ⟨pA, aA, kA, -, -, nA, eA, fA⟩ := arrayOverA_spec (hts0 (.arrayOver (.array .int)) (by decide +kernel))
  obtain ⟨D, hKc⟩ : ∃ D : va_G, ∀ (k : Nat) (q : vw_C), zcl[k]? = some q → u_Kn s q.1 q.2.1 q.2.2 (D.1 k) (D.2 k) := by
    refine ⟨(fun k => if k = 0 then c0 else if k = 1 then c1 else if k = 2 then c2 else if k = 3 then c3 else c4, fun k => if k = 0 then i0 else if k = 1 then i1 else if k = 2 then i2 else if k = 3 then i3 else i4), ?_⟩
    intro k q hq
    match k, hq with
    | 0, hq => cases hq; exact hKn0
    | 1, hq => cases hq; exact hKn1
    | 2, hq => cases hq; exact hKn2
    | 3, hq => cases hq; exact hKn3
    | 4, hq => cases hq; exact hKn4
    | k + 5, hq => simp at hq
  obtain ⟨qA, hKa⟩ : ∃ qA : Nat → ClassId, ∀ (k : Nat) (q : ClassId × FieldType), (zty qA)[k]? = some q → ArrOfT s q.1 q.2 ∧ va_RA s q.1 q.2 := by
    refine ⟨fun k => if k = 0 then aI else if k = 1 then aC else if k = 2 then aJ else aA, ?_⟩
    intro k q hq
    match k, hq with
    | 0, hq => cases hq; exact ⟨fun n z => ⟨fun k h => (by cases h), kI, nI9, pI, eI⟩, fI⟩
    | 1, hq => cases hq; exact ⟨fun n z => ⟨fun k h => (by cases h), kC, nC, pC, eC⟩, fC⟩
    | 2, hq => cases hq; exact ⟨fun n z => ⟨fun k h => (by cases h), kJ, nJ, pJ, eJ⟩, fJ⟩
    | 3, hq => cases hq; exact ⟨fun n z => ⟨fun k h => (by cases h), kA, nA, pA, eA⟩, fA⟩
    | k + 4, hq => simp at hq
  obtain ⟨qs, qv, hX0⟩ := zXx_start hts0 hgv (D := D) (q := qA)
  obtain ⟨G, hG⟩ : ∃ G : zG, G = (D, qA, s.heap.size, zXx (D, qA, s.heap.size, fun _ _ => True) qs qv) := ⟨_, rfl⟩
  have hXh : ∀ U H, G.2.2.2 U H → zHIGH G U H := by rw [hG]; exact fun U H h => h.1
  have hXs : ∀ U H, G.2.2.2 U H → zSTR G qs qv U H := by rw [hG]; exact fun U H h => h.2.1
  have hXt : ∀ U H, G.2.2.2 U H → zTHR G U H := by rw [hG]; exact fun U H h => h.2.2.1
  have hXa : ∀ U H, G.2.2.2 U H → va_AOA .int U := by rw [hG]; exact fun U H h => h.2.2.2
  have hN0 : G.2.2.1 = s.heap.size := by rw [hG]
  obtain ⟨ad, w, hw0, Z⟩ : ∃ (ad : Nat → Nat) (w : Nat → Option va_E), (∀ k, w k = none) ∧ zw G ad w s s.heap [] := by
    refine ⟨fun _ => 0, fun _ => none, fun _ => rfl, ?_⟩
    rw [hG]
    exact ⟨⟨hKc, hKa⟩, ⟨fun k x h => (by cases h), fun j k x y h => (by cases h)⟩, va_S.rf, Nat.le_refl _, zXx_ok, hX0⟩
  have hbA : ¬ zA G b := by
    show ¬ G.2.2.1 ≤ b
    rw [hN0]
    exact Nat.not_le.mpr hbl
  have hLa : zLa p s m c b L xs G := ⟨hx, hb, hml, hown, hts, hXb, hbl, hbA⟩
  have hl := lv_entry ([.ref b]) (n := 7) (Nat.le_of_ble_eq_true rfl)
  rw [lg_entry_eq]
  generalize (lg_sl ([.ref b]) ++ List.replicate (7 - (lg_sl ([.ref b])).length) Slot.unset).toArray = ls at hl ⊢
  have hl : lv_has ls 7 [(0, .ref b)] := hl
  refine zn_new (ci := 3) (fs := [.null, .null, .null, .null, .null]) hx hb hT uK tK tK_ok hown (hT _ mc_L_8) (hT _ mb_K) (hT _ mn_K) Z 0 (hw0 0) rfl (by decide) (Nat.le_of_ble_eq_true rfl) (Nat.le_of_ble_eq_true rfl) dL_law_0 (fun ad_1 q0 H hq0 had1 Z => ?_)
  refine lv_dup hx hb dL_law_3 rfl ?_
  refine zw_callv (va_runI (As := []) (rest := [.ref q0]) ⟨hx, hb, hml, hown, hts⟩ (c_K_init l hXa hXh q0 hq0 rfl (fun k h1 h2 => (va_up_ne _ _ (by omega)).trans (hw0 k))) (kw_K_init hts ml_L_43 rfl rfl ⟨Nat.le_of_ble_eq_true rfl, Nat.le_of_ble_eq_true rfl⟩) (Z.preS _) rfl rfl hl.1 rfl (lv_room (Nat.le_of_ble_eq_true rfl)) dL_law_4 ⟨Nat.le_of_ble_eq_true rfl, Nat.le_of_ble_eq_true rfl⟩) Z (fun u H locs hp Z => ?_)
  obtain ⟨adK, wK⟩ := u
  have Z : zw G adK wK s H locs := Z
  obtain ⟨hadK, hDk, hkK⟩ := hp
  have hadK : ∀ j, (j = 0 ∨ 73 ≤ j) → adK j = ad_1 j := hadK
  have hDk : zDk G adK wK 7 2 0 (fun _ _ => 0) (fun _ => 0) 0 0 (-1) [] := hDk
  have hkK : ∀ k, 73 ≤ k → wK k = (va_up w 0 (some (.inr (3, [.null, .null, .null, .null, .null])))) k := hkK
  have hfK : ∀ k, 73 ≤ k → wK k = none := fun k hk => (hkK k hk).trans ((va_up_ne _ _ (by omega)).trans (hw0 k))
  have e0K : adK 0 = q0 := (hadK 0 (by decide)).trans hq0
  refine lv_astore_n (lv' := [(1, .ref q0), (0, .ref b)]) hx hb dL_law_7 rfl hl (by decide) rfl (fun ls hl => ?_)
  refine zn_new (ci := 4) (fs := [.int 0, .int 0, .int 0, .int 0, .int 0, .int 0, .null, .null, .null, .null, .int 0, .null, .null, .int 0, .int 0, .int 0, .int 0, .int 0, .int 0, .int 0, .int 0, .int 0, .null, .null, .null, .null, .int 0]) hx hb hT uM tM tM_ok hown (hT _ mc_L_44) (hT _ mb_M) (hT _ mn_M) Z 100 (hfK 100 (by decide)) rfl (by decide) (Nat.le_of_ble_eq_true rfl) (Nat.le_of_ble_eq_true rfl) dL_law_8 (fun ad_3 q100 H hq100 had3 Z => ?_)
  refine lv_dup hx hb dL_law_11 rfl ?_
  refine zw_callv (va_runI (As := []) (rest := [.ref q100]) ⟨hx, hb, hml, hown, hts⟩ (c_M_init l q100 hq100 rfl (fun k h1 h2 => (va_up_ne _ _ (by omega)).trans (hfK k (by omega)))) (kw_M_init hts ml_L_46 rfl rfl ⟨Nat.le_of_ble_eq_true rfl, Nat.le_of_ble_eq_true rfl⟩) (Z.preS _) rfl rfl hl.1 rfl (lv_room (Nat.le_of_ble_eq_true rfl)) dL_law_12 ⟨Nat.le_of_ble_eq_true rfl, Nat.le_of_ble_eq_true rfl⟩) Z (fun u H locs hp Z => ?_)
  obtain ⟨adM, wM⟩ := u
  have Z : zw G adM wM s H locs := Z
  obtain ⟨hadM, hMd, hkM⟩ := hp
  have hadM : ∀ j, ¬ (101 ≤ j ∧ j ≤ 110) → adM j = ad_3 j := hadM
  have hMd : zMd G adM wM 7 2 0 (fun _ _ => 0) (fun _ => 0) 0 0 (-1) [] 0 := hMd
  have hkM : ∀ k, ¬ (100 ≤ k ∧ k ≤ 110) → wM k = (va_up wK 100 (some (.inr (4, [.int 0, .int 0, .int 0, .int 0, .int 0, .int 0, .null, .null, .null, .null, .int 0, .null, .null, .int 0, .int 0, .int 0, .int 0, .int 0, .int 0, .int 0, .int 0, .int 0, .null, .null, .null, .null, .int 0])))) k := hkM
  refine lv_astore_n (lv' := [(2, .ref q100), (1, .ref q0), (0, .ref b)]) hx hb dL_law_15 rfl hl (by decide) rfl (fun ls hl => ?_)
  refine lv_iconst (v := 1) hx hb dL_law_16 (by decide) ?_
  refine zn_newa (atype := .long) hx hb (hT _ ma_long) rfl Z 111 ((hkM 111 (by decide)).trans ((va_up_ne _ _ (by decide)).trans (hfK 111 (by decide)))) 2 rfl (znew_l G 1) rfl (by decide) (Nat.le_of_ble_eq_true rfl) (Nat.le_of_ble_eq_true rfl) (Nat.le_of_ble_eq_true rfl) dL_law_17 (fun ad_5 q111 H hq111 had5 Z => ?_)
  refine lv_astore_n (lv' := [(3, .ref q111), (2, .ref q100), (1, .ref q0), (0, .ref b)]) hx hb dL_law_19 rfl hl (by decide) rfl (fun ls hl => ?_)
  refine lv_iconst (v := 0) hx hb dL_law_20 (by decide) ?_
  refine lv_istore (lv' := [(4, .int 0), (3, .ref q111), (2, .ref q100), (1, .ref q0), (0, .ref b)]) hx hb dL_law_21 hl (by decide) rfl (fun ls hl => ?_)
  have eA : ∀ k, k ≤ 72 → ad_5 k = adK k := fun k hk => (had5 k (by omega)).trans ((hadM k (by omega)).trans (had3 k (by omega)))
  have eM : ∀ k, 100 ≤ k → k ≤ 110 → ad_5 k = adM k := fun k h1 h2 => had5 k (by omega)
  have e0 : q0 = ad_5 0 := ((eA 0 (by decide)).trans e0K).symm
  have e100 : q100 = ad_5 100 := ((eM 100 (by decide) (by decide)).trans ((hadM 100 (by decide)).trans hq100)).symm
  have e111 : q111 = ad_5 111 := hq111.symm
  have hl : lv_has ls 7 [(4, .int 0), (3, .ref q111), (2, .ref q100), (1, .ref q0), (0, .ref b)] := hl
  rw [e0, e100, e111] at hl
  obtain ⟨FR, FE, ⟨b1, b2, b3, b4, b5, b6, b7, b8, b9⟩, a2, a3, a4, a5, a6, a7, a8⟩ := id hDk
  have hWK : ∀ k, k ≤ 72 → (va_up wM 111 (some (zj G 1 (fun _ => 0)))) k = wK k := fun k hk => (va_up_ne _ _ (by omega)).trans ((hkM k (by omega)).trans (va_up_ne _ _ (by omega)))
  have Z := Z.extq (k := 4) (n := 4) (f := fun v => some (adK (16 + v))) (f' := fun v => some (ad_5 (16 + v))) (show (va_up wM 111 (some (zj G 1 (fun _ => 0)))) 4 = _ from by rw [hWK 4 (by decide)]; exact b1.2.2.2.2.1) (fun v hv => by rw [eA _ (by omega)])
  have Z := Z.extq (k := 11) (n := 21) (f := fun v => some (adK (28 + v))) (f' := fun v => some (ad_5 (28 + v))) (show (va_up (va_up wM 111 (some (zj G 1 (fun _ => 0)))) 4 (some (zq G 4 (fun v => some (ad_5 (16 + v)))))) 11 = _ from by rw [va_up_ne _ _ (by decide), hWK 11 (by decide)]; exact b7) (fun v hv => by rw [eA _ (by omega)])
  have Z := Z.extq (k := 12) (n := 21) (f := fun v => some (adK (49 + v))) (f' := fun v => some (ad_5 (49 + v))) (show (va_up (va_up (va_up wM 111 (some (zj G 1 (fun _ => 0)))) 4 (some (zq G 4 (fun v => some (ad_5 (16 + v)))))) 11 (some (zq G 21 (fun v => some (ad_5 (28 + v)))))) 12 = _ from by rw [va_up_ne _ _ (by decide), va_up_ne _ _ (by decide), hWK 12 (by decide)]; exact b8) (fun v hv => by rw [eA _ (by omega)])
  have Z := Z.extq (k := 14) (n := 8) (f := fun v => some (adK (20 + v))) (f' := fun v => some (ad_5 (20 + v))) (show (va_up (va_up (va_up (va_up wM 111 (some (zj G 1 (fun _ => 0)))) 4 (some (zq G 4 (fun v => some (ad_5 (16 + v)))))) 11 (some (zq G 21 (fun v => some (ad_5 (28 + v)))))) 12 (some (zq G 21 (fun v => some (ad_5 (49 + v)))))) 14 = _ from by rw [va_up_ne _ _ (by decide), va_up_ne _ _ (by decide), va_up_ne _ _ (by decide), hWK 14 (by decide)]; exact a5) (fun v hv => by rw [eA _ (by omega)])
  obtain ⟨wF, hwF⟩ : ∃ wF, wF = (va_up (va_up (va_up (va_up (va_up wM 111 (some (zj G 1 (fun _ => 0)))) 4 (some (zq G 4 (fun v => some (ad_5 (16 + v)))))) 11 (some (zq G 21 (fun v => some (ad_5 (28 + v)))))) 12 (some (zq G 21 (fun v => some (ad_5 (49 + v)))))) 14 (some (zq G 8 (fun v => some (ad_5 (20 + v)))))) := ⟨_, rfl⟩
  rw [← hwF] at Z
  have k4 : wF 4 = some (zq G 4 (fun v => some (ad_5 (16 + v)))) := by rw [hwF]; rfl
  have k11 : wF 11 = some (zq G 21 (fun v => some (ad_5 (28 + v)))) := by rw [hwF]; rfl
  have k12 : wF 12 = some (zq G 21 (fun v => some (ad_5 (49 + v)))) := by rw [hwF]; rfl
  have k14 : wF 14 = some (zq G 8 (fun v => some (ad_5 (20 + v)))) := by rw [hwF]; rfl
  have kk9 : ∀ k, k ≠ 4 → k ≠ 11 → k ≠ 12 → k ≠ 14 → wF k = (va_up wM 111 (some (zj G 1 (fun _ => 0)))) k := fun k h1 h2 h3 h4 => by rw [hwF, va_up_ne _ _ h4, va_up_ne _ _ h3, va_up_ne _ _ h2, va_up_ne _ _ h1]
  have hDF : zDk G ad_5 wF 7 2 0 (fun _ _ => 0) (fun _ => 0) 0 0 (-1) [] := hDk.mv eA (fun k h0 h1 h2 h3 h4 => (kk9 k h1 h2 h3 h4).trans (hWK k h0)) k4 k11 k12 k14
  have hMF : zMd G ad_5 wF 7 2 0 (fun _ _ => 0) (fun _ => 0) 0 0 (-1) [] 0 := hMd.mv eM (fun k h1 h2 => (kk9 k (by omega) (by omega) (by omega) (by omega)).trans (va_up_ne _ _ (by omega)))
  have h111F : wF 111 = some (zj G 1 (fun _ => 0)) := (kk9 111 (by decide) (by decide) (by decide) (by decide)).trans (va_up_self _ _ _)
  refine lw_loop l hnt hLa hXt hXh hXs hL (fun cells slots w H locs ls h1 h2 Z => ?_) 512 0 _ _ wF H locs ls (by omega) (Nat.zero_le _) (Nat.le_of_ble_eq_true rfl) (Nat.le_of_ble_eq_true rfl) ⟨7, 2, 0, _, _, 0, 0, -1, [], 0, _, hDF, hMF, h111F⟩ Z (lv_sub hl [0, 4, 3, 2, 1] rfl)
  exact W.widen h1 h2 (va_forget (fun q hq => (by have h9 : G.2.2.1 ≤ q.base := Z.fr q hq; rw [hN0] at h9; exact h9)) (lw_ret hx hb hr hlocks dL_law_860))
