/-- what the law's body stands on -/
def zLa (p : Program) (s : State) (m : MethodId) (c : Code) (b L : Nat) (xs : Nat → Int32) (G : zG) : Prop := p.tables.exec = Jvm.exec ∧ c.code = bL_law ∧ c.maxLocals = 7 ∧ s.vm.findClass "PolynomialDeskLaw" = some m.cls ∧ (∀ w ∈ kK_init :: zT, w.before #[Value.ref b] s = true) ∧ va_X b L xs s s.heap ∧ b < s.heap.size ∧ ¬ zA G b
theorem zcmp_self (x : Int64) : lg_cmp x x = 0 := by
  unfold lg_cmp
  rw [if_neg (Int64.lt_irrefl), if_pos rfl]

set_option maxHeartbeats 4000000 in
set_option maxRecDepth 100000 in
theorem lw_c0 (l : Launch) (hnt : l.stackTraces = false) {p : Program} {e : Env} {s : State} {m : MethodId} {below : List Frame} {meth : Method} {c : Code} {Q : State → Prop} {b L : Nat} {xs : Nat → Int32} {G : zG} {ad : Nat → Nat} {w : Nat → Option va_E} {qs qv : Nat} (hLa : zLa p s m c b L xs G) (hX : ∀ U H, G.2.2.2 U H → zTHR G U H) (hXh : ∀ U H, G.2.2.2 U H → zHIGH G U H) (hXs : ∀ U H, G.2.2.2 U H → zSTR G qs qv U H) (hL : L ≤ 3072) (i cells slots : Nat) (hi : i + 6 ≤ L) (hc4 : cells + 4 ≤ 601024) (hs4 : slots + 24 ≤ 7293034) {H : Heap} {locs : List Loc} {ls : Array Slot} (hLw : zLw G ad w) (Z : zw G ad w s H locs) (hl : lv_has ls 7 [(4, .int (nI i)), (0, .ref b), (1, .ref (ad 0)), (2, .ref (ad 100)), (3, .ref (ad 111))]) (kk : ∀ (w' : Nat → Option va_E) (H : Heap) (locs : List Loc) (ls : Array Slot), zLw G ad w' → zw G ad w' s H locs → lv_has ls 7 [(4, .int (nI i)), (0, .ref b), (1, .ref (ad 0)), (2, .ref (ad 100)), (3, .ref (ad 111))] → W p l e room_1 s m #[Value.ref b] below meth c H locs (cells + 4) (slots + 24) Q (F0 m 853 ls [])) : W p l e room_1 s m #[Value.ref b] below meth c H locs (cells) (slots) Q (F0 m 108 ls []) := by
  obtain ⟨hx, hb, hml, hown, hts, hXb, hbl, hbA⟩ := hLa
  have hT : ∀ w ∈ zT, w.before #[Value.ref b] s = true := fun w h => hts w (List.mem_cons_of_mem _ h)
  obtain ⟨P, n, o, A, T, len, flt, pl, out, thr, f, hD, hMd, h111⟩ := hLw
  refine lv_aload_n hx hb dL_law_108 rfl (lv_at hl 2 rfl) ?_
  refine lv_aload_n hx hb dL_law_109 rfl (lv_at hl 1 rfl) ?_
  refine lv_iload hx hb dL_law_110 (lv_at hl 0 rfl) ?_
  refine lv_iconst (v := 1) hx hb dL_law_112 (by decide) ?_
  refine lv_iadd hx hb dL_law_113 ?_
  refine zw_top (nI (i + 1)) (nI_add i 1) ?_
  refine va_sld hx hb hXb hbl hbA Z.2.2.1 (vin (by omega) (by omega)) dL_law_114 ?_
  refine zw_top (xs (i + 1)) (by rw [ncl (by omega)]) ?_
  refine lv_aload_n hx hb dL_law_115 rfl (lv_at hl 1 rfl) ?_
  refine lv_iload hx hb dL_law_116 (lv_at hl 0 rfl) ?_
  refine lv_iconst (v := 2) hx hb dL_law_118 (by decide) ?_
  refine lv_iadd hx hb dL_law_119 ?_
  refine zw_top (nI (i + 2)) (nI_add i 2) ?_
  refine va_sld hx hb hXb hbl hbA Z.2.2.1 (vin (by omega) (by omega)) dL_law_120 ?_
  refine zw_top (xs (i + 2)) (by rw [ncl (by omega)]) ?_
  refine lv_aload_n hx hb dL_law_121 rfl (lv_at hl 1 rfl) ?_
  refine lv_iload hx hb dL_law_122 (lv_at hl 0 rfl) ?_
  refine lv_iconst (v := 3) hx hb dL_law_124 (by decide) ?_
  refine lv_iadd hx hb dL_law_125 ?_
  refine zw_top (nI (i + 3)) (nI_add i 3) ?_
  refine va_sld hx hb hXb hbl hbA Z.2.2.1 (vin (by omega) (by omega)) dL_law_126 ?_
  refine zw_top (xs (i + 3)) (by rw [ncl (by omega)]) ?_
  refine zw_calli (vx_runSW (As := [.ref (ad 0), .int (xs (i + 1)), .int (xs (i + 2)), .int (xs (i + 3))]) (rest := []) ⟨hx, hb, hml, hown, hts⟩ (c_L_field l hnt hX hXh P n o A T len flt pl out hD (xs (i + 1)) (xs (i + 2)) (xs (i + 3))) (kv_L_field hts ml_L_47 ⟨Nat.le_of_ble_eq_true rfl, Nat.le_of_ble_eq_true rfl⟩) (Z.preS _) rfl rfl hl.1 rfl (lv_room (Nat.le_of_ble_eq_true rfl)) dL_law_127 ⟨(by show (_ : Nat) ≤ 601024; omega), (by show (_ : Nat) ≤ 7293034; omega)⟩) Z (fun r9 w1 H locs hp Z => ?_)
  obtain ⟨hp, hk1⟩ := hp
  have hMd1 := hMd.cong (fun k h1 h2 => hk1 k (by omega))
  obtain ⟨F9, h100⟩ := hMd1.o100
  refine lv_istore (lv' := [(5, .int r9), (4, .int (nI i)), (0, .ref b), (1, .ref (ad 0)), (2, .ref (ad 100)), (3, .ref (ad 111))]) hx hb dL_law_130 hl (by decide) rfl (fun ls hl => ?_)
  refine lv_aload_n hx hb dL_law_132 rfl (lv_at hl 4 rfl) ?_
  refine lv_aload_n hx hb dL_law_133 rfl (lv_at hl 2 rfl) ?_
  refine lv_iload hx hb dL_law_134 (lv_at hl 1 rfl) ?_
  refine lv_iconst (v := 1) hx hb dL_law_136 (by decide) ?_
  refine lv_iadd hx hb dL_law_137 ?_
  refine zw_top (nI (i + 1)) (nI_add i 1) ?_
  refine va_sld hx hb hXb hbl hbA Z.2.2.1 (vin (by omega) (by omega)) dL_law_138 ?_
  refine zw_top (xs (i + 1)) (by rw [ncl (by omega)]) ?_
  refine lv_aload_n hx hb dL_law_139 rfl (lv_at hl 2 rfl) ?_
  refine lv_iload hx hb dL_law_140 (lv_at hl 1 rfl) ?_
  refine lv_iconst (v := 2) hx hb dL_law_142 (by decide) ?_
  refine lv_iadd hx hb dL_law_143 ?_
  refine zw_top (nI (i + 2)) (nI_add i 2) ?_
  refine va_sld hx hb hXb hbl hbA Z.2.2.1 (vin (by omega) (by omega)) dL_law_144 ?_
  refine zw_top (xs (i + 2)) (by rw [ncl (by omega)]) ?_
  refine lv_aload_n hx hb dL_law_145 rfl (lv_at hl 2 rfl) ?_
  refine lv_iload hx hb dL_law_146 (lv_at hl 1 rfl) ?_
  refine lv_iconst (v := 3) hx hb dL_law_148 (by decide) ?_
  refine lv_iadd hx hb dL_law_149 ?_
  refine zw_top (nI (i + 3)) (nI_add i 3) ?_
  refine va_sld hx hb hXb hbl hbA Z.2.2.1 (vin (by omega) (by omega)) dL_law_150 ?_
  refine zw_top (xs (i + 3)) (by rw [ncl (by omega)]) ?_
  refine zw_callv (va_runV (As := [.int (xs (i + 1)), .int (xs (i + 2)), .int (xs (i + 3))]) (rest := []) ⟨hx, hb, hml, hown, hts⟩ (c_M_field l P n o A T len flt pl out thr hMd1 (xs (i + 1)) (xs (i + 2)) (xs (i + 3))) (kw_M_field hts ml_L_52 ⟨Nat.le_of_ble_eq_true rfl, Nat.le_of_ble_eq_true rfl⟩) (Z.preV h100 rfl _) rfl rfl hl.1 rfl (lv_room (Nat.le_of_ble_eq_true rfl)) dL_law_151 ⟨(by show (_ : Nat) ≤ 601024; omega), (by show (_ : Nat) ≤ 7293034; omega)⟩) Z (fun w2 H locs hq Z => ?_)
  obtain ⟨hq, hk2⟩ := hq
  have g111 : w2 111 = some (zj G 1 f) := (hk2 111 (by decide)).trans ((hk1 111 (by decide)).trans h111)
  rcases hp with ⟨rfl, a1, P1, n1, o1, a2, a3, a4, D1⟩ | ⟨rfl, a1, D1⟩
  · rcases hq with ⟨b1, P2, n2, o2, b2, b3, b4, hM2⟩ | ⟨b1, hM2⟩
    · obtain ⟨e1, e2, e3⟩ := a2
      obtain ⟨g1, g2, g3⟩ := b2
      rw [e1] at g1
      rw [e2] at g2
      rw [e3] at g3
      have hP9 : P1 = P2 := (nI_eq (by omega) (by omega)).mp g1
      have hn9 : n1 = n2 := (nI_eq (by have := a3.2.1; omega) (by have := b3.2.1; omega)).mp g2
      have ho9 : o1 = o2 := (nI_eq (by have := a3.2.2; omega) (by have := b3.2.2; omega)).mp g3
      subst hP9
      subst hn9
      subst ho9
      obtain ⟨F8, h1008⟩ := hM2.o100
      refine lv_aload_n hx hb dL_law_154 rfl (lv_at hl 4 rfl) ?_
      refine zw_calli (va_runV (As := []) (rest := []) ⟨hx, hb, hml, hown, hts⟩ (c_M_thrown l _ _ _ _ _ _ _ _ _ _ hM2) (kw_M_thrown hts ml_L_53 ⟨Nat.le_of_ble_eq_true rfl, Nat.le_of_ble_eq_true rfl⟩) (Z.preV h1008 rfl _) rfl rfl hl.1 rfl (lv_room (Nat.le_of_ble_eq_true rfl)) dL_law_155 ⟨(by show (_ : Nat) ≤ 601024; omega), (by show (_ : Nat) ≤ 7293034; omega)⟩) Z (fun r8 w3 H locs hp Z => ?_)
      obtain ⟨rfl, hw3⟩ := hp
      rw [hw3] at Z
      refine lv_iload hx hb dL_law_158 (lv_at hl 0 rfl) ?_
      refine lv_icmp_eq (tgt := 165) hx hb dL_law_160 (by decide) (fun _ => ?_) (fun hc => absurd (show (0 : Int32) = 0 from rfl) hc)
      refine lv_goto (tgt := 853) hx hb dL_law_165 (by decide) ?_
      refine W.widen (k := cells + 4) (n := slots + 24) (by omega) (by omega) ?_
      exact kk _ _ _ ls ⟨P1, n1, o1, _, T, len, flt, pl, [], 0, f, D1.cong (fun k hk => hk2 k (by omega)), hM2, g111⟩ Z (lv_sub hl [1, 2, 3, 4, 5] rfl)
    · exact absurd a1 b1
  · rcases hq with ⟨b1, P2, n2, o2, b2, b3, b4, hM2⟩ | ⟨b1, hM2⟩
    · exact absurd b1 a1
    · obtain ⟨F8, h1008⟩ := hM2.o100
      refine lv_aload_n hx hb dL_law_154 rfl (lv_at hl 4 rfl) ?_
      refine zw_calli (va_runV (As := []) (rest := []) ⟨hx, hb, hml, hown, hts⟩ (c_M_thrown l _ _ _ _ _ _ _ _ _ _ hM2) (kw_M_thrown hts ml_L_53 ⟨Nat.le_of_ble_eq_true rfl, Nat.le_of_ble_eq_true rfl⟩) (Z.preV h1008 rfl _) rfl rfl hl.1 rfl (lv_room (Nat.le_of_ble_eq_true rfl)) dL_law_155 ⟨(by show (_ : Nat) ≤ 601024; omega), (by show (_ : Nat) ≤ 7293034; omega)⟩) Z (fun r8 w3 H locs hp Z => ?_)
      obtain ⟨rfl, hw3⟩ := hp
      rw [hw3] at Z
      refine lv_iload hx hb dL_law_158 (lv_at hl 0 rfl) ?_
      refine lv_icmp_eq (tgt := 165) hx hb dL_law_160 (by decide) (fun _ => ?_) (fun hc => absurd (show (1 : Int32) = 1 from rfl) hc)
      refine lv_goto (tgt := 853) hx hb dL_law_165 (by decide) ?_
      refine W.widen (k := cells + 4) (n := slots + 24) (by omega) (by omega) ?_
      exact kk _ _ _ ls ⟨P, n, o, _, T, len, flt, pl, out, 1, f, D1.cong (fun k hk => hk2 k (by omega)), hM2, g111⟩ Z (lv_sub hl [1, 2, 3, 4, 5] rfl)

set_option maxHeartbeats 4000000 in
set_option maxRecDepth 100000 in
theorem lw_c1 (l : Launch) (hnt : l.stackTraces = false) {p : Program} {e : Env} {s : State} {m : MethodId} {below : List Frame} {meth : Method} {c : Code} {Q : State → Prop} {b L : Nat} {xs : Nat → Int32} {G : zG} {ad : Nat → Nat} {w : Nat → Option va_E} {qs qv : Nat} (hLa : zLa p s m c b L xs G) (hX : ∀ U H, G.2.2.2 U H → zTHR G U H) (hXh : ∀ U H, G.2.2.2 U H → zHIGH G U H) (hXs : ∀ U H, G.2.2.2 U H → zSTR G qs qv U H) (hL : L ≤ 3072) (i cells slots : Nat) (hi : i + 6 ≤ L) (hc4 : cells + 4 ≤ 601024) (hs4 : slots + 24 ≤ 7293034) {H : Heap} {locs : List Loc} {ls : Array Slot} (hLw : zLw G ad w) (Z : zw G ad w s H locs) (hl : lv_has ls 7 [(4, .int (nI i)), (0, .ref b), (1, .ref (ad 0)), (2, .ref (ad 100)), (3, .ref (ad 111))]) (kk : ∀ (w' : Nat → Option va_E) (H : Heap) (locs : List Loc) (ls : Array Slot), zLw G ad w' → zw G ad w' s H locs → lv_has ls 7 [(4, .int (nI i)), (0, .ref b), (1, .ref (ad 0)), (2, .ref (ad 100)), (3, .ref (ad 111))] → W p l e room_1 s m #[Value.ref b] below meth c H locs (cells + 4) (slots + 24) Q (F0 m 853 ls [])) : W p l e room_1 s m #[Value.ref b] below meth c H locs (cells) (slots) Q (F0 m 168 ls []) := by
  obtain ⟨hx, hb, hml, hown, hts, hXb, hbl, hbA⟩ := hLa
  have hT : ∀ w ∈ zT, w.before #[Value.ref b] s = true := fun w h => hts w (List.mem_cons_of_mem _ h)
  obtain ⟨P, n, o, A, T, len, flt, pl, out, thr, f, hD, hMd, h111⟩ := hLw
  refine lv_aload_n hx hb dL_law_168 rfl (lv_at hl 2 rfl) ?_
  refine lv_aload_n hx hb dL_law_169 rfl (lv_at hl 1 rfl) ?_
  refine lv_iload hx hb dL_law_170 (lv_at hl 0 rfl) ?_
  refine lv_iconst (v := 1) hx hb dL_law_172 (by decide) ?_
  refine lv_iadd hx hb dL_law_173 ?_
  refine zw_top (nI (i + 1)) (nI_add i 1) ?_
  refine va_sld hx hb hXb hbl hbA Z.2.2.1 (vin (by omega) (by omega)) dL_law_174 ?_
  refine zw_top (xs (i + 1)) (by rw [ncl (by omega)]) ?_
  refine lv_i2l hx hb dL_law_175 rfl ?_
  refine lv_bipush (v := 32) hx hb dL_law_176 (by decide) ?_
  refine lv_lshl hx hb dL_law_178 rfl ?_
  refine lv_aload_n hx hb dL_law_179 rfl (lv_at hl 1 rfl) ?_
  refine lv_iload hx hb dL_law_180 (lv_at hl 0 rfl) ?_
  refine lv_iconst (v := 2) hx hb dL_law_182 (by decide) ?_
  refine lv_iadd hx hb dL_law_183 ?_
  refine zw_top (nI (i + 2)) (nI_add i 2) ?_
  refine va_sld hx hb hXb hbl hbA Z.2.2.1 (vin (by omega) (by omega)) dL_law_184 ?_
  refine zw_top (xs (i + 2)) (by rw [ncl (by omega)]) ?_
  refine lv_i2l hx hb dL_law_185 rfl ?_
  refine lv_ldc2 hx hb hown (hT _ mq_L_57) dL_law_186 ?_
  refine lv_land hx hb dL_law_189 ?_
  refine lv_lor hx hb dL_law_190 ?_
  refine lv_topl (fun v9 hv9 => ?_)
  refine lv_aload_n hx hb dL_law_191 rfl (lv_at hl 1 rfl) ?_
  refine lv_iload hx hb dL_law_192 (lv_at hl 0 rfl) ?_
  refine lv_iconst (v := 3) hx hb dL_law_194 (by decide) ?_
  refine lv_iadd hx hb dL_law_195 ?_
  refine zw_top (nI (i + 3)) (nI_add i 3) ?_
  refine va_sld hx hb hXb hbl hbA Z.2.2.1 (vin (by omega) (by omega)) dL_law_196 ?_
  refine zw_top (xs (i + 3)) (by rw [ncl (by omega)]) ?_
  refine zw_calli (va_runV (As := [.long v9, .int (xs (i + 3))]) (rest := []) ⟨hx, hb, hml, hown, hts⟩ (c_K_put l P n o A T len flt pl out hD v9 (xs (i + 3))) (kw_K_put hts ml_L_59 ⟨Nat.le_of_ble_eq_true rfl, Nat.le_of_ble_eq_true rfl⟩) (Z.preV hD.o0 rfl _) rfl rfl hl.1 rfl (lv_room (Nat.le_of_ble_eq_true rfl)) dL_law_197 ⟨(by show (_ : Nat) ≤ 601024; omega), (by show (_ : Nat) ≤ 7293034; omega)⟩) Z (fun r9 w1 H locs hp Z => ?_)
  obtain ⟨rfl, D1, hk1⟩ := hp
  have hMd1 := hMd.cong (fun k h1 h2 => hk1 k (by omega))
  obtain ⟨F9, h100⟩ := hMd1.o100
  refine lv_aload_n hx hb dL_law_200 rfl (lv_at hl 3 rfl) ?_
  refine lv_aload_n hx hb dL_law_201 rfl (lv_at hl 1 rfl) ?_
  refine lv_iload hx hb dL_law_202 (lv_at hl 0 rfl) ?_
  refine lv_iconst (v := 1) hx hb dL_law_204 (by decide) ?_
  refine lv_iadd hx hb dL_law_205 ?_
  refine zw_top (nI (i + 1)) (nI_add i 1) ?_
  refine va_sld hx hb hXb hbl hbA Z.2.2.1 (vin (by omega) (by omega)) dL_law_206 ?_
  refine zw_top (xs (i + 1)) (by rw [ncl (by omega)]) ?_
  refine lv_i2l hx hb dL_law_207 rfl ?_
  refine lv_bipush (v := 32) hx hb dL_law_208 (by decide) ?_
  refine lv_lshl hx hb dL_law_210 rfl ?_
  refine lv_aload_n hx hb dL_law_211 rfl (lv_at hl 1 rfl) ?_
  refine lv_iload hx hb dL_law_212 (lv_at hl 0 rfl) ?_
  refine lv_iconst (v := 2) hx hb dL_law_214 (by decide) ?_
  refine lv_iadd hx hb dL_law_215 ?_
  refine zw_top (nI (i + 2)) (nI_add i 2) ?_
  refine va_sld hx hb hXb hbl hbA Z.2.2.1 (vin (by omega) (by omega)) dL_law_216 ?_
  refine zw_top (xs (i + 2)) (by rw [ncl (by omega)]) ?_
  refine lv_i2l hx hb dL_law_217 rfl ?_
  refine lv_ldc2 hx hb hown (hT _ mq_L_57) dL_law_218 ?_
  refine lv_land hx hb dL_law_221 ?_
  refine lv_lor hx hb dL_law_222 ?_
  refine lv_topl (fun v8 hv8 => ?_)
  have hv : v8 = v9 := by rw [hv8, hv9]
  subst hv
  refine lv_aload_n hx hb dL_law_223 rfl (lv_at hl 1 rfl) ?_
  refine lv_iload hx hb dL_law_224 (lv_at hl 0 rfl) ?_
  refine lv_iconst (v := 3) hx hb dL_law_226 (by decide) ?_
  refine lv_iadd hx hb dL_law_227 ?_
  refine zw_top (nI (i + 3)) (nI_add i 3) ?_
  refine va_sld hx hb hXb hbl hbA Z.2.2.1 (vin (by omega) (by omega)) dL_law_228 ?_
  refine zw_top (xs (i + 3)) (by rw [ncl (by omega)]) ?_
  refine zw_calli (va_runV (As := [.long v8, .int (xs (i + 3))]) (rest := [.int (zb (zfit len (xs (i + 3))))]) ⟨hx, hb, hml, hown, hts⟩ (c_M_put l P n o A T len flt pl out thr hMd1 v8 (xs (i + 3))) (kw_M_put hts ml_L_63 ⟨Nat.le_of_ble_eq_true rfl, Nat.le_of_ble_eq_true rfl⟩) (Z.preV h100 rfl _) rfl rfl hl.1 rfl (lv_room (Nat.le_of_ble_eq_true rfl)) dL_law_229 ⟨(by show (_ : Nat) ≤ 601024; omega), (by show (_ : Nat) ≤ 7293034; omega)⟩) Z (fun r8 w2 H locs hq Z => ?_)
  obtain ⟨rfl, hM2, hk2⟩ := hq
  have g111 : w2 111 = some (zj G 1 f) := (hk2 111 (by decide)).trans ((hk1 111 (by decide)).trans h111)
  refine lv_icmp_eq (tgt := 853) hx hb dL_law_232 (by decide) (fun _ => ?_) (fun hc => absurd (show ((zb (zfit len (xs (i + 3)))) : Int32) = (zb (zfit len (xs (i + 3)))) from rfl) hc)
  refine W.widen (k := cells + 4) (n := slots + 24) (by omega) (by omega) ?_
  exact kk _ _ _ ls ⟨P, n, o, _, _, _, flt, pl, out, 0, f, D1.cong (fun k hk => hk2 k (by omega)), hM2, g111⟩ Z (lv_sub hl [0, 1, 2, 3, 4] rfl)

set_option maxHeartbeats 4000000 in
set_option maxRecDepth 100000 in
theorem lw_c3 (l : Launch) (hnt : l.stackTraces = false) {p : Program} {e : Env} {s : State} {m : MethodId} {below : List Frame} {meth : Method} {c : Code} {Q : State → Prop} {b L : Nat} {xs : Nat → Int32} {G : zG} {ad : Nat → Nat} {w : Nat → Option va_E} {qs qv : Nat} (hLa : zLa p s m c b L xs G) (hX : ∀ U H, G.2.2.2 U H → zTHR G U H) (hXh : ∀ U H, G.2.2.2 U H → zHIGH G U H) (hXs : ∀ U H, G.2.2.2 U H → zSTR G qs qv U H) (hL : L ≤ 3072) (i cells slots : Nat) (hi : i + 6 ≤ L) (hc4 : cells + 4 ≤ 601024) (hs4 : slots + 24 ≤ 7293034) {H : Heap} {locs : List Loc} {ls : Array Slot} (hLw : zLw G ad w) (Z : zw G ad w s H locs) (hl : lv_has ls 7 [(4, .int (nI i)), (0, .ref b), (1, .ref (ad 0)), (2, .ref (ad 100)), (3, .ref (ad 111))]) (kk : ∀ (w' : Nat → Option va_E) (H : Heap) (locs : List Loc) (ls : Array Slot), zLw G ad w' → zw G ad w' s H locs → lv_has ls 7 [(4, .int (nI i)), (0, .ref b), (1, .ref (ad 0)), (2, .ref (ad 100)), (3, .ref (ad 111))] → W p l e room_1 s m #[Value.ref b] below meth c H locs (cells + 4) (slots + 24) Q (F0 m 853 ls [])) : W p l e room_1 s m #[Value.ref b] below meth c H locs (cells) (slots) Q (F0 m 293 ls []) := by
  obtain ⟨hx, hb, hml, hown, hts, hXb, hbl, hbA⟩ := hLa
  have hT : ∀ w ∈ zT, w.before #[Value.ref b] s = true := fun w h => hts w (List.mem_cons_of_mem _ h)
  obtain ⟨P, n, o, A, T, len, flt, pl, out, thr, f, hD, hMd, h111⟩ := hLw
  refine lv_aload_n hx hb dL_law_293 rfl (lv_at hl 2 rfl) ?_
  refine lv_aload_n hx hb dL_law_294 rfl (lv_at hl 1 rfl) ?_
  refine lv_iload hx hb dL_law_295 (lv_at hl 0 rfl) ?_
  refine lv_iconst (v := 1) hx hb dL_law_297 (by decide) ?_
  refine lv_iadd hx hb dL_law_298 ?_
  refine zw_top (nI (i + 1)) (nI_add i 1) ?_
  refine va_sld hx hb hXb hbl hbA Z.2.2.1 (vin (by omega) (by omega)) dL_law_299 ?_
  refine zw_top (xs (i + 1)) (by rw [ncl (by omega)]) ?_
  refine zw_calli (va_runV (As := [.int (xs (i + 1))]) (rest := []) ⟨hx, hb, hml, hown, hts⟩ (c_K_fault l P n o A T len flt pl out hD (xs (i + 1))) (kw_K_fault hts ml_L_68 ⟨Nat.le_of_ble_eq_true rfl, Nat.le_of_ble_eq_true rfl⟩) (Z.preV hD.o0 rfl _) rfl rfl hl.1 rfl (lv_room (Nat.le_of_ble_eq_true rfl)) dL_law_300 ⟨(by show (_ : Nat) ≤ 601024; omega), (by show (_ : Nat) ≤ 7293034; omega)⟩) Z (fun r9 w1 H locs hp Z => ?_)
  obtain ⟨rfl, hw1⟩ := hp
  rw [hw1] at Z
  clear hw1
  obtain ⟨F9, h100⟩ := hMd.o100
  refine lv_aload_n hx hb dL_law_303 rfl (lv_at hl 3 rfl) ?_
  refine lv_aload_n hx hb dL_law_304 rfl (lv_at hl 1 rfl) ?_
  refine lv_iload hx hb dL_law_305 (lv_at hl 0 rfl) ?_
  refine lv_iconst (v := 1) hx hb dL_law_307 (by decide) ?_
  refine lv_iadd hx hb dL_law_308 ?_
  refine zw_top (nI (i + 1)) (nI_add i 1) ?_
  refine va_sld hx hb hXb hbl hbA Z.2.2.1 (vin (by omega) (by omega)) dL_law_309 ?_
  refine zw_top (xs (i + 1)) (by rw [ncl (by omega)]) ?_
  refine zw_calli (va_runV (As := [.int (xs (i + 1))]) (rest := [.int (zflt flt pl (xs (i + 1)))]) ⟨hx, hb, hml, hown, hts⟩ (c_M_fault l P n o A T len flt pl out thr hMd (xs (i + 1))) (kw_M_fault hts ml_L_71 ⟨Nat.le_of_ble_eq_true rfl, Nat.le_of_ble_eq_true rfl⟩) (Z.preV h100 rfl _) rfl rfl hl.1 rfl (lv_room (Nat.le_of_ble_eq_true rfl)) dL_law_310 ⟨(by show (_ : Nat) ≤ 601024; omega), (by show (_ : Nat) ≤ 7293034; omega)⟩) Z (fun r8 w2 H locs hq Z => ?_)
  obtain ⟨rfl, hM2, hk2⟩ := hq
  refine lv_icmp_eq (tgt := 853) hx hb dL_law_313 (by decide) (fun _ => ?_) (fun hc => absurd (show ((zflt flt pl (xs (i + 1))) : Int32) = (zflt flt pl (xs (i + 1))) from rfl) hc)
  refine W.widen (k := cells + 4) (n := slots + 24) (by omega) (by omega) ?_
  exact kk _ _ _ ls ⟨P, n, o, A, T, len, flt, pl, out, 0, f, hD.cong (fun k hk => hk2 k (by omega)), hM2, (hk2 111 (by decide)).trans h111⟩ Z (lv_sub hl [0, 1, 2, 3, 4] rfl)

set_option maxHeartbeats 4000000 in
set_option maxRecDepth 100000 in
theorem lw_c4 (l : Launch) (hnt : l.stackTraces = false) {p : Program} {e : Env} {s : State} {m : MethodId} {below : List Frame} {meth : Method} {c : Code} {Q : State → Prop} {b L : Nat} {xs : Nat → Int32} {G : zG} {ad : Nat → Nat} {w : Nat → Option va_E} {qs qv : Nat} (hLa : zLa p s m c b L xs G) (hX : ∀ U H, G.2.2.2 U H → zTHR G U H) (hXh : ∀ U H, G.2.2.2 U H → zHIGH G U H) (hXs : ∀ U H, G.2.2.2 U H → zSTR G qs qv U H) (hL : L ≤ 3072) (i cells slots : Nat) (hi : i + 6 ≤ L) (hc4 : cells + 4 ≤ 601024) (hs4 : slots + 24 ≤ 7293034) {H : Heap} {locs : List Loc} {ls : Array Slot} (hLw : zLw G ad w) (Z : zw G ad w s H locs) (hl : lv_has ls 7 [(4, .int (nI i)), (0, .ref b), (1, .ref (ad 0)), (2, .ref (ad 100)), (3, .ref (ad 111))]) (kk : ∀ (w' : Nat → Option va_E) (H : Heap) (locs : List Loc) (ls : Array Slot), zLw G ad w' → zw G ad w' s H locs → lv_has ls 7 [(4, .int (nI i)), (0, .ref b), (1, .ref (ad 0)), (2, .ref (ad 100)), (3, .ref (ad 111))] → W p l e room_1 s m #[Value.ref b] below meth c H locs (cells + 4) (slots + 24) Q (F0 m 853 ls [])) : W p l e room_1 s m #[Value.ref b] below meth c H locs (cells) (slots) Q (F0 m 318 ls []) := by
  obtain ⟨hx, hb, hml, hown, hts, hXb, hbl, hbA⟩ := hLa
  have hT : ∀ w ∈ zT, w.before #[Value.ref b] s = true := fun w h => hts w (List.mem_cons_of_mem _ h)
  obtain ⟨P, n, o, A, T, len, flt, pl, out, thr, f, hD, hMd, h111⟩ := hLw
  refine lv_aload_n hx hb dL_law_318 rfl (lv_at hl 2 rfl) ?_
  refine lv_aload_n hx hb dL_law_319 rfl (lv_at hl 1 rfl) ?_
  refine lv_iload hx hb dL_law_320 (lv_at hl 0 rfl) ?_
  refine lv_iconst (v := 1) hx hb dL_law_322 (by decide) ?_
  refine lv_iadd hx hb dL_law_323 ?_
  refine zw_top (nI (i + 1)) (nI_add i 1) ?_
  refine va_sld hx hb hXb hbl hbA Z.2.2.1 (vin (by omega) (by omega)) dL_law_324 ?_
  refine zw_top (xs (i + 1)) (by rw [ncl (by omega)]) ?_
  refine lv_aload_n hx hb dL_law_325 rfl (lv_at hl 1 rfl) ?_
  refine lv_iload hx hb dL_law_326 (lv_at hl 0 rfl) ?_
  refine lv_iconst (v := 2) hx hb dL_law_328 (by decide) ?_
  refine lv_iadd hx hb dL_law_329 ?_
  refine zw_top (nI (i + 2)) (nI_add i 2) ?_
  refine va_sld hx hb hXb hbl hbA Z.2.2.1 (vin (by omega) (by omega)) dL_law_330 ?_
  refine zw_top (xs (i + 2)) (by rw [ncl (by omega)]) ?_
  refine lv_aload_n hx hb dL_law_331 rfl (lv_at hl 1 rfl) ?_
  refine lv_iload hx hb dL_law_332 (lv_at hl 0 rfl) ?_
  refine lv_iconst (v := 3) hx hb dL_law_334 (by decide) ?_
  refine lv_iadd hx hb dL_law_335 ?_
  refine zw_top (nI (i + 3)) (nI_add i 3) ?_
  refine va_sld hx hb hXb hbl hbA Z.2.2.1 (vin (by omega) (by omega)) dL_law_336 ?_
  refine zw_top (xs (i + 3)) (by rw [ncl (by omega)]) ?_
  refine lv_aload_n hx hb dL_law_337 rfl (lv_at hl 1 rfl) ?_
  refine lv_iload hx hb dL_law_338 (lv_at hl 0 rfl) ?_
  refine lv_iconst (v := 4) hx hb dL_law_340 (by decide) ?_
  refine lv_iadd hx hb dL_law_341 ?_
  refine zw_top (nI (i + 4)) (nI_add i 4) ?_
  refine va_sld hx hb hXb hbl hbA Z.2.2.1 (vin (by omega) (by omega)) dL_law_342 ?_
  refine zw_top (xs (i + 4)) (by rw [ncl (by omega)]) ?_
  refine zw_calli (vx_runSW (As := [.ref (ad 0), .int (xs (i + 1)), .int (xs (i + 2)), .int (xs (i + 3)), .int (xs (i + 4))]) (rest := []) ⟨hx, hb, hml, hown, hts⟩ (c_L_add l hnt hX P n o A T len flt pl out hD (xs (i + 1)) (xs (i + 2)) (xs (i + 3)) (xs (i + 4))) (kv_L_add hts ml_L_72 ⟨Nat.le_of_ble_eq_true rfl, Nat.le_of_ble_eq_true rfl⟩) (Z.preS _) rfl rfl hl.1 rfl (lv_room (Nat.le_of_ble_eq_true rfl)) dL_law_343 ⟨(by show (_ : Nat) ≤ 601024; omega), (by show (_ : Nat) ≤ 7293034; omega)⟩) Z (fun r9 w1 H locs hp Z => ?_)
  obtain ⟨hp, hk1⟩ := hp
  have hMd1 := hMd.cong (fun k h1 h2 => hk1 k (by omega))
  obtain ⟨F9, h100⟩ := hMd1.o100
  refine lv_istore (lv' := [(5, .int r9), (4, .int (nI i)), (0, .ref b), (1, .ref (ad 0)), (2, .ref (ad 100)), (3, .ref (ad 111))]) hx hb dL_law_346 hl (by decide) rfl (fun ls hl => ?_)
  refine lv_aload_n hx hb dL_law_348 rfl (lv_at hl 4 rfl) ?_
  refine lv_aload_n hx hb dL_law_349 rfl (lv_at hl 2 rfl) ?_
  refine lv_iload hx hb dL_law_350 (lv_at hl 1 rfl) ?_
  refine lv_iconst (v := 1) hx hb dL_law_352 (by decide) ?_
  refine lv_iadd hx hb dL_law_353 ?_
  refine zw_top (nI (i + 1)) (nI_add i 1) ?_
  refine va_sld hx hb hXb hbl hbA Z.2.2.1 (vin (by omega) (by omega)) dL_law_354 ?_
  refine zw_top (xs (i + 1)) (by rw [ncl (by omega)]) ?_
  refine lv_aload_n hx hb dL_law_355 rfl (lv_at hl 2 rfl) ?_
  refine lv_iload hx hb dL_law_356 (lv_at hl 1 rfl) ?_
  refine lv_iconst (v := 2) hx hb dL_law_358 (by decide) ?_
  refine lv_iadd hx hb dL_law_359 ?_
  refine zw_top (nI (i + 2)) (nI_add i 2) ?_
  refine va_sld hx hb hXb hbl hbA Z.2.2.1 (vin (by omega) (by omega)) dL_law_360 ?_
  refine zw_top (xs (i + 2)) (by rw [ncl (by omega)]) ?_
  refine lv_aload_n hx hb dL_law_361 rfl (lv_at hl 2 rfl) ?_
  refine lv_iload hx hb dL_law_362 (lv_at hl 1 rfl) ?_
  refine lv_iconst (v := 3) hx hb dL_law_364 (by decide) ?_
  refine lv_iadd hx hb dL_law_365 ?_
  refine zw_top (nI (i + 3)) (nI_add i 3) ?_
  refine va_sld hx hb hXb hbl hbA Z.2.2.1 (vin (by omega) (by omega)) dL_law_366 ?_
  refine zw_top (xs (i + 3)) (by rw [ncl (by omega)]) ?_
  refine lv_aload_n hx hb dL_law_367 rfl (lv_at hl 2 rfl) ?_
  refine lv_iload hx hb dL_law_368 (lv_at hl 1 rfl) ?_
  refine lv_iconst (v := 4) hx hb dL_law_370 (by decide) ?_
  refine lv_iadd hx hb dL_law_371 ?_
  refine zw_top (nI (i + 4)) (nI_add i 4) ?_
  refine va_sld hx hb hXb hbl hbA Z.2.2.1 (vin (by omega) (by omega)) dL_law_372 ?_
  refine zw_top (xs (i + 4)) (by rw [ncl (by omega)]) ?_
  refine zw_callv (va_runV (As := [.int (xs (i + 1)), .int (xs (i + 2)), .int (xs (i + 3)), .int (xs (i + 4))]) (rest := []) ⟨hx, hb, hml, hown, hts⟩ (c_M_add l P n o A T len flt pl out thr hMd1 (xs (i + 1)) (xs (i + 2)) (xs (i + 3)) (xs (i + 4))) (kw_M_add hts ml_L_75 ⟨Nat.le_of_ble_eq_true rfl, Nat.le_of_ble_eq_true rfl⟩) (Z.preV h100 rfl _) rfl rfl hl.1 rfl (lv_room (Nat.le_of_ble_eq_true rfl)) dL_law_373 ⟨(by show (_ : Nat) ≤ 601024; omega), (by show (_ : Nat) ≤ 7293034; omega)⟩) Z (fun w2 H locs hq Z => ?_)
  obtain ⟨hq, hk2⟩ := hq
  have g111 : w2 111 = some (zj G 1 f) := (hk2 111 (by decide)).trans ((hk1 111 (by decide)).trans h111)
  rcases hp with ⟨rfl, a1, D1⟩ | ⟨rfl, a1, D1⟩
  · rcases hq with ⟨b1, hM2⟩ | ⟨b1, hM2⟩
    · obtain ⟨F8, h1008⟩ := hM2.o100
      refine lv_aload_n hx hb dL_law_376 rfl (lv_at hl 4 rfl) ?_
      refine zw_calli (va_runV (As := []) (rest := []) ⟨hx, hb, hml, hown, hts⟩ (c_M_thrown l _ _ _ _ _ _ _ _ _ _ hM2) (kw_M_thrown hts ml_L_53 ⟨Nat.le_of_ble_eq_true rfl, Nat.le_of_ble_eq_true rfl⟩) (Z.preV h1008 rfl _) rfl rfl hl.1 rfl (lv_room (Nat.le_of_ble_eq_true rfl)) dL_law_377 ⟨(by show (_ : Nat) ≤ 601024; omega), (by show (_ : Nat) ≤ 7293034; omega)⟩) Z (fun r8 w3 H locs hp Z => ?_)
      obtain ⟨rfl, hw3⟩ := hp
      rw [hw3] at Z
      refine lv_iload hx hb dL_law_380 (lv_at hl 0 rfl) ?_
      refine lv_icmp_eq (tgt := 387) hx hb dL_law_382 (by decide) (fun _ => ?_) (fun hc => absurd (show (0 : Int32) = 0 from rfl) hc)
      refine lv_goto (tgt := 853) hx hb dL_law_387 (by decide) ?_
      refine W.widen (k := cells + 4) (n := slots + 24) (by omega) (by omega) ?_
      exact kk _ _ _ ls ⟨P, n, o, _, T, len, flt, pl, out, 0, f, D1.cong (fun k hk => hk2 k (by omega)), hM2, g111⟩ Z (lv_sub hl [1, 2, 3, 4, 5] rfl)
    · exact absurd a1 b1
  · rcases hq with ⟨b1, hM2⟩ | ⟨b1, hM2⟩
    · exact absurd b1 a1
    · obtain ⟨F8, h1008⟩ := hM2.o100
      refine lv_aload_n hx hb dL_law_376 rfl (lv_at hl 4 rfl) ?_
      refine zw_calli (va_runV (As := []) (rest := []) ⟨hx, hb, hml, hown, hts⟩ (c_M_thrown l _ _ _ _ _ _ _ _ _ _ hM2) (kw_M_thrown hts ml_L_53 ⟨Nat.le_of_ble_eq_true rfl, Nat.le_of_ble_eq_true rfl⟩) (Z.preV h1008 rfl _) rfl rfl hl.1 rfl (lv_room (Nat.le_of_ble_eq_true rfl)) dL_law_377 ⟨(by show (_ : Nat) ≤ 601024; omega), (by show (_ : Nat) ≤ 7293034; omega)⟩) Z (fun r8 w3 H locs hp Z => ?_)
      obtain ⟨rfl, hw3⟩ := hp
      rw [hw3] at Z
      refine lv_iload hx hb dL_law_380 (lv_at hl 0 rfl) ?_
      refine lv_icmp_eq (tgt := 387) hx hb dL_law_382 (by decide) (fun _ => ?_) (fun hc => absurd (show (1 : Int32) = 1 from rfl) hc)
      refine lv_goto (tgt := 853) hx hb dL_law_387 (by decide) ?_
      refine W.widen (k := cells + 4) (n := slots + 24) (by omega) (by omega) ?_
      exact kk _ _ _ ls ⟨P, n, o, _, T, len, flt, pl, out, 1, f, D1.cong (fun k hk => hk2 k (by omega)), hM2, g111⟩ Z (lv_sub hl [1, 2, 3, 4, 5] rfl)

set_option maxHeartbeats 4000000 in
set_option maxRecDepth 100000 in
theorem lw_c5 (l : Launch) (hnt : l.stackTraces = false) {p : Program} {e : Env} {s : State} {m : MethodId} {below : List Frame} {meth : Method} {c : Code} {Q : State → Prop} {b L : Nat} {xs : Nat → Int32} {G : zG} {ad : Nat → Nat} {w : Nat → Option va_E} {qs qv : Nat} (hLa : zLa p s m c b L xs G) (hX : ∀ U H, G.2.2.2 U H → zTHR G U H) (hXh : ∀ U H, G.2.2.2 U H → zHIGH G U H) (hXs : ∀ U H, G.2.2.2 U H → zSTR G qs qv U H) (hL : L ≤ 3072) (i cells slots : Nat) (hi : i + 6 ≤ L) (hc4 : cells + 4 ≤ 601024) (hs4 : slots + 24 ≤ 7293034) {H : Heap} {locs : List Loc} {ls : Array Slot} (hLw : zLw G ad w) (Z : zw G ad w s H locs) (hl : lv_has ls 7 [(4, .int (nI i)), (0, .ref b), (1, .ref (ad 0)), (2, .ref (ad 100)), (3, .ref (ad 111))]) (kk : ∀ (w' : Nat → Option va_E) (H : Heap) (locs : List Loc) (ls : Array Slot), zLw G ad w' → zw G ad w' s H locs → lv_has ls 7 [(4, .int (nI i)), (0, .ref b), (1, .ref (ad 0)), (2, .ref (ad 100)), (3, .ref (ad 111))] → W p l e room_1 s m #[Value.ref b] below meth c H locs (cells + 4) (slots + 24) Q (F0 m 853 ls [])) : W p l e room_1 s m #[Value.ref b] below meth c H locs (cells) (slots) Q (F0 m 390 ls []) := by
  obtain ⟨hx, hb, hml, hown, hts, hXb, hbl, hbA⟩ := hLa
  have hT : ∀ w ∈ zT, w.before #[Value.ref b] s = true := fun w h => hts w (List.mem_cons_of_mem _ h)
  obtain ⟨P, n, o, A, T, len, flt, pl, out, thr, f, hD, hMd, h111⟩ := hLw
  refine lv_aload_n hx hb dL_law_390 rfl (lv_at hl 2 rfl) ?_
  refine lv_aload_n hx hb dL_law_391 rfl (lv_at hl 1 rfl) ?_
  refine lv_iload hx hb dL_law_392 (lv_at hl 0 rfl) ?_
  refine lv_iconst (v := 1) hx hb dL_law_394 (by decide) ?_
  refine lv_iadd hx hb dL_law_395 ?_
  refine zw_top (nI (i + 1)) (nI_add i 1) ?_
  refine va_sld hx hb hXb hbl hbA Z.2.2.1 (vin (by omega) (by omega)) dL_law_396 ?_
  refine zw_top (xs (i + 1)) (by rw [ncl (by omega)]) ?_
  refine lv_aload_n hx hb dL_law_397 rfl (lv_at hl 1 rfl) ?_
  refine lv_iload hx hb dL_law_398 (lv_at hl 0 rfl) ?_
  refine lv_iconst (v := 2) hx hb dL_law_400 (by decide) ?_
  refine lv_iadd hx hb dL_law_401 ?_
  refine zw_top (nI (i + 2)) (nI_add i 2) ?_
  refine va_sld hx hb hXb hbl hbA Z.2.2.1 (vin (by omega) (by omega)) dL_law_402 ?_
  refine zw_top (xs (i + 2)) (by rw [ncl (by omega)]) ?_
  refine lv_aload_n hx hb dL_law_403 rfl (lv_at hl 1 rfl) ?_
  refine lv_iload hx hb dL_law_404 (lv_at hl 0 rfl) ?_
  refine lv_iconst (v := 3) hx hb dL_law_406 (by decide) ?_
  refine lv_iadd hx hb dL_law_407 ?_
  refine zw_top (nI (i + 3)) (nI_add i 3) ?_
  refine va_sld hx hb hXb hbl hbA Z.2.2.1 (vin (by omega) (by omega)) dL_law_408 ?_
  refine zw_top (xs (i + 3)) (by rw [ncl (by omega)]) ?_
  refine zw_calli (vx_runSW (As := [.ref (ad 0), .int (xs (i + 1)), .int (xs (i + 2)), .int (xs (i + 3))]) (rest := []) ⟨hx, hb, hml, hown, hts⟩ (c_L_multiply l hnt hX P n o A T len flt pl out hD (xs (i + 1)) (xs (i + 2)) (xs (i + 3))) (kv_L_multiply hts ml_L_76 ⟨Nat.le_of_ble_eq_true rfl, Nat.le_of_ble_eq_true rfl⟩) (Z.preS _) rfl rfl hl.1 rfl (lv_room (Nat.le_of_ble_eq_true rfl)) dL_law_409 ⟨(by show (_ : Nat) ≤ 601024; omega), (by show (_ : Nat) ≤ 7293034; omega)⟩) Z (fun r9 w1 H locs hp Z => ?_)
  obtain ⟨hp, hk1⟩ := hp
  have hMd1 := hMd.cong (fun k h1 h2 => hk1 k (by omega))
  obtain ⟨F9, h100⟩ := hMd1.o100
  refine lv_istore (lv' := [(5, .int r9), (4, .int (nI i)), (0, .ref b), (1, .ref (ad 0)), (2, .ref (ad 100)), (3, .ref (ad 111))]) hx hb dL_law_412 hl (by decide) rfl (fun ls hl => ?_)
  refine lv_aload_n hx hb dL_law_414 rfl (lv_at hl 4 rfl) ?_
  refine lv_aload_n hx hb dL_law_415 rfl (lv_at hl 2 rfl) ?_
  refine lv_iload hx hb dL_law_416 (lv_at hl 1 rfl) ?_
  refine lv_iconst (v := 1) hx hb dL_law_418 (by decide) ?_
  refine lv_iadd hx hb dL_law_419 ?_
  refine zw_top (nI (i + 1)) (nI_add i 1) ?_
  refine va_sld hx hb hXb hbl hbA Z.2.2.1 (vin (by omega) (by omega)) dL_law_420 ?_
  refine zw_top (xs (i + 1)) (by rw [ncl (by omega)]) ?_
  refine lv_aload_n hx hb dL_law_421 rfl (lv_at hl 2 rfl) ?_
  refine lv_iload hx hb dL_law_422 (lv_at hl 1 rfl) ?_
  refine lv_iconst (v := 2) hx hb dL_law_424 (by decide) ?_
  refine lv_iadd hx hb dL_law_425 ?_
  refine zw_top (nI (i + 2)) (nI_add i 2) ?_
  refine va_sld hx hb hXb hbl hbA Z.2.2.1 (vin (by omega) (by omega)) dL_law_426 ?_
  refine zw_top (xs (i + 2)) (by rw [ncl (by omega)]) ?_
  refine lv_aload_n hx hb dL_law_427 rfl (lv_at hl 2 rfl) ?_
  refine lv_iload hx hb dL_law_428 (lv_at hl 1 rfl) ?_
  refine lv_iconst (v := 3) hx hb dL_law_430 (by decide) ?_
  refine lv_iadd hx hb dL_law_431 ?_
  refine zw_top (nI (i + 3)) (nI_add i 3) ?_
  refine va_sld hx hb hXb hbl hbA Z.2.2.1 (vin (by omega) (by omega)) dL_law_432 ?_
  refine zw_top (xs (i + 3)) (by rw [ncl (by omega)]) ?_
  refine zw_callv (va_runV (As := [.int (xs (i + 1)), .int (xs (i + 2)), .int (xs (i + 3))]) (rest := []) ⟨hx, hb, hml, hown, hts⟩ (c_M_multiply l P n o A T len flt pl out thr hMd1 (xs (i + 1)) (xs (i + 2)) (xs (i + 3))) (kw_M_multiply hts ml_L_78 ⟨Nat.le_of_ble_eq_true rfl, Nat.le_of_ble_eq_true rfl⟩) (Z.preV h100 rfl _) rfl rfl hl.1 rfl (lv_room (Nat.le_of_ble_eq_true rfl)) dL_law_433 ⟨(by show (_ : Nat) ≤ 601024; omega), (by show (_ : Nat) ≤ 7293034; omega)⟩) Z (fun w2 H locs hq Z => ?_)
  obtain ⟨hq, hk2⟩ := hq
  have g111 : w2 111 = some (zj G 1 f) := (hk2 111 (by decide)).trans ((hk1 111 (by decide)).trans h111)
  rcases hp with ⟨rfl, a1, D1⟩ | ⟨rfl, a1, D1⟩ | ⟨rfl, a1, D1⟩
  · rcases hq with ⟨b1, hM2⟩ | ⟨b1, hM2⟩ | ⟨b1, hM2⟩
    · obtain ⟨F8, h1008⟩ := hM2.o100
      refine lv_aload_n hx hb dL_law_436 rfl (lv_at hl 4 rfl) ?_
      refine zw_calli (va_runV (As := []) (rest := []) ⟨hx, hb, hml, hown, hts⟩ (c_M_thrown l _ _ _ _ _ _ _ _ _ _ hM2) (kw_M_thrown hts ml_L_53 ⟨Nat.le_of_ble_eq_true rfl, Nat.le_of_ble_eq_true rfl⟩) (Z.preV h1008 rfl _) rfl rfl hl.1 rfl (lv_room (Nat.le_of_ble_eq_true rfl)) dL_law_437 ⟨(by show (_ : Nat) ≤ 601024; omega), (by show (_ : Nat) ≤ 7293034; omega)⟩) Z (fun r8 w3 H locs hp Z => ?_)
      obtain ⟨rfl, hw3⟩ := hp
      rw [hw3] at Z
      refine lv_iload hx hb dL_law_440 (lv_at hl 0 rfl) ?_
      refine lv_icmp_eq (tgt := 447) hx hb dL_law_442 (by decide) (fun _ => ?_) (fun hc => absurd (show (0 : Int32) = 0 from rfl) hc)
      refine lv_goto (tgt := 853) hx hb dL_law_447 (by decide) ?_
      refine W.widen (k := cells + 4) (n := slots + 24) (by omega) (by omega) ?_
      exact kk _ _ _ ls ⟨P, n, o, _, T, len, flt, pl, out, 0, f, D1.cong (fun k hk => hk2 k (by omega)), hM2, g111⟩ Z (lv_sub hl [1, 2, 3, 4, 5] rfl)
    · exact absurd (a1.2.symm.trans b1.2) (by decide)
    · exact absurd a1.1 b1
  · rcases hq with ⟨b1, hM2⟩ | ⟨b1, hM2⟩ | ⟨b1, hM2⟩
    · exact absurd b1.1 a1
    · exact absurd b1.1 a1
    · obtain ⟨F8, h1008⟩ := hM2.o100
      refine lv_aload_n hx hb dL_law_436 rfl (lv_at hl 4 rfl) ?_
      refine zw_calli (va_runV (As := []) (rest := []) ⟨hx, hb, hml, hown, hts⟩ (c_M_thrown l _ _ _ _ _ _ _ _ _ _ hM2) (kw_M_thrown hts ml_L_53 ⟨Nat.le_of_ble_eq_true rfl, Nat.le_of_ble_eq_true rfl⟩) (Z.preV h1008 rfl _) rfl rfl hl.1 rfl (lv_room (Nat.le_of_ble_eq_true rfl)) dL_law_437 ⟨(by show (_ : Nat) ≤ 601024; omega), (by show (_ : Nat) ≤ 7293034; omega)⟩) Z (fun r8 w3 H locs hp Z => ?_)
      obtain ⟨rfl, hw3⟩ := hp
      rw [hw3] at Z
      refine lv_iload hx hb dL_law_440 (lv_at hl 0 rfl) ?_
      refine lv_icmp_eq (tgt := 447) hx hb dL_law_442 (by decide) (fun _ => ?_) (fun hc => absurd (show (1 : Int32) = 1 from rfl) hc)
      refine lv_goto (tgt := 853) hx hb dL_law_447 (by decide) ?_
      refine W.widen (k := cells + 4) (n := slots + 24) (by omega) (by omega) ?_
      exact kk _ _ _ ls ⟨P, n, o, _, T, len, flt, pl, out, 1, f, D1.cong (fun k hk => hk2 k (by omega)), hM2, g111⟩ Z (lv_sub hl [1, 2, 3, 4, 5] rfl)
  · rcases hq with ⟨b1, hM2⟩ | ⟨b1, hM2⟩ | ⟨b1, hM2⟩
    · exact absurd (b1.2.symm.trans a1.2) (by decide)
    · obtain ⟨F8, h1008⟩ := hM2.o100
      refine lv_aload_n hx hb dL_law_436 rfl (lv_at hl 4 rfl) ?_
      refine zw_calli (va_runV (As := []) (rest := []) ⟨hx, hb, hml, hown, hts⟩ (c_M_thrown l _ _ _ _ _ _ _ _ _ _ hM2) (kw_M_thrown hts ml_L_53 ⟨Nat.le_of_ble_eq_true rfl, Nat.le_of_ble_eq_true rfl⟩) (Z.preV h1008 rfl _) rfl rfl hl.1 rfl (lv_room (Nat.le_of_ble_eq_true rfl)) dL_law_437 ⟨(by show (_ : Nat) ≤ 601024; omega), (by show (_ : Nat) ≤ 7293034; omega)⟩) Z (fun r8 w3 H locs hp Z => ?_)
      obtain ⟨rfl, hw3⟩ := hp
      rw [hw3] at Z
      refine lv_iload hx hb dL_law_440 (lv_at hl 0 rfl) ?_
      refine lv_icmp_eq (tgt := 447) hx hb dL_law_442 (by decide) (fun _ => ?_) (fun hc => absurd (show (2 : Int32) = 2 from rfl) hc)
      refine lv_goto (tgt := 853) hx hb dL_law_447 (by decide) ?_
      refine W.widen (k := cells + 4) (n := slots + 24) (by omega) (by omega) ?_
      exact kk _ _ _ ls ⟨P, n, o, _, T, len, flt, pl, out, 2, f, D1.cong (fun k hk => hk2 k (by omega)), hM2, g111⟩ Z (lv_sub hl [1, 2, 3, 4, 5] rfl)
    · exact absurd a1.1 b1

set_option maxHeartbeats 4000000 in
set_option maxRecDepth 100000 in
theorem lw_c6 (l : Launch) (hnt : l.stackTraces = false) {p : Program} {e : Env} {s : State} {m : MethodId} {below : List Frame} {meth : Method} {c : Code} {Q : State → Prop} {b L : Nat} {xs : Nat → Int32} {G : zG} {ad : Nat → Nat} {w : Nat → Option va_E} {qs qv : Nat} (hLa : zLa p s m c b L xs G) (hX : ∀ U H, G.2.2.2 U H → zTHR G U H) (hXh : ∀ U H, G.2.2.2 U H → zHIGH G U H) (hXs : ∀ U H, G.2.2.2 U H → zSTR G qs qv U H) (hL : L ≤ 3072) (i cells slots : Nat) (hi : i + 6 ≤ L) (hc4 : cells + 4 ≤ 601024) (hs4 : slots + 24 ≤ 7293034) {H : Heap} {locs : List Loc} {ls : Array Slot} (hLw : zLw G ad w) (Z : zw G ad w s H locs) (hl : lv_has ls 7 [(4, .int (nI i)), (0, .ref b), (1, .ref (ad 0)), (2, .ref (ad 100)), (3, .ref (ad 111))]) (kk : ∀ (w' : Nat → Option va_E) (H : Heap) (locs : List Loc) (ls : Array Slot), zLw G ad w' → zw G ad w' s H locs → lv_has ls 7 [(4, .int (nI i)), (0, .ref b), (1, .ref (ad 0)), (2, .ref (ad 100)), (3, .ref (ad 111))] → W p l e room_1 s m #[Value.ref b] below meth c H locs (cells + 4) (slots + 24) Q (F0 m 853 ls [])) : W p l e room_1 s m #[Value.ref b] below meth c H locs (cells) (slots) Q (F0 m 450 ls []) := by
  obtain ⟨hx, hb, hml, hown, hts, hXb, hbl, hbA⟩ := hLa
  have hT : ∀ w ∈ zT, w.before #[Value.ref b] s = true := fun w h => hts w (List.mem_cons_of_mem _ h)
  obtain ⟨P, n, o, A, T, len, flt, pl, out, thr, f, hD, hMd, h111⟩ := hLw
  refine lv_aload_n hx hb dL_law_450 rfl (lv_at hl 2 rfl) ?_
  refine lv_aload_n hx hb dL_law_451 rfl (lv_at hl 1 rfl) ?_
  refine lv_iload hx hb dL_law_452 (lv_at hl 0 rfl) ?_
  refine lv_iconst (v := 1) hx hb dL_law_454 (by decide) ?_
  refine lv_iadd hx hb dL_law_455 ?_
  refine zw_top (nI (i + 1)) (nI_add i 1) ?_
  refine va_sld hx hb hXb hbl hbA Z.2.2.1 (vin (by omega) (by omega)) dL_law_456 ?_
  refine zw_top (xs (i + 1)) (by rw [ncl (by omega)]) ?_
  refine lv_aload_n hx hb dL_law_457 rfl (lv_at hl 1 rfl) ?_
  refine lv_iload hx hb dL_law_458 (lv_at hl 0 rfl) ?_
  refine lv_iconst (v := 2) hx hb dL_law_460 (by decide) ?_
  refine lv_iadd hx hb dL_law_461 ?_
  refine zw_top (nI (i + 2)) (nI_add i 2) ?_
  refine va_sld hx hb hXb hbl hbA Z.2.2.1 (vin (by omega) (by omega)) dL_law_462 ?_
  refine zw_top (xs (i + 2)) (by rw [ncl (by omega)]) ?_
  refine lv_aload_n hx hb dL_law_463 rfl (lv_at hl 1 rfl) ?_
  refine lv_iload hx hb dL_law_464 (lv_at hl 0 rfl) ?_
  refine lv_iconst (v := 3) hx hb dL_law_466 (by decide) ?_
  refine lv_iadd hx hb dL_law_467 ?_
  refine zw_top (nI (i + 3)) (nI_add i 3) ?_
  refine va_sld hx hb hXb hbl hbA Z.2.2.1 (vin (by omega) (by omega)) dL_law_468 ?_
  refine zw_top (xs (i + 3)) (by rw [ncl (by omega)]) ?_
  refine zw_calli (vx_runSW (As := [.ref (ad 0), .int (xs (i + 1)), .int (xs (i + 2)), .int (xs (i + 3))]) (rest := []) ⟨hx, hb, hml, hown, hts⟩ (c_L_derive l hnt hX P n o A T len flt pl out hD (xs (i + 1)) (xs (i + 2)) (xs (i + 3))) (kv_L_derive hts ml_L_79 ⟨Nat.le_of_ble_eq_true rfl, Nat.le_of_ble_eq_true rfl⟩) (Z.preS _) rfl rfl hl.1 rfl (lv_room (Nat.le_of_ble_eq_true rfl)) dL_law_469 ⟨(by show (_ : Nat) ≤ 601024; omega), (by show (_ : Nat) ≤ 7293034; omega)⟩) Z (fun r9 w1 H locs hp Z => ?_)
  obtain ⟨hp, hk1⟩ := hp
  have hMd1 := hMd.cong (fun k h1 h2 => hk1 k (by omega))
  obtain ⟨F9, h100⟩ := hMd1.o100
  refine lv_istore (lv' := [(5, .int r9), (4, .int (nI i)), (0, .ref b), (1, .ref (ad 0)), (2, .ref (ad 100)), (3, .ref (ad 111))]) hx hb dL_law_472 hl (by decide) rfl (fun ls hl => ?_)
  refine lv_aload_n hx hb dL_law_474 rfl (lv_at hl 4 rfl) ?_
  refine lv_aload_n hx hb dL_law_475 rfl (lv_at hl 2 rfl) ?_
  refine lv_iload hx hb dL_law_476 (lv_at hl 1 rfl) ?_
  refine lv_iconst (v := 1) hx hb dL_law_478 (by decide) ?_
  refine lv_iadd hx hb dL_law_479 ?_
  refine zw_top (nI (i + 1)) (nI_add i 1) ?_
  refine va_sld hx hb hXb hbl hbA Z.2.2.1 (vin (by omega) (by omega)) dL_law_480 ?_
  refine zw_top (xs (i + 1)) (by rw [ncl (by omega)]) ?_
  refine lv_aload_n hx hb dL_law_481 rfl (lv_at hl 2 rfl) ?_
  refine lv_iload hx hb dL_law_482 (lv_at hl 1 rfl) ?_
  refine lv_iconst (v := 2) hx hb dL_law_484 (by decide) ?_
  refine lv_iadd hx hb dL_law_485 ?_
  refine zw_top (nI (i + 2)) (nI_add i 2) ?_
  refine va_sld hx hb hXb hbl hbA Z.2.2.1 (vin (by omega) (by omega)) dL_law_486 ?_
  refine zw_top (xs (i + 2)) (by rw [ncl (by omega)]) ?_
  refine lv_aload_n hx hb dL_law_487 rfl (lv_at hl 2 rfl) ?_
  refine lv_iload hx hb dL_law_488 (lv_at hl 1 rfl) ?_
  refine lv_iconst (v := 3) hx hb dL_law_490 (by decide) ?_
  refine lv_iadd hx hb dL_law_491 ?_
  refine zw_top (nI (i + 3)) (nI_add i 3) ?_
  refine va_sld hx hb hXb hbl hbA Z.2.2.1 (vin (by omega) (by omega)) dL_law_492 ?_
  refine zw_top (xs (i + 3)) (by rw [ncl (by omega)]) ?_
  refine zw_callv (va_runV (As := [.int (xs (i + 1)), .int (xs (i + 2)), .int (xs (i + 3))]) (rest := []) ⟨hx, hb, hml, hown, hts⟩ (c_M_derive l P n o A T len flt pl out thr hMd1 (xs (i + 1)) (xs (i + 2)) (xs (i + 3))) (kw_M_derive hts ml_L_81 ⟨Nat.le_of_ble_eq_true rfl, Nat.le_of_ble_eq_true rfl⟩) (Z.preV h100 rfl _) rfl rfl hl.1 rfl (lv_room (Nat.le_of_ble_eq_true rfl)) dL_law_493 ⟨(by show (_ : Nat) ≤ 601024; omega), (by show (_ : Nat) ≤ 7293034; omega)⟩) Z (fun w2 H locs hq Z => ?_)
  obtain ⟨hq, hk2⟩ := hq
  have g111 : w2 111 = some (zj G 1 f) := (hk2 111 (by decide)).trans ((hk1 111 (by decide)).trans h111)
  rcases hp with ⟨rfl, a1, D1⟩ | ⟨rfl, a1, D1⟩
  · rcases hq with ⟨b1, hM2⟩ | ⟨b1, hM2⟩
    · obtain ⟨F8, h1008⟩ := hM2.o100
      refine lv_aload_n hx hb dL_law_496 rfl (lv_at hl 4 rfl) ?_
      refine zw_calli (va_runV (As := []) (rest := []) ⟨hx, hb, hml, hown, hts⟩ (c_M_thrown l _ _ _ _ _ _ _ _ _ _ hM2) (kw_M_thrown hts ml_L_53 ⟨Nat.le_of_ble_eq_true rfl, Nat.le_of_ble_eq_true rfl⟩) (Z.preV h1008 rfl _) rfl rfl hl.1 rfl (lv_room (Nat.le_of_ble_eq_true rfl)) dL_law_497 ⟨(by show (_ : Nat) ≤ 601024; omega), (by show (_ : Nat) ≤ 7293034; omega)⟩) Z (fun r8 w3 H locs hp Z => ?_)
      obtain ⟨rfl, hw3⟩ := hp
      rw [hw3] at Z
      refine lv_iload hx hb dL_law_500 (lv_at hl 0 rfl) ?_
      refine lv_icmp_eq (tgt := 507) hx hb dL_law_502 (by decide) (fun _ => ?_) (fun hc => absurd (show (0 : Int32) = 0 from rfl) hc)
      refine lv_goto (tgt := 853) hx hb dL_law_507 (by decide) ?_
      refine W.widen (k := cells + 4) (n := slots + 24) (by omega) (by omega) ?_
      exact kk _ _ _ ls ⟨P, n, o, _, T, len, flt, pl, out, 0, f, D1.cong (fun k hk => hk2 k (by omega)), hM2, g111⟩ Z (lv_sub hl [1, 2, 3, 4, 5] rfl)
    · exact absurd a1 b1
  · rcases hq with ⟨b1, hM2⟩ | ⟨b1, hM2⟩
    · exact absurd b1 a1
    · obtain ⟨F8, h1008⟩ := hM2.o100
      refine lv_aload_n hx hb dL_law_496 rfl (lv_at hl 4 rfl) ?_
      refine zw_calli (va_runV (As := []) (rest := []) ⟨hx, hb, hml, hown, hts⟩ (c_M_thrown l _ _ _ _ _ _ _ _ _ _ hM2) (kw_M_thrown hts ml_L_53 ⟨Nat.le_of_ble_eq_true rfl, Nat.le_of_ble_eq_true rfl⟩) (Z.preV h1008 rfl _) rfl rfl hl.1 rfl (lv_room (Nat.le_of_ble_eq_true rfl)) dL_law_497 ⟨(by show (_ : Nat) ≤ 601024; omega), (by show (_ : Nat) ≤ 7293034; omega)⟩) Z (fun r8 w3 H locs hp Z => ?_)
      obtain ⟨rfl, hw3⟩ := hp
      rw [hw3] at Z
      refine lv_iload hx hb dL_law_500 (lv_at hl 0 rfl) ?_
      refine lv_icmp_eq (tgt := 507) hx hb dL_law_502 (by decide) (fun _ => ?_) (fun hc => absurd (show (1 : Int32) = 1 from rfl) hc)
      refine lv_goto (tgt := 853) hx hb dL_law_507 (by decide) ?_
      refine W.widen (k := cells + 4) (n := slots + 24) (by omega) (by omega) ?_
      exact kk _ _ _ ls ⟨P, n, o, _, T, len, flt, pl, out, 1, f, D1.cong (fun k hk => hk2 k (by omega)), hM2, g111⟩ Z (lv_sub hl [1, 2, 3, 4, 5] rfl)

set_option maxHeartbeats 4000000 in
set_option maxRecDepth 100000 in
theorem lw_c7 (l : Launch) (hnt : l.stackTraces = false) {p : Program} {e : Env} {s : State} {m : MethodId} {below : List Frame} {meth : Method} {c : Code} {Q : State → Prop} {b L : Nat} {xs : Nat → Int32} {G : zG} {ad : Nat → Nat} {w : Nat → Option va_E} {qs qv : Nat} (hLa : zLa p s m c b L xs G) (hX : ∀ U H, G.2.2.2 U H → zTHR G U H) (hXh : ∀ U H, G.2.2.2 U H → zHIGH G U H) (hXs : ∀ U H, G.2.2.2 U H → zSTR G qs qv U H) (hL : L ≤ 3072) (i cells slots : Nat) (hi : i + 6 ≤ L) (hc4 : cells + 4 ≤ 601024) (hs4 : slots + 24 ≤ 7293034) {H : Heap} {locs : List Loc} {ls : Array Slot} (hLw : zLw G ad w) (Z : zw G ad w s H locs) (hl : lv_has ls 7 [(4, .int (nI i)), (0, .ref b), (1, .ref (ad 0)), (2, .ref (ad 100)), (3, .ref (ad 111))]) (kk : ∀ (w' : Nat → Option va_E) (H : Heap) (locs : List Loc) (ls : Array Slot), zLw G ad w' → zw G ad w' s H locs → lv_has ls 7 [(4, .int (nI i)), (0, .ref b), (1, .ref (ad 0)), (2, .ref (ad 100)), (3, .ref (ad 111))] → W p l e room_1 s m #[Value.ref b] below meth c H locs (cells + 4) (slots + 24) Q (F0 m 853 ls [])) : W p l e room_1 s m #[Value.ref b] below meth c H locs (cells) (slots) Q (F0 m 510 ls []) := by
  obtain ⟨hx, hb, hml, hown, hts, hXb, hbl, hbA⟩ := hLa
  have hT : ∀ w ∈ zT, w.before #[Value.ref b] s = true := fun w h => hts w (List.mem_cons_of_mem _ h)
  obtain ⟨P, n, o, A, T, len, flt, pl, out, thr, f, hD, hMd, h111⟩ := hLw
  refine lv_aload_n hx hb dL_law_510 rfl (lv_at hl 2 rfl) ?_
  refine lv_aload_n hx hb dL_law_511 rfl (lv_at hl 1 rfl) ?_
  refine lv_iload hx hb dL_law_512 (lv_at hl 0 rfl) ?_
  refine lv_iconst (v := 1) hx hb dL_law_514 (by decide) ?_
  refine lv_iadd hx hb dL_law_515 ?_
  refine zw_top (nI (i + 1)) (nI_add i 1) ?_
  refine va_sld hx hb hXb hbl hbA Z.2.2.1 (vin (by omega) (by omega)) dL_law_516 ?_
  refine zw_top (xs (i + 1)) (by rw [ncl (by omega)]) ?_
  refine lv_aload_n hx hb dL_law_517 rfl (lv_at hl 1 rfl) ?_
  refine lv_iload hx hb dL_law_518 (lv_at hl 0 rfl) ?_
  refine lv_iconst (v := 2) hx hb dL_law_520 (by decide) ?_
  refine lv_iadd hx hb dL_law_521 ?_
  refine zw_top (nI (i + 2)) (nI_add i 2) ?_
  refine va_sld hx hb hXb hbl hbA Z.2.2.1 (vin (by omega) (by omega)) dL_law_522 ?_
  refine zw_top (xs (i + 2)) (by rw [ncl (by omega)]) ?_
  refine lv_aload_n hx hb dL_law_523 rfl (lv_at hl 1 rfl) ?_
  refine lv_iload hx hb dL_law_524 (lv_at hl 0 rfl) ?_
  refine lv_iconst (v := 3) hx hb dL_law_526 (by decide) ?_
  refine lv_iadd hx hb dL_law_527 ?_
  refine zw_top (nI (i + 3)) (nI_add i 3) ?_
  refine va_sld hx hb hXb hbl hbA Z.2.2.1 (vin (by omega) (by omega)) dL_law_528 ?_
  refine zw_top (xs (i + 3)) (by rw [ncl (by omega)]) ?_
  refine lv_aload_n hx hb dL_law_529 rfl (lv_at hl 1 rfl) ?_
  refine lv_iload hx hb dL_law_530 (lv_at hl 0 rfl) ?_
  refine lv_iconst (v := 4) hx hb dL_law_532 (by decide) ?_
  refine lv_iadd hx hb dL_law_533 ?_
  refine zw_top (nI (i + 4)) (nI_add i 4) ?_
  refine va_sld hx hb hXb hbl hbA Z.2.2.1 (vin (by omega) (by omega)) dL_law_534 ?_
  refine zw_top (xs (i + 4)) (by rw [ncl (by omega)]) ?_
  refine zw_calli (vx_runSW (As := [.ref (ad 0), .int (xs (i + 1)), .int (xs (i + 2)), .int (xs (i + 3)), .int (xs (i + 4))]) (rest := []) ⟨hx, hb, hml, hown, hts⟩ (c_L_set l hnt hX P n o A T len flt pl out hD (xs (i + 1)) (xs (i + 2)) (xs (i + 3)) (xs (i + 4))) (kv_L_set hts ml_L_82 ⟨Nat.le_of_ble_eq_true rfl, Nat.le_of_ble_eq_true rfl⟩) (Z.preS _) rfl rfl hl.1 rfl (lv_room (Nat.le_of_ble_eq_true rfl)) dL_law_535 ⟨(by show (_ : Nat) ≤ 601024; omega), (by show (_ : Nat) ≤ 7293034; omega)⟩) Z (fun r9 w1 H locs hp Z => ?_)
  obtain ⟨hp, hk1⟩ := hp
  have hMd1 := hMd.cong (fun k h1 h2 => hk1 k (by omega))
  obtain ⟨F9, h100⟩ := hMd1.o100
  refine lv_istore (lv' := [(5, .int r9), (4, .int (nI i)), (0, .ref b), (1, .ref (ad 0)), (2, .ref (ad 100)), (3, .ref (ad 111))]) hx hb dL_law_538 hl (by decide) rfl (fun ls hl => ?_)
  refine lv_aload_n hx hb dL_law_540 rfl (lv_at hl 4 rfl) ?_
  refine lv_aload_n hx hb dL_law_541 rfl (lv_at hl 2 rfl) ?_
  refine lv_iload hx hb dL_law_542 (lv_at hl 1 rfl) ?_
  refine lv_iconst (v := 1) hx hb dL_law_544 (by decide) ?_
  refine lv_iadd hx hb dL_law_545 ?_
  refine zw_top (nI (i + 1)) (nI_add i 1) ?_
  refine va_sld hx hb hXb hbl hbA Z.2.2.1 (vin (by omega) (by omega)) dL_law_546 ?_
  refine zw_top (xs (i + 1)) (by rw [ncl (by omega)]) ?_
  refine lv_aload_n hx hb dL_law_547 rfl (lv_at hl 2 rfl) ?_
  refine lv_iload hx hb dL_law_548 (lv_at hl 1 rfl) ?_
  refine lv_iconst (v := 2) hx hb dL_law_550 (by decide) ?_
  refine lv_iadd hx hb dL_law_551 ?_
  refine zw_top (nI (i + 2)) (nI_add i 2) ?_
  refine va_sld hx hb hXb hbl hbA Z.2.2.1 (vin (by omega) (by omega)) dL_law_552 ?_
  refine zw_top (xs (i + 2)) (by rw [ncl (by omega)]) ?_
  refine lv_aload_n hx hb dL_law_553 rfl (lv_at hl 2 rfl) ?_
  refine lv_iload hx hb dL_law_554 (lv_at hl 1 rfl) ?_
  refine lv_iconst (v := 3) hx hb dL_law_556 (by decide) ?_
  refine lv_iadd hx hb dL_law_557 ?_
  refine zw_top (nI (i + 3)) (nI_add i 3) ?_
  refine va_sld hx hb hXb hbl hbA Z.2.2.1 (vin (by omega) (by omega)) dL_law_558 ?_
  refine zw_top (xs (i + 3)) (by rw [ncl (by omega)]) ?_
  refine lv_aload_n hx hb dL_law_559 rfl (lv_at hl 2 rfl) ?_
  refine lv_iload hx hb dL_law_560 (lv_at hl 1 rfl) ?_
  refine lv_iconst (v := 4) hx hb dL_law_562 (by decide) ?_
  refine lv_iadd hx hb dL_law_563 ?_
  refine zw_top (nI (i + 4)) (nI_add i 4) ?_
  refine va_sld hx hb hXb hbl hbA Z.2.2.1 (vin (by omega) (by omega)) dL_law_564 ?_
  refine zw_top (xs (i + 4)) (by rw [ncl (by omega)]) ?_
  refine zw_callv (va_runV (As := [.int (xs (i + 1)), .int (xs (i + 2)), .int (xs (i + 3)), .int (xs (i + 4))]) (rest := []) ⟨hx, hb, hml, hown, hts⟩ (c_M_set l P n o A T len flt pl out thr hMd1 (xs (i + 1)) (xs (i + 2)) (xs (i + 3)) (xs (i + 4))) (kw_M_set hts ml_L_84 ⟨Nat.le_of_ble_eq_true rfl, Nat.le_of_ble_eq_true rfl⟩) (Z.preV h100 rfl _) rfl rfl hl.1 rfl (lv_room (Nat.le_of_ble_eq_true rfl)) dL_law_565 ⟨(by show (_ : Nat) ≤ 601024; omega), (by show (_ : Nat) ≤ 7293034; omega)⟩) Z (fun w2 H locs hq Z => ?_)
  obtain ⟨hq, hk2⟩ := hq
  have g111 : w2 111 = some (zj G 1 f) := (hk2 111 (by decide)).trans ((hk1 111 (by decide)).trans h111)
  rcases hp with ⟨rfl, a1, D1⟩ | ⟨rfl, a1, D1⟩
  · rcases hq with ⟨b1, hM2⟩ | ⟨b1, hM2⟩
    · obtain ⟨F8, h1008⟩ := hM2.o100
      refine lv_aload_n hx hb dL_law_568 rfl (lv_at hl 4 rfl) ?_
      refine zw_calli (va_runV (As := []) (rest := []) ⟨hx, hb, hml, hown, hts⟩ (c_M_thrown l _ _ _ _ _ _ _ _ _ _ hM2) (kw_M_thrown hts ml_L_53 ⟨Nat.le_of_ble_eq_true rfl, Nat.le_of_ble_eq_true rfl⟩) (Z.preV h1008 rfl _) rfl rfl hl.1 rfl (lv_room (Nat.le_of_ble_eq_true rfl)) dL_law_569 ⟨(by show (_ : Nat) ≤ 601024; omega), (by show (_ : Nat) ≤ 7293034; omega)⟩) Z (fun r8 w3 H locs hp Z => ?_)
      obtain ⟨rfl, hw3⟩ := hp
      rw [hw3] at Z
      refine lv_iload hx hb dL_law_572 (lv_at hl 0 rfl) ?_
      refine lv_icmp_eq (tgt := 579) hx hb dL_law_574 (by decide) (fun _ => ?_) (fun hc => absurd (show (0 : Int32) = 0 from rfl) hc)
      refine lv_goto (tgt := 853) hx hb dL_law_579 (by decide) ?_
      refine W.widen (k := cells + 4) (n := slots + 24) (by omega) (by omega) ?_
      exact kk _ _ _ ls ⟨P, n, o, _, T, len, flt, pl, out, 0, f, D1.cong (fun k hk => hk2 k (by omega)), hM2, g111⟩ Z (lv_sub hl [1, 2, 3, 4, 5] rfl)
    · exact absurd a1 b1
  · rcases hq with ⟨b1, hM2⟩ | ⟨b1, hM2⟩
    · exact absurd b1 a1
    · obtain ⟨F8, h1008⟩ := hM2.o100
      refine lv_aload_n hx hb dL_law_568 rfl (lv_at hl 4 rfl) ?_
      refine zw_calli (va_runV (As := []) (rest := []) ⟨hx, hb, hml, hown, hts⟩ (c_M_thrown l _ _ _ _ _ _ _ _ _ _ hM2) (kw_M_thrown hts ml_L_53 ⟨Nat.le_of_ble_eq_true rfl, Nat.le_of_ble_eq_true rfl⟩) (Z.preV h1008 rfl _) rfl rfl hl.1 rfl (lv_room (Nat.le_of_ble_eq_true rfl)) dL_law_569 ⟨(by show (_ : Nat) ≤ 601024; omega), (by show (_ : Nat) ≤ 7293034; omega)⟩) Z (fun r8 w3 H locs hp Z => ?_)
      obtain ⟨rfl, hw3⟩ := hp
      rw [hw3] at Z
      refine lv_iload hx hb dL_law_572 (lv_at hl 0 rfl) ?_
      refine lv_icmp_eq (tgt := 579) hx hb dL_law_574 (by decide) (fun _ => ?_) (fun hc => absurd (show (1 : Int32) = 1 from rfl) hc)
      refine lv_goto (tgt := 853) hx hb dL_law_579 (by decide) ?_
      refine W.widen (k := cells + 4) (n := slots + 24) (by omega) (by omega) ?_
      exact kk _ _ _ ls ⟨P, n, o, _, T, len, flt, pl, out, 1, f, D1.cong (fun k hk => hk2 k (by omega)), hM2, g111⟩ Z (lv_sub hl [1, 2, 3, 4, 5] rfl)

set_option maxHeartbeats 4000000 in
set_option maxRecDepth 100000 in
theorem lw_c9 (l : Launch) (hnt : l.stackTraces = false) {p : Program} {e : Env} {s : State} {m : MethodId} {below : List Frame} {meth : Method} {c : Code} {Q : State → Prop} {b L : Nat} {xs : Nat → Int32} {G : zG} {ad : Nat → Nat} {w : Nat → Option va_E} {qs qv : Nat} (hLa : zLa p s m c b L xs G) (hX : ∀ U H, G.2.2.2 U H → zTHR G U H) (hXh : ∀ U H, G.2.2.2 U H → zHIGH G U H) (hXs : ∀ U H, G.2.2.2 U H → zSTR G qs qv U H) (hL : L ≤ 3072) (i cells slots : Nat) (hi : i + 6 ≤ L) (hc4 : cells + 4 ≤ 601024) (hs4 : slots + 24 ≤ 7293034) {H : Heap} {locs : List Loc} {ls : Array Slot} (hLw : zLw G ad w) (Z : zw G ad w s H locs) (hl : lv_has ls 7 [(4, .int (nI i)), (0, .ref b), (1, .ref (ad 0)), (2, .ref (ad 100)), (3, .ref (ad 111))]) (kk : ∀ (w' : Nat → Option va_E) (H : Heap) (locs : List Loc) (ls : Array Slot), zLw G ad w' → zw G ad w' s H locs → lv_has ls 7 [(4, .int (nI i)), (0, .ref b), (1, .ref (ad 0)), (2, .ref (ad 100)), (3, .ref (ad 111))] → W p l e room_1 s m #[Value.ref b] below meth c H locs (cells + 4) (slots + 24) Q (F0 m 853 ls [])) : W p l e room_1 s m #[Value.ref b] below meth c H locs (cells) (slots) Q (F0 m 686 ls []) := by
  obtain ⟨hx, hb, hml, hown, hts, hXb, hbl, hbA⟩ := hLa
  have hT : ∀ w ∈ zT, w.before #[Value.ref b] s = true := fun w h => hts w (List.mem_cons_of_mem _ h)
  obtain ⟨P, n, o, A, T, len, flt, pl, out, thr, f, hD, hMd, h111⟩ := hLw
  refine lv_aload_n hx hb dL_law_686 rfl (lv_at hl 2 rfl) ?_
  refine lv_aload_n hx hb dL_law_687 rfl (lv_at hl 1 rfl) ?_
  refine lv_iload hx hb dL_law_688 (lv_at hl 0 rfl) ?_
  refine lv_iconst (v := 1) hx hb dL_law_690 (by decide) ?_
  refine lv_iadd hx hb dL_law_691 ?_
  refine zw_top (nI (i + 1)) (nI_add i 1) ?_
  refine va_sld hx hb hXb hbl hbA Z.2.2.1 (vin (by omega) (by omega)) dL_law_692 ?_
  refine zw_top (xs (i + 1)) (by rw [ncl (by omega)]) ?_
  refine lv_aload_n hx hb dL_law_693 rfl (lv_at hl 1 rfl) ?_
  refine lv_iload hx hb dL_law_694 (lv_at hl 0 rfl) ?_
  refine lv_iconst (v := 2) hx hb dL_law_696 (by decide) ?_
  refine lv_iadd hx hb dL_law_697 ?_
  refine zw_top (nI (i + 2)) (nI_add i 2) ?_
  refine va_sld hx hb hXb hbl hbA Z.2.2.1 (vin (by omega) (by omega)) dL_law_698 ?_
  refine zw_top (xs (i + 2)) (by rw [ncl (by omega)]) ?_
  refine zw_calli (va_runV (As := [.int (xs (i + 1)), .int (xs (i + 2))]) (rest := []) ⟨hx, hb, hml, hown, hts⟩ (c_K_about l P n o A T len flt pl out hD (xs (i + 1)) (xs (i + 2))) (kw_K_about hts ml_L_89 ⟨Nat.le_of_ble_eq_true rfl, Nat.le_of_ble_eq_true rfl⟩) (Z.preV hD.o0 rfl _) rfl rfl hl.1 rfl (lv_room (Nat.le_of_ble_eq_true rfl)) dL_law_699 ⟨(by show (_ : Nat) ≤ 601024; omega), (by show (_ : Nat) ≤ 7293034; omega)⟩) Z (fun r9 w1 H locs hp Z => ?_)
  obtain ⟨rfl, hw1⟩ := hp
  rw [hw1] at Z
  clear hw1
  obtain ⟨F9, h100⟩ := hMd.o100
  refine lv_aload_n hx hb dL_law_702 rfl (lv_at hl 3 rfl) ?_
  refine lv_aload_n hx hb dL_law_703 rfl (lv_at hl 1 rfl) ?_
  refine lv_iload hx hb dL_law_704 (lv_at hl 0 rfl) ?_
  refine lv_iconst (v := 1) hx hb dL_law_706 (by decide) ?_
  refine lv_iadd hx hb dL_law_707 ?_
  refine zw_top (nI (i + 1)) (nI_add i 1) ?_
  refine va_sld hx hb hXb hbl hbA Z.2.2.1 (vin (by omega) (by omega)) dL_law_708 ?_
  refine zw_top (xs (i + 1)) (by rw [ncl (by omega)]) ?_
  refine lv_aload_n hx hb dL_law_709 rfl (lv_at hl 1 rfl) ?_
  refine lv_iload hx hb dL_law_710 (lv_at hl 0 rfl) ?_
  refine lv_iconst (v := 2) hx hb dL_law_712 (by decide) ?_
  refine lv_iadd hx hb dL_law_713 ?_
  refine zw_top (nI (i + 2)) (nI_add i 2) ?_
  refine va_sld hx hb hXb hbl hbA Z.2.2.1 (vin (by omega) (by omega)) dL_law_714 ?_
  refine zw_top (xs (i + 2)) (by rw [ncl (by omega)]) ?_
  refine zw_calli (va_runV (As := [.int (xs (i + 1)), .int (xs (i + 2))]) (rest := [.int (zabt n o A (xs (i + 1)) (xs (i + 2)))]) ⟨hx, hb, hml, hown, hts⟩ (c_M_about l P n o A T len flt pl out thr hMd (xs (i + 1)) (xs (i + 2))) (kw_M_about hts ml_L_93 ⟨Nat.le_of_ble_eq_true rfl, Nat.le_of_ble_eq_true rfl⟩) (Z.preV h100 rfl _) rfl rfl hl.1 rfl (lv_room (Nat.le_of_ble_eq_true rfl)) dL_law_715 ⟨(by show (_ : Nat) ≤ 601024; omega), (by show (_ : Nat) ≤ 7293034; omega)⟩) Z (fun r8 w2 H locs hq Z => ?_)
  obtain ⟨rfl, hM2, hk2⟩ := hq
  refine lv_icmp_eq (tgt := 853) hx hb dL_law_718 (by decide) (fun _ => ?_) (fun hc => absurd (show ((zabt n o A (xs (i + 1)) (xs (i + 2))) : Int32) = (zabt n o A (xs (i + 1)) (xs (i + 2))) from rfl) hc)
  refine W.widen (k := cells + 4) (n := slots + 24) (by omega) (by omega) ?_
  exact kk _ _ _ ls ⟨P, n, o, A, T, len, flt, pl, out, 0, f, hD.cong (fun k hk => hk2 k (by omega)), hM2, (hk2 111 (by decide)).trans h111⟩ Z (lv_sub hl [0, 1, 2, 3, 4] rfl)

set_option maxHeartbeats 4000000 in
set_option maxRecDepth 100000 in
theorem lw_c10 (l : Launch) (hnt : l.stackTraces = false) {p : Program} {e : Env} {s : State} {m : MethodId} {below : List Frame} {meth : Method} {c : Code} {Q : State → Prop} {b L : Nat} {xs : Nat → Int32} {G : zG} {ad : Nat → Nat} {w : Nat → Option va_E} {qs qv : Nat} (hLa : zLa p s m c b L xs G) (hX : ∀ U H, G.2.2.2 U H → zTHR G U H) (hXh : ∀ U H, G.2.2.2 U H → zHIGH G U H) (hXs : ∀ U H, G.2.2.2 U H → zSTR G qs qv U H) (hL : L ≤ 3072) (i cells slots : Nat) (hi : i + 6 ≤ L) (hc4 : cells + 4 ≤ 601024) (hs4 : slots + 24 ≤ 7293034) {H : Heap} {locs : List Loc} {ls : Array Slot} (hLw : zLw G ad w) (Z : zw G ad w s H locs) (hl : lv_has ls 7 [(4, .int (nI i)), (0, .ref b), (1, .ref (ad 0)), (2, .ref (ad 100)), (3, .ref (ad 111))]) (kk : ∀ (w' : Nat → Option va_E) (H : Heap) (locs : List Loc) (ls : Array Slot), zLw G ad w' → zw G ad w' s H locs → lv_has ls 7 [(4, .int (nI i)), (0, .ref b), (1, .ref (ad 0)), (2, .ref (ad 100)), (3, .ref (ad 111))] → W p l e room_1 s m #[Value.ref b] below meth c H locs (cells + 4) (slots + 24) Q (F0 m 853 ls [])) : W p l e room_1 s m #[Value.ref b] below meth c H locs (cells) (slots) Q (F0 m 723 ls []) := by
  obtain ⟨hx, hb, hml, hown, hts, hXb, hbl, hbA⟩ := hLa
  have hT : ∀ w ∈ zT, w.before #[Value.ref b] s = true := fun w h => hts w (List.mem_cons_of_mem _ h)
  obtain ⟨P, n, o, A, T, len, flt, pl, out, thr, f, hD, hMd, h111⟩ := hLw
  refine lv_aload_n hx hb dL_law_723 rfl (lv_at hl 2 rfl) ?_
  refine lv_aload_n hx hb dL_law_724 rfl (lv_at hl 1 rfl) ?_
  refine lv_iload hx hb dL_law_725 (lv_at hl 0 rfl) ?_
  refine lv_iconst (v := 1) hx hb dL_law_727 (by decide) ?_
  refine lv_iadd hx hb dL_law_728 ?_
  refine zw_top (nI (i + 1)) (nI_add i 1) ?_
  refine va_sld hx hb hXb hbl hbA Z.2.2.1 (vin (by omega) (by omega)) dL_law_729 ?_
  refine zw_top (xs (i + 1)) (by rw [ncl (by omega)]) ?_
  refine lv_aload_n hx hb dL_law_730 rfl (lv_at hl 1 rfl) ?_
  refine lv_iload hx hb dL_law_731 (lv_at hl 0 rfl) ?_
  refine lv_iconst (v := 2) hx hb dL_law_733 (by decide) ?_
  refine lv_iadd hx hb dL_law_734 ?_
  refine zw_top (nI (i + 2)) (nI_add i 2) ?_
  refine va_sld hx hb hXb hbl hbA Z.2.2.1 (vin (by omega) (by omega)) dL_law_735 ?_
  refine zw_top (xs (i + 2)) (by rw [ncl (by omega)]) ?_
  refine lv_aload_n hx hb dL_law_736 rfl (lv_at hl 1 rfl) ?_
  refine lv_iload hx hb dL_law_737 (lv_at hl 0 rfl) ?_
  refine lv_iconst (v := 3) hx hb dL_law_739 (by decide) ?_
  refine lv_iadd hx hb dL_law_740 ?_
  refine zw_top (nI (i + 3)) (nI_add i 3) ?_
  refine va_sld hx hb hXb hbl hbA Z.2.2.1 (vin (by omega) (by omega)) dL_law_741 ?_
  refine zw_top (xs (i + 3)) (by rw [ncl (by omega)]) ?_
  refine zw_calli (va_runV (As := [.int (xs (i + 1)), .int (xs (i + 2)), .int (xs (i + 3))]) (rest := []) ⟨hx, hb, hml, hown, hts⟩ (c_K_term l P n o A T len flt pl out hD (xs (i + 1)) (xs (i + 2)) (xs (i + 3))) (kw_K_term hts ml_L_94 ⟨Nat.le_of_ble_eq_true rfl, Nat.le_of_ble_eq_true rfl⟩) (Z.preV hD.o0 rfl _) rfl rfl hl.1 rfl (lv_room (Nat.le_of_ble_eq_true rfl)) dL_law_742 ⟨(by show (_ : Nat) ≤ 601024; omega), (by show (_ : Nat) ≤ 7293034; omega)⟩) Z (fun r9 w1 H locs hp Z => ?_)
  obtain ⟨rfl, hw1⟩ := hp
  rw [hw1] at Z
  clear hw1
  obtain ⟨F9, h100⟩ := hMd.o100
  refine lv_aload_n hx hb dL_law_745 rfl (lv_at hl 3 rfl) ?_
  refine lv_aload_n hx hb dL_law_746 rfl (lv_at hl 1 rfl) ?_
  refine lv_iload hx hb dL_law_747 (lv_at hl 0 rfl) ?_
  refine lv_iconst (v := 1) hx hb dL_law_749 (by decide) ?_
  refine lv_iadd hx hb dL_law_750 ?_
  refine zw_top (nI (i + 1)) (nI_add i 1) ?_
  refine va_sld hx hb hXb hbl hbA Z.2.2.1 (vin (by omega) (by omega)) dL_law_751 ?_
  refine zw_top (xs (i + 1)) (by rw [ncl (by omega)]) ?_
  refine lv_aload_n hx hb dL_law_752 rfl (lv_at hl 1 rfl) ?_
  refine lv_iload hx hb dL_law_753 (lv_at hl 0 rfl) ?_
  refine lv_iconst (v := 2) hx hb dL_law_755 (by decide) ?_
  refine lv_iadd hx hb dL_law_756 ?_
  refine zw_top (nI (i + 2)) (nI_add i 2) ?_
  refine va_sld hx hb hXb hbl hbA Z.2.2.1 (vin (by omega) (by omega)) dL_law_757 ?_
  refine zw_top (xs (i + 2)) (by rw [ncl (by omega)]) ?_
  refine lv_aload_n hx hb dL_law_758 rfl (lv_at hl 1 rfl) ?_
  refine lv_iload hx hb dL_law_759 (lv_at hl 0 rfl) ?_
  refine lv_iconst (v := 3) hx hb dL_law_761 (by decide) ?_
  refine lv_iadd hx hb dL_law_762 ?_
  refine zw_top (nI (i + 3)) (nI_add i 3) ?_
  refine va_sld hx hb hXb hbl hbA Z.2.2.1 (vin (by omega) (by omega)) dL_law_763 ?_
  refine zw_top (xs (i + 3)) (by rw [ncl (by omega)]) ?_
  refine zw_calli (va_runV (As := [.int (xs (i + 1)), .int (xs (i + 2)), .int (xs (i + 3))]) (rest := [.int (ztrm n o A (xs (i + 1)) (xs (i + 2)) (xs (i + 3)))]) ⟨hx, hb, hml, hown, hts⟩ (c_M_term l P n o A T len flt pl out thr hMd (xs (i + 1)) (xs (i + 2)) (xs (i + 3))) (kw_M_term hts ml_L_98 ⟨Nat.le_of_ble_eq_true rfl, Nat.le_of_ble_eq_true rfl⟩) (Z.preV h100 rfl _) rfl rfl hl.1 rfl (lv_room (Nat.le_of_ble_eq_true rfl)) dL_law_764 ⟨(by show (_ : Nat) ≤ 601024; omega), (by show (_ : Nat) ≤ 7293034; omega)⟩) Z (fun r8 w2 H locs hq Z => ?_)
  obtain ⟨rfl, hM2, hk2⟩ := hq
  refine lv_icmp_eq (tgt := 853) hx hb dL_law_767 (by decide) (fun _ => ?_) (fun hc => absurd (show ((ztrm n o A (xs (i + 1)) (xs (i + 2)) (xs (i + 3))) : Int32) = (ztrm n o A (xs (i + 1)) (xs (i + 2)) (xs (i + 3))) from rfl) hc)
  refine W.widen (k := cells + 4) (n := slots + 24) (by omega) (by omega) ?_
  exact kk _ _ _ ls ⟨P, n, o, A, T, len, flt, pl, out, 0, f, hD.cong (fun k hk => hk2 k (by omega)), hM2, (hk2 111 (by decide)).trans h111⟩ Z (lv_sub hl [0, 1, 2, 3, 4] rfl)

set_option maxHeartbeats 4000000 in
set_option maxRecDepth 100000 in
theorem lw_c12 (l : Launch) (hnt : l.stackTraces = false) {p : Program} {e : Env} {s : State} {m : MethodId} {below : List Frame} {meth : Method} {c : Code} {Q : State → Prop} {b L : Nat} {xs : Nat → Int32} {G : zG} {ad : Nat → Nat} {w : Nat → Option va_E} {qs qv : Nat} (hLa : zLa p s m c b L xs G) (hX : ∀ U H, G.2.2.2 U H → zTHR G U H) (hXh : ∀ U H, G.2.2.2 U H → zHIGH G U H) (hXs : ∀ U H, G.2.2.2 U H → zSTR G qs qv U H) (hL : L ≤ 3072) (i cells slots : Nat) (hi : i + 6 ≤ L) (hc4 : cells + 4 ≤ 601024) (hs4 : slots + 24 ≤ 7293034) {H : Heap} {locs : List Loc} {ls : Array Slot} (hLw : zLw G ad w) (Z : zw G ad w s H locs) (hl : lv_has ls 7 [(4, .int (nI i)), (0, .ref b), (1, .ref (ad 0)), (2, .ref (ad 100)), (3, .ref (ad 111))]) (kk : ∀ (w' : Nat → Option va_E) (H : Heap) (locs : List Loc) (ls : Array Slot), zLw G ad w' → zw G ad w' s H locs → lv_has ls 7 [(4, .int (nI i)), (0, .ref b), (1, .ref (ad 0)), (2, .ref (ad 100)), (3, .ref (ad 111))] → W p l e room_1 s m #[Value.ref b] below meth c H locs (cells + 4) (slots + 24) Q (F0 m 853 ls [])) : W p l e room_1 s m #[Value.ref b] below meth c H locs (cells) (slots) Q (F0 m 828 ls []) := by
  obtain ⟨hx, hb, hml, hown, hts, hXb, hbl, hbA⟩ := hLa
  have hT : ∀ w ∈ zT, w.before #[Value.ref b] s = true := fun w h => hts w (List.mem_cons_of_mem _ h)
  obtain ⟨P, n, o, A, T, len, flt, pl, out, thr, f, hD, hMd, h111⟩ := hLw
  refine lv_aload_n hx hb dL_law_828 rfl (lv_at hl 2 rfl) ?_
  refine lv_aload_n hx hb dL_law_829 rfl (lv_at hl 1 rfl) ?_
  refine lv_iload hx hb dL_law_830 (lv_at hl 0 rfl) ?_
  refine lv_iconst (v := 1) hx hb dL_law_832 (by decide) ?_
  refine lv_iadd hx hb dL_law_833 ?_
  refine zw_top (nI (i + 1)) (nI_add i 1) ?_
  refine va_sld hx hb hXb hbl hbA Z.2.2.1 (vin (by omega) (by omega)) dL_law_834 ?_
  refine zw_top (xs (i + 1)) (by rw [ncl (by omega)]) ?_
  refine zw_calli (va_runV (As := [.int (xs (i + 1))]) (rest := []) ⟨hx, hb, hml, hown, hts⟩ (c_K_output l P n o A T len flt pl out hD (xs (i + 1))) (kw_K_output hts ml_L_102 ⟨Nat.le_of_ble_eq_true rfl, Nat.le_of_ble_eq_true rfl⟩) (Z.preV hD.o0 rfl _) rfl rfl hl.1 rfl (lv_room (Nat.le_of_ble_eq_true rfl)) dL_law_835 ⟨(by show (_ : Nat) ≤ 601024; omega), (by show (_ : Nat) ≤ 7293034; omega)⟩) Z (fun r9 w1 H locs hp Z => ?_)
  obtain ⟨rfl, hw1⟩ := hp
  rw [hw1] at Z
  clear hw1
  obtain ⟨F9, h100⟩ := hMd.o100
  refine lv_aload_n hx hb dL_law_838 rfl (lv_at hl 3 rfl) ?_
  refine lv_aload_n hx hb dL_law_839 rfl (lv_at hl 1 rfl) ?_
  refine lv_iload hx hb dL_law_840 (lv_at hl 0 rfl) ?_
  refine lv_iconst (v := 1) hx hb dL_law_842 (by decide) ?_
  refine lv_iadd hx hb dL_law_843 ?_
  refine zw_top (nI (i + 1)) (nI_add i 1) ?_
  refine va_sld hx hb hXb hbl hbA Z.2.2.1 (vin (by omega) (by omega)) dL_law_844 ?_
  refine zw_top (xs (i + 1)) (by rw [ncl (by omega)]) ?_
  refine zw_calli (va_runV (As := [.int (xs (i + 1))]) (rest := [.int (zby out (xs (i + 1)))]) ⟨hx, hb, hml, hown, hts⟩ (c_M_output l P n o A T len flt pl out thr hMd (xs (i + 1))) (kw_M_output hts ml_L_105 ⟨Nat.le_of_ble_eq_true rfl, Nat.le_of_ble_eq_true rfl⟩) (Z.preV h100 rfl _) rfl rfl hl.1 rfl (lv_room (Nat.le_of_ble_eq_true rfl)) dL_law_845 ⟨(by show (_ : Nat) ≤ 601024; omega), (by show (_ : Nat) ≤ 7293034; omega)⟩) Z (fun r8 w2 H locs hq Z => ?_)
  obtain ⟨rfl, hM2, hk2⟩ := hq
  refine lv_icmp_eq (tgt := 853) hx hb dL_law_848 (by decide) (fun _ => ?_) (fun hc => absurd (show ((zby out (xs (i + 1))) : Int32) = (zby out (xs (i + 1))) from rfl) hc)
  refine W.widen (k := cells + 4) (n := slots + 24) (by omega) (by omega) ?_
  exact kk _ _ _ ls ⟨P, n, o, A, T, len, flt, pl, out, 0, f, hD.cong (fun k hk => hk2 k (by omega)), hM2, (hk2 111 (by decide)).trans h111⟩ Z (lv_sub hl [0, 1, 2, 3, 4] rfl)
