/-! what holds at the law's start and stays -/
def zXx (G : zG) (qs qv : Nat) : State → Heap → Prop := fun U H => zHIGH G U H ∧ zSTR G qs qv U H ∧ zTHR G U H ∧ va_AOA .int U
theorem zNgw_warm {u U : State} (hW : u.WarmedH U.vm) : ∀ w ∈ zNgw, va_Nw w u → va_Nw w U := by
  intro w h hw
  simp only [zNgw, List.mem_cons, List.not_mem_nil, or_false] at h
  rcases h with rfl | rfl | rfl | rfl | rfl | rfl
  · exact va_Nw.warmD hW hw
  · exact va_Nw.warmD hW hw
  · exact va_Nw.warmD hW hw
  · exact va_Nw.warmC hW hw
  · exact va_Nw.warmC hW hw
  · exact va_Nw.warmC hW hw
theorem zXx_mv {G : zG} {qs qv : Nat} {u U : State} {H : Heap} (hvm : u.vm.Alike U.vm) (hr : ∀ (own tx : String) (k a : Nat), vk_R own k tx a u → vk_R own k tx a U) (hn : ∀ w ∈ zNgw, va_Nw w u → va_Nw w U) (h : zXx G qs qv u H) : zXx G qs qv U H := by
  obtain ⟨⟨t, a1, a2⟩, ⟨b1, b2, b3, b4⟩, ⟨c1, c2, c3, c4, c5, c6⟩, d1⟩ := h
  refine ⟨⟨t, va_Z.moved hvm a1, va_T.moved hvm a2⟩, ⟨hr _ _ _ _ b1, vk_S.moved hvm b2, va_Z.moved hvm b3, va_Zq.moved hvm b4⟩, ⟨fun q hq => ?_, fun w hw => hn w hw (c2 w hw), vx_Zq.moved hvm c3, vx_Zq.moved hvm c4, va_Nc.moved hvm c5, va_Nc.moved hvm c6⟩, va_AOA.moved hvm d1⟩
  obtain ⟨a, ha⟩ := c1 q hq
  exact ⟨a, hr _ _ _ _ ha⟩
theorem zXx_kept {G : zG} {qs qv : Nat} {U : State} {H H1 : Heap} (hq : ∀ a : Nat, a < H.size → ¬ zA G a → H1[a]? = H[a]?) (h : zXx G qs qv U H) : zXx G qs qv U H1 := by
  obtain ⟨⟨t, a1, a2⟩, ⟨b1, b2, b3, b4⟩, ⟨c1, c2, c3, c4, c5, c6⟩, d1⟩ := h
  exact ⟨⟨t, a1.kept hq, a2.kept hq⟩, ⟨b1, b2.kept hq, b3.kept hq, b4.kept hq⟩, ⟨c1, c2, c3.kept hq, c4.kept hq, c5, c6⟩, d1⟩
theorem zXx_ok {D : va_G} {q : Nat → ClassId} {N0 qs qv : Nat} : zXok (D, q, N0, zXx (D, q, N0, fun _ _ => True) qs qv) := by
  refine ⟨fun u U H h hx => ?_, fun U H H1 h hx => zXx_kept h hx⟩
  rcases h with hW | hv
  · exact zXx_mv hW.alike (fun _ _ _ _ h9 => h9.warm hW) (zNgw_warm hW) hx
  · exact zXx_mv (by rw [hv]; exact Vm.Alike.refl _) (fun _ _ _ _ h9 => h9.same hv) (fun w hw h9 => h9.same (zNgw_ot w hw) hv.symm) hx
theorem zNgw_in : ∀ w ∈ zNgw, w ∈ lw_tbl := by decide +kernel
/-- one of the class's own texts -/
theorem zmsg_of {b : Nat} {s : State} (hts : ∀ w ∈ lw_tbl, w.before #[Value.ref b] s = true) {k : Nat} {tx : String} (h1 : Cond.stringRef "PolynomialDesk" k tx ∈ lw_tbl) (h2 : (Cond.exactly (.string "PolynomialDesk" k) "java/lang/String").before #[Value.ref b] s = true) : ∃ a, vk_R "PolynomialDesk" k tx a s := by
  obtain ⟨a, c, cA, kA, q1, -⟩ := Cond.exactly_spec (args := #[Value.ref b]) (first := s) (o := none) (s := s) (idx := []) h2
  exact ⟨a, vk_R.of (hts _ h1) q1⟩
set_option maxHeartbeats 4000000 in
set_option maxRecDepth 100000 in
theorem zXx_start {b : Nat} {s : State} (hts : ∀ w ∈ lw_tbl, w.before #[Value.ref b] s = true) (hgv : (Jvm.Cond.and given_1 narrow_1).before #[Value.ref b] s = true) {D : va_G} {q : Nat → ClassId} : ∃ qs qv, zXx (D, q, s.heap.size, fun _ _ => True) qs qv s s.heap := by
  have hs := flat_of_before _ hgv
  have hA : ∀ a : Nat, a < s.heap.size → ¬ zA (D, q, s.heap.size, fun _ _ => True) a := fun a ha h => absurd ha (Nat.not_lt.mpr h)
  obtain ⟨t, ht, hT⟩ := va_Tof (tm := .static "PolynomialDesk$Ring" "HIGHEST" "[I") (ty := .int) (N := 4) (f := fun j => .int (nI (([30, 12, 7, 5] : List Nat).getD j 0))) (A := zA (D, q, s.heap.size, fun _ _ => True)) (by decide) (hs _ (by decide +kernel)) (va_eqt (hs _ (by decide +kernel))) (fun j hj => by
    match j, hj with
    | 0, _ => exact va_eqt (hs _ (by decide +kernel))
    | 1, _ => exact va_eqt (hs _ (by decide +kernel))
    | 2, _ => exact va_eqt (hs _ (by decide +kernel))
    | 3, _ => exact va_eqt (hs _ (by decide +kernel))) hA
  obtain ⟨adK, adV, hS, he⟩ := vk_Sof (args := #[Value.ref b]) (s := s) (N := 1) (tm := fun _ => .string "PolynomialDesk$Printer" 44) (len := [4]) (byt := [[120, 121, 122, 119]]) (A := zA (D, q, s.heap.size, fun _ _ => True)) (fun i hi => by rw [show i = 0 by omega]; decide) (fun i hi => hs _ (by decide +kernel)) (fun i hi => hs _ (by decide +kernel)) (fun i hi => hs _ (by decide +kernel)) (fun i hi => by rw [show i = 0 by omega]; exact hs _ (by decide +kernel)) (fun i hi => by
    rw [show i = 0 by omega]
    intro j hj
    match j, hj with
    | 0, _ => exact hs _ (by decide +kernel)
    | 1, _ => exact hs _ (by decide +kernel)
    | 2, _ => exact hs _ (by decide +kernel)
    | 3, _ => exact hs _ (by decide +kernel)) (fun i j hi hj h9 => absurd (show i = j by omega) h9) hA
  refine ⟨adK 0, adV 0, ⟨t, va_Zof (hts _ (by decide +kernel)) (hts _ (by decide +kernel)) ht hA, hT⟩, ⟨vk_R.of (hts _ (by decide +kernel)) (he 0 (by decide)), ⟨fun i hi => ?_, fun i j hi hj _ => by omega⟩, va_Zof (hts _ (by decide +kernel)) (hts _ (by decide +kernel)) (va_eqt (hs _ (by decide +kernel))) hA, va_Zqof (hts _ (by decide +kernel)) (hts _ (by decide +kernel)) (hs _ (by decide +kernel)) hA⟩, ⟨fun z hz => ?_, fun w hw => va_Nw.of (zNgw_ot w hw) (hts w (zNgw_in w hw)), vx_Zqof (hts _ (by decide +kernel)) (hts _ (by decide +kernel)) (hs _ (by decide +kernel)) hA, vx_Zqof (hts _ (by decide +kernel)) (hts _ (by decide +kernel)) (hs _ (by decide +kernel)) hA, va_Nc.of (hs _ (by decide +kernel)), va_Nc.of (hs _ (by decide +kernel))⟩, hts (.arrayOver (.array .int)) (by decide +kernel)⟩
  · have h9 := hS.1 0 (by decide)
    rw [show i = 0 by omega]
    exact h9
  · simp only [zMsg, List.mem_cons, List.not_mem_nil, or_false] at hz
    rcases hz with rfl | rfl | rfl | rfl | rfl | rfl | rfl <;> exact zmsg_of hts (by decide +kernel) (hs _ (by decide +kernel))
