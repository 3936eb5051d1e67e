/-! making objects and arrays, in numbered worlds -/
theorem va_AOA.moved {ty : FieldType} {u U : State} (hvm : u.vm.Alike U.vm) (h : va_AOA ty u) : va_AOA ty U := Stand.arrayOver_alikeB hvm h
/-- an array of N rows of K ints, the outer one the cell k0, the rows from k1 on -/
def zgrid (G : zG) (w : Nat → Option va_E) (ad : Nat → Nat) (k0 k1 N K : Nat) : Nat → Option va_E := fun j => if j = k0 then some (zq G N (fun i => some (ad (k1 + i)))) else if k1 ≤ j ∧ j < k1 + N then some (zi G K (fun _ => 0)) else w j
theorem arrV_ext_v {cA : ClassId} {n : Nat} {f f' : Nat → Value} (h : ∀ j, j < n → f j = f' j) : arrV cA n f = arrV cA n f' := by
  unfold arrV
  congr 1
  apply Array.ext
  · simp
  · intro i h1 h2
    simp at h1 h2
    simp [h i (by omega)]
section ZMN
variable {p : Program} {l : Launch} {e : Env} {R : Room} {s : State} {m : MethodId} {args : Array Value} {below : List Frame} {meth : Method} {c : Code} {H : Heap} {locs : List Loc} {cells slots : Nat} {Q : State → Prop}
variable {cc : ByteArray} {pc : Nat} {ls : Array Slot} {rest : List Value} {G : zG} {ad : Nat → Nat} {w : Nat → Option va_E}
theorem zw_mna (hexec : p.tables.exec = Jvm.exec) (hb : c.code = cc) {own : String} {index : Nat} (hown : s.vm.findClass own = some m.cls) (hclink : (Cond.classLink own index "[[I").before args s = true) (hover : va_AOA .int s) (harr : (Cond.arrayClass .int).before args s = true) (Z : zw G ad w s H locs)
    (k0 k1 N K : Nat) {n k : Int32} (hn : n = nI N) (hk : k = nI K) (hN : N < 1000) (hK : K < 1000) (h0 : w k0 = none) (h1 : ∀ i, i < N → w (k1 + i) = none) (h01 : k0 < k1 ∨ k1 + N ≤ k0) (hcells : cells + (1 + N) ≤ R.cells) (hslots : slots + (N + N * K) ≤ R.slots) (hdg : decode cc pc = .ok (.multianewarray index 2, 4))
    (kk : ∀ (ad1 : Nat → Nat) (q : Nat) (H1 : Heap), ad1 k0 = q → (∀ j, j ≠ k0 → ¬ (k1 ≤ j ∧ j < k1 + N) → ad1 j = ad j) → zw G ad1 (zgrid G w ad1 k0 k1 N K) s H1 locs → W p l e R s m args below meth c H1 locs (cells + 1 + N) (slots + N + N * K) Q (F0 m (pc + 4) ls (.ref q :: rest))) : W p l e R s m args below meth c H locs cells slots Q (F0 m pc ls (.int k :: .int n :: rest)) := by
  have hNc : n.toNatClampNeg = N := by rw [hn]; exact ncl (by omega)
  have hKc : k.toNatClampNeg = K := by rw [hk]; exact ncl (by omega)
  intro T hT Xs
  obtain ⟨vm₁, cA, comp, -, fA, fC, hO, -, X', step⟩ := Xs.multianewarray2F (ty := .int) hexec hown hclink (va_AOA.use hover) harr (g := F0 m pc ls (.int k :: .int n :: rest)) rfl (by rw [hb]; exact hdg) rfl (by rw [hn]; exact nI_pos (by omega)) (by rw [hk]; exact nI_pos (by omega)) (by rw [hNc]; omega) (by rw [hKc]; show K * 4 ≤ _; omega) (by rw [hKc]; omega) rfl rfl (by rw [hNc]; exact hcells) (by rw [hNc, hKc]; exact hslots)
  rw [hNc, hKc] at X' step
  have ec : G.2.1 0 = comp := Option.some.inj (((Z.1.2 0 _ rfl).2 : s.vm.findClass "[I" = some (G.2.1 0)).symm.trans fC)
  have eA : G.2.1 3 = cA := Option.some.inj (((Z.1.2 3 _ rfl).2 : s.vm.findClass "[[I" = some (G.2.1 3)).symm.trans fA)
  subst ec
  subst eA
  generalize hF : Jvm.Free.Multi.fill (T.setVm vm₁) (G.2.1 3) (G.2.1 0) N K (defaultValue .int) N = F at X' step
  have hTh : (T.setVm vm₁).heap = H := hT
  obtain ⟨f1, f2, -, -⟩ := Jvm.Free.Multi.fill_facts (T.setVm vm₁) (G.2.1 3) (G.2.1 0) N K (defaultValue .int) N
  rw [hF, hTh] at f1 f2
  have hold : ∀ x : Nat, x < H.size → F.heap[x]? = H[x]? := fun x hx => by
    have := Jvm.Free.Multi.fill_old (T.setVm vm₁) (G.2.1 3) (G.2.1 0) N K (defaultValue .int) (a := x) (by rw [hTh]; exact hx) N
    rw [hF, hTh] at this
    exact this
  have hrow : ∀ j : Nat, j < N → F.heap[H.size + 1 + j]? = some (vp_cell (G.2.1 0) (K, .inl (fun _ => 0))) := fun j hj => by
    have := Jvm.Free.Multi.fill_inner (T.setVm vm₁) (G.2.1 3) (G.2.1 0) N K (defaultValue .int) N j hj
    rw [hF, hTh] at this
    rw [this, vp_cell_i]
    exact congrArg some (arrV_new (G.2.1 0) K (.int 0))
  obtain ⟨ad1, had1⟩ : ∃ ad1 : Nat → Nat, ad1 = fun j => if j = k0 then H.size else if k1 ≤ j ∧ j < k1 + N then H.size + 1 + (j - k1) else ad j := ⟨_, rfl⟩
  have a0 : ad1 k0 = H.size := by rw [had1]; exact if_pos rfl
  have a1 : ∀ i, i < N → ad1 (k1 + i) = H.size + 1 + i := fun i hi => by
    rw [had1]
    show (if k1 + i = k0 then _ else if _ then _ else _) = _
    rw [if_neg (by omega), if_pos (by omega), Nat.add_sub_cancel_left]
  have a2 : ∀ j, j ≠ k0 → ¬ (k1 ≤ j ∧ j < k1 + N) → ad1 j = ad j := fun j h2 h3 => by
    rw [had1]
    show (if j = k0 then _ else if _ then _ else _) = _
    rw [if_neg h2, if_neg h3]
  have hout : Jvm.Free.Multi.outerC (G.2.1 3) N H.size N = vp_cell (G.2.1 3) (N, .inr (.inr (.inr (.inr (fun i => some (ad1 (k1 + i))))))) := by
    rw [vp_cell_q, vr_outer]
    refine arrV_ext_v (fun j hj => ?_)
    rw [if_pos hj, a1 j hj]
  rw [hout] at f2
  have hN0 : G.2.2.1 ≤ H.size := Nat.le_trans Z.2.2.2.1 Z.2.2.1.1
  have hcase : ∀ (j : Nat) (x : va_E), zgrid G w ad1 k0 k1 N K j = some x → (j = k0 ∧ x = zq G N (fun i => some (ad1 (k1 + i)))) ∨ (∃ i, i < N ∧ j = k1 + i ∧ x = zi G K (fun _ => 0)) ∨ (j ≠ k0 ∧ ¬ (k1 ≤ j ∧ j < k1 + N) ∧ w j = some x) := by
    intro j x hj
    unfold zgrid at hj
    by_cases e1 : j = k0
    · rw [if_pos e1] at hj
      exact Or.inl ⟨e1, (Option.some.inj hj).symm⟩
    · rw [if_neg e1] at hj
      by_cases e2 : k1 ≤ j ∧ j < k1 + N
      · rw [if_pos e2] at hj
        exact Or.inr (Or.inl ⟨j - k1, by omega, by omega, (Option.some.inj hj).symm⟩)
      · rw [if_neg e2] at hj
        exact Or.inr (Or.inr ⟨e1, e2, hj⟩)
  have hadr : ∀ (j : Nat) (x : va_E), zgrid G w ad1 k0 k1 N K j = some x → (j = k0 ∧ ad1 j = H.size) ∨ (∃ i, i < N ∧ j = k1 + i ∧ ad1 j = H.size + 1 + i) ∨ (ad1 j = ad j ∧ ad j < H.size ∧ w j = some x) := by
    intro j x hj
    rcases hcase j x hj with ⟨h2, -⟩ | ⟨i, h2, h3, -⟩ | ⟨h2, h3, h4⟩
    · exact Or.inl ⟨h2, by rw [h2]; exact a0⟩
    · exact Or.inr (Or.inl ⟨i, h2, h3, by rw [h3]; exact a1 i h2⟩)
    · exact Or.inr (Or.inr ⟨a2 j h2 h3, Z.2.1.lt h4, h4⟩)
  have hZ : zw_H G.1 G.2.2.1 ad1 (zgrid G w ad1 k0 k1 N K) F.heap := by
    refine ⟨fun j x hj => ?_, fun i j x y hi hj hij => ?_⟩
    · rcases hcase j x hj with ⟨rfl, rfl⟩ | ⟨i, h2, rfl, rfl⟩ | ⟨h2, h3, h4⟩
      · rw [a0]
        exact ⟨f2, hN0⟩
      · rw [a1 i h2]
        exact ⟨hrow i h2, by omega⟩
      · rw [a2 j h2 h3]
        exact ⟨(Z.2.1.1 j x h4).1.kept (hold _ (Z.2.1.lt h4)), (Z.2.1.1 j x h4).2⟩
    · rcases hadr i x hi with ⟨e1, e2⟩ | ⟨q, e1, e2, e3⟩ | ⟨e1, e2, e3⟩ <;> rcases hadr j y hj with ⟨g1, g2⟩ | ⟨r, g1, g2, g3⟩ | ⟨g1, g2, g3⟩
      · omega
      · omega
      · omega
      · omega
      · omega
      · omega
      · omega
      · omega
      · exact Z.2.1.2 i j x y e3 g3 (by omega)
  obtain ⟨t, b1, b2⟩ := kk ad1 H.size F.heap a0 a2 ⟨Z.1, hZ, ⟨by rw [f1]; have := Z.2.2.1.1; omega, fun x h2 h3 => (hold x (Nat.lt_of_lt_of_le h2 Z.2.2.1.1)).trans (Z.2.2.1.2.1 x h2 h3), Z.2.2.1.2.2⟩, Z.2.2.2⟩ F rfl X'
  refine ⟨t, step t ?_, b2⟩
  rw [show T.heap.size = H.size by rw [hT]]
  exact b1
/-- the same rows, the address by a name of its own -/
theorem zn_put {a : Nat} (hexec : p.tables.exec = Jvm.exec) (hb : c.code = cc) {own ref C : String} {T : u_T} {N ci index : Nat} {Ts : List Cond} (hts : ∀ w ∈ Ts, w.before args s = true) (hin : ∀ w ∈ u_ws C T N, w ∈ Ts) (hown : s.vm.findClass own = some m.cls) (ty0 : Nat → FieldType) (hty : ∀ k, k < N → parseFieldDescriptor (T k).2.2.1 = some (ty0 k)) (hnm : ∀ a, a < N → ∀ b, b < N → a ≠ b → (T a).2.1 ≠ (T b).2.1) (Z : zw G ad w s H locs) {k : Nat} {fs : List Value} (ha : ad k = a) (he : w k = some (.inr (ci, fs))) (hc : zcl[ci]? = some (C, T, N)) (j : Nat) (hj : j < N) (hlink : (Cond.fieldLink own index ref (T j).2.1 (T j).2.2.1).before args s = true) (hsame : ∀ x, s.fieldFound? (T j).1 (T j).2.1 (T j).2.2.1 = some x → s.fieldFound? ref (T j).2.1 (T j).2.2.1 = some x) (hfin : (T j).2.2.2 = false) {v : Value} (hn : narrow (ty0 j) v = v) (hfit : fits (ty0 j) v = true) (hl : j < fs.length) (hdg : decode cc pc = .ok (.putfield index, 3))
    (kk : ∀ (H1 : Heap) (locs1 : List Loc), zw G ad (va_up w k (some (.inr (ci, fs.set j v)))) s H1 locs1 → W p l e R s m args below meth c H1 locs1 cells slots Q (F0 m (pc + 3) ls rest)) : W p l e R s m args below meth c H locs cells slots Q (F0 m pc ls (v :: .ref a :: rest)) := by
  subst ha
  exact zw_put hexec hb hts hin hown ty0 hty hnm Z he hc j hj hlink hsame hfin hn hfit hl hdg kk
theorem zn_putF {a : Nat} (hexec : p.tables.exec = Jvm.exec) (hb : c.code = cc) {own ref C : String} {T : u_T} {N ci index : Nat} {Ts : List Cond} (hts : ∀ w ∈ Ts, w.before args s = true) (hin : ∀ w ∈ u_ws C T N, w ∈ Ts) (hown : s.vm.findClass own = some m.cls) (ty0 : Nat → FieldType) (hty : ∀ k, k < N → parseFieldDescriptor (T k).2.2.1 = some (ty0 k)) (hnm : ∀ a, a < N → ∀ b, b < N → a ≠ b → (T a).2.1 ≠ (T b).2.1) (Z : zw G ad w s H locs) {k : Nat} {fs : List Value} (ha : ad k = a) (he : w k = some (.inr (ci, fs))) (hc : zcl[ci]? = some (C, T, N)) (j : Nat) (hj : j < N) (hlink : (Cond.fieldLink own index ref (T j).2.1 (T j).2.2.1).before args s = true) (hsame : ∀ x, s.fieldFound? (T j).1 (T j).2.1 (T j).2.2.1 = some x → s.fieldFound? ref (T j).2.1 (T j).2.2.1 = some x) (hfin : (T j).2.2.2 = true) (hin2 : meth.name = "<init>") (hdecl : (T j).1 = own) {v : Value} (hn : narrow (ty0 j) v = v) (hfit : fits (ty0 j) v = true) (hl : j < fs.length) (hdg : decode cc pc = .ok (.putfield index, 3))
    (kk : ∀ (H1 : Heap) (locs1 : List Loc), zw G ad (va_up w k (some (.inr (ci, fs.set j v)))) s H1 locs1 → W p l e R s m args below meth c H1 locs1 cells slots Q (F0 m (pc + 3) ls rest)) : W p l e R s m args below meth c H locs cells slots Q (F0 m pc ls (v :: .ref a :: rest)) := by
  subst ha
  exact zw_putF hexec hb hts hin hown ty0 hty hnm Z he hc j hj hlink hsame hfin hin2 hdecl hn hfit hl hdg kk
theorem zn_get {a : Nat} (hexec : p.tables.exec = Jvm.exec) (hb : c.code = cc) {own ref C : String} {T : u_T} {N ci index : Nat} {Ts : List Cond} (hts : ∀ w ∈ Ts, w.before args s = true) (hin : ∀ w ∈ u_ws C T N, w ∈ Ts) (hown : s.vm.findClass own = some m.cls) (Z : zw G ad w s H locs) {k : Nat} {fs : List Value} (ha : ad k = a) (he : w k = some (.inr (ci, fs))) (hc : zcl[ci]? = some (C, T, N)) (j : Nat) (hj : j < N) (hlink : (Cond.fieldLink own index ref (T j).2.1 (T j).2.2.1).before args s = true) (hsame : ∀ x, s.fieldFound? (T j).1 (T j).2.1 (T j).2.2.1 = some x → s.fieldFound? ref (T j).2.1 (T j).2.2.1 = some x) {v : Value} (hv : fs[j]? = some v) (hdg : decode cc pc = .ok (.getfield index, 3))
    (kk : W p l e R s m args below meth c H locs cells slots Q (F0 m (pc + 3) ls (v :: rest))) : W p l e R s m args below meth c H locs cells slots Q (F0 m pc ls (.ref a :: rest)) := by
  subst ha
  exact zw_get hexec hb hts hin hown Z he hc j hj hlink hsame hv hdg kk
theorem zn_newa (hexec : p.tables.exec = Jvm.exec) (hb : c.code = cc) {atype : ArrayType} (harr : (Cond.arrayClass (newarray.typeOf atype)).before args s = true) {ty : FieldType} (hty : newarray.typeOf atype = ty) (Z : zw G ad w s H locs) (k : Nat) (hk : w k = none) (t0 : Nat) {cA : ClassId} (ht : (zty G.2.1)[t0]? = some (cA, ty))
    {n : Int32} {N' : Nat} {a0 : vp_A} (ha : vp_cell cA a0 = arrV cA N' (fun _ => defaultValue ty)) (hn : n = nI N') (hn2 : N' < 100000) (hbytes : N' * componentBytes ty ≤ 536870912) (hcells : cells + 1 ≤ R.cells) (hslots : slots + N' ≤ R.slots) (hdg : decode cc pc = .ok (.newarray atype, 2))
    (kk : ∀ (ad1 : Nat → Nat) (q : Nat) (H1 : Heap), ad1 k = q → (∀ j, j ≠ k → ad1 j = ad j) → zw G ad1 (va_up w k (some (.inl (cA, a0)))) s H1 locs → W p l e R s m args below meth c H1 locs (cells + 1) (slots + N') Q (F0 m (pc + 2) ls (.ref q :: rest))) : W p l e R s m args below meth c H locs cells slots Q (F0 m pc ls (.int n :: rest)) :=
  zw_newa hexec hb harr hty Z k hk t0 ht ha (by rw [hn]; exact nI_pos (by omega)) (by rw [hn]; exact ncl (by omega)) hbytes hcells hslots hdg (fun ad1 H1 h Z1 => kk ad1 _ H1 rfl h Z1)
theorem zn_new (hexec : p.tables.exec = Jvm.exec) (hb : c.code = cc) {own C : String} {T : u_T} {N ci index : Nat} {Ts : List Cond} (hts : ∀ w ∈ Ts, w.before args s = true) (hin : ∀ w ∈ u_ws C T N, w ∈ Ts) (ty : Nat → FieldType) (hty : ∀ k, k < N → parseFieldDescriptor (T k).2.2.1 = some (ty k)) (hown : s.vm.findClass own = some m.cls) (hcl : (Cond.classLink own index C).before args s = true) (hinst : (Cond.instantiable C N).before args s = true) (hini : (Cond.initialized C).before args s = true)
    (Z : zw G ad w s H locs) (k : Nat) (hk : w k = none) (hc : zcl[ci]? = some (C, T, N)) {fs : List Value} (hfs : ∀ j, j < N → defaultValue (ty j) = vp_V fs j) (hcells : cells + 1 ≤ R.cells) (hslots : slots + N ≤ R.slots) (hdg : decode cc pc = .ok (.new index, 3))
    (kk : ∀ (ad1 : Nat → Nat) (q : Nat) (H1 : Heap), ad1 k = q → (∀ j, j ≠ k → ad1 j = ad j) → zw G ad1 (va_up w k (some (.inr (ci, fs)))) s H1 locs → W p l e R s m args below meth c H1 locs (cells + 1) (slots + N) Q (F0 m (pc + 3) ls (.ref q :: rest))) : W p l e R s m args below meth c H locs cells slots Q (F0 m pc ls rest) :=
  zw_new hexec hb hts hin ty hty hown hcl hinst hini Z k hk hc hfs hcells hslots hdg (fun ad1 H1 h Z1 => kk ad1 _ H1 rfl h Z1)
end ZMN
/-- a new array of ints -/
theorem znew_i (G : zG) (n : Nat) : vp_cell (G.2.1 0) (n, .inl (fun _ => 0)) = arrV (G.2.1 0) n (fun _ => defaultValue .int) := vp_cell_i ..
theorem znew_c (G : zG) (n : Nat) : vp_cell (G.2.1 1) (n, .inl (fun _ => 0)) = arrV (G.2.1 1) n (fun _ => defaultValue .char) := vp_cell_i ..
theorem znew_l (G : zG) (n : Nat) : vp_cell (G.2.1 2) (n, .inr (.inl (fun _ => 0))) = arrV (G.2.1 2) n (fun _ => defaultValue .long) := vp_cell_l ..
