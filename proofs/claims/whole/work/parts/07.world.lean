theorem arrV_ext_z {cA : ClassId} {n : Nat} {f f' : Nat → Int32} (h : ∀ j, j < n → f j = f' j) : arrV cA n (fun j => .int (f j)) = arrV cA n (fun j => .int (f' j)) := by
  unfold arrV
  congr 1
  apply Array.ext
  · simp
  · intro i h1 h2
    simp at h1 h2
    simp [h i (by omega)]
/-! NUMBERED WORLDS. A world is a partial function w from cell numbers to cells; ad k is the address of cell k; different numbers lie at different addresses, all from N0 on. One world for the class, the reference and the law: a callee gets the whole world, so nothing is cut out and nothing is joined. -/
def zw_H (D : va_G) (N0 : Nat) (ad : Nat → Nat) (w : Nat → Option va_E) (H : Heap) : Prop :=
  (∀ (k : Nat) (x : va_E), w k = some x → va_at D zcl (ad k, x) H ∧ N0 ≤ ad k) ∧ ∀ (j k : Nat) (x y : va_E), w j = some x → w k = some y → ad j = ad k → j = k
section ZWH
variable {D : va_G} {N0 : Nat} {ad ad' : Nat → Nat} {w w' : Nat → Option va_E} {H H1 : Heap}
theorem zw_H.set {k : Nat} {x0 x : va_E} (h : zw_H D N0 ad w H) (hk : w k = some x0) (he : va_at D zcl (ad k, x) H1) (oq : ∀ q : Nat, q ≠ ad k → H1[q]? = H[q]?) : zw_H D N0 ad (va_up w k (some x)) H1 := by
  have dom : ∀ (j : Nat) (z : va_E), va_up w k (some x) j = some z → ∃ z', w j = some z' := by
    intro j z hj
    by_cases hjk : j = k
    · subst hjk
      exact ⟨x0, hk⟩
    · rw [va_up_ne _ _ hjk] at hj
      exact ⟨z, hj⟩
  refine ⟨fun j z hj => ?_, fun i j z z' hi hj hij => ?_⟩
  · by_cases hjk : j = k
    · subst hjk
      rw [va_up_self] at hj
      cases hj
      exact ⟨he, (h.1 j x0 hk).2⟩
    · rw [va_up_ne _ _ hjk] at hj
      exact ⟨(h.1 j z hj).1.kept (oq _ (fun q => hjk (h.2 j k z x0 hj hk q))), (h.1 j z hj).2⟩
  · obtain ⟨a, ha⟩ := dom i z hi
    obtain ⟨b, hb⟩ := dom j z' hj
    exact h.2 i j a b ha hb hij
theorem zw_H.lt (h : zw_H D N0 ad w H) {k : Nat} {x : va_E} (hk : w k = some x) : ad k < H.size := (h.1 k x hk).1.lt
theorem zw_H.new (k : Nat) {x : va_E} (h : zw_H D N0 ad w H) (hk : w k = none) (hN : N0 ≤ H.size) (he : va_at D zcl (H.size, x) H1) (oq : ∀ q : Nat, q < H.size → H1[q]? = H[q]?) : zw_H D N0 (va_up ad k H.size) (va_up w k (some x)) H1 := by
  have old : ∀ (j : Nat) (z : va_E), j ≠ k → va_up w k (some x) j = some z → w j = some z := fun j z hj h1 => by rw [va_up_ne _ _ hj] at h1; exact h1
  refine ⟨fun j z hj => ?_, fun i j z z' hi hj hij => ?_⟩
  · by_cases hjk : j = k
    · subst hjk
      rw [va_up_self] at hj
      cases hj
      rw [va_up_self]
      exact ⟨he, hN⟩
    · have h1 := old j z hjk hj
      rw [va_up_ne _ _ hjk]
      exact ⟨(h.1 j z h1).1.kept (oq _ (h.lt h1)), (h.1 j z h1).2⟩
  · by_cases hik : i = k
    · by_cases hjk : j = k
      · rw [hik, hjk]
      · subst hik
        rw [va_up_self, va_up_ne _ _ hjk] at hij
        have := h.lt (old j z' hjk hj)
        omega
    · by_cases hjk : j = k
      · subst hjk
        rw [va_up_self, va_up_ne _ _ hik] at hij
        have := h.lt (old i z hik hi)
        omega
      · rw [va_up_ne _ _ hik, va_up_ne _ _ hjk] at hij
        exact h.2 i j z z' (old i z hik hi) (old j z' hjk hj) hij
/-- fewer cells -/
theorem zw_H.less (h : zw_H D N0 ad w H) (hw : ∀ (k : Nat) (x : va_E), w' k = some x → w k = some x ∧ ad' k = ad k) : zw_H D N0 ad' w' H := by
  refine ⟨fun k x hk => ?_, fun j k x y hj hk hjk => ?_⟩
  · rw [(hw k x hk).2]
    exact h.1 k x (hw k x hk).1
  · rw [(hw j x hj).2, (hw k y hk).2] at hjk
    exact h.2 j k x y (hw j x hj).1 (hw k y hk).1 hjk
end ZWH
/-- what does not change in a run: where the classes lie, the array classes (int, char, long, int[]), the first free address, and what is known of the cells below it -/
abbrev zG : Type := va_G × (Nat → ClassId) × Nat × (State → Heap → Prop)
abbrev zty (q : Nat → ClassId) : List (ClassId × FieldType) := [(q 0, .int), (q 1, .char), (q 2, .long), (q 3, .array .int)]
/-- the cells from N0 on -/
abbrev zA (G : zG) : Nat → Prop := fun q => G.2.2.1 ≤ q
def zXok (G : zG) : Prop := (∀ (u U : State) (H : Heap), (u.WarmedH U.vm ∨ U.vm = u.vm) → G.2.2.2 u H → G.2.2.2 U H) ∧ ∀ (U : State) (H H1 : Heap), (∀ a : Nat, a < H.size → ¬ G.2.2.1 ≤ a → H1[a]? = H[a]?) → G.2.2.2 U H → G.2.2.2 U H1
/-- a state with a world: what a contract begins and ends with -/
def zw_U (G : zG) (ad : Nat → Nat) (w : Nat → Option va_E) (U : State) : Prop :=
  va_K G.1 zcl (zty G.2.1) U ∧ zw_H G.1 G.2.2.1 ad w U.heap ∧ G.2.2.1 ≤ U.heap.size ∧ zXok G ∧ G.2.2.2 U U.heap
/-- the same in the midst of a method -/
def zw (G : zG) (ad : Nat → Nat) (w : Nat → Option va_E) (s : State) (H : Heap) (locs : List Loc) : Prop :=
  va_K G.1 zcl (zty G.2.1) s ∧ zw_H G.1 G.2.2.1 ad w H ∧ va_S (zA G) s.heap H locs ∧ G.2.2.1 ≤ s.heap.size ∧ zXok G ∧ G.2.2.2 s s.heap
section ZWA
variable {G : zG} {ad ad' : Nat → Nat} {w w' : Nat → Option va_E} {s : State} {H : Heap} {locs : List Loc}
theorem zw_U.moved {u U : State} (hvm : U.vm = u.vm) (hh : U.heap = u.heap) (h : zw_U G ad w u) : zw_U G ad w U := by
  obtain ⟨h1, h2, h3, h4, h5⟩ := h
  refine ⟨va_K.moved (by rw [hvm]; exact Vm.Alike.refl _) h1, by rw [hh]; exact h2, by rw [hh]; exact h3, h4, ?_⟩
  rw [hh]
  exact h4.1 u U _ (Or.inr hvm) h5
theorem zw_U.enter (h : zw_U G ad w s) : zw G ad w s s.heap [] := ⟨h.1, h.2.1, va_S.rf, h.2.2.1, h.2.2.2⟩
theorem zw.at' (Z : zw G ad w s H locs) {U : State} (hU : U.heap = H) (hW : s.WarmedH U.vm) : zw_U G ad w U := by
  obtain ⟨h1, h2, h3, h4, h5, h6⟩ := Z
  refine ⟨va_K.moved hW.alike h1, by rw [hU]; exact h2, by rw [hU]; exact Nat.le_trans h4 h3.1, h5, ?_⟩
  rw [hU]
  exact h5.2 U _ _ (fun a ha hn => h3.2.1 a ha hn) (h5.1 s U _ (Or.inl hW) h6)
theorem zw.F (Z : zw G ad w s H locs) {t : State} (ht : t.heap = H) : va_F (zA G) s t := Z.2.2.1.F ht
theorem zw.fr (Z : zw G ad w s H locs) : ∀ q ∈ locs, zA G q.base := Z.2.2.1.2.2
theorem zw.one (Z : zw G ad w s H locs) {k : Nat} {x : va_E} (hk : w k = some x) : va_P G.1 zcl [(ad k, x)] H := fun i q hi => by
  have hz : i < 1 := (List.getElem?_eq_some_iff.mp hi).1
  rw [show i = 0 by omega] at hi
  cases hi
  exact (Z.2.1.1 k x hk).1
theorem zw.put (Z : zw G ad w s H locs) {k j : Nat} {x0 x : va_E} {H1 : Heap} (hk : w k = some x0) (he : va_at G.1 zcl (ad k, x) H1) (z : H1.size = H.size) (oq : ∀ q : Nat, q ≠ ad k → H1[q]? = H[q]?) : zw G ad (va_up w k (some x)) s H1 (locs ++ [⟨ad k, j⟩]) :=
  ⟨Z.1, Z.2.1.set hk he oq, Z.2.2.1.put z oq (Z.2.1.1 k x0 hk).2, Z.2.2.2⟩
theorem zw.grow (Z : zw G ad w s H locs) (k : Nat) {x : va_E} {H1 : Heap} (hk : w k = none) (he : va_at G.1 zcl (H.size, x) H1) (z : H1.size = H.size + 1) (oq : ∀ q : Nat, q < H.size → H1[q]? = H[q]?) : zw G (va_up ad k H.size) (va_up w k (some x)) s H1 locs :=
  ⟨Z.1, Z.2.1.new k hk (Nat.le_trans Z.2.2.2.1 Z.2.2.1.1) he oq, ⟨Nat.le_trans Z.2.2.1.1 (by omega), fun q h1 h2 => (oq q (Nat.lt_of_lt_of_le h1 Z.2.2.1.1)).trans (Z.2.2.1.2.1 q h1 h2), Z.2.2.1.2.2⟩, Z.2.2.2⟩
theorem zw.less (Z : zw G ad w s H locs) (hw : ∀ (k : Nat) (x : va_E), w' k = some x → w k = some x ∧ ad' k = ad k) : zw G ad' w' s H locs := ⟨Z.1, Z.2.1.less hw, Z.2.2⟩
/-- an array's contents matter up to its length -/
theorem zw.ext (Z : zw G ad w s H locs) {k n : Nat} {cA : ClassId} {f f' : Nat → Int32} (hk : w k = some (.inl (cA, n, .inl f))) (hf : ∀ j, j < n → f j = f' j) : zw G ad (va_up w k (some (.inl (cA, n, .inl f')))) s H locs := by
  refine ⟨Z.1, Z.2.1.set hk ?_ (fun _ _ => rfl), Z.2.2⟩
  have h := (Z.2.1.1 k _ hk).1
  show H[ad k]? = some (vp_cell cA (n, .inl f'))
  have h2 : H[ad k]? = some (vp_cell cA (n, .inl f)) := h
  rw [h2, vp_cell_i, vp_cell_i]
  congr 1
  exact arrV_ext_z hf
theorem zw.blind {av : List Value} : FrameBlind (va_Pc av (zw_U G ad w)) := fun a U g mk q => ⟨q.1, zw_U.moved (u := U) (U := U.calling g mk a) rfl rfl q.2⟩
theorem zw.preS (Z : zw G ad w s H locs) (av : List Value) : PreS s H (va_Pc av (zw_U G ad w)) av := ⟨zw.blind, fun U hU hW => ⟨rfl, Z.at' hU hW⟩⟩
theorem zw.preV (Z : zw G ad w s H locs) {k ci : Nat} {q : vw_C} {fs : List Value} (hk : w k = some (.inr (ci, fs))) (hc : zcl[ci]? = some q) (av : List Value) : PreV s H q.1 (ad k) (va_Pc (.ref (ad k) :: av) (zw_U G ad w)) av :=
  ⟨zw.blind, va_recv Z.1 (Z.one hk) hc (q0 := 0) rfl, fun U hU hW => ⟨rfl, Z.at' hU hW⟩⟩
end ZWA
section ZWB
variable {p : Program} {l : Launch} {e : Env} {R : Room} {s : State} {m : MethodId} {args : Array Value} {below : List Frame} {meth : Method} {c : Code} {H : Heap} {locs : List Loc} {cells slots : Nat} {Q : State → Prop}
variable {cc : ByteArray} {pc : Nat} {ls : Array Slot} {rest : List Value} {G : zG} {ad : Nat → Nat} {w : Nat → Option va_E}
theorem zw_get (hexec : p.tables.exec = Jvm.exec) (hb : c.code = cc) {own ref C : String} {T : u_T} {N ci index : Nat} {Ts : List Cond} (hts : ∀ w ∈ Ts, w.before args s = true) (hin : ∀ w ∈ u_ws C T N, w ∈ Ts) (hown : s.vm.findClass own = some m.cls) (Z : zw G ad w s H locs) {k : Nat} {fs : List Value} (he : w k = some (.inr (ci, fs))) (hc : zcl[ci]? = some (C, T, N)) (j : Nat) (hj : j < N) (hlink : (Cond.fieldLink own index ref (T j).2.1 (T j).2.2.1).before args s = true) (hsame : ∀ x, s.fieldFound? (T j).1 (T j).2.1 (T j).2.2.1 = some x → s.fieldFound? ref (T j).2.1 (T j).2.2.1 = some x) {v : Value} (hv : fs[j]? = some v) (hdg : decode cc pc = .ok (.getfield index, 3))
    (kk : W p l e R s m args below meth c H locs cells slots Q (F0 m (pc + 3) ls (v :: rest))) : W p l e R s m args below meth c H locs cells slots Q (F0 m pc ls (.ref (ad k) :: rest)) :=
  va_get hexec hb hts hin hown Z.1 (Z.one he) 0 rfl hc j hj hlink hsame hv hdg kk
theorem zw_put (hexec : p.tables.exec = Jvm.exec) (hb : c.code = cc) {own ref C : String} {T : u_T} {N ci index : Nat} {Ts : List Cond} (hts : ∀ w ∈ Ts, w.before args s = true) (hin : ∀ w ∈ u_ws C T N, w ∈ Ts) (hown : s.vm.findClass own = some m.cls) (ty0 : Nat → FieldType) (hty : ∀ k, k < N → parseFieldDescriptor (T k).2.2.1 = some (ty0 k)) (hnm : ∀ a, a < N → ∀ b, b < N → a ≠ b → (T a).2.1 ≠ (T b).2.1) (Z : zw G ad w s H locs) {k : Nat} {fs : List Value} (he : w k = some (.inr (ci, fs))) (hc : zcl[ci]? = some (C, T, N)) (j : Nat) (hj : j < N) (hlink : (Cond.fieldLink own index ref (T j).2.1 (T j).2.2.1).before args s = true) (hsame : ∀ x, s.fieldFound? (T j).1 (T j).2.1 (T j).2.2.1 = some x → s.fieldFound? ref (T j).2.1 (T j).2.2.1 = some x) (hfin : (T j).2.2.2 = false) {v : Value} (hn : narrow (ty0 j) v = v) (hfit : fits (ty0 j) v = true) (hl : j < fs.length) (hdg : decode cc pc = .ok (.putfield index, 3))
    (kk : ∀ (H1 : Heap) (locs1 : List Loc), zw G ad (va_up w k (some (.inr (ci, fs.set j v)))) s H1 locs1 → W p l e R s m args below meth c H1 locs1 cells slots Q (F0 m (pc + 3) ls rest)) : W p l e R s m args below meth c H locs cells slots Q (F0 m pc ls (v :: .ref (ad k) :: rest)) := by
  have hap := va_apart (own := own) hts hin ty0 hty hnm Z.1 hc
  obtain ⟨r, h1, cell, q1, q2, q3, q4⟩ := (Z.2.1.1 k _ he).1
  have hr : r = (C, T, N) := Option.some.inj (h1.symm.trans hc)
  subst hr
  obtain ⟨hS, hfc, kC, hkC, hkind⟩ := Z.1.1 ci _ hc
  obtain ⟨cf, kf, fi, f, hi, hsl⟩ := hS j hj
  have hlay := hts _ (hin _ (u_in_lay hj))
  unfold u_lay at hlay
  rw [if_neg (by rw [hfin]; decide)] at hlay
  have hst := (u_facts hfc hkC (u_lays hts hin hj) hi).1
  have h6 := u_store hfc hkC hkind hlay hi (hty j hj) hn hfit
  refine W.putK hexec hb (f := f) ⟨hown, hlink, ⟨_, _, _, hsame _ hi⟩, hst⟩ (by rw [q2]; exact h6) q1 q3 (by rw [hsl]; exact k2_hasslot (q4 j hj)) rfl rfl hdg fun H' e1 e2 e3 => ?_
  rw [hsl] at e1 ⊢
  exact kk H' _ (Z.put he ⟨_, hc, t_OB.to (V := updV (vp_V fs) j v) ⟨_, e1, q2, q3, t_set q4 hap hj v⟩ (fun i _ => vp_updV_set hl v i)⟩ e2 e3)
theorem zw_putF (hexec : p.tables.exec = Jvm.exec) (hb : c.code = cc) {own ref C : String} {T : u_T} {N ci index : Nat} {Ts : List Cond} (hts : ∀ w ∈ Ts, w.before args s = true) (hin : ∀ w ∈ u_ws C T N, w ∈ Ts) (hown : s.vm.findClass own = some m.cls) (ty0 : Nat → FieldType) (hty : ∀ k, k < N → parseFieldDescriptor (T k).2.2.1 = some (ty0 k)) (hnm : ∀ a, a < N → ∀ b, b < N → a ≠ b → (T a).2.1 ≠ (T b).2.1) (Z : zw G ad w s H locs) {k : Nat} {fs : List Value} (he : w k = some (.inr (ci, fs))) (hc : zcl[ci]? = some (C, T, N)) (j : Nat) (hj : j < N) (hlink : (Cond.fieldLink own index ref (T j).2.1 (T j).2.2.1).before args s = true) (hsame : ∀ x, s.fieldFound? (T j).1 (T j).2.1 (T j).2.2.1 = some x → s.fieldFound? ref (T j).2.1 (T j).2.2.1 = some x) (hfin : (T j).2.2.2 = true) (hin2 : meth.name = "<init>") (hdecl : (T j).1 = own) {v : Value} (hn : narrow (ty0 j) v = v) (hfit : fits (ty0 j) v = true) (hl : j < fs.length) (hdg : decode cc pc = .ok (.putfield index, 3))
    (kk : ∀ (H1 : Heap) (locs1 : List Loc), zw G ad (va_up w k (some (.inr (ci, fs.set j v)))) s H1 locs1 → W p l e R s m args below meth c H1 locs1 cells slots Q (F0 m (pc + 3) ls rest)) : W p l e R s m args below meth c H locs cells slots Q (F0 m pc ls (v :: .ref (ad k) :: rest)) := by
  have hap := va_apart (own := own) hts hin ty0 hty hnm Z.1 hc
  obtain ⟨r, h1, cell, q1, q2, q3, q4⟩ := (Z.2.1.1 k _ he).1
  have hr : r = (C, T, N) := Option.some.inj (h1.symm.trans hc)
  subst hr
  obtain ⟨hS, hfc, kC, hkC, hkind⟩ := Z.1.1 ci _ hc
  obtain ⟨cf, kf, fi, f, hi, hsl⟩ := hS j hj
  have hlay := hts _ (hin _ (u_in_lay hj))
  unfold u_lay at hlay
  rw [if_pos hfin] at hlay
  have hst := (u_facts hfc hkC (u_lays hts hin hj) hi).1
  have hcf : m.cls = cf := by
    obtain ⟨_, _, c', _, _, _, -, -, hf', -, -, -, hown2, -⟩ := Cond.laysFinal_spec hlay
    have e1 : c' = cf := by have := hi.symm.trans hf'; simp at this; exact this.1.symm
    rw [hdecl] at hown2
    rw [← e1]; exact Option.some.inj (hown.symm.trans hown2)
  have h6 := u_fits hfc hkC hkind (Or.inr hlay) hi (hty j hj) hn hfit
  refine W.putFinK hexec hb hown hlink (hsame _ hi) hst hcf hin2 (by rw [q2]; exact h6) q1 q3 (by rw [hsl]; exact k2_hasslot (q4 j hj)) rfl rfl hdg fun H' e1 e2 e3 => ?_
  rw [hsl] at e1 ⊢
  exact kk H' _ (Z.put he ⟨_, hc, t_OB.to (V := updV (vp_V fs) j v) ⟨_, e1, q2, q3, t_set q4 hap hj v⟩ (fun i _ => vp_updV_set hl v i)⟩ e2 e3)
theorem zw_iald (hexec : p.tables.exec = Jvm.exec) (hb : c.code = cc) (Z : zw G ad w s H locs) {k : Nat} {n : Nat} {f : Nat → Int32} (he : w k = some (.inl (G.2.1 0, n, .inl f))) {i : Int32} (hin : vp_in i n) (hdg : decode cc pc = .ok (.iaload, 1))
    (kk : W p l e R s m args below meth c H locs cells slots Q (F0 m (pc + 1) ls (.int (f i.toNatClampNeg) :: rest))) : W p l e R s m args below meth c H locs cells slots Q (F0 m pc ls (.int i :: .ref (ad k) :: rest)) :=
  va_iald hexec hb Z.1 (Z.one he) 0 0 rfl rfl hin hdg kk
theorem zw_cald (hexec : p.tables.exec = Jvm.exec) (hb : c.code = cc) (Z : zw G ad w s H locs) {k : Nat} {n : Nat} {f : Nat → Int32} (he : w k = some (.inl (G.2.1 1, n, .inl f))) {i : Int32} (hin : vp_in i n) (hdg : decode cc pc = .ok (.caload, 1))
    (kk : W p l e R s m args below meth c H locs cells slots Q (F0 m (pc + 1) ls (.int (f i.toNatClampNeg) :: rest))) : W p l e R s m args below meth c H locs cells slots Q (F0 m pc ls (.int i :: .ref (ad k) :: rest)) :=
  va_cald hexec hb Z.1 (Z.one he) 0 1 rfl rfl hin hdg kk
theorem zw_lald (hexec : p.tables.exec = Jvm.exec) (hb : c.code = cc) (Z : zw G ad w s H locs) {k : Nat} {n : Nat} {f : Nat → Int64} (he : w k = some (.inl (G.2.1 2, n, .inr (.inl f)))) {i : Int32} (hin : vp_in i n) (hdg : decode cc pc = .ok (.laload, 1))
    (kk : W p l e R s m args below meth c H locs cells slots Q (F0 m (pc + 1) ls (.long (f i.toNatClampNeg) :: rest))) : W p l e R s m args below meth c H locs cells slots Q (F0 m pc ls (.int i :: .ref (ad k) :: rest)) :=
  va_lald hexec hb Z.1 (Z.one he) 0 2 rfl rfl hin hdg kk
theorem zw_alen (hexec : p.tables.exec = Jvm.exec) (hb : c.code = cc) (Z : zw G ad w s H locs) {k : Nat} (t0 : Nat) {cA : ClassId} {x : vp_A} (he : w k = some (.inl (cA, x))) {ty : FieldType} (ht : (zty G.2.1)[t0]? = some (cA, ty)) {v : Int32} (hv : Int32.ofNat x.1 = v) (hdg : decode cc pc = .ok (.arraylength, 1))
    (kk : W p l e R s m args below meth c H locs cells slots Q (F0 m (pc + 1) ls (.int v :: rest))) : W p l e R s m args below meth c H locs cells slots Q (F0 m pc ls (.ref (ad k) :: rest)) :=
  va_alen hexec hb Z.1 (Z.one he) 0 t0 rfl ht hv hdg kk
theorem zw_aald (hexec : p.tables.exec = Jvm.exec) (hb : c.code = cc) (Z : zw G ad w s H locs) {k : Nat} {n : Nat} {f : Nat → Option Nat} (he : w k = some (.inl (G.2.1 3, n, .inr (.inr (.inr (.inr f)))))) {i : Int32} (hin : vp_in i n) {v : Value} (hv : va_rf (f i.toNatClampNeg) = v) (hdg : decode cc pc = .ok (.aaload, 1))
    (kk : W p l e R s m args below meth c H locs cells slots Q (F0 m (pc + 1) ls (v :: rest))) : W p l e R s m args below meth c H locs cells slots Q (F0 m pc ls (.int i :: .ref (ad k) :: rest)) := by
  subst hv
  have hlt : i.toNatClampNeg < n := Nat.not_le.mp fun q => hin (Or.inr q)
  exact W.aald (v := va_rf (f i.toNatClampNeg)) (ty := .array .int) hexec hb (Z.2.1.1 k _ he).1 ((Z.1.2 3 _ rfl).1 n (fun j => va_rf (f j))) rfl (fun q => by cases q) (by show ¬ (i < 0 ∨ (arrV _ _ _).slots.size ≤ _); rw [arrV_size]; exact hin) (by show (arrV _ _ _).slots[_]? = _; rw [arrV_read _ _ hlt]) rfl rfl hdg kk
theorem zw_iast (hexec : p.tables.exec = Jvm.exec) (hb : c.code = cc) (Z : zw G ad w s H locs) {k : Nat} {n : Nat} {f : Nat → Int32} (he : w k = some (.inl (G.2.1 0, n, .inl f))) {i : Int32} {x : Int32} (hin : vp_in i n) (hdg : decode cc pc = .ok (.iastore, 1))
    (kk : ∀ (H1 : Heap) (locs1 : List Loc), zw G ad (va_up w k (some (.inl (G.2.1 0, n, .inl (upd f i.toNatClampNeg x))))) s H1 locs1 → W p l e R s m args below meth c H1 locs1 cells slots Q (F0 m (pc + 1) ls rest)) : W p l e R s m args below meth c H locs cells slots Q (F0 m pc ls (.int x :: .int i :: .ref (ad k) :: rest)) := by
  refine W.iast hexec hb (Z.2.1.1 k _ he).1 ((Z.1.2 0 _ rfl).1 n (fun j => .int (f j))) (fun q => by cases q) (by show ¬ (i < 0 ∨ (arrV _ _ _).slots.size ≤ _); rw [arrV_size]; exact hin) rfl rfl hdg fun H1 e z oq => ?_
  refine kk H1 _ (Z.put he ?_ z oq)
  show H1[ad k]? = some (vp_cell _ _)
  rw [e]
  rw [vp_cell_i, vp_cell_i, arrV_store]
  congr 2
  funext q
  by_cases hq : q = i.toNatClampNeg
  · subst hq
    simp [updV, upd]
  · simp [updV, upd, hq]
theorem zw_cast (hexec : p.tables.exec = Jvm.exec) (hb : c.code = cc) (Z : zw G ad w s H locs) {k : Nat} {n : Nat} {f : Nat → Int32} (he : w k = some (.inl (G.2.1 1, n, .inl f))) {i : Int32} {x : Int32} (hin : vp_in i n) (hnar : narrow .char (.int x) = .int x) (hdg : decode cc pc = .ok (.castore, 1))
    (kk : ∀ (H1 : Heap) (locs1 : List Loc), zw G ad (va_up w k (some (.inl (G.2.1 1, n, .inl (upd f i.toNatClampNeg x))))) s H1 locs1 → W p l e R s m args below meth c H1 locs1 cells slots Q (F0 m (pc + 1) ls rest)) : W p l e R s m args below meth c H locs cells slots Q (F0 m pc ls (.int x :: .int i :: .ref (ad k) :: rest)) := by
  refine W.cast hexec hb (Z.2.1.1 k _ he).1 ((Z.1.2 1 _ rfl).1 n (fun j => .int (f j))) (fun q => by cases q) (by show ¬ (i < 0 ∨ (arrV _ _ _).slots.size ≤ _); rw [arrV_size]; exact hin) rfl rfl hdg fun H1 e z oq => ?_
  refine kk H1 _ (Z.put he ?_ z oq)
  show H1[ad k]? = some (vp_cell _ _)
  rw [e, hnar]
  rw [vp_cell_i, vp_cell_i, arrV_store]
  congr 2
  funext q
  by_cases hq : q = i.toNatClampNeg
  · subst hq
    simp [updV, upd]
  · simp [updV, upd, hq]
theorem zw_last (hexec : p.tables.exec = Jvm.exec) (hb : c.code = cc) (Z : zw G ad w s H locs) {k : Nat} {n : Nat} {f : Nat → Int64} (he : w k = some (.inl (G.2.1 2, n, .inr (.inl f)))) {i : Int32} {x : Int64} (hin : vp_in i n) (hdg : decode cc pc = .ok (.lastore, 1))
    (kk : ∀ (H1 : Heap) (locs1 : List Loc), zw G ad (va_up w k (some (.inl (G.2.1 2, n, .inr (.inl (vp_updL f i.toNatClampNeg x)))))) s H1 locs1 → W p l e R s m args below meth c H1 locs1 cells slots Q (F0 m (pc + 1) ls rest)) : W p l e R s m args below meth c H locs cells slots Q (F0 m pc ls (.long x :: .int i :: .ref (ad k) :: rest)) := by
  refine W.last hexec hb (Z.2.1.1 k _ he).1 ((Z.1.2 2 _ rfl).1 n (fun j => .long (f j))) (fun q => by cases q) (by show ¬ (i < 0 ∨ (arrV _ _ _).slots.size ≤ _); rw [arrV_size]; exact hin) rfl rfl hdg fun H1 e z oq => ?_
  refine kk H1 _ (Z.put he ?_ z oq)
  show H1[ad k]? = some (vp_cell _ _)
  rw [e]
  rw [vp_cell_l, vp_cell_l, arrV_store]
  congr 2
  funext q
  by_cases hq : q = i.toNatClampNeg
  · subst hq
    simp [updV, vp_updL]
  · simp [updV, vp_updL, hq]
theorem zw_new (hexec : p.tables.exec = Jvm.exec) (hb : c.code = cc) {own C : String} {T : u_T} {N ci index : Nat} {Ts : List Cond} (hts : ∀ w ∈ Ts, w.before args s = true) (hin : ∀ w ∈ u_ws C T N, w ∈ Ts) (ty : Nat → FieldType) (hty : ∀ k, k < N → parseFieldDescriptor (T k).2.2.1 = some (ty k)) (hown : s.vm.findClass own = some m.cls) (hcl : (Cond.classLink own index C).before args s = true) (hinst : (Cond.instantiable C N).before args s = true) (hini : (Cond.initialized C).before args s = true)
    (Z : zw G ad w s H locs) (k : Nat) (hk : w k = none) (hc : zcl[ci]? = some (C, T, N)) {fs : List Value} (hfs : ∀ j, j < N → defaultValue (ty j) = vp_V fs j) (hcells : cells + 1 ≤ R.cells) (hslots : slots + N ≤ R.slots) (hdg : decode cc pc = .ok (.new index, 3))
    (kk : ∀ (ad1 : Nat → Nat) (H1 : Heap), (∀ j, j ≠ k → ad1 j = ad j) → zw G ad1 (va_up w k (some (.inr (ci, fs)))) s H1 locs → W p l e R s m args below meth c H1 locs (cells + 1) (slots + N) Q (F0 m (pc + 3) ls (.ref (ad1 k) :: rest))) : W p l e R s m args below meth c H locs cells slots Q (F0 m pc ls rest) := by
  have hKn := Z.1.1 ci _ hc
  refine W.newcK hexec hb hown hcl hinst hini rfl hdg hcells hslots hKn.2.1 rfl fun H1 kC hkC e1 z1 o1 => ?_
  have h := kk (va_up ad k H.size) H1 (fun j hj => va_up_ne _ _ hj) (Z.grow k hk ⟨_, hc, (u_born ty hts hin hKn hkC e1 hty).to hfs⟩ z1 o1)
  rw [va_up_self] at h
  exact h
theorem zw_newa (hexec : p.tables.exec = Jvm.exec) (hb : c.code = cc) {atype : ArrayType} (harr : (Cond.arrayClass (newarray.typeOf atype)).before args s = true) {ty : FieldType} (hty : newarray.typeOf atype = ty) (Z : zw G ad w s H locs) (k : Nat) (hk : w k = none) (t0 : Nat) {cA : ClassId} (ht : (zty G.2.1)[t0]? = some (cA, ty))
    {n : Int32} {N' : Nat} {a0 : vp_A} (ha : vp_cell cA a0 = arrV cA N' (fun _ => defaultValue ty)) (hn : ¬ n < 0) (hN : n.toNatClampNeg = N') (hbytes : N' * componentBytes ty ≤ 536870912) (hcells : cells + 1 ≤ R.cells) (hslots : slots + N' ≤ R.slots) (hdg : decode cc pc = .ok (.newarray atype, 2))
    (kk : ∀ (ad1 : Nat → Nat) (H1 : Heap), (∀ j, j ≠ k → ad1 j = ad j) → zw G ad1 (va_up w k (some (.inl (cA, a0)))) s H1 locs → W p l e R s m args below meth c H1 locs (cells + 1) (slots + N') Q (F0 m (pc + 2) ls (.ref (ad1 k) :: rest))) : W p l e R s m args below meth c H locs cells slots Q (F0 m pc ls (.int n :: rest)) := by
  subst hty
  refine va_newaK hexec hb harr rfl hdg rfl hn hN hbytes hcells hslots rfl fun H1 cB e1 z1 o1 hAr hNm => ?_
  have hcc : cA = cB := by
    have h1 := (Z.1.2 t0 _ ht).2
    have h2 : s.vm.findClass ("[" ++ (newarray.typeOf atype).toString) = some cA := by cases atype <;> exact h1
    exact Option.some.inj (h2.symm.trans hNm)
  subst hcc
  have h := kk (va_up ad k H.size) H1 (fun j hj => va_up_ne _ _ hj) (Z.grow k hk (by show H1[H.size]? = some (vp_cell _ _); rw [ha]; exact e1) z1 o1)
  rw [va_up_self] at h
  exact h
end ZWB
section ZWC
variable {p : Program} {l : Launch} {e : Env} {R : Room} {s : State} {m : MethodId} {args : Array Value} {below : List Frame} {meth : Method} {c : Code} {H : Heap} {locs : List Loc} {cells slots : Nat} {Q : State → Prop}
variable {pc : Nat} {ls : Array Slot} {rest st0 : List Value} {a : Array Value} {mc ms : Nat} {G : zG} {ad : Nat → Nat} {w : Nat → Option va_E}
theorem zw_calli {S : Type} {post : Int32 → S → Prop} {fa : S → Nat → Nat} {fw : S → Nat → Option va_E} (hr : va_Run p l e R s m args below meth c H locs cells slots mc ms (F0 m pc ls st0) rest (va_Qi post (fun u t => zw_U G (fa u) (fw u) t) (zA G) a) (zA G)) (Z : zw G ad w s H locs)
    (kk : ∀ (r : Int32) (u : S) (H1 : Heap) (locs1 : List Loc), post r u → zw G (fa u) (fw u) s H1 locs1 → W p l e R s m args below meth c H1 locs1 (cells + mc) (slots + ms) Q (F0 m (pc + 3) ls (.int r :: rest))) : W p l e R s m args below meth c H locs cells slots Q (F0 m pc ls st0) := by
  refine va_calli hr Z.2.2.1 (fun _ _ h => h) (fun _ h => h) (fun r u t H1 locs1 ht hvm hp hB hz hk hS => ?_)
  exact kk r u H1 locs1 hp ⟨Z.1, by rw [← ht]; exact hB.2.1, hS, Z.2.2.2⟩
theorem zw_calll {S : Type} {post : Int64 → S → Prop} {fa : S → Nat → Nat} {fw : S → Nat → Option va_E} (hr : va_Run p l e R s m args below meth c H locs cells slots mc ms (F0 m pc ls st0) rest (va_Ql post (fun u t => zw_U G (fa u) (fw u) t) (zA G) a) (zA G)) (Z : zw G ad w s H locs)
    (kk : ∀ (r : Int64) (u : S) (H1 : Heap) (locs1 : List Loc), post r u → zw G (fa u) (fw u) s H1 locs1 → W p l e R s m args below meth c H1 locs1 (cells + mc) (slots + ms) Q (F0 m (pc + 3) ls (.long r :: rest))) : W p l e R s m args below meth c H locs cells slots Q (F0 m pc ls st0) := by
  refine va_calll hr Z.2.2.1 (fun _ _ h => h) (fun _ h => h) (fun r u t H1 locs1 ht hvm hp hB hz hk hS => ?_)
  exact kk r u H1 locs1 hp ⟨Z.1, by rw [← ht]; exact hB.2.1, hS, Z.2.2.2⟩
theorem zw_callv {S : Type} {post : S → Prop} {fa : S → Nat → Nat} {fw : S → Nat → Option va_E} (hr : va_Run p l e R s m args below meth c H locs cells slots mc ms (F0 m pc ls st0) rest (va_Qv post (fun u t => zw_U G (fa u) (fw u) t) (zA G) a) (zA G)) (Z : zw G ad w s H locs)
    (kk : ∀ (u : S) (H1 : Heap) (locs1 : List Loc), post u → zw G (fa u) (fw u) s H1 locs1 → W p l e R s m args below meth c H1 locs1 (cells + mc) (slots + ms) Q (F0 m (pc + 3) ls rest)) : W p l e R s m args below meth c H locs cells slots Q (F0 m pc ls st0) := by
  refine va_callv hr Z.2.2.1 (fun _ _ h => h) (fun _ h => h) (fun u t H1 locs1 ht hvm hp hB hz hk hS => ?_)
  exact kk u H1 locs1 hp ⟨Z.1, by rw [← ht]; exact hB.2.1, hS, Z.2.2.2⟩
end ZWC
section ZWM
variable {l : Launch} {G : zG}
/-- the fixed facts of a method's walk -/
def zC (p : Program) (s : State) (m : MethodId) (args : Array Value) (meth : Method) (c : Code) (cc : ByteArray) (maxL : Nat) (own : String) (ws : List Cond) : Prop :=
  p.tables.exec = Jvm.exec ∧ c.code = cc ∧ c.maxLocals = maxL ∧ s.vm.findClass own = some m.cls ∧ (∀ w ∈ ws, w.before args s = true) ∧ meth.locks = false
theorem zw_methi {y : MethodName} {ws ws' : List Cond} {rm : Room} {cc : ByteArray} {maxL : Nat} {av : List Value} {ad : Nat → Nat} {w : Nat → Option va_E} {mc ms : Nat} {S : Type} {post : Int32 → S → Prop} {fa : S → Nat → Nat} {fw : S → Nat → Option va_E}
    (hy : plainName y.cls = true) (hw : ws = Cond.code y cc maxL (some .int) :: ws') (hav : (lg_sl av).length ≤ maxL)
    (body : ∀ (p : Program) (e : Env) (s : State) (m : MethodId) (below : List Frame) (meth : Method) (c : Code) (Q : State → Prop) (ls : Array Slot), zC p s m av.toArray meth c cc maxL y.cls ws → meth.name = y.name → zw G ad w s s.heap [] → lv_has ls maxL (lv_args 0 av) →
      (∀ (pc : Nat) (ls : Array Slot) (r : Int32) (u : S) (H : Heap) (locs : List Loc), decode cc pc = .ok (.ireturn, 1) → post r u → zw G (fa u) (fw u) s H locs → W p l e rm s m av.toArray below meth c H locs mc ms Q (F0 m pc ls [.int r])) →
      W p l e rm s m av.toArray below meth c s.heap [] 0 0 Q (F0 m 0 ls [])) :
    Met l y ws rm (va_Pc av (zw_U G ad w)) (va_Qi post (fun u t => zw_U G (fa u) (fw u) t) (zA G)) mc ms (zA G) := by
  refine Met.ofW (cc := cc) (maxL := maxL) (ret := some .int) hy hw ?_
  intro p e s m args below meth c s₁ B hml hv
  obtain ⟨rfl, hU⟩ := hv
  have hl := lv_entry av (n := maxL) hav
  rw [lg_entry_eq]
  refine body p e s m below meth c _ _ ⟨B.exec, B.bytes, hml, findClass_of_methodNamed B.named, atoms_spec (ws := ws) B.pre, B.notSynchronized⟩ (name_of_methodNamed B.named B.method).1 hU.enter hl ?_
  intro pc ls r u H locs hd hp Z
  exact W.iret B.exec B.bytes B.returns (fun t ht hW => ⟨⟨r, u, rfl, hp, Z.at' ht hW⟩, Z.F ht⟩) Z.fr hd B.notSynchronized
theorem zw_methz {y : MethodName} {ws ws' : List Cond} {rm : Room} {cc : ByteArray} {maxL : Nat} {av : List Value} {ad : Nat → Nat} {w : Nat → Option va_E} {mc ms : Nat} {S : Type} {post : Int32 → S → Prop} {fa : S → Nat → Nat} {fw : S → Nat → Option va_E}
    (hy : plainName y.cls = true) (hw : ws = Cond.code y cc maxL (some .boolean) :: ws') (hav : (lg_sl av).length ≤ maxL) (hbit : ∀ r u, post r u → narrow .boolean (.int r) = .int r)
    (body : ∀ (p : Program) (e : Env) (s : State) (m : MethodId) (below : List Frame) (meth : Method) (c : Code) (Q : State → Prop) (ls : Array Slot), zC p s m av.toArray meth c cc maxL y.cls ws → meth.name = y.name → zw G ad w s s.heap [] → lv_has ls maxL (lv_args 0 av) →
      (∀ (pc : Nat) (ls : Array Slot) (r : Int32) (u : S) (H : Heap) (locs : List Loc), decode cc pc = .ok (.ireturn, 1) → post r u → zw G (fa u) (fw u) s H locs → W p l e rm s m av.toArray below meth c H locs mc ms Q (F0 m pc ls [.int r])) →
      W p l e rm s m av.toArray below meth c s.heap [] 0 0 Q (F0 m 0 ls [])) :
    Met l y ws rm (va_Pc av (zw_U G ad w)) (va_Qi post (fun u t => zw_U G (fa u) (fw u) t) (zA G)) mc ms (zA G) := by
  refine Met.ofW (cc := cc) (maxL := maxL) (ret := some .boolean) hy hw ?_
  intro p e s m args below meth c s₁ B hml hv
  obtain ⟨rfl, hU⟩ := hv
  have hl := lv_entry av (n := maxL) hav
  rw [lg_entry_eq]
  refine body p e s m below meth c _ _ ⟨B.exec, B.bytes, hml, findClass_of_methodNamed B.named, atoms_spec (ws := ws) B.pre, B.notSynchronized⟩ (name_of_methodNamed B.named B.method).1 hU.enter hl ?_
  intro pc ls r u H locs hd hp Z
  exact W.zret B.exec B.bytes B.returns (hbit r u hp) (fun t ht hW => ⟨⟨r, u, rfl, hp, Z.at' ht hW⟩, Z.F ht⟩) Z.fr hd B.notSynchronized
theorem zw_methc {y : MethodName} {ws ws' : List Cond} {rm : Room} {cc : ByteArray} {maxL : Nat} {av : List Value} {ad : Nat → Nat} {w : Nat → Option va_E} {mc ms : Nat} {S : Type} {post : Int32 → S → Prop} {fa : S → Nat → Nat} {fw : S → Nat → Option va_E}
    (hy : plainName y.cls = true) (hw : ws = Cond.code y cc maxL (some .char) :: ws') (hav : (lg_sl av).length ≤ maxL) (hbit : ∀ r u, post r u → narrow .char (.int r) = .int r)
    (body : ∀ (p : Program) (e : Env) (s : State) (m : MethodId) (below : List Frame) (meth : Method) (c : Code) (Q : State → Prop) (ls : Array Slot), zC p s m av.toArray meth c cc maxL y.cls ws → meth.name = y.name → zw G ad w s s.heap [] → lv_has ls maxL (lv_args 0 av) →
      (∀ (pc : Nat) (ls : Array Slot) (r : Int32) (u : S) (H : Heap) (locs : List Loc), decode cc pc = .ok (.ireturn, 1) → post r u → zw G (fa u) (fw u) s H locs → W p l e rm s m av.toArray below meth c H locs mc ms Q (F0 m pc ls [.int r])) →
      W p l e rm s m av.toArray below meth c s.heap [] 0 0 Q (F0 m 0 ls [])) :
    Met l y ws rm (va_Pc av (zw_U G ad w)) (va_Qi post (fun u t => zw_U G (fa u) (fw u) t) (zA G)) mc ms (zA G) := by
  refine Met.ofW (cc := cc) (maxL := maxL) (ret := some .char) hy hw ?_
  intro p e s m args below meth c s₁ B hml hv
  obtain ⟨rfl, hU⟩ := hv
  have hl := lv_entry av (n := maxL) hav
  rw [lg_entry_eq]
  refine body p e s m below meth c _ _ ⟨B.exec, B.bytes, hml, findClass_of_methodNamed B.named, atoms_spec (ws := ws) B.pre, B.notSynchronized⟩ (name_of_methodNamed B.named B.method).1 hU.enter hl ?_
  intro pc ls r u H locs hd hp Z
  exact W.zret B.exec B.bytes B.returns (hbit r u hp) (fun t ht hW => ⟨⟨r, u, rfl, hp, Z.at' ht hW⟩, Z.F ht⟩) Z.fr hd B.notSynchronized
theorem zw_methv {y : MethodName} {ws ws' : List Cond} {rm : Room} {cc : ByteArray} {maxL : Nat} {av : List Value} {ad : Nat → Nat} {w : Nat → Option va_E} {mc ms : Nat} {S : Type} {post : S → Prop} {fa : S → Nat → Nat} {fw : S → Nat → Option va_E}
    (hy : plainName y.cls = true) (hw : ws = Cond.code y cc maxL (none) :: ws') (hav : (lg_sl av).length ≤ maxL)
    (body : ∀ (p : Program) (e : Env) (s : State) (m : MethodId) (below : List Frame) (meth : Method) (c : Code) (Q : State → Prop) (ls : Array Slot), zC p s m av.toArray meth c cc maxL y.cls ws → meth.name = y.name → zw G ad w s s.heap [] → lv_has ls maxL (lv_args 0 av) →
      (∀ (pc : Nat) (ls : Array Slot) (u : S) (H : Heap) (locs : List Loc), decode cc pc = .ok (.return_, 1) → post u → zw G (fa u) (fw u) s H locs → W p l e rm s m av.toArray below meth c H locs mc ms Q (F0 m pc ls [])) →
      W p l e rm s m av.toArray below meth c s.heap [] 0 0 Q (F0 m 0 ls [])) :
    Met l y ws rm (va_Pc av (zw_U G ad w)) (va_Qv post (fun u t => zw_U G (fa u) (fw u) t) (zA G)) mc ms (zA G) := by
  refine Met.ofW (cc := cc) (maxL := maxL) (ret := none) hy hw ?_
  intro p e s m args below meth c s₁ B hml hv
  obtain ⟨rfl, hU⟩ := hv
  have hl := lv_entry av (n := maxL) hav
  rw [lg_entry_eq]
  refine body p e s m below meth c _ _ ⟨B.exec, B.bytes, hml, findClass_of_methodNamed B.named, atoms_spec (ws := ws) B.pre, B.notSynchronized⟩ (name_of_methodNamed B.named B.method).1 hU.enter hl ?_
  intro pc ls u H locs hd hp Z
  exact W.vret B.exec B.bytes B.returns (fun t ht hW => ⟨⟨u, rfl, hp, Z.at' ht hW⟩, Z.F ht⟩) Z.fr hd B.notSynchronized
end ZWM
section ZWT
variable {p : Program} {l : Launch} {e : Env} {R : Room} {s : State} {m : MethodId} {args : Array Value} {below : List Frame} {meth : Method} {c : Code} {H : Heap} {locs : List Loc} {cells slots : Nat} {Q : State → Prop} {pc : Nat} {ls : Array Slot} {rest : List Value}
theorem zw_top {x : Int32} (y : Int32) (h : x = y) (k : W p l e R s m args below meth c H locs cells slots Q (F0 m pc ls (.int y :: rest))) : W p l e R s m args below meth c H locs cells slots Q (F0 m pc ls (.int x :: rest)) := by rw [h]; exact k
theorem zw_topl {x : Int64} (y : Int64) (h : x = y) (k : W p l e R s m args below meth c H locs cells slots Q (F0 m pc ls (.long y :: rest))) : W p l e R s m args below meth c H locs cells slots Q (F0 m pc ls (.long x :: rest)) := by rw [h]; exact k
theorem zw_topv {x : Value} (y : Value) (h : x = y) (k : W p l e R s m args below meth c H locs cells slots Q (F0 m pc ls (y :: rest))) : W p l e R s m args below meth c H locs cells slots Q (F0 m pc ls (x :: rest)) := by rw [h]; exact k
end ZWT
