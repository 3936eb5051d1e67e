/-! the law: its helpers catch; both sides in one world -/
section ZLH
variable {l : Launch} {G : zG}
/-- a method with a table of its own that throws nothing -/
theorem zw_methH {y : MethodName} {ws ws' : List Cond} {rm : Room} {cc : ByteArray} {maxL : Nat} {hh : List (Nat × Nat × Nat × Nat)} {av : List Value} {ad : Nat → Nat} {w : Nat → Option va_E} {mc ms : Nat} {S : Type} {post : Int32 → S → Prop} {fa : S → Nat → Nat} {fw : S → Nat → Option va_E}
    (hy : plainName y.cls = true) (hw : ws = Cond.codeWith y cc maxL (some .int) hh :: ws') (hav : (lg_sl av).length ≤ maxL)
    (body : ∀ (p : Program) (e : Env) (s : State) (m : MethodId) (below : List Frame) (meth : Method) (c : Code) (Q : State → Prop) (ls : Array Slot), zC p s m av.toArray meth c cc maxL y.cls ws → c.exceptionTable.toList = tableOf hh → zw G ad w s s.heap [] → lv_has ls maxL (lv_args 0 av) →
      (∀ (cells slots pc : Nat) (ls : Array Slot) (r : Int32) (u : S) (H : Heap) (locs : List Loc), decode cc pc = .ok (.ireturn, 1) → post r u → zw G (fa u) (fw u) s H locs → cells ≤ mc → slots ≤ ms → W p l e rm s m av.toArray below meth c H locs cells slots Q (F0 m pc ls [.int r])) →
      W p l e rm s m av.toArray below meth c s.heap [] 0 0 Q (F0 m 0 ls [])) :
    Met l y ws rm (va_Pc av (zw_U G ad w)) (va_Qi post (fun u t => zw_U G (fa u) (fw u) t) (zA G)) mc ms (zA G) := by
  refine MetFree.of_bodyS (code := cc) (maxLocals := maxL) (ret := some .int) hy ?_ ?_
  · intro args s m h hn
    obtain ⟨m9, meth, c, hn9, h1, h2, h3, h4, -, h5, h6, -⟩ := Cond.codeWith_spec (atoms_spec (ws := ws) h _ (by rw [hw]; exact List.mem_cons_self))
    cases hn.symm.trans hn9
    exact ⟨meth, c, h1, h2, h3, h4, h5, h6⟩
  · intro p e s m args below meth c s₁ B hml hP _
    have hh0 : s₁.heap = s.heap := by rw [B.state]; rfl
    obtain ⟨rfl, hU⟩ := hP
    have hl := lv_entry av (n := maxL) hav
    have hats := atoms_spec (ws := ws) B.pre
    have htab := vx_table (x := y) B (hats _ (by rw [hw]; exact List.mem_cons_self))
    have K : W p l e rm s m av.toArray below meth c s.heap [] 0 0 (MQ below (va_Qi post (fun u t => zw_U G (fa u) (fw u) t) (zA G)) av.toArray s mc ms (zA G)) (entryFrame m av.toArray maxL) := by
      rw [lg_entry_eq]
      refine body p e s m below meth c _ _ ⟨B.exec, B.bytes, hml, findClass_of_methodNamed B.named, hats, B.notSynchronized⟩ htab hU.enter hl ?_
      intro cells slots pc ls r u H locs hd hp Z hc hs
      exact W.widen hc hs (W.iret B.exec B.bytes B.returns (fun t ht hW => ⟨⟨r, u, rfl, hp, Z.at' ht hW⟩, Z.F ht⟩) Z.fr hd B.notSynchronized)
    obtain ⟨t, a1, o, b1, b2, b3⟩ := K s₁ hh0 (Stand.of_body B)
    exact ⟨t, o, a1, b1, b2, ⟨b3.1, b3.2⟩⟩
end ZLH
section ZLC
variable {p : Program} {l : Launch} {e : Env} {R : Room} {s : State} {m : MethodId} {args : Array Value} {below : List Frame} {meth : Method} {c : Code} {H : Heap} {locs : List Loc} {cells slots : Nat} {Q : State → Prop} {ls : Array Slot} {rest st0 : List Value} {pc : Nat} {G : zG} {ad : Nat → Nat} {w : Nat → Option va_E} {mc1 ms1 : Nat} {a : Array Value} {pe1 : String → (Nat → Option va_E) → Prop}
/-- a callee that may throw, and a caller that does with it what it will -/
theorem zx_callcv {S : Type} {post : S → Prop} {fa : S → Nat → Nat} {fw : S → Nat → Option va_E} (hr : vx_Run p l e R s m args below meth c H locs cells slots mc1 ms1 (F0 m pc ls st0) rest (va_Qv post (fun u t => zw_U G (fa u) (fw u) t) (zA G) a) (zXC G ad pe1) (zA G)) (Z : zw G ad w s H locs)
    (kx : ∀ (E : String) (u : Nat → Option va_E) (H1 : Heap) (locs1 : List Loc) (q9 : Addr) (ce : Cell), pe1 E u → zw G ad u s H1 locs1 → H1[q9]? = some ce → ce.vm = .none → s.vm.findClass E = some ce.cls → vx_W p l e R s m args below meth c H1 locs1 (cells + mc1) (slots + ms1) Q (F0 m pc ls rest) q9)
    (kk : ∀ (u : S) (H1 : Heap) (locs1 : List Loc), post u → zw G (fa u) (fw u) s H1 locs1 → W p l e R s m args below meth c H1 locs1 (cells + mc1) (slots + ms1) Q (F0 m (pc + 3) ls rest)) : W p l e R s m args below meth c H locs cells slots Q (F0 m pc ls st0) := by
  refine vx_callv hr Z.2.2.1 (fun _ _ h => h) (fun _ h => h) (fun _ _ h => h) ?_ ?_
  · intro E ce q9 u t H1 locs1 ht hvm _ hB hz hk hS hcell hv hcl
    exact kx E u H1 locs1 q9 ce hB.1 ⟨Z.1, by rw [← ht]; exact hB.2, hS, Z.2.2.2⟩ hcell hv hcl
  · intro u t H1 locs1 ht hvm hp hB hz hk hS
    exact kk u H1 locs1 hp ⟨Z.1, by rw [← ht]; exact hB.2.1, hS, Z.2.2.2⟩
theorem zx_callci {S : Type} {post : Int32 → S → Prop} {fa : S → Nat → Nat} {fw : S → Nat → Option va_E} (hr : vx_Run p l e R s m args below meth c H locs cells slots mc1 ms1 (F0 m pc ls st0) rest (va_Qi post (fun u t => zw_U G (fa u) (fw u) t) (zA G) a) (zXC G ad pe1) (zA G)) (Z : zw G ad w s H locs)
    (kx : ∀ (E : String) (u : Nat → Option va_E) (H1 : Heap) (locs1 : List Loc) (q9 : Addr) (ce : Cell), pe1 E u → zw G ad u s H1 locs1 → H1[q9]? = some ce → ce.vm = .none → s.vm.findClass E = some ce.cls → vx_W p l e R s m args below meth c H1 locs1 (cells + mc1) (slots + ms1) Q (F0 m pc ls rest) q9)
    (kk : ∀ (r : Int32) (u : S) (H1 : Heap) (locs1 : List Loc), post r u → zw G (fa u) (fw u) s H1 locs1 → W p l e R s m args below meth c H1 locs1 (cells + mc1) (slots + ms1) Q (F0 m (pc + 3) ls (.int r :: rest))) : W p l e R s m args below meth c H locs cells slots Q (F0 m pc ls st0) := by
  refine vx_calli hr Z.2.2.1 (fun _ _ h => h) (fun _ h => h) (fun _ _ h => h) ?_ ?_
  · intro E ce q9 u t H1 locs1 ht hvm _ hB hz hk hS hcell hv hcl
    exact kx E u H1 locs1 q9 ce hB.1 ⟨Z.1, by rw [← ht]; exact hB.2, hS, Z.2.2.2⟩ hcell hv hcl
  · intro r u t H1 locs1 ht hvm hp hB hz hk hS
    exact kk r u H1 locs1 hp ⟨Z.1, by rw [← ht]; exact hB.2.1, hS, Z.2.2.2⟩
end ZLC
section ZLD
variable {G : zG} {ad ad' : Nat → Nat} {w w' : Nat → Option va_E} {P n o : Nat} {A : Nat → Nat → Nat} {T : Nat → Nat} {len : Nat} {flt pl thr : Int32} {out : List Nat}
theorem zDk.cong (h : zDk G ad w P n o A T len flt pl out) (e : ∀ k, k ≤ 72 → w' k = w k) : zDk G ad w' P n o A T len flt pl out := by
  obtain ⟨FR, FE, a1, a2, a3, a4, a5, a6, a7, a8⟩ := h
  obtain ⟨b1, b2, b3, b4, b5, b6, b7, b8, b9⟩ := a1
  exact ⟨FR, FE, ⟨b1.cong (fun k h1 h2 => e k (by omega)), by rw [e _ (by decide)]; exact b2, by rw [e _ (by decide)]; exact b3, b4, b5, b6, by rw [e _ (by decide)]; exact b7, by rw [e _ (by decide)]; exact b8, fun k h1 h2 => by rw [e _ (by omega)]; exact b9 k h1 h2⟩, a2, a3, by rw [e _ (by decide)]; exact a4, by rw [e _ (by decide)]; exact a5, by rw [e _ (by decide)]; exact a6, a7.cong (e _ (by decide)) (e _ (by decide)), fun k hk => by rw [e _ (by omega)]; exact a8 k hk⟩
theorem zDk.o0 (h : zDk G ad w P n o A T len flt pl out) : w 0 = some (oK ad (fun _ => 0)) := by
  obtain ⟨FR, FE, a1, a2, a3, a4, a5, a6, a7, a8⟩ := h
  exact a4
theorem zMd.o100 (h : zMd G ad w P n o A T len flt pl out thr) : ∃ F, w 100 = some (oM ad F) := by
  obtain ⟨F, B, h1, -⟩ := h
  exact ⟨F, h1.1⟩
theorem zMd.cong (h : zMd G ad w P n o A T len flt pl out thr) (e : ∀ k, 100 ≤ k → k ≤ 110 → w' k = w k) : zMd G ad w' P n o A T len flt pl out thr := by
  obtain ⟨F, B, h1, h2, h3, h4⟩ := h
  exact ⟨F, B, h1.obj (fun k hk => e k (by omega) (by omega)) (by rw [e _ (by decide) (by decide)]; exact h1.1) (fun j hj => rfl), h2, h3, h4.cong (fun k a b => e k (by omega) b)⟩
/-- the desk where other addresses are new -/
theorem zDk.mv (h : zDk G ad w P n o A T len flt pl out) (ha : ∀ k, k ≤ 72 → ad' k = ad k) (hw : ∀ k, k ≤ 72 → k ≠ 4 → k ≠ 11 → k ≠ 12 → k ≠ 14 → w' k = w k) (h4 : w' 4 = some (zq G 4 (fun v => some (ad' (16 + v))))) (h11 : w' 11 = some (zq G 21 (fun d => some (ad' (28 + d))))) (h12 : w' 12 = some (zq G 21 (fun d => some (ad' (49 + d))))) (h14 : w' 14 = some (zq G 8 (fun k => some (ad' (20 + k))))) : zDk G ad' w' P n o A T len flt pl out := by
  obtain ⟨FR, FE, a1, a2, a3, a4, a5, a6, ⟨FP, pb, c1, c2, c3, c4, c5⟩, a8⟩ := h
  obtain ⟨b1, b2, b3, b4, b5, b6, b7, b8, b9⟩ := a1
  refine ⟨FR, FE, ⟨b1.mv (fun k hk => ha k (by omega)) (fun k hk => hw k (by omega) (by omega) (by omega) (by omega) (by omega)) h4, ?_, by rw [hw _ (by decide) (by decide) (by decide) (by decide) (by decide)]; exact b3, b4, b5, b6, h11, h12, fun k h1 h2 => by rw [hw _ (by omega) (by omega) (by omega) (by omega) (by omega)]; exact b9 k h1 h2⟩, a2, a3, ?_, h14, by rw [hw _ (by decide) (by decide) (by decide) (by decide) (by decide)]; exact a6, ⟨FP, pb, ?_, c2, by rw [hw _ (by decide) (by decide) (by decide) (by decide) (by decide)]; exact c3, c4, c5⟩, fun k hk => by rw [hw _ (by omega) (by omega) (by omega) (by omega) (by omega)]; exact a8 k hk⟩
  · rw [hw _ (by decide) (by decide) (by decide) (by decide) (by decide), b2]
    have e : ∀ k, k ≤ 72 → ad k = ad' k := fun k hk => (ha k hk).symm
    show (some (oE ad FE) : Option va_E) = some (oE ad' FE)
    unfold oE
    rw [e 1 (by decide), e 10 (by decide), e 11 (by decide), e 12 (by decide), e 70 (by decide)]
  · rw [hw _ (by decide) (by decide) (by decide) (by decide) (by decide), a4]
    have e : ∀ k, k ≤ 72 → ad k = ad' k := fun k hk => (ha k hk).symm
    unfold oK
    rw [e 1 (by decide), e 2 (by decide), e 3 (by decide), e 14 (by decide), e 15 (by decide)]
  · rw [hw _ (by decide) (by decide) (by decide) (by decide) (by decide), c1]
    have e : ∀ k, k ≤ 72 → ad k = ad' k := fun k hk => (ha k hk).symm
    unfold oP
    rw [e 1 (by decide), e 13 (by decide)]
theorem zMd.mv (h : zMd G ad w P n o A T len flt pl out thr) (ha : ∀ k, 100 ≤ k → k ≤ 110 → ad' k = ad k) (e : ∀ k, 100 ≤ k → k ≤ 110 → w' k = w k) : zMd G ad' w' P n o A T len flt pl out thr := by
  obtain ⟨F, B, h1, h2, h3, h4⟩ := h
  obtain ⟨c1, c2⟩ := h1
  have g : ∀ k, 100 ≤ k → k ≤ 110 → ad k = ad' k := fun k a b => (ha k a b).symm
  have c1' : w 100 = some (oM ad' F) := by
    rw [c1]
    unfold oM
    rw [g 101 (by decide) (by decide), g 102 (by decide) (by decide), g 103 (by decide) (by decide), g 104 (by decide) (by decide), g 105 (by decide) (by decide), g 106 (by decide) (by decide), g 107 (by decide) (by decide), g 108 (by decide) (by decide), g 109 (by decide) (by decide), g 110 (by decide) (by decide)]
  have h1' : zMod G ad' w P n o F B := ⟨c1', c2⟩
  exact ⟨F, B, h1'.obj (fun k hk => e k (by omega) (by omega)) (by rw [e _ (by decide) (by decide)]; exact h1'.1) (fun j hj => rfl), h2, h3, h4.cong (fun k a b => e k (by omega) b)⟩
end ZLD
/-- both sides, and the law's own number -/
def zLw (G : zG) (ad : Nat → Nat) (w : Nat → Option va_E) : Prop := ∃ (P n o : Nat) (A : Nat → Nat → Nat) (T : Nat → Nat) (len : Nat) (flt pl : Int32) (out : List Nat) (thr : Int32) (f : Nat → Int64), zDk G ad w P n o A T len flt pl out ∧ zMd G ad w P n o A T len flt pl out thr ∧ w 111 = some (zj G 1 f)
