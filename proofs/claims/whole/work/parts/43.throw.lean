/-! methods that may throw, in numbered worlds -/
theorem zw_H.all {D : va_G} {N0 : Nat} {ad : Nat → Nat} {w : Nat → Option va_E} {H H1 : Heap} (h : zw_H D N0 ad w H) (hq : ∀ q : Nat, q < H.size → H1[q]? = H[q]?) : zw_H D N0 ad w H1 :=
  ⟨fun k x hk => ⟨(h.1 k x hk).1.kept (hq _ (h.lt hk)), (h.1 k x hk).2⟩, h.2⟩
/-- where a class by that name was thrown: what holds of the name and the world -/
def zXC (G : zG) (ad : Nat → Nat) (pe : String → (Nat → Option va_E) → Prop) : String → State → State → Prop := vx_X (S := Nat → Option va_E) (fun _ => True) (fun E u t => pe E u ∧ zw_H G.1 G.2.2.1 ad u t.heap) (zA G)
def zSup : List String := ["java/lang/RuntimeException", "java/lang/Exception"]
def zMsg : List (Nat × String) := [(51, "no prime up to 32003"), (56, "not 1 to 4 variables"), (58, "no such order"), (149, "no such polynomial"), (81, "a fault in the text"), (104, "the product's degree is too high"), (155, "no such variable")]
def zNgw : List Cond := [.declares ⟨"java/lang/RuntimeException", "<init>", "(Ljava/lang/String;)V"⟩, .declares ⟨"java/lang/Exception", "<init>", "(Ljava/lang/String;)V"⟩, .declares ⟨"java/lang/Throwable", "<init>", "(Ljava/lang/String;)V"⟩, .castable "java/lang/IllegalArgumentException" "java/lang/IllegalArgumentException", .castable "java/lang/IndexOutOfBoundsException" "java/lang/IndexOutOfBoundsException", .castable "java/lang/IllegalStateException" "java/lang/IllegalStateException"]
/-- what throwing and catching need -/
def zTHR (G : zG) (U : State) (H : Heap) : Prop := (∀ q ∈ zMsg, ∃ a, vk_R "PolynomialDesk" q.1 q.2 a U) ∧ (∀ w ∈ zNgw, va_Nw w U) ∧ vx_Zq Bundle.tN "UNASSIGNED_STACK" Bundle.steD (zA G) U H ∧ vx_Zq Bundle.tN "SUPPRESSED_SENTINEL" Bundle.listD (zA G) U H ∧ va_Nc "java/lang/IllegalArgumentException" "java/lang/IndexOutOfBoundsException" U ∧ va_Nc "java/lang/IllegalStateException" "java/lang/IndexOutOfBoundsException" U
theorem zNgw_ot : ∀ w ∈ zNgw, w.onTables = true := by decide +kernel
/-- the room of a method of level k that may make c cells of n slots -/
abbrev zRx (k c n : Nat) : Room := { frames := 2 * k, cells := c, slots := n, locals := 64 * k }
theorem zRx_fit {k k1 n c0 n0 c1 n1 : Nat} (h : k1 < k) (hn : n ≤ 45) : (zRx k1 c1 n1).frames + 1 ≤ (zRx k c0 n0).frames ∧ 8 + (n + 11) + (zRx k1 c1 n1).locals ≤ (zRx k c0 n0).locals := by
  show 2 * k1 + 1 ≤ 2 * k ∧ 8 + (n + 11) + 64 * k1 ≤ 64 * k
  omega
section ZTH
variable {p : Program} {l : Launch} {e : Env} {R : Room} {s : State} {m : MethodId} {args : Array Value} {below : List Frame} {meth : Method} {c : Code} {H : Heap} {locs : List Loc} {cells slots : Nat} {Q : State → Prop} {ls : Array Slot} {rest st0 : List Value} {pc : Nat} {G : zG} {ad : Nat → Nat} {w : Nat → Option va_E} {mc ms mc1 ms1 : Nat} {a : Array Value} {pe pe1 : String → (Nat → Option va_E) → Prop} {Qc : Array Value → State → Outcome → State → Prop}
theorem zw_throwS {cc : ByteArray} (hexec : p.tables.exec = Jvm.exec) (hb : c.code = cc) (hl : l.stackTraces = false) {cls text : String} {ik is ic : Nat} (hown : s.vm.findClass "PolynomialDesk" = some m.cls) (hcls : Bundle.fit cls = true)
    (hk : (Cond.classLink "PolynomialDesk" ik cls).before args s = true) (hini : (Cond.initialized cls).before args s = true)
    (hg : ∀ w ∈ (vx_atS "PolynomialDesk" ic cls zSup).filter goodWord, w.before args s = true) (hn : ∀ w ∈ (vx_atS "PolynomialDesk" ic cls zSup).filter (fun w => !goodWord w), w ∈ zNgw)
    (hgood : ∀ w ∈ Cond.classLink "PolynomialDesk" ik cls :: Cond.initialized cls :: vx_atS "PolynomialDesk" ic cls zSup, vx_ot w = true)
    (hX : zTHR G s s.heap) (hm : (is, text) ∈ zMsg) (Z : zw G ad w s H locs) (hsize : ls.size = c.maxLocals)
    (d0 : decode cc pc = .ok (.new ik, 3)) (d3 : decode cc (pc + 3) = .ok (.dup, 1)) (d4 : decode cc (pc + 4) = .ok (.ldc is, 2)) (d6 : decode cc (pc + 6) = .ok (.invokespecial ic, 3)) (d9 : decode cc (pc + 9) = .ok (.athrow, 1))
    (hno : ∀ x ∈ c.exceptionTable.toList, False) (hRf : 5 < R.frames) (hRl : (rest.map fun v => v.category).sum + 82 ≤ R.locals) (hRc : cells + 1 ≤ R.cells) (hRs : slots + 6 ≤ R.slots) (hlocks : meth.locks = false) (hQ : Q = vx_MQ below Qc (zXC G ad pe) args s mc ms (zA G)) (hpe : pe cls w) (hc : cells + 1 ≤ mc) (hs : slots + 6 ≤ ms) :
    W p l e R s m args below meth c H locs cells slots Q (F0 m pc ls rest) := by
  rw [hQ]
  obtain ⟨sa, hstr⟩ := hX.1 _ hm
  refine vx_throwS (A := zA G) (names := zSup) hexec hb hl hown hcls (by decide +kernel) hk hini hstr (vx_hat hg hn (fun w h => va_Nw.use (zNgw_ot w h) (hX.2.1 w h))) hgood hX.2.2.1 hX.2.2.2.1 Z.2.2.1 hsize d0 d3 d4 d6 d9 (fun x hx => (hno x hx).elim) hRf hRl hRc hRs hlocks ?_ Z.fr hc hs
  intro t _ hz hq
  exact ⟨w, trivial, ⟨hpe, Z.2.1.all hq⟩, Nat.le_trans Z.2.2.1.1 hz, fun q h1 h2 => (hq q (Nat.lt_of_lt_of_le h1 Z.2.2.1.1)).trans (Z.2.2.1.2.1 q h1 h2)⟩
/-- a callee that may throw; what it throws goes on to the caller -/
theorem zx_callv {S : Type} {post : S → Prop} {fa : S → Nat → Nat} {fw : S → Nat → Option va_E} (hr : vx_Run p l e R s m args below meth c H locs cells slots mc1 ms1 (F0 m pc ls st0) rest (va_Qv post (fun u t => zw_U G (fa u) (fw u) t) (zA G) a) (zXC G ad pe1) (zA G)) (Z : zw G ad w s H locs)
    (hQ : Q = vx_MQ below Qc (zXC G ad pe) args s mc ms (zA G)) (hno : ∀ x ∈ c.exceptionTable.toList, False) (hlk : meth.locks = false) (hpe : ∀ E u, pe1 E u → pe E u) (hc : cells + mc1 ≤ mc) (hs : slots + ms1 ≤ ms)
    (kk : ∀ (u : S) (H1 : Heap) (locs1 : List Loc), post u → zw G (fa u) (fw u) s H1 locs1 → W p l e R s m args below meth c H1 locs1 (cells + mc1) (slots + ms1) Q (F0 m (pc + 3) ls rest)) : W p l e R s m args below meth c H locs cells slots Q (F0 m pc ls st0) := by
  refine vx_callv hr Z.2.2.1 (fun _ _ h => h) (fun _ h => h) (fun _ _ h => h) ?_ ?_
  · intro E ce q9 u t H1 locs1 ht hvm _ hB hz hk hS hcell hv hcl
    rw [hQ]
    refine vx_out (fun x hx => (hno x hx).elim) hlk hcell hv hcl ?_ hS.2.2 hc hs
    intro t2 ht2 _
    exact ⟨u, trivial, ⟨hpe E u hB.1, by rw [ht2, ← ht]; exact hB.2⟩, by rw [ht2]; exact hS.1, fun q h1 h2 => by rw [ht2]; exact hS.2.1 q h1 h2⟩
  · intro u t H1 locs1 ht hvm hp hB hz hk hS
    exact kk u H1 locs1 hp ⟨Z.1, by rw [← ht]; exact hB.2.1, hS, Z.2.2.2⟩
end ZTH
section ZXM
variable {l : Launch} {G : zG}

theorem zx_methv {y : MethodName} {ws ws' : List Cond} {rm : Room} {cc : ByteArray} {maxL : Nat} {av : List Value} {ad : Nat → Nat} {w : Nat → Option va_E} {mc ms : Nat} {S : Type} {post : S → Prop} {fa : S → Nat → Nat} {fw : S → Nat → Option va_E} {pe : String → (Nat → Option va_E) → Prop}
    (hy : plainName y.cls = true) (hw : ws = Cond.code y cc maxL none :: ws') (hav : (lg_sl av).length ≤ maxL)
    (body : ∀ (p : Program) (e : Env) (s : State) (m : MethodId) (below : List Frame) (meth : Method) (c : Code) (Q : State → Prop) (ls : Array Slot), zC p s m av.toArray meth c cc maxL y.cls ws → (∀ x ∈ c.exceptionTable.toList, False) → Q = vx_MQ below (va_Qv post (fun u t => zw_U G (fa u) (fw u) t) (zA G)) (zXC G ad pe) av.toArray s mc ms (zA G) → zw G ad w s s.heap [] → lv_has ls maxL (lv_args 0 av) →
      (∀ (cells slots pc : Nat) (ls : Array Slot) (u : S) (H : Heap) (locs : List Loc), decode cc pc = .ok (.return_, 1) → post u → zw G (fa u) (fw u) s H locs → cells ≤ mc → slots ≤ ms → W p l e rm s m av.toArray below meth c H locs cells slots Q (F0 m pc ls [])) →
      W p l e rm s m av.toArray below meth c s.heap [] 0 0 Q (F0 m 0 ls [])) :
    vx_Met l y ws rm (va_Pc av (zw_U G ad w)) (va_Qv post (fun u t => zw_U G (fa u) (fw u) t) (zA G)) (zXC G ad pe) mc ms (zA G) := by
  refine vx_ofW (cc := cc) (maxL := maxL) (ret := none) hy hw ?_
  intro p e s m args below meth c s₁ B hml hno hv
  obtain ⟨rfl, hU⟩ := hv
  have hl := lv_entry av (n := maxL) hav
  rw [lg_entry_eq]
  refine body p e s m below meth c _ _ ⟨B.exec, B.bytes, hml, findClass_of_methodNamed B.named, atoms_spec (ws := ws) B.pre, B.notSynchronized⟩ hno rfl hU.enter hl ?_
  intro cells slots pc ls u H locs hd hp Z hc hs
  exact W.widen hc hs (vx_ret (W.vret B.exec B.bytes B.returns (fun t ht hW => ⟨⟨u, rfl, hp, Z.at' ht hW⟩, Z.F ht⟩) Z.fr hd B.notSynchronized))

theorem zx_methi {y : MethodName} {ws ws' : List Cond} {rm : Room} {cc : ByteArray} {maxL : Nat} {av : List Value} {ad : Nat → Nat} {w : Nat → Option va_E} {mc ms : Nat} {S : Type} {post : Int32 → S → Prop} {fa : S → Nat → Nat} {fw : S → Nat → Option va_E} {pe : String → (Nat → Option va_E) → Prop}
    (hy : plainName y.cls = true) (hw : ws = Cond.code y cc maxL (some .int) :: ws') (hav : (lg_sl av).length ≤ maxL)
    (body : ∀ (p : Program) (e : Env) (s : State) (m : MethodId) (below : List Frame) (meth : Method) (c : Code) (Q : State → Prop) (ls : Array Slot), zC p s m av.toArray meth c cc maxL y.cls ws → (∀ x ∈ c.exceptionTable.toList, False) → Q = vx_MQ below (va_Qi post (fun u t => zw_U G (fa u) (fw u) t) (zA G)) (zXC G ad pe) av.toArray s mc ms (zA G) → zw G ad w s s.heap [] → lv_has ls maxL (lv_args 0 av) →
      (∀ (cells slots pc : Nat) (ls : Array Slot) (r : Int32) (u : S) (H : Heap) (locs : List Loc), decode cc pc = .ok (.ireturn, 1) → post r u → zw G (fa u) (fw u) s H locs → cells ≤ mc → slots ≤ ms → W p l e rm s m av.toArray below meth c H locs cells slots Q (F0 m pc ls [.int r])) →
      W p l e rm s m av.toArray below meth c s.heap [] 0 0 Q (F0 m 0 ls [])) :
    vx_Met l y ws rm (va_Pc av (zw_U G ad w)) (va_Qi post (fun u t => zw_U G (fa u) (fw u) t) (zA G)) (zXC G ad pe) mc ms (zA G) := by
  refine vx_ofW (cc := cc) (maxL := maxL) (ret := (some .int)) hy hw ?_
  intro p e s m args below meth c s₁ B hml hno hv
  obtain ⟨rfl, hU⟩ := hv
  have hl := lv_entry av (n := maxL) hav
  rw [lg_entry_eq]
  refine body p e s m below meth c _ _ ⟨B.exec, B.bytes, hml, findClass_of_methodNamed B.named, atoms_spec (ws := ws) B.pre, B.notSynchronized⟩ hno rfl hU.enter hl ?_
  intro cells slots pc ls r u H locs hd hp Z hc hs
  exact W.widen hc hs (vx_ret (W.iret B.exec B.bytes B.returns (fun t ht hW => ⟨⟨r, u, rfl, hp, Z.at' ht hW⟩, Z.F ht⟩) Z.fr hd B.notSynchronized))

end ZXM

theorem zt_IA_g : ∀ w ∈ (vx_atS "PolynomialDesk" 53 "java/lang/IllegalArgumentException" zSup).filter goodWord, w ∈ zT := by decide +kernel
theorem zt_IA_n : ∀ w ∈ (vx_atS "PolynomialDesk" 53 "java/lang/IllegalArgumentException" zSup).filter (fun w => !goodWord w), w ∈ zNgw := by decide +kernel
theorem zt_IA_o : ∀ w ∈ Cond.classLink "PolynomialDesk" 49 "java/lang/IllegalArgumentException" :: Cond.initialized "java/lang/IllegalArgumentException" :: vx_atS "PolynomialDesk" 53 "java/lang/IllegalArgumentException" zSup, vx_ot w = true := by decide +kernel
theorem zt_IA_f : Bundle.fit "java/lang/IllegalArgumentException" = true := by decide +kernel

theorem zt_IO_g : ∀ w ∈ (vx_atS "PolynomialDesk" 151 "java/lang/IndexOutOfBoundsException" zSup).filter goodWord, w ∈ zT := by decide +kernel
theorem zt_IO_n : ∀ w ∈ (vx_atS "PolynomialDesk" 151 "java/lang/IndexOutOfBoundsException" zSup).filter (fun w => !goodWord w), w ∈ zNgw := by decide +kernel
theorem zt_IO_o : ∀ w ∈ Cond.classLink "PolynomialDesk" 147 "java/lang/IndexOutOfBoundsException" :: Cond.initialized "java/lang/IndexOutOfBoundsException" :: vx_atS "PolynomialDesk" 151 "java/lang/IndexOutOfBoundsException" zSup, vx_ot w = true := by decide +kernel
theorem zt_IO_f : Bundle.fit "java/lang/IndexOutOfBoundsException" = true := by decide +kernel

theorem zt_IS_g : ∀ w ∈ (vx_atS "PolynomialDesk" 106 "java/lang/IllegalStateException" zSup).filter goodWord, w ∈ zT := by decide +kernel
theorem zt_IS_n : ∀ w ∈ (vx_atS "PolynomialDesk" 106 "java/lang/IllegalStateException" zSup).filter (fun w => !goodWord w), w ∈ zNgw := by decide +kernel
theorem zt_IS_o : ∀ w ∈ Cond.classLink "PolynomialDesk" 102 "java/lang/IllegalStateException" :: Cond.initialized "java/lang/IllegalStateException" :: vx_atS "PolynomialDesk" 106 "java/lang/IllegalStateException" zSup, vx_ot w = true := by decide +kernel
theorem zt_IS_f : Bundle.fit "java/lang/IllegalStateException" = true := by decide +kernel

theorem kx_K_field {R : Room} {k c1 n1 : Nat} {s : State} {args : Array Value} {own : String} {index : Nat} {c0 : Cond} (hts : ∀ w ∈ c0 :: zT, w.before args s = true) (hl : Cond.methodLink own index yK_field ∈ zT) (hR : (zRx k c1 n1).frames + 1 ≤ R.frames ∧ 8 + (5 + 11) + (zRx k c1 n1).locals ≤ R.locals) : CallW R s args own "PolynomialDesk" index yK_field bK_field 5 none wK_field (zRx k c1 n1) c1 n1 3 :=
  cwV 3 hts (zG_V hl mi_K_field ms_K_field mn_K mk_K_field) rfl rfl rfl (by decide +kernel) hR
theorem kx_K_read {R : Room} {k c1 n1 : Nat} {s : State} {args : Array Value} {own : String} {index : Nat} {c0 : Cond} (hts : ∀ w ∈ c0 :: zT, w.before args s = true) (hl : Cond.methodLink own index yK_read ∈ zT) (hR : (zRx k c1 n1).frames + 1 ≤ R.frames ∧ 8 + (2 + 11) + (zRx k c1 n1).locals ≤ R.locals) : CallW R s args own "PolynomialDesk" index yK_read bK_read 2 (some .int) wK_read (zRx k c1 n1) c1 n1 1 :=
  cwV 1 hts (zG_V hl mi_K_read ms_K_read mn_K mk_K_read) rfl rfl rfl (by decide +kernel) hR
theorem kx_K_add {R : Room} {k c1 n1 : Nat} {s : State} {args : Array Value} {own : String} {index : Nat} {c0 : Cond} (hts : ∀ w ∈ c0 :: zT, w.before args s = true) (hl : Cond.methodLink own index yK_add ∈ zT) (hR : (zRx k c1 n1).frames + 1 ≤ R.frames ∧ 8 + (5 + 11) + (zRx k c1 n1).locals ≤ R.locals) : CallW R s args own "PolynomialDesk" index yK_add bK_add 5 none wK_add (zRx k c1 n1) c1 n1 4 :=
  cwV 4 hts (zG_V hl mi_K_add ms_K_add mn_K mk_K_add) rfl rfl rfl (by decide +kernel) hR
theorem kx_K_multiply {R : Room} {k c1 n1 : Nat} {s : State} {args : Array Value} {own : String} {index : Nat} {c0 : Cond} (hts : ∀ w ∈ c0 :: zT, w.before args s = true) (hl : Cond.methodLink own index yK_multiply ∈ zT) (hR : (zRx k c1 n1).frames + 1 ≤ R.frames ∧ 8 + (4 + 11) + (zRx k c1 n1).locals ≤ R.locals) : CallW R s args own "PolynomialDesk" index yK_multiply bK_multiply 4 none wK_multiply (zRx k c1 n1) c1 n1 3 :=
  cwV 3 hts (zG_V hl mi_K_multiply ms_K_multiply mn_K mk_K_multiply) rfl rfl rfl (by decide +kernel) hR
theorem kx_K_derive {R : Room} {k c1 n1 : Nat} {s : State} {args : Array Value} {own : String} {index : Nat} {c0 : Cond} (hts : ∀ w ∈ c0 :: zT, w.before args s = true) (hl : Cond.methodLink own index yK_derive ∈ zT) (hR : (zRx k c1 n1).frames + 1 ≤ R.frames ∧ 8 + (4 + 11) + (zRx k c1 n1).locals ≤ R.locals) : CallW R s args own "PolynomialDesk" index yK_derive bK_derive 4 none wK_derive (zRx k c1 n1) c1 n1 3 :=
  cwV 3 hts (zG_V hl mi_K_derive ms_K_derive mn_K mk_K_derive) rfl rfl rfl (by decide +kernel) hR
theorem kx_K_set {R : Room} {k c1 n1 : Nat} {s : State} {args : Array Value} {own : String} {index : Nat} {c0 : Cond} (hts : ∀ w ∈ c0 :: zT, w.before args s = true) (hl : Cond.methodLink own index yK_set ∈ zT) (hR : (zRx k c1 n1).frames + 1 ≤ R.frames ∧ 8 + (5 + 11) + (zRx k c1 n1).locals ≤ R.locals) : CallW R s args own "PolynomialDesk" index yK_set bK_set 5 none wK_set (zRx k c1 n1) c1 n1 4 :=
  cwV 4 hts (zG_V hl mi_K_set ms_K_set mn_K mk_K_set) rfl rfl rfl (by decide +kernel) hR
theorem kx_K_value {R : Room} {k c1 n1 : Nat} {s : State} {args : Array Value} {own : String} {index : Nat} {c0 : Cond} (hts : ∀ w ∈ c0 :: zT, w.before args s = true) (hl : Cond.methodLink own index yK_value ∈ zT) (hR : (zRx k c1 n1).frames + 1 ≤ R.frames ∧ 8 + (6 + 11) + (zRx k c1 n1).locals ≤ R.locals) : CallW R s args own "PolynomialDesk" index yK_value bK_value 6 (some .int) wK_value (zRx k c1 n1) c1 n1 5 :=
  cwV 5 hts (zG_V hl mi_K_value ms_K_value mn_K mk_K_value) rfl rfl rfl (by decide +kernel) hR
theorem kx_K_print {R : Room} {k c1 n1 : Nat} {s : State} {args : Array Value} {own : String} {index : Nat} {c0 : Cond} (hts : ∀ w ∈ c0 :: zT, w.before args s = true) (hl : Cond.methodLink own index yK_print ∈ zT) (hR : (zRx k c1 n1).frames + 1 ≤ R.frames ∧ 8 + (2 + 11) + (zRx k c1 n1).locals ≤ R.locals) : CallW R s args own "PolynomialDesk" index yK_print bK_print 2 (some .int) wK_print (zRx k c1 n1) c1 n1 1 :=
  cwV 1 hts (zG_V hl mi_K_print ms_K_print mn_K mk_K_print) rfl rfl rfl (by decide +kernel) hR
theorem kx_K_requirePolynomial {R : Room} {k c1 n1 : Nat} {s : State} {args : Array Value} {own : String} {index : Nat} {c0 : Cond} (hts : ∀ w ∈ c0 :: zT, w.before args s = true) (hl : Cond.methodLink own index yK_requirePolynomial ∈ zT) (hR : (zRx k c1 n1).frames + 1 ≤ R.frames ∧ 8 + (1 + 11) + (zRx k c1 n1).locals ≤ R.locals) : CallB R s args own index yK_requirePolynomial bK_requirePolynomial 1 none wK_requirePolynomial (zRx k c1 n1) c1 n1 1 ∧ (Cond.static yK_requirePolynomial).before args s = true :=
  va_cwS 1 hts (zG_S hl mt_K_requirePolynomial mn_K mk_K_requirePolynomial) rfl rfl rfl (by decide +kernel) hR
theorem kx_K_requireVariable {R : Room} {k c1 n1 : Nat} {s : State} {args : Array Value} {own : String} {index : Nat} {c0 : Cond} (hts : ∀ w ∈ c0 :: zT, w.before args s = true) (hl : Cond.methodLink own index yK_requireVariable ∈ zT) (hR : (zRx k c1 n1).frames + 1 ≤ R.frames ∧ 8 + (2 + 11) + (zRx k c1 n1).locals ≤ R.locals) : CallW R s args own "PolynomialDesk" index yK_requireVariable bK_requireVariable 2 none wK_requireVariable (zRx k c1 n1) c1 n1 1 :=
  cwV 1 hts (zG_V hl mi_K_requireVariable ms_K_requireVariable mn_K mk_K_requireVariable) rfl rfl rfl (by decide +kernel) hR
