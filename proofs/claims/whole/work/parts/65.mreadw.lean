/-! the reference while it reads -/
theorem zw_methl {l : Launch} {G : zG} {y : MethodName} {ws ws' : List Cond} {rm : Room} {cc : ByteArray} {maxL : Nat} {av : List Value} {ad : Nat → Nat} {w : Nat → Option va_E} {mc ms : Nat} {S : Type} {post : Int64 → S → Prop} {fa : S → Nat → Nat} {fw : S → Nat → Option va_E}
    (hy : plainName y.cls = true) (hw : ws = Cond.code y cc maxL (some .long) :: ws') (hav : (lg_sl av).length ≤ maxL)
    (body : ∀ (p : Program) (e : Env) (s : State) (m : MethodId) (below : List Frame) (meth : Method) (c : Code) (Q : State → Prop) (ls : Array Slot), zC p s m av.toArray meth c cc maxL y.cls ws → meth.name = y.name → zw G ad w s s.heap [] → lv_has ls maxL (lv_args 0 av) →
      (∀ (pc : Nat) (ls : Array Slot) (r : Int64) (u : S) (H : Heap) (locs : List Loc), decode cc pc = .ok (.lreturn, 1) → post r u → zw G (fa u) (fw u) s H locs → W p l e rm s m av.toArray below meth c H locs mc ms Q (F0 m pc ls [.long r])) →
      W p l e rm s m av.toArray below meth c s.heap [] 0 0 Q (F0 m 0 ls [])) :
    Met l y ws rm (va_Pc av (zw_U G ad w)) (va_Ql post (fun u t => zw_U G (fa u) (fw u) t) (zA G)) mc ms (zA G) := by
  refine Met.ofW (cc := cc) (maxL := maxL) (ret := some .long) hy hw ?_
  intro p e s m args below meth c s₁ B hml hv
  obtain ⟨rfl, hU⟩ := hv
  have hl := lv_entry av (n := maxL) hav
  rw [lg_entry_eq]
  refine body p e s m below meth c _ _ ⟨B.exec, B.bytes, hml, findClass_of_methodNamed B.named, atoms_spec (ws := ws) B.pre, B.notSynchronized⟩ (name_of_methodNamed B.named B.method).1 hU.enter hl ?_
  intro pc ls r u H locs hd hp Z
  exact W.lret B.exec B.bytes B.returns (fun t ht hW => ⟨⟨r, u, rfl, hp, Z.at' ht hW⟩, Z.F ht⟩) Z.fr hd B.notSynchronized
def zsI (b : Bool) : Int32 := if b then -1 else 1
def ztI (x : Option Nat) : Int32 := match x with
  | none => -1
  | some q => nI q
def zRr (G : zG) (ad : Nat → Nat) (w : Nat → Option va_E) (P n o : Nat) (F : Nat → Int32) (B : Nat → Nat → Nat) (T : Nat → Nat) (len : Nat) (sg : Nat → Bool) (st : Nat → Option Nat) (d b : Nat) : Prop :=
  zMod G ad w P n o F B ∧ (F 16 = nI len ∧ F 19 = nI d ∧ d ≤ 20) ∧ (∃ tx : Nat → Int32, w 107 = some (zi G 200 tx) ∧ ∀ i, i < len → tx i = nI (T i)) ∧ ((∀ i, T i < 256) ∧ len ≤ 200) ∧
  (∃ sa : Nat → Int32, w 108 = some (zi G 21 sa) ∧ ∀ j, j < b → sa j = zsI (sg j)) ∧ ∃ ta : Nat → Int32, w 109 = some (zi G 21 ta) ∧ ∀ j, j < b → ta j = ztI (st j)
/-- what reading leaves alone -/
def zfr (w w' : Nat → Option va_E) : Prop := ∀ k, k ≠ 100 → k ≠ 105 → k ≠ 108 → k ≠ 109 → w' k = w k
def zfF (F F' : Nat → Int32) : Prop := ∀ j, ¬ (17 ≤ j ∧ j ≤ 21) → F' j = F j
theorem zfr.rfl' (w : Nat → Option va_E) : zfr w w := fun _ _ _ _ _ => rfl
theorem zfr.trans {w w1 w2 : Nat → Option va_E} (h1 : zfr w w1) (h2 : zfr w1 w2) : zfr w w2 := fun k a b c d => (h2 k a b c d).trans (h1 k a b c d)
theorem zfr.up {w : Nat → Option va_E} {t : Nat} {x : Option va_E} (h : t = 100 ∨ t = 105 ∨ t = 108 ∨ t = 109) : zfr w (va_up w t x) := fun k a b c d => va_up_ne _ _ (by omega)
theorem zf5.fr {w w' : Nat → Option va_E} (h : zf5 w w') : zfr w w' := fun k _ b _ _ => h k b
theorem zfF.rfl' (F : Nat → Int32) : zfF F F := fun _ _ => rfl
theorem zfF.trans {F F1 F2 : Nat → Int32} (h1 : zfF F F1) (h2 : zfF F1 F2) : zfF F F2 := fun j h => (h2 j h).trans (h1 j h)
theorem zfF.upd {F : Nat → Int32} {j : Nat} {x : Int32} (h : 17 ≤ j ∧ j ≤ 21) : zfF F (upd F j x) := fun i hi => pk_un (by omega)
section ZRR
variable {G : zG} {ad : Nat → Nat} {w w' : Nat → Option va_E} {P n o : Nat} {F F' : Nat → Int32} {B B' : Nat → Nat → Nat} {T : Nat → Nat} {len : Nat} {sg sg' : Nat → Bool} {st st' : Nat → Option Nat} {d d' b b' : Nat}
/-- fields of the reading are written -/
theorem zRr.obj (h : zRr G ad w P n o F B T len sg st d b) (hF : zfF F F') (h19 : F' 19 = F 19) : zRr G ad (va_up w 100 (some (oM ad F'))) P n o F' B T len sg st d b := by
  obtain ⟨h1, ⟨a1, a2, a3⟩, h3, h4, h5, h6⟩ := h
  exact ⟨h1.obj (fun k hk => va_up_ne _ _ (by omega)) (va_up_self _ _ _) (fun j hj => hF j (by omega)), ⟨by rw [hF 16 (by decide)]; exact a1, by rw [h19]; exact a2, a3⟩, by rw [va_up_ne _ _ (by decide)]; exact h3, h4, by rw [va_up_ne _ _ (by decide)]; exact h5, by rw [va_up_ne _ _ (by decide)]; exact h6⟩
/-- cells are written -/
theorem zRr.cel (h : zRr G ad w P n o F B T len sg st d b) (hM : zMod G ad w' P n o F B') (e : zf5 w w') : zRr G ad w' P n o F B' T len sg st d b := by
  obtain ⟨h1, h2, h3, h4, h5, h6⟩ := h
  exact ⟨hM, h2, by rw [e _ (by decide)]; exact h3, h4, by rw [e _ (by decide)]; exact h5, by rw [e _ (by decide)]; exact h6⟩
theorem zRr.sgn (h : zRr G ad w P n o F B T len sg st d b) {sa : Nat → Int32} (hs : ∀ j, j < b → sa j = zsI (sg' j)) : zRr G ad (va_up w 108 (some (zi G 21 sa))) P n o F B T len sg' st d b := by
  obtain ⟨h1, h2, h3, h4, h5, h6⟩ := h
  exact ⟨h1.obj (fun k hk => va_up_ne _ _ (by omega)) (by rw [va_up_ne _ _ (by decide)]; exact h1.1) (fun j hj => rfl), h2, by rw [va_up_ne _ _ (by decide)]; exact h3, h4, ⟨sa, va_up_self _ _ _, hs⟩, by rw [va_up_ne _ _ (by decide)]; exact h6⟩
theorem zRr.str (h : zRr G ad w P n o F B T len sg st d b) {ta : Nat → Int32} (hs : ∀ j, j < b → ta j = ztI (st' j)) : zRr G ad (va_up w 109 (some (zi G 21 ta))) P n o F B T len sg st' d b := by
  obtain ⟨h1, h2, h3, h4, h5, h6⟩ := h
  exact ⟨h1.obj (fun k hk => va_up_ne _ _ (by omega)) (by rw [va_up_ne _ _ (by decide)]; exact h1.1) (fun j hj => rfl), h2, by rw [va_up_ne _ _ (by decide)]; exact h3, h4, by rw [va_up_ne _ _ (by decide)]; exact h5, ⟨ta, va_up_self _ _ _, hs⟩⟩
end ZRR
theorem zsI_up {sa : Nat → Int32} {sg : Nat → Bool} {d k : Nat} {b : Bool} (h : ∀ j, j < k → sa j = zsI (sg j)) : ∀ j, j < k → upd sa d (zsI b) j = zsI (va_up sg d b j) := fun j hj => by
  by_cases e : j = d
  · subst e
    rw [pk_us, va_up_self]
  · rw [pk_un e, va_up_ne _ _ e]
    exact h j hj
theorem ztI_up {ta : Nat → Int32} {st : Nat → Option Nat} {d k : Nat} {x : Option Nat} (h : ∀ j, j < k → ta j = ztI (st j)) : ∀ j, j < k → upd ta d (ztI x) j = ztI (va_up st d x j) := fun j hj => by
  by_cases e : j = d
  · subst e
    rw [pk_us, va_up_self]
  · rw [pk_un e, va_up_ne _ _ e]
    exact h j hj
/-- signs and stars of one depth more -/
theorem zRr.deep {G : zG} {ad : Nat → Nat} {w : Nat → Option va_E} {P n o : Nat} {F : Nat → Int32} {B : Nat → Nat → Nat} {T : Nat → Nat} {len : Nat} {sg : Nat → Bool} {st : Nat → Option Nat} {d : Nat} {sa ta : Nat → Int32} {x : Bool} {y : Option Nat} (h : zRr G ad w P n o F B T len sg st d d) (hs : ∀ j, j < d → sa j = zsI (sg j)) (ht : ∀ j, j < d → ta j = ztI (st j)) : zRr G ad (va_up (va_up w 108 (some (zi G 21 (upd sa d (zsI x))))) 109 (some (zi G 21 (upd ta d (ztI y))))) P n o F B T len (va_up sg d x) (va_up st d y) d (d + 1) := by
  obtain ⟨h1, h2, h3, h4, h5, h6⟩ := h
  refine ⟨h1.obj (fun k hk => by rw [va_up_ne _ _ (by omega), va_up_ne _ _ (by omega)]) (by rw [va_up_ne _ _ (by decide), va_up_ne _ _ (by decide)]; exact h1.1) (fun j hj => rfl), h2, by rw [va_up_ne _ _ (by decide), va_up_ne _ _ (by decide)]; exact h3, h4, ⟨_, by rw [va_up_ne _ _ (by decide)]; exact va_up_self _ _ _, fun j hj => ?_⟩, ⟨_, va_up_self _ _ _, fun j hj => ?_⟩⟩
  · by_cases e : j = d
    · subst e
      rw [pk_us, va_up_self]
    · rw [pk_un e, va_up_ne _ _ e]
      exact hs j (by omega)
  · by_cases e : j = d
    · subst e
      rw [pk_us, va_up_self]
    · rw [pk_un e, va_up_ne _ _ e]
      exact ht j (by omega)
