def cZw (U : State) : Prop := va_Nw (.castable "[I" "java/lang/Cloneable") U ∧ va_Nw (.castable "[Z" "java/lang/Cloneable") U
theorem cZw.same {U : State} {g : JFrame} {mk : MethodId} {a : Array Value} (h : cZw U) : cZw (U.calling g mk a) := ⟨va_Nw.same rfl (u := U) rfl h.1, va_Nw.same rfl (u := U) rfl h.2⟩
theorem cZw.warm {s U : State} (hW : s.WarmedH U.vm) (h : cZw s) : cZw U := ⟨va_Nw.warmC hW h.1, va_Nw.warmC hW h.2⟩
abbrev cB (D : va_G) (ad vd : Nat → Nat) (cI cZ cL cG : ClassId) (X : va_W) (sz : Nat) (S : CS) (U : State) : Prop := U.heap.size = sz ∧ va_P D vwCl (cW ad vd cI cZ cL cG S ++ X) U.heap ∧ va_K D vwCl (cTy cI cZ cL cG) U ∧ va_D (fun _ => True) (cW ad vd cI cZ cL cG S ++ X) ∧ cZw U
abbrev cE (D : va_G) (ad : Nat → Nat) (cI cZ cL cG : ClassId) (X : va_W) (A : Nat → Prop) (S : CS) (t : State) : Prop := ∃ vd : Nat → Nat, va_P D vwCl (cW ad vd cI cZ cL cG S ++ X) t.heap ∧ va_K D vwCl (cTy cI cZ cL cG) t ∧ va_D A (cW ad vd cI cZ cL cG S ++ X)
abbrev crm (fr lo mc ms : Nat) : Room := { frames := fr, cells := mc, slots := ms, locals := lo }
abbrev cXt (cI : ClassId) (X : va_W) (q n : Nat) (f : Nat → Int32) : Prop := ∃ j : Nat, X[j]? = some (q, .inl (cI, n, .inl f))
theorem cXt.lift {cI : ClassId} {X Y : va_W} {q n : Nat} {f : Nat → Int32} (h : cXt cI X q n f) : cXt cI (X ++ Y) q n f := by
  obtain ⟨j, hj⟩ := h
  exact ⟨j, by rw [List.getElem?_append_left (List.getElem?_eq_some_iff.mp hj).1]; exact hj⟩
theorem cXt.own {cI : ClassId} {X : va_W} {q n : Nat} {f : Nat → Int32} : cXt cI (X ++ [(q, .inl (cI, n, .inl f))]) q n f := ⟨X.length, by rw [List.getElem?_append_right (Nat.le_refl _), Nat.sub_self]; rfl⟩
theorem va_P.dropR {D : va_G} {cl : List vw_C} {W0 X Y : va_W} {H : Heap} (h : va_P D cl (W0 ++ (X ++ Y)) H) : va_P D cl (W0 ++ X) H := by
  intro k q hk
  refine h k q ?_
  rw [← List.append_assoc, List.getElem?_append_left (List.getElem?_eq_some_iff.mp hk).1]; exact hk
theorem va_D.dropR {A : Nat → Prop} {W0 X Y : va_W} (h : va_D A (W0 ++ (X ++ Y))) : va_D A (W0 ++ X) := by
  have up : ∀ (k : Nat) (q : Nat × va_E), (W0 ++ X)[k]? = some q → (W0 ++ (X ++ Y))[k]? = some q := by
    intro k q hk
    rw [← List.append_assoc, List.getElem?_append_left (List.getElem?_eq_some_iff.mp hk).1]; exact hk
  exact ⟨fun i j p q h1 h2 h3 => h.1 i j p q (up _ _ h1) (up _ _ h2) h3, fun k q hk => h.2 k q (up _ _ hk)⟩
def cCtI (l : Launch) (y : MethodName) (cy : ByteArray) (ny fr lo mc ms : Nat) (av : (Nat → Nat) → List Value) (S : CS) (post : Int32 → CS → Prop) : Prop := ∀ (D : va_G) (ad vd : Nat → Nat) (cI cZ cL cG : ClassId) (X : va_W) (sz : Nat), Met l y (bw y cy ny (some .int)) (crm fr lo mc ms) (va_Pc (av ad) (cB D ad vd cI cZ cL cG X sz S)) (va_Qi post (cE D ad cI cZ cL cG X (va_A (cW ad vd cI cZ cL cG S ++ X) sz)) (va_A (cW ad vd cI cZ cL cG S ++ X) sz)) mc ms (va_A (cW ad vd cI cZ cL cG S ++ X) sz)
def cCtJ (l : Launch) (y : MethodName) (cy : ByteArray) (ny fr lo mc ms : Nat) (av : (Nat → Nat) → List Value) (S : CS) (post : Int64 → CS → Prop) : Prop := ∀ (D : va_G) (ad vd : Nat → Nat) (cI cZ cL cG : ClassId) (X : va_W) (sz : Nat), Met l y (bw y cy ny (some .long)) (crm fr lo mc ms) (va_Pc (av ad) (cB D ad vd cI cZ cL cG X sz S)) (va_Ql post (cE D ad cI cZ cL cG X (va_A (cW ad vd cI cZ cL cG S ++ X) sz)) (va_A (cW ad vd cI cZ cL cG S ++ X) sz)) mc ms (va_A (cW ad vd cI cZ cL cG S ++ X) sz)
def cCtV (l : Launch) (y : MethodName) (cy : ByteArray) (ny fr lo mc ms : Nat) (av : (Nat → Nat) → List Value) (S : CS) (post : CS → Prop) : Prop := ∀ (D : va_G) (ad vd : Nat → Nat) (cI cZ cL cG : ClassId) (X : va_W) (sz : Nat), Met l y (bw y cy ny (none)) (crm fr lo mc ms) (va_Pc (av ad) (cB D ad vd cI cZ cL cG X sz S)) (va_Qv post (cE D ad cI cZ cL cG X (va_A (cW ad vd cI cZ cL cG S ++ X) sz)) (va_A (cW ad vd cI cZ cL cG S ++ X) sz)) mc ms (va_A (cW ad vd cI cZ cL cG S ++ X) sz)
def cCtZ (l : Launch) (y : MethodName) (cy : ByteArray) (ny fr lo mc ms : Nat) (av : (Nat → Nat) → List Value) (S : CS) (post : Bool → CS → Prop) : Prop := ∀ (D : va_G) (ad vd : Nat → Nat) (cI cZ cL cG : ClassId) (X : va_W) (sz : Nat), Met l y (bw y cy ny (some .boolean)) (crm fr lo mc ms) (va_Pc (av ad) (cB D ad vd cI cZ cL cG X sz S)) (va_Qi (fun r S1 => ∃ b : Bool, r = bI b ∧ post b S1) (cE D ad cI cZ cL cG X (va_A (cW ad vd cI cZ cL cG S ++ X) sz)) (va_A (cW ad vd cI cZ cL cG S ++ X) sz)) mc ms (va_A (cW ad vd cI cZ cL cG S ++ X) sz)
set_option maxHeartbeats 4000000 in
theorem csetI {l : Launch} {y : MethodName} {cy : ByteArray} {ny fr lo mc ms : Nat} {av : (Nat → Nat) → List Value} {S0 : CS} {post : Int32 → CS → Prop} (hy : plainName y.cls = true) (hav : ∀ (ad : Nat → Nat), (lg_sl (av ad)).length ≤ ny) (body : ∀ (p : Program) (e : Env) (s : State) (m : MethodId) (args : Array Value) (below : List Frame) (meth : Method) (c : Code) (D : va_G) (ad vd : Nat → Nat) (cI cZ cL cG : ClassId) (X : va_W) (A : Nat → Prop) (Q : State → Prop), p.tables.exec = Jvm.exec → c.code = cy → c.maxLocals = ny → s.vm.findClass y.cls = some m.cls → (∀ w ∈ gw, w.before args s = true) → va_K D vwCl (cTy cI cZ cL cG) s → cZw s → (∀ q, s.heap.size ≤ q → A q) → (∀ (r : Int32) (S1 : CS) (vd : Nat → Nat) (H : Heap) (locs : List Loc) (ls : Array Slot) (pc kc ks : Nat), va_P D vwCl (cW ad vd cI cZ cL cG S1 ++ X) H → va_D A (cW ad vd cI cZ cL cG S1 ++ X) → va_S A s.heap H locs → kc ≤ mc → ks ≤ ms → post r S1 → decode cy pc = .ok (.ireturn, 1) → W p l e (crm fr lo mc ms) s m args below meth c H locs kc ks Q (F0 m pc ls [.int r])) → ∀ (H : Heap) (locs : List Loc) (ls : Array Slot), va_P D vwCl (cW ad vd cI cZ cL cG S0 ++ X) H → va_D A (cW ad vd cI cZ cL cG S0 ++ X) → va_S A s.heap H locs → lv_has ls ny (lv_args 0 (av ad)) → W p l e (crm fr lo mc ms) s m args below meth c H locs 0 0 Q (F0 m 0 ls [])) : cCtI l y cy ny fr lo mc ms av S0 post := by
  intro D ad vd cI cZ cL cG X sz
  refine Met.ofW (cc := cy) (maxL := ny) (ret := some .int) hy rfl ?_
  intro p e s m args below meth c s₁ B hml hv
  obtain ⟨rfl, hsz, hP, hK, hD0, hZ⟩ := hv
  have hts := atoms_spec (ws := bw y cy ny (some .int)) B.pre
  have hown := findClass_of_methodNamed B.named
  subst hsz
  have hD := hD0.self (sz := s.heap.size)
  generalize hAe : va_A (cW ad vd cI cZ cL cG S0 ++ X) s.heap.size = A at hD ⊢
  have hA : ∀ q : Nat, s.heap.size ≤ q → A q := fun q h => by rw [← hAe]; exact Or.inr h
  have hl := lv_entry (av ad) (n := ny) (hav ad)
  rw [lg_entry_eq]
  generalize (lg_sl (av ad) ++ List.replicate (ny - (lg_sl (av ad)).length) Slot.unset).toArray = ls at hl ⊢
  refine body p e s m _ below meth c D ad vd cI cZ cL cG X A _ B.exec B.bytes hml hown (fun w h => hts w (List.mem_cons_of_mem _ h)) hK hZ hA ?_ s.heap [] ls hP hD va_S.rf hl
  intro r S1 vd H locs ls pc kc ks hP hD hS hkc hks hp hdg
  refine W.widen (k := mc) (n := ms) hkc hks ?_
  exact W.iret (v := r) B.exec B.bytes B.returns (fun t ht hW => ⟨⟨r, S1, rfl, hp, vd, by rw [ht]; exact hP, va_K.moved hW.alike hK, hD⟩, hS.F ht⟩) hS.2.2 hdg
set_option maxHeartbeats 4000000 in
theorem csetJ {l : Launch} {y : MethodName} {cy : ByteArray} {ny fr lo mc ms : Nat} {av : (Nat → Nat) → List Value} {S0 : CS} {post : Int64 → CS → Prop} (hy : plainName y.cls = true) (hav : ∀ (ad : Nat → Nat), (lg_sl (av ad)).length ≤ ny) (body : ∀ (p : Program) (e : Env) (s : State) (m : MethodId) (args : Array Value) (below : List Frame) (meth : Method) (c : Code) (D : va_G) (ad vd : Nat → Nat) (cI cZ cL cG : ClassId) (X : va_W) (A : Nat → Prop) (Q : State → Prop), p.tables.exec = Jvm.exec → c.code = cy → c.maxLocals = ny → s.vm.findClass y.cls = some m.cls → (∀ w ∈ gw, w.before args s = true) → va_K D vwCl (cTy cI cZ cL cG) s → cZw s → (∀ q, s.heap.size ≤ q → A q) → (∀ (r : Int64) (S1 : CS) (vd : Nat → Nat) (H : Heap) (locs : List Loc) (ls : Array Slot) (pc kc ks : Nat), va_P D vwCl (cW ad vd cI cZ cL cG S1 ++ X) H → va_D A (cW ad vd cI cZ cL cG S1 ++ X) → va_S A s.heap H locs → kc ≤ mc → ks ≤ ms → post r S1 → decode cy pc = .ok (.lreturn, 1) → W p l e (crm fr lo mc ms) s m args below meth c H locs kc ks Q (F0 m pc ls [.long r])) → ∀ (H : Heap) (locs : List Loc) (ls : Array Slot), va_P D vwCl (cW ad vd cI cZ cL cG S0 ++ X) H → va_D A (cW ad vd cI cZ cL cG S0 ++ X) → va_S A s.heap H locs → lv_has ls ny (lv_args 0 (av ad)) → W p l e (crm fr lo mc ms) s m args below meth c H locs 0 0 Q (F0 m 0 ls [])) : cCtJ l y cy ny fr lo mc ms av S0 post := by
  intro D ad vd cI cZ cL cG X sz
  refine Met.ofW (cc := cy) (maxL := ny) (ret := some .long) hy rfl ?_
  intro p e s m args below meth c s₁ B hml hv
  obtain ⟨rfl, hsz, hP, hK, hD0, hZ⟩ := hv
  have hts := atoms_spec (ws := bw y cy ny (some .long)) B.pre
  have hown := findClass_of_methodNamed B.named
  subst hsz
  have hD := hD0.self (sz := s.heap.size)
  generalize hAe : va_A (cW ad vd cI cZ cL cG S0 ++ X) s.heap.size = A at hD ⊢
  have hA : ∀ q : Nat, s.heap.size ≤ q → A q := fun q h => by rw [← hAe]; exact Or.inr h
  have hl := lv_entry (av ad) (n := ny) (hav ad)
  rw [lg_entry_eq]
  generalize (lg_sl (av ad) ++ List.replicate (ny - (lg_sl (av ad)).length) Slot.unset).toArray = ls at hl ⊢
  refine body p e s m _ below meth c D ad vd cI cZ cL cG X A _ B.exec B.bytes hml hown (fun w h => hts w (List.mem_cons_of_mem _ h)) hK hZ hA ?_ s.heap [] ls hP hD va_S.rf hl
  intro r S1 vd H locs ls pc kc ks hP hD hS hkc hks hp hdg
  refine W.widen (k := mc) (n := ms) hkc hks ?_
  exact W.lret (v := r) B.exec B.bytes B.returns (fun t ht hW => ⟨⟨r, S1, rfl, hp, vd, by rw [ht]; exact hP, va_K.moved hW.alike hK, hD⟩, hS.F ht⟩) hS.2.2 hdg
set_option maxHeartbeats 4000000 in
theorem csetV {l : Launch} {y : MethodName} {cy : ByteArray} {ny fr lo mc ms : Nat} {av : (Nat → Nat) → List Value} {S0 : CS} {post : CS → Prop} (hy : plainName y.cls = true) (hav : ∀ (ad : Nat → Nat), (lg_sl (av ad)).length ≤ ny) (body : ∀ (p : Program) (e : Env) (s : State) (m : MethodId) (args : Array Value) (below : List Frame) (meth : Method) (c : Code) (D : va_G) (ad vd : Nat → Nat) (cI cZ cL cG : ClassId) (X : va_W) (A : Nat → Prop) (Q : State → Prop), p.tables.exec = Jvm.exec → c.code = cy → c.maxLocals = ny → s.vm.findClass y.cls = some m.cls → (∀ w ∈ gw, w.before args s = true) → va_K D vwCl (cTy cI cZ cL cG) s → cZw s → (∀ q, s.heap.size ≤ q → A q) → (∀ (S1 : CS) (vd : Nat → Nat) (H : Heap) (locs : List Loc) (ls : Array Slot) (pc kc ks : Nat), va_P D vwCl (cW ad vd cI cZ cL cG S1 ++ X) H → va_D A (cW ad vd cI cZ cL cG S1 ++ X) → va_S A s.heap H locs → kc ≤ mc → ks ≤ ms → post S1 → decode cy pc = .ok (.return_, 1) → W p l e (crm fr lo mc ms) s m args below meth c H locs kc ks Q (F0 m pc ls [])) → ∀ (H : Heap) (locs : List Loc) (ls : Array Slot), va_P D vwCl (cW ad vd cI cZ cL cG S0 ++ X) H → va_D A (cW ad vd cI cZ cL cG S0 ++ X) → va_S A s.heap H locs → lv_has ls ny (lv_args 0 (av ad)) → W p l e (crm fr lo mc ms) s m args below meth c H locs 0 0 Q (F0 m 0 ls [])) : cCtV l y cy ny fr lo mc ms av S0 post := by
  intro D ad vd cI cZ cL cG X sz
  refine Met.ofW (cc := cy) (maxL := ny) (ret := none) hy rfl ?_
  intro p e s m args below meth c s₁ B hml hv
  obtain ⟨rfl, hsz, hP, hK, hD0, hZ⟩ := hv
  have hts := atoms_spec (ws := bw y cy ny (none)) B.pre
  have hown := findClass_of_methodNamed B.named
  subst hsz
  have hD := hD0.self (sz := s.heap.size)
  generalize hAe : va_A (cW ad vd cI cZ cL cG S0 ++ X) s.heap.size = A at hD ⊢
  have hA : ∀ q : Nat, s.heap.size ≤ q → A q := fun q h => by rw [← hAe]; exact Or.inr h
  have hl := lv_entry (av ad) (n := ny) (hav ad)
  rw [lg_entry_eq]
  generalize (lg_sl (av ad) ++ List.replicate (ny - (lg_sl (av ad)).length) Slot.unset).toArray = ls at hl ⊢
  refine body p e s m _ below meth c D ad vd cI cZ cL cG X A _ B.exec B.bytes hml hown (fun w h => hts w (List.mem_cons_of_mem _ h)) hK hZ hA ?_ s.heap [] ls hP hD va_S.rf hl
  intro S1 vd H locs ls pc kc ks hP hD hS hkc hks hp hdg
  refine W.widen (k := mc) (n := ms) hkc hks ?_
  exact W.vret B.exec B.bytes B.returns (fun t ht hW => ⟨⟨S1, rfl, hp, vd, by rw [ht]; exact hP, va_K.moved hW.alike hK, hD⟩, hS.F ht⟩) hS.2.2 hdg
set_option maxHeartbeats 4000000 in
theorem csetZ {l : Launch} {y : MethodName} {cy : ByteArray} {ny fr lo mc ms : Nat} {av : (Nat → Nat) → List Value} {S0 : CS} {post : Bool → CS → Prop} (hy : plainName y.cls = true) (hav : ∀ (ad : Nat → Nat), (lg_sl (av ad)).length ≤ ny) (body : ∀ (p : Program) (e : Env) (s : State) (m : MethodId) (args : Array Value) (below : List Frame) (meth : Method) (c : Code) (D : va_G) (ad vd : Nat → Nat) (cI cZ cL cG : ClassId) (X : va_W) (A : Nat → Prop) (Q : State → Prop), p.tables.exec = Jvm.exec → c.code = cy → c.maxLocals = ny → s.vm.findClass y.cls = some m.cls → (∀ w ∈ gw, w.before args s = true) → va_K D vwCl (cTy cI cZ cL cG) s → cZw s → (∀ q, s.heap.size ≤ q → A q) → (∀ (r : Bool) (S1 : CS) (vd : Nat → Nat) (H : Heap) (locs : List Loc) (ls : Array Slot) (pc kc ks : Nat), va_P D vwCl (cW ad vd cI cZ cL cG S1 ++ X) H → va_D A (cW ad vd cI cZ cL cG S1 ++ X) → va_S A s.heap H locs → kc ≤ mc → ks ≤ ms → post r S1 → decode cy pc = .ok (.ireturn, 1) → W p l e (crm fr lo mc ms) s m args below meth c H locs kc ks Q (F0 m pc ls [.int (bI r)])) → ∀ (H : Heap) (locs : List Loc) (ls : Array Slot), va_P D vwCl (cW ad vd cI cZ cL cG S0 ++ X) H → va_D A (cW ad vd cI cZ cL cG S0 ++ X) → va_S A s.heap H locs → lv_has ls ny (lv_args 0 (av ad)) → W p l e (crm fr lo mc ms) s m args below meth c H locs 0 0 Q (F0 m 0 ls [])) : cCtZ l y cy ny fr lo mc ms av S0 post := by
  intro D ad vd cI cZ cL cG X sz
  refine Met.ofW (cc := cy) (maxL := ny) (ret := some .boolean) hy rfl ?_
  intro p e s m args below meth c s₁ B hml hv
  obtain ⟨rfl, hsz, hP, hK, hD0, hZ⟩ := hv
  have hts := atoms_spec (ws := bw y cy ny (some .boolean)) B.pre
  have hown := findClass_of_methodNamed B.named
  subst hsz
  have hD := hD0.self (sz := s.heap.size)
  generalize hAe : va_A (cW ad vd cI cZ cL cG S0 ++ X) s.heap.size = A at hD ⊢
  have hA : ∀ q : Nat, s.heap.size ≤ q → A q := fun q h => by rw [← hAe]; exact Or.inr h
  have hl := lv_entry (av ad) (n := ny) (hav ad)
  rw [lg_entry_eq]
  generalize (lg_sl (av ad) ++ List.replicate (ny - (lg_sl (av ad)).length) Slot.unset).toArray = ls at hl ⊢
  refine body p e s m _ below meth c D ad vd cI cZ cL cG X A _ B.exec B.bytes hml hown (fun w h => hts w (List.mem_cons_of_mem _ h)) hK hZ hA ?_ s.heap [] ls hP hD va_S.rf hl
  intro r S1 vd H locs ls pc kc ks hP hD hS hkc hks hp hdg
  refine W.widen (k := mc) (n := ms) hkc hks ?_
  exact W.zret (v := bI r) B.exec B.bytes B.returns (bI_nar r) (fun t ht hW => ⟨⟨bI r, S1, rfl, ⟨r, rfl, hp⟩, vd, by rw [ht]; exact hP, va_K.moved hW.alike hK, hD⟩, hS.F ht⟩) hS.2.2 hdg
def cCtIx (l : Launch) (y : MethodName) (cy : ByteArray) (ny fr lo mc ms : Nat) (nx : Nat) (fx : Nat → Int32) (av : (Nat → Nat) → Nat → List Value) (S : CS) (post : Int32 → CS → Prop) : Prop := ∀ (D : va_G) (ad vd : Nat → Nat) (cI cZ cL cG : ClassId) (X : va_W) (sz : Nat) (qx : Nat), cXt cI X qx nx fx → Met l y (bw y cy ny (some .int)) (crm fr lo mc ms) (va_Pc (av ad qx) (cB D ad vd cI cZ cL cG X sz S)) (va_Qi post (cE D ad cI cZ cL cG X (va_A (cW ad vd cI cZ cL cG S ++ X) sz)) (va_A (cW ad vd cI cZ cL cG S ++ X) sz)) mc ms (va_A (cW ad vd cI cZ cL cG S ++ X) sz)
def cCtJx (l : Launch) (y : MethodName) (cy : ByteArray) (ny fr lo mc ms : Nat) (nx : Nat) (fx : Nat → Int32) (av : (Nat → Nat) → Nat → List Value) (S : CS) (post : Int64 → CS → Prop) : Prop := ∀ (D : va_G) (ad vd : Nat → Nat) (cI cZ cL cG : ClassId) (X : va_W) (sz : Nat) (qx : Nat), cXt cI X qx nx fx → Met l y (bw y cy ny (some .long)) (crm fr lo mc ms) (va_Pc (av ad qx) (cB D ad vd cI cZ cL cG X sz S)) (va_Ql post (cE D ad cI cZ cL cG X (va_A (cW ad vd cI cZ cL cG S ++ X) sz)) (va_A (cW ad vd cI cZ cL cG S ++ X) sz)) mc ms (va_A (cW ad vd cI cZ cL cG S ++ X) sz)
def cCtVx (l : Launch) (y : MethodName) (cy : ByteArray) (ny fr lo mc ms : Nat) (nx : Nat) (fx : Nat → Int32) (av : (Nat → Nat) → Nat → List Value) (S : CS) (post : CS → Prop) : Prop := ∀ (D : va_G) (ad vd : Nat → Nat) (cI cZ cL cG : ClassId) (X : va_W) (sz : Nat) (qx : Nat), cXt cI X qx nx fx → Met l y (bw y cy ny (none)) (crm fr lo mc ms) (va_Pc (av ad qx) (cB D ad vd cI cZ cL cG X sz S)) (va_Qv post (cE D ad cI cZ cL cG X (va_A (cW ad vd cI cZ cL cG S ++ X) sz)) (va_A (cW ad vd cI cZ cL cG S ++ X) sz)) mc ms (va_A (cW ad vd cI cZ cL cG S ++ X) sz)
def cCtZx (l : Launch) (y : MethodName) (cy : ByteArray) (ny fr lo mc ms : Nat) (nx : Nat) (fx : Nat → Int32) (av : (Nat → Nat) → Nat → List Value) (S : CS) (post : Bool → CS → Prop) : Prop := ∀ (D : va_G) (ad vd : Nat → Nat) (cI cZ cL cG : ClassId) (X : va_W) (sz : Nat) (qx : Nat), cXt cI X qx nx fx → Met l y (bw y cy ny (some .boolean)) (crm fr lo mc ms) (va_Pc (av ad qx) (cB D ad vd cI cZ cL cG X sz S)) (va_Qi (fun r S1 => ∃ b : Bool, r = bI b ∧ post b S1) (cE D ad cI cZ cL cG X (va_A (cW ad vd cI cZ cL cG S ++ X) sz)) (va_A (cW ad vd cI cZ cL cG S ++ X) sz)) mc ms (va_A (cW ad vd cI cZ cL cG S ++ X) sz)
set_option maxHeartbeats 4000000 in
theorem csetIx {l : Launch} {y : MethodName} {cy : ByteArray} {ny fr lo mc ms : Nat} {nx : Nat} {fx : Nat → Int32} {av : (Nat → Nat) → Nat → List Value} {S0 : CS} {post : Int32 → CS → Prop} (hy : plainName y.cls = true) (hav : ∀ (ad : Nat → Nat) (qx : Nat), (lg_sl (av ad qx)).length ≤ ny) (body : ∀ (p : Program) (e : Env) (s : State) (m : MethodId) (args : Array Value) (below : List Frame) (meth : Method) (c : Code) (D : va_G) (ad vd : Nat → Nat) (cI cZ cL cG : ClassId) (X : va_W) (qx : Nat) (A : Nat → Prop) (Q : State → Prop), p.tables.exec = Jvm.exec → c.code = cy → c.maxLocals = ny → s.vm.findClass y.cls = some m.cls → (∀ w ∈ gw, w.before args s = true) → va_K D vwCl (cTy cI cZ cL cG) s → cZw s → (∀ q, s.heap.size ≤ q → A q) → cXt cI X qx nx fx → (∀ (r : Int32) (S1 : CS) (vd : Nat → Nat) (H : Heap) (locs : List Loc) (ls : Array Slot) (pc kc ks : Nat), va_P D vwCl (cW ad vd cI cZ cL cG S1 ++ X) H → va_D A (cW ad vd cI cZ cL cG S1 ++ X) → va_S A s.heap H locs → kc ≤ mc → ks ≤ ms → post r S1 → decode cy pc = .ok (.ireturn, 1) → W p l e (crm fr lo mc ms) s m args below meth c H locs kc ks Q (F0 m pc ls [.int r])) → ∀ (H : Heap) (locs : List Loc) (ls : Array Slot), va_P D vwCl (cW ad vd cI cZ cL cG S0 ++ X) H → va_D A (cW ad vd cI cZ cL cG S0 ++ X) → va_S A s.heap H locs → lv_has ls ny (lv_args 0 (av ad qx)) → W p l e (crm fr lo mc ms) s m args below meth c H locs 0 0 Q (F0 m 0 ls [])) : cCtIx l y cy ny fr lo mc ms nx fx av S0 post := by
  intro D ad vd cI cZ cL cG X sz qx hqx
  refine Met.ofW (cc := cy) (maxL := ny) (ret := some .int) hy rfl ?_
  intro p e s m args below meth c s₁ B hml hv
  obtain ⟨rfl, hsz, hP, hK, hD0, hZ⟩ := hv
  have hts := atoms_spec (ws := bw y cy ny (some .int)) B.pre
  have hown := findClass_of_methodNamed B.named
  subst hsz
  have hD := hD0.self (sz := s.heap.size)
  generalize hAe : va_A (cW ad vd cI cZ cL cG S0 ++ X) s.heap.size = A at hD ⊢
  have hA : ∀ q : Nat, s.heap.size ≤ q → A q := fun q h => by rw [← hAe]; exact Or.inr h
  have hl := lv_entry (av ad qx) (n := ny) (hav ad qx)
  rw [lg_entry_eq]
  generalize (lg_sl (av ad qx) ++ List.replicate (ny - (lg_sl (av ad qx)).length) Slot.unset).toArray = ls at hl ⊢
  refine body p e s m _ below meth c D ad vd cI cZ cL cG X qx A _ B.exec B.bytes hml hown (fun w h => hts w (List.mem_cons_of_mem _ h)) hK hZ hA hqx ?_ s.heap [] ls hP hD va_S.rf hl
  intro r S1 vd H locs ls pc kc ks hP hD hS hkc hks hp hdg
  refine W.widen (k := mc) (n := ms) hkc hks ?_
  exact W.iret (v := r) B.exec B.bytes B.returns (fun t ht hW => ⟨⟨r, S1, rfl, hp, vd, by rw [ht]; exact hP, va_K.moved hW.alike hK, hD⟩, hS.F ht⟩) hS.2.2 hdg
set_option maxHeartbeats 4000000 in
theorem csetJx {l : Launch} {y : MethodName} {cy : ByteArray} {ny fr lo mc ms : Nat} {nx : Nat} {fx : Nat → Int32} {av : (Nat → Nat) → Nat → List Value} {S0 : CS} {post : Int64 → CS → Prop} (hy : plainName y.cls = true) (hav : ∀ (ad : Nat → Nat) (qx : Nat), (lg_sl (av ad qx)).length ≤ ny) (body : ∀ (p : Program) (e : Env) (s : State) (m : MethodId) (args : Array Value) (below : List Frame) (meth : Method) (c : Code) (D : va_G) (ad vd : Nat → Nat) (cI cZ cL cG : ClassId) (X : va_W) (qx : Nat) (A : Nat → Prop) (Q : State → Prop), p.tables.exec = Jvm.exec → c.code = cy → c.maxLocals = ny → s.vm.findClass y.cls = some m.cls → (∀ w ∈ gw, w.before args s = true) → va_K D vwCl (cTy cI cZ cL cG) s → cZw s → (∀ q, s.heap.size ≤ q → A q) → cXt cI X qx nx fx → (∀ (r : Int64) (S1 : CS) (vd : Nat → Nat) (H : Heap) (locs : List Loc) (ls : Array Slot) (pc kc ks : Nat), va_P D vwCl (cW ad vd cI cZ cL cG S1 ++ X) H → va_D A (cW ad vd cI cZ cL cG S1 ++ X) → va_S A s.heap H locs → kc ≤ mc → ks ≤ ms → post r S1 → decode cy pc = .ok (.lreturn, 1) → W p l e (crm fr lo mc ms) s m args below meth c H locs kc ks Q (F0 m pc ls [.long r])) → ∀ (H : Heap) (locs : List Loc) (ls : Array Slot), va_P D vwCl (cW ad vd cI cZ cL cG S0 ++ X) H → va_D A (cW ad vd cI cZ cL cG S0 ++ X) → va_S A s.heap H locs → lv_has ls ny (lv_args 0 (av ad qx)) → W p l e (crm fr lo mc ms) s m args below meth c H locs 0 0 Q (F0 m 0 ls [])) : cCtJx l y cy ny fr lo mc ms nx fx av S0 post := by
  intro D ad vd cI cZ cL cG X sz qx hqx
  refine Met.ofW (cc := cy) (maxL := ny) (ret := some .long) hy rfl ?_
  intro p e s m args below meth c s₁ B hml hv
  obtain ⟨rfl, hsz, hP, hK, hD0, hZ⟩ := hv
  have hts := atoms_spec (ws := bw y cy ny (some .long)) B.pre
  have hown := findClass_of_methodNamed B.named
  subst hsz
  have hD := hD0.self (sz := s.heap.size)
  generalize hAe : va_A (cW ad vd cI cZ cL cG S0 ++ X) s.heap.size = A at hD ⊢
  have hA : ∀ q : Nat, s.heap.size ≤ q → A q := fun q h => by rw [← hAe]; exact Or.inr h
  have hl := lv_entry (av ad qx) (n := ny) (hav ad qx)
  rw [lg_entry_eq]
  generalize (lg_sl (av ad qx) ++ List.replicate (ny - (lg_sl (av ad qx)).length) Slot.unset).toArray = ls at hl ⊢
  refine body p e s m _ below meth c D ad vd cI cZ cL cG X qx A _ B.exec B.bytes hml hown (fun w h => hts w (List.mem_cons_of_mem _ h)) hK hZ hA hqx ?_ s.heap [] ls hP hD va_S.rf hl
  intro r S1 vd H locs ls pc kc ks hP hD hS hkc hks hp hdg
  refine W.widen (k := mc) (n := ms) hkc hks ?_
  exact W.lret (v := r) B.exec B.bytes B.returns (fun t ht hW => ⟨⟨r, S1, rfl, hp, vd, by rw [ht]; exact hP, va_K.moved hW.alike hK, hD⟩, hS.F ht⟩) hS.2.2 hdg
set_option maxHeartbeats 4000000 in
theorem csetVx {l : Launch} {y : MethodName} {cy : ByteArray} {ny fr lo mc ms : Nat} {nx : Nat} {fx : Nat → Int32} {av : (Nat → Nat) → Nat → List Value} {S0 : CS} {post : CS → Prop} (hy : plainName y.cls = true) (hav : ∀ (ad : Nat → Nat) (qx : Nat), (lg_sl (av ad qx)).length ≤ ny) (body : ∀ (p : Program) (e : Env) (s : State) (m : MethodId) (args : Array Value) (below : List Frame) (meth : Method) (c : Code) (D : va_G) (ad vd : Nat → Nat) (cI cZ cL cG : ClassId) (X : va_W) (qx : Nat) (A : Nat → Prop) (Q : State → Prop), p.tables.exec = Jvm.exec → c.code = cy → c.maxLocals = ny → s.vm.findClass y.cls = some m.cls → (∀ w ∈ gw, w.before args s = true) → va_K D vwCl (cTy cI cZ cL cG) s → cZw s → (∀ q, s.heap.size ≤ q → A q) → cXt cI X qx nx fx → (∀ (S1 : CS) (vd : Nat → Nat) (H : Heap) (locs : List Loc) (ls : Array Slot) (pc kc ks : Nat), va_P D vwCl (cW ad vd cI cZ cL cG S1 ++ X) H → va_D A (cW ad vd cI cZ cL cG S1 ++ X) → va_S A s.heap H locs → kc ≤ mc → ks ≤ ms → post S1 → decode cy pc = .ok (.return_, 1) → W p l e (crm fr lo mc ms) s m args below meth c H locs kc ks Q (F0 m pc ls [])) → ∀ (H : Heap) (locs : List Loc) (ls : Array Slot), va_P D vwCl (cW ad vd cI cZ cL cG S0 ++ X) H → va_D A (cW ad vd cI cZ cL cG S0 ++ X) → va_S A s.heap H locs → lv_has ls ny (lv_args 0 (av ad qx)) → W p l e (crm fr lo mc ms) s m args below meth c H locs 0 0 Q (F0 m 0 ls [])) : cCtVx l y cy ny fr lo mc ms nx fx av S0 post := by
  intro D ad vd cI cZ cL cG X sz qx hqx
  refine Met.ofW (cc := cy) (maxL := ny) (ret := none) hy rfl ?_
  intro p e s m args below meth c s₁ B hml hv
  obtain ⟨rfl, hsz, hP, hK, hD0, hZ⟩ := hv
  have hts := atoms_spec (ws := bw y cy ny (none)) B.pre
  have hown := findClass_of_methodNamed B.named
  subst hsz
  have hD := hD0.self (sz := s.heap.size)
  generalize hAe : va_A (cW ad vd cI cZ cL cG S0 ++ X) s.heap.size = A at hD ⊢
  have hA : ∀ q : Nat, s.heap.size ≤ q → A q := fun q h => by rw [← hAe]; exact Or.inr h
  have hl := lv_entry (av ad qx) (n := ny) (hav ad qx)
  rw [lg_entry_eq]
  generalize (lg_sl (av ad qx) ++ List.replicate (ny - (lg_sl (av ad qx)).length) Slot.unset).toArray = ls at hl ⊢
  refine body p e s m _ below meth c D ad vd cI cZ cL cG X qx A _ B.exec B.bytes hml hown (fun w h => hts w (List.mem_cons_of_mem _ h)) hK hZ hA hqx ?_ s.heap [] ls hP hD va_S.rf hl
  intro S1 vd H locs ls pc kc ks hP hD hS hkc hks hp hdg
  refine W.widen (k := mc) (n := ms) hkc hks ?_
  exact W.vret B.exec B.bytes B.returns (fun t ht hW => ⟨⟨S1, rfl, hp, vd, by rw [ht]; exact hP, va_K.moved hW.alike hK, hD⟩, hS.F ht⟩) hS.2.2 hdg
set_option maxHeartbeats 4000000 in
theorem csetZx {l : Launch} {y : MethodName} {cy : ByteArray} {ny fr lo mc ms : Nat} {nx : Nat} {fx : Nat → Int32} {av : (Nat → Nat) → Nat → List Value} {S0 : CS} {post : Bool → CS → Prop} (hy : plainName y.cls = true) (hav : ∀ (ad : Nat → Nat) (qx : Nat), (lg_sl (av ad qx)).length ≤ ny) (body : ∀ (p : Program) (e : Env) (s : State) (m : MethodId) (args : Array Value) (below : List Frame) (meth : Method) (c : Code) (D : va_G) (ad vd : Nat → Nat) (cI cZ cL cG : ClassId) (X : va_W) (qx : Nat) (A : Nat → Prop) (Q : State → Prop), p.tables.exec = Jvm.exec → c.code = cy → c.maxLocals = ny → s.vm.findClass y.cls = some m.cls → (∀ w ∈ gw, w.before args s = true) → va_K D vwCl (cTy cI cZ cL cG) s → cZw s → (∀ q, s.heap.size ≤ q → A q) → cXt cI X qx nx fx → (∀ (r : Bool) (S1 : CS) (vd : Nat → Nat) (H : Heap) (locs : List Loc) (ls : Array Slot) (pc kc ks : Nat), va_P D vwCl (cW ad vd cI cZ cL cG S1 ++ X) H → va_D A (cW ad vd cI cZ cL cG S1 ++ X) → va_S A s.heap H locs → kc ≤ mc → ks ≤ ms → post r S1 → decode cy pc = .ok (.ireturn, 1) → W p l e (crm fr lo mc ms) s m args below meth c H locs kc ks Q (F0 m pc ls [.int (bI r)])) → ∀ (H : Heap) (locs : List Loc) (ls : Array Slot), va_P D vwCl (cW ad vd cI cZ cL cG S0 ++ X) H → va_D A (cW ad vd cI cZ cL cG S0 ++ X) → va_S A s.heap H locs → lv_has ls ny (lv_args 0 (av ad qx)) → W p l e (crm fr lo mc ms) s m args below meth c H locs 0 0 Q (F0 m 0 ls [])) : cCtZx l y cy ny fr lo mc ms nx fx av S0 post := by
  intro D ad vd cI cZ cL cG X sz qx hqx
  refine Met.ofW (cc := cy) (maxL := ny) (ret := some .boolean) hy rfl ?_
  intro p e s m args below meth c s₁ B hml hv
  obtain ⟨rfl, hsz, hP, hK, hD0, hZ⟩ := hv
  have hts := atoms_spec (ws := bw y cy ny (some .boolean)) B.pre
  have hown := findClass_of_methodNamed B.named
  subst hsz
  have hD := hD0.self (sz := s.heap.size)
  generalize hAe : va_A (cW ad vd cI cZ cL cG S0 ++ X) s.heap.size = A at hD ⊢
  have hA : ∀ q : Nat, s.heap.size ≤ q → A q := fun q h => by rw [← hAe]; exact Or.inr h
  have hl := lv_entry (av ad qx) (n := ny) (hav ad qx)
  rw [lg_entry_eq]
  generalize (lg_sl (av ad qx) ++ List.replicate (ny - (lg_sl (av ad qx)).length) Slot.unset).toArray = ls at hl ⊢
  refine body p e s m _ below meth c D ad vd cI cZ cL cG X qx A _ B.exec B.bytes hml hown (fun w h => hts w (List.mem_cons_of_mem _ h)) hK hZ hA hqx ?_ s.heap [] ls hP hD va_S.rf hl
  intro r S1 vd H locs ls pc kc ks hP hD hS hkc hks hp hdg
  refine W.widen (k := mc) (n := ms) hkc hks ?_
  exact W.zret (v := bI r) B.exec B.bytes B.returns (bI_nar r) (fun t ht hW => ⟨⟨bI r, S1, rfl, ⟨r, rfl, hp⟩, vd, by rw [ht]; exact hP, va_K.moved hW.alike hK, hD⟩, hS.F ht⟩) hS.2.2 hdg
section CCalls
variable {p : Program} {l : Launch} {e : Env} {R : Room} {s : State} {m : MethodId} {args : Array Value} {below : List Frame} {meth : Method} {c : Code} {H : Heap} {locs : List Loc} {cells slots : Nat} {Q : State → Prop} {cc : ByteArray} {pc nL : Nat} {ls : Array Slot} {rest : List Value} {D : va_G} {A : Nat → Prop} {ad vd : Nat → Nat} {cI cZ cL cG : ClassId} {S : CS} {X : va_W} {own : String}
set_option maxHeartbeats 4000000 in
theorem ccallVI {y : MethodName} {cy : ByteArray} {ny fr lo mc ms n idx : Nat} {C : String} {b : Nat} {As : List Value} {av : (Nat → Nat) → List Value} {post : Int32 → CS → Prop} {lv : List (Nat × Value)} {st0 : List Value} (hM : cCtI l y cy ny fr lo mc ms av S post) (hx : p.tables.exec = Jvm.exec) (hb : c.code = cc) (hml : c.maxLocals = nL) (hown : s.vm.findClass own = some m.cls) (hts : ∀ w ∈ gw, w.before args s = true) (hK : va_K D vwCl (cTy cI cZ cL cG) s) (hZ : cZw s) (hA : ∀ q, s.heap.size ≤ q → A q) (hP : va_P D vwCl (cW ad vd cI cZ cL cG S ++ X) H) (hD : va_D A (cW ad vd cI cZ cL cG S ++ X)) (hS : va_S A s.heap H locs) (hl : lv_has ls nL lv) (hG : GoodIn gw (wsV own idx C y (bw y cy ny (some .int)))) (hd : y.cls = C ∧ y.cls ≠ "java/lang/invoke/MethodHandle" ∧ y.cls ≠ "java/lang/invoke/VarHandle" ∧ (parseMethodDescriptor y.desc).map (fun d => d.parameters.length) = some n) (hrc : ∃ cell : Cell, H[b]? = some cell ∧ cell.vm.isStatics = false ∧ s.vm.findClass C = some cell.cls) (hR : fr + 1 ≤ R.frames ∧ 8 + (ny + 11) + lo ≤ R.locals) (hav : av ad = .ref b :: As) (hn : As.length = n) (hst : st0 = As.reverse ++ .ref b :: rest) (hroom : (rest.map fun v => v.category).sum ≤ 8) (hdg : decode cc pc = .ok (.invokevirtual idx, 3)) (hcl : cells + mc ≤ R.cells) (hsl : slots + ms ≤ R.slots) (kk : ∀ (r : Int32) (S1 : CS) (vd1 : Nat → Nat) (H1 : Heap) (locs1 : List Loc), va_P D vwCl (cW ad vd1 cI cZ cL cG S1 ++ X) H1 → va_D A (cW ad vd1 cI cZ cL cG S1 ++ X) → va_S A s.heap H1 locs1 → post r S1 → W p l e R s m args below meth c H1 locs1 (cells + mc) (slots + ms) Q (F0 m (pc + 3) ls (.int r :: rest))) : W p l e R s m args below meth c H locs cells slots Q (F0 m pc ls st0) := by
  subst hst
  have hFc : ∀ q, va_A (cW ad vd cI cZ cL cG S ++ X) H.size q → A q := by
    intro q hq
    rcases hq with ⟨k, e, h⟩ | h
    · exact hD.2 k _ h
    · exact hA q (Nat.le_trans hS.1 h)
  have hM := hM D ad vd cI cZ cL cG X H.size
  rw [hav] at hM
  refine va_calli (va_runV (As := As) (rest := rest) ⟨hx, hb, hml, hown, hts⟩ hM (cwV n hts hG rfl rfl rfl hd hR) ⟨fun a U g mk q => by obtain ⟨q0, q1, qP, qK, qD, qZ⟩ := q; exact ⟨q0, q1, qP, va_K.moved (u := U) (U := U.calling g mk a) (Vm.Alike.refl U.vm) qK, qD, qZ.same⟩, hrc, fun U hU hW => ⟨rfl, by rw [hU], by rw [hU]; exact hP, va_K.moved hW.alike hK, hD.weaken (fun _ _ _ _ => trivial), cZw.warm hW hZ⟩⟩ rfl hn hl.1 rfl (lv_room hroom) hdg ⟨hcl, hsl⟩) hS (fun q _ h => hFc q h) hFc (fun r S1 t H1 locs1 ht hvm hp hB hz1 hk1 hS => ?_)
  obtain ⟨vd1, hP1, hK1, hD1⟩ := hB
  rw [ht] at hP1
  exact kk r S1 vd1 H1 locs1 hP1 ⟨hD1.1, fun k q h => hFc _ (hD1.2 k q h)⟩ hS hp
set_option maxHeartbeats 4000000 in
theorem ccallVJ {y : MethodName} {cy : ByteArray} {ny fr lo mc ms n idx : Nat} {C : String} {b : Nat} {As : List Value} {av : (Nat → Nat) → List Value} {post : Int64 → CS → Prop} {lv : List (Nat × Value)} {st0 : List Value} (hM : cCtJ l y cy ny fr lo mc ms av S post) (hx : p.tables.exec = Jvm.exec) (hb : c.code = cc) (hml : c.maxLocals = nL) (hown : s.vm.findClass own = some m.cls) (hts : ∀ w ∈ gw, w.before args s = true) (hK : va_K D vwCl (cTy cI cZ cL cG) s) (hZ : cZw s) (hA : ∀ q, s.heap.size ≤ q → A q) (hP : va_P D vwCl (cW ad vd cI cZ cL cG S ++ X) H) (hD : va_D A (cW ad vd cI cZ cL cG S ++ X)) (hS : va_S A s.heap H locs) (hl : lv_has ls nL lv) (hG : GoodIn gw (wsV own idx C y (bw y cy ny (some .long)))) (hd : y.cls = C ∧ y.cls ≠ "java/lang/invoke/MethodHandle" ∧ y.cls ≠ "java/lang/invoke/VarHandle" ∧ (parseMethodDescriptor y.desc).map (fun d => d.parameters.length) = some n) (hrc : ∃ cell : Cell, H[b]? = some cell ∧ cell.vm.isStatics = false ∧ s.vm.findClass C = some cell.cls) (hR : fr + 1 ≤ R.frames ∧ 8 + (ny + 11) + lo ≤ R.locals) (hav : av ad = .ref b :: As) (hn : As.length = n) (hst : st0 = As.reverse ++ .ref b :: rest) (hroom : (rest.map fun v => v.category).sum ≤ 8) (hdg : decode cc pc = .ok (.invokevirtual idx, 3)) (hcl : cells + mc ≤ R.cells) (hsl : slots + ms ≤ R.slots) (kk : ∀ (r : Int64) (S1 : CS) (vd1 : Nat → Nat) (H1 : Heap) (locs1 : List Loc), va_P D vwCl (cW ad vd1 cI cZ cL cG S1 ++ X) H1 → va_D A (cW ad vd1 cI cZ cL cG S1 ++ X) → va_S A s.heap H1 locs1 → post r S1 → W p l e R s m args below meth c H1 locs1 (cells + mc) (slots + ms) Q (F0 m (pc + 3) ls (.long r :: rest))) : W p l e R s m args below meth c H locs cells slots Q (F0 m pc ls st0) := by
  subst hst
  have hFc : ∀ q, va_A (cW ad vd cI cZ cL cG S ++ X) H.size q → A q := by
    intro q hq
    rcases hq with ⟨k, e, h⟩ | h
    · exact hD.2 k _ h
    · exact hA q (Nat.le_trans hS.1 h)
  have hM := hM D ad vd cI cZ cL cG X H.size
  rw [hav] at hM
  refine va_calll (va_runV (As := As) (rest := rest) ⟨hx, hb, hml, hown, hts⟩ hM (cwV n hts hG rfl rfl rfl hd hR) ⟨fun a U g mk q => by obtain ⟨q0, q1, qP, qK, qD, qZ⟩ := q; exact ⟨q0, q1, qP, va_K.moved (u := U) (U := U.calling g mk a) (Vm.Alike.refl U.vm) qK, qD, qZ.same⟩, hrc, fun U hU hW => ⟨rfl, by rw [hU], by rw [hU]; exact hP, va_K.moved hW.alike hK, hD.weaken (fun _ _ _ _ => trivial), cZw.warm hW hZ⟩⟩ rfl hn hl.1 rfl (lv_room hroom) hdg ⟨hcl, hsl⟩) hS (fun q _ h => hFc q h) hFc (fun r S1 t H1 locs1 ht hvm hp hB hz1 hk1 hS => ?_)
  obtain ⟨vd1, hP1, hK1, hD1⟩ := hB
  rw [ht] at hP1
  exact kk r S1 vd1 H1 locs1 hP1 ⟨hD1.1, fun k q h => hFc _ (hD1.2 k q h)⟩ hS hp
set_option maxHeartbeats 4000000 in
theorem ccallVV {y : MethodName} {cy : ByteArray} {ny fr lo mc ms n idx : Nat} {C : String} {b : Nat} {As : List Value} {av : (Nat → Nat) → List Value} {post : CS → Prop} {lv : List (Nat × Value)} {st0 : List Value} (hM : cCtV l y cy ny fr lo mc ms av S post) (hx : p.tables.exec = Jvm.exec) (hb : c.code = cc) (hml : c.maxLocals = nL) (hown : s.vm.findClass own = some m.cls) (hts : ∀ w ∈ gw, w.before args s = true) (hK : va_K D vwCl (cTy cI cZ cL cG) s) (hZ : cZw s) (hA : ∀ q, s.heap.size ≤ q → A q) (hP : va_P D vwCl (cW ad vd cI cZ cL cG S ++ X) H) (hD : va_D A (cW ad vd cI cZ cL cG S ++ X)) (hS : va_S A s.heap H locs) (hl : lv_has ls nL lv) (hG : GoodIn gw (wsV own idx C y (bw y cy ny (none)))) (hd : y.cls = C ∧ y.cls ≠ "java/lang/invoke/MethodHandle" ∧ y.cls ≠ "java/lang/invoke/VarHandle" ∧ (parseMethodDescriptor y.desc).map (fun d => d.parameters.length) = some n) (hrc : ∃ cell : Cell, H[b]? = some cell ∧ cell.vm.isStatics = false ∧ s.vm.findClass C = some cell.cls) (hR : fr + 1 ≤ R.frames ∧ 8 + (ny + 11) + lo ≤ R.locals) (hav : av ad = .ref b :: As) (hn : As.length = n) (hst : st0 = As.reverse ++ .ref b :: rest) (hroom : (rest.map fun v => v.category).sum ≤ 8) (hdg : decode cc pc = .ok (.invokevirtual idx, 3)) (hcl : cells + mc ≤ R.cells) (hsl : slots + ms ≤ R.slots) (kk : ∀ (S1 : CS) (vd1 : Nat → Nat) (H1 : Heap) (locs1 : List Loc), va_P D vwCl (cW ad vd1 cI cZ cL cG S1 ++ X) H1 → va_D A (cW ad vd1 cI cZ cL cG S1 ++ X) → va_S A s.heap H1 locs1 → post S1 → W p l e R s m args below meth c H1 locs1 (cells + mc) (slots + ms) Q (F0 m (pc + 3) ls (rest))) : W p l e R s m args below meth c H locs cells slots Q (F0 m pc ls st0) := by
  subst hst
  have hFc : ∀ q, va_A (cW ad vd cI cZ cL cG S ++ X) H.size q → A q := by
    intro q hq
    rcases hq with ⟨k, e, h⟩ | h
    · exact hD.2 k _ h
    · exact hA q (Nat.le_trans hS.1 h)
  have hM := hM D ad vd cI cZ cL cG X H.size
  rw [hav] at hM
  refine va_callv (va_runV (As := As) (rest := rest) ⟨hx, hb, hml, hown, hts⟩ hM (cwV n hts hG rfl rfl rfl hd hR) ⟨fun a U g mk q => by obtain ⟨q0, q1, qP, qK, qD, qZ⟩ := q; exact ⟨q0, q1, qP, va_K.moved (u := U) (U := U.calling g mk a) (Vm.Alike.refl U.vm) qK, qD, qZ.same⟩, hrc, fun U hU hW => ⟨rfl, by rw [hU], by rw [hU]; exact hP, va_K.moved hW.alike hK, hD.weaken (fun _ _ _ _ => trivial), cZw.warm hW hZ⟩⟩ rfl hn hl.1 rfl (lv_room hroom) hdg ⟨hcl, hsl⟩) hS (fun q _ h => hFc q h) hFc (fun S1 t H1 locs1 ht hvm hp hB hz1 hk1 hS => ?_)
  obtain ⟨vd1, hP1, hK1, hD1⟩ := hB
  rw [ht] at hP1
  exact kk S1 vd1 H1 locs1 hP1 ⟨hD1.1, fun k q h => hFc _ (hD1.2 k q h)⟩ hS hp
set_option maxHeartbeats 4000000 in
theorem ccallVZ {y : MethodName} {cy : ByteArray} {ny fr lo mc ms n idx : Nat} {C : String} {b : Nat} {As : List Value} {av : (Nat → Nat) → List Value} {post : Bool → CS → Prop} {lv : List (Nat × Value)} {st0 : List Value} (hM : cCtZ l y cy ny fr lo mc ms av S post) (hx : p.tables.exec = Jvm.exec) (hb : c.code = cc) (hml : c.maxLocals = nL) (hown : s.vm.findClass own = some m.cls) (hts : ∀ w ∈ gw, w.before args s = true) (hK : va_K D vwCl (cTy cI cZ cL cG) s) (hZ : cZw s) (hA : ∀ q, s.heap.size ≤ q → A q) (hP : va_P D vwCl (cW ad vd cI cZ cL cG S ++ X) H) (hD : va_D A (cW ad vd cI cZ cL cG S ++ X)) (hS : va_S A s.heap H locs) (hl : lv_has ls nL lv) (hG : GoodIn gw (wsV own idx C y (bw y cy ny (some .boolean)))) (hd : y.cls = C ∧ y.cls ≠ "java/lang/invoke/MethodHandle" ∧ y.cls ≠ "java/lang/invoke/VarHandle" ∧ (parseMethodDescriptor y.desc).map (fun d => d.parameters.length) = some n) (hrc : ∃ cell : Cell, H[b]? = some cell ∧ cell.vm.isStatics = false ∧ s.vm.findClass C = some cell.cls) (hR : fr + 1 ≤ R.frames ∧ 8 + (ny + 11) + lo ≤ R.locals) (hav : av ad = .ref b :: As) (hn : As.length = n) (hst : st0 = As.reverse ++ .ref b :: rest) (hroom : (rest.map fun v => v.category).sum ≤ 8) (hdg : decode cc pc = .ok (.invokevirtual idx, 3)) (hcl : cells + mc ≤ R.cells) (hsl : slots + ms ≤ R.slots) (kk : ∀ (r : Bool) (S1 : CS) (vd1 : Nat → Nat) (H1 : Heap) (locs1 : List Loc), va_P D vwCl (cW ad vd1 cI cZ cL cG S1 ++ X) H1 → va_D A (cW ad vd1 cI cZ cL cG S1 ++ X) → va_S A s.heap H1 locs1 → post r S1 → W p l e R s m args below meth c H1 locs1 (cells + mc) (slots + ms) Q (F0 m (pc + 3) ls (.int (bI r) :: rest))) : W p l e R s m args below meth c H locs cells slots Q (F0 m pc ls st0) := by
  subst hst
  have hFc : ∀ q, va_A (cW ad vd cI cZ cL cG S ++ X) H.size q → A q := by
    intro q hq
    rcases hq with ⟨k, e, h⟩ | h
    · exact hD.2 k _ h
    · exact hA q (Nat.le_trans hS.1 h)
  have hM := hM D ad vd cI cZ cL cG X H.size
  rw [hav] at hM
  refine va_calli (va_runV (As := As) (rest := rest) ⟨hx, hb, hml, hown, hts⟩ hM (cwV n hts hG rfl rfl rfl hd hR) ⟨fun a U g mk q => by obtain ⟨q0, q1, qP, qK, qD, qZ⟩ := q; exact ⟨q0, q1, qP, va_K.moved (u := U) (U := U.calling g mk a) (Vm.Alike.refl U.vm) qK, qD, qZ.same⟩, hrc, fun U hU hW => ⟨rfl, by rw [hU], by rw [hU]; exact hP, va_K.moved hW.alike hK, hD.weaken (fun _ _ _ _ => trivial), cZw.warm hW hZ⟩⟩ rfl hn hl.1 rfl (lv_room hroom) hdg ⟨hcl, hsl⟩) hS (fun q _ h => hFc q h) hFc (fun r S1 t H1 locs1 ht hvm hp hB hz1 hk1 hS => ?_)
  obtain ⟨vd1, hP1, hK1, hD1⟩ := hB
  rw [ht] at hP1
  obtain ⟨b, rfl, hp⟩ := hp
  exact kk b S1 vd1 H1 locs1 hP1 ⟨hD1.1, fun k q h => hFc _ (hD1.2 k q h)⟩ hS hp
set_option maxHeartbeats 4000000 in
theorem ccallSI {y : MethodName} {cy : ByteArray} {ny fr lo mc ms n idx : Nat} {As : List Value} {av : (Nat → Nat) → List Value} {post : Int32 → CS → Prop} {lv : List (Nat × Value)} {st0 : List Value} (hM : cCtI l y cy ny fr lo mc ms av S post) (hx : p.tables.exec = Jvm.exec) (hb : c.code = cc) (hml : c.maxLocals = nL) (hown : s.vm.findClass own = some m.cls) (hts : ∀ w ∈ gw, w.before args s = true) (hK : va_K D vwCl (cTy cI cZ cL cG) s) (hZ : cZw s) (hA : ∀ q, s.heap.size ≤ q → A q) (hP : va_P D vwCl (cW ad vd cI cZ cL cG S ++ X) H) (hD : va_D A (cW ad vd cI cZ cL cG S ++ X)) (hS : va_S A s.heap H locs) (hl : lv_has ls nL lv) (hG : GoodIn gw (va_wsS own idx y (bw y cy ny (some .int)))) (hd : y.cls ≠ "java/lang/invoke/MethodHandle" ∧ y.cls ≠ "java/lang/invoke/VarHandle" ∧ (parseMethodDescriptor y.desc).map (fun d => d.parameters.length) = some n) (hR : fr + 1 ≤ R.frames ∧ 8 + (ny + 11) + lo ≤ R.locals) (hav : av ad = As) (hn : As.length = n) (hst : st0 = As.reverse ++ rest) (hroom : (rest.map fun v => v.category).sum ≤ 8) (hdg : decode cc pc = .ok (.invokestatic idx, 3)) (hcl : cells + mc ≤ R.cells) (hsl : slots + ms ≤ R.slots) (kk : ∀ (r : Int32) (S1 : CS) (vd1 : Nat → Nat) (H1 : Heap) (locs1 : List Loc), va_P D vwCl (cW ad vd1 cI cZ cL cG S1 ++ X) H1 → va_D A (cW ad vd1 cI cZ cL cG S1 ++ X) → va_S A s.heap H1 locs1 → post r S1 → W p l e R s m args below meth c H1 locs1 (cells + mc) (slots + ms) Q (F0 m (pc + 3) ls (.int r :: rest))) : W p l e R s m args below meth c H locs cells slots Q (F0 m pc ls st0) := by
  subst hst
  have hFc : ∀ q, va_A (cW ad vd cI cZ cL cG S ++ X) H.size q → A q := by
    intro q hq
    rcases hq with ⟨k, e, h⟩ | h
    · exact hD.2 k _ h
    · exact hA q (Nat.le_trans hS.1 h)
  have hM := hM D ad vd cI cZ cL cG X H.size
  rw [hav] at hM
  refine va_calli (va_runS (As := As) (rest := rest) ⟨hx, hb, hml, hown, hts⟩ hM (va_cwS n hts hG rfl rfl rfl hd hR) ⟨fun a U g mk q => by obtain ⟨q0, q1, qP, qK, qD, qZ⟩ := q; exact ⟨q0, q1, qP, va_K.moved (u := U) (U := U.calling g mk a) (Vm.Alike.refl U.vm) qK, qD, qZ.same⟩, fun U hU hW => ⟨rfl, by rw [hU], by rw [hU]; exact hP, va_K.moved hW.alike hK, hD.weaken (fun _ _ _ _ => trivial), cZw.warm hW hZ⟩⟩ rfl hn hl.1 rfl (lv_room hroom) hdg ⟨hcl, hsl⟩) hS (fun q _ h => hFc q h) hFc (fun r S1 t H1 locs1 ht hvm hp hB hz1 hk1 hS => ?_)
  obtain ⟨vd1, hP1, hK1, hD1⟩ := hB
  rw [ht] at hP1
  exact kk r S1 vd1 H1 locs1 hP1 ⟨hD1.1, fun k q h => hFc _ (hD1.2 k q h)⟩ hS hp
set_option maxHeartbeats 4000000 in
theorem ccallSJ {y : MethodName} {cy : ByteArray} {ny fr lo mc ms n idx : Nat} {As : List Value} {av : (Nat → Nat) → List Value} {post : Int64 → CS → Prop} {lv : List (Nat × Value)} {st0 : List Value} (hM : cCtJ l y cy ny fr lo mc ms av S post) (hx : p.tables.exec = Jvm.exec) (hb : c.code = cc) (hml : c.maxLocals = nL) (hown : s.vm.findClass own = some m.cls) (hts : ∀ w ∈ gw, w.before args s = true) (hK : va_K D vwCl (cTy cI cZ cL cG) s) (hZ : cZw s) (hA : ∀ q, s.heap.size ≤ q → A q) (hP : va_P D vwCl (cW ad vd cI cZ cL cG S ++ X) H) (hD : va_D A (cW ad vd cI cZ cL cG S ++ X)) (hS : va_S A s.heap H locs) (hl : lv_has ls nL lv) (hG : GoodIn gw (va_wsS own idx y (bw y cy ny (some .long)))) (hd : y.cls ≠ "java/lang/invoke/MethodHandle" ∧ y.cls ≠ "java/lang/invoke/VarHandle" ∧ (parseMethodDescriptor y.desc).map (fun d => d.parameters.length) = some n) (hR : fr + 1 ≤ R.frames ∧ 8 + (ny + 11) + lo ≤ R.locals) (hav : av ad = As) (hn : As.length = n) (hst : st0 = As.reverse ++ rest) (hroom : (rest.map fun v => v.category).sum ≤ 8) (hdg : decode cc pc = .ok (.invokestatic idx, 3)) (hcl : cells + mc ≤ R.cells) (hsl : slots + ms ≤ R.slots) (kk : ∀ (r : Int64) (S1 : CS) (vd1 : Nat → Nat) (H1 : Heap) (locs1 : List Loc), va_P D vwCl (cW ad vd1 cI cZ cL cG S1 ++ X) H1 → va_D A (cW ad vd1 cI cZ cL cG S1 ++ X) → va_S A s.heap H1 locs1 → post r S1 → W p l e R s m args below meth c H1 locs1 (cells + mc) (slots + ms) Q (F0 m (pc + 3) ls (.long r :: rest))) : W p l e R s m args below meth c H locs cells slots Q (F0 m pc ls st0) := by
  subst hst
  have hFc : ∀ q, va_A (cW ad vd cI cZ cL cG S ++ X) H.size q → A q := by
    intro q hq
    rcases hq with ⟨k, e, h⟩ | h
    · exact hD.2 k _ h
    · exact hA q (Nat.le_trans hS.1 h)
  have hM := hM D ad vd cI cZ cL cG X H.size
  rw [hav] at hM
  refine va_calll (va_runS (As := As) (rest := rest) ⟨hx, hb, hml, hown, hts⟩ hM (va_cwS n hts hG rfl rfl rfl hd hR) ⟨fun a U g mk q => by obtain ⟨q0, q1, qP, qK, qD, qZ⟩ := q; exact ⟨q0, q1, qP, va_K.moved (u := U) (U := U.calling g mk a) (Vm.Alike.refl U.vm) qK, qD, qZ.same⟩, fun U hU hW => ⟨rfl, by rw [hU], by rw [hU]; exact hP, va_K.moved hW.alike hK, hD.weaken (fun _ _ _ _ => trivial), cZw.warm hW hZ⟩⟩ rfl hn hl.1 rfl (lv_room hroom) hdg ⟨hcl, hsl⟩) hS (fun q _ h => hFc q h) hFc (fun r S1 t H1 locs1 ht hvm hp hB hz1 hk1 hS => ?_)
  obtain ⟨vd1, hP1, hK1, hD1⟩ := hB
  rw [ht] at hP1
  exact kk r S1 vd1 H1 locs1 hP1 ⟨hD1.1, fun k q h => hFc _ (hD1.2 k q h)⟩ hS hp
set_option maxHeartbeats 4000000 in
theorem ccallSV {y : MethodName} {cy : ByteArray} {ny fr lo mc ms n idx : Nat} {As : List Value} {av : (Nat → Nat) → List Value} {post : CS → Prop} {lv : List (Nat × Value)} {st0 : List Value} (hM : cCtV l y cy ny fr lo mc ms av S post) (hx : p.tables.exec = Jvm.exec) (hb : c.code = cc) (hml : c.maxLocals = nL) (hown : s.vm.findClass own = some m.cls) (hts : ∀ w ∈ gw, w.before args s = true) (hK : va_K D vwCl (cTy cI cZ cL cG) s) (hZ : cZw s) (hA : ∀ q, s.heap.size ≤ q → A q) (hP : va_P D vwCl (cW ad vd cI cZ cL cG S ++ X) H) (hD : va_D A (cW ad vd cI cZ cL cG S ++ X)) (hS : va_S A s.heap H locs) (hl : lv_has ls nL lv) (hG : GoodIn gw (va_wsS own idx y (bw y cy ny (none)))) (hd : y.cls ≠ "java/lang/invoke/MethodHandle" ∧ y.cls ≠ "java/lang/invoke/VarHandle" ∧ (parseMethodDescriptor y.desc).map (fun d => d.parameters.length) = some n) (hR : fr + 1 ≤ R.frames ∧ 8 + (ny + 11) + lo ≤ R.locals) (hav : av ad = As) (hn : As.length = n) (hst : st0 = As.reverse ++ rest) (hroom : (rest.map fun v => v.category).sum ≤ 8) (hdg : decode cc pc = .ok (.invokestatic idx, 3)) (hcl : cells + mc ≤ R.cells) (hsl : slots + ms ≤ R.slots) (kk : ∀ (S1 : CS) (vd1 : Nat → Nat) (H1 : Heap) (locs1 : List Loc), va_P D vwCl (cW ad vd1 cI cZ cL cG S1 ++ X) H1 → va_D A (cW ad vd1 cI cZ cL cG S1 ++ X) → va_S A s.heap H1 locs1 → post S1 → W p l e R s m args below meth c H1 locs1 (cells + mc) (slots + ms) Q (F0 m (pc + 3) ls (rest))) : W p l e R s m args below meth c H locs cells slots Q (F0 m pc ls st0) := by
  subst hst
  have hFc : ∀ q, va_A (cW ad vd cI cZ cL cG S ++ X) H.size q → A q := by
    intro q hq
    rcases hq with ⟨k, e, h⟩ | h
    · exact hD.2 k _ h
    · exact hA q (Nat.le_trans hS.1 h)
  have hM := hM D ad vd cI cZ cL cG X H.size
  rw [hav] at hM
  refine va_callv (va_runS (As := As) (rest := rest) ⟨hx, hb, hml, hown, hts⟩ hM (va_cwS n hts hG rfl rfl rfl hd hR) ⟨fun a U g mk q => by obtain ⟨q0, q1, qP, qK, qD, qZ⟩ := q; exact ⟨q0, q1, qP, va_K.moved (u := U) (U := U.calling g mk a) (Vm.Alike.refl U.vm) qK, qD, qZ.same⟩, fun U hU hW => ⟨rfl, by rw [hU], by rw [hU]; exact hP, va_K.moved hW.alike hK, hD.weaken (fun _ _ _ _ => trivial), cZw.warm hW hZ⟩⟩ rfl hn hl.1 rfl (lv_room hroom) hdg ⟨hcl, hsl⟩) hS (fun q _ h => hFc q h) hFc (fun S1 t H1 locs1 ht hvm hp hB hz1 hk1 hS => ?_)
  obtain ⟨vd1, hP1, hK1, hD1⟩ := hB
  rw [ht] at hP1
  exact kk S1 vd1 H1 locs1 hP1 ⟨hD1.1, fun k q h => hFc _ (hD1.2 k q h)⟩ hS hp
set_option maxHeartbeats 4000000 in
theorem ccallSZ {y : MethodName} {cy : ByteArray} {ny fr lo mc ms n idx : Nat} {As : List Value} {av : (Nat → Nat) → List Value} {post : Bool → CS → Prop} {lv : List (Nat × Value)} {st0 : List Value} (hM : cCtZ l y cy ny fr lo mc ms av S post) (hx : p.tables.exec = Jvm.exec) (hb : c.code = cc) (hml : c.maxLocals = nL) (hown : s.vm.findClass own = some m.cls) (hts : ∀ w ∈ gw, w.before args s = true) (hK : va_K D vwCl (cTy cI cZ cL cG) s) (hZ : cZw s) (hA : ∀ q, s.heap.size ≤ q → A q) (hP : va_P D vwCl (cW ad vd cI cZ cL cG S ++ X) H) (hD : va_D A (cW ad vd cI cZ cL cG S ++ X)) (hS : va_S A s.heap H locs) (hl : lv_has ls nL lv) (hG : GoodIn gw (va_wsS own idx y (bw y cy ny (some .boolean)))) (hd : y.cls ≠ "java/lang/invoke/MethodHandle" ∧ y.cls ≠ "java/lang/invoke/VarHandle" ∧ (parseMethodDescriptor y.desc).map (fun d => d.parameters.length) = some n) (hR : fr + 1 ≤ R.frames ∧ 8 + (ny + 11) + lo ≤ R.locals) (hav : av ad = As) (hn : As.length = n) (hst : st0 = As.reverse ++ rest) (hroom : (rest.map fun v => v.category).sum ≤ 8) (hdg : decode cc pc = .ok (.invokestatic idx, 3)) (hcl : cells + mc ≤ R.cells) (hsl : slots + ms ≤ R.slots) (kk : ∀ (r : Bool) (S1 : CS) (vd1 : Nat → Nat) (H1 : Heap) (locs1 : List Loc), va_P D vwCl (cW ad vd1 cI cZ cL cG S1 ++ X) H1 → va_D A (cW ad vd1 cI cZ cL cG S1 ++ X) → va_S A s.heap H1 locs1 → post r S1 → W p l e R s m args below meth c H1 locs1 (cells + mc) (slots + ms) Q (F0 m (pc + 3) ls (.int (bI r) :: rest))) : W p l e R s m args below meth c H locs cells slots Q (F0 m pc ls st0) := by
  subst hst
  have hFc : ∀ q, va_A (cW ad vd cI cZ cL cG S ++ X) H.size q → A q := by
    intro q hq
    rcases hq with ⟨k, e, h⟩ | h
    · exact hD.2 k _ h
    · exact hA q (Nat.le_trans hS.1 h)
  have hM := hM D ad vd cI cZ cL cG X H.size
  rw [hav] at hM
  refine va_calli (va_runS (As := As) (rest := rest) ⟨hx, hb, hml, hown, hts⟩ hM (va_cwS n hts hG rfl rfl rfl hd hR) ⟨fun a U g mk q => by obtain ⟨q0, q1, qP, qK, qD, qZ⟩ := q; exact ⟨q0, q1, qP, va_K.moved (u := U) (U := U.calling g mk a) (Vm.Alike.refl U.vm) qK, qD, qZ.same⟩, fun U hU hW => ⟨rfl, by rw [hU], by rw [hU]; exact hP, va_K.moved hW.alike hK, hD.weaken (fun _ _ _ _ => trivial), cZw.warm hW hZ⟩⟩ rfl hn hl.1 rfl (lv_room hroom) hdg ⟨hcl, hsl⟩) hS (fun q _ h => hFc q h) hFc (fun r S1 t H1 locs1 ht hvm hp hB hz1 hk1 hS => ?_)
  obtain ⟨vd1, hP1, hK1, hD1⟩ := hB
  rw [ht] at hP1
  obtain ⟨b, rfl, hp⟩ := hp
  exact kk b S1 vd1 H1 locs1 hP1 ⟨hD1.1, fun k q h => hFc _ (hD1.2 k q h)⟩ hS hp
set_option maxHeartbeats 4000000 in
theorem ccallVIx {y : MethodName} {cy : ByteArray} {ny fr lo mc ms n idx : Nat} {nx : Nat} {fx : Nat → Int32} {qx : Nat} {C : String} {b : Nat} {As : List Value} {av : (Nat → Nat) → Nat → List Value} {post : Int32 → CS → Prop} {lv : List (Nat × Value)} {st0 : List Value} (hM : cCtIx l y cy ny fr lo mc ms nx fx av S post) (hx : p.tables.exec = Jvm.exec) (hb : c.code = cc) (hml : c.maxLocals = nL) (hown : s.vm.findClass own = some m.cls) (hts : ∀ w ∈ gw, w.before args s = true) (hK : va_K D vwCl (cTy cI cZ cL cG) s) (hZ : cZw s) (hA : ∀ q, s.heap.size ≤ q → A q) (hP : va_P D vwCl (cW ad vd cI cZ cL cG S ++ X) H) (hD : va_D A (cW ad vd cI cZ cL cG S ++ X)) (hS : va_S A s.heap H locs) (hl : lv_has ls nL lv) (hqx : cXt cI X qx nx fx) (hG : GoodIn gw (wsV own idx C y (bw y cy ny (some .int)))) (hd : y.cls = C ∧ y.cls ≠ "java/lang/invoke/MethodHandle" ∧ y.cls ≠ "java/lang/invoke/VarHandle" ∧ (parseMethodDescriptor y.desc).map (fun d => d.parameters.length) = some n) (hrc : ∃ cell : Cell, H[b]? = some cell ∧ cell.vm.isStatics = false ∧ s.vm.findClass C = some cell.cls) (hR : fr + 1 ≤ R.frames ∧ 8 + (ny + 11) + lo ≤ R.locals) (hav : av ad qx = .ref b :: As) (hn : As.length = n) (hst : st0 = As.reverse ++ .ref b :: rest) (hroom : (rest.map fun v => v.category).sum ≤ 8) (hdg : decode cc pc = .ok (.invokevirtual idx, 3)) (hcl : cells + mc ≤ R.cells) (hsl : slots + ms ≤ R.slots) (kk : ∀ (r : Int32) (S1 : CS) (vd1 : Nat → Nat) (H1 : Heap) (locs1 : List Loc), va_P D vwCl (cW ad vd1 cI cZ cL cG S1 ++ X) H1 → va_D A (cW ad vd1 cI cZ cL cG S1 ++ X) → va_S A s.heap H1 locs1 → post r S1 → W p l e R s m args below meth c H1 locs1 (cells + mc) (slots + ms) Q (F0 m (pc + 3) ls (.int r :: rest))) : W p l e R s m args below meth c H locs cells slots Q (F0 m pc ls st0) := by
  subst hst
  have hFc : ∀ q, va_A (cW ad vd cI cZ cL cG S ++ X) H.size q → A q := by
    intro q hq
    rcases hq with ⟨k, e, h⟩ | h
    · exact hD.2 k _ h
    · exact hA q (Nat.le_trans hS.1 h)
  have hM := hM D ad vd cI cZ cL cG X H.size qx hqx
  rw [hav] at hM
  refine va_calli (va_runV (As := As) (rest := rest) ⟨hx, hb, hml, hown, hts⟩ hM (cwV n hts hG rfl rfl rfl hd hR) ⟨fun a U g mk q => by obtain ⟨q0, q1, qP, qK, qD, qZ⟩ := q; exact ⟨q0, q1, qP, va_K.moved (u := U) (U := U.calling g mk a) (Vm.Alike.refl U.vm) qK, qD, qZ.same⟩, hrc, fun U hU hW => ⟨rfl, by rw [hU], by rw [hU]; exact hP, va_K.moved hW.alike hK, hD.weaken (fun _ _ _ _ => trivial), cZw.warm hW hZ⟩⟩ rfl hn hl.1 rfl (lv_room hroom) hdg ⟨hcl, hsl⟩) hS (fun q _ h => hFc q h) hFc (fun r S1 t H1 locs1 ht hvm hp hB hz1 hk1 hS => ?_)
  obtain ⟨vd1, hP1, hK1, hD1⟩ := hB
  rw [ht] at hP1
  exact kk r S1 vd1 H1 locs1 hP1 ⟨hD1.1, fun k q h => hFc _ (hD1.2 k q h)⟩ hS hp
set_option maxHeartbeats 4000000 in
theorem ccallVJx {y : MethodName} {cy : ByteArray} {ny fr lo mc ms n idx : Nat} {nx : Nat} {fx : Nat → Int32} {qx : Nat} {C : String} {b : Nat} {As : List Value} {av : (Nat → Nat) → Nat → List Value} {post : Int64 → CS → Prop} {lv : List (Nat × Value)} {st0 : List Value} (hM : cCtJx l y cy ny fr lo mc ms nx fx av S post) (hx : p.tables.exec = Jvm.exec) (hb : c.code = cc) (hml : c.maxLocals = nL) (hown : s.vm.findClass own = some m.cls) (hts : ∀ w ∈ gw, w.before args s = true) (hK : va_K D vwCl (cTy cI cZ cL cG) s) (hZ : cZw s) (hA : ∀ q, s.heap.size ≤ q → A q) (hP : va_P D vwCl (cW ad vd cI cZ cL cG S ++ X) H) (hD : va_D A (cW ad vd cI cZ cL cG S ++ X)) (hS : va_S A s.heap H locs) (hl : lv_has ls nL lv) (hqx : cXt cI X qx nx fx) (hG : GoodIn gw (wsV own idx C y (bw y cy ny (some .long)))) (hd : y.cls = C ∧ y.cls ≠ "java/lang/invoke/MethodHandle" ∧ y.cls ≠ "java/lang/invoke/VarHandle" ∧ (parseMethodDescriptor y.desc).map (fun d => d.parameters.length) = some n) (hrc : ∃ cell : Cell, H[b]? = some cell ∧ cell.vm.isStatics = false ∧ s.vm.findClass C = some cell.cls) (hR : fr + 1 ≤ R.frames ∧ 8 + (ny + 11) + lo ≤ R.locals) (hav : av ad qx = .ref b :: As) (hn : As.length = n) (hst : st0 = As.reverse ++ .ref b :: rest) (hroom : (rest.map fun v => v.category).sum ≤ 8) (hdg : decode cc pc = .ok (.invokevirtual idx, 3)) (hcl : cells + mc ≤ R.cells) (hsl : slots + ms ≤ R.slots) (kk : ∀ (r : Int64) (S1 : CS) (vd1 : Nat → Nat) (H1 : Heap) (locs1 : List Loc), va_P D vwCl (cW ad vd1 cI cZ cL cG S1 ++ X) H1 → va_D A (cW ad vd1 cI cZ cL cG S1 ++ X) → va_S A s.heap H1 locs1 → post r S1 → W p l e R s m args below meth c H1 locs1 (cells + mc) (slots + ms) Q (F0 m (pc + 3) ls (.long r :: rest))) : W p l e R s m args below meth c H locs cells slots Q (F0 m pc ls st0) := by
  subst hst
  have hFc : ∀ q, va_A (cW ad vd cI cZ cL cG S ++ X) H.size q → A q := by
    intro q hq
    rcases hq with ⟨k, e, h⟩ | h
    · exact hD.2 k _ h
    · exact hA q (Nat.le_trans hS.1 h)
  have hM := hM D ad vd cI cZ cL cG X H.size qx hqx
  rw [hav] at hM
  refine va_calll (va_runV (As := As) (rest := rest) ⟨hx, hb, hml, hown, hts⟩ hM (cwV n hts hG rfl rfl rfl hd hR) ⟨fun a U g mk q => by obtain ⟨q0, q1, qP, qK, qD, qZ⟩ := q; exact ⟨q0, q1, qP, va_K.moved (u := U) (U := U.calling g mk a) (Vm.Alike.refl U.vm) qK, qD, qZ.same⟩, hrc, fun U hU hW => ⟨rfl, by rw [hU], by rw [hU]; exact hP, va_K.moved hW.alike hK, hD.weaken (fun _ _ _ _ => trivial), cZw.warm hW hZ⟩⟩ rfl hn hl.1 rfl (lv_room hroom) hdg ⟨hcl, hsl⟩) hS (fun q _ h => hFc q h) hFc (fun r S1 t H1 locs1 ht hvm hp hB hz1 hk1 hS => ?_)
  obtain ⟨vd1, hP1, hK1, hD1⟩ := hB
  rw [ht] at hP1
  exact kk r S1 vd1 H1 locs1 hP1 ⟨hD1.1, fun k q h => hFc _ (hD1.2 k q h)⟩ hS hp
set_option maxHeartbeats 4000000 in
theorem ccallVVx {y : MethodName} {cy : ByteArray} {ny fr lo mc ms n idx : Nat} {nx : Nat} {fx : Nat → Int32} {qx : Nat} {C : String} {b : Nat} {As : List Value} {av : (Nat → Nat) → Nat → List Value} {post : CS → Prop} {lv : List (Nat × Value)} {st0 : List Value} (hM : cCtVx l y cy ny fr lo mc ms nx fx av S post) (hx : p.tables.exec = Jvm.exec) (hb : c.code = cc) (hml : c.maxLocals = nL) (hown : s.vm.findClass own = some m.cls) (hts : ∀ w ∈ gw, w.before args s = true) (hK : va_K D vwCl (cTy cI cZ cL cG) s) (hZ : cZw s) (hA : ∀ q, s.heap.size ≤ q → A q) (hP : va_P D vwCl (cW ad vd cI cZ cL cG S ++ X) H) (hD : va_D A (cW ad vd cI cZ cL cG S ++ X)) (hS : va_S A s.heap H locs) (hl : lv_has ls nL lv) (hqx : cXt cI X qx nx fx) (hG : GoodIn gw (wsV own idx C y (bw y cy ny (none)))) (hd : y.cls = C ∧ y.cls ≠ "java/lang/invoke/MethodHandle" ∧ y.cls ≠ "java/lang/invoke/VarHandle" ∧ (parseMethodDescriptor y.desc).map (fun d => d.parameters.length) = some n) (hrc : ∃ cell : Cell, H[b]? = some cell ∧ cell.vm.isStatics = false ∧ s.vm.findClass C = some cell.cls) (hR : fr + 1 ≤ R.frames ∧ 8 + (ny + 11) + lo ≤ R.locals) (hav : av ad qx = .ref b :: As) (hn : As.length = n) (hst : st0 = As.reverse ++ .ref b :: rest) (hroom : (rest.map fun v => v.category).sum ≤ 8) (hdg : decode cc pc = .ok (.invokevirtual idx, 3)) (hcl : cells + mc ≤ R.cells) (hsl : slots + ms ≤ R.slots) (kk : ∀ (S1 : CS) (vd1 : Nat → Nat) (H1 : Heap) (locs1 : List Loc), va_P D vwCl (cW ad vd1 cI cZ cL cG S1 ++ X) H1 → va_D A (cW ad vd1 cI cZ cL cG S1 ++ X) → va_S A s.heap H1 locs1 → post S1 → W p l e R s m args below meth c H1 locs1 (cells + mc) (slots + ms) Q (F0 m (pc + 3) ls (rest))) : W p l e R s m args below meth c H locs cells slots Q (F0 m pc ls st0) := by
  subst hst
  have hFc : ∀ q, va_A (cW ad vd cI cZ cL cG S ++ X) H.size q → A q := by
    intro q hq
    rcases hq with ⟨k, e, h⟩ | h
    · exact hD.2 k _ h
    · exact hA q (Nat.le_trans hS.1 h)
  have hM := hM D ad vd cI cZ cL cG X H.size qx hqx
  rw [hav] at hM
  refine va_callv (va_runV (As := As) (rest := rest) ⟨hx, hb, hml, hown, hts⟩ hM (cwV n hts hG rfl rfl rfl hd hR) ⟨fun a U g mk q => by obtain ⟨q0, q1, qP, qK, qD, qZ⟩ := q; exact ⟨q0, q1, qP, va_K.moved (u := U) (U := U.calling g mk a) (Vm.Alike.refl U.vm) qK, qD, qZ.same⟩, hrc, fun U hU hW => ⟨rfl, by rw [hU], by rw [hU]; exact hP, va_K.moved hW.alike hK, hD.weaken (fun _ _ _ _ => trivial), cZw.warm hW hZ⟩⟩ rfl hn hl.1 rfl (lv_room hroom) hdg ⟨hcl, hsl⟩) hS (fun q _ h => hFc q h) hFc (fun S1 t H1 locs1 ht hvm hp hB hz1 hk1 hS => ?_)
  obtain ⟨vd1, hP1, hK1, hD1⟩ := hB
  rw [ht] at hP1
  exact kk S1 vd1 H1 locs1 hP1 ⟨hD1.1, fun k q h => hFc _ (hD1.2 k q h)⟩ hS hp
set_option maxHeartbeats 4000000 in
theorem ccallVZx {y : MethodName} {cy : ByteArray} {ny fr lo mc ms n idx : Nat} {nx : Nat} {fx : Nat → Int32} {qx : Nat} {C : String} {b : Nat} {As : List Value} {av : (Nat → Nat) → Nat → List Value} {post : Bool → CS → Prop} {lv : List (Nat × Value)} {st0 : List Value} (hM : cCtZx l y cy ny fr lo mc ms nx fx av S post) (hx : p.tables.exec = Jvm.exec) (hb : c.code = cc) (hml : c.maxLocals = nL) (hown : s.vm.findClass own = some m.cls) (hts : ∀ w ∈ gw, w.before args s = true) (hK : va_K D vwCl (cTy cI cZ cL cG) s) (hZ : cZw s) (hA : ∀ q, s.heap.size ≤ q → A q) (hP : va_P D vwCl (cW ad vd cI cZ cL cG S ++ X) H) (hD : va_D A (cW ad vd cI cZ cL cG S ++ X)) (hS : va_S A s.heap H locs) (hl : lv_has ls nL lv) (hqx : cXt cI X qx nx fx) (hG : GoodIn gw (wsV own idx C y (bw y cy ny (some .boolean)))) (hd : y.cls = C ∧ y.cls ≠ "java/lang/invoke/MethodHandle" ∧ y.cls ≠ "java/lang/invoke/VarHandle" ∧ (parseMethodDescriptor y.desc).map (fun d => d.parameters.length) = some n) (hrc : ∃ cell : Cell, H[b]? = some cell ∧ cell.vm.isStatics = false ∧ s.vm.findClass C = some cell.cls) (hR : fr + 1 ≤ R.frames ∧ 8 + (ny + 11) + lo ≤ R.locals) (hav : av ad qx = .ref b :: As) (hn : As.length = n) (hst : st0 = As.reverse ++ .ref b :: rest) (hroom : (rest.map fun v => v.category).sum ≤ 8) (hdg : decode cc pc = .ok (.invokevirtual idx, 3)) (hcl : cells + mc ≤ R.cells) (hsl : slots + ms ≤ R.slots) (kk : ∀ (r : Bool) (S1 : CS) (vd1 : Nat → Nat) (H1 : Heap) (locs1 : List Loc), va_P D vwCl (cW ad vd1 cI cZ cL cG S1 ++ X) H1 → va_D A (cW ad vd1 cI cZ cL cG S1 ++ X) → va_S A s.heap H1 locs1 → post r S1 → W p l e R s m args below meth c H1 locs1 (cells + mc) (slots + ms) Q (F0 m (pc + 3) ls (.int (bI r) :: rest))) : W p l e R s m args below meth c H locs cells slots Q (F0 m pc ls st0) := by
  subst hst
  have hFc : ∀ q, va_A (cW ad vd cI cZ cL cG S ++ X) H.size q → A q := by
    intro q hq
    rcases hq with ⟨k, e, h⟩ | h
    · exact hD.2 k _ h
    · exact hA q (Nat.le_trans hS.1 h)
  have hM := hM D ad vd cI cZ cL cG X H.size qx hqx
  rw [hav] at hM
  refine va_calli (va_runV (As := As) (rest := rest) ⟨hx, hb, hml, hown, hts⟩ hM (cwV n hts hG rfl rfl rfl hd hR) ⟨fun a U g mk q => by obtain ⟨q0, q1, qP, qK, qD, qZ⟩ := q; exact ⟨q0, q1, qP, va_K.moved (u := U) (U := U.calling g mk a) (Vm.Alike.refl U.vm) qK, qD, qZ.same⟩, hrc, fun U hU hW => ⟨rfl, by rw [hU], by rw [hU]; exact hP, va_K.moved hW.alike hK, hD.weaken (fun _ _ _ _ => trivial), cZw.warm hW hZ⟩⟩ rfl hn hl.1 rfl (lv_room hroom) hdg ⟨hcl, hsl⟩) hS (fun q _ h => hFc q h) hFc (fun r S1 t H1 locs1 ht hvm hp hB hz1 hk1 hS => ?_)
  obtain ⟨vd1, hP1, hK1, hD1⟩ := hB
  rw [ht] at hP1
  obtain ⟨b, rfl, hp⟩ := hp
  exact kk b S1 vd1 H1 locs1 hP1 ⟨hD1.1, fun k q h => hFc _ (hD1.2 k q h)⟩ hS hp
set_option maxHeartbeats 4000000 in
theorem ccallSIx {y : MethodName} {cy : ByteArray} {ny fr lo mc ms n idx : Nat} {nx : Nat} {fx : Nat → Int32} {qx : Nat} {As : List Value} {av : (Nat → Nat) → Nat → List Value} {post : Int32 → CS → Prop} {lv : List (Nat × Value)} {st0 : List Value} (hM : cCtIx l y cy ny fr lo mc ms nx fx av S post) (hx : p.tables.exec = Jvm.exec) (hb : c.code = cc) (hml : c.maxLocals = nL) (hown : s.vm.findClass own = some m.cls) (hts : ∀ w ∈ gw, w.before args s = true) (hK : va_K D vwCl (cTy cI cZ cL cG) s) (hZ : cZw s) (hA : ∀ q, s.heap.size ≤ q → A q) (hP : va_P D vwCl (cW ad vd cI cZ cL cG S ++ X) H) (hD : va_D A (cW ad vd cI cZ cL cG S ++ X)) (hS : va_S A s.heap H locs) (hl : lv_has ls nL lv) (hqx : cXt cI X qx nx fx) (hG : GoodIn gw (va_wsS own idx y (bw y cy ny (some .int)))) (hd : y.cls ≠ "java/lang/invoke/MethodHandle" ∧ y.cls ≠ "java/lang/invoke/VarHandle" ∧ (parseMethodDescriptor y.desc).map (fun d => d.parameters.length) = some n) (hR : fr + 1 ≤ R.frames ∧ 8 + (ny + 11) + lo ≤ R.locals) (hav : av ad qx = As) (hn : As.length = n) (hst : st0 = As.reverse ++ rest) (hroom : (rest.map fun v => v.category).sum ≤ 8) (hdg : decode cc pc = .ok (.invokestatic idx, 3)) (hcl : cells + mc ≤ R.cells) (hsl : slots + ms ≤ R.slots) (kk : ∀ (r : Int32) (S1 : CS) (vd1 : Nat → Nat) (H1 : Heap) (locs1 : List Loc), va_P D vwCl (cW ad vd1 cI cZ cL cG S1 ++ X) H1 → va_D A (cW ad vd1 cI cZ cL cG S1 ++ X) → va_S A s.heap H1 locs1 → post r S1 → W p l e R s m args below meth c H1 locs1 (cells + mc) (slots + ms) Q (F0 m (pc + 3) ls (.int r :: rest))) : W p l e R s m args below meth c H locs cells slots Q (F0 m pc ls st0) := by
  subst hst
  have hFc : ∀ q, va_A (cW ad vd cI cZ cL cG S ++ X) H.size q → A q := by
    intro q hq
    rcases hq with ⟨k, e, h⟩ | h
    · exact hD.2 k _ h
    · exact hA q (Nat.le_trans hS.1 h)
  have hM := hM D ad vd cI cZ cL cG X H.size qx hqx
  rw [hav] at hM
  refine va_calli (va_runS (As := As) (rest := rest) ⟨hx, hb, hml, hown, hts⟩ hM (va_cwS n hts hG rfl rfl rfl hd hR) ⟨fun a U g mk q => by obtain ⟨q0, q1, qP, qK, qD, qZ⟩ := q; exact ⟨q0, q1, qP, va_K.moved (u := U) (U := U.calling g mk a) (Vm.Alike.refl U.vm) qK, qD, qZ.same⟩, fun U hU hW => ⟨rfl, by rw [hU], by rw [hU]; exact hP, va_K.moved hW.alike hK, hD.weaken (fun _ _ _ _ => trivial), cZw.warm hW hZ⟩⟩ rfl hn hl.1 rfl (lv_room hroom) hdg ⟨hcl, hsl⟩) hS (fun q _ h => hFc q h) hFc (fun r S1 t H1 locs1 ht hvm hp hB hz1 hk1 hS => ?_)
  obtain ⟨vd1, hP1, hK1, hD1⟩ := hB
  rw [ht] at hP1
  exact kk r S1 vd1 H1 locs1 hP1 ⟨hD1.1, fun k q h => hFc _ (hD1.2 k q h)⟩ hS hp
set_option maxHeartbeats 4000000 in
theorem ccallSJx {y : MethodName} {cy : ByteArray} {ny fr lo mc ms n idx : Nat} {nx : Nat} {fx : Nat → Int32} {qx : Nat} {As : List Value} {av : (Nat → Nat) → Nat → List Value} {post : Int64 → CS → Prop} {lv : List (Nat × Value)} {st0 : List Value} (hM : cCtJx l y cy ny fr lo mc ms nx fx av S post) (hx : p.tables.exec = Jvm.exec) (hb : c.code = cc) (hml : c.maxLocals = nL) (hown : s.vm.findClass own = some m.cls) (hts : ∀ w ∈ gw, w.before args s = true) (hK : va_K D vwCl (cTy cI cZ cL cG) s) (hZ : cZw s) (hA : ∀ q, s.heap.size ≤ q → A q) (hP : va_P D vwCl (cW ad vd cI cZ cL cG S ++ X) H) (hD : va_D A (cW ad vd cI cZ cL cG S ++ X)) (hS : va_S A s.heap H locs) (hl : lv_has ls nL lv) (hqx : cXt cI X qx nx fx) (hG : GoodIn gw (va_wsS own idx y (bw y cy ny (some .long)))) (hd : y.cls ≠ "java/lang/invoke/MethodHandle" ∧ y.cls ≠ "java/lang/invoke/VarHandle" ∧ (parseMethodDescriptor y.desc).map (fun d => d.parameters.length) = some n) (hR : fr + 1 ≤ R.frames ∧ 8 + (ny + 11) + lo ≤ R.locals) (hav : av ad qx = As) (hn : As.length = n) (hst : st0 = As.reverse ++ rest) (hroom : (rest.map fun v => v.category).sum ≤ 8) (hdg : decode cc pc = .ok (.invokestatic idx, 3)) (hcl : cells + mc ≤ R.cells) (hsl : slots + ms ≤ R.slots) (kk : ∀ (r : Int64) (S1 : CS) (vd1 : Nat → Nat) (H1 : Heap) (locs1 : List Loc), va_P D vwCl (cW ad vd1 cI cZ cL cG S1 ++ X) H1 → va_D A (cW ad vd1 cI cZ cL cG S1 ++ X) → va_S A s.heap H1 locs1 → post r S1 → W p l e R s m args below meth c H1 locs1 (cells + mc) (slots + ms) Q (F0 m (pc + 3) ls (.long r :: rest))) : W p l e R s m args below meth c H locs cells slots Q (F0 m pc ls st0) := by
  subst hst
  have hFc : ∀ q, va_A (cW ad vd cI cZ cL cG S ++ X) H.size q → A q := by
    intro q hq
    rcases hq with ⟨k, e, h⟩ | h
    · exact hD.2 k _ h
    · exact hA q (Nat.le_trans hS.1 h)
  have hM := hM D ad vd cI cZ cL cG X H.size qx hqx
  rw [hav] at hM
  refine va_calll (va_runS (As := As) (rest := rest) ⟨hx, hb, hml, hown, hts⟩ hM (va_cwS n hts hG rfl rfl rfl hd hR) ⟨fun a U g mk q => by obtain ⟨q0, q1, qP, qK, qD, qZ⟩ := q; exact ⟨q0, q1, qP, va_K.moved (u := U) (U := U.calling g mk a) (Vm.Alike.refl U.vm) qK, qD, qZ.same⟩, fun U hU hW => ⟨rfl, by rw [hU], by rw [hU]; exact hP, va_K.moved hW.alike hK, hD.weaken (fun _ _ _ _ => trivial), cZw.warm hW hZ⟩⟩ rfl hn hl.1 rfl (lv_room hroom) hdg ⟨hcl, hsl⟩) hS (fun q _ h => hFc q h) hFc (fun r S1 t H1 locs1 ht hvm hp hB hz1 hk1 hS => ?_)
  obtain ⟨vd1, hP1, hK1, hD1⟩ := hB
  rw [ht] at hP1
  exact kk r S1 vd1 H1 locs1 hP1 ⟨hD1.1, fun k q h => hFc _ (hD1.2 k q h)⟩ hS hp
set_option maxHeartbeats 4000000 in
theorem ccallSVx {y : MethodName} {cy : ByteArray} {ny fr lo mc ms n idx : Nat} {nx : Nat} {fx : Nat → Int32} {qx : Nat} {As : List Value} {av : (Nat → Nat) → Nat → List Value} {post : CS → Prop} {lv : List (Nat × Value)} {st0 : List Value} (hM : cCtVx l y cy ny fr lo mc ms nx fx av S post) (hx : p.tables.exec = Jvm.exec) (hb : c.code = cc) (hml : c.maxLocals = nL) (hown : s.vm.findClass own = some m.cls) (hts : ∀ w ∈ gw, w.before args s = true) (hK : va_K D vwCl (cTy cI cZ cL cG) s) (hZ : cZw s) (hA : ∀ q, s.heap.size ≤ q → A q) (hP : va_P D vwCl (cW ad vd cI cZ cL cG S ++ X) H) (hD : va_D A (cW ad vd cI cZ cL cG S ++ X)) (hS : va_S A s.heap H locs) (hl : lv_has ls nL lv) (hqx : cXt cI X qx nx fx) (hG : GoodIn gw (va_wsS own idx y (bw y cy ny (none)))) (hd : y.cls ≠ "java/lang/invoke/MethodHandle" ∧ y.cls ≠ "java/lang/invoke/VarHandle" ∧ (parseMethodDescriptor y.desc).map (fun d => d.parameters.length) = some n) (hR : fr + 1 ≤ R.frames ∧ 8 + (ny + 11) + lo ≤ R.locals) (hav : av ad qx = As) (hn : As.length = n) (hst : st0 = As.reverse ++ rest) (hroom : (rest.map fun v => v.category).sum ≤ 8) (hdg : decode cc pc = .ok (.invokestatic idx, 3)) (hcl : cells + mc ≤ R.cells) (hsl : slots + ms ≤ R.slots) (kk : ∀ (S1 : CS) (vd1 : Nat → Nat) (H1 : Heap) (locs1 : List Loc), va_P D vwCl (cW ad vd1 cI cZ cL cG S1 ++ X) H1 → va_D A (cW ad vd1 cI cZ cL cG S1 ++ X) → va_S A s.heap H1 locs1 → post S1 → W p l e R s m args below meth c H1 locs1 (cells + mc) (slots + ms) Q (F0 m (pc + 3) ls (rest))) : W p l e R s m args below meth c H locs cells slots Q (F0 m pc ls st0) := by
  subst hst
  have hFc : ∀ q, va_A (cW ad vd cI cZ cL cG S ++ X) H.size q → A q := by
    intro q hq
    rcases hq with ⟨k, e, h⟩ | h
    · exact hD.2 k _ h
    · exact hA q (Nat.le_trans hS.1 h)
  have hM := hM D ad vd cI cZ cL cG X H.size qx hqx
  rw [hav] at hM
  refine va_callv (va_runS (As := As) (rest := rest) ⟨hx, hb, hml, hown, hts⟩ hM (va_cwS n hts hG rfl rfl rfl hd hR) ⟨fun a U g mk q => by obtain ⟨q0, q1, qP, qK, qD, qZ⟩ := q; exact ⟨q0, q1, qP, va_K.moved (u := U) (U := U.calling g mk a) (Vm.Alike.refl U.vm) qK, qD, qZ.same⟩, fun U hU hW => ⟨rfl, by rw [hU], by rw [hU]; exact hP, va_K.moved hW.alike hK, hD.weaken (fun _ _ _ _ => trivial), cZw.warm hW hZ⟩⟩ rfl hn hl.1 rfl (lv_room hroom) hdg ⟨hcl, hsl⟩) hS (fun q _ h => hFc q h) hFc (fun S1 t H1 locs1 ht hvm hp hB hz1 hk1 hS => ?_)
  obtain ⟨vd1, hP1, hK1, hD1⟩ := hB
  rw [ht] at hP1
  exact kk S1 vd1 H1 locs1 hP1 ⟨hD1.1, fun k q h => hFc _ (hD1.2 k q h)⟩ hS hp
set_option maxHeartbeats 4000000 in
theorem ccallSZx {y : MethodName} {cy : ByteArray} {ny fr lo mc ms n idx : Nat} {nx : Nat} {fx : Nat → Int32} {qx : Nat} {As : List Value} {av : (Nat → Nat) → Nat → List Value} {post : Bool → CS → Prop} {lv : List (Nat × Value)} {st0 : List Value} (hM : cCtZx l y cy ny fr lo mc ms nx fx av S post) (hx : p.tables.exec = Jvm.exec) (hb : c.code = cc) (hml : c.maxLocals = nL) (hown : s.vm.findClass own = some m.cls) (hts : ∀ w ∈ gw, w.before args s = true) (hK : va_K D vwCl (cTy cI cZ cL cG) s) (hZ : cZw s) (hA : ∀ q, s.heap.size ≤ q → A q) (hP : va_P D vwCl (cW ad vd cI cZ cL cG S ++ X) H) (hD : va_D A (cW ad vd cI cZ cL cG S ++ X)) (hS : va_S A s.heap H locs) (hl : lv_has ls nL lv) (hqx : cXt cI X qx nx fx) (hG : GoodIn gw (va_wsS own idx y (bw y cy ny (some .boolean)))) (hd : y.cls ≠ "java/lang/invoke/MethodHandle" ∧ y.cls ≠ "java/lang/invoke/VarHandle" ∧ (parseMethodDescriptor y.desc).map (fun d => d.parameters.length) = some n) (hR : fr + 1 ≤ R.frames ∧ 8 + (ny + 11) + lo ≤ R.locals) (hav : av ad qx = As) (hn : As.length = n) (hst : st0 = As.reverse ++ rest) (hroom : (rest.map fun v => v.category).sum ≤ 8) (hdg : decode cc pc = .ok (.invokestatic idx, 3)) (hcl : cells + mc ≤ R.cells) (hsl : slots + ms ≤ R.slots) (kk : ∀ (r : Bool) (S1 : CS) (vd1 : Nat → Nat) (H1 : Heap) (locs1 : List Loc), va_P D vwCl (cW ad vd1 cI cZ cL cG S1 ++ X) H1 → va_D A (cW ad vd1 cI cZ cL cG S1 ++ X) → va_S A s.heap H1 locs1 → post r S1 → W p l e R s m args below meth c H1 locs1 (cells + mc) (slots + ms) Q (F0 m (pc + 3) ls (.int (bI r) :: rest))) : W p l e R s m args below meth c H locs cells slots Q (F0 m pc ls st0) := by
  subst hst
  have hFc : ∀ q, va_A (cW ad vd cI cZ cL cG S ++ X) H.size q → A q := by
    intro q hq
    rcases hq with ⟨k, e, h⟩ | h
    · exact hD.2 k _ h
    · exact hA q (Nat.le_trans hS.1 h)
  have hM := hM D ad vd cI cZ cL cG X H.size qx hqx
  rw [hav] at hM
  refine va_calli (va_runS (As := As) (rest := rest) ⟨hx, hb, hml, hown, hts⟩ hM (va_cwS n hts hG rfl rfl rfl hd hR) ⟨fun a U g mk q => by obtain ⟨q0, q1, qP, qK, qD, qZ⟩ := q; exact ⟨q0, q1, qP, va_K.moved (u := U) (U := U.calling g mk a) (Vm.Alike.refl U.vm) qK, qD, qZ.same⟩, fun U hU hW => ⟨rfl, by rw [hU], by rw [hU]; exact hP, va_K.moved hW.alike hK, hD.weaken (fun _ _ _ _ => trivial), cZw.warm hW hZ⟩⟩ rfl hn hl.1 rfl (lv_room hroom) hdg ⟨hcl, hsl⟩) hS (fun q _ h => hFc q h) hFc (fun r S1 t H1 locs1 ht hvm hp hB hz1 hk1 hS => ?_)
  obtain ⟨vd1, hP1, hK1, hD1⟩ := hB
  rw [ht] at hP1
  obtain ⟨b, rfl, hp⟩ := hp
  exact kk b S1 vd1 H1 locs1 hP1 ⟨hD1.1, fun k q h => hFc _ (hD1.2 k q h)⟩ hS hp
end CCalls
