theorem k_828 : (.fieldLink RX9 7 "DiscYardModel" "pegs" "I" : Cond) ∈ gw := List.mem_filter.mpr ⟨List.mem_of_getElem? (i := 828) (by decide +kernel), by decide +kernel⟩
theorem k_829 : (.fieldLink RX9 13 "DiscYardModel" "discs" "I" : Cond) ∈ gw := List.mem_filter.mpr ⟨List.mem_of_getElem? (i := 829) (by decide +kernel), by decide +kernel⟩
theorem k_830 : (.fieldLink RX9 136 "DiscYardModel" "trouble" "I" : Cond) ∈ gw := List.mem_filter.mpr ⟨List.mem_of_getElem? (i := 830) (by decide +kernel), by decide +kernel⟩
theorem k_831 : (.fieldLink RX9 133 "DiscYardModel" "thrown" "I" : Cond) ∈ gw := List.mem_filter.mpr ⟨List.mem_of_getElem? (i := 831) (by decide +kernel), by decide +kernel⟩
theorem k_832 : (.fieldLink RX9 16 "DiscYardModel" "kinds" "[I" : Cond) ∈ gw := List.mem_filter.mpr ⟨List.mem_of_getElem? (i := 832) (by decide +kernel), by decide +kernel⟩
theorem k_833 : (.fieldLink RX9 20 "DiscYardModel" "stand" "[I" : Cond) ∈ gw := List.mem_filter.mpr ⟨List.mem_of_getElem? (i := 833) (by decide +kernel), by decide +kernel⟩
theorem k_834 : (.fieldLink RX9 23 "DiscYardModel" "goal" "[I" : Cond) ∈ gw := List.mem_filter.mpr ⟨List.mem_of_getElem? (i := 834) (by decide +kernel), by decide +kernel⟩
theorem k_835 : (.fieldLink RX9 26 "DiscYardModel" "costs" "[I" : Cond) ∈ gw := List.mem_filter.mpr ⟨List.mem_of_getElem? (i := 835) (by decide +kernel), by decide +kernel⟩
theorem k_836 : (.fieldLink RX9 29 "DiscYardModel" "isStrong" "[Z" : Cond) ∈ gw := List.mem_filter.mpr ⟨List.mem_of_getElem? (i := 836) (by decide +kernel), by decide +kernel⟩
theorem k_837 : (.fieldLink RX9 33 "DiscYardModel" "past" "[I" : Cond) ∈ gw := List.mem_filter.mpr ⟨List.mem_of_getElem? (i := 837) (by decide +kernel), by decide +kernel⟩
theorem k_838 : (.fieldLink RX9 143 "DiscYardModel" "undos" "I" : Cond) ∈ gw := List.mem_filter.mpr ⟨List.mem_of_getElem? (i := 838) (by decide +kernel), by decide +kernel⟩
theorem k_839 : (.fieldLink RX9 146 "DiscYardModel" "redos" "I" : Cond) ∈ gw := List.mem_filter.mpr ⟨List.mem_of_getElem? (i := 839) (by decide +kernel), by decide +kernel⟩
theorem k_840 : (.fieldLink RX9 36 "DiscYardModel" "plan" "[I" : Cond) ∈ gw := List.mem_filter.mpr ⟨List.mem_of_getElem? (i := 840) (by decide +kernel), by decide +kernel⟩
theorem k_841 : (.fieldLink RX9 226 "DiscYardModel" "planned" "I" : Cond) ∈ gw := List.mem_filter.mpr ⟨List.mem_of_getElem? (i := 841) (by decide +kernel), by decide +kernel⟩
theorem k_842 : (.fieldLink RX9 39 "DiscYardModel" "at" "[I" : Cond) ∈ gw := List.mem_filter.mpr ⟨List.mem_of_getElem? (i := 842) (by decide +kernel), by decide +kernel⟩
theorem k_843 : (.fieldLink RX9 42 "DiscYardModel" "next" "[I" : Cond) ∈ gw := List.mem_filter.mpr ⟨List.mem_of_getElem? (i := 843) (by decide +kernel), by decide +kernel⟩
theorem k_844 : (.fieldLink RX9 45 "DiscYardModel" "far" "[I" : Cond) ∈ gw := List.mem_filter.mpr ⟨List.mem_of_getElem? (i := 844) (by decide +kernel), by decide +kernel⟩
theorem k_845 : (.fieldLink RX9 48 "DiscYardModel" "after" "[I" : Cond) ∈ gw := List.mem_filter.mpr ⟨List.mem_of_getElem? (i := 845) (by decide +kernel), by decide +kernel⟩
theorem k_846 : (.fieldLink RX9 51 "DiscYardModel" "before" "[I" : Cond) ∈ gw := List.mem_filter.mpr ⟨List.mem_of_getElem? (i := 846) (by decide +kernel), by decide +kernel⟩
theorem k_847 : (.fieldLink RX9 54 "DiscYardModel" "heads" "[I" : Cond) ∈ gw := List.mem_filter.mpr ⟨List.mem_of_getElem? (i := 847) (by decide +kernel), by decide +kernel⟩
theorem k_848 : (.fieldLink RX9 57 "DiscYardModel" "met" "[I" : Cond) ∈ gw := List.mem_filter.mpr ⟨List.mem_of_getElem? (i := 848) (by decide +kernel), by decide +kernel⟩
theorem k_849 : (.fieldLink RX9 200 "DiscYardModel" "metMany" "I" : Cond) ∈ gw := List.mem_filter.mpr ⟨List.mem_of_getElem? (i := 849) (by decide +kernel), by decide +kernel⟩
theorem k_850 : (.fieldLink RX9 60 "DiscYardModel" "many" "[J" : Cond) ∈ gw := List.mem_filter.mpr ⟨List.mem_of_getElem? (i := 850) (by decide +kernel), by decide +kernel⟩
theorem k_851 : (.fieldLink RX9 64 "DiscYardModel" "isGood" "[Z" : Cond) ∈ gw := List.mem_filter.mpr ⟨List.mem_of_getElem? (i := 851) (by decide +kernel), by decide +kernel⟩
theorem k_852 : (.fieldLink RX9 67 "DiscYardModel" "isDone" "[Z" : Cond) ∈ gw := List.mem_filter.mpr ⟨List.mem_of_getElem? (i := 852) (by decide +kernel), by decide +kernel⟩
theorem k_853 : (.fieldLink RX9 70 "DiscYardModel" "order" "[I" : Cond) ∈ gw := List.mem_filter.mpr ⟨List.mem_of_getElem? (i := 853) (by decide +kernel), by decide +kernel⟩
theorem k_854 : (.fieldLink RX9 73 "DiscYardModel" "lowest" "[I" : Cond) ∈ gw := List.mem_filter.mpr ⟨List.mem_of_getElem? (i := 854) (by decide +kernel), by decide +kernel⟩
theorem k_855 : (.fieldLink RX9 76 "DiscYardModel" "set" "[I" : Cond) ∈ gw := List.mem_filter.mpr ⟨List.mem_of_getElem? (i := 855) (by decide +kernel), by decide +kernel⟩
theorem k_856 : (.fieldLink RX9 79 "DiscYardModel" "walk" "[I" : Cond) ∈ gw := List.mem_filter.mpr ⟨List.mem_of_getElem? (i := 856) (by decide +kernel), by decide +kernel⟩
theorem k_857 : (.fieldLink RX9 82 "DiscYardModel" "pile" "[I" : Cond) ∈ gw := List.mem_filter.mpr ⟨List.mem_of_getElem? (i := 857) (by decide +kernel), by decide +kernel⟩
theorem k_858 : (.fieldLink RX9 85 "DiscYardModel" "move" "[I" : Cond) ∈ gw := List.mem_filter.mpr ⟨List.mem_of_getElem? (i := 858) (by decide +kernel), by decide +kernel⟩
theorem k_859 : (.fieldLink RX9 88 "DiscYardModel" "setSize" "[I" : Cond) ∈ gw := List.mem_filter.mpr ⟨List.mem_of_getElem? (i := 859) (by decide +kernel), by decide +kernel⟩
theorem k_860 : (.fieldLink RX9 91 "DiscYardModel" "leaves" "[Z" : Cond) ∈ gw := List.mem_filter.mpr ⟨List.mem_of_getElem? (i := 860) (by decide +kernel), by decide +kernel⟩
theorem k_861 : (.fieldLink RX9 229 "DiscYardModel" "sets" "I" : Cond) ∈ gw := List.mem_filter.mpr ⟨List.mem_of_getElem? (i := 861) (by decide +kernel), by decide +kernel⟩
theorem k_862 : (.fieldLink RX9 94 "DiscYardModel" "names" "[I" : Cond) ∈ gw := List.mem_filter.mpr ⟨List.mem_of_getElem? (i := 862) (by decide +kernel), by decide +kernel⟩
theorem k_863 : (.fieldLink RX9 97 "DiscYardModel" "spareCosts" "[I" : Cond) ∈ gw := List.mem_filter.mpr ⟨List.mem_of_getElem? (i := 863) (by decide +kernel), by decide +kernel⟩
theorem k_864 : (.fieldLink RX9 100 "DiscYardModel" "spareStrong" "[Z" : Cond) ∈ gw := List.mem_filter.mpr ⟨List.mem_of_getElem? (i := 864) (by decide +kernel), by decide +kernel⟩
theorem k_865 : (.fieldLink RX9 103 "DiscYardModel" "stepMany" "[I" : Cond) ∈ gw := List.mem_filter.mpr ⟨List.mem_of_getElem? (i := 865) (by decide +kernel), by decide +kernel⟩
theorem k_866 : (.fieldLink RX9 106 "DiscYardModel" "stepOf" "[I" : Cond) ∈ gw := List.mem_filter.mpr ⟨List.mem_of_getElem? (i := 866) (by decide +kernel), by decide +kernel⟩
theorem k_867 : (.fieldLink RX9 109 "DiscYardModel" "stepLess" "[I" : Cond) ∈ gw := List.mem_filter.mpr ⟨List.mem_of_getElem? (i := 867) (by decide +kernel), by decide +kernel⟩
theorem k_868 : (.fieldLink RX9 112 "DiscYardModel" "stepRoles" "[I" : Cond) ∈ gw := List.mem_filter.mpr ⟨List.mem_of_getElem? (i := 868) (by decide +kernel), by decide +kernel⟩
theorem k_869 : (.fieldLink RX9 239 "DiscYardModel" "schemes" "I" : Cond) ∈ gw := List.mem_filter.mpr ⟨List.mem_of_getElem? (i := 869) (by decide +kernel), by decide +kernel⟩
theorem k_870 : (.fieldLink RX9 115 "DiscYardModel" "counts" "[J" : Cond) ∈ gw := List.mem_filter.mpr ⟨List.mem_of_getElem? (i := 870) (by decide +kernel), by decide +kernel⟩
theorem k_871 : (.fieldLink RX9 118 "DiscYardModel" "openScheme" "[I" : Cond) ∈ gw := List.mem_filter.mpr ⟨List.mem_of_getElem? (i := 871) (by decide +kernel), by decide +kernel⟩
theorem k_872 : (.fieldLink RX9 121 "DiscYardModel" "openHeight" "[I" : Cond) ∈ gw := List.mem_filter.mpr ⟨List.mem_of_getElem? (i := 872) (by decide +kernel), by decide +kernel⟩
theorem k_873 : (.fieldLink RX9 124 "DiscYardModel" "openStep" "[I" : Cond) ∈ gw := List.mem_filter.mpr ⟨List.mem_of_getElem? (i := 873) (by decide +kernel), by decide +kernel⟩
theorem k_874 : (.fieldLink RX9 127 "DiscYardModel" "openPegs" "[I" : Cond) ∈ gw := List.mem_filter.mpr ⟨List.mem_of_getElem? (i := 874) (by decide +kernel), by decide +kernel⟩
theorem k_875 : (.fieldLink RX9 130 "DiscYardModel" "failedMove" "I" : Cond) ∈ gw := List.mem_filter.mpr ⟨List.mem_of_getElem? (i := 875) (by decide +kernel), by decide +kernel⟩
theorem k_1101 : (.constant RX9 199 2147483647 : Cond) ∈ gw := List.mem_filter.mpr ⟨List.mem_of_getElem? (i := 1101) (by decide +kernel), by decide +kernel⟩
theorem k_1182 : (.constantLong RX9 245 1000000000000000000 : Cond) ∈ gw := List.mem_filter.mpr ⟨List.mem_of_getElem? (i := 1182) (by decide +kernel), by decide +kernel⟩
theorem sw_cases0_7 {x : Int32} (h : ¬ (x.toInt < 0 ∨ 7 < x.toInt)) : x = 0 ∨ x = 1 ∨ x = 2 ∨ x = 3 ∨ x = 4 ∨ x = 5 ∨ x = 6 ∨ x = 7 := by
  have h1 : x.toInt = 0 ∨ x.toInt = 1 ∨ x.toInt = 2 ∨ x.toInt = 3 ∨ x.toInt = 4 ∨ x.toInt = 5 ∨ x.toInt = 6 ∨ x.toInt = 7 := by omega
  rcases h1 with h1 | h1 | h1 | h1 | h1 | h1 | h1 | h1
  · exact Or.inl (Int32.toInt_inj.mp (by rw [h1]; rfl))
  · exact Or.inr (Or.inl (Int32.toInt_inj.mp (by rw [h1]; rfl)))
  · exact Or.inr (Or.inr (Or.inl (Int32.toInt_inj.mp (by rw [h1]; rfl))))
  · exact Or.inr (Or.inr (Or.inr (Or.inl (Int32.toInt_inj.mp (by rw [h1]; rfl)))))
  · exact Or.inr (Or.inr (Or.inr (Or.inr (Or.inl (Int32.toInt_inj.mp (by rw [h1]; rfl))))))
  · exact Or.inr (Or.inr (Or.inr (Or.inr (Or.inr (Or.inl (Int32.toInt_inj.mp (by rw [h1]; rfl)))))))
  · exact Or.inr (Or.inr (Or.inr (Or.inr (Or.inr (Or.inr (Or.inl (Int32.toInt_inj.mp (by rw [h1]; rfl))))))))
  · exact Or.inr (Or.inr (Or.inr (Or.inr (Or.inr (Or.inr (Or.inr (Int32.toInt_inj.mp (by rw [h1]; rfl))))))))
abbrev bw (y : MethodName) (cc : ByteArray) (n : Nat) (r : Option FieldType) : List Cond := .code y cc n r :: gw
abbrev mB (D : va_G) (ad : Nat → Nat) (cI cZ cL : ClassId) (sz : Nat) (S : MS) (U : State) : Prop := U.heap.size = sz ∧ va_P D vwCl (mW ad cI cZ cL S) U.heap ∧ va_K D vwCl (mTy cI cZ cL) U ∧ va_D (fun _ => True) (mW ad cI cZ cL S)
abbrev mE (D : va_G) (ad : Nat → Nat) (cI cZ cL : ClassId) (A : Nat → Prop) (S : MS) (t : State) : Prop := va_P D vwCl (mW ad cI cZ cL S) t.heap ∧ va_K D vwCl (mTy cI cZ cL) t ∧ va_D A (mW ad cI cZ cL S)
abbrev mrm (fr lo : Nat) : Room := { frames := fr, cells := 0, slots := 0, locals := lo }
def mCtI (l : Launch) (y : MethodName) (cy : ByteArray) (ny fr lo : Nat) (av : (Nat → Nat) → List Value) (S : MS) (post : Int32 → MS → Prop) : Prop := ∀ (D : va_G) (ad : Nat → Nat) (cI cZ cL : ClassId) (sz : Nat), Met l y (bw y cy ny (some .int)) (mrm fr lo) (va_Pc (.ref (ad 0) :: av ad) (mB D ad cI cZ cL sz S)) (va_Qi post (mE D ad cI cZ cL (va_A (mW ad cI cZ cL S) sz)) (va_A (mW ad cI cZ cL S) sz)) 0 0 (va_A (mW ad cI cZ cL S) sz)
def mCtJ (l : Launch) (y : MethodName) (cy : ByteArray) (ny fr lo : Nat) (av : (Nat → Nat) → List Value) (S : MS) (post : Int64 → MS → Prop) : Prop := ∀ (D : va_G) (ad : Nat → Nat) (cI cZ cL : ClassId) (sz : Nat), Met l y (bw y cy ny (some .long)) (mrm fr lo) (va_Pc (.ref (ad 0) :: av ad) (mB D ad cI cZ cL sz S)) (va_Ql post (mE D ad cI cZ cL (va_A (mW ad cI cZ cL S) sz)) (va_A (mW ad cI cZ cL S) sz)) 0 0 (va_A (mW ad cI cZ cL S) sz)
def mCtV (l : Launch) (y : MethodName) (cy : ByteArray) (ny fr lo : Nat) (av : (Nat → Nat) → List Value) (S : MS) (post : MS → Prop) : Prop := ∀ (D : va_G) (ad : Nat → Nat) (cI cZ cL : ClassId) (sz : Nat), Met l y (bw y cy ny (none)) (mrm fr lo) (va_Pc (.ref (ad 0) :: av ad) (mB D ad cI cZ cL sz S)) (va_Qv post (mE D ad cI cZ cL (va_A (mW ad cI cZ cL S) sz)) (va_A (mW ad cI cZ cL S) sz)) 0 0 (va_A (mW ad cI cZ cL S) sz)
def mCtZ (l : Launch) (y : MethodName) (cy : ByteArray) (ny fr lo : Nat) (av : (Nat → Nat) → List Value) (S : MS) (post : Bool → MS → Prop) : Prop := ∀ (D : va_G) (ad : Nat → Nat) (cI cZ cL : ClassId) (sz : Nat), Met l y (bw y cy ny (some .boolean)) (mrm fr lo) (va_Pc (.ref (ad 0) :: av ad) (mB D ad cI cZ cL sz S)) (va_Qi (fun r S1 => ∃ b : Bool, r = bI b ∧ post b S1) (mE D ad cI cZ cL (va_A (mW ad cI cZ cL S) sz)) (va_A (mW ad cI cZ cL S) sz)) 0 0 (va_A (mW ad cI cZ cL S) sz)
set_option maxHeartbeats 4000000 in
theorem msetI {l : Launch} {y : MethodName} {cy : ByteArray} {ny fr lo : Nat} {av : (Nat → Nat) → List Value} {S0 : MS} {post : Int32 → MS → Prop} (hy : plainName y.cls = true) (hav : ∀ ad : Nat → Nat, (lg_sl (.ref (ad 0) :: av ad)).length ≤ ny) (body : ∀ (p : Program) (e : Env) (s : State) (m : MethodId) (args : Array Value) (below : List Frame) (meth : Method) (c : Code) (D : va_G) (ad : Nat → Nat) (cI cZ cL : ClassId) (A : Nat → Prop) (Q : State → Prop), p.tables.exec = Jvm.exec → c.code = cy → c.maxLocals = ny → s.vm.findClass y.cls = some m.cls → (∀ w ∈ gw, w.before args s = true) → va_K D vwCl (mTy cI cZ cL) s → (∀ q, s.heap.size ≤ q → A q) → (∀ (r : Int32) (S1 : MS) (H : Heap) (locs : List Loc) (ls : Array Slot) (pc : Nat), va_P D vwCl (mW ad cI cZ cL S1) H → va_D A (mW ad cI cZ cL S1) → va_S A s.heap H locs → post r S1 → decode cy pc = .ok (.ireturn, 1) → W p l e (mrm fr lo) s m args below meth c H locs 0 0 Q (F0 m pc ls [.int r])) → ∀ (H : Heap) (locs : List Loc) (ls : Array Slot), va_P D vwCl (mW ad cI cZ cL S0) H → va_D A (mW ad cI cZ cL S0) → va_S A s.heap H locs → lv_has ls ny (lv_args 0 (.ref (ad 0) :: av ad)) → W p l e (mrm fr lo) s m args below meth c H locs 0 0 Q (F0 m 0 ls [])) : mCtI l y cy ny fr lo av S0 post := by
  intro D ad cI cZ cL sz
  refine Met.ofW (cc := cy) (maxL := ny) (ret := some .int) hy rfl ?_
  intro p e s m args below meth c s₁ B hml hv
  obtain ⟨rfl, hsz, hP, hK, hD0⟩ := hv
  have hts := atoms_spec (ws := bw y cy ny (some .int)) B.pre
  have hown := findClass_of_methodNamed B.named
  subst hsz
  have hD := hD0.self (sz := s.heap.size)
  generalize hAe : va_A (mW ad cI cZ cL S0) s.heap.size = A at hD ⊢
  have hA : ∀ q : Nat, s.heap.size ≤ q → A q := fun q h => by rw [← hAe]; exact Or.inr h
  have hl := lv_entry (.ref (ad 0) :: av ad) (n := ny) (hav ad)
  rw [lg_entry_eq]
  generalize (lg_sl (.ref (ad 0) :: av ad) ++ List.replicate (ny - (lg_sl (.ref (ad 0) :: av ad)).length) Slot.unset).toArray = ls at hl ⊢
  refine body p e s m _ below meth c D ad cI cZ cL A _ B.exec B.bytes hml hown (fun w h => hts w (List.mem_cons_of_mem _ h)) hK hA ?_ s.heap [] ls hP hD va_S.rf hl
  intro r S1 H locs ls pc hP hD hS hp hdg
  exact W.iret (v := r) B.exec B.bytes B.returns (fun t ht hW => ⟨⟨r, S1, rfl, hp, by rw [ht]; exact hP, va_K.moved hW.alike hK, hD⟩, hS.F ht⟩) hS.2.2 hdg
set_option maxHeartbeats 4000000 in
theorem msetJ {l : Launch} {y : MethodName} {cy : ByteArray} {ny fr lo : Nat} {av : (Nat → Nat) → List Value} {S0 : MS} {post : Int64 → MS → Prop} (hy : plainName y.cls = true) (hav : ∀ ad : Nat → Nat, (lg_sl (.ref (ad 0) :: av ad)).length ≤ ny) (body : ∀ (p : Program) (e : Env) (s : State) (m : MethodId) (args : Array Value) (below : List Frame) (meth : Method) (c : Code) (D : va_G) (ad : Nat → Nat) (cI cZ cL : ClassId) (A : Nat → Prop) (Q : State → Prop), p.tables.exec = Jvm.exec → c.code = cy → c.maxLocals = ny → s.vm.findClass y.cls = some m.cls → (∀ w ∈ gw, w.before args s = true) → va_K D vwCl (mTy cI cZ cL) s → (∀ q, s.heap.size ≤ q → A q) → (∀ (r : Int64) (S1 : MS) (H : Heap) (locs : List Loc) (ls : Array Slot) (pc : Nat), va_P D vwCl (mW ad cI cZ cL S1) H → va_D A (mW ad cI cZ cL S1) → va_S A s.heap H locs → post r S1 → decode cy pc = .ok (.lreturn, 1) → W p l e (mrm fr lo) s m args below meth c H locs 0 0 Q (F0 m pc ls [.long r])) → ∀ (H : Heap) (locs : List Loc) (ls : Array Slot), va_P D vwCl (mW ad cI cZ cL S0) H → va_D A (mW ad cI cZ cL S0) → va_S A s.heap H locs → lv_has ls ny (lv_args 0 (.ref (ad 0) :: av ad)) → W p l e (mrm fr lo) s m args below meth c H locs 0 0 Q (F0 m 0 ls [])) : mCtJ l y cy ny fr lo av S0 post := by
  intro D ad cI cZ cL sz
  refine Met.ofW (cc := cy) (maxL := ny) (ret := some .long) hy rfl ?_
  intro p e s m args below meth c s₁ B hml hv
  obtain ⟨rfl, hsz, hP, hK, hD0⟩ := hv
  have hts := atoms_spec (ws := bw y cy ny (some .long)) B.pre
  have hown := findClass_of_methodNamed B.named
  subst hsz
  have hD := hD0.self (sz := s.heap.size)
  generalize hAe : va_A (mW ad cI cZ cL S0) s.heap.size = A at hD ⊢
  have hA : ∀ q : Nat, s.heap.size ≤ q → A q := fun q h => by rw [← hAe]; exact Or.inr h
  have hl := lv_entry (.ref (ad 0) :: av ad) (n := ny) (hav ad)
  rw [lg_entry_eq]
  generalize (lg_sl (.ref (ad 0) :: av ad) ++ List.replicate (ny - (lg_sl (.ref (ad 0) :: av ad)).length) Slot.unset).toArray = ls at hl ⊢
  refine body p e s m _ below meth c D ad cI cZ cL A _ B.exec B.bytes hml hown (fun w h => hts w (List.mem_cons_of_mem _ h)) hK hA ?_ s.heap [] ls hP hD va_S.rf hl
  intro r S1 H locs ls pc hP hD hS hp hdg
  exact W.lret (v := r) B.exec B.bytes B.returns (fun t ht hW => ⟨⟨r, S1, rfl, hp, by rw [ht]; exact hP, va_K.moved hW.alike hK, hD⟩, hS.F ht⟩) hS.2.2 hdg
set_option maxHeartbeats 4000000 in
theorem msetV {l : Launch} {y : MethodName} {cy : ByteArray} {ny fr lo : Nat} {av : (Nat → Nat) → List Value} {S0 : MS} {post : MS → Prop} (hy : plainName y.cls = true) (hav : ∀ ad : Nat → Nat, (lg_sl (.ref (ad 0) :: av ad)).length ≤ ny) (body : ∀ (p : Program) (e : Env) (s : State) (m : MethodId) (args : Array Value) (below : List Frame) (meth : Method) (c : Code) (D : va_G) (ad : Nat → Nat) (cI cZ cL : ClassId) (A : Nat → Prop) (Q : State → Prop), p.tables.exec = Jvm.exec → c.code = cy → c.maxLocals = ny → s.vm.findClass y.cls = some m.cls → (∀ w ∈ gw, w.before args s = true) → va_K D vwCl (mTy cI cZ cL) s → (∀ q, s.heap.size ≤ q → A q) → (∀ (S1 : MS) (H : Heap) (locs : List Loc) (ls : Array Slot) (pc : Nat), va_P D vwCl (mW ad cI cZ cL S1) H → va_D A (mW ad cI cZ cL S1) → va_S A s.heap H locs → post S1 → decode cy pc = .ok (.return_, 1) → W p l e (mrm fr lo) s m args below meth c H locs 0 0 Q (F0 m pc ls [])) → ∀ (H : Heap) (locs : List Loc) (ls : Array Slot), va_P D vwCl (mW ad cI cZ cL S0) H → va_D A (mW ad cI cZ cL S0) → va_S A s.heap H locs → lv_has ls ny (lv_args 0 (.ref (ad 0) :: av ad)) → W p l e (mrm fr lo) s m args below meth c H locs 0 0 Q (F0 m 0 ls [])) : mCtV l y cy ny fr lo av S0 post := by
  intro D ad cI cZ cL sz
  refine Met.ofW (cc := cy) (maxL := ny) (ret := none) hy rfl ?_
  intro p e s m args below meth c s₁ B hml hv
  obtain ⟨rfl, hsz, hP, hK, hD0⟩ := hv
  have hts := atoms_spec (ws := bw y cy ny (none)) B.pre
  have hown := findClass_of_methodNamed B.named
  subst hsz
  have hD := hD0.self (sz := s.heap.size)
  generalize hAe : va_A (mW ad cI cZ cL S0) s.heap.size = A at hD ⊢
  have hA : ∀ q : Nat, s.heap.size ≤ q → A q := fun q h => by rw [← hAe]; exact Or.inr h
  have hl := lv_entry (.ref (ad 0) :: av ad) (n := ny) (hav ad)
  rw [lg_entry_eq]
  generalize (lg_sl (.ref (ad 0) :: av ad) ++ List.replicate (ny - (lg_sl (.ref (ad 0) :: av ad)).length) Slot.unset).toArray = ls at hl ⊢
  refine body p e s m _ below meth c D ad cI cZ cL A _ B.exec B.bytes hml hown (fun w h => hts w (List.mem_cons_of_mem _ h)) hK hA ?_ s.heap [] ls hP hD va_S.rf hl
  intro S1 H locs ls pc hP hD hS hp hdg
  exact W.vret B.exec B.bytes B.returns (fun t ht hW => ⟨⟨S1, rfl, hp, by rw [ht]; exact hP, va_K.moved hW.alike hK, hD⟩, hS.F ht⟩) hS.2.2 hdg
set_option maxHeartbeats 4000000 in
theorem msetZ {l : Launch} {y : MethodName} {cy : ByteArray} {ny fr lo : Nat} {av : (Nat → Nat) → List Value} {S0 : MS} {post : Bool → MS → Prop} (hy : plainName y.cls = true) (hav : ∀ ad : Nat → Nat, (lg_sl (.ref (ad 0) :: av ad)).length ≤ ny) (body : ∀ (p : Program) (e : Env) (s : State) (m : MethodId) (args : Array Value) (below : List Frame) (meth : Method) (c : Code) (D : va_G) (ad : Nat → Nat) (cI cZ cL : ClassId) (A : Nat → Prop) (Q : State → Prop), p.tables.exec = Jvm.exec → c.code = cy → c.maxLocals = ny → s.vm.findClass y.cls = some m.cls → (∀ w ∈ gw, w.before args s = true) → va_K D vwCl (mTy cI cZ cL) s → (∀ q, s.heap.size ≤ q → A q) → (∀ (r : Bool) (S1 : MS) (H : Heap) (locs : List Loc) (ls : Array Slot) (pc : Nat), va_P D vwCl (mW ad cI cZ cL S1) H → va_D A (mW ad cI cZ cL S1) → va_S A s.heap H locs → post r S1 → decode cy pc = .ok (.ireturn, 1) → W p l e (mrm fr lo) s m args below meth c H locs 0 0 Q (F0 m pc ls [.int (bI r)])) → ∀ (H : Heap) (locs : List Loc) (ls : Array Slot), va_P D vwCl (mW ad cI cZ cL S0) H → va_D A (mW ad cI cZ cL S0) → va_S A s.heap H locs → lv_has ls ny (lv_args 0 (.ref (ad 0) :: av ad)) → W p l e (mrm fr lo) s m args below meth c H locs 0 0 Q (F0 m 0 ls [])) : mCtZ l y cy ny fr lo av S0 post := by
  intro D ad cI cZ cL sz
  refine Met.ofW (cc := cy) (maxL := ny) (ret := some .boolean) hy rfl ?_
  intro p e s m args below meth c s₁ B hml hv
  obtain ⟨rfl, hsz, hP, hK, hD0⟩ := hv
  have hts := atoms_spec (ws := bw y cy ny (some .boolean)) B.pre
  have hown := findClass_of_methodNamed B.named
  subst hsz
  have hD := hD0.self (sz := s.heap.size)
  generalize hAe : va_A (mW ad cI cZ cL S0) s.heap.size = A at hD ⊢
  have hA : ∀ q : Nat, s.heap.size ≤ q → A q := fun q h => by rw [← hAe]; exact Or.inr h
  have hl := lv_entry (.ref (ad 0) :: av ad) (n := ny) (hav ad)
  rw [lg_entry_eq]
  generalize (lg_sl (.ref (ad 0) :: av ad) ++ List.replicate (ny - (lg_sl (.ref (ad 0) :: av ad)).length) Slot.unset).toArray = ls at hl ⊢
  refine body p e s m _ below meth c D ad cI cZ cL A _ B.exec B.bytes hml hown (fun w h => hts w (List.mem_cons_of_mem _ h)) hK hA ?_ s.heap [] ls hP hD va_S.rf hl
  intro r S1 H locs ls pc hP hD hS hp hdg
  exact W.zret (v := bI r) B.exec B.bytes B.returns (bI_nar r) (fun t ht hW => ⟨⟨bI r, S1, rfl, ⟨r, rfl, hp⟩, by rw [ht]; exact hP, va_K.moved hW.alike hK, hD⟩, hS.F ht⟩) hS.2.2 hdg
section MCalls
variable {p : Program} {l : Launch} {e : Env} {R : Room} {s : State} {m : MethodId} {args : Array Value} {below : List Frame} {meth : Method} {c : Code} {H : Heap} {locs : List Loc} {cells slots : Nat} {Q : State → Prop} {cc : ByteArray} {pc nL : Nat} {ls : Array Slot} {rest : List Value} {D : va_G} {A : Nat → Prop} {ad : Nat → Nat} {cI cZ cL : ClassId} {S : MS} {own : String}
set_option maxHeartbeats 4000000 in
theorem mcallI {y : MethodName} {cy : ByteArray} {ny fr lo n idx : Nat} {av : (Nat → Nat) → List Value} {post : Int32 → MS → Prop} {lv : List (Nat × Value)} {st0 : List Value} (hM : mCtI l y cy ny fr lo av S post) (hx : p.tables.exec = Jvm.exec) (hb : c.code = cc) (hml : c.maxLocals = nL) (hown : s.vm.findClass own = some m.cls) (hts : ∀ w ∈ gw, w.before args s = true) (hK : va_K D vwCl (mTy cI cZ cL) s) (hA : ∀ q, s.heap.size ≤ q → A q) (hP : va_P D vwCl (mW ad cI cZ cL S) H) (hD : va_D A (mW ad cI cZ cL S)) (hS : va_S A s.heap H locs) (hl : lv_has ls nL lv) (hG : GoodIn gw (wsV own idx RX9 y (bw y cy ny (some .int)))) (hd : y.cls = RX9 ∧ y.cls ≠ "java/lang/invoke/MethodHandle" ∧ y.cls ≠ "java/lang/invoke/VarHandle" ∧ (parseMethodDescriptor y.desc).map (fun d => d.parameters.length) = some n) (hR : fr + 1 ≤ R.frames ∧ 8 + (ny + 11) + lo ≤ R.locals) (hn : (av ad).length = n) (hst : st0 = (av ad).reverse ++ .ref (ad 0) :: rest) (hroom : (rest.map fun v => v.category).sum ≤ 8) (hdg : decode cc pc = .ok (.invokevirtual idx, 3)) (hcl : cells ≤ R.cells) (hsl : slots ≤ R.slots) (kk : ∀ (r : Int32) (S1 : MS) (H1 : Heap) (locs1 : List Loc), va_P D vwCl (mW ad cI cZ cL S1) H1 → va_D A (mW ad cI cZ cL S1) → va_S A s.heap H1 locs1 → post r S1 → W p l e R s m args below meth c H1 locs1 cells slots Q (F0 m (pc + 3) ls (.int r :: rest))) : W p l e R s m args below meth c H locs cells slots Q (F0 m pc ls st0) := by
  subst hst
  have hFc : ∀ q, va_A (mW ad cI cZ cL S) H.size q → A q := by
    intro q hq
    rcases hq with ⟨k, e, h⟩ | h
    · exact hD.2 k _ h
    · exact hA q (Nat.le_trans hS.1 h)
  refine va_calli (va_runV (As := av ad) (rest := rest) ⟨hx, hb, hml, hown, hts⟩ (hM D ad cI cZ cL H.size) (cwV n hts hG rfl rfl rfl hd hR) ⟨fun a U g mk q => by obtain ⟨q0, q1, qP, qK, qD⟩ := q; exact ⟨q0, q1, qP, va_K.moved (u := U) (U := U.calling g mk a) (Vm.Alike.refl U.vm) qK, qD⟩, va_recv hK hP (ci := 9) (q0 := 0) rfl rfl, fun U hU hW => ⟨rfl, by rw [hU], by rw [hU]; exact hP, va_K.moved hW.alike hK, hD.weaken (fun _ _ _ _ => trivial)⟩⟩ rfl hn hl.1 rfl (lv_room hroom) hdg ⟨hcl, hsl⟩) hS (fun q _ h => hFc q h) hFc (fun r S1 t H1 locs1 ht hvm hp hB hz1 hk1 hS => ?_)
  obtain ⟨hP1, hK1, hD1⟩ := hB
  rw [ht] at hP1
  exact kk r S1 H1 locs1 hP1 ⟨hD1.1, fun k q h => hFc _ (hD1.2 k q h)⟩ hS hp
set_option maxHeartbeats 4000000 in
theorem mcallJ {y : MethodName} {cy : ByteArray} {ny fr lo n idx : Nat} {av : (Nat → Nat) → List Value} {post : Int64 → MS → Prop} {lv : List (Nat × Value)} {st0 : List Value} (hM : mCtJ l y cy ny fr lo av S post) (hx : p.tables.exec = Jvm.exec) (hb : c.code = cc) (hml : c.maxLocals = nL) (hown : s.vm.findClass own = some m.cls) (hts : ∀ w ∈ gw, w.before args s = true) (hK : va_K D vwCl (mTy cI cZ cL) s) (hA : ∀ q, s.heap.size ≤ q → A q) (hP : va_P D vwCl (mW ad cI cZ cL S) H) (hD : va_D A (mW ad cI cZ cL S)) (hS : va_S A s.heap H locs) (hl : lv_has ls nL lv) (hG : GoodIn gw (wsV own idx RX9 y (bw y cy ny (some .long)))) (hd : y.cls = RX9 ∧ y.cls ≠ "java/lang/invoke/MethodHandle" ∧ y.cls ≠ "java/lang/invoke/VarHandle" ∧ (parseMethodDescriptor y.desc).map (fun d => d.parameters.length) = some n) (hR : fr + 1 ≤ R.frames ∧ 8 + (ny + 11) + lo ≤ R.locals) (hn : (av ad).length = n) (hst : st0 = (av ad).reverse ++ .ref (ad 0) :: rest) (hroom : (rest.map fun v => v.category).sum ≤ 8) (hdg : decode cc pc = .ok (.invokevirtual idx, 3)) (hcl : cells ≤ R.cells) (hsl : slots ≤ R.slots) (kk : ∀ (r : Int64) (S1 : MS) (H1 : Heap) (locs1 : List Loc), va_P D vwCl (mW ad cI cZ cL S1) H1 → va_D A (mW ad cI cZ cL S1) → va_S A s.heap H1 locs1 → post r S1 → W p l e R s m args below meth c H1 locs1 cells slots Q (F0 m (pc + 3) ls (.long r :: rest))) : W p l e R s m args below meth c H locs cells slots Q (F0 m pc ls st0) := by
  subst hst
  have hFc : ∀ q, va_A (mW ad cI cZ cL S) H.size q → A q := by
    intro q hq
    rcases hq with ⟨k, e, h⟩ | h
    · exact hD.2 k _ h
    · exact hA q (Nat.le_trans hS.1 h)
  refine va_calll (va_runV (As := av ad) (rest := rest) ⟨hx, hb, hml, hown, hts⟩ (hM D ad cI cZ cL H.size) (cwV n hts hG rfl rfl rfl hd hR) ⟨fun a U g mk q => by obtain ⟨q0, q1, qP, qK, qD⟩ := q; exact ⟨q0, q1, qP, va_K.moved (u := U) (U := U.calling g mk a) (Vm.Alike.refl U.vm) qK, qD⟩, va_recv hK hP (ci := 9) (q0 := 0) rfl rfl, fun U hU hW => ⟨rfl, by rw [hU], by rw [hU]; exact hP, va_K.moved hW.alike hK, hD.weaken (fun _ _ _ _ => trivial)⟩⟩ rfl hn hl.1 rfl (lv_room hroom) hdg ⟨hcl, hsl⟩) hS (fun q _ h => hFc q h) hFc (fun r S1 t H1 locs1 ht hvm hp hB hz1 hk1 hS => ?_)
  obtain ⟨hP1, hK1, hD1⟩ := hB
  rw [ht] at hP1
  exact kk r S1 H1 locs1 hP1 ⟨hD1.1, fun k q h => hFc _ (hD1.2 k q h)⟩ hS hp
set_option maxHeartbeats 4000000 in
theorem mcallV {y : MethodName} {cy : ByteArray} {ny fr lo n idx : Nat} {av : (Nat → Nat) → List Value} {post : MS → Prop} {lv : List (Nat × Value)} {st0 : List Value} (hM : mCtV l y cy ny fr lo av S post) (hx : p.tables.exec = Jvm.exec) (hb : c.code = cc) (hml : c.maxLocals = nL) (hown : s.vm.findClass own = some m.cls) (hts : ∀ w ∈ gw, w.before args s = true) (hK : va_K D vwCl (mTy cI cZ cL) s) (hA : ∀ q, s.heap.size ≤ q → A q) (hP : va_P D vwCl (mW ad cI cZ cL S) H) (hD : va_D A (mW ad cI cZ cL S)) (hS : va_S A s.heap H locs) (hl : lv_has ls nL lv) (hG : GoodIn gw (wsV own idx RX9 y (bw y cy ny (none)))) (hd : y.cls = RX9 ∧ y.cls ≠ "java/lang/invoke/MethodHandle" ∧ y.cls ≠ "java/lang/invoke/VarHandle" ∧ (parseMethodDescriptor y.desc).map (fun d => d.parameters.length) = some n) (hR : fr + 1 ≤ R.frames ∧ 8 + (ny + 11) + lo ≤ R.locals) (hn : (av ad).length = n) (hst : st0 = (av ad).reverse ++ .ref (ad 0) :: rest) (hroom : (rest.map fun v => v.category).sum ≤ 8) (hdg : decode cc pc = .ok (.invokevirtual idx, 3)) (hcl : cells ≤ R.cells) (hsl : slots ≤ R.slots) (kk : ∀ (S1 : MS) (H1 : Heap) (locs1 : List Loc), va_P D vwCl (mW ad cI cZ cL S1) H1 → va_D A (mW ad cI cZ cL S1) → va_S A s.heap H1 locs1 → post S1 → W p l e R s m args below meth c H1 locs1 cells slots Q (F0 m (pc + 3) ls (rest))) : W p l e R s m args below meth c H locs cells slots Q (F0 m pc ls st0) := by
  subst hst
  have hFc : ∀ q, va_A (mW ad cI cZ cL S) H.size q → A q := by
    intro q hq
    rcases hq with ⟨k, e, h⟩ | h
    · exact hD.2 k _ h
    · exact hA q (Nat.le_trans hS.1 h)
  refine va_callv (va_runV (As := av ad) (rest := rest) ⟨hx, hb, hml, hown, hts⟩ (hM D ad cI cZ cL H.size) (cwV n hts hG rfl rfl rfl hd hR) ⟨fun a U g mk q => by obtain ⟨q0, q1, qP, qK, qD⟩ := q; exact ⟨q0, q1, qP, va_K.moved (u := U) (U := U.calling g mk a) (Vm.Alike.refl U.vm) qK, qD⟩, va_recv hK hP (ci := 9) (q0 := 0) rfl rfl, fun U hU hW => ⟨rfl, by rw [hU], by rw [hU]; exact hP, va_K.moved hW.alike hK, hD.weaken (fun _ _ _ _ => trivial)⟩⟩ rfl hn hl.1 rfl (lv_room hroom) hdg ⟨hcl, hsl⟩) hS (fun q _ h => hFc q h) hFc (fun S1 t H1 locs1 ht hvm hp hB hz1 hk1 hS => ?_)
  obtain ⟨hP1, hK1, hD1⟩ := hB
  rw [ht] at hP1
  exact kk S1 H1 locs1 hP1 ⟨hD1.1, fun k q h => hFc _ (hD1.2 k q h)⟩ hS hp
set_option maxHeartbeats 4000000 in
theorem mcallZ {y : MethodName} {cy : ByteArray} {ny fr lo n idx : Nat} {av : (Nat → Nat) → List Value} {post : Bool → MS → Prop} {lv : List (Nat × Value)} {st0 : List Value} (hM : mCtZ l y cy ny fr lo av S post) (hx : p.tables.exec = Jvm.exec) (hb : c.code = cc) (hml : c.maxLocals = nL) (hown : s.vm.findClass own = some m.cls) (hts : ∀ w ∈ gw, w.before args s = true) (hK : va_K D vwCl (mTy cI cZ cL) s) (hA : ∀ q, s.heap.size ≤ q → A q) (hP : va_P D vwCl (mW ad cI cZ cL S) H) (hD : va_D A (mW ad cI cZ cL S)) (hS : va_S A s.heap H locs) (hl : lv_has ls nL lv) (hG : GoodIn gw (wsV own idx RX9 y (bw y cy ny (some .boolean)))) (hd : y.cls = RX9 ∧ y.cls ≠ "java/lang/invoke/MethodHandle" ∧ y.cls ≠ "java/lang/invoke/VarHandle" ∧ (parseMethodDescriptor y.desc).map (fun d => d.parameters.length) = some n) (hR : fr + 1 ≤ R.frames ∧ 8 + (ny + 11) + lo ≤ R.locals) (hn : (av ad).length = n) (hst : st0 = (av ad).reverse ++ .ref (ad 0) :: rest) (hroom : (rest.map fun v => v.category).sum ≤ 8) (hdg : decode cc pc = .ok (.invokevirtual idx, 3)) (hcl : cells ≤ R.cells) (hsl : slots ≤ R.slots) (kk : ∀ (r : Bool) (S1 : MS) (H1 : Heap) (locs1 : List Loc), va_P D vwCl (mW ad cI cZ cL S1) H1 → va_D A (mW ad cI cZ cL S1) → va_S A s.heap H1 locs1 → post r S1 → W p l e R s m args below meth c H1 locs1 cells slots Q (F0 m (pc + 3) ls (.int (bI r) :: rest))) : W p l e R s m args below meth c H locs cells slots Q (F0 m pc ls st0) := by
  subst hst
  have hFc : ∀ q, va_A (mW ad cI cZ cL S) H.size q → A q := by
    intro q hq
    rcases hq with ⟨k, e, h⟩ | h
    · exact hD.2 k _ h
    · exact hA q (Nat.le_trans hS.1 h)
  refine va_calli (va_runV (As := av ad) (rest := rest) ⟨hx, hb, hml, hown, hts⟩ (hM D ad cI cZ cL H.size) (cwV n hts hG rfl rfl rfl hd hR) ⟨fun a U g mk q => by obtain ⟨q0, q1, qP, qK, qD⟩ := q; exact ⟨q0, q1, qP, va_K.moved (u := U) (U := U.calling g mk a) (Vm.Alike.refl U.vm) qK, qD⟩, va_recv hK hP (ci := 9) (q0 := 0) rfl rfl, fun U hU hW => ⟨rfl, by rw [hU], by rw [hU]; exact hP, va_K.moved hW.alike hK, hD.weaken (fun _ _ _ _ => trivial)⟩⟩ rfl hn hl.1 rfl (lv_room hroom) hdg ⟨hcl, hsl⟩) hS (fun q _ h => hFc q h) hFc (fun r S1 t H1 locs1 ht hvm hp hB hz1 hk1 hS => ?_)
  obtain ⟨hP1, hK1, hD1⟩ := hB
  rw [ht] at hP1
  obtain ⟨b, rfl, hp⟩ := hp
  exact kk b S1 H1 locs1 hP1 ⟨hD1.1, fun k q h => hFc _ (hD1.2 k q h)⟩ hS hp
end MCalls
theorem bw_good {own C : String} {idx ny : Nat} {y : MethodName} {cy : ByteArray} {r : Option FieldType} (h1 : Cond.methodLink own idx y ∈ lw_tbl) (h2 : Cond.instanceMethod y ∈ lw_tbl) (h3 : Cond.selects C y y ∈ lw_tbl) (h4 : Cond.initialized C ∈ lw_tbl) (h5 : Cond.code y cy ny r ∈ lw_tbl) : GoodIn gw (wsV own idx C y (bw y cy ny r)) := by
  intro w hw
  have hm : w ∈ gw := by
    rcases List.mem_append.mp hw with h | h
    · rcases List.mem_cons.mp h with rfl | h
      · exact List.mem_filter.mpr ⟨h1, rfl⟩
      rcases List.mem_cons.mp h with rfl | h
      · exact List.mem_filter.mpr ⟨h2, rfl⟩
      rcases List.mem_cons.mp h with rfl | h
      · exact List.mem_filter.mpr ⟨h3, rfl⟩
      rcases List.mem_cons.mp h with rfl | h
      · exact List.mem_filter.mpr ⟨h4, rfl⟩
      · cases h
    · rcases List.mem_cons.mp h with rfl | h
      · exact List.mem_filter.mpr ⟨h5, rfl⟩
      · exact h
  exact ⟨hm, good_of_word (List.mem_filter.mp hm).2⟩
theorem hd_X9_in : yX9_in.cls = RX9 ∧ yX9_in.cls ≠ "java/lang/invoke/MethodHandle" ∧ yX9_in.cls ≠ "java/lang/invoke/VarHandle" ∧ (parseMethodDescriptor yX9_in.desc).map (fun d => d.parameters.length) = some 3 := by decide +kernel
set_option maxRecDepth 100000 in
theorem gg_139 : GoodIn gw (wsV RX9 139 RX9 yX9_in (bw yX9_in cX9_in 4 (some .boolean))) := bw_good (List.mem_of_getElem? (i := 977) (by decide +kernel)) (List.mem_of_getElem? (i := 979) (by decide +kernel)) (List.mem_of_getElem? (i := 26) (by decide +kernel)) (List.mem_of_getElem? (i := 60) (by decide +kernel)) (List.mem_of_getElem? (i := 980) rfl)
theorem hd_X9_below : yX9_below.cls = RX9 ∧ yX9_below.cls ≠ "java/lang/invoke/MethodHandle" ∧ yX9_below.cls ≠ "java/lang/invoke/VarHandle" ∧ (parseMethodDescriptor yX9_below.desc).map (fun d => d.parameters.length) = some 2 := by decide +kernel
set_option maxRecDepth 100000 in
theorem gg_149 : GoodIn gw (wsV RX9 149 RX9 yX9_below (bw yX9_below cX9_below 4 (some .int))) := bw_good (List.mem_of_getElem? (i := 997) (by decide +kernel)) (List.mem_of_getElem? (i := 999) (by decide +kernel)) (List.mem_of_getElem? (i := 30) (by decide +kernel)) (List.mem_of_getElem? (i := 60) (by decide +kernel)) (List.mem_of_getElem? (i := 1000) rfl)
theorem hd_X9_top : yX9_top.cls = RX9 ∧ yX9_top.cls ≠ "java/lang/invoke/MethodHandle" ∧ yX9_top.cls ≠ "java/lang/invoke/VarHandle" ∧ (parseMethodDescriptor yX9_top.desc).map (fun d => d.parameters.length) = some 2 := by decide +kernel
set_option maxRecDepth 100000 in
theorem gg_153 : GoodIn gw (wsV RX9 153 RX9 yX9_top (bw yX9_top cX9_top 4 (some .int))) := bw_good (List.mem_of_getElem? (i := 1057) (by decide +kernel)) (List.mem_of_getElem? (i := 1059) (by decide +kernel)) (List.mem_of_getElem? (i := 37) (by decide +kernel)) (List.mem_of_getElem? (i := 60) (by decide +kernel)) (List.mem_of_getElem? (i := 1060) rfl)
theorem hd_X9_packOf : yX9_packOf.cls = RX9 ∧ yX9_packOf.cls ≠ "java/lang/invoke/MethodHandle" ∧ yX9_packOf.cls ≠ "java/lang/invoke/VarHandle" ∧ (parseMethodDescriptor yX9_packOf.desc).map (fun d => d.parameters.length) = some 2 := by decide +kernel
set_option maxRecDepth 100000 in
theorem gg_156 : GoodIn gw (wsV RX9 156 RX9 yX9_packOf (bw yX9_packOf cX9_packOf 4 (some .int))) := bw_good (List.mem_of_getElem? (i := 1061) (by decide +kernel)) (List.mem_of_getElem? (i := 1063) (by decide +kernel)) (List.mem_of_getElem? (i := 38) (by decide +kernel)) (List.mem_of_getElem? (i := 60) (by decide +kernel)) (List.mem_of_getElem? (i := 1064) rfl)
theorem hd_X9_not : yX9_not.cls = RX9 ∧ yX9_not.cls ≠ "java/lang/invoke/MethodHandle" ∧ yX9_not.cls ≠ "java/lang/invoke/VarHandle" ∧ (parseMethodDescriptor yX9_not.desc).map (fun d => d.parameters.length) = some 1 := by decide +kernel
set_option maxRecDepth 100000 in
theorem gg_159 : GoodIn gw (wsV RX9 159 RX9 yX9_not (bw yX9_not cX9_not 2 (some .boolean))) := bw_good (List.mem_of_getElem? (i := 981) (by decide +kernel)) (List.mem_of_getElem? (i := 983) (by decide +kernel)) (List.mem_of_getElem? (i := 27) (by decide +kernel)) (List.mem_of_getElem? (i := 60) (by decide +kernel)) (List.mem_of_getElem? (i := 984) rfl)
theorem hd_X9_nothingUndone : yX9_nothingUndone.cls = RX9 ∧ yX9_nothingUndone.cls ≠ "java/lang/invoke/MethodHandle" ∧ yX9_nothingUndone.cls ≠ "java/lang/invoke/VarHandle" ∧ (parseMethodDescriptor yX9_nothingUndone.desc).map (fun d => d.parameters.length) = some 0 := by decide +kernel
set_option maxRecDepth 100000 in
theorem gg_163 : GoodIn gw (wsV RX9 163 RX9 yX9_nothingUndone (bw yX9_nothingUndone cX9_nothingUndone 1 none)) := bw_good (List.mem_of_getElem? (i := 985) (by decide +kernel)) (List.mem_of_getElem? (i := 987) (by decide +kernel)) (List.mem_of_getElem? (i := 28) (by decide +kernel)) (List.mem_of_getElem? (i := 60) (by decide +kernel)) (List.mem_of_getElem? (i := 988) rfl)
theorem hd_X9_isRight : yX9_isRight.cls = RX9 ∧ yX9_isRight.cls ≠ "java/lang/invoke/MethodHandle" ∧ yX9_isRight.cls ≠ "java/lang/invoke/VarHandle" ∧ (parseMethodDescriptor yX9_isRight.desc).map (fun d => d.parameters.length) = some 1 := by decide +kernel
set_option maxRecDepth 100000 in
theorem gg_166 : GoodIn gw (wsV RX9 166 RX9 yX9_isRight (bw yX9_isRight cX9_isRight 4 (some .boolean))) := bw_good (List.mem_of_getElem? (i := 993) (by decide +kernel)) (List.mem_of_getElem? (i := 995) (by decide +kernel)) (List.mem_of_getElem? (i := 29) (by decide +kernel)) (List.mem_of_getElem? (i := 60) (by decide +kernel)) (List.mem_of_getElem? (i := 996) rfl)
theorem hd_X9_isPeg : yX9_isPeg.cls = RX9 ∧ yX9_isPeg.cls ≠ "java/lang/invoke/MethodHandle" ∧ yX9_isPeg.cls ≠ "java/lang/invoke/VarHandle" ∧ (parseMethodDescriptor yX9_isPeg.desc).map (fun d => d.parameters.length) = some 1 := by decide +kernel
set_option maxRecDepth 100000 in
theorem gg_170 : GoodIn gw (wsV RX9 170 RX9 yX9_isPeg (bw yX9_isPeg cX9_isPeg 2 (some .boolean))) := bw_good (List.mem_of_getElem? (i := 1005) (by decide +kernel)) (List.mem_of_getElem? (i := 1007) (by decide +kernel)) (List.mem_of_getElem? (i := 31) (by decide +kernel)) (List.mem_of_getElem? (i := 60) (by decide +kernel)) (List.mem_of_getElem? (i := 1008) rfl)
theorem hd_X9_lanesThere : yX9_lanesThere.cls = RX9 ∧ yX9_lanesThere.cls ≠ "java/lang/invoke/MethodHandle" ∧ yX9_lanesThere.cls ≠ "java/lang/invoke/VarHandle" ∧ (parseMethodDescriptor yX9_lanesThere.desc).map (fun d => d.parameters.length) = some 0 := by decide +kernel
set_option maxRecDepth 100000 in
theorem gg_173 : GoodIn gw (wsV RX9 173 RX9 yX9_lanesThere (bw yX9_lanesThere cX9_lanesThere 3 (some .int))) := bw_good (List.mem_of_getElem? (i := 1013) (by decide +kernel)) (List.mem_of_getElem? (i := 1015) (by decide +kernel)) (List.mem_of_getElem? (i := 32) (by decide +kernel)) (List.mem_of_getElem? (i := 60) (by decide +kernel)) (List.mem_of_getElem? (i := 1016) rfl)
theorem hd_X9_stands : yX9_stands.cls = RX9 ∧ yX9_stands.cls ≠ "java/lang/invoke/MethodHandle" ∧ yX9_stands.cls ≠ "java/lang/invoke/VarHandle" ∧ (parseMethodDescriptor yX9_stands.desc).map (fun d => d.parameters.length) = some 0 := by decide +kernel
set_option maxRecDepth 100000 in
theorem gg_177 : GoodIn gw (wsV RX9 177 RX9 yX9_stands (bw yX9_stands cX9_stands 3 (some .int))) := bw_good (List.mem_of_getElem? (i := 1025) (by decide +kernel)) (List.mem_of_getElem? (i := 1027) (by decide +kernel)) (List.mem_of_getElem? (i := 33) (by decide +kernel)) (List.mem_of_getElem? (i := 60) (by decide +kernel)) (List.mem_of_getElem? (i := 1028) rfl)
theorem hd_X9_unpack : yX9_unpack.cls = RX9 ∧ yX9_unpack.cls ≠ "java/lang/invoke/MethodHandle" ∧ yX9_unpack.cls ≠ "java/lang/invoke/VarHandle" ∧ (parseMethodDescriptor yX9_unpack.desc).map (fun d => d.parameters.length) = some 2 := by decide +kernel
set_option maxRecDepth 100000 in
theorem gg_180 : GoodIn gw (wsV RX9 180 RX9 yX9_unpack (bw yX9_unpack cX9_unpack 5 none)) := bw_good (List.mem_of_getElem? (i := 1029) (by decide +kernel)) (List.mem_of_getElem? (i := 1031) (by decide +kernel)) (List.mem_of_getElem? (i := 34) (by decide +kernel)) (List.mem_of_getElem? (i := 60) (by decide +kernel)) (List.mem_of_getElem? (i := 1032) rfl)
theorem hd_X9_pack : yX9_pack.cls = RX9 ∧ yX9_pack.cls ≠ "java/lang/invoke/MethodHandle" ∧ yX9_pack.cls ≠ "java/lang/invoke/VarHandle" ∧ (parseMethodDescriptor yX9_pack.desc).map (fun d => d.parameters.length) = some 1 := by decide +kernel
set_option maxRecDepth 100000 in
theorem gg_184 : GoodIn gw (wsV RX9 184 RX9 yX9_pack (bw yX9_pack cX9_pack 4 (some .int))) := bw_good (List.mem_of_getElem? (i := 1037) (by decide +kernel)) (List.mem_of_getElem? (i := 1039) (by decide +kernel)) (List.mem_of_getElem? (i := 35) (by decide +kernel)) (List.mem_of_getElem? (i := 60) (by decide +kernel)) (List.mem_of_getElem? (i := 1040) rfl)
theorem hd_X9_whyOf : yX9_whyOf.cls = RX9 ∧ yX9_whyOf.cls ≠ "java/lang/invoke/MethodHandle" ∧ yX9_whyOf.cls ≠ "java/lang/invoke/VarHandle" ∧ (parseMethodDescriptor yX9_whyOf.desc).map (fun d => d.parameters.length) = some 3 := by decide +kernel
set_option maxRecDepth 100000 in
theorem gg_188 : GoodIn gw (wsV RX9 188 RX9 yX9_whyOf (bw yX9_whyOf cX9_whyOf 7 (some .int))) := bw_good (List.mem_of_getElem? (i := 1053) (by decide +kernel)) (List.mem_of_getElem? (i := 1055) (by decide +kernel)) (List.mem_of_getElem? (i := 36) (by decide +kernel)) (List.mem_of_getElem? (i := 60) (by decide +kernel)) (List.mem_of_getElem? (i := 1056) rfl)
theorem hd_X9_no : yX9_no.cls = RX9 ∧ yX9_no.cls ≠ "java/lang/invoke/MethodHandle" ∧ yX9_no.cls ≠ "java/lang/invoke/VarHandle" ∧ (parseMethodDescriptor yX9_no.desc).map (fun d => d.parameters.length) = some 1 := by decide +kernel
set_option maxRecDepth 100000 in
theorem gg_192 : GoodIn gw (wsV RX9 192 RX9 yX9_no (bw yX9_no cX9_no 2 (some .int))) := bw_good (List.mem_of_getElem? (i := 1069) (by decide +kernel)) (List.mem_of_getElem? (i := 1071) (by decide +kernel)) (List.mem_of_getElem? (i := 39) (by decide +kernel)) (List.mem_of_getElem? (i := 60) (by decide +kernel)) (List.mem_of_getElem? (i := 1072) rfl)
theorem hd_X9_moved : yX9_moved.cls = RX9 ∧ yX9_moved.cls ≠ "java/lang/invoke/MethodHandle" ∧ yX9_moved.cls ≠ "java/lang/invoke/VarHandle" ∧ (parseMethodDescriptor yX9_moved.desc).map (fun d => d.parameters.length) = some 3 := by decide +kernel
set_option maxRecDepth 100000 in
theorem gg_196 : GoodIn gw (wsV RX9 196 RX9 yX9_moved (bw yX9_moved cX9_moved 7 (some .int))) := bw_good (List.mem_of_getElem? (i := 1073) (by decide +kernel)) (List.mem_of_getElem? (i := 1075) (by decide +kernel)) (List.mem_of_getElem? (i := 40) (by decide +kernel)) (List.mem_of_getElem? (i := 60) (by decide +kernel)) (List.mem_of_getElem? (i := 1076) rfl)
theorem hd_X9_link : yX9_link.cls = RX9 ∧ yX9_link.cls ≠ "java/lang/invoke/MethodHandle" ∧ yX9_link.cls ≠ "java/lang/invoke/VarHandle" ∧ (parseMethodDescriptor yX9_link.desc).map (fun d => d.parameters.length) = some 2 := by decide +kernel
set_option maxRecDepth 100000 in
theorem gg_203 : GoodIn gw (wsV RX9 203 RX9 yX9_link (bw yX9_link cX9_link 4 none)) := bw_good (List.mem_of_getElem? (i := 1102) (by decide +kernel)) (List.mem_of_getElem? (i := 1104) (by decide +kernel)) (List.mem_of_getElem? (i := 43) (by decide +kernel)) (List.mem_of_getElem? (i := 60) (by decide +kernel)) (List.mem_of_getElem? (i := 1105) rfl)
theorem hd_X9_unlink : yX9_unlink.cls = RX9 ∧ yX9_unlink.cls ≠ "java/lang/invoke/MethodHandle" ∧ yX9_unlink.cls ≠ "java/lang/invoke/VarHandle" ∧ (parseMethodDescriptor yX9_unlink.desc).map (fun d => d.parameters.length) = some 1 := by decide +kernel
set_option maxRecDepth 100000 in
theorem gg_207 : GoodIn gw (wsV RX9 207 RX9 yX9_unlink (bw yX9_unlink cX9_unlink 3 none)) := bw_good (List.mem_of_getElem? (i := 1106) (by decide +kernel)) (List.mem_of_getElem? (i := 1108) (by decide +kernel)) (List.mem_of_getElem? (i := 44) (by decide +kernel)) (List.mem_of_getElem? (i := 60) (by decide +kernel)) (List.mem_of_getElem? (i := 1109) rfl)
theorem hd_X9_leads : yX9_leads.cls = RX9 ∧ yX9_leads.cls ≠ "java/lang/invoke/MethodHandle" ∧ yX9_leads.cls ≠ "java/lang/invoke/VarHandle" ∧ (parseMethodDescriptor yX9_leads.desc).map (fun d => d.parameters.length) = some 2 := by decide +kernel
set_option maxRecDepth 100000 in
theorem gg_211 : GoodIn gw (wsV RX9 211 RX9 yX9_leads (bw yX9_leads cX9_leads 4 (some .int))) := bw_good (List.mem_of_getElem? (i := 1110) (by decide +kernel)) (List.mem_of_getElem? (i := 1112) (by decide +kernel)) (List.mem_of_getElem? (i := 45) (by decide +kernel)) (List.mem_of_getElem? (i := 60) (by decide +kernel)) (List.mem_of_getElem? (i := 1113) rfl)
theorem hd_X9_fits : yX9_fits.cls = RX9 ∧ yX9_fits.cls ≠ "java/lang/invoke/MethodHandle" ∧ yX9_fits.cls ≠ "java/lang/invoke/VarHandle" ∧ (parseMethodDescriptor yX9_fits.desc).map (fun d => d.parameters.length) = some 0 := by decide +kernel
set_option maxRecDepth 100000 in
theorem gg_215 : GoodIn gw (wsV RX9 215 RX9 yX9_fits (bw yX9_fits cX9_fits 1 (some .boolean))) := bw_good (List.mem_of_getElem? (i := 1093) (by decide +kernel)) (List.mem_of_getElem? (i := 1095) (by decide +kernel)) (List.mem_of_getElem? (i := 41) (by decide +kernel)) (List.mem_of_getElem? (i := 60) (by decide +kernel)) (List.mem_of_getElem? (i := 1096) rfl)
theorem hd_X9_measure : yX9_measure.cls = RX9 ∧ yX9_measure.cls ≠ "java/lang/invoke/MethodHandle" ∧ yX9_measure.cls ≠ "java/lang/invoke/VarHandle" ∧ (parseMethodDescriptor yX9_measure.desc).map (fun d => d.parameters.length) = some 0 := by decide +kernel
set_option maxRecDepth 100000 in
theorem gg_219 : GoodIn gw (wsV RX9 219 RX9 yX9_measure (bw yX9_measure cX9_measure 9 none)) := bw_good (List.mem_of_getElem? (i := 1097) (by decide +kernel)) (List.mem_of_getElem? (i := 1099) (by decide +kernel)) (List.mem_of_getElem? (i := 42) (by decide +kernel)) (List.mem_of_getElem? (i := 60) (by decide +kernel)) (List.mem_of_getElem? (i := 1100) rfl)
theorem hd_X9_isNear : yX9_isNear.cls = RX9 ∧ yX9_isNear.cls ≠ "java/lang/invoke/MethodHandle" ∧ yX9_isNear.cls ≠ "java/lang/invoke/VarHandle" ∧ (parseMethodDescriptor yX9_isNear.desc).map (fun d => d.parameters.length) = some 4 := by decide +kernel
set_option maxRecDepth 100000 in
theorem gg_222 : GoodIn gw (wsV RX9 222 RX9 yX9_isNear (bw yX9_isNear cX9_isNear 5 (some .boolean))) := bw_good (List.mem_of_getElem? (i := 1118) (by decide +kernel)) (List.mem_of_getElem? (i := 1120) (by decide +kernel)) (List.mem_of_getElem? (i := 46) (by decide +kernel)) (List.mem_of_getElem? (i := 60) (by decide +kernel)) (List.mem_of_getElem? (i := 1121) rfl)
theorem hd_X9_joinAll : yX9_joinAll.cls = RX9 ∧ yX9_joinAll.cls ≠ "java/lang/invoke/MethodHandle" ∧ yX9_joinAll.cls ≠ "java/lang/invoke/VarHandle" ∧ (parseMethodDescriptor yX9_joinAll.desc).map (fun d => d.parameters.length) = some 0 := by decide +kernel
set_option maxRecDepth 100000 in
theorem gg_232 : GoodIn gw (wsV RX9 232 RX9 yX9_joinAll (bw yX9_joinAll cX9_joinAll 9 none)) := bw_good (List.mem_of_getElem? (i := 1146) (by decide +kernel)) (List.mem_of_getElem? (i := 1148) (by decide +kernel)) (List.mem_of_getElem? (i := 47) (by decide +kernel)) (List.mem_of_getElem? (i := 60) (by decide +kernel)) (List.mem_of_getElem? (i := 1149) rfl)
theorem hd_X9_areNames : yX9_areNames.cls = RX9 ∧ yX9_areNames.cls ≠ "java/lang/invoke/MethodHandle" ∧ yX9_areNames.cls ≠ "java/lang/invoke/VarHandle" ∧ (parseMethodDescriptor yX9_areNames.desc).map (fun d => d.parameters.length) = some 5 := by decide +kernel
set_option maxRecDepth 100000 in
theorem gg_235 : GoodIn gw (wsV RX9 235 RX9 yX9_areNames (bw yX9_areNames cX9_areNames 8 (some .boolean))) := bw_good (List.mem_of_getElem? (i := 1154) (by decide +kernel)) (List.mem_of_getElem? (i := 1156) (by decide +kernel)) (List.mem_of_getElem? (i := 48) (by decide +kernel)) (List.mem_of_getElem? (i := 60) (by decide +kernel)) (List.mem_of_getElem? (i := 1157) rfl)
theorem hd_X9_isScheme : yX9_isScheme.cls = RX9 ∧ yX9_isScheme.cls ≠ "java/lang/invoke/MethodHandle" ∧ yX9_isScheme.cls ≠ "java/lang/invoke/VarHandle" ∧ (parseMethodDescriptor yX9_isScheme.desc).map (fun d => d.parameters.length) = some 1 := by decide +kernel
set_option maxRecDepth 100000 in
theorem gg_242 : GoodIn gw (wsV RX9 242 RX9 yX9_isScheme (bw yX9_isScheme cX9_isScheme 2 (some .boolean))) := bw_good (List.mem_of_getElem? (i := 1170) (by decide +kernel)) (List.mem_of_getElem? (i := 1172) (by decide +kernel)) (List.mem_of_getElem? (i := 49) (by decide +kernel)) (List.mem_of_getElem? (i := 60) (by decide +kernel)) (List.mem_of_getElem? (i := 1173) rfl)
