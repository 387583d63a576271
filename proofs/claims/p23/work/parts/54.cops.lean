theorem sw_cases0_2 {x : Int32} (h : ¬ (x.toInt < 0 ∨ 2 < x.toInt)) : x = 0 ∨ x = 1 ∨ x = 2 := by
  have h1 : x.toInt = 0 ∨ x.toInt = 1 ∨ x.toInt = 2 := by omega
  rcases h1 with h1 | h1 | h1
  · exact Or.inl (Int32.toInt_inj.mp (by rw [h1]; rfl))
  · exact Or.inr (Or.inl (Int32.toInt_inj.mp (by rw [h1]; rfl)))
  · exact Or.inr (Or.inr (Int32.toInt_inj.mp (by rw [h1]; rfl)))
theorem kar_int : (.arrayClass .int : Cond) ∈ gw := List.mem_filter.mpr ⟨List.mem_of_getElem? (i := 117) (by decide +kernel), by decide +kernel⟩
theorem kar_long : (.arrayClass .long : Cond) ∈ gw := List.mem_filter.mpr ⟨List.mem_of_getElem? (i := 240) (by decide +kernel), by decide +kernel⟩
theorem kar_boolean : (.arrayClass .boolean : Cond) ∈ gw := List.mem_filter.mpr ⟨List.mem_of_getElem? (i := 118) (by decide +kernel), by decide +kernel⟩
theorem lt7 {t : Nat} (h : t < 7) : t = 0 ∨ t = 1 ∨ t = 2 ∨ t = 3 ∨ t = 4 ∨ t = 5 ∨ t = 6 := by omega
theorem vp_lt {i : Int32} {n : Nat} (h : vp_in i n) : i.toNatClampNeg < n := Nat.not_le.mp fun q => h (Or.inr q)
theorem cat_row {ad vd : Nat → Nat} {cI cZ cL cG : ClassId} {S : CS} {X : va_W} {i : Int32} (h : vp_in i 7) : (cW ad vd cI cZ cL cG S ++ X)[44 + i.toNatClampNeg]? = some (ad (44 + i.toNatClampNeg), .inl (cI, 5, .inl (S.2.1 (44 + i.toNatClampNeg)))) := by
  rcases lt7 (vp_lt h) with e | e | e | e | e | e | e <;> rw [e] <;> rfl
theorem csetP_row {D : va_G} {H : Heap} {ad vd : Nat → Nat} {cI cZ cL cG : ClassId} {S : CS} {X : va_W} {i : Int32} (h : vp_in i 7) {f : Nat → Int32} (hP : va_P D vwCl ((cW ad vd cI cZ cL cG S ++ X).set (44 + i.toNatClampNeg) (ad (44 + i.toNatClampNeg), .inl (cI, 5, .inl f))) H) : va_P D vwCl (cW ad vd cI cZ cL cG (ca S (44 + i.toNatClampNeg) f) ++ X) H := by
  rcases lt7 (vp_lt h) with e | e | e | e | e | e | e <;> rw [e] at hP ⊢ <;> exact hP
theorem csetD_row {A : Nat → Prop} {ad vd : Nat → Nat} {cI cZ cL cG : ClassId} {S : CS} {X : va_W} {i : Int32} (h : vp_in i 7) {f : Nat → Int32} (hD : va_D A ((cW ad vd cI cZ cL cG S ++ X).set (44 + i.toNatClampNeg) (ad (44 + i.toNatClampNeg), .inl (cI, 5, .inl f)))) : va_D A (cW ad vd cI cZ cL cG (ca S (44 + i.toNatClampNeg) f) ++ X) := by
  rcases lt7 (vp_lt h) with e | e | e | e | e | e | e <;> rw [e] at hD ⊢ <;> exact hD
section COps
variable {p : Program} {l : Launch} {e : Env} {R : Room} {s : State} {m : MethodId} {args : Array Value} {below : List Frame} {meth : Method} {c : Code} {H : Heap} {locs : List Loc} {cells slots : Nat} {Q : State → Prop} {cc : ByteArray} {pc nL : Nat} {ls : Array Slot} {rest : List Value} {D : va_G} {A : Nat → Prop} {ad vd : Nat → Nat} {cI cZ cL cG : ClassId} {S : CS} {X : va_W}
theorem calda (hx : p.tables.exec = Jvm.exec) (hb : c.code = cc) (hK : va_K D vwCl (cTy cI cZ cL cG) s) (hP : va_P D vwCl (cW ad vd cI cZ cL cG S ++ X) H) {i : Int32} (hin : vp_in i 7) (hdg : decode cc pc = .ok (.aaload, 1)) (kk : W p l e R s m args below meth c H locs cells slots Q (F0 m (pc + 1) ls (.ref (ad (44 + i.toNatClampNeg)) :: rest))) : W p l e R s m args below meth c H locs cells slots Q (F0 m pc ls (.int i :: .ref (ad 43) :: rest)) := by
  have hlt := vp_lt hin
  refine W.aald (v := .ref (ad (44 + i.toNatClampNeg))) (ty := .array .int) hx hb (hP 43 _ cat_43) ((hK.2 3 _ rfl).1 7 (fun j => va_rf (if j < 7 then some (ad (44 + j)) else none))) rfl (fun q => by cases q) (by show ¬ (i < 0 ∨ (arrV _ _ _).slots.size ≤ _); rw [arrV_size]; exact hin) ?_ rfl rfl hdg kk
  show (arrV _ _ _).slots[_]? = _
  rw [arrV_read _ _ hlt]
  show some (va_rf (if i.toNatClampNeg < 7 then some (ad (44 + i.toNatClampNeg)) else none)) = _
  rw [if_pos hlt]; rfl
theorem cset_own {L X : va_W} {k : Nat} {c1 c2 : Nat × va_E} (hk : L.length = k) : (L ++ (X ++ [c1])).set (k + X.length) c2 = L ++ (X ++ [c2]) := by
  subst hk
  rw [List.set_append_right _ _ (by omega), Nat.add_sub_cancel_left, List.set_append_right _ _ (Nat.le_refl _), Nat.sub_self]; rfl
theorem cget_own {ad vd : Nat → Nat} {cI cZ cL cG : ClassId} {S : CS} {X : va_W} {x : Nat × va_E} : (cW ad vd cI cZ cL cG S ++ (X ++ [x]))[51 + X.length]? = some x := cWX (by rw [List.getElem?_append_right (Nat.le_refl _), Nat.sub_self]; rfl)
theorem cstX (hx : p.tables.exec = Jvm.exec) (hb : c.code = cc) (hK : va_K D vwCl (cTy cI cZ cL cG) s) {q N : Nat} {f : Nat → Int32} (hP : va_P D vwCl (cW ad vd cI cZ cL cG S ++ (X ++ [(q, .inl (cI, N, .inl f))])) H) (hD : va_D A (cW ad vd cI cZ cL cG S ++ (X ++ [(q, .inl (cI, N, .inl f))]))) (hS : va_S A s.heap H locs) {i x : Int32} (hin : vp_in i N) (hdg : decode cc pc = .ok (.iastore, 1)) (kk : ∀ (H1 : Heap) (locs1 : List Loc), va_P D vwCl (cW ad vd cI cZ cL cG S ++ (X ++ [(q, .inl (cI, N, .inl (upd f i.toNatClampNeg x)))])) H1 → va_D A (cW ad vd cI cZ cL cG S ++ (X ++ [(q, .inl (cI, N, .inl (upd f i.toNatClampNeg x)))])) → va_S A s.heap H1 locs1 → W p l e R s m args below meth c H1 locs1 cells slots Q (F0 m (pc + 1) ls rest)) : W p l e R s m args below meth c H locs cells slots Q (F0 m pc ls (.int x :: .int i :: .ref q :: rest)) := by
  refine va_iast (f := f) hx hb hK hP hD hS (51 + X.length) 0 cget_own rfl hin hdg (fun H1 locs1 h1 h2 h3 => ?_)
  rw [cset_own cW_len] at h1 h2
  exact kk H1 locs1 h1 h2 h3
theorem cnew_int {N : Nat} {n : Int32} (hx : p.tables.exec = Jvm.exec) (hb : c.code = cc) (hts : ∀ w ∈ gw, w.before args s = true) (hK : va_K D vwCl (cTy cI cZ cL cG) s) (hP : va_P D vwCl (cW ad vd cI cZ cL cG S ++ X) H) (hD : va_D A (cW ad vd cI cZ cL cG S ++ X)) (hS : va_S A s.heap H locs) (hA : ∀ q, s.heap.size ≤ q → A q) (hN : n.toNatClampNeg = N) (h0 : ¬ n < 0) (hby : N * 8 ≤ 536870912) (h2 : cells + 1 ≤ R.cells) (h3 : slots + N ≤ R.slots) (hdg : decode cc pc = .ok (.newarray .int, 2)) (kk : ∀ (q : Nat) (H1 : Heap), va_P D vwCl (cW ad vd cI cZ cL cG S ++ (X ++ [(q, .inl (cI, N, .inl (fun _ => 0)))])) H1 → va_D A (cW ad vd cI cZ cL cG S ++ (X ++ [(q, .inl (cI, N, .inl (fun _ => 0)))])) → va_S A s.heap H1 locs → W p l e R s m args below meth c H1 locs (cells + 1) (slots + N) Q (F0 m (pc + 2) ls (.ref q :: rest))) : W p l e R s m args below meth c H locs cells slots Q (F0 m pc ls (.int n :: rest)) := by
  refine va_newa (atype := .int) (ty := .int) (N' := N) (a0 := (N, .inl (fun _ => 0))) hx hb (hts _ kar_int) rfl hK hP hD hS hA (fun cA => rfl) h0 hN (by show N * _ ≤ _; simp [componentBytes]; omega) h2 h3 hdg (fun q cA H1 h4 h5 h6 h7 => ?_)
  have e : cA = cI := Option.some.inj ((h4.2 4 _ rfl).2.symm.trans (hK.2 0 _ rfl).2)
  subst e
  rw [List.append_assoc] at h5 h6
  exact kk q H1 h5 h6 h7
theorem cnew_long {N : Nat} {n : Int32} (hx : p.tables.exec = Jvm.exec) (hb : c.code = cc) (hts : ∀ w ∈ gw, w.before args s = true) (hK : va_K D vwCl (cTy cI cZ cL cG) s) (hP : va_P D vwCl (cW ad vd cI cZ cL cG S ++ X) H) (hD : va_D A (cW ad vd cI cZ cL cG S ++ X)) (hS : va_S A s.heap H locs) (hA : ∀ q, s.heap.size ≤ q → A q) (hN : n.toNatClampNeg = N) (h0 : ¬ n < 0) (hby : N * 8 ≤ 536870912) (h2 : cells + 1 ≤ R.cells) (h3 : slots + N ≤ R.slots) (hdg : decode cc pc = .ok (.newarray .long, 2)) (kk : ∀ (q : Nat) (H1 : Heap), va_P D vwCl (cW ad vd cI cZ cL cG S ++ (X ++ [(q, .inl (cL, N, .inr (.inl (fun _ => 0))))])) H1 → va_D A (cW ad vd cI cZ cL cG S ++ (X ++ [(q, .inl (cL, N, .inr (.inl (fun _ => 0))))])) → va_S A s.heap H1 locs → W p l e R s m args below meth c H1 locs (cells + 1) (slots + N) Q (F0 m (pc + 2) ls (.ref q :: rest))) : W p l e R s m args below meth c H locs cells slots Q (F0 m pc ls (.int n :: rest)) := by
  refine va_newa (atype := .long) (ty := .long) (N' := N) (a0 := (N, .inr (.inl (fun _ => 0)))) hx hb (hts _ kar_long) rfl hK hP hD hS hA (fun cA => rfl) h0 hN (by show N * _ ≤ _; simp [componentBytes]; omega) h2 h3 hdg (fun q cA H1 h4 h5 h6 h7 => ?_)
  have e : cA = cL := Option.some.inj ((h4.2 4 _ rfl).2.symm.trans (hK.2 2 _ rfl).2)
  subst e
  rw [List.append_assoc] at h5 h6
  exact kk q H1 h5 h6 h7
theorem cnewX {N : Nat} {n : Int32} (hx : p.tables.exec = Jvm.exec) (hb : c.code = cc) (hts : ∀ w ∈ gw, w.before args s = true) (hK : va_K D vwCl (cTy cI cZ cL cG) s) (hP : va_P D vwCl (cW ad vd cI cZ cL cG S ++ X) H) (hD : va_D A (cW ad vd cI cZ cL cG S ++ X)) (hS : va_S A s.heap H locs) (hA : ∀ q, s.heap.size ≤ q → A q) (hN : n.toNatClampNeg = N) (h0 : ¬ n < 0) (hby : N * 8 ≤ 536870912) (h2 : cells + 1 ≤ R.cells) (h3 : slots + N ≤ R.slots) (hdg : decode cc pc = .ok (.newarray .int, 2)) (kk : ∀ (q : Nat) (H1 : Heap), va_P D vwCl (cW ad vd cI cZ cL cG S ++ (X ++ [(q, .inl (cI, N, .inl (fun _ => 0)))])) H1 → va_D A (cW ad vd cI cZ cL cG S ++ (X ++ [(q, .inl (cI, N, .inl (fun _ => 0)))])) → va_S A s.heap H1 locs → W p l e R s m args below meth c H1 locs (cells + 1) (slots + N) Q (F0 m (pc + 2) ls (.ref q :: rest))) : W p l e R s m args below meth c H locs cells slots Q (F0 m pc ls (.int n :: rest)) := cnew_int hx hb hts hK hP hD hS hA hN h0 hby h2 h3 hdg kk
end COps
