def va_AOA (t : FieldType) (U : State) : Prop := (Cond.arrayOver (.array t)).before #[] U = true
theorem va_AOA.use {t : FieldType} {A : Array Value} {U : State} (h : va_AOA t U) : (Cond.arrayOver (.array t)).before A U = true := over_moved (Vm.Alike.refl U.vm) h
theorem va_AOA.moved {t : FieldType} {u U : State} (hvm : u.vm.Alike U.vm) (h : va_AOA t u) : va_AOA t U := over_moved hvm h
/-! ===== BEGIN new T[n][m]: the outer array a place, the inner ones among the pooled ===== -/
/-- f, but v at every address of l -/
def vr_up {α : Type} (f : Nat → α) (l : List Nat) (v : α) : Nat → α := fun a => if a ∈ l then v else f a
theorem vr_up_in {α : Type} {f : Nat → α} {l : List Nat} {v : α} {a : Nat} (h : a ∈ l) : vr_up f l v a = v := if_pos h
theorem vr_up_ne {α : Type} {f : Nat → α} {l : List Nat} {v : α} {a : Nat} (h : a ∉ l) : vr_up f l v a = f a := if_neg h
theorem vr_rows {L l : List Nat} {f : Nat → va_E} {e : va_E} (h : ∀ a, a ∈ l → a ∉ L) : va_pl L f ++ l.map (fun a => (a, e)) = va_pl (L ++ l) (vr_up f l e) := by
  unfold va_pl
  rw [List.map_append]
  congr 1
  · apply List.map_congr_left
    intro a ha
    rw [vr_up_ne (fun q => h a q ha)]
  · apply List.map_congr_left
    intro a ha
    rw [vr_up_in ha]
theorem vr_lay {X rows : va_W} {x : Nat × va_E} {pl : va_W} {D : va_G} {cl : List vw_C} {H : Heap} (hP : va_P D cl (((X ++ pl) ++ [x]) ++ rows) H) : va_P D cl ((X ++ [x]) ++ (pl ++ rows)) H := by
  rw [List.append_assoc (X ++ pl)] at hP
  have h := va_P.swap hP
  rw [← List.append_assoc X] at h
  have h2 := va_P.swap h
  rw [List.append_assoc (X ++ [x])] at h2
  exact h2
theorem vr_layD {X rows : va_W} {x : Nat × va_E} {pl : va_W} {A : Nat → Prop} (hD : va_D A (((X ++ pl) ++ [x]) ++ rows)) : va_D A ((X ++ [x]) ++ (pl ++ rows)) := by
  rw [List.append_assoc (X ++ pl)] at hD
  have h := va_D.swap hD
  rw [← List.append_assoc X] at h
  have h2 := va_D.swap h
  rw [List.append_assoc (X ++ [x])] at h2
  exact h2
theorem vr_outer (c : ClassId) (N h0 : Nat) : ∀ i : Nat, Jvm.Free.Multi.outerC c N h0 i = arrV c N (fun j => va_rf (if j < i then some (h0 + 1 + j) else none))
  | 0 => by
    show ({ cls := c, slots := Array.replicate N .null, vm := .none } : Cell) = _
    rw [arrV_new]
    refine congrArg (arrV c N) (funext fun j => ?_)
    simp [va_rf]
  | i + 1 => by
    show (Jvm.Free.Multi.outerC c N h0 i).setSlot i (.ref (h0 + 1 + i)) = _
    rw [vr_outer c N h0 i, arrV_store]
    refine congrArg (arrV c N) (funext fun j => ?_)
    by_cases e : j = i
    · subst e
      simp [updV, va_rf]
    · by_cases h : j < i
      · simp [updV, e, h, Nat.lt_succ_of_lt h]
      · simp [updV, e, h, show ¬ j < i + 1 by omega]
section VGM
variable {p : Program} {l : Launch} {e : Env} {R : Room} {s : State} {m : MethodId} {args : Array Value} {below : List Frame} {meth : Method} {c : Code} {H : Heap} {locs : List Loc} {cells slots : Nat} {Q : State → Prop}
variable {cc : ByteArray} {pc : Nat} {ls : Array Slot} {rest : List Value} {D : va_G} {cl : List vw_C} {A : Nat → Prop} {a : Nat} {tys : List (ClassId × FieldType)} {ws : va_W} {H0 : Heap}
theorem va_mna {X : va_W} {L : List Nat} {f : Nat → va_E} {cc : ByteArray} (hexec : p.tables.exec = Jvm.exec) (hb : c.code = cc) {own : String} {index : Nat} {ty : FieldType} {cy : ClassId} (hown : s.vm.findClass own = some m.cls) (hclink : (Cond.classLink own index ("[" ++ (FieldType.array ty).toString)).before args s = true) (hover : va_AOA ty s) (harr : (Cond.arrayClass ty).before args s = true) (hcy : s.vm.findClass (FieldType.array ty).toString = some cy)
    (hK : va_K D cl tys s) (hP : va_P D cl (X ++ va_pl L f) H) (hD : va_D A (X ++ va_pl L f)) (hS : va_S A H0 H locs) (hA : ∀ q, H0.size ≤ q → A q) {n k : Int32} {N' K' : Nat} {z : vp_A} (hn : ¬ n < 0) (hk : ¬ k < 0) (hN : n.toNatClampNeg = N') (hM : k.toNatClampNeg = K')
    (hb1 : N' * 4 ≤ 536870912) (hb2 : K' * componentBytes ty ≤ 536870912) (hb3 : K' ≤ 536870912) (hdf : fits ty (defaultValue ty) = true) (hdd : (defaultValue ty).isDefault = true) (hcells : cells + (1 + N') ≤ R.cells) (hslots : slots + (N' + N' * K') ≤ R.slots) (hz : ∀ c : ClassId, Jvm.Free.Multi.innerC c K' (defaultValue ty) = vp_cell c z) (hdg : decode cc pc = .ok (.multianewarray index 2, 4))
    (kk : ∀ (q : Nat) (r : Nat → Nat) (cA : ClassId) (H1 : Heap), (∀ i j : Nat, i < N' → j < N' → r i = r j → i = j) → (∀ i : Nat, i < N' → r i ∉ L) → va_K D cl (tys ++ [(cA, .array ty)]) s →
      va_P D cl ((X ++ [(q, .inl (cA, N', .inr (.inr (.inr (.inr (fun i => if i < N' then some (r i) else none))))))]) ++ va_pl (L ++ (List.range N').map r) (vr_up f ((List.range N').map r) (.inl (cy, z)))) H1 → va_D A ((X ++ [(q, .inl (cA, N', .inr (.inr (.inr (.inr (fun i => if i < N' then some (r i) else none))))))]) ++ va_pl (L ++ (List.range N').map r) (vr_up f ((List.range N').map r) (.inl (cy, z)))) → va_S A H0 H1 locs →
      W p l e R s m args below meth c H1 locs (cells + 1 + N') (slots + N' + N' * K') Q (F0 m (pc + 4) ls (.ref q :: rest))) : W p l e R s m args below meth c H locs cells slots Q (F0 m pc ls (.int k :: .int n :: rest)) := by
  subst hN
  subst hM
  intro T hT Xs
  obtain ⟨vm₁, cA, comp, -, fA, fC, hO, -, X', step⟩ := Xs.multianewarray2F hexec hown hclink (va_AOA.use hover) harr (g := F0 m pc ls (.int k :: .int n :: rest)) rfl (by rw [hb]; exact hdg) rfl hn hk hb1 hb2 hb3 hdf hdd hcells hslots
  have ec : some cy = some comp := hcy.symm.trans fC
  cases ec
  generalize hF : Jvm.Free.Multi.fill (T.setVm vm₁) cA cy n.toNatClampNeg k.toNatClampNeg (defaultValue ty) n.toNatClampNeg = F at X' step
  have hTh : (T.setVm vm₁).heap = H := hT
  obtain ⟨f1, f2, -, -⟩ := Jvm.Free.Multi.fill_facts (T.setVm vm₁) cA cy n.toNatClampNeg k.toNatClampNeg (defaultValue ty) n.toNatClampNeg
  rw [hF, hTh] at f1 f2
  have hold : ∀ x : Nat, x < H.size → F.heap[x]? = H[x]? := fun x hx => by
    have := Jvm.Free.Multi.fill_old (T.setVm vm₁) cA cy n.toNatClampNeg k.toNatClampNeg (defaultValue ty) (a := x) (by rw [hTh]; exact hx) n.toNatClampNeg
    rw [hF, hTh] at this
    exact this
  have hrow : ∀ j : Nat, j < n.toNatClampNeg → F.heap[H.size + 1 + j]? = some (vp_cell cy z) := fun j hj => by
    have := Jvm.Free.Multi.fill_inner (T.setVm vm₁) cA cy n.toNatClampNeg k.toNatClampNeg (defaultValue ty) n.toNatClampNeg j hj
    rw [hF, hTh, hz] at this
    exact this
  have hout : Jvm.Free.Multi.outerC cA n.toNatClampNeg H.size n.toNatClampNeg = vp_cell cA (n.toNatClampNeg, .inr (.inr (.inr (.inr (fun i => if i < n.toNatClampNeg then some (H.size + 1 + i) else none))))) := by
    rw [vp_cell_q]
    exact vr_outer cA n.toNatClampNeg H.size n.toNatClampNeg
  rw [hout] at f2
  have hlt : ∀ a, a ∈ L → a < H.size := fun a ha => by
    obtain ⟨k9, hk9⟩ := va_pl_get (X := X) (f := f) ha
    exact (hP k9 _ hk9).lt
  have hnl : ∀ i : Nat, i < n.toNatClampNeg → H.size + 1 + i ∉ L := fun i _ h => by
    have := hlt _ h
    omega
  have hnm : ∀ a, a ∈ (List.range n.toNatClampNeg).map (fun i => H.size + 1 + i) → a ∉ L := fun a ha h => by
    obtain ⟨i, -, rfl⟩ := List.mem_map.mp ha
    have := hlt _ h
    omega
  have hP0 : va_P D cl (X ++ va_pl L f) F.heap := hP.kept (fun k9 x hx => hold x.1 ((hP k9 x hx).lt))
  have hP1 : va_P D cl ((X ++ va_pl L f) ++ [(H.size, .inl (cA, n.toNatClampNeg, .inr (.inr (.inr (.inr (fun i => if i < n.toNatClampNeg then some (H.size + 1 + i) else none))))))]) F.heap := hP0.app (fun k9 x hx => by
    have h0 : k9 < 1 := (List.getElem?_eq_some_iff.mp hx).1
    rw [show k9 = 0 by omega] at hx
    cases hx
    exact f2)
  have hP2 : va_P D cl (((X ++ va_pl L f) ++ [(H.size, .inl (cA, n.toNatClampNeg, .inr (.inr (.inr (.inr (fun i => if i < n.toNatClampNeg then some (H.size + 1 + i) else none))))))]) ++ ((List.range n.toNatClampNeg).map (fun i => H.size + 1 + i)).map (fun a => (a, .inl (cy, z)))) F.heap := hP1.app (fun k9 x hx => by
    obtain ⟨a, ha, rfl⟩ := List.mem_map.mp (List.mem_of_getElem? hx)
    obtain ⟨i, hi, rfl⟩ := List.mem_map.mp ha
    exact hrow i (List.mem_range.mp hi))
  have hD2 : va_D A (((X ++ va_pl L f) ++ [(H.size, .inl (cA, n.toNatClampNeg, .inr (.inr (.inr (.inr (fun i => if i < n.toNatClampNeg then some (H.size + 1 + i) else none))))))]) ++ ((List.range n.toNatClampNeg).map (fun i => H.size + 1 + i)).map (fun a => (a, .inl (cy, z)))) := by
    have hD1 := hD.push (e := .inl (cA, n.toNatClampNeg, .inr (.inr (.inr (.inr (fun i => if i < n.toNatClampNeg then some (H.size + 1 + i) else none)))))) hP rfl (hA _ hS.1)
    generalize hW1 : (X ++ va_pl L f) ++ [(H.size, .inl (cA, n.toNatClampNeg, .inr (.inr (.inr (.inr (fun i => if i < n.toNatClampNeg then some (H.size + 1 + i) else none))))))] = W1 at hD1 hP1 ⊢
    have hle : ∀ (k9 : Nat) (x : Nat × va_E), W1[k9]? = some x → x.1 ≤ H.size := fun k9 x hx => by
      rw [← hW1] at hx
      by_cases hl : k9 < (X ++ va_pl L f).length
      · rw [List.getElem?_append_left hl] at hx
        exact Nat.le_of_lt ((hP k9 x hx).lt)
      · rw [List.getElem?_append_right (by omega)] at hx
        have h0 : k9 - (X ++ va_pl L f).length < 1 := (List.getElem?_eq_some_iff.mp hx).1
        rw [show k9 - (X ++ va_pl L f).length = 0 by omega] at hx
        cases hx
        exact Nat.le_refl _
    have hr : ∀ (k9 : Nat) (x : Nat × va_E), (((List.range n.toNatClampNeg).map (fun i => H.size + 1 + i)).map (fun a => ((a, .inl (cy, z)) : Nat × va_E)))[k9]? = some x → x.1 = H.size + 1 + k9 := fun k9 x hx => by
      rw [List.getElem?_map, List.getElem?_map] at hx
      by_cases h9 : k9 < n.toNatClampNeg
      · rw [List.getElem?_range h9] at hx
        cases hx
        rfl
      · have hn0 : (List.range n.toNatClampNeg)[k9]? = none := List.getElem?_eq_none (by rw [List.length_range]; omega)
        rw [hn0] at hx
        cases hx
    refine ⟨fun i j x y hi hj hxy => ?_, fun k9 x hx => ?_⟩
    · by_cases h1 : i < W1.length <;> by_cases h2 : j < W1.length
      · rw [List.getElem?_append_left h1] at hi
        rw [List.getElem?_append_left h2] at hj
        exact hD1.1 i j x y hi hj hxy
      · rw [List.getElem?_append_left h1] at hi
        rw [List.getElem?_append_right (by omega)] at hj
        have := hle _ _ hi
        have := hr _ _ hj
        omega
      · rw [List.getElem?_append_right (by omega)] at hi
        rw [List.getElem?_append_left h2] at hj
        have := hle _ _ hj
        have := hr _ _ hi
        omega
      · rw [List.getElem?_append_right (by omega)] at hi hj
        have := hr _ _ hi
        have := hr _ _ hj
        omega
    · by_cases h1 : k9 < W1.length
      · rw [List.getElem?_append_left h1] at hx
        exact hD1.2 k9 x hx
      · rw [List.getElem?_append_right (by omega)] at hx
        have := hr _ _ hx
        exact hA _ (by have := hS.1; omega)
  have hAr : ArrOfT s cA (.array ty) := fun N9 z9 => by
    obtain ⟨-, k9, hk9, cm9, hkk9⟩ := (hO 0 0 0).1
    exact ⟨(fun q hq => by cases hq), k9, hk9, cm9, hkk9⟩
  have hK2 : va_K D cl (tys ++ [(cA, .array ty)]) s := ⟨hK.1, fun k9 x hx => by
    by_cases hl : k9 < tys.length
    · rw [List.getElem?_append_left hl] at hx
      exact hK.2 k9 x hx
    · rw [List.getElem?_append_right (by omega)] at hx
      have h0 : k9 - tys.length < 1 := (List.getElem?_eq_some_iff.mp hx).1
      rw [show k9 - tys.length = 0 by omega] at hx
      cases hx
      exact ⟨hAr, fA⟩⟩
  obtain ⟨t, a1, b1⟩ := kk H.size (fun i => H.size + 1 + i) cA F.heap (fun i j _ _ h => by have h9 : H.size + 1 + i = H.size + 1 + j := h; omega) hnl hK2 (by rw [← vr_rows hnm]; exact vr_lay hP2) (by rw [← vr_rows hnm]; exact vr_layD hD2) ⟨by rw [f1]; have := hS.1; omega, fun x h1 h2 => (hold x (Nat.lt_of_lt_of_le h1 hS.1)).trans (hS.2.1 x h1 h2), hS.2.2⟩ F rfl X'
  refine ⟨t, step t ?_, b1⟩
  have e : T.heap.size = H.size := by rw [hT]
  rw [e]
  exact a1
end VGM
/-! ===== END ===== -/
def mS0 : MS := (fun k => if k = 0 then 3 else if k = 1 then 1 else if k = 10 then -1 else 0, fun _ _ => 0, fun _ _ => 0)
def cS0 : CS := (fun k => if k = 3 then 3 else if k = 4 then 1 else if k = 5 then 3 else if k = 12 then -1 else if k = 23 then -1 else 0, fun k => if k = 9 then upd (fun _ => 0) (0 : Int32).toNatClampNeg 1 else fun _ => 0, fun _ _ => 0, fun k => if k = 22 then 16 else 0)
def va_ls (xs : List Nat) : Nat → Nat := fun k => xs.getD k 0
theorem bi_good {ny : Nat} {y : MethodName} {cy : ByteArray} {r : Option FieldType} (h5 : Cond.code y cy ny r ∈ lw_tbl) : GoodIn gw (bw y cy ny r) := by
  intro w hw
  have hm : w ∈ gw := by
    rcases List.mem_cons.mp hw with rfl | h
    · exact List.mem_filter.mpr ⟨h5, rfl⟩
    · exact h
  exact ⟨hm, good_of_word (List.mem_filter.mp hm).2⟩
section KNew
variable {p : Program} {l : Launch} {e : Env} {R : Room} {s : State} {m : MethodId} {args : Array Value} {below : List Frame} {meth : Method} {c : Code} {H : Heap} {locs : List Loc} {cells slots : Nat} {Q : State → Prop} {cc : ByteArray} {pc : Nat} {ls : Array Slot} {rest : List Value} {D : va_G} {A : Nat → Prop} {cI cZ cL cG : ClassId} {ws : va_W}
theorem knew_int {N : Nat} {n : Int32} (hx : p.tables.exec = Jvm.exec) (hb : c.code = cc) (hts : ∀ w ∈ gw, w.before args s = true) (hK : va_K D vwCl (cTy cI cZ cL cG) s) (hP : va_P D vwCl ws H) (hD : va_D A ws) (hS : va_S A s.heap H locs) (hA : ∀ q, s.heap.size ≤ q → A q) (hN : n.toNatClampNeg = N) (h0 : ¬ n < 0) (hby : N * 8 ≤ 536870912) (h2 : cells + 1 ≤ R.cells) (h3 : slots + N ≤ R.slots) (hdg : decode cc pc = .ok (.newarray .int, 2)) (kk : ∀ (q : Nat) (H1 : Heap), va_P D vwCl (ws ++ [(q, .inl (cI, N, .inl (fun _ => 0)))]) H1 → va_D A (ws ++ [(q, .inl (cI, N, .inl (fun _ => 0)))]) → va_S A s.heap H1 locs → W p l e R s m args below meth c H1 locs (cells + 1) (slots + N) Q (F0 m (pc + 2) ls (.ref q :: rest))) : W p l e R s m args below meth c H locs cells slots Q (F0 m pc ls (.int n :: rest)) := by
  refine va_newa (atype := .int) (ty := .int) (N' := N) (a0 := (N, .inl (fun _ => 0))) hx hb (hts _ kar_int) rfl hK hP hD hS hA (fun cA => rfl) h0 hN (by show N * _ ≤ _; simp [componentBytes]; omega) h2 h3 hdg (fun q cA H1 h4 h5 h6 h7 => ?_)
  have e : cA = cI := Option.some.inj ((h4.2 4 _ rfl).2.symm.trans (hK.2 0 _ rfl).2)
  subst e
  exact kk q H1 h5 h6 h7
theorem knew_boolean {N : Nat} {n : Int32} (hx : p.tables.exec = Jvm.exec) (hb : c.code = cc) (hts : ∀ w ∈ gw, w.before args s = true) (hK : va_K D vwCl (cTy cI cZ cL cG) s) (hP : va_P D vwCl ws H) (hD : va_D A ws) (hS : va_S A s.heap H locs) (hA : ∀ q, s.heap.size ≤ q → A q) (hN : n.toNatClampNeg = N) (h0 : ¬ n < 0) (hby : N * 8 ≤ 536870912) (h2 : cells + 1 ≤ R.cells) (h3 : slots + N ≤ R.slots) (hdg : decode cc pc = .ok (.newarray .boolean, 2)) (kk : ∀ (q : Nat) (H1 : Heap), va_P D vwCl (ws ++ [(q, .inl (cZ, N, .inl (fun _ => 0)))]) H1 → va_D A (ws ++ [(q, .inl (cZ, N, .inl (fun _ => 0)))]) → va_S A s.heap H1 locs → W p l e R s m args below meth c H1 locs (cells + 1) (slots + N) Q (F0 m (pc + 2) ls (.ref q :: rest))) : W p l e R s m args below meth c H locs cells slots Q (F0 m pc ls (.int n :: rest)) := by
  refine va_newa (atype := .boolean) (ty := .boolean) (N' := N) (a0 := (N, .inl (fun _ => 0))) hx hb (hts _ kar_boolean) rfl hK hP hD hS hA (fun cA => rfl) h0 hN (by show N * _ ≤ _; simp [componentBytes]; omega) h2 h3 hdg (fun q cA H1 h4 h5 h6 h7 => ?_)
  have e : cA = cZ := Option.some.inj ((h4.2 4 _ rfl).2.symm.trans (hK.2 1 _ rfl).2)
  subst e
  exact kk q H1 h5 h6 h7
theorem knew_long {N : Nat} {n : Int32} (hx : p.tables.exec = Jvm.exec) (hb : c.code = cc) (hts : ∀ w ∈ gw, w.before args s = true) (hK : va_K D vwCl (cTy cI cZ cL cG) s) (hP : va_P D vwCl ws H) (hD : va_D A ws) (hS : va_S A s.heap H locs) (hA : ∀ q, s.heap.size ≤ q → A q) (hN : n.toNatClampNeg = N) (h0 : ¬ n < 0) (hby : N * 8 ≤ 536870912) (h2 : cells + 1 ≤ R.cells) (h3 : slots + N ≤ R.slots) (hdg : decode cc pc = .ok (.newarray .long, 2)) (kk : ∀ (q : Nat) (H1 : Heap), va_P D vwCl (ws ++ [(q, .inl (cL, N, .inr (.inl (fun _ => 0))))]) H1 → va_D A (ws ++ [(q, .inl (cL, N, .inr (.inl (fun _ => 0))))]) → va_S A s.heap H1 locs → W p l e R s m args below meth c H1 locs (cells + 1) (slots + N) Q (F0 m (pc + 2) ls (.ref q :: rest))) : W p l e R s m args below meth c H locs cells slots Q (F0 m pc ls (.int n :: rest)) := by
  refine va_newa (atype := .long) (ty := .long) (N' := N) (a0 := (N, .inr (.inl (fun _ => 0)))) hx hb (hts _ kar_long) rfl hK hP hD hS hA (fun cA => rfl) h0 hN (by show N * _ ≤ _; simp [componentBytes]; omega) h2 h3 hdg (fun q cA H1 h4 h5 h6 h7 => ?_)
  have e : cA = cL := Option.some.inj ((h4.2 4 _ rfl).2.symm.trans (hK.2 2 _ rfl).2)
  subst e
  exact kk q H1 h5 h6 h7
end KNew
theorem ki_52 : (.initialized RX0 : Cond) ∈ gw := List.mem_filter.mpr ⟨List.mem_of_getElem? (i := 52) (by decide +kernel), by decide +kernel⟩
theorem ki_53 : (.initialized RX3 : Cond) ∈ gw := List.mem_filter.mpr ⟨List.mem_of_getElem? (i := 53) (by decide +kernel), by decide +kernel⟩
theorem ki_54 : (.initialized RX4 : Cond) ∈ gw := List.mem_filter.mpr ⟨List.mem_of_getElem? (i := 54) (by decide +kernel), by decide +kernel⟩
theorem ki_55 : (.initialized RX5 : Cond) ∈ gw := List.mem_filter.mpr ⟨List.mem_of_getElem? (i := 55) (by decide +kernel), by decide +kernel⟩
theorem ki_56 : (.initialized RX6 : Cond) ∈ gw := List.mem_filter.mpr ⟨List.mem_of_getElem? (i := 56) (by decide +kernel), by decide +kernel⟩
theorem ki_57 : (.initialized RX2 : Cond) ∈ gw := List.mem_filter.mpr ⟨List.mem_of_getElem? (i := 57) (by decide +kernel), by decide +kernel⟩
theorem ki_58 : (.initialized RX1 : Cond) ∈ gw := List.mem_filter.mpr ⟨List.mem_of_getElem? (i := 58) (by decide +kernel), by decide +kernel⟩
theorem ki_59 : (.initialized RX7 : Cond) ∈ gw := List.mem_filter.mpr ⟨List.mem_of_getElem? (i := 59) (by decide +kernel), by decide +kernel⟩
theorem ki_69 : (.methodLink RX8 1 objectInit : Cond) ∈ gw := List.mem_filter.mpr ⟨List.mem_of_getElem? (i := 69) (by decide +kernel), by decide +kernel⟩
theorem ki_70 : (.instanceMethod objectInit : Cond) ∈ gw := List.mem_filter.mpr ⟨List.mem_of_getElem? (i := 70) (by decide +kernel), by decide +kernel⟩
theorem ki_71 : (.code objectInit ⟨#[0xb1]⟩ 1 none : Cond) ∈ gw := List.mem_filter.mpr ⟨List.mem_of_getElem? (i := 71) rfl, by decide +kernel⟩
theorem ki_72 : (.classLink RX8 7 RX0 : Cond) ∈ gw := List.mem_filter.mpr ⟨List.mem_of_getElem? (i := 72) (by decide +kernel), by decide +kernel⟩
theorem ki_73 : (.instantiable RX0 7 : Cond) ∈ gw := List.mem_filter.mpr ⟨List.mem_of_getElem? (i := 73) (by decide +kernel), by decide +kernel⟩
theorem ki_74 : (.methodLink RX8 9 yX0_init : Cond) ∈ gw := List.mem_filter.mpr ⟨List.mem_of_getElem? (i := 74) (by decide +kernel), by decide +kernel⟩
theorem ki_75 : (.instanceMethod yX0_init : Cond) ∈ gw := List.mem_filter.mpr ⟨List.mem_of_getElem? (i := 75) (by decide +kernel), by decide +kernel⟩
theorem ki_77 : (.methodLink RX0 3 objectInit : Cond) ∈ gw := List.mem_filter.mpr ⟨List.mem_of_getElem? (i := 77) (by decide +kernel), by decide +kernel⟩
theorem ki_78 : (.fieldLink RX0 25 "DiscYard$Board" "pegs" "I" : Cond) ∈ gw := List.mem_filter.mpr ⟨List.mem_of_getElem? (i := 78) (by decide +kernel), by decide +kernel⟩
theorem ki_82 : (.fieldLink RX0 29 "DiscYard$Board" "discs" "I" : Cond) ∈ gw := List.mem_filter.mpr ⟨List.mem_of_getElem? (i := 82) (by decide +kernel), by decide +kernel⟩
theorem ki_86 : (.fieldLink RX0 32 "DiscYard$Board" "stands" "I" : Cond) ∈ gw := List.mem_filter.mpr ⟨List.mem_of_getElem? (i := 86) (by decide +kernel), by decide +kernel⟩
theorem ki_90 : (.fieldLink RX0 9 "DiscYard$Board" "weights" "[I" : Cond) ∈ gw := List.mem_filter.mpr ⟨List.mem_of_getElem? (i := 90) (by decide +kernel), by decide +kernel⟩
theorem ki_94 : (.fieldLink RX0 15 "DiscYard$Board" "kinds" "[I" : Cond) ∈ gw := List.mem_filter.mpr ⟨List.mem_of_getElem? (i := 94) (by decide +kernel), by decide +kernel⟩
theorem ki_97 : (.fieldLink RX0 18 "DiscYard$Board" "costs" "[I" : Cond) ∈ gw := List.mem_filter.mpr ⟨List.mem_of_getElem? (i := 97) (by decide +kernel), by decide +kernel⟩
theorem ki_100 : (.fieldLink RX0 21 "DiscYard$Board" "strong" "[Z" : Cond) ∈ gw := List.mem_filter.mpr ⟨List.mem_of_getElem? (i := 100) (by decide +kernel), by decide +kernel⟩
theorem ki_119 : (.classLink RX8 16 RX3 : Cond) ∈ gw := List.mem_filter.mpr ⟨List.mem_of_getElem? (i := 119) (by decide +kernel), by decide +kernel⟩
theorem ki_120 : (.instantiable RX3 10 : Cond) ∈ gw := List.mem_filter.mpr ⟨List.mem_of_getElem? (i := 120) (by decide +kernel), by decide +kernel⟩
theorem ki_122 : (.instanceMethod yX3_init : Cond) ∈ gw := List.mem_filter.mpr ⟨List.mem_of_getElem? (i := 122) (by decide +kernel), by decide +kernel⟩
theorem ki_124 : (.methodLink RX3 3 objectInit : Cond) ∈ gw := List.mem_filter.mpr ⟨List.mem_of_getElem? (i := 124) (by decide +kernel), by decide +kernel⟩
theorem ki_125 : (.fieldLink RX3 9 "DiscYard$Look" "pegOf" "[I" : Cond) ∈ gw := List.mem_filter.mpr ⟨List.mem_of_getElem? (i := 125) (by decide +kernel), by decide +kernel⟩
theorem ki_128 : (.fieldLink RX3 15 "DiscYard$Look" "tops" "[I" : Cond) ∈ gw := List.mem_filter.mpr ⟨List.mem_of_getElem? (i := 128) (by decide +kernel), by decide +kernel⟩
theorem ki_130 : (.fieldLink RX3 18 "DiscYard$Look" "bases" "[I" : Cond) ∈ gw := List.mem_filter.mpr ⟨List.mem_of_getElem? (i := 130) (by decide +kernel), by decide +kernel⟩
theorem ki_131 : (.fieldLink RX3 21 "DiscYard$Look" "loads" "[I" : Cond) ∈ gw := List.mem_filter.mpr ⟨List.mem_of_getElem? (i := 131) (by decide +kernel), by decide +kernel⟩
theorem ki_132 : (.fieldLink RX3 24 "DiscYard$Look" "codes" "[I" : Cond) ∈ gw := List.mem_filter.mpr ⟨List.mem_of_getElem? (i := 132) (by decide +kernel), by decide +kernel⟩
theorem ki_134 : (.fieldLink RX3 27 "DiscYard$Look" "targets" "[I" : Cond) ∈ gw := List.mem_filter.mpr ⟨List.mem_of_getElem? (i := 134) (by decide +kernel), by decide +kernel⟩
theorem ki_137 : (.fieldLink RX3 30 "DiscYard$Look" "prices" "[I" : Cond) ∈ gw := List.mem_filter.mpr ⟨List.mem_of_getElem? (i := 137) (by decide +kernel), by decide +kernel⟩
theorem ki_168 : (.classLink RX8 23 RX4 : Cond) ∈ gw := List.mem_filter.mpr ⟨List.mem_of_getElem? (i := 168) (by decide +kernel), by decide +kernel⟩
theorem ki_169 : (.instantiable RX4 4 : Cond) ∈ gw := List.mem_filter.mpr ⟨List.mem_of_getElem? (i := 169) (by decide +kernel), by decide +kernel⟩
theorem ki_171 : (.instanceMethod yX4_init : Cond) ∈ gw := List.mem_filter.mpr ⟨List.mem_of_getElem? (i := 171) (by decide +kernel), by decide +kernel⟩
theorem ki_173 : (.methodLink RX4 3 objectInit : Cond) ∈ gw := List.mem_filter.mpr ⟨List.mem_of_getElem? (i := 173) (by decide +kernel), by decide +kernel⟩
theorem ki_174 : (.fieldLink RX4 9 "DiscYard$Past" "earlier" "[I" : Cond) ∈ gw := List.mem_filter.mpr ⟨List.mem_of_getElem? (i := 174) (by decide +kernel), by decide +kernel⟩
theorem ki_175 : (.fieldLink RX4 15 "DiscYard$Past" "later" "[I" : Cond) ∈ gw := List.mem_filter.mpr ⟨List.mem_of_getElem? (i := 175) (by decide +kernel), by decide +kernel⟩
theorem ki_189 : (.classLink RX8 30 RX5 : Cond) ∈ gw := List.mem_filter.mpr ⟨List.mem_of_getElem? (i := 189) (by decide +kernel), by decide +kernel⟩
theorem ki_190 : (.instantiable RX5 2 : Cond) ∈ gw := List.mem_filter.mpr ⟨List.mem_of_getElem? (i := 190) (by decide +kernel), by decide +kernel⟩
theorem ki_192 : (.instanceMethod yX5_init : Cond) ∈ gw := List.mem_filter.mpr ⟨List.mem_of_getElem? (i := 192) (by decide +kernel), by decide +kernel⟩
theorem ki_194 : (.methodLink RX5 1 objectInit : Cond) ∈ gw := List.mem_filter.mpr ⟨List.mem_of_getElem? (i := 194) (by decide +kernel), by decide +kernel⟩
theorem ki_195 : (.fieldLink RX5 7 "DiscYard$Plan" "codes" "[I" : Cond) ∈ gw := List.mem_filter.mpr ⟨List.mem_of_getElem? (i := 195) (by decide +kernel), by decide +kernel⟩
theorem ki_205 : (.classLink RX8 37 RX6 : Cond) ∈ gw := List.mem_filter.mpr ⟨List.mem_of_getElem? (i := 205) (by decide +kernel), by decide +kernel⟩
theorem ki_206 : (.instantiable RX6 9 : Cond) ∈ gw := List.mem_filter.mpr ⟨List.mem_of_getElem? (i := 206) (by decide +kernel), by decide +kernel⟩
theorem ki_208 : (.instanceMethod yX6_init : Cond) ∈ gw := List.mem_filter.mpr ⟨List.mem_of_getElem? (i := 208) (by decide +kernel), by decide +kernel⟩
theorem ki_210 : (.methodLink RX6 3 objectInit : Cond) ∈ gw := List.mem_filter.mpr ⟨List.mem_of_getElem? (i := 210) (by decide +kernel), by decide +kernel⟩
theorem ki_211 : (.fieldLink RX6 11 "DiscYard$Search" "heads" "[I" : Cond) ∈ gw := List.mem_filter.mpr ⟨List.mem_of_getElem? (i := 211) (by decide +kernel), by decide +kernel⟩
theorem ki_212 : (.fieldLink RX6 15 "DiscYard$Search" "costs" "[I" : Cond) ∈ gw := List.mem_filter.mpr ⟨List.mem_of_getElem? (i := 212) (by decide +kernel), by decide +kernel⟩
theorem ki_213 : (.fieldLink RX6 18 "DiscYard$Search" "rows" "[J" : Cond) ∈ gw := List.mem_filter.mpr ⟨List.mem_of_getElem? (i := 213) (by decide +kernel), by decide +kernel⟩
theorem ki_214 : (.fieldLink RX6 22 "DiscYard$Search" "order" "[I" : Cond) ∈ gw := List.mem_filter.mpr ⟨List.mem_of_getElem? (i := 214) (by decide +kernel), by decide +kernel⟩
theorem ki_215 : (.fieldLink RX6 25 "DiscYard$Search" "after" "[I" : Cond) ∈ gw := List.mem_filter.mpr ⟨List.mem_of_getElem? (i := 215) (by decide +kernel), by decide +kernel⟩
theorem ki_216 : (.fieldLink RX6 28 "DiscYard$Search" "before" "[I" : Cond) ∈ gw := List.mem_filter.mpr ⟨List.mem_of_getElem? (i := 216) (by decide +kernel), by decide +kernel⟩
theorem ki_217 : (.fieldLink RX6 31 "DiscYard$Search" "leads" "[I" : Cond) ∈ gw := List.mem_filter.mpr ⟨List.mem_of_getElem? (i := 217) (by decide +kernel), by decide +kernel⟩
theorem ki_218 : (.fieldLink RX6 34 "DiscYard$Search" "start" "I" : Cond) ∈ gw := List.mem_filter.mpr ⟨List.mem_of_getElem? (i := 218) (by decide +kernel), by decide +kernel⟩
theorem ki_241 : (.classLink RX8 44 RX2 : Cond) ∈ gw := List.mem_filter.mpr ⟨List.mem_of_getElem? (i := 241) (by decide +kernel), by decide +kernel⟩
theorem ki_242 : (.instantiable RX2 13 : Cond) ∈ gw := List.mem_filter.mpr ⟨List.mem_of_getElem? (i := 242) (by decide +kernel), by decide +kernel⟩
theorem ki_244 : (.instanceMethod yX2_init : Cond) ∈ gw := List.mem_filter.mpr ⟨List.mem_of_getElem? (i := 244) (by decide +kernel), by decide +kernel⟩
theorem ki_246 : (.methodLink RX2 3 objectInit : Cond) ∈ gw := List.mem_filter.mpr ⟨List.mem_of_getElem? (i := 246) (by decide +kernel), by decide +kernel⟩
theorem ki_247 : (.fieldLink RX2 9 "DiscYard$Knots" "marks" "[I" : Cond) ∈ gw := List.mem_filter.mpr ⟨List.mem_of_getElem? (i := 247) (by decide +kernel), by decide +kernel⟩
theorem ki_248 : (.fieldLink RX2 15 "DiscYard$Knots" "lows" "[I" : Cond) ∈ gw := List.mem_filter.mpr ⟨List.mem_of_getElem? (i := 248) (by decide +kernel), by decide +kernel⟩
theorem ki_249 : (.fieldLink RX2 18 "DiscYard$Knots" "places" "[I" : Cond) ∈ gw := List.mem_filter.mpr ⟨List.mem_of_getElem? (i := 249) (by decide +kernel), by decide +kernel⟩
theorem ki_250 : (.fieldLink RX2 21 "DiscYard$Knots" "path" "[I" : Cond) ∈ gw := List.mem_filter.mpr ⟨List.mem_of_getElem? (i := 250) (by decide +kernel), by decide +kernel⟩
theorem ki_251 : (.fieldLink RX2 24 "DiscYard$Knots" "pile" "[I" : Cond) ∈ gw := List.mem_filter.mpr ⟨List.mem_of_getElem? (i := 251) (by decide +kernel), by decide +kernel⟩
theorem ki_252 : (.fieldLink RX2 27 "DiscYard$Knots" "setOf" "[I" : Cond) ∈ gw := List.mem_filter.mpr ⟨List.mem_of_getElem? (i := 252) (by decide +kernel), by decide +kernel⟩
theorem ki_253 : (.fieldLink RX2 30 "DiscYard$Knots" "sizes" "[I" : Cond) ∈ gw := List.mem_filter.mpr ⟨List.mem_of_getElem? (i := 253) (by decide +kernel), by decide +kernel⟩
theorem ki_254 : (.fieldLink RX2 33 "DiscYard$Knots" "leaves" "[I" : Cond) ∈ gw := List.mem_filter.mpr ⟨List.mem_of_getElem? (i := 254) (by decide +kernel), by decide +kernel⟩
theorem ki_288 : (.classLink RX8 51 RX1 : Cond) ∈ gw := List.mem_filter.mpr ⟨List.mem_of_getElem? (i := 288) (by decide +kernel), by decide +kernel⟩
theorem ki_289 : (.instantiable RX1 6 : Cond) ∈ gw := List.mem_filter.mpr ⟨List.mem_of_getElem? (i := 289) (by decide +kernel), by decide +kernel⟩
theorem ki_291 : (.instanceMethod yX1_init : Cond) ∈ gw := List.mem_filter.mpr ⟨List.mem_of_getElem? (i := 291) (by decide +kernel), by decide +kernel⟩
theorem ki_293 : (.methodLink RX1 3 objectInit : Cond) ∈ gw := List.mem_filter.mpr ⟨List.mem_of_getElem? (i := 293) (by decide +kernel), by decide +kernel⟩
theorem ki_294 : (.fieldLink RX1 9 "DiscYard$Book" "lengths" "[I" : Cond) ∈ gw := List.mem_filter.mpr ⟨List.mem_of_getElem? (i := 294) (by decide +kernel), by decide +kernel⟩
theorem ki_296 : (.fieldLink RX1 15 "DiscYard$Book" "called" "[I" : Cond) ∈ gw := List.mem_filter.mpr ⟨List.mem_of_getElem? (i := 296) (by decide +kernel), by decide +kernel⟩
theorem ki_298 : (.fieldLink RX1 18 "DiscYard$Book" "less" "[I" : Cond) ∈ gw := List.mem_filter.mpr ⟨List.mem_of_getElem? (i := 298) (by decide +kernel), by decide +kernel⟩
theorem ki_300 : (.fieldLink RX1 21 "DiscYard$Book" "roles" "[I" : Cond) ∈ gw := List.mem_filter.mpr ⟨List.mem_of_getElem? (i := 300) (by decide +kernel), by decide +kernel⟩
theorem ki_302 : (.fieldLink RX1 24 "DiscYard$Book" "tallies" "[J" : Cond) ∈ gw := List.mem_filter.mpr ⟨List.mem_of_getElem? (i := 302) (by decide +kernel), by decide +kernel⟩
theorem ki_318 : (.classLink RX8 58 RX7 : Cond) ∈ gw := List.mem_filter.mpr ⟨List.mem_of_getElem? (i := 318) (by decide +kernel), by decide +kernel⟩
theorem ki_319 : (.instantiable RX7 5 : Cond) ∈ gw := List.mem_filter.mpr ⟨List.mem_of_getElem? (i := 319) (by decide +kernel), by decide +kernel⟩
theorem ki_321 : (.instanceMethod yX7_init : Cond) ∈ gw := List.mem_filter.mpr ⟨List.mem_of_getElem? (i := 321) (by decide +kernel), by decide +kernel⟩
theorem ki_323 : (.methodLink RX7 3 objectInit : Cond) ∈ gw := List.mem_filter.mpr ⟨List.mem_of_getElem? (i := 323) (by decide +kernel), by decide +kernel⟩
theorem ki_324 : (.classLink RX7 9 "[[I" : Cond) ∈ gw := List.mem_filter.mpr ⟨List.mem_of_getElem? (i := 324) (by decide +kernel), by decide +kernel⟩
theorem ki_326 : (.fieldLink RX7 11 "DiscYard$Trial" "pegs" "[[I" : Cond) ∈ gw := List.mem_filter.mpr ⟨List.mem_of_getElem? (i := 326) (by decide +kernel), by decide +kernel⟩
theorem ki_330 : (.fieldLink RX7 16 "DiscYard$Trial" "failedAt" "I" : Cond) ∈ gw := List.mem_filter.mpr ⟨List.mem_of_getElem? (i := 330) (by decide +kernel), by decide +kernel⟩
theorem ki_343 : (.fieldLink RX8 10 "DiscYard" "board" "LDiscYard$Board;" : Cond) ∈ gw := List.mem_filter.mpr ⟨List.mem_of_getElem? (i := 343) (by decide +kernel), by decide +kernel⟩
theorem ki_344 : (.fieldLink RX8 19 "DiscYard" "look" "LDiscYard$Look;" : Cond) ∈ gw := List.mem_filter.mpr ⟨List.mem_of_getElem? (i := 344) (by decide +kernel), by decide +kernel⟩
theorem ki_345 : (.fieldLink RX8 26 "DiscYard" "past" "LDiscYard$Past;" : Cond) ∈ gw := List.mem_filter.mpr ⟨List.mem_of_getElem? (i := 345) (by decide +kernel), by decide +kernel⟩
theorem ki_346 : (.fieldLink RX8 33 "DiscYard" "thePlan" "LDiscYard$Plan;" : Cond) ∈ gw := List.mem_filter.mpr ⟨List.mem_of_getElem? (i := 346) (by decide +kernel), by decide +kernel⟩
theorem ki_347 : (.fieldLink RX8 40 "DiscYard" "search" "LDiscYard$Search;" : Cond) ∈ gw := List.mem_filter.mpr ⟨List.mem_of_getElem? (i := 347) (by decide +kernel), by decide +kernel⟩
theorem ki_348 : (.fieldLink RX8 47 "DiscYard" "knots" "LDiscYard$Knots;" : Cond) ∈ gw := List.mem_filter.mpr ⟨List.mem_of_getElem? (i := 348) (by decide +kernel), by decide +kernel⟩
theorem ki_349 : (.fieldLink RX8 54 "DiscYard" "book" "LDiscYard$Book;" : Cond) ∈ gw := List.mem_filter.mpr ⟨List.mem_of_getElem? (i := 349) (by decide +kernel), by decide +kernel⟩
theorem ki_350 : (.fieldLink RX8 61 "DiscYard" "trial" "LDiscYard$Trial;" : Cond) ∈ gw := List.mem_filter.mpr ⟨List.mem_of_getElem? (i := 350) (by decide +kernel), by decide +kernel⟩
theorem ki_827 : (.methodLink RX9 1 objectInit : Cond) ∈ gw := List.mem_filter.mpr ⟨List.mem_of_getElem? (i := 827) (by decide +kernel), by decide +kernel⟩
theorem ki_828 : (.fieldLink RX9 7 "DiscYardModel" "pegs" "I" : Cond) ∈ gw := List.mem_filter.mpr ⟨List.mem_of_getElem? (i := 828) (by decide +kernel), by decide +kernel⟩
theorem ki_829 : (.fieldLink RX9 13 "DiscYardModel" "discs" "I" : Cond) ∈ gw := List.mem_filter.mpr ⟨List.mem_of_getElem? (i := 829) (by decide +kernel), by decide +kernel⟩
theorem ki_832 : (.fieldLink RX9 16 "DiscYardModel" "kinds" "[I" : Cond) ∈ gw := List.mem_filter.mpr ⟨List.mem_of_getElem? (i := 832) (by decide +kernel), by decide +kernel⟩
theorem ki_833 : (.fieldLink RX9 20 "DiscYardModel" "stand" "[I" : Cond) ∈ gw := List.mem_filter.mpr ⟨List.mem_of_getElem? (i := 833) (by decide +kernel), by decide +kernel⟩
theorem ki_834 : (.fieldLink RX9 23 "DiscYardModel" "goal" "[I" : Cond) ∈ gw := List.mem_filter.mpr ⟨List.mem_of_getElem? (i := 834) (by decide +kernel), by decide +kernel⟩
theorem ki_835 : (.fieldLink RX9 26 "DiscYardModel" "costs" "[I" : Cond) ∈ gw := List.mem_filter.mpr ⟨List.mem_of_getElem? (i := 835) (by decide +kernel), by decide +kernel⟩
theorem ki_836 : (.fieldLink RX9 29 "DiscYardModel" "isStrong" "[Z" : Cond) ∈ gw := List.mem_filter.mpr ⟨List.mem_of_getElem? (i := 836) (by decide +kernel), by decide +kernel⟩
theorem ki_837 : (.fieldLink RX9 33 "DiscYardModel" "past" "[I" : Cond) ∈ gw := List.mem_filter.mpr ⟨List.mem_of_getElem? (i := 837) (by decide +kernel), by decide +kernel⟩
theorem ki_840 : (.fieldLink RX9 36 "DiscYardModel" "plan" "[I" : Cond) ∈ gw := List.mem_filter.mpr ⟨List.mem_of_getElem? (i := 840) (by decide +kernel), by decide +kernel⟩
theorem ki_842 : (.fieldLink RX9 39 "DiscYardModel" "at" "[I" : Cond) ∈ gw := List.mem_filter.mpr ⟨List.mem_of_getElem? (i := 842) (by decide +kernel), by decide +kernel⟩
theorem ki_843 : (.fieldLink RX9 42 "DiscYardModel" "next" "[I" : Cond) ∈ gw := List.mem_filter.mpr ⟨List.mem_of_getElem? (i := 843) (by decide +kernel), by decide +kernel⟩
theorem ki_844 : (.fieldLink RX9 45 "DiscYardModel" "far" "[I" : Cond) ∈ gw := List.mem_filter.mpr ⟨List.mem_of_getElem? (i := 844) (by decide +kernel), by decide +kernel⟩
theorem ki_845 : (.fieldLink RX9 48 "DiscYardModel" "after" "[I" : Cond) ∈ gw := List.mem_filter.mpr ⟨List.mem_of_getElem? (i := 845) (by decide +kernel), by decide +kernel⟩
theorem ki_846 : (.fieldLink RX9 51 "DiscYardModel" "before" "[I" : Cond) ∈ gw := List.mem_filter.mpr ⟨List.mem_of_getElem? (i := 846) (by decide +kernel), by decide +kernel⟩
theorem ki_847 : (.fieldLink RX9 54 "DiscYardModel" "heads" "[I" : Cond) ∈ gw := List.mem_filter.mpr ⟨List.mem_of_getElem? (i := 847) (by decide +kernel), by decide +kernel⟩
theorem ki_848 : (.fieldLink RX9 57 "DiscYardModel" "met" "[I" : Cond) ∈ gw := List.mem_filter.mpr ⟨List.mem_of_getElem? (i := 848) (by decide +kernel), by decide +kernel⟩
theorem ki_850 : (.fieldLink RX9 60 "DiscYardModel" "many" "[J" : Cond) ∈ gw := List.mem_filter.mpr ⟨List.mem_of_getElem? (i := 850) (by decide +kernel), by decide +kernel⟩
theorem ki_851 : (.fieldLink RX9 64 "DiscYardModel" "isGood" "[Z" : Cond) ∈ gw := List.mem_filter.mpr ⟨List.mem_of_getElem? (i := 851) (by decide +kernel), by decide +kernel⟩
theorem ki_852 : (.fieldLink RX9 67 "DiscYardModel" "isDone" "[Z" : Cond) ∈ gw := List.mem_filter.mpr ⟨List.mem_of_getElem? (i := 852) (by decide +kernel), by decide +kernel⟩
theorem ki_853 : (.fieldLink RX9 70 "DiscYardModel" "order" "[I" : Cond) ∈ gw := List.mem_filter.mpr ⟨List.mem_of_getElem? (i := 853) (by decide +kernel), by decide +kernel⟩
theorem ki_854 : (.fieldLink RX9 73 "DiscYardModel" "lowest" "[I" : Cond) ∈ gw := List.mem_filter.mpr ⟨List.mem_of_getElem? (i := 854) (by decide +kernel), by decide +kernel⟩
theorem ki_855 : (.fieldLink RX9 76 "DiscYardModel" "set" "[I" : Cond) ∈ gw := List.mem_filter.mpr ⟨List.mem_of_getElem? (i := 855) (by decide +kernel), by decide +kernel⟩
theorem ki_856 : (.fieldLink RX9 79 "DiscYardModel" "walk" "[I" : Cond) ∈ gw := List.mem_filter.mpr ⟨List.mem_of_getElem? (i := 856) (by decide +kernel), by decide +kernel⟩
theorem ki_857 : (.fieldLink RX9 82 "DiscYardModel" "pile" "[I" : Cond) ∈ gw := List.mem_filter.mpr ⟨List.mem_of_getElem? (i := 857) (by decide +kernel), by decide +kernel⟩
theorem ki_858 : (.fieldLink RX9 85 "DiscYardModel" "move" "[I" : Cond) ∈ gw := List.mem_filter.mpr ⟨List.mem_of_getElem? (i := 858) (by decide +kernel), by decide +kernel⟩
theorem ki_859 : (.fieldLink RX9 88 "DiscYardModel" "setSize" "[I" : Cond) ∈ gw := List.mem_filter.mpr ⟨List.mem_of_getElem? (i := 859) (by decide +kernel), by decide +kernel⟩
theorem ki_860 : (.fieldLink RX9 91 "DiscYardModel" "leaves" "[Z" : Cond) ∈ gw := List.mem_filter.mpr ⟨List.mem_of_getElem? (i := 860) (by decide +kernel), by decide +kernel⟩
theorem ki_862 : (.fieldLink RX9 94 "DiscYardModel" "names" "[I" : Cond) ∈ gw := List.mem_filter.mpr ⟨List.mem_of_getElem? (i := 862) (by decide +kernel), by decide +kernel⟩
theorem ki_863 : (.fieldLink RX9 97 "DiscYardModel" "spareCosts" "[I" : Cond) ∈ gw := List.mem_filter.mpr ⟨List.mem_of_getElem? (i := 863) (by decide +kernel), by decide +kernel⟩
theorem ki_864 : (.fieldLink RX9 100 "DiscYardModel" "spareStrong" "[Z" : Cond) ∈ gw := List.mem_filter.mpr ⟨List.mem_of_getElem? (i := 864) (by decide +kernel), by decide +kernel⟩
theorem ki_865 : (.fieldLink RX9 103 "DiscYardModel" "stepMany" "[I" : Cond) ∈ gw := List.mem_filter.mpr ⟨List.mem_of_getElem? (i := 865) (by decide +kernel), by decide +kernel⟩
theorem ki_866 : (.fieldLink RX9 106 "DiscYardModel" "stepOf" "[I" : Cond) ∈ gw := List.mem_filter.mpr ⟨List.mem_of_getElem? (i := 866) (by decide +kernel), by decide +kernel⟩
theorem ki_867 : (.fieldLink RX9 109 "DiscYardModel" "stepLess" "[I" : Cond) ∈ gw := List.mem_filter.mpr ⟨List.mem_of_getElem? (i := 867) (by decide +kernel), by decide +kernel⟩
theorem ki_868 : (.fieldLink RX9 112 "DiscYardModel" "stepRoles" "[I" : Cond) ∈ gw := List.mem_filter.mpr ⟨List.mem_of_getElem? (i := 868) (by decide +kernel), by decide +kernel⟩
theorem ki_870 : (.fieldLink RX9 115 "DiscYardModel" "counts" "[J" : Cond) ∈ gw := List.mem_filter.mpr ⟨List.mem_of_getElem? (i := 870) (by decide +kernel), by decide +kernel⟩
theorem ki_871 : (.fieldLink RX9 118 "DiscYardModel" "openScheme" "[I" : Cond) ∈ gw := List.mem_filter.mpr ⟨List.mem_of_getElem? (i := 871) (by decide +kernel), by decide +kernel⟩
theorem ki_872 : (.fieldLink RX9 121 "DiscYardModel" "openHeight" "[I" : Cond) ∈ gw := List.mem_filter.mpr ⟨List.mem_of_getElem? (i := 872) (by decide +kernel), by decide +kernel⟩
theorem ki_873 : (.fieldLink RX9 124 "DiscYardModel" "openStep" "[I" : Cond) ∈ gw := List.mem_filter.mpr ⟨List.mem_of_getElem? (i := 873) (by decide +kernel), by decide +kernel⟩
theorem ki_874 : (.fieldLink RX9 127 "DiscYardModel" "openPegs" "[I" : Cond) ∈ gw := List.mem_filter.mpr ⟨List.mem_of_getElem? (i := 874) (by decide +kernel), by decide +kernel⟩
theorem ki_875 : (.fieldLink RX9 130 "DiscYardModel" "failedMove" "I" : Cond) ∈ gw := List.mem_filter.mpr ⟨List.mem_of_getElem? (i := 875) (by decide +kernel), by decide +kernel⟩
set_option maxRecDepth 100000 in
theorem gi_X0_init : GoodIn gw (bw yX0_init cX0_init 1 none) := bi_good (List.mem_of_getElem? (i := 76) rfl)
set_option maxHeartbeats 8000000 in
set_option maxRecDepth 100000 in
theorem i_X0_init (l : Launch) (D : va_G) (cI cZ cL cG : ClassId) (h0 sz : Nat) : Met l yX0_init (bw yX0_init cX0_init 1 none) (crm 1 12 4 64) (va_Pc [.ref h0] (fun U => U.heap.size = sz ∧ va_P D vwCl [(h0, .inr (0, [.int 0, .int 0, .int 0, .null, .null, .null, .null]))] U.heap ∧ va_K D vwCl (cTy cI cZ cL cG) U ∧ va_D (fun _ => True) [(h0, .inr (0, [.int 0, .int 0, .int 0, .null, .null, .null, .null]))])) (va_Qv (fun _ : Nat → Nat => True) (fun f t => va_P D vwCl [(h0, .inr (0, [.int 3, .int 1, .int 3, .ref (f 9), .ref (f 10), .ref (f 11), .ref (f 12)])), ((f 9), .inl (cI, 7, .inl (upd (fun _ => 0) (0 : Int32).toNatClampNeg 1))), ((f 10), .inl (cI, 7, .inl (fun _ => 0))), ((f 11), .inl (cI, 25, .inl (fun _ => 0))), ((f 12), .inl (cZ, 25, .inl (fun _ => 0)))] t.heap ∧ va_K D vwCl (cTy cI cZ cL cG) t ∧ va_D (va_A [(h0, .inr (0, [.int 0, .int 0, .int 0, .null, .null, .null, .null]))] sz) [(h0, .inr (0, [.int 3, .int 1, .int 3, .ref (f 9), .ref (f 10), .ref (f 11), .ref (f 12)])), ((f 9), .inl (cI, 7, .inl (upd (fun _ => 0) (0 : Int32).toNatClampNeg 1))), ((f 10), .inl (cI, 7, .inl (fun _ => 0))), ((f 11), .inl (cI, 25, .inl (fun _ => 0))), ((f 12), .inl (cZ, 25, .inl (fun _ => 0)))]) (va_A [(h0, .inr (0, [.int 0, .int 0, .int 0, .null, .null, .null, .null]))] sz)) 4 64 (va_A [(h0, .inr (0, [.int 0, .int 0, .int 0, .null, .null, .null, .null]))] sz) := by
  refine Met.ofW (cc := cX0_init) (maxL := 1) (ret := none) (by decide) rfl ?_
  intro p e s m args below meth c s₁ B hml hv
  obtain ⟨rfl, hsz, hP, hK, hD0⟩ := hv
  have hx := B.exec
  have hb := B.bytes
  have hts0 := atoms_spec (ws := bw yX0_init cX0_init 1 none) B.pre
  have hts : ∀ w ∈ gw, w.before _ s = true := fun w h => hts0 w (List.mem_cons_of_mem _ h)
  have hown : s.vm.findClass RX0 = some m.cls := findClass_of_methodNamed B.named
  have hin : meth.name = "<init>" := (name_of_methodNamed B.named B.method).1
  subst hsz
  have hD := hD0.self (sz := s.heap.size)
  generalize hAe : va_A [(h0, .inr (0, [.int 0, .int 0, .int 0, .null, .null, .null, .null]))] s.heap.size = A at hD ⊢
  have hA : ∀ q : Nat, s.heap.size ≤ q → A q := fun q h => by rw [← hAe]; exact Or.inr h
  have hS : va_S A s.heap s.heap [] := va_S.rf
  have hl := lv_entry ([.ref h0]) (n := 1) (Nat.le_of_ble_eq_true rfl)
  rw [lg_entry_eq]
  generalize (lg_sl ([.ref h0]) ++ List.replicate (1 - (lg_sl ([.ref h0])).length) Slot.unset).toArray = ls at hl ⊢
  have hl : lv_has ls 1 [(0, .ref h0)] := hl
  refine lv_aload_n hx hb dX0_init_0 rfl (lv_at hl 0 rfl) ?_
  refine W.objInit hx hb hown (hts _ ki_77) (hts _ ki_70) (hts _ ki_71) rfl (by rw [hml]; exact hl.1) rfl dX0_init_1 (Nat.le_of_ble_eq_true rfl) (Nat.le_of_ble_eq_true rfl) ?_
  refine W.eq (g2 := F0 m 4 ls []) rfl ?_
  refine lv_aload_n hx hb dX0_init_4 rfl (lv_at hl 0 rfl) ?_
  refine lv_bipush (v := 7) hx hb dX0_init_5 (by decide) ?_
  refine knew_int (N := 7) hx hb hts hK hP hD hS hA rfl (by decide) (by decide) (Nat.le_of_ble_eq_true rfl) (Nat.le_of_ble_eq_true rfl) dX0_init_7 (fun q1 H hP hD hS => ?_)
  replace hP : va_P D vwCl [(h0, .inr (0, [.int 0, .int 0, .int 0, .null, .null, .null, .null])), (q1, .inl (cI, 7, .inl (fun _ => 0)))] H := hP
  replace hD : va_D A [(h0, .inr (0, [.int 0, .int 0, .int 0, .null, .null, .null, .null])), (q1, .inl (cI, 7, .inl (fun _ => 0)))] := hD
  refine va_putF (D := D) (ci := 0) (v := .ref q1) (ty := .array .int) (C := RX0) (T := TX0) (N := 7) hx hb hts inX0 tyX0 tyX0_ok nmX0 hown hK hP hD hS 0 rfl rfl 3 (by decide) (hts _ ki_90) (fun _ h9 => h9) rfl hin rfl (by decide +kernel) rfl rfl (Nat.le_of_ble_eq_true rfl) dX0_init_9 (fun H locs hP hD hS => ?_)
  replace hP : va_P D vwCl [(h0, .inr (0, [.int 0, .int 0, .int 0, .ref q1, .null, .null, .null])), (q1, .inl (cI, 7, .inl (fun _ => 0)))] H := hP
  replace hD : va_D A [(h0, .inr (0, [.int 0, .int 0, .int 0, .ref q1, .null, .null, .null])), (q1, .inl (cI, 7, .inl (fun _ => 0)))] := hD
  refine lv_aload_n hx hb dX0_init_12 rfl (lv_at hl 0 rfl) ?_
  refine lv_bipush (v := 7) hx hb dX0_init_13 (by decide) ?_
  refine knew_int (N := 7) hx hb hts hK hP hD hS hA rfl (by decide) (by decide) (Nat.le_of_ble_eq_true rfl) (Nat.le_of_ble_eq_true rfl) dX0_init_15 (fun q2 H hP hD hS => ?_)
  replace hP : va_P D vwCl [(h0, .inr (0, [.int 0, .int 0, .int 0, .ref q1, .null, .null, .null])), (q1, .inl (cI, 7, .inl (fun _ => 0))), (q2, .inl (cI, 7, .inl (fun _ => 0)))] H := hP
  replace hD : va_D A [(h0, .inr (0, [.int 0, .int 0, .int 0, .ref q1, .null, .null, .null])), (q1, .inl (cI, 7, .inl (fun _ => 0))), (q2, .inl (cI, 7, .inl (fun _ => 0)))] := hD
  refine va_putF (D := D) (ci := 0) (v := .ref q2) (ty := .array .int) (C := RX0) (T := TX0) (N := 7) hx hb hts inX0 tyX0 tyX0_ok nmX0 hown hK hP hD hS 0 rfl rfl 4 (by decide) (hts _ ki_94) (fun _ h9 => h9) rfl hin rfl (by decide +kernel) rfl rfl (Nat.le_of_ble_eq_true rfl) dX0_init_17 (fun H locs hP hD hS => ?_)
  replace hP : va_P D vwCl [(h0, .inr (0, [.int 0, .int 0, .int 0, .ref q1, .ref q2, .null, .null])), (q1, .inl (cI, 7, .inl (fun _ => 0))), (q2, .inl (cI, 7, .inl (fun _ => 0)))] H := hP
  replace hD : va_D A [(h0, .inr (0, [.int 0, .int 0, .int 0, .ref q1, .ref q2, .null, .null])), (q1, .inl (cI, 7, .inl (fun _ => 0))), (q2, .inl (cI, 7, .inl (fun _ => 0)))] := hD
  refine lv_aload_n hx hb dX0_init_20 rfl (lv_at hl 0 rfl) ?_
  refine lv_bipush (v := 25) hx hb dX0_init_21 (by decide) ?_
  refine knew_int (N := 25) hx hb hts hK hP hD hS hA rfl (by decide) (by decide) (Nat.le_of_ble_eq_true rfl) (Nat.le_of_ble_eq_true rfl) dX0_init_23 (fun q3 H hP hD hS => ?_)
  replace hP : va_P D vwCl [(h0, .inr (0, [.int 0, .int 0, .int 0, .ref q1, .ref q2, .null, .null])), (q1, .inl (cI, 7, .inl (fun _ => 0))), (q2, .inl (cI, 7, .inl (fun _ => 0))), (q3, .inl (cI, 25, .inl (fun _ => 0)))] H := hP
  replace hD : va_D A [(h0, .inr (0, [.int 0, .int 0, .int 0, .ref q1, .ref q2, .null, .null])), (q1, .inl (cI, 7, .inl (fun _ => 0))), (q2, .inl (cI, 7, .inl (fun _ => 0))), (q3, .inl (cI, 25, .inl (fun _ => 0)))] := hD
  refine va_putF (D := D) (ci := 0) (v := .ref q3) (ty := .array .int) (C := RX0) (T := TX0) (N := 7) hx hb hts inX0 tyX0 tyX0_ok nmX0 hown hK hP hD hS 0 rfl rfl 5 (by decide) (hts _ ki_97) (fun _ h9 => h9) rfl hin rfl (by decide +kernel) rfl rfl (Nat.le_of_ble_eq_true rfl) dX0_init_25 (fun H locs hP hD hS => ?_)
  replace hP : va_P D vwCl [(h0, .inr (0, [.int 0, .int 0, .int 0, .ref q1, .ref q2, .ref q3, .null])), (q1, .inl (cI, 7, .inl (fun _ => 0))), (q2, .inl (cI, 7, .inl (fun _ => 0))), (q3, .inl (cI, 25, .inl (fun _ => 0)))] H := hP
  replace hD : va_D A [(h0, .inr (0, [.int 0, .int 0, .int 0, .ref q1, .ref q2, .ref q3, .null])), (q1, .inl (cI, 7, .inl (fun _ => 0))), (q2, .inl (cI, 7, .inl (fun _ => 0))), (q3, .inl (cI, 25, .inl (fun _ => 0)))] := hD
  refine lv_aload_n hx hb dX0_init_28 rfl (lv_at hl 0 rfl) ?_
  refine lv_bipush (v := 25) hx hb dX0_init_29 (by decide) ?_
  refine knew_boolean (N := 25) hx hb hts hK hP hD hS hA rfl (by decide) (by decide) (Nat.le_of_ble_eq_true rfl) (Nat.le_of_ble_eq_true rfl) dX0_init_31 (fun q4 H hP hD hS => ?_)
  replace hP : va_P D vwCl [(h0, .inr (0, [.int 0, .int 0, .int 0, .ref q1, .ref q2, .ref q3, .null])), (q1, .inl (cI, 7, .inl (fun _ => 0))), (q2, .inl (cI, 7, .inl (fun _ => 0))), (q3, .inl (cI, 25, .inl (fun _ => 0))), (q4, .inl (cZ, 25, .inl (fun _ => 0)))] H := hP
  replace hD : va_D A [(h0, .inr (0, [.int 0, .int 0, .int 0, .ref q1, .ref q2, .ref q3, .null])), (q1, .inl (cI, 7, .inl (fun _ => 0))), (q2, .inl (cI, 7, .inl (fun _ => 0))), (q3, .inl (cI, 25, .inl (fun _ => 0))), (q4, .inl (cZ, 25, .inl (fun _ => 0)))] := hD
  refine va_putF (D := D) (ci := 0) (v := .ref q4) (ty := .array .boolean) (C := RX0) (T := TX0) (N := 7) hx hb hts inX0 tyX0 tyX0_ok nmX0 hown hK hP hD hS 0 rfl rfl 6 (by decide) (hts _ ki_100) (fun _ h9 => h9) rfl hin rfl (by decide +kernel) rfl rfl (Nat.le_of_ble_eq_true rfl) dX0_init_33 (fun H locs hP hD hS => ?_)
  replace hP : va_P D vwCl [(h0, .inr (0, [.int 0, .int 0, .int 0, .ref q1, .ref q2, .ref q3, .ref q4])), (q1, .inl (cI, 7, .inl (fun _ => 0))), (q2, .inl (cI, 7, .inl (fun _ => 0))), (q3, .inl (cI, 25, .inl (fun _ => 0))), (q4, .inl (cZ, 25, .inl (fun _ => 0)))] H := hP
  replace hD : va_D A [(h0, .inr (0, [.int 0, .int 0, .int 0, .ref q1, .ref q2, .ref q3, .ref q4])), (q1, .inl (cI, 7, .inl (fun _ => 0))), (q2, .inl (cI, 7, .inl (fun _ => 0))), (q3, .inl (cI, 25, .inl (fun _ => 0))), (q4, .inl (cZ, 25, .inl (fun _ => 0)))] := hD
  refine lv_aload_n hx hb dX0_init_36 rfl (lv_at hl 0 rfl) ?_
  refine lv_iconst (v := 3) hx hb dX0_init_37 (by decide) ?_
  refine va_put (D := D) (ci := 0) (v := .int 3) (ty := .int) (C := RX0) (T := TX0) (N := 7) hx hb hts inX0 tyX0 tyX0_ok nmX0 hown hK hP hD hS 0 rfl rfl 0 (by decide) (hts _ ki_78) (fun _ h9 => h9) rfl (by decide +kernel) rfl rfl (Nat.le_of_ble_eq_true rfl) dX0_init_38 (fun H locs hP hD hS => ?_)
  replace hP : va_P D vwCl [(h0, .inr (0, [.int 3, .int 0, .int 0, .ref q1, .ref q2, .ref q3, .ref q4])), (q1, .inl (cI, 7, .inl (fun _ => 0))), (q2, .inl (cI, 7, .inl (fun _ => 0))), (q3, .inl (cI, 25, .inl (fun _ => 0))), (q4, .inl (cZ, 25, .inl (fun _ => 0)))] H := hP
  replace hD : va_D A [(h0, .inr (0, [.int 3, .int 0, .int 0, .ref q1, .ref q2, .ref q3, .ref q4])), (q1, .inl (cI, 7, .inl (fun _ => 0))), (q2, .inl (cI, 7, .inl (fun _ => 0))), (q3, .inl (cI, 25, .inl (fun _ => 0))), (q4, .inl (cZ, 25, .inl (fun _ => 0)))] := hD
  refine lv_aload_n hx hb dX0_init_41 rfl (lv_at hl 0 rfl) ?_
  refine lv_iconst (v := 1) hx hb dX0_init_42 (by decide) ?_
  refine va_put (D := D) (ci := 0) (v := .int 1) (ty := .int) (C := RX0) (T := TX0) (N := 7) hx hb hts inX0 tyX0 tyX0_ok nmX0 hown hK hP hD hS 0 rfl rfl 1 (by decide) (hts _ ki_82) (fun _ h9 => h9) rfl (by decide +kernel) rfl rfl (Nat.le_of_ble_eq_true rfl) dX0_init_43 (fun H locs hP hD hS => ?_)
  replace hP : va_P D vwCl [(h0, .inr (0, [.int 3, .int 1, .int 0, .ref q1, .ref q2, .ref q3, .ref q4])), (q1, .inl (cI, 7, .inl (fun _ => 0))), (q2, .inl (cI, 7, .inl (fun _ => 0))), (q3, .inl (cI, 25, .inl (fun _ => 0))), (q4, .inl (cZ, 25, .inl (fun _ => 0)))] H := hP
  replace hD : va_D A [(h0, .inr (0, [.int 3, .int 1, .int 0, .ref q1, .ref q2, .ref q3, .ref q4])), (q1, .inl (cI, 7, .inl (fun _ => 0))), (q2, .inl (cI, 7, .inl (fun _ => 0))), (q3, .inl (cI, 25, .inl (fun _ => 0))), (q4, .inl (cZ, 25, .inl (fun _ => 0)))] := hD
  refine lv_aload_n hx hb dX0_init_46 rfl (lv_at hl 0 rfl) ?_
  refine lv_iconst (v := 3) hx hb dX0_init_47 (by decide) ?_
  refine va_put (D := D) (ci := 0) (v := .int 3) (ty := .int) (C := RX0) (T := TX0) (N := 7) hx hb hts inX0 tyX0 tyX0_ok nmX0 hown hK hP hD hS 0 rfl rfl 2 (by decide) (hts _ ki_86) (fun _ h9 => h9) rfl (by decide +kernel) rfl rfl (Nat.le_of_ble_eq_true rfl) dX0_init_48 (fun H locs hP hD hS => ?_)
  replace hP : va_P D vwCl [(h0, .inr (0, [.int 3, .int 1, .int 3, .ref q1, .ref q2, .ref q3, .ref q4])), (q1, .inl (cI, 7, .inl (fun _ => 0))), (q2, .inl (cI, 7, .inl (fun _ => 0))), (q3, .inl (cI, 25, .inl (fun _ => 0))), (q4, .inl (cZ, 25, .inl (fun _ => 0)))] H := hP
  replace hD : va_D A [(h0, .inr (0, [.int 3, .int 1, .int 3, .ref q1, .ref q2, .ref q3, .ref q4])), (q1, .inl (cI, 7, .inl (fun _ => 0))), (q2, .inl (cI, 7, .inl (fun _ => 0))), (q3, .inl (cI, 25, .inl (fun _ => 0))), (q4, .inl (cZ, 25, .inl (fun _ => 0)))] := hD
  refine lv_aload_n hx hb dX0_init_51 rfl (lv_at hl 0 rfl) ?_
  refine va_get (D := D) (ci := 0) (v := .ref q1) (C := RX0) (T := TX0) (N := 7) hx hb hts inX0 hown hK hP 0 rfl rfl 3 (by decide) (hts _ ki_90) (fun _ h9 => h9) rfl dX0_init_52 ?_
  refine lv_iconst (v := 0) hx hb dX0_init_55 (by decide) ?_
  refine lv_iconst (v := 1) hx hb dX0_init_56 (by decide) ?_
  refine va_iast (f := fun _ => 0) hx hb hK hP hD hS 1 0 rfl rfl (show vp_in (0 : Int32) 7 by unfold vp_in; decide) dX0_init_57 (fun H locs hP hD hS => ?_)
  replace hP : va_P D vwCl [(h0, .inr (0, [.int 3, .int 1, .int 3, .ref q1, .ref q2, .ref q3, .ref q4])), (q1, .inl (cI, 7, .inl (upd (fun _ => 0) (0 : Int32).toNatClampNeg 1))), (q2, .inl (cI, 7, .inl (fun _ => 0))), (q3, .inl (cI, 25, .inl (fun _ => 0))), (q4, .inl (cZ, 25, .inl (fun _ => 0)))] H := hP
  replace hD : va_D A [(h0, .inr (0, [.int 3, .int 1, .int 3, .ref q1, .ref q2, .ref q3, .ref q4])), (q1, .inl (cI, 7, .inl (upd (fun _ => 0) (0 : Int32).toNatClampNeg 1))), (q2, .inl (cI, 7, .inl (fun _ => 0))), (q3, .inl (cI, 25, .inl (fun _ => 0))), (q4, .inl (cZ, 25, .inl (fun _ => 0)))] := hD
  refine W.widen (k := 4) (n := 64) (Nat.le_of_ble_eq_true rfl) (Nat.le_of_ble_eq_true rfl) ?_
  exact W.vret hx hb B.returns (fun t ht hW => ⟨⟨(va_ls [0, 0, 0, 0, 0, 0, 0, 0, 0, q1, q2, q3, q4]), rfl, trivial, by rw [ht]; exact hP, va_K.moved hW.alike hK, hD⟩, hS.F ht⟩) hS.2.2 dX0_init_58
set_option maxRecDepth 100000 in
theorem gi_X3_init : GoodIn gw (bw yX3_init cX3_init 1 none) := bi_good (List.mem_of_getElem? (i := 123) rfl)
set_option maxHeartbeats 8000000 in
set_option maxRecDepth 100000 in
theorem i_X3_init (l : Launch) (D : va_G) (cI cZ cL cG : ClassId) (h0 sz : Nat) : Met l yX3_init (bw yX3_init cX3_init 1 none) (crm 1 12 7 97) (va_Pc [.ref h0] (fun U => U.heap.size = sz ∧ va_P D vwCl [(h0, .inr (3, [.null, .null, .null, .null, .null, .null, .null, .int 0, .int 0, .int 0]))] U.heap ∧ va_K D vwCl (cTy cI cZ cL cG) U ∧ va_D (fun _ => True) [(h0, .inr (3, [.null, .null, .null, .null, .null, .null, .null, .int 0, .int 0, .int 0]))])) (va_Qv (fun _ : Nat → Nat => True) (fun f t => va_P D vwCl [(h0, .inr (3, [.ref (f 13), .ref (f 14), .ref (f 15), .ref (f 16), .ref (f 17), .ref (f 18), .ref (f 19), .int 0, .int 0, .int 0])), ((f 13), .inl (cI, 7, .inl (fun _ => 0))), ((f 14), .inl (cI, 5, .inl (fun _ => 0))), ((f 15), .inl (cI, 5, .inl (fun _ => 0))), ((f 16), .inl (cI, 5, .inl (fun _ => 0))), ((f 17), .inl (cI, 25, .inl (fun _ => 0))), ((f 18), .inl (cI, 25, .inl (fun _ => 0))), ((f 19), .inl (cI, 25, .inl (fun _ => 0)))] t.heap ∧ va_K D vwCl (cTy cI cZ cL cG) t ∧ va_D (va_A [(h0, .inr (3, [.null, .null, .null, .null, .null, .null, .null, .int 0, .int 0, .int 0]))] sz) [(h0, .inr (3, [.ref (f 13), .ref (f 14), .ref (f 15), .ref (f 16), .ref (f 17), .ref (f 18), .ref (f 19), .int 0, .int 0, .int 0])), ((f 13), .inl (cI, 7, .inl (fun _ => 0))), ((f 14), .inl (cI, 5, .inl (fun _ => 0))), ((f 15), .inl (cI, 5, .inl (fun _ => 0))), ((f 16), .inl (cI, 5, .inl (fun _ => 0))), ((f 17), .inl (cI, 25, .inl (fun _ => 0))), ((f 18), .inl (cI, 25, .inl (fun _ => 0))), ((f 19), .inl (cI, 25, .inl (fun _ => 0)))]) (va_A [(h0, .inr (3, [.null, .null, .null, .null, .null, .null, .null, .int 0, .int 0, .int 0]))] sz)) 7 97 (va_A [(h0, .inr (3, [.null, .null, .null, .null, .null, .null, .null, .int 0, .int 0, .int 0]))] sz) := by
  refine Met.ofW (cc := cX3_init) (maxL := 1) (ret := none) (by decide) rfl ?_
  intro p e s m args below meth c s₁ B hml hv
  obtain ⟨rfl, hsz, hP, hK, hD0⟩ := hv
  have hx := B.exec
  have hb := B.bytes
  have hts0 := atoms_spec (ws := bw yX3_init cX3_init 1 none) B.pre
  have hts : ∀ w ∈ gw, w.before _ s = true := fun w h => hts0 w (List.mem_cons_of_mem _ h)
  have hown : s.vm.findClass RX3 = some m.cls := findClass_of_methodNamed B.named
  have hin : meth.name = "<init>" := (name_of_methodNamed B.named B.method).1
  subst hsz
  have hD := hD0.self (sz := s.heap.size)
  generalize hAe : va_A [(h0, .inr (3, [.null, .null, .null, .null, .null, .null, .null, .int 0, .int 0, .int 0]))] s.heap.size = A at hD ⊢
  have hA : ∀ q : Nat, s.heap.size ≤ q → A q := fun q h => by rw [← hAe]; exact Or.inr h
  have hS : va_S A s.heap s.heap [] := va_S.rf
  have hl := lv_entry ([.ref h0]) (n := 1) (Nat.le_of_ble_eq_true rfl)
  rw [lg_entry_eq]
  generalize (lg_sl ([.ref h0]) ++ List.replicate (1 - (lg_sl ([.ref h0])).length) Slot.unset).toArray = ls at hl ⊢
  have hl : lv_has ls 1 [(0, .ref h0)] := hl
  refine lv_aload_n hx hb dX3_init_0 rfl (lv_at hl 0 rfl) ?_
  refine W.objInit hx hb hown (hts _ ki_124) (hts _ ki_70) (hts _ ki_71) rfl (by rw [hml]; exact hl.1) rfl dX3_init_1 (Nat.le_of_ble_eq_true rfl) (Nat.le_of_ble_eq_true rfl) ?_
  refine W.eq (g2 := F0 m 4 ls []) rfl ?_
  refine lv_aload_n hx hb dX3_init_4 rfl (lv_at hl 0 rfl) ?_
  refine lv_bipush (v := 7) hx hb dX3_init_5 (by decide) ?_
  refine knew_int (N := 7) hx hb hts hK hP hD hS hA rfl (by decide) (by decide) (Nat.le_of_ble_eq_true rfl) (Nat.le_of_ble_eq_true rfl) dX3_init_7 (fun q1 H hP hD hS => ?_)
  replace hP : va_P D vwCl [(h0, .inr (3, [.null, .null, .null, .null, .null, .null, .null, .int 0, .int 0, .int 0])), (q1, .inl (cI, 7, .inl (fun _ => 0)))] H := hP
  replace hD : va_D A [(h0, .inr (3, [.null, .null, .null, .null, .null, .null, .null, .int 0, .int 0, .int 0])), (q1, .inl (cI, 7, .inl (fun _ => 0)))] := hD
  refine va_putF (D := D) (ci := 3) (v := .ref q1) (ty := .array .int) (C := RX3) (T := TX3) (N := 10) hx hb hts inX3 tyX3 tyX3_ok nmX3 hown hK hP hD hS 0 rfl rfl 0 (by decide) (hts _ ki_125) (fun _ h9 => h9) rfl hin rfl (by decide +kernel) rfl rfl (Nat.le_of_ble_eq_true rfl) dX3_init_9 (fun H locs hP hD hS => ?_)
  replace hP : va_P D vwCl [(h0, .inr (3, [.ref q1, .null, .null, .null, .null, .null, .null, .int 0, .int 0, .int 0])), (q1, .inl (cI, 7, .inl (fun _ => 0)))] H := hP
  replace hD : va_D A [(h0, .inr (3, [.ref q1, .null, .null, .null, .null, .null, .null, .int 0, .int 0, .int 0])), (q1, .inl (cI, 7, .inl (fun _ => 0)))] := hD
  refine lv_aload_n hx hb dX3_init_12 rfl (lv_at hl 0 rfl) ?_
  refine lv_iconst (v := 5) hx hb dX3_init_13 (by decide) ?_
  refine knew_int (N := 5) hx hb hts hK hP hD hS hA rfl (by decide) (by decide) (Nat.le_of_ble_eq_true rfl) (Nat.le_of_ble_eq_true rfl) dX3_init_14 (fun q2 H hP hD hS => ?_)
  replace hP : va_P D vwCl [(h0, .inr (3, [.ref q1, .null, .null, .null, .null, .null, .null, .int 0, .int 0, .int 0])), (q1, .inl (cI, 7, .inl (fun _ => 0))), (q2, .inl (cI, 5, .inl (fun _ => 0)))] H := hP
  replace hD : va_D A [(h0, .inr (3, [.ref q1, .null, .null, .null, .null, .null, .null, .int 0, .int 0, .int 0])), (q1, .inl (cI, 7, .inl (fun _ => 0))), (q2, .inl (cI, 5, .inl (fun _ => 0)))] := hD
  refine va_putF (D := D) (ci := 3) (v := .ref q2) (ty := .array .int) (C := RX3) (T := TX3) (N := 10) hx hb hts inX3 tyX3 tyX3_ok nmX3 hown hK hP hD hS 0 rfl rfl 1 (by decide) (hts _ ki_128) (fun _ h9 => h9) rfl hin rfl (by decide +kernel) rfl rfl (Nat.le_of_ble_eq_true rfl) dX3_init_16 (fun H locs hP hD hS => ?_)
  replace hP : va_P D vwCl [(h0, .inr (3, [.ref q1, .ref q2, .null, .null, .null, .null, .null, .int 0, .int 0, .int 0])), (q1, .inl (cI, 7, .inl (fun _ => 0))), (q2, .inl (cI, 5, .inl (fun _ => 0)))] H := hP
  replace hD : va_D A [(h0, .inr (3, [.ref q1, .ref q2, .null, .null, .null, .null, .null, .int 0, .int 0, .int 0])), (q1, .inl (cI, 7, .inl (fun _ => 0))), (q2, .inl (cI, 5, .inl (fun _ => 0)))] := hD
  refine lv_aload_n hx hb dX3_init_19 rfl (lv_at hl 0 rfl) ?_
  refine lv_iconst (v := 5) hx hb dX3_init_20 (by decide) ?_
  refine knew_int (N := 5) hx hb hts hK hP hD hS hA rfl (by decide) (by decide) (Nat.le_of_ble_eq_true rfl) (Nat.le_of_ble_eq_true rfl) dX3_init_21 (fun q3 H hP hD hS => ?_)
  replace hP : va_P D vwCl [(h0, .inr (3, [.ref q1, .ref q2, .null, .null, .null, .null, .null, .int 0, .int 0, .int 0])), (q1, .inl (cI, 7, .inl (fun _ => 0))), (q2, .inl (cI, 5, .inl (fun _ => 0))), (q3, .inl (cI, 5, .inl (fun _ => 0)))] H := hP
  replace hD : va_D A [(h0, .inr (3, [.ref q1, .ref q2, .null, .null, .null, .null, .null, .int 0, .int 0, .int 0])), (q1, .inl (cI, 7, .inl (fun _ => 0))), (q2, .inl (cI, 5, .inl (fun _ => 0))), (q3, .inl (cI, 5, .inl (fun _ => 0)))] := hD
  refine va_putF (D := D) (ci := 3) (v := .ref q3) (ty := .array .int) (C := RX3) (T := TX3) (N := 10) hx hb hts inX3 tyX3 tyX3_ok nmX3 hown hK hP hD hS 0 rfl rfl 2 (by decide) (hts _ ki_130) (fun _ h9 => h9) rfl hin rfl (by decide +kernel) rfl rfl (Nat.le_of_ble_eq_true rfl) dX3_init_23 (fun H locs hP hD hS => ?_)
  replace hP : va_P D vwCl [(h0, .inr (3, [.ref q1, .ref q2, .ref q3, .null, .null, .null, .null, .int 0, .int 0, .int 0])), (q1, .inl (cI, 7, .inl (fun _ => 0))), (q2, .inl (cI, 5, .inl (fun _ => 0))), (q3, .inl (cI, 5, .inl (fun _ => 0)))] H := hP
  replace hD : va_D A [(h0, .inr (3, [.ref q1, .ref q2, .ref q3, .null, .null, .null, .null, .int 0, .int 0, .int 0])), (q1, .inl (cI, 7, .inl (fun _ => 0))), (q2, .inl (cI, 5, .inl (fun _ => 0))), (q3, .inl (cI, 5, .inl (fun _ => 0)))] := hD
  refine lv_aload_n hx hb dX3_init_26 rfl (lv_at hl 0 rfl) ?_
  refine lv_iconst (v := 5) hx hb dX3_init_27 (by decide) ?_
  refine knew_int (N := 5) hx hb hts hK hP hD hS hA rfl (by decide) (by decide) (Nat.le_of_ble_eq_true rfl) (Nat.le_of_ble_eq_true rfl) dX3_init_28 (fun q4 H hP hD hS => ?_)
  replace hP : va_P D vwCl [(h0, .inr (3, [.ref q1, .ref q2, .ref q3, .null, .null, .null, .null, .int 0, .int 0, .int 0])), (q1, .inl (cI, 7, .inl (fun _ => 0))), (q2, .inl (cI, 5, .inl (fun _ => 0))), (q3, .inl (cI, 5, .inl (fun _ => 0))), (q4, .inl (cI, 5, .inl (fun _ => 0)))] H := hP
  replace hD : va_D A [(h0, .inr (3, [.ref q1, .ref q2, .ref q3, .null, .null, .null, .null, .int 0, .int 0, .int 0])), (q1, .inl (cI, 7, .inl (fun _ => 0))), (q2, .inl (cI, 5, .inl (fun _ => 0))), (q3, .inl (cI, 5, .inl (fun _ => 0))), (q4, .inl (cI, 5, .inl (fun _ => 0)))] := hD
  refine va_putF (D := D) (ci := 3) (v := .ref q4) (ty := .array .int) (C := RX3) (T := TX3) (N := 10) hx hb hts inX3 tyX3 tyX3_ok nmX3 hown hK hP hD hS 0 rfl rfl 3 (by decide) (hts _ ki_131) (fun _ h9 => h9) rfl hin rfl (by decide +kernel) rfl rfl (Nat.le_of_ble_eq_true rfl) dX3_init_30 (fun H locs hP hD hS => ?_)
  replace hP : va_P D vwCl [(h0, .inr (3, [.ref q1, .ref q2, .ref q3, .ref q4, .null, .null, .null, .int 0, .int 0, .int 0])), (q1, .inl (cI, 7, .inl (fun _ => 0))), (q2, .inl (cI, 5, .inl (fun _ => 0))), (q3, .inl (cI, 5, .inl (fun _ => 0))), (q4, .inl (cI, 5, .inl (fun _ => 0)))] H := hP
  replace hD : va_D A [(h0, .inr (3, [.ref q1, .ref q2, .ref q3, .ref q4, .null, .null, .null, .int 0, .int 0, .int 0])), (q1, .inl (cI, 7, .inl (fun _ => 0))), (q2, .inl (cI, 5, .inl (fun _ => 0))), (q3, .inl (cI, 5, .inl (fun _ => 0))), (q4, .inl (cI, 5, .inl (fun _ => 0)))] := hD
  refine lv_aload_n hx hb dX3_init_33 rfl (lv_at hl 0 rfl) ?_
  refine lv_bipush (v := 25) hx hb dX3_init_34 (by decide) ?_
  refine knew_int (N := 25) hx hb hts hK hP hD hS hA rfl (by decide) (by decide) (Nat.le_of_ble_eq_true rfl) (Nat.le_of_ble_eq_true rfl) dX3_init_36 (fun q5 H hP hD hS => ?_)
  replace hP : va_P D vwCl [(h0, .inr (3, [.ref q1, .ref q2, .ref q3, .ref q4, .null, .null, .null, .int 0, .int 0, .int 0])), (q1, .inl (cI, 7, .inl (fun _ => 0))), (q2, .inl (cI, 5, .inl (fun _ => 0))), (q3, .inl (cI, 5, .inl (fun _ => 0))), (q4, .inl (cI, 5, .inl (fun _ => 0))), (q5, .inl (cI, 25, .inl (fun _ => 0)))] H := hP
  replace hD : va_D A [(h0, .inr (3, [.ref q1, .ref q2, .ref q3, .ref q4, .null, .null, .null, .int 0, .int 0, .int 0])), (q1, .inl (cI, 7, .inl (fun _ => 0))), (q2, .inl (cI, 5, .inl (fun _ => 0))), (q3, .inl (cI, 5, .inl (fun _ => 0))), (q4, .inl (cI, 5, .inl (fun _ => 0))), (q5, .inl (cI, 25, .inl (fun _ => 0)))] := hD
  refine va_putF (D := D) (ci := 3) (v := .ref q5) (ty := .array .int) (C := RX3) (T := TX3) (N := 10) hx hb hts inX3 tyX3 tyX3_ok nmX3 hown hK hP hD hS 0 rfl rfl 4 (by decide) (hts _ ki_132) (fun _ h9 => h9) rfl hin rfl (by decide +kernel) rfl rfl (Nat.le_of_ble_eq_true rfl) dX3_init_38 (fun H locs hP hD hS => ?_)
  replace hP : va_P D vwCl [(h0, .inr (3, [.ref q1, .ref q2, .ref q3, .ref q4, .ref q5, .null, .null, .int 0, .int 0, .int 0])), (q1, .inl (cI, 7, .inl (fun _ => 0))), (q2, .inl (cI, 5, .inl (fun _ => 0))), (q3, .inl (cI, 5, .inl (fun _ => 0))), (q4, .inl (cI, 5, .inl (fun _ => 0))), (q5, .inl (cI, 25, .inl (fun _ => 0)))] H := hP
  replace hD : va_D A [(h0, .inr (3, [.ref q1, .ref q2, .ref q3, .ref q4, .ref q5, .null, .null, .int 0, .int 0, .int 0])), (q1, .inl (cI, 7, .inl (fun _ => 0))), (q2, .inl (cI, 5, .inl (fun _ => 0))), (q3, .inl (cI, 5, .inl (fun _ => 0))), (q4, .inl (cI, 5, .inl (fun _ => 0))), (q5, .inl (cI, 25, .inl (fun _ => 0)))] := hD
  refine lv_aload_n hx hb dX3_init_41 rfl (lv_at hl 0 rfl) ?_
  refine lv_bipush (v := 25) hx hb dX3_init_42 (by decide) ?_
  refine knew_int (N := 25) hx hb hts hK hP hD hS hA rfl (by decide) (by decide) (Nat.le_of_ble_eq_true rfl) (Nat.le_of_ble_eq_true rfl) dX3_init_44 (fun q6 H hP hD hS => ?_)
  replace hP : va_P D vwCl [(h0, .inr (3, [.ref q1, .ref q2, .ref q3, .ref q4, .ref q5, .null, .null, .int 0, .int 0, .int 0])), (q1, .inl (cI, 7, .inl (fun _ => 0))), (q2, .inl (cI, 5, .inl (fun _ => 0))), (q3, .inl (cI, 5, .inl (fun _ => 0))), (q4, .inl (cI, 5, .inl (fun _ => 0))), (q5, .inl (cI, 25, .inl (fun _ => 0))), (q6, .inl (cI, 25, .inl (fun _ => 0)))] H := hP
  replace hD : va_D A [(h0, .inr (3, [.ref q1, .ref q2, .ref q3, .ref q4, .ref q5, .null, .null, .int 0, .int 0, .int 0])), (q1, .inl (cI, 7, .inl (fun _ => 0))), (q2, .inl (cI, 5, .inl (fun _ => 0))), (q3, .inl (cI, 5, .inl (fun _ => 0))), (q4, .inl (cI, 5, .inl (fun _ => 0))), (q5, .inl (cI, 25, .inl (fun _ => 0))), (q6, .inl (cI, 25, .inl (fun _ => 0)))] := hD
  refine va_putF (D := D) (ci := 3) (v := .ref q6) (ty := .array .int) (C := RX3) (T := TX3) (N := 10) hx hb hts inX3 tyX3 tyX3_ok nmX3 hown hK hP hD hS 0 rfl rfl 5 (by decide) (hts _ ki_134) (fun _ h9 => h9) rfl hin rfl (by decide +kernel) rfl rfl (Nat.le_of_ble_eq_true rfl) dX3_init_46 (fun H locs hP hD hS => ?_)
  replace hP : va_P D vwCl [(h0, .inr (3, [.ref q1, .ref q2, .ref q3, .ref q4, .ref q5, .ref q6, .null, .int 0, .int 0, .int 0])), (q1, .inl (cI, 7, .inl (fun _ => 0))), (q2, .inl (cI, 5, .inl (fun _ => 0))), (q3, .inl (cI, 5, .inl (fun _ => 0))), (q4, .inl (cI, 5, .inl (fun _ => 0))), (q5, .inl (cI, 25, .inl (fun _ => 0))), (q6, .inl (cI, 25, .inl (fun _ => 0)))] H := hP
  replace hD : va_D A [(h0, .inr (3, [.ref q1, .ref q2, .ref q3, .ref q4, .ref q5, .ref q6, .null, .int 0, .int 0, .int 0])), (q1, .inl (cI, 7, .inl (fun _ => 0))), (q2, .inl (cI, 5, .inl (fun _ => 0))), (q3, .inl (cI, 5, .inl (fun _ => 0))), (q4, .inl (cI, 5, .inl (fun _ => 0))), (q5, .inl (cI, 25, .inl (fun _ => 0))), (q6, .inl (cI, 25, .inl (fun _ => 0)))] := hD
  refine lv_aload_n hx hb dX3_init_49 rfl (lv_at hl 0 rfl) ?_
  refine lv_bipush (v := 25) hx hb dX3_init_50 (by decide) ?_
  refine knew_int (N := 25) hx hb hts hK hP hD hS hA rfl (by decide) (by decide) (Nat.le_of_ble_eq_true rfl) (Nat.le_of_ble_eq_true rfl) dX3_init_52 (fun q7 H hP hD hS => ?_)
  replace hP : va_P D vwCl [(h0, .inr (3, [.ref q1, .ref q2, .ref q3, .ref q4, .ref q5, .ref q6, .null, .int 0, .int 0, .int 0])), (q1, .inl (cI, 7, .inl (fun _ => 0))), (q2, .inl (cI, 5, .inl (fun _ => 0))), (q3, .inl (cI, 5, .inl (fun _ => 0))), (q4, .inl (cI, 5, .inl (fun _ => 0))), (q5, .inl (cI, 25, .inl (fun _ => 0))), (q6, .inl (cI, 25, .inl (fun _ => 0))), (q7, .inl (cI, 25, .inl (fun _ => 0)))] H := hP
  replace hD : va_D A [(h0, .inr (3, [.ref q1, .ref q2, .ref q3, .ref q4, .ref q5, .ref q6, .null, .int 0, .int 0, .int 0])), (q1, .inl (cI, 7, .inl (fun _ => 0))), (q2, .inl (cI, 5, .inl (fun _ => 0))), (q3, .inl (cI, 5, .inl (fun _ => 0))), (q4, .inl (cI, 5, .inl (fun _ => 0))), (q5, .inl (cI, 25, .inl (fun _ => 0))), (q6, .inl (cI, 25, .inl (fun _ => 0))), (q7, .inl (cI, 25, .inl (fun _ => 0)))] := hD
  refine va_putF (D := D) (ci := 3) (v := .ref q7) (ty := .array .int) (C := RX3) (T := TX3) (N := 10) hx hb hts inX3 tyX3 tyX3_ok nmX3 hown hK hP hD hS 0 rfl rfl 6 (by decide) (hts _ ki_137) (fun _ h9 => h9) rfl hin rfl (by decide +kernel) rfl rfl (Nat.le_of_ble_eq_true rfl) dX3_init_54 (fun H locs hP hD hS => ?_)
  replace hP : va_P D vwCl [(h0, .inr (3, [.ref q1, .ref q2, .ref q3, .ref q4, .ref q5, .ref q6, .ref q7, .int 0, .int 0, .int 0])), (q1, .inl (cI, 7, .inl (fun _ => 0))), (q2, .inl (cI, 5, .inl (fun _ => 0))), (q3, .inl (cI, 5, .inl (fun _ => 0))), (q4, .inl (cI, 5, .inl (fun _ => 0))), (q5, .inl (cI, 25, .inl (fun _ => 0))), (q6, .inl (cI, 25, .inl (fun _ => 0))), (q7, .inl (cI, 25, .inl (fun _ => 0)))] H := hP
  replace hD : va_D A [(h0, .inr (3, [.ref q1, .ref q2, .ref q3, .ref q4, .ref q5, .ref q6, .ref q7, .int 0, .int 0, .int 0])), (q1, .inl (cI, 7, .inl (fun _ => 0))), (q2, .inl (cI, 5, .inl (fun _ => 0))), (q3, .inl (cI, 5, .inl (fun _ => 0))), (q4, .inl (cI, 5, .inl (fun _ => 0))), (q5, .inl (cI, 25, .inl (fun _ => 0))), (q6, .inl (cI, 25, .inl (fun _ => 0))), (q7, .inl (cI, 25, .inl (fun _ => 0)))] := hD
  refine W.widen (k := 7) (n := 97) (Nat.le_of_ble_eq_true rfl) (Nat.le_of_ble_eq_true rfl) ?_
  exact W.vret hx hb B.returns (fun t ht hW => ⟨⟨(va_ls [0, 0, 0, 0, 0, 0, 0, 0, 0, 0, 0, 0, 0, q1, q2, q3, q4, q5, q6, q7]), rfl, trivial, by rw [ht]; exact hP, va_K.moved hW.alike hK, hD⟩, hS.F ht⟩) hS.2.2 dX3_init_57
set_option maxRecDepth 100000 in
theorem gi_X4_init : GoodIn gw (bw yX4_init cX4_init 1 none) := bi_good (List.mem_of_getElem? (i := 172) rfl)
set_option maxHeartbeats 8000000 in
set_option maxRecDepth 100000 in
theorem i_X4_init (l : Launch) (D : va_G) (cI cZ cL cG : ClassId) (h0 sz : Nat) : Met l yX4_init (bw yX4_init cX4_init 1 none) (crm 1 12 2 400) (va_Pc [.ref h0] (fun U => U.heap.size = sz ∧ va_P D vwCl [(h0, .inr (4, [.null, .null, .int 0, .int 0]))] U.heap ∧ va_K D vwCl (cTy cI cZ cL cG) U ∧ va_D (fun _ => True) [(h0, .inr (4, [.null, .null, .int 0, .int 0]))])) (va_Qv (fun _ : Nat → Nat => True) (fun f t => va_P D vwCl [(h0, .inr (4, [.ref (f 20), .ref (f 21), .int 0, .int 0])), ((f 20), .inl (cI, 200, .inl (fun _ => 0))), ((f 21), .inl (cI, 200, .inl (fun _ => 0)))] t.heap ∧ va_K D vwCl (cTy cI cZ cL cG) t ∧ va_D (va_A [(h0, .inr (4, [.null, .null, .int 0, .int 0]))] sz) [(h0, .inr (4, [.ref (f 20), .ref (f 21), .int 0, .int 0])), ((f 20), .inl (cI, 200, .inl (fun _ => 0))), ((f 21), .inl (cI, 200, .inl (fun _ => 0)))]) (va_A [(h0, .inr (4, [.null, .null, .int 0, .int 0]))] sz)) 2 400 (va_A [(h0, .inr (4, [.null, .null, .int 0, .int 0]))] sz) := by
  refine Met.ofW (cc := cX4_init) (maxL := 1) (ret := none) (by decide) rfl ?_
  intro p e s m args below meth c s₁ B hml hv
  obtain ⟨rfl, hsz, hP, hK, hD0⟩ := hv
  have hx := B.exec
  have hb := B.bytes
  have hts0 := atoms_spec (ws := bw yX4_init cX4_init 1 none) B.pre
  have hts : ∀ w ∈ gw, w.before _ s = true := fun w h => hts0 w (List.mem_cons_of_mem _ h)
  have hown : s.vm.findClass RX4 = some m.cls := findClass_of_methodNamed B.named
  have hin : meth.name = "<init>" := (name_of_methodNamed B.named B.method).1
  subst hsz
  have hD := hD0.self (sz := s.heap.size)
  generalize hAe : va_A [(h0, .inr (4, [.null, .null, .int 0, .int 0]))] s.heap.size = A at hD ⊢
  have hA : ∀ q : Nat, s.heap.size ≤ q → A q := fun q h => by rw [← hAe]; exact Or.inr h
  have hS : va_S A s.heap s.heap [] := va_S.rf
  have hl := lv_entry ([.ref h0]) (n := 1) (Nat.le_of_ble_eq_true rfl)
  rw [lg_entry_eq]
  generalize (lg_sl ([.ref h0]) ++ List.replicate (1 - (lg_sl ([.ref h0])).length) Slot.unset).toArray = ls at hl ⊢
  have hl : lv_has ls 1 [(0, .ref h0)] := hl
  refine lv_aload_n hx hb dX4_init_0 rfl (lv_at hl 0 rfl) ?_
  refine W.objInit hx hb hown (hts _ ki_173) (hts _ ki_70) (hts _ ki_71) rfl (by rw [hml]; exact hl.1) rfl dX4_init_1 (Nat.le_of_ble_eq_true rfl) (Nat.le_of_ble_eq_true rfl) ?_
  refine W.eq (g2 := F0 m 4 ls []) rfl ?_
  refine lv_aload_n hx hb dX4_init_4 rfl (lv_at hl 0 rfl) ?_
  refine lv_sipush (v := 200) hx hb dX4_init_5 (by decide) ?_
  refine knew_int (N := 200) hx hb hts hK hP hD hS hA rfl (by decide) (by decide) (Nat.le_of_ble_eq_true rfl) (Nat.le_of_ble_eq_true rfl) dX4_init_8 (fun q1 H hP hD hS => ?_)
  replace hP : va_P D vwCl [(h0, .inr (4, [.null, .null, .int 0, .int 0])), (q1, .inl (cI, 200, .inl (fun _ => 0)))] H := hP
  replace hD : va_D A [(h0, .inr (4, [.null, .null, .int 0, .int 0])), (q1, .inl (cI, 200, .inl (fun _ => 0)))] := hD
  refine va_putF (D := D) (ci := 4) (v := .ref q1) (ty := .array .int) (C := RX4) (T := TX4) (N := 4) hx hb hts inX4 tyX4 tyX4_ok nmX4 hown hK hP hD hS 0 rfl rfl 0 (by decide) (hts _ ki_174) (fun _ h9 => h9) rfl hin rfl (by decide +kernel) rfl rfl (Nat.le_of_ble_eq_true rfl) dX4_init_10 (fun H locs hP hD hS => ?_)
  replace hP : va_P D vwCl [(h0, .inr (4, [.ref q1, .null, .int 0, .int 0])), (q1, .inl (cI, 200, .inl (fun _ => 0)))] H := hP
  replace hD : va_D A [(h0, .inr (4, [.ref q1, .null, .int 0, .int 0])), (q1, .inl (cI, 200, .inl (fun _ => 0)))] := hD
  refine lv_aload_n hx hb dX4_init_13 rfl (lv_at hl 0 rfl) ?_
  refine lv_sipush (v := 200) hx hb dX4_init_14 (by decide) ?_
  refine knew_int (N := 200) hx hb hts hK hP hD hS hA rfl (by decide) (by decide) (Nat.le_of_ble_eq_true rfl) (Nat.le_of_ble_eq_true rfl) dX4_init_17 (fun q2 H hP hD hS => ?_)
  replace hP : va_P D vwCl [(h0, .inr (4, [.ref q1, .null, .int 0, .int 0])), (q1, .inl (cI, 200, .inl (fun _ => 0))), (q2, .inl (cI, 200, .inl (fun _ => 0)))] H := hP
  replace hD : va_D A [(h0, .inr (4, [.ref q1, .null, .int 0, .int 0])), (q1, .inl (cI, 200, .inl (fun _ => 0))), (q2, .inl (cI, 200, .inl (fun _ => 0)))] := hD
  refine va_putF (D := D) (ci := 4) (v := .ref q2) (ty := .array .int) (C := RX4) (T := TX4) (N := 4) hx hb hts inX4 tyX4 tyX4_ok nmX4 hown hK hP hD hS 0 rfl rfl 1 (by decide) (hts _ ki_175) (fun _ h9 => h9) rfl hin rfl (by decide +kernel) rfl rfl (Nat.le_of_ble_eq_true rfl) dX4_init_19 (fun H locs hP hD hS => ?_)
  replace hP : va_P D vwCl [(h0, .inr (4, [.ref q1, .ref q2, .int 0, .int 0])), (q1, .inl (cI, 200, .inl (fun _ => 0))), (q2, .inl (cI, 200, .inl (fun _ => 0)))] H := hP
  replace hD : va_D A [(h0, .inr (4, [.ref q1, .ref q2, .int 0, .int 0])), (q1, .inl (cI, 200, .inl (fun _ => 0))), (q2, .inl (cI, 200, .inl (fun _ => 0)))] := hD
  refine W.widen (k := 2) (n := 400) (Nat.le_of_ble_eq_true rfl) (Nat.le_of_ble_eq_true rfl) ?_
  exact W.vret hx hb B.returns (fun t ht hW => ⟨⟨(va_ls [0, 0, 0, 0, 0, 0, 0, 0, 0, 0, 0, 0, 0, 0, 0, 0, 0, 0, 0, 0, q1, q2]), rfl, trivial, by rw [ht]; exact hP, va_K.moved hW.alike hK, hD⟩, hS.F ht⟩) hS.2.2 dX4_init_22
set_option maxRecDepth 100000 in
theorem gi_X5_init : GoodIn gw (bw yX5_init cX5_init 1 none) := bi_good (List.mem_of_getElem? (i := 193) rfl)
set_option maxHeartbeats 8000000 in
set_option maxRecDepth 100000 in
theorem i_X5_init (l : Launch) (D : va_G) (cI cZ cL cG : ClassId) (h0 sz : Nat) : Met l yX5_init (bw yX5_init cX5_init 1 none) (crm 1 12 1 16) (va_Pc [.ref h0] (fun U => U.heap.size = sz ∧ va_P D vwCl [(h0, .inr (5, [.null, .int 0]))] U.heap ∧ va_K D vwCl (cTy cI cZ cL cG) U ∧ va_D (fun _ => True) [(h0, .inr (5, [.null, .int 0]))])) (va_Qv (fun _ : Nat → Nat => True) (fun f t => va_P D vwCl [(h0, .inr (5, [.ref (f 22), .int 0])), ((f 22), .inl (cI, 16, .inl (fun _ => 0)))] t.heap ∧ va_K D vwCl (cTy cI cZ cL cG) t ∧ va_D (va_A [(h0, .inr (5, [.null, .int 0]))] sz) [(h0, .inr (5, [.ref (f 22), .int 0])), ((f 22), .inl (cI, 16, .inl (fun _ => 0)))]) (va_A [(h0, .inr (5, [.null, .int 0]))] sz)) 1 16 (va_A [(h0, .inr (5, [.null, .int 0]))] sz) := by
  refine Met.ofW (cc := cX5_init) (maxL := 1) (ret := none) (by decide) rfl ?_
  intro p e s m args below meth c s₁ B hml hv
  obtain ⟨rfl, hsz, hP, hK, hD0⟩ := hv
  have hx := B.exec
  have hb := B.bytes
  have hts0 := atoms_spec (ws := bw yX5_init cX5_init 1 none) B.pre
  have hts : ∀ w ∈ gw, w.before _ s = true := fun w h => hts0 w (List.mem_cons_of_mem _ h)
  have hown : s.vm.findClass RX5 = some m.cls := findClass_of_methodNamed B.named
  have hin : meth.name = "<init>" := (name_of_methodNamed B.named B.method).1
  subst hsz
  have hD := hD0.self (sz := s.heap.size)
  generalize hAe : va_A [(h0, .inr (5, [.null, .int 0]))] s.heap.size = A at hD ⊢
  have hA : ∀ q : Nat, s.heap.size ≤ q → A q := fun q h => by rw [← hAe]; exact Or.inr h
  have hS : va_S A s.heap s.heap [] := va_S.rf
  have hl := lv_entry ([.ref h0]) (n := 1) (Nat.le_of_ble_eq_true rfl)
  rw [lg_entry_eq]
  generalize (lg_sl ([.ref h0]) ++ List.replicate (1 - (lg_sl ([.ref h0])).length) Slot.unset).toArray = ls at hl ⊢
  have hl : lv_has ls 1 [(0, .ref h0)] := hl
  refine lv_aload_n hx hb dX5_init_0 rfl (lv_at hl 0 rfl) ?_
  refine W.objInit hx hb hown (hts _ ki_194) (hts _ ki_70) (hts _ ki_71) rfl (by rw [hml]; exact hl.1) rfl dX5_init_1 (Nat.le_of_ble_eq_true rfl) (Nat.le_of_ble_eq_true rfl) ?_
  refine W.eq (g2 := F0 m 4 ls []) rfl ?_
  refine lv_aload_n hx hb dX5_init_4 rfl (lv_at hl 0 rfl) ?_
  refine lv_bipush (v := 16) hx hb dX5_init_5 (by decide) ?_
  refine knew_int (N := 16) hx hb hts hK hP hD hS hA rfl (by decide) (by decide) (Nat.le_of_ble_eq_true rfl) (Nat.le_of_ble_eq_true rfl) dX5_init_7 (fun q1 H hP hD hS => ?_)
  replace hP : va_P D vwCl [(h0, .inr (5, [.null, .int 0])), (q1, .inl (cI, 16, .inl (fun _ => 0)))] H := hP
  replace hD : va_D A [(h0, .inr (5, [.null, .int 0])), (q1, .inl (cI, 16, .inl (fun _ => 0)))] := hD
  refine va_put (D := D) (ci := 5) (v := .ref q1) (ty := .array .int) (C := RX5) (T := TX5) (N := 2) hx hb hts inX5 tyX5 tyX5_ok nmX5 hown hK hP hD hS 0 rfl rfl 0 (by decide) (hts _ ki_195) (fun _ h9 => h9) rfl (by decide +kernel) rfl rfl (Nat.le_of_ble_eq_true rfl) dX5_init_9 (fun H locs hP hD hS => ?_)
  replace hP : va_P D vwCl [(h0, .inr (5, [.ref q1, .int 0])), (q1, .inl (cI, 16, .inl (fun _ => 0)))] H := hP
  replace hD : va_D A [(h0, .inr (5, [.ref q1, .int 0])), (q1, .inl (cI, 16, .inl (fun _ => 0)))] := hD
  refine W.widen (k := 1) (n := 16) (Nat.le_of_ble_eq_true rfl) (Nat.le_of_ble_eq_true rfl) ?_
  exact W.vret hx hb B.returns (fun t ht hW => ⟨⟨(va_ls [0, 0, 0, 0, 0, 0, 0, 0, 0, 0, 0, 0, 0, 0, 0, 0, 0, 0, 0, 0, 0, 0, q1]), rfl, trivial, by rw [ht]; exact hP, va_K.moved hW.alike hK, hD⟩, hS.F ht⟩) hS.2.2 dX5_init_12
set_option maxRecDepth 100000 in
theorem gi_X6_init : GoodIn gw (bw yX6_init cX6_init 1 none) := bi_good (List.mem_of_getElem? (i := 209) rfl)
set_option maxHeartbeats 8000000 in
set_option maxRecDepth 100000 in
theorem i_X6_init (l : Launch) (D : va_G) (cI cZ cL cG : ClassId) (h0 sz : Nat) : Met l yX6_init (bw yX6_init cX6_init 1 none) (crm 1 12 7 128) (va_Pc [.ref h0] (fun U => U.heap.size = sz ∧ va_P D vwCl [(h0, .inr (6, [.null, .null, .null, .null, .null, .null, .null, .int 0, .int 0]))] U.heap ∧ va_K D vwCl (cTy cI cZ cL cG) U ∧ va_D (fun _ => True) [(h0, .inr (6, [.null, .null, .null, .null, .null, .null, .null, .int 0, .int 0]))])) (va_Qv (fun _ : Nat → Nat => True) (fun f t => va_P D vwCl [(h0, .inr (6, [.ref (f 23), .ref (f 24), .ref (f 25), .ref (f 26), .ref (f 27), .ref (f 28), .ref (f 29), .int (-1), .int 0])), ((f 23), .inl (cI, 128, .inl (fun _ => 0))), ((f 24), .inl (cI, 0, .inl (fun _ => 0))), ((f 25), .inl (cL, 0, .inr (.inl (fun _ => 0)))), ((f 26), .inl (cI, 0, .inl (fun _ => 0))), ((f 27), .inl (cI, 0, .inl (fun _ => 0))), ((f 28), .inl (cI, 0, .inl (fun _ => 0))), ((f 29), .inl (cI, 0, .inl (fun _ => 0)))] t.heap ∧ va_K D vwCl (cTy cI cZ cL cG) t ∧ va_D (va_A [(h0, .inr (6, [.null, .null, .null, .null, .null, .null, .null, .int 0, .int 0]))] sz) [(h0, .inr (6, [.ref (f 23), .ref (f 24), .ref (f 25), .ref (f 26), .ref (f 27), .ref (f 28), .ref (f 29), .int (-1), .int 0])), ((f 23), .inl (cI, 128, .inl (fun _ => 0))), ((f 24), .inl (cI, 0, .inl (fun _ => 0))), ((f 25), .inl (cL, 0, .inr (.inl (fun _ => 0)))), ((f 26), .inl (cI, 0, .inl (fun _ => 0))), ((f 27), .inl (cI, 0, .inl (fun _ => 0))), ((f 28), .inl (cI, 0, .inl (fun _ => 0))), ((f 29), .inl (cI, 0, .inl (fun _ => 0)))]) (va_A [(h0, .inr (6, [.null, .null, .null, .null, .null, .null, .null, .int 0, .int 0]))] sz)) 7 128 (va_A [(h0, .inr (6, [.null, .null, .null, .null, .null, .null, .null, .int 0, .int 0]))] sz) := by
  refine Met.ofW (cc := cX6_init) (maxL := 1) (ret := none) (by decide) rfl ?_
  intro p e s m args below meth c s₁ B hml hv
  obtain ⟨rfl, hsz, hP, hK, hD0⟩ := hv
  have hx := B.exec
  have hb := B.bytes
  have hts0 := atoms_spec (ws := bw yX6_init cX6_init 1 none) B.pre
  have hts : ∀ w ∈ gw, w.before _ s = true := fun w h => hts0 w (List.mem_cons_of_mem _ h)
  have hown : s.vm.findClass RX6 = some m.cls := findClass_of_methodNamed B.named
  have hin : meth.name = "<init>" := (name_of_methodNamed B.named B.method).1
  subst hsz
  have hD := hD0.self (sz := s.heap.size)
  generalize hAe : va_A [(h0, .inr (6, [.null, .null, .null, .null, .null, .null, .null, .int 0, .int 0]))] s.heap.size = A at hD ⊢
  have hA : ∀ q : Nat, s.heap.size ≤ q → A q := fun q h => by rw [← hAe]; exact Or.inr h
  have hS : va_S A s.heap s.heap [] := va_S.rf
  have hl := lv_entry ([.ref h0]) (n := 1) (Nat.le_of_ble_eq_true rfl)
  rw [lg_entry_eq]
  generalize (lg_sl ([.ref h0]) ++ List.replicate (1 - (lg_sl ([.ref h0])).length) Slot.unset).toArray = ls at hl ⊢
  have hl : lv_has ls 1 [(0, .ref h0)] := hl
  refine lv_aload_n hx hb dX6_init_0 rfl (lv_at hl 0 rfl) ?_
  refine W.objInit hx hb hown (hts _ ki_210) (hts _ ki_70) (hts _ ki_71) rfl (by rw [hml]; exact hl.1) rfl dX6_init_1 (Nat.le_of_ble_eq_true rfl) (Nat.le_of_ble_eq_true rfl) ?_
  refine W.eq (g2 := F0 m 4 ls []) rfl ?_
  refine lv_aload_n hx hb dX6_init_4 rfl (lv_at hl 0 rfl) ?_
  refine lv_sipush (v := 128) hx hb dX6_init_5 (by decide) ?_
  refine knew_int (N := 128) hx hb hts hK hP hD hS hA rfl (by decide) (by decide) (Nat.le_of_ble_eq_true rfl) (Nat.le_of_ble_eq_true rfl) dX6_init_8 (fun q1 H hP hD hS => ?_)
  replace hP : va_P D vwCl [(h0, .inr (6, [.null, .null, .null, .null, .null, .null, .null, .int 0, .int 0])), (q1, .inl (cI, 128, .inl (fun _ => 0)))] H := hP
  replace hD : va_D A [(h0, .inr (6, [.null, .null, .null, .null, .null, .null, .null, .int 0, .int 0])), (q1, .inl (cI, 128, .inl (fun _ => 0)))] := hD
  refine va_putF (D := D) (ci := 6) (v := .ref q1) (ty := .array .int) (C := RX6) (T := TX6) (N := 9) hx hb hts inX6 tyX6 tyX6_ok nmX6 hown hK hP hD hS 0 rfl rfl 0 (by decide) (hts _ ki_211) (fun _ h9 => h9) rfl hin rfl (by decide +kernel) rfl rfl (Nat.le_of_ble_eq_true rfl) dX6_init_10 (fun H locs hP hD hS => ?_)
  replace hP : va_P D vwCl [(h0, .inr (6, [.ref q1, .null, .null, .null, .null, .null, .null, .int 0, .int 0])), (q1, .inl (cI, 128, .inl (fun _ => 0)))] H := hP
  replace hD : va_D A [(h0, .inr (6, [.ref q1, .null, .null, .null, .null, .null, .null, .int 0, .int 0])), (q1, .inl (cI, 128, .inl (fun _ => 0)))] := hD
  refine lv_aload_n hx hb dX6_init_13 rfl (lv_at hl 0 rfl) ?_
  refine lv_iconst (v := 0) hx hb dX6_init_14 (by decide) ?_
  refine knew_int (N := 0) hx hb hts hK hP hD hS hA rfl (by decide) (by decide) (Nat.le_of_ble_eq_true rfl) (Nat.le_of_ble_eq_true rfl) dX6_init_15 (fun q2 H hP hD hS => ?_)
  replace hP : va_P D vwCl [(h0, .inr (6, [.ref q1, .null, .null, .null, .null, .null, .null, .int 0, .int 0])), (q1, .inl (cI, 128, .inl (fun _ => 0))), (q2, .inl (cI, 0, .inl (fun _ => 0)))] H := hP
  replace hD : va_D A [(h0, .inr (6, [.ref q1, .null, .null, .null, .null, .null, .null, .int 0, .int 0])), (q1, .inl (cI, 128, .inl (fun _ => 0))), (q2, .inl (cI, 0, .inl (fun _ => 0)))] := hD
  refine va_put (D := D) (ci := 6) (v := .ref q2) (ty := .array .int) (C := RX6) (T := TX6) (N := 9) hx hb hts inX6 tyX6 tyX6_ok nmX6 hown hK hP hD hS 0 rfl rfl 1 (by decide) (hts _ ki_212) (fun _ h9 => h9) rfl (by decide +kernel) rfl rfl (Nat.le_of_ble_eq_true rfl) dX6_init_17 (fun H locs hP hD hS => ?_)
  replace hP : va_P D vwCl [(h0, .inr (6, [.ref q1, .ref q2, .null, .null, .null, .null, .null, .int 0, .int 0])), (q1, .inl (cI, 128, .inl (fun _ => 0))), (q2, .inl (cI, 0, .inl (fun _ => 0)))] H := hP
  replace hD : va_D A [(h0, .inr (6, [.ref q1, .ref q2, .null, .null, .null, .null, .null, .int 0, .int 0])), (q1, .inl (cI, 128, .inl (fun _ => 0))), (q2, .inl (cI, 0, .inl (fun _ => 0)))] := hD
  refine lv_aload_n hx hb dX6_init_20 rfl (lv_at hl 0 rfl) ?_
  refine lv_iconst (v := 0) hx hb dX6_init_21 (by decide) ?_
  refine knew_long (N := 0) hx hb hts hK hP hD hS hA rfl (by decide) (by decide) (Nat.le_of_ble_eq_true rfl) (Nat.le_of_ble_eq_true rfl) dX6_init_22 (fun q3 H hP hD hS => ?_)
  replace hP : va_P D vwCl [(h0, .inr (6, [.ref q1, .ref q2, .null, .null, .null, .null, .null, .int 0, .int 0])), (q1, .inl (cI, 128, .inl (fun _ => 0))), (q2, .inl (cI, 0, .inl (fun _ => 0))), (q3, .inl (cL, 0, .inr (.inl (fun _ => 0))))] H := hP
  replace hD : va_D A [(h0, .inr (6, [.ref q1, .ref q2, .null, .null, .null, .null, .null, .int 0, .int 0])), (q1, .inl (cI, 128, .inl (fun _ => 0))), (q2, .inl (cI, 0, .inl (fun _ => 0))), (q3, .inl (cL, 0, .inr (.inl (fun _ => 0))))] := hD
  refine va_put (D := D) (ci := 6) (v := .ref q3) (ty := .array .long) (C := RX6) (T := TX6) (N := 9) hx hb hts inX6 tyX6 tyX6_ok nmX6 hown hK hP hD hS 0 rfl rfl 2 (by decide) (hts _ ki_213) (fun _ h9 => h9) rfl (by decide +kernel) rfl rfl (Nat.le_of_ble_eq_true rfl) dX6_init_24 (fun H locs hP hD hS => ?_)
  replace hP : va_P D vwCl [(h0, .inr (6, [.ref q1, .ref q2, .ref q3, .null, .null, .null, .null, .int 0, .int 0])), (q1, .inl (cI, 128, .inl (fun _ => 0))), (q2, .inl (cI, 0, .inl (fun _ => 0))), (q3, .inl (cL, 0, .inr (.inl (fun _ => 0))))] H := hP
  replace hD : va_D A [(h0, .inr (6, [.ref q1, .ref q2, .ref q3, .null, .null, .null, .null, .int 0, .int 0])), (q1, .inl (cI, 128, .inl (fun _ => 0))), (q2, .inl (cI, 0, .inl (fun _ => 0))), (q3, .inl (cL, 0, .inr (.inl (fun _ => 0))))] := hD
  refine lv_aload_n hx hb dX6_init_27 rfl (lv_at hl 0 rfl) ?_
  refine lv_iconst (v := 0) hx hb dX6_init_28 (by decide) ?_
  refine knew_int (N := 0) hx hb hts hK hP hD hS hA rfl (by decide) (by decide) (Nat.le_of_ble_eq_true rfl) (Nat.le_of_ble_eq_true rfl) dX6_init_29 (fun q4 H hP hD hS => ?_)
  replace hP : va_P D vwCl [(h0, .inr (6, [.ref q1, .ref q2, .ref q3, .null, .null, .null, .null, .int 0, .int 0])), (q1, .inl (cI, 128, .inl (fun _ => 0))), (q2, .inl (cI, 0, .inl (fun _ => 0))), (q3, .inl (cL, 0, .inr (.inl (fun _ => 0)))), (q4, .inl (cI, 0, .inl (fun _ => 0)))] H := hP
  replace hD : va_D A [(h0, .inr (6, [.ref q1, .ref q2, .ref q3, .null, .null, .null, .null, .int 0, .int 0])), (q1, .inl (cI, 128, .inl (fun _ => 0))), (q2, .inl (cI, 0, .inl (fun _ => 0))), (q3, .inl (cL, 0, .inr (.inl (fun _ => 0)))), (q4, .inl (cI, 0, .inl (fun _ => 0)))] := hD
  refine va_put (D := D) (ci := 6) (v := .ref q4) (ty := .array .int) (C := RX6) (T := TX6) (N := 9) hx hb hts inX6 tyX6 tyX6_ok nmX6 hown hK hP hD hS 0 rfl rfl 3 (by decide) (hts _ ki_214) (fun _ h9 => h9) rfl (by decide +kernel) rfl rfl (Nat.le_of_ble_eq_true rfl) dX6_init_31 (fun H locs hP hD hS => ?_)
  replace hP : va_P D vwCl [(h0, .inr (6, [.ref q1, .ref q2, .ref q3, .ref q4, .null, .null, .null, .int 0, .int 0])), (q1, .inl (cI, 128, .inl (fun _ => 0))), (q2, .inl (cI, 0, .inl (fun _ => 0))), (q3, .inl (cL, 0, .inr (.inl (fun _ => 0)))), (q4, .inl (cI, 0, .inl (fun _ => 0)))] H := hP
  replace hD : va_D A [(h0, .inr (6, [.ref q1, .ref q2, .ref q3, .ref q4, .null, .null, .null, .int 0, .int 0])), (q1, .inl (cI, 128, .inl (fun _ => 0))), (q2, .inl (cI, 0, .inl (fun _ => 0))), (q3, .inl (cL, 0, .inr (.inl (fun _ => 0)))), (q4, .inl (cI, 0, .inl (fun _ => 0)))] := hD
  refine lv_aload_n hx hb dX6_init_34 rfl (lv_at hl 0 rfl) ?_
  refine lv_iconst (v := 0) hx hb dX6_init_35 (by decide) ?_
  refine knew_int (N := 0) hx hb hts hK hP hD hS hA rfl (by decide) (by decide) (Nat.le_of_ble_eq_true rfl) (Nat.le_of_ble_eq_true rfl) dX6_init_36 (fun q5 H hP hD hS => ?_)
  replace hP : va_P D vwCl [(h0, .inr (6, [.ref q1, .ref q2, .ref q3, .ref q4, .null, .null, .null, .int 0, .int 0])), (q1, .inl (cI, 128, .inl (fun _ => 0))), (q2, .inl (cI, 0, .inl (fun _ => 0))), (q3, .inl (cL, 0, .inr (.inl (fun _ => 0)))), (q4, .inl (cI, 0, .inl (fun _ => 0))), (q5, .inl (cI, 0, .inl (fun _ => 0)))] H := hP
  replace hD : va_D A [(h0, .inr (6, [.ref q1, .ref q2, .ref q3, .ref q4, .null, .null, .null, .int 0, .int 0])), (q1, .inl (cI, 128, .inl (fun _ => 0))), (q2, .inl (cI, 0, .inl (fun _ => 0))), (q3, .inl (cL, 0, .inr (.inl (fun _ => 0)))), (q4, .inl (cI, 0, .inl (fun _ => 0))), (q5, .inl (cI, 0, .inl (fun _ => 0)))] := hD
  refine va_put (D := D) (ci := 6) (v := .ref q5) (ty := .array .int) (C := RX6) (T := TX6) (N := 9) hx hb hts inX6 tyX6 tyX6_ok nmX6 hown hK hP hD hS 0 rfl rfl 4 (by decide) (hts _ ki_215) (fun _ h9 => h9) rfl (by decide +kernel) rfl rfl (Nat.le_of_ble_eq_true rfl) dX6_init_38 (fun H locs hP hD hS => ?_)
  replace hP : va_P D vwCl [(h0, .inr (6, [.ref q1, .ref q2, .ref q3, .ref q4, .ref q5, .null, .null, .int 0, .int 0])), (q1, .inl (cI, 128, .inl (fun _ => 0))), (q2, .inl (cI, 0, .inl (fun _ => 0))), (q3, .inl (cL, 0, .inr (.inl (fun _ => 0)))), (q4, .inl (cI, 0, .inl (fun _ => 0))), (q5, .inl (cI, 0, .inl (fun _ => 0)))] H := hP
  replace hD : va_D A [(h0, .inr (6, [.ref q1, .ref q2, .ref q3, .ref q4, .ref q5, .null, .null, .int 0, .int 0])), (q1, .inl (cI, 128, .inl (fun _ => 0))), (q2, .inl (cI, 0, .inl (fun _ => 0))), (q3, .inl (cL, 0, .inr (.inl (fun _ => 0)))), (q4, .inl (cI, 0, .inl (fun _ => 0))), (q5, .inl (cI, 0, .inl (fun _ => 0)))] := hD
  refine lv_aload_n hx hb dX6_init_41 rfl (lv_at hl 0 rfl) ?_
  refine lv_iconst (v := 0) hx hb dX6_init_42 (by decide) ?_
  refine knew_int (N := 0) hx hb hts hK hP hD hS hA rfl (by decide) (by decide) (Nat.le_of_ble_eq_true rfl) (Nat.le_of_ble_eq_true rfl) dX6_init_43 (fun q6 H hP hD hS => ?_)
  replace hP : va_P D vwCl [(h0, .inr (6, [.ref q1, .ref q2, .ref q3, .ref q4, .ref q5, .null, .null, .int 0, .int 0])), (q1, .inl (cI, 128, .inl (fun _ => 0))), (q2, .inl (cI, 0, .inl (fun _ => 0))), (q3, .inl (cL, 0, .inr (.inl (fun _ => 0)))), (q4, .inl (cI, 0, .inl (fun _ => 0))), (q5, .inl (cI, 0, .inl (fun _ => 0))), (q6, .inl (cI, 0, .inl (fun _ => 0)))] H := hP
  replace hD : va_D A [(h0, .inr (6, [.ref q1, .ref q2, .ref q3, .ref q4, .ref q5, .null, .null, .int 0, .int 0])), (q1, .inl (cI, 128, .inl (fun _ => 0))), (q2, .inl (cI, 0, .inl (fun _ => 0))), (q3, .inl (cL, 0, .inr (.inl (fun _ => 0)))), (q4, .inl (cI, 0, .inl (fun _ => 0))), (q5, .inl (cI, 0, .inl (fun _ => 0))), (q6, .inl (cI, 0, .inl (fun _ => 0)))] := hD
  refine va_put (D := D) (ci := 6) (v := .ref q6) (ty := .array .int) (C := RX6) (T := TX6) (N := 9) hx hb hts inX6 tyX6 tyX6_ok nmX6 hown hK hP hD hS 0 rfl rfl 5 (by decide) (hts _ ki_216) (fun _ h9 => h9) rfl (by decide +kernel) rfl rfl (Nat.le_of_ble_eq_true rfl) dX6_init_45 (fun H locs hP hD hS => ?_)
  replace hP : va_P D vwCl [(h0, .inr (6, [.ref q1, .ref q2, .ref q3, .ref q4, .ref q5, .ref q6, .null, .int 0, .int 0])), (q1, .inl (cI, 128, .inl (fun _ => 0))), (q2, .inl (cI, 0, .inl (fun _ => 0))), (q3, .inl (cL, 0, .inr (.inl (fun _ => 0)))), (q4, .inl (cI, 0, .inl (fun _ => 0))), (q5, .inl (cI, 0, .inl (fun _ => 0))), (q6, .inl (cI, 0, .inl (fun _ => 0)))] H := hP
  replace hD : va_D A [(h0, .inr (6, [.ref q1, .ref q2, .ref q3, .ref q4, .ref q5, .ref q6, .null, .int 0, .int 0])), (q1, .inl (cI, 128, .inl (fun _ => 0))), (q2, .inl (cI, 0, .inl (fun _ => 0))), (q3, .inl (cL, 0, .inr (.inl (fun _ => 0)))), (q4, .inl (cI, 0, .inl (fun _ => 0))), (q5, .inl (cI, 0, .inl (fun _ => 0))), (q6, .inl (cI, 0, .inl (fun _ => 0)))] := hD
  refine lv_aload_n hx hb dX6_init_48 rfl (lv_at hl 0 rfl) ?_
  refine lv_iconst (v := 0) hx hb dX6_init_49 (by decide) ?_
  refine knew_int (N := 0) hx hb hts hK hP hD hS hA rfl (by decide) (by decide) (Nat.le_of_ble_eq_true rfl) (Nat.le_of_ble_eq_true rfl) dX6_init_50 (fun q7 H hP hD hS => ?_)
  replace hP : va_P D vwCl [(h0, .inr (6, [.ref q1, .ref q2, .ref q3, .ref q4, .ref q5, .ref q6, .null, .int 0, .int 0])), (q1, .inl (cI, 128, .inl (fun _ => 0))), (q2, .inl (cI, 0, .inl (fun _ => 0))), (q3, .inl (cL, 0, .inr (.inl (fun _ => 0)))), (q4, .inl (cI, 0, .inl (fun _ => 0))), (q5, .inl (cI, 0, .inl (fun _ => 0))), (q6, .inl (cI, 0, .inl (fun _ => 0))), (q7, .inl (cI, 0, .inl (fun _ => 0)))] H := hP
  replace hD : va_D A [(h0, .inr (6, [.ref q1, .ref q2, .ref q3, .ref q4, .ref q5, .ref q6, .null, .int 0, .int 0])), (q1, .inl (cI, 128, .inl (fun _ => 0))), (q2, .inl (cI, 0, .inl (fun _ => 0))), (q3, .inl (cL, 0, .inr (.inl (fun _ => 0)))), (q4, .inl (cI, 0, .inl (fun _ => 0))), (q5, .inl (cI, 0, .inl (fun _ => 0))), (q6, .inl (cI, 0, .inl (fun _ => 0))), (q7, .inl (cI, 0, .inl (fun _ => 0)))] := hD
  refine va_put (D := D) (ci := 6) (v := .ref q7) (ty := .array .int) (C := RX6) (T := TX6) (N := 9) hx hb hts inX6 tyX6 tyX6_ok nmX6 hown hK hP hD hS 0 rfl rfl 6 (by decide) (hts _ ki_217) (fun _ h9 => h9) rfl (by decide +kernel) rfl rfl (Nat.le_of_ble_eq_true rfl) dX6_init_52 (fun H locs hP hD hS => ?_)
  replace hP : va_P D vwCl [(h0, .inr (6, [.ref q1, .ref q2, .ref q3, .ref q4, .ref q5, .ref q6, .ref q7, .int 0, .int 0])), (q1, .inl (cI, 128, .inl (fun _ => 0))), (q2, .inl (cI, 0, .inl (fun _ => 0))), (q3, .inl (cL, 0, .inr (.inl (fun _ => 0)))), (q4, .inl (cI, 0, .inl (fun _ => 0))), (q5, .inl (cI, 0, .inl (fun _ => 0))), (q6, .inl (cI, 0, .inl (fun _ => 0))), (q7, .inl (cI, 0, .inl (fun _ => 0)))] H := hP
  replace hD : va_D A [(h0, .inr (6, [.ref q1, .ref q2, .ref q3, .ref q4, .ref q5, .ref q6, .ref q7, .int 0, .int 0])), (q1, .inl (cI, 128, .inl (fun _ => 0))), (q2, .inl (cI, 0, .inl (fun _ => 0))), (q3, .inl (cL, 0, .inr (.inl (fun _ => 0)))), (q4, .inl (cI, 0, .inl (fun _ => 0))), (q5, .inl (cI, 0, .inl (fun _ => 0))), (q6, .inl (cI, 0, .inl (fun _ => 0))), (q7, .inl (cI, 0, .inl (fun _ => 0)))] := hD
  refine lv_aload_n hx hb dX6_init_55 rfl (lv_at hl 0 rfl) ?_
  refine lv_iconst (v := (-1)) hx hb dX6_init_56 (by decide) ?_
  refine va_put (D := D) (ci := 6) (v := .int (-1)) (ty := .int) (C := RX6) (T := TX6) (N := 9) hx hb hts inX6 tyX6 tyX6_ok nmX6 hown hK hP hD hS 0 rfl rfl 7 (by decide) (hts _ ki_218) (fun _ h9 => h9) rfl (by decide +kernel) rfl rfl (Nat.le_of_ble_eq_true rfl) dX6_init_57 (fun H locs hP hD hS => ?_)
  replace hP : va_P D vwCl [(h0, .inr (6, [.ref q1, .ref q2, .ref q3, .ref q4, .ref q5, .ref q6, .ref q7, .int (-1), .int 0])), (q1, .inl (cI, 128, .inl (fun _ => 0))), (q2, .inl (cI, 0, .inl (fun _ => 0))), (q3, .inl (cL, 0, .inr (.inl (fun _ => 0)))), (q4, .inl (cI, 0, .inl (fun _ => 0))), (q5, .inl (cI, 0, .inl (fun _ => 0))), (q6, .inl (cI, 0, .inl (fun _ => 0))), (q7, .inl (cI, 0, .inl (fun _ => 0)))] H := hP
  replace hD : va_D A [(h0, .inr (6, [.ref q1, .ref q2, .ref q3, .ref q4, .ref q5, .ref q6, .ref q7, .int (-1), .int 0])), (q1, .inl (cI, 128, .inl (fun _ => 0))), (q2, .inl (cI, 0, .inl (fun _ => 0))), (q3, .inl (cL, 0, .inr (.inl (fun _ => 0)))), (q4, .inl (cI, 0, .inl (fun _ => 0))), (q5, .inl (cI, 0, .inl (fun _ => 0))), (q6, .inl (cI, 0, .inl (fun _ => 0))), (q7, .inl (cI, 0, .inl (fun _ => 0)))] := hD
  refine W.widen (k := 7) (n := 128) (Nat.le_of_ble_eq_true rfl) (Nat.le_of_ble_eq_true rfl) ?_
  exact W.vret hx hb B.returns (fun t ht hW => ⟨⟨(va_ls [0, 0, 0, 0, 0, 0, 0, 0, 0, 0, 0, 0, 0, 0, 0, 0, 0, 0, 0, 0, 0, 0, 0, q1, q2, q3, q4, q5, q6, q7]), rfl, trivial, by rw [ht]; exact hP, va_K.moved hW.alike hK, hD⟩, hS.F ht⟩) hS.2.2 dX6_init_60
set_option maxRecDepth 100000 in
theorem gi_X2_init : GoodIn gw (bw yX2_init cX2_init 1 none) := bi_good (List.mem_of_getElem? (i := 245) rfl)
set_option maxHeartbeats 8000000 in
set_option maxRecDepth 100000 in
theorem i_X2_init (l : Launch) (D : va_G) (cI cZ cL cG : ClassId) (h0 sz : Nat) : Met l yX2_init (bw yX2_init cX2_init 1 none) (crm 1 12 8 0) (va_Pc [.ref h0] (fun U => U.heap.size = sz ∧ va_P D vwCl [(h0, .inr (2, [.null, .null, .null, .null, .null, .null, .null, .null, .int 0, .int 0, .int 0, .int 0, .int 0]))] U.heap ∧ va_K D vwCl (cTy cI cZ cL cG) U ∧ va_D (fun _ => True) [(h0, .inr (2, [.null, .null, .null, .null, .null, .null, .null, .null, .int 0, .int 0, .int 0, .int 0, .int 0]))])) (va_Qv (fun _ : Nat → Nat => True) (fun f t => va_P D vwCl [(h0, .inr (2, [.ref (f 30), .ref (f 31), .ref (f 32), .ref (f 33), .ref (f 34), .ref (f 35), .ref (f 36), .ref (f 37), .int 0, .int 0, .int 0, .int 0, .int 0])), ((f 30), .inl (cI, 0, .inl (fun _ => 0))), ((f 31), .inl (cI, 0, .inl (fun _ => 0))), ((f 32), .inl (cI, 0, .inl (fun _ => 0))), ((f 33), .inl (cI, 0, .inl (fun _ => 0))), ((f 34), .inl (cI, 0, .inl (fun _ => 0))), ((f 35), .inl (cI, 0, .inl (fun _ => 0))), ((f 36), .inl (cI, 0, .inl (fun _ => 0))), ((f 37), .inl (cI, 0, .inl (fun _ => 0)))] t.heap ∧ va_K D vwCl (cTy cI cZ cL cG) t ∧ va_D (va_A [(h0, .inr (2, [.null, .null, .null, .null, .null, .null, .null, .null, .int 0, .int 0, .int 0, .int 0, .int 0]))] sz) [(h0, .inr (2, [.ref (f 30), .ref (f 31), .ref (f 32), .ref (f 33), .ref (f 34), .ref (f 35), .ref (f 36), .ref (f 37), .int 0, .int 0, .int 0, .int 0, .int 0])), ((f 30), .inl (cI, 0, .inl (fun _ => 0))), ((f 31), .inl (cI, 0, .inl (fun _ => 0))), ((f 32), .inl (cI, 0, .inl (fun _ => 0))), ((f 33), .inl (cI, 0, .inl (fun _ => 0))), ((f 34), .inl (cI, 0, .inl (fun _ => 0))), ((f 35), .inl (cI, 0, .inl (fun _ => 0))), ((f 36), .inl (cI, 0, .inl (fun _ => 0))), ((f 37), .inl (cI, 0, .inl (fun _ => 0)))]) (va_A [(h0, .inr (2, [.null, .null, .null, .null, .null, .null, .null, .null, .int 0, .int 0, .int 0, .int 0, .int 0]))] sz)) 8 0 (va_A [(h0, .inr (2, [.null, .null, .null, .null, .null, .null, .null, .null, .int 0, .int 0, .int 0, .int 0, .int 0]))] sz) := by
  refine Met.ofW (cc := cX2_init) (maxL := 1) (ret := none) (by decide) rfl ?_
  intro p e s m args below meth c s₁ B hml hv
  obtain ⟨rfl, hsz, hP, hK, hD0⟩ := hv
  have hx := B.exec
  have hb := B.bytes
  have hts0 := atoms_spec (ws := bw yX2_init cX2_init 1 none) B.pre
  have hts : ∀ w ∈ gw, w.before _ s = true := fun w h => hts0 w (List.mem_cons_of_mem _ h)
  have hown : s.vm.findClass RX2 = some m.cls := findClass_of_methodNamed B.named
  have hin : meth.name = "<init>" := (name_of_methodNamed B.named B.method).1
  subst hsz
  have hD := hD0.self (sz := s.heap.size)
  generalize hAe : va_A [(h0, .inr (2, [.null, .null, .null, .null, .null, .null, .null, .null, .int 0, .int 0, .int 0, .int 0, .int 0]))] s.heap.size = A at hD ⊢
  have hA : ∀ q : Nat, s.heap.size ≤ q → A q := fun q h => by rw [← hAe]; exact Or.inr h
  have hS : va_S A s.heap s.heap [] := va_S.rf
  have hl := lv_entry ([.ref h0]) (n := 1) (Nat.le_of_ble_eq_true rfl)
  rw [lg_entry_eq]
  generalize (lg_sl ([.ref h0]) ++ List.replicate (1 - (lg_sl ([.ref h0])).length) Slot.unset).toArray = ls at hl ⊢
  have hl : lv_has ls 1 [(0, .ref h0)] := hl
  refine lv_aload_n hx hb dX2_init_0 rfl (lv_at hl 0 rfl) ?_
  refine W.objInit hx hb hown (hts _ ki_246) (hts _ ki_70) (hts _ ki_71) rfl (by rw [hml]; exact hl.1) rfl dX2_init_1 (Nat.le_of_ble_eq_true rfl) (Nat.le_of_ble_eq_true rfl) ?_
  refine W.eq (g2 := F0 m 4 ls []) rfl ?_
  refine lv_aload_n hx hb dX2_init_4 rfl (lv_at hl 0 rfl) ?_
  refine lv_iconst (v := 0) hx hb dX2_init_5 (by decide) ?_
  refine knew_int (N := 0) hx hb hts hK hP hD hS hA rfl (by decide) (by decide) (Nat.le_of_ble_eq_true rfl) (Nat.le_of_ble_eq_true rfl) dX2_init_6 (fun q1 H hP hD hS => ?_)
  replace hP : va_P D vwCl [(h0, .inr (2, [.null, .null, .null, .null, .null, .null, .null, .null, .int 0, .int 0, .int 0, .int 0, .int 0])), (q1, .inl (cI, 0, .inl (fun _ => 0)))] H := hP
  replace hD : va_D A [(h0, .inr (2, [.null, .null, .null, .null, .null, .null, .null, .null, .int 0, .int 0, .int 0, .int 0, .int 0])), (q1, .inl (cI, 0, .inl (fun _ => 0)))] := hD
  refine va_put (D := D) (ci := 2) (v := .ref q1) (ty := .array .int) (C := RX2) (T := TX2) (N := 13) hx hb hts inX2 tyX2 tyX2_ok nmX2 hown hK hP hD hS 0 rfl rfl 0 (by decide) (hts _ ki_247) (fun _ h9 => h9) rfl (by decide +kernel) rfl rfl (Nat.le_of_ble_eq_true rfl) dX2_init_8 (fun H locs hP hD hS => ?_)
  replace hP : va_P D vwCl [(h0, .inr (2, [.ref q1, .null, .null, .null, .null, .null, .null, .null, .int 0, .int 0, .int 0, .int 0, .int 0])), (q1, .inl (cI, 0, .inl (fun _ => 0)))] H := hP
  replace hD : va_D A [(h0, .inr (2, [.ref q1, .null, .null, .null, .null, .null, .null, .null, .int 0, .int 0, .int 0, .int 0, .int 0])), (q1, .inl (cI, 0, .inl (fun _ => 0)))] := hD
  refine lv_aload_n hx hb dX2_init_11 rfl (lv_at hl 0 rfl) ?_
  refine lv_iconst (v := 0) hx hb dX2_init_12 (by decide) ?_
  refine knew_int (N := 0) hx hb hts hK hP hD hS hA rfl (by decide) (by decide) (Nat.le_of_ble_eq_true rfl) (Nat.le_of_ble_eq_true rfl) dX2_init_13 (fun q2 H hP hD hS => ?_)
  replace hP : va_P D vwCl [(h0, .inr (2, [.ref q1, .null, .null, .null, .null, .null, .null, .null, .int 0, .int 0, .int 0, .int 0, .int 0])), (q1, .inl (cI, 0, .inl (fun _ => 0))), (q2, .inl (cI, 0, .inl (fun _ => 0)))] H := hP
  replace hD : va_D A [(h0, .inr (2, [.ref q1, .null, .null, .null, .null, .null, .null, .null, .int 0, .int 0, .int 0, .int 0, .int 0])), (q1, .inl (cI, 0, .inl (fun _ => 0))), (q2, .inl (cI, 0, .inl (fun _ => 0)))] := hD
  refine va_put (D := D) (ci := 2) (v := .ref q2) (ty := .array .int) (C := RX2) (T := TX2) (N := 13) hx hb hts inX2 tyX2 tyX2_ok nmX2 hown hK hP hD hS 0 rfl rfl 1 (by decide) (hts _ ki_248) (fun _ h9 => h9) rfl (by decide +kernel) rfl rfl (Nat.le_of_ble_eq_true rfl) dX2_init_15 (fun H locs hP hD hS => ?_)
  replace hP : va_P D vwCl [(h0, .inr (2, [.ref q1, .ref q2, .null, .null, .null, .null, .null, .null, .int 0, .int 0, .int 0, .int 0, .int 0])), (q1, .inl (cI, 0, .inl (fun _ => 0))), (q2, .inl (cI, 0, .inl (fun _ => 0)))] H := hP
  replace hD : va_D A [(h0, .inr (2, [.ref q1, .ref q2, .null, .null, .null, .null, .null, .null, .int 0, .int 0, .int 0, .int 0, .int 0])), (q1, .inl (cI, 0, .inl (fun _ => 0))), (q2, .inl (cI, 0, .inl (fun _ => 0)))] := hD
  refine lv_aload_n hx hb dX2_init_18 rfl (lv_at hl 0 rfl) ?_
  refine lv_iconst (v := 0) hx hb dX2_init_19 (by decide) ?_
  refine knew_int (N := 0) hx hb hts hK hP hD hS hA rfl (by decide) (by decide) (Nat.le_of_ble_eq_true rfl) (Nat.le_of_ble_eq_true rfl) dX2_init_20 (fun q3 H hP hD hS => ?_)
  replace hP : va_P D vwCl [(h0, .inr (2, [.ref q1, .ref q2, .null, .null, .null, .null, .null, .null, .int 0, .int 0, .int 0, .int 0, .int 0])), (q1, .inl (cI, 0, .inl (fun _ => 0))), (q2, .inl (cI, 0, .inl (fun _ => 0))), (q3, .inl (cI, 0, .inl (fun _ => 0)))] H := hP
  replace hD : va_D A [(h0, .inr (2, [.ref q1, .ref q2, .null, .null, .null, .null, .null, .null, .int 0, .int 0, .int 0, .int 0, .int 0])), (q1, .inl (cI, 0, .inl (fun _ => 0))), (q2, .inl (cI, 0, .inl (fun _ => 0))), (q3, .inl (cI, 0, .inl (fun _ => 0)))] := hD
  refine va_put (D := D) (ci := 2) (v := .ref q3) (ty := .array .int) (C := RX2) (T := TX2) (N := 13) hx hb hts inX2 tyX2 tyX2_ok nmX2 hown hK hP hD hS 0 rfl rfl 2 (by decide) (hts _ ki_249) (fun _ h9 => h9) rfl (by decide +kernel) rfl rfl (Nat.le_of_ble_eq_true rfl) dX2_init_22 (fun H locs hP hD hS => ?_)
  replace hP : va_P D vwCl [(h0, .inr (2, [.ref q1, .ref q2, .ref q3, .null, .null, .null, .null, .null, .int 0, .int 0, .int 0, .int 0, .int 0])), (q1, .inl (cI, 0, .inl (fun _ => 0))), (q2, .inl (cI, 0, .inl (fun _ => 0))), (q3, .inl (cI, 0, .inl (fun _ => 0)))] H := hP
  replace hD : va_D A [(h0, .inr (2, [.ref q1, .ref q2, .ref q3, .null, .null, .null, .null, .null, .int 0, .int 0, .int 0, .int 0, .int 0])), (q1, .inl (cI, 0, .inl (fun _ => 0))), (q2, .inl (cI, 0, .inl (fun _ => 0))), (q3, .inl (cI, 0, .inl (fun _ => 0)))] := hD
  refine lv_aload_n hx hb dX2_init_25 rfl (lv_at hl 0 rfl) ?_
  refine lv_iconst (v := 0) hx hb dX2_init_26 (by decide) ?_
  refine knew_int (N := 0) hx hb hts hK hP hD hS hA rfl (by decide) (by decide) (Nat.le_of_ble_eq_true rfl) (Nat.le_of_ble_eq_true rfl) dX2_init_27 (fun q4 H hP hD hS => ?_)
  replace hP : va_P D vwCl [(h0, .inr (2, [.ref q1, .ref q2, .ref q3, .null, .null, .null, .null, .null, .int 0, .int 0, .int 0, .int 0, .int 0])), (q1, .inl (cI, 0, .inl (fun _ => 0))), (q2, .inl (cI, 0, .inl (fun _ => 0))), (q3, .inl (cI, 0, .inl (fun _ => 0))), (q4, .inl (cI, 0, .inl (fun _ => 0)))] H := hP
  replace hD : va_D A [(h0, .inr (2, [.ref q1, .ref q2, .ref q3, .null, .null, .null, .null, .null, .int 0, .int 0, .int 0, .int 0, .int 0])), (q1, .inl (cI, 0, .inl (fun _ => 0))), (q2, .inl (cI, 0, .inl (fun _ => 0))), (q3, .inl (cI, 0, .inl (fun _ => 0))), (q4, .inl (cI, 0, .inl (fun _ => 0)))] := hD
  refine va_put (D := D) (ci := 2) (v := .ref q4) (ty := .array .int) (C := RX2) (T := TX2) (N := 13) hx hb hts inX2 tyX2 tyX2_ok nmX2 hown hK hP hD hS 0 rfl rfl 3 (by decide) (hts _ ki_250) (fun _ h9 => h9) rfl (by decide +kernel) rfl rfl (Nat.le_of_ble_eq_true rfl) dX2_init_29 (fun H locs hP hD hS => ?_)
  replace hP : va_P D vwCl [(h0, .inr (2, [.ref q1, .ref q2, .ref q3, .ref q4, .null, .null, .null, .null, .int 0, .int 0, .int 0, .int 0, .int 0])), (q1, .inl (cI, 0, .inl (fun _ => 0))), (q2, .inl (cI, 0, .inl (fun _ => 0))), (q3, .inl (cI, 0, .inl (fun _ => 0))), (q4, .inl (cI, 0, .inl (fun _ => 0)))] H := hP
  replace hD : va_D A [(h0, .inr (2, [.ref q1, .ref q2, .ref q3, .ref q4, .null, .null, .null, .null, .int 0, .int 0, .int 0, .int 0, .int 0])), (q1, .inl (cI, 0, .inl (fun _ => 0))), (q2, .inl (cI, 0, .inl (fun _ => 0))), (q3, .inl (cI, 0, .inl (fun _ => 0))), (q4, .inl (cI, 0, .inl (fun _ => 0)))] := hD
  refine lv_aload_n hx hb dX2_init_32 rfl (lv_at hl 0 rfl) ?_
  refine lv_iconst (v := 0) hx hb dX2_init_33 (by decide) ?_
  refine knew_int (N := 0) hx hb hts hK hP hD hS hA rfl (by decide) (by decide) (Nat.le_of_ble_eq_true rfl) (Nat.le_of_ble_eq_true rfl) dX2_init_34 (fun q5 H hP hD hS => ?_)
  replace hP : va_P D vwCl [(h0, .inr (2, [.ref q1, .ref q2, .ref q3, .ref q4, .null, .null, .null, .null, .int 0, .int 0, .int 0, .int 0, .int 0])), (q1, .inl (cI, 0, .inl (fun _ => 0))), (q2, .inl (cI, 0, .inl (fun _ => 0))), (q3, .inl (cI, 0, .inl (fun _ => 0))), (q4, .inl (cI, 0, .inl (fun _ => 0))), (q5, .inl (cI, 0, .inl (fun _ => 0)))] H := hP
  replace hD : va_D A [(h0, .inr (2, [.ref q1, .ref q2, .ref q3, .ref q4, .null, .null, .null, .null, .int 0, .int 0, .int 0, .int 0, .int 0])), (q1, .inl (cI, 0, .inl (fun _ => 0))), (q2, .inl (cI, 0, .inl (fun _ => 0))), (q3, .inl (cI, 0, .inl (fun _ => 0))), (q4, .inl (cI, 0, .inl (fun _ => 0))), (q5, .inl (cI, 0, .inl (fun _ => 0)))] := hD
  refine va_put (D := D) (ci := 2) (v := .ref q5) (ty := .array .int) (C := RX2) (T := TX2) (N := 13) hx hb hts inX2 tyX2 tyX2_ok nmX2 hown hK hP hD hS 0 rfl rfl 4 (by decide) (hts _ ki_251) (fun _ h9 => h9) rfl (by decide +kernel) rfl rfl (Nat.le_of_ble_eq_true rfl) dX2_init_36 (fun H locs hP hD hS => ?_)
  replace hP : va_P D vwCl [(h0, .inr (2, [.ref q1, .ref q2, .ref q3, .ref q4, .ref q5, .null, .null, .null, .int 0, .int 0, .int 0, .int 0, .int 0])), (q1, .inl (cI, 0, .inl (fun _ => 0))), (q2, .inl (cI, 0, .inl (fun _ => 0))), (q3, .inl (cI, 0, .inl (fun _ => 0))), (q4, .inl (cI, 0, .inl (fun _ => 0))), (q5, .inl (cI, 0, .inl (fun _ => 0)))] H := hP
  replace hD : va_D A [(h0, .inr (2, [.ref q1, .ref q2, .ref q3, .ref q4, .ref q5, .null, .null, .null, .int 0, .int 0, .int 0, .int 0, .int 0])), (q1, .inl (cI, 0, .inl (fun _ => 0))), (q2, .inl (cI, 0, .inl (fun _ => 0))), (q3, .inl (cI, 0, .inl (fun _ => 0))), (q4, .inl (cI, 0, .inl (fun _ => 0))), (q5, .inl (cI, 0, .inl (fun _ => 0)))] := hD
  refine lv_aload_n hx hb dX2_init_39 rfl (lv_at hl 0 rfl) ?_
  refine lv_iconst (v := 0) hx hb dX2_init_40 (by decide) ?_
  refine knew_int (N := 0) hx hb hts hK hP hD hS hA rfl (by decide) (by decide) (Nat.le_of_ble_eq_true rfl) (Nat.le_of_ble_eq_true rfl) dX2_init_41 (fun q6 H hP hD hS => ?_)
  replace hP : va_P D vwCl [(h0, .inr (2, [.ref q1, .ref q2, .ref q3, .ref q4, .ref q5, .null, .null, .null, .int 0, .int 0, .int 0, .int 0, .int 0])), (q1, .inl (cI, 0, .inl (fun _ => 0))), (q2, .inl (cI, 0, .inl (fun _ => 0))), (q3, .inl (cI, 0, .inl (fun _ => 0))), (q4, .inl (cI, 0, .inl (fun _ => 0))), (q5, .inl (cI, 0, .inl (fun _ => 0))), (q6, .inl (cI, 0, .inl (fun _ => 0)))] H := hP
  replace hD : va_D A [(h0, .inr (2, [.ref q1, .ref q2, .ref q3, .ref q4, .ref q5, .null, .null, .null, .int 0, .int 0, .int 0, .int 0, .int 0])), (q1, .inl (cI, 0, .inl (fun _ => 0))), (q2, .inl (cI, 0, .inl (fun _ => 0))), (q3, .inl (cI, 0, .inl (fun _ => 0))), (q4, .inl (cI, 0, .inl (fun _ => 0))), (q5, .inl (cI, 0, .inl (fun _ => 0))), (q6, .inl (cI, 0, .inl (fun _ => 0)))] := hD
  refine va_put (D := D) (ci := 2) (v := .ref q6) (ty := .array .int) (C := RX2) (T := TX2) (N := 13) hx hb hts inX2 tyX2 tyX2_ok nmX2 hown hK hP hD hS 0 rfl rfl 5 (by decide) (hts _ ki_252) (fun _ h9 => h9) rfl (by decide +kernel) rfl rfl (Nat.le_of_ble_eq_true rfl) dX2_init_43 (fun H locs hP hD hS => ?_)
  replace hP : va_P D vwCl [(h0, .inr (2, [.ref q1, .ref q2, .ref q3, .ref q4, .ref q5, .ref q6, .null, .null, .int 0, .int 0, .int 0, .int 0, .int 0])), (q1, .inl (cI, 0, .inl (fun _ => 0))), (q2, .inl (cI, 0, .inl (fun _ => 0))), (q3, .inl (cI, 0, .inl (fun _ => 0))), (q4, .inl (cI, 0, .inl (fun _ => 0))), (q5, .inl (cI, 0, .inl (fun _ => 0))), (q6, .inl (cI, 0, .inl (fun _ => 0)))] H := hP
  replace hD : va_D A [(h0, .inr (2, [.ref q1, .ref q2, .ref q3, .ref q4, .ref q5, .ref q6, .null, .null, .int 0, .int 0, .int 0, .int 0, .int 0])), (q1, .inl (cI, 0, .inl (fun _ => 0))), (q2, .inl (cI, 0, .inl (fun _ => 0))), (q3, .inl (cI, 0, .inl (fun _ => 0))), (q4, .inl (cI, 0, .inl (fun _ => 0))), (q5, .inl (cI, 0, .inl (fun _ => 0))), (q6, .inl (cI, 0, .inl (fun _ => 0)))] := hD
  refine lv_aload_n hx hb dX2_init_46 rfl (lv_at hl 0 rfl) ?_
  refine lv_iconst (v := 0) hx hb dX2_init_47 (by decide) ?_
  refine knew_int (N := 0) hx hb hts hK hP hD hS hA rfl (by decide) (by decide) (Nat.le_of_ble_eq_true rfl) (Nat.le_of_ble_eq_true rfl) dX2_init_48 (fun q7 H hP hD hS => ?_)
  replace hP : va_P D vwCl [(h0, .inr (2, [.ref q1, .ref q2, .ref q3, .ref q4, .ref q5, .ref q6, .null, .null, .int 0, .int 0, .int 0, .int 0, .int 0])), (q1, .inl (cI, 0, .inl (fun _ => 0))), (q2, .inl (cI, 0, .inl (fun _ => 0))), (q3, .inl (cI, 0, .inl (fun _ => 0))), (q4, .inl (cI, 0, .inl (fun _ => 0))), (q5, .inl (cI, 0, .inl (fun _ => 0))), (q6, .inl (cI, 0, .inl (fun _ => 0))), (q7, .inl (cI, 0, .inl (fun _ => 0)))] H := hP
  replace hD : va_D A [(h0, .inr (2, [.ref q1, .ref q2, .ref q3, .ref q4, .ref q5, .ref q6, .null, .null, .int 0, .int 0, .int 0, .int 0, .int 0])), (q1, .inl (cI, 0, .inl (fun _ => 0))), (q2, .inl (cI, 0, .inl (fun _ => 0))), (q3, .inl (cI, 0, .inl (fun _ => 0))), (q4, .inl (cI, 0, .inl (fun _ => 0))), (q5, .inl (cI, 0, .inl (fun _ => 0))), (q6, .inl (cI, 0, .inl (fun _ => 0))), (q7, .inl (cI, 0, .inl (fun _ => 0)))] := hD
  refine va_put (D := D) (ci := 2) (v := .ref q7) (ty := .array .int) (C := RX2) (T := TX2) (N := 13) hx hb hts inX2 tyX2 tyX2_ok nmX2 hown hK hP hD hS 0 rfl rfl 6 (by decide) (hts _ ki_253) (fun _ h9 => h9) rfl (by decide +kernel) rfl rfl (Nat.le_of_ble_eq_true rfl) dX2_init_50 (fun H locs hP hD hS => ?_)
  replace hP : va_P D vwCl [(h0, .inr (2, [.ref q1, .ref q2, .ref q3, .ref q4, .ref q5, .ref q6, .ref q7, .null, .int 0, .int 0, .int 0, .int 0, .int 0])), (q1, .inl (cI, 0, .inl (fun _ => 0))), (q2, .inl (cI, 0, .inl (fun _ => 0))), (q3, .inl (cI, 0, .inl (fun _ => 0))), (q4, .inl (cI, 0, .inl (fun _ => 0))), (q5, .inl (cI, 0, .inl (fun _ => 0))), (q6, .inl (cI, 0, .inl (fun _ => 0))), (q7, .inl (cI, 0, .inl (fun _ => 0)))] H := hP
  replace hD : va_D A [(h0, .inr (2, [.ref q1, .ref q2, .ref q3, .ref q4, .ref q5, .ref q6, .ref q7, .null, .int 0, .int 0, .int 0, .int 0, .int 0])), (q1, .inl (cI, 0, .inl (fun _ => 0))), (q2, .inl (cI, 0, .inl (fun _ => 0))), (q3, .inl (cI, 0, .inl (fun _ => 0))), (q4, .inl (cI, 0, .inl (fun _ => 0))), (q5, .inl (cI, 0, .inl (fun _ => 0))), (q6, .inl (cI, 0, .inl (fun _ => 0))), (q7, .inl (cI, 0, .inl (fun _ => 0)))] := hD
  refine lv_aload_n hx hb dX2_init_53 rfl (lv_at hl 0 rfl) ?_
  refine lv_iconst (v := 0) hx hb dX2_init_54 (by decide) ?_
  refine knew_int (N := 0) hx hb hts hK hP hD hS hA rfl (by decide) (by decide) (Nat.le_of_ble_eq_true rfl) (Nat.le_of_ble_eq_true rfl) dX2_init_55 (fun q8 H hP hD hS => ?_)
  replace hP : va_P D vwCl [(h0, .inr (2, [.ref q1, .ref q2, .ref q3, .ref q4, .ref q5, .ref q6, .ref q7, .null, .int 0, .int 0, .int 0, .int 0, .int 0])), (q1, .inl (cI, 0, .inl (fun _ => 0))), (q2, .inl (cI, 0, .inl (fun _ => 0))), (q3, .inl (cI, 0, .inl (fun _ => 0))), (q4, .inl (cI, 0, .inl (fun _ => 0))), (q5, .inl (cI, 0, .inl (fun _ => 0))), (q6, .inl (cI, 0, .inl (fun _ => 0))), (q7, .inl (cI, 0, .inl (fun _ => 0))), (q8, .inl (cI, 0, .inl (fun _ => 0)))] H := hP
  replace hD : va_D A [(h0, .inr (2, [.ref q1, .ref q2, .ref q3, .ref q4, .ref q5, .ref q6, .ref q7, .null, .int 0, .int 0, .int 0, .int 0, .int 0])), (q1, .inl (cI, 0, .inl (fun _ => 0))), (q2, .inl (cI, 0, .inl (fun _ => 0))), (q3, .inl (cI, 0, .inl (fun _ => 0))), (q4, .inl (cI, 0, .inl (fun _ => 0))), (q5, .inl (cI, 0, .inl (fun _ => 0))), (q6, .inl (cI, 0, .inl (fun _ => 0))), (q7, .inl (cI, 0, .inl (fun _ => 0))), (q8, .inl (cI, 0, .inl (fun _ => 0)))] := hD
  refine va_put (D := D) (ci := 2) (v := .ref q8) (ty := .array .int) (C := RX2) (T := TX2) (N := 13) hx hb hts inX2 tyX2 tyX2_ok nmX2 hown hK hP hD hS 0 rfl rfl 7 (by decide) (hts _ ki_254) (fun _ h9 => h9) rfl (by decide +kernel) rfl rfl (Nat.le_of_ble_eq_true rfl) dX2_init_57 (fun H locs hP hD hS => ?_)
  replace hP : va_P D vwCl [(h0, .inr (2, [.ref q1, .ref q2, .ref q3, .ref q4, .ref q5, .ref q6, .ref q7, .ref q8, .int 0, .int 0, .int 0, .int 0, .int 0])), (q1, .inl (cI, 0, .inl (fun _ => 0))), (q2, .inl (cI, 0, .inl (fun _ => 0))), (q3, .inl (cI, 0, .inl (fun _ => 0))), (q4, .inl (cI, 0, .inl (fun _ => 0))), (q5, .inl (cI, 0, .inl (fun _ => 0))), (q6, .inl (cI, 0, .inl (fun _ => 0))), (q7, .inl (cI, 0, .inl (fun _ => 0))), (q8, .inl (cI, 0, .inl (fun _ => 0)))] H := hP
  replace hD : va_D A [(h0, .inr (2, [.ref q1, .ref q2, .ref q3, .ref q4, .ref q5, .ref q6, .ref q7, .ref q8, .int 0, .int 0, .int 0, .int 0, .int 0])), (q1, .inl (cI, 0, .inl (fun _ => 0))), (q2, .inl (cI, 0, .inl (fun _ => 0))), (q3, .inl (cI, 0, .inl (fun _ => 0))), (q4, .inl (cI, 0, .inl (fun _ => 0))), (q5, .inl (cI, 0, .inl (fun _ => 0))), (q6, .inl (cI, 0, .inl (fun _ => 0))), (q7, .inl (cI, 0, .inl (fun _ => 0))), (q8, .inl (cI, 0, .inl (fun _ => 0)))] := hD
  refine W.widen (k := 8) (n := 0) (Nat.le_of_ble_eq_true rfl) (Nat.le_of_ble_eq_true rfl) ?_
  exact W.vret hx hb B.returns (fun t ht hW => ⟨⟨(va_ls [0, 0, 0, 0, 0, 0, 0, 0, 0, 0, 0, 0, 0, 0, 0, 0, 0, 0, 0, 0, 0, 0, 0, 0, 0, 0, 0, 0, 0, 0, q1, q2, q3, q4, q5, q6, q7, q8]), rfl, trivial, by rw [ht]; exact hP, va_K.moved hW.alike hK, hD⟩, hS.F ht⟩) hS.2.2 dX2_init_60
set_option maxRecDepth 100000 in
theorem gi_X1_init : GoodIn gw (bw yX1_init cX1_init 1 none) := bi_good (List.mem_of_getElem? (i := 292) rfl)
set_option maxHeartbeats 8000000 in
set_option maxRecDepth 100000 in
theorem i_X1_init (l : Launch) (D : va_G) (cI cZ cL cG : ClassId) (h0 sz : Nat) : Met l yX1_init (bw yX1_init cX1_init 1 none) (crm 1 12 5 944) (va_Pc [.ref h0] (fun U => U.heap.size = sz ∧ va_P D vwCl [(h0, .inr (1, [.null, .null, .null, .null, .null, .int 0]))] U.heap ∧ va_K D vwCl (cTy cI cZ cL cG) U ∧ va_D (fun _ => True) [(h0, .inr (1, [.null, .null, .null, .null, .null, .int 0]))])) (va_Qv (fun _ : Nat → Nat => True) (fun f t => va_P D vwCl [(h0, .inr (1, [.ref (f 38), .ref (f 39), .ref (f 40), .ref (f 41), .ref (f 42), .int 0])), ((f 38), .inl (cI, 8, .inl (fun _ => 0))), ((f 39), .inl (cI, 64, .inl (fun _ => 0))), ((f 40), .inl (cI, 64, .inl (fun _ => 0))), ((f 41), .inl (cI, 320, .inl (fun _ => 0))), ((f 42), .inl (cL, 488, .inr (.inl (fun _ => 0))))] t.heap ∧ va_K D vwCl (cTy cI cZ cL cG) t ∧ va_D (va_A [(h0, .inr (1, [.null, .null, .null, .null, .null, .int 0]))] sz) [(h0, .inr (1, [.ref (f 38), .ref (f 39), .ref (f 40), .ref (f 41), .ref (f 42), .int 0])), ((f 38), .inl (cI, 8, .inl (fun _ => 0))), ((f 39), .inl (cI, 64, .inl (fun _ => 0))), ((f 40), .inl (cI, 64, .inl (fun _ => 0))), ((f 41), .inl (cI, 320, .inl (fun _ => 0))), ((f 42), .inl (cL, 488, .inr (.inl (fun _ => 0))))]) (va_A [(h0, .inr (1, [.null, .null, .null, .null, .null, .int 0]))] sz)) 5 944 (va_A [(h0, .inr (1, [.null, .null, .null, .null, .null, .int 0]))] sz) := by
  refine Met.ofW (cc := cX1_init) (maxL := 1) (ret := none) (by decide) rfl ?_
  intro p e s m args below meth c s₁ B hml hv
  obtain ⟨rfl, hsz, hP, hK, hD0⟩ := hv
  have hx := B.exec
  have hb := B.bytes
  have hts0 := atoms_spec (ws := bw yX1_init cX1_init 1 none) B.pre
  have hts : ∀ w ∈ gw, w.before _ s = true := fun w h => hts0 w (List.mem_cons_of_mem _ h)
  have hown : s.vm.findClass RX1 = some m.cls := findClass_of_methodNamed B.named
  have hin : meth.name = "<init>" := (name_of_methodNamed B.named B.method).1
  subst hsz
  have hD := hD0.self (sz := s.heap.size)
  generalize hAe : va_A [(h0, .inr (1, [.null, .null, .null, .null, .null, .int 0]))] s.heap.size = A at hD ⊢
  have hA : ∀ q : Nat, s.heap.size ≤ q → A q := fun q h => by rw [← hAe]; exact Or.inr h
  have hS : va_S A s.heap s.heap [] := va_S.rf
  have hl := lv_entry ([.ref h0]) (n := 1) (Nat.le_of_ble_eq_true rfl)
  rw [lg_entry_eq]
  generalize (lg_sl ([.ref h0]) ++ List.replicate (1 - (lg_sl ([.ref h0])).length) Slot.unset).toArray = ls at hl ⊢
  have hl : lv_has ls 1 [(0, .ref h0)] := hl
  refine lv_aload_n hx hb dX1_init_0 rfl (lv_at hl 0 rfl) ?_
  refine W.objInit hx hb hown (hts _ ki_293) (hts _ ki_70) (hts _ ki_71) rfl (by rw [hml]; exact hl.1) rfl dX1_init_1 (Nat.le_of_ble_eq_true rfl) (Nat.le_of_ble_eq_true rfl) ?_
  refine W.eq (g2 := F0 m 4 ls []) rfl ?_
  refine lv_aload_n hx hb dX1_init_4 rfl (lv_at hl 0 rfl) ?_
  refine lv_bipush (v := 8) hx hb dX1_init_5 (by decide) ?_
  refine knew_int (N := 8) hx hb hts hK hP hD hS hA rfl (by decide) (by decide) (Nat.le_of_ble_eq_true rfl) (Nat.le_of_ble_eq_true rfl) dX1_init_7 (fun q1 H hP hD hS => ?_)
  replace hP : va_P D vwCl [(h0, .inr (1, [.null, .null, .null, .null, .null, .int 0])), (q1, .inl (cI, 8, .inl (fun _ => 0)))] H := hP
  replace hD : va_D A [(h0, .inr (1, [.null, .null, .null, .null, .null, .int 0])), (q1, .inl (cI, 8, .inl (fun _ => 0)))] := hD
  refine va_putF (D := D) (ci := 1) (v := .ref q1) (ty := .array .int) (C := RX1) (T := TX1) (N := 6) hx hb hts inX1 tyX1 tyX1_ok nmX1 hown hK hP hD hS 0 rfl rfl 0 (by decide) (hts _ ki_294) (fun _ h9 => h9) rfl hin rfl (by decide +kernel) rfl rfl (Nat.le_of_ble_eq_true rfl) dX1_init_9 (fun H locs hP hD hS => ?_)
  replace hP : va_P D vwCl [(h0, .inr (1, [.ref q1, .null, .null, .null, .null, .int 0])), (q1, .inl (cI, 8, .inl (fun _ => 0)))] H := hP
  replace hD : va_D A [(h0, .inr (1, [.ref q1, .null, .null, .null, .null, .int 0])), (q1, .inl (cI, 8, .inl (fun _ => 0)))] := hD
  refine lv_aload_n hx hb dX1_init_12 rfl (lv_at hl 0 rfl) ?_
  refine lv_bipush (v := 64) hx hb dX1_init_13 (by decide) ?_
  refine knew_int (N := 64) hx hb hts hK hP hD hS hA rfl (by decide) (by decide) (Nat.le_of_ble_eq_true rfl) (Nat.le_of_ble_eq_true rfl) dX1_init_15 (fun q2 H hP hD hS => ?_)
  replace hP : va_P D vwCl [(h0, .inr (1, [.ref q1, .null, .null, .null, .null, .int 0])), (q1, .inl (cI, 8, .inl (fun _ => 0))), (q2, .inl (cI, 64, .inl (fun _ => 0)))] H := hP
  replace hD : va_D A [(h0, .inr (1, [.ref q1, .null, .null, .null, .null, .int 0])), (q1, .inl (cI, 8, .inl (fun _ => 0))), (q2, .inl (cI, 64, .inl (fun _ => 0)))] := hD
  refine va_putF (D := D) (ci := 1) (v := .ref q2) (ty := .array .int) (C := RX1) (T := TX1) (N := 6) hx hb hts inX1 tyX1 tyX1_ok nmX1 hown hK hP hD hS 0 rfl rfl 1 (by decide) (hts _ ki_296) (fun _ h9 => h9) rfl hin rfl (by decide +kernel) rfl rfl (Nat.le_of_ble_eq_true rfl) dX1_init_17 (fun H locs hP hD hS => ?_)
  replace hP : va_P D vwCl [(h0, .inr (1, [.ref q1, .ref q2, .null, .null, .null, .int 0])), (q1, .inl (cI, 8, .inl (fun _ => 0))), (q2, .inl (cI, 64, .inl (fun _ => 0)))] H := hP
  replace hD : va_D A [(h0, .inr (1, [.ref q1, .ref q2, .null, .null, .null, .int 0])), (q1, .inl (cI, 8, .inl (fun _ => 0))), (q2, .inl (cI, 64, .inl (fun _ => 0)))] := hD
  refine lv_aload_n hx hb dX1_init_20 rfl (lv_at hl 0 rfl) ?_
  refine lv_bipush (v := 64) hx hb dX1_init_21 (by decide) ?_
  refine knew_int (N := 64) hx hb hts hK hP hD hS hA rfl (by decide) (by decide) (Nat.le_of_ble_eq_true rfl) (Nat.le_of_ble_eq_true rfl) dX1_init_23 (fun q3 H hP hD hS => ?_)
  replace hP : va_P D vwCl [(h0, .inr (1, [.ref q1, .ref q2, .null, .null, .null, .int 0])), (q1, .inl (cI, 8, .inl (fun _ => 0))), (q2, .inl (cI, 64, .inl (fun _ => 0))), (q3, .inl (cI, 64, .inl (fun _ => 0)))] H := hP
  replace hD : va_D A [(h0, .inr (1, [.ref q1, .ref q2, .null, .null, .null, .int 0])), (q1, .inl (cI, 8, .inl (fun _ => 0))), (q2, .inl (cI, 64, .inl (fun _ => 0))), (q3, .inl (cI, 64, .inl (fun _ => 0)))] := hD
  refine va_putF (D := D) (ci := 1) (v := .ref q3) (ty := .array .int) (C := RX1) (T := TX1) (N := 6) hx hb hts inX1 tyX1 tyX1_ok nmX1 hown hK hP hD hS 0 rfl rfl 2 (by decide) (hts _ ki_298) (fun _ h9 => h9) rfl hin rfl (by decide +kernel) rfl rfl (Nat.le_of_ble_eq_true rfl) dX1_init_25 (fun H locs hP hD hS => ?_)
  replace hP : va_P D vwCl [(h0, .inr (1, [.ref q1, .ref q2, .ref q3, .null, .null, .int 0])), (q1, .inl (cI, 8, .inl (fun _ => 0))), (q2, .inl (cI, 64, .inl (fun _ => 0))), (q3, .inl (cI, 64, .inl (fun _ => 0)))] H := hP
  replace hD : va_D A [(h0, .inr (1, [.ref q1, .ref q2, .ref q3, .null, .null, .int 0])), (q1, .inl (cI, 8, .inl (fun _ => 0))), (q2, .inl (cI, 64, .inl (fun _ => 0))), (q3, .inl (cI, 64, .inl (fun _ => 0)))] := hD
  refine lv_aload_n hx hb dX1_init_28 rfl (lv_at hl 0 rfl) ?_
  refine lv_sipush (v := 320) hx hb dX1_init_29 (by decide) ?_
  refine knew_int (N := 320) hx hb hts hK hP hD hS hA rfl (by decide) (by decide) (Nat.le_of_ble_eq_true rfl) (Nat.le_of_ble_eq_true rfl) dX1_init_32 (fun q4 H hP hD hS => ?_)
  replace hP : va_P D vwCl [(h0, .inr (1, [.ref q1, .ref q2, .ref q3, .null, .null, .int 0])), (q1, .inl (cI, 8, .inl (fun _ => 0))), (q2, .inl (cI, 64, .inl (fun _ => 0))), (q3, .inl (cI, 64, .inl (fun _ => 0))), (q4, .inl (cI, 320, .inl (fun _ => 0)))] H := hP
  replace hD : va_D A [(h0, .inr (1, [.ref q1, .ref q2, .ref q3, .null, .null, .int 0])), (q1, .inl (cI, 8, .inl (fun _ => 0))), (q2, .inl (cI, 64, .inl (fun _ => 0))), (q3, .inl (cI, 64, .inl (fun _ => 0))), (q4, .inl (cI, 320, .inl (fun _ => 0)))] := hD
  refine va_putF (D := D) (ci := 1) (v := .ref q4) (ty := .array .int) (C := RX1) (T := TX1) (N := 6) hx hb hts inX1 tyX1 tyX1_ok nmX1 hown hK hP hD hS 0 rfl rfl 3 (by decide) (hts _ ki_300) (fun _ h9 => h9) rfl hin rfl (by decide +kernel) rfl rfl (Nat.le_of_ble_eq_true rfl) dX1_init_34 (fun H locs hP hD hS => ?_)
  replace hP : va_P D vwCl [(h0, .inr (1, [.ref q1, .ref q2, .ref q3, .ref q4, .null, .int 0])), (q1, .inl (cI, 8, .inl (fun _ => 0))), (q2, .inl (cI, 64, .inl (fun _ => 0))), (q3, .inl (cI, 64, .inl (fun _ => 0))), (q4, .inl (cI, 320, .inl (fun _ => 0)))] H := hP
  replace hD : va_D A [(h0, .inr (1, [.ref q1, .ref q2, .ref q3, .ref q4, .null, .int 0])), (q1, .inl (cI, 8, .inl (fun _ => 0))), (q2, .inl (cI, 64, .inl (fun _ => 0))), (q3, .inl (cI, 64, .inl (fun _ => 0))), (q4, .inl (cI, 320, .inl (fun _ => 0)))] := hD
  refine lv_aload_n hx hb dX1_init_37 rfl (lv_at hl 0 rfl) ?_
  refine lv_sipush (v := 488) hx hb dX1_init_38 (by decide) ?_
  refine knew_long (N := 488) hx hb hts hK hP hD hS hA rfl (by decide) (by decide) (Nat.le_of_ble_eq_true rfl) (Nat.le_of_ble_eq_true rfl) dX1_init_41 (fun q5 H hP hD hS => ?_)
  replace hP : va_P D vwCl [(h0, .inr (1, [.ref q1, .ref q2, .ref q3, .ref q4, .null, .int 0])), (q1, .inl (cI, 8, .inl (fun _ => 0))), (q2, .inl (cI, 64, .inl (fun _ => 0))), (q3, .inl (cI, 64, .inl (fun _ => 0))), (q4, .inl (cI, 320, .inl (fun _ => 0))), (q5, .inl (cL, 488, .inr (.inl (fun _ => 0))))] H := hP
  replace hD : va_D A [(h0, .inr (1, [.ref q1, .ref q2, .ref q3, .ref q4, .null, .int 0])), (q1, .inl (cI, 8, .inl (fun _ => 0))), (q2, .inl (cI, 64, .inl (fun _ => 0))), (q3, .inl (cI, 64, .inl (fun _ => 0))), (q4, .inl (cI, 320, .inl (fun _ => 0))), (q5, .inl (cL, 488, .inr (.inl (fun _ => 0))))] := hD
  refine va_putF (D := D) (ci := 1) (v := .ref q5) (ty := .array .long) (C := RX1) (T := TX1) (N := 6) hx hb hts inX1 tyX1 tyX1_ok nmX1 hown hK hP hD hS 0 rfl rfl 4 (by decide) (hts _ ki_302) (fun _ h9 => h9) rfl hin rfl (by decide +kernel) rfl rfl (Nat.le_of_ble_eq_true rfl) dX1_init_43 (fun H locs hP hD hS => ?_)
  replace hP : va_P D vwCl [(h0, .inr (1, [.ref q1, .ref q2, .ref q3, .ref q4, .ref q5, .int 0])), (q1, .inl (cI, 8, .inl (fun _ => 0))), (q2, .inl (cI, 64, .inl (fun _ => 0))), (q3, .inl (cI, 64, .inl (fun _ => 0))), (q4, .inl (cI, 320, .inl (fun _ => 0))), (q5, .inl (cL, 488, .inr (.inl (fun _ => 0))))] H := hP
  replace hD : va_D A [(h0, .inr (1, [.ref q1, .ref q2, .ref q3, .ref q4, .ref q5, .int 0])), (q1, .inl (cI, 8, .inl (fun _ => 0))), (q2, .inl (cI, 64, .inl (fun _ => 0))), (q3, .inl (cI, 64, .inl (fun _ => 0))), (q4, .inl (cI, 320, .inl (fun _ => 0))), (q5, .inl (cL, 488, .inr (.inl (fun _ => 0))))] := hD
  refine W.widen (k := 5) (n := 944) (Nat.le_of_ble_eq_true rfl) (Nat.le_of_ble_eq_true rfl) ?_
  exact W.vret hx hb B.returns (fun t ht hW => ⟨⟨(va_ls [0, 0, 0, 0, 0, 0, 0, 0, 0, 0, 0, 0, 0, 0, 0, 0, 0, 0, 0, 0, 0, 0, 0, 0, 0, 0, 0, 0, 0, 0, 0, 0, 0, 0, 0, 0, 0, 0, q1, q2, q3, q4, q5]), rfl, trivial, by rw [ht]; exact hP, va_K.moved hW.alike hK, hD⟩, hS.F ht⟩) hS.2.2 dX1_init_46
set_option maxRecDepth 100000 in
theorem gi_X7_init : GoodIn gw (bw yX7_init cX7_init 1 none) := bi_good (List.mem_of_getElem? (i := 322) rfl)
set_option maxHeartbeats 8000000 in
set_option maxRecDepth 100000 in
theorem i_X7_init (l : Launch) (D : va_G) (cI cZ cL cG : ClassId) (h0 sz : Nat) : Met l yX7_init (bw yX7_init cX7_init 1 none) (crm 1 12 8 42) (va_Pc [.ref h0] (fun U => U.heap.size = sz ∧ va_P D vwCl [(h0, .inr (7, [.null, .int 0, .int 0, .int 0, .int 0]))] U.heap ∧ va_K D vwCl (cTy cI cZ cL cG) U ∧ va_D (fun _ => True) [(h0, .inr (7, [.null, .int 0, .int 0, .int 0, .int 0]))] ∧ va_AOA .int U)) (va_Qv (fun _ : Nat → Nat => True) (fun f t => va_P D vwCl [(h0, .inr (7, [.ref (f 43), .int 0, .int 0, .int 0, .int (-1)])), ((f 43), .inl (cG, 7, .inr (.inr (.inr (.inr (fun i => if i < 7 then some (f (44 + i)) else none)))))), ((f 44), .inl (cI, 5, .inl (fun _ => 0))), ((f 45), .inl (cI, 5, .inl (fun _ => 0))), ((f 46), .inl (cI, 5, .inl (fun _ => 0))), ((f 47), .inl (cI, 5, .inl (fun _ => 0))), ((f 48), .inl (cI, 5, .inl (fun _ => 0))), ((f 49), .inl (cI, 5, .inl (fun _ => 0))), ((f 50), .inl (cI, 5, .inl (fun _ => 0)))] t.heap ∧ va_K D vwCl (cTy cI cZ cL cG) t ∧ va_D (va_A [(h0, .inr (7, [.null, .int 0, .int 0, .int 0, .int 0]))] sz) [(h0, .inr (7, [.ref (f 43), .int 0, .int 0, .int 0, .int (-1)])), ((f 43), .inl (cG, 7, .inr (.inr (.inr (.inr (fun i => if i < 7 then some (f (44 + i)) else none)))))), ((f 44), .inl (cI, 5, .inl (fun _ => 0))), ((f 45), .inl (cI, 5, .inl (fun _ => 0))), ((f 46), .inl (cI, 5, .inl (fun _ => 0))), ((f 47), .inl (cI, 5, .inl (fun _ => 0))), ((f 48), .inl (cI, 5, .inl (fun _ => 0))), ((f 49), .inl (cI, 5, .inl (fun _ => 0))), ((f 50), .inl (cI, 5, .inl (fun _ => 0)))]) (va_A [(h0, .inr (7, [.null, .int 0, .int 0, .int 0, .int 0]))] sz)) 8 42 (va_A [(h0, .inr (7, [.null, .int 0, .int 0, .int 0, .int 0]))] sz) := by
  refine Met.ofW (cc := cX7_init) (maxL := 1) (ret := none) (by decide) rfl ?_
  intro p e s m args below meth c s₁ B hml hv
  obtain ⟨rfl, hsz, hP, hK, hD0, hao⟩ := hv
  have hx := B.exec
  have hb := B.bytes
  have hts0 := atoms_spec (ws := bw yX7_init cX7_init 1 none) B.pre
  have hts : ∀ w ∈ gw, w.before _ s = true := fun w h => hts0 w (List.mem_cons_of_mem _ h)
  have hown : s.vm.findClass RX7 = some m.cls := findClass_of_methodNamed B.named
  have hin : meth.name = "<init>" := (name_of_methodNamed B.named B.method).1
  subst hsz
  have hD := hD0.self (sz := s.heap.size)
  generalize hAe : va_A [(h0, .inr (7, [.null, .int 0, .int 0, .int 0, .int 0]))] s.heap.size = A at hD ⊢
  have hA : ∀ q : Nat, s.heap.size ≤ q → A q := fun q h => by rw [← hAe]; exact Or.inr h
  have hS : va_S A s.heap s.heap [] := va_S.rf
  have hl := lv_entry ([.ref h0]) (n := 1) (Nat.le_of_ble_eq_true rfl)
  rw [lg_entry_eq]
  generalize (lg_sl ([.ref h0]) ++ List.replicate (1 - (lg_sl ([.ref h0])).length) Slot.unset).toArray = ls at hl ⊢
  have hl : lv_has ls 1 [(0, .ref h0)] := hl
  refine lv_aload_n hx hb dX7_init_0 rfl (lv_at hl 0 rfl) ?_
  refine W.objInit hx hb hown (hts _ ki_323) (hts _ ki_70) (hts _ ki_71) rfl (by rw [hml]; exact hl.1) rfl dX7_init_1 (Nat.le_of_ble_eq_true rfl) (Nat.le_of_ble_eq_true rfl) ?_
  refine W.eq (g2 := F0 m 4 ls []) rfl ?_
  refine lv_aload_n hx hb dX7_init_4 rfl (lv_at hl 0 rfl) ?_
  refine lv_bipush (v := 7) hx hb dX7_init_5 (by decide) ?_
  refine lv_iconst (v := 5) hx hb dX7_init_7 (by decide) ?_
  refine va_mna (X := [(h0, .inr (7, [.null, .int 0, .int 0, .int 0, .int 0]))]) (L := []) (f := fun _ => .inl (cI, 5, .inl (fun _ => 0))) (ty := .int) (cy := cI) (N' := 7) (K' := 5) (z := (5, .inl (fun _ => 0))) hx hb hown (show (Cond.classLink RX7 9 ("[" ++ (FieldType.array .int).toString)).before _ s = true from hts _ ki_324) hao (hts _ kar_int) (hK.2 0 _ rfl).2 hK hP hD hS hA (by decide) (by decide) rfl rfl (by decide) (by decide) (by decide) rfl rfl (Nat.le_of_ble_eq_true rfl) (Nat.le_of_ble_eq_true rfl) (fun c => by show ({ cls := c, slots := Array.replicate 5 (.int 0), vm := .none } : Cell) = _; rw [arrV_new]; rfl) dX7_init_8 (fun q1 r cA H hr1 hr2 hK4 hP hD hS => ?_)
  have e : cG = cA := Option.some.inj ((hK.2 3 _ rfl).2.symm.trans (hK4.2 4 _ rfl).2)
  subst e
  clear hK4 hr1 hr2
  have e : ∀ l : List Nat, vr_up (fun _ => (.inl (cI, 5, .inl (fun _ => 0)) : va_E)) l (.inl (cI, 5, .inl (fun _ => 0))) = fun _ => .inl (cI, 5, .inl (fun _ => 0)) := fun l => by funext a; unfold vr_up; split <;> rfl
  rw [e] at hP hD
  obtain ⟨kF, hkF, hkq⟩ : ∃ kF : Nat → Nat, (∀ i, kF (44 + i) = r i) ∧ kF 43 = q1 := ⟨fun j => if j = 43 then q1 else r (j - 44), fun i => by show (if 44 + i = 43 then q1 else r (44 + i - 44)) = r i; rw [if_neg (by omega), Nat.add_sub_cancel_left], rfl⟩
  have er : r = fun i => kF (44 + i) := funext fun i => (hkF i).symm
  subst er
  clear e hkF
  replace hP : va_P D vwCl [(h0, .inr (7, [.null, .int 0, .int 0, .int 0, .int 0])), (q1, .inl (cG, 7, .inr (.inr (.inr (.inr (fun i => if i < 7 then some (kF (44 + i)) else none)))))), ((kF 44), .inl (cI, 5, .inl (fun _ => 0))), ((kF 45), .inl (cI, 5, .inl (fun _ => 0))), ((kF 46), .inl (cI, 5, .inl (fun _ => 0))), ((kF 47), .inl (cI, 5, .inl (fun _ => 0))), ((kF 48), .inl (cI, 5, .inl (fun _ => 0))), ((kF 49), .inl (cI, 5, .inl (fun _ => 0))), ((kF 50), .inl (cI, 5, .inl (fun _ => 0)))] H := hP
  replace hD : va_D A [(h0, .inr (7, [.null, .int 0, .int 0, .int 0, .int 0])), (q1, .inl (cG, 7, .inr (.inr (.inr (.inr (fun i => if i < 7 then some (kF (44 + i)) else none)))))), ((kF 44), .inl (cI, 5, .inl (fun _ => 0))), ((kF 45), .inl (cI, 5, .inl (fun _ => 0))), ((kF 46), .inl (cI, 5, .inl (fun _ => 0))), ((kF 47), .inl (cI, 5, .inl (fun _ => 0))), ((kF 48), .inl (cI, 5, .inl (fun _ => 0))), ((kF 49), .inl (cI, 5, .inl (fun _ => 0))), ((kF 50), .inl (cI, 5, .inl (fun _ => 0)))] := hD
  refine va_putF (D := D) (ci := 7) (v := .ref q1) (ty := .array (.array .int)) (C := RX7) (T := TX7) (N := 5) hx hb hts inX7 tyX7 tyX7_ok nmX7 hown hK hP hD hS 0 rfl rfl 0 (by decide) (hts _ ki_326) (fun _ h9 => h9) rfl hin rfl (by decide +kernel) rfl rfl (Nat.le_of_ble_eq_true rfl) dX7_init_12 (fun H locs hP hD hS => ?_)
  replace hP : va_P D vwCl [(h0, .inr (7, [.ref q1, .int 0, .int 0, .int 0, .int 0])), (q1, .inl (cG, 7, .inr (.inr (.inr (.inr (fun i => if i < 7 then some (kF (44 + i)) else none)))))), ((kF 44), .inl (cI, 5, .inl (fun _ => 0))), ((kF 45), .inl (cI, 5, .inl (fun _ => 0))), ((kF 46), .inl (cI, 5, .inl (fun _ => 0))), ((kF 47), .inl (cI, 5, .inl (fun _ => 0))), ((kF 48), .inl (cI, 5, .inl (fun _ => 0))), ((kF 49), .inl (cI, 5, .inl (fun _ => 0))), ((kF 50), .inl (cI, 5, .inl (fun _ => 0)))] H := hP
  replace hD : va_D A [(h0, .inr (7, [.ref q1, .int 0, .int 0, .int 0, .int 0])), (q1, .inl (cG, 7, .inr (.inr (.inr (.inr (fun i => if i < 7 then some (kF (44 + i)) else none)))))), ((kF 44), .inl (cI, 5, .inl (fun _ => 0))), ((kF 45), .inl (cI, 5, .inl (fun _ => 0))), ((kF 46), .inl (cI, 5, .inl (fun _ => 0))), ((kF 47), .inl (cI, 5, .inl (fun _ => 0))), ((kF 48), .inl (cI, 5, .inl (fun _ => 0))), ((kF 49), .inl (cI, 5, .inl (fun _ => 0))), ((kF 50), .inl (cI, 5, .inl (fun _ => 0)))] := hD
  refine lv_aload_n hx hb dX7_init_15 rfl (lv_at hl 0 rfl) ?_
  refine lv_iconst (v := (-1)) hx hb dX7_init_16 (by decide) ?_
  refine va_put (D := D) (ci := 7) (v := .int (-1)) (ty := .int) (C := RX7) (T := TX7) (N := 5) hx hb hts inX7 tyX7 tyX7_ok nmX7 hown hK hP hD hS 0 rfl rfl 4 (by decide) (hts _ ki_330) (fun _ h9 => h9) rfl (by decide +kernel) rfl rfl (Nat.le_of_ble_eq_true rfl) dX7_init_17 (fun H locs hP hD hS => ?_)
  replace hP : va_P D vwCl [(h0, .inr (7, [.ref q1, .int 0, .int 0, .int 0, .int (-1)])), (q1, .inl (cG, 7, .inr (.inr (.inr (.inr (fun i => if i < 7 then some (kF (44 + i)) else none)))))), ((kF 44), .inl (cI, 5, .inl (fun _ => 0))), ((kF 45), .inl (cI, 5, .inl (fun _ => 0))), ((kF 46), .inl (cI, 5, .inl (fun _ => 0))), ((kF 47), .inl (cI, 5, .inl (fun _ => 0))), ((kF 48), .inl (cI, 5, .inl (fun _ => 0))), ((kF 49), .inl (cI, 5, .inl (fun _ => 0))), ((kF 50), .inl (cI, 5, .inl (fun _ => 0)))] H := hP
  replace hD : va_D A [(h0, .inr (7, [.ref q1, .int 0, .int 0, .int 0, .int (-1)])), (q1, .inl (cG, 7, .inr (.inr (.inr (.inr (fun i => if i < 7 then some (kF (44 + i)) else none)))))), ((kF 44), .inl (cI, 5, .inl (fun _ => 0))), ((kF 45), .inl (cI, 5, .inl (fun _ => 0))), ((kF 46), .inl (cI, 5, .inl (fun _ => 0))), ((kF 47), .inl (cI, 5, .inl (fun _ => 0))), ((kF 48), .inl (cI, 5, .inl (fun _ => 0))), ((kF 49), .inl (cI, 5, .inl (fun _ => 0))), ((kF 50), .inl (cI, 5, .inl (fun _ => 0)))] := hD
  refine W.widen (k := 8) (n := 42) (Nat.le_of_ble_eq_true rfl) (Nat.le_of_ble_eq_true rfl) ?_
  subst hkq
  exact W.vret hx hb B.returns (fun t ht hW => ⟨⟨kF, rfl, trivial, by rw [ht]; exact hP, va_K.moved hW.alike hK, hD⟩, hS.F ht⟩) hS.2.2 dX7_init_20
