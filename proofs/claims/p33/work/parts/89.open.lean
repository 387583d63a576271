theorem kl_51 : (.initialized RX8 : Cond) ∈ gw := List.mem_filter.mpr ⟨List.mem_of_getElem? (i := 51) (by decide +kernel), by decide +kernel⟩
theorem kl_60 : (.initialized RX9 : Cond) ∈ gw := List.mem_filter.mpr ⟨List.mem_of_getElem? (i := 60) (by decide +kernel), by decide +kernel⟩
theorem kl_64 : (.classLink R_law 7 RX8 : Cond) ∈ gw := List.mem_filter.mpr ⟨List.mem_of_getElem? (i := 64) (by decide +kernel), by decide +kernel⟩
theorem kl_65 : (.instantiable RX8 11 : Cond) ∈ gw := List.mem_filter.mpr ⟨List.mem_of_getElem? (i := 65) (by decide +kernel), by decide +kernel⟩
theorem kl_66 : (.methodLink R_law 9 yX8_init : Cond) ∈ gw := List.mem_filter.mpr ⟨List.mem_of_getElem? (i := 66) (by decide +kernel), by decide +kernel⟩
theorem kl_67 : (.instanceMethod yX8_init : Cond) ∈ gw := List.mem_filter.mpr ⟨List.mem_of_getElem? (i := 67) (by decide +kernel), by decide +kernel⟩
theorem kl_822 : (.classLink R_law 10 RX9 : Cond) ∈ gw := List.mem_filter.mpr ⟨List.mem_of_getElem? (i := 822) (by decide +kernel), by decide +kernel⟩
theorem kl_823 : (.instantiable RX9 48 : Cond) ∈ gw := List.mem_filter.mpr ⟨List.mem_of_getElem? (i := 823) (by decide +kernel), by decide +kernel⟩
theorem kl_824 : (.methodLink R_law 12 yX9_init : Cond) ∈ gw := List.mem_filter.mpr ⟨List.mem_of_getElem? (i := 824) (by decide +kernel), by decide +kernel⟩
theorem kl_825 : (.instanceMethod yX9_init : Cond) ∈ gw := List.mem_filter.mpr ⟨List.mem_of_getElem? (i := 825) (by decide +kernel), by decide +kernel⟩
theorem kArr {args : Array Value} {s : State} {ty : FieldType} (h : (Cond.arrayClass ty).before args s = true) (ho : ∀ C, ty ≠ .object C) : ∃ c : ClassId, ArrOfT s c ty ∧ va_RA s c ty := by
  obtain ⟨c, k, comp, h1, h2, h3⟩ := Cond.arrayClass_spec h
  refine ⟨c, fun N z => ⟨(fun q hq => by cases hq), k, h2, comp, h3⟩, ?_⟩
  cases ty <;> first | exact h1 | exact absurd rfl (ho _)
theorem kGrid {args : Array Value} {s : State} (h : (Cond.arrayOver (.array .int)).before args s = true) : ∃ c : ClassId, ArrOfT s c (.array .int) ∧ va_RA s c (.array .int) := by
  obtain ⟨comp, c, k, hc, hi, hk, hkind, hn⟩ := arrayOverA_spec h
  exact ⟨c, fun N z => ⟨(fun q hq => by cases hq), k, hk, comp, hkind⟩, hn⟩
set_option maxHeartbeats 8000000 in
set_option maxRecDepth 100000 in
/-- the two objects are made: the loop begins -/
theorem law_open {p : Program} {e : Env} {s : State} {m : MethodId} {below : List Frame} {meth : Method} {c : Code} (l : Launch) {b L : Nat} {xs : Nat → Int32} (C0 : lw_At p s m meth c b L xs) (go : ∀ (D : va_G) (cI cZ cL cG : ClassId) (ad am : Nat → Nat) (H : Heap) (locs : List Loc) (ls : Array Slot), va_K D vwCl (cTy cI cZ cL cG) s → cZw s → va_P D vwCl (cW ad ad cI cZ cL cG cS0 ++ mW am cI cZ cL mS0) H → va_D (fun q : Nat => s.heap.size ≤ q) (cW ad ad cI cZ cL cG cS0 ++ mW am cI cZ cL mS0) → va_S (fun q : Nat => s.heap.size ≤ q) s.heap H locs → lv_has ls 4 [(0, .ref b), (1, .ref (ad 0)), (2, .ref (am 0)), (3, .int (nI (9 * 0)))] → W p l e room_1 s m #[Value.ref b] below meth c H locs (89 + 0) (323256 + 0) (lw_Z below #[Value.ref b] s) (F0 m 18 ls [])) : W p l e room_1 s m #[Value.ref b] below meth c s.heap [] 0 0 (lw_Z below #[Value.ref b] s) (entryFrame m ([Value.ref b] : List Value).toArray 4) := by
  obtain ⟨hx, hb, hr, hml, hown, hts0, hX, hbl, hlocks, hgv⟩ := C0
  have hts : ∀ w ∈ gw, w.before #[Value.ref b] s = true := fun w h => hts0 w (List.mem_filter.mp h).1
  have hA : ∀ q : Nat, s.heap.size ≤ q → (fun q : Nat => s.heap.size ≤ q) q := fun _ h => h
  obtain ⟨c0, iS0, hKn0⟩ := u_known (C := RX0) (T := TX0) (N := 7) (n := 7) hts inX0 (hts0 (.instantiable RX0 7) (List.mem_of_getElem? (i := 73) (by decide +kernel)))
  obtain ⟨c1, iS1, hKn1⟩ := u_known (C := RX1) (T := TX1) (N := 6) (n := 6) hts inX1 (hts0 (.instantiable RX1 6) (List.mem_of_getElem? (i := 289) (by decide +kernel)))
  obtain ⟨c2, iS2, hKn2⟩ := u_known (C := RX2) (T := TX2) (N := 13) (n := 13) hts inX2 (hts0 (.instantiable RX2 13) (List.mem_of_getElem? (i := 242) (by decide +kernel)))
  obtain ⟨c3, iS3, hKn3⟩ := u_known (C := RX3) (T := TX3) (N := 10) (n := 10) hts inX3 (hts0 (.instantiable RX3 10) (List.mem_of_getElem? (i := 120) (by decide +kernel)))
  obtain ⟨c4, iS4, hKn4⟩ := u_known (C := RX4) (T := TX4) (N := 4) (n := 4) hts inX4 (hts0 (.instantiable RX4 4) (List.mem_of_getElem? (i := 169) (by decide +kernel)))
  obtain ⟨c5, iS5, hKn5⟩ := u_known (C := RX5) (T := TX5) (N := 2) (n := 2) hts inX5 (hts0 (.instantiable RX5 2) (List.mem_of_getElem? (i := 190) (by decide +kernel)))
  obtain ⟨c6, iS6, hKn6⟩ := u_known (C := RX6) (T := TX6) (N := 9) (n := 9) hts inX6 (hts0 (.instantiable RX6 9) (List.mem_of_getElem? (i := 206) (by decide +kernel)))
  obtain ⟨c7, iS7, hKn7⟩ := u_known (C := RX7) (T := TX7) (N := 5) (n := 5) hts inX7 (hts0 (.instantiable RX7 5) (List.mem_of_getElem? (i := 319) (by decide +kernel)))
  obtain ⟨c8, iS8, hKn8⟩ := u_known (C := RX8) (T := TX8) (N := 11) (n := 11) hts inX8 (hts0 (.instantiable RX8 11) (List.mem_of_getElem? (i := 65) (by decide +kernel)))
  obtain ⟨c9, iS9, hKn9⟩ := u_known (C := RX9) (T := TX9) (N := 48) (n := 48) hts inX9 (hts0 (.instantiable RX9 48) (List.mem_of_getElem? (i := 823) (by decide +kernel)))
  obtain ⟨dC, dI, hKc⟩ : ∃ (dC : Nat → ClassId) (dI : Nat → Nat → Nat), ∀ (k : Nat) (q : vw_C), vwCl[k]? = some q → u_Kn s q.1 q.2.1 q.2.2 (dC k) (dI k) := by
    refine ⟨fun k => if k = 0 then c0 else if k = 1 then c1 else if k = 2 then c2 else if k = 3 then c3 else if k = 4 then c4 else if k = 5 then c5 else if k = 6 then c6 else if k = 7 then c7 else if k = 8 then c8 else c9, fun k => if k = 0 then iS0 else if k = 1 then iS1 else if k = 2 then iS2 else if k = 3 then iS3 else if k = 4 then iS4 else if k = 5 then iS5 else if k = 6 then iS6 else if k = 7 then iS7 else if k = 8 then iS8 else iS9, ?_⟩
    intro k q hq
    match k, hq with
    | 0, hq => cases hq; exact hKn0
    | 1, hq => cases hq; exact hKn1
    | 2, hq => cases hq; exact hKn2
    | 3, hq => cases hq; exact hKn3
    | 4, hq => cases hq; exact hKn4
    | 5, hq => cases hq; exact hKn5
    | 6, hq => cases hq; exact hKn6
    | 7, hq => cases hq; exact hKn7
    | 8, hq => cases hq; exact hKn8
    | 9, hq => cases hq; exact hKn9
    | k + 10, hq => simp [vwCl] at hq
  obtain ⟨cI, hcI⟩ := kArr (ty := .int) (hts _ kar_int) (fun C q => by cases q)
  obtain ⟨cZ, hcZ⟩ := kArr (ty := .boolean) (hts _ kar_boolean) (fun C q => by cases q)
  obtain ⟨cL, hcL⟩ := kArr (ty := .long) (hts _ kar_long) (fun C q => by cases q)
  have hov := hts0 (.arrayOver (.array .int)) (List.mem_of_getElem? (i := 325) (by decide +kernel))
  obtain ⟨cG, hcG⟩ := kGrid hov
  have hao : va_AOA .int s := over_moved (Vm.Alike.refl s.vm) hov
  have hK : va_K (dC, dI) vwCl (cTy cI cZ cL cG) s := by
    refine ⟨hKc, fun k q hk => ?_⟩
    match k, hk with
    | 0, hk => cases hk; exact hcI
    | 1, hk => cases hk; exact hcZ
    | 2, hk => cases hk; exact hcL
    | 3, hk => cases hk; exact hcG
    | k + 4, hk => simp at hk
  have hZ : cZw s := ⟨va_Nw.of rfl (hts0 (.castable "[I" "java/lang/Cloneable") (List.mem_of_getElem? (i := 606) (by decide +kernel))), va_Nw.of rfl (hts0 (.castable "[Z" "java/lang/Cloneable") (List.mem_of_getElem? (i := 717) (by decide +kernel)))⟩
  have hn18 : va_Nw (.methodLinkNest RX8 18 yX3_init "DiscYard") s := va_Nw.of rfl (hts0 (.methodLinkNest RX8 18 yX3_init "DiscYard") (List.mem_of_getElem? (i := 121) (by decide +kernel)))
  have hn25 : va_Nw (.methodLinkNest RX8 25 yX4_init "DiscYard") s := va_Nw.of rfl (hts0 (.methodLinkNest RX8 25 yX4_init "DiscYard") (List.mem_of_getElem? (i := 170) (by decide +kernel)))
  have hn32 : va_Nw (.methodLinkNest RX8 32 yX5_init "DiscYard") s := va_Nw.of rfl (hts0 (.methodLinkNest RX8 32 yX5_init "DiscYard") (List.mem_of_getElem? (i := 191) (by decide +kernel)))
  have hn39 : va_Nw (.methodLinkNest RX8 39 yX6_init "DiscYard") s := va_Nw.of rfl (hts0 (.methodLinkNest RX8 39 yX6_init "DiscYard") (List.mem_of_getElem? (i := 207) (by decide +kernel)))
  have hn46 : va_Nw (.methodLinkNest RX8 46 yX2_init "DiscYard") s := va_Nw.of rfl (hts0 (.methodLinkNest RX8 46 yX2_init "DiscYard") (List.mem_of_getElem? (i := 243) (by decide +kernel)))
  have hn53 : va_Nw (.methodLinkNest RX8 53 yX1_init "DiscYard") s := va_Nw.of rfl (hts0 (.methodLinkNest RX8 53 yX1_init "DiscYard") (List.mem_of_getElem? (i := 290) (by decide +kernel)))
  have hn60 : va_Nw (.methodLinkNest RX8 60 yX7_init "DiscYard") s := va_Nw.of rfl (hts0 (.methodLinkNest RX8 60 yX7_init "DiscYard") (List.mem_of_getElem? (i := 320) (by decide +kernel)))
  have hS : va_S (fun q : Nat => s.heap.size ≤ q) s.heap s.heap [] := va_S.rf
  have hP : va_P (dC, dI) vwCl [] s.heap := fun k q h => by simp at h
  have hD : va_D (fun q : Nat => s.heap.size ≤ q) [] := ⟨fun i j p q h => by simp at h, fun k q h => by simp at h⟩
  have hl := lv_entry ([.ref b]) (n := 4) (Nat.le_of_ble_eq_true rfl)
  rw [lg_entry_eq]
  generalize (lg_sl ([.ref b]) ++ List.replicate (4 - (lg_sl ([.ref b])).length) Slot.unset).toArray = ls at hl ⊢
  have hl : lv_has ls 4 [(0, .ref b)] := hl
  refine va_new (ci := 8) (fs := [.null, .null, .null, .null, .null, .null, .null, .null, .int 0, .int 0, .int 0]) (C := RX8) (T := TX8) (N := 11) hx hb hts inX8 tyX8 tyX8_ok hown (hts _ kl_64) (hts _ kl_65) (hts _ kl_51) hK hP hD hS hA rfl (fun j hj => match j, hj with | 0, _ => rfl | 1, _ => rfl | 2, _ => rfl | 3, _ => rfl | 4, _ => rfl | 5, _ => rfl | 6, _ => rfl | 7, _ => rfl | 8, _ => rfl | 9, _ => rfl | 10, _ => rfl | j + 11, hj => absurd hj (Nat.not_lt.mpr (Nat.le_add_left _ _))) (Nat.le_of_ble_eq_true rfl) (Nat.le_of_ble_eq_true rfl) dl_0 (fun qa H hP hD hS => ?_)
  replace hP : va_P (dC, dI) vwCl ([] ++ [(qa, .inr (8, [.null, .null, .null, .null, .null, .null, .null, .null, .int 0, .int 0, .int 0]))]) H := hP
  replace hD : va_D (fun q : Nat => s.heap.size ≤ q) ([] ++ [(qa, .inr (8, [.null, .null, .null, .null, .null, .null, .null, .null, .int 0, .int 0, .int 0]))]) := hD
  refine lv_dup hx hb dl_3 rfl ?_
  have hPc := hP.sub (ws' := [(qa, .inr (8, [.null, .null, .null, .null, .null, .null, .null, .null, .int 0, .int 0, .int 0]))]) [0] rfl
  have hDc := hD.sub (ws' := [(qa, .inr (8, [.null, .null, .null, .null, .null, .null, .null, .null, .int 0, .int 0, .int 0]))]) [0] (by decide) rfl
  have hFc := va_free (wc := [(qa, .inr (8, [.null, .null, .null, .null, .null, .null, .null, .null, .int 0, .int 0, .int 0]))]) hD hS hA [0] rfl
  refine va_callv (va_runI (As := []) (rest := [.ref qa]) ⟨hx, hb, hml, hown, hts⟩ (i_X8_init l (dC, dI) cI cZ cL cG qa H.size) (cwI 0 hts gi_X8_init rfl rfl rfl (hts _ kl_51) (hts _ kl_66) (hts _ kl_67) rfl (by decide +kernel) ⟨Nat.le_of_ble_eq_true rfl, Nat.le_of_ble_eq_true rfl⟩) ⟨fun a U g mk q => by obtain ⟨q0, q1, qP, qK, qD, e0, e1, e2, e3, e4, e5, e6, e7⟩ := q; exact ⟨q0, q1, qP, va_K.moved (u := U) (U := U.calling g mk a) (Vm.Alike.refl U.vm) qK, qD, va_Nw.same rfl (u := U) rfl e0, va_Nw.same rfl (u := U) rfl e1, va_Nw.same rfl (u := U) rfl e2, va_Nw.same rfl (u := U) rfl e3, va_Nw.same rfl (u := U) rfl e4, va_Nw.same rfl (u := U) rfl e5, va_AOA.moved (Vm.Alike.refl U.vm) e6, va_Nw.same rfl (u := U) rfl e7⟩, fun U hU hW => ⟨rfl, by rw [hU], by rw [hU]; exact hPc, va_K.moved hW.alike hK, hDc.weaken (fun _ _ _ _ => trivial), va_Nw.warmM hW hn18, va_Nw.warmM hW hn25, va_Nw.warmM hW hn32, va_Nw.warmM hW hn39, va_Nw.warmM hW hn46, va_Nw.warmM hW hn53, va_AOA.moved hW.alike hao, va_Nw.warmM hW hn60⟩⟩ rfl rfl hl.1 rfl (lv_room (Nat.le_of_ble_eq_true rfl)) dl_4 ⟨Nat.le_of_ble_eq_true rfl, Nat.le_of_ble_eq_true rfl⟩) hS (fun q _ h => hFc q h) hFc (fun ad t H1 locs ht hvm hw hB hz1 hk1 hS => ?_)
  obtain ⟨hP1, hK1, hD1⟩ := hB
  rw [ht] at hP1
  have hw1 := hw
  clear hw
  replace hP1 : va_P (dC, dI) vwCl (cW ad ad cI cZ cL cG cS0) H1 := hP1
  replace hD1 : va_D _ (cW ad ad cI cZ cL cG cS0) := hD1
  obtain ⟨hP2, hD2⟩ := va_join (wr := []) (w1 := (cW ad ad cI cZ cL cG cS0)) hP hD [0] [] rfl rfl (by decide) (by decide) hk1 hFc hP1 hD1
  clear hP1 hK1 hD1 hPc hDc hFc hk1 hz1 hP hD
  replace hP : va_P (dC, dI) vwCl (cW ad ad cI cZ cL cG cS0) H1 := hP2
  replace hD : va_D (fun q : Nat => s.heap.size ≤ q) (cW ad ad cI cZ cL cG cS0) := hD2
  clear hP2 hD2
  generalize H1 = H at hP hS ⊢
  refine lv_astore_n (lv' := [(1, .ref qa), (0, .ref b)]) hx hb dl_7 rfl hl (by decide) rfl (fun ls hl => ?_)
  refine va_new (ci := 9) (fs := [.int 0, .int 0, .int 0, .int 0, .null, .null, .null, .null, .null, .null, .int 0, .int 0, .null, .int 0, .null, .null, .null, .null, .null, .null, .null, .int 0, .null, .null, .null, .null, .null, .null, .null, .null, .null, .null, .null, .int 0, .null, .null, .null, .null, .null, .null, .null, .int 0, .null, .null, .null, .null, .null, .int 0]) (C := RX9) (T := TX9) (N := 48) hx hb hts inX9 tyX9 tyX9_ok hown (hts _ kl_822) (hts _ kl_823) (hts _ kl_60) hK hP hD hS hA rfl (fun j hj => match j, hj with | 0, _ => rfl | 1, _ => rfl | 2, _ => rfl | 3, _ => rfl | 4, _ => rfl | 5, _ => rfl | 6, _ => rfl | 7, _ => rfl | 8, _ => rfl | 9, _ => rfl | 10, _ => rfl | 11, _ => rfl | 12, _ => rfl | 13, _ => rfl | 14, _ => rfl | 15, _ => rfl | 16, _ => rfl | 17, _ => rfl | 18, _ => rfl | 19, _ => rfl | 20, _ => rfl | 21, _ => rfl | 22, _ => rfl | 23, _ => rfl | 24, _ => rfl | 25, _ => rfl | 26, _ => rfl | 27, _ => rfl | 28, _ => rfl | 29, _ => rfl | 30, _ => rfl | 31, _ => rfl | 32, _ => rfl | 33, _ => rfl | 34, _ => rfl | 35, _ => rfl | 36, _ => rfl | 37, _ => rfl | 38, _ => rfl | 39, _ => rfl | 40, _ => rfl | 41, _ => rfl | 42, _ => rfl | 43, _ => rfl | 44, _ => rfl | 45, _ => rfl | 46, _ => rfl | 47, _ => rfl | j + 48, hj => absurd hj (Nat.not_lt.mpr (Nat.le_add_left _ _))) (Nat.le_of_ble_eq_true rfl) (Nat.le_of_ble_eq_true rfl) dl_8 (fun qb H hP hD hS => ?_)
  replace hP : va_P (dC, dI) vwCl ((cW ad ad cI cZ cL cG cS0) ++ [(qb, .inr (9, [.int 0, .int 0, .int 0, .int 0, .null, .null, .null, .null, .null, .null, .int 0, .int 0, .null, .int 0, .null, .null, .null, .null, .null, .null, .null, .int 0, .null, .null, .null, .null, .null, .null, .null, .null, .null, .null, .null, .int 0, .null, .null, .null, .null, .null, .null, .null, .int 0, .null, .null, .null, .null, .null, .int 0]))]) H := hP
  replace hD : va_D (fun q : Nat => s.heap.size ≤ q) ((cW ad ad cI cZ cL cG cS0) ++ [(qb, .inr (9, [.int 0, .int 0, .int 0, .int 0, .null, .null, .null, .null, .null, .null, .int 0, .int 0, .null, .int 0, .null, .null, .null, .null, .null, .null, .null, .int 0, .null, .null, .null, .null, .null, .null, .null, .null, .null, .null, .null, .int 0, .null, .null, .null, .null, .null, .null, .null, .int 0, .null, .null, .null, .null, .null, .int 0]))]) := hD
  refine lv_dup hx hb dl_11 rfl ?_
  have hPc := hP.sub (ws' := [(qb, .inr (9, [.int 0, .int 0, .int 0, .int 0, .null, .null, .null, .null, .null, .null, .int 0, .int 0, .null, .int 0, .null, .null, .null, .null, .null, .null, .null, .int 0, .null, .null, .null, .null, .null, .null, .null, .null, .null, .null, .null, .int 0, .null, .null, .null, .null, .null, .null, .null, .int 0, .null, .null, .null, .null, .null, .int 0]))]) [51] rfl
  have hDc := hD.sub (ws' := [(qb, .inr (9, [.int 0, .int 0, .int 0, .int 0, .null, .null, .null, .null, .null, .null, .int 0, .int 0, .null, .int 0, .null, .null, .null, .null, .null, .null, .null, .int 0, .null, .null, .null, .null, .null, .null, .null, .null, .null, .null, .null, .int 0, .null, .null, .null, .null, .null, .null, .null, .int 0, .null, .null, .null, .null, .null, .int 0]))]) [51] (by decide) rfl
  have hFc := va_free (wc := [(qb, .inr (9, [.int 0, .int 0, .int 0, .int 0, .null, .null, .null, .null, .null, .null, .int 0, .int 0, .null, .int 0, .null, .null, .null, .null, .null, .null, .null, .int 0, .null, .null, .null, .null, .null, .null, .null, .null, .null, .null, .null, .int 0, .null, .null, .null, .null, .null, .null, .null, .int 0, .null, .null, .null, .null, .null, .int 0]))]) hD hS hA [51] rfl
  refine va_callv (va_runI (As := []) (rest := [.ref qb]) ⟨hx, hb, hml, hown, hts⟩ (i_X9_init l (dC, dI) cI cZ cL cG qb H.size) (cwI 0 hts gi_X9_init rfl rfl rfl (hts _ kl_60) (hts _ kl_824) (hts _ kl_825) rfl (by decide +kernel) ⟨Nat.le_of_ble_eq_true rfl, Nat.le_of_ble_eq_true rfl⟩) ⟨fun a U g mk q => by obtain ⟨q0, q1, qP, qK, qD⟩ := q; exact ⟨q0, q1, qP, va_K.moved (u := U) (U := U.calling g mk a) (Vm.Alike.refl U.vm) qK, qD⟩, fun U hU hW => ⟨rfl, by rw [hU], by rw [hU]; exact hPc, va_K.moved hW.alike hK, hDc.weaken (fun _ _ _ _ => trivial)⟩⟩ rfl rfl hl.1 rfl (lv_room (Nat.le_of_ble_eq_true rfl)) dl_12 ⟨Nat.le_of_ble_eq_true rfl, Nat.le_of_ble_eq_true rfl⟩) hS (fun q _ h => hFc q h) hFc (fun am t H1 locs ht hvm hw hB hz1 hk1 hS => ?_)
  obtain ⟨hP1, hK1, hD1⟩ := hB
  rw [ht] at hP1
  have hw2 := hw
  clear hw
  replace hP1 : va_P (dC, dI) vwCl (mW am cI cZ cL mS0) H1 := hP1
  replace hD1 : va_D _ (mW am cI cZ cL mS0) := hD1
  obtain ⟨hP2, hD2⟩ := va_join (wr := (cW ad ad cI cZ cL cG cS0)) (w1 := (mW am cI cZ cL mS0)) hP hD [51] [0, 1, 2, 3, 4, 5, 6, 7, 8, 9, 10, 11, 12, 13, 14, 15, 16, 17, 18, 19, 20, 21, 22, 23, 24, 25, 26, 27, 28, 29, 30, 31, 32, 33, 34, 35, 36, 37, 38, 39, 40, 41, 42, 43, 44, 45, 46, 47, 48, 49, 50] rfl rfl (by decide) (by decide) hk1 hFc hP1 hD1
  clear hP1 hK1 hD1 hPc hDc hFc hk1 hz1 hP hD
  replace hP : va_P (dC, dI) vwCl ((cW ad ad cI cZ cL cG cS0) ++ (mW am cI cZ cL mS0)) H1 := hP2
  replace hD : va_D (fun q : Nat => s.heap.size ≤ q) ((cW ad ad cI cZ cL cG cS0) ++ (mW am cI cZ cL mS0)) := hD2
  clear hP2 hD2
  generalize H1 = H at hP hS ⊢
  refine lv_astore_n (lv' := [(2, .ref qb), (1, .ref qa), (0, .ref b)]) hx hb dl_15 rfl hl (by decide) rfl (fun ls hl => ?_)
  refine lv_iconst (v := 0) hx hb dl_16 (by decide) ?_
  refine lv_istore_n (lv' := [(3, .int 0), (2, .ref qb), (1, .ref qa), (0, .ref b)]) hx hb dl_17 rfl hl (by decide) rfl (fun ls hl => ?_)
  refine W.widen (k := 89 + 0) (n := 323256 + 0) (Nat.le_of_ble_eq_true rfl) (Nat.le_of_ble_eq_true rfl) ?_
  exact go (dC, dI) cI cZ cL cG ad am H _ ls hK hZ hP hD hS (by rw [hw1, hw2]; exact lv_sub hl [3, 2, 1, 0] rfl)
