def filI (f : Nat → Int32) (n : Nat) (v : Int32) : Nat → Int32 := fun j => if j < n then v else f j
def filL (f : Nat → Int64) (n : Nat) (v : Int64) : Nat → Int64 := fun j => if j < n then v else f j
theorem filI_0 (f : Nat → Int32) (v : Int32) : filI f 0 v = f := by funext j; simp [filI]
theorem filI_s (f : Nat → Int32) (n : Nat) (v : Int32) : upd (filI f n v) n v = filI f (n + 1) v := by
  funext j
  unfold upd filI
  by_cases h : j = n
  · rw [if_pos h, if_pos (by omega)]
  · rw [if_neg h]
    by_cases h2 : j < n
    · rw [if_pos h2, if_pos (by omega)]
    · rw [if_neg h2, if_neg (by omega)]
theorem filL_0 (f : Nat → Int64) (v : Int64) : filL f 0 v = f := by funext j; simp [filL]
theorem filL_s (f : Nat → Int64) (n : Nat) (v : Int64) : vp_updL (filL f n v) n v = filL f (n + 1) v := by
  funext j
  unfold vp_updL filL
  by_cases h : j = n
  · rw [if_pos h, if_pos (by omega)]
  · rw [if_neg h]
    by_cases h2 : j < n
    · rw [if_pos h2, if_pos (by omega)]
    · rw [if_neg h2, if_neg (by omega)]
theorem ls_set {ws : va_W} {k : Nat} {x y : Nat × va_E} (h : ws[k]? = some x) : (ws.set k y)[k]? = some y := by
  have hl := (List.getElem?_eq_some_iff.mp h).1
  rw [List.getElem?_set_self hl]
theorem ls_id {ws : va_W} {k : Nat} {x : Nat × va_E} (h : ws[k]? = some x) : ws.set k x = ws := by
  obtain ⟨hl, e⟩ := List.getElem?_eq_some_iff.mp h
  subst e
  exact List.set_getElem_self hl
set_option maxHeartbeats 4000000 in
set_option maxRecDepth 100000 in
theorem c_filI (l : Launch) (D : va_G) (tys : List (ClassId × FieldType)) (ws : va_W) (k a n sz t0 : Nat) (cA : ClassId) (f : Nat → Int32) (v : Int32) (hk : ws[k]? = some (a, .inl (cA, n, .inl f))) (ht : tys[t0]? = some (cA, .int)) (hn : n < 2147483648) : Met l yJ7_fill_53178 (bw yJ7_fill_53178 cJ7_fill_53178 4 none) (crm 0 0 0 0) (va_Pc [.ref a, .int v] (fun U => U.heap.size = sz ∧ va_P D vwCl ws U.heap ∧ va_K D vwCl tys U ∧ va_D (fun _ => True) ws)) (va_Qv (fun _ : Unit => True) (fun _ t => va_P D vwCl (ws.set k (a, .inl (cA, n, .inl (filI f n v)))) t.heap ∧ va_K D vwCl tys t ∧ va_D (va_A ws sz) (ws.set k (a, .inl (cA, n, .inl (filI f n v))))) (va_A ws sz)) 0 0 (va_A ws sz) := by
  refine Met.ofW (cc := cJ7_fill_53178) (maxL := 4) (ret := none) (by decide) rfl ?_
  intro p e s m args below meth c s₁ B hml hv
  obtain ⟨rfl, hsz, hP, hK, hD0⟩ := hv
  have hx := B.exec
  have hb := B.bytes
  subst hsz
  have hD := hD0.self (sz := s.heap.size)
  generalize hAe : va_A ws s.heap.size = A at hD ⊢
  have hS : va_S A s.heap s.heap [] := va_S.rf
  have hl := lv_entry ([.ref a, .int v]) (n := 4) (Nat.le_of_ble_eq_true rfl)
  rw [lg_entry_eq]
  generalize (lg_sl ([.ref a, .int v]) ++ List.replicate (4 - (lg_sl ([.ref a, .int v])).length) Slot.unset).toArray = ls at hl ⊢
  have hl : lv_has ls 4 [(0, .ref a), (1, .int v)] := hl
  have key : ∀ d j, j + d = n → ∀ (H : Heap) (locs : List Loc) (ls : Array Slot), va_P D vwCl (ws.set k (a, .inl (cA, n, .inl (filI f j v)))) H → va_D A (ws.set k (a, .inl (cA, n, .inl (filI f j v)))) → va_S A s.heap H locs → lv_has ls 4 [(3, .int (nI n)), (2, .int (nI j)), (0, .ref a), (1, .int v)] → W p l e (crm 0 0 0 0) s m ([.ref a, .int v] : List Value).toArray below meth c H locs 0 0 (MQ below (va_Qv (fun _ : Unit => True) (fun _ t => va_P D vwCl (ws.set k (a, .inl (cA, n, .inl (filI f n v)))) t.heap ∧ va_K D vwCl tys t ∧ va_D A (ws.set k (a, .inl (cA, n, .inl (filI f n v))))) A) ([.ref a, .int v] : List Value).toArray s 0 0 A) (F0 m 5 ls []) := by
    intro d
    induction d with
    | zero =>
      intro j hj H locs ls hP hD hS hl
      refine lv_iload_n hx hb dJ7_fill_53178_5 rfl (lv_at hl 1 rfl) ?_
      refine lv_iload_n hx hb dJ7_fill_53178_6 rfl (lv_at hl 0 rfl) ?_
      refine lv_icmp_ge (tgt := 20) hx hb dJ7_fill_53178_7 (by decide) (fun c1 => ?_) (fun c1 => ?_)
      · have : j = n := by omega
        subst this
        exact W.vret hx hb B.returns (fun t ht hW => ⟨⟨(), rfl, trivial, by rw [ht]; exact hP, va_K.moved hW.alike hK, hD⟩, hS.F ht⟩) hS.2.2 dJ7_fill_53178_20
      · exact absurd (nI_le (by omega) (by omega)) c1
    | succ d ih =>
      intro j hj H locs ls hP hD hS hl
      refine lv_iload_n hx hb dJ7_fill_53178_5 rfl (lv_at hl 1 rfl) ?_
      refine lv_iload_n hx hb dJ7_fill_53178_6 rfl (lv_at hl 0 rfl) ?_
      refine lv_icmp_ge (tgt := 20) hx hb dJ7_fill_53178_7 (by decide) (fun c1 => ?_) (fun c1 => ?_)
      · exact absurd c1 (nI_ge (by omega) (by omega))
      · refine lv_aload_n hx hb dJ7_fill_53178_10 rfl (lv_at hl 2 rfl) ?_
        refine lv_iload_n hx hb dJ7_fill_53178_11 rfl (lv_at hl 1 rfl) ?_
        refine lv_iload_n hx hb dJ7_fill_53178_12 rfl (lv_at hl 3 rfl) ?_
        refine va_iast (f := filI f j v) hx hb hK hP hD hS k t0 (ls_set hk) ht (vp_in_nI (show j < n by omega) hn) dJ7_fill_53178_13 (fun H locs hP hD hS => ?_)
        rw [List.set_set, nI_clamp (by omega), filI_s] at hP hD
        refine lv_iinc (v := nI (j + 1)) (lv' := [(2, .int (nI (j + 1))), (3, .int (nI n)), (0, .ref a), (1, .int v)]) hx hb dJ7_fill_53178_14 hl (k := 1) rfl (by rw [nI_succ]; rfl) (by decide) rfl (fun ls hl => ?_)
        refine lv_goto (tgt := 5) hx hb dJ7_fill_53178_17 (by decide) ?_
        exact ih (j + 1) (by omega) H locs ls hP hD hS (lv_sub hl [1, 0, 2, 3] rfl)
  refine lv_iconst (v := 0) hx hb dJ7_fill_53178_0 (by decide) ?_
  refine lv_istore_n (lv' := [(2, .int 0), (0, .ref a), (1, .int v)]) hx hb dJ7_fill_53178_1 rfl hl (by decide) rfl (fun ls hl => ?_)
  refine lv_aload_n hx hb dJ7_fill_53178_2 rfl (lv_at hl 1 rfl) ?_
  refine va_alen (v := nI n) hx hb hK hP k t0 hk ht rfl dJ7_fill_53178_3 ?_
  refine lv_istore_n (lv' := [(3, .int (nI n)), (2, .int 0), (0, .ref a), (1, .int v)]) hx hb dJ7_fill_53178_4 rfl hl (by decide) rfl (fun ls hl => ?_)
  refine key n 0 (by omega) _ _ ls ?_ ?_ hS hl
  · rw [filI_0, ls_id hk]; exact hP
  · rw [filI_0, ls_id hk]; exact hD
set_option maxHeartbeats 4000000 in
theorem cfill_filI {p : Program} {l : Launch} {e : Env} {R : Room} {s : State} {m : MethodId} {args : Array Value} {below : List Frame} {meth : Method} {c : Code} {H : Heap} {locs : List Loc} {cells slots : Nat} {Q : State → Prop} {cc : ByteArray} {pc nL : Nat} {ls : Array Slot} {rest : List Value} {D : va_G} {A : Nat → Prop} {ad vd : Nat → Nat} {cI cZ cL cG : ClassId} {S : CS} {X : va_W} {own : String} {idx a n : Nat} {f : Nat → Int32} {v : Int32} {lv : List (Nat × Value)} (k : Nat) (hk : (cW ad vd cI cZ cL cG S ++ X)[k]? = some (a, .inl (cI, n, .inl f))) (hn : n < 2147483648) (hx : p.tables.exec = Jvm.exec) (hb : c.code = cc) (hml : c.maxLocals = nL) (hown : s.vm.findClass own = some m.cls) (hts : ∀ w ∈ gw, w.before args s = true) (hK : va_K D vwCl (cTy cI cZ cL cG) s) (hA : ∀ q, s.heap.size ≤ q → A q) (hP : va_P D vwCl (cW ad vd cI cZ cL cG S ++ X) H) (hD : va_D A (cW ad vd cI cZ cL cG S ++ X)) (hS : va_S A s.heap H locs) (hl : lv_has ls nL lv) (hG : GoodIn gw (va_wsS own idx yJ7_fill_53178 (bw yJ7_fill_53178 cJ7_fill_53178 4 none))) (hR : 0 + 1 ≤ R.frames ∧ 8 + (4 + 11) + 0 ≤ R.locals) (hroom : (rest.map fun v => v.category).sum ≤ 8) (hdg : decode cc pc = .ok (.invokestatic idx, 3)) (hcl : cells ≤ R.cells) (hsl : slots ≤ R.slots) (kk : ∀ (H1 : Heap) (locs1 : List Loc), va_P D vwCl ((cW ad vd cI cZ cL cG S ++ X).set k (a, .inl (cI, n, .inl (filI f n v)))) H1 → va_D A ((cW ad vd cI cZ cL cG S ++ X).set k (a, .inl (cI, n, .inl (filI f n v)))) → va_S A s.heap H1 locs1 → W p l e R s m args below meth c H1 locs1 cells slots Q (F0 m (pc + 3) ls rest)) : W p l e R s m args below meth c H locs cells slots Q (F0 m pc ls (.int v :: .ref a :: rest)) := by
  have hFc : ∀ q, va_A (cW ad vd cI cZ cL cG S ++ X) H.size q → A q := by
    intro q hq
    rcases hq with ⟨k, e, h⟩ | h
    · exact hD.2 k _ h
    · exact hA q (Nat.le_trans hS.1 h)
  refine va_callv (va_runS (As := [.ref a, .int v]) (rest := rest) ⟨hx, hb, hml, hown, hts⟩ (c_filI l D (cTy cI cZ cL cG) (cW ad vd cI cZ cL cG S ++ X) k a n H.size 0 cI f v hk rfl hn) (va_cwS 2 hts hG rfl rfl rfl (by decide +kernel) hR) ⟨fun a U g mk q => by obtain ⟨q0, q1, qP, qK, qD⟩ := q; exact ⟨q0, q1, qP, va_K.moved (u := U) (U := U.calling g mk a) (Vm.Alike.refl U.vm) qK, qD⟩, fun U hU hW => ⟨rfl, by rw [hU], by rw [hU]; exact hP, va_K.moved hW.alike hK, hD.weaken (fun _ _ _ _ => trivial)⟩⟩ rfl rfl hl.1 rfl (lv_room hroom) hdg ⟨hcl, hsl⟩) hS (fun q _ h => hFc q h) hFc (fun u t H1 locs1 ht hvm hp hB hz1 hk1 hS => ?_)
  obtain ⟨hP1, hK1, hD1⟩ := hB
  rw [ht] at hP1
  exact kk H1 locs1 hP1 ⟨hD1.1, fun k q h => hFc _ (hD1.2 k q h)⟩ hS
set_option maxHeartbeats 4000000 in
set_option maxRecDepth 100000 in
theorem c_filL (l : Launch) (D : va_G) (tys : List (ClassId × FieldType)) (ws : va_W) (k a n sz t0 : Nat) (cA : ClassId) (f : Nat → Int64) (v : Int64) (hk : ws[k]? = some (a, .inl (cA, n, .inr (.inl f)))) (ht : tys[t0]? = some (cA, .long)) (hn : n < 2147483648) : Met l yJ7_fill_d0a16 (bw yJ7_fill_d0a16 cJ7_fill_d0a16 5 none) (crm 0 0 0 0) (va_Pc [.ref a, .long v] (fun U => U.heap.size = sz ∧ va_P D vwCl ws U.heap ∧ va_K D vwCl tys U ∧ va_D (fun _ => True) ws)) (va_Qv (fun _ : Unit => True) (fun _ t => va_P D vwCl (ws.set k (a, .inl (cA, n, .inr (.inl (filL f n v))))) t.heap ∧ va_K D vwCl tys t ∧ va_D (va_A ws sz) (ws.set k (a, .inl (cA, n, .inr (.inl (filL f n v)))))) (va_A ws sz)) 0 0 (va_A ws sz) := by
  refine Met.ofW (cc := cJ7_fill_d0a16) (maxL := 5) (ret := none) (by decide) rfl ?_
  intro p e s m args below meth c s₁ B hml hv
  obtain ⟨rfl, hsz, hP, hK, hD0⟩ := hv
  have hx := B.exec
  have hb := B.bytes
  subst hsz
  have hD := hD0.self (sz := s.heap.size)
  generalize hAe : va_A ws s.heap.size = A at hD ⊢
  have hS : va_S A s.heap s.heap [] := va_S.rf
  have hl := lv_entry ([.ref a, .long v]) (n := 5) (Nat.le_of_ble_eq_true rfl)
  rw [lg_entry_eq]
  generalize (lg_sl ([.ref a, .long v]) ++ List.replicate (5 - (lg_sl ([.ref a, .long v])).length) Slot.unset).toArray = ls at hl ⊢
  have hl : lv_has ls 5 [(0, .ref a), (1, .long v)] := hl
  have key : ∀ d j, j + d = n → ∀ (H : Heap) (locs : List Loc) (ls : Array Slot), va_P D vwCl (ws.set k (a, .inl (cA, n, .inr (.inl (filL f j v))))) H → va_D A (ws.set k (a, .inl (cA, n, .inr (.inl (filL f j v))))) → va_S A s.heap H locs → lv_has ls 5 [(4, .int (nI n)), (3, .int (nI j)), (0, .ref a), (1, .long v)] → W p l e (crm 0 0 0 0) s m ([.ref a, .long v] : List Value).toArray below meth c H locs 0 0 (MQ below (va_Qv (fun _ : Unit => True) (fun _ t => va_P D vwCl (ws.set k (a, .inl (cA, n, .inr (.inl (filL f n v))))) t.heap ∧ va_K D vwCl tys t ∧ va_D A (ws.set k (a, .inl (cA, n, .inr (.inl (filL f n v)))))) A) ([.ref a, .long v] : List Value).toArray s 0 0 A) (F0 m 6 ls []) := by
    intro d
    induction d with
    | zero =>
      intro j hj H locs ls hP hD hS hl
      refine lv_iload_n hx hb dJ7_fill_d0a16_6 rfl (lv_at hl 1 rfl) ?_
      refine lv_iload hx hb dJ7_fill_d0a16_7 (lv_at hl 0 rfl) ?_
      refine lv_icmp_ge (tgt := 22) hx hb dJ7_fill_d0a16_9 (by decide) (fun c1 => ?_) (fun c1 => ?_)
      · have : j = n := by omega
        subst this
        exact W.vret hx hb B.returns (fun t ht hW => ⟨⟨(), rfl, trivial, by rw [ht]; exact hP, va_K.moved hW.alike hK, hD⟩, hS.F ht⟩) hS.2.2 dJ7_fill_d0a16_22
      · exact absurd (nI_le (by omega) (by omega)) c1
    | succ d ih =>
      intro j hj H locs ls hP hD hS hl
      refine lv_iload_n hx hb dJ7_fill_d0a16_6 rfl (lv_at hl 1 rfl) ?_
      refine lv_iload hx hb dJ7_fill_d0a16_7 (lv_at hl 0 rfl) ?_
      refine lv_icmp_ge (tgt := 22) hx hb dJ7_fill_d0a16_9 (by decide) (fun c1 => ?_) (fun c1 => ?_)
      · exact absurd c1 (nI_ge (by omega) (by omega))
      · refine lv_aload_n hx hb dJ7_fill_d0a16_12 rfl (lv_at hl 2 rfl) ?_
        refine lv_iload_n hx hb dJ7_fill_d0a16_13 rfl (lv_at hl 1 rfl) ?_
        refine lv_lload_n hx hb dJ7_fill_d0a16_14 rfl (lv_at hl 3 rfl) ?_
        refine va_last (f := filL f j v) hx hb hK hP hD hS k t0 (ls_set hk) ht (vp_in_nI (show j < n by omega) hn) dJ7_fill_d0a16_15 (fun H locs hP hD hS => ?_)
        rw [List.set_set, nI_clamp (by omega), filL_s] at hP hD
        refine lv_iinc (v := nI (j + 1)) (lv' := [(3, .int (nI (j + 1))), (4, .int (nI n)), (0, .ref a), (1, .long v)]) hx hb dJ7_fill_d0a16_16 hl (k := 1) rfl (by rw [nI_succ]; rfl) (by decide) rfl (fun ls hl => ?_)
        refine lv_goto (tgt := 6) hx hb dJ7_fill_d0a16_19 (by decide) ?_
        exact ih (j + 1) (by omega) H locs ls hP hD hS (lv_sub hl [1, 0, 2, 3] rfl)
  refine lv_iconst (v := 0) hx hb dJ7_fill_d0a16_0 (by decide) ?_
  refine lv_istore_n (lv' := [(3, .int 0), (0, .ref a), (1, .long v)]) hx hb dJ7_fill_d0a16_1 rfl hl (by decide) rfl (fun ls hl => ?_)
  refine lv_aload_n hx hb dJ7_fill_d0a16_2 rfl (lv_at hl 1 rfl) ?_
  refine va_alen (v := nI n) hx hb hK hP k t0 hk ht rfl dJ7_fill_d0a16_3 ?_
  refine lv_istore (lv' := [(4, .int (nI n)), (3, .int 0), (0, .ref a), (1, .long v)]) hx hb dJ7_fill_d0a16_4 hl (by decide) rfl (fun ls hl => ?_)
  refine key n 0 (by omega) _ _ ls ?_ ?_ hS hl
  · rw [filL_0, ls_id hk]; exact hP
  · rw [filL_0, ls_id hk]; exact hD
set_option maxHeartbeats 4000000 in
theorem cfill_filL {p : Program} {l : Launch} {e : Env} {R : Room} {s : State} {m : MethodId} {args : Array Value} {below : List Frame} {meth : Method} {c : Code} {H : Heap} {locs : List Loc} {cells slots : Nat} {Q : State → Prop} {cc : ByteArray} {pc nL : Nat} {ls : Array Slot} {rest : List Value} {D : va_G} {A : Nat → Prop} {ad vd : Nat → Nat} {cI cZ cL cG : ClassId} {S : CS} {X : va_W} {own : String} {idx a n : Nat} {f : Nat → Int64} {v : Int64} {lv : List (Nat × Value)} (k : Nat) (hk : (cW ad vd cI cZ cL cG S ++ X)[k]? = some (a, .inl (cL, n, .inr (.inl f)))) (hn : n < 2147483648) (hx : p.tables.exec = Jvm.exec) (hb : c.code = cc) (hml : c.maxLocals = nL) (hown : s.vm.findClass own = some m.cls) (hts : ∀ w ∈ gw, w.before args s = true) (hK : va_K D vwCl (cTy cI cZ cL cG) s) (hA : ∀ q, s.heap.size ≤ q → A q) (hP : va_P D vwCl (cW ad vd cI cZ cL cG S ++ X) H) (hD : va_D A (cW ad vd cI cZ cL cG S ++ X)) (hS : va_S A s.heap H locs) (hl : lv_has ls nL lv) (hG : GoodIn gw (va_wsS own idx yJ7_fill_d0a16 (bw yJ7_fill_d0a16 cJ7_fill_d0a16 5 none))) (hR : 0 + 1 ≤ R.frames ∧ 8 + (5 + 11) + 0 ≤ R.locals) (hroom : (rest.map fun v => v.category).sum ≤ 8) (hdg : decode cc pc = .ok (.invokestatic idx, 3)) (hcl : cells ≤ R.cells) (hsl : slots ≤ R.slots) (kk : ∀ (H1 : Heap) (locs1 : List Loc), va_P D vwCl ((cW ad vd cI cZ cL cG S ++ X).set k (a, .inl (cL, n, .inr (.inl (filL f n v))))) H1 → va_D A ((cW ad vd cI cZ cL cG S ++ X).set k (a, .inl (cL, n, .inr (.inl (filL f n v))))) → va_S A s.heap H1 locs1 → W p l e R s m args below meth c H1 locs1 cells slots Q (F0 m (pc + 3) ls rest)) : W p l e R s m args below meth c H locs cells slots Q (F0 m pc ls (.long v :: .ref a :: rest)) := by
  have hFc : ∀ q, va_A (cW ad vd cI cZ cL cG S ++ X) H.size q → A q := by
    intro q hq
    rcases hq with ⟨k, e, h⟩ | h
    · exact hD.2 k _ h
    · exact hA q (Nat.le_trans hS.1 h)
  refine va_callv (va_runS (As := [.ref a, .long v]) (rest := rest) ⟨hx, hb, hml, hown, hts⟩ (c_filL l D (cTy cI cZ cL cG) (cW ad vd cI cZ cL cG S ++ X) k a n H.size 2 cL f v hk rfl hn) (va_cwS 2 hts hG rfl rfl rfl (by decide +kernel) hR) ⟨fun a U g mk q => by obtain ⟨q0, q1, qP, qK, qD⟩ := q; exact ⟨q0, q1, qP, va_K.moved (u := U) (U := U.calling g mk a) (Vm.Alike.refl U.vm) qK, qD⟩, fun U hU hW => ⟨rfl, by rw [hU], by rw [hU]; exact hP, va_K.moved hW.alike hK, hD.weaken (fun _ _ _ _ => trivial)⟩⟩ rfl rfl hl.1 rfl (lv_room hroom) hdg ⟨hcl, hsl⟩) hS (fun q _ h => hFc q h) hFc (fun u t H1 locs1 ht hvm hp hB hz1 hk1 hS => ?_)
  obtain ⟨hP1, hK1, hD1⟩ := hB
  rw [ht] at hP1
  exact kk H1 locs1 hP1 ⟨hD1.1, fun k q h => hFc _ (hD1.2 k q h)⟩ hS
