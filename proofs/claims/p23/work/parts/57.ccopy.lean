theorem cfitI {c : ClassId} {n : Nat} {f : Nat → Int32} : ∀ (i : Nat) (v : Value), (vp_cell c (n, .inl f)).slots[i]? = some v → fits .int v = true := by
  intro i v h
  by_cases hi : i < n
  · have e := arrV_read c (fun j => Value.int (f j)) hi
    have h2 : (arrV c n (fun j => Value.int (f j))).slots[i]? = some v := h
    rw [e] at h2; cases h2; rfl
  · have h2 : (arrV c n (fun j => Value.int (f j))).slots[i]? = some v := h
    have h3 := (Array.getElem?_eq_some_iff.mp h2).1
    rw [arrV_size] at h3; exact absurd h3 hi
theorem cfitZ {c : ClassId} {n : Nat} {f : Nat → Int32} (hf : ∀ j : Nat, j < n → f j = 0 ∨ f j = 1) : ∀ (i : Nat) (v : Value), (vp_cell c (n, .inl f)).slots[i]? = some v → fits .boolean v = true := by
  intro i v h
  by_cases hi : i < n
  · have e := arrV_read c (fun j => Value.int (f j)) hi
    have h2 : (arrV c n (fun j => Value.int (f j))).slots[i]? = some v := h
    rw [e] at h2; cases h2
    rcases hf i hi with q | q <;> rw [q] <;> rfl
  · have h2 : (arrV c n (fun j => Value.int (f j))).slots[i]? = some v := h
    have h3 := (Array.getElem?_eq_some_iff.mp h2).1
    rw [arrV_size] at h3; exact absurd h3 hi
theorem kcp_608 : (.methodLink RJ7 304 Lib.Math.min.name : Cond) ∈ gw := List.mem_filter.mpr ⟨List.mem_of_getElem? (i := 608) (by decide +kernel), by decide +kernel⟩
theorem kcp_609 : (.static Lib.Math.min.name : Cond) ∈ gw := List.mem_filter.mpr ⟨List.mem_of_getElem? (i := 609) (by decide +kernel), by decide +kernel⟩
theorem kcp_63 : (.initialized "java/lang/Math" : Cond) ∈ gw := List.mem_filter.mpr ⟨List.mem_of_getElem? (i := 63) (by decide +kernel), by decide +kernel⟩
theorem kcp_610 : (.code Lib.Math.min.name Lib.Math.min.code 2 (some .int) : Cond) ∈ gw := List.mem_filter.mpr ⟨List.mem_of_getElem? (i := 610) (by decide +kernel), by decide +kernel⟩
theorem kcp_611 : (.methodLink RJ7 150 arraycopyName : Cond) ∈ gw := List.mem_filter.mpr ⟨List.mem_of_getElem? (i := 611) (by decide +kernel), by decide +kernel⟩
theorem kcp_501 : (.native arraycopyName : Cond) ∈ gw := List.mem_filter.mpr ⟨List.mem_of_getElem? (i := 501) (by decide +kernel), by decide +kernel⟩
theorem kcp_500 : (.static arraycopyName : Cond) ∈ gw := List.mem_filter.mpr ⟨List.mem_of_getElem? (i := 500) (by decide +kernel), by decide +kernel⟩
theorem kcp_62 : (.initialized "java/lang/System" : Cond) ∈ gw := List.mem_filter.mpr ⟨List.mem_of_getElem? (i := 62) (by decide +kernel), by decide +kernel⟩
set_option maxHeartbeats 4000000 in
set_option maxRecDepth 100000 in
theorem c_copyOf (l : Launch) (D : va_G) (cI cZ cL cG : ClassId) (ws : va_W) (k a M N sz : Nat) (n : Int32) (f : Nat → Int32) (hk : ws[k]? = some (a, .inl (cI, M, .inl f))) (h0 : ¬ n < 0) (hN : n.toNatClampNeg = N) (hlt : M < N) (hM : M < 2147483648) (hby : N * 8 ≤ 536870912) : Met l yJ7_copyOf_59c91 (bw yJ7_copyOf_59c91 cJ7_copyOf_59c91 3 (some (.array .int))) (crm 2 60 1 N) (va_Pc [.ref a, .int n] (fun U => U.heap.size = sz ∧ va_P D vwCl ws U.heap ∧ va_K D vwCl (cTy cI cZ cL cG) U ∧ va_D (fun _ => True) ws)) (va_Qr (fun _ : Unit => True) (fun _ q t => va_P D vwCl (ws ++ [(q, .inl (cI, N, .inl (va_cpy f (fun _ => 0) 0 0 M)))]) t.heap ∧ va_K D vwCl (cTy cI cZ cL cG) t ∧ va_D (va_A ws sz) (ws ++ [(q, .inl (cI, N, .inl (va_cpy f (fun _ => 0) 0 0 M)))])) (va_A ws sz)) 1 N (va_A ws sz) := by
  refine Met.ofW (cc := cJ7_copyOf_59c91) (maxL := 3) (ret := some (.array .int)) (by decide) rfl ?_
  intro p e s m args below meth c s₁ B hml hv
  obtain ⟨rfl, hsz, hP, hK, hD0⟩ := hv
  have hx := B.exec
  have hb := B.bytes
  subst hsz
  have hts0 := atoms_spec (ws := bw yJ7_copyOf_59c91 cJ7_copyOf_59c91 3 (some (.array .int))) B.pre
  have hts : ∀ w ∈ gw, w.before _ s = true := fun w h => hts0 w (List.mem_cons_of_mem _ h)
  have hown : s.vm.findClass RJ7 = some m.cls := findClass_of_methodNamed B.named
  have hD := hD0.self (sz := s.heap.size)
  generalize hAe : va_A ws s.heap.size = A at hD ⊢
  have hA : ∀ q : Nat, s.heap.size ≤ q → A q := fun q h => by rw [← hAe]; exact Or.inr h
  have hS : va_S A s.heap s.heap [] := va_S.rf
  have hl := lv_entry ([.ref a, .int n]) (n := 3) (Nat.le_of_ble_eq_true rfl)
  rw [lg_entry_eq]
  generalize (lg_sl ([.ref a, .int n]) ++ List.replicate (3 - (lg_sl ([.ref a, .int n])).length) Slot.unset).toArray = ls at hl ⊢
  have hl : lv_has ls 3 [(0, .ref a), (1, .int n)] := hl
  have hnn : n = nI N := by
    have h1 : 0 ≤ n.toInt := by
      have := Int32.le_iff_toInt_le.mp (Int32.not_lt.mp h0)
      exact this
    have h2 : n.toInt.toNat = N := hN
    exact Int32.toInt_inj.mp (by rw [nI_toInt (by omega)]; omega)
  refine lv_iload_n hx hb dJ7_copyOf_59c91_0 rfl (lv_at hl 1 rfl) ?_
  refine lv_aload_n hx hb dJ7_copyOf_59c91_1 rfl (lv_at hl 0 rfl) ?_
  refine va_alen (v := nI M) hx hb hK hP k 0 hk rfl rfl dJ7_copyOf_59c91_2 ?_
  refine lv_icmp_ne (tgt := 14) hx hb dJ7_copyOf_59c91_3 (by decide) (fun c1 => ?_) (fun c1 => absurd c1 (by rw [hnn]; exact fun q => absurd ((nI_eq (by omega) (by omega)).mp q) (by omega)))
  refine lv_iload_n hx hb dJ7_copyOf_59c91_14 rfl (lv_at hl 1 rfl) ?_
  refine va_newa (atype := .int) (ty := .int) (N' := N) (a0 := (N, .inl (fun _ => 0))) hx hb (hts _ kar_int) rfl hK hP hD hS hA (fun cA => rfl) h0 hN (by show N * _ ≤ _; simp [componentBytes]; omega) (by show 0 + 1 ≤ 1; omega) (by show 0 + N ≤ N; omega) dJ7_copyOf_59c91_15 (fun q cA H h4 hP hD hS => ?_)
  have e : cA = cI := Option.some.inj ((h4.2 4 _ rfl).2.symm.trans (hK.2 0 _ rfl).2)
  subst e
  clear h4
  refine lv_astore_n (lv' := [(2, .ref q), (0, .ref a), (1, .int n)]) hx hb dJ7_copyOf_59c91_17 rfl hl (by decide) rfl (fun ls hl => ?_)
  refine lv_aload_n hx hb dJ7_copyOf_59c91_18 rfl (lv_at hl 1 rfl) ?_
  refine lv_iconst (v := 0) hx hb dJ7_copyOf_59c91_19 (by decide) ?_
  refine lv_aload_n hx hb dJ7_copyOf_59c91_20 rfl (lv_at hl 0 rfl) ?_
  refine lv_iconst (v := 0) hx hb dJ7_copyOf_59c91_21 (by decide) ?_
  refine lv_aload_n hx hb dJ7_copyOf_59c91_22 rfl (lv_at hl 1 rfl) ?_
  have hk2 : (ws ++ [(q, (.inl (cA, N, .inl (fun _ => 0)) : va_E))])[k]? = some (a, .inl (cA, M, .inl f)) := by rw [List.getElem?_append_left (List.getElem?_eq_some_iff.mp hk).1]; exact hk
  have hk3 : (ws ++ [(q, (.inl (cA, N, .inl (fun _ => 0)) : va_E))])[ws.length]? = some (q, .inl (cA, N, .inl (fun _ => 0))) := by rw [List.getElem?_append_right (Nat.le_refl _), Nat.sub_self]; rfl
  refine va_alen (v := nI M) hx hb hK hP k 0 hk2 rfl rfl dJ7_copyOf_59c91_23 ?_
  refine lv_iload_n hx hb dJ7_copyOf_59c91_24 rfl (lv_at hl 2 rfl) ?_
  refine va_mmin (x := nI M) (y := n) hx hb (hml.trans hl.1.symm) hown (hts _ kcp_608) (hts _ kcp_609) (hts _ kcp_63) (hts _ kcp_610) (Nat.le_of_ble_eq_true rfl) (Nat.le_of_ble_eq_true rfl) (by show 0 + 1 ≤ 1; omega) (by show 0 + N ≤ N; omega) dJ7_copyOf_59c91_25 ?_
  have e2 : (if n < nI M then n else nI M) = nI M := if_neg (by rw [hnn]; exact nI_nlt (by omega) (by omega))
  rw [e2]
  refine va_copyi (f := f) (g := fun _ => 0) (ty := .int) hx hb (hml.trans hl.1.symm) hown (hts _ kcp_611) (hts _ kcp_501) (hts _ kcp_500) (hts _ kcp_62) hK hP hD hS k ws.length 0 0 hk2 hk3 rfl rfl rfl (by decide) (by decide) (nI_pos (by omega)) (by rw [nI_clamp (by omega)]; show 0 + M ≤ M; omega) (by rw [nI_clamp (by omega)]; show 0 + M ≤ N; omega) (fun _ _ => rfl) (Nat.le_of_ble_eq_true rfl) (Nat.le_of_ble_eq_true rfl) dJ7_copyOf_59c91_28 (fun H locs hP hD hS => ?_)
  rw [nI_clamp (by omega), List.set_append_right _ _ (Nat.le_refl _), Nat.sub_self] at hP hD
  refine lv_aload_n hx hb dJ7_copyOf_59c91_31 rfl (lv_at hl 0 rfl) ?_
  refine W.widen (k := 1) (n := N) (by omega) (by omega) ?_
  exact W.aret (v := .ref q) hx hb B.returns (Or.inr ⟨.int, rfl⟩) (Or.inr ⟨q, rfl⟩) (fun t ht hW => ⟨⟨(), q, rfl, trivial, by rw [ht]; exact hP, va_K.moved hW.alike hK, hD⟩, hS.F ht⟩) hS.2.2 dJ7_copyOf_59c91_32
section CCopy
variable {p : Program} {l : Launch} {e : Env} {R : Room} {s : State} {m : MethodId} {args : Array Value} {below : List Frame} {meth : Method} {c : Code} {H : Heap} {locs : List Loc} {cells slots : Nat} {Q : State → Prop} {cc : ByteArray} {pc nL : Nat} {ls : Array Slot} {rest : List Value} {D : va_G} {A : Nat → Prop} {ad vd : Nat → Nat} {cI cZ cL cG : ClassId} {S : CS} {X : va_W}
set_option maxRecDepth 100000 in
theorem gcp_X5_17 : GoodIn gw (va_wsS RX5 17 yJ7_copyOf_59c91 (bw yJ7_copyOf_59c91 cJ7_copyOf_59c91 3 (some (.array .int)))) := bs_good (List.mem_of_getElem? (i := 598) (by decide +kernel)) (List.mem_of_getElem? (i := 599) (by decide +kernel)) (List.mem_of_getElem? (i := 61) (by decide +kernel)) (List.mem_of_getElem? (i := 600) rfl)
set_option maxHeartbeats 4000000 in
set_option maxRecDepth 100000 in
theorem ccp_X5_7 {lv : List (Nat × Value)} (hx : p.tables.exec = Jvm.exec) (hb : c.code = cc) (hml : c.maxLocals = nL) (hown : s.vm.findClass RX5 = some m.cls) (hts : ∀ w ∈ gw, w.before args s = true) (hK : va_K D vwCl (cTy cI cZ cL cG) s) (hA : ∀ q, s.heap.size ≤ q → A q) (hP : va_P D vwCl (cW ad vd cI cZ cL cG S ++ X) H) (hD : va_D A (cW ad vd cI cZ cL cG S ++ X)) (hS : va_S A s.heap H locs) (hl : lv_has ls nL lv) {n : Int32} (h0 : ¬ n < 0) (hlt : S.2.2.2 22 < n.toNatClampNeg) (hM : S.2.2.2 22 < 2147483648) (hby : n.toNatClampNeg * 8 ≤ 536870912) (h2 : cells + 1 ≤ R.cells) (h3 : slots + n.toNatClampNeg ≤ R.slots) (hd1 : decode cc pc = .ok (.invokestatic 17, 3)) (hd2 : decode cc (pc + 3) = .ok (.putfield 7, 3)) (kk : ∀ (vd1 : Nat → Nat) (H1 : Heap) (locs1 : List Loc), va_P D vwCl (cW ad vd1 cI cZ cL cG (cn (ca S 22 (va_cpy (S.2.1 22) (fun _ => 0) 0 0 (S.2.2.2 22))) 22 n.toNatClampNeg) ++ X) H1 → va_D A (cW ad vd1 cI cZ cL cG (cn (ca S 22 (va_cpy (S.2.1 22) (fun _ => 0) 0 0 (S.2.2.2 22))) 22 n.toNatClampNeg) ++ X) → va_S A s.heap H1 locs1 → W p l e R s m args below meth c H1 locs1 (cells + 1) (slots + n.toNatClampNeg) Q (F0 m (pc + 6) ls rest)) (hR : 3 ≤ R.frames ∧ 82 ≤ R.locals := by exact ⟨Nat.le_of_ble_eq_true rfl, Nat.le_of_ble_eq_true rfl⟩) (hroom : ((Value.ref (ad 4) :: rest).map fun v => v.category).sum ≤ 8 := by exact Nat.le_of_ble_eq_true rfl) : W p l e R s m args below meth c H locs cells slots Q (F0 m pc ls (.int n :: .ref (vd 22) :: .ref (ad 4) :: rest)) := by
  have hFc : ∀ q, va_A (cW ad vd cI cZ cL cG S ++ X) H.size q → A q := by
    intro q hq
    rcases hq with ⟨k, e, h⟩ | h
    · exact hD.2 k _ h
    · exact hA q (Nat.le_trans hS.1 h)
  refine va_callr (va_runS (As := [.ref (vd 22), .int n]) (rest := .ref (ad 4) :: rest) ⟨hx, hb, hml, hown, hts⟩ (c_copyOf l D cI cZ cL cG (cW ad vd cI cZ cL cG S ++ X) 22 (vd 22) (S.2.2.2 22) n.toNatClampNeg H.size n (S.2.1 22) cat_22 h0 rfl hlt hM hby) (va_cwS 2 hts gcp_X5_17 rfl rfl rfl (by decide +kernel) hR) ⟨fun a U g mk q => by obtain ⟨q0, q1, qP, qK, qD⟩ := q; exact ⟨q0, q1, qP, va_K.moved (u := U) (U := U.calling g mk a) (Vm.Alike.refl U.vm) qK, qD⟩, fun U hU hW => ⟨rfl, by rw [hU], by rw [hU]; exact hP, va_K.moved hW.alike hK, hD.weaken (fun _ _ _ _ => trivial)⟩⟩ rfl rfl hl.1 rfl (lv_room hroom) hd1 ⟨h2, h3⟩) hS (fun q _ h => hFc q h) hFc (fun u q t H1 locs1 ht hvm hp hB hz1 hk1 hS => ?_)
  obtain ⟨hP1, hK1, hD1⟩ := hB
  rw [ht] at hP1
  rw [List.append_assoc] at hP1 hD1
  refine va_put (D := D) (ci := 5) (v := .ref q) (ty := .array .int) (C := RX5) (T := TX5) (N := 2) hx hb hts inX5 tyX5 tyX5_ok nmX5 hown hK hP1 ⟨hD1.1, fun k q h => hFc _ (hD1.2 k q h)⟩ hS 4 cob_4 rfl 0 (by decide) (hts _ kc_195) (fun _ h9 => h9) rfl (by decide +kernel) rfl rfl (Nat.le_of_ble_eq_true rfl) hd2 (fun H1 locs1 h1 h2 h3 => ?_)
  refine kk (va_up vd 22 q) H1 locs1 ?_ ?_ h3
  · exact va_P.swapIn (L1 := [(ad 0, .inr (8, cfs_0 ad vd S)), (ad 1, .inr (0, cfs_1 ad vd S)), (ad 2, .inr (3, cfs_2 ad vd S)), (ad 3, .inr (4, cfs_3 ad vd S)), (ad 4, .inr (5, (cfs_4 ad vd S).set 0 (.ref q))), (ad 5, .inr (6, cfs_5 ad vd S)), (ad 6, .inr (2, cfs_6 ad vd S)), (ad 7, .inr (1, cfs_7 ad vd S)), (ad 8, .inr (7, cfs_8 ad vd S)), (ad 9, .inl (cI, 7, .inl (S.2.1 9))), (ad 10, .inl (cI, 7, .inl (S.2.1 10))), (ad 11, .inl (cI, 25, .inl (S.2.1 11))), (ad 12, .inl (cZ, 25, .inl (S.2.1 12))), (ad 13, .inl (cI, 7, .inl (S.2.1 13))), (ad 14, .inl (cI, 5, .inl (S.2.1 14))), (ad 15, .inl (cI, 5, .inl (S.2.1 15))), (ad 16, .inl (cI, 5, .inl (S.2.1 16))), (ad 17, .inl (cI, 25, .inl (S.2.1 17))), (ad 18, .inl (cI, 25, .inl (S.2.1 18))), (ad 19, .inl (cI, 25, .inl (S.2.1 19))), (ad 20, .inl (cI, 200, .inl (S.2.1 20))), (ad 21, .inl (cI, 200, .inl (S.2.1 21)))]) (L2 := [(ad 23, .inl (cI, 128, .inl (S.2.1 23))), (vd 24, .inl (cI, S.2.2.2 24, .inl (S.2.1 24))), (vd 25, .inl (cL, S.2.2.2 25, .inr (.inl (S.2.2.1 25)))), (vd 26, .inl (cI, S.2.2.2 26, .inl (S.2.1 26))), (vd 27, .inl (cI, S.2.2.2 27, .inl (S.2.1 27))), (vd 28, .inl (cI, S.2.2.2 28, .inl (S.2.1 28))), (vd 29, .inl (cI, S.2.2.2 29, .inl (S.2.1 29))), (vd 30, .inl (cI, S.2.2.2 30, .inl (S.2.1 30))), (vd 31, .inl (cI, S.2.2.2 31, .inl (S.2.1 31))), (vd 32, .inl (cI, S.2.2.2 32, .inl (S.2.1 32))), (vd 33, .inl (cI, S.2.2.2 33, .inl (S.2.1 33))), (vd 34, .inl (cI, S.2.2.2 34, .inl (S.2.1 34))), (vd 35, .inl (cI, S.2.2.2 35, .inl (S.2.1 35))), (vd 36, .inl (cI, S.2.2.2 36, .inl (S.2.1 36))), (vd 37, .inl (cI, S.2.2.2 37, .inl (S.2.1 37))), (ad 38, .inl (cI, 8, .inl (S.2.1 38))), (ad 39, .inl (cI, 64, .inl (S.2.1 39))), (ad 40, .inl (cI, 64, .inl (S.2.1 40))), (ad 41, .inl (cI, 320, .inl (S.2.1 41))), (ad 42, .inl (cL, 488, .inr (.inl (S.2.2.1 42)))), (ad 43, .inl (cG, 7, .inr (.inr (.inr (.inr (fun i => if i < 7 then some (ad (43 + 1 + i)) else none)))))), (ad 44, .inl (cI, 5, .inl (S.2.1 44))), (ad 45, .inl (cI, 5, .inl (S.2.1 45))), (ad 46, .inl (cI, 5, .inl (S.2.1 46))), (ad 47, .inl (cI, 5, .inl (S.2.1 47))), (ad 48, .inl (cI, 5, .inl (S.2.1 48))), (ad 49, .inl (cI, 5, .inl (S.2.1 49))), (ad 50, .inl (cI, 5, .inl (S.2.1 50)))]) (x := (vd 22, .inl (cI, S.2.2.2 22, .inl (S.2.1 22)))) (y := (q, .inl (cI, n.toNatClampNeg, .inl (va_cpy (S.2.1 22) (fun _ => 0) 0 0 (S.2.2.2 22))))) h1
  · exact va_D.swapIn (L1 := [(ad 0, .inr (8, cfs_0 ad vd S)), (ad 1, .inr (0, cfs_1 ad vd S)), (ad 2, .inr (3, cfs_2 ad vd S)), (ad 3, .inr (4, cfs_3 ad vd S)), (ad 4, .inr (5, (cfs_4 ad vd S).set 0 (.ref q))), (ad 5, .inr (6, cfs_5 ad vd S)), (ad 6, .inr (2, cfs_6 ad vd S)), (ad 7, .inr (1, cfs_7 ad vd S)), (ad 8, .inr (7, cfs_8 ad vd S)), (ad 9, .inl (cI, 7, .inl (S.2.1 9))), (ad 10, .inl (cI, 7, .inl (S.2.1 10))), (ad 11, .inl (cI, 25, .inl (S.2.1 11))), (ad 12, .inl (cZ, 25, .inl (S.2.1 12))), (ad 13, .inl (cI, 7, .inl (S.2.1 13))), (ad 14, .inl (cI, 5, .inl (S.2.1 14))), (ad 15, .inl (cI, 5, .inl (S.2.1 15))), (ad 16, .inl (cI, 5, .inl (S.2.1 16))), (ad 17, .inl (cI, 25, .inl (S.2.1 17))), (ad 18, .inl (cI, 25, .inl (S.2.1 18))), (ad 19, .inl (cI, 25, .inl (S.2.1 19))), (ad 20, .inl (cI, 200, .inl (S.2.1 20))), (ad 21, .inl (cI, 200, .inl (S.2.1 21)))]) (L2 := [(ad 23, .inl (cI, 128, .inl (S.2.1 23))), (vd 24, .inl (cI, S.2.2.2 24, .inl (S.2.1 24))), (vd 25, .inl (cL, S.2.2.2 25, .inr (.inl (S.2.2.1 25)))), (vd 26, .inl (cI, S.2.2.2 26, .inl (S.2.1 26))), (vd 27, .inl (cI, S.2.2.2 27, .inl (S.2.1 27))), (vd 28, .inl (cI, S.2.2.2 28, .inl (S.2.1 28))), (vd 29, .inl (cI, S.2.2.2 29, .inl (S.2.1 29))), (vd 30, .inl (cI, S.2.2.2 30, .inl (S.2.1 30))), (vd 31, .inl (cI, S.2.2.2 31, .inl (S.2.1 31))), (vd 32, .inl (cI, S.2.2.2 32, .inl (S.2.1 32))), (vd 33, .inl (cI, S.2.2.2 33, .inl (S.2.1 33))), (vd 34, .inl (cI, S.2.2.2 34, .inl (S.2.1 34))), (vd 35, .inl (cI, S.2.2.2 35, .inl (S.2.1 35))), (vd 36, .inl (cI, S.2.2.2 36, .inl (S.2.1 36))), (vd 37, .inl (cI, S.2.2.2 37, .inl (S.2.1 37))), (ad 38, .inl (cI, 8, .inl (S.2.1 38))), (ad 39, .inl (cI, 64, .inl (S.2.1 39))), (ad 40, .inl (cI, 64, .inl (S.2.1 40))), (ad 41, .inl (cI, 320, .inl (S.2.1 41))), (ad 42, .inl (cL, 488, .inr (.inl (S.2.2.1 42)))), (ad 43, .inl (cG, 7, .inr (.inr (.inr (.inr (fun i => if i < 7 then some (ad (43 + 1 + i)) else none)))))), (ad 44, .inl (cI, 5, .inl (S.2.1 44))), (ad 45, .inl (cI, 5, .inl (S.2.1 45))), (ad 46, .inl (cI, 5, .inl (S.2.1 46))), (ad 47, .inl (cI, 5, .inl (S.2.1 47))), (ad 48, .inl (cI, 5, .inl (S.2.1 48))), (ad 49, .inl (cI, 5, .inl (S.2.1 49))), (ad 50, .inl (cI, 5, .inl (S.2.1 50)))]) (x := (vd 22, .inl (cI, S.2.2.2 22, .inl (S.2.1 22)))) (y := (q, .inl (cI, n.toNatClampNeg, .inl (va_cpy (S.2.1 22) (fun _ => 0) 0 0 (S.2.2.2 22))))) h2
end CCopy
