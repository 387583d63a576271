/-- what a search leaves: the least costs from st, the stands that are reached in their order, the numbers of rows -/
def SOK (T : CS) (n P : Nat) (kd ct sg : Nat → Nat) (st : Nat) : Prop := ∃ (fr : Nat → Option Nat) (mt : List Nat), DS (P ^ n) st (tgN n P kd ct sg) (fun a b => ct (5 * a + b)) fr ∧ mt.Nodup ∧ (∀ x, x ∈ mt ↔ fr x ≠ none) ∧ (mt.Pairwise fun x y => ∀ m k, fr x = some m → fr y = some k → m ≤ k) ∧ (∀ x m, fr x = some m → m ≤ 2000000) ∧
  (∀ x, x < P ^ n → T.2.1 24 x = lab (fr x)) ∧ T.1 13 = nI mt.length ∧ (∀ k x, mt[k]? = some x → T.2.1 26 k = nI x) ∧ RI st (tgN n P kd ct sg) (fun a b => ct (5 * a + b)) fr (T.2.2.1 25) (allE (mvL n P kd ct sg) mt) ∧ (∀ x, x < P ^ n → fr x = none → T.2.2.1 25 x = 0)
def pA : Nat → Bool := fun k => decide (k = 13)
def pB : Nat → Bool := fun k => decide (23 ≤ k) && decide (k ≤ 29)
theorem pA_f (k : Nat) (h : fA k = false) : pA k = false := by
  unfold fA at h; unfold pA
  simp only [Bool.or_eq_false_iff] at h
  exact h.2
theorem pB_f (k : Nat) (h : fB k = false) : pB k = false := by
  unfold fB at h; unfold pB
  simp only [Bool.or_eq_false_iff] at h
  exact h.2
set_option maxHeartbeats 1000000 in
theorem k_prep (l : Launch) {mc ms : Nat} {S : CS} {LA N : Nat} (hl : CL S LA) (hLA : LA ≤ 20000) (hN : N ≤ 20000) (hb : LA < N → 6 ≤ mc ∧ 6 * N ≤ ms) (post : CS → Prop) (k : ∀ T, CFr pA pB pC S T → CL T (max LA N) → (∀ x, x < N → T.2.1 24 x = -1 ∧ T.2.2.1 25 x = 0) → (∀ b, b < 128 → T.2.1 23 b = -1) → T.1 13 = 0 → post T) : cX_X6_prepare l mc ms S (nI N) post := by
  refine c_X6_prepare l mc ms S _ post ?_
  intro B51 h51
  have fin : ∀ (kc ks : Nat) (U : CS) (M : Nat), kc ≤ mc → ks ≤ ms → CFr pA pB pC S U → CL U M → M = max LA N → B51 kc ks U := by
    intro kc ks U M hkc hks fU hU hM
    have hM2 : M ≤ 20000 := by omega
    have hM3 : N ≤ M := by omega
    refine h51 _ _ _ ?_
    unfold cT_X6_prepare_51
    rw [hU.1, hU.2.1]
    refine ⟨by omega, hkc, hks, hkc, hks, by omega, hkc, hks, hkc, hks, k _ ?_ ?_ (fun x hx => ⟨?_, ?_⟩) (fun b hb => ?_) ?_⟩
    · exact (((fU.ca _ rfl).ca _ rfl).cj _ rfl).cf _ rfl
    · rw [← hM]; exact hU
    · show filI (U.2.1 24) M (-1) x = -1
      unfold filI
      rw [if_pos (by omega)]
    · show filL (U.2.2.1 25) M 0 x = 0
      unfold filL
      rw [if_pos (by omega)]
    · show filI (U.2.1 23) 128 (-1) b = -1
      unfold filI
      rw [if_pos hb]
    · exact cf_get _ _ _
  unfold cT_X6_prepare_e
  rw [hl.1, nI_clamp (show N < 2 ^ 31 by omega)]
  refine ⟨fun c => ?_, fun c => ?_⟩
  · have c : N ≤ LA := (nI_leI (by omega) (by omega)).mp c
    exact fin 0 0 S LA (Nat.zero_le _) (Nat.zero_le _) CFr.rf hl (by omega)
  · have c : LA < N := by
      rcases Nat.lt_or_ge LA N with q | q
      · exact q
      · exact absurd (nI_le q (by omega)) c
    obtain ⟨b1, b2⟩ := hb c
    have i0 : ¬ nI N < 0 := nI_pos (by omega)
    have i8 : N * 8 ≤ 536870912 := by omega
    refine ⟨i0, i8, by omega, by omega, i0, i8, by omega, by omega, i0, i8, by omega, by omega, i0, i8, by omega, by omega, i0, i8, by omega, by omega, i0, i8, by omega, by omega, fin _ _ _ N (by omega) (by omega) ?_ ⟨rfl, rfl, rfl, rfl, rfl, rfl⟩ (by omega)⟩
    exact (((((((((((CFr.rf.ca _ rfl).cn _ rfl).cj _ rfl).cn _ rfl).ca _ rfl).cn _ rfl).ca _ rfl).cn _ rfl).ca _ rfl).cn _ rfl).ca _ rfl).cn _ rfl
theorem CRx.fr {a b c : Nat → Bool} {N : Nat} {T U : CS} {fr : Nat → Option Nat} {mt : List Nat} {L : Nat → List Nat} {e : Nat → Prop} (h : CRx N T fr mt L e) (f : CFr a b c T U) (h13 : a 13 = false := by rfl) (h23 : b 23 = false := by rfl) (h24 : b 24 = false := by rfl) (h26 : b 26 = false := by rfl) (h27 : b 27 = false := by rfl) (h28 : b 28 = false := by rfl) : CRx N U fr mt L e := by
  unfold CRx
  rw [f.1 13 h13, (f.2.1 23 h23).1, (f.2.1 24 h24).1, (f.2.1 26 h26).1, (f.2.1 27 h27).1, (f.2.1 28 h28).1]
  exact h
theorem CL.fr {a b c : Nat → Bool} {T U : CS} {LA : Nat} (h : CL T LA) (f : CFr a b c T U) (h24 : c 24 = false := by rfl) (h25 : c 25 = false := by rfl) (h26 : c 26 = false := by rfl) (h27 : c 27 = false := by rfl) (h28 : c 28 = false := by rfl) (h29 : c 29 = false := by rfl) : CL U LA := by
  unfold CL
  rw [f.2.2 24 h24, f.2.2 25 h25, f.2.2 26 h26, f.2.2 27 h27, f.2.2 28 h28, f.2.2 29 h29]
  exact h
theorem SPL.fr {a b c : Nat → Bool} {T U : CS} {n P : Nat} {kd ct sg : Nat → Nat} {x : Nat} {M : List (Nat × Nat)} (h : SPL T n P kd ct sg x M) (f : CFr a b c T U) (h6 : a 6 = false := by rfl) (h17 : b 17 = false := by rfl) (h18 : b 18 = false := by rfl) (h19 : b 19 = false := by rfl) : SPL U n P kd ct sg x M := by
  unfold SPL
  rw [f.1 6 h6, (f.2.1 17 h17).1, (f.2.1 18 h18).1, (f.2.1 19 h19).1]
  exact h
theorem take_mem {L : List (Nat × Nat)} {i : Nat} {p q : Nat × Nat} (h : L[i]? = some p) : q ∈ L.take (i + 1) ↔ q ∈ L.take i ∨ q = p := by
  rw [List.take_add_one, h]
  simp
theorem take_map {L : List (Nat × Nat)} {i y a b : Nat} (h : L[i]? = some (a, b)) : (L.take (i + 1)).map (fun q => (y, q.1, q.2)) = (L.take i).map (fun q => (y, q.1, q.2)) ++ [(y, a, b)] := by
  rw [List.take_add_one, h]
  simp
theorem full_mem {N : Nat} {mt : List Nat} (h1 : mt.Nodup) (h2 : ∀ x, x ∈ mt → x < N) (h3 : N ≤ mt.length) {x : Nat} (hx : x < N) : x ∈ mt := by
  by_cases q : x ∈ mt
  · exact q
  · have := nodup_len N (x :: mt) (List.nodup_cons.mpr ⟨q, h1⟩) (fun z hz => by
      rcases List.mem_cons.mp hz with e | e
      · rw [e]; exact hx
      · exact h2 z e)
    rw [List.length_cons] at this
    omega
theorem oB_f (k : Nat) (h : fB k = false) : oB k = false := by
  unfold fB at h; unfold oB qB
  simp only [Bool.or_eq_false_iff, Bool.and_eq_false_iff, decide_eq_false_iff_not] at h ⊢
  omega
theorem qA_f (k : Nat) (_ : fA k = false) : qA k = false := rfl
set_option maxHeartbeats 2000000 in
theorem k_from (l : Launch) {mc ms : Nat} {S : CS} {n P : Nat} {kd ct sg : Nat → Nat} (hy : CY S n P kd ct sg) (hz : ∀ a, a < 5 → ct (5 * a + a) = 0) (hN : P ^ n ≤ 20000) {st LA : Nat} (hst : st < P ^ n) (hl : CL S LA) (hLA : LA ≤ 20000) (hb : LA < P ^ n → 6 ≤ mc ∧ 6 * P ^ n ≤ ms) (hnew : S.1 12 ≠ nI st) (post : CS → Prop) (kk : ∀ T, CFr fA fB pC S T → CL T (max LA (P ^ n)) → T.1 12 = nI st → SOK T n P kd ct sg st → post T) : cX_X6_from l mc ms S (nI st) post := by
  have hP2 := hy.2.2.2.1
  have hn2 := hy.2.2.2.2.1
  obtain ⟨M, hM⟩ : ∃ M, M = max LA (P ^ n) := ⟨_, rfl⟩
  rw [← hM] at kk
  have hM1 : P ^ n ≤ M := by omega
  have hM2 : M ≤ 20000 := by omega
  have cpos : ∀ s a b t, tgN n P kd ct sg s a b = some t → 0 < ct (5 * a + b) := fun s a b t h => Nat.pos_of_ne_zero (tgN_cost h)
  have tgP : ∀ s a b t, tgN n P kd ct sg s a b = some t → a < P ∧ b < P := fun s a b t q => by
    unfold tgN at q
    split at q
    · next w => exact ⟨w.1, w.2.1⟩
    · cases q
  refine c_X6_from l mc ms S _ post ?_
  intro B35 B121 h35 h121
  unfold cT_X6_from_e
  refine ⟨fun _ => ?_, fun q => absurd q hnew⟩
  refine ⟨mc, ms, by omega, by omega, ?_⟩
  rw [hy.2.2.1]
  have f0 : CFr fA fB pC S (cf S 12 (nI st)) := CFr.rf.cf _ rfl
  refine k_prep l (S := cf S 12 (nI st)) (LA := LA) hl hLA hN hb _ (fun T fT hT h24 h23 h13 => ⟨by omega, by omega, ?_⟩)
  have fST : CFr fA fB pC S T := f0.tr (fT.mono pA_f pB_f)
  have t12 : T.1 12 = nI st := by rw [fT.1 12 rfl]; exact cf_get _ _ _
  rw [← hM] at hT
  -- the invariant of the outer loop gives the end
  have done : ∀ (T : CS) (fr : Nat → Option Nat) (mt : List Nat) (L : Nat → List Nat) (d : Nat), CFr fA fB pC S T → CL T M → T.1 12 = nI st → MI (P ^ n) st (tgN n P kd ct sg) (fun a b => ct (5 * a + b)) fr mt d (fun _ _ _ => False) → CR0 (P ^ n) T fr mt L → RI st (tgN n P kd ct sg) (fun a b => ct (5 * a + b)) fr (T.2.2.1 25) (allE (mvL n P kd ct sg) mt) → (∀ x, x < P ^ n → fr x = none → T.2.2.1 25 x = 0) → (∀ x, fr x ≠ none → x ∈ mt) → post T := by
    intro T fr mt L d fT hT t12 hI hC hR hZ hall
    refine kk T fT hT t12 ⟨fr, mt, hI.ds hall, hI.1.1, fun x => ⟨fun q => ?_, hall x⟩, hI.2.2.2.2.1, fun x m hm => ?_, hC.1, hC.2.1, hC.2.2.1, hR, hZ⟩
    · obtain ⟨m, e, -⟩ := hI.2.2.1 x q
      rw [e]; exact Option.some_ne_none m
    · have h1 := hI.2.2.2.2.2.2.2.1 x m hm
      have h2 := nodup_len _ mt hI.1.1 hI.1.2
      omega
  -- the outer loop
  have outer : ∀ r k, k + r = P ^ n → ∀ (T : CS) (fr : Nat → Option Nat) (mt : List Nat) (L : Nat → List Nat) (d : Nat), mt.length = k → CFr fA fB pC S T → CL T M → T.1 12 = nI st → MI (P ^ n) st (tgN n P kd ct sg) (fun a b => ct (5 * a + b)) fr mt d (fun _ _ _ => False) → d ≤ 2000000 → CR0 (P ^ n) T fr mt L → RI st (tgN n P kd ct sg) (fun a b => ct (5 * a + b)) fr (T.2.2.1 25) (allE (mvL n P kd ct sg) mt) → (∀ x, x < P ^ n → fr x = none → T.2.2.1 25 x = 0) → B35 (0 + mc) (0 + ms) T (nI d) (nI k) := by
    intro r
    induction r with
    | zero =>
      intro k hk T fr mt L d hml fT hT t12 hI hd hC hR hZ
      have : k = P ^ n := by omega
      subst this
      refine h35 _ _ _ _ _ ?_
      unfold cT_X6_from_35
      rw [(hy.fr fT).2.2.1]
      refine ⟨fun _ => ⟨by omega, by omega, done T fr mt L d fT hT t12 hI hC hR hZ (fun x hx => full_mem hI.1.1 hI.1.2 (by omega) (hI.2.1 x hx))⟩, fun q => absurd (nI_le (Nat.le_refl _) (by omega)) q⟩
    | succ r ih =>
      intro k hk T fr mt L d hml fT hT t12 hI hd hC hR hZ
      have hyT := hy.fr fT
      refine h35 _ _ _ _ _ ?_
      unfold cT_X6_from_35
      rw [hyT.2.2.1]
      refine ⟨fun q => absurd q (nI_ge (by omega) (by omega)), fun _ => ⟨by omega, by omega, ?_⟩⟩
      refine k_slot l (by omega) _ (fun hemp => ?_) (fun j hj hne hbef => ?_)
      · refine ⟨fun q => absurd rfl q, fun _ => ⟨by omega, by omega, done T fr mt L d fT hT t12 hI hC hR hZ (fun x hx => ?_)⟩⟩
        by_cases q : x ∈ mt
        · exact q
        · obtain ⟨m, hm⟩ := Option.ne_none_iff_exists'.mp hx
          have hb := Nat.mod_lt m (show 0 < 128 by decide)
          have hin : x ∈ L (m % 128) := (hC.2.2.2.2 _ x hb).mpr ⟨fun w => w, q, m, hm, rfl⟩
          rcases hC.2.2.2.1.head hb with ⟨-, w⟩ | ⟨y, ys, -, w, hyN⟩
          · rw [w] at hin; cases hin
          · rw [hemp _ hb] at w
            exact absurd w.symm (nI_m1 (by omega))
      · have hb := Nat.mod_lt (d + j) (show 0 < 128 by decide)
        rcases hC.2.2.2.1.head hb with ⟨w, -⟩ | ⟨y, ys, hL, w, hyN⟩
        · exact absurd w hne
        have hin : y ∈ L ((d + j) % 128) := by rw [hL]; exact List.mem_cons_self
        obtain ⟨-, hym, m, hfm, hmm⟩ := (hC.2.2.2.2 _ y hb).mp hin
        have hmd := hI.2.2.2.1 y m hym hfm
        have hmj : m = d + j := by omega
        have hmin : ∀ x m', x ∉ mt → fr x = some m' → m ≤ m' := by
          intro x m' hx hm'
          have hw := hI.2.2.2.1 x m' hx hm'
          rcases Nat.lt_or_ge m' m with q | q
          · exfalso
            have hb2 := Nat.mod_lt m' (show 0 < 128 by decide)
            have hin2 : x ∈ L (m' % 128) := (hC.2.2.2.2 _ x hb2).mpr ⟨fun w => w, hx, m', hm', rfl⟩
            have he := hbef (m' - d) (by omega)
            rw [show d + (m' - d) = m' by omega] at he
            rcases hC.2.2.2.1.head hb2 with ⟨-, w2⟩ | ⟨z, zs, -, w2, hzN⟩
            · rw [w2] at hin2; cases hin2
            · rw [he] at w2
              exact absurd w2.symm (nI_m1 (by omega))
          · exact q
        have hI2 := hI.jump (d' := m) (by omega) hmin
        have hmt1 := hI.2.2.2.2.2.2.2.1 y m hfm
        have hml2 := nodup_len _ mt hI.1.1 hI.1.2
        refine ⟨fun _ => ⟨vp_in_nI hb (by omega), fun v7 e7 => ⟨by omega, by omega, ?_⟩⟩, fun q => absurd q (nI_m1 (by omega))⟩
        rw [nI_clamp (show (d + j) % 128 < 2 ^ 31 by omega), w] at e7
        subst e7
        refine hC.out l hT hM1 hM2 hym hfm (by omega) _ (fun U L' fU u2 hU => ?_)
        have hUl : CL U M := by unfold CL; rw [u2]; exact hT
        have fSU : CFr fA fB pC S U := fT.tr (fU.mono qA_f qB_f)
        rw [hUl.1, hUl.2.2.1, nI_clamp (show y < 2 ^ 31 by omega), hU.1 y hyN, hfm, hU.2.1, hml]
        refine ⟨vp_in_nI (by omega) (by omega), fun v4 e4 => ⟨vp_in_nI (by omega) (by omega), by omega, by omega, ?_⟩⟩
        have e4 : v4 = nI m := e4
        subst e4
        rw [nI_clamp (show k < 2 ^ 31 by omega), nI_1]
        -- the stand is settled
        obtain ⟨V, hV⟩ : ∃ V : CS, V = cf (ca U 26 (upd (U.2.1 26) k (nI y))) 13 (nI (k + 1)) := ⟨_, rfl⟩
        rw [← hV]
        have fSV : CFr fA fB pC S V := by rw [hV]; exact (fSU.ca _ rfl).cf _ rfl
        have hVl : CL V M := by rw [hV]; exact hUl
        have v12 : V.1 12 = nI st := by rw [hV, cf_get_ne _ _ (by decide)]; show U.1 12 = _; rw [fU.1 12 rfl]; exact t12
        have vR : V.2.2 = T.2.2 := by rw [hV]; exact u2
        have hVC : CR0 (P ^ n) V fr (mt ++ [y]) L' := by
          rw [hV]
          obtain ⟨g1, g2, g3, g4, g5⟩ := hU
          refine ⟨?_, ?_, fun k' x hk' => ?_, ?_, fun b x hb => ?_⟩
          · exact g1
          · rw [cf_get, List.length_append, List.length_singleton, hml]
          · show upd (U.2.1 26) k (nI y) k' = _
            by_cases e : k' = k
            · subst e
              rw [List.getElem?_append_right (by omega), hml, Nat.sub_self] at hk'
              cases hk'
              exact upd_same _ _ _
            · have hkl : k' < mt.length := by
                have := (List.getElem?_eq_some_iff.mp hk').1
                rw [List.length_append, List.length_singleton] at this
                omega
              rw [List.getElem?_append_left hkl] at hk'
              rw [upd_other _ _ e]
              exact g3 k' x hk'
          · exact g4
          · rw [g5 b x hb]
            exact ⟨fun w => ⟨fun z => z, by simp [w.1, w.2.1], w.2.2⟩, fun w => ⟨fun z => w.2.1 (by simp [z]), fun z => w.2.1 (by simp [z]), w.2.2⟩⟩
        have hVI := hI2.pop hym hfm
        refine k_read l (hy.fr fSV) hyN _ (fun A fA' hA => ⟨by omega, by omega, ?_⟩)
        have fSA : CFr fA fB pC S A := fSV.tr (fA'.mono lA_f lB_f)
        refine k_spread l (hy.fr fSA) hz hyN hA _ (fun B fB' hB => ?_)
        have fVB : CFr lA lB nn V B := fA'.tr (fB'.mono sA_l sB_l)
        have fSB : CFr fA fB pC S B := fSV.tr (fVB.mono lA_f lB_f)
        have hBC : CR0 (P ^ n) B fr (mt ++ [y]) L' := hVC.fr fVB
        have hBl : CL B M := hVl.fr fVB
        have b12 : B.1 12 = nI st := by rw [fVB.1 12 rfl]; exact v12
        have b25 : B.2.2.1 25 = T.2.2.1 25 := by rw [(fVB.2.1 25 rfl).2, vR]
        rw [← b25] at hR hZ
        have hyy : y ∈ mt ++ [y] := by simp
        have hlen2 : (mt ++ [y]).length = k + 1 := by rw [List.length_append, List.length_singleton, hml]
        have hlenM := mvL_len (n := n) (kd := kd) (ct := ct) (sg := sg) (x := y) (P := P) (by omega)
        -- the inner loop
        have inner : ∀ q i, i + q = (mvL n P kd ct sg y).length → ∀ (B : CS) (fr : Nat → Option Nat) (L : Nat → List Nat), CFr fA fB pC S B → CL B M → B.1 12 = nI st → SPL B n P kd ct sg y (mvL n P kd ct sg y) → MI (P ^ n) st (tgN n P kd ct sg) (fun a b => ct (5 * a + b)) fr (mt ++ [y]) m (fun s a b => s = y ∧ (a, b) ∉ (mvL n P kd ct sg y).take i) → CR0 (P ^ n) B fr (mt ++ [y]) L → RI st (tgN n P kd ct sg) (fun a b => ct (5 * a + b)) fr (B.2.2.1 25) (allE (mvL n P kd ct sg) mt ++ ((mvL n P kd ct sg y).take i).map (fun q => (y, q.1, q.2))) → (∀ x, x < P ^ n → fr x = none → B.2.2.1 25 x = 0) → fr y = some m → B121 (0 + mc) (0 + ms) B (nI m) (nI k) (nI y) (nI i) := by
          intro q
          induction q with
          | zero =>
            intro i hi B fr L fSB hBl b12 hB hI hC hR hZ hfy
            refine h121 _ _ _ _ _ _ _ ?_
            unfold cT_X6_from_121
            rw [hB.1]
            refine ⟨fun _ => ?_, fun w => absurd (nI_le (by omega) (by omega)) w⟩
            rw [← nI_succ]
            have ht : (mvL n P kd ct sg y).take i = mvL n P kd ct sg y := List.take_of_length_le (by omega)
            rw [ht] at hI hR
            refine ih (k + 1) (by omega) B fr (mt ++ [y]) L m hlen2 fSB hBl b12 (hI.shrink (fun s a b _ w => Or.inr (fun t htg => absurd ?_ w.2))) (by omega) hC ?_ hZ
            · rw [w.1] at htg
              exact mvL_mem.mpr (by rw [htg]; rfl)
            · have e : allE (mvL n P kd ct sg) (mt ++ [y]) = allE (mvL n P kd ct sg) mt ++ (mvL n P kd ct sg y).map (fun q => (y, q.1, q.2)) := by
                unfold allE
                rw [List.flatMap_append, List.flatMap_cons, List.flatMap_nil, List.append_nil]
              rw [e]; exact hR
          | succ q ihq =>
            intro i hi B fr L fSB hBl b12 hB hI hC hR hZ hfy
            obtain ⟨⟨a, b⟩, hab⟩ : ∃ p, (mvL n P kd ct sg y)[i]? = some p := ⟨_, List.getElem?_eq_getElem (by omega)⟩
            obtain ⟨t, htg, h17, h18, h19⟩ := hB.2 i a b hab
            have htN := tgN_lt (by omega) htg
            have hPab := tgP y a b t htg
            have hc100 : ct (5 * a + b) ≤ 100 := ((hy.2.2.2.2.2.2.2.1) (5 * a + b) (by omega)).2
            refine h121 _ _ _ _ _ _ _ ?_
            unfold cT_X6_from_121
            rw [hB.1, hBl.2.1, nI_clamp (show i < 2 ^ 31 by omega), nI_clamp (show y < 2 ^ 31 by omega), h18, h19, nI_add]
            refine ⟨fun w => absurd w (nI_ge (by omega) (by omega)), fun _ => ⟨vp_in_nI (by omega) (by omega), vp_in_nI (by omega) (by omega), vp_in_nI (by omega) (by omega), by omega, by omega, ?_⟩⟩
            refine k_offer l (c := fun a b => ct (5 * a + b)) (P' := fun s a' b' => s = y ∧ (a', b') ∉ (mvL n P kd ct sg y).take (i + 1)) hI hC hR (fun s a' b' w => ?_) hBl hM1 hM2 hyy hfy htg htN (cpos y a b t htg) hc100 ?_ (fun s a' b' w => ?_) _ (fun U fr' L' fU u2 hI' hC' hR' hfy' hz' => ?_)
            · rcases List.mem_append.mp w with w | w
              · have := (allE_mem.mp w).1
                exact ⟨by simp [this], fun z => hym (by rw [← z.1]; exact this)⟩
              · obtain ⟨p, hp, e⟩ := List.mem_map.mp w
                cases e
                exact ⟨hyy, fun z => z.2 hp⟩
            · show m + ct (5 * a + b) ≤ _
              rw [hlen2]; omega
            · by_cases e : (a', b') = (a, b)
              · cases e; exact Or.inr ⟨w.1, rfl, rfl⟩
              · refine Or.inl ⟨w.1, fun z => ?_⟩
                rcases (take_mem hab).mp z with z | z
                · exact w.2 z
                · exact e z
            · have fBU : CFr qA oB nn B U := fU
              rw [← nI_succ]
              refine ihq (i + 1) (by omega) U fr' L' (fSB.tr (fBU.mono qA_f oB_f)) ?_ (by rw [fBU.1 12 rfl]; exact b12) (hB.fr fBU) hI' hC' ?_ (fun x hx hn => ?_) hfy'
              · unfold CL; rw [u2]; exact hBl
              · rw [take_map hab, ← List.append_assoc]; exact hR'
              · obtain ⟨z1, z2⟩ := hz' x hn
                rw [z2]; exact hZ x hx z1
        have := inner (mvL n P kd ct sg y).length 0 (by omega) B fr L' fSB hBl b12 hB (hVI.shrink (fun s a b _ w => Or.inl ⟨w, by simp⟩)) hBC (by rw [List.take_zero, List.map_nil, List.append_nil]; exact hR) hZ hfm
        exact this
  -- the start
  have iS : vp_in (nI st) M := vp_in_nI (by omega) (by omega)
  have hbq : BQ 128 (P ^ n) (T.2.1 23) (T.2.1 27) (T.2.1 28) (fun _ => []) := ⟨fun b hb => h23 b hb, fun _ _ => List.nodup_nil, fun b c x _ _ hx => (by cases hx), fun b x _ hx => by cases hx⟩
  refine c_X6_offer l T _ _ _ _ ?_
  intro C39 C50 g39 g50
  unfold cT_X6_offer_e
  rw [hT.1, hT.2.1, nI_clamp (show st < 2 ^ 31 by omega), (h24 st hst).1]
  refine ⟨iS, fun v5 e5 => ?_⟩
  subst e5
  refine ⟨fun _ => ⟨fun _ => g39 _ _ ?_, fun q => absurd rfl q⟩, fun q => absurd q (by decide)⟩
  unfold cT_X6_offer_39
  refine ⟨fun _ => g50 _ ?_, fun q => absurd rfl q⟩
  unfold cT_X6_offer_50
  rw [hT.1, hT.2.1, nI_clamp (show st < 2 ^ 31 by omega)]
  refine ⟨iS, iS, ?_⟩
  have hnew : CRx (P ^ n) (cj (ca T 24 (upd (T.2.1 24) st 0)) 25 (vp_updL (T.2.2.1 25) st 1)) (va_up (fun _ => none) st (some 0)) [] (fun _ => []) (fun x => x = st) := by
    refine ⟨fun x hx => ?_, h13, fun k x hk => (by cases hk), ?_, fun b x hb => ⟨fun q => (by cases q), fun q => ?_⟩⟩
    · show upd (T.2.1 24) st 0 x = _
      by_cases e : x = st
      · subst e; rw [upd_same, va_up_same]; rfl
      · rw [upd_other _ _ e, va_up_other _ _ e]; exact (h24 x hx).1
    · exact hbq
    · obtain ⟨m, hm, -⟩ := q.2.2
      rw [va_up_other _ _ q.1] at hm
      cases hm
  refine hnew.inn l (LA := M) hT hM1 hM2 hst List.not_mem_nil (va_up_same _ _ _) (by decide) _ (fun U L' fU u2 hU => ?_)
  have u25 : U.2.2.1 25 = vp_updL (T.2.2.1 25) st 1 := by rw [u2]; exact cj_get _ _ _
  have fTU : CFr qA oB nn T U := ((CFr.rf.ca _ rfl).cj _ rfl).tr (fU.mono (fun k hk => hk) (fun k hk => by unfold oB at hk; simp only [Bool.or_eq_false_iff] at hk; exact hk.1.1))
  refine outer (P ^ n) 0 (by omega) U _ [] L' 0 rfl (fST.tr (fTU.mono qA_f oB_f)) ?_ (by rw [fTU.1 12 rfl]; exact t12) (MI.begin hst) (by omega) hU ?_ (fun x hx hn => ?_)
  · unfold CL; rw [u2]; exact hT
  · rw [u25]
    show RI _ _ _ _ _ []
    exact RI.begin
  · rw [u25]
    have hxs : x ≠ st := fun e => by rw [e, va_up_same] at hn; cases hn
    unfold vp_updL
    rw [if_neg hxs]
    exact (h24 x hx).2
