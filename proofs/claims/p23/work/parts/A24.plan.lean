-- the class: moves that lead on, the plan
theorem lab_eq {o : Option Nat} {m : Nat} (h : ∀ k, o = some k → k < 2 ^ 31) (hm : m < 2 ^ 31) : lab o = nI m ↔ o = some m := by
  cases o with
  | none => exact ⟨fun q => absurd q.symm (nI_m1 hm), fun q => by cases q⟩
  | some k =>
    constructor
    · intro q
      rw [(nI_eq (h k rfl) hm).mp q]
    · intro q; cases q; rfl
theorem k_first (l : Launch) {T : CS} {n P : Nat} {kd ct sg : Nat → Nat} (hy : CY T n P kd ct sg) (hz : ∀ a, a < 5 → ct (5 * a + a) = 0) {x M m : Nat} (hx : x < P ^ n) (hl : CL T M) (hM1 : P ^ n ≤ M) (hM2 : M ≤ 20000) {fr : Nat → Option Nat} (h24 : ∀ z, z < P ^ n → T.2.1 24 z = lab (fr z)) (hfb : ∀ z k, fr z = some k → k ≤ 2000000) (hm : fr x = some m) (post : Int32 → CS → Prop)
    (h0 : (∀ (i a b t : Nat), (mvL n P kd ct sg x)[i]? = some (a, b) → tgN n P kd ct sg x a b = some t → ¬ (T.2.1 29 t = 1 ∧ fr t = some (m + ct (5 * a + b)))) → ∀ U, CFr lA lB nn T U → post (-1) U)
    (h1 : ∀ (i a b t : Nat), (mvL n P kd ct sg x)[i]? = some (a, b) → tgN n P kd ct sg x a b = some t → T.2.1 29 t = 1 → fr t = some (m + ct (5 * a + b)) → (∀ (j a' b' t' : Nat), j < i → (mvL n P kd ct sg x)[j]? = some (a', b') → tgN n P kd ct sg x a' b' = some t' → ¬ (T.2.1 29 t' = 1 ∧ fr t' = some (m + ct (5 * a' + b')))) → ∀ U, CFr lA lB nn T U → U.2.1 17 i = nI (10 * a + b) → U.2.1 18 i = nI t → post (nI i) U) : cX_X6_firstLeading l T (nI x) post := by
  have hP2 := hy.2.2.2.1
  refine c_X6_firstLeading l T _ post ?_
  intro B14 B70 h14 h70
  unfold cT_X6_firstLeading_e
  refine k_read l hy hx _ (fun A fA' hA => ?_)
  refine k_spread l (hy.fr fA') hz hx hA _ (fun U fU' hU => ?_)
  have fU : CFr lA lB nn T U := fA'.tr (fU'.mono sA_l sB_l)
  have hlU := hl.fr fU
  have hlen := mvL_len (n := n) (kd := kd) (ct := ct) (sg := sg) (x := x) (P := P) (by omega)
  have key : ∀ r i, i + r = (mvL n P kd ct sg x).length → (∀ (j a' b' t' : Nat), j < i → (mvL n P kd ct sg x)[j]? = some (a', b') → tgN n P kd ct sg x a' b' = some t' → ¬ (T.2.1 29 t' = 1 ∧ fr t' = some (m + ct (5 * a' + b')))) → B14 U (nI i) := by
    intro r
    induction r with
    | zero =>
      intro i hi hno
      refine h14 _ _ ?_
      unfold cT_X6_firstLeading_14
      rw [hU.1]
      refine ⟨fun _ => h0 (fun j a b t hj ht => hno j a b t ?_ hj ht) U fU, fun q => absurd (nI_le (by omega) (by omega)) q⟩
      have := (List.getElem?_eq_some_iff.mp hj).1
      omega
    | succ r ih =>
      intro i hi hno
      obtain ⟨⟨a, b⟩, hab⟩ : ∃ p, (mvL n P kd ct sg x)[i]? = some p := ⟨_, List.getElem?_eq_getElem (by omega)⟩
      obtain ⟨t, htg, e17, e18, e19⟩ := hU.2 i a b hab
      have htN := tgN_lt (by omega) htg
      have hab5 : a < P ∧ b < P := by
        unfold tgN at htg
        split at htg
        · next w => exact ⟨w.1, w.2.1⟩
        · cases htg
      have hc100 : ct (5 * a + b) ≤ 100 := (hy.2.2.2.2.2.2.2.1 (5 * a + b) (by omega)).2
      have nxt : ¬ (T.2.1 29 t = 1 ∧ fr t = some (m + ct (5 * a + b))) → B70 U (nI i) := by
        intro hn
        refine h70 _ _ ?_
        unfold cT_X6_firstLeading_70
        rw [← nI_succ]
        refine ih (i + 1) (by omega) (fun j a' b' t' hj h2 h3 => ?_)
        by_cases e : j = i
        · subst e
          rw [hab] at h2
          cases h2
          rw [htg] at h3
          cases h3
          exact hn
        · exact hno j a' b' t' (by omega) h2 h3
      refine h14 _ _ ?_
      unfold cT_X6_firstLeading_14
      rw [hU.1, hlU.2.2.2.2.2, hlU.1, nI_clamp (show i < 2 ^ 31 by omega), e18, e19]
      refine ⟨fun q => absurd q (nI_ge (by omega) (by omega)), fun _ => ⟨vp_in_nI (by omega) (by omega), fun v e => ?_⟩⟩
      subst e
      rw [nI_clamp (show t < 2 ^ 31 by omega), nI_clamp (show x < 2 ^ 31 by omega), (fU.2.1 29 rfl).1, (fU.2.1 24 rfl).1, h24 t htN, h24 x hx, hm]
      have hmb := hfb x m hm
      have hle : lab (fr t) = nI m + nI (ct (5 * a + b)) ↔ fr t = some (m + ct (5 * a + b)) := by
        rw [nI_add]
        exact lab_eq (fun k hk => by have := hfb t k hk; omega) (by omega)
      refine ⟨vp_in_nI (by omega) (by omega), fun c => nxt (fun q => c q.1), fun c => ⟨vp_in_nI (by omega) (by omega), vp_in_nI (by omega) (by omega), vp_in_nI (by omega) (by omega), fun c2 => nxt (fun q => c2 (hle.mpr q.2)), fun c2 => ?_⟩⟩
      exact h1 i a b t hab htg c (hle.mp c2) hno U fU e17 e18
  exact key (mvL n P kd ct sg x).length 0 (by omega) (fun j a b t hj => absurd hj (Nat.not_lt_zero _))
/-- the frame of marking: the look and the marks -/
def gB : Nat → Bool := fun k => lB k || decide (k = 29)
theorem lB_g (k : Nat) (h : gB k = false) : lB k = false := by
  unfold gB at h
  simp only [Bool.or_eq_false_iff] at h
  exact h.1
theorem idx_of {mt : List Nat} {x : Nat} (h : x ∈ mt) : ∃ i : Nat, mt[i]? = some x := by
  obtain ⟨i, hi, e⟩ := List.getElem_of_mem h
  exact ⟨i, by rw [List.getElem?_eq_getElem hi, e]⟩
theorem nodup_idx {mt : List Nat} (h : mt.Nodup) {i j x : Nat} (h1 : mt[i]? = some x) (h2 : mt[j]? = some x) : i = j := by
  obtain ⟨li, ei⟩ := List.getElem?_eq_some_iff.mp h1
  obtain ⟨lj, ej⟩ := List.getElem?_eq_some_iff.mp h2
  rcases Nat.lt_trichotomy i j with q | q | q
  · have := (List.pairwise_iff_getElem.mp h) i j li lj q
    rw [ei, ej] at this
    exact absurd rfl this
  · exact q
  · have := (List.pairwise_iff_getElem.mp h) j i lj li q
    rw [ei, ej] at this
    exact absurd rfl this
set_option maxHeartbeats 1000000 in
theorem k_mark (l : Launch) {T : CS} {n P : Nat} {kd ct sg : Nat → Nat} (hy : CY T n P kd ct sg) (hz : ∀ a, a < 5 → ct (5 * a + a) = 0) {g st M mg : Nat} (hg : g < P ^ n) (hl : CL T M) (hM1 : P ^ n ≤ M) (hM2 : M ≤ 20000) {fr : Nat → Option Nat} {mt : List Nat} (hD : DS (P ^ n) st (tgN n P kd ct sg) (fun a b => ct (5 * a + b)) fr) (hnd : mt.Nodup) (hmem : ∀ x, x ∈ mt ↔ fr x ≠ none) (hsort : mt.Pairwise fun x y => ∀ m k, fr x = some m → fr y = some k → m ≤ k) (h24 : ∀ z, z < P ^ n → T.2.1 24 z = lab (fr z)) (hfb : ∀ z k, fr z = some k → k ≤ 2000000) (h13 : T.1 13 = nI mt.length) (h26 : ∀ k x, mt[k]? = some x → T.2.1 26 k = nI x) (hmg : fr g = some mg) (post : CS → Prop)
    (k : ∀ U, CFr lA gB nn T U → (∀ z, z < P ^ n → (U.2.1 29 z = 1 ↔ Good (tgN n P kd ct sg) (fun a b => ct (5 * a + b)) fr g z)) → post U) : cX_X6_markLeading l T (nI g) post := by
  have hP2 := hy.2.2.2.1
  have cpos : ∀ s a b t, tgN n P kd ct sg s a b = some t → 0 < ct (5 * a + b) := fun s a b t h => Nat.pos_of_ne_zero (tgN_cost h)
  have hmlen : mt.length ≤ P ^ n := nodup_len _ mt hnd (fun x hx => hD.2.1 x ((hmem x).mp hx))
  refine c_X6_markLeading l T _ post ?_
  intro B23 B73 h23 h73
  unfold cT_X6_markLeading_e
  rw [hl.2.2.2.2.2, nI_clamp (show g < 2 ^ 31 by omega), h13]
  refine ⟨by omega, vp_in_nI (by omega) (by omega), fun v e => ?_⟩
  have key : ∀ q, q ≤ mt.length → ∀ U, CFr lA gB nn T U → (∀ z, z < P ^ n → (U.2.1 29 z = 1 ↔ Good (tgN n P kd ct sg) (fun a b => ct (5 * a + b)) fr g z ∧ (z = g ∨ ∃ i, q ≤ i ∧ mt[i]? = some z))) → B23 U (nI q - 1) := by
    intro q
    induction q with
    | zero =>
      intro _ U fU hU
      refine h23 _ _ ?_
      unfold cT_X6_markLeading_23
      refine ⟨fun _ => k U fU (fun z hz => ?_), fun w => absurd (by decide) w⟩
      rw [hU z hz]
      refine ⟨fun w => w.1, fun w => ⟨w, Or.inr ?_⟩⟩
      obtain ⟨kk, hk⟩ := id w
      obtain ⟨m, e, -⟩ := Good.le hmg kk z hk
      obtain ⟨i, hi⟩ := idx_of ((hmem z).mpr (by rw [e]; exact Option.some_ne_none m))
      exact ⟨i, Nat.zero_le _, hi⟩
    | succ q ih =>
      intro hq U fU hU
      obtain ⟨y, hyq⟩ : ∃ y, mt[q]? = some y := ⟨_, List.getElem?_eq_getElem (by omega)⟩
      have hymt : y ∈ mt := List.mem_of_getElem? hyq
      obtain ⟨my, hmy⟩ := Option.ne_none_iff_exists'.mp ((hmem y).mp hymt)
      have hyN := hD.2.1 y (by rw [hmy]; exact Option.some_ne_none my)
      have hyT := hy.fr fU
      have hlU : CL U M := hl.fr fU
      have u26 : U.2.1 26 q = nI y := by rw [(fU.2.1 26 rfl).1]; exact h26 q y hyq
      have u24 : ∀ z, z < P ^ n → U.2.1 24 z = lab (fr z) := by rw [(fU.2.1 24 rfl).1]; exact h24
      have hmyb := hfb y my hmy
      have hmgb := hfb g mg hmg
      -- on to the next one ahead
      have nxt : ∀ V, CFr lA gB nn T V → (∀ z, z < P ^ n → (V.2.1 29 z = 1 ↔ Good (tgN n P kd ct sg) (fun a b => ct (5 * a + b)) fr g z ∧ (z = g ∨ ∃ i, q ≤ i ∧ mt[i]? = some z))) → B73 V (nI q) := by
        intro V fV hV
        refine h73 _ _ ?_
        unfold cT_X6_markLeading_73
        rw [i_sub1]
        exact ih (by omega) V fV hV
      have same : ∀ V, CFr lA gB nn T V → V.2.1 29 = U.2.1 29 → ¬ (Good (tgN n P kd ct sg) (fun a b => ct (5 * a + b)) fr g y ∧ y ≠ g) → B73 V (nI q) := by
        intro V fV v29 hn
        refine nxt V fV (fun z hz => ?_)
        rw [v29, hU z hz]
        constructor
        · rintro ⟨w1, w2⟩
          refine ⟨w1, w2.imp id ?_⟩
          rintro ⟨i, hi, e⟩
          exact ⟨i, by omega, e⟩
        · rintro ⟨w1, w2⟩
          refine ⟨w1, ?_⟩
          rcases w2 with w2 | ⟨i, hi, e⟩
          · exact Or.inl w2
          · by_cases ei : i = q
            · subst ei
              rw [hyq] at e
              cases e
              by_cases eg : y = g
              · exact Or.inl eg
              · exact absurd ⟨w1, eg⟩ hn
            · exact Or.inr ⟨i, by omega, e⟩
      refine h23 _ _ ?_
      unfold cT_X6_markLeading_23
      rw [nI_pred, hlU.2.2.1, hlU.1, nI_clamp (show q < 2 ^ 31 by omega), nI_clamp (show g < 2 ^ 31 by omega), u26, u24 g hg, hmg]
      refine ⟨fun w => absurd w (nI_pos (by omega)), fun _ => ⟨vp_in_nI (by omega) (by omega), fun v5 e5 => ?_⟩⟩
      subst e5
      rw [nI_clamp (show y < 2 ^ 31 by omega), u24 y hyN, hmy]
      refine ⟨vp_in_nI (by omega) (by omega), vp_in_nI (by omega) (by omega), fun c => ?_, fun c => ?_⟩
      · have c : mg ≤ my := (nI_leI (by omega) (by omega)).mp c
        refine same U fU rfl (fun w => ?_)
        obtain ⟨m', e, hlt⟩ := w.1.lt hmg (c := fun a b => ct (5 * a + b)) cpos w.2
        rw [hmy] at e
        cases e
        omega
      · have c : my < mg := by
          rcases Nat.lt_or_ge my mg with w | w
          · exact w
          · exact absurd (nI_le w (by omega)) c
        have hyg : y ≠ g := fun e => by rw [e, hmg] at hmy; cases hmy; omega
        -- a near stand is marked just if it is good
        have nearOk : ∀ a b t, tgN n P kd ct sg y a b = some t → fr t = some (my + ct (5 * a + b)) → (U.2.1 29 t = 1 ↔ Good (tgN n P kd ct sg) (fun a b => ct (5 * a + b)) fr g t) := by
          intro a b t htg hft
          rw [hU t (tgN_lt (by omega) htg)]
          refine ⟨fun w => w.1, fun w => ⟨w, Or.inr ?_⟩⟩
          obtain ⟨i, hi⟩ := idx_of ((hmem t).mpr (by rw [hft]; exact Option.some_ne_none _))
          refine ⟨i, ?_, hi⟩
          have := cpos y a b t htg
          rcases Nat.lt_or_ge q i with w | w
          · omega
          · exfalso
            rcases Nat.lt_or_eq_of_le w with w | w
            · obtain ⟨li, ei⟩ := List.getElem?_eq_some_iff.mp hi
              obtain ⟨lj, ej⟩ := List.getElem?_eq_some_iff.mp hyq
              have := (List.pairwise_iff_getElem.mp hsort) i q li lj w
              rw [ei, ej] at this
              have := this _ _ hft hmy
              omega
            · subst w
              rw [hyq] at hi
              cases hi
              rw [hmy] at hft
              have := Option.some.inj hft
              omega
        refine k_first l hyT hz hyN hlU hM1 hM2 u24 hfb hmy _ (fun hno V fV => ⟨fun _ => ?_, fun w => absurd rfl w⟩) (fun i a b t hab htg hlead hft _ V fV _ _ => ⟨fun w => absurd w (nI_m1 ?_), fun _ => ?_⟩)
        · refine same V (fU.tr (fV.mono (fun k hk => hk) lB_g)) (fV.2.1 29 rfl).1 (fun w => ?_)
          rcases Good.iff.mp w.1 with q1 | ⟨a, b, t, ⟨h1, k1, h2, h3⟩, h4⟩
          · exact w.2 q1
          · rw [hmy] at h2
            cases h2
            obtain ⟨i, hi⟩ : ∃ i, (mvL n P kd ct sg y)[i]? = some (a, b) := by
              have : (a, b) ∈ mvL n P kd ct sg y := mvL_mem.mpr (by rw [h1]; rfl)
              obtain ⟨i, hi, e⟩ := List.getElem_of_mem this
              exact ⟨i, by rw [List.getElem?_eq_getElem hi, e]⟩
            exact hno i a b t hi h1 ⟨(nearOk a b t h1 h3).mpr h4, h3⟩
        · have := (List.getElem?_eq_some_iff.mp hab).1
          have := mvL_len (n := n) (kd := kd) (ct := ct) (sg := sg) (x := y) (P := P) (by omega)
          omega
        · have hlV : CL V M := hlU.fr fV
          rw [hlV.2.2.2.2.2]
          refine ⟨vp_in_nI (by omega) (by omega), ?_⟩
          have fTV : CFr lA gB nn T V := fU.tr (fV.mono (fun k hk => hk) lB_g)
          refine nxt _ (fTV.ca _ rfl) (fun z hz => ?_)
          rw [ca_get]
          have hGy : Good (tgN n P kd ct sg) (fun a b => ct (5 * a + b)) fr g y := Good.iff.mpr (Or.inr ⟨a, b, t, ⟨htg, my, hmy, hft⟩, (nearOk a b t htg hft).mp hlead⟩)
          by_cases e : z = y
          · subst e
            rw [upd_same]
            exact ⟨fun _ => ⟨hGy, Or.inr ⟨q, Nat.le_refl _, hyq⟩⟩, fun _ => rfl⟩
          · rw [upd_other _ _ e, (fV.2.1 29 rfl).1, hU z hz]
            constructor
            · rintro ⟨w1, w2⟩
              refine ⟨w1, w2.imp id ?_⟩
              rintro ⟨i, hi, e2⟩
              exact ⟨i, by omega, e2⟩
            · rintro ⟨w1, w2⟩
              refine ⟨w1, w2.imp id ?_⟩
              rintro ⟨i, hi, e2⟩
              have : i ≠ q := fun w => by
                subst w
                rw [hyq] at e2
                cases e2
                exact e rfl
              exact ⟨i, by omega, e2⟩
  rw [e]
  refine key mt.length (Nat.le_refl _) _ ((CFr.rf.ca _ rfl).ca _ rfl) (fun z hz => ?_)
  rw [ca_get]
  by_cases e : z = g
  · subst e
    rw [upd_same]
    exact ⟨fun _ => ⟨⟨0, rfl⟩, Or.inl rfl⟩, fun _ => rfl⟩
  · rw [upd_other _ _ e]
    unfold filI
    rw [if_pos (by omega)]
    refine ⟨fun w => absurd w (by decide), fun w => ?_⟩
    rcases w.2 with w2 | ⟨i, hi, e2⟩
    · exact absurd w2 e
    · have := (List.getElem?_eq_some_iff.mp e2).1
      omega
/-- the plan's own -/
def aA : Nat → Bool := fun k => decide (k = 11)
def aB : Nat → Bool := fun k => decide (k = 22)
theorem k_add (l : Launch) {T : CS} {C0 L q : Nat} (hC : 1 ≤ C0) (h11 : T.1 11 = nI L) (h22 : T.2.2.2 22 = capA C0 L) (hB : capA C0 (L + 1) ≤ 40000) (hL : L ≤ 20000) (post : CS → Prop)
    (k : ∀ U, CFr aA aB aB T U → U.1 11 = nI (L + 1) → U.2.2.2 22 = capA C0 (L + 1) → (∀ j, j < L → U.2.1 22 j = T.2.1 22 j) → U.2.1 22 L = nI q → post U) : cX_X5_add l (capA C0 (L + 1) - capA C0 L) (2 * (capA C0 (L + 1) - capA C0 L)) T (nI q) post := by
  have hge := capA_ge hC L
  have hge2 := capA_ge hC (L + 1)
  refine c_X5_add l _ _ T _ post ?_
  intro B29 h29
  have fin : ∀ (kc ks : Nat) (U : CS), kc ≤ capA C0 (L + 1) - capA C0 L → ks ≤ 2 * (capA C0 (L + 1) - capA C0 L) → CFr aA aB aB T U → U.1 11 = nI L → U.2.2.2 22 = capA C0 (L + 1) → (∀ j, j < L → U.2.1 22 j = T.2.1 22 j) → B29 kc ks U := by
    intro kc ks U hkc hks fU u11 u22 uj
    refine h29 _ _ _ ?_
    unfold cT_X5_add_29
    rw [u11, u22, nI_clamp (show L < 2 ^ 31 by omega)]
    refine ⟨vp_in_nI (by omega) (by omega), hkc, hks, k _ ((fU.ca _ rfl).cf _ rfl) ?_ u22 (fun j hj => ?_) ?_⟩
    · rw [cf_get, nI_1]
    · show upd (U.2.1 22) L (nI q) j = _
      rw [upd_other _ _ (by omega)]
      exact uj j hj
    · show upd (U.2.1 22) L (nI q) L = _
      rw [upd_same]
  unfold cT_X5_add_e
  rw [h11, h22]
  have e2 : (2 : Int32) * nI L = nI (2 * L) := by rw [show (2 : Int32) = nI 2 from rfl, pk_mul]
  rw [e2, nI_clamp (show 2 * L < 2 ^ 31 by omega)]
  refine ⟨fun c => ?_, fun c => ?_⟩
  · have c : ¬ L = capA C0 L := fun w => c (by rw [← w])
    have e : capA C0 (L + 1) = capA C0 L := by
      conv => lhs; unfold capA
      rw [if_neg c]
    exact fin 0 0 T (Nat.zero_le _) (Nat.zero_le _) CFr.rf h11 (by rw [e]; exact h22) (fun _ _ => rfl)
  · have hm := capA_mono hC L
    have c : L = capA C0 L := (nI_eq (by omega) (by omega)).mp c
    have e : capA C0 (L + 1) = 2 * L := by
      conv => lhs; unfold capA
      rw [if_pos c]
    refine ⟨nI_pos (by omega), by omega, by omega, by omega, by omega, by omega, fin _ _ _ (by omega) (by omega) ((CFr.rf.ca _ rfl).cn _ rfl) h11 ?_ (fun j hj => ?_)⟩
    · rw [cn_get, e]
    · show va_cpy (T.2.1 22) (fun _ => 0) 0 0 (capA C0 L) j = _
      rw [pk_cpy_in (by omega) (by omega), Nat.zero_add, Nat.sub_zero]
/-- a first row visits each stand once -/
theorem PL.len {N g : Nat} {tg : Nat → Nat → Nat → Option Nat} {c : Nat → Nat → Nat} {fr : Nat → Option Nat} (hc : ∀ s a b t, tg s a b = some t → 0 < c a b) (hN : ∀ x, fr x ≠ none → x < N) : ∀ qs x m, fr x = some m → PL tg c fr g qs x → ∃ vs : List Nat, vs.length = qs.length + 1 ∧ vs.Nodup ∧ ∀ z, z ∈ vs → z < N ∧ ∃ m', fr z = some m' ∧ m ≤ m' := by
  intro qs
  induction qs with
  | nil =>
    intro x m hx h
    refine ⟨[x], rfl, List.nodup_cons.mpr ⟨List.not_mem_nil, List.nodup_nil⟩, fun z hz => ?_⟩
    have : z = x := by simpa using hz
    subst this
    exact ⟨hN z (by rw [hx]; exact Option.some_ne_none m), m, hx, Nat.le_refl _⟩
  | cons q qs ih =>
    intro x m hx h
    obtain ⟨-, a, b, t, ⟨⟨h1, k, h2, h3⟩, -⟩, -, h4⟩ := h
    rw [hx] at h2
    cases h2
    have := hc x a b t h1
    obtain ⟨vs, v1, v2, v3⟩ := ih t _ h3 h4
    refine ⟨x :: vs, by rw [List.length_cons, v1, List.length_cons], List.nodup_cons.mpr ⟨fun w => ?_, v2⟩, fun z hz => ?_⟩
    · obtain ⟨-, m', e, hm⟩ := v3 x w
      rw [hx] at e
      cases e
      omega
    · rcases List.mem_cons.mp hz with e | e
      · subst e
        exact ⟨hN z (by rw [hx]; exact Option.some_ne_none m), m, hx, Nat.le_refl _⟩
      · obtain ⟨w1, m', w2, w3⟩ := v3 z e
        exact ⟨w1, m', w2, by omega⟩
/-- the frame of writing the plan -/
def wA : Nat → Bool := fun k => lA k || decide (k = 11)
def wB : Nat → Bool := fun k => lB k || decide (k = 29) || decide (k = 22)
theorem gB_w (k : Nat) (h : wB k = false) : gB k = false := by
  unfold wB at h; unfold gB
  simp only [Bool.or_eq_false_iff] at h ⊢
  exact h.1
theorem lB_w (k : Nat) (h : wB k = false) : lB k = false := lB_g k (gB_w k h)
theorem lA_w (k : Nat) (h : wA k = false) : lA k = false := by
  unfold wA at h
  simp only [Bool.or_eq_false_iff] at h
  exact h.1
theorem aA_w (k : Nat) (h : wA k = false) : aA k = false := by
  unfold wA at h; unfold aA
  simp only [Bool.or_eq_false_iff] at h
  exact h.2
theorem aB_w (k : Nat) (h : wB k = false) : aB k = false := by
  unfold wB at h; unfold aB
  simp only [Bool.or_eq_false_iff] at h
  exact h.2
set_option maxHeartbeats 1000000 in
theorem k_write (l : Launch) {T : CS} {n P : Nat} {kd ct sg : Nat → Nat} (hy : CY T n P kd ct sg) (hz : ∀ a, a < 5 → ct (5 * a + a) = 0) {g st M C0 : Nat} (hN : P ^ n ≤ 20000) (hg : g < P ^ n) (hl : CL T M) (hM1 : P ^ n ≤ M) (hM2 : M ≤ 20000) (h12 : T.1 12 = nI st) (hst : st < P ^ n) {fr : Nat → Option Nat} {mt : List Nat} (hD : DS (P ^ n) st (tgN n P kd ct sg) (fun a b => ct (5 * a + b)) fr) (hnd : mt.Nodup) (hmem : ∀ x, x ∈ mt ↔ fr x ≠ none) (hsort : mt.Pairwise fun x y => ∀ m k, fr x = some m → fr y = some k → m ≤ k) (h24 : ∀ z, z < P ^ n → T.2.1 24 z = lab (fr z)) (hfb : ∀ z k, fr z = some k → k ≤ 2000000) (h13 : T.1 13 = nI mt.length) (h26 : ∀ k x, mt[k]? = some x → T.2.1 26 k = nI x) (hmg : fr g ≠ none) (h22 : T.2.2.2 22 = C0) (hC0 : 1 ≤ C0) (hC1 : C0 ≤ 40000) {qs : List Nat} (hqs : PL (tgN n P kd ct sg) (fun a b => ct (5 * a + b)) fr g qs st) (post : CS → Prop)
    (k : ∀ U, CFr wA wB aB T U → U.1 11 = nI qs.length → U.2.2.2 22 = capA C0 qs.length → (∀ (i q : Nat), qs[i]? = some q → U.2.1 22 i = nI q) → post U) : cX_X6_writePlan l (capA C0 qs.length - C0) (2 * (capA C0 qs.length - C0)) T (nI g) post := by
  have hP2 := hy.2.2.2.1
  have cpos : ∀ s a b t, tgN n P kd ct sg s a b = some t → 0 < ct (5 * a + b) := fun s a b t h => Nat.pos_of_ne_zero (tgN_cost h)
  obtain ⟨mg, hmg⟩ := Option.ne_none_iff_exists'.mp hmg
  have hlenq : qs.length + 1 ≤ P ^ n := by
    obtain ⟨vs, v1, v2, v3⟩ := PL.len (c := fun a b => ct (5 * a + b)) cpos hD.2.1 qs st 0 hD.1 hqs
    have := nodup_len _ vs v2 (fun z hz => (v3 z hz).1)
    omega
  have mono : ∀ a b, a ≤ b → capA C0 a ≤ capA C0 b := by
    intro a b hab
    induction b with
    | zero => rw [show a = 0 by omega]; exact Nat.le_refl _
    | succ b ih =>
      by_cases e : a = b + 1
      · rw [e]; exact Nat.le_refl _
      · exact Nat.le_trans (ih (by omega)) (capA_mono hC0 b)
  refine c_X6_writePlan l _ _ T _ post ?_
  intro B22 h22'
  unfold cT_X6_writePlan_e
  refine ⟨Nat.zero_le _, Nat.zero_le _, ?_⟩
  refine k_mark l hy hz hg hl hM1 hM2 hD hnd hmem hsort h24 hfb h13 h26 hmg _ (fun V fV hV v5 e5 => ?_)
  rw [fV.1 12 rfl, h12] at e5
  subst e5
  have key : ∀ (rs ps : List Nat) (x : Nat) (U : CS), ps ++ rs = qs → CFr wA wB aB T U → (∀ z, z < P ^ n → (U.2.1 29 z = 1 ↔ Good (tgN n P kd ct sg) (fun a b => ct (5 * a + b)) fr g z)) → U.1 11 = nI ps.length → U.2.2.2 22 = capA C0 ps.length → (∀ (i q : Nat), ps[i]? = some q → U.2.1 22 i = nI q) → x < P ^ n → fr x ≠ none → PL (tgN n P kd ct sg) (fun a b => ct (5 * a + b)) fr g rs x → B22 (capA C0 ps.length - C0) (2 * (capA C0 ps.length - C0)) U (nI x) (nI ps.length) := by
    intro rs
    induction rs with
    | nil =>
      intro ps x U hps fU hU u11 u22 uj hx hfx hpl
      rw [List.append_nil] at hps
      subst hps
      have hpl : x = g := hpl
      subst hpl
      refine h22' _ _ _ _ _ ?_
      unfold cT_X6_writePlan_22
      have fin := k U fU u11 u22 uj
      exact ⟨fun _ => ⟨Nat.le_refl _, Nat.le_refl _, fin⟩, fun _ => ⟨fun _ => ⟨Nat.le_refl _, Nat.le_refl _, fin⟩, fun w => absurd rfl w⟩⟩
    | cons q rs ih =>
      intro ps x U hps fU hU u11 u22 uj hx hfx hpl
      obtain ⟨hxg, a, b, t, hfst, hq, hpl2⟩ := hpl
      have hlq : ps.length < qs.length := by rw [← hps, List.length_append, List.length_cons]; omega
      have hmo := mono ps.length qs.length (by omega)
      have hmo1 := mono (ps.length + 1) qs.length (by omega)
      have hge := capA_ge hC0 ps.length
      have hge1 := capA_mono hC0 ps.length
      obtain ⟨mx, hmx⟩ := Option.ne_none_iff_exists'.mp hfx
      have hyU := hy.fr fU
      have hlU : CL U M := hl.fr fU
      have u24 : ∀ z, z < P ^ n → U.2.1 24 z = lab (fr z) := by rw [(fU.2.1 24 rfl).1]; exact h24
      refine h22' _ _ _ _ _ ?_
      unfold cT_X6_writePlan_22
      rw [hyU.2.2.1]
      refine ⟨fun w => absurd w (nI_ge (by omega) (by omega)), fun _ => ⟨fun w => absurd ((nI_eq (by omega) (by omega)).mp w) hxg, fun _ => ⟨by omega, by omega, ?_⟩⟩⟩
      have isF : ∀ (i a' b' t' : Nat), (mvL n P kd ct sg x)[i]? = some (a', b') → tgN n P kd ct sg x a' b' = some t' → U.2.1 29 t' = 1 → fr t' = some (mx + ct (5 * a' + b')) → nearX (tgN n P kd ct sg) (fun a b => ct (5 * a + b)) fr x a' b' t' ∧ Good (tgN n P kd ct sg) (fun a b => ct (5 * a + b)) fr g t' := by
        intro i a' b' t' h1 h2 h3 h4
        exact ⟨⟨h2, mx, hmx, h4⟩, (hU t' (tgN_lt (by omega) h2)).mp h3⟩
      obtain ⟨i0, hi0⟩ : ∃ i, (mvL n P kd ct sg x)[i]? = some (a, b) := by
        have : (a, b) ∈ mvL n P kd ct sg x := mvL_mem.mpr (by rw [hfst.1.1]; rfl)
        obtain ⟨i, hi, e⟩ := List.getElem_of_mem this
        exact ⟨i, by rw [List.getElem?_eq_getElem hi, e]⟩
      have hnt : fr t = some (mx + ct (5 * a + b)) := by
        obtain ⟨-, k', h2, h3⟩ := hfst.1
        rw [hmx] at h2
        cases h2
        exact h3
      have htN : t < P ^ n := tgN_lt (by omega) hfst.1.1
      have hlt1 : U.2.1 29 t = 1 := (hU t htN).mpr hfst.2.1
      have hlenM := mvL_len (n := n) (kd := kd) (ct := ct) (sg := sg) (x := x) (P := P) (by omega)
      refine k_first l hyU hz hx hlU hM1 hM2 u24 hfb hmx _ (fun hno W fW => absurd ⟨hlt1, hnt⟩ (hno i0 a b t hi0 hfst.1.1)) (fun i a' b' t' hab htg hlead hft hbef W fW w17 w18 => ⟨fun _ => ?_, fun w => absurd w (nI_m1 ?_)⟩)
      · have hli := (List.getElem?_eq_some_iff.mp hab).1
        -- it is the first one
        have same : a' = a ∧ b' = b ∧ t' = t := by
          have f2 : fstG (tgN n P kd ct sg) (fun a b => ct (5 * a + b)) fr g x a' b' t' := by
            refine ⟨(isF i a' b' t' hab htg hlead hft).1, (isF i a' b' t' hab htg hlead hft).2, fun a2 b2 hlex w => ?_⟩
            obtain ⟨t2, ⟨w1, k2, w2, w3⟩, w4⟩ := w
            rw [hmx] at w2
            cases w2
            obtain ⟨j, hj⟩ : ∃ j, (mvL n P kd ct sg x)[j]? = some (a2, b2) := by
              have : (a2, b2) ∈ mvL n P kd ct sg x := mvL_mem.mpr (by rw [w1]; rfl)
              obtain ⟨j, hj, e⟩ := List.getElem_of_mem this
              exact ⟨j, by rw [List.getElem?_eq_getElem hj, e]⟩
            exact hbef j a2 b2 t2 (mvL_idx hab hj hlex) hj w1 ⟨(hU t2 (tgN_lt (by omega) w1)).mpr w4, w3⟩
          exact f2.uniq hfst
        obtain ⟨s1, s2, s3⟩ := same
        subst s1
        subst s2
        subst s3
        rw [nI_clamp (show i < 2 ^ 31 by omega), w17]
        refine ⟨vp_in_nI (by omega) (by omega), capA C0 (ps.length + 1) - capA C0 ps.length, 2 * (capA C0 (ps.length + 1) - capA C0 ps.length), by omega, by omega, ?_⟩
        have fTW : CFr wA wB aB T W := fU.tr (fW.mono lA_w lB_w)
        refine k_add l hC0 (by rw [fW.1 11 rfl]; exact u11) (by rw [fW.2.2 22 rfl]; exact u22) (capA_b hC1 _ (by omega)) (by omega) _ (fun X fX x11 x22 xj xL => ⟨vp_in_nI (by omega) (by omega), fun v5 e5 => ?_⟩)
        rw [(fX.2.1 18 rfl).1, w18] at e5
        subst e5
        have hlen1 : (ps ++ [q]).length = ps.length + 1 := by rw [List.length_append, List.length_singleton]
        have := ih (ps ++ [q]) t' X (by rw [List.append_assoc]; exact hps) (fTW.tr (fX.mono aA_w aB_w)) (fun z hz => by rw [(fX.2.1 29 rfl).1, (fW.2.1 29 rfl).1]; exact hU z hz) (by rw [hlen1]; exact x11) (by rw [hlen1]; exact x22) (fun j r hj => ?_) htN (by rw [hnt]; exact Option.some_ne_none _) hpl2
        · rw [hlen1] at this
          rw [← nI_succ, show capA C0 ps.length - C0 + (capA C0 (ps.length + 1) - capA C0 ps.length) = capA C0 (ps.length + 1) - C0 by omega, show 2 * (capA C0 ps.length - C0) + 2 * (capA C0 (ps.length + 1) - capA C0 ps.length) = 2 * (capA C0 (ps.length + 1) - C0) by omega]
          exact this
        · by_cases e : j = ps.length
          · subst e
            rw [List.getElem?_append_right (Nat.le_refl _), Nat.sub_self] at hj
            cases hj
            rw [xL, hq]
          · have hjl : j < ps.length := by
              have := (List.getElem?_eq_some_iff.mp hj).1
              rw [hlen1] at this
              omega
            rw [List.getElem?_append_left hjl] at hj
            rw [xj j hjl, (fW.2.1 22 rfl).1]
            exact uj j r hj
      · have := (List.getElem?_eq_some_iff.mp hab).1
        omega
  have hc0 : capA C0 0 = C0 := rfl
  have := key qs [] st (cf V 11 0) rfl ((fV.mono (fun k hk => lA_w k hk) gB_w).cf _ rfl) hV (cf_get _ _ _) (by show V.2.2.2 22 = _; rw [fV.2.2 22 rfl]; exact h22) (fun i q h => by cases h) hst (by rw [hD.1]; exact Option.some_ne_none 0) hqs
  rw [List.length_nil, hc0, Nat.sub_self] at this
  exact this
