-- the reference: how many cheapest rows there are
/-- the moves of s that come at or behind a pair -/
def remE (g : Nat → Nat → Bool) (P p r : Nat) : List (Nat × Nat) := mvB g p (P - r) r ++ mvA g P (P - (p + 1)) (p + 1)
theorem remE_0 {g : Nat → Nat → Bool} {P : Nat} (h : 0 < P) : remE g P 0 0 = mvA g P P 0 := by
  obtain ⟨k, rfl⟩ : ∃ k, P = k + 1 := ⟨P - 1, by omega⟩
  unfold remE
  conv => rhs; unfold mvA
  rw [Nat.sub_zero, show k + 1 - (0 + 1) = k by omega]
theorem remE_in {g : Nat → Nat → Bool} {P p r : Nat} (h : r < P) : remE g P p r = if g p r then (p, r) :: remE g P p (r + 1) else remE g P p (r + 1) := by
  unfold remE
  rw [show P - r = (P - (r + 1)) + 1 by omega]
  conv => lhs; unfold mvB
  split
  · rw [List.cons_append]
  · rfl
theorem remE_row {g : Nat → Nat → Bool} {P p : Nat} (h : p < P) (hg : ∀ q, g P q = false) : remE g P p P = remE g P (p + 1) 0 := by
  unfold remE
  rw [Nat.sub_self, Nat.sub_zero, show mvB g p 0 P = [] from rfl, List.nil_append]
  by_cases e : p + 1 = P
  · rw [e, Nat.sub_self, show P - (P + 1) = 0 by omega, mvB_nil P 0 (fun q _ _ => hg q)]
    rfl
  · rw [show P - (p + 1) = (P - (p + 1 + 1)) + 1 by omega]
    rfl
theorem remE_end {g : Nat → Nat → Bool} {P : Nat} (hg : ∀ q, g P q = false) : remE g P P 0 = [] := by
  unfold remE
  rw [Nat.sub_zero, show P - (P + 1) = 0 by omega, mvB_nil P 0 (fun q _ _ => hg q)]
  rfl
set_option maxHeartbeats 1000000 in
theorem s_ways (l : Launch) {S : MS} {n P x y : Nat} {kd ct sg : Nat → Nat} (hy : MY S n P kd ct sg) (hx : x < P ^ n) (hxa : MA S 2 (dgs P x)) (hg : y < P ^ n) (hga : MA S 3 (dgs P y)) (h8 : ∃ τ, MA S 8 τ) (h9 : ∃ τ, MA S 9 τ) (post : Int64 → MS → Prop)
    (h0 : ¬ P ^ n ≤ 20000 → post (-1) (mf (mf S 3 0) 2 2))
    (h1 : P ^ n ≤ 20000 → ∀ T fr mt, MK (mf (mf S 3 0) 2 0) T → MOK T n P kd ct sg x fr mt → fr y = none → post 0 T)
    (h2 : P ^ n ≤ 20000 → ∀ T fr mt, MK (mf (mf S 3 0) 2 0) T → MOK T n P kd ct sg x fr mt → fr y ≠ none → RI x (tgN n P kd ct sg) (fun a b => ct (5 * a + b)) fr (T.2.2 15) (allE (mvL n P kd ct sg) mt) → post (T.2.2 15 y) T) : mX_ways l S post := by
  have hP2 := hy.2.2.1
  have hn2 := hy.2.2.2.1
  refine m_ways l S post ?_
  intro B52 B88 B115 B127 B176 h52 h88 h115 h127 h176
  unfold mT_ways_e
  refine s_fits l _ _ (n := n) (P := P) hy.2.1 hy.1 (by omega) hP2 ⟨fun c => ?_, fun c => ?_⟩
  rotate_left
  · have hN : ¬ P ^ n ≤ 20000 := of_decide_eq_false (bI_0.mp c)
    exact s_no l _ 2 _ (h0 hN)
  have hN : P ^ n ≤ 20000 := of_decide_eq_true (bI_n0.mp c)
  have hy2 : MY (mf (mf S 3 0) 2 0) n P kd ct sg := (hy.mf 0 (by decide) (by decide)).mf 0 (by decide) (by decide)
  refine s_meas l hy2 hx hxa h8 h9 hN _ (fun T fr mt hK hM => ?_)
  have hyT := hK.my hy2
  have hgT : ∀ j, j < n → T.2.1 3 j = nI (dgs P y j) := fun j hj => by rw [hK.2.1 3 (by decide)]; exact (hga j (by omega)).1
  refine s_pack l T 3 (by unfold m7; decide) _ hyT.2.1 hyT.1 (by omega) hgT ?_
  rw [dgs_pack hg, nI_clamp (show y < 2 ^ 31 by omega), hM.2.2.2.2.2.1 y hg]
  have hfn := farV_none (o := fr y) (fun k hk => hM.2.2.2.2.1 y k hk)
  refine ⟨vp_in_nI (by omega) (by omega), fun c2 => ?_, fun c2 => h1 hN T fr mt hK hM (hfn.mp c2)⟩
  have hfy : fr y ≠ none := fun q => c2 (hfn.mpr q)
  have hD := hM.1
  have hmem := hM.2.2.1
  have hsort := hM.2.2.2.1
  have hfb := hM.2.2.2.2.1
  have cpos : ∀ s a b t, tgN n P kd ct sg s a b = some t → 0 < ct (5 * a + b) := fun s a b t h => Nat.pos_of_ne_zero (tgN_cost h)
  have tgP : ∀ s a b t, tgN n P kd ct sg s a b = some t → a < P ∧ b < P := fun s a b t q => by
    unfold tgN at q
    split at q
    · next w => exact ⟨w.1, w.2.1⟩
    · cases q
  have hmlen : mt.length ≤ P ^ n := nodup_len _ mt hM.2.1 (fun z hz => hD.2.1 z ((hmem z).mp hz))
  -- the first one that is met is the start
  have first : ∀ z, mt[0]? = some z ↔ z = x := by
    have hx0 : mt[0]? = some x := by
      obtain ⟨i, hi⟩ := idx_of ((hmem x).mpr (by rw [hD.1]; exact Option.some_ne_none 0))
      rcases Nat.eq_zero_or_pos i with w | w
      · rw [w] at hi; exact hi
      · obtain ⟨li, ei⟩ := List.getElem?_eq_some_iff.mp hi
        have hl0 : 0 < mt.length := by omega
        have h0' : mt[0]? = some mt[0] := List.getElem?_eq_getElem hl0
        have := (List.pairwise_iff_getElem.mp hsort) 0 i hl0 li w
        rw [ei] at this
        obtain ⟨m0, hm0⟩ := Option.ne_none_iff_exists'.mp ((hmem mt[0]).mp (List.getElem_mem hl0))
        have hz := this m0 0 hm0 hD.1
        rcases hD.2.2.1 mt[0] m0 hm0 with ⟨e, -⟩ | ⟨s, a, b, k, q1, q2, q3⟩
        · rw [h0', e]
        · have := cpos s a b _ q1
          have q3 : m0 = k + ct (5 * a + b) := q3
          omega
    intro z
    rw [hx0]
    exact ⟨fun q => (Option.some.inj q).symm, fun q => by rw [q]⟩
  -- the second loop
  have outer : ∀ d k, k + d = mt.length → ∀ V : MS, MK (mf (mf S 3 0) 2 0) V → MOK V n P kd ct sg x fr mt → RI x (tgN n P kd ct sg) (fun a b => ct (5 * a + b)) fr (V.2.2 15) (allE (mvL n P kd ct sg) (mt.take k)) → B88 V (nI y) (nI k) := by
    intro d
    induction d with
    | zero =>
      intro k hk V hKV hMV hR
      refine h88 _ _ _ ?_
      unfold mT_ways_88
      rw [hMV.2.2.2.2.2.2.1, nI_clamp (show y < 2 ^ 31 by omega)]
      rw [List.take_of_length_le (by omega)] at hR
      exact ⟨fun _ => ⟨vp_in_nI (by omega) (by omega), h2 hN V fr mt hKV hMV hfy hR⟩, fun q => absurd (nI_le (by omega) (by omega)) q⟩
    | succ d ih =>
      intro k hk V hKV hMV hR
      obtain ⟨s, hs⟩ : ∃ s, mt[k]? = some s := ⟨_, List.getElem?_eq_getElem (by omega)⟩
      have hsf := (hmem s).mp (List.mem_of_getElem? hs)
      obtain ⟨ms, hms⟩ := Option.ne_none_iff_exists'.mp hsf
      have hsN := hD.2.1 s hsf
      have near_idx : ∀ a b t, nearX (tgN n P kd ct sg) (fun a b => ct (5 * a + b)) fr s a b t → t ≠ s ∧ ∀ i, mt[i]? = some t → k < i := by
        intro a b t hn
        obtain ⟨n1, k', n2, n3⟩ := hn
        rw [hms] at n2
        cases n2
        have n3 : fr t = some (ms + ct (5 * a + b)) := n3
        have hc := cpos s a b t n1
        have hts : t ≠ s := fun e => by rw [e, hms] at n3; have := Option.some.inj n3; omega
        refine ⟨hts, fun i hi => ?_⟩
        rcases Nat.lt_trichotomy i k with w | w | w
        · obtain ⟨li, ei⟩ := List.getElem?_eq_some_iff.mp hi
          obtain ⟨lj, ej⟩ := List.getElem?_eq_some_iff.mp hs
          have := (List.pairwise_iff_getElem.mp hsort) i k li lj w
          rw [ei, ej] at this
          have := this _ _ n3 hms
          omega
        · subst w
          rw [hs] at hi
          cases hi
          exact absurd rfl hts
        · exact w
      obtain ⟨g, hge⟩ : ∃ g : Nat → Nat → Bool, g = fun a b => (tgN n P kd ct sg s a b).isSome := ⟨_, rfl⟩
      have hgP : ∀ q, g P q = false := by
        intro q
        rw [hge]
        show (tgN n P kd ct sg s P q).isSome = false
        cases e : tgN n P kd ct sg s P q with
        | none => rfl
        | some t => have := (tgP s P q t e).1; omega
      have hmv : mvL n P kd ct sg s = mvA g P P 0 := by rw [hge]; rfl
      have loop : ∀ V : MS, MK (mf (mf S 3 0) 2 0) V → MOK V n P kd ct sg x fr mt → U8 V n P s → RI x (tgN n P kd ct sg) (fun a b => ct (5 * a + b)) fr (V.2.2 15) (allE (mvL n P kd ct sg) (mt.take k)) → B115 V (nI y) (nI k) (nI s) (nI 0) := by
        intro V hKV hMV hU hR
        refine pair_loop (α := MS) (P := P) (Bo := fun U p => B115 U (nI y) (nI k) (nI s) (nI p)) (Bi := fun U p r => B127 U (nI y) (nI k) (nI s) (nI p) (nI r))
          (I := fun p r U => MK (mf (mf S 3 0) 2 0) U ∧ MOK U n P kd ct sg x fr mt ∧ U8 U n P s ∧ ∃ L, L ++ remE g P p r = mvL n P kd ct sg s ∧ RI x (tgN n P kd ct sg) (fun a b => ct (5 * a + b)) fr (U.2.2 15) (allE (mvL n P kd ct sg) (mt.take k) ++ L.map (fun q => (s, q.1, q.2)))) ?_ ?_ ?_ ?_ ?_ V ?_
        · rintro U p hp ⟨k1, k2, k3, k4⟩ hBi
          refine h115 _ _ _ _ _ ?_
          unfold mT_ways_115
          rw [(k1.my hy2).1]
          exact ⟨fun w => absurd w (nI_ge (by omega) (by omega)), fun _ => hBi⟩
        · rintro U ⟨k1, k2, k3, L, k4, k5⟩
          refine h115 _ _ _ _ _ ?_
          unfold mT_ways_115
          rw [(k1.my hy2).1, ← nI_succ]
          refine ⟨fun _ => ih (k + 1) (by omega) U k1 k2 ?_, fun w => absurd (nI_le (Nat.le_refl _) (by omega)) w⟩
          rw [remE_end hgP, List.append_nil] at k4
          subst k4
          have e : allE (mvL n P kd ct sg) (mt.take (k + 1)) = allE (mvL n P kd ct sg) (mt.take k) ++ (mvL n P kd ct sg s).map (fun q => (s, q.1, q.2)) := by
            rw [List.take_add_one, hs]
            unfold allE
            rw [List.flatMap_append]
            simp
          rw [e]; exact k5
        · rintro U p r hp hr ⟨k1, k2, k3, L, k4, k5⟩ nxt
          have hyU := k1.my hy2
          refine h127 _ _ _ _ _ _ ?_
          unfold mT_ways_127
          rw [hyU.1]
          refine ⟨fun w => absurd w (nI_ge (by omega) (by omega)), fun _ => ?_⟩
          refine s_ld l hyU k3 k1.2.2.2 hp hr _ (fun W hW => ?_)
          have hyW := hW.my hyU
          have w10 : ∀ z, z < P ^ n → W.2.1 10 z = farV (fr z) := by rw [hW.2.2.1 10 (by decide)]; exact k2.2.2.2.2.2.1
          have hKW : MK (mf (mf S 3 0) 2 0) W := k1.tr (MK.of9 hW k1.2.2.1)
          have hMW : MOK W n P kd ct sg x fr mt := k2.keep (hW.2.2.1 10 (by decide)) (by rw [hW.1]) (hW.2.2.1 14 (by decide))
          have w15 : W.2.2 15 = U.2.2 15 := by rw [hW.2.1]
          have go : ∀ (Z : MS) (L' : List (Nat × Nat)), MK (mf (mf S 3 0) 2 0) Z → MOK Z n P kd ct sg x fr mt → U8 Z n P s → L' ++ remE g P p (r + 1) = mvL n P kd ct sg s → RI x (tgN n P kd ct sg) (fun a b => ct (5 * a + b)) fr (Z.2.2 15) (allE (mvL n P kd ct sg) (mt.take k) ++ L'.map (fun q => (s, q.1, q.2))) → B176 Z (nI y) (nI k) (nI s) (nI p) (nI r) := by
            intro Z L' z1 z2 z3 z4 z5
            refine h176 _ _ _ _ _ _ ?_
            unfold mT_ways_176
            rw [← nI_succ]
            exact nxt Z ⟨z1, z2, z3, L', z4, z5⟩
          have hmap : ∀ L : List (Nat × Nat), allE (mvL n P kd ct sg) (mt.take k) ++ (L ++ [(p, r)]).map (fun q => (s, q.1, q.2)) = (allE (mvL n P kd ct sg) (mt.take k) ++ L.map (fun q => (s, q.1, q.2))) ++ [(s, p, r)] := by
            intro L
            rw [List.map_append, List.append_assoc]
            rfl
          have hrem := remE_in (g := g) (P := P) (p := p) (r := r) hr
          have gpr : g p r = (tgN n P kd ct sg s p r).isSome := by rw [hge]
          refine s_near l hyW hN w10 hfb hsN hms hp hr _ (fun hno => ⟨fun _ => ?_, fun w => absurd rfl w⟩) (fun t ht hnr => ⟨fun w => absurd w (by decide), fun _ => ?_⟩)
          · cases ht : tgN n P kd ct sg s p r with
            | none =>
              rw [gpr, ht] at hrem
              refine go W L hKW hMW (hW.u8 k3) (by rw [← k4, hrem]; rfl) (by rw [w15]; exact k5)
            | some t =>
              rw [gpr, ht] at hrem
              refine go W (L ++ [(p, r)]) hKW hMW (hW.u8 k3) (by rw [← k4, hrem, List.append_assoc]; rfl) ?_
              rw [w15, hmap]
              obtain ⟨mt', q1, q2⟩ := hD.2.2.2 s ms p r t hms ht
              exact k5.skip ht hms q1 (fun w => hno t ⟨ht, ms, hms, by rw [q1, w]⟩)
          · have htN := tgN_lt (by omega) ht
            obtain ⟨hts, hti⟩ := near_idx p r t hnr
            rw [gpr, ht] at hrem
            rw [ht]
            show vp_in (nI t) 20000 ∧ _
            have e1 : (lab (some t)).toNatClampNeg = t := nI_clamp (by omega)
            rw [e1, nI_clamp (show s < 2 ^ 31 by omega), w15]
            refine ⟨vp_in_nI (by omega) (by omega), vp_in_nI (by omega) (by omega), vp_in_nI (by omega) (by omega), ?_⟩
            have hu : U8 (ml W 15 (vp_updL (U.2.2 15) t (U.2.2 15 t + U.2.2 15 s))) n P s := hW.u8 k3
            refine go _ (L ++ [(p, r)]) (hKW.mls _) hMW hu (by rw [← k4, hrem, List.append_assoc]; rfl) ?_
            rw [hmap]
            show RI _ _ _ _ (va_up W.2.2 15 (vp_updL (U.2.2 15) t (U.2.2 15 t + U.2.2 15 s)) 15) _
            rw [va_up_same]
            obtain ⟨-, k', q2, q3⟩ := hnr
            rw [hms] at q2
            cases q2
            refine k5.same ht hms q3 (fun s' a' b' w e => ?_) (Ne.symm hts)
            rcases List.mem_append.mp w with w | w
            · obtain ⟨i, hi, e2⟩ := List.getElem_of_mem (allE_mem.mp w).1
              have hil : i < k := by
                rw [List.length_take] at hi
                omega
              have : mt[i]? = some t := by
                rw [← e, ← e2, List.getElem_take]
                exact List.getElem?_eq_getElem _
              have := hti i this
              omega
            · obtain ⟨q', -, e2⟩ := List.mem_map.mp w
              cases e2
              exact hts e.symm
        · rintro U p hp ⟨k1, k2, k3, k4⟩ hBo
          refine h127 _ _ _ _ _ _ ?_
          unfold mT_ways_127
          rw [(k1.my hy2).1, ← nI_succ]
          exact ⟨fun _ => hBo, fun w => absurd (nI_le (Nat.le_refl _) (by omega)) w⟩
        · rintro U p hp ⟨k1, k2, k3, L, k4, k5⟩
          exact ⟨k1, k2, k3, L, by rw [← remE_row hp hgP]; exact k4, k5⟩
        · refine ⟨hKV, hMV, hU, [], ?_, ?_⟩
          · rw [List.nil_append, remE_0 (by omega), hmv]
          · rw [List.map_nil, List.append_nil]; exact hR
      refine h88 _ _ _ ?_
      unfold mT_ways_88
      rw [hMV.2.2.2.2.2.2.1, nI_clamp (show k < 2 ^ 31 by omega), hMV.2.2.2.2.2.2.2 k s hs]
      refine ⟨fun q => absurd q (nI_ge (by omega) (by omega)), fun _ => ⟨vp_in_nI (by omega) (by omega), fun v3 e3 => ?_⟩⟩
      subst e3
      refine s_unp l (hKV.my hy2) (by omega) hKV.2.2.1 _ (fun f hu => ?_)
      exact loop _ (hKV.m8 hu) (hMV.keep rfl rfl rfl) hu hR
  -- the first loop
  have init : ∀ d k, k + d = mt.length → ∀ V : MS, MK (mf (mf S 3 0) 2 0) V → MOK V n P kd ct sg x fr mt → (∀ i w, i < k → mt[i]? = some w → V.2.2 15 w = if w = x then 1 else 0) → B52 V (nI y) (nI k) := by
    intro d
    induction d with
    | zero =>
      intro k hk V hKV hMV hv
      refine h52 _ _ _ ?_
      unfold mT_ways_52
      rw [hMV.2.2.2.2.2.2.1]
      refine ⟨fun _ => outer mt.length 0 (by omega) V hKV hMV (fun z m hz => ?_), fun q => absurd (nI_le (by omega) (by omega)) q⟩
      obtain ⟨i, hi⟩ := idx_of ((hmem z).mpr (by rw [hz]; exact Option.some_ne_none m))
      rw [hv i z (by have := (List.getElem?_eq_some_iff.mp hi).1; omega) hi]
      show _ = _ + 0
      rw [Int64.add_zero]
    | succ d ih =>
      intro k hk V hKV hMV hv
      obtain ⟨s, hs⟩ : ∃ s, mt[k]? = some s := ⟨_, List.getElem?_eq_getElem (by omega)⟩
      have hsN := hD.2.1 s ((hmem s).mp (List.mem_of_getElem? hs))
      have nxt : ∀ v : Int64, v = (if s = x then 1 else 0) → B52 (ml V 15 (vp_updL (V.2.2 15) s v)) (nI y) (nI k + 1) := by
        intro v hv1
        rw [← nI_succ]
        refine ih (k + 1) (by omega) _ (hKV.mls _) hMV (fun i w hi hw => ?_)
        show va_up V.2.2 15 (vp_updL (V.2.2 15) s v) 15 w = _
        rw [va_up_same]
        unfold vp_updL
        by_cases e : w = s
        · rw [if_pos e, hv1, e]
        · rw [if_neg e]
          have : i ≠ k := fun q => by
            subst q
            rw [hs] at hw
            cases hw
            exact e rfl
          exact hv i w (by omega) hw
      refine h52 _ _ _ ?_
      unfold mT_ways_52
      rw [hMV.2.2.2.2.2.2.1, nI_clamp (show k < 2 ^ 31 by omega), hMV.2.2.2.2.2.2.2 k s hs, nI_clamp (show s < 2 ^ 31 by omega)]
      refine ⟨fun q => absurd q (nI_ge (by omega) (by omega)), fun _ => ⟨vp_in_nI (by omega) (by omega), fun c3 => ⟨vp_in_nI (by omega) (by omega), nxt 0 ?_⟩, fun c3 => ⟨vp_in_nI (by omega) (by omega), nxt 1 ?_⟩⟩⟩
      · have hk0 : k ≠ 0 := fun q => c3 (by rw [q]; rfl)
        rw [if_neg (fun q => hk0 ?_)]
        rw [q] at hs
        exact nodup_idx hM.2.1 hs ((first x).mpr rfl)
      · have hk0 : k = 0 := (nI_is 0 rfl (by omega) (by omega)).mp c3
        subst hk0
        rw [if_pos ((first s).mp hs)]
  exact init mt.length 0 (by omega) T hK hM (fun i w hi => absurd hi (Nat.not_lt_zero _))
