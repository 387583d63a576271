-- the reference: the plan
def MKp (S T : MS) : Prop := (∀ k, k ≠ 3 → k ≠ 6 → k ≠ 7 → k ≠ 8 → T.1 k = S.1 k) ∧ (∀ k, k < 7 ∨ (28 < k ∧ k < 34) → T.2.1 k = S.2.1 k) ∧ (∃ τ, MA T 8 τ) ∧ (∃ τ, MA T 9 τ)
theorem MK.p {S T : MS} (h : MK S T) : MKp S T := ⟨fun k a _ b c => h.1 k a b c, fun k hk => h.2.1 k (by omega), h.2.2⟩
theorem MKp.tr {S T U : MS} (h1 : MKp S T) (h2 : MKp T U) : MKp S U := ⟨fun k a b c d => (h2.1 k a b c d).trans (h1.1 k a b c d), fun k hk => (h2.2.1 k hk).trans (h1.2.1 k hk), h2.2.2⟩
theorem MKp.my {S T : MS} {n P : Nat} {kd ct sg : Nat → Nat} (h : MKp S T) (hy : MY S n P kd ct sg) : MY T n P kd ct sg := by
  unfold MY
  rw [h.1 0 (by decide) (by decide) (by decide) (by decide), h.1 1 (by decide) (by decide) (by decide) (by decide), h.2.1 1 (by decide), h.2.1 4 (by decide), h.2.1 5 (by decide)]
  exact hy
theorem MOK.keep {T V : MS} {n P : Nat} {kd ct sg : Nat → Nat} {st : Nat} {fr : Nat → Option Nat} {mt : List Nat} (h : MOK T n P kd ct sg st fr mt) (h1 : V.2.1 10 = T.2.1 10) (h2 : V.1 7 = T.1 7) (h3 : V.2.1 14 = T.2.1 14) : MOK V n P kd ct sg st fr mt := by
  unfold MOK
  rw [h1, h2, h3]
  exact h
theorem lex_step {a b p r : Nat} : lexLt a b p (r + 1) ↔ lexLt a b p r ∨ (a = p ∧ b = r) := by
  unfold lexLt
  omega
/-- a mark of a stand -/
def mk1 (v : Int32) (Q : Prop) : Prop := (v = 1 ∧ Q) ∨ (v = 0 ∧ ¬ Q)
theorem mk1.iff {v : Int32} {Q R : Prop} (h : mk1 v Q) (e : Q ↔ R) : mk1 v R := by
  rcases h with ⟨h1, h2⟩ | ⟨h1, h2⟩
  · exact Or.inl ⟨h1, e.mp h2⟩
  · exact Or.inr ⟨h1, fun q => h2 (e.mpr q)⟩
theorem mk1.zero {v : Int32} {Q : Prop} (h : mk1 v Q) : v = 0 ↔ ¬ Q := by
  rcases h with ⟨h1, h2⟩ | ⟨h1, h2⟩
  · exact ⟨fun q => absurd (h1.symm.trans q) (by decide), fun q => absurd h2 q⟩
  · exact ⟨fun _ => h2, fun _ => h1⟩
set_option maxHeartbeats 1000000 in
theorem s_plan (l : Launch) {S : MS} {n P x y : Nat} {kd ct sg : Nat → Nat} (hy : MY S n P kd ct sg) (hx : x < P ^ n) (hxa : MA S 2 (dgs P x)) (hg : y < P ^ n) (hga : MA S 3 (dgs P y)) (h8 : ∃ τ, MA S 8 τ) (h9 : ∃ τ, MA S 9 τ) (post : Int32 → MS → Prop)
    (h0 : ¬ P ^ n ≤ 20000 → post (-1) (mf (mf S 3 0) 2 2))
    (h1 : P ^ n ≤ 20000 → ∀ T fr mt, MK (mf (mf S 3 0) 2 0) T → MOK T n P kd ct sg x fr mt → fr y = none → post (-2) T)
    (h2 : P ^ n ≤ 20000 → ∀ T fr (qs : List Nat), MKp (mf (mf S 3 0) 2 0) T → DS (P ^ n) x (tgN n P kd ct sg) (fun a b => ct (5 * a + b)) fr → fr y ≠ none → PL (tgN n P kd ct sg) (fun a b => ct (5 * a + b)) fr y qs x → T.1 6 = nI qs.length → (∀ (i q : Nat), qs[i]? = some q → T.2.1 7 i = nI q) → post (nI qs.length) T) : mX_plan l S post := by
  have hP2 := hy.2.2.1
  have hn2 := hy.2.2.2.1
  refine m_plan l S post ?_
  intro B57 B96 B108 B158 B190 B209 B226 B307 B313 B319 h57 h96 h108 h158 h190 h209 h226 h307 h313 h319
  unfold mT_plan_e
  refine s_fits l _ _ (n := n) (P := P) hy.2.1 hy.1 (by omega) hP2 ⟨fun c => ?_, fun c => ?_⟩
  rotate_left
  · have hN : ¬ P ^ n ≤ 20000 := of_decide_eq_false (bI_0.mp c)
    exact s_no l _ 2 _ (h0 hN)
  have hN : P ^ n ≤ 20000 := of_decide_eq_true (bI_n0.mp c)
  have hy2 : MY (mf (mf S 3 0) 2 0) n P kd ct sg := (hy.mf 0 (by decide) (by decide)).mf 0 (by decide) (by decide)
  refine s_meas l hy2 hx hxa h8 h9 hN _ (fun T fr mt hK hM => ?_)
  have hyT := hK.my hy2
  have hgT : ∀ j, j < n → T.2.1 3 j = nI (dgs P y j) := fun j hj => by rw [hK.2.1 3 (by decide)]; exact (hga j (by omega)).1
  refine s_pack l T 3 (by unfold m7; decide) _ hyT.2.1 hyT.1 (by omega) hgT ?_
  rw [dgs_pack hg, nI_clamp (show y < 2 ^ 31 by omega), hM.2.2.2.2.2.1 y hg]
  have hfn := farV_none (o := fr y) (fun k hk => hM.2.2.2.2.1 y k hk)
  refine ⟨vp_in_nI (by omega) (by omega), fun c2 => ?_, fun c2 => h1 hN T fr mt hK hM (hfn.mp c2)⟩
  have hfy : fr y ≠ none := fun q => c2 (hfn.mpr q)
  obtain ⟨mg, hmg⟩ := Option.ne_none_iff_exists'.mp hfy
  have hD := hM.1
  have hmem := hM.2.2.1
  have hsort := hM.2.2.2.1
  have hfb := hM.2.2.2.2.1
  have cpos : ∀ s a b t, tgN n P kd ct sg s a b = some t → 0 < ct (5 * a + b) := fun s a b t h => Nat.pos_of_ne_zero (tgN_cost h)
  have tgP : ∀ s a b t, tgN n P kd ct sg s a b = some t → a < P ∧ b < P := fun s a b t q => by
    unfold tgN at q
    split at q
    · next w => exact ⟨w.1, w.2.1⟩
    · cases q
  have hmlen : mt.length ≤ P ^ n := nodup_len _ mt hM.2.1 (fun z hz => hD.2.1 z ((hmem z).mp hz))
  obtain ⟨qs, hqs⟩ := PL.exist (N := P ^ n) (P := P) (g := y) (c := fun a b => ct (5 * a + b)) cpos tgP hmg mg x 0 hD.1 (by omega) (Good.start hD cpos mg y mg (Nat.le_refl _) hmg ⟨0, rfl⟩)
  have hlenq : qs.length + 1 ≤ P ^ n := by
    obtain ⟨vs, v1, v2, v3⟩ := PL.len (c := fun a b => ct (5 * a + b)) cpos hD.2.1 qs x 0 hD.1 hqs
    have := nodup_len _ vs v2 (fun z hz => (v3 z hz).1)
    omega
  -- the walk along the plan
  have walk : ∀ (rs ps : List Nat) (z : Nat) (U : MS), ps ++ rs = qs → MKp (mf (mf S 3 0) 2 0) U → MOK U n P kd ct sg x fr mt → (∀ w, fr w ≠ none → mk1 (U.2.1 16 w) (Good (tgN n P kd ct sg) (fun a b => ct (5 * a + b)) fr y w)) → U.1 6 = nI ps.length → (∀ (i q : Nat), ps[i]? = some q → U.2.1 7 i = nI q) → z < P ^ n → fr z ≠ none → PL (tgN n P kd ct sg) (fun a b => ct (5 * a + b)) fr y rs z → B190 U (nI y) (nI z) := by
    intro rs
    induction rs with
    | nil =>
      intro ps z U hps hKU hMU hmk u6 u7 hz hfz hpl
      rw [List.append_nil] at hps
      subst hps
      have hpl : z = y := hpl
      subst hpl
      refine h190 _ _ _ ?_
      unfold mT_plan_190
      rw [u6]
      exact ⟨fun _ => h2 hN U fr ps hKU hD hfy hqs u6 u7, fun w => absurd rfl w⟩
    | cons q rs ih =>
      intro ps z U hps hKU hMU hmk u6 u7 hz hfz hpl
      obtain ⟨hzy, a, b, t, hfst, hq, hpl2⟩ := hpl
      obtain ⟨mz, hmz⟩ := Option.ne_none_iff_exists'.mp hfz
      have hab := tgP z a b t hfst.1.1
      have hlq : ps.length < qs.length := by rw [← hps, List.length_append, List.length_cons]; omega
      refine h190 _ _ _ ?_
      unfold mT_plan_190
      refine ⟨fun w => absurd ((nI_eq (by omega) (by omega)).mp w) hzy, fun _ => ?_⟩
      refine s_unp l (hKU.my hy2) (by omega) hKU.2.2.1 _ (fun f hu => ?_)
      -- the loop over pairs, up to the first one
      have key := pair_loop (α := MS) (P := P) (Bo := fun U p => B209 U (nI y) (nI z) (-1) (nI p)) (Bi := fun U p r => B226 U (nI y) (nI z) (-1) (nI p) (nI r))
        (I := fun p r U => MKp (mf (mf S 3 0) 2 0) U ∧ MOK U n P kd ct sg x fr mt ∧ (∀ w, fr w ≠ none → mk1 (U.2.1 16 w) (Good (tgN n P kd ct sg) (fun a b => ct (5 * a + b)) fr y w)) ∧ U.1 6 = nI ps.length ∧ (∀ (i q : Nat), ps[i]? = some q → U.2.1 7 i = nI q) ∧ U8 U n P z ∧ ¬ lexLt a b p r) ?_ ?_ ?_ ?_ ?_
      · refine key (ma U 8 f) ⟨?_, hMU.keep (by rw [ma_get_ne _ _ (by decide)]) rfl (by rw [ma_get_ne _ _ (by decide)]), ?_, u6, ?_, hu, fun w => by unfold lexLt at w; omega⟩
        · obtain ⟨k1, k2, -, ⟨ρ, k4⟩⟩ := hKU
          exact ⟨k1, fun j hj => by rw [ma_get_ne _ _ (by omega)]; exact k2 j hj, hu.at, ρ, fun j hj => by rw [ma_get_ne _ _ (by decide)]; exact k4 j hj⟩
        · intro w hw; rw [ma_get_ne _ _ (by decide)]; exact hmk w hw
        · intro i q hi; rw [ma_get_ne _ _ (by decide)]; exact u7 i q hi
      · rintro V p hp ⟨k1, k2, k3, k4, k5, k6, k7⟩ hBi
        refine h209 _ _ _ _ _ ?_
        unfold mT_plan_209
        rw [(k1.my hy2).1]
        exact ⟨fun w => absurd w (nI_ge (by omega) (by omega)), fun _ => ⟨fun w => absurd rfl w, fun _ => hBi⟩⟩
      · rintro V ⟨k1, k2, k3, k4, k5, k6, k7⟩
        exact absurd (Or.inl hab.1) k7
      · rintro V p r hp hr ⟨k1, k2, k3, k4, k5, k6, k7⟩ nxt
        have hyV := k1.my hy2
        refine h226 _ _ _ _ _ _ ?_
        unfold mT_plan_226
        rw [hyV.1]
        refine ⟨fun w => absurd w (nI_ge (by omega) (by omega)), fun _ => ⟨fun w => absurd rfl w, fun _ => ?_⟩⟩
        refine s_ld l hyV k6 k1.2.2.2 hp hr _ (fun W hW => ?_)
        have hyW := hW.my hyV
        have w10 : ∀ z, z < P ^ n → W.2.1 10 z = farV (fr z) := by rw [hW.2.2.1 10 (by decide)]; exact k2.2.2.2.2.2.1
        have hKW : MKp (mf (mf S 3 0) 2 0) W := k1.tr (MK.of9 hW k1.2.2.1).p
        have hMW : MOK W n P kd ct sg x fr mt := k2.keep (hW.2.2.1 10 (by decide)) (by rw [hW.1]) (hW.2.2.1 14 (by decide))
        have hkW : ∀ w, fr w ≠ none → mk1 (W.2.1 16 w) (Good (tgN n P kd ct sg) (fun a b => ct (5 * a + b)) fr y w) := by rw [hW.2.2.1 16 (by decide)]; exact k3
        have w6 : W.1 6 = nI ps.length := by rw [hW.1]; exact k4
        have w7 : ∀ (i q : Nat), ps[i]? = some q → W.2.1 7 i = nI q := by rw [hW.2.2.1 7 (by decide)]; exact k5
        have skip : ¬ (a = p ∧ b = r) → B307 W (nI y) (nI z) (-1) (nI p) (nI r) := by
          intro hne
          refine h307 _ _ _ _ _ _ ?_
          unfold mT_plan_307
          rw [← nI_succ]
          exact nxt W ⟨hKW, hMW, hkW, w6, w7, hW.u8 k6, fun w => (lex_step.mp w).elim k7 hne⟩
        refine s_near l hyW hN w10 hfb hz hmz hp hr _ (fun hno => ⟨fun _ => skip (fun w => ?_), fun w => absurd rfl w⟩) (fun t' ht' hnr => ⟨fun w => absurd w (by decide), fun _ => ?_⟩)
        · rw [← w.1, ← w.2] at hno
          exact hno t hfst.1
        · have ht'N := tgN_lt (by omega) ht'
          obtain ⟨-, km, -, hkm⟩ := id hnr
          have hft' : fr t' ≠ none := by rw [hkm]; exact Option.some_ne_none _
          rw [ht']
          show vp_in (nI t') 20000 ∧ _
          have e1 : (lab (some t')).toNatClampNeg = t' := nI_clamp (by omega)
          rw [e1]
          have hmz' := (hkW t' hft').zero
          refine ⟨vp_in_nI (by omega) (by omega), fun c3 => ⟨by rw [w6]; exact vp_in_nI (by omega) (by omega), ?_⟩, fun c3 => skip (fun w => ?_)⟩
          · have hgt' : Good (tgN n P kd ct sg) (fun a b => ct (5 * a + b)) fr y t' := Classical.byContradiction (fun q => c3 (hmz'.mpr q))
            -- it is the first one
            have same : p = a ∧ r = b := by
              rcases Nat.lt_trichotomy p a with q | q | q
              · exact absurd ⟨t', hnr, hgt'⟩ (hfst.2.2 p r (Or.inl q))
              · rcases Nat.lt_trichotomy r b with q2 | q2 | q2
                · exact absurd ⟨t', hnr, hgt'⟩ (hfst.2.2 p r (Or.inr ⟨q, q2⟩))
                · exact ⟨q, q2⟩
                · exact absurd (Or.inr ⟨q.symm, q2⟩) k7
              · exact absurd (Or.inl q) k7
            obtain ⟨s1, s2⟩ := same
            subst s1
            subst s2
            have ht2 : t' = t := Option.some.inj (ht'.symm.trans hfst.1.1)
            subst ht2
            have hlen1 : (ps ++ [q]).length = ps.length + 1 := by rw [List.length_append, List.length_singleton]
            rw [w6, nI_clamp (show ps.length < 2 ^ 31 by omega)]
            have e10 : (10 : Int32) * nI p + nI r = nI q := by rw [show (10 : Int32) = nI 10 from rfl, pk_mul, nI_add, hq]
            rw [e10, nI_1]
            have fin := ih (ps ++ [q]) t' (mf (ma W 7 (upd (W.2.1 7) ps.length (nI q))) 6 (nI (ps.length + 1))) (by rw [List.append_assoc]; exact hps) ?_ ?_ ?_ ?_ ?_ ht'N hft' hpl2
            · have e319 : B319 (mf (ma W 7 (upd (W.2.1 7) ps.length (nI q))) 6 (nI (ps.length + 1))) (nI y) (nI t') := h319 _ _ _ fin
              have hne1 : ¬ nI t' = -1 := nI_m1 (by omega)
              refine h307 _ _ _ _ _ _ ?_
              unfold mT_plan_307
              refine h226 _ _ _ _ _ _ ?_
              unfold mT_plan_226
              have e313 : B313 (mf (ma W 7 (upd (W.2.1 7) ps.length (nI q))) 6 (nI (ps.length + 1))) (nI y) (nI z) (nI t') (nI p) := by
                refine h313 _ _ _ _ _ ?_
                unfold mT_plan_313
                refine h209 _ _ _ _ _ ?_
                unfold mT_plan_209
                exact ⟨fun _ => e319, fun _ => ⟨fun _ => e319, fun w => absurd w hne1⟩⟩
              exact ⟨fun _ => e313, fun _ => ⟨fun _ => e313, fun w => absurd w hne1⟩⟩
            · obtain ⟨j1, j2, ⟨τ, j3⟩, ⟨ρ, j4⟩⟩ := hKW
              refine ⟨fun k a1 a2 a3 a4 => ?_, fun k hk => ?_, ⟨τ, fun j hj => ?_⟩, ⟨ρ, fun j hj => ?_⟩⟩
              · rw [mf_get_ne _ _ a2]; exact j1 k a1 a2 a3 a4
              · show (ma W 7 _).2.1 k = _
                rw [ma_get_ne _ _ (by omega)]; exact j2 k hk
              · exact j3 j hj
              · exact j4 j hj
            · exact hMW.keep rfl (by rw [mf_get_ne _ _ (by decide)]; rfl) rfl
            · exact hkW
            · rw [mf_get, hlen1]
            · intro i r' hi
              show upd (W.2.1 7) ps.length (nI q) i = nI r'
              by_cases e : i = ps.length
              · subst e
                rw [List.getElem?_append_right (Nat.le_refl _), Nat.sub_self] at hi
                cases hi
                exact upd_same _ _ _
              · have hil : i < ps.length := by
                  have := (List.getElem?_eq_some_iff.mp hi).1
                  rw [hlen1] at this
                  omega
                rw [List.getElem?_append_left hil] at hi
                rw [upd_other _ _ e]
                exact w7 i r' hi
          · have hng := hmz'.mp c3
            rw [← w.1, ← w.2, hfst.1.1] at ht'
            cases ht'
            exact hng hfst.2.1
      · rintro V p hp ⟨k1, k2, k3, k4, k5, k6, k7⟩ hBo
        have e313 : B313 V (nI y) (nI z) (-1) (nI p) := by
          refine h313 _ _ _ _ _ ?_
          unfold mT_plan_313
          rw [← nI_succ]
          exact hBo
        refine h226 _ _ _ _ _ _ ?_
        unfold mT_plan_226
        rw [(k1.my hy2).1]
        exact ⟨fun _ => e313, fun w => absurd (nI_le (Nat.le_refl _) (by omega)) w⟩
      · rintro V p hp ⟨k1, k2, k3, k4, k5, k6, k7⟩
        refine ⟨k1, k2, k3, k4, k5, k6, fun w => k7 ?_⟩
        unfold lexLt at w ⊢
        omega
  -- the marks
  have marks : ∀ q, q ≤ mt.length → ∀ V : MS, MK (mf (mf S 3 0) 2 0) V → MOK V n P kd ct sg x fr mt → (∀ i w, q ≤ i → mt[i]? = some w → mk1 (V.2.1 16 w) (Good (tgN n P kd ct sg) (fun a b => ct (5 * a + b)) fr y w)) → B57 V (nI y) (nI q - 1) := by
    intro q
    induction q with
    | zero =>
      intro _ V hKV hMV hmk
      refine h57 _ _ _ ?_
      unfold mT_plan_57
      refine ⟨fun _ => ?_, fun w => absurd (by decide) w⟩
      have hyV := hKV.my hy2
      have hxV : ∀ j, j < n → V.2.1 2 j = nI (dgs P x j) := fun j hj => by rw [hKV.2.1 2 (by decide)]; exact (hxa j (by omega)).1
      refine s_pack l (mf V 6 0) 2 (by unfold m7; decide) _ (n := n) (P := P) hyV.2.1 hyV.1 (by omega) hxV ?_
      rw [dgs_pack hx]
      refine walk qs [] x (mf V 6 0) rfl ?_ ?_ (fun w hw => ?_) (mf_get _ _ _) (fun i q h => by cases h) hx (by rw [hD.1]; exact Option.some_ne_none 0) hqs
      · obtain ⟨j1, j2, j3, j4⟩ := hKV
        exact ⟨fun k a1 a2 a3 a4 => by rw [mf_get_ne _ _ a2]; exact j1 k a1 a3 a4, fun k hk => j2 k (by omega), j3, j4⟩
      · exact hMV.keep rfl (by rw [mf_get_ne _ _ (by decide)]) rfl
      · obtain ⟨i, hi⟩ := idx_of ((hmem w).mpr hw)
        exact hmk i w (Nat.zero_le _) hi
    | succ q ih =>
      intro hq V hKV hMV hmk
      obtain ⟨s, hs⟩ : ∃ s, mt[q]? = some s := ⟨_, List.getElem?_eq_getElem (by omega)⟩
      have hsf := (hmem s).mp (List.mem_of_getElem? hs)
      obtain ⟨ms, hms⟩ := Option.ne_none_iff_exists'.mp hsf
      have hsN := hD.2.1 s hsf
      -- a near stand lies behind
      have near_idx : ∀ a b t, nearX (tgN n P kd ct sg) (fun a b => ct (5 * a + b)) fr s a b t → t ≠ s ∧ ∃ i, q + 1 ≤ i ∧ mt[i]? = some t := by
        intro a b t hn
        obtain ⟨n1, k, n2, n3⟩ := hn
        rw [hms] at n2
        cases n2
        have n3 : fr t = some (ms + ct (5 * a + b)) := n3
        have hc := cpos s a b t n1
        have hts : t ≠ s := fun e => by rw [e, hms] at n3; have := Option.some.inj n3; omega
        refine ⟨hts, ?_⟩
        obtain ⟨i, hi⟩ := idx_of ((hmem t).mpr (by rw [n3]; exact Option.some_ne_none _))
        refine ⟨i, ?_, hi⟩
        rcases Nat.lt_trichotomy i q with w | w | w
        · obtain ⟨li, ei⟩ := List.getElem?_eq_some_iff.mp hi
          obtain ⟨lj, ej⟩ := List.getElem?_eq_some_iff.mp hs
          have := (List.pairwise_iff_getElem.mp hsort) i q li lj w
          rw [ei, ej] at this
          have := this _ _ n3 hms
          omega
        · subst w
          rw [hs] at hi
          cases hi
          exact absurd rfl hts
        · omega
      -- the pairs of pegs
      have loop : ∀ V : MS, MK (mf (mf S 3 0) 2 0) V → MOK V n P kd ct sg x fr mt → (∀ i w, q + 1 ≤ i → mt[i]? = some w → mk1 (V.2.1 16 w) (Good (tgN n P kd ct sg) (fun a b => ct (5 * a + b)) fr y w)) → U8 V n P s → mk1 (V.2.1 16 s) (s = y) → B96 V (nI y) (nI q) (nI s) (nI 0) := by
        intro V hKV hMV hmk hU hms1
        refine pair_loop (α := MS) (P := P) (Bo := fun U p => B96 U (nI y) (nI q) (nI s) (nI p)) (Bi := fun U p r => B108 U (nI y) (nI q) (nI s) (nI p) (nI r))
          (I := fun p r U => MK (mf (mf S 3 0) 2 0) U ∧ MOK U n P kd ct sg x fr mt ∧ (∀ i w, q + 1 ≤ i → mt[i]? = some w → mk1 (U.2.1 16 w) (Good (tgN n P kd ct sg) (fun a b => ct (5 * a + b)) fr y w)) ∧ U8 U n P s ∧ mk1 (U.2.1 16 s) (s = y ∨ ∃ a b t, lexLt a b p r ∧ nearX (tgN n P kd ct sg) (fun a b => ct (5 * a + b)) fr s a b t ∧ Good (tgN n P kd ct sg) (fun a b => ct (5 * a + b)) fr y t)) ?_ ?_ ?_ ?_ ?_ V ?_
        · rintro U p hp ⟨k1, k2, k3, k4, k5⟩ hBi
          refine h96 _ _ _ _ _ ?_
          unfold mT_plan_96
          rw [(k1.my hy2).1]
          exact ⟨fun w => absurd w (nI_ge (by omega) (by omega)), fun _ => hBi⟩
        · rintro U ⟨k1, k2, k3, k4, k5⟩
          refine h96 _ _ _ _ _ ?_
          unfold mT_plan_96
          rw [(k1.my hy2).1, i_sub1]
          refine ⟨fun _ => ih (by omega) U k1 k2 (fun i w hi hw => ?_), fun w => absurd (nI_le (Nat.le_refl _) (by omega)) w⟩
          by_cases e : i = q
          · subst e
            rw [hs] at hw
            cases hw
            refine k5.iff ?_
            rw [Good.iff]
            constructor
            · rintro (w | ⟨a, b, t, -, w2, w3⟩)
              · exact Or.inl w
              · exact Or.inr ⟨a, b, t, w2, w3⟩
            · rintro (w | ⟨a, b, t, w2, w3⟩)
              · exact Or.inl w
              · exact Or.inr ⟨a, b, t, Or.inl (tgP s a b t w2.1).1, w2, w3⟩
          · exact k3 i w (by omega) hw
        · rintro U p r hp hr ⟨k1, k2, k3, k4, k5⟩ nxt
          have hyU := k1.my hy2
          refine h108 _ _ _ _ _ _ ?_
          unfold mT_plan_108
          rw [hyU.1]
          refine ⟨fun w => absurd w (nI_ge (by omega) (by omega)), fun _ => ?_⟩
          refine s_ld l hyU k4 k1.2.2.2 hp hr _ (fun W hW => ?_)
          have hyW := hW.my hyU
          have w10 : ∀ z, z < P ^ n → W.2.1 10 z = farV (fr z) := by rw [hW.2.2.1 10 (by decide)]; exact k2.2.2.2.2.2.1
          have hKW : MK (mf (mf S 3 0) 2 0) W := k1.tr (MK.of9 hW k1.2.2.1)
          have hMW : MOK W n P kd ct sg x fr mt := k2.keep (hW.2.2.1 10 (by decide)) (by rw [hW.1]) (hW.2.2.1 14 (by decide))
          have w16 : W.2.1 16 = U.2.1 16 := hW.2.2.1 16 (by decide)
          have go : ∀ Z : MS, MK (mf (mf S 3 0) 2 0) Z → MOK Z n P kd ct sg x fr mt → (∀ w, w ≠ s → Z.2.1 16 w = U.2.1 16 w) → U8 Z n P s → mk1 (Z.2.1 16 s) (s = y ∨ ∃ a b t, lexLt a b p (r + 1) ∧ nearX (tgN n P kd ct sg) (fun a b => ct (5 * a + b)) fr s a b t ∧ Good (tgN n P kd ct sg) (fun a b => ct (5 * a + b)) fr y t) → B158 Z (nI y) (nI q) (nI s) (nI p) (nI r) := by
            intro Z z1 z2 z3 z4 z5
            refine h158 _ _ _ _ _ _ ?_
            unfold mT_plan_158
            rw [← nI_succ]
            refine nxt Z ⟨z1, z2, fun i w hi hw => ?_, z4, z5⟩
            have hws : w ≠ s := fun e => by
              have := nodup_idx hM.2.1 hw (by rw [e]; exact hs)
              omega
            rw [z3 w hws]
            exact k3 i w hi hw
          have stay : ¬ (∃ t, nearX (tgN n P kd ct sg) (fun a b => ct (5 * a + b)) fr s p r t ∧ Good (tgN n P kd ct sg) (fun a b => ct (5 * a + b)) fr y t) → B158 W (nI y) (nI q) (nI s) (nI p) (nI r) := by
            intro hno
            refine go W hKW hMW (fun w _ => by rw [w16]) (hW.u8 k4) ?_
            rw [w16]
            refine k5.iff ?_
            constructor
            · rintro (w | ⟨a, b, t, w1, w2⟩)
              · exact Or.inl w
              · exact Or.inr ⟨a, b, t, lex_step.mpr (Or.inl w1), w2⟩
            · rintro (w | ⟨a, b, t, w1, w2⟩)
              · exact Or.inl w
              · rcases lex_step.mp w1 with w3 | ⟨w3, w4⟩
                · exact Or.inr ⟨a, b, t, w3, w2⟩
                · subst w3
                  subst w4
                  exact absurd ⟨t, w2⟩ hno
          refine s_near l hyW hN w10 hfb hsN hms hp hr _ (fun hno => ⟨fun _ => stay (fun w => hno _ w.choose_spec.1), fun w => absurd rfl w⟩) (fun t ht hnr => ⟨fun w => absurd w (by decide), fun _ => ?_⟩)
          have htN := tgN_lt (by omega) ht
          obtain ⟨hts, i, hi, hit⟩ := near_idx p r t hnr
          rw [ht]
          show vp_in (nI t) 20000 ∧ _
          have e1 : (lab (some t)).toNatClampNeg = t := nI_clamp (by omega)
          rw [e1, w16, nI_clamp (show s < 2 ^ 31 by omega)]
          have hmt := (k3 i t hi hit).zero
          refine ⟨vp_in_nI (by omega) (by omega), fun c3 => stay (fun w => ?_), fun c3 => ⟨vp_in_nI (by omega) (by omega), ?_⟩⟩
          · obtain ⟨t', w1, w2⟩ := w
            have e : t' = t := Option.some.inj (w1.1.symm.trans ht)
            subst e
            exact hmt.mp c3 w2
          · have hgt : Good (tgN n P kd ct sg) (fun a b => ct (5 * a + b)) fr y t := Classical.byContradiction (fun w => c3 (hmt.mpr w))
            refine go _ (hKW.mar _ (by decide)) (hMW.keep rfl rfl rfl) (fun w hw => ?_) ?_ (Or.inl ⟨?_, Or.inr ⟨p, r, t, lex_step.mpr (Or.inr ⟨rfl, rfl⟩), hnr, hgt⟩⟩)
            · rw [ma_get, upd_other _ _ hw]
            · obtain ⟨σ, v1, v2⟩ := hW.u8 k4
              exact ⟨σ, fun j hj => by rw [ma_get_ne _ _ (by decide)]; exact v1 j hj, v2⟩
            · rw [ma_get, upd_same]; rfl
        · rintro U p hp ⟨k1, k2, k3, k4, k5⟩ hBo
          refine h108 _ _ _ _ _ _ ?_
          unfold mT_plan_108
          rw [(k1.my hy2).1, ← nI_succ]
          exact ⟨fun _ => hBo, fun w => absurd (nI_le (Nat.le_refl _) (by omega)) w⟩
        · rintro U p hp ⟨k1, k2, k3, k4, k5⟩
          refine ⟨k1, k2, k3, k4, k5.iff ?_⟩
          constructor
          · rintro (w | ⟨a, b, t, w1, w2⟩)
            · exact Or.inl w
            · exact Or.inr ⟨a, b, t, by unfold lexLt at w1 ⊢; omega, w2⟩
          · rintro (w | ⟨a, b, t, w1, w2⟩)
            · exact Or.inl w
            · have := (tgP s a b t w2.1.1).2
              exact Or.inr ⟨a, b, t, by unfold lexLt at w1 ⊢; omega, w2⟩
        · refine ⟨hKV, hMV, hmk, hU, hms1.iff ⟨Or.inl, ?_⟩⟩
          rintro (w | ⟨a, b, t, w1, -⟩)
          · exact w
          · unfold lexLt at w1; omega
      -- the stand itself
      have set16 : ∀ v : Int32, mk1 v (s = y) → mX_unpack l (ma V 16 (upd (V.2.1 16) s v)) (nI s) 8 (fun S8 => B96 S8 (nI y) (nI q) (nI s) 0) := by
        intro v hv
        have hK1 : MK (mf (mf S 3 0) 2 0) (ma V 16 (upd (V.2.1 16) s v)) := hKV.mar _ (by decide)
        refine s_unp l (hK1.my hy2) (by omega) hK1.2.2.1 _ (fun f hu => ?_)
        refine loop _ (hK1.m8 hu) (hMV.keep rfl rfl rfl) (fun i w hi hw => ?_) hu ?_
        · have hws : w ≠ s := fun e => by
            have := nodup_idx hM.2.1 hw (by rw [e]; exact hs)
            omega
          show mk1 (upd (V.2.1 16) s v w) _
          rw [upd_other _ _ hws]
          exact hmk i w hi hw
        · show mk1 (upd (V.2.1 16) s v s) _
          rw [upd_same]; exact hv
      refine h57 _ _ _ ?_
      unfold mT_plan_57
      rw [nI_pred, nI_clamp (show q < 2 ^ 31 by omega), hMV.2.2.2.2.2.2.2 q s hs]
      refine ⟨fun w => absurd w (nI_pos (by omega)), fun _ => ⟨vp_in_nI (by omega) (by omega), fun v3 e3 => ?_⟩⟩
      subst e3
      rw [nI_clamp (show s < 2 ^ 31 by omega)]
      refine ⟨fun c3 => ⟨vp_in_nI (by omega) (by omega), set16 _ (Or.inr ⟨rfl, fun w => c3 (by rw [w])⟩)⟩, fun c3 => ⟨vp_in_nI (by omega) (by omega), set16 _ (Or.inl ⟨rfl, (nI_eq (by omega) (by omega)).mp c3⟩)⟩⟩
  intro v e
  rw [hM.2.2.2.2.2.2.1] at e
  rw [e]
  exact marks mt.length (Nat.le_refl _) T hK hM (fun i w hi hw => absurd (List.getElem?_eq_some_iff.mp hw).1 (by omega))
