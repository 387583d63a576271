-- undo(), redo(), move()
theorem rgt_RR {n P x : Nat} {kd : Nat → Nat} : rgt n P kd x = true ↔ RR kd (dgs P x) n := right_RR
section Ops6
variable {S : CS} {M : MS} {n P x y : Nat} {kd ct sc sm : Nat → Nat}
theorem row_unp {z : Nat} {f : Nat → Int32} (hP : 0 < P) (hx : x < P ^ n) (hz : z < P ^ n) (hf : ∀ j, j < 7 → f j = nI (dgs P x j)) : ∀ j, j < 7 → unpF f P z n j = nI (dgs P z j) := row_of hP hx hz hf (σ := dgs P z) (fun _ _ => rfl) _ (fun _ _ => rfl)
theorem o_undo (l : Launch) (h : Rl S M n P kd ct sc sm x y) : cX_X8_undo l S (fun r1 S1 => mX_undo l M (fun r2 M1 => OKr S r1 S1 r2 M1)) := by
  have hP2 := h.P2
  have hn2 := h.n2
  have hb := pow_b hP2 hn2.2
  obtain ⟨p, q, g, hpq, s9, m4, s10, m5, hg, hea, hla⟩ := id h.2.2.2.2.1
  refine c_X8_undo l S _ ?_
  unfold cT_X8_undo_e
  rcases Nat.eq_zero_or_pos p with e | e
  · subst e
    refine ⟨fun w => absurd s9 w, fun _ => m_undo l M _ ?_⟩
    unfold mT_undo_e
    exact ⟨fun w => absurd m4 w, fun _ => ⟨rfl, ⟨n, P, kd, ct, sc, sm, x, y, h.th 0⟩, rfl⟩⟩
  · obtain ⟨p', rfl⟩ : ∃ p', p = p' + 1 := ⟨p - 1, by omega⟩
    have n9 : ¬ S.1 9 = 0 := by rw [s9]; exact fun w => absurd ((nI_is 0 rfl (by omega) (by omega)).mp w) (by omega)
    have n4 : ¬ M.1 4 = 0 := by rw [m4]; exact fun w => absurd ((nI_is 0 rfl (by omega) (by omega)).mp w) (by omega)
    refine ⟨fun _ => c_X4_stepBack l S _ _ ?_, fun w => absurd w n9⟩
    unfold cT_X4_stepBack_e
    refine ⟨fun w => absurd w n9, fun _ => ⟨fun _ => ?_, fun w => ?_⟩⟩
    · rw [s9, nI_pred, s10, nI_clamp (show p' < 2 ^ 31 by omega), nI_clamp (show q < 2 ^ 31 by omega), ← nI_succ, hea p' (by omega)]
      refine ⟨vp_in_nI (by omega) (by omega), vp_in_nI (by omega) (by omega), m_undo l M _ ?_⟩
      unfold mT_undo_e
      rw [m4, nI_pred, nI_clamp (show p' < 2 ^ 31 by omega)]
      refine ⟨fun _ => ⟨vp_in_nI (by omega) (by omega), fun v hv => ?_⟩, fun w => absurd (m4.trans w) n4⟩
      rw [(hg p' (by omega)).2.2] at hv
      subst hv
      have hy : MY (mf (mf M 3 0) 4 (nI p')) n P kd ct sm := (h.my.mf 0 (by decide) (by decide)).mf _ (by decide) (by decide)
      refine s_pack l _ 2 (by unfold m7; decide) _ (σ := dgs P x) hy.2.1 hy.1 hn2.2 (fun j hj => (h.xa j (by omega)).1) ?_
      rw [dgs_pack h.hx]
      refine ⟨vp_in_nI (by omega) (by omega), ?_⟩
      have e5 : (mf (mf M 3 0) 4 (nI p')).1 5 = nI q := m5
      rw [e5, ← nI_succ]
      have hgp := hg p' (by omega)
      refine s_unpack l _ (g p') 2 (by unfold m7; decide) _ hy.2.1 hy.1 hP2 hn2.2 (by omega) ⟨rfl, ⟨n, P, kd, ct, sc, sm, g p', y, ?_⟩, rfl⟩
      refine h.mkx ((((CFr.rf.ca _ rfl).cf _ rfl).cf _ rfl).cf _ rfl) (((((MFx.rf.sc _ rfl).sc _ rfl).row _ rfl).sc _ rfl).row _ rfl) ⟨rfl, hgp.1, row_unp (by omega) h.hx hgp.1 h.2.1.2.2.1, hgp.2.1⟩ h.2.2.1 h.2.2.2.1 ?_ h.m8 h.m9
      refine ⟨p', q + 1, va_up g p' x, by omega, rfl, rfl, rfl, rfl, fun i hi => ?_, fun i hi => ?_, fun i hi => ?_⟩
      · show va_up g p' x i < _ ∧ _ ∧ upd (M.2.1 6) p' (nI x) i = _
        by_cases e : i = p'
        · subst e; rw [va_up_same, upd_same]; exact ⟨h.hx, h.2.1.2.2.2, rfl⟩
        · rw [va_up_other _ _ e, upd_other _ _ e]; exact hg i (by omega)
      · rw [va_up_other _ _ (by omega)]
        exact hea i (by omega)
      · show upd (S.2.1 21) q (S.1 0) i = _
        by_cases e : i = q
        · subst e
          rw [upd_same, show p' + (i + 1) - 1 - i = p' by omega, va_up_same, h.sx]
        · rw [upd_other _ _ e, va_up_other _ _ (by omega), hla i (by omega)]
          congr 2
          omega
    · rw [s10] at w
      exact absurd ((nI_is 200 rfl (by omega) (by omega)).mp w) (by omega)
theorem o_redo (l : Launch) (h : Rl S M n P kd ct sc sm x y) : cX_X8_redo l S (fun r1 S1 => mX_redo l M (fun r2 M1 => OKr S r1 S1 r2 M1)) := by
  have hP2 := h.P2
  have hn2 := h.n2
  have hb := pow_b hP2 hn2.2
  obtain ⟨p, q, g, hpq, s9, m4, s10, m5, hg, hea, hla⟩ := id h.2.2.2.2.1
  refine c_X8_redo l S _ ?_
  unfold cT_X8_redo_e
  rcases Nat.eq_zero_or_pos q with e | e
  · subst e
    refine ⟨fun w => absurd s10 w, fun _ => m_redo l M _ ?_⟩
    unfold mT_redo_e
    exact ⟨fun w => absurd m5 w, fun _ => ⟨rfl, ⟨n, P, kd, ct, sc, sm, x, y, h.th 0⟩, rfl⟩⟩
  · obtain ⟨q', rfl⟩ : ∃ q', q = q' + 1 := ⟨q - 1, by omega⟩
    have n10 : ¬ S.1 10 = 0 := by rw [s10]; exact fun w => absurd ((nI_is 0 rfl (by omega) (by omega)).mp w) (by omega)
    have n5 : ¬ M.1 5 = 0 := by rw [m5]; exact fun w => absurd ((nI_is 0 rfl (by omega) (by omega)).mp w) (by omega)
    refine ⟨fun _ => c_X4_stepOn l S _ _ ?_, fun w => absurd w n10⟩
    unfold cT_X4_stepOn_e
    refine ⟨fun w => absurd w n10, fun _ => ⟨fun _ => ?_, fun w => ?_⟩⟩
    · have hgp := hg p (by omega)
      rw [s10, nI_pred, s9, nI_clamp (show p < 2 ^ 31 by omega), nI_clamp (show q' < 2 ^ 31 by omega), ← nI_succ, hla q' (by omega), show p + (q' + 1) - 1 - q' = p by omega]
      refine ⟨vp_in_nI (by omega) (by omega), vp_in_nI (by omega) (by omega), m_redo l M _ ?_⟩
      unfold mT_redo_e
      rw [m4, nI_clamp (show p < 2 ^ 31 by omega)]
      refine ⟨fun _ => ⟨vp_in_nI (by omega) (by omega), fun v hv => ?_⟩, fun w => absurd w n5⟩
      rw [hgp.2.2] at hv
      subst hv
      have hy : MY (mf M 3 0) n P kd ct sm := h.my.mf 0 (by decide) (by decide)
      refine s_pack l _ 2 (by unfold m7; decide) _ (σ := dgs P x) hy.2.1 hy.1 hn2.2 (fun j hj => (h.xa j (by omega)).1) ?_
      rw [dgs_pack h.hx]
      refine ⟨vp_in_nI (by omega) (by omega), ?_⟩
      have e4 : (mf M 3 0).1 4 = nI p := m4
      have e5 : (mf M 3 0).1 5 = nI (q' + 1) := m5
      rw [e4, e5, nI_pred, ← nI_succ]
      refine s_unpack l _ (g p) 2 (by unfold m7; decide) _ hy.2.1 hy.1 hP2 hn2.2 (by omega) ⟨rfl, ⟨n, P, kd, ct, sc, sm, g p, y, ?_⟩, rfl⟩
      refine h.mkx ((((CFr.rf.ca _ rfl).cf _ rfl).cf _ rfl).cf _ rfl) (((((MFx.rf.sc _ rfl).row _ rfl).sc _ rfl).sc _ rfl).row _ rfl) ⟨rfl, hgp.1, row_unp (by omega) h.hx hgp.1 h.2.1.2.2.1, hgp.2.1⟩ h.2.2.1 h.2.2.2.1 ?_ h.m8 h.m9
      refine ⟨p + 1, q', va_up g p x, by omega, rfl, rfl, rfl, rfl, fun i hi => ?_, fun i hi => ?_, fun i hi => ?_⟩
      · show va_up g p x i < _ ∧ _ ∧ upd (M.2.1 6) p (nI x) i = _
        by_cases e : i = p
        · subst e; rw [va_up_same, upd_same]; exact ⟨h.hx, h.2.1.2.2.2, rfl⟩
        · rw [va_up_other _ _ e, upd_other _ _ e]; exact hg i (by omega)
      · show upd (S.2.1 20) p (S.1 0) i = _
        by_cases e : i = p
        · subst e; rw [va_up_same, upd_same, h.sx]
        · rw [va_up_other _ _ e, upd_other _ _ e]; exact hea i (by omega)
      · rw [va_up_other _ _ (by omega)]
        have := hla i (by omega)
        rw [show p + 1 + q' - 1 - i = p + (q' + 1) - 1 - i by omega]
        exact this
    · rw [s9] at w
      exact absurd ((nI_is 200 rfl (by omega) (by omega)).mp w) (by omega)
/-- the past with one stand more -/
def pushG (p : Nat) (g : Nat → Nat) (x : Nat) : Nat → Nat := if p = 200 then (fun i => if i < 199 then g (i + 1) else x) else va_up g p x
def pushP (p : Nat) : Nat := if p = 200 then 200 else p + 1
theorem k_keep (l : Launch) {T : CS} {p x : Nat} {g : Nat → Nat} (hp : p ≤ 200) (s9 : T.1 9 = nI p) (hea : ∀ i, i < p → T.2.1 20 i = nI (g i)) (post : CS → Prop) (h : ∀ f, (∀ i, i < pushP p → f i = nI (pushG p g x i)) → post (cf (cf (ca T 20 f) 9 (nI (pushP p))) 10 0)) : cX_X4_keep l T (nI x) post := by
  refine c_X4_keep l T _ post ?_
  intro B36 h36
  unfold cT_X4_keep_e
  by_cases e : p = 200
  · subst e
    refine ⟨fun w => absurd s9 w, fun _ => h36 _ ?_⟩
    unfold cT_X4_keep_36
    have e1 : (cf (ca T 20 (va_cpy (T.2.1 20) (T.2.1 20) (1 : Int32).toNatClampNeg (0 : Int32).toNatClampNeg (199 : Int32).toNatClampNeg)) 9 ((T.1 9) - 1)).1 9 = nI 199 := by
      rw [cf_get, s9]; rfl
    rw [e1]
    refine ⟨vp_in_nI (by omega) (by omega), ?_⟩
    have := h (upd (va_cpy (T.2.1 20) (T.2.1 20) 1 0 199) 199 (nI x)) (fun i hi => ?_)
    · have e2 : cf (cf (ca (cf (ca T 20 (va_cpy (T.2.1 20) (T.2.1 20) (1 : Int32).toNatClampNeg (0 : Int32).toNatClampNeg (199 : Int32).toNatClampNeg)) 9 ((T.1 9) - 1)) 20 (upd (va_cpy (T.2.1 20) (T.2.1 20) 1 0 199) 199 (nI x))) 9 (nI 199 + 1)) 10 0 = cf (cf (ca T 20 (upd (va_cpy (T.2.1 20) (T.2.1 20) 1 0 199) 199 (nI x))) 9 (nI (pushP 200))) 10 0 := by
        unfold cf ca
        simp only [va_up_same]
        have w1 : ∀ v w : Int32, va_up (va_up T.1 9 v) 9 w = va_up T.1 9 w := fun v w => by
          funext j
          unfold va_up
          by_cases q : j = 9
          · rw [if_pos q, if_pos q]
          · rw [if_neg q, if_neg q, if_neg q]
        have w2 : ∀ v w : Nat → Int32, va_up (va_up T.2.1 20 v) 20 w = va_up T.2.1 20 w := fun v w => by
          funext j
          unfold va_up
          by_cases q : j = 20
          · rw [if_pos q, if_pos q]
          · rw [if_neg q, if_neg q, if_neg q]
        rw [w1, w2]
        rfl
      exact e2 ▸ this
    · have hi : i < 200 := hi
      show _ = nI (if i < 199 then g (i + 1) else x)
      by_cases q : i = 199
      · subst q; rw [upd_same, if_neg (by omega)]
      · rw [upd_other _ _ q, if_pos (by omega)]
        unfold va_cpy
        rw [if_pos (by omega), show 1 + (i - 0) = i + 1 by omega]
        exact hea (i + 1) (by omega)
  · have n9 : ¬ T.1 9 = 200 := by rw [s9]; exact fun w => e ((nI_is 200 rfl (by omega) (by omega)).mp w)
    refine ⟨fun _ => h36 _ ?_, fun w => absurd w n9⟩
    unfold cT_X4_keep_36
    rw [s9, nI_clamp (show p < 2 ^ 31 by omega), ← nI_succ]
    refine ⟨vp_in_nI (by omega) (by omega), ?_⟩
    have ep : pushP p = p + 1 := by unfold pushP; rw [if_neg e]
    have := h (upd (T.2.1 20) p (nI x)) (fun i hi => ?_)
    · rw [ep] at this; exact this
    · rw [ep] at hi
      unfold pushG
      rw [if_neg e]
      by_cases q : i = p
      · subst q; rw [upd_same, va_up_same]
      · rw [upd_other _ _ q, va_up_other _ _ q]; exact hea i (by omega)
theorem s_move (l : Launch) (h : Rl S M n P kd ct sc sm x y) {p : Nat} {g : Nat → Nat} (hp : p ≤ 200) (m4 : M.1 4 = nI p) (hpa : ∀ i, i < p → M.2.1 6 i = nI (g i)) (a b : Int32) (post : Int32 → MS → Prop)
    (h0 : (¬ ((∃ i, i < P ∧ a = nI i) ∧ ∃ j, j < P ∧ b = nI j)) → post (-1) (mf (mf M 3 0) 2 1))
    (h1 : ∀ i j, i < P → j < P → a = nI i → b = nI j → whyN n kd ct sm (dgs P x) i j ≠ 0 → post (-1) (mf (mf M 3 0) 2 4))
    (h2 : ∀ i j, i < P → j < P → a = nI i → b = nI j → whyN n kd ct sm (dgs P x) i j = 0 → ∀ T f, MFx xM xR M T → (∀ k, k < pushP p → T.2.1 6 k = nI (pushG p g x k)) → T.1 4 = nI (pushP p) → T.1 5 = 0 → T.1 2 = 0 → T.2.1 2 = f → T.2.1 3 = M.2.1 3 → T.2.1 8 = M.2.1 8 → T.2.1 9 = M.2.1 9 → (∀ k, k < 7 → f k = nI (dgs P (packN (movN n kd (dgs P x) i j) P n 0) k)) → post (nI (pkE kd (dgs P x) n (topN (dgs P x) i n) - topN (dgs P x) i n + 1)) T) : mX_move l M a b post := by
  have hP2 := h.P2
  have hn2 := h.n2
  have hb := pow_b hP2 hn2.2
  refine m_move l M a b post ?_
  intro B21 B63 B101 h21 h63 h101
  unfold mT_move_e
  have hy : MY (mf M 3 0) n P kd ct sm := (h.th 0).my
  have no : (¬ ((∃ i, i < P ∧ a = nI i) ∧ ∃ j, j < P ∧ b = nI j)) → B21 (mf M 3 0) := by
    intro q
    refine h21 _ ?_
    unfold mT_move_21
    exact s_no l _ 1 _ (h0 q)
  refine s_isPegC l _ a _ (P := P) hy.1 hP2 (fun q => ⟨fun _ => no (fun w => q w.1), fun w => absurd rfl w⟩) (fun i hi ea => ⟨fun w => absurd w (by decide), fun _ => ?_⟩)
  refine s_isPegC l _ b _ (P := P) hy.1 hP2 (fun q => ⟨fun w => absurd rfl w, fun _ => no (fun w => q w.2)⟩) (fun j hj eb => ⟨fun _ => ?_, fun w => absurd w (by decide)⟩)
  subst ea
  subst eb
  refine s_whyOf l _ 2 i j (by unfold m7; decide) _ hy h.xa (by omega) (by omega) ?_
  have hw : whyN n kd ct sm (dgs P x) i j ≤ 5 := by
    unfold whyN
    repeat' split
    all_goals omega
  by_cases e : whyN n kd ct sm (dgs P x) i j = 0
  · have fin := h2 i j hi hj rfl rfl e
    have ht := whyN_top e
    rw [e]
    refine ⟨fun _ => ?_, fun w => absurd (by decide) w⟩
    -- the last steps
    have e101 : ∀ r u (T : MS), r ≤ 199 → u = pushG p g x → pushP p = r + 1 → MFx xM xR M T → T.1 4 = nI r → T.1 2 = 0 → (∀ k, k < r → T.2.1 6 k = nI (u k)) → u r = x → T.2.1 2 = M.2.1 2 → T.2.1 3 = M.2.1 3 → T.2.1 8 = M.2.1 8 → T.2.1 9 = M.2.1 9 → MY T n P kd ct sm → B101 T := by
      intro r u T hr hu hpp fT t4 t2 t6 hur tr2 tr3 tr8 tr9 hyT
      refine h101 _ ?_
      unfold mT_move_101
      refine s_pack l _ 2 (by unfold m7; decide) _ (σ := dgs P x) hyT.2.1 hyT.1 hn2.2 (fun j hj => by rw [tr2]; exact (h.xa j (by omega)).1) ?_
      rw [dgs_pack h.hx, t4, nI_clamp (show r < 2 ^ 31 by omega), ← nI_succ]
      refine ⟨vp_in_nI (by omega) (by omega), ?_⟩
      have hxT : MA (mf (mf (ma T 6 (upd (T.2.1 6) r (nI x))) 4 (nI (r + 1))) 5 0) 2 (dgs P x) := fun j hj => by
        show T.2.1 2 j = _ ∧ _
        rw [tr2]; exact h.xa j hj
      refine s_moved l _ 2 i j (by unfold m7; decide) (by decide) _ (((hyT.ma _ (by decide) (by decide) (by decide)).mf _ (by decide) (by decide)).mf _ (by decide) (by decide)) hxT (by omega) ht ?_
      have hpk := pkE_lt (kd := kd) (σ := dgs P x) ht
      refine fin _ _ ((((fT.row _ rfl).sc _ rfl).sc _ rfl).row _ rfl) (fun k hk => ?_) (by rw [hpp]; rfl) rfl t2 rfl tr3 tr8 tr9 (fun k hk => ?_)
      · show upd (T.2.1 6) r (nI x) k = _
        rw [← hu]
        by_cases q : k = r
        · subst q; rw [upd_same, hur]
        · rw [upd_other _ _ q]; exact t6 k (by omega)
      · show movF (T.2.1 2) _ _ (nI j) k = _
        have hmv : ∀ k, k < n → movN n kd (dgs P x) i j k < P := fun k _ => by
          unfold movN
          split
          · exact hj
          · exact dgs_lt (by omega) _ _
        by_cases q : k < n
        · rw [packN0, dgs_num (by omega) n hmv k q]
          unfold movF movN
          by_cases q2 : topN (dgs P x) i n ≤ k ∧ k ≤ pkE kd (dgs P x) n (topN (dgs P x) i n)
          · rw [if_pos q2, if_pos (by omega)]
          · rw [if_neg q2, if_neg (by omega), tr2, (h.xa k hk).1]
        · unfold movF
          rw [if_neg (by omega), tr2, (h.xa k hk).1, dgs_zero (by omega) h.hx (by omega), dgs_zero (by omega) (by rw [packN0]; exact numN_lt n hmv) (by omega)]
    have m4' : (mf M 3 0).1 4 = nI p := m4
    rw [m4']
    by_cases ep : p = 200
    · subst ep
      refine ⟨fun w => absurd rfl w, fun _ => ?_⟩
      have key : ∀ d k, k + d = 199 → ∀ f : Nat → Int32, (∀ i, i < k → f i = nI (g (i + 1))) → (∀ i, k ≤ i → i < 200 → f i = nI (g i)) → B63 (ma (mf (mf M 3 0) 2 0) 6 f) (nI (k + 1)) := by
        intro d
        induction d with
        | zero =>
          intro k hk f hf1 hf2
          have : k = 199 := by omega
          subst this
          refine h63 _ _ ?_
          unfold mT_move_63
          have e4 : (ma (mf (mf M 3 0) 2 0) 6 f).1 4 = nI 200 := m4
          rw [e4]
          refine ⟨fun _ => ?_, fun w => absurd (by decide) w⟩
          refine e101 199 (pushG 200 g x) _ (by omega) rfl rfl ((((MFx.rf.sc _ rfl).sc _ rfl).row _ rfl).sc _ rfl) rfl rfl (fun k hk => ?_) rfl rfl rfl rfl rfl (((hy.mf _ (by decide) (by decide)).ma _ (by decide) (by decide) (by decide)).mf _ (by decide) (by decide))
          show f k = nI (if k < 199 then g (k + 1) else x)
          rw [if_pos hk]
          exact hf1 k hk
        | succ d ih =>
          intro k hk f hf1 hf2
          refine h63 _ _ ?_
          unfold mT_move_63
          have e4 : (ma (mf (mf M 3 0) 2 0) 6 f).1 4 = nI 200 := m4
          have ek : nI (k + 1) - 1 = nI k := by rw [nI_pred]
          rw [e4, ek, nI_clamp (show k < 2 ^ 31 by omega), nI_clamp (show k + 1 < 2 ^ 31 by omega), ← nI_succ, ma_ma]
          refine ⟨fun w => absurd w (nI_ge (by omega) (by omega)), fun _ => ⟨vp_in_nI (by omega) (by omega), vp_in_nI (by omega) (by omega), ?_⟩⟩
          refine ih (k + 1) (by omega) _ (fun i hi => ?_) (fun i h1 h2 => ?_)
          · show upd f k (f (k + 1)) i = _
            by_cases q : i = k
            · subst q; rw [upd_same]; exact hf2 (i + 1) (by omega) (by omega)
            · rw [upd_other _ _ q]; exact hf1 i (by omega)
          · show upd f k (f (k + 1)) i = _
            rw [upd_other _ _ (by omega)]; exact hf2 i (by omega) h2
      have := key 199 0 (by omega) (M.2.1 6) (fun i hi => absurd hi (Nat.not_lt_zero _)) (fun i _ hi => hpa i hi)
      have e6 : ma (mf (mf M 3 0) 2 0) 6 (M.2.1 6) = mf (mf M 3 0) 2 0 := ma_id _ 6
      rw [e6] at this
      exact this
    · have np : ¬ nI p = 200 := fun w => ep ((nI_is 200 rfl (by omega) (by omega)).mp w)
      refine ⟨fun _ => ?_, fun w => absurd w np⟩
      refine e101 p (pushG p g x) _ (by omega) rfl (by unfold pushP; rw [if_neg ep]) ((MFx.rf.sc _ rfl).sc _ rfl) m4 rfl (fun k hk => ?_) ?_ rfl rfl rfl rfl (hy.mf _ (by decide) (by decide))
      · show M.2.1 6 k = _
        unfold pushG
        rw [if_neg ep, va_up_other _ _ (by omega)]
        exact hpa k hk
      · unfold pushG
        rw [if_neg ep, va_up_same]
  · refine ⟨fun w => ?_, fun _ => s_no l _ 4 _ (h1 i j hi hj rfl rfl e)⟩
    exact absurd ((nI_leI (b := 0) (by omega) (by omega)).mp w) (by omega)
theorem k_why (l : Launch) (h : CY S n P kd ct sc) (hx : x < P ^ n) (s0 : S.1 0 = nI x) (a b : Int32) (post : Int32 → CS → Prop) (h0 : (¬ ((∃ i, i < P ∧ a = nI i) ∧ ∃ j, j < P ∧ b = nI j)) → post (-1) S) (h1 : ∀ i j, i < P → j < P → a = nI i → b = nI j → ∀ T, CFr lA lB nn S T → LK T n P kd x → post (nI (whyN n kd ct sc (dgs P x) i j)) T) : cX_X8_why l S a b post := by
  have hP2 := h.2.2.2.1
  refine c_X8_why l S a b _ ?_
  unfold cT_X8_why_e
  refine k_isPeg l h.1 hP2.2 a _ (fun q => ⟨fun _ => h0 (fun w => q w.1), fun w => absurd rfl w⟩) (fun i hi ea => ⟨fun w => absurd w (by decide), fun _ => ?_⟩)
  refine k_isPeg l h.1 hP2.2 b _ (fun q => ⟨fun w => absurd rfl w, fun _ => h0 (fun w => q w.2)⟩) (fun j hj eb => ⟨fun _ => ?_, fun w => absurd w (by decide)⟩)
  subst ea
  subst eb
  rw [s0]
  refine k_read l h hx _ (fun T fT hT => ?_)
  refine k_hind l (h.fr fT) hT (by omega) (by omega) _ (h1 i j hi hj rfl rfl T fT hT)
theorem o_move (l : Launch) (h : Rl S M n P kd ct sc sm x y) (a b : Int32) : cX_X8_move l S a b (fun r1 S1 => mX_move l M a b (fun r2 M1 => OKr S r1 S1 r2 M1)) := by
  have hP2 := h.P2
  have hn2 := h.n2
  have hb := pow_b hP2 hn2.2
  obtain ⟨p, q, g, hpq, s9, m4, s10, m5, hg, hea, hla⟩ := id h.2.2.2.2.1
  refine c_X8_move l S a b _ ?_
  unfold cT_X8_move_e
  have sm' := s_move l h (g := g) (show p ≤ 200 by omega) m4 (fun i hi => (hg i (by omega)).2.2) a b
  refine k_why l h.cy h.hx h.sx a b _ (fun q => ⟨fun w => absurd rfl w, fun _ => k_none l _ 1 _ ?_⟩) (fun i j hi hj ea eb T fT hT => ?_)
  · exact sm' _ (fun _ => ⟨rfl, ⟨n, P, kd, ct, sc, sm, x, y, (h.th 0).tr 1⟩, rfl⟩) (fun i j hi hj ea eb => absurd ⟨⟨i, hi, ea⟩, j, hj, eb⟩ q) (fun i j hi hj ea eb => absurd ⟨⟨i, hi, ea⟩, j, hj, eb⟩ q)
  · have hw : whyN n kd ct sc (dgs P x) i j ≤ 5 := by
      unfold whyN
      repeat' split
      all_goals omega
    have hww := h.why (dgs P x) (show i < 5 by omega) (show j < 5 by omega)
    have eij : ∀ i' j', i' < P → j' < P → a = nI i' → b = nI j' → i = i' ∧ j = j' := fun i' j' h1 h2 e1 e2 => ⟨(nI_eq (by omega) (by omega)).mp (ea.symm.trans e1), (nI_eq (by omega) (by omega)).mp (eb.symm.trans e2)⟩
    refine ⟨fun _ => ⟨fun c => ?_, fun c => ?_⟩, fun w => absurd w (nI_m1 (by omega))⟩
    · have c : whyN n kd ct sc (dgs P x) i j = 0 := (nI_is 0 rfl (by omega) (by omega)).mp c
      have ht := whyN_top c
      rw [fT.1 0 rfl, h.sx]
      refine k_keep l (g := g) (show p ≤ 200 by omega) (by rw [fT.1 9 rfl]; exact s9) (fun i hi => by rw [(fT.2.1 20 rfl).1]; exact hea i hi) _ (fun f hf => ?_)
      subst ea
      subst eb
      refine k_land l h.hx (S := cf (cf (ca T 20 f) 9 (nI (pushP p))) 10 0) hT (by omega) ht _ ?_
      refine k_size l (x := x) (S := cf (cf (cf (cf (ca T 20 f) 9 (nI (pushP p))) 10 0) 0 (nI (packN (movN n kd (dgs P x) i j) P n 0))) 2 0) hT (by omega) ht _ ?_
      refine sm' _ (fun w => absurd ⟨⟨i, hi, rfl⟩, j, hj, rfl⟩ w) (fun i' j' h1 h2 e1 e2 w => ?_) (fun i' j' h1 h2 e1 e2 w N f' fN n6 n4 n5 n2 nr2 nr3 nr8 nr9 hf' => ?_)
      · obtain ⟨q1, q2⟩ := eij i' j' h1 h2 e1 e2
        rw [← q1, ← q2, ← hww] at w
        exact absurd c w
      · obtain ⟨q1, q2⟩ := eij i' j' h1 h2 e1 e2
        subst q1
        subst q2
        have hmv : ∀ k, k < n → movN n kd (dgs P x) i j k < P := fun k _ => by
          unfold movN
          split
          · exact hj
          · exact dgs_lt (by omega) _ _
        have hz : packN (movN n kd (dgs P x) i j) P n 0 < P ^ n := by rw [packN0]; exact numN_lt n hmv
        refine ⟨rfl, ⟨n, P, kd, ct, sc, sm, packN (movN n kd (dgs P x) i j) P n 0, y, ?_⟩, (have hq := lens_eq fT; hq)⟩
        refine h.mkx (((((fT.x.ca _ rfl).cf _ rfl).cf _ rfl).cf _ rfl).cf _ rfl) fN ⟨rfl, hz, by rw [nr2]; exact hf', ?_⟩ ?_ n2.symm ?_ ?_ ?_
        · rw [rgt_RR]
          refine RR.congr (RR.move (rgt_RR.mp h.2.1.2.2.2) (fun q => h.dz i q) (by omega) c) (fun k hk => ?_)
          rw [packN0, dgs_num (by omega) n hmv k hk]
        · show RS n P kd (T.1 1) (N.2.1 3) y
          rw [fT.1 1 rfl, nr3]; exact h.2.2.1
        · rw [n4, n5]
          refine ⟨pushP p, 0, pushG p g x, ?_, rfl, rfl, rfl, rfl, fun k hk => ?_, fun k hk => hf k hk, fun k hk => absurd hk (Nat.not_lt_zero _)⟩
          · unfold pushP; split <;> omega
          · refine ⟨?_, ?_, n6 k hk⟩
            all_goals unfold pushG; unfold pushP at hk
            all_goals split
            all_goals first
              | (rename_i e; rw [if_pos e] at hk
                 by_cases e2 : k < 199
                 · simp only [if_pos e2]; first | exact (hg (k + 1) (by omega)).1 | exact (hg (k + 1) (by omega)).2.1
                 · simp only [if_neg e2]; first | exact h.hx | exact h.2.1.2.2.2)
              | (rename_i e; rw [if_neg e] at hk
                 by_cases e2 : k = p
                 · subst e2; rw [va_up_same]; first | exact h.hx | exact h.2.1.2.2.2
                 · rw [va_up_other _ _ e2]; first | exact (hg k (by omega)).1 | exact (hg k (by omega)).2.1)
        · obtain ⟨τ, h8⟩ := h.m8
          exact ⟨τ, fun j hj => by rw [nr8]; exact h8 j hj⟩
        · obtain ⟨τ, h9⟩ := h.m9
          exact ⟨τ, fun j hj => by rw [nr9]; exact h9 j hj⟩
    · have c : whyN n kd ct sc (dgs P x) i j ≠ 0 := fun q => c (by rw [q]; rfl)
      refine k_none l _ 4 _ (sm' _ (fun w => absurd ⟨⟨i, hi, ea⟩, j, hj, eb⟩ w) (fun i' j' h1 h2 e1 e2 w => ⟨rfl, ⟨n, P, kd, ct, sc, sm, x, y, ((h.look fT).th 0).tr 4⟩, (have hq := lens_eq fT; hq)⟩) (fun i' j' h1 h2 e1 e2 w => ?_))
      obtain ⟨q1, q2⟩ := eij i' j' h1 h2 e1 e2
      rw [← q1, ← q2, ← hww] at w
      exact absurd w c
end Ops6
