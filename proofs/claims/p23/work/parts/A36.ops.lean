-- moves(), stand(), undo(), redo(), move()
theorem dgs_eq0 {P n s t j : Nat} (hP : 0 < P) (hs : s < P ^ n) (ht : t < P ^ n) (hj : n ≤ j) : dgs P s j = dgs P t j := by rw [dgs_zero hP hs hj, dgs_zero hP ht hj]
section Ops5
variable {S : CS} {M : MS} {n P x y : Nat} {kd ct sc sm : Nat → Nat}
theorem whyN_tg (hz : ∀ a, a < 5 → ct (5 * a + a) = 0) {a b : Nat} (hP : P ≤ 5) (ha : a < P) (hb : b < P) : (tgN n P kd ct sm x a b).isSome = decide (whyN n kd ct sm (dgs P x) a b = 0) := by
  unfold tgN
  by_cases e : whyN n kd ct sm (dgs P x) a b = 0
  · have hab : a ≠ b := by
      intro q
      subst q
      unfold whyN at e
      rw [if_pos (hz a (by omega))] at e
      cases e
    rw [if_pos ⟨ha, hb, hab, e⟩, decide_eq_true e]
    rfl
  · rw [if_neg (fun q => e q.2.2.2), decide_eq_false e]
    rfl
theorem s_moves (l : Launch) (hy : MY M n P kd ct sm) (hz : ∀ a, a < 5 → ct (5 * a + a) = 0) (hxa : MA M 2 (dgs P x)) (post : Int32 → MS → Prop) (h : post (nI (mvL n P kd ct sm x).length) (mf M 3 0)) : mX_moves l M post := by
  have hP2 := hy.2.2.1
  refine m_moves l M post ?_
  intro B9 B19 h9 h19
  unfold mT_moves_e
  have hy' : MY (mf M 3 0) n P kd ct sm := hy.mf 0 (by decide) (by decide)
  have hgP : ∀ q, (tgN n P kd ct sm x P q).isSome = false := by
    intro q
    unfold tgN
    rw [if_neg (fun w => absurd w.1 (Nat.lt_irrefl _))]
    rfl
  have key := pair_loop (α := Nat) (P := P) (Bo := fun c p => B9 (mf M 3 0) (nI c) (nI p)) (Bi := fun c p r => B19 (mf M 3 0) (nI c) (nI p) (nI r)) (I := fun p r c => c + (remE (fun a b => (tgN n P kd ct sm x a b).isSome) P p r).length = (mvL n P kd ct sm x).length) ?_ ?_ ?_ ?_ ?_ 0 ?_
  · exact key
  · intro c p hp _ hBi
    refine h9 _ _ _ ?_
    unfold mT_moves_9
    rw [hy'.1]
    exact ⟨fun w => absurd w (nI_ge hp (by omega)), fun _ => hBi⟩
  · intro c hc
    refine h9 _ _ _ ?_
    unfold mT_moves_9
    rw [hy'.1]
    rw [remE_end hgP] at hc
    have hc : c = (mvL n P kd ct sm x).length := hc
    rw [hc]
    exact ⟨fun _ => h, fun w => absurd (nI_le (Nat.le_refl _) (by omega)) w⟩
  · intro c p r hp hr hc nxt
    refine h19 _ _ _ _ ?_
    unfold mT_moves_19
    rw [hy'.1]
    refine ⟨fun w => absurd w (nI_ge hr (by omega)), fun _ => ?_⟩
    refine s_whyOf l _ 2 p r (by unfold m7; decide) _ hy' hxa (by omega) (by omega) ?_
    rw [remE_in hr, whyN_tg hz hP2.2 hp hr] at hc
    refine ⟨fun e v hv => ?_, fun e v hv => ?_⟩
    · have e : whyN n kd ct sm (dgs P x) p r ≠ 0 := fun q => e (by rw [q]; rfl)
      rw [decide_eq_false e] at hc
      rw [hv, ← nI_succ, Int32.add_zero]
      exact nxt c hc
    · have e : whyN n kd ct sm (dgs P x) p r = 0 := by
        have hw : whyN n kd ct sm (dgs P x) p r ≤ 5 := by
          unfold whyN
          repeat' split
          all_goals omega
        exact (nI_is 0 rfl (by omega) (by omega)).mp e
      rw [decide_eq_true e] at hc
      rw [hv, ← nI_succ, ← nI_succ]
      refine nxt (c + 1) ?_
      rw [if_pos rfl, List.length_cons] at hc
      omega
  · intro c p hp _ hBo
    refine h19 _ _ _ _ ?_
    unfold mT_moves_19
    rw [hy'.1, ← nI_succ]
    exact ⟨fun _ => hBo, fun w => absurd (nI_le (Nat.le_refl _) (by omega)) w⟩
  · intro c p hp hc
    rw [remE_row hp hgP] at hc
    exact hc
  · rw [remE_0 (by omega), Nat.zero_add]
    rfl
theorem o_moves (l : Launch) (h : Rl S M n P kd ct sc sm x y) : cX_X8_moves l S (fun r1 S1 => mX_moves l M (fun r2 M1 => OKr S r1 S1 r2 M1)) := by
  refine c_X8_moves l S _ ?_
  unfold cT_X8_moves_e
  rw [h.sx]
  refine k_read l h.cy h.hx _ (fun T fT hT => ?_)
  refine k_spread l (h.cy.fr fT) h.dz h.hx hT _ (fun U fU hU => ?_)
  have fU' : CFr lA lB nn S U := fT.tr (fU.mono sA_l sB_l)
  refine s_moves l h.my h.dz h.xa _ ⟨by rw [hU.1, h.mv], ⟨n, P, kd, ct, sc, sm, x, y, (h.look fU').th 0⟩, lens_eq fU'⟩
/-- a row that holds a stand's pegs -/
theorem row_of {z : Nat} {f : Nat → Int32} {σ : Nat → Nat} (hP : 0 < P) (hx : x < P ^ n) (hz : z < P ^ n) (hf : ∀ j, j < 7 → f j = nI (dgs P x j)) (hσ : ∀ j, j < n → σ j = dgs P z j) (g : Nat → Int32) (hg : ∀ j, j < 7 → g j = if j < n then nI (σ j) else f j) : ∀ j, j < 7 → g j = nI (dgs P z j) := by
  intro j hj
  rw [hg j hj]
  by_cases e : j < n
  · rw [if_pos e, hσ j e]
  · rw [if_neg e, hf j hj, dgs_eq0 hP hx hz (by omega)]
theorem s_stand (l : Launch) (h : Rl S M n P kd ct sc sm x y) (a : Int32) (g : Bool) (post : Bool → MS → Prop) (h0 : (¬ ∃ i, i < P ^ n ∧ a = nI i) → post false (mf (mf M 3 0) 2 1))
    (h1 : ∀ i, i < P ^ n → a = nI i → rgt n P kd i = false → ∀ f, (∃ τ, MA (ma (mf M 3 0) 8 f) 8 τ) → post false (mf (ma (mf M 3 0) 8 f) 2 3))
    (h3 : ∀ i, i < P ^ n → a = nI i → rgt n P kd i = true → ∀ f e, (∃ τ, MA (ma (mf M 3 0) 8 f) 8 τ) → (∀ j, j < 7 → e j = nI (dgs P i j)) → (g = true → post true (mf (ma (ma (mf M 3 0) 8 f) 3 e) 2 0)) ∧ (g = false → post true (mf (mf (mf (mf (ma (ma (mf M 3 0) 8 f) 2 e) 2 0) 4 0) 5 0) 2 0))) : mX_stand l M a g post := by
  have hP2 := h.P2
  have hn2 := h.n2
  have hb := pow_b hP2 hn2.2
  refine m_stand l M a g post ?_
  intro B54 B93 h54 h93
  unfold mT_stand_e
  have hy : MY (mf M 3 0) n P kd ct sm := (h.th 0).my
  refine s_stands l _ _ hy.2.1 hy.1 hn2.2 ?_
  refine s_inB l _ a _ _ (N := P ^ n) rfl (by omega) (fun q => ⟨fun w => absurd rfl w, fun _ => s_not l _ 1 _ (h0 q)⟩) (fun i hi ea => ⟨fun _ => ?_, fun w => absurd w (by decide)⟩)
  subst ea
  refine s_unp l hy (show i < 2 ^ 31 by omega) (h.th 0).m8 _ (fun f hf => ?_)
  obtain ⟨σ, hσ, hσ2⟩ := id hf
  have hy2 : MY (ma (mf M 3 0) 8 f) n P kd ct sm := hy.ma f (by decide) (by decide) (by decide)
  refine s_isRight l _ 8 (by unfold m7; decide) _ hy2 hσ ?_
  have er : rightN kd σ n n 0 = rgt n P kd i := rightN_congr hσ2
  rw [er]
  refine ⟨fun c => ?_, fun c => s_not l _ 3 _ (h1 i hi rfl (bI_0.mp c) f ⟨σ, hσ⟩)⟩
  have c := bI_n0.mp c
  have fin := h3 i hi rfl c f
  have h8 : ∀ j, j < n → f j = nI (dgs P i j) := fun j hj => by
    have := (hσ j (by omega)).1
    rw [hσ2 j hj] at this
    exact this
  cases g with
  | false =>
    have key : ∀ d k, k + d = n → B54 (ma (ma (mf M 3 0) 8 f) 2 (cpF (M.2.1 2) f k)) (nI k) := by
      intro d
      induction d with
      | zero =>
        intro k hk
        have : k = n := by omega
        subst this
        refine h54 _ _ ?_
        unfold mT_stand_54
        refine ⟨fun _ => ⟨fun w => absurd rfl w, fun _ => s_nothingUndone l _ _ ?_⟩, fun w => absurd (by rw [show (ma (ma (mf M 3 0) 8 f) 2 (cpF (M.2.1 2) f k)).1 1 = nI k from hy.2.1]; exact nI_le (Nat.le_refl _) (by omega)) w⟩
        refine (fin (cpF (M.2.1 2) f k) ⟨σ, hσ⟩ (row_of (by omega) h.hx hi h.2.1.2.2.1 (fun _ _ => rfl) _ (fun j hj => ?_))).2 rfl
        unfold cpF
        by_cases e : j < k
        · rw [if_pos e, if_pos e, h8 j e]
        · rw [if_neg e, if_neg e]
      | succ d ih =>
        intro k hk
        refine h54 _ _ ?_
        unfold mT_stand_54
        refine ⟨fun w => absurd w (by rw [show (ma (ma (mf M 3 0) 8 f) 2 (cpF (M.2.1 2) f k)).1 1 = nI n from hy.2.1]; exact nI_ge (by omega) (by omega)), fun _ => ⟨fun _ => ⟨vp_in_nI (by omega) (by omega), vp_in_nI (by omega) (by omega), ?_⟩, fun w => absurd rfl w⟩⟩
        refine h93 _ _ ?_
        unfold mT_stand_93
        rw [nI_clamp (show k < 2 ^ 31 by omega), ← nI_succ, ma_ma]
        have e : upd ((ma (ma (mf M 3 0) 8 f) 2 (cpF (M.2.1 2) f k)).2.1 2) k ((ma (ma (mf M 3 0) 8 f) 2 (cpF (M.2.1 2) f k)).2.1 8 k) = cpF (M.2.1 2) f (k + 1) := cpF_s _ _ _
        rw [e]
        exact ih (k + 1) (by omega)
    have := key n 0 (by omega)
    rw [cpF_0] at this
    have e : ma (ma (mf M 3 0) 8 f) 2 (M.2.1 2) = ma (mf M 3 0) 8 f := ma_id (ma (mf M 3 0) 8 f) 2
    rw [e] at this
    exact this
  | true =>
    have key : ∀ d k, k + d = n → B54 (ma (ma (mf M 3 0) 8 f) 3 (cpF (M.2.1 3) f k)) (nI k) := by
      intro d
      induction d with
      | zero =>
        intro k hk
        have : k = n := by omega
        subst this
        refine h54 _ _ ?_
        unfold mT_stand_54
        refine ⟨fun _ => ⟨fun _ => ?_, fun w => absurd w (by decide)⟩, fun w => absurd (by rw [show (ma (ma (mf M 3 0) 8 f) 3 (cpF (M.2.1 3) f k)).1 1 = nI k from hy.2.1]; exact nI_le (Nat.le_refl _) (by omega)) w⟩
        refine (fin (cpF (M.2.1 3) f k) ⟨σ, hσ⟩ (row_of (by omega) h.hy hi h.2.2.1.2.2.1 (fun _ _ => rfl) _ (fun j hj => ?_))).1 rfl
        unfold cpF
        by_cases e : j < k
        · rw [if_pos e, if_pos e, h8 j e]
        · rw [if_neg e, if_neg e]
      | succ d ih =>
        intro k hk
        refine h54 _ _ ?_
        unfold mT_stand_54
        refine ⟨fun w => absurd w (by rw [show (ma (ma (mf M 3 0) 8 f) 3 (cpF (M.2.1 3) f k)).1 1 = nI n from hy.2.1]; exact nI_ge (by omega) (by omega)), fun _ => ⟨fun w => absurd w (by decide), fun _ => ⟨vp_in_nI (by omega) (by omega), vp_in_nI (by omega) (by omega), ?_⟩⟩⟩
        refine h93 _ _ ?_
        unfold mT_stand_93
        rw [nI_clamp (show k < 2 ^ 31 by omega), ← nI_succ, ma_ma]
        have e : upd ((ma (ma (mf M 3 0) 8 f) 3 (cpF (M.2.1 3) f k)).2.1 3) k ((ma (ma (mf M 3 0) 8 f) 3 (cpF (M.2.1 3) f k)).2.1 8 k) = cpF (M.2.1 3) f (k + 1) := cpF_s _ _ _
        rw [e]
        exact ih (k + 1) (by omega)
    have := key n 0 (by omega)
    rw [cpF_0] at this
    have e : ma (ma (mf M 3 0) 8 f) 3 (M.2.1 3) = ma (mf M 3 0) 8 f := ma_id (ma (mf M 3 0) 8 f) 3
    rw [e] at this
    exact this
theorem o_stand (l : Launch) (h : Rl S M n P kd ct sc sm x y) (a : Int32) (g : Bool) : cX_X8_stand l S a g (fun r1 S1 => mX_stand l M a g (fun r2 M1 => OKr S r1 S1 r2 M1)) := by
  have hP2 := h.P2
  have hn2 := h.n2
  have hb := pow_b hP2 hn2.2
  refine c_X8_stand l S a g _ ?_
  intro B15 B59 h15 h59
  unfold cT_X8_stand_e
  have no : (¬ ∃ i, i < P ^ n ∧ a = nI i) → B15 S := by
    intro q
    refine h15 _ ?_
    unfold cT_X8_stand_15
    exact k_refuse l _ 1 _ (s_stand l h a g _ (fun _ => ⟨rfl, ⟨n, P, kd, ct, sc, sm, x, y, (h.th 0).tr 1⟩, rfl⟩) (fun i hi ea => absurd ⟨i, hi, ea⟩ q) (fun i hi ea => absurd ⟨i, hi, ea⟩ q))
  by_cases q : ∃ i, i < P ^ n ∧ a = nI i
  · obtain ⟨i, hi, ea⟩ := q
    subst ea
    have ei : ∀ i', i' < P ^ n → nI i = nI i' → i = i' := fun i' hi' e => (nI_eq (by omega) (by omega)).mp e
    rw [h.cy.2.2.1]
    refine ⟨fun w => absurd w (nI_pos (by omega)), fun _ => ⟨fun _ => ?_, fun w => absurd (nI_lt hi (by omega)) w⟩⟩
    refine k_isRight l h.cy hi _ (fun T fT hT => ⟨fun c => ?_, fun c => ?_⟩)
    · have c := bI_n0.mp c
      cases g with
      | false =>
        refine ⟨fun _ => k_forget l _ _ (h59 _ (k_accept l _ _ ?_)), fun w => absurd rfl w⟩
        refine s_stand l h _ _ _ (fun w => absurd ⟨i, hi, rfl⟩ w) (fun i' hi' e hr => ?_) (fun i' hi' e hr f e' h8 hrow => ⟨fun w => (by cases w), fun _ => ⟨rfl, ⟨n, P, kd, ct, sc, sm, i, y, ?_⟩, (have hq := lens_eq fT; hq)⟩⟩)
        · rw [← ei i' hi' e, c] at hr; cases hr
        · have e := ei i' hi' e
          subst e
          refine h.mkx (((((fT.x).cf _ rfl).cf _ rfl).cf _ rfl).cf _ rfl) ((((((((MFx.rf).sc _ rfl).row _ rfl).row _ rfl).sc _ rfl).sc _ rfl).sc _ rfl).sc _ rfl) ⟨rfl, hi, hrow, c⟩ ?_ rfl RP0 ?_ ?_
          · show RS n P kd (T.1 1) (M.2.1 3) y
            rw [fT.1 1 rfl]; exact h.2.2.1
          · exact h8
          · exact h.m9
      | true =>
        refine ⟨fun w => absurd w (by decide), fun _ => h59 _ (k_accept l _ _ ?_)⟩
        refine s_stand l h _ _ _ (fun w => absurd ⟨i, hi, rfl⟩ w) (fun i' hi' e hr => ?_) (fun i' hi' e hr f e' h8 hrow => ⟨fun _ => ⟨rfl, ⟨n, P, kd, ct, sc, sm, x, i, ?_⟩, (have hq := lens_eq fT; hq)⟩, fun w => (by cases w)⟩)
        · rw [← ei i' hi' e, c] at hr; cases hr
        · have e := ei i' hi' e
          subst e
          refine h.mkx (((fT.x).cf _ rfl).cf _ rfl) (((((MFx.rf).sc _ rfl).row _ rfl).row _ rfl).sc _ rfl) ?_ ⟨rfl, hi, hrow, c⟩ rfl ?_ ?_ ?_
          · show RS n P kd (T.1 0) (M.2.1 2) x
            rw [fT.1 0 rfl]; exact h.2.1
          · show RP n P kd (T.1 9) (T.1 10) (T.2.1 20) (T.2.1 21) (M.1 4) (M.1 5) (M.2.1 6)
            rw [fT.1 9 rfl, fT.1 10 rfl, (fT.2.1 20 rfl).1, (fT.2.1 21 rfl).1]; exact h.2.2.2.2.1
          · exact h8
          · exact h.m9
    · have c := bI_0.mp c
      refine k_refuse l _ 3 _ ?_
      refine s_stand l h _ _ _ (fun w => absurd ⟨i, hi, rfl⟩ w) (fun i' hi' e hr f h8 => ⟨rfl, ⟨n, P, kd, ct, sc, sm, x, y, ((h.look fT).scr (N := ma (mf M 3 0) 8 f) ⟨fun k q1 q2 q3 => mf_get_ne _ _ q1, fun k hk => ma_get_ne _ _ (by omega), h8, h.m9⟩).tr 3⟩, (have hq := lens_eq fT; hq)⟩) (fun i' hi' e hr => ?_)
      rw [← ei i' hi' e, c] at hr; cases hr
  · have g := no q
    rw [h.cy.2.2.1]
    refine ⟨fun _ => g, fun c1 => ⟨fun c2 => absurd ?_ q, fun _ => g⟩⟩
    obtain ⟨j, hj, e⟩ := nI_of c1
    subst e
    exact ⟨j, (nI_ltI hj (by omega)).mp c2, rfl⟩
end Ops5
