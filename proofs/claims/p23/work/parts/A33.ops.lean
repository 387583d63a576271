-- kinds, lanes, stands
theorem k_isRight (l : Launch) {S : CS} {n P : Nat} {kd ct sg : Nat → Nat} (hy : CY S n P kd ct sg) {x : Nat} (hx : x < P ^ n) (post : Bool → CS → Prop) (h : ∀ T, CFr lA lB nn S T → LK T n P kd x → post (rgt n P kd x) T) : cX_X8_isRight l S (nI x) post := by
  refine c_X8_isRight l S _ post ?_
  unfold cT_X8_isRight_e
  exact k_read l hy hx _ (fun T fT hT => ⟨rgt n P kd x, hT.2.2.1, h T fT hT⟩)
theorem MYrow1 {M : MS} {n P : Nat} {kd ct sg : Nat → Nat} (h : MY M n P kd ct sg) {i k : Nat} (hk : k ≤ 3) : MY (ma M 1 (upd (M.2.1 1) i (nI k))) n P (va_up kd i k) ct sg := by
  obtain ⟨h1, h2, h3, h4, h5, h6, h7⟩ := h
  refine ⟨h1, h2, h3, h4, fun j hj => ?_, h6, h7⟩
  show upd (M.2.1 1) i (nI k) j = _ ∧ _
  by_cases e : j = i
  · subst e; rw [upd_same, va_up_same]; exact ⟨rfl, hk⟩
  · rw [upd_other _ _ e, va_up_other _ _ e]; exact h5 j hj
theorem CY.row10 {S : CS} {n P : Nat} {kd ct sg : Nat → Nat} (h : CY S n P kd ct sg) {i k : Nat} (hk : k ≤ 3) : CY (ca S 10 (upd (S.2.1 10) i (nI k))) n P (va_up kd i k) ct sg := by
  obtain ⟨h1, h2, h3, h4, h5, h6, h7, h8, h9⟩ := h
  refine ⟨h1, h2, h3, h4, h5, h6, fun j hj => ?_, h8, h9⟩
  show upd (S.2.1 10) i (nI k) j = _ ∧ _
  by_cases e : j = i
  · subst e; rw [upd_same, va_up_same]; exact ⟨rfl, hk⟩
  · rw [upd_other _ _ e, va_up_other _ _ e]; exact h7 j hj
theorem upd_back (f : Nat → Int32) (i : Nat) (v : Int32) : upd (upd f i v) i (f i) = f := by
  funext j
  unfold upd
  by_cases e : j = i
  · rw [if_pos e, e]
  · rw [if_neg e, if_neg e]
section Ops2
variable {S : CS} {M : MS} {n P x y : Nat} {kd ct sc sm : Nat → Nat}
theorem s_kind (l : Launch) (h : Rl S M n P kd ct sc sm x y) (a b : Int32) (post : Bool → MS → Prop)
    (h0 : (¬ ((∃ i, i < n ∧ a = nI i) ∧ ∃ k, k ≤ 3 ∧ b = nI k)) → post false (mf (mf M 3 0) 2 1))
    (h1 : ∀ i k, i < n → k ≤ 3 → a = nI i → b = nI k → ¬ (rgt n P (va_up kd i k) x = true ∧ rgt n P (va_up kd i k) y = true) → post false (mf (mf M 3 0) 2 3))
    (h2 : ∀ i k, i < n → k ≤ 3 → a = nI i → b = nI k → rgt n P (va_up kd i k) x = true → rgt n P (va_up kd i k) y = true → post true (mf (mf (mf (ma (mf M 3 0) 1 (upd (M.2.1 1) i (nI k))) 4 0) 5 0) 2 0)) : mX_kind l M a b post := by
  have hP2 := h.P2
  have hn2 := h.n2
  refine m_kind l M a b post ?_
  intro B30 B72 h30 h72
  unfold mT_kind_e
  have no : ∀ T, T = mf M 3 0 → (¬ ((∃ i, i < n ∧ a = nI i) ∧ ∃ k, k ≤ 3 ∧ b = nI k)) → B30 T := by
    intro T e q
    refine h30 _ ?_
    unfold mT_kind_30
    rw [e]
    exact s_not l _ 1 _ (h0 q)
  refine s_inB l _ a _ _ (N := n) (by rw [h.my.2.1]) (by omega) (fun q => ⟨fun _ => no _ rfl (fun w => q w.1), fun w => absurd rfl w⟩) (fun i hi ea => ⟨fun w => absurd w (by decide), fun _ => ?_⟩)
  refine s_inC l _ b 0 3 _ (L := 0) (H := 3) rfl rfl (by decide) (by decide) (fun q => ⟨fun w => absurd rfl w, fun _ => no _ rfl (fun ⟨_, k, w1, w2⟩ => q ⟨k, Nat.zero_le _, w1, w2⟩)⟩) (fun k _ hk eb => ⟨fun _ => ?_, fun w => absurd w (by decide)⟩)
  subst ea
  subst eb
  rw [nI_clamp (show i < 2 ^ 31 by omega)]
  refine ⟨vp_in_nI (by omega) (by omega), fun v3 e3 => ⟨vp_in_nI (by omega) (by omega), ?_⟩⟩
  have e3 : v3 = M.2.1 1 i := e3
  subst e3
  have hm : MY (ma (mf M 3 0) 1 (upd ((mf M 3 0).2.1 1) i (nI k))) n P (va_up kd i k) ct sm := MYrow1 (h.th 0).my hk
  have bad : ¬ (rgt n P (va_up kd i k) x = true ∧ rgt n P (va_up kd i k) y = true) → B72 (ma (mf M 3 0) 1 (upd ((mf M 3 0).2.1 1) i (nI k))) (M.2.1 1 i) := by
    intro q
    refine h72 _ _ ?_
    unfold mT_kind_72
    rw [nI_clamp (show i < 2 ^ 31 by omega)]
    refine ⟨vp_in_nI (by omega) (by omega), s_not l _ 3 _ ?_⟩
    have e : ma (ma (mf M 3 0) 1 (upd ((mf M 3 0).2.1 1) i (nI k))) 1 (upd ((ma (mf M 3 0) 1 (upd ((mf M 3 0).2.1 1) i (nI k))).2.1 1) i (M.2.1 1 i)) = mf M 3 0 := by
      rw [ma_ma, ma_get]
      have : upd (upd ((mf M 3 0).2.1 1) i (nI k)) i (M.2.1 1 i) = (mf M 3 0).2.1 1 := upd_back _ _ _
      rw [this, ma_id]
    rw [e]
    exact h1 i k hi hk rfl rfl q
  refine s_isRight l _ 2 (by unfold m7; decide) _ hm (σ := dgs P x) h.xa ?_
  show (bI (rgt n P (va_up kd i k) x) = 0 → _) ∧ (¬ bI (rgt n P (va_up kd i k) x) = 0 → _)
  refine ⟨fun c => bad (fun q => ?_), fun c => ?_⟩
  · rw [q.1] at c; exact absurd c (by decide)
  · have c : rgt n P (va_up kd i k) x = true := bI_n0.mp c
    refine s_isRight l _ 3 (by unfold m7; decide) _ hm (σ := dgs P y) h.ya ?_
    show (¬ bI (rgt n P (va_up kd i k) y) = 0 → _) ∧ (bI (rgt n P (va_up kd i k) y) = 0 → _)
    refine ⟨fun c2 => s_nothingUndone l _ _ (h2 i k hi hk rfl rfl c (bI_n0.mp c2)), fun c2 => bad (fun q => ?_)⟩
    rw [q.2] at c2; exact absurd c2 (by decide)
theorem o_kind (l : Launch) (h : Rl S M n P kd ct sc sm x y) (a b : Int32) : cX_X8_kind l S a b (fun r1 S1 => mX_kind l M a b (fun r2 M1 => OKr S r1 S1 r2 M1)) := by
  have hP2 := h.P2
  have hn2 := h.n2
  refine c_X8_kind l S a b _ ?_
  intro B20 B68 h20 h68
  unfold cT_X8_kind_e
  have no : (¬ ((∃ i, i < n ∧ a = nI i) ∧ ∃ k, k ≤ 3 ∧ b = nI k)) → B20 S := by
    intro q
    refine h20 _ ?_
    unfold cT_X8_kind_20
    exact k_refuse l S 1 _ (s_kind l h a b _ (fun _ => ⟨rfl, ⟨n, P, kd, ct, sc, sm, x, y, (h.th 0).tr 1⟩, rfl⟩) (fun i k hi hk ea eb => absurd ⟨⟨i, hi, ea⟩, k, hk, eb⟩ q) (fun i k hi hk ea eb => absurd ⟨⟨i, hi, ea⟩, k, hk, eb⟩ q))
  refine k_isDisc l h.cy.2.1 hn2.2 a _ (fun q => ⟨fun _ => no (fun w => q w.1), fun w => absurd rfl w⟩) (fun i hi ea => ⟨fun w => absurd w (by decide), fun _ => ?_⟩)
  by_cases q : ∃ k, k ≤ 3 ∧ b = nI k
  · obtain ⟨k, hk, eb⟩ := q
    subst ea
    subst eb
    refine ⟨fun w => absurd w (nI_pos (by omega)), fun _ => ⟨fun _ => ?_, fun w => absurd (nI_le (b := 3) hk (by omega)) w⟩⟩
    rw [nI_clamp (show i < 2 ^ 31 by omega)]
    refine ⟨vp_in_nI (by omega) (by omega), fun v3 e3 => ⟨vp_in_nI (by omega) (by omega), ?_⟩⟩
    subst e3
    have hc : CY (ca S 10 (upd (S.2.1 10) i (nI k))) n P (va_up kd i k) ct sc := h.cy.row10 hk
    have bad : ¬ (rgt n P (va_up kd i k) x = true ∧ rgt n P (va_up kd i k) y = true) → ∀ T, CFr lA lB nn (ca S 10 (upd (S.2.1 10) i (nI k))) T → B68 T (S.2.1 10 i) := by
      intro q T fT
      refine h68 _ _ ?_
      unfold cT_X8_kind_68
      rw [nI_clamp (show i < 2 ^ 31 by omega)]
      refine ⟨vp_in_nI (by omega) (by omega), k_refuse l _ 3 _ ?_⟩
      have e10 : T.2.1 10 = upd (S.2.1 10) i (nI k) := (fT.2.1 10 rfl).1
      have fS : CFr lA lB nn S (ca T 10 (upd (T.2.1 10) i (S.2.1 10 i))) := by
        refine ⟨fun j hj => fT.1 j hj, fun j hj => ⟨?_, (fT.2.1 j hj).2⟩, fun j hj => fT.2.2 j hj⟩
        by_cases e : j = 10
        · subst e
          rw [ca_get, e10, upd_back]
        · rw [ca_get_ne _ _ e, (fT.2.1 j hj).1, ca_get_ne _ _ e]
      refine s_kind l h _ _ _ (fun w => absurd ⟨⟨i, hi, rfl⟩, k, hk, rfl⟩ w) (fun _ _ _ _ _ _ _ => ⟨rfl, ⟨n, P, kd, ct, sc, sm, x, y, ((h.look fS).th 0).tr 3⟩, (have hq := lens_eq fS; hq)⟩) (fun i' k' hi' hk' ea' eb' r1 r2 => ?_)
      have e1 : i = i' := (nI_eq (by omega) (by omega)).mp ea'
      have e2 : k = k' := (nI_eq (by omega) (by omega)).mp eb'
      subst e1
      subst e2
      exact absurd ⟨r1, r2⟩ q
    have sx : (ca S 10 (upd (S.2.1 10) i (nI k))).1 0 = nI x := h.sx
    have sx' : S.1 0 = nI x := h.sx
    rw [sx']
    refine k_isRight l hc h.hx _ (fun T fT _ => ⟨fun c => bad (fun w => ?_) T fT, fun c => ?_⟩)
    · rw [w.1] at c; exact absurd c (by decide)
    · have c : rgt n P (va_up kd i k) x = true := bI_n0.mp c
      have ty : T.1 1 = nI y := by rw [fT.1 1 rfl]; exact h.sy
      rw [ty]
      refine k_isRight l (hc.fr fT) h.hy _ (fun U fU _ => ?_)
      have fSU : CFr lA lB nn (ca S 10 (upd (S.2.1 10) i (nI k))) U := fT.tr fU
      refine ⟨fun c2 => ?_, fun c2 => bad (fun w => ?_) U fSU⟩
      · have c2 : rgt n P (va_up kd i k) y = true := bI_n0.mp c2
        refine k_forgetAll l _ _ (k_accept l _ _ ?_)
        refine s_kind l h _ _ _ (fun w => absurd ⟨⟨i, hi, rfl⟩, k, hk, rfl⟩ w) (fun i' k' hi' hk' ea' eb' q => ?_) (fun i' k' hi' hk' ea' eb' r1 r2 => ?_)
        · have e1 : i = i' := (nI_eq (by omega) (by omega)).mp ea'
          have e2 : k = k' := (nI_eq (by omega) (by omega)).mp eb'
          subst e1
          subst e2
          exact absurd ⟨c, c2⟩ q
        · have e1 : i = i' := (nI_eq (by omega) (by omega)).mp ea'
          have e2 : k = k' := (nI_eq (by omega) (by omega)).mp eb'
          subst e1
          subst e2
          have hle : U.2.2.2 = S.2.2.2 := (have hq := lens_eq fSU; hq)
          refine ⟨rfl, ⟨n, P, va_up kd i k, ct, sc, sm, x, y, ?_⟩, hle⟩
          obtain ⟨⟨b1, b2, b3, b4⟩, h2, h3, h4, h5, h6, h7, ⟨⟨τ, h8⟩, ⟨ρ, h8'⟩⟩, h9, h10⟩ := h
          have hcU : CY U n P (va_up kd i k) ct sc := hc.fr fSU
          refine ⟨⟨hcU, (MYrow1 (b2.mf 0 (by decide) (by decide)) hk), b3, b4⟩, ?_, ?_, rfl, RP0, ?_, ?_, ⟨⟨τ, fun j hj => h8 j hj⟩, ⟨ρ, fun j hj => h8' j hj⟩⟩, h9.none hle rfl, h10.none hle rfl⟩
          · show RS n P _ (U.1 0) _ x
            rw [fSU.1 0 rfl]
            exact ⟨h2.1, h2.2.1, h2.2.2.1, c⟩
          · show RS n P _ (U.1 1) _ y
            rw [fSU.1 1 rfl]
            exact ⟨h3.1, h3.2.1, h3.2.2.1, c2⟩
          · show RPl (U.1 11) (U.2.1 22) (U.2.2.2 22) _ _
            rw [fSU.1 11 rfl, (fSU.2.1 22 rfl).1, fSU.2.2 22 rfl]; exact h6
          · show RK (U.1 19) (U.2.1 38) (U.2.1 39) (U.2.1 40) (U.2.1 41) (U.2.2.1 42) _ _ _ _ _
            rw [fSU.1 19 rfl, (fSU.2.1 38 rfl).1, (fSU.2.1 39 rfl).1, (fSU.2.1 40 rfl).1, (fSU.2.1 41 rfl).1, (fSU.2.1 42 rfl).2]; exact h7
      · rw [w.2] at c2; exact absurd c2 (by decide)
  · have g := no (fun w => q w.2)
    refine ⟨fun _ => g, fun c1 => ⟨fun c2 => absurd ?_ q, fun _ => g⟩⟩
    obtain ⟨k, k1, k2, k3⟩ := (in_rng (L := 0) (H := 3) (a := b) (by decide) (by decide)).mp ⟨Int32.not_lt.mp c1, c2⟩
    exact ⟨k, k2, k3⟩
-- lanes
def bN (b : Bool) : Nat := if b then 1 else 0
theorem bN_nar (b : Bool) : vp_nar .boolean (bI b) = nI (bN b) := by cases b <;> rfl
theorem bN_le (b : Bool) : bN b ≤ 1 := by cases b <;> decide
theorem k_setLane (l : Launch) (S : CS) {a b : Nat} (ha : a < 5) (hb : b < 5) (v : Int32) (s : Bool) (post : CS → Prop) (h : post (ca (ca S 11 (upd (S.2.1 11) (5 * a + b) v)) 12 (upd (S.2.1 12) (5 * a + b) (nI (bN s))))) : cX_X0_setLane l S (nI a) (nI b) v s post := by
  refine c_X0_setLane l S _ _ v s post ?_
  unfold cT_X0_setLane_e
  rw [ix5, nI_clamp (show 5 * a + b < 2 ^ 31 by omega), bN_nar]
  exact ⟨vp_in_nI (by omega) (by omega), vp_in_nI (by omega) (by omega), h⟩
theorem CY.lane {S : CS} {n P : Nat} {kd ct sg : Nat → Nat} (h : CY S n P kd ct sg) {j c s : Nat} (hc : c ≤ 100) (hs : s ≤ 1) : CY (ca (ca S 11 (upd (S.2.1 11) j (nI c))) 12 (upd (S.2.1 12) j (nI s))) n P kd (va_up ct j c) (va_up sg j s) := by
  obtain ⟨h1, h2, h3, h4, h5, h6, h7, h8, h9⟩ := h
  refine ⟨h1, h2, h3, h4, h5, h6, h7, fun i hi => ?_, fun i hi => ?_⟩
  · show upd (S.2.1 11) j (nI c) i = _ ∧ _
    by_cases e : i = j
    · subst e; rw [upd_same, va_up_same]; exact ⟨rfl, hc⟩
    · rw [upd_other _ _ e, va_up_other _ _ e]; exact h8 i hi
  · show upd (S.2.1 12) j (nI s) i = _ ∧ _
    by_cases e : i = j
    · subst e; rw [upd_same, va_up_same]; exact ⟨rfl, hs⟩
    · rw [upd_other _ _ e, va_up_other _ _ e]; exact h9 i hi
theorem MYlane {S : MS} {n P : Nat} {kd ct sg : Nat → Nat} (h : MY S n P kd ct sg) {j c s : Nat} (hc : c ≤ 100) (hs : s ≤ 1) : MY (ma (ma S 4 (upd (S.2.1 4) j (nI c))) 5 (upd (S.2.1 5) j (nI s))) n P kd (va_up ct j c) (va_up sg j s) := by
  obtain ⟨h1, h2, h3, h4, h5, h8, h9⟩ := h
  refine ⟨h1, h2, h3, h4, h5, fun i hi => ?_, fun i hi => ?_⟩
  · show upd (S.2.1 4) j (nI c) i = _ ∧ _
    by_cases e : i = j
    · subst e; rw [upd_same, va_up_same]; exact ⟨rfl, hc⟩
    · rw [upd_other _ _ e, va_up_other _ _ e]; exact h8 i hi
  · show upd (S.2.1 5) j (nI s) i = _ ∧ _
    by_cases e : i = j
    · subst e; rw [upd_same, va_up_same]; exact ⟨rfl, hs⟩
    · rw [upd_other _ _ e, va_up_other _ _ e]; exact h9 i hi
theorem s_lane (l : Launch) (h : Rl S M n P kd ct sc sm x y) (a b c : Int32) (s : Bool) (post : Bool → MS → Prop)
    (h0 : (¬ ∃ i j k, i < P ∧ j < P ∧ i ≠ j ∧ k ≤ 100 ∧ a = nI i ∧ b = nI j ∧ c = nI k) → post false (mf (mf M 3 0) 2 1))
    (h1 : ∀ i j k, i < P → j < P → i ≠ j → k ≤ 100 → a = nI i → b = nI j → c = nI k → post true (mf (mf (mf (ma (ma (mf M 3 0) 4 (upd (M.2.1 4) (5 * i + j) (nI k))) 5 (upd (M.2.1 5) (5 * i + j) (nI (bN s)))) 4 0) 5 0) 2 0)) : mX_lane l M a b c s post := by
  have hP2 := h.P2
  refine m_lane l M a b c s post ?_
  intro B37 h37
  unfold mT_lane_e
  have no : (¬ ∃ i j k, i < P ∧ j < P ∧ i ≠ j ∧ k ≤ 100 ∧ a = nI i ∧ b = nI j ∧ c = nI k) → B37 (mf M 3 0) := by
    intro q
    refine h37 _ ?_
    unfold mT_lane_37
    exact s_not l _ 1 _ (h0 q)
  refine s_isPegC l _ a _ (P := P) h.my.1 hP2 (fun q => ⟨fun _ => no (fun ⟨i, j, k, w⟩ => q ⟨i, w.1, w.2.2.2.2.1⟩), fun w => absurd rfl w⟩) (fun i hi ea => ⟨fun w => absurd w (by decide), fun _ => ?_⟩)
  refine s_isPegC l _ b _ (P := P) h.my.1 hP2 (fun q => ⟨fun _ => no (fun ⟨i, j, k, w⟩ => q ⟨j, w.2.1, w.2.2.2.2.2.1⟩), fun w => absurd rfl w⟩) (fun j hj eb => ⟨fun w => absurd w (by decide), fun _ => ⟨fun e => no (fun ⟨i', j', k, w⟩ => ?_), fun e => ?_⟩⟩)
  · have e1 : nI i' = nI j' := by rw [← w.2.2.2.2.1, ← w.2.2.2.2.2.1]; exact e
    exact w.2.2.1 ((nI_eq (by omega) (by omega)).mp e1)
  · have hij : i ≠ j := fun q => e (by rw [ea, eb, q])
    refine s_inC l _ c 0 100 _ (L := 0) (H := 100) rfl rfl (by decide) (by decide) (fun q => ⟨fun w => absurd rfl w, fun _ => no (fun ⟨i', j', k, w⟩ => q ⟨k, Nat.zero_le _, w.2.2.2.1, w.2.2.2.2.2.2⟩)⟩) (fun k _ hk ec => ⟨fun _ => ?_, fun w => absurd w (by decide)⟩)
    subst ea
    subst eb
    subst ec
    rw [ix25 (by omega) (by omega), nI_clamp (show 5 * i + j < 2 ^ 31 by omega), bN_nar]
    exact ⟨vp_in_nI (by omega) (by omega), vp_in_nI (by omega) (by omega), s_nothingUndone l _ _ (h1 i j k hi hj hij hk rfl rfl rfl)⟩
/-- the lanes alone have changed on both sides, and nothing can be undone -/
theorem Rl.lanes {T : CS} {N : MS} {ct' sc' sm' : Nat → Nat} (h : Rl S M n P kd ct sc sm x y) (hT : CFr (fun _ => false) (fun k => decide (k = 11) || decide (k = 12)) nn S T) (hN : MFx (fun k => decide (k = 3)) (fun k => decide (k = 4) || decide (k = 5)) M N) (c1 : CY T n P kd ct' sc') (c2 : MY N n P kd ct' sm') (c3 : ∀ j, j < 25 → ct' j ≠ 0 → sc' j = sm' j) (c4 : ∀ a b, a < 5 → b < 5 → (a = b ∨ P ≤ a ∨ P ≤ b) → ct' (5 * a + b) = 0) : Rl (cf (cf (cf (cf T 9 0) 10 0) 12 (-1)) 17 0) (mf (mf N 4 0) 5 0) n P kd ct' sc' sm' x y := by
  obtain ⟨-, h2, h3, h4, h5, h6, h7, ⟨⟨τ, h8⟩, ⟨ρ, h8'⟩⟩, h9, h10⟩ := h
  have hle : T.2.2.2 = S.2.2.2 := lens_eq hT
  refine ⟨⟨c1, (c2.mf 0 (by decide) (by decide)).mf 0 (by decide) (by decide), c3, c4⟩, ?_, ?_, ?_, RP0, ?_, ?_, ⟨⟨τ, fun j hj => ?_⟩, ⟨ρ, fun j hj => ?_⟩⟩, h9.none hle rfl, h10.none hle rfl⟩
  · show RS n P kd (T.1 0) (N.2.1 2) x
    rw [hT.1 0 rfl, hN.2 2 rfl]; exact h2
  · show RS n P kd (T.1 1) (N.2.1 3) y
    rw [hT.1 1 rfl, hN.2 3 rfl]; exact h3
  · show T.1 2 = N.1 2
    rw [hT.1 2 rfl, hN.1 2 rfl]; exact h4
  · show RPl (T.1 11) (T.2.1 22) (T.2.2.2 22) (N.1 6) (N.2.1 7)
    rw [hT.1 11 rfl, (hT.2.1 22 rfl).1, hT.2.2 22 rfl, hN.1 6 rfl, hN.2 7 rfl]; exact h6
  · show RK (T.1 19) (T.2.1 38) (T.2.1 39) (T.2.1 40) (T.2.1 41) (T.2.2.1 42) (N.1 9) (N.2.1 29) (N.2.1 30) (N.2.1 31) (N.2.1 32)
    rw [hT.1 19 rfl, (hT.2.1 38 rfl).1, (hT.2.1 39 rfl).1, (hT.2.1 40 rfl).1, (hT.2.1 41 rfl).1, (hT.2.1 42 rfl).2, hN.1 9 rfl, hN.2 29 rfl, hN.2 30 rfl, hN.2 31 rfl, hN.2 32 rfl]; exact h7
  · show N.2.1 8 j = _ ∧ _
    rw [hN.2 8 rfl]; exact h8 j hj
  · show N.2.1 9 j = _ ∧ _
    rw [hN.2 9 rfl]; exact h8' j hj
theorem o_lane (l : Launch) (h : Rl S M n P kd ct sc sm x y) (a b c : Int32) (s : Bool) : cX_X8_lane l S a b c s (fun r1 S1 => mX_lane l M a b c s (fun r2 M1 => OKr S r1 S1 r2 M1)) := by
  have hP2 := h.P2
  refine c_X8_lane l S a b c s _ ?_
  intro B37 h37
  unfold cT_X8_lane_e
  have no : (¬ ∃ i j k, i < P ∧ j < P ∧ i ≠ j ∧ k ≤ 100 ∧ a = nI i ∧ b = nI j ∧ c = nI k) → B37 S := by
    intro q
    refine h37 _ ?_
    unfold cT_X8_lane_37
    exact k_refuse l S 1 _ (s_lane l h a b c s _ (fun _ => ⟨rfl, ⟨n, P, kd, ct, sc, sm, x, y, (h.th 0).tr 1⟩, rfl⟩) (fun i j k w1 w2 w3 w4 w5 w6 w7 => absurd ⟨i, j, k, w1, w2, w3, w4, w5, w6, w7⟩ q))
  refine k_isPeg l h.cy.1 hP2.2 a _ (fun q => ⟨fun _ => no (fun ⟨i, j, k, w⟩ => q ⟨i, w.1, w.2.2.2.2.1⟩), fun w => absurd rfl w⟩) (fun i hi ea => ⟨fun w => absurd w (by decide), fun _ => ?_⟩)
  refine k_isPeg l h.cy.1 hP2.2 b _ (fun q => ⟨fun _ => no (fun ⟨i, j, k, w⟩ => q ⟨j, w.2.1, w.2.2.2.2.2.1⟩), fun w => absurd rfl w⟩) (fun j hj eb => ⟨fun w => absurd w (by decide), fun _ => ⟨fun e => no (fun ⟨i', j', k, w⟩ => ?_), fun e => ?_⟩⟩)
  · have e1 : nI i' = nI j' := by rw [← w.2.2.2.2.1, ← w.2.2.2.2.2.1]; exact e
    exact w.2.2.1 ((nI_eq (by omega) (by omega)).mp e1)
  · have hij : i ≠ j := fun q => e (by rw [ea, eb, q])
    by_cases q : ∃ k, k ≤ 100 ∧ c = nI k
    · obtain ⟨k, hk, ec⟩ := q
      subst ea
      subst eb
      subst ec
      refine ⟨fun w => absurd w (nI_pos (by omega)), fun _ => ⟨fun _ => ?_, fun w => absurd (nI_le (b := 100) hk (by omega)) w⟩⟩
      refine k_setLane l S (by omega) (by omega) _ s _ (k_forgetAll l _ _ (k_accept l _ _ ?_))
      refine s_lane l h _ _ _ s _ (fun w => absurd ⟨i, j, k, hi, hj, hij, hk, rfl, rfl, rfl⟩ w) (fun i' j' k' w1 w2 w3 w4 w5 w6 w7 => ⟨rfl, ⟨n, P, kd, va_up ct (5 * i + j) k, va_up sc (5 * i + j) (bN s), va_up sm (5 * i + j) (bN s), x, y, ?_⟩, rfl⟩)
      have e1 : i = i' := (nI_eq (by omega) (by omega)).mp w5
      have e2 : j = j' := (nI_eq (by omega) (by omega)).mp w6
      have e3 : k = k' := (nI_eq (by omega) (by omega)).mp w7
      subst e1
      subst e2
      subst e3
      refine (h.lanes (T := ca (ca S 11 (upd (S.2.1 11) (5 * i + j) (nI k))) 12 (upd (S.2.1 12) (5 * i + j) (nI (bN s)))) (N := ma (ma (mf M 3 0) 4 (upd (M.2.1 4) (5 * i + j) (nI k))) 5 (upd (M.2.1 5) (5 * i + j) (nI (bN s)))) ((CFr.rf.ca _ rfl).ca _ rfl) (((MFx.rf.sc _ rfl).row _ rfl).row _ rfl) (h.cy.lane hk (bN_le s)) (MYlane (h.th 0).my hk (bN_le s)) (fun m hm hne => ?_) (fun a b ha hb hab => ?_)).tr 0
      · by_cases e : m = 5 * i + j
        · rw [e, va_up_same, va_up_same]
        · rw [va_up_other _ _ e] at hne
          rw [va_up_other _ _ e, va_up_other _ _ e]
          exact h.1.2.2.1 m hm hne
      · rw [va_up_other _ _ (by omega)]
        exact h.1.2.2.2 a b ha hb hab
    · have g := no (fun ⟨i', j', k, w⟩ => q ⟨k, w.2.2.2.1, w.2.2.2.2.2.2⟩)
      refine ⟨fun _ => g, fun c1 => ⟨fun c2 => absurd ?_ q, fun _ => g⟩⟩
      obtain ⟨k, k1, k2, k3⟩ := (in_rng (L := 0) (H := 100) (a := c) (by decide) (by decide)).mp ⟨Int32.not_lt.mp c1, c2⟩
      exact ⟨k, k2, k3⟩
end Ops2
