-- the reference's answers on a new object: the rest
def aYard (a b : Int32) : Bool := decide ((2 ≤ a ∧ a ≤ 5) ∧ (1 ≤ b ∧ b ≤ 7))
def p3 (a : Int32) : Bool := decide (0 ≤ a ∧ a ≤ 2)
theorem p3_iff {a : Int32} : p3 a = true ↔ ∃ i, i < 3 ∧ a = nI i := by
  unfold p3
  rw [decide_eq_true_iff]
  exact in_iff (N := 3) (by decide) (by decide)
theorem p3_no {a : Int32} : p3 a = false ↔ ¬ ∃ i, i < 3 ∧ a = nI i := by
  rw [← p3_iff]; cases p3 a <;> simp
def cnN (f : Nat → Int32) : Nat → Nat
  | 0 => 0
  | k + 1 => cnN f k + (if f k ≤ 0 then 0 else 1)
theorem cnN_le (f : Nat → Int32) : ∀ k, cnN f k ≤ k := by
  intro k
  induction k with
  | zero => simp [cnN]
  | succ k ih => unfold cnN; split <;> omega
theorem cnN_zero {f : Nat → Int32} : ∀ k, (∀ j, j < k → f j = 0) → cnN f k = 0 := by
  intro k
  induction k with
  | zero => intro _; rfl
  | succ k ih =>
    intro h
    unfold cnN
    rw [ih (fun j hj => h j (by omega)), h k (by omega)]
    rfl
theorem s_lanesThere (l : Launch) (S : MS) (post : Int32 → MS → Prop) (h : post (nI (cnN (S.2.1 4) 25)) S) : mX_lanesThere l S post := by
  refine m_lanesThere l S post ?_
  intro B4 h4
  unfold mT_lanesThere_e
  have key : ∀ d k, k + d = 25 → B4 S (nI (cnN (S.2.1 4) k)) (nI k) := by
    intro d
    induction d with
    | zero =>
      intro k hk
      have : k = 25 := by omega
      subst this
      refine h4 _ _ _ ?_
      unfold mT_lanesThere_4
      exact ⟨fun _ => h, fun q => absurd (show (25 : Int32) ≤ nI 25 by decide) q⟩
    | succ d ih =>
      intro k hk
      have hn := ih (k + 1) (by omega)
      refine h4 _ _ _ ?_
      unfold mT_lanesThere_4
      rw [nI_clamp (show k < 2 ^ 31 by omega)]
      refine ⟨fun q => absurd q (nI_ge (a := k) (b := 25) (by omega) (by omega)), fun _ => ⟨vp_in_nI (by omega) (by omega), fun c v hv => ?_, fun c v hv => ?_⟩⟩
      · subst hv
        unfold cnN at hn
        rw [if_pos c] at hn
        rw [← nI_succ, Int32.add_zero]
        exact hn
      · subst hv
        unfold cnN at hn
        rw [if_neg c] at hn
        rw [← nI_succ, ← nI_succ]
        exact hn
  exact key 25 0 (by omega)
theorem p1m_0 (l : Launch) (a b : Int32) (post : Bool → MS → Prop) (h : ∀ M, post (aYard a b) M) : mX_yard l mS0 a b post := by
  refine m_yard l mS0 a b post ?_
  intro B26 B44 B79 h26 h44 h79
  unfold mT_yard_e
  have e26 : aYard a b = false → ∀ T, B26 T := by
    intro hv T
    refine h26 _ ?_
    unfold mT_yard_26
    refine s_not l _ 1 _ ?_
    rw [← hv]
    exact h _
  refine s_in l _ a 2 5 _ ⟨fun c => e26 ?_ _, fun c => s_in l _ b 1 7 _ ⟨fun c2 => ?_, fun c2 => e26 ?_ _⟩⟩
  · have := of_decide_eq_false (bI_0.mp c)
    exact decide_eq_false fun q => this q.1
  · have q1 := of_decide_eq_true (bI_n0.mp c)
    have q2 := of_decide_eq_true (bI_n0.mp c2)
    have hv : aYard a b = true := decide_eq_true ⟨q1, q2⟩
    have e79 : ∀ d k, k + d = 25 → ∀ T, B79 T (nI k) := by
      intro d
      induction d with
      | zero =>
        intro k hk T
        have : k = 25 := by omega
        subst this
        refine h79 _ _ ?_
        unfold mT_yard_79
        refine ⟨fun _ => s_nothingUndone l T _ ?_, fun q => absurd (show (25 : Int32) ≤ nI 25 by decide) q⟩
        rw [← hv]; exact h _
      | succ d ih =>
        intro k hk T
        refine h79 _ _ ?_
        unfold mT_yard_79
        refine ⟨fun q => absurd q (nI_ge (a := k) (b := 25) (by omega) (by omega)), fun _ => ⟨vp_in_nI (by omega) (by omega), vp_in_nI (by omega) (by omega), ?_⟩⟩
        rw [← nI_succ]
        exact ih (k + 1) (by omega) _
    have e44 : ∀ d k, k + d = 7 → ∀ T, B44 T (nI k) := by
      intro d
      induction d with
      | zero =>
        intro k hk T
        have : k = 7 := by omega
        subst this
        refine h44 _ _ ?_
        unfold mT_yard_44
        exact ⟨fun _ => e79 25 0 (by omega) _, fun q => absurd (show (7 : Int32) ≤ nI 7 by decide) q⟩
      | succ d ih =>
        intro k hk T
        refine h44 _ _ ?_
        unfold mT_yard_44
        refine ⟨fun q => absurd q (nI_ge (a := k) (b := 7) (by omega) (by omega)), fun _ => ⟨vp_in_nI (by omega) (by omega), vp_in_nI (by omega) (by omega), vp_in_nI (by omega) (by omega), ?_⟩⟩
        rw [← nI_succ]
        exact ih (k + 1) (by omega) _
    exact e44 7 0 (by omega) _
  · have := of_decide_eq_false (bI_0.mp c2)
    exact decide_eq_false fun q => this q.2
def aKind (a b : Int32) : Bool := decide (a = 0 ∧ (0 ≤ b ∧ b ≤ 3))
theorem p1m_1 (l : Launch) (a b : Int32) (post : Bool → MS → Prop) (h : ∀ M, post (aKind a b) M) : mX_kind l mS0 a b post := by
  refine m_kind l mS0 a b post ?_
  intro B30 B72 h30 h72
  unfold mT_kind_e
  have e30 : aKind a b = false → ∀ T, B30 T := by
    intro hv T
    refine h30 _ ?_
    unfold mT_kind_30
    refine s_not l _ 1 _ ?_
    rw [← hv]
    exact h _
  refine s_in l _ a 0 _ _ ⟨fun c => e30 ?_ _, fun c => s_in l _ b 0 3 _ ⟨fun c2 => ?_, fun c2 => e30 ?_ _⟩⟩
  · have := of_decide_eq_false (bI_0.mp c)
    exact decide_eq_false fun q => this (by rw [q.1]; decide)
  · have q1 := of_decide_eq_true (bI_n0.mp c)
    have q2 := of_decide_eq_true (bI_n0.mp c2)
    have a0 : a = 0 := Int32.le_antisymm q1.2 q1.1
    have hv : aKind a b = true := decide_eq_true ⟨a0, q2⟩
    subst a0
    refine ⟨by unfold vp_in; decide, fun v _ => ⟨by unfold vp_in; decide, ?_⟩⟩
    refine fy_isRight l rfl 2 (by unfold m7; decide) _ ⟨fun q => absurd q (by decide), fun _ => ?_⟩
    refine fy_isRight l rfl 3 (by unfold m7; decide) _ ⟨fun _ => ?_, fun q => absurd q (by decide)⟩
    refine s_nothingUndone l _ _ ?_
    rw [← hv]; exact h _
  · have := of_decide_eq_false (bI_0.mp c2)
    exact decide_eq_false fun q => this q.2
def aLane (a b c : Int32) : Bool := p3 a && p3 b && !decide (a = b) && decide (0 ≤ c ∧ c ≤ 100)
theorem s_pg (l : Launch) {S : MS} (hp : S.1 0 = nI 3) (a : Int32) (post : Bool → MS → Prop) (h : post (p3 a) S) : mX_isPeg l S a post := by
  refine s_isPegC l S a post hp (by decide) (fun q => ?_) (fun i hi e => ?_)
  · rw [p3_no.mpr q] at h; exact h
  · rw [p3_iff.mpr ⟨i, hi, e⟩] at h; exact h
theorem p1m_2 (l : Launch) (a b c : Int32) (d : Bool) (post : Bool → MS → Prop) (h : ∀ M, post (aLane a b c) M) : mX_lane l mS0 a b c d post := by
  refine m_lane l mS0 a b c d post ?_
  intro B37 h37
  unfold mT_lane_e
  have e37 : aLane a b c = false → ∀ T, B37 T := by
    intro hv T
    refine h37 _ ?_
    unfold mT_lane_37
    refine s_not l _ 1 _ ?_
    rw [← hv]
    exact h _
  refine s_pg l rfl a _ ⟨fun c1 => e37 ?_ _, fun c1 => s_pg l rfl b _ ⟨fun c2 => e37 ?_ _, fun c2 => ⟨fun c3 => e37 ?_ _, fun c3 => s_in l _ c 0 100 _ ⟨fun c4 => ?_, fun c4 => e37 ?_ _⟩⟩⟩⟩
  · simp [aLane, bI_0.mp c1]
  · simp [aLane, bI_0.mp c2]
  · simp [aLane, c3]
  · obtain ⟨i, hi, rfl⟩ := p3_iff.mp (bI_n0.mp c1)
    obtain ⟨j, hj, rfl⟩ := p3_iff.mp (bI_n0.mp c2)
    have hv : aLane (nI i) (nI j) c = true := by simp only [aLane, bI_n0.mp c1, bI_n0.mp c2, bI_n0.mp c4, decide_eq_false c3]; rfl
    rw [ix25 (by omega) (by omega)]
    refine ⟨vp_in_nI (by omega) (by omega), vp_in_nI (by omega) (by omega), s_nothingUndone l _ _ ?_⟩
    rw [← hv]; exact h _
  · simp only [aLane, bI_0.mp c4, Bool.and_false]
theorem p1m_3 (l : Launch) (post : Int32 → MS → Prop) (h : ∀ M, post 6 M) : mX_lanes l mS0 post := by
  refine m_lanes l mS0 post ?_
  intro B7 B17 B55 h7 h17 h55
  unfold mT_lanes_e
  have st : ∀ (a b : Nat), a < 3 → b < 3 → ∀ (T : MS) (f : Nat → Int32), T.1 0 = nI 3 → T.2.1 4 = f → (∀ T' : MS, T'.1 0 = nI 3 → T'.2.1 4 = (if a = b then f else upd f (5 * a + b) 1) → B17 T' (nI a) (nI (b + 1))) → B17 T (nI a) (nI b) := by
    intro a b ha hb T f hp hc hn
    refine h17 _ _ _ ?_
    unfold mT_lanes_17
    rw [hp, ix25 (by omega) (by omega), nI_clamp (show 5 * a + b < 2 ^ 31 by omega)]
    refine ⟨fun q => absurd q (nI_ge (by omega) (by omega)), fun _ => ⟨fun c => ⟨vp_in_nI (by omega) (by omega), vp_in_nI (by omega) (by omega), h55 _ _ _ ?_⟩, fun c => h55 _ _ _ ?_⟩⟩
    · unfold mT_lanes_55
      rw [← nI_succ]
      refine hn _ hp ?_
      rw [ma_get_ne _ _ (by decide), ma_get, if_neg (fun e => c (by rw [e])), hc]
    · unfold mT_lanes_55
      rw [← nI_succ]
      refine hn _ hp ?_
      rw [if_pos ((nI_eq (by omega) (by omega)).mp c), hc]
  have rowEnd : ∀ (a : Nat) (T : MS), T.1 0 = nI 3 → B7 T (nI (a + 1)) → B17 T (nI a) (nI 3) := by
    intro a T hp hn
    refine h17 _ _ _ ?_
    unfold mT_lanes_17
    rw [hp]
    exact ⟨fun _ => by rw [← nI_succ]; exact hn, fun q => absurd (nI_le (Nat.le_refl 3) (by omega)) q⟩
  have rowGo : ∀ (a : Nat) (T : MS), a < 3 → T.1 0 = nI 3 → B17 T (nI a) (nI 0) → B7 T (nI a) := by
    intro a T ha hp hn
    refine h7 _ _ ?_
    unfold mT_lanes_7
    rw [hp]
    exact ⟨fun q => absurd q (nI_ge (by omega) (by omega)), fun _ => hn⟩
  refine rowGo 0 _ (by decide) rfl ?_
  refine st 0 0 (by decide) (by decide) _ _ rfl rfl (fun T t1 t2 => ?_)
  refine st 0 1 (by decide) (by decide) _ _ t1 t2 (fun T t1 t2 => ?_)
  refine st 0 2 (by decide) (by decide) _ _ t1 t2 (fun T t1 t2 => ?_)
  refine rowEnd 0 T t1 (rowGo 1 _ (by decide) t1 ?_)
  refine st 1 0 (by decide) (by decide) _ _ t1 t2 (fun T t1 t2 => ?_)
  refine st 1 1 (by decide) (by decide) _ _ t1 t2 (fun T t1 t2 => ?_)
  refine st 1 2 (by decide) (by decide) _ _ t1 t2 (fun T t1 t2 => ?_)
  refine rowEnd 1 T t1 (rowGo 2 _ (by decide) t1 ?_)
  refine st 2 0 (by decide) (by decide) _ _ t1 t2 (fun T t1 t2 => ?_)
  refine st 2 1 (by decide) (by decide) _ _ t1 t2 (fun T t1 t2 => ?_)
  refine st 2 2 (by decide) (by decide) _ _ t1 t2 (fun T t1 t2 => ?_)
  refine rowEnd 2 T t1 ?_
  refine h7 _ _ ?_
  unfold mT_lanes_7
  rw [t1]
  refine ⟨fun _ => s_lanesThere l _ _ ?_, fun q => absurd (nI_le (Nat.le_refl 3) (by omega)) q⟩
  have e : nI (cnN ((mf (mf T 4 0) 5 0).2.1 4) 25) = 6 := by
    show nI (cnN (T.2.1 4) 25) = 6
    rw [t2]
    decide
  rw [e]
  exact h _
def aCost (a b : Int32) : Int32 := if p3 a = true ∧ p3 b = true then 0 else -1
theorem p1m_4 (l : Launch) (a b : Int32) (post : Int32 → MS → Prop) (h : ∀ M, post (aCost a b) M) : mX_cost l mS0 a b post := by
  refine s_cost l mS0 a b post FY0.1 (fun q => ?_) (fun i j hi hj ea eb => ?_)
  · have := h (mf mS0 3 0)
    unfold aCost at this
    rw [if_neg (fun w => q ⟨p3_iff.mp w.1, p3_iff.mp w.2⟩)] at this
    exact this
  · have := h (mf mS0 3 0)
    unfold aCost at this
    rw [if_pos ⟨p3_iff.mpr ⟨i, hi, ea⟩, p3_iff.mpr ⟨j, hj, eb⟩⟩] at this
    exact this
theorem p1m_5 (l : Launch) (a : Int32) (g : Bool) (post : Bool → MS → Prop) (h : ∀ M, post (p3 a) M) : mX_stand l mS0 a g post := by
  refine m_stand l mS0 a g post ?_
  intro B54 B93 h54 h93
  unfold mT_stand_e
  have hf : FY (mf mS0 3 0) := FY0.mf _ (by decide) (by decide)
  refine fy_stands l hf _ (s_in l _ a 0 _ _ ⟨fun c => ?_, fun c => ?_⟩)
  · have q1 : p3 a = true := bI_n0.mp c
    obtain ⟨i, hi, rfl⟩ := p3_iff.mp q1
    refine fy_unpack l hf i hi _ (fun u => ?_)
    refine fy_isRight l rfl 8 m7_8 _ ⟨fun _ => ?_, fun q => absurd q (by decide)⟩
    have e1 : ∀ T : MS, T.1 1 = nI 1 → B54 T (0 + 1) := by
      intro T hd
      refine h54 _ _ ?_
      unfold mT_stand_54
      rw [hd]
      refine ⟨fun _ => ⟨fun _ => ?_, fun _ => s_nothingUndone l _ _ ?_⟩, fun q => absurd (by decide) q⟩
      · rw [← q1]; exact h _
      · rw [← q1]; exact h _
    refine h54 _ _ ?_
    unfold mT_stand_54
    rw [show (ma (mf mS0 3 0) 8 u).1 1 = nI 1 from rfl]
    refine ⟨fun q => absurd q (by decide), fun _ => ⟨fun _ => ⟨by unfold vp_in; decide, by unfold vp_in; decide, h93 _ _ ?_⟩, fun _ => ⟨by unfold vp_in; decide, by unfold vp_in; decide, h93 _ _ ?_⟩⟩⟩
    · unfold mT_stand_93; exact e1 _ rfl
    · unfold mT_stand_93; exact e1 _ rfl
  · have q1 : p3 a = false := bI_0.mp c
    refine s_not l _ 1 _ ?_
    rw [← q1]; exact h _
theorem p1m_6 (l : Launch) (g : Bool) (post : Int32 → MS → Prop) (h : ∀ M, post 0 M) : mX_number l mS0 g post := by
  refine m_number l mS0 g post ?_
  unfold mT_number_e
  have hf : FY (mf mS0 3 0) := FY0.mf _ (by decide) (by decide)
  exact ⟨fun _ => fy_pack l hf 2 (Or.inl rfl) _ (h _), fun _ => fy_pack l hf 3 (Or.inr rfl) _ (h _)⟩
def aPeg (a : Int32) : Int32 := if a = 0 then 0 else -1
theorem p1m_7 (l : Launch) (a : Int32) (post : Int32 → MS → Prop) (h : ∀ M, post (aPeg a) M) : mX_peg l mS0 a post := by
  refine s_peg l mS0 a post FY0.1 FY0.2.1 (fun q => ?_) (fun i hi ea => ?_)
  · have := h (mf mS0 3 0)
    unfold aPeg at this
    rw [if_neg (show ¬ a = 0 from fun w => q ⟨0, by decide, w⟩)] at this
    exact this
  · have i0 : i = 0 := by omega
    subst i0
    have := h (mf mS0 3 0)
    unfold aPeg at this
    rw [if_pos (show a = 0 from ea)] at this
    exact this
def aDisc (a b : Int32) : Int32 := if a = 0 ∧ b = 0 then 0 else -1
theorem p1m_8 (l : Launch) (a b : Int32) (post : Int32 → MS → Prop) (h : ∀ M, post (aDisc a b) M) : mX_disc l mS0 a b post := by
  refine m_disc l mS0 a b post ?_
  intro B25 B58 h25 h58
  unfold mT_disc_e
  have hm : (¬ (a = 0 ∧ b = 0)) → ∀ M, post (-1) M := fun q M => by
    have := h M
    unfold aDisc at this
    rw [if_neg q] at this
    exact this
  refine s_pg l rfl a _ ⟨fun c v hv => ?_, fun c => hm (fun q => by rw [q.1] at c; exact absurd c (by decide)) _⟩
  have hv0 : v = 0 := hv.trans (by decide)
  subst hv0
  have e58 : ∀ x, ¬ (a = 0 ∧ b = 0) → B58 (mf mS0 3 0) x 0 := by
    intro x hx
    refine h58 _ _ _ ?_
    unfold mT_disc_58
    refine h25 _ _ _ ?_
    unfold mT_disc_25
    exact ⟨fun _ => hm hx _, fun q => absurd (by decide) q⟩
  refine h25 _ _ _ ?_
  unfold mT_disc_25
  rw [show (mf mS0 3 0).2.1 2 (0 : Int32).toNatClampNeg = 0 from rfl]
  refine ⟨fun q => absurd q (by decide), fun _ => ⟨fun q => hm (fun w => by rw [w.2] at q; exact absurd q (by decide)) _, fun _ => ⟨by unfold vp_in; decide, fun ea => ⟨fun nb => e58 _ (fun w => nb w.2), fun eb => ?_⟩, fun na => e58 _ (fun w => na w.1.symm)⟩⟩⟩
  have := h (mf mS0 3 0)
  unfold aDisc at this
  rw [if_pos ⟨ea.symm, eb⟩] at this
  exact this
def aWhy (a b : Int32) : Int32 := if p3 a = true ∧ p3 b = true then 1 else -1
theorem p1m_9 (l : Launch) (a b : Int32) (post : Int32 → MS → Prop) (h : ∀ M, post (aWhy a b) M) : mX_why l mS0 a b post := by
  refine s_why l mS0 a b post FY0.1 FY0.2.1 (fun q => ?_) (fun i j hi hj ea eb => ?_)
  · have := h (mf mS0 3 0)
    unfold aWhy at this
    rw [if_neg (fun w => q ⟨p3_iff.mp w.1, p3_iff.mp w.2⟩)] at this
    exact this
  · have := h (mf mS0 3 0)
    unfold aWhy at this
    rw [if_pos ⟨p3_iff.mpr ⟨i, hi, ea⟩, p3_iff.mpr ⟨j, hj, eb⟩⟩] at this
    exact this
theorem p1m_10 (l : Launch) (a b : Int32) (post : Int32 → MS → Prop) (h : ∀ M, post (-1) M) : mX_move l mS0 a b post := by
  refine m_move l mS0 a b post ?_
  intro B21 B63 B101 h21 h63 h101
  unfold mT_move_e
  have e21 : ∀ T, B21 T := fun T => h21 _ (by unfold mT_move_21; exact s_no l _ 1 _ (h _))
  refine s_pg l rfl a _ ⟨fun _ => e21 _, fun c1 => s_pg l rfl b _ ⟨fun c2 => ?_, fun _ => e21 _⟩⟩
  obtain ⟨i, hi, rfl⟩ := p3_iff.mp (bI_n0.mp c1)
  obtain ⟨j, hj, rfl⟩ := p3_iff.mp (bI_n0.mp c2)
  refine fy_whyOf l (FY0.mf _ (by decide) (by decide)) 2 i j (by unfold m7; decide) hi hj _ ⟨fun q => absurd q (by decide), fun _ => s_no l _ 4 _ (h _)⟩
theorem p1m_11 (l : Launch) (post : Int32 → MS → Prop) (h : ∀ M, post 0 M) : mX_undo l mS0 post := by
  refine m_undo l mS0 post ?_
  unfold mT_undo_e
  exact ⟨fun q => absurd rfl q, fun _ => h _⟩
theorem p1m_12 (l : Launch) (post : Int32 → MS → Prop) (h : ∀ M, post 0 M) : mX_redo l mS0 post := by
  refine m_redo l mS0 post ?_
  unfold mT_redo_e
  exact ⟨fun q => absurd rfl q, fun _ => h _⟩
theorem p1m_13 (l : Launch) (post : Int32 → MS → Prop) (h : ∀ M, post 0 M) : mX_moves l mS0 post := by
  refine m_moves l mS0 post ?_
  intro B9 B19 h9 h19
  unfold mT_moves_e
  have hf : FY (mf mS0 3 0) := FY0.mf _ (by decide) (by decide)
  generalize mf mS0 3 0 = T at hf ⊢
  have e9 : ∀ d a, a + d = 3 → B9 T 0 (nI a) := by
    intro d
    induction d with
    | zero =>
      intro a ha
      have : a = 3 := by omega
      subst this
      refine h9 _ _ _ ?_
      unfold mT_moves_9
      rw [hf.p]
      exact ⟨fun _ => h _, fun q => absurd (nI_le (Nat.le_refl 3) (by omega)) q⟩
    | succ d ih =>
      intro a ha
      refine h9 _ _ _ ?_
      unfold mT_moves_9
      rw [hf.p]
      refine ⟨fun q => absurd q (nI_ge (by omega) (by omega)), fun _ => ?_⟩
      have e19 : ∀ d2 b, b + d2 = 3 → B19 T 0 (nI a) (nI b) := by
        intro d2
        induction d2 with
        | zero =>
          intro b hb
          have : b = 3 := by omega
          subst this
          refine h19 _ _ _ _ ?_
          unfold mT_moves_19
          rw [hf.p]
          exact ⟨fun _ => by rw [← nI_succ]; exact ih (a + 1) (by omega), fun q => absurd (nI_le (Nat.le_refl 3) (by omega)) q⟩
        | succ d2 ih2 =>
          intro b hb
          refine h19 _ _ _ _ ?_
          unfold mT_moves_19
          rw [hf.p]
          refine ⟨fun q => absurd q (nI_ge (by omega) (by omega)), fun _ => fy_whyOf l hf 2 a b (by unfold m7; decide) (by omega) (by omega) _ ⟨fun _ v hv => ?_, fun q => absurd q (by decide)⟩⟩
          have hv0 : v = 0 := hv.trans (by decide)
          subst hv0
          rw [← nI_succ]
          exact ih2 (b + 1) (by omega)
      exact e19 3 0 (by omega)
  exact e9 3 0 (by omega)
theorem p1m_16 (l : Launch) (a : Int32) (post : Int32 → MS → Prop) (h : ∀ M, post (-1) M) : mX_planned l mS0 a post := by
  refine m_planned l mS0 a post ?_
  unfold mT_planned_e
  refine s_in l _ a 0 _ _ ⟨fun _ => h _, fun c => ?_⟩
  have q := of_decide_eq_true (bI_n0.mp c)
  exact absurd (Int32.le_trans q.1 q.2) (by decide)
theorem s_noScheme (l : Launch) {S : MS} (hs : S.1 9 = 0) (a : Int32) (post : Bool → MS → Prop) (h : post false S) : mX_isScheme l S a post := by
  refine m_isScheme l S a post ?_
  unfold mT_isScheme_e
  refine s_in l _ a 0 _ _ ?_
  rw [hs, show decide ((0 : Int32) ≤ a ∧ a ≤ 0 - 1) = false from decide_eq_false fun q => absurd (Int32.le_trans q.1 q.2) (by decide)]
  exact h
theorem p1m_24 (l : Launch) (post : Int32 → MS → Prop) (h : ∀ M, post 0 M) : mX_scheme l mS0 post := by
  refine m_scheme l mS0 post ?_
  unfold mT_scheme_e
  exact ⟨fun _ => ⟨by unfold vp_in; decide, h _⟩, fun q => absurd q (by decide)⟩
theorem p1m_25 (l : Launch) (a b c : Int32) (post : Int32 → MS → Prop) (h : ∀ M, post (-1) M) : mX_single l mS0 a b c post := by
  refine m_single l mS0 a b c post ?_
  intro B38 h38
  unfold mT_single_e
  refine s_noScheme l rfl a _ ⟨fun _ => h38 _ ?_, fun q => absurd (by decide) q⟩
  unfold mT_single_38
  exact s_no l _ 1 _ (h _)
theorem p1m_26 (l : Launch) (a b c d e f g i : Int32) (post : Int32 → MS → Prop) (h : ∀ M, post (-1) M) : mX_call l mS0 a b c d e f g i post := by
  refine m_call l mS0 a b c d e f g i post ?_
  intro B31 B43 B118 h31 h43 h118
  unfold mT_call_e
  refine s_noScheme l rfl a _ ⟨fun _ => h31 _ ?_, fun q => absurd (by decide) q⟩
  unfold mT_call_31
  exact s_no l _ 1 _ (h _)
theorem p1m_27 (l : Launch) (a b : Int32) (post : Int64 → MS → Prop) (h : ∀ M, post (-1) M) : mX_count l mS0 a b post := by
  refine m_count l mS0 a b post ?_
  intro B24 B38 B59 B67 B82 h24 h38 h59 h67 h82
  unfold mT_count_e
  refine s_noScheme l rfl a _ ⟨fun _ => h24 _ ?_, fun q => absurd (by decide) q⟩
  unfold mT_count_24
  refine s_no l _ 1 _ ?_
  rw [show (-1 : Int32).toInt64 = -1 by decide]
  exact h _
theorem p1m_28 (l : Launch) (a b c d e f g : Int32) (post : Int32 → MS → Prop) (h : ∀ M, post (-1) M) : mX_tried l mS0 a b c d e f g post := by
  refine m_tried l mS0 a b c d e f g post ?_
  intro B42 B61 B121 B169 B274 B341 B504 B541 h42 h61 h121 h169 h274 h341 h504 h541
  unfold mT_tried_e
  refine s_noScheme l rfl a _ ⟨fun _ => h42 _ ?_, fun q => absurd (by decide) q⟩
  unfold mT_tried_42
  exact s_no l _ 1 _ (h _)
theorem p1m_29 (l : Launch) (post : Int32 → MS → Prop) (h : ∀ M, post (-1) M) : mX_failed l mS0 post := m_failed l mS0 post (h _)
theorem p1m_30 (l : Launch) (post : Int32 → MS → Prop) (h : ∀ M, post 0 M) : mX_trouble l mS0 post := m_trouble l mS0 post (h _)
def aSize (a : Int32) : Int32 := if a = 0 then 3 else if a = 1 then 1 else if 0 ≤ a ∧ a ≤ 7 then 0 else -1
theorem p1m_31 (l : Launch) (a : Int32) (post : Int32 → MS → Prop) (h : ∀ M, post (aSize a) M) : mX_size l mS0 a post := by
  refine m_size l mS0 a post ?_
  intro B96 h96
  unfold mT_size_e
  have hz : ∀ T : MS, T.2.1 4 = (fun _ => 0) → (∀ M, post 0 M) → mX_lanesThere l T (fun r5 S4 => post r5 S4) := by
    intro T hT hp
    refine s_lanesThere l T _ ?_
    rw [hT, cnN_zero 25 (fun _ _ => rfl)]
    exact hp _
  refine ⟨fun e => ?_, fun e => ?_, fun e => ?_, fun e => ?_, fun e => ?_, fun e => ?_, fun e => ?_, fun e v hv => ?_, fun e => ?_⟩
  · subst e; exact h _
  · subst e; exact h _
  · subst e; exact hz _ rfl h
  · subst e; exact h _
  · subst e; exact h _
  · subst e; exact h _
  · subst e; exact h _
  · subst e
    have hv0 : v = 0 := hv.trans (by decide)
    subst hv0
    refine h96 _ _ _ ?_
    unfold mT_size_96
    refine ⟨fun q => absurd q (by decide), fun _ => ⟨by unfold vp_in; decide, fun w hw => ?_⟩⟩
    have hw0 : w = 0 := hw.trans rfl
    subst hw0
    refine h96 _ _ _ ?_
    unfold mT_size_96
    exact ⟨fun _ => h _, fun q => absurd (by decide) q⟩
  · have hv : aSize a = -1 := by
      unfold aSize
      have b3 : (0 : Int32).toInt = 0 := by decide
      have b4 : (7 : Int32).toInt = 7 := by decide
      have b5 : (1 : Int32).toInt = 1 := by decide
      rw [if_neg (fun q => by rw [q] at e; omega), if_neg (fun q => by rw [q] at e; omega), if_neg (fun q => by
        have c1 := Int32.le_iff_toInt_le.mp q.1
        have c2 := Int32.le_iff_toInt_le.mp q.2
        omega)]
    rw [← hv]; exact h _
