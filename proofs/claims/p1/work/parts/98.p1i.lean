-- the class's answers on a new object: the rest
theorem c_has0 (l : Launch) {S : CS} (hs : S.1 19 = 0) (a : Int32) (post : Bool → CS → Prop) (h : post false S) : cX_X1_has l S a post := by
  refine c_X1_has l S a post ?_
  unfold cT_X1_has_e
  rw [hs]
  exact ⟨fun _ => h, fun c => ⟨fun _ => h, fun q => absurd (Int32.not_lt.mp c) q⟩⟩
theorem c_setLane (l : Launch) (S : CS) (a b : Nat) (ha : a < 5) (hb : b < 5) (v : Int32) (g : Bool) (post : CS → Prop) (h : post (ca (ca S 11 (upd (S.2.1 11) (5 * a + b) v)) 12 (upd (S.2.1 12) (5 * a + b) (bI g)))) : cX_X0_setLane l S (nI a) (nI b) v g post := by
  refine c_X0_setLane l S (nI a) (nI b) v g post ?_
  unfold cT_X0_setLane_e
  rw [ix5 ha hb, nI_clamp (show 5 * a + b < 2 ^ 31 by omega), bI_vp]
  exact ⟨vp_in_nI (by omega) (by omega), vp_in_nI (by omega) (by omega), h⟩
def czN (f : Nat → Int32) : Nat → Nat
  | 0 => 0
  | k + 1 => czN f k + (if f k = 0 then 0 else 1)
theorem czN_zero {f : Nat → Int32} : ∀ k, (∀ j, j < k → f j = 0) → czN f k = 0 := by
  intro k
  induction k with
  | zero => intro _; rfl
  | succ k ih =>
    intro h
    unfold czN
    rw [ih (fun j hj => h j (by omega)), h k (by omega)]
    rfl
theorem c_countLanes (l : Launch) (S : CS) (post : Int32 → CS → Prop) (h : post (nI (czN (S.2.1 11) 25)) S) : cX_X0_countLanes l S post := by
  refine c_X0_countLanes l S post ?_
  intro B13 B33 h13 h33
  unfold cT_X0_countLanes_e
  have key : ∀ d k, k + d = 25 → B13 S (nI (czN (S.2.1 11) k)) 25 (nI k) := by
    intro d
    induction d with
    | zero =>
      intro k hk
      have : k = 25 := by omega
      subst this
      refine h13 _ _ _ _ ?_
      unfold cT_X0_countLanes_13
      exact ⟨fun _ => h, fun q => absurd (show (25 : Int32) ≤ nI 25 by decide) q⟩
    | succ d ih =>
      intro k hk
      have hn := ih (k + 1) (by omega)
      refine h13 _ _ _ _ ?_
      unfold cT_X0_countLanes_13
      rw [nI_clamp (show k < 2 ^ 31 by omega)]
      refine ⟨fun q => absurd q (nI_ge (a := k) (b := 25) (by omega) (by omega)), fun _ => ⟨vp_in_nI (by omega) (by omega), fun v hv => ⟨fun c => h33 _ _ _ _ ?_, fun c => h33 _ _ _ _ ?_⟩⟩⟩
      · subst hv
        unfold cT_X0_countLanes_33
        unfold czN at hn
        rw [if_pos c] at hn
        rw [← nI_succ]
        exact hn
      · subst hv
        unfold cT_X0_countLanes_33
        unfold czN at hn
        rw [if_neg c] at hn
        rw [← nI_succ, ← nI_succ]
        exact hn
  exact key 25 0 (by omega)
theorem p1c_0 (l : Launch) (a b : Int32) (post : Bool → CS → Prop) (h : ∀ S, post (aYard a b) S) : cX_X8_yard l cS0 a b post := by
  refine c_X8_yard l cS0 a b post ?_
  intro B21 h21
  unfold cT_X8_yard_e
  have e21 : aYard a b = false → B21 cS0 := by
    intro hv
    refine h21 _ ?_
    unfold cT_X8_yard_21
    refine c_refuse l _ 1 _ ?_
    rw [← hv]; exact h _
  refine ⟨fun c => e21 (decide_eq_false fun q => absurd c (Int32.not_lt.mpr q.1.1)), fun c1 => ⟨fun c => e21 (decide_eq_false fun q => absurd c (Int32.not_lt.mpr q.1.2)), fun c2 => ⟨fun c => e21 (decide_eq_false fun q => absurd c (Int32.not_lt.mpr q.2.1)), fun c3 => ⟨fun c4 => ?_, fun c => e21 (decide_eq_false fun q => c q.2.2)⟩⟩⟩⟩
  have hv : aYard a b = true := decide_eq_true ⟨⟨Int32.not_lt.mp c1, Int32.not_lt.mp c2⟩, Int32.not_lt.mp c3, c4⟩
  refine c_X0_begin l cS0 a b _ ?_
  intro B17 B54 h17 h54
  unfold cT_X0_begin_e
  have e54 : ∀ T, B54 T := by
    intro T
    refine h54 _ ?_
    unfold cT_X0_begin_54
    exact c_forgetAll l _ _ (c_accept l _ _ (by rw [← hv]; exact h _))
  have e17 : ∀ d k, k + d = 7 → ∀ T, B17 T (nI k) := by
    intro d
    induction d with
    | zero =>
      intro k hk T
      have : k = 7 := by omega
      subst this
      refine h17 _ _ ?_
      unfold cT_X0_begin_17
      exact ⟨fun _ => e54 _, fun q => absurd (show (7 : Int32) ≤ nI 7 by decide) q⟩
    | succ d ih =>
      intro k hk T
      refine h17 _ _ ?_
      unfold cT_X0_begin_17
      refine ⟨fun _ => e54 _, fun _ => ⟨fun _ => e54 _, fun _ => ⟨vp_in_nI (by omega) (by omega), ?_⟩⟩⟩
      rw [← nI_succ]
      exact ih (k + 1) (by omega) _
  exact e17 7 0 (by omega) _
theorem c_isRight0 (l : Launch) {S : CS} (hp : S.1 3 = nI 3) (hd : S.1 4 = nI 1) (hw : S.2.1 9 0 = nI 1) (m : Nat) (hm : m < 3) (post : Bool → CS → Prop)
    (h : ∀ T : CS, (∀ k, k ≠ 7 → k ≠ 8 → T.1 k = S.1 k) → (∀ k, k < 13 ∨ 16 < k → T.2.1 k = S.2.1 k) → post true T) : cX_X8_isRight l S (nI m) post := by
  refine c_X8_isRight l S (nI m) post ?_
  unfold cT_X8_isRight_e
  exact c_read0 l hp hd hw m hm _ (fun T t1 _ t3 t4 _ => ⟨true, t1, h T t3 t4⟩)
theorem p1c_1 (l : Launch) (a b : Int32) (post : Bool → CS → Prop) (h : ∀ S, post (aKind a b) S) : cX_X8_kind l cS0 a b post := by
  refine c_X8_kind l cS0 a b post ?_
  intro B20 B68 h20 h68
  unfold cT_X8_kind_e
  have e20 : aKind a b = false → B20 cS0 := by
    intro hv
    refine h20 _ ?_
    unfold cT_X8_kind_20
    refine c_refuse l _ 1 _ ?_
    rw [← hv]; exact h _
  refine c_isDisc1 l rfl a _ ⟨fun c => e20 ?_, fun c => ⟨fun c1 => e20 (decide_eq_false fun q => absurd c1 (Int32.not_lt.mpr q.2.1)), fun c1 => ⟨fun c2 => ?_, fun c2 => e20 (decide_eq_false fun q => c2 q.2.2)⟩⟩⟩
  · have := of_decide_eq_false (bI_0.mp c)
    exact decide_eq_false fun q => this q.1
  · have a0 : a = 0 := of_decide_eq_true (bI_n0.mp c)
    have hv : aKind a b = true := decide_eq_true ⟨a0, Int32.not_lt.mp c1, c2⟩
    subst a0
    refine ⟨by unfold vp_in; decide, fun v _ => ⟨by unfold vp_in; decide, ?_⟩⟩
    refine c_isRight0 l (S := ca cS0 10 (upd (cS0.2.1 10) (0 : Int32).toNatClampNeg b)) rfl rfl rfl 0 (by decide) _ (fun T t1 t2 => ⟨fun q => absurd q (by decide), fun _ => ?_⟩)
    rw [show T.1 1 = nI 0 by rw [t1 1 (by decide) (by decide)]; rfl]
    refine c_isRight0 l (S := T) (by rw [t1 3 (by decide) (by decide)]; rfl) (by rw [t1 4 (by decide) (by decide)]; rfl) (by rw [t2 9 (Or.inl (by decide))]; rfl) 0 (by decide) _ (fun U _ _ => ⟨fun _ => ?_, fun q => absurd q (by decide)⟩)
    exact c_forgetAll l _ _ (c_accept l _ _ (by rw [← hv]; exact h _))
theorem p1c_2 (l : Launch) (a b c : Int32) (d : Bool) (post : Bool → CS → Prop) (h : ∀ S, post (aLane a b c) S) : cX_X8_lane l cS0 a b c d post := by
  refine c_X8_lane l cS0 a b c d post ?_
  intro B37 h37
  unfold cT_X8_lane_e
  have e37 : aLane a b c = false → B37 cS0 := by
    intro hv
    refine h37 _ ?_
    unfold cT_X8_lane_37
    refine c_refuse l _ 1 _ ?_
    rw [← hv]; exact h _
  refine c_pg l rfl a _ ⟨fun c1 => e37 ?_, fun c1 => c_pg l rfl b _ ⟨fun c2 => e37 ?_, fun c2 => ⟨fun c3 => e37 ?_, fun c3 => ⟨fun c4 => e37 ?_, fun c4 => ⟨fun c5 => ?_, fun c5 => e37 ?_⟩⟩⟩⟩⟩
  · simp [aLane, bI_0.mp c1]
  · simp [aLane, bI_0.mp c2]
  · simp [aLane, c3]
  · rw [aLane, show decide ((0 : Int32) ≤ c ∧ c ≤ 100) = false from decide_eq_false fun q => absurd c4 (Int32.not_lt.mpr q.1), Bool.and_false]
  · obtain ⟨i, hi, rfl⟩ := p3_iff.mp (bI_n0.mp c1)
    obtain ⟨j, hj, rfl⟩ := p3_iff.mp (bI_n0.mp c2)
    have hv : aLane (nI i) (nI j) c = true := by
      rw [aLane, bI_n0.mp c1, bI_n0.mp c2, decide_eq_false c3, show decide ((0 : Int32) ≤ c ∧ c ≤ 100) = true from decide_eq_true ⟨Int32.not_lt.mp c4, c5⟩]; rfl
    exact c_setLane l _ i j (by omega) (by omega) c d _ (c_forgetAll l _ _ (c_accept l _ _ (by rw [← hv]; exact h _)))
  · rw [aLane, show decide ((0 : Int32) ≤ c ∧ c ≤ 100) = false from decide_eq_false fun q => c5 q.2, Bool.and_false]
theorem p1c_3 (l : Launch) (post : Int32 → CS → Prop) (h : ∀ S, post 6 S) : cX_X8_lanes l cS0 post := by
  refine c_X8_lanes l cS0 post ?_
  unfold cT_X8_lanes_e
  refine c_X0_openAll l cS0 _ ?_
  intro B2 B12 B33 h2 h12 h33
  unfold cT_X0_openAll_e
  have st : ∀ (a b : Nat), a < 3 → b < 3 → ∀ (T : CS) (f : Nat → Int32), T.1 3 = nI 3 → T.2.1 11 = f → (∀ T' : CS, T'.1 3 = nI 3 → T'.2.1 11 = (if a = b then f else upd f (5 * a + b) 1) → B12 T' (nI a) (nI (b + 1))) → B12 T (nI a) (nI b) := by
    intro a b ha hb T f hp hc hn
    refine h12 _ _ _ ?_
    unfold cT_X0_openAll_12
    rw [hp]
    refine ⟨fun q => absurd q (nI_ge (by omega) (by omega)), fun _ => ⟨fun c => h33 _ _ _ ?_, fun c => c_setLane l T a b (by omega) (by omega) 1 true _ (h33 _ _ _ ?_)⟩⟩
    · unfold cT_X0_openAll_33
      rw [← nI_succ]
      refine hn _ hp ?_
      rw [if_pos ((nI_eq (by omega) (by omega)).mp c), hc]
    · unfold cT_X0_openAll_33
      rw [← nI_succ]
      refine hn _ hp ?_
      rw [ca_get_ne _ _ (by decide), ca_get, if_neg (fun e => c (by rw [e])), hc]
  have rowEnd : ∀ (a : Nat) (T : CS), T.1 3 = nI 3 → B2 T (nI (a + 1)) → B12 T (nI a) (nI 3) := by
    intro a T hp hn
    refine h12 _ _ _ ?_
    unfold cT_X0_openAll_12
    rw [hp]
    exact ⟨fun _ => by rw [← nI_succ]; exact hn, fun q => absurd (nI_le (Nat.le_refl 3) (by omega)) q⟩
  have rowGo : ∀ (a : Nat) (T : CS), a < 3 → T.1 3 = nI 3 → B12 T (nI a) (nI 0) → B2 T (nI a) := by
    intro a T ha hp hn
    refine h2 _ _ ?_
    unfold cT_X0_openAll_2
    rw [hp]
    exact ⟨fun q => absurd q (nI_ge (by omega) (by omega)), fun _ => hn⟩
  refine rowGo 0 _ (by decide) rfl ?_
  refine st 0 0 (by decide) (by decide) _ _ rfl rfl (fun T t1 t2 => ?_)
  refine st 0 1 (by decide) (by decide) _ _ t1 t2 (fun T t1 t2 => ?_)
  refine st 0 2 (by decide) (by decide) _ _ t1 t2 (fun T t1 t2 => ?_)
  refine rowEnd 0 T t1 (rowGo 1 _ (by decide) t1 ?_)
  refine st 1 0 (by decide) (by decide) _ _ t1 t2 (fun T t1 t2 => ?_)
  refine st 1 1 (by decide) (by decide) _ _ t1 t2 (fun T t1 t2 => ?_)
  refine st 1 2 (by decide) (by decide) _ _ t1 t2 (fun T t1 t2 => ?_)
  refine rowEnd 1 T t1 (rowGo 2 _ (by decide) t1 ?_)
  refine st 2 0 (by decide) (by decide) _ _ t1 t2 (fun T t1 t2 => ?_)
  refine st 2 1 (by decide) (by decide) _ _ t1 t2 (fun T t1 t2 => ?_)
  refine st 2 2 (by decide) (by decide) _ _ t1 t2 (fun T t1 t2 => ?_)
  refine rowEnd 2 T t1 ?_
  refine h2 _ _ ?_
  unfold cT_X0_openAll_2
  rw [t1]
  refine ⟨fun _ => c_forgetAll l _ _ (c_countLanes l _ _ ?_), fun q => absurd (nI_le (Nat.le_refl 3) (by omega)) q⟩
  have e : nI (czN (T.2.1 11) 25) = 6 := by
    rw [t2]
    decide
  show post (nI (czN (T.2.1 11) 25)) _
  rw [e]
  exact h _
theorem p1c_4 (l : Launch) (a b : Int32) (post : Int32 → CS → Prop) (h : ∀ S, post (aCost a b) S) : cX_X8_cost l cS0 a b post := by
  refine c_X8_cost l cS0 a b post ?_
  unfold cT_X8_cost_e
  have h' := h cS0
  unfold aCost at h'
  refine c_pg l rfl a _ ⟨fun c => ?_, fun c => c_pg l rfl b _ ⟨fun c2 => ?_, fun c2 => ?_⟩⟩
  · rw [if_neg (fun q => by rw [bI_0.mp c] at q; exact absurd q.1 (by decide))] at h'
    exact h'
  · obtain ⟨i, hi, rfl⟩ := p3_iff.mp (bI_n0.mp c)
    obtain ⟨j, hj, rfl⟩ := p3_iff.mp (bI_n0.mp c2)
    rw [if_pos ⟨bI_n0.mp c, bI_n0.mp c2⟩] at h'
    rw [ix5 (by omega) (by omega)]
    exact ⟨vp_in_nI (by omega) (by omega), h'⟩
  · rw [if_neg (fun q => by rw [bI_0.mp c2] at q; exact absurd q.2 (by decide))] at h'
    exact h'
theorem p1c_5 (l : Launch) (a : Int32) (g : Bool) (post : Bool → CS → Prop) (h : ∀ S, post (p3 a) S) : cX_X8_stand l cS0 a g post := by
  refine c_X8_stand l cS0 a g post ?_
  intro B15 B59 h15 h59
  unfold cT_X8_stand_e
  have e15 : p3 a = false → B15 cS0 := by
    intro hv
    refine h15 _ ?_
    unfold cT_X8_stand_15
    refine c_refuse l _ 1 _ ?_
    rw [← hv]; exact h _
  refine ⟨fun c => e15 (decide_eq_false fun q => absurd c (Int32.not_lt.mpr q.1)), fun c => ⟨fun c2 => ?_, fun c2 => e15 (decide_eq_false fun q => c2 (by
    have w := Int32.le_iff_toInt_le.mp q.2
    have w2 : (2 : Int32).toInt = 2 := by decide
    have w3 : (cS0.1 5).toInt = 3 := by decide
    exact Int32.lt_iff_toInt_lt.mpr (by omega)))⟩⟩
  have hv : p3 a = true := decide_eq_true ⟨Int32.not_lt.mp c, by
    have w := Int32.lt_iff_toInt_lt.mp c2
    have w2 : (2 : Int32).toInt = 2 := by decide
    have w3 : (cS0.1 5).toInt = 3 := by decide
    exact Int32.le_iff_toInt_le.mpr (by omega)⟩
  obtain ⟨i, hi, rfl⟩ := p3_iff.mp hv
  have e59 : ∀ T, B59 T := by
    intro T
    refine h59 _ ?_
    unfold cT_X8_stand_59
    exact c_accept l _ _ (by rw [← hv]; exact h _)
  exact c_isRight0 l rfl rfl rfl i hi _ (fun T _ _ => ⟨fun _ => ⟨fun _ => c_X4_forget l _ _ (e59 _), fun _ => e59 _⟩, fun q => absurd q (by decide)⟩)
theorem p1c_6 (l : Launch) (g : Bool) (post : Int32 → CS → Prop) (h : ∀ S, post 0 S) : cX_X8_number l cS0 g post := c_X8_number l cS0 g post ⟨fun _ => h _, fun _ => h _⟩
theorem p1c_7 (l : Launch) (a : Int32) (post : Int32 → CS → Prop) (h : ∀ S, post (aPeg a) S) : cX_X8_peg l cS0 a post := by
  refine c_X8_peg l cS0 a post ?_
  unfold cT_X8_peg_e
  refine c_isDisc1 l rfl a _ ⟨fun c => ?_, fun c => ?_⟩
  · have a0 : a = 0 := of_decide_eq_true (bI_n0.mp c)
    subst a0
    refine c_read l CF0 0 (by decide) _ (fun T hT => ⟨by unfold vp_in; decide, ?_⟩)
    rw [z0, hT.2.2.1]
    exact h T
  · have a0 : ¬ a = 0 := of_decide_eq_false (bI_0.mp c)
    have h' := h cS0
    unfold aPeg at h'
    rw [if_neg a0] at h'
    exact h'
theorem p1c_8 (l : Launch) (a b : Int32) (post : Int32 → CS → Prop) (h : ∀ S, post (aDisc a b) S) : cX_X8_disc l cS0 a b post := by
  refine c_X8_disc l cS0 a b post ?_
  intro B45 B75 h45 h75
  unfold cT_X8_disc_e
  have hm : (¬ (a = 0 ∧ b = 0)) → ∀ S, post (-1) S := fun q S => by
    have := h S
    unfold aDisc at this
    rw [if_neg q] at this
    exact this
  refine c_pg l rfl a _ ⟨fun c => hm (fun q => by rw [q.1] at c; exact absurd c (by decide)) _, fun c => ⟨fun c2 => ?_, fun c2 => hm (fun q => by rw [q.2] at c2; exact absurd (by decide) c2) _⟩⟩
  refine c_read l CF0 0 (by decide) _ (fun T hT v hv => ?_)
  rw [hT.1.1.2.1] at hv
  have hv0 : v = 0 := hv.trans (by decide)
  subst hv0
  have e75 : ¬ (a = 0 ∧ b = 0) → ∀ x, B75 T x 0 := by
    intro hx x
    refine h75 _ _ _ ?_
    unfold cT_X8_disc_75
    refine h45 _ _ _ ?_
    unfold cT_X8_disc_45
    exact ⟨fun _ => hm hx _, fun q => absurd (by decide) q⟩
  refine h45 _ _ _ ?_
  unfold cT_X8_disc_45
  rw [z0, hT.2.2.1]
  refine ⟨fun q => absurd q (by decide), fun _ => ⟨by unfold vp_in; decide, fun na => e75 (fun w => na w.1.symm) _, fun ea => ⟨fun nb => e75 (fun w => nb w.2.symm) _, fun eb => ?_⟩⟩⟩
  have := h T
  unfold aDisc at this
  rw [if_pos ⟨ea.symm, eb.symm⟩] at this
  exact this
theorem c_why0 (l : Launch) (a b : Int32) (post : Int32 → CS → Prop) (h : ∀ S, post (aWhy a b) S) : cX_X8_why l cS0 a b post := by
  refine c_X8_why l cS0 a b post ?_
  unfold cT_X8_why_e
  refine c_pg l rfl a _ ⟨fun c => ?_, fun c => c_pg l rfl b _ ⟨fun c2 => ?_, fun c2 => ?_⟩⟩
  · have h' := h cS0
    unfold aWhy at h'
    rw [if_neg (fun q => by rw [bI_0.mp c] at q; exact absurd q.1 (by decide))] at h'
    exact h'
  · obtain ⟨i, hi, rfl⟩ := p3_iff.mp (bI_n0.mp c)
    obtain ⟨j, hj, rfl⟩ := p3_iff.mp (bI_n0.mp c2)
    refine c_read l CF0 0 (by decide) _ (fun T hT => c_hind l hT.1 i j hi hj _ ?_)
    have h' := h T
    unfold aWhy at h'
    rw [if_pos ⟨bI_n0.mp c, bI_n0.mp c2⟩] at h'
    exact h'
  · have h' := h cS0
    unfold aWhy at h'
    rw [if_neg (fun q => by rw [bI_0.mp c2] at q; exact absurd q.2 (by decide))] at h'
    exact h'
theorem p1c_10 (l : Launch) (a b : Int32) (post : Int32 → CS → Prop) (h : ∀ S, post (-1) S) : cX_X8_move l cS0 a b post := by
  refine c_X8_move l cS0 a b post ?_
  unfold cT_X8_move_e
  refine c_why0 l a b _ (fun S => ?_)
  unfold aWhy
  split
  · exact ⟨fun _ => ⟨fun q => absurd q (by decide), fun _ => c_none l _ 4 _ (h _)⟩, fun q => absurd q (by decide)⟩
  · exact ⟨fun q => absurd rfl q, fun _ => c_none l _ 1 _ (h _)⟩
theorem p1c_11 (l : Launch) (post : Int32 → CS → Prop) (h : ∀ S, post 0 S) : cX_X8_undo l cS0 post := c_X8_undo l cS0 post ⟨fun q => absurd rfl q, fun _ => h _⟩
theorem p1c_12 (l : Launch) (post : Int32 → CS → Prop) (h : ∀ S, post 0 S) : cX_X8_redo l cS0 post := c_X8_redo l cS0 post ⟨fun q => absurd rfl q, fun _ => h _⟩
theorem p1c_13 (l : Launch) (post : Int32 → CS → Prop) (h : ∀ S, post 0 S) : cX_X8_moves l cS0 post := by
  refine c_X8_moves l cS0 post ?_
  unfold cT_X8_moves_e
  refine c_read l CF0 0 (by decide) _ (fun T hT => c_spread l hT.1 _ ?_)
  rw [cf_get]
  exact h _
theorem p1c_16 (l : Launch) (a : Int32) (post : Int32 → CS → Prop) (h : ∀ S, post (-1) S) : cX_X8_planned l cS0 a post := by
  refine c_X8_planned l cS0 a post ?_
  unfold cT_X8_planned_e
  exact ⟨fun _ => h _, fun c => ⟨fun c2 => absurd (show a < 0 from c2) c, fun _ => h _⟩⟩
theorem p1c_23 (l : Launch) (post : Int32 → CS → Prop) (h : ∀ S, post 0 S) : cX_X8_about l cS0 post := by
  refine c_X8_about l cS0 post ?_
  unfold cT_X8_about_e
  refine c_X0_turnLanes l cS0 _ ?_
  intro B2 B14 h2 h14
  unfold cT_X0_turnLanes_e
  have e2 : ∀ d a, a + d = 3 → ∀ T : CS, T.1 3 = nI 3 → (∀ j, j < 25 → T.2.1 11 j = 0 ∧ T.2.1 12 j = 0) → B2 T (nI a) := by
    intro d
    induction d with
    | zero =>
      intro a ha T tp hz
      have : a = 3 := by omega
      subst this
      refine h2 _ _ ?_
      unfold cT_X0_turnLanes_2
      rw [tp]
      refine ⟨fun _ v _ => c_forgetAll l _ _ (c_countLanes l _ _ ?_), fun q => absurd (nI_le (Nat.le_refl 3) (by omega)) q⟩
      show post (nI (czN (T.2.1 11) 25)) _
      rw [czN_zero 25 (fun j hj => (hz j hj).1)]
      exact h _
    | succ d ih =>
      intro a ha T tp hz
      refine h2 _ _ ?_
      unfold cT_X0_turnLanes_2
      rw [tp]
      refine ⟨fun q => absurd q (nI_ge (by omega) (by omega)), fun _ v hv => ?_⟩
      rw [← nI_succ] at hv
      subst hv
      have e14 : ∀ d2 b, b + d2 = 3 → ∀ T : CS, T.1 3 = nI 3 → (∀ j, j < 25 → T.2.1 11 j = 0 ∧ T.2.1 12 j = 0) → B14 T (nI a) (nI b) := by
        intro d2
        induction d2 with
        | zero =>
          intro b hb T tp hz
          have : b = 3 := by omega
          subst this
          refine h14 _ _ _ ?_
          unfold cT_X0_turnLanes_14
          rw [tp]
          exact ⟨fun _ => by rw [← nI_succ]; exact ih (a + 1) (by omega) T tp hz, fun q => absurd (nI_le (Nat.le_refl 3) (by omega)) q⟩
        | succ d2 ih2 =>
          intro b hb T tp hz
          refine h14 _ _ _ ?_
          unfold cT_X0_turnLanes_14
          rw [tp, ix5 (show a < 5 by omega) (show b < 5 by omega), ix5 (show b < 5 by omega) (show a < 5 by omega), nI_clamp (show 5 * a + b < 2 ^ 31 by omega), nI_clamp (show 5 * b + a < 2 ^ 31 by omega)]
          have z1 := hz (5 * b + a) (by omega)
          have z2 := hz (5 * a + b) (by omega)
          refine ⟨fun q => absurd q (nI_ge (by omega) (by omega)), fun _ => ⟨vp_in_nI (by omega) (by omega), fun v3 hv3 => ⟨vp_in_nI (by omega) (by omega), fun v4 hv4 => ⟨vp_in_nI (by omega) (by omega), vp_in_nI (by omega) (by omega), false, z1.2, ?_⟩⟩⟩⟩
          rw [z2.1] at hv3
          rw [z2.2] at hv4
          subst hv3
          subst hv4
          refine c_setLane l T a b (by omega) (by omega) _ false _ ⟨false, rfl, ?_⟩
          refine c_setLane l _ b a (by omega) (by omega) 0 false _ ?_
          rw [← nI_succ]
          refine ih2 (b + 1) (by omega) _ tp (fun j hj => ?_)
          rw [z1.1]
          rw [ca_get_ne _ _ (show (11 : Nat) ≠ 12 by decide), ca_get, ca_get, ca_get_ne _ _ (show (11 : Nat) ≠ 12 by decide), ca_get, ca_get, show bI false = 0 from rfl]
          unfold upd
          refine ⟨?_, ?_⟩
          · split
            · rfl
            · split
              · rfl
              · exact (hz j hj).1
          · split
            · rfl
            · split
              · rfl
              · exact (hz j hj).2
      exact e14 (3 - (a + 1)) (a + 1) (by omega) T tp hz
  exact e2 3 0 (by omega) _ rfl (fun _ _ => ⟨rfl, rfl⟩)
theorem p1c_24 (l : Launch) (post : Int32 → CS → Prop) (h : ∀ S, post 0 S) : cX_X8_scheme l cS0 post := by
  refine c_X8_scheme l cS0 post ?_
  unfold cT_X8_scheme_e
  refine ⟨fun _ => c_X1_open l _ _ ?_, fun q => absurd (by decide) q⟩
  unfold cT_X1_open_e
  exact ⟨by unfold vp_in; decide, h _⟩
theorem p1c_25 (l : Launch) (a b c : Int32) (post : Int32 → CS → Prop) (h : ∀ S, post (-1) S) : cX_X8_single l 1 5 cS0 a b c post := by
  refine c_X8_single l 1 5 cS0 a b c post ?_
  intro B30 h30
  unfold cT_X8_single_e
  refine ⟨by decide, by decide, c_has0 l rfl a _ ⟨fun _ => h30 _ _ _ ?_, fun q => absurd (by decide) q⟩⟩
  unfold cT_X8_single_30
  exact ⟨by decide, by decide, c_none l _ 1 _ ⟨by decide, by decide, h _⟩⟩
theorem p1c_26 (l : Launch) (a b c d e f g i : Int32) (post : Int32 → CS → Prop) (h : ∀ S, post (-1) S) : cX_X8_call l 1 5 cS0 a b c d e f g i post := by
  refine c_X8_call l 1 5 cS0 a b c d e f g i post ?_
  intro B71 h71
  unfold cT_X8_call_e
  refine ⟨by decide, by decide, by decide, by decide, c_has0 l rfl a _ ⟨fun _ => h71 _ _ _ _ ?_, fun q => absurd (by decide) q⟩⟩
  unfold cT_X8_call_71
  exact ⟨by decide, by decide, c_none l _ 1 _ ⟨by decide, by decide, h _⟩⟩
theorem p1c_27 (l : Launch) (a b : Int32) (post : Int64 → CS → Prop) (h : ∀ S, post (-1) S) : cX_X8_count l cS0 a b post := by
  refine c_X8_count l cS0 a b post ?_
  intro B21 h21
  unfold cT_X8_count_e
  refine c_has0 l rfl a _ ⟨fun _ => h21 _ ?_, fun q => absurd (by decide) q⟩
  unfold cT_X8_count_21
  refine c_none l _ 1 _ ?_
  rw [show (-1 : Int32).toInt64 = -1 by decide]
  exact h _
theorem p1c_28 (l : Launch) (a b c d e f g : Int32) (post : Int32 → CS → Prop) (h : ∀ S, post (-1) S) : cX_X8_tried l 1 5 cS0 a b c d e f g post := by
  refine c_X8_tried l 1 5 cS0 a b c d e f g post ?_
  intro B79 h79
  unfold cT_X8_tried_e
  refine ⟨by decide, by decide, by decide, by decide, c_has0 l rfl a _ ⟨fun _ => h79 _ _ _ _ ?_, fun q => absurd (by decide) q⟩⟩
  unfold cT_X8_tried_79
  exact ⟨by decide, by decide, c_none l _ 1 _ ⟨by decide, by decide, h _⟩⟩
theorem p1c_29 (l : Launch) (post : Int32 → CS → Prop) (h : ∀ S, post (-1) S) : cX_X8_failed l cS0 post := c_X8_failed l cS0 post (h _)
theorem p1c_30 (l : Launch) (post : Int32 → CS → Prop) (h : ∀ S, post 0 S) : cX_X8_trouble l cS0 post := c_X8_trouble l cS0 post (h _)
theorem p1c_31 (l : Launch) (a : Int32) (post : Int32 → CS → Prop) (h : ∀ S, post (aSize a) S) : cX_X8_size l cS0 a post := by
  refine c_X8_size l cS0 a post ?_
  unfold cT_X8_size_e
  refine ⟨fun e => ?_, fun e => ?_, fun e => ?_, fun e => ?_, fun e => ?_, fun e => ?_, fun e => ?_, fun e => ?_, fun e => ?_⟩
  · subst e; exact h _
  · subst e; exact h _
  · subst e
    refine c_countLanes l _ _ ?_
    rw [czN_zero (f := cS0.2.1 11) 25 (fun _ _ => rfl)]
    exact h _
  · subst e; exact h _
  · subst e; exact h _
  · subst e; exact h _
  · subst e; exact h _
  · subst e
    refine c_X0_sumOfKinds l _ _ ?_
    intro B4 h4
    unfold cT_X0_sumOfKinds_e
    refine h4 _ _ _ ?_
    unfold cT_X0_sumOfKinds_4
    refine ⟨fun q => absurd q (by decide), fun _ => ⟨by unfold vp_in; decide, fun v hv => h4 _ _ _ ?_⟩⟩
    have hv0 : v = 0 := hv.trans (by decide)
    subst hv0
    unfold cT_X0_sumOfKinds_4
    exact ⟨fun _ => h _, fun q => absurd (by decide) q⟩
  · have hv : aSize a = -1 := by
      unfold aSize
      have b3 : (0 : Int32).toInt = 0 := by decide
      have b4 : (7 : Int32).toInt = 7 := by decide
      have b5 : (1 : Int32).toInt = 1 := by decide
      rw [if_neg (fun q => by rw [q] at e; omega), if_neg (fun q => by rw [q] at e; omega), if_neg (fun q => by
        have c1 := Int32.le_iff_toInt_le.mp q.1
        have c2 := Int32.le_iff_toInt_le.mp q.2
        omega)]
    rw [← hv]; exact h _
theorem mask3 : ∀ i, i < 3 → ∀ j, j < 3 → ∀ k, k < 3 → (((((0 : Int32) ||| ((1 : Int32) <<< (nI i &&& 31))) ||| ((1 : Int32) <<< (nI j &&& 31))) ||| ((1 : Int32) <<< (nI k &&& 31)) = ((1 : Int32) <<< (nI 3 &&& 31)) - 1) ↔ (i ≠ j ∧ i ≠ k ∧ j ≠ k)) := by decide
theorem aRen_iff {i j k : Nat} (hi : i < 3) (hj : j < 3) (hk : k < 3) : aRen (nI i) (nI j) (nI k) = true ↔ (i ≠ j ∧ i ≠ k ∧ j ≠ k) := by
  have e1 : p3 (nI i) = true := p3_iff.mpr ⟨i, hi, rfl⟩
  have e2 : p3 (nI j) = true := p3_iff.mpr ⟨j, hj, rfl⟩
  have e3 : p3 (nI k) = true := p3_iff.mpr ⟨k, hk, rfl⟩
  have f1 : nI i = nI j ↔ i = j := nI_eq (by omega) (by omega)
  have f2 : nI i = nI k ↔ i = k := nI_eq (by omega) (by omega)
  have f3 : nI j = nI k ↔ j = k := nI_eq (by omega) (by omega)
  simp [aRen, e1, e2, e3, f1, f2, f3, and_assoc]
theorem c_rearr3 (l : Launch) (S : CS) (f : Nat → Int32) (post : Bool → CS → Prop) (h : post (aRen (f 0) (f 1) (f 2)) S) : cX_X8_isRearrangement l S 5 f (nI 3) post := by
  refine c_X8_isRearrangement l S 5 f (nI 3) post ?_
  intro B4 h4
  unfold cT_X8_isRearrangement_e
  have pf : ∀ k, k < 3 → (f k < 0 ∨ ¬ f k < nI 3) → aRen (f 0) (f 1) (f 2) = false := by
    intro k hk hq
    have e : p3 (f k) = false := decide_eq_false fun q => by
      rcases hq with w | w
      · exact absurd w (Int32.not_lt.mpr q.1)
      · refine w (Int32.lt_iff_toInt_lt.mpr ?_)
        have w1 := Int32.le_iff_toInt_le.mp q.2
        have w2 : (2 : Int32).toInt = 2 := by decide
        have w3 : (nI 3).toInt = 3 := by decide
        omega
    rcases (show k = 0 ∨ k = 1 ∨ k = 2 by omega) with rfl | rfl | rfl <;> simp [aRen, e]
  have pt : ∀ k, k < 3 → ¬ f k < 0 → f k < nI 3 → ∃ i, i < 3 ∧ f k = nI i := by
    intro k hk q1 q2
    refine p3_iff.mp (decide_eq_true ⟨Int32.not_lt.mp q1, ?_⟩)
    have w1 := Int32.lt_iff_toInt_lt.mp q2
    have w2 : (2 : Int32).toInt = 2 := by decide
    have w3 : (nI 3).toInt = 3 := by decide
    exact Int32.le_iff_toInt_le.mpr (by omega)
  have st : ∀ k, k < 3 → ∀ x, (¬ f k < 0 → f k < nI 3 → B4 S (x ||| ((1 : Int32) <<< (f k &&& 31))) (nI (k + 1))) → B4 S x (nI k) := by
    intro k hk x hn
    refine h4 _ _ _ ?_
    unfold cT_X8_isRearrangement_4
    rw [nI_clamp (show k < 2 ^ 31 by omega)]
    refine ⟨fun q => absurd q (nI_ge (by omega) (by omega)), fun _ => ⟨vp_in_nI (by omega) (by omega), fun q => ?_, fun q1 => ⟨vp_in_nI (by omega) (by omega), fun q2 => ⟨vp_in_nI (by omega) (by omega), fun v hv => ?_⟩, fun q => ?_⟩⟩⟩
    · rw [pf k hk (Or.inl q)] at h; exact h
    · subst hv
      rw [← nI_succ]
      exact hn q1 q2
    · rw [pf k hk (Or.inr q)] at h; exact h
  refine st 0 (by decide) 0 (fun a1 a2 => st 1 (by decide) _ (fun b1 b2 => st 2 (by decide) _ (fun c1 c2 => ?_)))
  obtain ⟨i, hi, ei⟩ := pt 0 (by decide) a1 a2
  obtain ⟨j, hj, ej⟩ := pt 1 (by decide) b1 b2
  obtain ⟨k, hk, ek⟩ := pt 2 (by decide) c1 c2
  rw [ei, ej, ek] at h ⊢
  refine h4 _ _ _ ?_
  unfold cT_X8_isRearrangement_4
  refine ⟨fun _ => ⟨fun q => ?_, fun q => ?_⟩, fun q => absurd (nI_le (Nat.le_refl 3) (by omega)) q⟩
  · have e : aRen (nI i) (nI j) (nI k) = false := by
      cases w : aRen (nI i) (nI j) (nI k)
      · rfl
      · exact absurd ((mask3 i hi j hj k hk).mpr ((aRen_iff hi hj hk).mp w)) q
    rw [e] at h; exact h
  · rw [(aRen_iff hi hj hk).mpr ((mask3 i hi j hj k hk).mp q)] at h
    exact h
theorem c_renamed0 (l : Launch) {S : CS} (hp : S.1 3 = nI 3) (hd : S.1 4 = nI 1) (hw : S.2.1 9 0 = nI 1) (f : Nat → Int32) (post : Int32 → CS → Prop)
    (h : ∀ (r : Int32) (T : CS), (∀ k, k ≠ 7 → k ≠ 8 → T.1 k = S.1 k) → (∀ k, k < 13 ∨ 16 < k → T.2.1 k = S.2.1 k) → post r T) : cX_X8_renamed l S (nI 0) 5 f post := by
  refine c_X8_renamed l S (nI 0) 5 f post ?_
  intro B17 h17
  unfold cT_X8_renamed_e
  refine c_read0 l hp hd hw 0 (by decide) _ (fun T _ t2 t3 t4 _ => h17 _ _ _ ?_)
  have td : T.1 4 = nI 1 := by rw [t3 4 (by decide) (by decide)]; exact hd
  unfold cT_X8_renamed_17
  rw [td, z0, t2]
  refine ⟨fun q => absurd q (by decide), fun _ => ⟨by unfold vp_in; decide, by unfold vp_in; decide, by unfold vp_in; decide, fun v _ => h17 _ _ _ ?_⟩⟩
  unfold cT_X8_renamed_17
  rw [td]
  exact ⟨fun _ => h v T t3 t4, fun q => absurd (by decide) q⟩
theorem p1c_22 (l : Launch) (a b c d e : Int32) (post : Bool → CS → Prop) (h : ∀ S, post (aRen a b c) S) : cX_X8_rename l 3 55 cS0 a b c d e post := by
  refine c_X8_rename l 3 55 cS0 a b c d e post ?_
  unfold cT_X8_rename_e
  rw [z0, show (1 : Int32).toNatClampNeg = 1 by decide, show (2 : Int32).toNatClampNeg = 2 by decide, show (3 : Int32).toNatClampNeg = 3 by decide, show (4 : Int32).toNatClampNeg = 4 by decide]
  obtain ⟨f, hf⟩ : ∃ f : Nat → Int32, f = upd (upd (upd (upd (upd (fun _ => 0) 0 a) 1 b) 2 c) 3 d) 4 e := ⟨_, rfl⟩
  rw [← hf]
  have f0 : f 0 = a := by rw [hf]; simp [upd]
  have f1 : f 1 = b := by rw [hf]; simp [upd]
  have f2 : f 2 = c := by rw [hf]; simp [upd]
  clear hf
  refine ⟨by decide, by decide, by decide, by decide, ?_⟩
  refine c_rearr3 l cS0 f _ ?_
  rw [f0, f1, f2]
  refine ⟨fun c1 => ⟨by decide, by decide, ?_⟩, fun c1 => ⟨by decide, by decide, c_refuse l _ 1 _ ⟨by decide, by decide, ?_⟩⟩⟩
  · have hv : aRen a b c = true := bI_n0.mp c1
    have hv2 := hv
    simp only [aRen, Bool.and_eq_true] at hv2
    obtain ⟨⟨⟨⟨⟨qa, qb⟩, qc⟩, -⟩, -⟩, -⟩ := hv2
    have nm : ∀ k, k < 3 → ∃ i, i < 3 ∧ f k = nI i := by
      intro k hk
      rcases (show k = 0 ∨ k = 1 ∨ k = 2 by omega) with rfl | rfl | rfl
      · rw [f0]; exact p3_iff.mp qa
      · rw [f1]; exact p3_iff.mp qb
      · rw [f2]; exact p3_iff.mp qc
    refine c_renamed0 l rfl rfl rfl f _ (fun r T t1 t2 => ⟨by decide, by decide, ?_⟩)
    rw [show T.1 1 = nI 0 by rw [t1 1 (by decide) (by decide)]; rfl]
    refine c_renamed0 l (S := cf T 0 r) (by rw [cf_get_ne _ _ (by decide), t1 3 (by decide) (by decide)]; rfl) (by rw [cf_get_ne _ _ (by decide), t1 4 (by decide) (by decide)]; rfl) (by show T.2.1 9 0 = nI 1; rw [t2 9 (Or.inl (by decide))]; rfl) f _ (fun r2 U u1 u2 => ⟨2, 50, by decide, by decide, ?_⟩)
    have up : (cf U 1 r2).1 3 = nI 3 := by rw [cf_get_ne _ _ (by decide), u1 3 (by decide) (by decide), cf_get_ne _ _ (by decide), t1 3 (by decide) (by decide)]; rfl
    have u12 : (cf U 1 r2).2.1 12 = fun _ => 0 := by
      show U.2.1 12 = _
      rw [u2 12 (Or.inl (by decide))]
      show T.2.1 12 = _
      rw [t2 12 (Or.inl (by decide))]
      rfl
    generalize cf U 1 r2 = V at up u12 ⊢
    refine c_X0_renameLanes l 2 50 V 5 f _ ?_
    intro B25 B37 h25 h37
    unfold cT_X0_renameLanes_e
    rw [u12]
    refine ⟨by decide, by decide, fun _ _ => Or.inl rfl, by decide, by decide, ?_⟩
    have e25 : ∀ d2 a1, a1 + d2 = 3 → ∀ (T : CS) (y : Nat → Int32), T.1 3 = nI 3 → B25 (0 + 1 + 1) (0 + 25 + 25) T (nI a1) y (fun _ => 0) := by
      intro d2
      induction d2 with
      | zero =>
        intro a1 ha1 T y tp
        have : a1 = 3 := by omega
        subst this
        refine h25 _ _ _ _ _ _ ?_
        unfold cT_X0_renameLanes_25
        rw [tp]
        exact ⟨fun _ => ⟨by decide, by decide, by decide, by decide, c_forgetAll l _ _ ⟨by decide, by decide, c_accept l _ _ ⟨by decide, by decide, by rw [← hv]; exact h _⟩⟩⟩, fun q => absurd (nI_le (Nat.le_refl 3) (by omega)) q⟩
      | succ d2 ih =>
        intro a1 ha1 T y tp
        refine h25 _ _ _ _ _ _ ?_
        unfold cT_X0_renameLanes_25
        rw [tp]
        refine ⟨fun q => absurd q (nI_ge (by omega) (by omega)), fun _ => ?_⟩
        have e37 : ∀ d3 b1, b1 + d3 = 3 → ∀ T : CS, T.1 3 = nI 3 → B37 (0 + 1 + 1) (0 + 25 + 25) T (nI a1) (nI b1) y (fun _ => 0) := by
          intro d3
          induction d3 with
          | zero =>
            intro b1 hb1 T tp
            have : b1 = 3 := by omega
            subst this
            refine h37 _ _ _ _ _ _ _ ?_
            unfold cT_X0_renameLanes_37
            rw [tp]
            exact ⟨fun _ => by rw [← nI_succ]; exact ih (a1 + 1) (by omega) T y tp, fun q => absurd (nI_le (Nat.le_refl 3) (by omega)) q⟩
          | succ d3 ih3 =>
            intro b1 hb1 T tp
            obtain ⟨i, hi, ei⟩ := nm a1 (by omega)
            obtain ⟨j, hj, ej⟩ := nm b1 (by omega)
            refine h37 _ _ _ _ _ _ _ ?_
            unfold cT_X0_renameLanes_37
            rw [tp, ix5 (show a1 < 5 by omega) (show b1 < 5 by omega), nI_clamp (show a1 < 2 ^ 31 by omega), nI_clamp (show b1 < 2 ^ 31 by omega), ei, ej]
            refine ⟨fun q => absurd q (nI_ge (by omega) (by omega)), fun _ v hv3 => ?_⟩
            subst hv3
            refine ⟨vp_in_nI (by omega) (by omega), vp_in_nI (by omega) (by omega), vp_in_nI (by omega) (by omega), vp_in_nI (by omega) (by omega), by decide, by decide, false, rfl, ?_⟩
            refine c_setLane l T i j (by omega) (by omega) _ false _ ?_
            rw [← nI_succ]
            exact ih3 (b1 + 1) (by omega) _ tp
        exact e37 3 0 (by omega) T tp
    exact e25 3 0 (by omega) V _ up
  · rw [← bI_0.mp c1]; exact h _
