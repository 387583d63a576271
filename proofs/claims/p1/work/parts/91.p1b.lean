-- the reference's answers on a new object: searches
theorem fy_go (l : Launch) {S : MS} (hf : FY S) (post1 : Bool → MS → Prop) (h : ∀ T, T = S → post1 true T) : mX_fits l S post1 := fy_fits l hf post1 (h S rfl)
theorem p1m_14 (l : Launch) (post : Int32 → MS → Prop) (h : ∀ M, post 0 M) : mX_fewest l mS0 post := by
  refine m_fewest l mS0 post ?_
  unfold mT_fewest_e
  have hf : FY (mf mS0 3 0) := FY0.mf _ (by decide) (by decide)
  refine fy_fits l hf _ ⟨fun _ => ?_, fun q => absurd q (by decide)⟩
  refine fy_measure l (hf.mf _ (by decide) (by decide)) _ (fun T hT => ?_)
  refine fy_pack l hT.1 3 (Or.inr rfl) _ ⟨by unfold vp_in; decide, fun v hv => ?_⟩
  have hv0 : v = 0 := hv.trans hT.2.2.2.2
  subst hv0
  exact ⟨fun _ => h T, fun q => absurd q (by decide)⟩
theorem p1m_18 (l : Launch) (post : Int32 → MS → Prop) (h : ∀ M, post 1 M) : mX_reach l mS0 post := by
  refine m_reach l mS0 post ?_
  unfold mT_reach_e
  have hf : FY (mf mS0 3 0) := FY0.mf _ (by decide) (by decide)
  refine fy_fits l hf _ ⟨fun _ => ?_, fun q => absurd q (by decide)⟩
  refine fy_measure l (hf.mf _ (by decide) (by decide)) _ (fun T hT => ?_)
  rw [hT.2.1]
  exact h T
theorem p1m_19 (l : Launch) (post : Int32 → MS → Prop) (h : ∀ M, post 0 M) : mX_far l mS0 post := by
  refine m_far l mS0 post ?_
  unfold mT_far_e
  have hf : FY (mf mS0 3 0) := FY0.mf _ (by decide) (by decide)
  refine fy_fits l hf _ ⟨fun _ => ?_, fun q => absurd q (by decide)⟩
  refine fy_measure l (hf.mf _ (by decide) (by decide)) _ (fun T hT => ?_)
  rw [hT.2.1, show (nI 1 - 1).toNatClampNeg = 0 by decide, hT.2.2.1, show (nI 0).toNatClampNeg = 0 by decide, hT.2.2.2.2]
  exact ⟨by unfold vp_in; decide, by unfold vp_in; decide, h T⟩
theorem p1m_20 (l : Launch) (post : Int32 → MS → Prop) (h : ∀ M, post 0 M) : mX_farthest l mS0 post := by
  refine m_farthest l mS0 post ?_
  intro B41 B86 h41 h86
  unfold mT_farthest_e
  have hf : FY (mf mS0 3 0) := FY0.mf _ (by decide) (by decide)
  refine fy_fits l hf _ ⟨fun _ => ?_, fun q => absurd q (by decide)⟩
  refine fy_measure l (hf.mf _ (by decide) (by decide)) _ (fun T hT => ?_)
  rw [hT.2.1, show (nI 1 - 1).toNatClampNeg = 0 by decide, hT.2.2.1]
  refine ⟨by unfold vp_in; decide, fun v hv => ?_⟩
  subst hv
  have e1 : B41 T (nI 0) (0 + 1) := by
    refine h41 _ _ _ ?_
    unfold mT_farthest_41
    rw [hT.2.1]
    exact ⟨fun _ => h T, fun q => absurd (show nI 1 ≤ 0 + 1 by decide) q⟩
  have e0 : B86 T (nI 0) 0 := by
    refine h86 _ _ _ ?_
    unfold mT_farthest_86
    exact e1
  refine h41 _ _ _ ?_
  unfold mT_farthest_41
  rw [hT.2.1, z0, hT.2.2.1, show (nI 0).toNatClampNeg = 0 by decide, hT.2.2.2.2]
  refine ⟨fun q => absurd q (by decide), fun _ => ⟨by unfold vp_in; decide, by unfold vp_in; decide, by unfold vp_in; decide, fun q => absurd rfl q, fun _ => ⟨by unfold vp_in; decide, fun _ => e0, fun q => absurd (show nI 0 ≤ nI 0 by decide) q⟩⟩⟩
theorem p1m_15 (l : Launch) (post : Int32 → MS → Prop) (h : ∀ M, post 0 M) : mX_plan l mS0 post := by
  refine m_plan l mS0 post ?_
  intro B57 B96 B108 B158 B190 B209 B226 B307 B313 B319 h57 h96 h108 h158 h190 h209 h226 h307 h313 h319
  unfold mT_plan_e
  have hf : FY (mf mS0 3 0) := FY0.mf _ (by decide) (by decide)
  refine fy_fits l hf _ ⟨fun _ => ?_, fun q => absurd q (by decide)⟩
  refine fy_measure l (hf.mf _ (by decide) (by decide)) _ (fun T hT => ?_)
  refine fy_pack l hT.1 3 (Or.inr rfl) _ ⟨by unfold vp_in; decide, fun _ => ?_, fun q => absurd q (by rw [show (nI 0).toNatClampNeg = 0 by decide, hT.2.2.2.2]; decide)⟩
  intro v hv
  rw [hT.2.1] at hv
  have hv0 : v = 0 := hv.trans (by decide)
  subst hv0
  have e57 : ∀ T, FG T → B57 T (nI 0) (0 + (-1)) := by
    intro T hT
    refine h57 _ _ _ ?_
    unfold mT_plan_57
    refine ⟨fun _ => ?_, fun q => absurd (by decide) q⟩
    refine fy_pack l (hT.1.mf _ (by decide) (by decide)) 2 (Or.inl rfl) _ ?_
    refine h190 _ _ _ ?_
    unfold mT_plan_190
    exact ⟨fun _ => h _, fun q => absurd rfl q⟩
  have e96 : ∀ d a, a + d = 3 → ∀ T, FG T → B96 T (nI 0) 0 (nI 0) (nI a) := by
    intro d
    induction d with
    | zero =>
      intro a ha T hT
      have : a = 3 := by omega
      subst this
      refine h96 _ _ _ _ _ ?_
      unfold mT_plan_96
      rw [hT.1.p]
      exact ⟨fun _ => e57 T hT, fun q => absurd (nI_le (Nat.le_refl 3) (by omega)) q⟩
    | succ d ih =>
      intro a ha T hT
      refine h96 _ _ _ _ _ ?_
      unfold mT_plan_96
      rw [hT.1.p]
      refine ⟨fun q => absurd q (nI_ge (by omega) (by omega)), fun _ => ?_⟩
      have e108 : ∀ d2 b, b + d2 = 3 → B108 T (nI 0) 0 (nI 0) (nI a) (nI b) := by
        intro d2
        induction d2 with
        | zero =>
          intro b hb
          have : b = 3 := by omega
          subst this
          refine h108 _ _ _ _ _ _ ?_
          unfold mT_plan_108
          rw [hT.1.p]
          exact ⟨fun _ => by rw [← nI_succ]; exact ih (a + 1) (by omega) T hT, fun q => absurd (nI_le (Nat.le_refl 3) (by omega)) q⟩
        | succ d2 ih2 =>
          intro b hb
          refine h108 _ _ _ _ _ _ ?_
          unfold mT_plan_108
          rw [hT.1.p]
          refine ⟨fun q => absurd q (nI_ge (by omega) (by omega)), fun _ => fy_leads l hT.1 a b (by omega) (by omega) _ (fy_isNear l T _ _ _ _ ⟨fun _ => h158 _ _ _ _ _ _ ?_, fun q => absurd (by decide) q⟩)⟩
          unfold mT_plan_158
          rw [← nI_succ]
          exact ih2 (b + 1) (by omega)
      exact e108 3 0 (by omega)
  refine h57 _ _ _ ?_
  unfold mT_plan_57
  rw [z0]
  refine ⟨fun q => absurd q (by decide), fun _ => ⟨by unfold vp_in; decide, fun w hw => ?_⟩⟩
  rw [hT.2.2.1] at hw
  subst hw
  refine ⟨fun q => absurd rfl q, fun _ => ⟨by unfold vp_in; decide, ?_⟩⟩
  refine fy_unpack l (hT.ma _ (Or.inr (Or.inl rfl))).1 0 (by decide) _ (fun g => ?_)
  exact e96 3 0 (by omega) _ ((hT.ma _ (Or.inr (Or.inl rfl))).ma _ (Or.inl rfl))
theorem p1m_17 (l : Launch) (post : Int64 → MS → Prop) (h : ∀ M, post 1 M) : mX_ways l mS0 post := by
  refine m_ways l mS0 post ?_
  intro B52 B88 B115 B127 B176 h52 h88 h115 h127 h176
  unfold mT_ways_e
  have hf : FY (mf mS0 3 0) := FY0.mf _ (by decide) (by decide)
  refine fy_fits l hf _ ⟨fun _ => ?_, fun q => absurd q (by decide)⟩
  refine fy_measure l (hf.mf _ (by decide) (by decide)) _ (fun T hT => ?_)
  refine fy_pack l hT.1 3 (Or.inr rfl) _ ⟨by unfold vp_in; decide, fun _ => ?_, fun q => absurd q (by rw [show (nI 0).toNatClampNeg = 0 by decide, hT.2.2.2.2]; decide)⟩
  have e88 : ∀ T, FG T → T.2.2 15 0 = 1 → B88 T (nI 0) (0 + 1) := by
    intro T hT h1
    refine h88 _ _ _ ?_
    unfold mT_ways_88
    rw [hT.2.1, show (nI 0).toNatClampNeg = 0 by decide, h1]
    exact ⟨fun _ => ⟨by unfold vp_in; decide, h T⟩, fun q => absurd (show nI 1 ≤ 0 + 1 by decide) q⟩
  have e115 : ∀ d a, a + d = 3 → ∀ T, FG T → T.2.2 15 0 = 1 → B115 T (nI 0) 0 (nI 0) (nI a) := by
    intro d
    induction d with
    | zero =>
      intro a ha T hT h1
      have : a = 3 := by omega
      subst this
      refine h115 _ _ _ _ _ ?_
      unfold mT_ways_115
      rw [hT.1.p]
      exact ⟨fun _ => e88 T hT h1, fun q => absurd (nI_le (Nat.le_refl 3) (by omega)) q⟩
    | succ d ih =>
      intro a ha T hT h1
      refine h115 _ _ _ _ _ ?_
      unfold mT_ways_115
      rw [hT.1.p]
      refine ⟨fun q => absurd q (nI_ge (by omega) (by omega)), fun _ => ?_⟩
      have e127 : ∀ d2 b, b + d2 = 3 → B127 T (nI 0) 0 (nI 0) (nI a) (nI b) := by
        intro d2
        induction d2 with
        | zero =>
          intro b hb
          have : b = 3 := by omega
          subst this
          refine h127 _ _ _ _ _ _ ?_
          unfold mT_ways_127
          rw [hT.1.p]
          exact ⟨fun _ => by rw [← nI_succ]; exact ih (a + 1) (by omega) T hT h1, fun q => absurd (nI_le (Nat.le_refl 3) (by omega)) q⟩
        | succ d2 ih2 =>
          intro b hb
          refine h127 _ _ _ _ _ _ ?_
          unfold mT_ways_127
          rw [hT.1.p]
          refine ⟨fun q => absurd q (nI_ge (by omega) (by omega)), fun _ => fy_leads l hT.1 a b (by omega) (by omega) _ (fy_isNear l T _ _ _ _ ⟨fun _ => h176 _ _ _ _ _ _ ?_, fun q => absurd (by decide) q⟩)⟩
          unfold mT_ways_176
          rw [← nI_succ]
          exact ih2 (b + 1) (by omega)
      exact e127 3 0 (by omega)
  have e0 : ∀ T, FG T → T.2.2 15 0 = 1 → B88 T (nI 0) 0 := by
    intro T hT h1
    refine h88 _ _ _ ?_
    unfold mT_ways_88
    rw [hT.2.1, z0]
    refine ⟨fun q => absurd q (by decide), fun _ => ⟨by unfold vp_in; decide, fun w hw => ?_⟩⟩
    rw [hT.2.2.1] at hw
    subst hw
    refine fy_unpack l hT.1 0 (by decide) _ (fun g => ?_)
    exact e115 3 0 (by omega) _ (hT.ma _ (Or.inl rfl)) h1
  have hM : ∀ f : Nat → Int64, FG (ml T 15 f) := fun f => hT
  have e1 : ∀ f : Nat → Int64, f 0 = 1 → B52 (ml T 15 f) (nI 0) (0 + 1) := by
    intro f hf1
    refine h52 _ _ _ ?_
    unfold mT_ways_52
    rw [(hM f).2.1]
    exact ⟨fun _ => e0 _ (hM f) ((congrFun (va_up_same T.2.2 15 f) 0).trans hf1), fun q => absurd (show nI 1 ≤ 0 + 1 by decide) q⟩
  refine h52 _ _ _ ?_
  unfold mT_ways_52
  rw [hT.2.1, z0, hT.2.2.1]
  refine ⟨fun q => absurd q (by decide), fun _ => ⟨by unfold vp_in; decide, fun q => absurd rfl q, fun _ => ⟨by unfold vp_in; decide, ?_⟩⟩⟩
  refine e1 _ ?_
  show vp_updL (T.2.2 15) (nI 0).toNatClampNeg 1 0 = 1
  unfold vp_updL
  rw [if_pos (by decide)]
