-- the class's search on a new object
theorem m127 (x : Int32) : vp_in (x &&& 127) 128 := pk_andIn x 7 (by decide) (by decide)
/-- behind from(): the start alone is settled -/
def CS1 (T : CS) : Prop := CF T ∧ T.1 13 = nI 1 ∧ T.1 12 = nI 0 ∧ T.2.1 24 0 = nI 0 ∧ T.2.1 26 0 = nI 0 ∧ T.2.2.1 25 0 = 1 ∧ (T.2.2.2 24 = 3 ∧ T.2.2.2 25 = 3 ∧ T.2.2.2 26 = 3 ∧ T.2.2.2 29 = 3)
theorem c_slotNone (l : Launch) (S : CS) (hh : ∀ j, j < 128 → S.2.1 23 j = -1) (a : Int32) (post : Int32 → CS → Prop) (h : post (-1) S) : cX_X6_slotFrom l S a post := by
  refine c_X6_slotFrom l S a post ?_
  intro B2 h2
  unfold cT_X6_slotFrom_e
  have e2 : ∀ d k, k + d = 128 → B2 S (nI k) := by
    intro d
    induction d with
    | zero =>
      intro k hk
      have : k = 128 := by omega
      subst this
      refine h2 _ _ ?_
      unfold cT_X6_slotFrom_2
      exact ⟨fun _ => h, fun q => absurd (show (128 : Int32) ≤ nI 128 by decide) q⟩
    | succ d ih =>
      intro k hk
      refine h2 _ _ ?_
      unfold cT_X6_slotFrom_2
      refine ⟨fun q => absurd q (nI_ge (a := k) (b := 128) (by omega) (by omega)), fun _ v hv => ?_⟩
      have hi : vp_in v 128 := by rw [hv]; exact m127 _
      refine ⟨hi, fun _ => ?_, fun q => absurd (hh _ (Nat.not_le.mp fun w => hi (Or.inr w))) q⟩
      rw [← nI_succ]
      exact ih (k + 1) (by omega)
  exact e2 128 0 (by omega)
theorem c_slot0 (l : Launch) (S : CS) (hh : ¬ S.2.1 23 0 = -1) (post : Int32 → CS → Prop) (h : post 0 S) : cX_X6_slotFrom l S 0 post := by
  refine c_X6_slotFrom l S 0 post ?_
  intro B2 h2
  unfold cT_X6_slotFrom_e
  refine h2 _ _ ?_
  unfold cT_X6_slotFrom_2
  refine ⟨fun q => absurd q (by decide), fun _ v hv => ?_⟩
  have hv0 : v = 0 := hv.trans (by decide)
  subst hv0
  rw [z0]
  exact ⟨by unfold vp_in; decide, fun q => absurd q hh, fun _ => h⟩
theorem c_from0 (l : Launch) {S : CS} (hc : CF S) (hs : S.1 12 = -1) (hl : S.2.2.2 24 = 0) (post : CS → Prop) (h : ∀ T, CS1 T → post T) : cX_X6_from l 6 18 S (nI 0) post := by
  refine c_X6_from l 6 18 S (nI 0) post ?_
  intro B35 B121 h35 h121
  unfold cT_X6_from_e
  rw [hs]
  refine ⟨fun _ => ⟨6, 18, by decide, by decide, ?_⟩, fun q => absurd q (by decide)⟩
  refine c_X6_prepare l 6 18 (cf S 12 (nI 0)) (S.1 5) _ ?_
  intro B51 h51
  unfold cT_X6_prepare_e
  rw [show (cf S 12 (nI 0)).2.2.2 24 = 0 from hl, hc.1.2.2.1, show (nI 3).toNatClampNeg = 3 by decide]
  refine ⟨fun q => absurd q (by decide), fun _ => ⟨by decide, by decide, by decide, by decide, by decide, by decide, by decide, by decide, by decide, by decide, by decide, by decide, by decide, by decide, by decide, by decide, by decide, by decide, by decide, by decide, by decide, by decide, by decide, by decide, h51 _ _ _ ?_⟩⟩
  unfold cT_X6_prepare_51
  obtain ⟨U, hU⟩ : ∃ U : CS, U = cn (ca (cn (ca (cn (ca (cn (ca (cn (cj (cn (ca (cf S 12 (nI 0)) 24 (fun _ => 0)) 24 3) 25 (fun _ => 0)) 25 3) 26 (fun _ => 0)) 26 3) 27 (fun _ => 0)) 27 3) 28 (fun _ => 0)) 28 3) 29 (fun _ => 0)) 29 3 := ⟨_, rfl⟩
  rw [← hU]
  have uc : CF U := by
    rw [hU]
    exact ((((((((((((hc.cf (nI 0) (Or.inl (by decide))).ca _ (by decide) (by decide)).cn _ _).cj _ _).cn _ _).ca _ (by decide) (by decide)).cn _ _).ca _ (by decide) (by decide)).cn _ _).ca _ (by decide) (by decide)).cn _ _).ca _ (by decide) (by decide)).cn _ _
  have u24 : U.2.2.2 24 = 3 := by rw [hU]; rfl
  have u25 : U.2.2.2 25 = 3 := by rw [hU]; rfl
  have u26 : U.2.2.2 26 = 3 := by rw [hU]; rfl
  have u27 : U.2.2.2 27 = 3 := by rw [hU]; rfl
  have u28 : U.2.2.2 28 = 3 := by rw [hU]; rfl
  have u29 : U.2.2.2 29 = 3 := by rw [hU]; rfl
  have us : U.1 12 = nI 0 := by rw [hU]; rfl
  clear hU
  rw [u24, u25]
  refine ⟨by decide, by decide, by decide, by decide, by decide, by decide, by decide, by decide, by decide, by decide, by decide, by decide, ?_⟩
  -- the first offer
  obtain ⟨V, hV⟩ : ∃ V : CS, V = cf (cj (ca (ca U 24 (filI (U.2.1 24) 3 (-1))) 23 (filI (U.2.1 23) 128 (-1))) 25 (filL (U.2.2.1 25) 3 0)) 13 0 := ⟨_, rfl⟩
  rw [← hV]
  have vc : CF V := by rw [hV]; exact (((uc.ca _ (by decide) (by decide)).ca _ (by decide) (by decide)).cj _ _).cf _ (Or.inl (by decide))
  have v24 : V.2.2.2 24 = 3 := by rw [hV]; exact u24
  have v25 : V.2.2.2 25 = 3 := by rw [hV]; exact u25
  have v26 : V.2.2.2 26 = 3 := by rw [hV]; exact u26
  have v27 : V.2.2.2 27 = 3 := by rw [hV]; exact u27
  have v28 : V.2.2.2 28 = 3 := by rw [hV]; exact u28
  have v29 : V.2.2.2 29 = 3 := by rw [hV]; exact u29
  have vs : V.1 12 = nI 0 := by rw [hV, cf_get_ne _ _ (by decide)]; exact us
  have v13 : V.1 13 = 0 := by rw [hV]; exact cf_get _ _ _
  have vk : V.2.1 24 0 = -1 := by
    rw [hV]
    show filI (U.2.1 24) 3 (-1) 0 = -1
    unfold filI
    rw [if_pos (by decide)]
  have vh : ∀ j, j < 128 → V.2.1 23 j = -1 := by
    intro j hj
    rw [hV]
    show filI (U.2.1 23) 128 (-1) j = -1
    unfold filI
    rw [if_pos hj]
  clear hV
  refine c_X6_offer l V (nI 0) 0 1 _ ?_
  intro B39 B50 h39 h50
  unfold cT_X6_offer_e
  rw [v24, show (nI 0).toNatClampNeg = 0 by decide, vk]
  refine ⟨by unfold vp_in; decide, fun v hv => ⟨fun _ => ⟨fun _ => h39 _ _ ?_, fun q => absurd hv q⟩, fun q => by rw [hv] at q; exact absurd q (by decide)⟩⟩
  subst hv
  unfold cT_X6_offer_39
  refine ⟨fun _ => h50 _ ?_, fun q => absurd rfl q⟩
  unfold cT_X6_offer_50
  rw [v24, v25, show (nI 0).toNatClampNeg = 0 by decide]
  refine ⟨by unfold vp_in; decide, by unfold vp_in; decide, ?_⟩
  refine c_X6_putIn l _ (nI 0) _ ?_
  unfold cT_X6_putIn_e
  rw [show (nI 0).toNatClampNeg = 0 by decide]
  have p24 : (cj (ca V 24 (upd (V.2.1 24) 0 0)) 25 (vp_updL (V.2.2.1 25) 0 1)).2.1 24 0 = 0 := by
    show upd (V.2.1 24) 0 0 0 = 0
    exact upd_same _ _ _
  have p23 : ∀ j, j < 128 → (cj (ca V 24 (upd (V.2.1 24) 0 0)) 25 (vp_updL (V.2.2.1 25) 0 1)).2.1 23 j = -1 := by
    intro j hj
    exact vh j hj
  have pr : (cj (ca V 24 (upd (V.2.1 24) 0 0)) 25 (vp_updL (V.2.2.1 25) 0 1)).2.2.1 25 0 = 1 := by
    rw [cj_get]
    unfold vp_updL
    rw [if_pos rfl]
  have pc : CF (cj (ca V 24 (upd (V.2.1 24) 0 0)) 25 (vp_updL (V.2.2.1 25) 0 1)) := (vc.ca _ (by decide) (by decide)).cj _ _
  have q24 : (cj (ca V 24 (upd (V.2.1 24) 0 0)) 25 (vp_updL (V.2.2.1 25) 0 1)).2.2.2 = V.2.2.2 := rfl
  have q1 : (cj (ca V 24 (upd (V.2.1 24) 0 0)) 25 (vp_updL (V.2.2.1 25) 0 1)).1 = V.1 := rfl
  generalize cj (ca V 24 (upd (V.2.1 24) 0 0)) 25 (vp_updL (V.2.2.1 25) 0 1) = P at p24 p23 pr pc q24 q1 ⊢
  rw [q24, v24, v27, v28, p24]
  refine ⟨by unfold vp_in; decide, fun v hv => ?_⟩
  have hv0 : v = 0 := hv.trans (by decide)
  subst hv0
  rw [z0, p23 0 (by decide)]
  refine ⟨by unfold vp_in; decide, fun w hw => ⟨by unfold vp_in; decide, by unfold vp_in; decide, fun _ => ⟨by unfold vp_in; decide, ?_⟩, fun q => absurd hw q⟩⟩
  subst hw
  -- the state with the start waiting
  obtain ⟨G, hG⟩ : ∃ G : CS, G = ca (ca (ca P 28 (upd (P.2.1 28) 0 (-1))) 27 (upd (P.2.1 27) 0 (-1))) 23 (upd (P.2.1 23) 0 (nI 0)) := ⟨_, rfl⟩
  rw [← hG]
  have gc : CF G := by rw [hG]; exact ((pc.ca _ (by decide) (by decide)).ca _ (by decide) (by decide)).ca _ (by decide) (by decide)
  have gl : G.2.2.2 = V.2.2.2 := by rw [hG]; exact q24
  have g1 : G.1 = V.1 := by rw [hG]; exact q1
  have g24 : G.2.1 24 0 = 0 := by rw [hG, ca_get_ne _ _ (by decide), ca_get_ne _ _ (by decide), ca_get_ne _ _ (by decide)]; exact p24
  have g28 : G.2.1 28 0 = -1 := by rw [hG, ca_get_ne _ _ (by decide), ca_get_ne _ _ (by decide), ca_get]; exact upd_same _ _ _
  have g27 : G.2.1 27 0 = -1 := by rw [hG, ca_get_ne _ _ (by decide), ca_get]; exact upd_same _ _ _
  have g23 : G.2.1 23 0 = nI 0 := by rw [hG, ca_get]; exact upd_same _ _ _
  have g23b : ∀ j, j < 128 → j ≠ 0 → G.2.1 23 j = -1 := fun j hj h0 => by rw [hG, ca_get, upd_other _ _ h0]; exact p23 j hj
  have gr : G.2.2.1 25 0 = 1 := by rw [hG]; exact pr
  clear hG
  refine h35 _ _ _ _ _ ?_
  unfold cT_X6_from_35
  rw [gc.1.2.2.1]
  refine ⟨fun q => absurd q (by decide), fun _ => ⟨by decide, by decide, c_slot0 l G (by rw [g23]; decide) _ ⟨fun _ => ⟨by unfold vp_in; decide, fun v hv => ⟨by decide, by decide, ?_⟩⟩, fun q => absurd q (by decide)⟩⟩⟩
  rw [z0, g23] at hv
  subst hv
  refine c_X6_takeOut l G (nI 0) _ ?_
  intro B44 h44
  unfold cT_X6_takeOut_e
  rw [gl, v28, v27, v24, show (nI 0).toNatClampNeg = 0 by decide, g28, g27, g24]
  refine ⟨by unfold vp_in; decide, fun v hv => ⟨by unfold vp_in; decide, fun w hw => ⟨fun q => absurd hv q, fun _ => ⟨by unfold vp_in; decide, by unfold vp_in; decide, h44 _ _ _ ?_⟩⟩⟩⟩
  subst hw
  unfold cT_X6_takeOut_44
  refine ⟨fun _ => ?_, fun q => absurd rfl q⟩
  rw [show ((0 : Int32) &&& 127).toNatClampNeg = 0 by decide]
  obtain ⟨K, hKe⟩ : ∃ K : CS, K = ca G 23 (upd (G.2.1 23) 0 (-1)) := ⟨_, rfl⟩
  rw [← hKe]
  have kc : CF K := by rw [hKe]; exact gc.ca _ (by decide) (by decide)
  have kl : K.2.2.2 = V.2.2.2 := by rw [hKe]; exact gl
  have k1 : K.1 = V.1 := by rw [hKe]; exact g1
  have k24 : K.2.1 24 0 = 0 := by rw [hKe, ca_get_ne _ _ (by decide)]; exact g24
  have k23 : ∀ j, j < 128 → K.2.1 23 j = -1 := by
    intro j hj
    rw [hKe, ca_get]
    by_cases e : j = 0
    · subst e; exact upd_same _ _ _
    · rw [upd_other _ _ e]; exact g23b j hj e
  have kr : K.2.2.1 25 0 = 1 := by rw [hKe]; exact gr
  clear hKe
  have k13 : K.1 13 = 0 := by rw [k1]; exact v13
  rw [kl, v24, v26, k13, z0]
  refine ⟨by unfold vp_in; decide, fun v hv => ⟨by unfold vp_in; decide, by decide, by decide, ?_⟩⟩
  rw [show (nI 0).toNatClampNeg = 0 by decide, k24] at hv
  subst hv
  refine c_read l ((kc.ca _ (by decide) (by decide)).cf _ (Or.inl (by decide))) 0 (by decide) _ (fun T hT => ⟨by decide, by decide, ?_⟩)
  obtain ⟨tc, -, -, t1, t2, t3⟩ := hT
  refine c_spread l tc _ ?_
  have nc : CF (cf T 6 0) := tc.cf _ (Or.inl (by decide))
  have n6 : (cf T 6 0).1 6 = 0 := cf_get _ _ _
  have n12 : (cf T 6 0).1 12 = nI 0 := by
    rw [cf_get_ne _ _ (by decide), t1 12 (by decide) (by decide), cf_get_ne _ _ (by decide)]
    show K.1 12 = nI 0
    rw [k1]; exact vs
  have n13 : (cf T 6 0).1 13 = nI 1 := by
    rw [cf_get_ne _ _ (by decide), t1 13 (by decide) (by decide), cf_get]
    decide
  have n23 : ∀ j, j < 128 → (cf T 6 0).2.1 23 j = -1 := by
    intro j hj
    show T.2.1 23 j = -1
    rw [t2 23 (Or.inr (by decide))]
    show (ca K 26 _).2.1 23 j = -1
    rw [ca_get_ne _ _ (by decide)]
    exact k23 j hj
  have n24 : (cf T 6 0).2.1 24 0 = nI 0 := by
    show T.2.1 24 0 = nI 0
    rw [t2 24 (Or.inr (by decide))]
    show (ca K 26 _).2.1 24 0 = nI 0
    rw [ca_get_ne _ _ (by decide)]
    exact k24
  have n26 : (cf T 6 0).2.1 26 0 = nI 0 := by
    show T.2.1 26 0 = nI 0
    rw [t2 26 (Or.inr (by decide))]
    show (ca K 26 _).2.1 26 0 = nI 0
    rw [ca_get]
    exact upd_same _ _ _
  have nr : (cf T 6 0).2.2.1 25 0 = 1 := by
    show T.2.2.1 25 0 = 1
    rw [t3]
    exact kr
  have nl : (cf T 6 0).2.2.2 = V.2.2.2 := by
    show T.2.2.2 = V.2.2.2
    rw [t3]
    exact kl
  generalize cf T 6 0 = N at nc n6 n12 n13 n23 n24 n26 nr nl ⊢
  refine h121 _ _ _ _ _ _ _ ?_
  unfold cT_X6_from_121
  rw [n6]
  refine ⟨fun _ => h35 _ _ _ _ _ ?_, fun q => absurd (by decide) q⟩
  unfold cT_X6_from_35
  rw [nc.1.2.2.1]
  refine ⟨fun q => absurd q (by decide), fun _ => ⟨by decide, by decide, c_slotNone l N n23 _ _ ⟨fun q => absurd rfl q, fun _ => ⟨by decide, by decide, h N ⟨nc, n13, n12, n24, n26, nr, by rw [nl]; exact v24, by rw [nl]; exact v25, by rw [nl]; exact v26, by rw [nl]; exact v29⟩⟩⟩⟩⟩
theorem c_searched0 (l : Launch) (post : Bool → CS → Prop) (h : ∀ T, CS1 T → post true T) : cX_X8_searched l 6 18 cS0 post := by
  refine c_X8_searched l 6 18 cS0 post ?_
  unfold cT_X8_searched_e
  refine ⟨fun _ => ⟨6, 18, by decide, by decide, c_from0 l CF0 rfl rfl _ (fun T hT => ⟨by decide, by decide, c_accept l T _ ⟨by decide, by decide, h _ ?_⟩⟩)⟩, fun q => absurd (by decide) q⟩
  obtain ⟨t1, t2, t3, t4, t5, t6, t7⟩ := hT
  exact ⟨t1.cf _ (Or.inr rfl), by rw [cf_get_ne _ _ (by decide)]; exact t2, by rw [cf_get_ne _ _ (by decide)]; exact t3, t4, t5, t6, t7⟩
theorem p1c_14 (l : Launch) (post : Int32 → CS → Prop) (h : ∀ S, post 0 S) : cX_X8_fewest l 6 18 cS0 post := by
  refine c_X8_fewest l 6 18 cS0 post ?_
  unfold cT_X8_fewest_e
  refine ⟨6, 18, by decide, by decide, c_searched0 l _ (fun T hT => ⟨fun _ => ⟨by decide, by decide, ?_⟩, fun q => absurd q (by decide)⟩)⟩
  refine c_X6_costTo l T (T.1 1) _ ?_
  unfold cT_X6_costTo_e
  rw [hT.1.1.2.2.2.2, show (nI 0).toNatClampNeg = 0 by decide, hT.2.2.2.1, hT.2.2.2.2.2.2.1]
  exact ⟨by unfold vp_in; decide, fun _ => ⟨by decide, by decide, h T⟩, fun q => absurd q (by decide)⟩
theorem p1c_17 (l : Launch) (post : Int64 → CS → Prop) (h : ∀ S, post 1 S) : cX_X8_ways l 6 18 cS0 post := by
  refine c_X8_ways l 6 18 cS0 post ?_
  unfold cT_X8_ways_e
  refine ⟨6, 18, by decide, by decide, c_searched0 l _ (fun T hT => ⟨fun _ => ⟨by decide, by decide, ?_⟩, fun q => absurd q (by decide)⟩)⟩
  refine c_X6_rowsTo l T (T.1 1) _ ?_
  unfold cT_X6_rowsTo_e
  rw [hT.1.1.2.2.2.2, show (nI 0).toNatClampNeg = 0 by decide, hT.2.2.2.2.2.1, hT.2.2.2.2.2.2.2.1]
  exact ⟨by unfold vp_in; decide, by decide, by decide, h T⟩
theorem p1c_18 (l : Launch) (post : Int32 → CS → Prop) (h : ∀ S, post 1 S) : cX_X8_reach l 6 18 cS0 post := by
  refine c_X8_reach l 6 18 cS0 post ?_
  unfold cT_X8_reach_e
  refine ⟨6, 18, by decide, by decide, c_searched0 l _ (fun T hT => ⟨fun q => absurd q (by decide), fun _ => ⟨by decide, by decide, ?_⟩⟩)⟩
  rw [hT.2.1]
  exact h T
theorem c_great0 (l : Launch) {T : CS} (hT : CS1 T) (post : Int32 → CS → Prop) (h : post (nI 0) T) : cX_X6_greatestCost l T post := by
  refine c_X6_greatestCost l T post ?_
  unfold cT_X6_greatestCost_e
  rw [hT.2.1, show (nI 1 - 1).toNatClampNeg = 0 by decide, hT.2.2.2.2.1, show (nI 0).toNatClampNeg = 0 by decide, hT.2.2.2.1, hT.2.2.2.2.2.2.2.2.1, hT.2.2.2.2.2.2.1]
  exact ⟨fun _ => ⟨by unfold vp_in; decide, by unfold vp_in; decide, h⟩, fun q => absurd q (by decide)⟩
theorem p1c_19 (l : Launch) (post : Int32 → CS → Prop) (h : ∀ S, post 0 S) : cX_X8_far l 6 18 cS0 post := by
  refine c_X8_far l 6 18 cS0 post ?_
  unfold cT_X8_far_e
  exact ⟨6, 18, by decide, by decide, c_searched0 l _ (fun T hT => ⟨fun q => absurd q (by decide), fun _ => ⟨by decide, by decide, c_great0 l hT _ ⟨by decide, by decide, h T⟩⟩⟩)⟩
theorem p1c_20 (l : Launch) (post : Int32 → CS → Prop) (h : ∀ S, post 0 S) : cX_X8_farthest l 6 18 cS0 post := by
  refine c_X8_farthest l 6 18 cS0 post ?_
  unfold cT_X8_farthest_e
  refine ⟨6, 18, by decide, by decide, c_searched0 l _ (fun T hT => ⟨fun q => absurd q (by decide), fun _ => ⟨by decide, by decide, ?_⟩⟩)⟩
  refine c_X6_leastOfFarthest l T _ ?_
  intro B17 B56 B63 h17 h56 h63
  unfold cT_X6_leastOfFarthest_e
  refine c_great0 l hT _ (fun v hv w hw => ?_)
  rw [hT.2.2.1] at hv
  rw [hT.2.1] at hw
  have hw0 : w = 0 := hw.trans (by decide)
  subst hv
  subst hw0
  refine h17 _ _ _ _ ?_
  unfold cT_X6_leastOfFarthest_17
  rw [z0, hT.2.2.2.2.1, show (nI 0).toNatClampNeg = 0 by decide, hT.2.2.2.1, hT.2.2.2.2.2.2.2.2.1, hT.2.2.2.2.2.2.1, hT.2.1]
  refine ⟨fun q => absurd q (by decide), fun _ => ⟨by unfold vp_in; decide, by unfold vp_in; decide, fun q => absurd rfl q, fun _ => ⟨fun _ => h56 _ _ _ ?_, fun q => absurd (by decide) q⟩⟩⟩
  unfold cT_X6_leastOfFarthest_56
  rw [z0, hT.2.2.2.2.1, hT.2.2.2.2.2.2.2.2.1]
  refine ⟨by unfold vp_in; decide, fun v hv => h63 _ _ _ _ ?_⟩
  subst hv
  unfold cT_X6_leastOfFarthest_63
  refine h17 _ _ _ _ ?_
  unfold cT_X6_leastOfFarthest_17
  exact ⟨fun _ => ⟨by decide, by decide, h T⟩, fun q => absurd (by decide) q⟩
theorem p1c_15 (l : Launch) (post : Int32 → CS → Prop) (h : ∀ S, post 0 S) : cX_X8_plan l 6 18 cS0 post := by
  refine c_X8_plan l 6 18 cS0 post ?_
  unfold cT_X8_plan_e
  refine ⟨6, 18, by decide, by decide, c_searched0 l _ (fun T hT => ⟨fun _ => ⟨by decide, by decide, ?_⟩, fun q => absurd q (by decide)⟩)⟩
  refine c_X6_costTo l T (T.1 1) _ ?_
  unfold cT_X6_costTo_e
  rw [hT.1.1.2.2.2.2, show (nI 0).toNatClampNeg = 0 by decide, hT.2.2.2.1, hT.2.2.2.2.2.2.1]
  refine ⟨by unfold vp_in; decide, fun _ => ⟨0, 0, by decide, by decide, ?_⟩, fun q => absurd q (by decide)⟩
  rw [hT.1.1.2.2.2.2]
  refine c_X6_writePlan l 0 0 T (nI 0) _ ?_
  intro B22 h22
  unfold cT_X6_writePlan_e
  refine ⟨by decide, by decide, ?_⟩
  refine c_X6_markLeading l T (nI 0) _ ?_
  intro B23 B73 h23 h73
  unfold cT_X6_markLeading_e
  rw [hT.2.2.2.2.2.2.2.2.2, hT.2.1]
  refine ⟨by decide, by unfold vp_in; decide, fun v hv => ?_⟩
  have hv0 : v = 0 := hv.trans (by decide)
  subst hv0
  have e22 : ∀ U : CS, CF U → U.1 12 = nI 0 → B22 0 0 (cf U 11 0) (nI 0) 0 := by
    intro U uc us
    refine h22 _ _ _ _ _ ?_
    unfold cT_X6_writePlan_22
    rw [(uc.cf (k := 11) 0 (Or.inl (by decide))).1.2.2.1]
    refine ⟨fun q => absurd q (by decide), fun _ => ⟨fun _ => ⟨by decide, by decide, by decide, by decide, ?_⟩, fun q => absurd rfl q⟩⟩
    rw [cf_get]
    exact h _
  refine h23 _ _ ?_
  unfold cT_X6_markLeading_23
  obtain ⟨U, hU⟩ : ∃ U : CS, U = ca (ca T 29 (filI (T.2.1 29) 3 0)) 29 (upd (filI (T.2.1 29) 3 0) (nI 0).toNatClampNeg 1) := ⟨_, rfl⟩
  rw [← hU]
  have uc : CF U := by rw [hU]; exact (hT.1.ca _ (by decide) (by decide)).ca _ (by decide) (by decide)
  have us : U.1 12 = nI 0 := by rw [hU]; exact hT.2.2.1
  have u26 : U.2.1 26 0 = nI 0 := by rw [hU, ca_get_ne _ _ (by decide), ca_get_ne _ _ (by decide)]; exact hT.2.2.2.2.1
  have ul24 : U.2.2.2 24 = 3 := by rw [hU]; exact hT.2.2.2.2.2.2.1
  have ul26 : U.2.2.2 26 = 3 := by rw [hU]; exact hT.2.2.2.2.2.2.2.2.1
  clear hU
  rw [z0, u26, ul24, ul26]
  refine ⟨fun q => absurd q (by decide), fun _ => ⟨by unfold vp_in; decide, fun v hv => ?_⟩⟩
  subst hv
  refine ⟨by unfold vp_in; decide, by unfold vp_in; decide, fun _ => h73 _ _ ?_, fun q => absurd (Int32.le_refl _) q⟩
  unfold cT_X6_markLeading_73
  refine h23 _ _ ?_
  unfold cT_X6_markLeading_23
  refine ⟨fun _ v hv => ?_, fun q => absurd (by decide) q⟩
  rw [us] at hv
  subst hv
  exact e22 U uc us
