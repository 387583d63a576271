-- the class's sets on a new object
/-- k sets of one stand each are told -/
def KJ (k : Nat) (S : CS) : Prop := CF S ∧ (S.1 15 = 0 ∧ S.1 16 = 0 ∧ S.1 18 = nI k) ∧ (S.2.2.2 30 = 3 ∧ S.2.2.2 31 = 3 ∧ S.2.2.2 32 = 3 ∧ S.2.2.2 33 = 3 ∧ S.2.2.2 34 = 3 ∧ S.2.2.2 35 = 3 ∧ S.2.2.2 36 = 3 ∧ S.2.2.2 37 = 3) ∧ (∀ i, i < k → S.2.1 35 i = nI i ∧ S.2.1 36 i = nI 1) ∧ (∀ i, k ≤ i → i < 3 → S.2.1 30 i = 0 ∧ S.2.1 35 i = -1 ∧ S.2.1 36 i = 0) ∧ (∀ i, i < 3 → S.2.1 37 i = 0)
/-- the same, carried over what reads stands alone -/
theorem KJ.over {k : Nat} {S T : CS} (h : KJ k S) (hc : CF T) (h1 : ∀ j, j = 15 ∨ j = 16 ∨ j = 18 → T.1 j = S.1 j) (h2 : ∀ j, 29 < j → T.2.1 j = S.2.1 j) (h3 : T.2.2 = S.2.2) : KJ k T := by
  obtain ⟨-, ⟨a1, a2, a3⟩, a4, a5, a6, a7⟩ := h
  refine ⟨hc, ⟨?_, ?_, ?_⟩, ?_, ?_, ?_, ?_⟩
  · rw [h1 15 (by omega)]; exact a1
  · rw [h1 16 (by omega)]; exact a2
  · rw [h1 18 (by omega)]; exact a3
  · rw [h3]; exact a4
  · rw [h2 35 (by omega), h2 36 (by omega)]; exact a5
  · rw [h2 30 (by omega), h2 35 (by omega), h2 36 (by omega)]; exact a6
  · rw [h2 37 (by omega)]; exact a7
theorem KJ.rd {k m : Nat} {S T : CS} (h : KJ k S) (hT : RD S T m) : KJ k T := h.over hT.1 (fun j hj => hT.2.2.2.1 j (by omega) (by omega)) (fun j hj => hT.2.2.2.2.1 j (Or.inr (by omega))) hT.2.2.2.2.2
theorem KJ.sp {k : Nat} {S : CS} (h : KJ k S) : KJ k (cf S 6 0) := h.over (h.1.cf _ (Or.inl (by decide))) (fun j hj => cf_get_ne _ _ (by omega)) (fun _ _ => rfl) rfl
/-- the walk of the stand k -/
theorem c_walk0 (l : Launch) {S : CS} (k : Nat) (hk : k < 3) (hS : KJ k S) (post : CS → Prop) (h : ∀ T, KJ (k + 1) T → post T) : cX_X2_walk l S (nI k) post := by
  refine c_X2_walk l S (nI k) post ?_
  intro B8 B70 h8 h70
  unfold cT_X2_walk_e
  obtain ⟨s0, ⟨s15, s16, s18⟩, ⟨l30, l31, l32, l33, l34, l35, l36, l37⟩, sa, sb, sc⟩ := hS
  refine c_X2_enter l S (nI k) _ ?_
  unfold cT_X2_enter_e
  rw [l30, l31, l32, l33, l34, s15, s16, z0, nI_clamp (show k < 2 ^ 31 by omega)]
  refine ⟨vp_in_nI (by omega) (by omega), vp_in_nI (by omega) (by omega), vp_in_nI (by omega) (by omega), by unfold vp_in; decide, by unfold vp_in; decide, ?_⟩
  obtain ⟨U, hU⟩ : ∃ U : CS, U = cf (ca (cf (ca (ca (ca (ca (cf S 14 (S.1 14 + 1)) 30 (upd (S.2.1 30) k (S.1 14 + 1))) 31 (upd (S.2.1 31) k (S.1 14 + 1))) 32 (upd (S.2.1 32) k 0)) 33 (upd (S.2.1 33) 0 (nI k))) 15 (0 + 1)) 34 (upd (S.2.1 34) 0 (nI k))) 16 (0 + 1) := ⟨_, rfl⟩
  rw [← hU]
  have uc : CF U := by
    rw [hU]
    exact (((((((s0.cf _ (Or.inl (by decide))).ca _ (by decide) (by decide)).ca _ (by decide) (by decide)).ca _ (by decide) (by decide)).ca _ (by decide) (by decide)).cf _ (Or.inl (by decide))).ca _ (by decide) (by decide)).cf _ (Or.inl (by decide))
  have u15 : U.1 15 = 1 := by rw [hU]; rfl
  have u16 : U.1 16 = 1 := by rw [hU]; rfl
  have u18 : U.1 18 = nI k := by rw [hU]; exact s18
  have ul : U.2.2 = S.2.2 := by rw [hU]; rfl
  have u30 : U.2.1 30 = upd (S.2.1 30) k (S.1 14 + 1) := by rw [hU]; rfl
  have u31 : U.2.1 31 = upd (S.2.1 31) k (S.1 14 + 1) := by rw [hU]; rfl
  have u32 : U.2.1 32 = upd (S.2.1 32) k 0 := by rw [hU]; rfl
  have u33 : U.2.1 33 = upd (S.2.1 33) 0 (nI k) := by rw [hU]; rfl
  have u34 : U.2.1 34 = upd (S.2.1 34) 0 (nI k) := by rw [hU]; rfl
  have u35 : U.2.1 35 = S.2.1 35 := by rw [hU]; rfl
  have u36 : U.2.1 36 = S.2.1 36 := by rw [hU]; rfl
  have u37 : U.2.1 37 = S.2.1 37 := by rw [hU]; rfl
  clear hU
  refine h8 _ _ ?_
  unfold cT_X2_walk_8
  rw [uc.1.2.2.1, u15, ul, l33, show ((1 : Int32) - 1).toNatClampNeg = 0 by decide, u33, upd_same]
  refine ⟨fun q => absurd q (by decide), fun _ => ⟨fun q => absurd q (by decide), fun _ => ⟨by unfold vp_in; decide, fun v hv => ?_⟩⟩⟩
  subst hv
  refine c_X2_nextUnseen l U (nI k) _ ?_
  intro B19 B91 h19 h91
  unfold cT_X2_nextUnseen_e
  refine c_read l uc k hk _ (fun T hT => c_spread l hT.1 _ ?_)
  have tc : CF (cf T 6 0) := hT.1.cf _ (Or.inl (by decide))
  have t6 : (cf T 6 0).1 6 = 0 := cf_get _ _ _
  have t1 : ∀ j, j = 5 ∨ j = 15 ∨ j = 16 ∨ j = 18 → (cf T 6 0).1 j = U.1 j := fun j hj => by rw [cf_get_ne _ _ (by omega)]; exact hT.2.2.2.1 j (by omega) (by omega)
  have t2 : ∀ j, 29 < j → (cf T 6 0).2.1 j = U.2.1 j := fun j hj => hT.2.2.2.2.1 j (Or.inr (by omega))
  have t3 : (cf T 6 0).2.2 = S.2.2 := (show T.2.2 = S.2.2 by rw [hT.2.2.2.2.2, ul])
  generalize cf T 6 0 = N at tc t6 t1 t2 t3 ⊢
  rw [t3, l32, nI_clamp (show k < 2 ^ 31 by omega), t2 32 (by decide), u32, upd_same]
  refine ⟨vp_in_nI (by omega) (by omega), fun v hv => ?_⟩
  subst hv
  refine h19 _ _ ?_
  unfold cT_X2_nextUnseen_19
  rw [t6]
  refine ⟨fun _ => ⟨fun q => absurd rfl q, fun _ => ?_⟩, fun q => absurd (by decide) q⟩
  refine c_X2_leave l N (nI k) _ ?_
  intro B28 h28
  unfold cT_X2_leave_e
  rw [t3, l31, l30, nI_clamp (show k < 2 ^ 31 by omega), t2 31 (by decide), t2 30 (by decide), u31, u30, upd_same, upd_same]
  refine ⟨vp_in_nI (by omega) (by omega), vp_in_nI (by omega) (by omega), fun _ => h28 _ _ ?_, fun q => absurd rfl q⟩
  unfold cT_X2_leave_28
  rw [show (cf N 15 (N.1 15 - 1)).1 16 = 1 by rw [cf_get_ne _ _ (by decide), t1 16 (by omega)]; exact u16]
  rw [show (cf N 15 (N.1 15 - 1)).2.2 = S.2.2 from t3, l34, l35, l36, show (cf N 15 (N.1 15 - 1)).1 18 = nI k by rw [cf_get_ne _ _ (by decide), t1 18 (by omega)]; exact u18]
  rw [show ((1 : Int32) - 1).toNatClampNeg = 0 by decide, show (cf N 15 (N.1 15 - 1)).2.1 34 0 = nI k by show N.2.1 34 0 = nI k; rw [t2 34 (by decide), u34, upd_same]]
  refine ⟨fun q => absurd q (by decide), fun _ => ⟨fun q => absurd q (by decide), fun _ => ⟨by unfold vp_in; decide, fun v hv => ?_⟩⟩⟩
  subst hv
  refine ⟨vp_in_nI (by omega) (by omega), vp_in_nI (by omega) (by omega), vp_in_nI (by omega) (by omega), fun _ => h28 _ _ ?_, fun q => absurd rfl q⟩
  unfold cT_X2_leave_28
  refine ⟨fun _ => h70 _ _ ?_, fun q => absurd rfl q⟩
  unfold cT_X2_walk_70
  rw [nI_clamp (show k < 2 ^ 31 by omega)]
  have e35 : (cf N 15 (N.1 15 - 1)).2.1 35 = S.2.1 35 := by show N.2.1 35 = S.2.1 35; rw [t2 35 (by decide), u35]
  have e36 : (cf N 15 (N.1 15 - 1)).2.1 36 = S.2.1 36 := by show N.2.1 36 = S.2.1 36; rw [t2 36 (by decide), u36]
  rw [e35, e36]
  obtain ⟨Z, hZ⟩ : ∃ Z : CS, Z = cf (ca (ca (cf (cf N 15 (N.1 15 - 1)) 16 (1 - 1)) 35 (upd (S.2.1 35) k (nI k))) 36 (upd (S.2.1 36) k (S.2.1 36 k + 1))) 18 ((ca (ca (cf (cf N 15 (N.1 15 - 1)) 16 (1 - 1)) 35 (upd (S.2.1 35) k (nI k))) 36 (upd (S.2.1 36) k (S.2.1 36 k + 1))).1 18 + 1) := ⟨_, rfl⟩
  rw [← hZ]
  have zc : CF Z := by
    rw [hZ]
    exact ((((tc.cf _ (Or.inl (by decide))).cf _ (Or.inl (by decide))).ca _ (by decide) (by decide)).ca _ (by decide) (by decide)).cf _ (Or.inl (by decide))
  have z15 : Z.1 15 = 0 := by
    rw [hZ]
    show N.1 15 - 1 = 0
    rw [t1 15 (by omega), u15]; decide
  have hJ : KJ (k + 1) Z := by
    refine ⟨zc, ⟨z15, ?_, ?_⟩, ?_, fun i hi => ?_, fun i hi hi2 => ?_, fun i hi => ?_⟩
    · rw [hZ]
      show (1 : Int32) - 1 = 0
      decide
    · rw [hZ, cf_get]
      show N.1 18 + 1 = nI (k + 1)
      rw [t1 18 (by omega), u18, nI_succ]
    · rw [show Z.2.2 = S.2.2 by rw [hZ]; exact t3]
      exact ⟨l30, l31, l32, l33, l34, l35, l36, l37⟩
    · rw [show Z.2.1 35 = upd (S.2.1 35) k (nI k) by rw [hZ]; rfl, show Z.2.1 36 = upd (S.2.1 36) k (S.2.1 36 k + 1) by rw [hZ]; rfl]
      by_cases e : i = k
      · subst e
        rw [upd_same, upd_same, (sb i (Nat.le_refl i) hk).2.2]
        exact ⟨rfl, rfl⟩
      · rw [upd_other _ _ e, upd_other _ _ e]
        exact sa i (by omega)
    · rw [show Z.2.1 35 = upd (S.2.1 35) k (nI k) by rw [hZ]; rfl, show Z.2.1 36 = upd (S.2.1 36) k (S.2.1 36 k + 1) by rw [hZ]; rfl, show Z.2.1 30 = U.2.1 30 by rw [hZ]; exact t2 30 (by decide), u30, upd_other _ _ (show i ≠ k by omega), upd_other _ _ (show i ≠ k by omega), upd_other _ _ (show i ≠ k by omega)]
      exact sb i (by omega) hi2
    · rw [show Z.2.1 37 = U.2.1 37 by rw [hZ]; exact t2 37 (by decide), u37]
      exact sc i hi
  clear hZ
  refine h8 _ _ ?_
  unfold cT_X2_walk_8
  rw [zc.1.2.2.1, z15]
  exact ⟨fun q => absurd q (by decide), fun _ => ⟨fun _ => h Z hJ, fun q => absurd (by decide) q⟩⟩
theorem c_find0 (l : Launch) {S : CS} (hc : CF S) (hf : S.1 17 = 0) (hl : S.2.2.2 30 = 0) (post : CS → Prop) (h : ∀ T, KJ 3 T → post T) : cX_X2_find l 8 24 S post := by
  refine c_X2_find l 8 24 S post ?_
  intro B23 B60 B68 B93 h23 h60 h68 h93
  unfold cT_X2_find_e
  rw [hf]
  refine ⟨fun _ => ⟨8, 24, by decide, by decide, ?_⟩, fun q => absurd rfl q⟩
  refine c_X2_prepare l 8 24 (cf S 17 1) (S.1 5) _ ?_
  intro B65 h65
  unfold cT_X2_prepare_e
  rw [show (cf S 17 1).2.2.2 30 = 0 from hl, hc.1.2.2.1, show (nI 3).toNatClampNeg = 3 by decide]
  refine ⟨fun q => absurd q (by decide), fun _ => ⟨by decide, by decide, by decide, by decide, by decide, by decide, by decide, by decide, by decide, by decide, by decide, by decide, by decide, by decide, by decide, by decide, by decide, by decide, by decide, by decide, by decide, by decide, by decide, by decide, by decide, by decide, by decide, by decide, by decide, by decide, by decide, by decide, h65 _ _ _ ?_⟩⟩
  unfold cT_X2_prepare_65
  obtain ⟨U, hU⟩ : ∃ U : CS, U = cn (ca (cn (ca (cn (ca (cn (ca (cn (ca (cn (ca (cn (ca (cn (ca (cf S 17 1) 30 (fun _ => 0)) 30 3) 31 (fun _ => 0)) 31 3) 32 (fun _ => 0)) 32 3) 33 (fun _ => 0)) 33 3) 34 (fun _ => 0)) 34 3) 35 (fun _ => 0)) 35 3) 36 (fun _ => 0)) 36 3) 37 (fun _ => 0)) 37 3 := ⟨_, rfl⟩
  rw [← hU]
  have uc : CF U := by
    rw [hU]
    exact ((((((((((((((((hc.cf 1 (Or.inl (by decide))).ca _ (by decide) (by decide)).cn _ _).ca _ (by decide) (by decide)).cn _ _).ca _ (by decide) (by decide)).cn _ _).ca _ (by decide) (by decide)).cn _ _).ca _ (by decide) (by decide)).cn _ _).ca _ (by decide) (by decide)).cn _ _).ca _ (by decide) (by decide)).cn _ _).ca _ (by decide) (by decide)).cn _ _
  have ul : U.2.2.2 30 = 3 ∧ U.2.2.2 31 = 3 ∧ U.2.2.2 32 = 3 ∧ U.2.2.2 33 = 3 ∧ U.2.2.2 34 = 3 ∧ U.2.2.2 35 = 3 ∧ U.2.2.2 36 = 3 ∧ U.2.2.2 37 = 3 := by rw [hU]; exact ⟨rfl, rfl, rfl, rfl, rfl, rfl, rfl, rfl⟩
  clear hU
  rw [ul.1, ul.2.2.2.2.2.1, ul.2.2.2.2.2.2.1, ul.2.2.2.2.2.2.2]
  refine ⟨by decide, by decide, by decide, by decide, by decide, by decide, by decide, by decide, by decide, by decide, by decide, by decide, by decide, by decide, ?_⟩
  have e68 : ∀ d k, k + d = 3 → ∀ T, KJ 3 T → B68 8 24 T (nI k) := by
    intro d
    induction d with
    | zero =>
      intro k hk T hT
      have : k = 3 := by omega
      subst this
      refine h68 _ _ _ _ ?_
      unfold cT_X2_find_68
      rw [hT.1.1.2.2.1]
      exact ⟨fun _ => ⟨by decide, by decide, h T hT⟩, fun q => absurd (nI_le (Nat.le_refl 3) (by omega)) q⟩
    | succ d ih =>
      intro k hk T hT
      have e93 : ∀ T, KJ 3 T → B93 8 24 T (nI k) := by
        intro T hT
        refine h93 _ _ _ _ ?_
        unfold cT_X2_find_93
        rw [← nI_succ]
        exact ih (k + 1) (by omega) T hT
      refine h68 _ _ _ _ ?_
      unfold cT_X2_find_68
      rw [hT.1.1.2.2.1, hT.2.2.1.2.2.2.2.2.1]
      refine ⟨fun q => absurd q (nI_ge (by omega) (by omega)), fun _ => ⟨vp_in_nI (by omega) (by omega), fun _ => e93 T hT, fun _ => ⟨by decide, by decide, ?_⟩⟩⟩
      refine c_X2_seekWayOut l T (nI k) _ ?_
      intro B34 B68b h34 h68b
      unfold cT_X2_seekWayOut_e
      rw [hT.2.2.1.2.2.2.2.2.1, hT.2.2.1.2.2.2.2.2.2.2, nI_clamp (show k < 2 ^ 31 by omega), (hT.2.2.2.1 k (by omega)).1]
      refine ⟨vp_in_nI (by omega) (by omega), fun v hv => ?_⟩
      subst hv
      rw [nI_clamp (show k < 2 ^ 31 by omega), hT.2.2.2.2.2 k (by omega)]
      refine ⟨vp_in_nI (by omega) (by omega), fun _ => ?_, fun q => absurd q (by decide)⟩
      refine c_read l hT.1 k (by omega) _ (fun V hV => c_spread l hV.1 _ (h34 _ _ _ ?_))
      unfold cT_X2_seekWayOut_34
      rw [cf_get]
      exact ⟨fun _ => e93 _ (hT.rd hV).sp, fun q => absurd (by decide) q⟩
  have e23 : ∀ d k, k + d = 3 → ∀ T, KJ k T → B23 8 24 T (nI k) := by
    intro d
    induction d with
    | zero =>
      intro k hk T hT
      have : k = 3 := by omega
      subst this
      refine h23 _ _ _ _ ?_
      unfold cT_X2_find_23
      rw [hT.1.1.2.2.1]
      exact ⟨fun _ => e68 3 0 (by omega) T hT, fun q => absurd (nI_le (Nat.le_refl 3) (by omega)) q⟩
    | succ d ih =>
      intro k hk T hT
      refine h23 _ _ _ _ ?_
      unfold cT_X2_find_23
      rw [hT.1.1.2.2.1, hT.2.2.1.1, nI_clamp (show k < 2 ^ 31 by omega), (hT.2.2.2.2.1 k (Nat.le_refl k) (by omega)).1]
      refine ⟨fun q => absurd q (nI_ge (by omega) (by omega)), fun _ => ⟨vp_in_nI (by omega) (by omega), fun q => absurd rfl q, fun _ => ⟨by decide, by decide, ?_⟩⟩⟩
      refine c_read l hT.1 k (by omega) _ (fun V hV => ⟨fun q => absurd q (by rw [hV.2.1]; decide), fun _ => ⟨by decide, by decide, ?_⟩⟩)
      refine c_walk0 l k (by omega) (hT.rd hV) _ (fun W hW => h60 _ _ _ _ ?_)
      unfold cT_X2_find_60
      rw [← nI_succ]
      exact ih (k + 1) (by omega) W hW
  refine e23 3 0 (by omega) _ ⟨?_, ⟨?_, ?_, ?_⟩, ul, fun i hi => absurd hi (by omega), fun i _ hi => ⟨?_, ?_, ?_⟩, fun i hi => ?_⟩
  · exact (((((((uc.ca _ (by decide) (by decide)).ca _ (by decide) (by decide)).ca _ (by decide) (by decide)).ca _ (by decide) (by decide)).cf _ (Or.inl (by decide))).cf _ (Or.inl (by decide))).cf _ (Or.inl (by decide))).cf _ (Or.inl (by decide))
  · rfl
  · rfl
  · rfl
  · show filI (U.2.1 30) 3 0 i = 0
    unfold filI; rw [if_pos hi]
  · show filI (U.2.1 35) 3 (-1) i = -1
    unfold filI; rw [if_pos hi]
  · show filI (U.2.1 36) 3 0 i = 0
    unfold filI; rw [if_pos hi]
  · show filI (U.2.1 37) 3 0 i = 0
    unfold filI; rw [if_pos hi]
theorem p1c_21 (l : Launch) (a : Int32) (post : Int32 → CS → Prop) (h : ∀ S, post (if a = 0 then 3 else if a = 1 then 1 else if a = 2 then 3 else if a = 3 then 1 else -1) S) : cX_X8_joined l 8 24 cS0 a post := by
  refine c_X8_joined l 8 24 cS0 a post ?_
  intro B28 h28
  unfold cT_X8_joined_e
  have e28 : ¬ ((0 : Int32) ≤ a ∧ a ≤ 3) → B28 0 0 cS0 := by
    intro q
    refine h28 _ _ _ ?_
    unfold cT_X8_joined_28
    refine ⟨by decide, by decide, c_none l _ 1 _ ⟨by decide, by decide, ?_⟩⟩
    have := h (cf cS0 2 1)
    rw [if_neg (fun w => q (by rw [w]; decide)), if_neg (fun w => q (by rw [w]; decide)), if_neg (fun w => q (by rw [w]; decide)), if_neg (fun w => q (by rw [w]; decide))] at this
    exact this
  refine ⟨fun _ => ⟨fun c => e28 (fun q => absurd c (Int32.not_lt.mpr q.1)), fun c => ⟨fun c2 => ⟨8, 24, by decide, by decide, ?_⟩, fun c2 => e28 (fun q => c2 q.2)⟩⟩, fun q => absurd (by decide) q⟩
  refine c_find0 l (CF0.cf _ (Or.inr rfl)) rfl rfl _ (fun T hT => ⟨fun e => ⟨by decide, by decide, ?_⟩, fun e => ⟨by decide, by decide, ?_⟩, fun e => ⟨by decide, by decide, ?_⟩, fun e => ⟨by decide, by decide, ?_⟩⟩)
  · rw [hT.2.1.2.2]
    have := h T
    rw [e] at this
    exact this
  · refine c_X2_sizeOfSet l T (T.1 0) _ ?_
    unfold cT_X2_sizeOfSet_e
    rw [hT.1.1.2.2.2.1, show (nI 0).toNatClampNeg = 0 by decide, (hT.2.2.2.1 0 (by decide)).1, hT.2.2.1.2.2.2.2.2.1, hT.2.2.1.2.2.2.2.2.2.1]
    refine ⟨by unfold vp_in; decide, fun v hv => ⟨fun _ => ?_, fun q => by rw [hv] at q; exact absurd q (by decide)⟩⟩
    subst hv
    rw [show (nI 0).toNatClampNeg = 0 by decide, (hT.2.2.2.1 0 (by decide)).2]
    refine ⟨by unfold vp_in; decide, by decide, by decide, ?_⟩
    have := h T
    rw [e] at this
    exact this
  · refine c_X2_countClosed l T _ ?_
    intro B4 B24 h4 h24
    unfold cT_X2_countClosed_e
    have e4 : ∀ d k, k + d = 3 → B4 T (nI k) (nI k) := by
      intro d
      induction d with
      | zero =>
        intro k hk
        have : k = 3 := by omega
        subst this
        refine h4 _ _ _ ?_
        unfold cT_X2_countClosed_4
        rw [hT.2.1.2.2]
        refine ⟨fun _ => ⟨by decide, by decide, ?_⟩, fun q => absurd (nI_le (Nat.le_refl 3) (by omega)) q⟩
        have := h T
        rw [e] at this
        exact this
      | succ d ih =>
        intro k hk
        refine h4 _ _ _ ?_
        unfold cT_X2_countClosed_4
        rw [hT.2.1.2.2, hT.2.2.1.2.2.2.2.2.2.2, nI_clamp (show k < 2 ^ 31 by omega), hT.2.2.2.2.2 k (by omega)]
        refine ⟨fun q => absurd q (nI_ge (by omega) (by omega)), fun _ => ⟨vp_in_nI (by omega) (by omega), fun q => absurd rfl q, fun _ => h24 _ _ _ ?_⟩⟩
        unfold cT_X2_countClosed_24
        rw [← nI_succ]
        exact ih (k + 1) (by omega)
    exact e4 3 0 (by omega)
  · have a3 : a = 3 := by
      have b1 := Int32.le_iff_toInt_le.mp (Int32.not_lt.mp c)
      have b2 := Int32.le_iff_toInt_le.mp c2
      have b3 : (0 : Int32).toInt = 0 := by decide
      have b4 : (3 : Int32).toInt = 3 := by decide
      exact Int32.toInt_inj.mp (by omega)
    refine c_X2_greatestSize l T _ ?_
    intro B4 h4
    unfold cT_X2_greatestSize_e
    have e4 : ∀ d k, k + d = 3 → B4 T (if k = 0 then 0 else nI 1) (nI k) := by
      intro d
      induction d with
      | zero =>
        intro k hk
        have : k = 3 := by omega
        subst this
        refine h4 _ _ _ ?_
        unfold cT_X2_greatestSize_4
        rw [hT.2.1.2.2]
        refine ⟨fun _ => ⟨by decide, by decide, ?_⟩, fun q => absurd (nI_le (Nat.le_refl 3) (by omega)) q⟩
        have := h T
        rw [a3] at this
        exact this
      | succ d ih =>
        intro k hk
        have hn := ih (k + 1) (by omega)
        rw [if_neg (by omega)] at hn
        refine h4 _ _ _ ?_
        unfold cT_X2_greatestSize_4
        rw [hT.2.1.2.2, hT.2.2.1.2.2.2.2.2.2.1, nI_clamp (show k < 2 ^ 31 by omega), (hT.2.2.2.1 k (by omega)).2]
        refine ⟨fun q => absurd q (nI_ge (by omega) (by omega)), fun _ => ⟨vp_in_nI (by omega) (by omega), fun v hv => ?_⟩⟩
        have hv1 : v = nI 1 := by
          rw [hv]
          by_cases e0 : k = 0
          · rw [if_pos e0, if_pos (by decide)]
          · rw [if_neg e0, if_neg (by decide)]
        rw [hv1, ← nI_succ]
        exact hn
    exact e4 3 0 (by omega)
