-- joined(): the class's walk, its ranges
def kA : Nat → Bool := fun k => lA k || (decide (14 ≤ k) && decide (k ≤ 18) && decide (k ≠ 17))
def jA : Nat → Bool := fun k => lA k || (decide (14 ≤ k) && decide (k ≤ 18))
def kB : Nat → Bool := fun k => lB k || (decide (30 ≤ k) && decide (k ≤ 37))
def kC : Nat → Bool := fun k => decide (30 ≤ k) && decide (k ≤ 37)
theorem lA_k (k : Nat) (h : kA k = false) : lA k = false := by
  unfold kA at h
  rw [Bool.or_eq_false_iff] at h; exact h.1
theorem kA_j (k : Nat) (h : jA k = false) : kA k = false := by
  unfold jA at h; unfold kA
  simp only [Bool.or_eq_false_iff, Bool.and_eq_false_iff, decide_eq_false_iff_not] at h ⊢
  exact ⟨h.1, by omega⟩
theorem lB_k (k : Nat) (h : kB k = false) : lB k = false := by
  unfold kB at h
  rw [Bool.or_eq_false_iff] at h; exact h.1
theorem okB_k (k : Nat) (h : kB k = false) : okB k = false := by
  unfold kB at h; unfold okB
  simp only [Bool.or_eq_false_iff, Bool.and_eq_false_iff, decide_eq_false_iff_not] at h ⊢
  exact ⟨h.1, by omega⟩
set_option maxHeartbeats 1000000 in
theorem k_prepK (l : Launch) {mc ms : Nat} {S : CS} {LK N : Nat} (hl : KL S LK) (hLK : LK ≤ 20000) (hN : N ≤ 20000) (hb : LK < N → 8 ≤ mc ∧ 8 * N ≤ ms) (post : CS → Prop) (k : ∀ T, CFr kA kB kC S T → KL T (max LK N) → (∀ x, x < N → T.2.1 30 x = 0 ∧ T.2.1 35 x = -1 ∧ T.2.1 36 x = 0 ∧ T.2.1 37 x = 0) → T.1 14 = 0 → T.1 15 = 0 → T.1 16 = 0 → T.1 18 = 0 → post T) : cX_X2_prepare l mc ms S (nI N) post := by
  refine c_X2_prepare l mc ms S _ post ?_
  intro B65 h65
  have fin : ∀ (kc ks : Nat) (U : CS) (M : Nat), kc ≤ mc → ks ≤ ms → CFr kA kB kC S U → KL U M → M = max LK N → B65 kc ks U := by
    intro kc ks U M hkc hks fU hU hM
    have hM2 : M ≤ 20000 := by omega
    have hM3 : N ≤ M := by omega
    refine h65 _ _ _ ?_
    unfold cT_X2_prepare_65
    rw [hU.1, hU.2.2.2.2.2.1, hU.2.2.2.2.2.2.1, hU.2.2.2.2.2.2.2]
    refine ⟨by omega, hkc, hks, by omega, hkc, hks, by omega, hkc, hks, by omega, hkc, hks, hkc, hks, k _ ?_ ?_ (fun x hx => ⟨?_, ?_, ?_, ?_⟩) rfl rfl rfl rfl⟩
    · exact (((((((fU.ca _ rfl).ca _ rfl).ca _ rfl).ca _ rfl).cf _ rfl).cf _ rfl).cf _ rfl).cf _ rfl
    · rw [← hM]; exact hU
    · show filI (U.2.1 30) M 0 x = 0
      unfold filI
      rw [if_pos (by omega)]
    · show filI (U.2.1 35) M (-1) x = -1
      unfold filI
      rw [if_pos (by omega)]
    · show filI (U.2.1 36) M 0 x = 0
      unfold filI
      rw [if_pos (by omega)]
    · show filI (U.2.1 37) M 0 x = 0
      unfold filI
      rw [if_pos (by omega)]
  unfold cT_X2_prepare_e
  rw [hl.1, nI_clamp (show N < 2 ^ 31 by omega)]
  refine ⟨fun c => ?_, fun c => ?_⟩
  · have c : N ≤ LK := (nI_leI (by omega) (by omega)).mp c
    exact fin 0 0 S LK (Nat.zero_le _) (Nat.zero_le _) CFr.rf hl (by omega)
  · have c : LK < N := by
      rcases Nat.lt_or_ge LK N with q | q
      · exact q
      · exact absurd (nI_le q (by omega)) c
    obtain ⟨b1, b2⟩ := hb c
    have i0 : ¬ nI N < 0 := nI_pos (by omega)
    have i8 : N * 8 ≤ 536870912 := by omega
    refine ⟨i0, i8, by omega, by omega, i0, i8, by omega, by omega, i0, i8, by omega, by omega, i0, i8, by omega, by omega, i0, i8, by omega, by omega, i0, i8, by omega, by omega, i0, i8, by omega, by omega, i0, i8, by omega, by omega, fin _ _ _ N (by omega) (by omega) ?_ ⟨rfl, rfl, rfl, rfl, rfl, rfl, rfl, rfl⟩ (by omega)⟩
    exact (((((((((((((((CFr.rf.ca _ rfl).cn _ rfl).ca _ rfl).cn _ rfl).ca _ rfl).cn _ rfl).ca _ rfl).cn _ rfl).ca _ rfl).cn _ rfl).ca _ rfl).cn _ rfl).ca _ rfl).cn _ rfl).ca _ rfl).cn _ rfl
/-- the walk: how many are marked, on the path, on the pile; sets -/
def WI (T : CS) (N q d p m : Nat) : Prop := T.1 14 = nI q ∧ T.1 15 = nI d ∧ T.1 16 = nI p ∧ T.1 18 = nI m ∧ cntP (fun x => decide (T.2.1 30 x ≠ 0)) N = q ∧ m + d ≤ q ∧ p ≤ q ∧ (∀ i, i < d → ∃ x j, x < N ∧ j ≤ 25 ∧ T.2.1 33 i = nI x ∧ T.2.1 32 x = nI j) ∧ (∀ i, i < p → ∃ x, x < N ∧ T.2.1 34 i = nI x) ∧ (∀ x, x < N → T.2.1 35 x = -1 ∨ ∃ k, k < m ∧ T.2.1 35 x = nI k)
section WalkC
variable {S : CS} {n P LK : Nat} {kd ct sc : Nat → Nat}
theorem WI.look {N q d p m : Nat} {T : CS} (h : WI S N q d p m) (f : CFr lA lB nn S T) : WI T N q d p m := by
  unfold WI
  rw [f.1 14 rfl, f.1 15 rfl, f.1 16 rfl, f.1 18 rfl, (f.2.1 30 rfl).1, (f.2.1 33 rfl).1, (f.2.1 32 rfl).1, (f.2.1 34 rfl).1, (f.2.1 35 rfl).1]
  exact h
theorem w_enter (l : Launch) {N q d p m x : Nat} (h : WI S N q d p m) (hl : KL S LK) (hN : N ≤ LK) (hK : LK ≤ 20000) (hx : x < N) (h0 : S.2.1 30 x = 0) (post : CS → Prop) (hp : ∀ T, CFr kA kB nn S T → T.2.1 30 x ≠ 0 → WI T N (q + 1) (d + 1) (p + 1) m → post T) : cX_X2_enter l S (nI x) post := by
  obtain ⟨h1, h2, h3, h4, h5, h6, h7, h8, h9, h10⟩ := h
  have hc0 := cntP_le (fun y => decide (upd (S.2.1 30) x (nI (q + 1)) y ≠ 0)) N
  have hq0 := cntP_le (fun x => decide (S.2.1 30 x ≠ 0)) N
  rw [h5] at hq0
  have ne0 : nI (q + 1) ≠ 0 := fun e => absurd ((nI_is 0 rfl (by omega) (by omega)).mp e) (by omega)
  have hc := cntP_up (p := fun x => decide (S.2.1 30 x ≠ 0)) (q := fun y => decide (upd (S.2.1 30) x (nI (q + 1)) y ≠ 0)) (x := x) (decide_eq_false (fun c => c h0)) (decide_eq_true (by rw [upd_same]; exact ne0)) (fun y hy => by rw [upd_other _ _ hy]) N hx
  rw [h5] at hc
  refine c_X2_enter l S _ post ?_
  unfold cT_X2_enter_e
  rw [h1, h2, h3, hl.1, hl.2.1, hl.2.2.1, hl.2.2.2.1, hl.2.2.2.2.1, nI_clamp (show x < 2 ^ 31 by omega), nI_clamp (show d < 2 ^ 31 by omega), nI_clamp (show p < 2 ^ 31 by omega), ← nI_succ, ← nI_succ, ← nI_succ]
  refine ⟨vp_in_nI (by omega) (by omega), vp_in_nI (by omega) (by omega), vp_in_nI (by omega) (by omega), vp_in_nI (by omega) (by omega), vp_in_nI (by omega) (by omega), hp _ ?_ ?_ ⟨rfl, rfl, rfl, h4, hc, by omega, by omega, fun i hi => ?_, fun i hi => ?_, h10⟩⟩
  · exact (((((((CFr.rf.cf _ rfl).ca _ rfl).ca _ rfl).ca _ rfl).ca _ rfl).cf _ rfl).ca _ rfl).cf _ rfl
  · show upd (S.2.1 30) x (nI (q + 1)) x ≠ 0
    rw [upd_same]; exact ne0
  · show ∃ x' j, x' < N ∧ j ≤ 25 ∧ upd (S.2.1 33) d (nI x) i = nI x' ∧ upd (S.2.1 32) x 0 x' = nI j
    by_cases e : i = d
    · subst e
      exact ⟨x, 0, hx, by omega, upd_same _ _ _, upd_same _ _ _⟩
    · obtain ⟨z, j, z1, z2, z3, z4⟩ := h8 i (by omega)
      by_cases e2 : z = x
      · subst e2
        exact ⟨z, 0, z1, by omega, by rw [upd_other _ _ e]; exact z3, upd_same _ _ _⟩
      · exact ⟨z, j, z1, z2, by rw [upd_other _ _ e]; exact z3, by rw [upd_other _ _ e2]; exact z4⟩
  · show ∃ x', x' < N ∧ upd (S.2.1 34) p (nI x) i = nI x'
    by_cases e : i = p
    · subst e
      exact ⟨x, hx, upd_same _ _ _⟩
    · obtain ⟨z, z1, z3⟩ := h9 i (by omega)
      exact ⟨z, z1, by rw [upd_other _ _ e]; exact z3⟩
theorem w_next (l : Launch) (hy : CY S n P kd ct sc) (hz : ∀ a, a < 5 → ct (5 * a + a) = 0) {q d p m x j : Nat} (h : WI S (P ^ n) q d p m) (hl : KL S LK) (hN : P ^ n ≤ LK) (hK : LK ≤ 20000) (hx : x < P ^ n) (hj : j ≤ 25) (h32 : S.2.1 32 x = nI j) (post : Int32 → CS → Prop) (hp0 : ∀ T, CFr kA kB nn S T → WI T (P ^ n) q d p m → post (-1) T) (hp1 : ∀ T t, CFr kA kB nn S T → WI T (P ^ n) q d p m → t < P ^ n → T.2.1 30 t = 0 → post (nI t) T) : cX_X2_nextUnseen l S (nI x) post := by
  have hP2 := hy.2.2.2.1
  refine c_X2_nextUnseen l S _ post ?_
  intro B19 B91 h19 h91
  unfold cT_X2_nextUnseen_e
  refine k_read l hy hx _ (fun T fT hT => k_spread l (hy.fr fT) hz hx hT _ (fun U fU hU => ?_))
  have fSU : CFr lA lB nn S U := fT.tr (fU.mono sA_l sB_l)
  have hlen := mvL_len (n := n) (kd := kd) (ct := ct) (sg := sc) (x := x) hP2.2
  have key : ∀ e i, i + e = 25 → ∀ V, CFr kA kB nn S V → SPL V n P kd ct sc x (mvL n P kd ct sc x) → WI V (P ^ n) q d p m → B19 V (nI i) := by
    intro e
    induction e with
    | zero =>
      intro i hi V fV sV wV
      refine h19 _ _ ?_
      unfold cT_X2_nextUnseen_19
      rw [sV.1]
      exact ⟨fun _ => hp0 V fV wV, fun z => absurd (nI_le (by omega) (by omega)) z⟩
    | succ e ih =>
      intro i hi V fV sV wV
      have hlV : V.2.2.2 = S.2.2.2 := lens_eq fV
      refine h19 _ _ ?_
      unfold cT_X2_nextUnseen_19
      rw [sV.1]
      refine ⟨fun _ => hp0 V fV wV, fun z => ?_⟩
      have hi2 : i < (mvL n P kd ct sc x).length := by
        rcases Nat.lt_or_ge i (mvL n P kd ct sc x).length with c | c
        · exact c
        · exact absurd (nI_le c (by omega)) z
      obtain ⟨t, t1, t2, t3⟩ := tl_at sV (by omega) hi2
      rw [nI_clamp (show i < 2 ^ 31 by omega), t2, hlV, hl.1, hl.2.1, hl.2.2.1, hl.2.2.2.2.2.1]
      have nxt : ∀ W, CFr kA kB nn S W → SPL W n P kd ct sc x (mvL n P kd ct sc x) → WI W (P ^ n) q d p m → B91 W (nI i) := by
        intro W fW sW wW
        refine h91 _ _ ?_
        unfold cT_X2_nextUnseen_91
        rw [← nI_succ]
        exact ih (i + 1) (by omega) W fW sW wW
      refine ⟨vp_in_nI (by omega) (by omega), fun v hv => ?_⟩
      subst hv
      rw [nI_clamp (show t < 2 ^ 31 by omega), nI_clamp (show x < 2 ^ 31 by omega)]
      refine ⟨vp_in_nI (by omega) (by omega), fun _ => ⟨vp_in_nI (by omega) (by omega), fun _ => nxt V fV sV wV, fun _ => ⟨vp_in_nI (by omega) (by omega), vp_in_nI (by omega) (by omega), vp_in_nI (by omega) (by omega), nxt _ (fV.ca _ rfl) sV wV⟩⟩, fun c => ⟨vp_in_nI (by omega) (by omega), hp1 _ t (fV.ca _ rfl) ?_ t3 c⟩⟩
      obtain ⟨g1, g2, g3, g4, g5, g6, g7, g8, g9, g10⟩ := wV
      refine ⟨g1, g2, g3, g4, g5, g6, g7, fun i' hi' => ?_, g9, g10⟩
      obtain ⟨y, jj, z1, z2, z3, z4⟩ := g8 i' hi'
      show ∃ x' j, x' < P ^ n ∧ j ≤ 25 ∧ V.2.1 33 i' = nI x' ∧ upd (V.2.1 32) x (nI i) x' = nI j
      by_cases e2 : y = x
      · subst e2
        exact ⟨y, i, z1, by omega, z3, upd_same _ _ _⟩
      · exact ⟨y, jj, z1, z2, z3, by rw [upd_other _ _ e2]; exact z4⟩
  have h32U : U.2.1 32 x = nI j := by rw [(fSU.2.1 32 rfl).1]; exact h32
  have hlU : U.2.2.2 = S.2.2.2 := lens_eq fSU
  rw [hlU, hl.2.2.1, nI_clamp (show x < 2 ^ 31 by omega), h32U]
  refine ⟨vp_in_nI (by omega) (by omega), fun v hv => ?_⟩
  subst hv
  exact key (25 - j) j (by omega) U (fSU.mono lA_k lB_k) hU (h.look fSU)
theorem w_leave (l : Launch) {N q d p m x : Nat} (h : WI S N q (d + 1) p m) (hl : KL S LK) (hN : N ≤ LK) (hK : LK ≤ 20000) (hx : x < N) (post : CS → Prop) (hp : ∀ T p' m', CFr kA kB nn S T → T.2.1 30 = S.2.1 30 → WI T N q d p' m' → post T) : cX_X2_leave l S (nI x) post := by
  obtain ⟨h1, h2, h3, h4, h5, h6, h7, h8, h9, h10⟩ := id h
  have hq0 := cntP_le (fun x => decide (S.2.1 30 x ≠ 0)) N
  rw [h5] at hq0
  refine c_X2_leave l S _ post ?_
  intro B28 h28
  unfold cT_X2_leave_e
  rw [h2, hl.1, hl.2.1, nI_clamp (show x < 2 ^ 31 by omega), nI_pred]
  have key : ∀ p' (V : CS) (b : Int32), CFr kA kB nn S V → V.2.1 30 = S.2.1 30 → p' ≤ p → V.1 14 = nI q → V.1 15 = nI d → V.1 16 = nI p' → V.1 18 = nI m → V.2.1 33 = S.2.1 33 → V.2.1 32 = S.2.1 32 → V.2.1 34 = S.2.1 34 → (∀ x, x < N → V.2.1 35 x = -1 ∨ ∃ k, k < m + 1 ∧ V.2.1 35 x = nI k) → B28 V b := by
    intro p'
    induction p' with
    | zero =>
      intro V b fV v30 hp' v14 v15 v16 v18 v33 v32 v34 v35
      have fin : post (cf V 18 (V.1 18 + 1)) := by
        refine hp _ 0 (m + 1) (fV.cf _ rfl) v30 ?_
        rw [v18, ← nI_succ]
        refine ⟨v14, v15, v16, rfl, ?_, by omega, by omega, fun i hi => ?_, fun i hi => absurd hi (Nat.not_lt_zero _), v35⟩
        · show cntP (fun x => decide (V.2.1 30 x ≠ 0)) N = q
          rw [v30]; exact h5
        · show ∃ x j, x < N ∧ j ≤ 25 ∧ V.2.1 33 i = nI x ∧ V.2.1 32 x = nI j
          rw [v33, v32]; exact h8 i (by omega)
      refine h28 _ _ ?_
      unfold cT_X2_leave_28
      exact ⟨fun _ => fin, fun _ => ⟨fun _ => fin, fun c => absurd (by rw [v16]; decide) c⟩⟩
    | succ p' ih =>
      intro V b fV v30 hp' v14 v15 v16 v18 v33 v32 v34 v35
      have fin : post (cf V 18 (V.1 18 + 1)) := by
        refine hp _ (p' + 1) (m + 1) (fV.cf _ rfl) v30 ?_
        rw [v18, ← nI_succ]
        refine ⟨v14, v15, v16, rfl, ?_, by omega, by omega, fun i hi => ?_, fun i hi => ?_, v35⟩
        · show cntP (fun x => decide (V.2.1 30 x ≠ 0)) N = q
          rw [v30]; exact h5
        · show ∃ x j, x < N ∧ j ≤ 25 ∧ V.2.1 33 i = nI x ∧ V.2.1 32 x = nI j
          rw [v33, v32]; exact h8 i (by omega)
        · show ∃ x, x < N ∧ V.2.1 34 i = nI x
          rw [v34]; exact h9 i (by omega)
      refine h28 _ _ ?_
      unfold cT_X2_leave_28
      refine ⟨fun _ => fin, fun _ => ⟨fun _ => fin, fun _ => ?_⟩⟩
      obtain ⟨t, t1, t2⟩ := h9 p' (by omega)
      have hlV : V.2.2.2 = S.2.2.2 := lens_eq fV
      rw [v16, nI_pred, nI_clamp (show p' < 2 ^ 31 by omega), v34, t2, v18, hlV, hl.2.2.2.2.1, hl.2.2.2.2.2.1, hl.2.2.2.2.2.2.1]
      refine ⟨vp_in_nI (by omega) (by omega), fun v hv => ?_⟩
      subst hv
      rw [nI_clamp (show t < 2 ^ 31 by omega), nI_clamp (show m < 2 ^ 31 by omega)]
      have nx : ∀ b, B28 (ca (ca (cf V 16 (nI p')) 35 (upd (V.2.1 35) t (nI m))) 36 (upd (V.2.1 36) m (V.2.1 36 m + 1))) b := by
        intro b
        refine ih _ b (((fV.cf _ rfl).ca _ rfl).ca _ rfl) v30 (by omega) v14 v15 rfl v18 v33 v32 v34 (fun y hy => ?_)
        show upd (V.2.1 35) t (nI m) y = -1 ∨ ∃ k, k < m + 1 ∧ upd (V.2.1 35) t (nI m) y = nI k
        by_cases e : y = t
        · subst e
          exact Or.inr ⟨m, by omega, upd_same _ _ _⟩
        · rw [upd_other _ _ e]; exact v35 y hy
      exact ⟨vp_in_nI (by omega) (by omega), vp_in_nI (by omega) (by omega), vp_in_nI (by omega) (by omega), fun _ => nx 0, fun _ => nx 1⟩
  have f1 : CFr kA kB nn S (cf S 15 (nI d)) := CFr.rf.cf _ rfl
  refine ⟨vp_in_nI (by omega) (by omega), vp_in_nI (by omega) (by omega), fun _ => ?_, fun _ => ?_⟩
  · refine key p _ 1 f1 rfl (Nat.le_refl _) h1 rfl h3 h4 rfl rfl rfl (fun y hy => ?_)
    rcases h10 y hy with e | ⟨k, k1, k2⟩
    · exact Or.inl e
    · exact Or.inr ⟨k, by omega, k2⟩
  · exact hp _ p m f1 rfl ⟨h1, rfl, h3, h4, h5, by omega, h7, fun i hi => h8 i (by omega), h9, h10⟩
end WalkC
