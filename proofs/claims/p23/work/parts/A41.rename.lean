-- rename()
def rn (μ : Nat → Nat) (P : Nat) (g : Nat → Nat) (p r : Nat) : Nat → Nat := fun j => if j < 25 ∧ j / 5 < P ∧ j % 5 < P ∧ (μ (j / 5) < p ∨ (μ (j / 5) = p ∧ μ (j % 5) < r)) then g (5 * μ (j / 5) + μ (j % 5)) else g j
theorem rn_0 (μ : Nat → Nat) (P : Nat) (g : Nat → Nat) : rn μ P g 0 0 = g := by
  funext j
  unfold rn
  rw [if_neg]
  rintro ⟨w1, w2, w3, w4⟩
  omega
section Ren
variable {S : CS} {M : MS} {n P x y : Nat} {kd ct sc sm μ ν : Nat → Nat}
theorem rn_le {g : Nat → Nat} {B : Nat} (hP : P ≤ 5) (h : ∀ j, j < 25 → g j ≤ B) (hμ : ∀ v, v < P → μ v < P) (p r j : Nat) (hj : j < 25) : rn μ P g p r j ≤ B := by
  unfold rn
  split
  · rename_i w
    have := hμ _ w.2.1
    have := hμ _ w.2.2.1
    exact h _ (by omega)
  · exact h _ hj
theorem rn_step (g : Nat → Nat) (hP : P ≤ 5) (h1 : ∀ i, i < P → ν i < P ∧ μ (ν i) = i) (h2 : ∀ v, v < P → μ v < P ∧ ν (μ v) = v) {p r : Nat} (hp : p < P) (hr : r < P) : rn μ P g p (r + 1) = va_up (rn μ P g p r) (5 * ν p + ν r) (g (5 * p + r)) := by
  have a1 := h1 p hp
  have a2 := h1 r hr
  funext j
  by_cases e : j = 5 * ν p + ν r
  · rw [e, va_up_same]
    unfold rn
    have e1 : (5 * ν p + ν r) / 5 = ν p := by omega
    have e2 : (5 * ν p + ν r) % 5 = ν r := by omega
    rw [e1, e2, a1.2, a2.2, if_pos (by omega)]
  · rw [va_up_other _ _ e]
    unfold rn
    by_cases c : j < 25 ∧ j / 5 < P ∧ j % 5 < P ∧ (μ (j / 5) < p ∨ (μ (j / 5) = p ∧ μ (j % 5) < r))
    · rw [if_pos c, if_pos (by omega)]
    · rw [if_neg c, if_neg]
      rintro ⟨w1, w2, w3, w4⟩
      have : μ (j / 5) = p ∧ μ (j % 5) = r := by omega
      have b1 := (h2 _ w2).2
      have b2 := (h2 _ w3).2
      rw [this.1] at b1
      rw [this.2] at b2
      omega
theorem rn_row (g : Nat → Nat) (h2 : ∀ v, v < P → μ v < P) {p : Nat} : rn μ P g p P = rn μ P g (p + 1) 0 := by
  funext j
  unfold rn
  by_cases c : j < 25 ∧ j / 5 < P ∧ j % 5 < P ∧ (μ (j / 5) < p ∨ (μ (j / 5) = p ∧ μ (j % 5) < P))
  · rw [if_pos c, if_pos (by omega)]
  · rw [if_neg c, if_neg]
    rintro ⟨w1, w2, w3, w4⟩
    have := h2 _ w3
    omega
theorem rn_end (g : Nat → Nat) (h2 : ∀ v, v < P → μ v < P) {a b : Nat} (ha : a < 5) (hb : b < 5) : rn μ P g P 0 (5 * a + b) = if a < P ∧ b < P then g (5 * μ a + μ b) else g (5 * a + b) := by
  unfold rn
  have e1 : (5 * a + b) / 5 = a := by omega
  have e2 : (5 * a + b) % 5 = b := by omega
  rw [e1, e2]
  by_cases c : a < P ∧ b < P
  · have := h2 _ c.1
    rw [if_pos (by omega), if_pos c]
  · rw [if_neg (by omega), if_neg c]
theorem RR.ren {σ : Nat → Nat} (h : RR kd σ n) (hσ : ∀ j, j < n → σ j < P) (hν : ∀ i j, i < P → j < P → ν i = ν j → i = j) : RR kd (fun j => ν (σ j)) n := by
  intro d c h1 h2 h3 h4 h5
  refine h d c h1 h2 (hν _ _ (hσ c h2) (hσ d (by omega)) h3) (fun i q1 q2 q3 => ?_) h5
  exact h4 i q1 q2 (by show ν (σ i) = ν (σ d); rw [q3])
theorem k_renamed (l : Launch) (hy : CY S n P kd ct sc) (hx : x < P ^ n) {f : Nat → Int32} (hf : ∀ k, k < P → f k = nI (ν k) ∧ ν k < P) (post : Int32 → CS → Prop) (hp : ∀ T, CFr lA lB nn S T → post (nI (numN (fun j => ν (dgs P x j)) P n)) T) : cX_X8_renamed l S (nI x) 5 f post := by
  have hP2 := hy.2.2.2.1
  have hn2 := hy.2.2.2.2.1
  refine c_X8_renamed l S _ 5 f post ?_
  intro B17 h17
  unfold cT_X8_renamed_e
  refine k_read l hy hx _ (fun T fT hT => ?_)
  have hyT := hy.fr fT
  have key : ∀ d k, k + d = n → B17 T (nI (numN (fun j => ν (dgs P x j)) P k)) (nI k) := by
    intro d
    induction d with
    | zero =>
      intro k hk
      have : k = n := by omega
      subst this
      refine h17 _ _ _ ?_
      unfold cT_X8_renamed_17
      rw [hyT.2.1]
      exact ⟨fun _ => hp T fT, fun w => absurd (nI_le (Nat.le_refl _) (by omega)) w⟩
    | succ d ih =>
      intro k hk
      refine h17 _ _ _ ?_
      unfold cT_X8_renamed_17
      have hd : dgs P x k < P := dgs_lt (by omega) x k
      have hk13 := hT.1 k (Nat.zero_le _) (by omega)
      rw [hyT.2.1, nI_clamp (show k < 2 ^ 31 by omega), hk13, nI_clamp (show dgs P x k < 2 ^ 31 by omega), (hf _ hd).1, hyT.2.2.2.2.2.1 k (by omega), pk_mul, nI_add, ← nI_succ]
      refine ⟨fun w => absurd w (nI_ge (by omega) (by omega)), fun _ => ⟨vp_in_nI (by omega) (by omega), vp_in_nI (by omega) (by omega), vp_in_nI (by omega) (by omega), fun v hv => ?_⟩⟩
      rw [hv]
      exact ih (k + 1) (by omega)
  exact key n 0 (by omega)
theorem k_renLanes (l : Launch) (h : CY S n P kd ct sc) (h1 : ∀ i, i < P → ν i < P ∧ μ (ν i) = i) (h2 : ∀ v, v < P → μ v < P ∧ ν (μ v) = v) {f : Nat → Int32} (hf : ∀ k, k < P → f k = nI (ν k)) (post : CS → Prop) (hp : ∀ T, CFr nn q2B nn S T → CY T n P kd (rn μ P ct P 0) (rn μ P sc P 0) → post T) : cX_X0_renameLanes l 2 50 S 5 f post := by
  have hP2 := h.2.2.2.1
  refine c_X0_renameLanes l 2 50 S 5 f post ?_
  intro B25 B37 h25 h37
  unfold cT_X0_renameLanes_e
  refine ⟨by omega, by omega, fun j hj => ?_, by omega, by omega, ?_⟩
  · have := h.2.2.2.2.2.2.2.2 j hj
    rw [this.1]
    have : sc j = 0 ∨ sc j = 1 := by omega
    rcases this with q | q
    · rw [q]; exact Or.inl rfl
    · rw [q]; exact Or.inr rfl
  · refine pair_loop (α := CS) (P := P) (Bo := fun U p => B25 2 50 U (nI p) (S.2.1 11) (S.2.1 12)) (Bi := fun U p r => B37 2 50 U (nI p) (nI r) (S.2.1 11) (S.2.1 12)) (I := fun p r U => CFr nn q2B nn S U ∧ CY U n P kd (rn μ P ct p r) (rn μ P sc p r)) ?_ ?_ ?_ ?_ ?_ S ?_
    · rintro U p hp' ⟨k1, k2⟩ hBi
      refine h25 _ _ _ _ _ _ ?_
      unfold cT_X0_renameLanes_25
      rw [k2.1]
      exact ⟨fun w => absurd w (nI_ge hp' (by omega)), fun _ => hBi⟩
    · rintro U ⟨k1, k2⟩
      refine h25 _ _ _ _ _ _ ?_
      unfold cT_X0_renameLanes_25
      rw [k2.1]
      exact ⟨fun _ => ⟨by omega, by omega, hp U k1 k2⟩, fun w => absurd (nI_le (Nat.le_refl _) (by omega)) w⟩
    · rintro U p r hp' hr ⟨k1, k2⟩ nxt
      have r1 := h.2.2.2.2.2.2.2.1 (5 * p + r) (by omega)
      have r3 := h.2.2.2.2.2.2.2.2 (5 * p + r) (by omega)
      have n1 := h1 p hp'
      have n2 := h1 r hr
      refine h37 _ _ _ _ _ _ _ ?_
      unfold cT_X0_renameLanes_37
      rw [k2.1, ix5, nI_clamp (show p < 2 ^ 31 by omega), nI_clamp (show r < 2 ^ 31 by omega), hf p hp', hf r hr]
      refine ⟨fun w => absurd w (nI_ge hr (by omega)), fun _ v hv => ?_⟩
      subst hv
      rw [nI_clamp (show 5 * p + r < 2 ^ 31 by omega), r1.1, r3.1]
      refine ⟨vp_in_nI (by omega) (by omega), vp_in_nI (by omega) (by omega), vp_in_nI (by omega) (by omega), vp_in_nI (by omega) (by omega), by omega, by omega, b01 (sc (5 * p + r)), (b01_eq r3.2).1, ?_⟩
      refine k_setLane l U (by omega) (by omega) _ _ _ ?_
      rw [(b01_eq r3.2).2, ← nI_succ]
      refine nxt _ ⟨(k1.ca _ rfl).ca _ rfl, ?_⟩
      rw [rn_step ct hP2.2 h1 h2 hp' hr, rn_step sc hP2.2 h1 h2 hp' hr]
      exact k2.lane r1.2 r3.2
    · rintro U p hp' ⟨k1, k2⟩ hBo
      refine h37 _ _ _ _ _ _ _ ?_
      unfold cT_X0_renameLanes_37
      rw [k2.1, ← nI_succ]
      exact ⟨fun _ => hBo, fun w => absurd (nI_le (Nat.le_refl _) (by omega)) w⟩
    · rintro U p hp' ⟨k1, k2⟩
      rw [rn_row ct (fun v hv => (h2 v hv).1), rn_row sc (fun v hv => (h2 v hv).1)] at k2
      exact ⟨k1, k2⟩
    · exact ⟨CFr.rf, by rw [rn_0, rn_0]; exact h⟩
def rnA : Nat → Bool := fun k => decide (k = 3)
def rnB : Nat → Bool := fun k => (decide (2 ≤ k) && decide (k ≤ 5)) || (decide (26 ≤ k) && decide (k ≤ 28))
theorem s_rename (l : Launch) (h : Rl S M n P kd ct sc sm x y) (a b c d e : Int32) (post : Bool → MS → Prop) (h0 : (¬ ∃ ν, NM (n5 (M.2.1 26) a b c d e) P ν) → post false (mf (ma (mf M 3 0) 26 (n5 (M.2.1 26) a b c d e)) 2 1))
    (hh : ∀ ν μ, NM (n5 (M.2.1 26) a b c d e) P ν → (∀ i, i < P → ν i < P ∧ μ (ν i) = i) → (∀ v, v < P → μ v < P ∧ ν (μ v) = v) → ∀ T, MFx rnA rnB M T → MY T n P kd (rn μ P ct P 0) (rn μ P sm P 0) → (∀ j, j < 7 → T.2.1 2 j = if j < n then nI (ν (dgs P x j)) else M.2.1 2 j) → (∀ j, j < 7 → T.2.1 3 j = if j < n then nI (ν (dgs P y j)) else M.2.1 3 j) → post true (mf (mf (mf T 4 0) 5 0) 2 0)) : mX_rename l M a b c d e post := by
  have hP2 := h.P2
  have hn2 := h.n2
  refine m_rename l M a b c d e post ?_
  intro B28 B72 B84 B176 h28 h72 h84 h176
  unfold mT_rename_e
  refine s_areNames l (mf M 3 0) (P := P) h.my.1 hP2 a b c d e _ (fun q => ⟨fun w => absurd rfl w, fun _ => s_not l _ 1 _ (h0 q)⟩) (fun ν hν => ⟨fun _ => ?_, fun w => absurd w (by decide)⟩)
  have hsur : ∀ v, v < P → ∃ i, i < P ∧ ν i = v := fun v hv => inj_surj (fun k hk => (hν.1 k hk).2) hν.2 hv
  have hc : ∃ μ : Nat → Nat, ∀ v, v < P → μ v < P ∧ ν (μ v) = v := by
    refine ⟨fun v => if hv : v < P then (hsur v hv).choose else 0, fun v hv => ?_⟩
    simp only [dif_pos hv]
    exact (hsur v hv).choose_spec
  obtain ⟨μ, h2⟩ := hc
  have h1 : ∀ i, i < P → ν i < P ∧ μ (ν i) = i := fun i hi => by
    have w1 := (hν.1 i hi).2
    have w2 := h2 (ν i) w1
    exact ⟨w1, hν.2 _ _ w2.1 hi w2.2⟩
  have fin := hh ν μ hν h1 h2
  generalize ef : n5 ((mf M 3 0).2.1 26) a b c d e = f at *
  have hν : NM f P ν := hν
  have hy : MY (ma (mf M 3 0) 26 f) n P kd ct sm := ((h.th 0).my).ma _ (by decide) (by decide) (by decide)
  -- the discs
  have e176 : ∀ d k, k + d = n → ∀ T, MFx rnA rnB M T → MY T n P kd (rn μ P ct P 0) (rn μ P sm P 0) → T.2.1 26 = f → (∀ j, j < 7 → T.2.1 2 j = if j < k then nI (ν (dgs P x j)) else M.2.1 2 j) → (∀ j, j < 7 → T.2.1 3 j = if j < k then nI (ν (dgs P y j)) else M.2.1 3 j) → B176 T (nI k) := by
    intro d
    induction d with
    | zero =>
      intro k hk T fT hT t26 t2 t3
      have : k = n := by omega
      subst this
      refine h176 _ _ ?_
      unfold mT_rename_176
      rw [hT.2.1]
      exact ⟨fun _ => s_nothingUndone l _ _ (fin T fT hT t2 t3), fun w => absurd (nI_le (Nat.le_refl _) (by omega)) w⟩
    | succ d ih =>
      intro k hk T fT hT t26 t2 t3
      have q2 : T.2.1 2 k = nI (dgs P x k) := by rw [t2 k (by omega), if_neg (by omega)]; exact (h.xa k (by omega)).1
      have q3 : T.2.1 3 k = nI (dgs P y k) := by rw [t3 k (by omega), if_neg (by omega)]; exact (h.ya k (by omega)).1
      have d2 : dgs P x k < P := dgs_lt (by omega) x k
      have d3 : dgs P y k < P := dgs_lt (by omega) y k
      refine h176 _ _ ?_
      unfold mT_rename_176
      rw [hT.2.1, nI_clamp (show k < 2 ^ 31 by omega), q2, q3, nI_clamp (show dgs P x k < 2 ^ 31 by omega), nI_clamp (show dgs P y k < 2 ^ 31 by omega), t26, (hν.1 _ d2).1, (hν.1 _ d3).1, ← nI_succ]
      refine ⟨fun w => absurd w (nI_ge (by omega) (by omega)), fun _ => ⟨vp_in_nI (by omega) (by omega), vp_in_nI (by omega) (by omega), vp_in_nI (by omega) (by omega), vp_in_nI (by omega) (by omega), vp_in_nI (by omega) (by omega), vp_in_nI (by omega) (by omega), ?_⟩⟩
      refine ih (k + 1) (by omega) _ ((fT.row _ rfl).row _ rfl) ((hT.ma _ (by decide) (by decide) (by decide)).ma _ (by decide) (by decide) (by decide)) t26 (fun j hj => ?_) (fun j hj => ?_)
      · show upd (T.2.1 2) k (nI (ν (dgs P x k))) j = _
        by_cases q : j = k
        · subst q; rw [upd_same, if_pos (by omega)]
        · rw [upd_other _ _ q, t2 j hj]
          by_cases q2 : j < k
          · rw [if_pos q2, if_pos (by omega)]
          · rw [if_neg q2, if_neg (by omega)]
      · show upd (T.2.1 3) k (nI (ν (dgs P y k))) j = _
        by_cases q : j = k
        · subst q; rw [upd_same, if_pos (by omega)]
        · rw [upd_other _ _ q, t3 j hj]
          by_cases q2 : j < k
          · rw [if_pos q2, if_pos (by omega)]
          · rw [if_neg q2, if_neg (by omega)]
  -- the lanes
  have e72 : ∀ T, MFx rnA rnB M T → MY T n P kd ct sm → T.2.1 26 = f → T.2.1 2 = M.2.1 2 → T.2.1 3 = M.2.1 3 → (∀ j, j < 25 → T.2.1 27 j = nI (ct j) ∧ T.2.1 28 j = nI (sm j)) → B72 T 0 := by
    intro T fT hT t26 t2 t3 tsp
    refine pair_loop (α := MS) (P := P) (Bo := fun U p => B72 U (nI p)) (Bi := fun U p r => B84 U (nI p) (nI r)) (I := fun p r U => MFx rnA rnB M U ∧ MY U n P kd (rn μ P ct p r) (rn μ P sm p r) ∧ U.2.1 26 = f ∧ U.2.1 2 = M.2.1 2 ∧ U.2.1 3 = M.2.1 3 ∧ (∀ j, j < 25 → U.2.1 27 j = nI (ct j) ∧ U.2.1 28 j = nI (sm j))) ?_ ?_ ?_ ?_ ?_ T ?_
    · rintro U p hp' ⟨k1, k2, k3⟩ hBi
      refine h72 _ _ ?_
      unfold mT_rename_72
      rw [k2.1]
      exact ⟨fun w => absurd w (nI_ge hp' (by omega)), fun _ => hBi⟩
    · rintro U ⟨k1, k2, k3, k4, k5, k6⟩
      refine h72 _ _ ?_
      unfold mT_rename_72
      rw [k2.1]
      refine ⟨fun _ => e176 n 0 (by omega) U k1 k2 k3 (fun j hj => ?_) (fun j hj => ?_), fun w => absurd (nI_le (Nat.le_refl _) (by omega)) w⟩
      · rw [if_neg (by omega), k4]
      · rw [if_neg (by omega), k5]
    · rintro U p r hp' hr ⟨k1, k2, k3, k4, k5, k6⟩ nxt
      have r1 := h.my.2.2.2.2.2.1 (5 * p + r) (by omega)
      have r3 := h.my.2.2.2.2.2.2 (5 * p + r) (by omega)
      have n1 := h1 p hp'
      have n2 := h1 r hr
      have sp := k6 (5 * p + r) (by omega)
      refine h84 _ _ _ ?_
      unfold mT_rename_84
      rw [k2.1, nI_clamp (show p < 2 ^ 31 by omega), nI_clamp (show r < 2 ^ 31 by omega), k3, (hν.1 p hp').1, (hν.1 r hr).1, ix25 (show p < 5 by omega) (show r < 5 by omega), ix25 (show ν p < 5 by omega) (show ν r < 5 by omega), nI_clamp (show 5 * p + r < 2 ^ 31 by omega), nI_clamp (show 5 * ν p + ν r < 2 ^ 31 by omega), sp.1, sp.2, nar01 r3.2]
      refine ⟨fun w => absurd w (nI_ge hr (by omega)), fun _ => ⟨vp_in_nI (by omega) (by omega), vp_in_nI (by omega) (by omega), vp_in_nI (by omega) (by omega), vp_in_nI (by omega) (by omega), vp_in_nI (by omega) (by omega), vp_in_nI (by omega) (by omega), vp_in_nI (by omega) (by omega), vp_in_nI (by omega) (by omega), ?_⟩⟩
      rw [← nI_succ]
      refine nxt _ ⟨(k1.row _ rfl).row _ rfl, ?_, k3, k4, k5, k6⟩
      rw [rn_step ct hP2.2 h1 h2 hp' hr, rn_step sm hP2.2 h1 h2 hp' hr]
      exact MYlane k2 r1.2 r3.2
    · rintro U p hp' ⟨k1, k2, k3⟩ hBo
      refine h84 _ _ _ ?_
      unfold mT_rename_84
      rw [k2.1]
      refine ⟨fun _ => ?_, fun w => absurd (nI_le (Nat.le_refl _) (by omega)) w⟩
      rw [← nI_succ]; exact hBo
    · rintro U p hp' ⟨k1, k2, k3⟩
      rw [rn_row ct (fun v hv => (h2 v hv).1), rn_row sm (fun v hv => (h2 v hv).1)] at k2
      exact ⟨k1, k2, k3⟩
    · exact ⟨fT, by rw [rn_0, rn_0]; exact hT, t26, t2, t3, tsp⟩
  -- the spares
  have e28 : ∀ d k, k + d = 25 → ∀ T, MFx rnA rnB M T → MY T n P kd ct sm → T.2.1 26 = f → T.2.1 2 = M.2.1 2 → T.2.1 3 = M.2.1 3 → (∀ j, j < k → T.2.1 27 j = nI (ct j) ∧ T.2.1 28 j = nI (sm j)) → B28 T (nI k) := by
    intro d
    induction d with
    | zero =>
      intro k hk T fT hT t26 t2 t3 tsp
      have : k = 25 := by omega
      subst this
      refine h28 _ _ ?_
      unfold mT_rename_28
      exact ⟨fun _ => e72 T fT hT t26 t2 t3 tsp, fun w => absurd (show (25 : Int32) ≤ nI 25 by decide) w⟩
    | succ d ih =>
      intro k hk T fT hT t26 t2 t3 tsp
      have r1 := hT.2.2.2.2.2.1 k (by omega)
      have r3 := hT.2.2.2.2.2.2 k (by omega)
      refine h28 _ _ ?_
      unfold mT_rename_28
      rw [nI_clamp (show k < 2 ^ 31 by omega), r1.1, r3.1, nar01 r3.2, ← nI_succ]
      refine ⟨fun w => absurd w (nI_ge (a := k) (b := 25) (by omega) (by omega)), fun _ => ⟨vp_in_nI (by omega) (by omega), vp_in_nI (by omega) (by omega), vp_in_nI (by omega) (by omega), vp_in_nI (by omega) (by omega), ?_⟩⟩
      refine ih (k + 1) (by omega) _ ((fT.row _ rfl).row _ rfl) ((hT.ma _ (by decide) (by decide) (by decide)).ma _ (by decide) (by decide) (by decide)) t26 t2 t3 (fun j hj => ?_)
      show upd (T.2.1 27) k (nI (ct k)) j = _ ∧ upd (T.2.1 28) k (nI (sm k)) j = _
      by_cases q : j = k
      · subst q; rw [upd_same, upd_same]; exact ⟨rfl, rfl⟩
      · rw [upd_other _ _ q, upd_other _ _ q]; exact tsp j (by omega)
  exact e28 25 0 (by omega) _ ((MFx.rf.sc _ rfl).row _ rfl) hy rfl rfl rfl (fun j hj => absurd hj (Nat.not_lt_zero _))
theorem o_rename (l : Launch) (h : Rl S M n P kd ct sc sm x y) (a b c d e : Int32) : ∃ mc ms, mc ≤ 50000 ∧ ms ≤ 300000 ∧ cX_X8_rename l mc ms S a b c d e (fun r1 S1 => mX_rename l M a b c d e (fun r2 M1 => OKa S mc ms r1 S1 r2 M1)) := by
  have hP2 := h.P2
  have hn2 := h.n2
  refine ⟨3, 55, by omega, by omega, ?_⟩
  refine c_X8_rename l 3 55 S a b c d e _ ?_
  unfold cT_X8_rename_e
  have e0 : upd (upd (upd (upd (upd (fun _ => (0 : Int32)) (0 : Int32).toNatClampNeg a) (1 : Int32).toNatClampNeg b) (2 : Int32).toNatClampNeg c) (3 : Int32).toNatClampNeg d) (4 : Int32).toNatClampNeg e = n5 (fun _ => 0) a b c d e := rfl
  rw [e0, h.cy.1]
  have eqf : ∀ k, k < P → n5 (fun _ => 0) a b c d e k = n5 (M.2.1 26) a b c d e k := fun k hk => n5_eq _ _ a b c d e k (by omega)
  refine ⟨by omega, by omega, by omega, by omega, k_isRearr l S hP2.2 hP2.2 (by omega) _ (fun q => ⟨fun w => absurd rfl w, fun _ => ⟨by omega, by omega, k_refuse l _ 1 _ ⟨by omega, by omega, ?_⟩⟩⟩) (fun ν hν => ⟨fun _ => ⟨by omega, by omega, ?_⟩, fun w => absurd w (by decide)⟩)⟩
  · refine s_rename l h a b c d e _ (fun _ => ⟨rfl, ⟨n, P, kd, ct, sc, sm, x, y, ((h.scr (N := ma (mf M 3 0) 26 (n5 (M.2.1 26) a b c d e)) ⟨fun k q1 q2 q3 => mf_get_ne _ _ q1, fun k hk => ma_get_ne _ _ (by omega), h.m8, h.m9⟩).tr 1)⟩, ?_, ?_⟩) (fun ν μ hν => absurd ⟨ν, hν.congr (fun k hk => (eqf k hk).symm)⟩ q)
    · show Fc S + 3 ≤ Fc S + 3; omega
    · show Fs S + 55 ≤ Fs S + 55; omega
  · rw [h.sx]
    refine k_renamed l h.cy h.hx hν.1 _ (fun T1 f1 => ⟨by omega, by omega, ?_⟩)
    rw [f1.1 1 rfl, h.sy]
    have hc1 : CY (cf T1 0 (nI (numN (fun j => ν (dgs P x j)) P n))) n P kd ct sc := (have hq := h.cy.fr f1; hq)
    refine k_renamed l hc1 h.hy hν.1 _ (fun T2 f2 => ⟨2, 50, by omega, by omega, ?_⟩)
    have hc2 : CY (cf T2 1 (nI (numN (fun j => ν (dgs P y j)) P n))) n P kd ct sc := (have hq := hc1.fr f2; hq)
    have hsur : ∀ v, v < P → ∃ i, i < P ∧ ν i = v := fun v hv => inj_surj (fun k hk => (hν.1 k hk).2) hν.2 hv
    have hc : ∃ μ : Nat → Nat, ∀ v, v < P → μ v < P ∧ ν (μ v) = v := by
      refine ⟨fun v => if hv : v < P then (hsur v hv).choose else 0, fun v hv => ?_⟩
      simp only [dif_pos hv]
      exact (hsur v hv).choose_spec
    obtain ⟨μ, h2⟩ := hc
    have h1 : ∀ i, i < P → ν i < P ∧ μ (ν i) = i := fun i hi => by
      have w1 := (hν.1 i hi).2
      have w2 := h2 (ν i) w1
      exact ⟨w1, hν.2 _ _ w2.1 hi w2.2⟩
    refine k_renLanes l hc2 h1 h2 (fun k hk => (hν.1 k hk).1) _ (fun T3 f3 hT3 => ⟨by omega, by omega, k_forgetAll l _ _ ⟨by omega, by omega, k_accept l _ _ ⟨by omega, by omega, ?_⟩⟩⟩)
    refine s_rename l h a b c d e _ (fun q => absurd ⟨ν, hν.congr eqf⟩ q) (fun ν' μ' hν' h1' h2' N fN hN n2 n3 => ?_)
    have eν : ∀ i, i < P → ν' i = ν i := fun i hi => by
      have w1 := hν'.1 i hi
      have w2 := hν.1 i hi
      rw [eqf i hi] at w2
      exact (nI_eq (by omega) (by omega)).mp (w1.1.symm.trans w2.1)
    have eμ : ∀ v, v < P → μ' v = μ v := fun v hv => by
      have w1 := h2' v hv
      have w2 := h2 v hv
      rw [eν _ w1.1] at w1
      exact hν.2 _ _ w1.1 w2.1 (w1.2.trans w2.2.symm)
    have hmu : ∀ v, v < P → μ v < P := fun v hv => (h2 v hv).1
    have hmu' : ∀ v, v < P → μ' v < P := fun v hv => (h2' v hv).1
    have hz : ∀ a b, a < 5 → b < 5 → (a = b ∨ P ≤ a ∨ P ≤ b) → ct (5 * a + b) = 0 := h.1.2.2.2
    have ern : ∀ g : Nat → Nat, ∀ j, j < 25 → rn μ' P g P 0 j = rn μ P g P 0 j := by
      intro g j hj
      have ej : j = 5 * (j / 5) + j % 5 := by omega
      rw [ej, rn_end g hmu' (by omega) (by omega), rn_end g hmu (by omega) (by omega)]
      by_cases q : j / 5 < P ∧ j % 5 < P
      · rw [if_pos q, if_pos q, eμ _ q.1, eμ _ q.2]
      · rw [if_neg q, if_neg q]
    have hst : ∀ (u : Nat) (g f : Nat → Int32), u < P ^ n → rgt n P kd u = true → (∀ j, j < 7 → f j = nI (dgs P u j)) → (∀ j, j < 7 → g j = if j < n then nI (ν' (dgs P u j)) else f j) → RS n P kd (nI (numN (fun j => ν (dgs P u j)) P n)) g (numN (fun j => ν (dgs P u j)) P n) := by
      intro u g f hu hr hf hg
      have hlt : ∀ j, j < n → ν (dgs P u j) < P := fun j hj => (h1 _ (dgs_lt (by omega) u j)).1
      have hzz : numN (fun j => ν (dgs P u j)) P n < P ^ n := numN_lt n hlt
      have hdg : ∀ j, j < n → ν' (dgs P u j) = dgs P (numN (fun j => ν (dgs P u j)) P n) j := fun j hj => by
        rw [eν _ (dgs_lt (by omega) u j), dgs_num (by omega) n hlt j hj]
      refine ⟨rfl, hzz, row_of (by omega) hu hzz hf (σ := fun j => ν' (dgs P u j)) hdg g hg, ?_⟩
      rw [rgt_RR]
      exact RR.congr (RR.ren (P := P) (ν := ν) (rgt_RR.mp hr) (fun j hj => dgs_lt (by omega) u j) hν.2) (fun j hj => (dgs_num (by omega) n hlt j hj).symm)
    obtain ⟨τ, m8⟩ := h.m8
    obtain ⟨ρ, m9⟩ := h.m9
    have l1 := lens_eq f1
    have l2 := lens_eq f2
    have l3 := lens_eq f3
    have hl3 : T3.2.2.2 = S.2.2.2 := l3.trans (l2.trans l1)
    have s3 : ∀ k, k ≠ 0 → k ≠ 1 → lA k = false → T3.1 k = S.1 k := fun k k0 k1 kl => by
      rw [f3.1 k rfl, cf_get_ne _ _ k1, f2.1 k kl, cf_get_ne _ _ k0, f1.1 k kl]
    have r3 : ∀ k, q2B k = false → lB k = false → T3.2.1 k = S.2.1 k ∧ T3.2.2.1 k = S.2.2.1 k := fun k kq kl => by
      have w1 := f3.2.1 k kq
      have w2 := f2.2.1 k kl
      have w3 := f1.2.1 k kl
      exact ⟨w1.1.trans (w2.1.trans w3.1), w1.2.trans (w2.2.trans w3.2)⟩
    refine ⟨rfl, ⟨n, P, kd, rn μ P ct P 0, rn μ P sc P 0, rn μ' P sm P 0, numN (fun j => ν (dgs P x j)) P n, numN (fun j => ν (dgs P y j)) P n, ?_⟩, ?_, ?_⟩
    · refine h.fresh hl3 ⟨?_, ?_, fun j hj hne => ?_, fun a b ha hb hab => ?_⟩ ?_ ?_ rfl rfl rfl rfl rfl rfl rfl ?_ ?_ ?_ ?_ ?_ ?_ ?_ ?_ ?_ ?_ ?_ ?_ ?_ ?_ ?_ ?_ ?_
      · exact hT3
      · obtain ⟨c1, c2, c3, c4, c5, c6, c7⟩ := hN
        exact ⟨c1, c2, c3, c4, c5, fun j hj => by rw [← ern ct j hj]; exact c6 j hj, c7⟩
      · have ej : j = 5 * (j / 5) + j % 5 := by omega
        rw [ern sm j hj]
        rw [ej, rn_end ct hmu (by omega) (by omega)] at hne
        rw [ej, rn_end sc hmu (by omega) (by omega), rn_end sm hmu (by omega) (by omega)]
        by_cases q : j / 5 < P ∧ j % 5 < P
        · rw [if_pos q] at hne
          rw [if_pos q, if_pos q]
          have := hmu _ q.1
          have := hmu _ q.2
          exact h.1.2.2.1 _ (by omega) hne
        · rw [if_neg q] at hne
          exact absurd (hz (j / 5) (j % 5) (by omega) (by omega) (by omega)) hne
      · rw [rn_end ct hmu ha hb]
        by_cases q : a < P ∧ b < P
        · rw [if_pos q]
          have hab : a = b := by omega
          subst hab
          have := hmu _ q.1
          exact hz _ _ (by omega) (by omega) (Or.inl rfl)
        · rw [if_neg q]
          exact hz a b ha hb hab
      · show RS n P kd (T3.1 0) (N.2.1 2) _
        rw [f3.1 0 rfl, cf_get_ne _ _ (by decide), f2.1 0 rfl, cf_get]
        exact hst x _ _ h.hx h.2.1.2.2.2 h.2.1.2.2.1 n2
      · show RS n P kd (T3.1 1) (N.2.1 3) _
        rw [f3.1 1 rfl, cf_get]
        exact hst y _ _ h.hy h.2.2.1.2.2.2 h.2.2.1.2.2.1 n3
      · exact s3 11 (by decide) (by decide) rfl
      · exact (r3 22 rfl rfl).1
      · exact fN.1 6 rfl
      · exact fN.2 7 rfl
      · exact s3 19 (by decide) (by decide) rfl
      · exact (r3 38 rfl rfl).1
      · exact (r3 39 rfl rfl).1
      · exact (r3 40 rfl rfl).1
      · exact (r3 41 rfl rfl).1
      · exact (r3 42 rfl rfl).2
      · exact fN.1 9 rfl
      · exact fN.2 29 rfl
      · exact fN.2 30 rfl
      · exact fN.2 31 rfl
      · exact fN.2 32 rfl
      · exact ⟨τ, fun j hj => by show N.2.1 8 j = _ ∧ _; rw [fN.2 8 rfl]; exact m8 j hj⟩
      · exact ⟨ρ, fun j hj => by show N.2.1 9 j = _ ∧ _; rw [fN.2 9 rfl]; exact m9 j hj⟩
    · show Fc S + 3 ≤ Fc T3 + 3
      unfold Fc; rw [hl3]; omega
    · show Fs S + 55 ≤ Fs T3 + 55
      unfold Fs; rw [hl3]; omega
end Ren
