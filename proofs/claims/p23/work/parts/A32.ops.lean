-- yard()
def bA : Nat → Bool := fun k => decide (3 ≤ k) && decide (k ≤ 5)
def bB : Nat → Bool := fun k => decide (9 ≤ k) && decide (k ≤ 11)
theorem k_begin (l : Launch) {S : CS} {n P : Nat} {sc : Nat → Nat} (hP : 2 ≤ P ∧ P ≤ 5) (hn : 1 ≤ n ∧ n ≤ 7) (hs : ∀ j, j < 25 → S.2.1 12 j = nI (sc j) ∧ sc j ≤ 1) (post : CS → Prop) (h : ∀ T, CFr bA bB nn S T → CY T n P (fun _ => 0) (fun _ => 0) sc → post T) : cX_X0_begin l S (nI P) (nI n) post := by
  refine c_X0_begin l S _ _ post ?_
  intro B17 B54 h17 h54
  unfold cT_X0_begin_e
  have e54 : ∀ T, CFr bA bB nn S T → T.1 3 = nI P → T.1 4 = nI n → T.1 5 = nI (P ^ n) → (∀ i, i < n → T.2.1 9 i = nI (P ^ i)) → B54 T := by
    intro T fT t3 t4 t5 t9
    refine h54 _ ?_
    unfold cT_X0_begin_54
    refine h _ ((fT.ca _ rfl).ca _ rfl) ⟨t3, t4, t5, hP, hn, t9, fun j hj => ⟨?_, Nat.zero_le _⟩, fun j hj => ⟨?_, Nat.zero_le _⟩, fun j hj => ?_⟩
    · show filI (T.2.1 10) 7 0 j = nI 0
      unfold filI
      rw [if_pos hj]; rfl
    · show filI (T.2.1 11) 25 0 j = nI 0
      unfold filI
      rw [if_pos hj]; rfl
    · show T.2.1 12 j = _ ∧ _
      rw [(fT.2.1 12 rfl).1]
      exact hs j hj
  have key : ∀ d j, j + d = n → ∀ T, CFr bA bB nn S T → T.1 3 = nI P → T.1 4 = nI n → T.1 5 = nI (P ^ j) → (∀ i, i < j → T.2.1 9 i = nI (P ^ i)) → B17 T (nI j) := by
    intro d
    induction d with
    | zero =>
      intro j hj T fT t3 t4 t5 t9
      have : j = n := by omega
      subst this
      have e := e54 T fT t3 t4 t5 t9
      refine h17 _ _ ?_
      unfold cT_X0_begin_17
      exact ⟨fun _ => e, fun _ => ⟨fun _ => e, fun q => absurd (nI_le (Nat.le_refl _) (by omega)) q⟩⟩
    | succ d ih =>
      intro j hj T fT t3 t4 t5 t9
      refine h17 _ _ ?_
      unfold cT_X0_begin_17
      rw [nI_clamp (show j < 2 ^ 31 by omega), t5, pk_mul, ← Nat.pow_succ, ← nI_succ]
      refine ⟨fun q => absurd q (nI_ge (a := j) (b := 7) (by omega) (by omega)), fun _ => ⟨fun q => absurd q (nI_ge (by omega) (by omega)), fun _ => ⟨vp_in_nI (by omega) (by omega), ih (j + 1) (by omega) _ ((fT.ca _ rfl).cf _ rfl) t3 t4 (cf_get _ _ _) (fun i hi => ?_)⟩⟩⟩
      show upd (T.2.1 9) j (nI (P ^ j)) i = _
      by_cases e : i = j
      · subst e; exact upd_same _ _ _
      · rw [upd_other _ _ e]; exact t9 i (by omega)
  exact key n 0 (by omega) _ (((CFr.rf.cf _ rfl).cf _ rfl).cf _ rfl) rfl rfl rfl (fun i hi => absurd hi (Nat.not_lt_zero _))
/-- the reference's yard: scalars 0 to 5, rows 1 to 5 -/
def yA : Nat → Bool := fun k => decide (k ≤ 5)
def yB : Nat → Bool := fun k => decide (1 ≤ k) && decide (k ≤ 5)
theorem s_yard (l : Launch) {M : MS} (a b : Int32) (post : Bool → MS → Prop) (h0 : (¬ ((∃ i, 2 ≤ i ∧ i ≤ 5 ∧ a = nI i) ∧ ∃ j, 1 ≤ j ∧ j ≤ 7 ∧ b = nI j)) → post false (mf (mf M 3 0) 2 1))
    (h1 : ∀ P n, 2 ≤ P → P ≤ 5 → 1 ≤ n → n ≤ 7 → a = nI P → b = nI n → ∀ T, MFx yA yB M T → MY T n P (fun _ => 0) (fun _ => 0) (fun _ => 0) → (∀ j, j < 7 → T.2.1 2 j = nI 0 ∧ T.2.1 3 j = nI 0) → T.1 4 = 0 → T.1 5 = 0 → T.1 2 = 0 → post true T) : mX_yard l M a b post := by
  refine m_yard l M a b post ?_
  intro B26 B44 B79 h26 h44 h79
  unfold mT_yard_e
  have no : ∀ T, T = mf M 3 0 → (¬ ((∃ i, 2 ≤ i ∧ i ≤ 5 ∧ a = nI i) ∧ ∃ j, 1 ≤ j ∧ j ≤ 7 ∧ b = nI j)) → B26 T := by
    intro T e q
    refine h26 _ ?_
    unfold mT_yard_26
    rw [e]
    exact s_not l _ 1 _ (h0 q)
  refine s_inC l _ a 2 5 _ (L := 2) (H := 5) rfl rfl (by decide) (by decide) (fun q => ⟨fun _ => no _ rfl (fun w => q w.1), fun w => absurd rfl w⟩) (fun P hP1 hP2 ea => ⟨fun w => absurd w (by decide), fun _ => ?_⟩)
  refine s_inC l _ b 1 7 _ (L := 1) (H := 7) rfl rfl (by decide) (by decide) (fun q => ⟨fun w => absurd rfl w, fun _ => no _ rfl (fun w => q w.2)⟩) (fun n hn1 hn2 eb => ⟨fun _ => ?_, fun w => absurd w (by decide)⟩)
  have g1 := h1 P n hP1 hP2 hn1 hn2 ea eb
  have e79 : ∀ d k, k + d = 25 → ∀ T, MFx yA yB M T → T.1 0 = nI P → T.1 1 = nI n → (∀ j, j < 7 → T.2.1 1 j = nI 0 ∧ T.2.1 2 j = nI 0 ∧ T.2.1 3 j = nI 0) → (∀ j, j < k → T.2.1 4 j = nI 0 ∧ T.2.1 5 j = nI 0) → B79 T (nI k) := by
    intro d
    induction d with
    | zero =>
      intro k hk T fT t0 t1 tz tl
      have : k = 25 := by omega
      subst this
      refine h79 _ _ ?_
      unfold mT_yard_79
      refine ⟨fun _ => s_nothingUndone l T _ ?_, fun q => absurd (show (25 : Int32) ≤ nI 25 by decide) q⟩
      refine g1 _ (((fT.sc _ rfl).sc _ rfl).sc _ rfl) ⟨t0, t1, ⟨hP1, hP2⟩, ⟨hn1, hn2⟩, fun j hj => ⟨(tz j hj).1, Nat.zero_le _⟩, fun j hj => ⟨(tl j hj).1, Nat.zero_le _⟩, fun j hj => ⟨(tl j hj).2, Nat.zero_le _⟩⟩ (fun j hj => (tz j hj).2) rfl rfl rfl
    | succ d ih =>
      intro k hk T fT t0 t1 tz tl
      refine h79 _ _ ?_
      unfold mT_yard_79
      refine ⟨fun q => absurd q (nI_ge (a := k) (b := 25) (by omega) (by omega)), fun _ => ⟨vp_in_nI (by omega) (by omega), vp_in_nI (by omega) (by omega), ?_⟩⟩
      rw [← nI_succ, nI_clamp (show k < 2 ^ 31 by omega)]
      refine ih (k + 1) (by omega) _ ((fT.row _ rfl).row _ rfl) t0 t1 tz (fun j hj => ?_)
      show upd (T.2.1 4) k 0 j = nI 0 ∧ upd (T.2.1 5) k (vp_nar .boolean 0) j = nI 0
      by_cases e : j = k
      · subst e; rw [upd_same, upd_same]; exact ⟨rfl, rfl⟩
      · rw [upd_other _ _ e, upd_other _ _ e]; exact tl j (by omega)
  have e44 : ∀ d k, k + d = 7 → ∀ T, MFx yA yB M T → T.1 0 = nI P → T.1 1 = nI n → (∀ j, j < k → T.2.1 1 j = nI 0 ∧ T.2.1 2 j = nI 0 ∧ T.2.1 3 j = nI 0) → B44 T (nI k) := by
    intro d
    induction d with
    | zero =>
      intro k hk T fT t0 t1 tz
      have : k = 7 := by omega
      subst this
      refine h44 _ _ ?_
      unfold mT_yard_44
      exact ⟨fun _ => e79 25 0 (by omega) T fT t0 t1 tz (fun j hj => absurd hj (Nat.not_lt_zero _)), fun q => absurd (show (7 : Int32) ≤ nI 7 by decide) q⟩
    | succ d ih =>
      intro k hk T fT t0 t1 tz
      refine h44 _ _ ?_
      unfold mT_yard_44
      refine ⟨fun q => absurd q (nI_ge (a := k) (b := 7) (by omega) (by omega)), fun _ => ⟨vp_in_nI (by omega) (by omega), vp_in_nI (by omega) (by omega), vp_in_nI (by omega) (by omega), ?_⟩⟩
      rw [← nI_succ, nI_clamp (show k < 2 ^ 31 by omega)]
      refine ih (k + 1) (by omega) _ (((fT.row _ rfl).row _ rfl).row _ rfl) t0 t1 (fun j hj => ?_)
      show upd (T.2.1 1) k 0 j = nI 0 ∧ upd (T.2.1 2) k 0 j = nI 0 ∧ upd (T.2.1 3) k 0 j = nI 0
      by_cases e : j = k
      · subst e; rw [upd_same, upd_same, upd_same]; exact ⟨rfl, rfl, rfl⟩
      · rw [upd_other _ _ e, upd_other _ _ e, upd_other _ _ e]; exact tz j (by omega)
  exact e44 7 0 (by omega) _ (((MFx.rf.sc _ rfl).sc _ rfl).sc _ rfl) ea eb (fun j hj => absurd hj (Nat.not_lt_zero _))
theorem rightN_plain {σ : Nat → Nat} {n : Nat} : ∀ t d, rightN (fun _ => 0) σ n t d = true := by
  intro t
  induction t with
  | zero => intro d; rfl
  | succ t ih => intro d; unfold rightN; rw [ih]; simp [okD]
theorem dgs0 (P j : Nat) : dgs P 0 j = 0 := by unfold dgs; rw [Nat.zero_div, Nat.zero_mod]
/-- a call's end: the answers are the same, and so is what is held; no length has changed -/
def OKr {α : Type} (S : CS) (r1 : α) (S1 : CS) (r2 : α) (M1 : MS) : Prop := r1 = r2 ∧ Rel S1 M1 ∧ S1.2.2.2 = S.2.2.2
theorem lens_eq {a b : Nat → Bool} {S T : CS} (f : CFr a b nn S T) : T.2.2.2 = S.2.2.2 := funext fun k => f.2.2 k rfl
section OpsS
variable {S : CS} {M : MS} {n P x y : Nat} {kd ct sc sm : Nat → Nat}
theorem o_yard (l : Launch) (h : Rl S M n P kd ct sc sm x y) (a b : Int32) : cX_X8_yard l S a b (fun r1 S1 => mX_yard l M a b (fun r2 M1 => OKr S r1 S1 r2 M1)) := by
  refine c_X8_yard l S a b _ ?_
  intro B21 h21
  unfold cT_X8_yard_e
  have no : (¬ ((∃ i, 2 ≤ i ∧ i ≤ 5 ∧ a = nI i) ∧ ∃ j, 1 ≤ j ∧ j ≤ 7 ∧ b = nI j)) → B21 S := by
    intro q
    refine h21 _ ?_
    unfold cT_X8_yard_21
    refine k_refuse l S 1 _ (s_yard l a b _ (fun _ => ⟨rfl, ⟨n, P, kd, ct, sc, sm, x, y, (h.th 0).tr 1⟩, rfl⟩) (fun P' n' p1 p2 n1 n2 ea eb => absurd ⟨⟨P', p1, p2, ea⟩, ⟨n', n1, n2, eb⟩⟩ q))
  by_cases q : (∃ i, 2 ≤ i ∧ i ≤ 5 ∧ a = nI i) ∧ ∃ j, 1 ≤ j ∧ j ≤ 7 ∧ b = nI j
  · obtain ⟨⟨P', p1, p2, ea⟩, ⟨n', n1, n2, eb⟩⟩ := q
    subst ea
    subst eb
    refine ⟨fun w => absurd w (nI_nlt (b := 2) p1 (by omega)), fun _ => ⟨fun w => absurd w (nI_nlt (a := 5) p2 (by omega)), fun _ => ⟨fun w => absurd w (nI_nlt (b := 1) n1 (by omega)), fun _ => ⟨fun _ => ?_, fun w => absurd (nI_le (b := 7) n2 (by omega)) w⟩⟩⟩⟩
    refine k_begin l ⟨p1, p2⟩ ⟨n1, n2⟩ h.1.1.2.2.2.2.2.2.2.2 _ (fun T fT hT => ?_)
    refine k_forgetAll l _ _ (k_accept l _ _ ?_)
    refine s_yard l _ _ _ (fun w => absurd ⟨⟨P', p1, p2, rfl⟩, ⟨n', n1, n2, rfl⟩⟩ w) (fun P2 m2 q1 q2 q3 q4 ea eb N fN hN hz n4 n5 n2' => ?_)
    have e1 : P' = P2 := (nI_eq (by omega) (by omega)).mp ea
    have e2 : n' = m2 := (nI_eq (by omega) (by omega)).mp eb
    subst e1
    subst e2
    have hle : T.2.2.2 = S.2.2.2 := lens_eq fT
    refine ⟨rfl, ⟨n', P', fun _ => 0, fun _ => 0, sc, fun _ => 0, 0, 0, ?_⟩, hle⟩
    have hst : ∀ f : Nat → Int32, (∀ j, j < 7 → f j = nI 0) → RS n' P' (fun _ => 0) 0 f 0 := fun f hf => ⟨rfl, Nat.pow_pos (by omega), fun j hj => by rw [dgs0]; exact hf j hj, rightN_plain _ _⟩
    obtain ⟨-, -, -, -, h5, h6, h7, ⟨⟨τ, h8⟩, ⟨ρ, h8'⟩⟩, h9, h10⟩ := h
    refine ⟨⟨hT, hN, fun j _ w => absurd rfl w, fun _ _ _ _ _ => rfl⟩, hst _ (fun j hj => (hz j hj).1), hst _ (fun j hj => (hz j hj).2), n2'.symm, ?_, ?_, ?_, ⟨⟨τ, fun j hj => ?_⟩, ⟨ρ, fun j hj => ?_⟩⟩, h9.none hle rfl, h10.none hle rfl⟩
    · rw [n4, n5]; exact RP0
    · show RPl (T.1 11) (T.2.1 22) (T.2.2.2 22) _ _
      rw [fT.1 11 rfl, (fT.2.1 22 rfl).1, fT.2.2 22 rfl, fN.1 6 rfl, fN.2 7 rfl]; exact h6
    · show RK (T.1 19) (T.2.1 38) (T.2.1 39) (T.2.1 40) (T.2.1 41) (T.2.2.1 42) _ _ _ _ _
      rw [fT.1 19 rfl, (fT.2.1 38 rfl).1, (fT.2.1 39 rfl).1, (fT.2.1 40 rfl).1, (fT.2.1 41 rfl).1, (fT.2.1 42 rfl).2, fN.1 9 rfl, fN.2 29 rfl, fN.2 30 rfl, fN.2 31 rfl, fN.2 32 rfl]; exact h7
    · rw [fN.2 8 rfl]; exact h8 j hj
    · rw [fN.2 9 rfl]; exact h8' j hj
  · have g := no q
    refine ⟨fun _ => g, fun c1 => ⟨fun _ => g, fun c2 => ⟨fun _ => g, fun c3 => ⟨fun c4 => absurd ?_ q, fun _ => g⟩⟩⟩⟩
    obtain ⟨i, i1, i2, i3⟩ := (in_rng (L := 2) (H := 5) (a := a) (by decide) (by decide)).mp ⟨Int32.not_lt.mp c1, Int32.not_lt.mp c2⟩
    obtain ⟨j, j1, j2, j3⟩ := (in_rng (L := 1) (H := 7) (a := b) (by decide) (by decide)).mp ⟨Int32.not_lt.mp c3, c4⟩
    exact ⟨⟨i, i1, i2, i3⟩, ⟨j, j1, j2, j3⟩⟩
end OpsS
