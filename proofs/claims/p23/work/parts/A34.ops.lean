-- how many lanes there are
def lnN (ct : Nat → Nat) : Nat := cntP (fun j => decide (ct j ≠ 0)) 25
theorem k_countLanes (l : Launch) {S : CS} {ct : Nat → Nat} (hc : ∀ j, j < 25 → S.2.1 11 j = nI (ct j) ∧ ct j ≤ 100) (post : Int32 → CS → Prop) (h : post (nI (lnN ct)) S) : cX_X0_countLanes l S post := by
  refine c_X0_countLanes l S post ?_
  intro B13 B33 h13 h33
  unfold cT_X0_countLanes_e
  have key : ∀ d k, k + d = 25 → B13 S (nI (cntP (fun j => decide (ct j ≠ 0)) k)) 25 (nI k) := by
    intro d
    induction d with
    | zero =>
      intro k hk
      have : k = 25 := by omega
      subst this
      refine h13 _ _ _ _ ?_
      unfold cT_X0_countLanes_13
      exact ⟨fun _ => h, fun q => absurd (show (25 : Int32) ≤ nI 25 by decide) q⟩
    | succ d ih =>
      intro k hk
      have hk1 := hc k (by omega)
      have nxt : ∀ v, v = nI (cntP (fun j => decide (ct j ≠ 0)) (k + 1)) → B33 S v 25 (nI k) := by
        intro v e
        refine h33 _ _ _ _ ?_
        unfold cT_X0_countLanes_33
        rw [e, ← nI_succ]
        exact ih (k + 1) (by omega)
      refine h13 _ _ _ _ ?_
      unfold cT_X0_countLanes_13
      rw [nI_clamp (show k < 2 ^ 31 by omega), hk1.1]
      refine ⟨fun q => absurd q (nI_ge (a := k) (b := 25) (by omega) (by omega)), fun _ => ⟨vp_in_nI (by omega) (by omega), fun v e => ?_⟩⟩
      subst e
      refine ⟨fun c => nxt _ ?_, fun c => nxt _ ?_⟩
      · have c : ct k = 0 := (nI_is 0 rfl (by omega) (by omega)).mp c
        conv => rhs; unfold cntP
        simp [c]
      · have c : ct k ≠ 0 := fun q => c (by rw [q]; rfl)
        conv => rhs; unfold cntP
        simp [c, nI_succ]
  exact key 25 0 (by omega)
theorem s_lanesThere (l : Launch) {M : MS} {ct : Nat → Nat} (hc : ∀ j, j < 25 → M.2.1 4 j = nI (ct j) ∧ ct j ≤ 100) (post : Int32 → MS → Prop) (h : post (nI (lnN ct)) M) : mX_lanesThere l M post := by
  refine m_lanesThere l M post ?_
  intro B4 h4
  unfold mT_lanesThere_e
  have key : ∀ d k, k + d = 25 → B4 M (nI (cntP (fun j => decide (ct j ≠ 0)) k)) (nI k) := by
    intro d
    induction d with
    | zero =>
      intro k hk
      have : k = 25 := by omega
      subst this
      refine h4 _ _ _ ?_
      unfold mT_lanesThere_4
      exact ⟨fun _ => h, fun q => absurd (show (25 : Int32) ≤ nI 25 by decide) q⟩
    | succ d ih =>
      intro k hk
      have hk1 := hc k (by omega)
      refine h4 _ _ _ ?_
      unfold mT_lanesThere_4
      rw [nI_clamp (show k < 2 ^ 31 by omega), hk1.1]
      refine ⟨fun q => absurd q (nI_ge (a := k) (b := 25) (by omega) (by omega)), fun _ => ⟨vp_in_nI (by omega) (by omega), fun c v e => ?_, fun c v e => ?_⟩⟩
      · have c : ct k = 0 := by
          rcases Nat.eq_zero_or_pos (ct k) with q | q
          · exact q
          · exact absurd c (nI_nle q (by omega))
        have := ih (k + 1) (by omega)
        conv at this => unfold cntP
        simp only [c] at this
        rw [e, Int32.add_zero, ← nI_succ]
        exact this
      · have c : ct k ≠ 0 := fun q => c (by rw [q]; decide)
        have := ih (k + 1) (by omega)
        conv at this => unfold cntP
        rw [if_pos (decide_eq_true c)] at this
        rw [e, ← nI_succ, ← nI_succ]
        exact this
  exact key 25 0 (by omega)
-- lanes(): all of them
/-- of the pairs ahead of (p, q) the lanes are there -/
def opN (f : Nat → Nat) (P p q : Nat) : Nat → Nat := fun j => if j % 5 < P ∧ j / 5 ≠ j % 5 ∧ (j / 5 < p ∨ (j / 5 = p ∧ j % 5 < q)) then 1 else f j
theorem opN_eq {f : Nat → Nat} {P p q p' q' : Nat} (h : ∀ a b, b < P → a ≠ b → ((a < p ∨ (a = p ∧ b < q)) ↔ (a < p' ∨ (a = p' ∧ b < q')))) : opN f P p q = opN f P p' q' := by
  funext j
  unfold opN
  by_cases e : j % 5 < P ∧ j / 5 ≠ j % 5
  · have := h (j / 5) (j % 5) e.1 e.2
    by_cases w : j / 5 < p ∨ (j / 5 = p ∧ j % 5 < q)
    · rw [if_pos ⟨e.1, e.2, w⟩, if_pos ⟨e.1, e.2, this.mp w⟩]
    · rw [if_neg (fun z => w z.2.2), if_neg (fun z => w (this.mpr z.2.2))]
  · rw [if_neg (fun z => e ⟨z.1, z.2.1⟩), if_neg (fun z => e ⟨z.1, z.2.1⟩)]
theorem opN_0 (f : Nat → Nat) (P : Nat) : opN f P 0 0 = f := by
  funext j
  unfold opN
  rw [if_neg (fun w => by have := w.2.2; omega)]
theorem opN_row (f : Nat → Nat) (P p : Nat) : opN f P p P = opN f P (p + 1) 0 := opN_eq (fun a b h1 h2 => by omega)
theorem opN_diag (f : Nat → Nat) (P p : Nat) : opN f P p (p + 1) = opN f P p p := opN_eq (fun a b h1 h2 => by omega)
theorem opN_step (f : Nat → Nat) {P p q : Nat} (hP : P ≤ 5) (hq : q < P) (h : p ≠ q) : opN f P p (q + 1) = va_up (opN f P p q) (5 * p + q) 1 := by
  funext j
  by_cases e : j = 5 * p + q
  · subst e
    rw [va_up_same]
    unfold opN
    have e1 : (5 * p + q) / 5 = p := by omega
    have e2 : (5 * p + q) % 5 = q := by omega
    rw [e1, e2, if_pos ⟨hq, h, Or.inr ⟨rfl, by omega⟩⟩]
  · rw [va_up_other _ _ e]
    unfold opN
    by_cases w : j % 5 < P ∧ j / 5 ≠ j % 5 ∧ (j / 5 < p ∨ (j / 5 = p ∧ j % 5 < q))
    · rw [if_pos w, if_pos ⟨w.1, w.2.1, by omega⟩]
    · rw [if_neg w, if_neg (fun z => w ⟨z.1, z.2.1, by have := z.2.2; omega⟩)]
section Ops3
variable {S : CS} {M : MS} {n P x y : Nat} {kd ct sc sm : Nat → Nat}
theorem k_openAll (l : Launch) (h : CY S n P kd ct sc) (post : CS → Prop) (hp : ∀ T, CFr (fun _ => false) (fun k => decide (k = 11) || decide (k = 12)) nn S T → CY T n P kd (opN ct P P 0) (opN sc P P 0) → post T) : cX_X0_openAll l S post := by
  have hP2 := h.2.2.2.1
  refine c_X0_openAll l S post ?_
  intro B2 B12 B33 h2 h12 h33
  unfold cT_X0_openAll_e
  refine pair_loop (α := CS) (P := P) (Bo := fun U p => B2 U (nI p)) (Bi := fun U p r => B12 U (nI p) (nI r)) (I := fun p r U => CFr (fun _ => false) (fun k => decide (k = 11) || decide (k = 12)) nn S U ∧ CY U n P kd (opN ct P p r) (opN sc P p r)) ?_ ?_ ?_ ?_ ?_ S ?_
  · rintro U p hp' ⟨k1, k2⟩ hBi
    refine h2 _ _ ?_
    unfold cT_X0_openAll_2
    rw [k2.1]
    exact ⟨fun w => absurd w (nI_ge hp' (by omega)), fun _ => hBi⟩
  · rintro U ⟨k1, k2⟩
    refine h2 _ _ ?_
    unfold cT_X0_openAll_2
    rw [k2.1]
    exact ⟨fun _ => hp U k1 k2, fun w => absurd (nI_le (Nat.le_refl _) (by omega)) w⟩
  · rintro U p r hp' hr ⟨k1, k2⟩ nxt
    have go : ∀ V, CFr (fun _ => false) (fun k => decide (k = 11) || decide (k = 12)) nn S V → CY V n P kd (opN ct P p (r + 1)) (opN sc P p (r + 1)) → B33 V (nI p) (nI r) := by
      intro V v1 v2
      refine h33 _ _ _ ?_
      unfold cT_X0_openAll_33
      rw [← nI_succ]
      exact nxt V ⟨v1, v2⟩
    refine h12 _ _ _ ?_
    unfold cT_X0_openAll_12
    rw [k2.1]
    refine ⟨fun w => absurd w (nI_ge hr (by omega)), fun _ => ⟨fun e => ?_, fun e => ?_⟩⟩
    · have e : p = r := (nI_eq (by omega) (by omega)).mp e
      subst e
      exact go U k1 (by rw [opN_diag, opN_diag]; exact k2)
    · have e : p ≠ r := fun q => e (by rw [q])
      refine k_setLane l U (by omega) (by omega) 1 true _ (go _ ((k1.ca _ rfl).ca _ rfl) ?_)
      rw [opN_step _ hP2.2 hr e, opN_step _ hP2.2 hr e]
      exact k2.lane (c := 1) (by decide) (by decide)
  · rintro U p hp' ⟨k1, k2⟩ hBo
    refine h12 _ _ _ ?_
    unfold cT_X0_openAll_12
    rw [k2.1, ← nI_succ]
    exact ⟨fun _ => hBo, fun w => absurd (nI_le (Nat.le_refl _) (by omega)) w⟩
  · rintro U p hp' ⟨k1, k2⟩
    rw [opN_row, opN_row] at k2
    exact ⟨k1, k2⟩
  · exact ⟨CFr.rf, by rw [opN_0, opN_0]; exact h⟩
theorem s_lanes (l : Launch) (h : MY M n P kd ct sm) (post : Int32 → MS → Prop) (hp : ∀ T, MFx (fun k => decide (k = 3)) (fun k => decide (k = 4) || decide (k = 5)) M T → MY T n P kd (opN ct P P 0) (opN sm P P 0) → post (nI (lnN (opN ct P P 0))) (mf (mf T 4 0) 5 0)) : mX_lanes l M post := by
  have hP2 := h.2.2.1
  refine m_lanes l M post ?_
  intro B7 B17 B55 h7 h17 h55
  unfold mT_lanes_e
  refine pair_loop (α := MS) (P := P) (Bo := fun U p => B7 U (nI p)) (Bi := fun U p r => B17 U (nI p) (nI r)) (I := fun p r U => MFx (fun k => decide (k = 3)) (fun k => decide (k = 4) || decide (k = 5)) M U ∧ MY U n P kd (opN ct P p r) (opN sm P p r)) ?_ ?_ ?_ ?_ ?_ (mf M 3 0) ?_
  · rintro U p hp' ⟨k1, k2⟩ hBi
    refine h7 _ _ ?_
    unfold mT_lanes_7
    rw [k2.1]
    exact ⟨fun w => absurd w (nI_ge hp' (by omega)), fun _ => hBi⟩
  · rintro U ⟨k1, k2⟩
    refine h7 _ _ ?_
    unfold mT_lanes_7
    rw [k2.1]
    exact ⟨fun _ => s_lanesThere l (M := mf (mf U 4 0) 5 0) k2.2.2.2.2.2.1 _ (hp U k1 k2), fun w => absurd (nI_le (Nat.le_refl _) (by omega)) w⟩
  · rintro U p r hp' hr ⟨k1, k2⟩ nxt
    have go : ∀ V, MFx (fun k => decide (k = 3)) (fun k => decide (k = 4) || decide (k = 5)) M V → MY V n P kd (opN ct P p (r + 1)) (opN sm P p (r + 1)) → B55 V (nI p) (nI r) := by
      intro V v1 v2
      refine h55 _ _ _ ?_
      unfold mT_lanes_55
      rw [← nI_succ]
      exact nxt V ⟨v1, v2⟩
    refine h17 _ _ _ ?_
    unfold mT_lanes_17
    rw [k2.1, ix25 (by omega) (by omega), nI_clamp (show 5 * p + r < 2 ^ 31 by omega)]
    refine ⟨fun w => absurd w (nI_ge hr (by omega)), fun _ => ⟨fun e => ?_, fun e => ?_⟩⟩
    · have e : p ≠ r := fun q => e (by rw [q])
      refine ⟨vp_in_nI (by omega) (by omega), vp_in_nI (by omega) (by omega), go _ ((k1.row _ rfl).row _ rfl) ?_⟩
      rw [opN_step _ hP2.2 hr e, opN_step _ hP2.2 hr e]
      exact MYlane k2 (c := 1) (s := 1) (by decide) (by decide)
    · have e : p = r := (nI_eq (by omega) (by omega)).mp e
      subst e
      exact go U k1 (by rw [opN_diag, opN_diag]; exact k2)
  · rintro U p hp' ⟨k1, k2⟩ hBo
    refine h17 _ _ _ ?_
    unfold mT_lanes_17
    rw [k2.1, ← nI_succ]
    exact ⟨fun _ => hBo, fun w => absurd (nI_le (Nat.le_refl _) (by omega)) w⟩
  · rintro U p hp' ⟨k1, k2⟩
    rw [opN_row, opN_row] at k2
    exact ⟨k1, k2⟩
  · exact ⟨MFx.rf.sc _ rfl, by rw [opN_0, opN_0]; exact h.mf 0 (by decide) (by decide)⟩
theorem o_lanes (l : Launch) (h : Rl S M n P kd ct sc sm x y) : cX_X8_lanes l S (fun r1 S1 => mX_lanes l M (fun r2 M1 => OKr S r1 S1 r2 M1)) := by
  have hP2 := h.P2
  refine c_X8_lanes l S _ ?_
  unfold cT_X8_lanes_e
  refine k_openAll l h.cy _ (fun T fT hT => ?_)
  refine k_forgetAll l _ _ (k_countLanes l (S := cf (cf (cf (cf T 9 0) 10 0) 12 (-1)) 17 0) (ct := opN ct P P 0) hT.2.2.2.2.2.2.2.1 _ ?_)
  refine s_lanes l h.my _ (fun N fN hN => ⟨rfl, ⟨n, P, kd, opN ct P P 0, opN sc P P 0, opN sm P P 0, x, y, h.lanes fT fN hT hN (fun j hj hne => ?_) (fun a b ha hb hab => ?_)⟩, (have hq := lens_eq fT; hq)⟩)
  · unfold opN at hne ⊢
    by_cases e : j % 5 < P ∧ j / 5 ≠ j % 5 ∧ (j / 5 < P ∨ (j / 5 = P ∧ j % 5 < 0))
    · rw [if_pos e, if_pos e]
    · rw [if_neg e] at hne
      rw [if_neg e, if_neg e]
      exact h.1.2.2.1 j hj hne
  · unfold opN
    have e1 : (5 * a + b) / 5 = a := by omega
    have e2 : (5 * a + b) % 5 = b := by omega
    rw [e1, e2, if_neg]
    · exact h.1.2.2.2 a b ha hb hab
    · rintro ⟨w1, w2, w3⟩
      omega
theorem o_cost (l : Launch) (h : Rl S M n P kd ct sc sm x y) (a b : Int32) : cX_X8_cost l S a b (fun r1 S1 => mX_cost l M a b (fun r2 M1 => OKr S r1 S1 r2 M1)) := by
  have hP2 := h.P2
  refine c_X8_cost l S a b _ ?_
  unfold cT_X8_cost_e
  have no : (¬ ((∃ i, i < P ∧ a = nI i) ∧ ∃ j, j < P ∧ b = nI j)) → mX_cost l M a b (fun r2 M1 => OKr S (-1) S r2 M1) := fun q =>
    s_cost l M a b _ h.my (fun _ => ⟨rfl, ⟨n, P, kd, ct, sc, sm, x, y, h.th 0⟩, rfl⟩) (fun i j hi hj ea eb => absurd ⟨⟨i, hi, ea⟩, j, hj, eb⟩ q)
  refine k_isPeg l h.cy.1 hP2.2 a _ (fun q => ⟨fun _ => no (fun w => q w.1), fun w => absurd rfl w⟩) (fun i hi ea => ⟨fun w => absurd w (by decide), fun _ => ?_⟩)
  refine k_isPeg l h.cy.1 hP2.2 b _ (fun q => ⟨fun w => absurd rfl w, fun _ => no (fun w => q w.2)⟩) (fun j hj eb => ⟨fun _ => ?_, fun w => absurd w (by decide)⟩)
  subst ea
  subst eb
  rw [ix5, nI_clamp (show 5 * i + j < 2 ^ 31 by omega), (h.cy.2.2.2.2.2.2.2.1 (5 * i + j) (by omega)).1]
  refine ⟨vp_in_nI (by omega) (by omega), s_cost l M _ _ _ h.my (fun w => absurd ⟨⟨i, hi, rfl⟩, j, hj, rfl⟩ w) (fun i' j' hi' hj' ea' eb' => ?_)⟩
  have e1 : i = i' := (nI_eq (by omega) (by omega)).mp ea'
  have e2 : j = j' := (nI_eq (by omega) (by omega)).mp eb'
  subst e1
  subst e2
  exact ⟨rfl, ⟨n, P, kd, ct, sc, sm, x, y, h.th 0⟩, rfl⟩
theorem o_number (l : Launch) (h : Rl S M n P kd ct sc sm x y) (g : Bool) : cX_X8_number l S g (fun r1 S1 => mX_number l M g (fun r2 M1 => OKr S r1 S1 r2 M1)) := by
  refine c_X8_number l S g _ ?_
  unfold cT_X8_number_e
  have key : mX_number l M g (fun r2 M1 => OKr S (nI (if g then y else x)) S r2 M1) := by
    refine s_number l M g _ h.my h.xa h.ya ⟨?_, ⟨n, P, kd, ct, sc, sm, x, y, h.th 0⟩, rfl⟩
    cases g
    · show nI x = nI (packN (dgs P x) P n 0)
      rw [dgs_pack h.hx]
    · show nI y = nI (packN (dgs P y) P n 0)
      rw [dgs_pack h.hy]
  refine ⟨fun c => ?_, fun c => ?_⟩
  · rw [bI_0] at c
    subst c
    rw [h.sx]; exact key
  · rw [bI_n0] at c
    subst c
    rw [h.sy]; exact key
theorem o_peg (l : Launch) (h : Rl S M n P kd ct sc sm x y) (a : Int32) : cX_X8_peg l S a (fun r1 S1 => mX_peg l M a (fun r2 M1 => OKr S r1 S1 r2 M1)) := by
  have hn2 := h.n2
  refine c_X8_peg l S a _ ?_
  unfold cT_X8_peg_e
  refine k_isDisc l h.cy.2.1 hn2.2 a _ (fun q => ⟨fun w => absurd rfl w, fun _ => ?_⟩) (fun i hi ea => ⟨fun _ => ?_, fun w => absurd w (by decide)⟩)
  · exact s_peg l M a _ h.my h.xa (fun _ => ⟨rfl, ⟨n, P, kd, ct, sc, sm, x, y, h.th 0⟩, rfl⟩) (fun i hi ea => absurd ⟨i, hi, ea⟩ q)
  · subst ea
    rw [h.sx]
    refine k_read l h.cy h.hx _ (fun T fT hT => ?_)
    rw [nI_clamp (show i < 2 ^ 31 by omega), hT.1 i (Nat.zero_le _) hi]
    refine ⟨vp_in_nI (by omega) (by omega), s_peg l M _ _ h.my h.xa (fun w => absurd ⟨i, hi, rfl⟩ w) (fun i' hi' ea' => ?_)⟩
    have e1 : i = i' := (nI_eq (by omega) (by omega)).mp ea'
    subst e1
    exact ⟨rfl, ⟨n, P, kd, ct, sc, sm, x, y, (h.look fT).th 0⟩, lens_eq fT⟩
theorem o_why (l : Launch) (h : Rl S M n P kd ct sc sm x y) (a b : Int32) : cX_X8_why l S a b (fun r1 S1 => mX_why l M a b (fun r2 M1 => OKr S r1 S1 r2 M1)) := by
  have hP2 := h.P2
  refine c_X8_why l S a b _ ?_
  unfold cT_X8_why_e
  have no : (¬ ((∃ i, i < P ∧ a = nI i) ∧ ∃ j, j < P ∧ b = nI j)) → mX_why l M a b (fun r2 M1 => OKr S (-1) S r2 M1) := fun q =>
    s_why l M a b _ h.my h.xa (fun _ => ⟨rfl, ⟨n, P, kd, ct, sc, sm, x, y, h.th 0⟩, rfl⟩) (fun i j hi hj ea eb => absurd ⟨⟨i, hi, ea⟩, j, hj, eb⟩ q)
  refine k_isPeg l h.cy.1 hP2.2 a _ (fun q => ⟨fun _ => no (fun w => q w.1), fun w => absurd rfl w⟩) (fun i hi ea => ⟨fun w => absurd w (by decide), fun _ => ?_⟩)
  refine k_isPeg l h.cy.1 hP2.2 b _ (fun q => ⟨fun w => absurd rfl w, fun _ => no (fun w => q w.2)⟩) (fun j hj eb => ⟨fun _ => ?_, fun w => absurd w (by decide)⟩)
  subst ea
  subst eb
  rw [h.sx]
  refine k_read l h.cy h.hx _ (fun T fT hT => ?_)
  refine k_hind l (h.cy.fr fT) hT (by omega) (by omega) _ ?_
  refine s_why l M _ _ _ h.my h.xa (fun w => absurd ⟨⟨i, hi, rfl⟩, j, hj, rfl⟩ w) (fun i' j' hi' hj' ea' eb' => ?_)
  have e1 : i = i' := (nI_eq (by omega) (by omega)).mp ea'
  have e2 : j = j' := (nI_eq (by omega) (by omega)).mp eb'
  subst e1
  subst e2
  exact ⟨by rw [h.why _ (by omega) (by omega)], ⟨n, P, kd, ct, sc, sm, x, y, (h.look fT).th 0⟩, lens_eq fT⟩
-- the k-th disc of a peg, from below
def kthN (σ : Nat → Nat) (p : Nat) : Nat → Nat → Option Nat
  | 0, _ => none
  | d + 1, K => if σ d = p then (if K = 0 then some d else kthN σ p d (K - 1)) else kthN σ p d K
theorem s_disc (l : Launch) (h : Rl S M n P kd ct sc sm x y) (a b : Int32) (post : Int32 → MS → Prop) (h0 : (¬ ((∃ i, i < P ∧ a = nI i) ∧ ¬ b < 0)) → post (-1) (mf M 3 0)) (h1 : ∀ i K, i < P → K < 2 ^ 31 → a = nI i → b = nI K → post (lab (kthN (dgs P x) i n K)) (mf M 3 0)) : mX_disc l M a b post := by
  have hP2 := h.P2
  have hn2 := h.n2
  refine m_disc l M a b post ?_
  intro B25 B58 h25 h58
  unfold mT_disc_e
  refine s_isPegC l _ a _ (P := P) h.my.1 hP2 (fun q => ⟨fun w => absurd rfl w, fun _ => h0 (fun w => q w.1)⟩) (fun i hi ea => ⟨fun _ v ev => ?_, fun w => absurd w (by decide)⟩)
  subst ea
  have ev : v = nI n - 1 := by rw [ev]; show M.1 1 - 1 = _; rw [h.my.2.1]
  subst ev
  by_cases hb : b < 0
  · refine h25 _ _ _ ?_
    unfold mT_disc_25
    have g := h0 (fun w => w.2 hb)
    exact ⟨fun _ => g, fun _ => ⟨fun _ => g, fun w => absurd hb w⟩⟩
  · obtain ⟨K, hK, eb⟩ := nI_of hb
    subst eb
    have g := h1 i K hi hK rfl rfl
    have key : ∀ d, d ≤ n → ∀ J, J < 2 ^ 31 → kthN (dgs P x) i n K = kthN (dgs P x) i d J → B25 (mf M 3 0) (nI J) (nI d - 1) := by
      intro d
      induction d with
      | zero =>
        intro _ J hJ he
        refine h25 _ _ _ ?_
        unfold mT_disc_25
        refine ⟨fun _ => ?_, fun w => absurd (by decide) w⟩
        rw [he] at g
        exact g
      | succ d ih =>
        intro hd J hJ he
        have hxd : (mf M 3 0).2.1 2 d = nI (dgs P x d) := (h.xa d (by omega)).1
        have hx5 := (h.xa d (by omega)).2
        have nxt : ∀ J', J' < 2 ^ 31 → kthN (dgs P x) i n K = kthN (dgs P x) i d J' → B58 (mf M 3 0) (nI J') (nI d) := by
          intro J' hJ' he'
          refine h58 _ _ _ ?_
          unfold mT_disc_58
          rw [i_sub1]
          exact ih (by omega) J' hJ' he'
        refine h25 _ _ _ ?_
        unfold mT_disc_25
        rw [nI_pred, nI_clamp (show d < 2 ^ 31 by omega), hxd]
        refine ⟨fun w => absurd w (nI_pos (by omega)), fun _ => ⟨fun w => absurd w (nI_pos hJ), fun _ => ⟨vp_in_nI (by omega) (by omega), fun c => ⟨fun c2 => ?_, fun c2 => ?_⟩, fun c => nxt J hJ ?_⟩⟩⟩
        · have c : dgs P x d = i := (nI_eq (by omega) (by omega)).mp c
          have c2 : J ≠ 0 := fun q => c2 (by rw [q]; rfl)
          obtain ⟨J', rfl⟩ : ∃ J', J = J' + 1 := ⟨J - 1, by omega⟩
          rw [pk_m1]
          refine nxt J' (by omega) ?_
          rw [he]
          conv => lhs; unfold kthN
          rw [if_pos c, if_neg c2]
          rfl
        · have c : dgs P x d = i := (nI_eq (by omega) (by omega)).mp c
          have c2 : J = 0 := (nI_is 0 rfl hJ (by omega)).mp c2
          have : kthN (dgs P x) i n K = some d := by
            rw [he]
            unfold kthN
            rw [if_pos c, if_pos c2]
          rw [this] at g
          exact g
        · have c : dgs P x d ≠ i := fun q => c (by rw [q])
          rw [he]
          conv => lhs; unfold kthN
          rw [if_neg c]
    exact key n (Nat.le_refl _) K hK rfl
theorem o_disc (l : Launch) (h : Rl S M n P kd ct sc sm x y) (a b : Int32) : cX_X8_disc l S a b (fun r1 S1 => mX_disc l M a b (fun r2 M1 => OKr S r1 S1 r2 M1)) := by
  have hP2 := h.P2
  have hn2 := h.n2
  refine c_X8_disc l S a b _ ?_
  intro B45 B75 h45 h75
  unfold cT_X8_disc_e
  have no : (¬ ((∃ i, i < P ∧ a = nI i) ∧ ¬ b < 0)) → mX_disc l M a b (fun r2 M1 => OKr S (-1) S r2 M1) := fun q =>
    s_disc l h a b _ (fun _ => ⟨rfl, ⟨n, P, kd, ct, sc, sm, x, y, h.th 0⟩, rfl⟩) (fun i K hi hK ea eb => absurd ⟨⟨i, hi, ea⟩, by rw [eb]; exact nI_pos hK⟩ q)
  refine k_isPeg l h.cy.1 hP2.2 a _ (fun q => ⟨fun _ => no (fun w => q w.1), fun w => absurd rfl w⟩) (fun i hi ea => ⟨fun w => absurd w (by decide), fun _ => ⟨fun hb => ?_, fun hb => no (fun w => hb (Int32.not_lt.mp w.2))⟩⟩)
  obtain ⟨K, hK, eb⟩ := nI_of (Int32.not_lt.mpr hb)
  subst ea
  subst eb
  rw [h.sx]
  refine k_read l h.cy h.hx _ (fun T fT hT v ev => ?_)
  have ev : v = nI n - 1 := by rw [ev, (h.cy.fr fT).2.1]
  subst ev
  have fin : ∀ v, v = lab (kthN (dgs P x) i n K) → mX_disc l M (nI i) (nI K) (fun r2 M1 => OKr S v T r2 M1) := by
    intro v ev
    refine s_disc l h _ _ _ (fun w => absurd ⟨⟨i, hi, rfl⟩, nI_pos hK⟩ w) (fun i' K' hi' hK' ea' eb' => ?_)
    have e1 : i = i' := (nI_eq (by omega) (by omega)).mp ea'
    have e2 : K = K' := (nI_eq (by omega) (by omega)).mp eb'
    subst e1
    subst e2
    exact ⟨ev, ⟨n, P, kd, ct, sc, sm, x, y, (h.look fT).th 0⟩, lens_eq fT⟩
  have key : ∀ d, d ≤ n → ∀ c, c ≤ K → c + d ≤ n → kthN (dgs P x) i n K = kthN (dgs P x) i d (K - c) → B45 T (nI c) (nI d - 1) := by
    intro d
    induction d with
    | zero =>
      intro _ c hc hcn he
      refine h45 _ _ _ ?_
      unfold cT_X8_disc_45
      exact ⟨fun _ => fin _ (by rw [he]; rfl), fun w => absurd (by decide) w⟩
    | succ d ih =>
      intro hd c hc hcn he
      have hxd := hT.1 d (Nat.zero_le _) (by omega)
      have hx5 : dgs P x d < P := dgs_lt (by omega) x d
      have nxt : ∀ c', c' ≤ K → c' + d ≤ n → kthN (dgs P x) i n K = kthN (dgs P x) i d (K - c') → B75 T (nI c') (nI d) := by
        intro c' hc' hcn' he'
        refine h75 _ _ _ ?_
        unfold cT_X8_disc_75
        rw [i_sub1]
        exact ih (by omega) c' hc' hcn' he'
      refine h45 _ _ _ ?_
      unfold cT_X8_disc_45
      rw [nI_pred, nI_clamp (show d < 2 ^ 31 by omega), hxd]
      refine ⟨fun w => absurd w (nI_pos (by omega)), fun _ => ⟨vp_in_nI (by omega) (by omega), fun e => nxt c hc (by omega) ?_, fun e => ⟨fun e2 => ?_, fun e2 => fin _ ?_⟩⟩⟩
      · have e : dgs P x d ≠ i := fun q => e (by rw [q])
        rw [he]
        conv => lhs; unfold kthN
        rw [if_neg e]
      · have e : dgs P x d = i := (nI_eq (by omega) (by omega)).mp e
        have e2 : c ≠ K := fun q => e2 (by rw [q])
        rw [← nI_succ]
        refine nxt (c + 1) (by omega) (by omega) ?_
        rw [he]
        conv => lhs; unfold kthN
        rw [if_pos e, if_neg (by omega), show K - c - 1 = K - (c + 1) by omega]
      · have e : dgs P x d = i := (nI_eq (by omega) (by omega)).mp e
        have e2 : c = K := (nI_eq (by omega) hK).mp e2
        rw [he]
        unfold kthN
        rw [if_pos e, if_pos (by omega)]
        rfl
  exact key n (Nat.le_refl _) 0 (Nat.zero_le _) (by omega) rfl
end Ops3
