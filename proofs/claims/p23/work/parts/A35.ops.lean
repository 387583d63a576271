-- a right stand, told by its pairs
def RR (kd σ : Nat → Nat) (n : Nat) : Prop := ∀ d c, d < c → c < n → σ c = σ d → (∀ i, d < i → i < c → σ i ≠ σ d) → kd c = 2 → kd d = 2
theorem okD_iff {kd σ : Nat → Nat} {n d : Nat} (hd : d < n) : okD kd σ n d = true ↔ ∀ c, d < c → c < n → σ c = σ d → (∀ i, d < i → i < c → σ i ≠ σ d) → kd c = 2 → kd d = 2 := by
  have hle := tpN_le σ (σ d) (n - (d + 1)) (d + 1)
  have hno := tpN_no (σ := σ) (p := σ d) (n - (d + 1)) (d + 1)
  have hhit := tpN_hit σ (σ d) (n - (d + 1)) (d + 1)
  unfold okD
  generalize tpN σ (σ d) (n - (d + 1)) (d + 1) = b at *
  constructor
  · intro h c h1 h2 h3 h4 h5
    have e1 : ¬ c < b := fun q => hno c (by omega) q h3
    have e2 : b < n := by omega
    have e3 := hhit (by omega)
    have e4 : ¬ b < c := fun q => h4 b (by omega) q e3
    have : b = c := by omega
    subst this
    simp only [e2, h5, decide_true, Bool.true_and, Bool.not_not, decide_eq_true_eq] at h
    exact h
  · intro h
    by_cases e2 : b < n
    · have e3 := hhit (by omega)
      have := h b (by omega) e2 e3 (fun i h1 h2 => hno i (by omega) h2)
      by_cases e5 : kd b = 2
      · simp [e2, e5, this e5]
      · simp [e5]
    · simp [e2]
theorem rightN_iff {kd σ : Nat → Nat} {n : Nat} : ∀ t d, rightN kd σ n t d = true ↔ ∀ i, d ≤ i → i < d + t → okD kd σ n i = true := by
  intro t
  induction t with
  | zero => intro d; exact ⟨fun _ i h1 h2 => absurd h2 (by omega), fun _ => rfl⟩
  | succ t ih =>
    intro d
    unfold rightN
    rw [Bool.and_eq_true, ih]
    constructor
    · rintro ⟨h1, h2⟩ i h3 h4
      by_cases e : i = d
      · subst e; exact h1
      · exact h2 i (by omega) (by omega)
    · intro h
      exact ⟨h d (Nat.le_refl _) (by omega), fun i h1 h2 => h i (by omega) (by omega)⟩
theorem right_RR {kd σ : Nat → Nat} {n : Nat} : rightN kd σ n n 0 = true ↔ RR kd σ n := by
  rw [rightN_iff]
  constructor
  · intro h d c h1 h2
    exact (okD_iff (show d < n by omega)).mp (h d (Nat.zero_le _) (by omega)) c h1 h2
  · intro h i _ hi
    exact (okD_iff (show i < n by omega)).mpr (fun c h1 h2 => h i c h1 h2)
theorem RR.congr {kd σ τ : Nat → Nat} {n : Nat} (h : RR kd σ n) (e : ∀ j, j < n → σ j = τ j) : RR kd τ n := by
  intro d c h1 h2 h3 h4 h5
  refine h d c h1 h2 (by rw [e c h2, e d (by omega)]; exact h3) (fun i q1 q2 => ?_) h5
  rw [e i (by omega), e d (by omega)]
  exact h4 i q1 q2
theorem rightN_congr {kd σ τ : Nat → Nat} {n : Nat} (e : ∀ j, j < n → σ j = τ j) : rightN kd σ n n 0 = rightN kd τ n n 0 :=
  Bool.eq_iff_iff.mpr (right_RR.trans (Iff.trans ⟨fun h => h.congr e, fun h => h.congr (fun j hj => (e j hj).symm)⟩ right_RR.symm))
theorem RR.move {kd ct sg σ : Nat → Nat} {n a b : Nat} (h : RR kd σ n) (hz : a < 5 → ct (5 * a + a) = 0) (ha : a < 5) (hw : whyN n kd ct sg σ a b = 0) : RR kd (movN n kd σ a b) n := by
  have ht := whyN_top hw
  have hab : a ≠ b := by
    intro e
    subst e
    unfold whyN at hw
    rw [if_pos (hz ha)] at hw
    cases hw
  have hp := pkE_lt (kd := kd) (σ := σ) ht
  have hta : σ (topN σ a n) = a := tpN_hit σ a n 0 (by show topN σ a n < 0 + n; omega)
  have htn : ∀ i, i < topN σ a n → σ i ≠ a := fun i hi => tpN_no n 0 i (Nat.zero_le _) hi
  have hun : ∀ i, i < topN σ b n → σ i ≠ b := fun i hi => tpN_no n 0 i (Nat.zero_le _) hi
  have hub : topN σ b n < n → σ (topN σ b n) = b := fun q => tpN_hit σ b n 0 (by show topN σ b n < 0 + n; omega)
  have hrun : ∀ j, topN σ a n ≤ j → j ≤ pkE kd σ n (topN σ a n) → σ j = a ∧ kd j = kd (topN σ a n) := fun j q1 q2 => by
    have := pkE_run q1 q2
    rw [hta] at this
    exact this
  have hw2 : topN σ b n < n → pkE kd σ n (topN σ a n) ≤ topN σ b n ∧ (kd (topN σ b n) = 2 → kd (pkE kd σ n (topN σ a n)) = 2) := by
    intro q
    unfold whyN at hw
    split at hw
    · cases hw
    · split at hw
      · cases hw
      · split at hw
        · cases hw
        · split at hw
          · omega
          · split at hw
            · cases hw
            · split at hw
              · cases hw
              · rename_i w1 w2
                exact ⟨by omega, fun e => by
                  by_cases e2 : kd (pkE kd σ n (topN σ a n)) = 2
                  · exact e2
                  · exact absurd ⟨e, e2⟩ w2⟩
  have hM : ∀ j, movN n kd σ a b j = if topN σ a n ≤ j ∧ j ≤ pkE kd σ n (topN σ a n) then b else σ j := fun _ => rfl
  generalize topN σ a n = t at *
  generalize topN σ b n = u at *
  generalize pkE kd σ n t = e at *
  intro d c h1 h2 h3 h4 h5
  rw [hM, hM] at h3
  have h4' : ∀ i, d < i → i < c → (if t ≤ i ∧ i ≤ e then b else σ i) ≠ (if t ≤ d ∧ d ≤ e then b else σ d) := fun i q1 q2 => by
    have := h4 i q1 q2
    rw [hM, hM] at this
    exact this
  by_cases c1 : t ≤ d ∧ d ≤ e
  · rw [if_pos c1] at h3 h4'
    by_cases c2 : t ≤ c ∧ c ≤ e
    · rw [(hrun d c1.1 c1.2).2, ← (hrun c c2.1 c2.2).2]
      exact h5
    · rw [if_neg c2] at h3
      have q1 : ¬ c < u := fun q => hun c q h3
      have q2 := hw2 (by omega)
      have q3 := hub (by omega)
      have q4 : u ≠ e := fun q => hab (by rw [← (hrun e hp.1 (Nat.le_refl _)).1, ← q, q3])
      have q5 : ¬ u < c := fun q => h4' u (by omega) q (by rw [if_neg (by omega)]; exact q3)
      have q6 : u = c := by omega
      rw [q6] at q2
      rw [(hrun d c1.1 c1.2).2, ← (hrun e hp.1 (Nat.le_refl _)).2]
      exact q2.2 h5
  · rw [if_neg c1] at h3 h4'
    by_cases c2 : t ≤ c ∧ c ≤ e
    · rw [if_pos c2] at h3
      have q1 : ¬ d < u := fun q => hun d q h3.symm
      have q2 := hw2 (by omega)
      omega
    · rw [if_neg c2] at h3
      refine h d c h1 h2 h3 (fun i q1 q2 q3 => ?_) h5
      by_cases c3 : t ≤ i ∧ i ≤ e
      · have q4 := (hrun i c3.1 c3.2).1
        exact htn d (by omega) (by rw [← q3, q4])
      · exact h4' i q1 q2 (by rw [if_neg c3]; exact q3)
/-- what a change of stand, goal, past and trouble leaves -/
def xA : Nat → Bool := fun k => decide (k ≤ 2) || (decide (6 ≤ k) && decide (k ≤ 10))
def xB : Nat → Bool := fun k => (decide (13 ≤ k) && decide (k ≤ 21))
def xM : Nat → Bool := fun k => (decide (2 ≤ k) && decide (k ≤ 5)) || decide (k = 7) || decide (k = 8)
def xR : Nat → Bool := fun k => decide (k = 2) || decide (k = 3) || decide (k = 6) || (decide (8 ≤ k) && decide (k ≤ 28)) || decide (34 ≤ k)
theorem lA_x (k : Nat) (h : xA k = false) : lA k = false := by
  simp only [xA, lA, Bool.or_eq_false_iff, Bool.and_eq_false_iff, decide_eq_false_iff_not] at *
  omega
theorem lB_x (k : Nat) (h : xB k = false) : lB k = false := by
  simp only [xB, lB, Bool.or_eq_false_iff, Bool.and_eq_false_iff, decide_eq_false_iff_not] at *
  omega
theorem CFr.x {S T : CS} (f : CFr lA lB nn S T) : CFr xA xB nn S T := f.mono lA_x lB_x
section Ops4
variable {S : CS} {M : MS} {n P x y : Nat} {kd ct sc sm : Nat → Nat}
theorem Rl.mkx {T : CS} {N : MS} {x' y' : Nat} (h : Rl S M n P kd ct sc sm x y) (fT : CFr xA xB nn S T) (fN : MFx xM xR M N) (h0 : RS n P kd (T.1 0) (N.2.1 2) x') (h1 : RS n P kd (T.1 1) (N.2.1 3) y') (h2 : T.1 2 = N.1 2) (hp : RP n P kd (T.1 9) (T.1 10) (T.2.1 20) (T.2.1 21) (N.1 4) (N.1 5) (N.2.1 6)) (h8 : ∃ τ, MA N 8 τ) (h9 : ∃ τ, MA N 9 τ) : Rl T N n P kd ct sc sm x' y' := by
  obtain ⟨⟨b1, b2, b3, b4⟩, -, -, -, -, q6, q7, -, q9, q10⟩ := h
  refine ⟨⟨b1.fr fT, ?_, b3, b4⟩, h0, h1, h2, hp, ?_, ?_, ⟨h8, h9⟩, q9.fr fT, q10.fr fT⟩
  · obtain ⟨c1, c2, c3, c4, c5, c6, c7⟩ := b2
    refine ⟨?_, ?_, c3, c4, ?_, ?_, ?_⟩
    · rw [fN.1 0 rfl]; exact c1
    · rw [fN.1 1 rfl]; exact c2
    · rw [fN.2 1 rfl]; exact c5
    · rw [fN.2 4 rfl]; exact c6
    · rw [fN.2 5 rfl]; exact c7
  · rw [fT.1 11 rfl, (fT.2.1 22 rfl).1, fT.2.2 22 rfl, fN.1 6 rfl, fN.2 7 rfl]; exact q6
  · rw [fT.1 19 rfl, (fT.2.1 38 rfl).1, (fT.2.1 39 rfl).1, (fT.2.1 40 rfl).1, (fT.2.1 41 rfl).1, (fT.2.1 42 rfl).2, fN.1 9 rfl, fN.2 29 rfl, fN.2 30 rfl, fN.2 31 rfl, fN.2 32 rfl]; exact q7
theorem o_trouble (l : Launch) (h : Rl S M n P kd ct sc sm x y) : cX_X8_trouble l S (fun r1 S1 => mX_trouble l M (fun r2 M1 => OKr S r1 S1 r2 M1)) :=
  c_X8_trouble l S _ (m_trouble l M _ ⟨h.2.2.2.1, ⟨n, P, kd, ct, sc, sm, x, y, h.th 0⟩, rfl⟩)
theorem s_size (l : Launch) (h : MY M n P kd ct sm) (a : Int32) (post : Int32 → MS → Prop) (h0 : a = 0 → post (M.1 0) (mf M 3 0)) (h1 : a = 1 → post (M.1 1) (mf M 3 0)) (h2 : a = 2 → post (nI (lnN ct)) (mf M 3 0)) (h3 : a = 3 → post (M.1 9) (mf M 3 0)) (h4 : a = 4 → post (M.1 4) (mf M 3 0)) (h5 : a = 5 → post (M.1 5) (mf M 3 0)) (h6 : a = 6 → post (M.1 6) (mf M 3 0)) (h7 : a = 7 → post (nI (packN kd 4 n 0)) (mf M 3 0)) (h8 : (a.toInt < 0 ∨ 7 < a.toInt) → post (-1) (mf M 3 0)) : mX_size l M a post := by
  have hn2 := h.2.2.2.1
  refine m_size l M a post ?_
  intro B96 h96
  unfold mT_size_e
  refine ⟨h0, h1, fun e => s_lanesThere l (M := mf M 3 0) h.2.2.2.2.2.1 _ (h2 e), h3, h4, h5, h6, fun e => ?_, h8⟩
  have g := h7 e
  have key : ∀ d acc, d ≤ n → packN kd 4 n 0 = packN kd 4 d acc → B96 (mf M 3 0) (nI acc) (nI d - 1) := by
    intro d
    induction d with
    | zero =>
      intro acc hd he
      refine h96 _ _ _ ?_
      unfold mT_size_96
      refine ⟨fun _ => ?_, fun c => absurd (by decide) c⟩
      rw [he] at g; exact g
    | succ d ih =>
      intro acc hd he
      refine h96 _ _ _ ?_
      unfold mT_size_96
      rw [nI_pred]
      refine ⟨fun c => absurd c (nI_pos (by omega)), fun _ => ⟨vp_in_nI (by omega) (by omega), fun v hv => ?_⟩⟩
      have hk : (mf M 3 0).2.1 1 d = nI (kd d) := (h.2.2.2.2.1 d (by omega)).1
      rw [nI_clamp (by omega), hk, show (4 : Int32) = nI 4 from rfl, pk_mul, nI_add] at hv
      rw [hv, i_sub1]
      exact ih _ (by omega) (by rw [he]; show packN kd 4 d (acc * 4 + kd d) = _; rw [Nat.mul_comm])
  intro v hv
  rw [hv, h.2.1]
  exact key n 0 (Nat.le_refl n) rfl
theorem shl_kd : ∀ k, k < 4 → ∀ j, j < 7 → nI k <<< ((2 * nI j) &&& 31) = nI (k * 4 ^ j) := by decide
theorem k_sumKinds (l : Launch) (h : CY S n P kd ct sc) (post : Int32 → CS → Prop) (hp : post (nI (packN kd 4 n 0)) S) : cX_X0_sumOfKinds l S post := by
  have hn2 := h.2.2.2.2.1
  refine c_X0_sumOfKinds l S post ?_
  intro B4 h4
  unfold cT_X0_sumOfKinds_e
  have key : ∀ d j, j + d = n → B4 S (nI (numN kd 4 j)) (nI j) := by
    intro d
    induction d with
    | zero =>
      intro j hj
      have : j = n := by omega
      subst this
      refine h4 _ _ _ ?_
      unfold cT_X0_sumOfKinds_4
      rw [h.2.1]
      rw [packN0] at hp
      exact ⟨fun _ => hp, fun w => absurd (nI_le (Nat.le_refl _) (by omega)) w⟩
    | succ d ih =>
      intro j hj
      refine h4 _ _ _ ?_
      unfold cT_X0_sumOfKinds_4
      rw [h.2.1]
      refine ⟨fun w => absurd w (nI_ge (by omega) (by omega)), fun _ => ⟨vp_in_nI (by omega) (by omega), fun v hv => ?_⟩⟩
      have hk := h.2.2.2.2.2.2.1 j (by omega)
      rw [nI_clamp (by omega), hk.1, shl_kd (kd j) (by omega) j (by omega), nI_add] at hv
      rw [hv, ← nI_succ]
      exact ih (j + 1) (by omega)
  exact key n 0 (by omega)
theorem o_size (l : Launch) (h : Rl S M n P kd ct sc sm x y) (a : Int32) : cX_X8_size l S a (fun r1 S1 => mX_size l M a (fun r2 M1 => OKr S r1 S1 r2 M1)) := by
  refine c_X8_size l S a _ ?_
  unfold cT_X8_size_e
  have hR : Rel S (mf M 3 0) := ⟨n, P, kd, ct, sc, sm, x, y, h.th 0⟩
  obtain ⟨p, q, g, -, p1, p2, q1, q2, -⟩ := h.2.2.2.2.1
  obtain ⟨L, -, l1, l2, -⟩ := h.2.2.2.2.2.1
  obtain ⟨⟨q', w, of, le, ro, ⟨-, k1, -⟩, ⟨-, k2, -⟩⟩, -⟩ := h.2.2.2.2.2.2.1
  have no : ∀ {i j : Int32} {Q : Prop}, i ≠ j → a = i → a = j → Q := fun hij e1 e2 => absurd (e1.symm.trans e2) hij
  have nd : ∀ {i : Int32} {Q : Prop}, ¬ (i.toInt < 0 ∨ 7 < i.toInt) → a = i → (a.toInt < 0 ∨ 7 < a.toInt) → Q := fun hi e q => absurd (e ▸ q) hi
  refine ⟨fun e => ?_, fun e => ?_, fun e => ?_, fun e => ?_, fun e => ?_, fun e => ?_, fun e => ?_, fun e => ?_, fun e => ?_⟩
  · exact s_size l h.my a _ (fun _ => ⟨by rw [h.cy.1, h.my.1], hR, rfl⟩) (no (by decide) e) (no (by decide) e) (no (by decide) e) (no (by decide) e) (no (by decide) e) (no (by decide) e) (no (by decide) e) (nd (by decide) e)
  · exact s_size l h.my a _ (no (by decide) e) (fun _ => ⟨by rw [h.cy.2.1, h.my.2.1], hR, rfl⟩) (no (by decide) e) (no (by decide) e) (no (by decide) e) (no (by decide) e) (no (by decide) e) (no (by decide) e) (nd (by decide) e)
  · refine k_countLanes l h.cy.2.2.2.2.2.2.2.1 _ ?_
    exact s_size l h.my a _ (no (by decide) e) (no (by decide) e) (fun _ => ⟨rfl, hR, rfl⟩) (no (by decide) e) (no (by decide) e) (no (by decide) e) (no (by decide) e) (no (by decide) e) (nd (by decide) e)
  · exact s_size l h.my a _ (no (by decide) e) (no (by decide) e) (no (by decide) e) (fun _ => ⟨by rw [k1, k2], hR, rfl⟩) (no (by decide) e) (no (by decide) e) (no (by decide) e) (no (by decide) e) (nd (by decide) e)
  · exact s_size l h.my a _ (no (by decide) e) (no (by decide) e) (no (by decide) e) (no (by decide) e) (fun _ => ⟨by rw [p1, p2], hR, rfl⟩) (no (by decide) e) (no (by decide) e) (no (by decide) e) (nd (by decide) e)
  · exact s_size l h.my a _ (no (by decide) e) (no (by decide) e) (no (by decide) e) (no (by decide) e) (no (by decide) e) (fun _ => ⟨by rw [q1, q2], hR, rfl⟩) (no (by decide) e) (no (by decide) e) (nd (by decide) e)
  · exact s_size l h.my a _ (no (by decide) e) (no (by decide) e) (no (by decide) e) (no (by decide) e) (no (by decide) e) (no (by decide) e) (fun _ => ⟨by rw [l1, l2], hR, rfl⟩) (no (by decide) e) (nd (by decide) e)
  · refine k_sumKinds l h.cy _ ?_
    exact s_size l h.my a _ (no (by decide) e) (no (by decide) e) (no (by decide) e) (no (by decide) e) (no (by decide) e) (no (by decide) e) (no (by decide) e) (fun _ => ⟨rfl, hR, rfl⟩) (nd (by decide) e)
  · have nx : ∀ {i : Int32} {Q : Prop}, ¬ (i.toInt < 0 ∨ 7 < i.toInt) → a = i → Q := fun hi e' => absurd (e' ▸ e) hi
    exact s_size l h.my a _ (nx (by decide)) (nx (by decide)) (nx (by decide)) (nx (by decide)) (nx (by decide)) (nx (by decide)) (nx (by decide)) (nx (by decide)) (fun _ => ⟨rfl, hR, rfl⟩)
end Ops4
