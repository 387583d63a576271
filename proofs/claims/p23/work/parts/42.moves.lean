def topN (σ : Nat → Nat) (p n : Nat) : Nat := tpN σ p n 0
def topV (σ : Nat → Nat) (p n : Nat) : Int32 := if topN σ p n < n then nI (topN σ p n) else -1
theorem fIx_tpN {f : Nat → Int32} {σ : Nat → Nat} {p n : Nat} (hσ : ∀ j, j < n → f j = nI (σ j) ∧ σ j < 5) (hp : p < 5) : ∀ d j, j + d ≤ n → fIx f (nI p) d j = tpN σ p d j := by
  intro d
  induction d with
  | zero => intro j _; rfl
  | succ d ih =>
    intro j hj
    unfold fIx tpN
    have h1 := hσ j (by omega)
    have h2 : (f j = nI p) ↔ σ j = p := by rw [h1.1]; exact nI_eq (by omega) (by omega)
    rw [ih (j + 1) (by omega)]
    by_cases c : σ j = p
    · rw [if_pos c, if_pos (h2.mpr c)]
    · rw [if_neg c, if_neg (fun q => c (h2.mp q))]
theorem s_topN (l : Launch) (S : MS) (k p : Nat) (hk : m7 k) (post : Int32 → MS → Prop) {n : Nat} {σ : Nat → Nat} (hn : S.1 1 = nI n) (h7 : n ≤ 7) (hσ : MA S k σ) (hp : p < 5) (h : post (topV σ p n) S) : mX_top l S k (nI p) post := by
  refine s_top l S k (nI p) hk post hn h7 ?_
  have e : topI (S.2.1 k) (nI p) n = topV σ p n := by
    unfold topI topV topN
    rw [fIx_tpN (fun j hj => hσ j (by omega)) hp n 0 (by omega)]
  rw [e]; exact h
-- below
def belV (σ : Nat → Nat) (d n : Nat) : Int32 := if tpN σ (σ d) (n - (d + 1)) (d + 1) < n then nI (tpN σ (σ d) (n - (d + 1)) (d + 1)) else -1
theorem s_below (l : Launch) (S : MS) (k d : Nat) (hk : m7 k) (post : Int32 → MS → Prop) {n : Nat} {σ : Nat → Nat} (hn : S.1 1 = nI n) (h7 : n ≤ 7) (hσ : MA S k σ) (hd : d < n) (h : post (belV σ d n) S) : mX_below l S k (nI d) post := by
  refine m_below l S k (nI d) hk post ?_
  intro B4 B27 h4 h27
  unfold mT_below_e
  intro v hv
  have key : ∀ t j, j + t = n → tpN σ (σ d) (n - (d + 1)) (d + 1) = tpN σ (σ d) t j → B4 S (nI j) := by
    intro t
    induction t with
    | zero =>
      intro j hj he
      refine h4 _ _ ?_
      unfold mT_below_4
      rw [hn]
      have : j = n := by omega
      subst this
      refine ⟨fun _ => h27 _ _ ?_, fun c => absurd (nI_le (Nat.le_refl j) (by omega)) c⟩
      unfold mT_below_27
      rw [hn]
      refine ⟨fun _ => ?_, fun c => absurd (nI_le (Nat.le_refl j) (by omega)) c⟩
      have : belV σ d j = -1 := by unfold belV; rw [he]; simp [tpN]
      rw [this] at h; exact h
    | succ t ih =>
      intro j hj he
      refine h4 _ _ ?_
      unfold mT_below_4
      rw [hn]
      have hng : ¬ nI n ≤ nI j := nI_ge (by omega) (by omega)
      refine ⟨fun c => absurd c hng, fun _ => ⟨vp_in_nI (by omega) (by omega), vp_in_nI (by omega) (by omega), ?_⟩⟩
      rw [nI_clamp (by omega), nI_clamp (by omega), (hσ j (by omega)).1, (hσ d (by omega)).1]
      have hj5 := (hσ j (by omega)).2
      have hd5 := (hσ d (by omega)).2
      refine ⟨fun c => h27 _ _ ?_, fun c => ?_⟩
      · have c : σ j = σ d := (nI_eq (by omega) (by omega)).mp c
        unfold mT_below_27
        rw [hn]
        refine ⟨fun c => absurd c hng, fun _ => ?_⟩
        have : belV σ d n = nI j := by unfold belV; rw [he]; simp [tpN, c, show j < n by omega]
        rw [this] at h; exact h
      · have c : ¬ σ j = σ d := fun q => c ((nI_eq (by omega) (by omega)).mpr q)
        rw [← nI_succ]
        exact ih (j + 1) (by omega) (by rw [he]; simp [tpN, c])
  rw [hv, ← nI_succ]
  exact key (n - (d + 1)) (d + 1) (by omega) rfl
-- is a stand right
def okD (kd σ : Nat → Nat) (n d : Nat) : Bool := let b := tpN σ (σ d) (n - (d + 1)) (d + 1); !(decide (b < n) && decide (kd b = 2) && !decide (kd d = 2))
def rightN (kd σ : Nat → Nat) (n : Nat) : Nat → Nat → Bool
  | 0, _ => true
  | t + 1, d => okD kd σ n d && rightN kd σ n t (d + 1)
theorem s_isRight (l : Launch) (S : MS) (k : Nat) (hk : m7 k) (post : Bool → MS → Prop) {n P : Nat} {kd ct sg σ : Nat → Nat} (hy : MY S n P kd ct sg) (hσ : MA S k σ) (h : post (rightN kd σ n n 0) S) : mX_isRight l S k post := by
  obtain ⟨hP, hn, hP2, hn2, hkd, -, -⟩ := hy
  refine m_isRight l S k hk post ?_
  intro B2 B44 h2 h44
  unfold mT_isRight_e
  have key : ∀ t d, d + t = n → rightN kd σ n n 0 = rightN kd σ n t d → B2 S (nI d) := by
    intro t
    induction t with
    | zero =>
      intro d hd he
      refine h2 _ _ ?_
      unfold mT_isRight_2
      rw [hn]
      have : d = n := by omega
      subst this
      refine ⟨fun _ => ?_, fun c => absurd (nI_le (Nat.le_refl d) (by omega)) c⟩
      rw [he] at h; exact h
    | succ t ih =>
      intro d hd he
      refine h2 _ _ ?_
      unfold mT_isRight_2
      rw [hn]
      refine ⟨fun c => absurd c (nI_ge (by omega) (by omega)), fun _ => ?_⟩
      have nxt : okD kd σ n d = true → B44 S (nI d) := fun ho => by
        refine h44 _ _ ?_
        unfold mT_isRight_44
        rw [← nI_succ]
        exact ih (d + 1) (by omega) (by rw [he]; simp [rightN, ho])
      refine s_below l S k d hk _ hn (by omega) hσ (by omega) ?_
      have hb := tpN_le σ (σ d) (n - (d + 1)) (d + 1)
      unfold belV
      by_cases hlt : tpN σ (σ d) (n - (d + 1)) (d + 1) < n
      · rw [if_pos hlt]
        refine ⟨fun c => absurd c (nI_m1 (by omega)), fun _ => ⟨vp_in_nI (by omega) (by omega), ?_⟩⟩
        rw [nI_clamp (by omega), (hkd _ (by omega)).1]
        have hk2 := (hkd (tpN σ (σ d) (n - (d + 1)) (d + 1)) (by omega)).2
        have hk3 := (hkd d (by omega)).2
        refine ⟨fun c => nxt ?_, fun c => ⟨vp_in_nI (by omega) (by omega), ?_⟩⟩
        · have c : ¬ kd (tpN σ (σ d) (n - (d + 1)) (d + 1)) = 2 := fun q => c (by rw [q]; rfl)
          simp [okD, c]
        · have c : kd (tpN σ (σ d) (n - (d + 1)) (d + 1)) = 2 := (nI_is 2 rfl (by omega) (by omega)).mp c
          rw [nI_clamp (by omega), (hkd d (by omega)).1]
          refine ⟨fun c2 => nxt ?_, fun c2 => ?_⟩
          · have c2 : kd d = 2 := (nI_is 2 rfl (by omega) (by omega)).mp c2
            simp [okD, c2]
          · have c2 : ¬ kd d = 2 := fun q => c2 (by rw [q]; rfl)
            have : rightN kd σ n n 0 = false := by rw [he]; simp [rightN, okD, hlt, c, c2]
            rw [this] at h; exact h
      · rw [if_neg hlt]
        refine ⟨fun _ => nxt ?_, fun c => absurd rfl c⟩
        simp [okD, hlt]
  exact key n 0 (by omega) rfl
-- the end of a pack
def pkE (kd σ : Nat → Nat) (n d : Nat) : Nat := pkN kd σ n d n d
theorem s_packOf (l : Launch) (S : MS) (k d : Nat) (hk : m7 k) (post : Int32 → MS → Prop) {n P : Nat} {kd ct sg σ : Nat → Nat} (hy : MY S n P kd ct sg) (hσ : MA S k σ) (hd : d < n) (h : post (nI (pkE kd σ n d)) S) : mX_packOf l S k (nI d) post := by
  obtain ⟨hP, hn, hP2, hn2, hkd, -, -⟩ := hy
  refine m_packOf l S k (nI d) hk post ?_
  intro B2 h2
  unfold mT_packOf_e
  have key : ∀ t g, d ≤ g → g < n → n ≤ t + g → pkE kd σ n d = pkN kd σ n d t g → B2 S (nI g) := by
    intro t
    induction t with
    | zero => intro g h1 h3 h4; omega
    | succ t ih =>
      intro g h1 h3 h4 he
      refine h2 _ _ ?_
      unfold mT_packOf_2
      have k1 := hkd g (by omega)
      have stop : ¬ (kd g = 3 ∧ g + 1 < n ∧ kd (g + 1) = 3 ∧ σ (g + 1) = σ d) → post (nI g) S := fun c => by
        have : pkE kd σ n d = g := by rw [he]; unfold pkN; rw [if_neg c]
        rw [this] at h; exact h
      refine ⟨vp_in_nI (by omega) (by omega), ?_⟩
      rw [nI_clamp (by omega), k1.1, hn]
      refine ⟨fun c => stop fun q => c (by rw [q.1]; rfl), fun c => ?_⟩
      have c1 : kd g = 3 := (nI_is 3 rfl (by omega) (by omega)).mp c
      rw [← nI_succ]
      refine ⟨fun c => stop fun q => absurd c (nI_ge q.2.1 (by omega)), fun c => ?_⟩
      have c2 : g + 1 < n := by
        rcases Nat.lt_or_ge (g + 1) n with q | q
        · exact q
        · exact absurd (nI_le q (by omega)) c
      have k2 := hkd (g + 1) (by omega)
      refine ⟨vp_in_nI (by omega) (by omega), ?_⟩
      rw [nI_clamp (by omega), k2.1]
      refine ⟨fun c => stop fun q => c (by rw [q.2.2.1]; rfl), fun c => ?_⟩
      have c3 : kd (g + 1) = 3 := (nI_is 3 rfl (by omega) (by omega)).mp c
      have s1 := hσ (g + 1) (by omega)
      have s2 := hσ d (by omega)
      refine ⟨vp_in_nI (by omega) (by omega), vp_in_nI (by omega) (by omega), ?_⟩
      rw [nI_clamp (by omega), s1.1, s2.1]
      refine ⟨fun c => stop fun q => c (by rw [q.2.2.2]), fun c => ?_⟩
      have c4 : σ (g + 1) = σ d := (nI_eq (by omega) (by omega)).mp c
      exact ih (g + 1) (by omega) c2 (by omega) (by rw [he]; conv => lhs; unfold pkN; rw [if_pos ⟨c1, c2, c3, c4⟩])
  exact key n d (Nat.le_refl d) hd (by omega) rfl
