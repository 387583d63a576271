/-- WHY a move can't be, 0 if it can -/
def whyN (n : Nat) (kd ct sg σ : Nat → Nat) (a b : Nat) : Nat :=
  if ct (5 * a + b) = 0 then 1
  else if topN σ a n = n then 2
  else if (kd (topN σ a n) = 1 ∨ kd (topN σ a n) = 2) ∧ sg (5 * a + b) = 0 then 3
  else if topN σ b n = n then 0
  else if topN σ b n < pkE kd σ n (topN σ a n) then 4
  else if kd (topN σ b n) = 2 ∧ kd (pkE kd σ n (topN σ a n)) ≠ 2 then 5
  else 0
theorem topN_le (σ : Nat → Nat) (p n : Nat) : topN σ p n ≤ n := by have := (tpN_le σ p n 0).2; unfold topN; omega
theorem pkE_lt {kd σ : Nat → Nat} {n d : Nat} (h : d < n) : d ≤ pkE kd σ n d ∧ pkE kd σ n d < n := ⟨(pkN_le kd σ n d n d).1, (pkN_le kd σ n d n d).2 h⟩
theorem ix25 {a b : Nat} (ha : a < 5) (hb : b < 5) : (5 : Int32) * nI a + nI b = nI (5 * a + b) := by
  rw [show (5 : Int32) = nI 5 from rfl, pk_mul, nI_add]
theorem s_whyOf (l : Launch) (S : MS) (k a b : Nat) (hk : m7 k) (post : Int32 → MS → Prop) {n P : Nat} {kd ct sg σ : Nat → Nat} (hy : MY S n P kd ct sg) (hσ : MA S k σ) (ha : a < 5) (hb : b < 5) (h : post (nI (whyN n kd ct sg σ a b)) S) : mX_whyOf l S k (nI a) (nI b) post := by
  have hy0 := hy
  obtain ⟨hP, hn, hP2, hn2, hkd, hct, hsg⟩ := hy
  refine m_whyOf l S k (nI a) (nI b) hk post ?_
  intro B62 B77 h62 h77
  unfold mT_whyOf_e
  rw [ix25 ha hb, nI_clamp (by omega)]
  have c0 := hct (5 * a + b) (by omega)
  have g0 := hsg (5 * a + b) (by omega)
  refine ⟨vp_in_nI (by omega) (by omega), fun c => ?_, fun c => ?_⟩
  · rw [c0.1] at c
    have c1 : ¬ ct (5 * a + b) = 0 := fun q => c (by rw [q]; rfl)
    refine s_topN l S k a hk _ hn (by omega) hσ ha ?_
    have hle := topN_le σ a n
    unfold topV
    by_cases hd : topN σ a n < n
    · rw [if_pos hd]
      refine ⟨fun _ => ?_, fun c => absurd c (nI_m1 (by omega))⟩
      refine s_packOf l S k (topN σ a n) hk _ hy0 hσ hd ?_
      have hg := pkE_lt (kd := kd) (σ := σ) hd
      generalize hge : pkE kd σ n (topN σ a n) = g at hg ⊢
      have kdd := hkd (topN σ a n) (by omega)
      rw [nI_clamp (by omega), kdd.1]
      have b77 : ¬ ((kd (topN σ a n) = 1 ∨ kd (topN σ a n) = 2) ∧ sg (5 * a + b) = 0) → B77 S (nI g) := fun c3 => by
        refine h77 _ _ ?_
        unfold mT_whyOf_77
        refine s_topN l S k b hk _ hn (by omega) hσ hb ?_
        have hle2 := topN_le σ b n
        unfold topV
        have hw : whyN n kd ct sg σ a b = if topN σ b n = n then 0 else if topN σ b n < g then 4 else if kd (topN σ b n) = 2 ∧ kd g ≠ 2 then 5 else 0 := by
          unfold whyN
          rw [if_neg c1, if_neg (by omega), if_neg c3, hge]
        by_cases ht : topN σ b n < n
        · rw [if_pos ht]
          rw [if_neg (by omega)] at hw
          have kt := hkd (topN σ b n) (by omega)
          have kg := hkd g (by omega)
          refine ⟨fun _ => ⟨fun c4 => ?_, fun c4 => ?_⟩, fun c4 => absurd c4 (nI_m1 (by omega))⟩
          · have c4 : g ≤ topN σ b n := (nI_leI (by omega) (by omega)).mp c4
            rw [if_neg (by omega)] at hw
            refine ⟨vp_in_nI (by omega) (by omega), ?_⟩
            rw [nI_clamp (by omega), kt.1]
            refine ⟨fun c5 => ?_, fun c5 => ⟨vp_in_nI (by omega) (by omega), ?_⟩⟩
            · have c5 : ¬ kd (topN σ b n) = 2 := fun q => c5 (by rw [q]; rfl)
              rw [if_neg (fun q => c5 q.1)] at hw
              rw [hw] at h; exact h
            · have c5 : kd (topN σ b n) = 2 := (nI_is 2 rfl (by omega) (by omega)).mp c5
              rw [nI_clamp (by omega), kg.1]
              refine ⟨fun c6 => ?_, fun c6 => ?_⟩
              · have c6 : kd g = 2 := (nI_is 2 rfl (by omega) (by omega)).mp c6
                rw [if_neg (fun q => q.2 c6)] at hw
                rw [hw] at h; exact h
              · have c6 : ¬ kd g = 2 := fun q => c6 (by rw [q]; rfl)
                rw [if_pos ⟨c5, c6⟩] at hw
                rw [hw] at h; exact h
          · have c4 : topN σ b n < g := by
              rcases Nat.lt_or_ge (topN σ b n) g with q | q
              · exact q
              · exact absurd (nI_le q (by omega)) c4
            rw [if_pos c4] at hw
            rw [hw] at h; exact h
        · rw [if_neg ht]
          rw [if_pos (by omega)] at hw
          refine ⟨fun c4 => absurd rfl c4, fun _ => ?_⟩
          rw [hw] at h; exact h
      have b62 : (kd (topN σ a n) = 1 ∨ kd (topN σ a n) = 2) → B62 S (nI g) := fun c3 => by
        refine h62 _ _ ?_
        unfold mT_whyOf_62
        rw [ix25 ha hb, nI_clamp (by omega), g0.1]
        refine ⟨vp_in_nI (by omega) (by omega), fun c4 => b77 ?_, fun c4 => ?_⟩
        · have c4 : ¬ sg (5 * a + b) = 0 := fun q => c4 (by rw [q]; rfl)
          exact fun q => c4 q.2
        · have c4 : sg (5 * a + b) = 0 := (nI_is 0 rfl (by omega) (by omega)).mp c4
          have hw : whyN n kd ct sg σ a b = 3 := by
            unfold whyN
            rw [if_neg c1, if_neg (by omega), if_pos ⟨c3, c4⟩]
          rw [hw] at h; exact h
      refine ⟨vp_in_nI (by omega) (by omega), fun c2 => b62 ?_, fun c2 => ⟨vp_in_nI (by omega) (by omega), fun c3 => b77 ?_, fun c3 => b62 ?_⟩⟩
      · exact Or.inl ((nI_is 1 rfl (by omega) (by omega)).mp c2)
      · intro q
        rcases q.1 with q | q
        · exact c2 (by rw [q]; rfl)
        · exact c3 (by rw [q]; rfl)
      · exact Or.inr ((nI_is 2 rfl (by omega) (by omega)).mp c3)
    · rw [if_neg hd]
      refine ⟨fun c2 => absurd rfl c2, fun _ => ?_⟩
      have hw : whyN n kd ct sg σ a b = 2 := by
        unfold whyN
        rw [if_neg c1, if_pos (by omega)]
      rw [hw] at h; exact h
  · rw [c0.1] at c
    have c1 : ct (5 * a + b) = 0 := (nI_is 0 rfl (by omega) (by omega)).mp c
    have hw : whyN n kd ct sg σ a b = 1 := by unfold whyN; rw [if_pos c1]
    rw [hw] at h; exact h
/-- the stand behind a move -/
def movN (n : Nat) (kd σ : Nat → Nat) (a b : Nat) : Nat → Nat := fun j => if topN σ a n ≤ j ∧ j ≤ pkE kd σ n (topN σ a n) then b else σ j
def movF (f : Nat → Int32) (d e : Nat) (b : Int32) : Nat → Int32 := fun j => if d ≤ j ∧ j < e then b else f j
theorem movF_0 (f : Nat → Int32) (d : Nat) (b : Int32) : movF f d d b = f := by
  funext j
  unfold movF
  rw [if_neg (by omega)]
theorem movF_s (f : Nat → Int32) (d e : Nat) (b : Int32) (h : d ≤ e) : upd (movF f d e b) e b = movF f d (e + 1) b := by
  funext j
  unfold upd movF
  by_cases c : j = e
  · subst c; rw [if_pos rfl, if_pos (by omega)]
  · rw [if_neg c]
    by_cases c2 : d ≤ j ∧ j < e
    · rw [if_pos c2, if_pos (by omega)]
    · rw [if_neg c2, if_neg (by omega)]
theorem s_moved (l : Launch) (S : MS) (k a b : Nat) (hk : m7 k) (hk1 : k ≠ 1) (post : Int32 → MS → Prop) {n P : Nat} {kd ct sg σ : Nat → Nat} (hy : MY S n P kd ct sg) (hσ : MA S k σ) (ha : a < 5) (hd : topN σ a n < n) (h : post (nI (pkE kd σ n (topN σ a n) - topN σ a n + 1)) (ma S k (movF (S.2.1 k) (topN σ a n) (pkE kd σ n (topN σ a n) + 1) (nI b)))) : mX_moved l S k (nI a) (nI b) post := by
  have hy0 := hy
  obtain ⟨hP, hn, hP2, hn2, hkd, hct, hsg⟩ := hy
  refine m_moved l S k (nI a) (nI b) hk post ?_
  intro B21 h21
  unfold mT_moved_e
  refine s_topN l S k a hk _ hn (by omega) hσ ha ?_
  unfold topV
  rw [if_pos hd]
  refine s_packOf l S k (topN σ a n) hk _ hy0 hσ hd ?_
  have hg := pkE_lt (kd := kd) (σ := σ) hd
  generalize pkE kd σ n (topN σ a n) = g at hg h ⊢
  generalize topN σ a n = d at hd hg h ⊢
  have key : ∀ t e, e + t = g + 1 → d ≤ e → B21 (ma S k (movF (S.2.1 k) d e (nI b))) (nI d) (nI g) (nI e) := by
    intro t
    induction t with
    | zero =>
      intro e he hde
      refine h21 _ _ _ _ ?_
      unfold mT_moved_21
      have : e = g + 1 := by omega
      subst this
      refine ⟨fun _ => ?_, fun c => absurd (nI_lt (by omega) (by omega)) c⟩
      rw [pk_sub (by omega), nI_1]; exact h
    | succ t ih =>
      intro e he hde
      refine h21 _ _ _ _ ?_
      unfold mT_moved_21
      refine ⟨fun c => absurd c (nI_nlt (by omega) (by omega)), fun _ => ⟨vp_in_nI (by omega) (by omega), ?_⟩⟩
      rw [ma_get, ma_ma, nI_clamp (by omega), movF_s _ _ _ _ hde, ← nI_succ]
      exact ih (e + 1) (by omega) (by omega)
  have := key (g + 1 - d) d (by omega) (Nat.le_refl d)
  rw [movF_0, ma_id] at this
  exact this
