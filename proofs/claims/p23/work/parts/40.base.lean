-- the state's small laws
theorem va_up_id {α : Type} (f : Nat → α) (k : Nat) : va_up f k (f k) = f := by
  funext j
  unfold va_up
  split
  · next h => rw [h]
  · rfl
theorem va_up_same {α : Type} (f : Nat → α) (k : Nat) (v : α) : va_up f k v k = v := by simp [va_up]
theorem va_up_other {α : Type} (f : Nat → α) {k j : Nat} (v : α) (h : j ≠ k) : va_up f k v j = f j := by simp [va_up, h]
theorem va_up_swap {α : Type} (f : Nat → α) {k j : Nat} (v w : α) (h : j ≠ k) : va_up (va_up f k v) j w = va_up (va_up f j w) k v := by
  funext i
  unfold va_up
  by_cases h1 : i = j
  · subst h1; simp [h]
  · simp [h1]
theorem ma_id (S : MS) (k : Nat) : ma S k (S.2.1 k) = S := by
  show (S.1, va_up S.2.1 k (S.2.1 k), S.2.2) = S
  rw [va_up_id]
theorem ma_ma (S : MS) (k : Nat) (f g : Nat → Int32) : ma (ma S k f) k g = ma S k g := by
  show (S.1, va_up (va_up S.2.1 k f) k g, S.2.2) = (S.1, va_up S.2.1 k g, S.2.2)
  rw [bx_uu]
theorem mf_mf (S : MS) (k : Nat) (v w : Int32) : mf (mf S k v) k w = mf S k w := by
  show (va_up (va_up S.1 k v) k w, S.2.1, S.2.2) = (va_up S.1 k w, S.2.1, S.2.2)
  rw [bx_uu]
theorem ma_get (S : MS) (k : Nat) (f : Nat → Int32) : (ma S k f).2.1 k = f := va_up_same _ _ _
theorem ma_get_ne (S : MS) {k j : Nat} (f : Nat → Int32) (h : j ≠ k) : (ma S k f).2.1 j = S.2.1 j := va_up_other _ _ h
theorem mf_get (S : MS) (k : Nat) (v : Int32) : (mf S k v).1 k = v := va_up_same _ _ _
theorem mf_get_ne (S : MS) {k j : Nat} (v : Int32) (h : j ≠ k) : (mf S k v).1 j = S.1 j := va_up_other _ _ h
theorem vp_inL {n N : Nat} (h : n < N) (hN : N < 2 ^ 31) : vp_in (nI n) N := vp_in_nI h hN
-- the model's small methods
theorem s_in (l : Launch) (S : MS) (a b c : Int32) (post : Bool → MS → Prop) (h : post (decide (b ≤ a ∧ a ≤ c)) S) : mX_in l S a b c post := by
  refine m_in l S a b c post ?_
  unfold mT_in_e
  refine ⟨fun h1 => ?_, fun h1 => ⟨fun h2 => ?_, fun h2 => ?_⟩⟩
  · have e : decide (b ≤ a ∧ a ≤ c) = false := decide_eq_false fun q => absurd h1 (Int32.not_lt.mpr q.1)
    rw [e] at h; exact h
  · have e : decide (b ≤ a ∧ a ≤ c) = false := decide_eq_false fun q => absurd h2 (Int32.not_lt.mpr q.2)
    rw [e] at h; exact h
  · have e : decide (b ≤ a ∧ a ≤ c) = true := decide_eq_true ⟨Int32.not_lt.mp h1, Int32.not_lt.mp h2⟩
    rw [e] at h; exact h
theorem s_no (l : Launch) (S : MS) (a : Int32) (post : Int32 → MS → Prop) (h : post (-1) (mf S 2 a)) : mX_no l S a post := m_no l S a post h
theorem s_not (l : Launch) (S : MS) (a : Int32) (post : Bool → MS → Prop) (h : post false (mf S 2 a)) : mX_not l S a post := m_not l S a post h
theorem s_isPeg (l : Launch) (S : MS) (a : Int32) (post : Bool → MS → Prop) (h : post (decide (0 ≤ a ∧ a ≤ S.1 0 - 1)) S) : mX_isPeg l S a post := by
  refine m_isPeg l S a post ?_
  unfold mT_isPeg_e
  exact s_in l S a 0 _ _ h
theorem s_nothingUndone (l : Launch) (S : MS) (post : MS → Prop) (h : post (mf (mf (mf S 4 0) 5 0) 2 0)) : mX_nothingUndone l S post := m_nothingUndone l S post h
-- the first place with a value
def fIx (f : Nat → Int32) (p : Int32) : Nat → Nat → Nat
  | 0, j => j
  | d + 1, j => if f j = p then j else fIx f p d (j + 1)
def topI (f : Nat → Int32) (p : Int32) (n : Nat) : Int32 := if fIx f p n 0 < n then nI (fIx f p n 0) else -1
theorem s_top (l : Launch) (S : MS) (k : Nat) (p : Int32) (hk : m7 k) (post : Int32 → MS → Prop) {n : Nat} (hn : S.1 1 = nI n) (h7 : n ≤ 7) (h : post (topI (S.2.1 k) p n) S) : mX_top l S k p post := by
  refine m_top l S k p hk post ?_
  intro B2 B23 h2 h23
  unfold mT_top_e
  have key : ∀ d j, j + d = n → fIx (S.2.1 k) p n 0 = fIx (S.2.1 k) p d j → B2 S (nI j) := by
    intro d
    induction d with
    | zero =>
      intro j hj he
      refine h2 _ _ ?_
      unfold mT_top_2
      rw [hn]
      have hj' : j = n := by omega
      subst hj'
      refine ⟨fun _ => h23 _ _ ?_, fun c => absurd (nI_le (Nat.le_refl j) (by omega)) c⟩
      unfold mT_top_23
      rw [hn]
      refine ⟨fun _ => ?_, fun c => absurd (nI_le (Nat.le_refl j) (by omega)) c⟩
      have : topI (S.2.1 k) p j = -1 := by unfold topI; rw [he]; simp [fIx]
      rw [this] at h; exact h
    | succ d ih =>
      intro j hj he
      refine h2 _ _ ?_
      unfold mT_top_2
      rw [hn]
      have hlt : j < n := by omega
      have hng : ¬ nI n ≤ nI j := nI_ge hlt (by omega)
      refine ⟨fun c => absurd c hng, fun _ => ⟨vp_in_nI (by omega) (by omega), ?_⟩⟩
      rw [nI_clamp (by omega)]
      refine ⟨fun c => h23 _ _ ?_, fun c => ?_⟩
      · unfold mT_top_23
        rw [hn]
        refine ⟨fun c => absurd c hng, fun _ => ?_⟩
        have : topI (S.2.1 k) p n = nI j := by unfold topI; rw [he]; simp [fIx, c, hlt]
        rw [this] at h; exact h
      · rw [← nI_succ]
        exact ih (j + 1) (by omega) (by rw [he]; simp [fIx, c])
  exact key n 0 (by omega) rfl
