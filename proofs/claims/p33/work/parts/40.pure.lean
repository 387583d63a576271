section
-- the state's small laws
theorem va_up_id {α : Type} (f : Nat → α) (k : Nat) : va_up f k (f k) = f := by
  funext j
  unfold va_up
  split
  · next h => rw [h]
  · rfl
theorem va_up_same {α : Type} (f : Nat → α) (k : Nat) (v : α) : va_up f k v k = v := by simp [va_up]
theorem va_up_other {α : Type} (f : Nat → α) {k j : Nat} (v : α) (h : j ≠ k) : va_up f k v j = f j := by simp [va_up, h]
theorem va_up_swap {α : Type} (f : Nat → α) {k j : Nat} (v w : α) (h : j ≠ k) : va_up (va_up f k v) j w = va_up (va_up f j w) k v := by
  funext i
  unfold va_up
  by_cases h1 : i = j
  · subst h1; simp [h]
  · simp [h1]
theorem ma_id (S : MS) (k : Nat) : ma S k (S.2.1 k) = S := by
  show (S.1, va_up S.2.1 k (S.2.1 k), S.2.2) = S
  rw [va_up_id]
theorem ma_ma (S : MS) (k : Nat) (f g : Nat → Int32) : ma (ma S k f) k g = ma S k g := by
  show (S.1, va_up (va_up S.2.1 k f) k g, S.2.2) = (S.1, va_up S.2.1 k g, S.2.2)
  rw [bx_uu]
theorem mf_mf (S : MS) (k : Nat) (v w : Int32) : mf (mf S k v) k w = mf S k w := by
  show (va_up (va_up S.1 k v) k w, S.2.1, S.2.2) = (va_up S.1 k w, S.2.1, S.2.2)
  rw [bx_uu]
theorem ma_get (S : MS) (k : Nat) (f : Nat → Int32) : (ma S k f).2.1 k = f := va_up_same _ _ _
theorem ma_get_ne (S : MS) {k j : Nat} (f : Nat → Int32) (h : j ≠ k) : (ma S k f).2.1 j = S.2.1 j := va_up_other _ _ h
theorem mf_get (S : MS) (k : Nat) (v : Int32) : (mf S k v).1 k = v := va_up_same _ _ _
theorem mf_get_ne (S : MS) {k j : Nat} (v : Int32) (h : j ≠ k) : (mf S k v).1 j = S.1 j := va_up_other _ _ h
theorem vp_inL {n N : Nat} (h : n < N) (hN : N < 2 ^ 31) : vp_in (nI n) N := vp_in_nI h hN
-- the model's small methods
theorem s_in (l : Launch) (S : MS) (a b c : Int32) (post : Bool → MS → Prop) (h : post (decide (b ≤ a ∧ a ≤ c)) S) : mX_in l S a b c post := by
  refine m_in l S a b c post ?_
  unfold mT_in_e
  refine ⟨fun h1 => ?_, fun h1 => ⟨fun h2 => ?_, fun h2 => ?_⟩⟩
  · have e : decide (b ≤ a ∧ a ≤ c) = false := decide_eq_false fun q => absurd h1 (Int32.not_lt.mpr q.1)
    rw [e] at h; exact h
  · have e : decide (b ≤ a ∧ a ≤ c) = false := decide_eq_false fun q => absurd h2 (Int32.not_lt.mpr q.2)
    rw [e] at h; exact h
  · have e : decide (b ≤ a ∧ a ≤ c) = true := decide_eq_true ⟨Int32.not_lt.mp h1, Int32.not_lt.mp h2⟩
    rw [e] at h; exact h
theorem s_no (l : Launch) (S : MS) (a : Int32) (post : Int32 → MS → Prop) (h : post (-1) (mf S 2 a)) : mX_no l S a post := m_no l S a post h
theorem s_not (l : Launch) (S : MS) (a : Int32) (post : Bool → MS → Prop) (h : post false (mf S 2 a)) : mX_not l S a post := m_not l S a post h
theorem s_isPeg (l : Launch) (S : MS) (a : Int32) (post : Bool → MS → Prop) (h : post (decide (0 ≤ a ∧ a ≤ S.1 0 - 1)) S) : mX_isPeg l S a post := by
  refine m_isPeg l S a post ?_
  unfold mT_isPeg_e
  exact s_in l S a 0 _ _ h
theorem s_nothingUndone (l : Launch) (S : MS) (post : MS → Prop) (h : post (mf (mf (mf S 4 0) 5 0) 2 0)) : mX_nothingUndone l S post := m_nothingUndone l S post h
-- the first place with a value
def fIx (f : Nat → Int32) (p : Int32) : Nat → Nat → Nat
  | 0, j => j
  | d + 1, j => if f j = p then j else fIx f p d (j + 1)
def topI (f : Nat → Int32) (p : Int32) (n : Nat) : Int32 := if fIx f p n 0 < n then nI (fIx f p n 0) else -1
theorem s_top (l : Launch) (S : MS) (k : Nat) (p : Int32) (hk : m7 k) (post : Int32 → MS → Prop) {n : Nat} (hn : S.1 1 = nI n) (h7 : n ≤ 7) (h : post (topI (S.2.1 k) p n) S) : mX_top l S k p post := by
  refine m_top l S k p hk post ?_
  intro B2 B23 h2 h23
  unfold mT_top_e
  have key : ∀ d j, j + d = n → fIx (S.2.1 k) p n 0 = fIx (S.2.1 k) p d j → B2 S (nI j) := by
    intro d
    induction d with
    | zero =>
      intro j hj he
      refine h2 _ _ ?_
      unfold mT_top_2
      rw [hn]
      have hj' : j = n := by omega
      subst hj'
      refine ⟨fun _ => h23 _ _ ?_, fun c => absurd (nI_le (Nat.le_refl j) (by omega)) c⟩
      unfold mT_top_23
      rw [hn]
      refine ⟨fun _ => ?_, fun c => absurd (nI_le (Nat.le_refl j) (by omega)) c⟩
      have : topI (S.2.1 k) p j = -1 := by unfold topI; rw [he]; simp [fIx]
      rw [this] at h; exact h
    | succ d ih =>
      intro j hj he
      refine h2 _ _ ?_
      unfold mT_top_2
      rw [hn]
      have hlt : j < n := by omega
      have hng : ¬ nI n ≤ nI j := nI_ge hlt (by omega)
      refine ⟨fun c => absurd c hng, fun _ => ⟨vp_in_nI (by omega) (by omega), ?_⟩⟩
      rw [nI_clamp (by omega)]
      refine ⟨fun c => h23 _ _ ?_, fun c => ?_⟩
      · unfold mT_top_23
        rw [hn]
        refine ⟨fun c => absurd c hng, fun _ => ?_⟩
        have : topI (S.2.1 k) p n = nI j := by unfold topI; rw [he]; simp [fIx, c, hlt]
        rw [this] at h; exact h
      · rw [← nI_succ]
        exact ih (j + 1) (by omega) (by rw [he]; simp [fIx, c])
  exact key n 0 (by omega) rfl
end
section
-- numbers
theorem nI_is {a : Nat} {x : Int32} (k : Nat) (hx : x = nI k) (ha : a < 2 ^ 31) (hk : k < 2 ^ 31) : nI a = x ↔ a = k := by rw [hx]; exact nI_eq ha hk
theorem nI_m1 {a : Nat} (ha : a < 2 ^ 31) : ¬ nI a = -1 := fun h => by
  have h1 := nI_toInt ha
  rw [h] at h1
  have h2 : (-1 : Int32).toInt = -1 := by decide
  omega
theorem i_sub1 (x : Int32) : x + (-1) = x - 1 := (Int32.sub_eq_add_neg ..).symm
theorem nI_neg1 : ¬ (0 : Int32) ≤ -1 := by decide
theorem upd_ext {f g : Nat → Int32} (h : ∀ j, f j = g j) : f = g := funext h
-- a stand as the peg of each disc: its number, its first disc on a peg, the end of a pack
def packN (σ : Nat → Nat) (P : Nat) : Nat → Nat → Nat
  | 0, acc => acc
  | d + 1, acc => packN σ P d (acc * P + σ d)
def tpN (σ : Nat → Nat) (p : Nat) : Nat → Nat → Nat
  | 0, j => j
  | d + 1, j => if σ j = p then j else tpN σ p d (j + 1)
def pkN (kd σ : Nat → Nat) (n d0 : Nat) : Nat → Nat → Nat
  | 0, g => g
  | t + 1, g => if kd g = 3 ∧ g + 1 < n ∧ kd (g + 1) = 3 ∧ σ (g + 1) = σ d0 then pkN kd σ n d0 t (g + 1) else g
/-- the model's yard: pegs, discs, kinds, costs, strong lanes -/
def MY (S : MS) (n P : Nat) (kd ct sg : Nat → Nat) : Prop := S.1 0 = nI P ∧ S.1 1 = nI n ∧ (2 ≤ P ∧ P ≤ 5) ∧ (1 ≤ n ∧ n ≤ 7) ∧ (∀ j, j < 7 → S.2.1 1 j = nI (kd j) ∧ kd j ≤ 3) ∧ (∀ j, j < 25 → S.2.1 4 j = nI (ct j) ∧ ct j ≤ 100) ∧ (∀ j, j < 25 → S.2.1 5 j = nI (sg j) ∧ sg j ≤ 1)
/-- array k holds the stand σ -/
def MA (S : MS) (k : Nat) (σ : Nat → Nat) : Prop := ∀ j, j < 7 → S.2.1 k j = nI (σ j) ∧ σ j < 5
theorem tpN_le (σ : Nat → Nat) (p : Nat) : ∀ d j, j ≤ tpN σ p d j ∧ tpN σ p d j ≤ j + d := by
  intro d
  induction d with
  | zero => intro j; simp [tpN]
  | succ d ih =>
    intro j
    unfold tpN
    split
    · omega
    · have := ih (j + 1); omega
theorem tpN_hit (σ : Nat → Nat) (p : Nat) : ∀ d j, tpN σ p d j < j + d → σ (tpN σ p d j) = p := by
  intro d
  induction d with
  | zero => intro j h; simp [tpN] at h
  | succ d ih =>
    intro j h
    unfold tpN at h ⊢
    split at h
    · next c => simp [c]
    · next c =>
      simp only [c, if_false]
      exact ih (j + 1) (by omega)
theorem pkN_le (kd σ : Nat → Nat) (n d0 : Nat) : ∀ t g, g ≤ pkN kd σ n d0 t g ∧ (g < n → pkN kd σ n d0 t g < n) := by
  intro t
  induction t with
  | zero => intro g; simp [pkN]
  | succ t ih =>
    intro g
    unfold pkN
    split
    · next c => have := ih (g + 1); exact ⟨by omega, fun _ => this.2 c.2.1⟩
    · exact ⟨Nat.le_refl g, id⟩
theorem s_stands (l : Launch) (S : MS) (post : Int32 → MS → Prop) {n P : Nat} (hn : S.1 1 = nI n) (hP : S.1 0 = nI P) (h7 : n ≤ 7) (h : post (nI (P ^ n)) S) : mX_stands l S post := by
  refine m_stands l S post ?_
  intro B4 h4
  unfold mT_stands_e
  have key : ∀ d j, j + d = n → B4 S (nI (P ^ j)) (nI j) := by
    intro d
    induction d with
    | zero =>
      intro j hj
      refine h4 _ _ _ ?_
      unfold mT_stands_4
      rw [hn]
      have : j = n := by omega
      subst this
      exact ⟨fun _ => h, fun c => absurd (nI_le (Nat.le_refl j) (by omega)) c⟩
    | succ d ih =>
      intro j hj
      refine h4 _ _ _ ?_
      unfold mT_stands_4
      rw [hn, hP]
      refine ⟨fun c => absurd c (nI_ge (by omega) (by omega)), fun _ v hv => ?_⟩
      rw [hv, pk_mul, ← nI_succ, ← Nat.pow_succ]
      exact ih (j + 1) (by omega)
  exact key n 0 (by omega)
theorem s_pack (l : Launch) (S : MS) (k : Nat) (hk : m7 k) (post : Int32 → MS → Prop) {n P : Nat} {σ : Nat → Nat} (hn : S.1 1 = nI n) (hP : S.1 0 = nI P) (h7 : n ≤ 7) (hσ : ∀ j, j < n → S.2.1 k j = nI (σ j)) (h : post (nI (packN σ P n 0)) S) : mX_pack l S k post := by
  refine m_pack l S k hk post ?_
  intro B9 h9
  unfold mT_pack_e
  have key : ∀ d acc, d ≤ n → packN σ P n 0 = packN σ P d acc → B9 S (nI acc) (nI d - 1) := by
    intro d
    induction d with
    | zero =>
      intro acc hd he
      refine h9 _ _ _ ?_
      unfold mT_pack_9
      refine ⟨fun _ => ?_, fun c => absurd (by decide) c⟩
      rw [he] at h; exact h
    | succ d ih =>
      intro acc hd he
      refine h9 _ _ _ ?_
      unfold mT_pack_9
      rw [nI_pred]
      refine ⟨fun c => absurd c (nI_pos (by omega)), fun _ => ⟨vp_in_nI (by omega) (by omega), fun v hv => ?_⟩⟩
      rw [nI_clamp (by omega), hP, hσ d (by omega), pk_mul, nI_add] at hv
      rw [hv, i_sub1]
      exact ih _ (by omega) (by rw [he]; rfl)
  intro v hv
  rw [hv, hn]
  exact key n 0 (Nat.le_refl n) rfl
/-- what unpack leaves in an array -/
def unpF (f : Nat → Int32) (P m n : Nat) : Nat → Int32 := fun j => if j < n then nI (m / P ^ j % P) else f j
theorem unpF_0 (f : Nat → Int32) (P m : Nat) : unpF f P m 0 = f := by funext j; simp [unpF]
theorem unpF_s (f : Nat → Int32) (P m n : Nat) : upd (unpF f P m n) n (nI (m / P ^ n % P)) = unpF f P m (n + 1) := by
  funext j
  unfold upd unpF
  by_cases h : j = n
  · subst h; simp
  · by_cases h2 : j < n
    · simp [h, h2, show j < n + 1 by omega]
    · simp [h, h2, show ¬ j < n + 1 by omega]
theorem s_unpack (l : Launch) (S : MS) (m k : Nat) (hk : m7 k) (post : MS → Prop) {n P : Nat} (hn : S.1 1 = nI n) (hP : S.1 0 = nI P) (hP0 : 2 ≤ P ∧ P ≤ 5) (h7 : n ≤ 7) (hm : m < 2 ^ 31) (h : post (ma S k (unpF (S.2.1 k) P m n))) : mX_unpack l S (nI m) k post := by
  refine m_unpack l S (nI m) k hk post ?_
  intro B5 h5
  unfold mT_unpack_e
  have hk0 : ∀ f : Nat → Int32, (ma S k f).1 = S.1 := fun _ => rfl
  have key : ∀ d j, j + d = n → B5 (ma S k (unpF (S.2.1 k) P m j)) (nI (m / P ^ j)) (nI j) := by
    intro d
    induction d with
    | zero =>
      intro j hj
      refine h5 _ _ _ ?_
      unfold mT_unpack_5
      rw [hk0, hn]
      have : j = n := by omega
      subst this
      exact ⟨fun _ => h, fun c => absurd (nI_le (Nat.le_refl j) (by omega)) c⟩
    | succ d ih =>
      intro j hj
      refine h5 _ _ _ ?_
      unfold mT_unpack_5
      rw [hk0, hn, hP]
      have hz : ¬ nI P = 0 := nI_ne0 (by omega) (by omega)
      have hb : m / P ^ j < 2 ^ 31 := Nat.lt_of_le_of_lt (Nat.div_le_self _ _) hm
      refine ⟨fun c => absurd c (nI_ge (by omega) (by omega)), fun _ => ⟨hz, vp_in_nI (by omega) (by omega), hz, fun v hv => ?_⟩⟩
      rw [hv, ma_get, ma_ma, nI_clamp (by omega), pk_rem hb (by omega) (by omega), unpF_s, pk_div hb (by omega) (by omega), Nat.div_div_eq_div_mul, ← Nat.pow_succ, ← nI_succ]
      exact ih (j + 1) (by omega)
  have := key n 0 (by omega)
  rw [unpF_0, ma_id, Nat.pow_zero, Nat.div_one] at this
  exact this
end
section
def topN (σ : Nat → Nat) (p n : Nat) : Nat := tpN σ p n 0
def topV (σ : Nat → Nat) (p n : Nat) : Int32 := if topN σ p n < n then nI (topN σ p n) else -1
theorem fIx_tpN {f : Nat → Int32} {σ : Nat → Nat} {p n : Nat} (hσ : ∀ j, j < n → f j = nI (σ j) ∧ σ j < 5) (hp : p < 5) : ∀ d j, j + d ≤ n → fIx f (nI p) d j = tpN σ p d j := by
  intro d
  induction d with
  | zero => intro j _; rfl
  | succ d ih =>
    intro j hj
    unfold fIx tpN
    have h1 := hσ j (by omega)
    have h2 : (f j = nI p) ↔ σ j = p := by rw [h1.1]; exact nI_eq (by omega) (by omega)
    rw [ih (j + 1) (by omega)]
    by_cases c : σ j = p
    · rw [if_pos c, if_pos (h2.mpr c)]
    · rw [if_neg c, if_neg (fun q => c (h2.mp q))]
theorem s_topN (l : Launch) (S : MS) (k p : Nat) (hk : m7 k) (post : Int32 → MS → Prop) {n : Nat} {σ : Nat → Nat} (hn : S.1 1 = nI n) (h7 : n ≤ 7) (hσ : MA S k σ) (hp : p < 5) (h : post (topV σ p n) S) : mX_top l S k (nI p) post := by
  refine s_top l S k (nI p) hk post hn h7 ?_
  have e : topI (S.2.1 k) (nI p) n = topV σ p n := by
    unfold topI topV topN
    rw [fIx_tpN (fun j hj => hσ j (by omega)) hp n 0 (by omega)]
  rw [e]; exact h
-- below
def belV (σ : Nat → Nat) (d n : Nat) : Int32 := if tpN σ (σ d) (n - (d + 1)) (d + 1) < n then nI (tpN σ (σ d) (n - (d + 1)) (d + 1)) else -1
theorem s_below (l : Launch) (S : MS) (k d : Nat) (hk : m7 k) (post : Int32 → MS → Prop) {n : Nat} {σ : Nat → Nat} (hn : S.1 1 = nI n) (h7 : n ≤ 7) (hσ : MA S k σ) (hd : d < n) (h : post (belV σ d n) S) : mX_below l S k (nI d) post := by
  refine m_below l S k (nI d) hk post ?_
  intro B4 B27 h4 h27
  unfold mT_below_e
  intro v hv
  have key : ∀ t j, j + t = n → tpN σ (σ d) (n - (d + 1)) (d + 1) = tpN σ (σ d) t j → B4 S (nI j) := by
    intro t
    induction t with
    | zero =>
      intro j hj he
      refine h4 _ _ ?_
      unfold mT_below_4
      rw [hn]
      have : j = n := by omega
      subst this
      refine ⟨fun _ => h27 _ _ ?_, fun c => absurd (nI_le (Nat.le_refl j) (by omega)) c⟩
      unfold mT_below_27
      rw [hn]
      refine ⟨fun _ => ?_, fun c => absurd (nI_le (Nat.le_refl j) (by omega)) c⟩
      have : belV σ d j = -1 := by unfold belV; rw [he]; simp [tpN]
      rw [this] at h; exact h
    | succ t ih =>
      intro j hj he
      refine h4 _ _ ?_
      unfold mT_below_4
      rw [hn]
      have hng : ¬ nI n ≤ nI j := nI_ge (by omega) (by omega)
      refine ⟨fun c => absurd c hng, fun _ => ⟨vp_in_nI (by omega) (by omega), vp_in_nI (by omega) (by omega), ?_⟩⟩
      rw [nI_clamp (by omega), nI_clamp (by omega), (hσ j (by omega)).1, (hσ d (by omega)).1]
      have hj5 := (hσ j (by omega)).2
      have hd5 := (hσ d (by omega)).2
      refine ⟨fun c => h27 _ _ ?_, fun c => ?_⟩
      · have c : σ j = σ d := (nI_eq (by omega) (by omega)).mp c
        unfold mT_below_27
        rw [hn]
        refine ⟨fun c => absurd c hng, fun _ => ?_⟩
        have : belV σ d n = nI j := by unfold belV; rw [he]; simp [tpN, c, show j < n by omega]
        rw [this] at h; exact h
      · have c : ¬ σ j = σ d := fun q => c ((nI_eq (by omega) (by omega)).mpr q)
        rw [← nI_succ]
        exact ih (j + 1) (by omega) (by rw [he]; simp [tpN, c])
  rw [hv, ← nI_succ]
  exact key (n - (d + 1)) (d + 1) (by omega) rfl
-- is a stand right
def okD (kd σ : Nat → Nat) (n d : Nat) : Bool := let b := tpN σ (σ d) (n - (d + 1)) (d + 1); !(decide (b < n) && decide (kd b = 2) && !decide (kd d = 2))
def rightN (kd σ : Nat → Nat) (n : Nat) : Nat → Nat → Bool
  | 0, _ => true
  | t + 1, d => okD kd σ n d && rightN kd σ n t (d + 1)
theorem s_isRight (l : Launch) (S : MS) (k : Nat) (hk : m7 k) (post : Bool → MS → Prop) {n P : Nat} {kd ct sg σ : Nat → Nat} (hy : MY S n P kd ct sg) (hσ : MA S k σ) (h : post (rightN kd σ n n 0) S) : mX_isRight l S k post := by
  obtain ⟨hP, hn, hP2, hn2, hkd, -, -⟩ := hy
  refine m_isRight l S k hk post ?_
  intro B2 B44 h2 h44
  unfold mT_isRight_e
  have key : ∀ t d, d + t = n → rightN kd σ n n 0 = rightN kd σ n t d → B2 S (nI d) := by
    intro t
    induction t with
    | zero =>
      intro d hd he
      refine h2 _ _ ?_
      unfold mT_isRight_2
      rw [hn]
      have : d = n := by omega
      subst this
      refine ⟨fun _ => ?_, fun c => absurd (nI_le (Nat.le_refl d) (by omega)) c⟩
      rw [he] at h; exact h
    | succ t ih =>
      intro d hd he
      refine h2 _ _ ?_
      unfold mT_isRight_2
      rw [hn]
      refine ⟨fun c => absurd c (nI_ge (by omega) (by omega)), fun _ => ?_⟩
      have nxt : okD kd σ n d = true → B44 S (nI d) := fun ho => by
        refine h44 _ _ ?_
        unfold mT_isRight_44
        rw [← nI_succ]
        exact ih (d + 1) (by omega) (by rw [he]; simp [rightN, ho])
      refine s_below l S k d hk _ hn (by omega) hσ (by omega) ?_
      have hb := tpN_le σ (σ d) (n - (d + 1)) (d + 1)
      unfold belV
      by_cases hlt : tpN σ (σ d) (n - (d + 1)) (d + 1) < n
      · rw [if_pos hlt]
        refine ⟨fun c => absurd c (nI_m1 (by omega)), fun _ => ⟨vp_in_nI (by omega) (by omega), ?_⟩⟩
        rw [nI_clamp (by omega), (hkd _ (by omega)).1]
        have hk2 := (hkd (tpN σ (σ d) (n - (d + 1)) (d + 1)) (by omega)).2
        have hk3 := (hkd d (by omega)).2
        refine ⟨fun c => nxt ?_, fun c => ⟨vp_in_nI (by omega) (by omega), ?_⟩⟩
        · have c : ¬ kd (tpN σ (σ d) (n - (d + 1)) (d + 1)) = 2 := fun q => c (by rw [q]; rfl)
          simp [okD, c]
        · have c : kd (tpN σ (σ d) (n - (d + 1)) (d + 1)) = 2 := (nI_is 2 rfl (by omega) (by omega)).mp c
          rw [nI_clamp (by omega), (hkd d (by omega)).1]
          refine ⟨fun c2 => nxt ?_, fun c2 => ?_⟩
          · have c2 : kd d = 2 := (nI_is 2 rfl (by omega) (by omega)).mp c2
            simp [okD, c2]
          · have c2 : ¬ kd d = 2 := fun q => c2 (by rw [q]; rfl)
            have : rightN kd σ n n 0 = false := by rw [he]; simp [rightN, okD, hlt, c, c2]
            rw [this] at h; exact h
      · rw [if_neg hlt]
        refine ⟨fun _ => nxt ?_, fun c => absurd rfl c⟩
        simp [okD, hlt]
  exact key n 0 (by omega) rfl
-- the end of a pack
def pkE (kd σ : Nat → Nat) (n d : Nat) : Nat := pkN kd σ n d n d
theorem s_packOf (l : Launch) (S : MS) (k d : Nat) (hk : m7 k) (post : Int32 → MS → Prop) {n P : Nat} {kd ct sg σ : Nat → Nat} (hy : MY S n P kd ct sg) (hσ : MA S k σ) (hd : d < n) (h : post (nI (pkE kd σ n d)) S) : mX_packOf l S k (nI d) post := by
  obtain ⟨hP, hn, hP2, hn2, hkd, -, -⟩ := hy
  refine m_packOf l S k (nI d) hk post ?_
  intro B2 h2
  unfold mT_packOf_e
  have key : ∀ t g, d ≤ g → g < n → n ≤ t + g → pkE kd σ n d = pkN kd σ n d t g → B2 S (nI g) := by
    intro t
    induction t with
    | zero => intro g h1 h3 h4; omega
    | succ t ih =>
      intro g h1 h3 h4 he
      refine h2 _ _ ?_
      unfold mT_packOf_2
      have k1 := hkd g (by omega)
      have stop : ¬ (kd g = 3 ∧ g + 1 < n ∧ kd (g + 1) = 3 ∧ σ (g + 1) = σ d) → post (nI g) S := fun c => by
        have : pkE kd σ n d = g := by rw [he]; unfold pkN; rw [if_neg c]
        rw [this] at h; exact h
      refine ⟨vp_in_nI (by omega) (by omega), ?_⟩
      rw [nI_clamp (by omega), k1.1, hn]
      refine ⟨fun c => stop fun q => c (by rw [q.1]; rfl), fun c => ?_⟩
      have c1 : kd g = 3 := (nI_is 3 rfl (by omega) (by omega)).mp c
      rw [← nI_succ]
      refine ⟨fun c => stop fun q => absurd c (nI_ge q.2.1 (by omega)), fun c => ?_⟩
      have c2 : g + 1 < n := by
        rcases Nat.lt_or_ge (g + 1) n with q | q
        · exact q
        · exact absurd (nI_le q (by omega)) c
      have k2 := hkd (g + 1) (by omega)
      refine ⟨vp_in_nI (by omega) (by omega), ?_⟩
      rw [nI_clamp (by omega), k2.1]
      refine ⟨fun c => stop fun q => c (by rw [q.2.2.1]; rfl), fun c => ?_⟩
      have c3 : kd (g + 1) = 3 := (nI_is 3 rfl (by omega) (by omega)).mp c
      have s1 := hσ (g + 1) (by omega)
      have s2 := hσ d (by omega)
      refine ⟨vp_in_nI (by omega) (by omega), vp_in_nI (by omega) (by omega), ?_⟩
      rw [nI_clamp (by omega), s1.1, s2.1]
      refine ⟨fun c => stop fun q => c (by rw [q.2.2.2]), fun c => ?_⟩
      have c4 : σ (g + 1) = σ d := (nI_eq (by omega) (by omega)).mp c
      exact ih (g + 1) (by omega) c2 (by omega) (by rw [he]; conv => lhs; unfold pkN; rw [if_pos ⟨c1, c2, c3, c4⟩])
  exact key n d (Nat.le_refl d) hd (by omega) rfl
end
section
/-- WHY a move can't be, 0 if it can -/
def whyN (n : Nat) (kd ct sg σ : Nat → Nat) (a b : Nat) : Nat :=
  if ct (5 * a + b) = 0 then 1
  else if topN σ a n = n then 2
  else if (kd (topN σ a n) = 1 ∨ kd (topN σ a n) = 2) ∧ sg (5 * a + b) = 0 then 3
  else if topN σ b n = n then 0
  else if topN σ b n < pkE kd σ n (topN σ a n) then 4
  else if kd (topN σ b n) = 2 ∧ kd (pkE kd σ n (topN σ a n)) ≠ 2 then 5
  else 0
theorem topN_le (σ : Nat → Nat) (p n : Nat) : topN σ p n ≤ n := by have := (tpN_le σ p n 0).2; unfold topN; omega
theorem pkE_lt {kd σ : Nat → Nat} {n d : Nat} (h : d < n) : d ≤ pkE kd σ n d ∧ pkE kd σ n d < n := ⟨(pkN_le kd σ n d n d).1, (pkN_le kd σ n d n d).2 h⟩
theorem ix25 {a b : Nat} (ha : a < 5) (hb : b < 5) : (5 : Int32) * nI a + nI b = nI (5 * a + b) := by
  rw [show (5 : Int32) = nI 5 from rfl, pk_mul, nI_add]
theorem s_whyOf (l : Launch) (S : MS) (k a b : Nat) (hk : m7 k) (post : Int32 → MS → Prop) {n P : Nat} {kd ct sg σ : Nat → Nat} (hy : MY S n P kd ct sg) (hσ : MA S k σ) (ha : a < 5) (hb : b < 5) (h : post (nI (whyN n kd ct sg σ a b)) S) : mX_whyOf l S k (nI a) (nI b) post := by
  have hy0 := hy
  obtain ⟨hP, hn, hP2, hn2, hkd, hct, hsg⟩ := hy
  refine m_whyOf l S k (nI a) (nI b) hk post ?_
  intro B62 B77 h62 h77
  unfold mT_whyOf_e
  rw [ix25 ha hb, nI_clamp (by omega)]
  have c0 := hct (5 * a + b) (by omega)
  have g0 := hsg (5 * a + b) (by omega)
  refine ⟨vp_in_nI (by omega) (by omega), fun c => ?_, fun c => ?_⟩
  · rw [c0.1] at c
    have c1 : ¬ ct (5 * a + b) = 0 := fun q => c (by rw [q]; rfl)
    refine s_topN l S k a hk _ hn (by omega) hσ ha ?_
    have hle := topN_le σ a n
    unfold topV
    by_cases hd : topN σ a n < n
    · rw [if_pos hd]
      refine ⟨fun _ => ?_, fun c => absurd c (nI_m1 (by omega))⟩
      refine s_packOf l S k (topN σ a n) hk _ hy0 hσ hd ?_
      have hg := pkE_lt (kd := kd) (σ := σ) hd
      generalize hge : pkE kd σ n (topN σ a n) = g at hg ⊢
      have kdd := hkd (topN σ a n) (by omega)
      rw [nI_clamp (by omega), kdd.1]
      have b77 : ¬ ((kd (topN σ a n) = 1 ∨ kd (topN σ a n) = 2) ∧ sg (5 * a + b) = 0) → B77 S (nI g) := fun c3 => by
        refine h77 _ _ ?_
        unfold mT_whyOf_77
        refine s_topN l S k b hk _ hn (by omega) hσ hb ?_
        have hle2 := topN_le σ b n
        unfold topV
        have hw : whyN n kd ct sg σ a b = if topN σ b n = n then 0 else if topN σ b n < g then 4 else if kd (topN σ b n) = 2 ∧ kd g ≠ 2 then 5 else 0 := by
          unfold whyN
          rw [if_neg c1, if_neg (by omega), if_neg c3, hge]
        by_cases ht : topN σ b n < n
        · rw [if_pos ht]
          rw [if_neg (by omega)] at hw
          have kt := hkd (topN σ b n) (by omega)
          have kg := hkd g (by omega)
          refine ⟨fun _ => ⟨fun c4 => ?_, fun c4 => ?_⟩, fun c4 => absurd c4 (nI_m1 (by omega))⟩
          · have c4 : g ≤ topN σ b n := (nI_leI (by omega) (by omega)).mp c4
            rw [if_neg (by omega)] at hw
            refine ⟨vp_in_nI (by omega) (by omega), ?_⟩
            rw [nI_clamp (by omega), kt.1]
            refine ⟨fun c5 => ?_, fun c5 => ⟨vp_in_nI (by omega) (by omega), ?_⟩⟩
            · have c5 : ¬ kd (topN σ b n) = 2 := fun q => c5 (by rw [q]; rfl)
              rw [if_neg (fun q => c5 q.1)] at hw
              rw [hw] at h; exact h
            · have c5 : kd (topN σ b n) = 2 := (nI_is 2 rfl (by omega) (by omega)).mp c5
              rw [nI_clamp (by omega), kg.1]
              refine ⟨fun c6 => ?_, fun c6 => ?_⟩
              · have c6 : kd g = 2 := (nI_is 2 rfl (by omega) (by omega)).mp c6
                rw [if_neg (fun q => q.2 c6)] at hw
                rw [hw] at h; exact h
              · have c6 : ¬ kd g = 2 := fun q => c6 (by rw [q]; rfl)
                rw [if_pos ⟨c5, c6⟩] at hw
                rw [hw] at h; exact h
          · have c4 : topN σ b n < g := by
              rcases Nat.lt_or_ge (topN σ b n) g with q | q
              · exact q
              · exact absurd (nI_le q (by omega)) c4
            rw [if_pos c4] at hw
            rw [hw] at h; exact h
        · rw [if_neg ht]
          rw [if_pos (by omega)] at hw
          refine ⟨fun c4 => absurd rfl c4, fun _ => ?_⟩
          rw [hw] at h; exact h
      have b62 : (kd (topN σ a n) = 1 ∨ kd (topN σ a n) = 2) → B62 S (nI g) := fun c3 => by
        refine h62 _ _ ?_
        unfold mT_whyOf_62
        rw [ix25 ha hb, nI_clamp (by omega), g0.1]
        refine ⟨vp_in_nI (by omega) (by omega), fun c4 => b77 ?_, fun c4 => ?_⟩
        · have c4 : ¬ sg (5 * a + b) = 0 := fun q => c4 (by rw [q]; rfl)
          exact fun q => c4 q.2
        · have c4 : sg (5 * a + b) = 0 := (nI_is 0 rfl (by omega) (by omega)).mp c4
          have hw : whyN n kd ct sg σ a b = 3 := by
            unfold whyN
            rw [if_neg c1, if_neg (by omega), if_pos ⟨c3, c4⟩]
          rw [hw] at h; exact h
      refine ⟨vp_in_nI (by omega) (by omega), fun c2 => b62 ?_, fun c2 => ⟨vp_in_nI (by omega) (by omega), fun c3 => b77 ?_, fun c3 => b62 ?_⟩⟩
      · exact Or.inl ((nI_is 1 rfl (by omega) (by omega)).mp c2)
      · intro q
        rcases q.1 with q | q
        · exact c2 (by rw [q]; rfl)
        · exact c3 (by rw [q]; rfl)
      · exact Or.inr ((nI_is 2 rfl (by omega) (by omega)).mp c3)
    · rw [if_neg hd]
      refine ⟨fun c2 => absurd rfl c2, fun _ => ?_⟩
      have hw : whyN n kd ct sg σ a b = 2 := by
        unfold whyN
        rw [if_neg c1, if_pos (by omega)]
      rw [hw] at h; exact h
  · rw [c0.1] at c
    have c1 : ct (5 * a + b) = 0 := (nI_is 0 rfl (by omega) (by omega)).mp c
    have hw : whyN n kd ct sg σ a b = 1 := by unfold whyN; rw [if_pos c1]
    rw [hw] at h; exact h
/-- the stand behind a move -/
def movN (n : Nat) (kd σ : Nat → Nat) (a b : Nat) : Nat → Nat := fun j => if topN σ a n ≤ j ∧ j ≤ pkE kd σ n (topN σ a n) then b else σ j
def movF (f : Nat → Int32) (d e : Nat) (b : Int32) : Nat → Int32 := fun j => if d ≤ j ∧ j < e then b else f j
theorem movF_0 (f : Nat → Int32) (d : Nat) (b : Int32) : movF f d d b = f := by
  funext j
  unfold movF
  rw [if_neg (by omega)]
theorem movF_s (f : Nat → Int32) (d e : Nat) (b : Int32) (h : d ≤ e) : upd (movF f d e b) e b = movF f d (e + 1) b := by
  funext j
  unfold upd movF
  by_cases c : j = e
  · subst c; rw [if_pos rfl, if_pos (by omega)]
  · rw [if_neg c]
    by_cases c2 : d ≤ j ∧ j < e
    · rw [if_pos c2, if_pos (by omega)]
    · rw [if_neg c2, if_neg (by omega)]
theorem s_moved (l : Launch) (S : MS) (k a b : Nat) (hk : m7 k) (hk1 : k ≠ 1) (post : Int32 → MS → Prop) {n P : Nat} {kd ct sg σ : Nat → Nat} (hy : MY S n P kd ct sg) (hσ : MA S k σ) (ha : a < 5) (hd : topN σ a n < n) (h : post (nI (pkE kd σ n (topN σ a n) - topN σ a n + 1)) (ma S k (movF (S.2.1 k) (topN σ a n) (pkE kd σ n (topN σ a n) + 1) (nI b)))) : mX_moved l S k (nI a) (nI b) post := by
  have hy0 := hy
  obtain ⟨hP, hn, hP2, hn2, hkd, hct, hsg⟩ := hy
  refine m_moved l S k (nI a) (nI b) hk post ?_
  intro B21 h21
  unfold mT_moved_e
  refine s_topN l S k a hk _ hn (by omega) hσ ha ?_
  unfold topV
  rw [if_pos hd]
  refine s_packOf l S k (topN σ a n) hk _ hy0 hσ hd ?_
  have hg := pkE_lt (kd := kd) (σ := σ) hd
  generalize pkE kd σ n (topN σ a n) = g at hg h ⊢
  generalize topN σ a n = d at hd hg h ⊢
  have key : ∀ t e, e + t = g + 1 → d ≤ e → B21 (ma S k (movF (S.2.1 k) d e (nI b))) (nI d) (nI g) (nI e) := by
    intro t
    induction t with
    | zero =>
      intro e he hde
      refine h21 _ _ _ _ ?_
      unfold mT_moved_21
      have : e = g + 1 := by omega
      subst this
      refine ⟨fun _ => ?_, fun c => absurd (nI_lt (by omega) (by omega)) c⟩
      rw [pk_sub (by omega), nI_1]; exact h
    | succ t ih =>
      intro e he hde
      refine h21 _ _ _ _ ?_
      unfold mT_moved_21
      refine ⟨fun c => absurd c (nI_nlt (by omega) (by omega)), fun _ => ⟨vp_in_nI (by omega) (by omega), ?_⟩⟩
      rw [ma_get, ma_ma, nI_clamp (by omega), movF_s _ _ _ _ hde, ← nI_succ]
      exact ih (e + 1) (by omega) (by omega)
  have := key (g + 1 - d) d (by omega) (Nat.le_refl d)
  rw [movF_0, ma_id] at this
  exact this
end
section
-- what lies below n alone counts
theorem tpN_congr {σ τ : Nat → Nat} {p N : Nat} (h : ∀ j, j < N → σ j = τ j) : ∀ d j, j + d ≤ N → tpN σ p d j = tpN τ p d j := by
  intro d
  induction d with
  | zero => intro j _; rfl
  | succ d ih =>
    intro j hj
    unfold tpN
    rw [h j (by omega), ih (j + 1) (by omega)]
theorem topN_congr {σ τ : Nat → Nat} {p n : Nat} (h : ∀ j, j < n → σ j = τ j) : topN σ p n = topN τ p n := tpN_congr h n 0 (by omega)
theorem pkN_congr {kd σ τ : Nat → Nat} {n d0 : Nat} (h : ∀ j, j < n → σ j = τ j) (hd : d0 < n) : ∀ t g, pkN kd σ n d0 t g = pkN kd τ n d0 t g := by
  intro t
  induction t with
  | zero => intro g; rfl
  | succ t ih =>
    intro g
    unfold pkN
    rw [ih (g + 1)]
    by_cases c : g + 1 < n
    · rw [h (g + 1) c, h d0 hd]
    · rw [if_neg (fun q => c q.2.1), if_neg (fun q => c q.2.1)]
theorem pkE_congr {kd σ τ : Nat → Nat} {n d : Nat} (h : ∀ j, j < n → σ j = τ j) (hd : d < n) : pkE kd σ n d = pkE kd τ n d := pkN_congr h hd n d
theorem packN_congr {σ τ : Nat → Nat} {P : Nat} : ∀ d acc, (∀ j, j < d → σ j = τ j) → packN σ P d acc = packN τ P d acc := by
  intro d
  induction d with
  | zero => intro acc _; rfl
  | succ d ih =>
    intro acc h
    unfold packN
    rw [h d (by omega)]
    exact ih _ (fun j hj => h j (by omega))
theorem whyN_top {n : Nat} {kd ct sg σ : Nat → Nat} {a b : Nat} (h : whyN n kd ct sg σ a b = 0) : topN σ a n < n := by
  have hle := topN_le σ a n
  rcases Nat.lt_or_ge (topN σ a n) n with q | q
  · exact q
  · have e : topN σ a n = n := by omega
    unfold whyN at h
    by_cases c : ct (5 * a + b) = 0
    · rw [if_pos c] at h; omega
    · rw [if_neg c, if_pos e] at h; omega
/-- the first n of g, then those of f -/
def cpF (f g : Nat → Int32) (n : Nat) : Nat → Int32 := fun j => if j < n then g j else f j
theorem cpF_0 (f g : Nat → Int32) : cpF f g 0 = f := by funext j; simp [cpF]
theorem cpF_s (f g : Nat → Int32) (n : Nat) : upd (cpF f g n) n (g n) = cpF f g (n + 1) := by
  funext j
  unfold upd cpF
  by_cases c : j = n
  · subst c; rw [if_pos rfl, if_pos (by omega)]
  · rw [if_neg c]
    by_cases c2 : j < n
    · rw [if_pos c2, if_pos (by omega)]
    · rw [if_neg c2, if_neg (by omega)]
theorem MY.ma {S : MS} {n P : Nat} {kd ct sg : Nat → Nat} (h : MY S n P kd ct sg) {k : Nat} (f : Nat → Int32) (h1 : k ≠ 1) (h4 : k ≠ 4) (h5 : k ≠ 5) : MY (ma S k f) n P kd ct sg := by
  unfold MY
  rw [ma_get_ne S f (Ne.symm h1), ma_get_ne S f (Ne.symm h4), ma_get_ne S f (Ne.symm h5)]
  exact h
theorem s_leads (l : Launch) (S : MS) (a b : Nat) (post : Int32 → MS → Prop) {n P : Nat} {kd ct sg σ τ : Nat → Nat} (hy : MY S n P kd ct sg) (hσ : MA S 8 σ) (hτ : MA S 9 τ) (ha : a < 5) (hb : b < 5)
    (h0 : (a = b ∨ whyN n kd ct sg σ a b ≠ 0) → post (-1) S)
    (h1 : ¬ (a = b ∨ whyN n kd ct sg σ a b ≠ 0) → ∀ (g : Nat → Int32) (ρ : Nat → Nat), (∀ j, j < 7 → g j = nI (ρ j) ∧ ρ j < 5) → post (nI (packN (movN n kd σ a b) P n 0)) (ma S 9 g)) : mX_leads l S (nI a) (nI b) post := by
  have hy0 := hy
  obtain ⟨hP, hn, hP2, hn2, hkd, hct, hsg⟩ := hy
  refine m_leads l S (nI a) (nI b) post ?_
  intro B22 h22
  unfold mT_leads_e
  refine ⟨fun c => h0 (Or.inl ((nI_eq (by omega) (by omega)).mp c)), fun c => ?_⟩
  have hab : a ≠ b := fun q => c (by rw [q])
  refine s_whyOf l S 8 a b (by decide) _ hy0 hσ ha hb ?_
  have hwl : whyN n kd ct sg σ a b < 6 := by
    unfold whyN
    repeat' split
    all_goals omega
  refine ⟨fun c2 => ?_, fun c2 => h0 (Or.inr fun q => c2 (by rw [q]; decide))⟩
  have hw : whyN n kd ct sg σ a b = 0 := by
    rcases Nat.eq_zero_or_pos (whyN n kd ct sg σ a b) with q | q
    · exact q
    · exact absurd c2 (nI_nle q (by omega))
  have hd := whyN_top hw
  have key : ∀ d j, j + d = n → B22 (ma S 9 (cpF (S.2.1 9) (S.2.1 8) j)) (nI j) := by
    intro d
    induction d with
    | succ d ih =>
      intro j hj
      refine h22 _ _ ?_
      unfold mT_leads_22
      rw [show (ma S 9 (cpF (S.2.1 9) (S.2.1 8) j)).1 = S.1 from rfl, hn]
      refine ⟨fun c => absurd c (nI_ge (by omega) (by omega)), fun _ => ⟨vp_in_nI (by omega) (by omega), vp_in_nI (by omega) (by omega), ?_⟩⟩
      rw [ma_get, ma_get_ne S _ (by decide), ma_ma, nI_clamp (by omega), cpF_s, ← nI_succ]
      exact ih (j + 1) (by omega)
    | zero =>
      intro j hj
      have hjn : j = n := by omega
      subst hjn
      refine h22 _ _ ?_
      unfold mT_leads_22
      rw [show (ma S 9 (cpF (S.2.1 9) (S.2.1 8) j)).1 = S.1 from rfl, hn]
      refine ⟨fun _ => ?_, fun c => absurd (nI_le (Nat.le_refl j) (by omega)) c⟩
      generalize hN : ma S 9 (cpF (S.2.1 9) (S.2.1 8) j) = N
      have hyN : MY N j P kd ct sg := by rw [← hN]; exact hy0.ma _ (by decide) (by decide) (by decide)
      have hρ : MA N 9 (fun i => if i < j then σ i else τ i) := by
        intro i hi
        rw [← hN, ma_get]
        unfold cpF
        by_cases c : i < j
        · simp only [c, if_true]; exact hσ i hi
        · simp only [c, if_false]; exact hτ i hi
      generalize hρe : (fun i => if i < j then σ i else τ i) = ρ at hρ
      have hcg : ∀ i, i < j → ρ i = σ i := fun i hi => by rw [← hρe]; simp [hi]
      have ht : topN ρ a j = topN σ a j := topN_congr hcg
      have hpk : pkE kd ρ j (topN σ a j) = pkE kd σ j (topN σ a j) := pkE_congr hcg hd
      have hg := pkE_lt (kd := kd) (σ := σ) hd
      refine s_moved l N 9 a b (by decide) (by decide) _ hyN hρ ha (by rw [ht]; exact hd) ?_
      rw [ht, hpk]
      refine ⟨fun c => absurd c (nI_nle (by omega) (by omega)), fun _ => ?_⟩
      have hM : ∀ i, i < 7 → movF (N.2.1 9) (topN σ a j) (pkE kd σ j (topN σ a j) + 1) (nI b) i = nI (if topN σ a j ≤ i ∧ i ≤ pkE kd σ j (topN σ a j) then b else ρ i) ∧ (if topN σ a j ≤ i ∧ i ≤ pkE kd σ j (topN σ a j) then b else ρ i) < 5 := by
        intro i hi
        unfold movF
        by_cases c : topN σ a j ≤ i ∧ i ≤ pkE kd σ j (topN σ a j)
        · rw [if_pos (show topN σ a j ≤ i ∧ i < pkE kd σ j (topN σ a j) + 1 by omega), if_pos c]
          exact ⟨rfl, hb⟩
        · rw [if_neg (show ¬ (topN σ a j ≤ i ∧ i < pkE kd σ j (topN σ a j) + 1) by omega), if_neg c]
          exact hρ i hi
      refine s_pack l _ 9 (by decide) _ (n := j) (P := P) (σ := fun i => if topN σ a j ≤ i ∧ i ≤ pkE kd σ j (topN σ a j) then b else ρ i) hyN.2.1 hyN.1 (by omega) (fun i hi => by rw [ma_get]; exact (hM i (by omega)).1) ?_
      have e : packN (fun i => if topN σ a j ≤ i ∧ i ≤ pkE kd σ j (topN σ a j) then b else ρ i) P j 0 = packN (movN j kd σ a b) P j 0 := packN_congr j 0 (fun i hi => by unfold movN; rw [hcg i hi])
      rw [e, ← hN, ma_ma, hN]
      exact h1 (fun q => q.elim hab (fun q => q hw)) _ _ hM
  have := key n 0 (by omega)
  rw [cpF_0, ma_id] at this
  exact this
end
section
theorem MY.mf {S : MS} {n P : Nat} {kd ct sg : Nat → Nat} (h : MY S n P kd ct sg) {k : Nat} (v : Int32) (h0 : k ≠ 0) (h1 : k ≠ 1) : MY (mf S k v) n P kd ct sg := by
  unfold MY
  rw [mf_get_ne S v (Ne.symm h0), mf_get_ne S v (Ne.symm h1)]
  exact h
theorem bI_n0 {b : Bool} : ¬ bI b = 0 ↔ b = true := by cases b <;> decide
/-- a number between 0 and N - 1 -/
theorem in_iff {a : Int32} {N : Nat} (h1 : 1 ≤ N) (h2 : N < 2 ^ 31) : (0 ≤ a ∧ a ≤ nI N - 1) ↔ ∃ i, i < N ∧ a = nI i := by
  obtain ⟨M, rfl⟩ : ∃ M, N = M + 1 := ⟨N - 1, by omega⟩
  rw [nI_pred]
  constructor
  · rintro ⟨q1, q2⟩
    obtain ⟨j, hj, e⟩ := nI_of2 (n := M) (nI_toInt (by omega)) (Int32.not_lt.mpr q1) q2
    exact ⟨j, by omega, e⟩
  · rintro ⟨i, hi, rfl⟩
    exact ⟨nI_pos' (by omega), nI_le (by omega) (by omega)⟩
/-- isPeg, by cases -/
theorem s_isPegC (l : Launch) (S : MS) (a : Int32) (post : Bool → MS → Prop) {P : Nat} (hP : S.1 0 = nI P) (hP2 : 2 ≤ P ∧ P ≤ 5) (h0 : (¬ ∃ i, i < P ∧ a = nI i) → post false S) (h1 : ∀ i, i < P → a = nI i → post true S) : mX_isPeg l S a post := by
  refine s_isPeg l S a post ?_
  rw [hP]
  by_cases c : ∃ i, i < P ∧ a = nI i
  · rw [decide_eq_true ((in_iff (by omega) (by omega)).mpr c)]
    obtain ⟨i, hi, e⟩ := c
    exact h1 i hi e
  · rw [decide_eq_false (fun q => c ((in_iff (by omega) (by omega)).mp q))]
    exact h0 c
theorem s_fits (l : Launch) (S : MS) (post : Bool → MS → Prop) {n P : Nat} (hn : S.1 1 = nI n) (hP : S.1 0 = nI P) (h7 : n ≤ 7) (hP2 : 2 ≤ P ∧ P ≤ 5) (h : post (decide (P ^ n ≤ 20000)) S) : mX_fits l S post := by
  refine m_fits l S post ?_
  unfold mT_fits_e
  refine s_stands l S _ hn hP h7 ?_
  have hb : P ^ n ≤ 5 ^ 7 := Nat.le_trans (Nat.pow_le_pow_left hP2.2 n) (Nat.pow_le_pow_right (by omega) h7)
  have h57 : (5 : Nat) ^ 7 = 78125 := rfl
  rw [show (20000 : Int32) = nI 20000 from rfl]
  refine ⟨fun c => ?_, fun c => ?_⟩
  · have c : 20000 < P ^ n := (nI_ltI (by omega) (by omega)).mp c
    rw [decide_eq_false (by omega)] at h; exact h
  · have c : ¬ 20000 < P ^ n := fun q => c (nI_lt q (by omega))
    rw [decide_eq_true (by omega)] at h; exact h
theorem s_why (l : Launch) (S : MS) (a b : Int32) (post : Int32 → MS → Prop) {n P : Nat} {kd ct sg σ : Nat → Nat} (hy : MY S n P kd ct sg) (hσ : MA S 2 σ)
    (h0 : (¬ ((∃ i, i < P ∧ a = nI i) ∧ ∃ j, j < P ∧ b = nI j)) → post (-1) (mf S 3 0))
    (h1 : ∀ i j, i < P → j < P → a = nI i → b = nI j → post (nI (whyN n kd ct sg σ i j)) (mf S 3 0)) : mX_why l S a b post := by
  have hy3 := hy.mf (k := 3) 0 (by decide) (by decide)
  have hp := hy3.2.2.1
  refine m_why l S a b post ?_
  unfold mT_why_e
  refine s_isPegC l _ a _ hy3.1 hp (fun c => ⟨fun _ => h0 (fun q => c q.1), fun q => absurd rfl q⟩) (fun i hi ea => ⟨fun q => absurd q (by decide), fun _ => ?_⟩)
  refine s_isPegC l _ b _ hy3.1 hp (fun c => ⟨fun _ => h0 (fun q => c q.2), fun q => absurd rfl q⟩) (fun j hj eb => ⟨fun q => absurd q (by decide), fun _ => ?_⟩)
  rw [ea, eb]
  exact s_whyOf l _ 2 i j (by decide) _ hy3 hσ (by omega) (by omega) (h1 i j hi hj ea eb)
theorem s_cost (l : Launch) (S : MS) (a b : Int32) (post : Int32 → MS → Prop) {n P : Nat} {kd ct sg : Nat → Nat} (hy : MY S n P kd ct sg)
    (h0 : (¬ ((∃ i, i < P ∧ a = nI i) ∧ ∃ j, j < P ∧ b = nI j)) → post (-1) (mf S 3 0))
    (h1 : ∀ i j, i < P → j < P → a = nI i → b = nI j → post (nI (ct (5 * i + j))) (mf S 3 0)) : mX_cost l S a b post := by
  have hy3 := hy.mf (k := 3) 0 (by decide) (by decide)
  have hp := hy3.2.2.1
  refine m_cost l S a b post ?_
  unfold mT_cost_e
  refine s_isPegC l _ a _ hy3.1 hp (fun c => ⟨fun _ => h0 (fun q => c q.1), fun q => absurd rfl q⟩) (fun i hi ea => ⟨fun q => absurd q (by decide), fun _ => ?_⟩)
  refine s_isPegC l _ b _ hy3.1 hp (fun c => ⟨fun _ => h0 (fun q => c q.2), fun q => absurd rfl q⟩) (fun j hj eb => ⟨fun q => absurd q (by decide), fun _ => ?_⟩)
  rw [ea, eb, ix25 (by omega) (by omega), nI_clamp (by omega), (hy3.2.2.2.2.2.1 (5 * i + j) (by omega)).1]
  exact ⟨vp_in_nI (by omega) (by omega), h1 i j hi hj ea eb⟩
theorem s_peg (l : Launch) (S : MS) (a : Int32) (post : Int32 → MS → Prop) {n P : Nat} {kd ct sg σ : Nat → Nat} (hy : MY S n P kd ct sg) (hσ : MA S 2 σ)
    (h0 : (¬ ∃ i, i < n ∧ a = nI i) → post (-1) (mf S 3 0)) (h1 : ∀ i, i < n → a = nI i → post (nI (σ i)) (mf S 3 0)) : mX_peg l S a post := by
  have hn := hy.2.2.2.1
  refine m_peg l S a post ?_
  unfold mT_peg_e
  refine s_in l _ a _ _ _ ?_
  rw [hy.2.1]
  by_cases c : ∃ i, i < n ∧ a = nI i
  · rw [decide_eq_true ((in_iff (by omega) (by omega)).mpr c)]
    obtain ⟨i, hi, e⟩ := c
    refine ⟨fun q => absurd q (by decide), fun _ => ?_⟩
    rw [e, nI_clamp (by omega)]
    refine ⟨vp_in_nI (by omega) (by omega), ?_⟩
    show post (S.2.1 2 i) _
    rw [(hσ i (by omega)).1]
    exact h1 i hi e
  · rw [decide_eq_false (fun q => c ((in_iff (by omega) (by omega)).mp q))]
    exact ⟨fun _ => h0 c, fun q => absurd rfl q⟩
theorem s_number (l : Launch) (S : MS) (g : Bool) (post : Int32 → MS → Prop) {n P : Nat} {kd ct sg σ γ : Nat → Nat} (hy : MY S n P kd ct sg) (hσ : MA S 2 σ) (hγ : MA S 3 γ) (h : post (nI (packN (if g then γ else σ) P n 0)) (mf S 3 0)) : mX_number l S g post := by
  have hy3 := hy.mf (k := 3) 0 (by decide) (by decide)
  refine m_number l S g post ?_
  unfold mT_number_e
  refine ⟨fun c => ?_, fun c => ?_⟩
  · rw [bI_0] at c
    subst c
    exact s_pack l _ 2 (by decide) _ hy3.2.1 hy3.1 (by have := hy.2.2.2.1; omega) (fun j hj => (hσ j (by have := hy.2.2.2.1; omega)).1) h
  · rw [bI_n0] at c
    subst c
    exact s_pack l _ 3 (by decide) _ hy3.2.1 hy3.1 (by have := hy.2.2.2.1; omega) (fun j hj => (hγ j (by have := hy.2.2.2.1; omega)).1) h
end
section
-- chains: a list of nodes, each with the next (aft) and the one ahead (bef); -1 is none
def dl (aft bef : Nat → Int32) : Int32 → List Nat → Int32 → Prop
  | _, [], cur => cur = -1
  | prev, x :: xs, cur => cur = nI x ∧ bef x = prev ∧ dl aft bef (nI x) xs (aft x)
theorem dl_congr {aft aft' bef bef' : Nat → Int32} : ∀ (xs : List Nat) (prev cur : Int32), (∀ x, x ∈ xs → aft x = aft' x ∧ bef x = bef' x) → dl aft bef prev xs cur → dl aft' bef' prev xs cur := by
  intro xs
  induction xs with
  | nil => intro prev cur _ h; exact h
  | cons x xs ih =>
    intro prev cur hc h
    obtain ⟨h1, h2, h3⟩ := h
    have hx := hc x List.mem_cons_self
    refine ⟨h1, by rw [← hx.2]; exact h2, ?_⟩
    rw [← hx.1]
    exact ih _ _ (fun y hy => hc y (List.mem_cons_of_mem _ hy)) h3
/-- the node that a chain begins with gets another one ahead -/
def rePrev (bef : Nat → Int32) (cur p : Int32) : Nat → Int32 := if cur = -1 then bef else upd bef cur.toNatClampNeg p
theorem upd_same (f : Nat → Int32) (k : Nat) (x : Int32) : upd f k x k = x := by simp [upd]
theorem upd_other (f : Nat → Int32) {k j : Nat} (x : Int32) (h : j ≠ k) : upd f k x j = f j := by simp [upd, h]
theorem rePrev_ne {bef : Nat → Int32} {cur p : Int32} {x : Nat} (hx : x < 2 ^ 31) (h : cur ≠ nI x) (hc : cur = -1 ∨ ∃ y, y < 2 ^ 31 ∧ cur = nI y) : rePrev bef cur p x = bef x := by
  unfold rePrev
  split
  · rfl
  · next c =>
    rcases hc with q | ⟨y, hy, q⟩
    · exact absurd q c
    · subst q
      rw [nI_clamp hy]
      exact upd_other _ _ (fun e => h (by rw [e]))
theorem dl_cur {aft bef : Nat → Int32} {prev cur : Int32} {xs : List Nat} (h : dl aft bef prev xs cur) (hb : ∀ x, x ∈ xs → x < 2 ^ 31) : cur = -1 ∨ ∃ y, y < 2 ^ 31 ∧ cur = nI y := by
  cases xs with
  | nil => exact Or.inl h
  | cons x xs => exact Or.inr ⟨x, hb x List.mem_cons_self, h.1⟩
theorem dl_reprev {aft bef : Nat → Int32} {p q cur : Int32} {xs : List Nat} (h : dl aft bef p xs cur) (hb : ∀ x, x ∈ xs → x < 2 ^ 31) (hn : xs.Nodup) : dl aft (rePrev bef cur q) q xs cur := by
  cases xs with
  | nil => exact h
  | cons x xs =>
    obtain ⟨h1, h2, h3⟩ := h
    have hx := hb x List.mem_cons_self
    have hcu : ¬ cur = -1 := by rw [h1]; exact nI_m1 hx
    refine ⟨h1, ?_, ?_⟩
    · unfold rePrev
      rw [if_neg hcu, h1, nI_clamp hx]
      exact upd_same _ _ _
    · refine dl_congr xs _ _ (fun y hy => ⟨rfl, ?_⟩) h3
      unfold rePrev
      rw [if_neg hcu, h1, nI_clamp hx]
      have hyx : y ≠ x := fun e => (List.nodup_cons.mp hn).1 (by rw [← e]; exact hy)
      exact (upd_other _ _ hyx).symm
/-- link: a node comes ahead of a chain -/
theorem dl_push {aft bef : Nat → Int32} {cur : Int32} {xs : List Nat} {s : Nat} (h : dl aft bef (-1) xs cur) (hb : ∀ x, x ∈ xs → x < 2 ^ 31) (hs : s < 2 ^ 31) (hn : (s :: xs).Nodup) : dl (upd aft s cur) (rePrev (upd bef s (-1)) cur (nI s)) (-1) (s :: xs) (nI s) := by
  obtain ⟨hn1, hn2⟩ := List.nodup_cons.mp hn
  have hne : cur ≠ nI s := by
    cases xs with
    | nil => rw [show cur = -1 from h]; exact fun e => nI_m1 hs e.symm
    | cons x xs =>
      rw [h.1]
      intro e
      exact hn1 (((nI_eq (hb x List.mem_cons_self) hs).mp e) ▸ List.mem_cons_self)
  refine ⟨rfl, ?_, ?_⟩
  · rw [rePrev_ne hs hne (dl_cur h hb)]
    exact upd_same _ _ _
  · rw [upd_same]
    refine dl_reprev (p := -1) ?_ hb hn2
    refine dl_congr xs _ _ (fun y hy => ?_) h
    have hy2 : y ≠ s := fun e => hn1 (e ▸ hy)
    exact ⟨(upd_other _ _ hy2).symm, (upd_other _ _ hy2).symm⟩
/-- unlink: a node goes out of a chain; at its head -/
theorem dl_pop {aft bef : Nat → Int32} {prev cur : Int32} {xs : List Nat} {s : Nat} (h : dl aft bef prev (s :: xs) cur) (hb : ∀ x, x ∈ s :: xs → x < 2 ^ 31) (hn : (s :: xs).Nodup) : cur = nI s ∧ bef s = prev ∧ dl aft (rePrev bef (aft s) prev) prev xs (aft s) :=
  ⟨h.1, h.2.1, dl_reprev h.2.2 (fun x hx => hb x (List.mem_cons_of_mem _ hx)) (List.nodup_cons.mp hn).2⟩
/-- unlink, behind another node z -/
theorem dl_del {aft bef : Nat → Int32} {s : Nat} {ys : List Nat} : ∀ (xs : List Nat) (z : Nat) (prev cur : Int32), dl aft bef prev (xs ++ z :: s :: ys) cur → (∀ x, x ∈ xs ++ z :: s :: ys → x < 2 ^ 31) → (xs ++ z :: s :: ys).Nodup → bef s = nI z ∧ dl (upd aft z (aft s)) (rePrev bef (aft s) (nI z)) prev (xs ++ z :: ys) cur := by
  intro xs
  induction xs with
  | nil =>
    intro z prev cur h hb hn
    obtain ⟨h1, h2, h3, h4, h5⟩ := h
    obtain ⟨hn1, hn2⟩ := List.nodup_cons.mp hn
    obtain ⟨hn3, hn4⟩ := List.nodup_cons.mp hn2
    have hbz : z < 2 ^ 31 := hb z (by simp)
    have hbs : s < 2 ^ 31 := hb s (by simp)
    have hby : ∀ x, x ∈ ys → x < 2 ^ 31 := fun x hx => hb x (by simp [hx])
    have hcz : aft s ≠ nI z := by
      cases ys with
      | nil => rw [show aft s = -1 from h5]; exact fun e => nI_m1 hbz e.symm
      | cons y ys =>
        rw [h5.1]
        intro e
        have e := (nI_eq (hby y List.mem_cons_self) hbz).mp e
        exact hn1 (by subst e; simp)
    refine ⟨h4, h1, ?_, ?_⟩
    · rw [rePrev_ne hbz hcz (dl_cur h5 hby)]; exact h2
    · rw [upd_same]
      have h6 := dl_reprev (q := nI z) h5 hby hn4
      refine dl_congr ys _ _ (fun y hy => ⟨?_, rfl⟩) h6
      exact (upd_other _ _ (fun e => hn1 (by subst e; simp [hy]))).symm
  | cons x xs ih =>
    intro z prev cur h hb hn
    obtain ⟨h1, h2, h3⟩ := h
    obtain ⟨hn1, hn2⟩ := List.nodup_cons.mp hn
    have hb2 : ∀ w, w ∈ xs ++ z :: s :: ys → w < 2 ^ 31 := fun w hw => hb w (List.mem_cons_of_mem _ hw)
    obtain ⟨i1, i2⟩ := ih z _ _ h3 hb2 hn2
    have hxz : x ≠ z := fun e => hn1 (by subst e; simp)
    refine ⟨i1, h1, ?_, ?_⟩
    · -- the node behind s isn't x
      have hx := hb x List.mem_cons_self
      have hs := hb2 s (by simp)
      have hcs : aft s = -1 ∨ ∃ y, y ∈ ys ∧ aft s = nI y := by
        have : ∀ (ws : List Nat) (p c : Int32), dl aft bef p (ws ++ z :: s :: ys) c → aft s = -1 ∨ ∃ y, y ∈ ys ∧ aft s = nI y := by
          intro ws
          induction ws with
          | nil =>
            intro p c hd
            obtain ⟨-, -, -, -, hd⟩ := hd
            cases ys with
            | nil => exact Or.inl hd
            | cons y ys => exact Or.inr ⟨y, List.mem_cons_self, hd.1⟩
          | cons w ws ih2 => intro p c hd; exact ih2 _ _ hd.2.2
        exact this xs _ _ h3
      rcases hcs with q | ⟨y, hy, q⟩
      · unfold rePrev; rw [if_pos q]; exact h2
      · rw [rePrev_ne hx (by rw [q]; intro e; have e := (nI_eq (hb2 y (by simp [hy])) hx).mp e; exact hn1 (by subst e; simp [hy])) (Or.inr ⟨y, hb2 y (by simp [hy]), q⟩)]
        exact h2
    · rw [upd_other _ _ hxz]; exact i2
end
section
theorem ma_swap (S : MS) {j k : Nat} (f g : Nat → Int32) (h : j ≠ k) : ma (ma S j f) k g = ma (ma S k g) j f := by
  show (S.1, va_up (va_up S.2.1 j f) k g, S.2.2) = (S.1, va_up (va_up S.2.1 k g) j f, S.2.2)
  rw [va_up_swap _ _ _ (Ne.symm h)]
/-- the state behind link(s, d) -/
def lkS (S : MS) (s : Nat) (d : Int32) (b : Nat) : MS := ma (ma (ma (ma S 10 (upd (S.2.1 10) s d)) 12 (rePrev (upd (S.2.1 12) s (-1)) (S.2.1 13 b) (nI s))) 11 (upd (S.2.1 11) s (S.2.1 13 b))) 13 (upd (S.2.1 13) b (nI s))
theorem s_link (l : Launch) (S : MS) (s m : Nat) (post : MS → Prop) (hs : s < 20000) (hm : m < 2 ^ 31) (hc : S.2.1 13 (m % 101) = -1 ∨ ∃ y, y < 20000 ∧ S.2.1 13 (m % 101) = nI y) (h : post (lkS S s (nI m) (m % 101))) : mX_link l S (nI s) (nI m) post := by
  refine m_link l S (nI s) (nI m) post ?_
  unfold mT_link_e
  have hb : m % 101 < 101 := Nat.mod_lt _ (by omega)
  refine ⟨vp_in_nI hs (by omega), fun v hv => ?_⟩
  rw [show (101 : Int32) = nI 101 from rfl, pk_rem hm (by omega) (by omega)] at hv
  rw [hv, nI_clamp (by omega), nI_clamp (by omega)]
  have i1 : vp_in (nI s) 20000 := vp_in_nI hs (by omega)
  have i2 : vp_in (nI (m % 101)) 101 := vp_in_nI hb (by omega)
  refine ⟨i1, i2, i1, i2, fun c => ⟨i2, ?_⟩, fun c => ⟨i2, ?_, i2, ?_⟩⟩
  · unfold lkS rePrev at h
    rw [if_pos c] at h
    exact h
  · rcases hc with q | ⟨y, hy, q⟩
    · exact absurd q c
    · rw [q]; exact vp_in_nI hy (by omega)
  · unfold lkS rePrev at h
    rw [if_neg c] at h
    rw [ma_swap _ _ _ (show (11 : Nat) ≠ 12 by decide), ma_ma]
    exact h
/-- the state behind unlink(s) -/
def ulS (S : MS) (s b : Nat) : MS := ma (if S.2.1 12 s = -1 then ma S 13 (upd (S.2.1 13) b (S.2.1 11 s)) else ma S 11 (upd (S.2.1 11) (S.2.1 12 s).toNatClampNeg (S.2.1 11 s))) 12 (rePrev (S.2.1 12) (S.2.1 11 s) (S.2.1 12 s))
theorem s_unlink (l : Launch) (S : MS) (s m : Nat) (post : MS → Prop) (hs : s < 20000) (hm : m < 2 ^ 31) (hf : S.2.1 10 s = nI m) (ha : S.2.1 11 s = -1 ∨ ∃ y, y < 20000 ∧ S.2.1 11 s = nI y) (hbf : S.2.1 12 s = -1 ∨ ∃ y, y < 20000 ∧ y ≠ s ∧ S.2.1 12 s = nI y) (h : post (ulS S s (m % 101))) : mX_unlink l S (nI s) post := by
  refine m_unlink l S (nI s) post ?_
  intro B52 h52
  unfold mT_unlink_e
  have hb : m % 101 < 101 := Nat.mod_lt _ (by omega)
  have i1 : vp_in (nI s) 20000 := vp_in_nI hs (by omega)
  have i2 : vp_in (nI (m % 101)) 101 := vp_in_nI hb (by omega)
  rw [nI_clamp (by omega), hf]
  refine ⟨i1, fun v hv => ?_⟩
  rw [show (101 : Int32) = nI 101 from rfl, pk_rem hm (by omega) (by omega)] at hv
  rw [hv, nI_clamp (by omega)]
  -- what comes behind, from a state that keeps rows 11 (at s) and 12
  have fin : ∀ N : MS, N.2.1 11 s = S.2.1 11 s → N.2.1 12 = S.2.1 12 → post (ma N 12 (rePrev (S.2.1 12) (S.2.1 11 s) (S.2.1 12 s))) → B52 N := by
    intro N e1 e2 hp
    refine h52 _ ?_
    unfold mT_unlink_52
    rw [nI_clamp (by omega), e1, e2]
    refine ⟨i1, fun c => ?_, fun c => ⟨i1, i1, ?_, ?_⟩⟩
    · unfold rePrev at hp
      rw [if_pos c, ← e2, ma_id] at hp
      exact hp
    · rcases ha with q | ⟨y, hy, q⟩
      · exact absurd q c
      · rw [q]; exact vp_in_nI hy (by omega)
    · unfold rePrev at hp
      rw [if_neg c] at hp
      exact hp
  refine ⟨i1, fun c => ⟨i1, i1, ?_, ?_⟩, fun c => ⟨i1, i2, ?_⟩⟩
  · rcases hbf with q | ⟨y, hy, -, q⟩
    · exact absurd q c
    · rw [q]; exact vp_in_nI hy (by omega)
  · refine fin _ ?_ (ma_get_ne _ _ (by decide)) ?_
    · rw [ma_get]
      rcases hbf with q | ⟨y, hy, hys, q⟩
      · exact absurd q c
      · rw [q, nI_clamp (by omega)]
        exact upd_other _ _ (Ne.symm hys)
    · unfold ulS at h
      rw [if_neg c] at h
      exact h
  · refine fin _ (by rw [ma_get_ne _ _ (by decide)]) (ma_get_ne _ _ (by decide)) ?_
    unfold ulS at h
    rw [if_pos c] at h
    exact h
end
section
/-- 101 chains, apart from each other, of numbers below N -/
def BK (N : Nat) (hd aft bef : Nat → Int32) (L : Nat → List Nat) : Prop :=
  (∀ b, b < 101 → dl aft bef (-1) (L b) (hd b)) ∧ (∀ b, b < 101 → (L b).Nodup) ∧ (∀ b c x, b < 101 → c < 101 → x ∈ L b → x ∈ L c → b = c) ∧ (∀ b x, b < 101 → x ∈ L b → x < N)
theorem BK.head {N : Nat} {hd aft bef : Nat → Int32} {L : Nat → List Nat} (h : BK N hd aft bef L) {b : Nat} (hb : b < 101) : (hd b = -1 ∧ L b = []) ∨ ∃ y ys, L b = y :: ys ∧ hd b = nI y ∧ y < N := by
  have h1 := h.1 b hb
  cases hL : L b with
  | nil => rw [hL] at h1; exact Or.inl ⟨h1, rfl⟩
  | cons y ys => rw [hL] at h1; exact Or.inr ⟨y, ys, rfl, h1.1, h.2.2.2 b y hb (by rw [hL]; exact List.mem_cons_self)⟩
theorem BK.link {N : Nat} {hd aft bef : Nat → Int32} {L : Nat → List Nat} (h : BK N hd aft bef L) (hN : N < 2 ^ 31) {b s : Nat} (hb : b < 101) (hs : s < N) (hn : ∀ c, c < 101 → s ∉ L c) : BK N (upd hd b (nI s)) (upd aft s (hd b)) (rePrev (upd bef s (-1)) (hd b) (nI s)) (va_up L b (s :: L b)) := by
  obtain ⟨h1, h2, h3, h4⟩ := h
  have hnd : (s :: L b).Nodup := List.nodup_cons.mpr ⟨hn b hb, h2 b hb⟩
  have hcur : hd b = -1 ∨ ∃ y, y < 2 ^ 31 ∧ hd b = nI y := dl_cur (h1 b hb) (fun x hx => by have := h4 b x hb hx; omega)
  refine ⟨fun c hc => ?_, fun c hc => ?_, fun c d x hc hd' hx hy => ?_, fun c x hc hx => ?_⟩
  · by_cases e : c = b
    · subst e
      rw [va_up_same, upd_same]
      exact dl_push (h1 c hb) (fun x hx => by have := h4 c x hb hx; omega) (by omega) hnd
    · rw [va_up_other _ _ e, upd_other _ _ e]
      refine dl_congr (L c) _ _ (fun x hx => ?_) (h1 c hc)
      have hxN := h4 c x hc hx
      have hxs : x ≠ s := fun q => hn c hc (by rw [← q]; exact hx)
      refine ⟨(upd_other _ _ hxs).symm, ?_⟩
      have hne : hd b ≠ nI x := by
        intro q
        have h5 := h1 b hb
        cases hL : L b with
        | nil => rw [hL] at h5; rw [show hd b = -1 from h5] at q; exact nI_m1 (by omega) q.symm
        | cons y ys =>
          rw [hL] at h5
          have hy : y ∈ L b := by rw [hL]; exact List.mem_cons_self
          have hyN := h4 b y hb hy
          have e2 : y = x := (nI_eq (by omega) (by omega)).mp (h5.1.symm.trans q)
          exact e (h3 c b x hc hb hx (by rw [← e2]; exact hy))
      rw [rePrev_ne (by omega) hne hcur, upd_other _ _ hxs]
  · by_cases e : c = b
    · subst e; rw [va_up_same]; exact hnd
    · rw [va_up_other _ _ e]; exact h2 c hc
  · by_cases e : c = b
    · by_cases e2 : d = b
      · rw [e, e2]
      · subst e
        rw [va_up_same] at hx
        rw [va_up_other _ _ e2] at hy
        rcases List.mem_cons.mp hx with q | q
        · exact absurd (by rw [← q]; exact hy) (hn d hd')
        · exact h3 c d x hc hd' q hy
    · rw [va_up_other _ _ e] at hx
      by_cases e2 : d = b
      · subst e2
        rw [va_up_same] at hy
        rcases List.mem_cons.mp hy with q | q
        · exact absurd (by rw [← q]; exact hx) (hn c hc)
        · exact h3 c d x hc hd' hx q
      · rw [va_up_other _ _ e2] at hy
        exact h3 c d x hc hd' hx hy
  · by_cases e : c = b
    · subst e
      rw [va_up_same] at hx
      rcases List.mem_cons.mp hx with q | q
      · rw [q]; exact hs
      · exact h4 c x hc q
    · rw [va_up_other _ _ e] at hx
      exact h4 c x hc hx
/-- a chain that another one's change leaves as it is -/
theorem BK.keep {N : Nat} {hd aft bef : Nat → Int32} {L : Nat → List Nat} (h : BK N hd aft bef L) (hN : N < 2 ^ 31) {b c s : Nat} (hb : b < 101) (hc : c < 101) (e : c ≠ b) (hs : s ∈ L b) (p : Int32) (x : Nat) (hx : x ∈ L c) : rePrev bef (aft s) p x = bef x := by
  obtain ⟨h1, h2, h3, h4⟩ := h
  have hxN := h4 c x hc hx
  have key : ∀ (xs : List Nat) (pr cu : Int32), dl aft bef pr xs cu → s ∈ xs → aft s = -1 ∨ ∃ y, y ∈ xs ∧ aft s = nI y := by
    intro xs
    induction xs with
    | nil => intro pr cu _ hm; cases hm
    | cons w ws ih =>
      intro pr cu hd' hm
      rcases List.mem_cons.mp hm with q | q
      · subst q
        have h5 := hd'.2.2
        cases ws with
        | nil => exact Or.inl h5
        | cons y ys => exact Or.inr ⟨y, by simp, h5.1⟩
      · rcases ih _ _ hd'.2.2 q with r | ⟨y, hy, r⟩
        · exact Or.inl r
        · exact Or.inr ⟨y, List.mem_cons_of_mem _ hy, r⟩
  rcases key _ _ _ (h1 b hb) hs with q | ⟨y, hy, q⟩
  · unfold rePrev; rw [if_pos q]
  · have hyN := h4 b y hb hy
    refine rePrev_ne (by omega) ?_ (Or.inr ⟨y, by omega, q⟩)
    rw [q]
    intro r
    have r := (nI_eq (by omega) (by omega)).mp r
    exact e (h3 c b x hc hb hx (by rw [← r]; exact hy))
/-- unlink: s goes out of chain b; at its head, or behind z -/
theorem BK.unlink {N : Nat} {hd aft bef : Nat → Int32} {L : Nat → List Nat} (h : BK N hd aft bef L) (hN : N < 2 ^ 31) {b s : Nat} (hb : b < 101) (hs : s ∈ L b) :
    (bef s = -1 ∧ hd b = nI s ∧ BK N (upd hd b (aft s)) aft (rePrev bef (aft s) (bef s)) (va_up L b ((L b).erase s))) ∨
    (∃ z, z ∈ L b ∧ z ≠ s ∧ bef s = nI z ∧ BK N hd (upd aft z (aft s)) (rePrev bef (aft s) (bef s)) (va_up L b ((L b).erase s))) := by
  have hk := fun (c : Nat) (hc : c < 101) (e : c ≠ b) (p : Int32) (x : Nat) (hx : x ∈ L c) => h.keep hN hb hc e hs p x hx
  obtain ⟨h1, h2, h3, h4⟩ := h
  have hb4 : ∀ x, x ∈ L b → x < 2 ^ 31 := fun x hx => by have := h4 b x hb hx; omega
  have er : ∀ x, x ∈ (L b).erase s → x ∈ L b := fun x hx => List.mem_of_mem_erase hx
  have e2 : ∀ c, c < 101 → (va_up L b ((L b).erase s) c).Nodup := fun c hc => by
    by_cases e : c = b
    · subst e; rw [va_up_same]; exact (h2 c hc).erase s
    · rw [va_up_other _ _ e]; exact h2 c hc
  have sub : ∀ c x, c < 101 → x ∈ va_up L b ((L b).erase s) c → x ∈ L c := fun c x hc hx => by
    by_cases e : c = b
    · subst e; rw [va_up_same] at hx; exact er x hx
    · rw [va_up_other _ _ e] at hx; exact hx
  have e3 : ∀ c d x, c < 101 → d < 101 → x ∈ va_up L b ((L b).erase s) c → x ∈ va_up L b ((L b).erase s) d → c = d := fun c d x hc hd' hx hy => h3 c d x hc hd' (sub c x hc hx) (sub d x hd' hy)
  have e4 : ∀ c x, c < 101 → x ∈ va_up L b ((L b).erase s) c → x < N := fun c x hc hx => h4 c x hc (sub c x hc hx)
  obtain ⟨us, vs, hL⟩ := List.append_of_mem hs
  have hd1 := h1 b hb
  have hn := h2 b hb
  rcases List.eq_nil_or_concat us with hu | ⟨ws, z, hu⟩
  · subst hu
    left
    rw [List.nil_append] at hL
    rw [hL] at hd1 hn hb4
    obtain ⟨q1, q2, q3⟩ := dl_pop hd1 hb4 hn
    refine ⟨q2, q1, fun c hc => ?_, e2, e3, e4⟩
    by_cases e : c = b
    · subst e
      rw [va_up_same, upd_same, hL, List.erase_cons_head, q2]
      exact q3
    · rw [va_up_other _ _ e, upd_other _ _ e]
      exact dl_congr (L c) _ _ (fun x hx => ⟨rfl, (hk c hc e _ x hx).symm⟩) (h1 c hc)
  · right
    subst hu
    rw [List.concat_eq_append, List.append_assoc] at hL
    have hL : L b = ws ++ z :: s :: vs := hL
    have hz : z ∈ L b := by rw [hL]; simp
    rw [hL] at hd1 hn hb4
    obtain ⟨q1, q2⟩ := dl_del ws z _ _ hd1 hb4 hn
    have hzs : z ≠ s := by
      intro q
      have := (List.nodup_append.mp hn).2.1
      exact (List.nodup_cons.mp this).1 (by rw [q]; exact List.mem_cons_self)
    have hsw : s ∉ ws := fun q => by
      have := (List.nodup_append.mp hn).2.2 s q s (by simp)
      exact this rfl
    refine ⟨z, hz, hzs, q1, fun c hc => ?_, e2, e3, e4⟩
    by_cases e : c = b
    · subst e
      rw [va_up_same, hL, List.erase_append_right _ hsw, List.erase_cons_tail (by simpa using hzs), List.erase_cons_head, q1]
      exact q2
    · rw [va_up_other _ _ e]
      refine dl_congr (L c) _ _ (fun x hx => ⟨?_, (hk c hc e _ x hx).symm⟩) (h1 c hc)
      exact (upd_other _ _ (fun q => e (h3 c b x hc hb hx (by rw [q]; exact hz)))).symm
end
