-- numbers
theorem nI_is {a : Nat} {x : Int32} (k : Nat) (hx : x = nI k) (ha : a < 2 ^ 31) (hk : k < 2 ^ 31) : nI a = x ↔ a = k := by rw [hx]; exact nI_eq ha hk
theorem nI_m1 {a : Nat} (ha : a < 2 ^ 31) : ¬ nI a = -1 := fun h => by
  have h1 := nI_toInt ha
  rw [h] at h1
  have h2 : (-1 : Int32).toInt = -1 := by decide
  omega
theorem i_sub1 (x : Int32) : x + (-1) = x - 1 := (Int32.sub_eq_add_neg ..).symm
theorem nI_neg1 : ¬ (0 : Int32) ≤ -1 := by decide
theorem upd_ext {f g : Nat → Int32} (h : ∀ j, f j = g j) : f = g := funext h
-- a stand as the peg of each disc: its number, its first disc on a peg, the end of a pack
def packN (σ : Nat → Nat) (P : Nat) : Nat → Nat → Nat
  | 0, acc => acc
  | d + 1, acc => packN σ P d (acc * P + σ d)
def tpN (σ : Nat → Nat) (p : Nat) : Nat → Nat → Nat
  | 0, j => j
  | d + 1, j => if σ j = p then j else tpN σ p d (j + 1)
def pkN (kd σ : Nat → Nat) (n d0 : Nat) : Nat → Nat → Nat
  | 0, g => g
  | t + 1, g => if kd g = 3 ∧ g + 1 < n ∧ kd (g + 1) = 3 ∧ σ (g + 1) = σ d0 then pkN kd σ n d0 t (g + 1) else g
/-- the model's yard: pegs, discs, kinds, costs, strong lanes -/
def MY (S : MS) (n P : Nat) (kd ct sg : Nat → Nat) : Prop := S.1 0 = nI P ∧ S.1 1 = nI n ∧ (2 ≤ P ∧ P ≤ 5) ∧ (1 ≤ n ∧ n ≤ 7) ∧ (∀ j, j < 7 → S.2.1 1 j = nI (kd j) ∧ kd j ≤ 3) ∧ (∀ j, j < 25 → S.2.1 4 j = nI (ct j) ∧ ct j ≤ 100) ∧ (∀ j, j < 25 → S.2.1 5 j = nI (sg j) ∧ sg j ≤ 1)
/-- array k holds the stand σ -/
def MA (S : MS) (k : Nat) (σ : Nat → Nat) : Prop := ∀ j, j < 7 → S.2.1 k j = nI (σ j) ∧ σ j < 5
theorem tpN_le (σ : Nat → Nat) (p : Nat) : ∀ d j, j ≤ tpN σ p d j ∧ tpN σ p d j ≤ j + d := by
  intro d
  induction d with
  | zero => intro j; simp [tpN]
  | succ d ih =>
    intro j
    unfold tpN
    split
    · omega
    · have := ih (j + 1); omega
theorem tpN_hit (σ : Nat → Nat) (p : Nat) : ∀ d j, tpN σ p d j < j + d → σ (tpN σ p d j) = p := by
  intro d
  induction d with
  | zero => intro j h; simp [tpN] at h
  | succ d ih =>
    intro j h
    unfold tpN at h ⊢
    split at h
    · next c => simp [c]
    · next c =>
      simp only [c, if_false]
      exact ih (j + 1) (by omega)
theorem pkN_le (kd σ : Nat → Nat) (n d0 : Nat) : ∀ t g, g ≤ pkN kd σ n d0 t g ∧ (g < n → pkN kd σ n d0 t g < n) := by
  intro t
  induction t with
  | zero => intro g; simp [pkN]
  | succ t ih =>
    intro g
    unfold pkN
    split
    · next c => have := ih (g + 1); exact ⟨by omega, fun _ => this.2 c.2.1⟩
    · exact ⟨Nat.le_refl g, id⟩
theorem s_stands (l : Launch) (S : MS) (post : Int32 → MS → Prop) {n P : Nat} (hn : S.1 1 = nI n) (hP : S.1 0 = nI P) (h7 : n ≤ 7) (h : post (nI (P ^ n)) S) : mX_stands l S post := by
  refine m_stands l S post ?_
  intro B4 h4
  unfold mT_stands_e
  have key : ∀ d j, j + d = n → B4 S (nI (P ^ j)) (nI j) := by
    intro d
    induction d with
    | zero =>
      intro j hj
      refine h4 _ _ _ ?_
      unfold mT_stands_4
      rw [hn]
      have : j = n := by omega
      subst this
      exact ⟨fun _ => h, fun c => absurd (nI_le (Nat.le_refl j) (by omega)) c⟩
    | succ d ih =>
      intro j hj
      refine h4 _ _ _ ?_
      unfold mT_stands_4
      rw [hn, hP]
      refine ⟨fun c => absurd c (nI_ge (by omega) (by omega)), fun _ v hv => ?_⟩
      rw [hv, pk_mul, ← nI_succ, ← Nat.pow_succ]
      exact ih (j + 1) (by omega)
  exact key n 0 (by omega)
theorem s_pack (l : Launch) (S : MS) (k : Nat) (hk : m7 k) (post : Int32 → MS → Prop) {n P : Nat} {σ : Nat → Nat} (hn : S.1 1 = nI n) (hP : S.1 0 = nI P) (h7 : n ≤ 7) (hσ : ∀ j, j < n → S.2.1 k j = nI (σ j)) (h : post (nI (packN σ P n 0)) S) : mX_pack l S k post := by
  refine m_pack l S k hk post ?_
  intro B9 h9
  unfold mT_pack_e
  have key : ∀ d acc, d ≤ n → packN σ P n 0 = packN σ P d acc → B9 S (nI acc) (nI d - 1) := by
    intro d
    induction d with
    | zero =>
      intro acc hd he
      refine h9 _ _ _ ?_
      unfold mT_pack_9
      refine ⟨fun _ => ?_, fun c => absurd (by decide) c⟩
      rw [he] at h; exact h
    | succ d ih =>
      intro acc hd he
      refine h9 _ _ _ ?_
      unfold mT_pack_9
      rw [nI_pred]
      refine ⟨fun c => absurd c (nI_pos (by omega)), fun _ => ⟨vp_in_nI (by omega) (by omega), fun v hv => ?_⟩⟩
      rw [nI_clamp (by omega), hP, hσ d (by omega), pk_mul, nI_add] at hv
      rw [hv, i_sub1]
      exact ih _ (by omega) (by rw [he]; rfl)
  intro v hv
  rw [hv, hn]
  exact key n 0 (Nat.le_refl n) rfl
/-- what unpack leaves in an array -/
def unpF (f : Nat → Int32) (P m n : Nat) : Nat → Int32 := fun j => if j < n then nI (m / P ^ j % P) else f j
theorem unpF_0 (f : Nat → Int32) (P m : Nat) : unpF f P m 0 = f := by funext j; simp [unpF]
theorem unpF_s (f : Nat → Int32) (P m n : Nat) : upd (unpF f P m n) n (nI (m / P ^ n % P)) = unpF f P m (n + 1) := by
  funext j
  unfold upd unpF
  by_cases h : j = n
  · subst h; simp
  · by_cases h2 : j < n
    · simp [h, h2, show j < n + 1 by omega]
    · simp [h, h2, show ¬ j < n + 1 by omega]
theorem s_unpack (l : Launch) (S : MS) (m k : Nat) (hk : m7 k) (post : MS → Prop) {n P : Nat} (hn : S.1 1 = nI n) (hP : S.1 0 = nI P) (hP0 : 2 ≤ P ∧ P ≤ 5) (h7 : n ≤ 7) (hm : m < 2 ^ 31) (h : post (ma S k (unpF (S.2.1 k) P m n))) : mX_unpack l S (nI m) k post := by
  refine m_unpack l S (nI m) k hk post ?_
  intro B5 h5
  unfold mT_unpack_e
  have hk0 : ∀ f : Nat → Int32, (ma S k f).1 = S.1 := fun _ => rfl
  have key : ∀ d j, j + d = n → B5 (ma S k (unpF (S.2.1 k) P m j)) (nI (m / P ^ j)) (nI j) := by
    intro d
    induction d with
    | zero =>
      intro j hj
      refine h5 _ _ _ ?_
      unfold mT_unpack_5
      rw [hk0, hn]
      have : j = n := by omega
      subst this
      exact ⟨fun _ => h, fun c => absurd (nI_le (Nat.le_refl j) (by omega)) c⟩
    | succ d ih =>
      intro j hj
      refine h5 _ _ _ ?_
      unfold mT_unpack_5
      rw [hk0, hn, hP]
      have hz : ¬ nI P = 0 := nI_ne0 (by omega) (by omega)
      have hb : m / P ^ j < 2 ^ 31 := Nat.lt_of_le_of_lt (Nat.div_le_self _ _) hm
      refine ⟨fun c => absurd c (nI_ge (by omega) (by omega)), fun _ => ⟨hz, vp_in_nI (by omega) (by omega), hz, fun v hv => ?_⟩⟩
      rw [hv, ma_get, ma_ma, nI_clamp (by omega), pk_rem hb (by omega) (by omega), unpF_s, pk_div hb (by omega) (by omega), Nat.div_div_eq_div_mul, ← Nat.pow_succ, ← nI_succ]
      exact ih (j + 1) (by omega)
  have := key n 0 (by omega)
  rw [unpF_0, ma_id, Nat.pow_zero, Nat.div_one] at this
  exact this
