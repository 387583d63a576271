-- rearrangements
def NM (f : Nat → Int32) (K : Nat) (ν : Nat → Nat) : Prop := (∀ k, k < K → f k = nI (ν k) ∧ ν k < K) ∧ ∀ i j, i < K → j < K → ν i = ν j → i = j
theorem NM.congr {f g : Nat → Int32} {K : Nat} {ν : Nat → Nat} (h : NM f K ν) (e : ∀ k, k < K → f k = g k) : NM g K ν := ⟨fun k hk => by rw [← e k hk]; exact h.1 k hk, h.2⟩
theorem inj_surj {K : Nat} {ν : Nat → Nat} (h1 : ∀ k, k < K → ν k < K) (h2 : ∀ i j, i < K → j < K → ν i = ν j → i = j) {v : Nat} (hv : v < K) : ∃ i, i < K ∧ ν i = v := by
  have hm : v ∈ (List.range K).map ν := by
    refine full_mem (N := K) ?_ (fun x hx => ?_) (by rw [List.length_map, List.length_range]; exact Nat.le_refl _) hv
    · rw [List.nodup_iff_pairwise_ne, List.pairwise_map]
      refine List.Pairwise.imp_of_mem (fun {a b} ha hb hab e => hab (h2 a b (List.mem_range.mp ha) (List.mem_range.mp hb) e)) (List.nodup_iff_pairwise_ne.mp List.nodup_range)
    · obtain ⟨i, hi, e⟩ := List.mem_map.mp hx
      rw [← e]; exact h1 i (List.mem_range.mp hi)
  obtain ⟨i, hi, e⟩ := List.mem_map.mp hm
  exact ⟨i, List.mem_range.mp hi, e⟩
theorem surj_inj {K : Nat} {ν : Nat → Nat} (h : ∀ v, v < K → ∃ i, i < K ∧ ν i = v) : ∀ i j, i < K → j < K → ν i = ν j → i = j := by
  have hc : ∃ μ : Nat → Nat, ∀ v, v < K → μ v < K ∧ ν (μ v) = v := by
    refine ⟨fun v => if hv : v < K then (h v hv).choose else 0, fun v hv => ?_⟩
    simp only [dif_pos hv]
    exact (h v hv).choose_spec
  obtain ⟨μ, hμ⟩ := hc
  have key : ∀ i, i < K → ∃ v, v < K ∧ μ v = i := fun i hi => inj_surj (fun k hk => (hμ k hk).1) (fun a b ha hb e => by rw [← (hμ a ha).2, ← (hμ b hb).2, e]) hi
  intro i j hi hj e
  obtain ⟨v, hv, ev⟩ := key i hi
  obtain ⟨w, hw, ew⟩ := key j hj
  rw [← ev, ← ew, (hμ v hv).2, (hμ w hw).2] at e
  rw [← ev, ← ew, e]
def mskN (ν : Nat → Nat) : Nat → Nat
  | 0 => 0
  | k + 1 => mskN ν k ||| 1 <<< ν k
theorem msk_bit (ν : Nat → Nat) (v : Nat) : ∀ k, (mskN ν k).testBit v = true ↔ ∃ i, i < k ∧ ν i = v := by
  intro k
  induction k with
  | zero => exact ⟨fun h => (by unfold mskN at h; rw [Nat.zero_testBit] at h; cases h), fun ⟨i, hi, _⟩ => absurd hi (Nat.not_lt_zero _)⟩
  | succ k ih =>
    unfold mskN
    rw [Nat.testBit_or, Bool.or_eq_true, ih, Nat.one_shiftLeft, Nat.testBit_two_pow, decide_eq_true_eq]
    constructor
    · rintro (⟨i, hi, e⟩ | e)
      · exact ⟨i, by omega, e⟩
      · exact ⟨k, by omega, e⟩
    · rintro ⟨i, hi, e⟩
      by_cases q : i = k
      · subst q; exact Or.inr e
      · exact Or.inl ⟨i, by omega, e⟩
theorem msk_lt {ν : Nat → Nat} {K : Nat} : ∀ k, (∀ i, i < k → ν i < K) → mskN ν k < 2 ^ K := by
  intro k
  induction k with
  | zero => intro _; exact Nat.pow_pos (by omega)
  | succ k ih =>
    intro h
    unfold mskN
    refine Nat.or_lt_two_pow (ih (fun i hi => h i (by omega))) ?_
    rw [Nat.one_shiftLeft]
    exact Nat.pow_lt_pow_right (by omega) (h k (by omega))
theorem msk_full {ν : Nat → Nat} {K : Nat} (h : ∀ i, i < K → ν i < K) : mskN ν K = 2 ^ K - 1 ↔ ∀ v, v < K → ∃ i, i < K ∧ ν i = v := by
  constructor
  · intro e v hv
    refine (msk_bit ν v K).mp ?_
    rw [e, Nat.testBit_two_pow_sub_one]
    exact decide_eq_true hv
  · intro q
    refine Nat.eq_of_testBit_eq (fun v => ?_)
    rw [Nat.testBit_two_pow_sub_one]
    by_cases hv : v < K
    · rw [decide_eq_true hv]; exact (msk_bit ν v K).mpr (q v hv)
    · rw [decide_eq_false hv]
      exact Nat.testBit_lt_two_pow (Nat.lt_of_lt_of_le (msk_lt K h) (Nat.pow_le_pow_right (by omega) (by omega)))
theorem or_nI : ∀ a, a < 32 → ∀ v, v < 5 → nI a ||| (1 <<< (nI v &&& 31)) = nI (a ||| 1 <<< v) := by decide
theorem ones_nI : ∀ K, K < 6 → (1 <<< (nI K &&& 31)) - 1 = nI (2 ^ K - 1) := by decide
theorem k_isRearr (l : Launch) (S : CS) {n0 K : Nat} {f0 : Nat → Int32} (hK : K ≤ 5) (hn : K ≤ n0) (hn0 : n0 < 2 ^ 31) (post : Bool → CS → Prop) (h0 : (¬ ∃ ν, NM f0 K ν) → post false S) (h1 : ∀ ν, NM f0 K ν → post true S) : cX_X8_isRearrangement l S n0 f0 (nI K) post := by
  refine c_X8_isRearrangement l S n0 f0 _ post ?_
  intro B4 h4
  unfold cT_X8_isRearrangement_e
  have key : ∀ d k, k + d = K → (∀ i, i < k → f0 i = nI ((f0 i).toNatClampNeg) ∧ (f0 i).toNatClampNeg < K) → B4 S (nI (mskN (fun i => (f0 i).toNatClampNeg) k)) (nI k) := by
    intro d
    induction d with
    | zero =>
      intro k hk hg
      have : k = K := by omega
      subst this
      refine h4 _ _ _ ?_
      unfold cT_X8_isRearrangement_4
      have hlt := msk_lt (ν := fun i => (f0 i).toNatClampNeg) k (fun i hi => (hg i hi).2)
      have h32 : 2 ^ k ≤ 2 ^ 5 := Nat.pow_le_pow_right (by omega) hK
      rw [ones_nI k (by omega)]
      refine ⟨fun _ => ⟨fun c => h0 ?_, fun c => h1 (fun i => (f0 i).toNatClampNeg) ⟨fun i hi => hg i hi, ?_⟩⟩, fun w => absurd (nI_le (Nat.le_refl _) (by omega)) w⟩
      · rintro ⟨ν, hν⟩
        refine c ?_
        have e : ∀ i, i < k → (f0 i).toNatClampNeg = ν i := fun i hi => by
          rw [(hν.1 i hi).1, nI_clamp (by have := (hν.1 i hi).2; omega)]
        have := (msk_full (ν := fun i => (f0 i).toNatClampNeg) (fun i hi => (hg i hi).2)).mpr (fun v hv => by
          obtain ⟨i, hi, ei⟩ := inj_surj (fun k hk => (hν.1 k hk).2) hν.2 hv
          exact ⟨i, hi, by show (f0 i).toNatClampNeg = v; rw [e i hi, ei]⟩)
        rw [this]
      · have c : mskN (fun i => (f0 i).toNatClampNeg) k = 2 ^ k - 1 := (nI_eq (by omega) (by omega)).mp c
        exact surj_inj ((msk_full (ν := fun i => (f0 i).toNatClampNeg) (fun i hi => (hg i hi).2)).mp c)
    | succ d ih =>
      intro k hk hg
      refine h4 _ _ _ ?_
      unfold cT_X8_isRearrangement_4
      rw [nI_clamp (show k < 2 ^ 31 by omega)]
      refine ⟨fun w => absurd w (nI_ge (by omega) (by omega)), fun _ => ⟨vp_in_nI (by omega) (by omega), fun c => h0 ?_, fun c => ⟨vp_in_nI (by omega) (by omega), fun c2 => ⟨vp_in_nI (by omega) (by omega), fun v hv => ?_⟩, fun c2 => h0 ?_⟩⟩⟩
      · rintro ⟨ν, hν⟩
        have := hν.1 k (by omega)
        rw [this.1] at c
        exact absurd c (nI_pos (by omega))
      · obtain ⟨w, hw, ew⟩ := nI_of c
        have hwK : w < K := by
          rw [ew] at c2
          exact (nI_ltI hw (by omega)).mp c2
        have ec : (f0 k).toNatClampNeg = w := by rw [ew, nI_clamp hw]
        have hlt := msk_lt (ν := fun i => (f0 i).toNatClampNeg) k (fun i hi => (hg i hi).2)
        have h32 : 2 ^ K ≤ 2 ^ 5 := Nat.pow_le_pow_right (by omega) hK
        rw [ew, or_nI _ (by omega) w (by omega)] at hv
        rw [hv, ← nI_succ]
        have := ih (k + 1) (by omega) (fun i hi => by
          by_cases q : i = k
          · subst q; rw [ec]; exact ⟨ew, hwK⟩
          · exact hg i (by omega))
        unfold mskN at this
        simp only [ec] at this
        exact this
      · rintro ⟨ν, hν⟩
        have := hν.1 k (by omega)
        rw [this.1] at c2
        exact c2 (nI_lt this.2 (by omega))
  exact key K 0 (by omega) (fun i hi => absurd hi (Nat.not_lt_zero _))
def n5 (f : Nat → Int32) (a b c d e : Int32) : Nat → Int32 := upd (upd (upd (upd (upd f 0 a) 1 b) 2 c) 3 d) 4 e
theorem n5_eq (f g : Nat → Int32) (a b c d e : Int32) : ∀ k, k < 5 → n5 f a b c d e k = n5 g a b c d e k := by
  intro k hk
  unfold n5 upd
  have : k = 0 ∨ k = 1 ∨ k = 2 ∨ k = 3 ∨ k = 4 := by omega
  rcases this with q | q | q | q | q <;> subst q <;> rfl
theorem s_areNames (l : Launch) (S : MS) {P : Nat} (hP : S.1 0 = nI P) (hP2 : 2 ≤ P ∧ P ≤ 5) (a b c d e : Int32) (post : Bool → MS → Prop) (h0 : (¬ ∃ ν, NM (n5 (S.2.1 26) a b c d e) P ν) → post false (ma S 26 (n5 (S.2.1 26) a b c d e))) (h1 : ∀ ν, NM (n5 (S.2.1 26) a b c d e) P ν → post true (ma S 26 (n5 (S.2.1 26) a b c d e))) : mX_areNames l S a b c d e post := by
  refine m_areNames l S a b c d e post ?_
  intro B40 B68 h40 h68
  unfold mT_areNames_e
  refine ⟨vp_in_nI (n := 0) (by omega) (by omega), vp_in_nI (n := 1) (by omega) (by omega), vp_in_nI (n := 2) (by omega) (by omega), vp_in_nI (n := 3) (by omega) (by omega), vp_in_nI (n := 4) (by omega) (by omega), ?_⟩
  rw [ma_ma, ma_ma, ma_ma, ma_ma]
  show B40 (ma S 26 (n5 (S.2.1 26) a b c d e)) 0
  generalize n5 (S.2.1 26) a b c d e = f at *
  have hP' : (ma S 26 f).1 0 = nI P := hP
  have key : ∀ t k, k + t = P → ∀ ν : Nat → Nat, (∀ i, i < k → f i = nI (ν i) ∧ ν i < P) → (∀ i j, i < k → j < k → ν i = ν j → i = j) → B40 (ma S 26 f) (nI k) := by
    intro t
    induction t with
    | zero =>
      intro k hk ν g1 g2
      have : k = P := by omega
      subst this
      refine h40 _ _ ?_
      unfold mT_areNames_40
      rw [hP']
      exact ⟨fun _ => h1 ν ⟨g1, g2⟩, fun w => absurd (nI_le (Nat.le_refl _) (by omega)) w⟩
    | succ t ih =>
      intro k hk ν g1 g2
      refine h40 _ _ ?_
      unfold mT_areNames_40
      rw [hP', nI_clamp (show k < 2 ^ 31 by omega), ma_get]
      refine ⟨fun w => absurd w (nI_ge (by omega) (by omega)), fun _ => ⟨vp_in_nI (by omega) (by omega), ?_⟩⟩
      refine s_isPegC l _ (f k) _ (P := P) hP' hP2 (fun q => ⟨fun w => absurd rfl w, fun _ => h0 (fun ⟨ν', hν⟩ => q ⟨ν' k, (hν.1 k (by omega)).2, (hν.1 k (by omega)).1⟩)⟩) (fun v hv ev => ⟨fun _ => ?_, fun w => absurd w (by decide)⟩)
      have inner : ∀ t2 q, q + t2 = k → (∀ i, i < q → ν i ≠ v) → B68 (ma S 26 f) (nI k) (nI q) := by
        intro t2
        induction t2 with
        | zero =>
          intro q hq hn
          have : q = k := by omega
          subst this
          refine h68 _ _ _ ?_
          unfold mT_areNames_68
          rw [← nI_succ]
          refine ⟨fun _ => ?_, fun w => absurd (nI_le (Nat.le_refl _) (by omega)) w⟩
          refine ih (q + 1) (by omega) (va_up ν q v) (fun i hi => ?_) (fun i j hi hj e => ?_)
          · by_cases e : i = q
            · subst e; rw [va_up_same]; exact ⟨ev, hv⟩
            · rw [va_up_other _ _ e]; exact g1 i (by omega)
          · by_cases e1 : i = q
            · by_cases e2 : j = q
              · omega
              · subst e1
                rw [va_up_same, va_up_other _ _ e2] at e
                exact absurd e.symm (hn j (by omega))
            · by_cases e2 : j = q
              · subst e2
                rw [va_up_same, va_up_other _ _ e1] at e
                exact absurd e (hn i (by omega))
              · rw [va_up_other _ _ e1, va_up_other _ _ e2] at e
                exact g2 i j (by omega) (by omega) e
        | succ t2 ih2 =>
          intro q hq hn
          have gq := g1 q (by omega)
          refine h68 _ _ _ ?_
          unfold mT_areNames_68
          rw [nI_clamp (show k < 2 ^ 31 by omega), nI_clamp (show q < 2 ^ 31 by omega), ma_get, ev, gq.1, ← nI_succ, ← nI_succ]
          refine ⟨fun w => absurd w (nI_ge (by omega) (by omega)), fun _ => ⟨vp_in_nI (by omega) (by omega), vp_in_nI (by omega) (by omega), fun c => ?_, fun c => h0 ?_⟩⟩
          · refine ih2 (q + 1) (by omega) (fun i hi => ?_)
            by_cases e : i = q
            · subst e; exact fun w => c (by rw [w])
            · exact hn i (by omega)
          · rintro ⟨ν', hν⟩
            have c : ν q = v := (nI_eq (by omega) (by omega)).mp c
            have w1 := hν.1 q (by omega)
            have w2 := hν.1 k (by omega)
            have e1 : ν q = ν' q := (nI_eq (by omega) (by omega)).mp (gq.1.symm.trans w1.1)
            have e2 : v = ν' k := (nI_eq (by omega) (by omega)).mp (ev.symm.trans w2.1)
            have := hν.2 q k (by omega) (by omega) (by rw [← e1, ← e2, c])
            omega
      exact inner k 0 (by omega) (fun i hi => absurd hi (Nat.not_lt_zero _))
  exact key P 0 (by omega) (fun _ => 0) (fun i hi => absurd hi (Nat.not_lt_zero _)) (fun i j hi => absurd hi (Nat.not_lt_zero _))

-- a loop over the pairs p < q
theorem tri_loop {α : Type} {K : Nat} {Bo : α → Nat → Prop} {Bi : α → Nat → Nat → Prop} {I : Nat → Nat → α → Prop}
    (h1 : ∀ T p, p < K → I p (p + 1) T → Bi T p (p + 1) → Bo T p) (h2 : ∀ T, I K (K + 1) T → Bo T K) (h3 : ∀ T p q, p < q → q < K → I p q T → (∀ T', I p (q + 1) T' → Bi T' p (q + 1)) → Bi T p q)
    (h4 : ∀ T p, p < K → I p K T → Bo T (p + 1) → Bi T p K) (h5 : ∀ T p, p < K → I p K T → I (p + 1) (p + 1 + 1) T) : ∀ T, I 0 1 T → Bo T 0 := by
  have key : ∀ d p, p + d = K → ∀ T, I p (p + 1) T → Bo T p := by
    intro d
    induction d with
    | zero =>
      intro p hp T hT
      have : p = K := by omega
      subst this
      exact h2 T hT
    | succ d ih =>
      intro p hp T hT
      refine h1 T p (by omega) hT ?_
      have inner : ∀ e q, q + e = K → p < q → ∀ T, I p q T → Bi T p q := by
        intro e
        induction e with
        | zero =>
          intro q hq hpq T hT
          have : q = K := by omega
          subst this
          exact h4 T p (by omega) hT (ih (p + 1) (by omega) T (h5 T p (by omega) hT))
        | succ e ih2 =>
          intro q hq hpq T hT
          exact h3 T p q hpq (by omega) hT (fun T' hT' => ih2 (q + 1) (by omega) (by omega) T' hT')
      exact inner (K - (p + 1)) (p + 1) (by omega) (by omega) T hT
  exact fun T hT => key K 0 (by omega) T hT
/-- the lanes of the pegs below K, turned about up to the pair p, r -/
def tuN (K : Nat) (g : Nat → Nat) (p r : Nat) : Nat → Nat := fun j => if j < 25 ∧ j / 5 ≠ j % 5 ∧ max (j / 5) (j % 5) < K ∧ (min (j / 5) (j % 5) < p ∨ (min (j / 5) (j % 5) = p ∧ max (j / 5) (j % 5) < r)) then g (5 * (j % 5) + j / 5) else g j
theorem tuN_0 (K : Nat) (g : Nat → Nat) : tuN K g 0 1 = g := by
  funext j
  unfold tuN
  rw [if_neg]
  rintro ⟨w1, w2, w3⟩
  omega
theorem tuN_le {K : Nat} {g : Nat → Nat} {B : Nat} (h : ∀ j, j < 25 → g j ≤ B) (p r j : Nat) (hj : j < 25) : tuN K g p r j ≤ B := by
  unfold tuN
  split
  · exact h _ (by omega)
  · exact h _ hj
theorem tuN_at {K : Nat} {g : Nat → Nat} {p q : Nat} (hpq : p < q) (hq : q < 5) : tuN K g p q (5 * p + q) = g (5 * p + q) ∧ tuN K g p q (5 * q + p) = g (5 * q + p) := by
  unfold tuN
  rw [if_neg (by omega), if_neg (by omega)]
  exact ⟨rfl, rfl⟩
theorem tuN_step {K : Nat} (g : Nat → Nat) {p q : Nat} (hpq : p < q) (hq : q < K) (hK : K ≤ 5) : tuN K g p (q + 1) = va_up (va_up (tuN K g p q) (5 * p + q) (g (5 * q + p))) (5 * q + p) (g (5 * p + q)) := by
  funext j
  by_cases e1 : j = 5 * q + p
  · rw [e1, va_up_same]
    unfold tuN
    rw [if_pos (by omega)]
    congr 1
    omega
  · rw [va_up_other _ _ e1]
    by_cases e2 : j = 5 * p + q
    · rw [e2, va_up_same]
      unfold tuN
      rw [if_pos (by omega)]
      congr 1
      omega
    · rw [va_up_other _ _ e2]
      unfold tuN
      by_cases e3 : j < 25 ∧ j / 5 ≠ j % 5 ∧ max (j / 5) (j % 5) < K ∧ (min (j / 5) (j % 5) < p ∨ (min (j / 5) (j % 5) = p ∧ max (j / 5) (j % 5) < q))
      · rw [if_pos e3, if_pos (by omega)]
      · rw [if_neg e3, if_neg (by omega)]
theorem tuN_row {K : Nat} (g : Nat → Nat) {p : Nat} (hp : p < K) : tuN K g p K = tuN K g (p + 1) (p + 1 + 1) := by
  funext j
  unfold tuN
  by_cases e3 : j < 25 ∧ j / 5 ≠ j % 5 ∧ max (j / 5) (j % 5) < K ∧ (min (j / 5) (j % 5) < p ∨ (min (j / 5) (j % 5) = p ∧ max (j / 5) (j % 5) < K))
  · rw [if_pos e3, if_pos (by omega)]
  · rw [if_neg e3, if_neg (by omega)]
theorem tuN_end {K : Nat} (g : Nat → Nat) {a b : Nat} (ha : a < 5) (hb : b < 5) : tuN K g K (K + 1) (5 * a + b) = if a < K ∧ b < K then g (5 * b + a) else g (5 * a + b) := by
  unfold tuN
  have e1 : (5 * a + b) / 5 = a := by omega
  have e2 : (5 * a + b) % 5 = b := by omega
  rw [e1, e2]
  by_cases e : a = b
  · subst e
    rw [if_neg (by omega)]
    split <;> rfl
  · by_cases c : a < K ∧ b < K
    · rw [if_pos (by omega), if_pos c]
    · rw [if_neg (by omega), if_neg c]
def b01 (k : Nat) : Bool := decide (k = 1)
theorem b01_eq {k : Nat} (h : k ≤ 1) : nI k = bI (b01 k) ∧ bN (b01 k) = k := by
  have : k = 0 ∨ k = 1 := by omega
  rcases this with q | q <;> subst q <;> exact ⟨rfl, rfl⟩
theorem nar01 {k : Nat} (h : k ≤ 1) : vp_nar .boolean (nI k) = nI k := by
  have : k = 0 ∨ k = 1 := by omega
  rcases this with q | q <;> subst q <;> rfl

section About
variable {S : CS} {M : MS} {n P x y : Nat} {kd ct sc sm : Nat → Nat}
/-- all is forgotten that hangs on the lanes -/
theorem Rl.fresh {T : CS} {N : MS} {x' y' : Nat} {ct' sc' sm' : Nat → Nat} (h : Rl S M n P kd ct sc sm x y) (hle : T.2.2.2 = S.2.2.2) (hb : RB T N n P kd ct' sc' sm') (h0 : RS n P kd (T.1 0) (N.2.1 2) x') (h1 : RS n P kd (T.1 1) (N.2.1 3) y') (h2 : T.1 2 = N.1 2) (t9 : T.1 9 = 0) (t10 : T.1 10 = 0) (n4 : N.1 4 = 0) (n5 : N.1 5 = 0) (t12 : T.1 12 = -1) (t17 : T.1 17 = 0)
    (t11 : T.1 11 = S.1 11) (t22 : T.2.1 22 = S.2.1 22) (n6 : N.1 6 = M.1 6) (n7 : N.2.1 7 = M.2.1 7) (t19 : T.1 19 = S.1 19) (t38 : T.2.1 38 = S.2.1 38) (t39 : T.2.1 39 = S.2.1 39) (t40 : T.2.1 40 = S.2.1 40) (t41 : T.2.1 41 = S.2.1 41) (t42 : T.2.2.1 42 = S.2.2.1 42)
    (n9 : N.1 9 = M.1 9) (n29 : N.2.1 29 = M.2.1 29) (n30 : N.2.1 30 = M.2.1 30) (n31 : N.2.1 31 = M.2.1 31) (n32 : N.2.1 32 = M.2.1 32) (m8 : ∃ τ, MA N 8 τ) (m9 : ∃ τ, MA N 9 τ) : Rl T N n P kd ct' sc' sm' x' y' := by
  obtain ⟨-, -, -, -, -, q6, q7, -, q9, q10⟩ := h
  refine ⟨hb, h0, h1, h2, ?_, ?_, ?_, ⟨m8, m9⟩, q9.none hle t12, q10.none hle t17⟩
  · rw [t9, t10, n4, n5]; exact RP0
  · rw [t11, t22, hle, n6, n7]; exact q6
  · rw [t19, t38, t39, t40, t41, t42, n9, n29, n30, n31, n32]; exact q7
def q2B : Nat → Bool := fun k => decide (k = 11) || decide (k = 12)
theorem k_turn (l : Launch) (h : CY S n P kd ct sc) (post : CS → Prop) (hp : ∀ T, CFr nn q2B nn S T → CY T n P kd (tuN P ct P (P + 1)) (tuN P sc P (P + 1)) → post T) : cX_X0_turnLanes l S post := by
  have hP2 := h.2.2.2.1
  refine c_X0_turnLanes l S post ?_
  intro B2 B14 h2 h14
  unfold cT_X0_turnLanes_e
  refine tri_loop (α := CS) (K := P) (Bo := fun U p => B2 U (nI p)) (Bi := fun U p q => B14 U (nI p) (nI q)) (I := fun p r U => CFr nn q2B nn S U ∧ CY U n P kd (tuN P ct p r) (tuN P sc p r)) ?_ ?_ ?_ ?_ ?_ S ?_
  · rintro U p hp' ⟨k1, k2⟩ hBi
    refine h2 _ _ ?_
    unfold cT_X0_turnLanes_2
    rw [k2.1]
    refine ⟨fun w => absurd w (nI_ge hp' (by omega)), fun _ v hv => ?_⟩
    rw [hv, ← nI_succ]; exact hBi
  · rintro U ⟨k1, k2⟩
    refine h2 _ _ ?_
    unfold cT_X0_turnLanes_2
    rw [k2.1]
    exact ⟨fun _ => hp U k1 k2, fun w => absurd (nI_le (Nat.le_refl _) (by omega)) w⟩
  · rintro U p q hpq hq ⟨k1, k2⟩ nxt
    refine h14 _ _ _ ?_
    unfold cT_X0_turnLanes_14
    have a1 := tuN_at (K := P) (g := ct) hpq (show q < 5 by omega)
    have a2 := tuN_at (K := P) (g := sc) hpq (show q < 5 by omega)
    have r1 := k2.2.2.2.2.2.2.2.1 (5 * p + q) (by omega)
    have r2 := k2.2.2.2.2.2.2.2.1 (5 * q + p) (by omega)
    have r3 := k2.2.2.2.2.2.2.2.2 (5 * p + q) (by omega)
    have r4 := k2.2.2.2.2.2.2.2.2 (5 * q + p) (by omega)
    rw [a1.1] at r1
    rw [a1.2] at r2
    rw [a2.1] at r3
    rw [a2.2] at r4
    rw [k2.1, ix5, ix5, nI_clamp (show 5 * p + q < 2 ^ 31 by omega), nI_clamp (show 5 * q + p < 2 ^ 31 by omega), r1.1, r2.1, r3.1, r4.1]
    refine ⟨fun w => absurd w (nI_ge hq (by omega)), fun _ => ⟨vp_in_nI (by omega) (by omega), fun v3 e3 => ⟨vp_in_nI (by omega) (by omega), fun v4 e4 => ⟨vp_in_nI (by omega) (by omega), vp_in_nI (by omega) (by omega), b01 (sc (5 * q + p)), (b01_eq r4.2).1, ?_⟩⟩⟩⟩
    subst e3
    subst e4
    refine k_setLane l U (by omega) (by omega) _ _ _ ⟨b01 (sc (5 * p + q)), (b01_eq r3.2).1, ?_⟩
    refine k_setLane l _ (by omega) (by omega) _ _ _ ?_
    rw [(b01_eq r4.2).2, (b01_eq r3.2).2, ← nI_succ]
    refine nxt _ ⟨(((k1.ca _ rfl).ca _ rfl).ca _ rfl).ca _ rfl, ?_⟩
    rw [tuN_step ct hpq hq hP2.2, tuN_step sc hpq hq hP2.2]
    exact (k2.lane r2.2 r4.2).lane r1.2 r3.2
  · rintro U p hp' ⟨k1, k2⟩ hBo
    refine h14 _ _ _ ?_
    unfold cT_X0_turnLanes_14
    rw [k2.1]
    refine ⟨fun _ => ?_, fun w => absurd (nI_le (Nat.le_refl _) (by omega)) w⟩
    rw [← nI_succ]; exact hBo
  · rintro U p hp' ⟨k1, k2⟩
    rw [tuN_row ct hp', tuN_row sc hp'] at k2
    exact ⟨k1, k2⟩
  · exact ⟨CFr.rf, by rw [tuN_0, tuN_0]; exact h⟩
def aqB : Nat → Bool := fun k => decide (2 ≤ k) && decide (k ≤ 5)
theorem s_about (l : Launch) (h : MY M n P kd ct sm) {f g : Nat → Int32} (hf : M.2.1 2 = f) (hg : M.2.1 3 = g) (post : Int32 → MS → Prop) (hp : ∀ T, MFx (fun k => decide (k = 3)) aqB M T → MY T n P kd (tuN 5 ct 5 6) (tuN 5 sm 5 6) → T.2.1 2 = cpF f g n → T.2.1 3 = cpF g f n → post (nI (lnN (tuN 5 ct 5 6))) (mf (mf T 4 0) 5 0)) : mX_about l M post := by
  have hP2 := h.2.2.1
  have hn2 := h.2.2.2.1
  refine m_about l M post ?_
  intro B7 B16 B121 h7 h16 h121
  unfold mT_about_e
  refine tri_loop (α := MS) (K := 5) (Bo := fun U p => B7 U (nI p)) (Bi := fun U p q => B16 U (nI p) (nI q)) (I := fun p r U => MFx (fun k => decide (k = 3)) aqB M U ∧ MY U n P kd (tuN 5 ct p r) (tuN 5 sm p r) ∧ U.2.1 2 = f ∧ U.2.1 3 = g) ?_ ?_ ?_ ?_ ?_ (mf M 3 0) ?_
  · rintro U p hp' ⟨k1, k2, k3⟩ hBi
    refine h7 _ _ ?_
    unfold mT_about_7
    refine ⟨fun w => absurd w (nI_ge (a := p) (b := 5) hp' (by omega)), fun _ v hv => ?_⟩
    rw [hv, ← nI_succ]; exact hBi
  · rintro U ⟨k1, k2, k3, k4⟩
    refine h7 _ _ ?_
    unfold mT_about_7
    refine ⟨fun _ => ?_, fun w => absurd (show (5 : Int32) ≤ nI 5 by decide) w⟩
    have key : ∀ d k, k + d = n → ∀ V, MFx (fun k => decide (k = 3)) aqB M V → MY V n P kd (tuN 5 ct 5 6) (tuN 5 sm 5 6) → V.2.1 2 = cpF f g k → V.2.1 3 = cpF g f k → B121 V (nI k) := by
      intro d
      induction d with
      | zero =>
        intro k hk V v1 v2 v3 v4
        have : k = n := by omega
        subst this
        refine h121 _ _ ?_
        unfold mT_about_121
        rw [v2.2.1]
        exact ⟨fun _ => s_lanesThere l (M := mf (mf V 4 0) 5 0) v2.2.2.2.2.2.1 _ (hp V v1 v2 v3 v4), fun w => absurd (nI_le (Nat.le_refl _) (by omega)) w⟩
      | succ d ih =>
        intro k hk V v1 v2 v3 v4
        refine h121 _ _ ?_
        unfold mT_about_121
        rw [v2.2.1, nI_clamp (show k < 2 ^ 31 by omega), v3, v4, ← nI_succ]
        have c1 : cpF f g k k = f k := by unfold cpF; rw [if_neg (by omega)]
        have c2 : cpF g f k k = g k := by unfold cpF; rw [if_neg (by omega)]
        rw [c1, c2, cpF_s]
        refine ⟨fun w => absurd w (nI_ge (by omega) (by omega)), fun _ => ⟨vp_in_nI (by omega) (by omega), fun v hv => ⟨vp_in_nI (by omega) (by omega), vp_in_nI (by omega) (by omega), vp_in_nI (by omega) (by omega), ?_⟩⟩⟩
        rw [hv]
        have e3 : (ma V 2 (cpF f g (k + 1))).2.1 3 = cpF g f k := v4
        first
          | rw [cpF_s]
          | rw [e3, cpF_s]
        exact ih (k + 1) (by omega) _ ((v1.row _ rfl).row _ rfl) ((v2.ma _ (by decide) (by decide) (by decide)).ma _ (by decide) (by decide) (by decide)) rfl rfl
    exact key n 0 (by omega) U k1 k2 (by rw [cpF_0]; exact k3) (by rw [cpF_0]; exact k4)
  · rintro U p q hpq hq ⟨k1, k2, k3⟩ nxt
    refine h16 _ _ _ ?_
    unfold mT_about_16
    have a1 := tuN_at (K := 5) (g := ct) hpq (show q < 5 by omega)
    have a2 := tuN_at (K := 5) (g := sm) hpq (show q < 5 by omega)
    have r1 := k2.2.2.2.2.2.1 (5 * p + q) (by omega)
    have r2 := k2.2.2.2.2.2.1 (5 * q + p) (by omega)
    have r3 := k2.2.2.2.2.2.2 (5 * p + q) (by omega)
    have r4 := k2.2.2.2.2.2.2 (5 * q + p) (by omega)
    rw [a1.1] at r1
    rw [a1.2] at r2
    rw [a2.1] at r3
    rw [a2.2] at r4
    rw [ix25 (show p < 5 by omega) hq, ix25 hq (show p < 5 by omega), nI_clamp (show 5 * p + q < 2 ^ 31 by omega), nI_clamp (show 5 * q + p < 2 ^ 31 by omega), r1.1, r2.1, r3.1, r4.1, nar01 r4.2, ← nI_succ, ← nI_succ]
    refine ⟨fun w => absurd w (nI_ge (a := q) (b := 5) hq (by omega)), fun _ => ⟨vp_in_nI (by omega) (by omega), fun v3 e3 => ⟨vp_in_nI (by omega) (by omega), fun v4 e4 => ⟨vp_in_nI (by omega) (by omega), vp_in_nI (by omega) (by omega), vp_in_nI (by omega) (by omega), vp_in_nI (by omega) (by omega), vp_in_nI (by omega) (by omega), vp_in_nI (by omega) (by omega), ?_⟩⟩⟩⟩
    rw [e3, e4, nar01 r3.2]
    have g := MYlane (MYlane k2 (j := 5 * p + q) r2.2 r4.2) (j := 5 * q + p) r1.2 r3.2
    refine nxt _ ⟨(((k1.row _ rfl).row _ rfl).row _ rfl).row _ rfl, ?_, k3⟩
    rw [tuN_step ct hpq hq (Nat.le_refl _), tuN_step sm hpq hq (Nat.le_refl _)]
    exact g
  · rintro U p hp' ⟨k1, k2, k3⟩ hBo
    refine h16 _ _ _ ?_
    unfold mT_about_16
    refine ⟨fun _ => ?_, fun w => absurd (show (5 : Int32) ≤ nI 5 by decide) w⟩
    rw [← nI_succ]; exact hBo
  · rintro U p hp' ⟨k1, k2, k3⟩
    rw [tuN_row ct hp', tuN_row sm hp'] at k2
    exact ⟨k1, k2, k3⟩
  · exact ⟨MFx.rf.sc _ rfl, by rw [tuN_0, tuN_0]; exact h.mf 0 (by decide) (by decide), hf, hg⟩
theorem lnN_congr {c1 c2 : Nat → Nat} (h : ∀ j, j < 25 → c1 j = c2 j) : lnN c1 = lnN c2 := by
  unfold lnN
  have : ∀ k, k ≤ 25 → cntP (fun j => decide (c1 j ≠ 0)) k = cntP (fun j => decide (c2 j ≠ 0)) k := by
    intro k
    induction k with
    | zero => intro _; rfl
    | succ k ih =>
      intro hk
      unfold cntP
      rw [ih (by omega), h k (by omega)]
  exact this 25 (Nat.le_refl _)
theorem o_about (l : Launch) (h : Rl S M n P kd ct sc sm x y) : cX_X8_about l S (fun r1 S1 => mX_about l M (fun r2 M1 => OKr S r1 S1 r2 M1)) := by
  have hP2 := h.P2
  refine c_X8_about l S _ ?_
  unfold cT_X8_about_e
  refine k_turn l h.cy _ (fun T fT hT v hv => ?_)
  refine k_forgetAll l _ _ (k_countLanes l (S := cf (cf (cf (cf (cf (cf T 0 (T.1 1)) 1 v) 9 0) 10 0) 12 (-1)) 17 0) (ct := tuN P ct P (P + 1)) hT.2.2.2.2.2.2.2.1 _ ?_)
  have hz : ∀ a b, a < 5 → b < 5 → (a = b ∨ P ≤ a ∨ P ≤ b) → ct (5 * a + b) = 0 := h.1.2.2.2
  have ect : ∀ j, j < 25 → tuN P ct P (P + 1) j = tuN 5 ct 5 6 j := by
    intro j hj
    have ej : j = 5 * (j / 5) + j % 5 := by omega
    rw [ej, tuN_end ct (by omega) (by omega), tuN_end ct (by omega) (by omega), if_pos (show j / 5 < 5 ∧ j % 5 < 5 by omega)]
    by_cases c : j / 5 < P ∧ j % 5 < P
    · rw [if_pos c]
    · rw [if_neg c, hz (j / 5) (j % 5) (by omega) (by omega) (by omega), hz (j % 5) (j / 5) (by omega) (by omega) (by omega)]
  refine s_about l h.my rfl rfl _ (fun N fN hN n2 n3 => ⟨by rw [lnN_congr ect], ⟨n, P, kd, tuN 5 ct 5 6, tuN P sc P (P + 1), tuN 5 sm 5 6, y, x, ?_⟩, (have hq := lens_eq fT; hq)⟩)
  subst hv
  have hrow : ∀ (f g : Nat → Int32) (u v : Nat), u < P ^ n → v < P ^ n → (∀ j, j < 7 → f j = nI (dgs P u j)) → (∀ j, j < 7 → g j = nI (dgs P v j)) → ∀ j, j < 7 → cpF f g n j = nI (dgs P v j) := by
    intro f g u v hu hv hf hg
    refine row_of (by omega) hu hv hf (σ := dgs P v) (fun _ _ => rfl) _ (fun j hj => ?_)
    unfold cpF
    by_cases e : j < n
    · rw [if_pos e, if_pos e, hg j hj]
    · rw [if_neg e, if_neg e]
  obtain ⟨τ, m8⟩ := h.m8
  obtain ⟨ρ, m9⟩ := h.m9
  refine h.fresh (have hq := lens_eq fT; hq) ⟨?_, ?_, fun j hj hne => ?_, fun a b ha hb hab => ?_⟩ ?_ ?_ ?_ rfl rfl rfl rfl rfl rfl ?_ ?_ ?_ ?_ ?_ ?_ ?_ ?_ ?_ ?_ ?_ ?_ ?_ ?_ ?_ ?_ ?_
  · obtain ⟨c1, c2, c3, c4, c5, c6, c7, c8, c9⟩ := hT
    exact ⟨c1, c2, c3, c4, c5, c6, c7, fun j hj => by rw [← ect j hj]; exact c8 j hj, c9⟩
  · exact (hN.mf _ (by decide) (by decide)).mf _ (by decide) (by decide)
  · have ej : j = 5 * (j / 5) + j % 5 := by omega
    rw [ej, tuN_end ct (by omega) (by omega), if_pos (show j / 5 < 5 ∧ j % 5 < 5 by omega)] at hne
    rw [ej, tuN_end sc (by omega) (by omega), tuN_end sm (by omega) (by omega), if_pos (show j / 5 < 5 ∧ j % 5 < 5 by omega)]
    by_cases c : j / 5 < P ∧ j % 5 < P
    · rw [if_pos c]
      exact h.1.2.2.1 _ (by omega) hne
    · exact absurd (hz (j % 5) (j / 5) (by omega) (by omega) (by omega)) hne
  · rw [tuN_end ct ha hb, if_pos ⟨ha, hb⟩]
    exact hz b a hb ha (by omega)
  · show RS n P kd (T.1 1) (N.2.1 2) y
    rw [fT.1 1 rfl, h.sy, n2]
    exact ⟨rfl, h.hy, hrow _ _ x y h.hx h.hy h.2.1.2.2.1 h.2.2.1.2.2.1, h.2.2.1.2.2.2⟩
  · show RS n P kd (T.1 0) (N.2.1 3) x
    rw [fT.1 0 rfl, h.sx, n3]
    exact ⟨rfl, h.hx, hrow _ _ y x h.hy h.hx h.2.2.1.2.2.1 h.2.1.2.2.1, h.2.1.2.2.2⟩
  · show T.1 2 = N.1 2
    rw [fT.1 2 rfl, fN.1 2 rfl]; exact h.2.2.2.1
  · exact fT.1 11 rfl
  · exact (fT.2.1 22 rfl).1
  · exact fN.1 6 rfl
  · exact fN.2 7 rfl
  · exact fT.1 19 rfl
  · exact (fT.2.1 38 rfl).1
  · exact (fT.2.1 39 rfl).1
  · exact (fT.2.1 40 rfl).1
  · exact (fT.2.1 41 rfl).1
  · exact (fT.2.1 42 rfl).2
  · exact fN.1 9 rfl
  · exact fN.2 29 rfl
  · exact fN.2 30 rfl
  · exact fN.2 31 rfl
  · exact fN.2 32 rfl
  · exact ⟨τ, fun j hj => by show N.2.1 8 j = _ ∧ _; rw [fN.2 8 rfl]; exact m8 j hj⟩
  · exact ⟨ρ, fun j hj => by show N.2.1 9 j = _ ∧ _; rw [fN.2 9 rfl]; exact m9 j hj⟩
end About
