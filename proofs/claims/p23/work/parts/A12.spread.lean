-- the moves of a stand, in their order
def mvB (g : Nat → Nat → Bool) (a : Nat) : Nat → Nat → List (Nat × Nat)
  | 0, _ => []
  | k + 1, b => if g a b then (a, b) :: mvB g a k (b + 1) else mvB g a k (b + 1)
def mvA (g : Nat → Nat → Bool) (P : Nat) : Nat → Nat → List (Nat × Nat)
  | 0, _ => []
  | k + 1, a => mvB g a P 0 ++ mvA g P k (a + 1)
def mvL (n P : Nat) (kd ct sg : Nat → Nat) (x : Nat) : List (Nat × Nat) := mvA (fun a b => (tgN n P kd ct sg x a b).isSome) P P 0
theorem mvB_mem {g : Nat → Nat → Bool} {a : Nat} : ∀ k b p q, (p, q) ∈ mvB g a k b ↔ p = a ∧ b ≤ q ∧ q < b + k ∧ g a q = true := by
  intro k
  induction k with
  | zero =>
    intro b p q
    constructor
    · intro h; cases h
    · rintro ⟨-, h1, h2, -⟩; omega
  | succ k ih =>
    intro b p q
    unfold mvB
    by_cases c : g a b = true
    · rw [if_pos c, List.mem_cons, ih]
      constructor
      · rintro (h | ⟨h1, h2, h3, h4⟩)
        · cases h; exact ⟨rfl, Nat.le_refl _, by omega, c⟩
        · exact ⟨h1, by omega, by omega, h4⟩
      · rintro ⟨h1, h2, h3, h4⟩
        by_cases e : q = b
        · left; rw [h1, e]
        · right; exact ⟨h1, by omega, by omega, h4⟩
    · rw [if_neg c, ih]
      constructor
      · rintro ⟨h1, h2, h3, h4⟩; exact ⟨h1, by omega, by omega, h4⟩
      · rintro ⟨h1, h2, h3, h4⟩
        have : q ≠ b := fun e => c (by rw [← e]; exact h4)
        exact ⟨h1, by omega, by omega, h4⟩
theorem mvA_mem {g : Nat → Nat → Bool} {P : Nat} : ∀ k a p q, (p, q) ∈ mvA g P k a ↔ a ≤ p ∧ p < a + k ∧ q < P ∧ g p q = true := by
  intro k
  induction k with
  | zero =>
    intro a p q
    constructor
    · intro h; cases h
    · rintro ⟨h1, h2, -⟩; omega
  | succ k ih =>
    intro a p q
    unfold mvA
    rw [List.mem_append, mvB_mem, ih]
    constructor
    · rintro (⟨h1, h2, h3, h4⟩ | ⟨h1, h2, h3, h4⟩)
      · subst h1; exact ⟨Nat.le_refl _, by omega, by omega, h4⟩
      · exact ⟨by omega, by omega, h3, h4⟩
    · rintro ⟨h1, h2, h3, h4⟩
      by_cases e : p = a
      · subst e; left; exact ⟨rfl, Nat.zero_le _, by omega, h4⟩
      · right; exact ⟨by omega, by omega, h3, h4⟩
theorem mvL_mem {n P : Nat} {kd ct sg : Nat → Nat} {x a b : Nat} : (a, b) ∈ mvL n P kd ct sg x ↔ (tgN n P kd ct sg x a b).isSome = true := by
  unfold mvL
  rw [mvA_mem]
  constructor
  · exact fun h => h.2.2.2
  · intro h
    obtain ⟨t, ht⟩ := Option.isSome_iff_exists.mp h
    unfold tgN at ht
    split at ht
    · next q => exact ⟨Nat.zero_le _, by omega, q.2.1, h⟩
    · cases ht
theorem mvB_len {g : Nat → Nat → Bool} {a : Nat} : ∀ k b, (mvB g a k b).length ≤ k := by
  intro k
  induction k with
  | zero => intro b; exact Nat.le_refl 0
  | succ k ih =>
    intro b
    unfold mvB
    have := ih (b + 1)
    split
    · rw [List.length_cons]; omega
    · omega
theorem mvA_len {g : Nat → Nat → Bool} {P : Nat} : ∀ k a, (mvA g P k a).length ≤ k * P := by
  intro k
  induction k with
  | zero => intro a; exact Nat.zero_le _
  | succ k ih =>
    intro a
    unfold mvA
    have h1 := mvB_len (g := g) (a := a) P 0
    have h2 := ih (a + 1)
    rw [List.length_append, Nat.succ_mul]
    omega
theorem mvL_len {n P : Nat} {kd ct sg : Nat → Nat} {x : Nat} (hP : P ≤ 5) : (mvL n P kd ct sg x).length ≤ 25 := by
  have h1 := mvA_len (g := fun a b => (tgN n P kd ct sg x a b).isSome) (P := P) P 0
  have h2 : P * P ≤ 5 * 5 := Nat.mul_le_mul hP hP
  unfold mvL
  omega
theorem mvB_nil {g : Nat → Nat → Bool} {a : Nat} : ∀ k b, (∀ q, b ≤ q → q < b + k → g a q = false) → mvB g a k b = [] := by
  intro k
  induction k with
  | zero => intro b _; rfl
  | succ k ih =>
    intro b h
    unfold mvB
    rw [if_neg (by rw [h b (Nat.le_refl _) (by omega)]; decide)]
    exact ih (b + 1) (fun q h1 h2 => h q (by omega) (by omega))
/-- the moves that are listed: those of L, in order -/
def SPL (T : CS) (n P : Nat) (kd ct sg : Nat → Nat) (x : Nat) (L : List (Nat × Nat)) : Prop := T.1 6 = nI L.length ∧ ∀ (i : Nat) (a b : Nat), L[i]? = some (a, b) → ∃ t, tgN n P kd ct sg x a b = some t ∧ T.2.1 17 i = nI (10 * a + b) ∧ T.2.1 18 i = nI t ∧ T.2.1 19 i = nI (ct (5 * a + b))
set_option maxHeartbeats 1000000 in
theorem k_spread (l : Launch) {S : CS} {n P : Nat} {kd ct sg : Nat → Nat} (hy : CY S n P kd ct sg) (hz : ∀ a, a < 5 → ct (5 * a + a) = 0) {x : Nat} (hx : x < P ^ n) (hk : LK S n P kd x) (post : CS → Prop) (hp : ∀ T, CFr sA sB nn S T → SPL T n P kd ct sg x (mvL n P kd ct sg x) → post T) : cX_X3_spread l S post := by
  have yP2 := hy.2.2.2.1
  refine c_X3_spread l S post ?_
  intro B7 B30 B107 B113 h7 h30 h107 h113
  unfold cT_X3_spread_e
  obtain ⟨g, hg⟩ : ∃ g : Nat → Nat → Bool, g = fun a b => (tgN n P kd ct sg x a b).isSome := ⟨_, rfl⟩
  have hml : mvL n P kd ct sg x = mvA g P P 0 := by rw [hg]; rfl
  have hgw : ∀ a b, a < P → b < P → (g a b = true ↔ whyN n kd ct sg (dgs P x) a b = 0) := by
    intro a b ha hb
    rw [hg]
    show (tgN n P kd ct sg x a b).isSome = true ↔ _
    unfold tgN
    by_cases w : whyN n kd ct sg (dgs P x) a b = 0
    · have hab : a ≠ b := by
        intro e
        rw [e] at w
        unfold whyN at w
        rw [if_pos (hz b (by omega))] at w
        exact absurd w (by decide)
      rw [if_pos ⟨ha, hb, hab, w⟩]
      exact ⟨fun _ => w, fun _ => rfl⟩
    · rw [if_neg (fun q => w q.2.2.2)]
      exact ⟨fun q => absurd q (by decide), fun q => absurd q w⟩
  -- the inner loop
  have e30 : ∀ a, a < P → ∀ k b, b + k = P → ∀ (T : CS) (L : List (Nat × Nat)), CFr sA sB nn S T → SPL T n P kd ct sg x L → L.length ≤ 5 * a + b → (∀ T', CFr sA sB nn S T' → SPL T' n P kd ct sg x (L ++ mvB g a k b) → B113 T' (nI a)) → B30 T (nI a) (nI b) := by
    intro a ha k
    induction k with
    | zero =>
      intro b hb T L fT sT _ next
      have : b = P := by omega
      subst this
      have hyT := hy.fr fT
      refine h30 _ _ _ ?_
      unfold cT_X3_spread_30
      rw [hyT.1]
      exact ⟨fun _ => next T fT (by rw [show mvB g a 0 b = [] from rfl, List.append_nil]; exact sT), fun q => absurd (nI_le (Nat.le_refl _) (by omega)) q⟩
    | succ k ih =>
      intro b hb T L fT sT hL next
      have hyT := hy.fr fT
      have hkT := hk.fr fT
      refine h30 _ _ _ ?_
      unfold cT_X3_spread_30
      rw [hyT.1]
      refine ⟨fun q => absurd q (nI_ge (by omega) (by omega)), fun _ => ?_⟩
      refine k_hind l hyT hkT (by omega) (by omega) _ ?_
      have hwl : whyN n kd ct sg (dgs P x) a b < 6 := by
        unfold whyN
        repeat' split
        all_goals omega
      have hgb := hgw a b ha (by omega)
      refine ⟨fun c => ?_, fun c => ?_⟩
      · have c1 : ¬ whyN n kd ct sg (dgs P x) a b = 0 := fun q => c (by rw [q]; rfl)
        refine h107 _ _ _ ?_
        unfold cT_X3_spread_107
        rw [← nI_succ]
        refine ih (b + 1) (by omega) T L fT sT (by omega) (fun T' f' s' => next T' f' ?_)
        have e : mvB g a (k + 1) b = mvB g a k (b + 1) := by
          conv => lhs; unfold mvB
          rw [if_neg (fun q => c1 (hgb.mp q))]
        rw [e]; exact s'
      · have c1 : whyN n kd ct sg (dgs P x) a b = 0 := (nI_is 0 rfl (by omega) (by omega)).mp c
        have hgt := hgb.mpr c1
        have htop := whyN_top c1
        have hlen : L.length < 25 := by omega
        have hab : a ≠ b := by
          intro e
          rw [e] at c1
          unfold whyN at c1
          rw [if_pos (hz b (by omega))] at c1
          exact absurd c1 (by decide)
        have htg : tgN n P kd ct sg x a b = some (packN (movN n kd (dgs P x) a b) P n 0) := by
          unfold tgN
          rw [if_pos ⟨ha, by omega, hab, c1⟩]
        have i6 : vp_in (T.1 6) 25 := by rw [sT.1]; exact vp_in_nI hlen (by omega)
        refine ⟨i6, ?_⟩
        have f1 : CFr sA sB nn S (ca T 17 (upd (T.2.1 17) (T.1 6).toNatClampNeg (10 * nI a + nI b))) := fT.ca _ rfl
        have k1 := hk.fr f1
        refine k_land l hx k1 (by omega) htop _ ⟨i6, ?_, i6, ?_⟩
        · rw [ix5]; exact vp_in_nI (by omega) (by omega)
        refine h107 _ _ _ ?_
        unfold cT_X3_spread_107
        rw [← nI_succ]
        have e1 : (ca T 17 (upd (T.2.1 17) (T.1 6).toNatClampNeg (10 * nI a + nI b))).1 6 = T.1 6 := rfl
        have e2 : (ca T 17 (upd (T.2.1 17) (T.1 6).toNatClampNeg (10 * nI a + nI b))).2.1 18 = T.2.1 18 := rfl
        have e3 : (ca T 17 (upd (T.2.1 17) (T.1 6).toNatClampNeg (10 * nI a + nI b))).2.1 19 = T.2.1 19 := rfl
        have e4 : (ca T 17 (upd (T.2.1 17) (T.1 6).toNatClampNeg (10 * nI a + nI b))).2.1 11 = T.2.1 11 := rfl
        rw [e1, e2, e3, e4, sT.1, ix5, nI_clamp (show L.length < 2 ^ 31 by omega), nI_clamp (show 5 * a + b < 2 ^ 31 by omega), (hyT.2.2.2.2.2.2.2.1 (5 * a + b) (by omega)).1]
        refine ih (b + 1) (by omega) _ (L ++ [(a, b)]) ?_ ?_ (by rw [List.length_append, List.length_singleton]; omega) (fun T' f' s' => next T' f' ?_)
        · exact (((fT.ca _ rfl).ca _ rfl).ca _ rfl).cf _ rfl
        · refine ⟨?_, fun i p q hi => ?_⟩
          · rw [cf_get, List.length_append, List.length_singleton, nI_1]
          · show ∃ t, tgN n P kd ct sg x p q = some t ∧ upd (T.2.1 17) L.length (10 * nI a + nI b) i = nI (10 * p + q) ∧ upd (T.2.1 18) L.length (nI (packN (movN n kd (dgs P x) a b) P n 0)) i = nI t ∧ upd (T.2.1 19) L.length (nI (ct (5 * a + b))) i = nI (ct (5 * p + q))
            by_cases e : i = L.length
            · subst e
              rw [List.getElem?_append_right (Nat.le_refl _), Nat.sub_self] at hi
              cases hi
              rw [upd_same, upd_same, upd_same]
              refine ⟨_, htg, ?_, rfl, rfl⟩
              rw [show (10 : Int32) = nI 10 from rfl, pk_mul, nI_add]
            · have hlt : i < L.length := by
                have := (List.getElem?_eq_some_iff.mp hi).1
                rw [List.length_append, List.length_singleton] at this
                omega
              rw [List.getElem?_append_left hlt] at hi
              rw [upd_other _ _ e, upd_other _ _ e, upd_other _ _ e]
              exact sT.2 i p q hi
        · have e : mvB g a (k + 1) b = (a, b) :: mvB g a k (b + 1) := by
            conv => lhs; unfold mvB
            rw [if_pos hgt]
          rw [e]
          rw [List.append_assoc] at s'
          exact s'
  have e7 : ∀ k a, a + k = P → ∀ (T : CS) (L : List (Nat × Nat)), CFr sA sB nn S T → SPL T n P kd ct sg x L → L.length ≤ 5 * a → L ++ mvA g P k a = mvL n P kd ct sg x → B7 T (nI a) := by
    intro k
    induction k with
    | zero =>
      intro a ha T L fT sT _ he
      have : a = P := by omega
      subst this
      refine h7 _ _ ?_
      unfold cT_X3_spread_7
      rw [(hy.fr fT).1]
      refine ⟨fun _ => hp T fT ?_, fun q => absurd (nI_le (Nat.le_refl _) (by omega)) q⟩
      rw [← he, show mvA g a 0 a = [] from rfl, List.append_nil]
      exact sT
    | succ k ih =>
      intro a ha T L fT sT hL he
      have next : ∀ T', CFr sA sB nn S T' → SPL T' n P kd ct sg x (L ++ mvB g a P 0) → B113 T' (nI a) := by
        intro T' f' s'
        refine h113 _ _ ?_
        unfold cT_X3_spread_113
        rw [← nI_succ]
        refine ih (a + 1) (by omega) T' _ f' s' ?_ ?_
        · have := mvB_len (g := g) (a := a) P 0
          rw [List.length_append]; omega
        · rw [List.append_assoc]; exact he
      refine h7 _ _ ?_
      unfold cT_X3_spread_7
      rw [(hy.fr fT).1, nI_clamp (show a < 2 ^ 31 by omega)]
      refine ⟨fun q => absurd q (nI_ge (by omega) (by omega)), fun _ => ⟨vp_in_nI (by omega) (by omega), fun c => ?_, fun c => ?_⟩⟩
      · exact e30 a (by omega) P 0 (by omega) T L fT sT (by omega) next
      · refine next T fT ?_
        have hkT := hk.fr fT
        have htn : topN (dgs P x) a n = n := by
          have := topN_le (dgs P x) a n
          rcases Nat.lt_or_ge (topN (dgs P x) a n) n with q | q
          · have := (LK.top hkT (show a < 5 by omega) q).1
            have hn7 := hy.2.2.2.2.1
            rw [c] at this
            exact absurd this.symm (nI_m1 (by omega))
          · omega
        rw [mvB_nil P 0 (fun q _ hq => ?_), List.append_nil]
        · exact sT
        · cases e : g a q with
          | false => rfl
          | true =>
            have w := (hgw a q (by omega) (by omega)).mp e
            have := whyN_top w
            omega
  refine e7 P 0 (by omega) _ [] (CFr.rf.cf _ rfl) ⟨cf_get _ _ _, fun i a b h => by cases h⟩ (Nat.zero_le _) ?_
  rw [hml]; rfl
