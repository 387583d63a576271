-- joined(): what is told of the sets that were found
def mxN (f : Nat → Nat) : Nat → Nat
  | 0 => 0
  | k + 1 => max (mxN f k) (f k)
theorem mxN_le {f : Nat → Nat} {B : Nat} : ∀ k, (∀ i, i < k → f i ≤ B) → mxN f k ≤ B := by
  intro k
  induction k with
  | zero => intro _; exact Nat.zero_le _
  | succ k ih =>
    intro h
    have h1 := ih (fun i hi => h i (by omega))
    have h2 := h k (by omega)
    show max (mxN f k) (f k) ≤ B
    omega
section Sets
variable {S : CS} {N m LK : Nat} {st : Nat → Option Nat} {sz lv : Nat → Nat}
theorem k_setSize (l : Launch) (h : KF S N m st sz lv) (hl : KL S LK) (hN : N ≤ LK) (hK : LK ≤ 20000) {x : Nat} (hx : x < N) (post : Int32 → CS → Prop) (hp : post (match st x with | none => 0 | some k => nI (sz k)) S) : cX_X2_sizeOfSet l S (nI x) post := by
  obtain ⟨h1, h2, h3, h4, h5, h6⟩ := h
  refine c_X2_sizeOfSet l S _ post ?_
  unfold cT_X2_sizeOfSet_e
  rw [nI_clamp (show x < 2 ^ 31 by omega), h3 x hx, hl.2.2.2.2.2.1]
  refine ⟨vp_in_nI (by omega) (by omega), fun v hv => ?_⟩
  subst hv
  cases e : st x with
  | none =>
    rw [e] at hp
    exact ⟨fun c => absurd rfl c, fun _ => hp⟩
  | some k =>
    rw [e] at hp
    have hk := h4 x k e
    refine ⟨fun _ => ?_, fun c => absurd c (nI_m1 (by omega))⟩
    show vp_in (nI k) _ ∧ post (S.2.1 36 (nI k).toNatClampNeg) S
    rw [nI_clamp (show k < 2 ^ 31 by omega), (h5 k hk).1, hl.2.2.2.2.2.2.1]
    exact ⟨vp_in_nI (by omega) (by omega), hp⟩
theorem k_closed (l : Launch) (h : KF S N m st sz lv) (hl : KL S LK) (hN : N ≤ LK) (hK : LK ≤ 20000) (post : Int32 → CS → Prop) (hp : post (nI (cntP (fun k => decide (lv k = 0)) m)) S) : cX_X2_countClosed l S post := by
  obtain ⟨h1, h2, h3, h4, h5, h6⟩ := h
  refine c_X2_countClosed l S post ?_
  intro B4 B24 h4' h24
  unfold cT_X2_countClosed_e
  have key : ∀ d k, k + d = m → B4 S (nI (cntP (fun k => decide (lv k = 0)) k)) (nI k) := by
    intro d
    induction d with
    | zero =>
      intro k hk
      have : k = m := by omega
      subst this
      refine h4' _ _ _ ?_
      unfold cT_X2_countClosed_4
      rw [h2]
      exact ⟨fun _ => hp, fun c => absurd (nI_le (Nat.le_refl _) (by omega)) c⟩
    | succ d ih =>
      intro k hk
      have hv := h6 k (by omega)
      have nxt := ih (k + 1) (by omega)
      refine h4' _ _ _ ?_
      unfold cT_X2_countClosed_4
      rw [h2, nI_clamp (show k < 2 ^ 31 by omega), hv.1, hl.2.2.2.2.2.2.2]
      refine ⟨fun c => absurd c (nI_ge (by omega) (by omega)), fun _ => ⟨vp_in_nI (by omega) (by omega), fun c => ?_, fun c => ?_⟩⟩
      · have c : ¬ lv k = 0 := fun z => c (by rw [z]; rfl)
        refine h24 _ _ _ ?_
        unfold cT_X2_countClosed_24
        rw [← nI_succ]
        unfold cntP at nxt
        simp only [decide_eq_false c] at nxt
        exact nxt
      · have c : lv k = 0 := (nI_is 0 rfl (by omega) (by omega)).mp c
        refine h24 _ _ _ ?_
        unfold cT_X2_countClosed_24
        rw [← nI_succ, ← nI_succ]
        unfold cntP at nxt
        simp only [decide_eq_true c] at nxt
        exact nxt
  exact key m 0 (by omega)
theorem k_greatS (l : Launch) (h : KF S N m st sz lv) (hl : KL S LK) (hN : N ≤ LK) (hK : LK ≤ 20000) (post : Int32 → CS → Prop) (hp : post (nI (mxN sz m)) S) : cX_X2_greatestSize l S post := by
  obtain ⟨h1, h2, h3, h4, h5, h6⟩ := h
  refine c_X2_greatestSize l S post ?_
  intro B4 h4'
  unfold cT_X2_greatestSize_e
  have key : ∀ d k, k + d = m → B4 S (nI (mxN sz k)) (nI k) := by
    intro d
    induction d with
    | zero =>
      intro k hk
      have : k = m := by omega
      subst this
      refine h4' _ _ _ ?_
      unfold cT_X2_greatestSize_4
      rw [h2]
      exact ⟨fun _ => hp, fun c => absurd (nI_le (Nat.le_refl _) (by omega)) c⟩
    | succ d ih =>
      intro k hk
      have hv := h5 k (by omega)
      have hb := mxN_le (f := sz) (B := N) k (fun i hi => (h5 i (by omega)).2)
      have nxt := ih (k + 1) (by omega)
      refine h4' _ _ _ ?_
      unfold cT_X2_greatestSize_4
      rw [h2, nI_clamp (show k < 2 ^ 31 by omega), hv.1, hl.2.2.2.2.2.2.1, ← nI_succ]
      refine ⟨fun c => absurd c (nI_ge (by omega) (by omega)), fun _ => ⟨vp_in_nI (by omega) (by omega), fun v hv' => ?_⟩⟩
      have e : v = nI (mxN sz (k + 1)) := by
        rw [hv']
        show _ = nI (max (mxN sz k) (sz k))
        by_cases c : mxN sz k < sz k
        · rw [if_pos (nI_lt c (by omega)), Nat.max_eq_right (by omega)]
        · rw [if_neg (nI_nlt (by omega) (by omega)), Nat.max_eq_left (by omega)]
      rw [e]
      exact nxt
  exact key m 0 (by omega)
end Sets
