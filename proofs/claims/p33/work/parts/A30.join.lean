section
-- class and reference hold the same yard
def rgt (n P : Nat) (kd : Nat → Nat) (x : Nat) : Bool := rightN kd (dgs P x) n n 0
def RB (S : CS) (M : MS) (n P : Nat) (kd ct sc sm : Nat → Nat) : Prop := CY S n P kd ct sc ∧ MY M n P kd ct sm ∧ (∀ j, j < 25 → ct j ≠ 0 → sc j = sm j) ∧ (∀ a b, a < 5 → b < 5 → (a = b ∨ P ≤ a ∨ P ≤ b) → ct (5 * a + b) = 0)
/-- a stand: its number, its row -/
def RS (n P : Nat) (kd : Nat → Nat) (v : Int32) (f : Nat → Int32) (x : Nat) : Prop := v = nI x ∧ x < P ^ n ∧ (∀ j, j < 7 → f j = nI (dgs P x j)) ∧ rgt n P kd x = true
/-- the moves that can be undone, and done again -/
def RP (n P : Nat) (kd : Nat → Nat) (d u : Int32) (ea la : Nat → Int32) (d' u' : Int32) (pa : Nat → Int32) : Prop := ∃ (p q : Nat) (g : Nat → Nat), p + q ≤ 200 ∧ d = nI p ∧ d' = nI p ∧ u = nI q ∧ u' = nI q ∧ (∀ i, i < p + q → g i < P ^ n ∧ rgt n P kd (g i) = true ∧ pa i = nI (g i)) ∧ (∀ i, i < p → ea i = nI (g i)) ∧ (∀ i, i < q → la i = nI (g (p + q - 1 - i)))
def RPl (len : Int32) (co : Nat → Int32) (cap : Nat) (len' : Int32) (co' : Nat → Int32) : Prop := ∃ L, L ≤ 20000 ∧ len = nI L ∧ len' = nI L ∧ (∀ i, i < L → co i = co' i) ∧ L ≤ cap ∧ 16 ≤ cap ∧ cap ≤ 40000
/-- the steps of the schemes: of which scheme, how much lower, the roles -/
def KSt (q : Nat) (of : Nat → Option Nat) (le ro : Nat → Nat) (cal les rol : Nat → Int32) (k : Nat) : Prop := (of k = none ∧ cal k = -1 ∧ ∀ j, j < 2 → ro (5 * k + j) < 5 ∧ rol (5 * k + j) = nI (ro (5 * k + j))) ∨ (∃ o, of k = some o ∧ o < q ∧ 1 ≤ le k ∧ le k ≤ 4 ∧ cal k = nI o ∧ les k = nI (le k) ∧ ∀ j, j < 5 → ro (5 * k + j) < 5 ∧ rol (5 * k + j) = nI (ro (5 * k + j)))
def KSc (q : Nat) (w : Nat → Nat) (of : Nat → Option Nat) (le ro : Nat → Nat) (made : Int32) (ln cal les rol : Nat → Int32) : Prop := q ≤ 8 ∧ made = nI q ∧ (∀ s, s < q → w s ≤ 8 ∧ ln s = nI (w s)) ∧ (∀ s i, s < q → i < w s → KSt q of le ro cal les rol (8 * s + i))
def RK (made : Int32) (ln cal les rol : Nat → Int32) (tal : Nat → Int64) (made' : Int32) (ln' cal' les' rol' : Nat → Int32) : Prop := (∃ q w of le ro, KSc q w of le ro made ln cal les rol ∧ KSc q w of le ro made' ln' cal' les' rol') ∧ (∀ s, s < 8 → tal s = 0)
def RC (S : CS) (n P : Nat) (kd ct sc : Nat → Nat) : Prop := ∃ LA, CL S LA ∧ LA ≤ 20000 ∧ (S.1 12 = -1 ∨ ∃ s0, S.1 12 = nI s0 ∧ s0 < P ^ n ∧ P ^ n ≤ LA ∧ SOK S n P kd ct sc s0)
def KL (S : CS) (LK : Nat) : Prop := S.2.2.2 30 = LK ∧ S.2.2.2 31 = LK ∧ S.2.2.2 32 = LK ∧ S.2.2.2 33 = LK ∧ S.2.2.2 34 = LK ∧ S.2.2.2 35 = LK ∧ S.2.2.2 36 = LK ∧ S.2.2.2 37 = LK
/-- the sets that were found -/
def KOK (S : CS) (n P : Nat) (kd ct sc : Nat → Nat) : Prop := ∃ m, m ≤ P ^ n ∧ S.1 18 = nI m ∧ ∀ x, x < P ^ n → S.2.1 35 x = -1 ∨ ∃ k, k < m ∧ S.2.1 35 x = nI k
def RN (S : CS) (n P : Nat) (kd ct sc : Nat → Nat) : Prop := ∃ LK, KL S LK ∧ LK ≤ 20000 ∧ (S.1 17 = 0 ∨ (S.1 17 = 1 ∧ P ^ n ≤ LK ∧ KOK S n P kd ct sc))
def Rl (S : CS) (M : MS) (n P : Nat) (kd ct sc sm : Nat → Nat) (x y : Nat) : Prop := RB S M n P kd ct sc sm ∧ RS n P kd (S.1 0) (M.2.1 2) x ∧ RS n P kd (S.1 1) (M.2.1 3) y ∧ S.1 2 = M.1 2 ∧ RP n P kd (S.1 9) (S.1 10) (S.2.1 20) (S.2.1 21) (M.1 4) (M.1 5) (M.2.1 6) ∧ RPl (S.1 11) (S.2.1 22) (S.2.2.2 22) (M.1 6) (M.2.1 7) ∧
  RK (S.1 19) (S.2.1 38) (S.2.1 39) (S.2.1 40) (S.2.1 41) (S.2.2.1 42) (M.1 9) (M.2.1 29) (M.2.1 30) (M.2.1 31) (M.2.1 32) ∧ ((∃ τ, MA M 8 τ) ∧ (∃ τ, MA M 9 τ)) ∧ RC S n P kd ct sc ∧ RN S n P kd ct sc
def Rel (S : CS) (M : MS) : Prop := ∃ n P kd ct sc sm x y, Rl S M n P kd ct sc sm x y
theorem SOK.fr {a b c : Nat → Bool} {S T : CS} {n P : Nat} {kd ct sg : Nat → Nat} {st : Nat} (h : SOK S n P kd ct sg st) (f : CFr a b c S T) (h13 : a 13 = false := by rfl) (h24 : b 24 = false := by rfl) (h25 : b 25 = false := by rfl) (h26 : b 26 = false := by rfl) : SOK T n P kd ct sg st := by
  unfold SOK
  rw [f.1 13 h13, (f.2.1 24 h24).1, (f.2.1 25 h25).2, (f.2.1 26 h26).1]
  exact h
theorem KL.fr {a b c : Nat → Bool} {S T : CS} {LK : Nat} (h : KL S LK) (f : CFr a b c S T) (h30 : c 30 = false := by rfl) (h31 : c 31 = false := by rfl) (h32 : c 32 = false := by rfl) (h33 : c 33 = false := by rfl) (h34 : c 34 = false := by rfl) (h35 : c 35 = false := by rfl) (h36 : c 36 = false := by rfl) (h37 : c 37 = false := by rfl) : KL T LK := by
  unfold KL
  rw [f.2.2 30 h30, f.2.2 31 h31, f.2.2 32 h32, f.2.2 33 h33, f.2.2 34 h34, f.2.2 35 h35, f.2.2 36 h36, f.2.2 37 h37]
  exact h
theorem KOK.fr {a b c : Nat → Bool} {S T : CS} {n P : Nat} {kd ct sg : Nat → Nat} (h : KOK S n P kd ct sg) (f : CFr a b c S T) (h18 : a 18 = false := by rfl) (h35 : b 35 = false := by rfl) : KOK T n P kd ct sg := by
  unfold KOK
  rw [f.1 18 h18, (f.2.1 35 h35).1]
  exact h
theorem RC.fr {a b c : Nat → Bool} {S T : CS} {n P : Nat} {kd ct sg : Nat → Nat} (h : RC S n P kd ct sg) (f : CFr a b c S T) (h12 : a 12 = false := by rfl) (h13 : a 13 = false := by rfl) (h24 : b 24 = false := by rfl) (h25 : b 25 = false := by rfl) (h26 : b 26 = false := by rfl) (c24 : c 24 = false := by rfl) (c25 : c 25 = false := by rfl) (c26 : c 26 = false := by rfl) (c27 : c 27 = false := by rfl) (c28 : c 28 = false := by rfl) (c29 : c 29 = false := by rfl) : RC T n P kd ct sg := by
  obtain ⟨LA, h1, h2, h3⟩ := h
  refine ⟨LA, h1.fr f c24 c25 c26 c27 c28 c29, h2, ?_⟩
  rw [f.1 12 h12]
  rcases h3 with h3 | ⟨s0, q1, q2, q3, q4⟩
  · exact Or.inl h3
  · exact Or.inr ⟨s0, q1, q2, q3, q4.fr f h13 h24 h25 h26⟩
theorem RN.fr {a b c : Nat → Bool} {S T : CS} {n P : Nat} {kd ct sg : Nat → Nat} (h : RN S n P kd ct sg) (f : CFr a b c S T) (h17 : a 17 = false := by rfl) (h18 : a 18 = false := by rfl) (h35 : b 35 = false := by rfl) (c30 : c 30 = false := by rfl) (c31 : c 31 = false := by rfl) (c32 : c 32 = false := by rfl) (c33 : c 33 = false := by rfl) (c34 : c 34 = false := by rfl) (c35 : c 35 = false := by rfl) (c36 : c 36 = false := by rfl) (c37 : c 37 = false := by rfl) : RN T n P kd ct sg := by
  obtain ⟨LK, h1, h2, h3⟩ := h
  refine ⟨LK, h1.fr f c30 c31 c32 c33 c34 c35 c36 c37, h2, ?_⟩
  rw [f.1 17 h17]
  rcases h3 with h3 | ⟨q1, q2, q3⟩
  · exact Or.inl h3
  · exact Or.inr ⟨q1, q2, q3.fr f h18 h35⟩
section RlS
variable {S T : CS} {M N : MS} {n P x y : Nat} {kd ct sc sm : Nat → Nat}
/-- the look alone has changed -/
theorem Rl.look (h : Rl S M n P kd ct sc sm x y) (f : CFr lA lB nn S T) : Rl T M n P kd ct sc sm x y := by
  obtain ⟨⟨b1, b2, b3, b4⟩, h2, h3, h4, h5, h6, h7, h8, h9, h10⟩ := h
  refine ⟨⟨b1.fr f, b2, b3, b4⟩, ?_, ?_, ?_, ?_, ?_, ?_, h8, h9.fr f, h10.fr f⟩
  · rw [f.1 0 rfl]; exact h2
  · rw [f.1 1 rfl]; exact h3
  · rw [f.1 2 rfl]; exact h4
  · rw [f.1 9 rfl, f.1 10 rfl, (f.2.1 20 rfl).1, (f.2.1 21 rfl).1]; exact h5
  · rw [f.1 11 rfl, (f.2.1 22 rfl).1, f.2.2 22 rfl]; exact h6
  · rw [f.1 19 rfl, (f.2.1 38 rfl).1, (f.2.1 39 rfl).1, (f.2.1 40 rfl).1, (f.2.1 41 rfl).1, (f.2.1 42 rfl).2]; exact h7
/-- the reference's scratch rows alone have changed -/
theorem Rl.scr (h : Rl S M n P kd ct sc sm x y) (f : MK M N) : Rl S N n P kd ct sc sm x y := by
  obtain ⟨⟨b1, b2, b3, b4⟩, h2, h3, h4, h5, h6, h7, -, h9, h10⟩ := h
  refine ⟨⟨b1, f.my b2, b3, b4⟩, ?_, ?_, ?_, ?_, ?_, ?_, f.2.2, h9, h10⟩
  · rw [f.2.1 2 (by decide)]; exact h2
  · rw [f.2.1 3 (by decide)]; exact h3
  · rw [f.1 2 (by decide) (by decide) (by decide)]; exact h4
  · rw [f.1 4 (by decide) (by decide) (by decide), f.1 5 (by decide) (by decide) (by decide), f.2.1 6 (by decide)]; exact h5
  · rw [f.1 6 (by decide) (by decide) (by decide), f.2.1 7 (by decide)]; exact h6
  · rw [f.1 9 (by decide) (by decide) (by decide), f.2.1 29 (by decide), f.2.1 30 (by decide), f.2.1 31 (by decide), f.2.1 32 (by decide)]; exact h7
theorem Rl.th (h : Rl S M n P kd ct sc sm x y) (v : Int32) : Rl S (mf M 3 v) n P kd ct sc sm x y := h.scr ⟨fun k a _ _ => mf_get_ne _ _ a, fun _ _ => rfl, h.2.2.2.2.2.2.2.1⟩
/-- the trouble is told -/
theorem Rl.tr (h : Rl S M n P kd ct sc sm x y) (v : Int32) : Rl (cf S 2 v) (mf M 2 v) n P kd ct sc sm x y := by
  obtain ⟨⟨b1, b2, b3, b4⟩, h2, h3, h4, h5, h6, h7, h8, h9, h10⟩ := h
  exact ⟨⟨b1, b2.mf v (by decide) (by decide), b3, b4⟩, h2, h3, rfl, h5, h6, h7, h8, h9, h10⟩
theorem Rl.P2 (h : Rl S M n P kd ct sc sm x y) : 2 ≤ P ∧ P ≤ 5 := h.1.1.2.2.2.1
theorem Rl.n2 (h : Rl S M n P kd ct sc sm x y) : 1 ≤ n ∧ n ≤ 7 := h.1.1.2.2.2.2.1
theorem Rl.cy (h : Rl S M n P kd ct sc sm x y) : CY S n P kd ct sc := h.1.1
theorem Rl.my (h : Rl S M n P kd ct sc sm x y) : MY M n P kd ct sm := h.1.2.1
theorem Rl.xa (h : Rl S M n P kd ct sc sm x y) : MA M 2 (dgs P x) := fun j hj => ⟨h.2.1.2.2.1 j hj, by have := dgs_lt (P := P) (by have := h.P2; omega) x j; have := h.P2; omega⟩
theorem Rl.ya (h : Rl S M n P kd ct sc sm x y) : MA M 3 (dgs P y) := fun j hj => ⟨h.2.2.1.2.2.1 j hj, by have := dgs_lt (P := P) (by have := h.P2; omega) y j; have := h.P2; omega⟩
theorem Rl.hx (h : Rl S M n P kd ct sc sm x y) : x < P ^ n := h.2.1.2.1
theorem Rl.hy (h : Rl S M n P kd ct sc sm x y) : y < P ^ n := h.2.2.1.2.1
theorem Rl.sx (h : Rl S M n P kd ct sc sm x y) : S.1 0 = nI x := h.2.1.1
theorem Rl.sy (h : Rl S M n P kd ct sc sm x y) : S.1 1 = nI y := h.2.2.1.1
theorem Rl.m8 (h : Rl S M n P kd ct sc sm x y) : ∃ τ, MA M 8 τ := h.2.2.2.2.2.2.2.1.1
theorem Rl.m9 (h : Rl S M n P kd ct sc sm x y) : ∃ τ, MA M 9 τ := h.2.2.2.2.2.2.2.1.2
theorem Rl.dz (h : Rl S M n P kd ct sc sm x y) : ∀ a, a < 5 → ct (5 * a + a) = 0 := fun a ha => h.1.2.2.2 a a ha ha (Or.inl rfl)
/-- WHY and the moves are the same on both sides -/
theorem Rl.why (h : Rl S M n P kd ct sc sm x y) (σ : Nat → Nat) {a b : Nat} (ha : a < 5) (hb : b < 5) : whyN n kd ct sc σ a b = whyN n kd ct sm σ a b := by
  unfold whyN
  by_cases e : ct (5 * a + b) = 0
  · rw [if_pos e, if_pos e]
  · rw [h.1.2.2.1 (5 * a + b) (by omega) e]
theorem Rl.tg (h : Rl S M n P kd ct sc sm x y) : tgN n P kd ct sc = tgN n P kd ct sm := by
  funext s a b
  unfold tgN
  by_cases e : a < P ∧ b < P
  · have hP := h.P2
    rw [h.why (dgs P s) (show a < 5 by omega) (show b < 5 by omega)]
  · rw [if_neg (fun q => e ⟨q.1, q.2.1⟩), if_neg (fun q => e ⟨q.1, q.2.1⟩)]
theorem Rl.mv (h : Rl S M n P kd ct sc sm x y) : mvL n P kd ct sc = mvL n P kd ct sm := by
  funext s
  unfold mvL
  rw [h.tg]
end RlS
-- the class's small methods
theorem k_refuse (l : Launch) (S : CS) (a : Int32) (post : Bool → CS → Prop) (h : post false (cf S 2 a)) : cX_X8_refuse l S a post := c_X8_refuse l S a post h
theorem k_accept (l : Launch) (S : CS) (post : Bool → CS → Prop) (h : post true (cf S 2 0)) : cX_X8_accept l S post := c_X8_accept l S post h
theorem k_none (l : Launch) (S : CS) (a : Int32) (post : Int32 → CS → Prop) (h : post (-1) (cf S 2 a)) : cX_X8_none l S a post := c_X8_none l S a post h
theorem k_forget (l : Launch) (S : CS) (post : CS → Prop) (h : post (cf (cf S 9 0) 10 0)) : cX_X4_forget l S post := c_X4_forget l S post h
theorem k_forgetAll (l : Launch) (S : CS) (post : CS → Prop) (h : post (cf (cf (cf (cf S 9 0) 10 0) 12 (-1)) 17 0)) : cX_X8_forgetAll l S post := by
  refine c_X8_forgetAll l S post ?_
  unfold cT_X8_forgetAll_e
  exact c_X4_forget l _ _ (c_X6_forget l _ _ (c_X2_forget l _ _ h))
/-- a number from 0 on, below N -/
theorem k_below {a : Int32} {N : Nat} (hN : N < 2 ^ 31) {A B : Prop} (h0 : (¬ ∃ i, i < N ∧ a = nI i) → A) (h1 : ∀ i, i < N → a = nI i → B) : (a < 0 → A) ∧ (¬ a < 0 → (nI N ≤ a → A) ∧ (¬ nI N ≤ a → B)) := by
  refine ⟨fun c => h0 ?_, fun c => ⟨fun c2 => h0 ?_, fun c2 => ?_⟩⟩
  · rintro ⟨i, hi, rfl⟩
    exact absurd c (nI_pos (by omega))
  · rintro ⟨i, hi, rfl⟩
    exact absurd c2 (nI_ge hi hN)
  · obtain ⟨j, hj, e⟩ := nI_of c
    subst e
    refine h1 j ?_ rfl
    rcases Nat.lt_or_ge j N with q | q
    · exact q
    · exact absurd (nI_le q hj) c2
theorem k_isPeg (l : Launch) {S : CS} {P : Nat} (hP : S.1 3 = nI P) (hP5 : P ≤ 5) (a : Int32) (post : Bool → CS → Prop) (h0 : (¬ ∃ i, i < P ∧ a = nI i) → post false S) (h1 : ∀ i, i < P → a = nI i → post true S) : cX_X0_isPeg l S a post := by
  refine c_X0_isPeg l S a post ?_
  unfold cT_X0_isPeg_e
  rw [hP]
  exact k_below (by omega) h0 h1
theorem k_isDisc (l : Launch) {S : CS} {n : Nat} (hn : S.1 4 = nI n) (hn7 : n ≤ 7) (a : Int32) (post : Bool → CS → Prop) (h0 : (¬ ∃ i, i < n ∧ a = nI i) → post false S) (h1 : ∀ i, i < n → a = nI i → post true S) : cX_X0_isDisc l S a post := by
  refine c_X0_isDisc l S a post ?_
  unfold cT_X0_isDisc_e
  rw [hn]
  exact k_below (by omega) h0 h1
theorem k_has (l : Launch) {S : CS} {q : Nat} (hq : S.1 19 = nI q) (hq8 : q ≤ 8) (a : Int32) (post : Bool → CS → Prop) (h0 : (¬ ∃ i, i < q ∧ a = nI i) → post false S) (h1 : ∀ i, i < q → a = nI i → post true S) : cX_X1_has l S a post := by
  refine c_X1_has l S a post ?_
  unfold cT_X1_has_e
  rw [hq]
  exact k_below (by omega) h0 h1
/-- the reference's in(), of a range from L to H -/
theorem in_rng {a : Int32} {L H : Nat} (hL : L < 2 ^ 31) (hH : H < 2 ^ 31) : (nI L ≤ a ∧ a ≤ nI H) ↔ ∃ i, L ≤ i ∧ i ≤ H ∧ a = nI i := by
  constructor
  · rintro ⟨h1, h2⟩
    have h0 : ¬ a < 0 := by
      have q1 := Int32.le_iff_toInt_le.mp h1
      rw [nI_toInt hL] at q1
      intro q
      have q2 := Int32.lt_iff_toInt_lt.mp q
      have q3 : (0 : Int32).toInt = 0 := by decide
      omega
    obtain ⟨j, hj, rfl⟩ := nI_of h0
    exact ⟨j, (nI_leI hL hj).mp h1, (nI_leI hj hH).mp h2, rfl⟩
  · rintro ⟨i, h1, h2, rfl⟩
    exact ⟨nI_le h1 (by omega), nI_le h2 hH⟩
theorem s_inC (l : Launch) (S : MS) (a b c : Int32) (post : Bool → MS → Prop) {L H : Nat} (hb : b = nI L) (hc : c = nI H) (hL : L < 2 ^ 31) (hH : H < 2 ^ 31) (h0 : (¬ ∃ i, L ≤ i ∧ i ≤ H ∧ a = nI i) → post false S) (h1 : ∀ i, L ≤ i → i ≤ H → a = nI i → post true S) : mX_in l S a b c post := by
  refine s_in l S a b c post ?_
  rw [hb, hc]
  by_cases q : ∃ i, L ≤ i ∧ i ≤ H ∧ a = nI i
  · rw [decide_eq_true ((in_rng hL hH).mpr q)]
    obtain ⟨i, q1, q2, q3⟩ := q
    exact h1 i q1 q2 q3
  · rw [decide_eq_false (fun w => q ((in_rng hL hH).mp w))]
    exact h0 q
/-- in(), from 0 to N - 1 -/
theorem s_inB (l : Launch) (S : MS) (a c : Int32) (post : Bool → MS → Prop) {N : Nat} (hc : c = nI N - 1) (hN : N < 2 ^ 31) (h0 : (¬ ∃ i, i < N ∧ a = nI i) → post false S) (h1 : ∀ i, i < N → a = nI i → post true S) : mX_in l S a 0 c post := by
  rcases Nat.eq_zero_or_pos N with e | e
  · subst e
    refine s_in l S a 0 c post ?_
    have : c = -1 := by rw [hc]; decide
    rw [decide_eq_false]
    · exact h0 (fun ⟨i, hi, _⟩ => absurd hi (Nat.not_lt_zero _))
    · rintro ⟨q1, q2⟩
      rw [this] at q2
      have w1 := Int32.le_iff_toInt_le.mp q1
      have w2 := Int32.le_iff_toInt_le.mp q2
      have w3 : (0 : Int32).toInt = 0 := by decide
      have w4 : (-1 : Int32).toInt = -1 := by decide
      omega
  · obtain ⟨M, rfl⟩ : ∃ M, N = M + 1 := ⟨N - 1, by omega⟩
    rw [nI_pred] at hc
    refine s_inC l S a 0 c post (L := 0) (H := M) rfl hc (by decide) (by omega) (fun q => h0 (fun ⟨i, hi, e⟩ => q ⟨i, Nat.zero_le _, by omega, e⟩)) (fun i _ hi e => h1 i (by omega) e)
-- frames of the reference
def MFx (a b : Nat → Bool) (S T : MS) : Prop := (∀ k, a k = false → T.1 k = S.1 k) ∧ (∀ k, b k = false → T.2.1 k = S.2.1 k)
section MFxS
variable {a b a' b' : Nat → Bool} {S T U : MS}
theorem MFx.rf : MFx a b S S := ⟨fun _ _ => rfl, fun _ _ => rfl⟩
theorem MFx.tr (h1 : MFx a b S T) (h2 : MFx a b T U) : MFx a b S U := ⟨fun k hk => (h2.1 k hk).trans (h1.1 k hk), fun k hk => (h2.2 k hk).trans (h1.2 k hk)⟩
theorem MFx.sc (h : MFx a b S T) {k : Nat} (v : Int32) (hk : a k = true) : MFx a b S (mf T k v) := ⟨fun j hj => by rw [mf_get_ne _ _ (fun e => by rw [e, hk] at hj; cases hj)]; exact h.1 j hj, h.2⟩
theorem MFx.row (h : MFx a b S T) {k : Nat} (f : Nat → Int32) (hk : b k = true) : MFx a b S (ma T k f) := ⟨h.1, fun j hj => by rw [ma_get_ne _ _ (fun e => by rw [e, hk] at hj; cases hj)]; exact h.2 j hj⟩
theorem MFx.lng (h : MFx a b S T) {k : Nat} (f : Nat → Int64) : MFx a b S (ml T k f) := h
end MFxS
/-- nothing can be undone -/
theorem RP0 {n P : Nat} {kd : Nat → Nat} {ea la pa : Nat → Int32} : RP n P kd 0 0 ea la 0 0 pa := ⟨0, 0, fun _ => 0, by omega, rfl, rfl, rfl, rfl, fun i hi => absurd hi (by omega), fun i hi => absurd hi (by omega), fun i hi => absurd hi (by omega)⟩
theorem RC.none {S T : CS} {n P n' P' : Nat} {kd ct sc kd' ct' sc' : Nat → Nat} (h : RC S n P kd ct sc) (h1 : T.2.2.2 = S.2.2.2) (h12 : T.1 12 = -1) : RC T n' P' kd' ct' sc' := by
  obtain ⟨LA, h1', h2, -⟩ := h
  exact ⟨LA, by unfold CL; rw [h1]; exact h1', h2, Or.inl h12⟩
theorem RN.none {S T : CS} {n P n' P' : Nat} {kd ct sc kd' ct' sc' : Nat → Nat} (h : RN S n P kd ct sc) (h1 : T.2.2.2 = S.2.2.2) (h17 : T.1 17 = 0) : RN T n' P' kd' ct' sc' := by
  obtain ⟨LK, h1', h2, -⟩ := h
  exact ⟨LK, by unfold KL; rw [h1]; exact h1', h2, Or.inl h17⟩
end
section
-- yard()
def bA : Nat → Bool := fun k => decide (3 ≤ k) && decide (k ≤ 5)
def bB : Nat → Bool := fun k => decide (9 ≤ k) && decide (k ≤ 11)
theorem k_begin (l : Launch) {S : CS} {n P : Nat} {sc : Nat → Nat} (hP : 2 ≤ P ∧ P ≤ 5) (hn : 1 ≤ n ∧ n ≤ 7) (hs : ∀ j, j < 25 → S.2.1 12 j = nI (sc j) ∧ sc j ≤ 1) (post : CS → Prop) (h : ∀ T, CFr bA bB nn S T → CY T n P (fun _ => 0) (fun _ => 0) sc → post T) : cX_X0_begin l S (nI P) (nI n) post := by
  refine c_X0_begin l S _ _ post ?_
  intro B17 B54 h17 h54
  unfold cT_X0_begin_e
  have e54 : ∀ T, CFr bA bB nn S T → T.1 3 = nI P → T.1 4 = nI n → T.1 5 = nI (P ^ n) → (∀ i, i < n → T.2.1 9 i = nI (P ^ i)) → B54 T := by
    intro T fT t3 t4 t5 t9
    refine h54 _ ?_
    unfold cT_X0_begin_54
    refine h _ ((fT.ca _ rfl).ca _ rfl) ⟨t3, t4, t5, hP, hn, t9, fun j hj => ⟨?_, Nat.zero_le _⟩, fun j hj => ⟨?_, Nat.zero_le _⟩, fun j hj => ?_⟩
    · show filI (T.2.1 10) 7 0 j = nI 0
      unfold filI
      rw [if_pos hj]; rfl
    · show filI (T.2.1 11) 25 0 j = nI 0
      unfold filI
      rw [if_pos hj]; rfl
    · show T.2.1 12 j = _ ∧ _
      rw [(fT.2.1 12 rfl).1]
      exact hs j hj
  have key : ∀ d j, j + d = n → ∀ T, CFr bA bB nn S T → T.1 3 = nI P → T.1 4 = nI n → T.1 5 = nI (P ^ j) → (∀ i, i < j → T.2.1 9 i = nI (P ^ i)) → B17 T (nI j) := by
    intro d
    induction d with
    | zero =>
      intro j hj T fT t3 t4 t5 t9
      have : j = n := by omega
      subst this
      have e := e54 T fT t3 t4 t5 t9
      refine h17 _ _ ?_
      unfold cT_X0_begin_17
      exact ⟨fun _ => e, fun _ => ⟨fun _ => e, fun q => absurd (nI_le (Nat.le_refl _) (by omega)) q⟩⟩
    | succ d ih =>
      intro j hj T fT t3 t4 t5 t9
      refine h17 _ _ ?_
      unfold cT_X0_begin_17
      rw [nI_clamp (show j < 2 ^ 31 by omega), t5, pk_mul, ← Nat.pow_succ, ← nI_succ]
      refine ⟨fun q => absurd q (nI_ge (a := j) (b := 7) (by omega) (by omega)), fun _ => ⟨fun q => absurd q (nI_ge (by omega) (by omega)), fun _ => ⟨vp_in_nI (by omega) (by omega), ih (j + 1) (by omega) _ ((fT.ca _ rfl).cf _ rfl) t3 t4 (cf_get _ _ _) (fun i hi => ?_)⟩⟩⟩
      show upd (T.2.1 9) j (nI (P ^ j)) i = _
      by_cases e : i = j
      · subst e; exact upd_same _ _ _
      · rw [upd_other _ _ e]; exact t9 i (by omega)
  exact key n 0 (by omega) _ (((CFr.rf.cf _ rfl).cf _ rfl).cf _ rfl) rfl rfl rfl (fun i hi => absurd hi (Nat.not_lt_zero _))
/-- the reference's yard: scalars 0 to 5, rows 1 to 5 -/
def yA : Nat → Bool := fun k => decide (k ≤ 5)
def yB : Nat → Bool := fun k => decide (1 ≤ k) && decide (k ≤ 5)
theorem s_yard (l : Launch) {M : MS} (a b : Int32) (post : Bool → MS → Prop) (h0 : (¬ ((∃ i, 2 ≤ i ∧ i ≤ 5 ∧ a = nI i) ∧ ∃ j, 1 ≤ j ∧ j ≤ 7 ∧ b = nI j)) → post false (mf (mf M 3 0) 2 1))
    (h1 : ∀ P n, 2 ≤ P → P ≤ 5 → 1 ≤ n → n ≤ 7 → a = nI P → b = nI n → ∀ T, MFx yA yB M T → MY T n P (fun _ => 0) (fun _ => 0) (fun _ => 0) → (∀ j, j < 7 → T.2.1 2 j = nI 0 ∧ T.2.1 3 j = nI 0) → T.1 4 = 0 → T.1 5 = 0 → T.1 2 = 0 → post true T) : mX_yard l M a b post := by
  refine m_yard l M a b post ?_
  intro B26 B44 B79 h26 h44 h79
  unfold mT_yard_e
  have no : ∀ T, T = mf M 3 0 → (¬ ((∃ i, 2 ≤ i ∧ i ≤ 5 ∧ a = nI i) ∧ ∃ j, 1 ≤ j ∧ j ≤ 7 ∧ b = nI j)) → B26 T := by
    intro T e q
    refine h26 _ ?_
    unfold mT_yard_26
    rw [e]
    exact s_not l _ 1 _ (h0 q)
  refine s_inC l _ a 2 5 _ (L := 2) (H := 5) rfl rfl (by decide) (by decide) (fun q => ⟨fun _ => no _ rfl (fun w => q w.1), fun w => absurd rfl w⟩) (fun P hP1 hP2 ea => ⟨fun w => absurd w (by decide), fun _ => ?_⟩)
  refine s_inC l _ b 1 7 _ (L := 1) (H := 7) rfl rfl (by decide) (by decide) (fun q => ⟨fun w => absurd rfl w, fun _ => no _ rfl (fun w => q w.2)⟩) (fun n hn1 hn2 eb => ⟨fun _ => ?_, fun w => absurd w (by decide)⟩)
  have g1 := h1 P n hP1 hP2 hn1 hn2 ea eb
  have e79 : ∀ d k, k + d = 25 → ∀ T, MFx yA yB M T → T.1 0 = nI P → T.1 1 = nI n → (∀ j, j < 7 → T.2.1 1 j = nI 0 ∧ T.2.1 2 j = nI 0 ∧ T.2.1 3 j = nI 0) → (∀ j, j < k → T.2.1 4 j = nI 0 ∧ T.2.1 5 j = nI 0) → B79 T (nI k) := by
    intro d
    induction d with
    | zero =>
      intro k hk T fT t0 t1 tz tl
      have : k = 25 := by omega
      subst this
      refine h79 _ _ ?_
      unfold mT_yard_79
      refine ⟨fun _ => s_nothingUndone l T _ ?_, fun q => absurd (show (25 : Int32) ≤ nI 25 by decide) q⟩
      refine g1 _ (((fT.sc _ rfl).sc _ rfl).sc _ rfl) ⟨t0, t1, ⟨hP1, hP2⟩, ⟨hn1, hn2⟩, fun j hj => ⟨(tz j hj).1, Nat.zero_le _⟩, fun j hj => ⟨(tl j hj).1, Nat.zero_le _⟩, fun j hj => ⟨(tl j hj).2, Nat.zero_le _⟩⟩ (fun j hj => (tz j hj).2) rfl rfl rfl
    | succ d ih =>
      intro k hk T fT t0 t1 tz tl
      refine h79 _ _ ?_
      unfold mT_yard_79
      refine ⟨fun q => absurd q (nI_ge (a := k) (b := 25) (by omega) (by omega)), fun _ => ⟨vp_in_nI (by omega) (by omega), vp_in_nI (by omega) (by omega), ?_⟩⟩
      rw [← nI_succ, nI_clamp (show k < 2 ^ 31 by omega)]
      refine ih (k + 1) (by omega) _ ((fT.row _ rfl).row _ rfl) t0 t1 tz (fun j hj => ?_)
      show upd (T.2.1 4) k 0 j = nI 0 ∧ upd (T.2.1 5) k (vp_nar .boolean 0) j = nI 0
      by_cases e : j = k
      · subst e; rw [upd_same, upd_same]; exact ⟨rfl, rfl⟩
      · rw [upd_other _ _ e, upd_other _ _ e]; exact tl j (by omega)
  have e44 : ∀ d k, k + d = 7 → ∀ T, MFx yA yB M T → T.1 0 = nI P → T.1 1 = nI n → (∀ j, j < k → T.2.1 1 j = nI 0 ∧ T.2.1 2 j = nI 0 ∧ T.2.1 3 j = nI 0) → B44 T (nI k) := by
    intro d
    induction d with
    | zero =>
      intro k hk T fT t0 t1 tz
      have : k = 7 := by omega
      subst this
      refine h44 _ _ ?_
      unfold mT_yard_44
      exact ⟨fun _ => e79 25 0 (by omega) T fT t0 t1 tz (fun j hj => absurd hj (Nat.not_lt_zero _)), fun q => absurd (show (7 : Int32) ≤ nI 7 by decide) q⟩
    | succ d ih =>
      intro k hk T fT t0 t1 tz
      refine h44 _ _ ?_
      unfold mT_yard_44
      refine ⟨fun q => absurd q (nI_ge (a := k) (b := 7) (by omega) (by omega)), fun _ => ⟨vp_in_nI (by omega) (by omega), vp_in_nI (by omega) (by omega), vp_in_nI (by omega) (by omega), ?_⟩⟩
      rw [← nI_succ, nI_clamp (show k < 2 ^ 31 by omega)]
      refine ih (k + 1) (by omega) _ (((fT.row _ rfl).row _ rfl).row _ rfl) t0 t1 (fun j hj => ?_)
      show upd (T.2.1 1) k 0 j = nI 0 ∧ upd (T.2.1 2) k 0 j = nI 0 ∧ upd (T.2.1 3) k 0 j = nI 0
      by_cases e : j = k
      · subst e; rw [upd_same, upd_same, upd_same]; exact ⟨rfl, rfl, rfl⟩
      · rw [upd_other _ _ e, upd_other _ _ e, upd_other _ _ e]; exact tz j (by omega)
  exact e44 7 0 (by omega) _ (((MFx.rf.sc _ rfl).sc _ rfl).sc _ rfl) ea eb (fun j hj => absurd hj (Nat.not_lt_zero _))
theorem rightN_plain {σ : Nat → Nat} {n : Nat} : ∀ t d, rightN (fun _ => 0) σ n t d = true := by
  intro t
  induction t with
  | zero => intro d; rfl
  | succ t ih => intro d; unfold rightN; rw [ih]; simp [okD]
theorem dgs0 (P j : Nat) : dgs P 0 j = 0 := by unfold dgs; rw [Nat.zero_div, Nat.zero_mod]
/-- a call's end: the answers are the same, and so is what is held; no length has changed -/
def OKr {α : Type} (S : CS) (r1 : α) (S1 : CS) (r2 : α) (M1 : MS) : Prop := r1 = r2 ∧ Rel S1 M1 ∧ S1.2.2.2 = S.2.2.2
theorem lens_eq {a b : Nat → Bool} {S T : CS} (f : CFr a b nn S T) : T.2.2.2 = S.2.2.2 := funext fun k => f.2.2 k rfl
section OpsS
variable {S : CS} {M : MS} {n P x y : Nat} {kd ct sc sm : Nat → Nat}
theorem o_yard (l : Launch) (h : Rl S M n P kd ct sc sm x y) (a b : Int32) : cX_X8_yard l S a b (fun r1 S1 => mX_yard l M a b (fun r2 M1 => OKr S r1 S1 r2 M1)) := by
  refine c_X8_yard l S a b _ ?_
  intro B21 h21
  unfold cT_X8_yard_e
  have no : (¬ ((∃ i, 2 ≤ i ∧ i ≤ 5 ∧ a = nI i) ∧ ∃ j, 1 ≤ j ∧ j ≤ 7 ∧ b = nI j)) → B21 S := by
    intro q
    refine h21 _ ?_
    unfold cT_X8_yard_21
    refine k_refuse l S 1 _ (s_yard l a b _ (fun _ => ⟨rfl, ⟨n, P, kd, ct, sc, sm, x, y, (h.th 0).tr 1⟩, rfl⟩) (fun P' n' p1 p2 n1 n2 ea eb => absurd ⟨⟨P', p1, p2, ea⟩, ⟨n', n1, n2, eb⟩⟩ q))
  by_cases q : (∃ i, 2 ≤ i ∧ i ≤ 5 ∧ a = nI i) ∧ ∃ j, 1 ≤ j ∧ j ≤ 7 ∧ b = nI j
  · obtain ⟨⟨P', p1, p2, ea⟩, ⟨n', n1, n2, eb⟩⟩ := q
    subst ea
    subst eb
    refine ⟨fun w => absurd w (nI_nlt (b := 2) p1 (by omega)), fun _ => ⟨fun w => absurd w (nI_nlt (a := 5) p2 (by omega)), fun _ => ⟨fun w => absurd w (nI_nlt (b := 1) n1 (by omega)), fun _ => ⟨fun _ => ?_, fun w => absurd (nI_le (b := 7) n2 (by omega)) w⟩⟩⟩⟩
    refine k_begin l ⟨p1, p2⟩ ⟨n1, n2⟩ h.1.1.2.2.2.2.2.2.2.2 _ (fun T fT hT => ?_)
    refine k_forgetAll l _ _ (k_accept l _ _ ?_)
    refine s_yard l _ _ _ (fun w => absurd ⟨⟨P', p1, p2, rfl⟩, ⟨n', n1, n2, rfl⟩⟩ w) (fun P2 m2 q1 q2 q3 q4 ea eb N fN hN hz n4 n5 n2' => ?_)
    have e1 : P' = P2 := (nI_eq (by omega) (by omega)).mp ea
    have e2 : n' = m2 := (nI_eq (by omega) (by omega)).mp eb
    subst e1
    subst e2
    have hle : T.2.2.2 = S.2.2.2 := lens_eq fT
    refine ⟨rfl, ⟨n', P', fun _ => 0, fun _ => 0, sc, fun _ => 0, 0, 0, ?_⟩, hle⟩
    have hst : ∀ f : Nat → Int32, (∀ j, j < 7 → f j = nI 0) → RS n' P' (fun _ => 0) 0 f 0 := fun f hf => ⟨rfl, Nat.pow_pos (by omega), fun j hj => by rw [dgs0]; exact hf j hj, rightN_plain _ _⟩
    obtain ⟨-, -, -, -, h5, h6, h7, ⟨⟨τ, h8⟩, ⟨ρ, h8'⟩⟩, h9, h10⟩ := h
    refine ⟨⟨hT, hN, fun j _ w => absurd rfl w, fun _ _ _ _ _ => rfl⟩, hst _ (fun j hj => (hz j hj).1), hst _ (fun j hj => (hz j hj).2), n2'.symm, ?_, ?_, ?_, ⟨⟨τ, fun j hj => ?_⟩, ⟨ρ, fun j hj => ?_⟩⟩, h9.none hle rfl, h10.none hle rfl⟩
    · rw [n4, n5]; exact RP0
    · show RPl (T.1 11) (T.2.1 22) (T.2.2.2 22) _ _
      rw [fT.1 11 rfl, (fT.2.1 22 rfl).1, fT.2.2 22 rfl, fN.1 6 rfl, fN.2 7 rfl]; exact h6
    · show RK (T.1 19) (T.2.1 38) (T.2.1 39) (T.2.1 40) (T.2.1 41) (T.2.2.1 42) _ _ _ _ _
      rw [fT.1 19 rfl, (fT.2.1 38 rfl).1, (fT.2.1 39 rfl).1, (fT.2.1 40 rfl).1, (fT.2.1 41 rfl).1, (fT.2.1 42 rfl).2, fN.1 9 rfl, fN.2 29 rfl, fN.2 30 rfl, fN.2 31 rfl, fN.2 32 rfl]; exact h7
    · rw [fN.2 8 rfl]; exact h8 j hj
    · rw [fN.2 9 rfl]; exact h8' j hj
  · have g := no q
    refine ⟨fun _ => g, fun c1 => ⟨fun _ => g, fun c2 => ⟨fun _ => g, fun c3 => ⟨fun c4 => absurd ?_ q, fun _ => g⟩⟩⟩⟩
    obtain ⟨i, i1, i2, i3⟩ := (in_rng (L := 2) (H := 5) (a := a) (by decide) (by decide)).mp ⟨Int32.not_lt.mp c1, Int32.not_lt.mp c2⟩
    obtain ⟨j, j1, j2, j3⟩ := (in_rng (L := 1) (H := 7) (a := b) (by decide) (by decide)).mp ⟨Int32.not_lt.mp c3, c4⟩
    exact ⟨⟨i, i1, i2, i3⟩, ⟨j, j1, j2, j3⟩⟩
end OpsS
end
section
-- kinds, lanes, stands
theorem k_isRight (l : Launch) {S : CS} {n P : Nat} {kd ct sg : Nat → Nat} (hy : CY S n P kd ct sg) {x : Nat} (hx : x < P ^ n) (post : Bool → CS → Prop) (h : ∀ T, CFr lA lB nn S T → LK T n P kd x → post (rgt n P kd x) T) : cX_X8_isRight l S (nI x) post := by
  refine c_X8_isRight l S _ post ?_
  unfold cT_X8_isRight_e
  exact k_read l hy hx _ (fun T fT hT => ⟨rgt n P kd x, hT.2.2.1, h T fT hT⟩)
theorem MYrow1 {M : MS} {n P : Nat} {kd ct sg : Nat → Nat} (h : MY M n P kd ct sg) {i k : Nat} (hk : k ≤ 3) : MY (ma M 1 (upd (M.2.1 1) i (nI k))) n P (va_up kd i k) ct sg := by
  obtain ⟨h1, h2, h3, h4, h5, h6, h7⟩ := h
  refine ⟨h1, h2, h3, h4, fun j hj => ?_, h6, h7⟩
  show upd (M.2.1 1) i (nI k) j = _ ∧ _
  by_cases e : j = i
  · subst e; rw [upd_same, va_up_same]; exact ⟨rfl, hk⟩
  · rw [upd_other _ _ e, va_up_other _ _ e]; exact h5 j hj
theorem CY.row10 {S : CS} {n P : Nat} {kd ct sg : Nat → Nat} (h : CY S n P kd ct sg) {i k : Nat} (hk : k ≤ 3) : CY (ca S 10 (upd (S.2.1 10) i (nI k))) n P (va_up kd i k) ct sg := by
  obtain ⟨h1, h2, h3, h4, h5, h6, h7, h8, h9⟩ := h
  refine ⟨h1, h2, h3, h4, h5, h6, fun j hj => ?_, h8, h9⟩
  show upd (S.2.1 10) i (nI k) j = _ ∧ _
  by_cases e : j = i
  · subst e; rw [upd_same, va_up_same]; exact ⟨rfl, hk⟩
  · rw [upd_other _ _ e, va_up_other _ _ e]; exact h7 j hj
theorem upd_back (f : Nat → Int32) (i : Nat) (v : Int32) : upd (upd f i v) i (f i) = f := by
  funext j
  unfold upd
  by_cases e : j = i
  · rw [if_pos e, e]
  · rw [if_neg e, if_neg e]
section Ops2
variable {S : CS} {M : MS} {n P x y : Nat} {kd ct sc sm : Nat → Nat}
theorem s_kind (l : Launch) (h : Rl S M n P kd ct sc sm x y) (a b : Int32) (post : Bool → MS → Prop)
    (h0 : (¬ ((∃ i, i < n ∧ a = nI i) ∧ ∃ k, k ≤ 3 ∧ b = nI k)) → post false (mf (mf M 3 0) 2 1))
    (h1 : ∀ i k, i < n → k ≤ 3 → a = nI i → b = nI k → ¬ (rgt n P (va_up kd i k) x = true ∧ rgt n P (va_up kd i k) y = true) → post false (mf (mf M 3 0) 2 3))
    (h2 : ∀ i k, i < n → k ≤ 3 → a = nI i → b = nI k → rgt n P (va_up kd i k) x = true → rgt n P (va_up kd i k) y = true → post true (mf (mf (mf (ma (mf M 3 0) 1 (upd (M.2.1 1) i (nI k))) 4 0) 5 0) 2 0)) : mX_kind l M a b post := by
  have hP2 := h.P2
  have hn2 := h.n2
  refine m_kind l M a b post ?_
  intro B30 B72 h30 h72
  unfold mT_kind_e
  have no : ∀ T, T = mf M 3 0 → (¬ ((∃ i, i < n ∧ a = nI i) ∧ ∃ k, k ≤ 3 ∧ b = nI k)) → B30 T := by
    intro T e q
    refine h30 _ ?_
    unfold mT_kind_30
    rw [e]
    exact s_not l _ 1 _ (h0 q)
  refine s_inB l _ a _ _ (N := n) (by rw [h.my.2.1]) (by omega) (fun q => ⟨fun _ => no _ rfl (fun w => q w.1), fun w => absurd rfl w⟩) (fun i hi ea => ⟨fun w => absurd w (by decide), fun _ => ?_⟩)
  refine s_inC l _ b 0 3 _ (L := 0) (H := 3) rfl rfl (by decide) (by decide) (fun q => ⟨fun w => absurd rfl w, fun _ => no _ rfl (fun ⟨_, k, w1, w2⟩ => q ⟨k, Nat.zero_le _, w1, w2⟩)⟩) (fun k _ hk eb => ⟨fun _ => ?_, fun w => absurd w (by decide)⟩)
  subst ea
  subst eb
  rw [nI_clamp (show i < 2 ^ 31 by omega)]
  refine ⟨vp_in_nI (by omega) (by omega), fun v3 e3 => ⟨vp_in_nI (by omega) (by omega), ?_⟩⟩
  have e3 : v3 = M.2.1 1 i := e3
  subst e3
  have hm : MY (ma (mf M 3 0) 1 (upd ((mf M 3 0).2.1 1) i (nI k))) n P (va_up kd i k) ct sm := MYrow1 (h.th 0).my hk
  have bad : ¬ (rgt n P (va_up kd i k) x = true ∧ rgt n P (va_up kd i k) y = true) → B72 (ma (mf M 3 0) 1 (upd ((mf M 3 0).2.1 1) i (nI k))) (M.2.1 1 i) := by
    intro q
    refine h72 _ _ ?_
    unfold mT_kind_72
    rw [nI_clamp (show i < 2 ^ 31 by omega)]
    refine ⟨vp_in_nI (by omega) (by omega), s_not l _ 3 _ ?_⟩
    have e : ma (ma (mf M 3 0) 1 (upd ((mf M 3 0).2.1 1) i (nI k))) 1 (upd ((ma (mf M 3 0) 1 (upd ((mf M 3 0).2.1 1) i (nI k))).2.1 1) i (M.2.1 1 i)) = mf M 3 0 := by
      rw [ma_ma, ma_get]
      have : upd (upd ((mf M 3 0).2.1 1) i (nI k)) i (M.2.1 1 i) = (mf M 3 0).2.1 1 := upd_back _ _ _
      rw [this, ma_id]
    rw [e]
    exact h1 i k hi hk rfl rfl q
  refine s_isRight l _ 2 (by unfold m7; decide) _ hm (σ := dgs P x) h.xa ?_
  show (bI (rgt n P (va_up kd i k) x) = 0 → _) ∧ (¬ bI (rgt n P (va_up kd i k) x) = 0 → _)
  refine ⟨fun c => bad (fun q => ?_), fun c => ?_⟩
  · rw [q.1] at c; exact absurd c (by decide)
  · have c : rgt n P (va_up kd i k) x = true := bI_n0.mp c
    refine s_isRight l _ 3 (by unfold m7; decide) _ hm (σ := dgs P y) h.ya ?_
    show (¬ bI (rgt n P (va_up kd i k) y) = 0 → _) ∧ (bI (rgt n P (va_up kd i k) y) = 0 → _)
    refine ⟨fun c2 => s_nothingUndone l _ _ (h2 i k hi hk rfl rfl c (bI_n0.mp c2)), fun c2 => bad (fun q => ?_)⟩
    rw [q.2] at c2; exact absurd c2 (by decide)
theorem o_kind (l : Launch) (h : Rl S M n P kd ct sc sm x y) (a b : Int32) : cX_X8_kind l S a b (fun r1 S1 => mX_kind l M a b (fun r2 M1 => OKr S r1 S1 r2 M1)) := by
  have hP2 := h.P2
  have hn2 := h.n2
  refine c_X8_kind l S a b _ ?_
  intro B20 B68 h20 h68
  unfold cT_X8_kind_e
  have no : (¬ ((∃ i, i < n ∧ a = nI i) ∧ ∃ k, k ≤ 3 ∧ b = nI k)) → B20 S := by
    intro q
    refine h20 _ ?_
    unfold cT_X8_kind_20
    exact k_refuse l S 1 _ (s_kind l h a b _ (fun _ => ⟨rfl, ⟨n, P, kd, ct, sc, sm, x, y, (h.th 0).tr 1⟩, rfl⟩) (fun i k hi hk ea eb => absurd ⟨⟨i, hi, ea⟩, k, hk, eb⟩ q) (fun i k hi hk ea eb => absurd ⟨⟨i, hi, ea⟩, k, hk, eb⟩ q))
  refine k_isDisc l h.cy.2.1 hn2.2 a _ (fun q => ⟨fun _ => no (fun w => q w.1), fun w => absurd rfl w⟩) (fun i hi ea => ⟨fun w => absurd w (by decide), fun _ => ?_⟩)
  by_cases q : ∃ k, k ≤ 3 ∧ b = nI k
  · obtain ⟨k, hk, eb⟩ := q
    subst ea
    subst eb
    refine ⟨fun w => absurd w (nI_pos (by omega)), fun _ => ⟨fun _ => ?_, fun w => absurd (nI_le (b := 3) hk (by omega)) w⟩⟩
    rw [nI_clamp (show i < 2 ^ 31 by omega)]
    refine ⟨vp_in_nI (by omega) (by omega), fun v3 e3 => ⟨vp_in_nI (by omega) (by omega), ?_⟩⟩
    subst e3
    have hc : CY (ca S 10 (upd (S.2.1 10) i (nI k))) n P (va_up kd i k) ct sc := h.cy.row10 hk
    have bad : ¬ (rgt n P (va_up kd i k) x = true ∧ rgt n P (va_up kd i k) y = true) → ∀ T, CFr lA lB nn (ca S 10 (upd (S.2.1 10) i (nI k))) T → B68 T (S.2.1 10 i) := by
      intro q T fT
      refine h68 _ _ ?_
      unfold cT_X8_kind_68
      rw [nI_clamp (show i < 2 ^ 31 by omega)]
      refine ⟨vp_in_nI (by omega) (by omega), k_refuse l _ 3 _ ?_⟩
      have e10 : T.2.1 10 = upd (S.2.1 10) i (nI k) := (fT.2.1 10 rfl).1
      have fS : CFr lA lB nn S (ca T 10 (upd (T.2.1 10) i (S.2.1 10 i))) := by
        refine ⟨fun j hj => fT.1 j hj, fun j hj => ⟨?_, (fT.2.1 j hj).2⟩, fun j hj => fT.2.2 j hj⟩
        by_cases e : j = 10
        · subst e
          rw [ca_get, e10, upd_back]
        · rw [ca_get_ne _ _ e, (fT.2.1 j hj).1, ca_get_ne _ _ e]
      refine s_kind l h _ _ _ (fun w => absurd ⟨⟨i, hi, rfl⟩, k, hk, rfl⟩ w) (fun _ _ _ _ _ _ _ => ⟨rfl, ⟨n, P, kd, ct, sc, sm, x, y, ((h.look fS).th 0).tr 3⟩, (have hq := lens_eq fS; hq)⟩) (fun i' k' hi' hk' ea' eb' r1 r2 => ?_)
      have e1 : i = i' := (nI_eq (by omega) (by omega)).mp ea'
      have e2 : k = k' := (nI_eq (by omega) (by omega)).mp eb'
      subst e1
      subst e2
      exact absurd ⟨r1, r2⟩ q
    have sx : (ca S 10 (upd (S.2.1 10) i (nI k))).1 0 = nI x := h.sx
    have sx' : S.1 0 = nI x := h.sx
    rw [sx']
    refine k_isRight l hc h.hx _ (fun T fT _ => ⟨fun c => bad (fun w => ?_) T fT, fun c => ?_⟩)
    · rw [w.1] at c; exact absurd c (by decide)
    · have c : rgt n P (va_up kd i k) x = true := bI_n0.mp c
      have ty : T.1 1 = nI y := by rw [fT.1 1 rfl]; exact h.sy
      rw [ty]
      refine k_isRight l (hc.fr fT) h.hy _ (fun U fU _ => ?_)
      have fSU : CFr lA lB nn (ca S 10 (upd (S.2.1 10) i (nI k))) U := fT.tr fU
      refine ⟨fun c2 => ?_, fun c2 => bad (fun w => ?_) U fSU⟩
      · have c2 : rgt n P (va_up kd i k) y = true := bI_n0.mp c2
        refine k_forgetAll l _ _ (k_accept l _ _ ?_)
        refine s_kind l h _ _ _ (fun w => absurd ⟨⟨i, hi, rfl⟩, k, hk, rfl⟩ w) (fun i' k' hi' hk' ea' eb' q => ?_) (fun i' k' hi' hk' ea' eb' r1 r2 => ?_)
        · have e1 : i = i' := (nI_eq (by omega) (by omega)).mp ea'
          have e2 : k = k' := (nI_eq (by omega) (by omega)).mp eb'
          subst e1
          subst e2
          exact absurd ⟨c, c2⟩ q
        · have e1 : i = i' := (nI_eq (by omega) (by omega)).mp ea'
          have e2 : k = k' := (nI_eq (by omega) (by omega)).mp eb'
          subst e1
          subst e2
          have hle : U.2.2.2 = S.2.2.2 := (have hq := lens_eq fSU; hq)
          refine ⟨rfl, ⟨n, P, va_up kd i k, ct, sc, sm, x, y, ?_⟩, hle⟩
          obtain ⟨⟨b1, b2, b3, b4⟩, h2, h3, h4, h5, h6, h7, ⟨⟨τ, h8⟩, ⟨ρ, h8'⟩⟩, h9, h10⟩ := h
          have hcU : CY U n P (va_up kd i k) ct sc := hc.fr fSU
          refine ⟨⟨hcU, (MYrow1 (b2.mf 0 (by decide) (by decide)) hk), b3, b4⟩, ?_, ?_, rfl, RP0, ?_, ?_, ⟨⟨τ, fun j hj => h8 j hj⟩, ⟨ρ, fun j hj => h8' j hj⟩⟩, h9.none hle rfl, h10.none hle rfl⟩
          · show RS n P _ (U.1 0) _ x
            rw [fSU.1 0 rfl]
            exact ⟨h2.1, h2.2.1, h2.2.2.1, c⟩
          · show RS n P _ (U.1 1) _ y
            rw [fSU.1 1 rfl]
            exact ⟨h3.1, h3.2.1, h3.2.2.1, c2⟩
          · show RPl (U.1 11) (U.2.1 22) (U.2.2.2 22) _ _
            rw [fSU.1 11 rfl, (fSU.2.1 22 rfl).1, fSU.2.2 22 rfl]; exact h6
          · show RK (U.1 19) (U.2.1 38) (U.2.1 39) (U.2.1 40) (U.2.1 41) (U.2.2.1 42) _ _ _ _ _
            rw [fSU.1 19 rfl, (fSU.2.1 38 rfl).1, (fSU.2.1 39 rfl).1, (fSU.2.1 40 rfl).1, (fSU.2.1 41 rfl).1, (fSU.2.1 42 rfl).2]; exact h7
      · rw [w.2] at c2; exact absurd c2 (by decide)
  · have g := no (fun w => q w.2)
    refine ⟨fun _ => g, fun c1 => ⟨fun c2 => absurd ?_ q, fun _ => g⟩⟩
    obtain ⟨k, k1, k2, k3⟩ := (in_rng (L := 0) (H := 3) (a := b) (by decide) (by decide)).mp ⟨Int32.not_lt.mp c1, c2⟩
    exact ⟨k, k2, k3⟩
-- lanes
def bN (b : Bool) : Nat := if b then 1 else 0
theorem bN_nar (b : Bool) : vp_nar .boolean (bI b) = nI (bN b) := by cases b <;> rfl
theorem bN_le (b : Bool) : bN b ≤ 1 := by cases b <;> decide
theorem k_setLane (l : Launch) (S : CS) {a b : Nat} (ha : a < 5) (hb : b < 5) (v : Int32) (s : Bool) (post : CS → Prop) (h : post (ca (ca S 11 (upd (S.2.1 11) (5 * a + b) v)) 12 (upd (S.2.1 12) (5 * a + b) (nI (bN s))))) : cX_X0_setLane l S (nI a) (nI b) v s post := by
  refine c_X0_setLane l S _ _ v s post ?_
  unfold cT_X0_setLane_e
  rw [ix5, nI_clamp (show 5 * a + b < 2 ^ 31 by omega), bN_nar]
  exact ⟨vp_in_nI (by omega) (by omega), vp_in_nI (by omega) (by omega), h⟩
theorem CY.lane {S : CS} {n P : Nat} {kd ct sg : Nat → Nat} (h : CY S n P kd ct sg) {j c s : Nat} (hc : c ≤ 100) (hs : s ≤ 1) : CY (ca (ca S 11 (upd (S.2.1 11) j (nI c))) 12 (upd (S.2.1 12) j (nI s))) n P kd (va_up ct j c) (va_up sg j s) := by
  obtain ⟨h1, h2, h3, h4, h5, h6, h7, h8, h9⟩ := h
  refine ⟨h1, h2, h3, h4, h5, h6, h7, fun i hi => ?_, fun i hi => ?_⟩
  · show upd (S.2.1 11) j (nI c) i = _ ∧ _
    by_cases e : i = j
    · subst e; rw [upd_same, va_up_same]; exact ⟨rfl, hc⟩
    · rw [upd_other _ _ e, va_up_other _ _ e]; exact h8 i hi
  · show upd (S.2.1 12) j (nI s) i = _ ∧ _
    by_cases e : i = j
    · subst e; rw [upd_same, va_up_same]; exact ⟨rfl, hs⟩
    · rw [upd_other _ _ e, va_up_other _ _ e]; exact h9 i hi
theorem MYlane {S : MS} {n P : Nat} {kd ct sg : Nat → Nat} (h : MY S n P kd ct sg) {j c s : Nat} (hc : c ≤ 100) (hs : s ≤ 1) : MY (ma (ma S 4 (upd (S.2.1 4) j (nI c))) 5 (upd (S.2.1 5) j (nI s))) n P kd (va_up ct j c) (va_up sg j s) := by
  obtain ⟨h1, h2, h3, h4, h5, h8, h9⟩ := h
  refine ⟨h1, h2, h3, h4, h5, fun i hi => ?_, fun i hi => ?_⟩
  · show upd (S.2.1 4) j (nI c) i = _ ∧ _
    by_cases e : i = j
    · subst e; rw [upd_same, va_up_same]; exact ⟨rfl, hc⟩
    · rw [upd_other _ _ e, va_up_other _ _ e]; exact h8 i hi
  · show upd (S.2.1 5) j (nI s) i = _ ∧ _
    by_cases e : i = j
    · subst e; rw [upd_same, va_up_same]; exact ⟨rfl, hs⟩
    · rw [upd_other _ _ e, va_up_other _ _ e]; exact h9 i hi
theorem s_lane (l : Launch) (h : Rl S M n P kd ct sc sm x y) (a b c : Int32) (s : Bool) (post : Bool → MS → Prop)
    (h0 : (¬ ∃ i j k, i < P ∧ j < P ∧ i ≠ j ∧ k ≤ 100 ∧ a = nI i ∧ b = nI j ∧ c = nI k) → post false (mf (mf M 3 0) 2 1))
    (h1 : ∀ i j k, i < P → j < P → i ≠ j → k ≤ 100 → a = nI i → b = nI j → c = nI k → post true (mf (mf (mf (ma (ma (mf M 3 0) 4 (upd (M.2.1 4) (5 * i + j) (nI k))) 5 (upd (M.2.1 5) (5 * i + j) (nI (bN s)))) 4 0) 5 0) 2 0)) : mX_lane l M a b c s post := by
  have hP2 := h.P2
  refine m_lane l M a b c s post ?_
  intro B37 h37
  unfold mT_lane_e
  have no : (¬ ∃ i j k, i < P ∧ j < P ∧ i ≠ j ∧ k ≤ 100 ∧ a = nI i ∧ b = nI j ∧ c = nI k) → B37 (mf M 3 0) := by
    intro q
    refine h37 _ ?_
    unfold mT_lane_37
    exact s_not l _ 1 _ (h0 q)
  refine s_isPegC l _ a _ (P := P) h.my.1 hP2 (fun q => ⟨fun _ => no (fun ⟨i, j, k, w⟩ => q ⟨i, w.1, w.2.2.2.2.1⟩), fun w => absurd rfl w⟩) (fun i hi ea => ⟨fun w => absurd w (by decide), fun _ => ?_⟩)
  refine s_isPegC l _ b _ (P := P) h.my.1 hP2 (fun q => ⟨fun _ => no (fun ⟨i, j, k, w⟩ => q ⟨j, w.2.1, w.2.2.2.2.2.1⟩), fun w => absurd rfl w⟩) (fun j hj eb => ⟨fun w => absurd w (by decide), fun _ => ⟨fun e => no (fun ⟨i', j', k, w⟩ => ?_), fun e => ?_⟩⟩)
  · have e1 : nI i' = nI j' := by rw [← w.2.2.2.2.1, ← w.2.2.2.2.2.1]; exact e
    exact w.2.2.1 ((nI_eq (by omega) (by omega)).mp e1)
  · have hij : i ≠ j := fun q => e (by rw [ea, eb, q])
    refine s_inC l _ c 0 100 _ (L := 0) (H := 100) rfl rfl (by decide) (by decide) (fun q => ⟨fun w => absurd rfl w, fun _ => no (fun ⟨i', j', k, w⟩ => q ⟨k, Nat.zero_le _, w.2.2.2.1, w.2.2.2.2.2.2⟩)⟩) (fun k _ hk ec => ⟨fun _ => ?_, fun w => absurd w (by decide)⟩)
    subst ea
    subst eb
    subst ec
    rw [ix25 (by omega) (by omega), nI_clamp (show 5 * i + j < 2 ^ 31 by omega), bN_nar]
    exact ⟨vp_in_nI (by omega) (by omega), vp_in_nI (by omega) (by omega), s_nothingUndone l _ _ (h1 i j k hi hj hij hk rfl rfl rfl)⟩
/-- the lanes alone have changed on both sides, and nothing can be undone -/
theorem Rl.lanes {T : CS} {N : MS} {ct' sc' sm' : Nat → Nat} (h : Rl S M n P kd ct sc sm x y) (hT : CFr (fun _ => false) (fun k => decide (k = 11) || decide (k = 12)) nn S T) (hN : MFx (fun k => decide (k = 3)) (fun k => decide (k = 4) || decide (k = 5)) M N) (c1 : CY T n P kd ct' sc') (c2 : MY N n P kd ct' sm') (c3 : ∀ j, j < 25 → ct' j ≠ 0 → sc' j = sm' j) (c4 : ∀ a b, a < 5 → b < 5 → (a = b ∨ P ≤ a ∨ P ≤ b) → ct' (5 * a + b) = 0) : Rl (cf (cf (cf (cf T 9 0) 10 0) 12 (-1)) 17 0) (mf (mf N 4 0) 5 0) n P kd ct' sc' sm' x y := by
  obtain ⟨-, h2, h3, h4, h5, h6, h7, ⟨⟨τ, h8⟩, ⟨ρ, h8'⟩⟩, h9, h10⟩ := h
  have hle : T.2.2.2 = S.2.2.2 := lens_eq hT
  refine ⟨⟨c1, (c2.mf 0 (by decide) (by decide)).mf 0 (by decide) (by decide), c3, c4⟩, ?_, ?_, ?_, RP0, ?_, ?_, ⟨⟨τ, fun j hj => ?_⟩, ⟨ρ, fun j hj => ?_⟩⟩, h9.none hle rfl, h10.none hle rfl⟩
  · show RS n P kd (T.1 0) (N.2.1 2) x
    rw [hT.1 0 rfl, hN.2 2 rfl]; exact h2
  · show RS n P kd (T.1 1) (N.2.1 3) y
    rw [hT.1 1 rfl, hN.2 3 rfl]; exact h3
  · show T.1 2 = N.1 2
    rw [hT.1 2 rfl, hN.1 2 rfl]; exact h4
  · show RPl (T.1 11) (T.2.1 22) (T.2.2.2 22) (N.1 6) (N.2.1 7)
    rw [hT.1 11 rfl, (hT.2.1 22 rfl).1, hT.2.2 22 rfl, hN.1 6 rfl, hN.2 7 rfl]; exact h6
  · show RK (T.1 19) (T.2.1 38) (T.2.1 39) (T.2.1 40) (T.2.1 41) (T.2.2.1 42) (N.1 9) (N.2.1 29) (N.2.1 30) (N.2.1 31) (N.2.1 32)
    rw [hT.1 19 rfl, (hT.2.1 38 rfl).1, (hT.2.1 39 rfl).1, (hT.2.1 40 rfl).1, (hT.2.1 41 rfl).1, (hT.2.1 42 rfl).2, hN.1 9 rfl, hN.2 29 rfl, hN.2 30 rfl, hN.2 31 rfl, hN.2 32 rfl]; exact h7
  · show N.2.1 8 j = _ ∧ _
    rw [hN.2 8 rfl]; exact h8 j hj
  · show N.2.1 9 j = _ ∧ _
    rw [hN.2 9 rfl]; exact h8' j hj
theorem o_lane (l : Launch) (h : Rl S M n P kd ct sc sm x y) (a b c : Int32) (s : Bool) : cX_X8_lane l S a b c s (fun r1 S1 => mX_lane l M a b c s (fun r2 M1 => OKr S r1 S1 r2 M1)) := by
  have hP2 := h.P2
  refine c_X8_lane l S a b c s _ ?_
  intro B37 h37
  unfold cT_X8_lane_e
  have no : (¬ ∃ i j k, i < P ∧ j < P ∧ i ≠ j ∧ k ≤ 100 ∧ a = nI i ∧ b = nI j ∧ c = nI k) → B37 S := by
    intro q
    refine h37 _ ?_
    unfold cT_X8_lane_37
    exact k_refuse l S 1 _ (s_lane l h a b c s _ (fun _ => ⟨rfl, ⟨n, P, kd, ct, sc, sm, x, y, (h.th 0).tr 1⟩, rfl⟩) (fun i j k w1 w2 w3 w4 w5 w6 w7 => absurd ⟨i, j, k, w1, w2, w3, w4, w5, w6, w7⟩ q))
  refine k_isPeg l h.cy.1 hP2.2 a _ (fun q => ⟨fun _ => no (fun ⟨i, j, k, w⟩ => q ⟨i, w.1, w.2.2.2.2.1⟩), fun w => absurd rfl w⟩) (fun i hi ea => ⟨fun w => absurd w (by decide), fun _ => ?_⟩)
  refine k_isPeg l h.cy.1 hP2.2 b _ (fun q => ⟨fun _ => no (fun ⟨i, j, k, w⟩ => q ⟨j, w.2.1, w.2.2.2.2.2.1⟩), fun w => absurd rfl w⟩) (fun j hj eb => ⟨fun w => absurd w (by decide), fun _ => ⟨fun e => no (fun ⟨i', j', k, w⟩ => ?_), fun e => ?_⟩⟩)
  · have e1 : nI i' = nI j' := by rw [← w.2.2.2.2.1, ← w.2.2.2.2.2.1]; exact e
    exact w.2.2.1 ((nI_eq (by omega) (by omega)).mp e1)
  · have hij : i ≠ j := fun q => e (by rw [ea, eb, q])
    by_cases q : ∃ k, k ≤ 100 ∧ c = nI k
    · obtain ⟨k, hk, ec⟩ := q
      subst ea
      subst eb
      subst ec
      refine ⟨fun w => absurd w (nI_pos (by omega)), fun _ => ⟨fun _ => ?_, fun w => absurd (nI_le (b := 100) hk (by omega)) w⟩⟩
      refine k_setLane l S (by omega) (by omega) _ s _ (k_forgetAll l _ _ (k_accept l _ _ ?_))
      refine s_lane l h _ _ _ s _ (fun w => absurd ⟨i, j, k, hi, hj, hij, hk, rfl, rfl, rfl⟩ w) (fun i' j' k' w1 w2 w3 w4 w5 w6 w7 => ⟨rfl, ⟨n, P, kd, va_up ct (5 * i + j) k, va_up sc (5 * i + j) (bN s), va_up sm (5 * i + j) (bN s), x, y, ?_⟩, rfl⟩)
      have e1 : i = i' := (nI_eq (by omega) (by omega)).mp w5
      have e2 : j = j' := (nI_eq (by omega) (by omega)).mp w6
      have e3 : k = k' := (nI_eq (by omega) (by omega)).mp w7
      subst e1
      subst e2
      subst e3
      refine (h.lanes (T := ca (ca S 11 (upd (S.2.1 11) (5 * i + j) (nI k))) 12 (upd (S.2.1 12) (5 * i + j) (nI (bN s)))) (N := ma (ma (mf M 3 0) 4 (upd (M.2.1 4) (5 * i + j) (nI k))) 5 (upd (M.2.1 5) (5 * i + j) (nI (bN s)))) ((CFr.rf.ca _ rfl).ca _ rfl) (((MFx.rf.sc _ rfl).row _ rfl).row _ rfl) (h.cy.lane hk (bN_le s)) (MYlane (h.th 0).my hk (bN_le s)) (fun m hm hne => ?_) (fun a b ha hb hab => ?_)).tr 0
      · by_cases e : m = 5 * i + j
        · rw [e, va_up_same, va_up_same]
        · rw [va_up_other _ _ e] at hne
          rw [va_up_other _ _ e, va_up_other _ _ e]
          exact h.1.2.2.1 m hm hne
      · rw [va_up_other _ _ (by omega)]
        exact h.1.2.2.2 a b ha hb hab
    · have g := no (fun ⟨i', j', k, w⟩ => q ⟨k, w.2.2.2.1, w.2.2.2.2.2.2⟩)
      refine ⟨fun _ => g, fun c1 => ⟨fun c2 => absurd ?_ q, fun _ => g⟩⟩
      obtain ⟨k, k1, k2, k3⟩ := (in_rng (L := 0) (H := 100) (a := c) (by decide) (by decide)).mp ⟨Int32.not_lt.mp c1, c2⟩
      exact ⟨k, k2, k3⟩
end Ops2
end
section
-- how many lanes there are
def lnN (ct : Nat → Nat) : Nat := cntP (fun j => decide (ct j ≠ 0)) 25
theorem k_countLanes (l : Launch) {S : CS} {ct : Nat → Nat} (hc : ∀ j, j < 25 → S.2.1 11 j = nI (ct j) ∧ ct j ≤ 100) (post : Int32 → CS → Prop) (h : post (nI (lnN ct)) S) : cX_X0_countLanes l S post := by
  refine c_X0_countLanes l S post ?_
  intro B13 B33 h13 h33
  unfold cT_X0_countLanes_e
  have key : ∀ d k, k + d = 25 → B13 S (nI (cntP (fun j => decide (ct j ≠ 0)) k)) 25 (nI k) := by
    intro d
    induction d with
    | zero =>
      intro k hk
      have : k = 25 := by omega
      subst this
      refine h13 _ _ _ _ ?_
      unfold cT_X0_countLanes_13
      exact ⟨fun _ => h, fun q => absurd (show (25 : Int32) ≤ nI 25 by decide) q⟩
    | succ d ih =>
      intro k hk
      have hk1 := hc k (by omega)
      have nxt : ∀ v, v = nI (cntP (fun j => decide (ct j ≠ 0)) (k + 1)) → B33 S v 25 (nI k) := by
        intro v e
        refine h33 _ _ _ _ ?_
        unfold cT_X0_countLanes_33
        rw [e, ← nI_succ]
        exact ih (k + 1) (by omega)
      refine h13 _ _ _ _ ?_
      unfold cT_X0_countLanes_13
      rw [nI_clamp (show k < 2 ^ 31 by omega), hk1.1]
      refine ⟨fun q => absurd q (nI_ge (a := k) (b := 25) (by omega) (by omega)), fun _ => ⟨vp_in_nI (by omega) (by omega), fun v e => ?_⟩⟩
      subst e
      refine ⟨fun c => nxt _ ?_, fun c => nxt _ ?_⟩
      · have c : ct k = 0 := (nI_is 0 rfl (by omega) (by omega)).mp c
        conv => rhs; unfold cntP
        simp [c]
      · have c : ct k ≠ 0 := fun q => c (by rw [q]; rfl)
        conv => rhs; unfold cntP
        simp [c, nI_succ]
  exact key 25 0 (by omega)
theorem s_lanesThere (l : Launch) {M : MS} {ct : Nat → Nat} (hc : ∀ j, j < 25 → M.2.1 4 j = nI (ct j) ∧ ct j ≤ 100) (post : Int32 → MS → Prop) (h : post (nI (lnN ct)) M) : mX_lanesThere l M post := by
  refine m_lanesThere l M post ?_
  intro B4 h4
  unfold mT_lanesThere_e
  have key : ∀ d k, k + d = 25 → B4 M (nI (cntP (fun j => decide (ct j ≠ 0)) k)) (nI k) := by
    intro d
    induction d with
    | zero =>
      intro k hk
      have : k = 25 := by omega
      subst this
      refine h4 _ _ _ ?_
      unfold mT_lanesThere_4
      exact ⟨fun _ => h, fun q => absurd (show (25 : Int32) ≤ nI 25 by decide) q⟩
    | succ d ih =>
      intro k hk
      have hk1 := hc k (by omega)
      refine h4 _ _ _ ?_
      unfold mT_lanesThere_4
      rw [nI_clamp (show k < 2 ^ 31 by omega), hk1.1]
      refine ⟨fun q => absurd q (nI_ge (a := k) (b := 25) (by omega) (by omega)), fun _ => ⟨vp_in_nI (by omega) (by omega), fun c v e => ?_, fun c v e => ?_⟩⟩
      · have c : ct k = 0 := by
          rcases Nat.eq_zero_or_pos (ct k) with q | q
          · exact q
          · exact absurd c (nI_nle q (by omega))
        have := ih (k + 1) (by omega)
        conv at this => unfold cntP
        simp only [c] at this
        rw [e, Int32.add_zero, ← nI_succ]
        exact this
      · have c : ct k ≠ 0 := fun q => c (by rw [q]; decide)
        have := ih (k + 1) (by omega)
        conv at this => unfold cntP
        rw [if_pos (decide_eq_true c)] at this
        rw [e, ← nI_succ, ← nI_succ]
        exact this
  exact key 25 0 (by omega)
-- lanes(): all of them
/-- of the pairs ahead of (p, q) the lanes are there -/
def opN (f : Nat → Nat) (P p q : Nat) : Nat → Nat := fun j => if j % 5 < P ∧ j / 5 ≠ j % 5 ∧ (j / 5 < p ∨ (j / 5 = p ∧ j % 5 < q)) then 1 else f j
theorem opN_eq {f : Nat → Nat} {P p q p' q' : Nat} (h : ∀ a b, b < P → a ≠ b → ((a < p ∨ (a = p ∧ b < q)) ↔ (a < p' ∨ (a = p' ∧ b < q')))) : opN f P p q = opN f P p' q' := by
  funext j
  unfold opN
  by_cases e : j % 5 < P ∧ j / 5 ≠ j % 5
  · have := h (j / 5) (j % 5) e.1 e.2
    by_cases w : j / 5 < p ∨ (j / 5 = p ∧ j % 5 < q)
    · rw [if_pos ⟨e.1, e.2, w⟩, if_pos ⟨e.1, e.2, this.mp w⟩]
    · rw [if_neg (fun z => w z.2.2), if_neg (fun z => w (this.mpr z.2.2))]
  · rw [if_neg (fun z => e ⟨z.1, z.2.1⟩), if_neg (fun z => e ⟨z.1, z.2.1⟩)]
theorem opN_0 (f : Nat → Nat) (P : Nat) : opN f P 0 0 = f := by
  funext j
  unfold opN
  rw [if_neg (fun w => by have := w.2.2; omega)]
theorem opN_row (f : Nat → Nat) (P p : Nat) : opN f P p P = opN f P (p + 1) 0 := opN_eq (fun a b h1 h2 => by omega)
theorem opN_diag (f : Nat → Nat) (P p : Nat) : opN f P p (p + 1) = opN f P p p := opN_eq (fun a b h1 h2 => by omega)
theorem opN_step (f : Nat → Nat) {P p q : Nat} (hP : P ≤ 5) (hq : q < P) (h : p ≠ q) : opN f P p (q + 1) = va_up (opN f P p q) (5 * p + q) 1 := by
  funext j
  by_cases e : j = 5 * p + q
  · subst e
    rw [va_up_same]
    unfold opN
    have e1 : (5 * p + q) / 5 = p := by omega
    have e2 : (5 * p + q) % 5 = q := by omega
    rw [e1, e2, if_pos ⟨hq, h, Or.inr ⟨rfl, by omega⟩⟩]
  · rw [va_up_other _ _ e]
    unfold opN
    by_cases w : j % 5 < P ∧ j / 5 ≠ j % 5 ∧ (j / 5 < p ∨ (j / 5 = p ∧ j % 5 < q))
    · rw [if_pos w, if_pos ⟨w.1, w.2.1, by omega⟩]
    · rw [if_neg w, if_neg (fun z => w ⟨z.1, z.2.1, by have := z.2.2; omega⟩)]
section Ops3
variable {S : CS} {M : MS} {n P x y : Nat} {kd ct sc sm : Nat → Nat}
theorem k_openAll (l : Launch) (h : CY S n P kd ct sc) (post : CS → Prop) (hp : ∀ T, CFr (fun _ => false) (fun k => decide (k = 11) || decide (k = 12)) nn S T → CY T n P kd (opN ct P P 0) (opN sc P P 0) → post T) : cX_X0_openAll l S post := by
  have hP2 := h.2.2.2.1
  refine c_X0_openAll l S post ?_
  intro B2 B12 B33 h2 h12 h33
  unfold cT_X0_openAll_e
  refine pair_loop (α := CS) (P := P) (Bo := fun U p => B2 U (nI p)) (Bi := fun U p r => B12 U (nI p) (nI r)) (I := fun p r U => CFr (fun _ => false) (fun k => decide (k = 11) || decide (k = 12)) nn S U ∧ CY U n P kd (opN ct P p r) (opN sc P p r)) ?_ ?_ ?_ ?_ ?_ S ?_
  · rintro U p hp' ⟨k1, k2⟩ hBi
    refine h2 _ _ ?_
    unfold cT_X0_openAll_2
    rw [k2.1]
    exact ⟨fun w => absurd w (nI_ge hp' (by omega)), fun _ => hBi⟩
  · rintro U ⟨k1, k2⟩
    refine h2 _ _ ?_
    unfold cT_X0_openAll_2
    rw [k2.1]
    exact ⟨fun _ => hp U k1 k2, fun w => absurd (nI_le (Nat.le_refl _) (by omega)) w⟩
  · rintro U p r hp' hr ⟨k1, k2⟩ nxt
    have go : ∀ V, CFr (fun _ => false) (fun k => decide (k = 11) || decide (k = 12)) nn S V → CY V n P kd (opN ct P p (r + 1)) (opN sc P p (r + 1)) → B33 V (nI p) (nI r) := by
      intro V v1 v2
      refine h33 _ _ _ ?_
      unfold cT_X0_openAll_33
      rw [← nI_succ]
      exact nxt V ⟨v1, v2⟩
    refine h12 _ _ _ ?_
    unfold cT_X0_openAll_12
    rw [k2.1]
    refine ⟨fun w => absurd w (nI_ge hr (by omega)), fun _ => ⟨fun e => ?_, fun e => ?_⟩⟩
    · have e : p = r := (nI_eq (by omega) (by omega)).mp e
      subst e
      exact go U k1 (by rw [opN_diag, opN_diag]; exact k2)
    · have e : p ≠ r := fun q => e (by rw [q])
      refine k_setLane l U (by omega) (by omega) 1 true _ (go _ ((k1.ca _ rfl).ca _ rfl) ?_)
      rw [opN_step _ hP2.2 hr e, opN_step _ hP2.2 hr e]
      exact k2.lane (c := 1) (by decide) (by decide)
  · rintro U p hp' ⟨k1, k2⟩ hBo
    refine h12 _ _ _ ?_
    unfold cT_X0_openAll_12
    rw [k2.1, ← nI_succ]
    exact ⟨fun _ => hBo, fun w => absurd (nI_le (Nat.le_refl _) (by omega)) w⟩
  · rintro U p hp' ⟨k1, k2⟩
    rw [opN_row, opN_row] at k2
    exact ⟨k1, k2⟩
  · exact ⟨CFr.rf, by rw [opN_0, opN_0]; exact h⟩
theorem s_lanes (l : Launch) (h : MY M n P kd ct sm) (post : Int32 → MS → Prop) (hp : ∀ T, MFx (fun k => decide (k = 3)) (fun k => decide (k = 4) || decide (k = 5)) M T → MY T n P kd (opN ct P P 0) (opN sm P P 0) → post (nI (lnN (opN ct P P 0))) (mf (mf T 4 0) 5 0)) : mX_lanes l M post := by
  have hP2 := h.2.2.1
  refine m_lanes l M post ?_
  intro B7 B17 B55 h7 h17 h55
  unfold mT_lanes_e
  refine pair_loop (α := MS) (P := P) (Bo := fun U p => B7 U (nI p)) (Bi := fun U p r => B17 U (nI p) (nI r)) (I := fun p r U => MFx (fun k => decide (k = 3)) (fun k => decide (k = 4) || decide (k = 5)) M U ∧ MY U n P kd (opN ct P p r) (opN sm P p r)) ?_ ?_ ?_ ?_ ?_ (mf M 3 0) ?_
  · rintro U p hp' ⟨k1, k2⟩ hBi
    refine h7 _ _ ?_
    unfold mT_lanes_7
    rw [k2.1]
    exact ⟨fun w => absurd w (nI_ge hp' (by omega)), fun _ => hBi⟩
  · rintro U ⟨k1, k2⟩
    refine h7 _ _ ?_
    unfold mT_lanes_7
    rw [k2.1]
    exact ⟨fun _ => s_lanesThere l (M := mf (mf U 4 0) 5 0) k2.2.2.2.2.2.1 _ (hp U k1 k2), fun w => absurd (nI_le (Nat.le_refl _) (by omega)) w⟩
  · rintro U p r hp' hr ⟨k1, k2⟩ nxt
    have go : ∀ V, MFx (fun k => decide (k = 3)) (fun k => decide (k = 4) || decide (k = 5)) M V → MY V n P kd (opN ct P p (r + 1)) (opN sm P p (r + 1)) → B55 V (nI p) (nI r) := by
      intro V v1 v2
      refine h55 _ _ _ ?_
      unfold mT_lanes_55
      rw [← nI_succ]
      exact nxt V ⟨v1, v2⟩
    refine h17 _ _ _ ?_
    unfold mT_lanes_17
    rw [k2.1, ix25 (by omega) (by omega), nI_clamp (show 5 * p + r < 2 ^ 31 by omega)]
    refine ⟨fun w => absurd w (nI_ge hr (by omega)), fun _ => ⟨fun e => ?_, fun e => ?_⟩⟩
    · have e : p ≠ r := fun q => e (by rw [q])
      refine ⟨vp_in_nI (by omega) (by omega), vp_in_nI (by omega) (by omega), go _ ((k1.row _ rfl).row _ rfl) ?_⟩
      rw [opN_step _ hP2.2 hr e, opN_step _ hP2.2 hr e]
      exact MYlane k2 (c := 1) (s := 1) (by decide) (by decide)
    · have e : p = r := (nI_eq (by omega) (by omega)).mp e
      subst e
      exact go U k1 (by rw [opN_diag, opN_diag]; exact k2)
  · rintro U p hp' ⟨k1, k2⟩ hBo
    refine h17 _ _ _ ?_
    unfold mT_lanes_17
    rw [k2.1, ← nI_succ]
    exact ⟨fun _ => hBo, fun w => absurd (nI_le (Nat.le_refl _) (by omega)) w⟩
  · rintro U p hp' ⟨k1, k2⟩
    rw [opN_row, opN_row] at k2
    exact ⟨k1, k2⟩
  · exact ⟨MFx.rf.sc _ rfl, by rw [opN_0, opN_0]; exact h.mf 0 (by decide) (by decide)⟩
theorem o_lanes (l : Launch) (h : Rl S M n P kd ct sc sm x y) : cX_X8_lanes l S (fun r1 S1 => mX_lanes l M (fun r2 M1 => OKr S r1 S1 r2 M1)) := by
  have hP2 := h.P2
  refine c_X8_lanes l S _ ?_
  unfold cT_X8_lanes_e
  refine k_openAll l h.cy _ (fun T fT hT => ?_)
  refine k_forgetAll l _ _ (k_countLanes l (S := cf (cf (cf (cf T 9 0) 10 0) 12 (-1)) 17 0) (ct := opN ct P P 0) hT.2.2.2.2.2.2.2.1 _ ?_)
  refine s_lanes l h.my _ (fun N fN hN => ⟨rfl, ⟨n, P, kd, opN ct P P 0, opN sc P P 0, opN sm P P 0, x, y, h.lanes fT fN hT hN (fun j hj hne => ?_) (fun a b ha hb hab => ?_)⟩, (have hq := lens_eq fT; hq)⟩)
  · unfold opN at hne ⊢
    by_cases e : j % 5 < P ∧ j / 5 ≠ j % 5 ∧ (j / 5 < P ∨ (j / 5 = P ∧ j % 5 < 0))
    · rw [if_pos e, if_pos e]
    · rw [if_neg e] at hne
      rw [if_neg e, if_neg e]
      exact h.1.2.2.1 j hj hne
  · unfold opN
    have e1 : (5 * a + b) / 5 = a := by omega
    have e2 : (5 * a + b) % 5 = b := by omega
    rw [e1, e2, if_neg]
    · exact h.1.2.2.2 a b ha hb hab
    · rintro ⟨w1, w2, w3⟩
      omega
theorem o_cost (l : Launch) (h : Rl S M n P kd ct sc sm x y) (a b : Int32) : cX_X8_cost l S a b (fun r1 S1 => mX_cost l M a b (fun r2 M1 => OKr S r1 S1 r2 M1)) := by
  have hP2 := h.P2
  refine c_X8_cost l S a b _ ?_
  unfold cT_X8_cost_e
  have no : (¬ ((∃ i, i < P ∧ a = nI i) ∧ ∃ j, j < P ∧ b = nI j)) → mX_cost l M a b (fun r2 M1 => OKr S (-1) S r2 M1) := fun q =>
    s_cost l M a b _ h.my (fun _ => ⟨rfl, ⟨n, P, kd, ct, sc, sm, x, y, h.th 0⟩, rfl⟩) (fun i j hi hj ea eb => absurd ⟨⟨i, hi, ea⟩, j, hj, eb⟩ q)
  refine k_isPeg l h.cy.1 hP2.2 a _ (fun q => ⟨fun _ => no (fun w => q w.1), fun w => absurd rfl w⟩) (fun i hi ea => ⟨fun w => absurd w (by decide), fun _ => ?_⟩)
  refine k_isPeg l h.cy.1 hP2.2 b _ (fun q => ⟨fun w => absurd rfl w, fun _ => no (fun w => q w.2)⟩) (fun j hj eb => ⟨fun _ => ?_, fun w => absurd w (by decide)⟩)
  subst ea
  subst eb
  rw [ix5, nI_clamp (show 5 * i + j < 2 ^ 31 by omega), (h.cy.2.2.2.2.2.2.2.1 (5 * i + j) (by omega)).1]
  refine ⟨vp_in_nI (by omega) (by omega), s_cost l M _ _ _ h.my (fun w => absurd ⟨⟨i, hi, rfl⟩, j, hj, rfl⟩ w) (fun i' j' hi' hj' ea' eb' => ?_)⟩
  have e1 : i = i' := (nI_eq (by omega) (by omega)).mp ea'
  have e2 : j = j' := (nI_eq (by omega) (by omega)).mp eb'
  subst e1
  subst e2
  exact ⟨rfl, ⟨n, P, kd, ct, sc, sm, x, y, h.th 0⟩, rfl⟩
theorem o_number (l : Launch) (h : Rl S M n P kd ct sc sm x y) (g : Bool) : cX_X8_number l S g (fun r1 S1 => mX_number l M g (fun r2 M1 => OKr S r1 S1 r2 M1)) := by
  refine c_X8_number l S g _ ?_
  unfold cT_X8_number_e
  have key : mX_number l M g (fun r2 M1 => OKr S (nI (if g then y else x)) S r2 M1) := by
    refine s_number l M g _ h.my h.xa h.ya ⟨?_, ⟨n, P, kd, ct, sc, sm, x, y, h.th 0⟩, rfl⟩
    cases g
    · show nI x = nI (packN (dgs P x) P n 0)
      rw [dgs_pack h.hx]
    · show nI y = nI (packN (dgs P y) P n 0)
      rw [dgs_pack h.hy]
  refine ⟨fun c => ?_, fun c => ?_⟩
  · rw [bI_0] at c
    subst c
    rw [h.sx]; exact key
  · rw [bI_n0] at c
    subst c
    rw [h.sy]; exact key
theorem o_peg (l : Launch) (h : Rl S M n P kd ct sc sm x y) (a : Int32) : cX_X8_peg l S a (fun r1 S1 => mX_peg l M a (fun r2 M1 => OKr S r1 S1 r2 M1)) := by
  have hn2 := h.n2
  refine c_X8_peg l S a _ ?_
  unfold cT_X8_peg_e
  refine k_isDisc l h.cy.2.1 hn2.2 a _ (fun q => ⟨fun w => absurd rfl w, fun _ => ?_⟩) (fun i hi ea => ⟨fun _ => ?_, fun w => absurd w (by decide)⟩)
  · exact s_peg l M a _ h.my h.xa (fun _ => ⟨rfl, ⟨n, P, kd, ct, sc, sm, x, y, h.th 0⟩, rfl⟩) (fun i hi ea => absurd ⟨i, hi, ea⟩ q)
  · subst ea
    rw [h.sx]
    refine k_read l h.cy h.hx _ (fun T fT hT => ?_)
    rw [nI_clamp (show i < 2 ^ 31 by omega), hT.1 i (Nat.zero_le _) hi]
    refine ⟨vp_in_nI (by omega) (by omega), s_peg l M _ _ h.my h.xa (fun w => absurd ⟨i, hi, rfl⟩ w) (fun i' hi' ea' => ?_)⟩
    have e1 : i = i' := (nI_eq (by omega) (by omega)).mp ea'
    subst e1
    exact ⟨rfl, ⟨n, P, kd, ct, sc, sm, x, y, (h.look fT).th 0⟩, lens_eq fT⟩
theorem o_why (l : Launch) (h : Rl S M n P kd ct sc sm x y) (a b : Int32) : cX_X8_why l S a b (fun r1 S1 => mX_why l M a b (fun r2 M1 => OKr S r1 S1 r2 M1)) := by
  have hP2 := h.P2
  refine c_X8_why l S a b _ ?_
  unfold cT_X8_why_e
  have no : (¬ ((∃ i, i < P ∧ a = nI i) ∧ ∃ j, j < P ∧ b = nI j)) → mX_why l M a b (fun r2 M1 => OKr S (-1) S r2 M1) := fun q =>
    s_why l M a b _ h.my h.xa (fun _ => ⟨rfl, ⟨n, P, kd, ct, sc, sm, x, y, h.th 0⟩, rfl⟩) (fun i j hi hj ea eb => absurd ⟨⟨i, hi, ea⟩, j, hj, eb⟩ q)
  refine k_isPeg l h.cy.1 hP2.2 a _ (fun q => ⟨fun _ => no (fun w => q w.1), fun w => absurd rfl w⟩) (fun i hi ea => ⟨fun w => absurd w (by decide), fun _ => ?_⟩)
  refine k_isPeg l h.cy.1 hP2.2 b _ (fun q => ⟨fun w => absurd rfl w, fun _ => no (fun w => q w.2)⟩) (fun j hj eb => ⟨fun _ => ?_, fun w => absurd w (by decide)⟩)
  subst ea
  subst eb
  rw [h.sx]
  refine k_read l h.cy h.hx _ (fun T fT hT => ?_)
  refine k_hind l (h.cy.fr fT) hT (by omega) (by omega) _ ?_
  refine s_why l M _ _ _ h.my h.xa (fun w => absurd ⟨⟨i, hi, rfl⟩, j, hj, rfl⟩ w) (fun i' j' hi' hj' ea' eb' => ?_)
  have e1 : i = i' := (nI_eq (by omega) (by omega)).mp ea'
  have e2 : j = j' := (nI_eq (by omega) (by omega)).mp eb'
  subst e1
  subst e2
  exact ⟨by rw [h.why _ (by omega) (by omega)], ⟨n, P, kd, ct, sc, sm, x, y, (h.look fT).th 0⟩, lens_eq fT⟩
-- the k-th disc of a peg, from below
def kthN (σ : Nat → Nat) (p : Nat) : Nat → Nat → Option Nat
  | 0, _ => none
  | d + 1, K => if σ d = p then (if K = 0 then some d else kthN σ p d (K - 1)) else kthN σ p d K
theorem s_disc (l : Launch) (h : Rl S M n P kd ct sc sm x y) (a b : Int32) (post : Int32 → MS → Prop) (h0 : (¬ ((∃ i, i < P ∧ a = nI i) ∧ ¬ b < 0)) → post (-1) (mf M 3 0)) (h1 : ∀ i K, i < P → K < 2 ^ 31 → a = nI i → b = nI K → post (lab (kthN (dgs P x) i n K)) (mf M 3 0)) : mX_disc l M a b post := by
  have hP2 := h.P2
  have hn2 := h.n2
  refine m_disc l M a b post ?_
  intro B25 B58 h25 h58
  unfold mT_disc_e
  refine s_isPegC l _ a _ (P := P) h.my.1 hP2 (fun q => ⟨fun w => absurd rfl w, fun _ => h0 (fun w => q w.1)⟩) (fun i hi ea => ⟨fun _ v ev => ?_, fun w => absurd w (by decide)⟩)
  subst ea
  have ev : v = nI n - 1 := by rw [ev]; show M.1 1 - 1 = _; rw [h.my.2.1]
  subst ev
  by_cases hb : b < 0
  · refine h25 _ _ _ ?_
    unfold mT_disc_25
    have g := h0 (fun w => w.2 hb)
    exact ⟨fun _ => g, fun _ => ⟨fun _ => g, fun w => absurd hb w⟩⟩
  · obtain ⟨K, hK, eb⟩ := nI_of hb
    subst eb
    have g := h1 i K hi hK rfl rfl
    have key : ∀ d, d ≤ n → ∀ J, J < 2 ^ 31 → kthN (dgs P x) i n K = kthN (dgs P x) i d J → B25 (mf M 3 0) (nI J) (nI d - 1) := by
      intro d
      induction d with
      | zero =>
        intro _ J hJ he
        refine h25 _ _ _ ?_
        unfold mT_disc_25
        refine ⟨fun _ => ?_, fun w => absurd (by decide) w⟩
        rw [he] at g
        exact g
      | succ d ih =>
        intro hd J hJ he
        have hxd : (mf M 3 0).2.1 2 d = nI (dgs P x d) := (h.xa d (by omega)).1
        have hx5 := (h.xa d (by omega)).2
        have nxt : ∀ J', J' < 2 ^ 31 → kthN (dgs P x) i n K = kthN (dgs P x) i d J' → B58 (mf M 3 0) (nI J') (nI d) := by
          intro J' hJ' he'
          refine h58 _ _ _ ?_
          unfold mT_disc_58
          rw [i_sub1]
          exact ih (by omega) J' hJ' he'
        refine h25 _ _ _ ?_
        unfold mT_disc_25
        rw [nI_pred, nI_clamp (show d < 2 ^ 31 by omega), hxd]
        refine ⟨fun w => absurd w (nI_pos (by omega)), fun _ => ⟨fun w => absurd w (nI_pos hJ), fun _ => ⟨vp_in_nI (by omega) (by omega), fun c => ⟨fun c2 => ?_, fun c2 => ?_⟩, fun c => nxt J hJ ?_⟩⟩⟩
        · have c : dgs P x d = i := (nI_eq (by omega) (by omega)).mp c
          have c2 : J ≠ 0 := fun q => c2 (by rw [q]; rfl)
          obtain ⟨J', rfl⟩ : ∃ J', J = J' + 1 := ⟨J - 1, by omega⟩
          rw [pk_m1]
          refine nxt J' (by omega) ?_
          rw [he]
          conv => lhs; unfold kthN
          rw [if_pos c, if_neg c2]
          rfl
        · have c : dgs P x d = i := (nI_eq (by omega) (by omega)).mp c
          have c2 : J = 0 := (nI_is 0 rfl hJ (by omega)).mp c2
          have : kthN (dgs P x) i n K = some d := by
            rw [he]
            unfold kthN
            rw [if_pos c, if_pos c2]
          rw [this] at g
          exact g
        · have c : dgs P x d ≠ i := fun q => c (by rw [q])
          rw [he]
          conv => lhs; unfold kthN
          rw [if_neg c]
    exact key n (Nat.le_refl _) K hK rfl
theorem o_disc (l : Launch) (h : Rl S M n P kd ct sc sm x y) (a b : Int32) : cX_X8_disc l S a b (fun r1 S1 => mX_disc l M a b (fun r2 M1 => OKr S r1 S1 r2 M1)) := by
  have hP2 := h.P2
  have hn2 := h.n2
  refine c_X8_disc l S a b _ ?_
  intro B45 B75 h45 h75
  unfold cT_X8_disc_e
  have no : (¬ ((∃ i, i < P ∧ a = nI i) ∧ ¬ b < 0)) → mX_disc l M a b (fun r2 M1 => OKr S (-1) S r2 M1) := fun q =>
    s_disc l h a b _ (fun _ => ⟨rfl, ⟨n, P, kd, ct, sc, sm, x, y, h.th 0⟩, rfl⟩) (fun i K hi hK ea eb => absurd ⟨⟨i, hi, ea⟩, by rw [eb]; exact nI_pos hK⟩ q)
  refine k_isPeg l h.cy.1 hP2.2 a _ (fun q => ⟨fun _ => no (fun w => q w.1), fun w => absurd rfl w⟩) (fun i hi ea => ⟨fun w => absurd w (by decide), fun _ => ⟨fun hb => ?_, fun hb => no (fun w => hb (Int32.not_lt.mp w.2))⟩⟩)
  obtain ⟨K, hK, eb⟩ := nI_of (Int32.not_lt.mpr hb)
  subst ea
  subst eb
  rw [h.sx]
  refine k_read l h.cy h.hx _ (fun T fT hT v ev => ?_)
  have ev : v = nI n - 1 := by rw [ev, (h.cy.fr fT).2.1]
  subst ev
  have fin : ∀ v, v = lab (kthN (dgs P x) i n K) → mX_disc l M (nI i) (nI K) (fun r2 M1 => OKr S v T r2 M1) := by
    intro v ev
    refine s_disc l h _ _ _ (fun w => absurd ⟨⟨i, hi, rfl⟩, nI_pos hK⟩ w) (fun i' K' hi' hK' ea' eb' => ?_)
    have e1 : i = i' := (nI_eq (by omega) (by omega)).mp ea'
    have e2 : K = K' := (nI_eq (by omega) (by omega)).mp eb'
    subst e1
    subst e2
    exact ⟨ev, ⟨n, P, kd, ct, sc, sm, x, y, (h.look fT).th 0⟩, lens_eq fT⟩
  have key : ∀ d, d ≤ n → ∀ c, c ≤ K → c + d ≤ n → kthN (dgs P x) i n K = kthN (dgs P x) i d (K - c) → B45 T (nI c) (nI d - 1) := by
    intro d
    induction d with
    | zero =>
      intro _ c hc hcn he
      refine h45 _ _ _ ?_
      unfold cT_X8_disc_45
      exact ⟨fun _ => fin _ (by rw [he]; rfl), fun w => absurd (by decide) w⟩
    | succ d ih =>
      intro hd c hc hcn he
      have hxd := hT.1 d (Nat.zero_le _) (by omega)
      have hx5 : dgs P x d < P := dgs_lt (by omega) x d
      have nxt : ∀ c', c' ≤ K → c' + d ≤ n → kthN (dgs P x) i n K = kthN (dgs P x) i d (K - c') → B75 T (nI c') (nI d) := by
        intro c' hc' hcn' he'
        refine h75 _ _ _ ?_
        unfold cT_X8_disc_75
        rw [i_sub1]
        exact ih (by omega) c' hc' hcn' he'
      refine h45 _ _ _ ?_
      unfold cT_X8_disc_45
      rw [nI_pred, nI_clamp (show d < 2 ^ 31 by omega), hxd]
      refine ⟨fun w => absurd w (nI_pos (by omega)), fun _ => ⟨vp_in_nI (by omega) (by omega), fun e => nxt c hc (by omega) ?_, fun e => ⟨fun e2 => ?_, fun e2 => fin _ ?_⟩⟩⟩
      · have e : dgs P x d ≠ i := fun q => e (by rw [q])
        rw [he]
        conv => lhs; unfold kthN
        rw [if_neg e]
      · have e : dgs P x d = i := (nI_eq (by omega) (by omega)).mp e
        have e2 : c ≠ K := fun q => e2 (by rw [q])
        rw [← nI_succ]
        refine nxt (c + 1) (by omega) (by omega) ?_
        rw [he]
        conv => lhs; unfold kthN
        rw [if_pos e, if_neg (by omega), show K - c - 1 = K - (c + 1) by omega]
      · have e : dgs P x d = i := (nI_eq (by omega) (by omega)).mp e
        have e2 : c = K := (nI_eq (by omega) hK).mp e2
        rw [he]
        unfold kthN
        rw [if_pos e, if_pos (by omega)]
        rfl
  exact key n (Nat.le_refl _) 0 (Nat.zero_le _) (by omega) rfl
end Ops3
end
section
-- a right stand, told by its pairs
def RR (kd σ : Nat → Nat) (n : Nat) : Prop := ∀ d c, d < c → c < n → σ c = σ d → (∀ i, d < i → i < c → σ i ≠ σ d) → kd c = 2 → kd d = 2
theorem okD_iff {kd σ : Nat → Nat} {n d : Nat} (hd : d < n) : okD kd σ n d = true ↔ ∀ c, d < c → c < n → σ c = σ d → (∀ i, d < i → i < c → σ i ≠ σ d) → kd c = 2 → kd d = 2 := by
  have hle := tpN_le σ (σ d) (n - (d + 1)) (d + 1)
  have hno := tpN_no (σ := σ) (p := σ d) (n - (d + 1)) (d + 1)
  have hhit := tpN_hit σ (σ d) (n - (d + 1)) (d + 1)
  unfold okD
  generalize tpN σ (σ d) (n - (d + 1)) (d + 1) = b at *
  constructor
  · intro h c h1 h2 h3 h4 h5
    have e1 : ¬ c < b := fun q => hno c (by omega) q h3
    have e2 : b < n := by omega
    have e3 := hhit (by omega)
    have e4 : ¬ b < c := fun q => h4 b (by omega) q e3
    have : b = c := by omega
    subst this
    simp only [e2, h5, decide_true, Bool.true_and, Bool.not_not, decide_eq_true_eq] at h
    exact h
  · intro h
    by_cases e2 : b < n
    · have e3 := hhit (by omega)
      have := h b (by omega) e2 e3 (fun i h1 h2 => hno i (by omega) h2)
      by_cases e5 : kd b = 2
      · simp [e2, e5, this e5]
      · simp [e5]
    · simp [e2]
theorem rightN_iff {kd σ : Nat → Nat} {n : Nat} : ∀ t d, rightN kd σ n t d = true ↔ ∀ i, d ≤ i → i < d + t → okD kd σ n i = true := by
  intro t
  induction t with
  | zero => intro d; exact ⟨fun _ i h1 h2 => absurd h2 (by omega), fun _ => rfl⟩
  | succ t ih =>
    intro d
    unfold rightN
    rw [Bool.and_eq_true, ih]
    constructor
    · rintro ⟨h1, h2⟩ i h3 h4
      by_cases e : i = d
      · subst e; exact h1
      · exact h2 i (by omega) (by omega)
    · intro h
      exact ⟨h d (Nat.le_refl _) (by omega), fun i h1 h2 => h i (by omega) (by omega)⟩
theorem right_RR {kd σ : Nat → Nat} {n : Nat} : rightN kd σ n n 0 = true ↔ RR kd σ n := by
  rw [rightN_iff]
  constructor
  · intro h d c h1 h2
    exact (okD_iff (show d < n by omega)).mp (h d (Nat.zero_le _) (by omega)) c h1 h2
  · intro h i _ hi
    exact (okD_iff (show i < n by omega)).mpr (fun c h1 h2 => h i c h1 h2)
theorem RR.congr {kd σ τ : Nat → Nat} {n : Nat} (h : RR kd σ n) (e : ∀ j, j < n → σ j = τ j) : RR kd τ n := by
  intro d c h1 h2 h3 h4 h5
  refine h d c h1 h2 (by rw [e c h2, e d (by omega)]; exact h3) (fun i q1 q2 => ?_) h5
  rw [e i (by omega), e d (by omega)]
  exact h4 i q1 q2
theorem rightN_congr {kd σ τ : Nat → Nat} {n : Nat} (e : ∀ j, j < n → σ j = τ j) : rightN kd σ n n 0 = rightN kd τ n n 0 :=
  Bool.eq_iff_iff.mpr (right_RR.trans (Iff.trans ⟨fun h => h.congr e, fun h => h.congr (fun j hj => (e j hj).symm)⟩ right_RR.symm))
theorem RR.move {kd ct sg σ : Nat → Nat} {n a b : Nat} (h : RR kd σ n) (hz : a < 5 → ct (5 * a + a) = 0) (ha : a < 5) (hw : whyN n kd ct sg σ a b = 0) : RR kd (movN n kd σ a b) n := by
  have ht := whyN_top hw
  have hab : a ≠ b := by
    intro e
    subst e
    unfold whyN at hw
    rw [if_pos (hz ha)] at hw
    cases hw
  have hp := pkE_lt (kd := kd) (σ := σ) ht
  have hta : σ (topN σ a n) = a := tpN_hit σ a n 0 (by show topN σ a n < 0 + n; omega)
  have htn : ∀ i, i < topN σ a n → σ i ≠ a := fun i hi => tpN_no n 0 i (Nat.zero_le _) hi
  have hun : ∀ i, i < topN σ b n → σ i ≠ b := fun i hi => tpN_no n 0 i (Nat.zero_le _) hi
  have hub : topN σ b n < n → σ (topN σ b n) = b := fun q => tpN_hit σ b n 0 (by show topN σ b n < 0 + n; omega)
  have hrun : ∀ j, topN σ a n ≤ j → j ≤ pkE kd σ n (topN σ a n) → σ j = a ∧ kd j = kd (topN σ a n) := fun j q1 q2 => by
    have := pkE_run q1 q2
    rw [hta] at this
    exact this
  have hw2 : topN σ b n < n → pkE kd σ n (topN σ a n) ≤ topN σ b n ∧ (kd (topN σ b n) = 2 → kd (pkE kd σ n (topN σ a n)) = 2) := by
    intro q
    unfold whyN at hw
    split at hw
    · cases hw
    · split at hw
      · cases hw
      · split at hw
        · cases hw
        · split at hw
          · omega
          · split at hw
            · cases hw
            · split at hw
              · cases hw
              · rename_i w1 w2
                exact ⟨by omega, fun e => by
                  by_cases e2 : kd (pkE kd σ n (topN σ a n)) = 2
                  · exact e2
                  · exact absurd ⟨e, e2⟩ w2⟩
  have hM : ∀ j, movN n kd σ a b j = if topN σ a n ≤ j ∧ j ≤ pkE kd σ n (topN σ a n) then b else σ j := fun _ => rfl
  generalize topN σ a n = t at *
  generalize topN σ b n = u at *
  generalize pkE kd σ n t = e at *
  intro d c h1 h2 h3 h4 h5
  rw [hM, hM] at h3
  have h4' : ∀ i, d < i → i < c → (if t ≤ i ∧ i ≤ e then b else σ i) ≠ (if t ≤ d ∧ d ≤ e then b else σ d) := fun i q1 q2 => by
    have := h4 i q1 q2
    rw [hM, hM] at this
    exact this
  by_cases c1 : t ≤ d ∧ d ≤ e
  · rw [if_pos c1] at h3 h4'
    by_cases c2 : t ≤ c ∧ c ≤ e
    · rw [(hrun d c1.1 c1.2).2, ← (hrun c c2.1 c2.2).2]
      exact h5
    · rw [if_neg c2] at h3
      have q1 : ¬ c < u := fun q => hun c q h3
      have q2 := hw2 (by omega)
      have q3 := hub (by omega)
      have q4 : u ≠ e := fun q => hab (by rw [← (hrun e hp.1 (Nat.le_refl _)).1, ← q, q3])
      have q5 : ¬ u < c := fun q => h4' u (by omega) q (by rw [if_neg (by omega)]; exact q3)
      have q6 : u = c := by omega
      rw [q6] at q2
      rw [(hrun d c1.1 c1.2).2, ← (hrun e hp.1 (Nat.le_refl _)).2]
      exact q2.2 h5
  · rw [if_neg c1] at h3 h4'
    by_cases c2 : t ≤ c ∧ c ≤ e
    · rw [if_pos c2] at h3
      have q1 : ¬ d < u := fun q => hun d q h3.symm
      have q2 := hw2 (by omega)
      omega
    · rw [if_neg c2] at h3
      refine h d c h1 h2 h3 (fun i q1 q2 q3 => ?_) h5
      by_cases c3 : t ≤ i ∧ i ≤ e
      · have q4 := (hrun i c3.1 c3.2).1
        exact htn d (by omega) (by rw [← q3, q4])
      · exact h4' i q1 q2 (by rw [if_neg c3]; exact q3)
/-- what a change of stand, goal, past and trouble leaves -/
def xA : Nat → Bool := fun k => decide (k ≤ 2) || (decide (6 ≤ k) && decide (k ≤ 10))
def xB : Nat → Bool := fun k => (decide (13 ≤ k) && decide (k ≤ 21))
def xM : Nat → Bool := fun k => (decide (2 ≤ k) && decide (k ≤ 5)) || decide (k = 7) || decide (k = 8)
def xR : Nat → Bool := fun k => decide (k = 2) || decide (k = 3) || decide (k = 6) || (decide (8 ≤ k) && decide (k ≤ 28)) || decide (34 ≤ k)
theorem lA_x (k : Nat) (h : xA k = false) : lA k = false := by
  simp only [xA, lA, Bool.or_eq_false_iff, Bool.and_eq_false_iff, decide_eq_false_iff_not] at *
  omega
theorem lB_x (k : Nat) (h : xB k = false) : lB k = false := by
  simp only [xB, lB, Bool.or_eq_false_iff, Bool.and_eq_false_iff, decide_eq_false_iff_not] at *
  omega
theorem CFr.x {S T : CS} (f : CFr lA lB nn S T) : CFr xA xB nn S T := f.mono lA_x lB_x
section Ops4
variable {S : CS} {M : MS} {n P x y : Nat} {kd ct sc sm : Nat → Nat}
theorem Rl.mkx {T : CS} {N : MS} {x' y' : Nat} (h : Rl S M n P kd ct sc sm x y) (fT : CFr xA xB nn S T) (fN : MFx xM xR M N) (h0 : RS n P kd (T.1 0) (N.2.1 2) x') (h1 : RS n P kd (T.1 1) (N.2.1 3) y') (h2 : T.1 2 = N.1 2) (hp : RP n P kd (T.1 9) (T.1 10) (T.2.1 20) (T.2.1 21) (N.1 4) (N.1 5) (N.2.1 6)) (h8 : ∃ τ, MA N 8 τ) (h9 : ∃ τ, MA N 9 τ) : Rl T N n P kd ct sc sm x' y' := by
  obtain ⟨⟨b1, b2, b3, b4⟩, -, -, -, -, q6, q7, -, q9, q10⟩ := h
  refine ⟨⟨b1.fr fT, ?_, b3, b4⟩, h0, h1, h2, hp, ?_, ?_, ⟨h8, h9⟩, q9.fr fT, q10.fr fT⟩
  · obtain ⟨c1, c2, c3, c4, c5, c6, c7⟩ := b2
    refine ⟨?_, ?_, c3, c4, ?_, ?_, ?_⟩
    · rw [fN.1 0 rfl]; exact c1
    · rw [fN.1 1 rfl]; exact c2
    · rw [fN.2 1 rfl]; exact c5
    · rw [fN.2 4 rfl]; exact c6
    · rw [fN.2 5 rfl]; exact c7
  · rw [fT.1 11 rfl, (fT.2.1 22 rfl).1, fT.2.2 22 rfl, fN.1 6 rfl, fN.2 7 rfl]; exact q6
  · rw [fT.1 19 rfl, (fT.2.1 38 rfl).1, (fT.2.1 39 rfl).1, (fT.2.1 40 rfl).1, (fT.2.1 41 rfl).1, (fT.2.1 42 rfl).2, fN.1 9 rfl, fN.2 29 rfl, fN.2 30 rfl, fN.2 31 rfl, fN.2 32 rfl]; exact q7
theorem o_trouble (l : Launch) (h : Rl S M n P kd ct sc sm x y) : cX_X8_trouble l S (fun r1 S1 => mX_trouble l M (fun r2 M1 => OKr S r1 S1 r2 M1)) :=
  c_X8_trouble l S _ (m_trouble l M _ ⟨h.2.2.2.1, ⟨n, P, kd, ct, sc, sm, x, y, h.th 0⟩, rfl⟩)
theorem s_size (l : Launch) (h : MY M n P kd ct sm) (a : Int32) (post : Int32 → MS → Prop) (h0 : a = 0 → post (M.1 0) (mf M 3 0)) (h1 : a = 1 → post (M.1 1) (mf M 3 0)) (h2 : a = 2 → post (nI (lnN ct)) (mf M 3 0)) (h3 : a = 3 → post (M.1 9) (mf M 3 0)) (h4 : a = 4 → post (M.1 4) (mf M 3 0)) (h5 : a = 5 → post (M.1 5) (mf M 3 0)) (h6 : a = 6 → post (M.1 6) (mf M 3 0)) (h7 : a = 7 → post (nI (packN kd 4 n 0)) (mf M 3 0)) (h8 : (a.toInt < 0 ∨ 7 < a.toInt) → post (-1) (mf M 3 0)) : mX_size l M a post := by
  have hn2 := h.2.2.2.1
  refine m_size l M a post ?_
  intro B96 h96
  unfold mT_size_e
  refine ⟨h0, h1, fun e => s_lanesThere l (M := mf M 3 0) h.2.2.2.2.2.1 _ (h2 e), h3, h4, h5, h6, fun e => ?_, h8⟩
  have g := h7 e
  have key : ∀ d acc, d ≤ n → packN kd 4 n 0 = packN kd 4 d acc → B96 (mf M 3 0) (nI acc) (nI d - 1) := by
    intro d
    induction d with
    | zero =>
      intro acc hd he
      refine h96 _ _ _ ?_
      unfold mT_size_96
      refine ⟨fun _ => ?_, fun c => absurd (by decide) c⟩
      rw [he] at g; exact g
    | succ d ih =>
      intro acc hd he
      refine h96 _ _ _ ?_
      unfold mT_size_96
      rw [nI_pred]
      refine ⟨fun c => absurd c (nI_pos (by omega)), fun _ => ⟨vp_in_nI (by omega) (by omega), fun v hv => ?_⟩⟩
      have hk : (mf M 3 0).2.1 1 d = nI (kd d) := (h.2.2.2.2.1 d (by omega)).1
      rw [nI_clamp (by omega), hk, show (4 : Int32) = nI 4 from rfl, pk_mul, nI_add] at hv
      rw [hv, i_sub1]
      exact ih _ (by omega) (by rw [he]; show packN kd 4 d (acc * 4 + kd d) = _; rw [Nat.mul_comm])
  intro v hv
  rw [hv, h.2.1]
  exact key n 0 (Nat.le_refl n) rfl
theorem shl_kd : ∀ k, k < 4 → ∀ j, j < 7 → nI k <<< ((2 * nI j) &&& 31) = nI (k * 4 ^ j) := by decide
theorem k_sumKinds (l : Launch) (h : CY S n P kd ct sc) (post : Int32 → CS → Prop) (hp : post (nI (packN kd 4 n 0)) S) : cX_X0_sumOfKinds l S post := by
  have hn2 := h.2.2.2.2.1
  refine c_X0_sumOfKinds l S post ?_
  intro B4 h4
  unfold cT_X0_sumOfKinds_e
  have key : ∀ d j, j + d = n → B4 S (nI (numN kd 4 j)) (nI j) := by
    intro d
    induction d with
    | zero =>
      intro j hj
      have : j = n := by omega
      subst this
      refine h4 _ _ _ ?_
      unfold cT_X0_sumOfKinds_4
      rw [h.2.1]
      rw [packN0] at hp
      exact ⟨fun _ => hp, fun w => absurd (nI_le (Nat.le_refl _) (by omega)) w⟩
    | succ d ih =>
      intro j hj
      refine h4 _ _ _ ?_
      unfold cT_X0_sumOfKinds_4
      rw [h.2.1]
      refine ⟨fun w => absurd w (nI_ge (by omega) (by omega)), fun _ => ⟨vp_in_nI (by omega) (by omega), fun v hv => ?_⟩⟩
      have hk := h.2.2.2.2.2.2.1 j (by omega)
      rw [nI_clamp (by omega), hk.1, shl_kd (kd j) (by omega) j (by omega), nI_add] at hv
      rw [hv, ← nI_succ]
      exact ih (j + 1) (by omega)
  exact key n 0 (by omega)
theorem o_size (l : Launch) (h : Rl S M n P kd ct sc sm x y) (a : Int32) : cX_X8_size l S a (fun r1 S1 => mX_size l M a (fun r2 M1 => OKr S r1 S1 r2 M1)) := by
  refine c_X8_size l S a _ ?_
  unfold cT_X8_size_e
  have hR : Rel S (mf M 3 0) := ⟨n, P, kd, ct, sc, sm, x, y, h.th 0⟩
  obtain ⟨p, q, g, -, p1, p2, q1, q2, -⟩ := h.2.2.2.2.1
  obtain ⟨L, -, l1, l2, -⟩ := h.2.2.2.2.2.1
  obtain ⟨⟨q', w, of, le, ro, ⟨-, k1, -⟩, ⟨-, k2, -⟩⟩, -⟩ := h.2.2.2.2.2.2.1
  have no : ∀ {i j : Int32} {Q : Prop}, i ≠ j → a = i → a = j → Q := fun hij e1 e2 => absurd (e1.symm.trans e2) hij
  have nd : ∀ {i : Int32} {Q : Prop}, ¬ (i.toInt < 0 ∨ 7 < i.toInt) → a = i → (a.toInt < 0 ∨ 7 < a.toInt) → Q := fun hi e q => absurd (e ▸ q) hi
  refine ⟨fun e => ?_, fun e => ?_, fun e => ?_, fun e => ?_, fun e => ?_, fun e => ?_, fun e => ?_, fun e => ?_, fun e => ?_⟩
  · exact s_size l h.my a _ (fun _ => ⟨by rw [h.cy.1, h.my.1], hR, rfl⟩) (no (by decide) e) (no (by decide) e) (no (by decide) e) (no (by decide) e) (no (by decide) e) (no (by decide) e) (no (by decide) e) (nd (by decide) e)
  · exact s_size l h.my a _ (no (by decide) e) (fun _ => ⟨by rw [h.cy.2.1, h.my.2.1], hR, rfl⟩) (no (by decide) e) (no (by decide) e) (no (by decide) e) (no (by decide) e) (no (by decide) e) (no (by decide) e) (nd (by decide) e)
  · refine k_countLanes l h.cy.2.2.2.2.2.2.2.1 _ ?_
    exact s_size l h.my a _ (no (by decide) e) (no (by decide) e) (fun _ => ⟨rfl, hR, rfl⟩) (no (by decide) e) (no (by decide) e) (no (by decide) e) (no (by decide) e) (no (by decide) e) (nd (by decide) e)
  · exact s_size l h.my a _ (no (by decide) e) (no (by decide) e) (no (by decide) e) (fun _ => ⟨by rw [k1, k2], hR, rfl⟩) (no (by decide) e) (no (by decide) e) (no (by decide) e) (no (by decide) e) (nd (by decide) e)
  · exact s_size l h.my a _ (no (by decide) e) (no (by decide) e) (no (by decide) e) (no (by decide) e) (fun _ => ⟨by rw [p1, p2], hR, rfl⟩) (no (by decide) e) (no (by decide) e) (no (by decide) e) (nd (by decide) e)
  · exact s_size l h.my a _ (no (by decide) e) (no (by decide) e) (no (by decide) e) (no (by decide) e) (no (by decide) e) (fun _ => ⟨by rw [q1, q2], hR, rfl⟩) (no (by decide) e) (no (by decide) e) (nd (by decide) e)
  · exact s_size l h.my a _ (no (by decide) e) (no (by decide) e) (no (by decide) e) (no (by decide) e) (no (by decide) e) (no (by decide) e) (fun _ => ⟨by rw [l1, l2], hR, rfl⟩) (no (by decide) e) (nd (by decide) e)
  · refine k_sumKinds l h.cy _ ?_
    exact s_size l h.my a _ (no (by decide) e) (no (by decide) e) (no (by decide) e) (no (by decide) e) (no (by decide) e) (no (by decide) e) (no (by decide) e) (fun _ => ⟨rfl, hR, rfl⟩) (nd (by decide) e)
  · have nx : ∀ {i : Int32} {Q : Prop}, ¬ (i.toInt < 0 ∨ 7 < i.toInt) → a = i → Q := fun hi e' => absurd (e' ▸ e) hi
    exact s_size l h.my a _ (nx (by decide)) (nx (by decide)) (nx (by decide)) (nx (by decide)) (nx (by decide)) (nx (by decide)) (nx (by decide)) (nx (by decide)) (fun _ => ⟨rfl, hR, rfl⟩)
end Ops4
end
section
-- moves(), stand(), undo(), redo(), move()
theorem dgs_eq0 {P n s t j : Nat} (hP : 0 < P) (hs : s < P ^ n) (ht : t < P ^ n) (hj : n ≤ j) : dgs P s j = dgs P t j := by rw [dgs_zero hP hs hj, dgs_zero hP ht hj]
section Ops5
variable {S : CS} {M : MS} {n P x y : Nat} {kd ct sc sm : Nat → Nat}
theorem whyN_tg (hz : ∀ a, a < 5 → ct (5 * a + a) = 0) {a b : Nat} (hP : P ≤ 5) (ha : a < P) (hb : b < P) : (tgN n P kd ct sm x a b).isSome = decide (whyN n kd ct sm (dgs P x) a b = 0) := by
  unfold tgN
  by_cases e : whyN n kd ct sm (dgs P x) a b = 0
  · have hab : a ≠ b := by
      intro q
      subst q
      unfold whyN at e
      rw [if_pos (hz a (by omega))] at e
      cases e
    rw [if_pos ⟨ha, hb, hab, e⟩, decide_eq_true e]
    rfl
  · rw [if_neg (fun q => e q.2.2.2), decide_eq_false e]
    rfl
theorem s_moves (l : Launch) (hy : MY M n P kd ct sm) (hz : ∀ a, a < 5 → ct (5 * a + a) = 0) (hxa : MA M 2 (dgs P x)) (post : Int32 → MS → Prop) (h : post (nI (mvL n P kd ct sm x).length) (mf M 3 0)) : mX_moves l M post := by
  have hP2 := hy.2.2.1
  refine m_moves l M post ?_
  intro B9 B19 h9 h19
  unfold mT_moves_e
  have hy' : MY (mf M 3 0) n P kd ct sm := hy.mf 0 (by decide) (by decide)
  have hgP : ∀ q, (tgN n P kd ct sm x P q).isSome = false := by
    intro q
    unfold tgN
    rw [if_neg (fun w => absurd w.1 (Nat.lt_irrefl _))]
    rfl
  have key := pair_loop (α := Nat) (P := P) (Bo := fun c p => B9 (mf M 3 0) (nI c) (nI p)) (Bi := fun c p r => B19 (mf M 3 0) (nI c) (nI p) (nI r)) (I := fun p r c => c + (remE (fun a b => (tgN n P kd ct sm x a b).isSome) P p r).length = (mvL n P kd ct sm x).length) ?_ ?_ ?_ ?_ ?_ 0 ?_
  · exact key
  · intro c p hp _ hBi
    refine h9 _ _ _ ?_
    unfold mT_moves_9
    rw [hy'.1]
    exact ⟨fun w => absurd w (nI_ge hp (by omega)), fun _ => hBi⟩
  · intro c hc
    refine h9 _ _ _ ?_
    unfold mT_moves_9
    rw [hy'.1]
    rw [remE_end hgP] at hc
    have hc : c = (mvL n P kd ct sm x).length := hc
    rw [hc]
    exact ⟨fun _ => h, fun w => absurd (nI_le (Nat.le_refl _) (by omega)) w⟩
  · intro c p r hp hr hc nxt
    refine h19 _ _ _ _ ?_
    unfold mT_moves_19
    rw [hy'.1]
    refine ⟨fun w => absurd w (nI_ge hr (by omega)), fun _ => ?_⟩
    refine s_whyOf l _ 2 p r (by unfold m7; decide) _ hy' hxa (by omega) (by omega) ?_
    rw [remE_in hr, whyN_tg hz hP2.2 hp hr] at hc
    refine ⟨fun e v hv => ?_, fun e v hv => ?_⟩
    · have e : whyN n kd ct sm (dgs P x) p r ≠ 0 := fun q => e (by rw [q]; rfl)
      rw [decide_eq_false e] at hc
      rw [hv, ← nI_succ, Int32.add_zero]
      exact nxt c hc
    · have e : whyN n kd ct sm (dgs P x) p r = 0 := by
        have hw : whyN n kd ct sm (dgs P x) p r ≤ 5 := by
          unfold whyN
          repeat' split
          all_goals omega
        exact (nI_is 0 rfl (by omega) (by omega)).mp e
      rw [decide_eq_true e] at hc
      rw [hv, ← nI_succ, ← nI_succ]
      refine nxt (c + 1) ?_
      rw [if_pos rfl, List.length_cons] at hc
      omega
  · intro c p hp _ hBo
    refine h19 _ _ _ _ ?_
    unfold mT_moves_19
    rw [hy'.1, ← nI_succ]
    exact ⟨fun _ => hBo, fun w => absurd (nI_le (Nat.le_refl _) (by omega)) w⟩
  · intro c p hp hc
    rw [remE_row hp hgP] at hc
    exact hc
  · rw [remE_0 (by omega), Nat.zero_add]
    rfl
theorem o_moves (l : Launch) (h : Rl S M n P kd ct sc sm x y) : cX_X8_moves l S (fun r1 S1 => mX_moves l M (fun r2 M1 => OKr S r1 S1 r2 M1)) := by
  refine c_X8_moves l S _ ?_
  unfold cT_X8_moves_e
  rw [h.sx]
  refine k_read l h.cy h.hx _ (fun T fT hT => ?_)
  refine k_spread l (h.cy.fr fT) h.dz h.hx hT _ (fun U fU hU => ?_)
  have fU' : CFr lA lB nn S U := fT.tr (fU.mono sA_l sB_l)
  refine s_moves l h.my h.dz h.xa _ ⟨by rw [hU.1, h.mv], ⟨n, P, kd, ct, sc, sm, x, y, (h.look fU').th 0⟩, lens_eq fU'⟩
/-- a row that holds a stand's pegs -/
theorem row_of {z : Nat} {f : Nat → Int32} {σ : Nat → Nat} (hP : 0 < P) (hx : x < P ^ n) (hz : z < P ^ n) (hf : ∀ j, j < 7 → f j = nI (dgs P x j)) (hσ : ∀ j, j < n → σ j = dgs P z j) (g : Nat → Int32) (hg : ∀ j, j < 7 → g j = if j < n then nI (σ j) else f j) : ∀ j, j < 7 → g j = nI (dgs P z j) := by
  intro j hj
  rw [hg j hj]
  by_cases e : j < n
  · rw [if_pos e, hσ j e]
  · rw [if_neg e, hf j hj, dgs_eq0 hP hx hz (by omega)]
theorem s_stand (l : Launch) (h : Rl S M n P kd ct sc sm x y) (a : Int32) (g : Bool) (post : Bool → MS → Prop) (h0 : (¬ ∃ i, i < P ^ n ∧ a = nI i) → post false (mf (mf M 3 0) 2 1))
    (h1 : ∀ i, i < P ^ n → a = nI i → rgt n P kd i = false → ∀ f, (∃ τ, MA (ma (mf M 3 0) 8 f) 8 τ) → post false (mf (ma (mf M 3 0) 8 f) 2 3))
    (h3 : ∀ i, i < P ^ n → a = nI i → rgt n P kd i = true → ∀ f e, (∃ τ, MA (ma (mf M 3 0) 8 f) 8 τ) → (∀ j, j < 7 → e j = nI (dgs P i j)) → (g = true → post true (mf (ma (ma (mf M 3 0) 8 f) 3 e) 2 0)) ∧ (g = false → post true (mf (mf (mf (mf (ma (ma (mf M 3 0) 8 f) 2 e) 2 0) 4 0) 5 0) 2 0))) : mX_stand l M a g post := by
  have hP2 := h.P2
  have hn2 := h.n2
  have hb := pow_b hP2 hn2.2
  refine m_stand l M a g post ?_
  intro B54 B93 h54 h93
  unfold mT_stand_e
  have hy : MY (mf M 3 0) n P kd ct sm := (h.th 0).my
  refine s_stands l _ _ hy.2.1 hy.1 hn2.2 ?_
  refine s_inB l _ a _ _ (N := P ^ n) rfl (by omega) (fun q => ⟨fun w => absurd rfl w, fun _ => s_not l _ 1 _ (h0 q)⟩) (fun i hi ea => ⟨fun _ => ?_, fun w => absurd w (by decide)⟩)
  subst ea
  refine s_unp l hy (show i < 2 ^ 31 by omega) (h.th 0).m8 _ (fun f hf => ?_)
  obtain ⟨σ, hσ, hσ2⟩ := id hf
  have hy2 : MY (ma (mf M 3 0) 8 f) n P kd ct sm := hy.ma f (by decide) (by decide) (by decide)
  refine s_isRight l _ 8 (by unfold m7; decide) _ hy2 hσ ?_
  have er : rightN kd σ n n 0 = rgt n P kd i := rightN_congr hσ2
  rw [er]
  refine ⟨fun c => ?_, fun c => s_not l _ 3 _ (h1 i hi rfl (bI_0.mp c) f ⟨σ, hσ⟩)⟩
  have c := bI_n0.mp c
  have fin := h3 i hi rfl c f
  have h8 : ∀ j, j < n → f j = nI (dgs P i j) := fun j hj => by
    have := (hσ j (by omega)).1
    rw [hσ2 j hj] at this
    exact this
  cases g with
  | false =>
    have key : ∀ d k, k + d = n → B54 (ma (ma (mf M 3 0) 8 f) 2 (cpF (M.2.1 2) f k)) (nI k) := by
      intro d
      induction d with
      | zero =>
        intro k hk
        have : k = n := by omega
        subst this
        refine h54 _ _ ?_
        unfold mT_stand_54
        refine ⟨fun _ => ⟨fun w => absurd rfl w, fun _ => s_nothingUndone l _ _ ?_⟩, fun w => absurd (by rw [show (ma (ma (mf M 3 0) 8 f) 2 (cpF (M.2.1 2) f k)).1 1 = nI k from hy.2.1]; exact nI_le (Nat.le_refl _) (by omega)) w⟩
        refine (fin (cpF (M.2.1 2) f k) ⟨σ, hσ⟩ (row_of (by omega) h.hx hi h.2.1.2.2.1 (fun _ _ => rfl) _ (fun j hj => ?_))).2 rfl
        unfold cpF
        by_cases e : j < k
        · rw [if_pos e, if_pos e, h8 j e]
        · rw [if_neg e, if_neg e]
      | succ d ih =>
        intro k hk
        refine h54 _ _ ?_
        unfold mT_stand_54
        refine ⟨fun w => absurd w (by rw [show (ma (ma (mf M 3 0) 8 f) 2 (cpF (M.2.1 2) f k)).1 1 = nI n from hy.2.1]; exact nI_ge (by omega) (by omega)), fun _ => ⟨fun _ => ⟨vp_in_nI (by omega) (by omega), vp_in_nI (by omega) (by omega), ?_⟩, fun w => absurd rfl w⟩⟩
        refine h93 _ _ ?_
        unfold mT_stand_93
        rw [nI_clamp (show k < 2 ^ 31 by omega), ← nI_succ, ma_ma]
        have e : upd ((ma (ma (mf M 3 0) 8 f) 2 (cpF (M.2.1 2) f k)).2.1 2) k ((ma (ma (mf M 3 0) 8 f) 2 (cpF (M.2.1 2) f k)).2.1 8 k) = cpF (M.2.1 2) f (k + 1) := cpF_s _ _ _
        rw [e]
        exact ih (k + 1) (by omega)
    have := key n 0 (by omega)
    rw [cpF_0] at this
    have e : ma (ma (mf M 3 0) 8 f) 2 (M.2.1 2) = ma (mf M 3 0) 8 f := ma_id (ma (mf M 3 0) 8 f) 2
    rw [e] at this
    exact this
  | true =>
    have key : ∀ d k, k + d = n → B54 (ma (ma (mf M 3 0) 8 f) 3 (cpF (M.2.1 3) f k)) (nI k) := by
      intro d
      induction d with
      | zero =>
        intro k hk
        have : k = n := by omega
        subst this
        refine h54 _ _ ?_
        unfold mT_stand_54
        refine ⟨fun _ => ⟨fun _ => ?_, fun w => absurd w (by decide)⟩, fun w => absurd (by rw [show (ma (ma (mf M 3 0) 8 f) 3 (cpF (M.2.1 3) f k)).1 1 = nI k from hy.2.1]; exact nI_le (Nat.le_refl _) (by omega)) w⟩
        refine (fin (cpF (M.2.1 3) f k) ⟨σ, hσ⟩ (row_of (by omega) h.hy hi h.2.2.1.2.2.1 (fun _ _ => rfl) _ (fun j hj => ?_))).1 rfl
        unfold cpF
        by_cases e : j < k
        · rw [if_pos e, if_pos e, h8 j e]
        · rw [if_neg e, if_neg e]
      | succ d ih =>
        intro k hk
        refine h54 _ _ ?_
        unfold mT_stand_54
        refine ⟨fun w => absurd w (by rw [show (ma (ma (mf M 3 0) 8 f) 3 (cpF (M.2.1 3) f k)).1 1 = nI n from hy.2.1]; exact nI_ge (by omega) (by omega)), fun _ => ⟨fun w => absurd w (by decide), fun _ => ⟨vp_in_nI (by omega) (by omega), vp_in_nI (by omega) (by omega), ?_⟩⟩⟩
        refine h93 _ _ ?_
        unfold mT_stand_93
        rw [nI_clamp (show k < 2 ^ 31 by omega), ← nI_succ, ma_ma]
        have e : upd ((ma (ma (mf M 3 0) 8 f) 3 (cpF (M.2.1 3) f k)).2.1 3) k ((ma (ma (mf M 3 0) 8 f) 3 (cpF (M.2.1 3) f k)).2.1 8 k) = cpF (M.2.1 3) f (k + 1) := cpF_s _ _ _
        rw [e]
        exact ih (k + 1) (by omega)
    have := key n 0 (by omega)
    rw [cpF_0] at this
    have e : ma (ma (mf M 3 0) 8 f) 3 (M.2.1 3) = ma (mf M 3 0) 8 f := ma_id (ma (mf M 3 0) 8 f) 3
    rw [e] at this
    exact this
theorem o_stand (l : Launch) (h : Rl S M n P kd ct sc sm x y) (a : Int32) (g : Bool) : cX_X8_stand l S a g (fun r1 S1 => mX_stand l M a g (fun r2 M1 => OKr S r1 S1 r2 M1)) := by
  have hP2 := h.P2
  have hn2 := h.n2
  have hb := pow_b hP2 hn2.2
  refine c_X8_stand l S a g _ ?_
  intro B15 B59 h15 h59
  unfold cT_X8_stand_e
  have no : (¬ ∃ i, i < P ^ n ∧ a = nI i) → B15 S := by
    intro q
    refine h15 _ ?_
    unfold cT_X8_stand_15
    exact k_refuse l _ 1 _ (s_stand l h a g _ (fun _ => ⟨rfl, ⟨n, P, kd, ct, sc, sm, x, y, (h.th 0).tr 1⟩, rfl⟩) (fun i hi ea => absurd ⟨i, hi, ea⟩ q) (fun i hi ea => absurd ⟨i, hi, ea⟩ q))
  by_cases q : ∃ i, i < P ^ n ∧ a = nI i
  · obtain ⟨i, hi, ea⟩ := q
    subst ea
    have ei : ∀ i', i' < P ^ n → nI i = nI i' → i = i' := fun i' hi' e => (nI_eq (by omega) (by omega)).mp e
    rw [h.cy.2.2.1]
    refine ⟨fun w => absurd w (nI_pos (by omega)), fun _ => ⟨fun _ => ?_, fun w => absurd (nI_lt hi (by omega)) w⟩⟩
    refine k_isRight l h.cy hi _ (fun T fT hT => ⟨fun c => ?_, fun c => ?_⟩)
    · have c := bI_n0.mp c
      cases g with
      | false =>
        refine ⟨fun _ => k_forget l _ _ (h59 _ (k_accept l _ _ ?_)), fun w => absurd rfl w⟩
        refine s_stand l h _ _ _ (fun w => absurd ⟨i, hi, rfl⟩ w) (fun i' hi' e hr => ?_) (fun i' hi' e hr f e' h8 hrow => ⟨fun w => (by cases w), fun _ => ⟨rfl, ⟨n, P, kd, ct, sc, sm, i, y, ?_⟩, (have hq := lens_eq fT; hq)⟩⟩)
        · rw [← ei i' hi' e, c] at hr; cases hr
        · have e := ei i' hi' e
          subst e
          refine h.mkx (((((fT.x).cf _ rfl).cf _ rfl).cf _ rfl).cf _ rfl) ((((((((MFx.rf).sc _ rfl).row _ rfl).row _ rfl).sc _ rfl).sc _ rfl).sc _ rfl).sc _ rfl) ⟨rfl, hi, hrow, c⟩ ?_ rfl RP0 ?_ ?_
          · show RS n P kd (T.1 1) (M.2.1 3) y
            rw [fT.1 1 rfl]; exact h.2.2.1
          · exact h8
          · exact h.m9
      | true =>
        refine ⟨fun w => absurd w (by decide), fun _ => h59 _ (k_accept l _ _ ?_)⟩
        refine s_stand l h _ _ _ (fun w => absurd ⟨i, hi, rfl⟩ w) (fun i' hi' e hr => ?_) (fun i' hi' e hr f e' h8 hrow => ⟨fun _ => ⟨rfl, ⟨n, P, kd, ct, sc, sm, x, i, ?_⟩, (have hq := lens_eq fT; hq)⟩, fun w => (by cases w)⟩)
        · rw [← ei i' hi' e, c] at hr; cases hr
        · have e := ei i' hi' e
          subst e
          refine h.mkx (((fT.x).cf _ rfl).cf _ rfl) (((((MFx.rf).sc _ rfl).row _ rfl).row _ rfl).sc _ rfl) ?_ ⟨rfl, hi, hrow, c⟩ rfl ?_ ?_ ?_
          · show RS n P kd (T.1 0) (M.2.1 2) x
            rw [fT.1 0 rfl]; exact h.2.1
          · show RP n P kd (T.1 9) (T.1 10) (T.2.1 20) (T.2.1 21) (M.1 4) (M.1 5) (M.2.1 6)
            rw [fT.1 9 rfl, fT.1 10 rfl, (fT.2.1 20 rfl).1, (fT.2.1 21 rfl).1]; exact h.2.2.2.2.1
          · exact h8
          · exact h.m9
    · have c := bI_0.mp c
      refine k_refuse l _ 3 _ ?_
      refine s_stand l h _ _ _ (fun w => absurd ⟨i, hi, rfl⟩ w) (fun i' hi' e hr f h8 => ⟨rfl, ⟨n, P, kd, ct, sc, sm, x, y, ((h.look fT).scr (N := ma (mf M 3 0) 8 f) ⟨fun k q1 q2 q3 => mf_get_ne _ _ q1, fun k hk => ma_get_ne _ _ (by omega), h8, h.m9⟩).tr 3⟩, (have hq := lens_eq fT; hq)⟩) (fun i' hi' e hr => ?_)
      rw [← ei i' hi' e, c] at hr; cases hr
  · have g := no q
    rw [h.cy.2.2.1]
    refine ⟨fun _ => g, fun c1 => ⟨fun c2 => absurd ?_ q, fun _ => g⟩⟩
    obtain ⟨j, hj, e⟩ := nI_of c1
    subst e
    exact ⟨j, (nI_ltI hj (by omega)).mp c2, rfl⟩
end Ops5
end
section
-- undo(), redo(), move()
theorem rgt_RR {n P x : Nat} {kd : Nat → Nat} : rgt n P kd x = true ↔ RR kd (dgs P x) n := right_RR
section Ops6
variable {S : CS} {M : MS} {n P x y : Nat} {kd ct sc sm : Nat → Nat}
theorem row_unp {z : Nat} {f : Nat → Int32} (hP : 0 < P) (hx : x < P ^ n) (hz : z < P ^ n) (hf : ∀ j, j < 7 → f j = nI (dgs P x j)) : ∀ j, j < 7 → unpF f P z n j = nI (dgs P z j) := row_of hP hx hz hf (σ := dgs P z) (fun _ _ => rfl) _ (fun _ _ => rfl)
theorem o_undo (l : Launch) (h : Rl S M n P kd ct sc sm x y) : cX_X8_undo l S (fun r1 S1 => mX_undo l M (fun r2 M1 => OKr S r1 S1 r2 M1)) := by
  have hP2 := h.P2
  have hn2 := h.n2
  have hb := pow_b hP2 hn2.2
  obtain ⟨p, q, g, hpq, s9, m4, s10, m5, hg, hea, hla⟩ := id h.2.2.2.2.1
  refine c_X8_undo l S _ ?_
  unfold cT_X8_undo_e
  rcases Nat.eq_zero_or_pos p with e | e
  · subst e
    refine ⟨fun w => absurd s9 w, fun _ => m_undo l M _ ?_⟩
    unfold mT_undo_e
    exact ⟨fun w => absurd m4 w, fun _ => ⟨rfl, ⟨n, P, kd, ct, sc, sm, x, y, h.th 0⟩, rfl⟩⟩
  · obtain ⟨p', rfl⟩ : ∃ p', p = p' + 1 := ⟨p - 1, by omega⟩
    have n9 : ¬ S.1 9 = 0 := by rw [s9]; exact fun w => absurd ((nI_is 0 rfl (by omega) (by omega)).mp w) (by omega)
    have n4 : ¬ M.1 4 = 0 := by rw [m4]; exact fun w => absurd ((nI_is 0 rfl (by omega) (by omega)).mp w) (by omega)
    refine ⟨fun _ => c_X4_stepBack l S _ _ ?_, fun w => absurd w n9⟩
    unfold cT_X4_stepBack_e
    refine ⟨fun w => absurd w n9, fun _ => ⟨fun _ => ?_, fun w => ?_⟩⟩
    · rw [s9, nI_pred, s10, nI_clamp (show p' < 2 ^ 31 by omega), nI_clamp (show q < 2 ^ 31 by omega), ← nI_succ, hea p' (by omega)]
      refine ⟨vp_in_nI (by omega) (by omega), vp_in_nI (by omega) (by omega), m_undo l M _ ?_⟩
      unfold mT_undo_e
      rw [m4, nI_pred, nI_clamp (show p' < 2 ^ 31 by omega)]
      refine ⟨fun _ => ⟨vp_in_nI (by omega) (by omega), fun v hv => ?_⟩, fun w => absurd (m4.trans w) n4⟩
      rw [(hg p' (by omega)).2.2] at hv
      subst hv
      have hy : MY (mf (mf M 3 0) 4 (nI p')) n P kd ct sm := (h.my.mf 0 (by decide) (by decide)).mf _ (by decide) (by decide)
      refine s_pack l _ 2 (by unfold m7; decide) _ (σ := dgs P x) hy.2.1 hy.1 hn2.2 (fun j hj => (h.xa j (by omega)).1) ?_
      rw [dgs_pack h.hx]
      refine ⟨vp_in_nI (by omega) (by omega), ?_⟩
      have e5 : (mf (mf M 3 0) 4 (nI p')).1 5 = nI q := m5
      rw [e5, ← nI_succ]
      have hgp := hg p' (by omega)
      refine s_unpack l _ (g p') 2 (by unfold m7; decide) _ hy.2.1 hy.1 hP2 hn2.2 (by omega) ⟨rfl, ⟨n, P, kd, ct, sc, sm, g p', y, ?_⟩, rfl⟩
      refine h.mkx ((((CFr.rf.ca _ rfl).cf _ rfl).cf _ rfl).cf _ rfl) (((((MFx.rf.sc _ rfl).sc _ rfl).row _ rfl).sc _ rfl).row _ rfl) ⟨rfl, hgp.1, row_unp (by omega) h.hx hgp.1 h.2.1.2.2.1, hgp.2.1⟩ h.2.2.1 h.2.2.2.1 ?_ h.m8 h.m9
      refine ⟨p', q + 1, va_up g p' x, by omega, rfl, rfl, rfl, rfl, fun i hi => ?_, fun i hi => ?_, fun i hi => ?_⟩
      · show va_up g p' x i < _ ∧ _ ∧ upd (M.2.1 6) p' (nI x) i = _
        by_cases e : i = p'
        · subst e; rw [va_up_same, upd_same]; exact ⟨h.hx, h.2.1.2.2.2, rfl⟩
        · rw [va_up_other _ _ e, upd_other _ _ e]; exact hg i (by omega)
      · rw [va_up_other _ _ (by omega)]
        exact hea i (by omega)
      · show upd (S.2.1 21) q (S.1 0) i = _
        by_cases e : i = q
        · subst e
          rw [upd_same, show p' + (i + 1) - 1 - i = p' by omega, va_up_same, h.sx]
        · rw [upd_other _ _ e, va_up_other _ _ (by omega), hla i (by omega)]
          congr 2
          omega
    · rw [s10] at w
      exact absurd ((nI_is 200 rfl (by omega) (by omega)).mp w) (by omega)
theorem o_redo (l : Launch) (h : Rl S M n P kd ct sc sm x y) : cX_X8_redo l S (fun r1 S1 => mX_redo l M (fun r2 M1 => OKr S r1 S1 r2 M1)) := by
  have hP2 := h.P2
  have hn2 := h.n2
  have hb := pow_b hP2 hn2.2
  obtain ⟨p, q, g, hpq, s9, m4, s10, m5, hg, hea, hla⟩ := id h.2.2.2.2.1
  refine c_X8_redo l S _ ?_
  unfold cT_X8_redo_e
  rcases Nat.eq_zero_or_pos q with e | e
  · subst e
    refine ⟨fun w => absurd s10 w, fun _ => m_redo l M _ ?_⟩
    unfold mT_redo_e
    exact ⟨fun w => absurd m5 w, fun _ => ⟨rfl, ⟨n, P, kd, ct, sc, sm, x, y, h.th 0⟩, rfl⟩⟩
  · obtain ⟨q', rfl⟩ : ∃ q', q = q' + 1 := ⟨q - 1, by omega⟩
    have n10 : ¬ S.1 10 = 0 := by rw [s10]; exact fun w => absurd ((nI_is 0 rfl (by omega) (by omega)).mp w) (by omega)
    have n5 : ¬ M.1 5 = 0 := by rw [m5]; exact fun w => absurd ((nI_is 0 rfl (by omega) (by omega)).mp w) (by omega)
    refine ⟨fun _ => c_X4_stepOn l S _ _ ?_, fun w => absurd w n10⟩
    unfold cT_X4_stepOn_e
    refine ⟨fun w => absurd w n10, fun _ => ⟨fun _ => ?_, fun w => ?_⟩⟩
    · have hgp := hg p (by omega)
      rw [s10, nI_pred, s9, nI_clamp (show p < 2 ^ 31 by omega), nI_clamp (show q' < 2 ^ 31 by omega), ← nI_succ, hla q' (by omega), show p + (q' + 1) - 1 - q' = p by omega]
      refine ⟨vp_in_nI (by omega) (by omega), vp_in_nI (by omega) (by omega), m_redo l M _ ?_⟩
      unfold mT_redo_e
      rw [m4, nI_clamp (show p < 2 ^ 31 by omega)]
      refine ⟨fun _ => ⟨vp_in_nI (by omega) (by omega), fun v hv => ?_⟩, fun w => absurd w n5⟩
      rw [hgp.2.2] at hv
      subst hv
      have hy : MY (mf M 3 0) n P kd ct sm := h.my.mf 0 (by decide) (by decide)
      refine s_pack l _ 2 (by unfold m7; decide) _ (σ := dgs P x) hy.2.1 hy.1 hn2.2 (fun j hj => (h.xa j (by omega)).1) ?_
      rw [dgs_pack h.hx]
      refine ⟨vp_in_nI (by omega) (by omega), ?_⟩
      have e4 : (mf M 3 0).1 4 = nI p := m4
      have e5 : (mf M 3 0).1 5 = nI (q' + 1) := m5
      rw [e4, e5, nI_pred, ← nI_succ]
      refine s_unpack l _ (g p) 2 (by unfold m7; decide) _ hy.2.1 hy.1 hP2 hn2.2 (by omega) ⟨rfl, ⟨n, P, kd, ct, sc, sm, g p, y, ?_⟩, rfl⟩
      refine h.mkx ((((CFr.rf.ca _ rfl).cf _ rfl).cf _ rfl).cf _ rfl) (((((MFx.rf.sc _ rfl).row _ rfl).sc _ rfl).sc _ rfl).row _ rfl) ⟨rfl, hgp.1, row_unp (by omega) h.hx hgp.1 h.2.1.2.2.1, hgp.2.1⟩ h.2.2.1 h.2.2.2.1 ?_ h.m8 h.m9
      refine ⟨p + 1, q', va_up g p x, by omega, rfl, rfl, rfl, rfl, fun i hi => ?_, fun i hi => ?_, fun i hi => ?_⟩
      · show va_up g p x i < _ ∧ _ ∧ upd (M.2.1 6) p (nI x) i = _
        by_cases e : i = p
        · subst e; rw [va_up_same, upd_same]; exact ⟨h.hx, h.2.1.2.2.2, rfl⟩
        · rw [va_up_other _ _ e, upd_other _ _ e]; exact hg i (by omega)
      · show upd (S.2.1 20) p (S.1 0) i = _
        by_cases e : i = p
        · subst e; rw [va_up_same, upd_same, h.sx]
        · rw [va_up_other _ _ e, upd_other _ _ e]; exact hea i (by omega)
      · rw [va_up_other _ _ (by omega)]
        have := hla i (by omega)
        rw [show p + 1 + q' - 1 - i = p + (q' + 1) - 1 - i by omega]
        exact this
    · rw [s9] at w
      exact absurd ((nI_is 200 rfl (by omega) (by omega)).mp w) (by omega)
/-- the past with one stand more -/
def pushG (p : Nat) (g : Nat → Nat) (x : Nat) : Nat → Nat := if p = 200 then (fun i => if i < 199 then g (i + 1) else x) else va_up g p x
def pushP (p : Nat) : Nat := if p = 200 then 200 else p + 1
theorem k_keep (l : Launch) {T : CS} {p x : Nat} {g : Nat → Nat} (hp : p ≤ 200) (s9 : T.1 9 = nI p) (hea : ∀ i, i < p → T.2.1 20 i = nI (g i)) (post : CS → Prop) (h : ∀ f, (∀ i, i < pushP p → f i = nI (pushG p g x i)) → post (cf (cf (ca T 20 f) 9 (nI (pushP p))) 10 0)) : cX_X4_keep l T (nI x) post := by
  refine c_X4_keep l T _ post ?_
  intro B36 h36
  unfold cT_X4_keep_e
  by_cases e : p = 200
  · subst e
    refine ⟨fun w => absurd s9 w, fun _ => h36 _ ?_⟩
    unfold cT_X4_keep_36
    have e1 : (cf (ca T 20 (va_cpy (T.2.1 20) (T.2.1 20) (1 : Int32).toNatClampNeg (0 : Int32).toNatClampNeg (199 : Int32).toNatClampNeg)) 9 ((T.1 9) - 1)).1 9 = nI 199 := by
      rw [cf_get, s9]; rfl
    rw [e1]
    refine ⟨vp_in_nI (by omega) (by omega), ?_⟩
    have := h (upd (va_cpy (T.2.1 20) (T.2.1 20) 1 0 199) 199 (nI x)) (fun i hi => ?_)
    · have e2 : cf (cf (ca (cf (ca T 20 (va_cpy (T.2.1 20) (T.2.1 20) (1 : Int32).toNatClampNeg (0 : Int32).toNatClampNeg (199 : Int32).toNatClampNeg)) 9 ((T.1 9) - 1)) 20 (upd (va_cpy (T.2.1 20) (T.2.1 20) 1 0 199) 199 (nI x))) 9 (nI 199 + 1)) 10 0 = cf (cf (ca T 20 (upd (va_cpy (T.2.1 20) (T.2.1 20) 1 0 199) 199 (nI x))) 9 (nI (pushP 200))) 10 0 := by
        unfold cf ca
        simp only [va_up_same]
        have w1 : ∀ v w : Int32, va_up (va_up T.1 9 v) 9 w = va_up T.1 9 w := fun v w => by
          funext j
          unfold va_up
          by_cases q : j = 9
          · rw [if_pos q, if_pos q]
          · rw [if_neg q, if_neg q, if_neg q]
        have w2 : ∀ v w : Nat → Int32, va_up (va_up T.2.1 20 v) 20 w = va_up T.2.1 20 w := fun v w => by
          funext j
          unfold va_up
          by_cases q : j = 20
          · rw [if_pos q, if_pos q]
          · rw [if_neg q, if_neg q, if_neg q]
        rw [w1, w2]
        rfl
      exact e2 ▸ this
    · have hi : i < 200 := hi
      show _ = nI (if i < 199 then g (i + 1) else x)
      by_cases q : i = 199
      · subst q; rw [upd_same, if_neg (by omega)]
      · rw [upd_other _ _ q, if_pos (by omega)]
        unfold va_cpy
        rw [if_pos (by omega), show 1 + (i - 0) = i + 1 by omega]
        exact hea (i + 1) (by omega)
  · have n9 : ¬ T.1 9 = 200 := by rw [s9]; exact fun w => e ((nI_is 200 rfl (by omega) (by omega)).mp w)
    refine ⟨fun _ => h36 _ ?_, fun w => absurd w n9⟩
    unfold cT_X4_keep_36
    rw [s9, nI_clamp (show p < 2 ^ 31 by omega), ← nI_succ]
    refine ⟨vp_in_nI (by omega) (by omega), ?_⟩
    have ep : pushP p = p + 1 := by unfold pushP; rw [if_neg e]
    have := h (upd (T.2.1 20) p (nI x)) (fun i hi => ?_)
    · rw [ep] at this; exact this
    · rw [ep] at hi
      unfold pushG
      rw [if_neg e]
      by_cases q : i = p
      · subst q; rw [upd_same, va_up_same]
      · rw [upd_other _ _ q, va_up_other _ _ q]; exact hea i (by omega)
theorem s_move (l : Launch) (h : Rl S M n P kd ct sc sm x y) {p : Nat} {g : Nat → Nat} (hp : p ≤ 200) (m4 : M.1 4 = nI p) (hpa : ∀ i, i < p → M.2.1 6 i = nI (g i)) (a b : Int32) (post : Int32 → MS → Prop)
    (h0 : (¬ ((∃ i, i < P ∧ a = nI i) ∧ ∃ j, j < P ∧ b = nI j)) → post (-1) (mf (mf M 3 0) 2 1))
    (h1 : ∀ i j, i < P → j < P → a = nI i → b = nI j → whyN n kd ct sm (dgs P x) i j ≠ 0 → post (-1) (mf (mf M 3 0) 2 4))
    (h2 : ∀ i j, i < P → j < P → a = nI i → b = nI j → whyN n kd ct sm (dgs P x) i j = 0 → ∀ T f, MFx xM xR M T → (∀ k, k < pushP p → T.2.1 6 k = nI (pushG p g x k)) → T.1 4 = nI (pushP p) → T.1 5 = 0 → T.1 2 = 0 → T.2.1 2 = f → T.2.1 3 = M.2.1 3 → T.2.1 8 = M.2.1 8 → T.2.1 9 = M.2.1 9 → (∀ k, k < 7 → f k = nI (dgs P (packN (movN n kd (dgs P x) i j) P n 0) k)) → post (nI (pkE kd (dgs P x) n (topN (dgs P x) i n) - topN (dgs P x) i n + 1)) T) : mX_move l M a b post := by
  have hP2 := h.P2
  have hn2 := h.n2
  have hb := pow_b hP2 hn2.2
  refine m_move l M a b post ?_
  intro B21 B63 B101 h21 h63 h101
  unfold mT_move_e
  have hy : MY (mf M 3 0) n P kd ct sm := (h.th 0).my
  have no : (¬ ((∃ i, i < P ∧ a = nI i) ∧ ∃ j, j < P ∧ b = nI j)) → B21 (mf M 3 0) := by
    intro q
    refine h21 _ ?_
    unfold mT_move_21
    exact s_no l _ 1 _ (h0 q)
  refine s_isPegC l _ a _ (P := P) hy.1 hP2 (fun q => ⟨fun _ => no (fun w => q w.1), fun w => absurd rfl w⟩) (fun i hi ea => ⟨fun w => absurd w (by decide), fun _ => ?_⟩)
  refine s_isPegC l _ b _ (P := P) hy.1 hP2 (fun q => ⟨fun w => absurd rfl w, fun _ => no (fun w => q w.2)⟩) (fun j hj eb => ⟨fun _ => ?_, fun w => absurd w (by decide)⟩)
  subst ea
  subst eb
  refine s_whyOf l _ 2 i j (by unfold m7; decide) _ hy h.xa (by omega) (by omega) ?_
  have hw : whyN n kd ct sm (dgs P x) i j ≤ 5 := by
    unfold whyN
    repeat' split
    all_goals omega
  by_cases e : whyN n kd ct sm (dgs P x) i j = 0
  · have fin := h2 i j hi hj rfl rfl e
    have ht := whyN_top e
    rw [e]
    refine ⟨fun _ => ?_, fun w => absurd (by decide) w⟩
    -- the last steps
    have e101 : ∀ r u (T : MS), r ≤ 199 → u = pushG p g x → pushP p = r + 1 → MFx xM xR M T → T.1 4 = nI r → T.1 2 = 0 → (∀ k, k < r → T.2.1 6 k = nI (u k)) → u r = x → T.2.1 2 = M.2.1 2 → T.2.1 3 = M.2.1 3 → T.2.1 8 = M.2.1 8 → T.2.1 9 = M.2.1 9 → MY T n P kd ct sm → B101 T := by
      intro r u T hr hu hpp fT t4 t2 t6 hur tr2 tr3 tr8 tr9 hyT
      refine h101 _ ?_
      unfold mT_move_101
      refine s_pack l _ 2 (by unfold m7; decide) _ (σ := dgs P x) hyT.2.1 hyT.1 hn2.2 (fun j hj => by rw [tr2]; exact (h.xa j (by omega)).1) ?_
      rw [dgs_pack h.hx, t4, nI_clamp (show r < 2 ^ 31 by omega), ← nI_succ]
      refine ⟨vp_in_nI (by omega) (by omega), ?_⟩
      have hxT : MA (mf (mf (ma T 6 (upd (T.2.1 6) r (nI x))) 4 (nI (r + 1))) 5 0) 2 (dgs P x) := fun j hj => by
        show T.2.1 2 j = _ ∧ _
        rw [tr2]; exact h.xa j hj
      refine s_moved l _ 2 i j (by unfold m7; decide) (by decide) _ (((hyT.ma _ (by decide) (by decide) (by decide)).mf _ (by decide) (by decide)).mf _ (by decide) (by decide)) hxT (by omega) ht ?_
      have hpk := pkE_lt (kd := kd) (σ := dgs P x) ht
      refine fin _ _ ((((fT.row _ rfl).sc _ rfl).sc _ rfl).row _ rfl) (fun k hk => ?_) (by rw [hpp]; rfl) rfl t2 rfl tr3 tr8 tr9 (fun k hk => ?_)
      · show upd (T.2.1 6) r (nI x) k = _
        rw [← hu]
        by_cases q : k = r
        · subst q; rw [upd_same, hur]
        · rw [upd_other _ _ q]; exact t6 k (by omega)
      · show movF (T.2.1 2) _ _ (nI j) k = _
        have hmv : ∀ k, k < n → movN n kd (dgs P x) i j k < P := fun k _ => by
          unfold movN
          split
          · exact hj
          · exact dgs_lt (by omega) _ _
        by_cases q : k < n
        · rw [packN0, dgs_num (by omega) n hmv k q]
          unfold movF movN
          by_cases q2 : topN (dgs P x) i n ≤ k ∧ k ≤ pkE kd (dgs P x) n (topN (dgs P x) i n)
          · rw [if_pos q2, if_pos (by omega)]
          · rw [if_neg q2, if_neg (by omega), tr2, (h.xa k hk).1]
        · unfold movF
          rw [if_neg (by omega), tr2, (h.xa k hk).1, dgs_zero (by omega) h.hx (by omega), dgs_zero (by omega) (by rw [packN0]; exact numN_lt n hmv) (by omega)]
    have m4' : (mf M 3 0).1 4 = nI p := m4
    rw [m4']
    by_cases ep : p = 200
    · subst ep
      refine ⟨fun w => absurd rfl w, fun _ => ?_⟩
      have key : ∀ d k, k + d = 199 → ∀ f : Nat → Int32, (∀ i, i < k → f i = nI (g (i + 1))) → (∀ i, k ≤ i → i < 200 → f i = nI (g i)) → B63 (ma (mf (mf M 3 0) 2 0) 6 f) (nI (k + 1)) := by
        intro d
        induction d with
        | zero =>
          intro k hk f hf1 hf2
          have : k = 199 := by omega
          subst this
          refine h63 _ _ ?_
          unfold mT_move_63
          have e4 : (ma (mf (mf M 3 0) 2 0) 6 f).1 4 = nI 200 := m4
          rw [e4]
          refine ⟨fun _ => ?_, fun w => absurd (by decide) w⟩
          refine e101 199 (pushG 200 g x) _ (by omega) rfl rfl ((((MFx.rf.sc _ rfl).sc _ rfl).row _ rfl).sc _ rfl) rfl rfl (fun k hk => ?_) rfl rfl rfl rfl rfl (((hy.mf _ (by decide) (by decide)).ma _ (by decide) (by decide) (by decide)).mf _ (by decide) (by decide))
          show f k = nI (if k < 199 then g (k + 1) else x)
          rw [if_pos hk]
          exact hf1 k hk
        | succ d ih =>
          intro k hk f hf1 hf2
          refine h63 _ _ ?_
          unfold mT_move_63
          have e4 : (ma (mf (mf M 3 0) 2 0) 6 f).1 4 = nI 200 := m4
          have ek : nI (k + 1) - 1 = nI k := by rw [nI_pred]
          rw [e4, ek, nI_clamp (show k < 2 ^ 31 by omega), nI_clamp (show k + 1 < 2 ^ 31 by omega), ← nI_succ, ma_ma]
          refine ⟨fun w => absurd w (nI_ge (by omega) (by omega)), fun _ => ⟨vp_in_nI (by omega) (by omega), vp_in_nI (by omega) (by omega), ?_⟩⟩
          refine ih (k + 1) (by omega) _ (fun i hi => ?_) (fun i h1 h2 => ?_)
          · show upd f k (f (k + 1)) i = _
            by_cases q : i = k
            · subst q; rw [upd_same]; exact hf2 (i + 1) (by omega) (by omega)
            · rw [upd_other _ _ q]; exact hf1 i (by omega)
          · show upd f k (f (k + 1)) i = _
            rw [upd_other _ _ (by omega)]; exact hf2 i (by omega) h2
      have := key 199 0 (by omega) (M.2.1 6) (fun i hi => absurd hi (Nat.not_lt_zero _)) (fun i _ hi => hpa i hi)
      have e6 : ma (mf (mf M 3 0) 2 0) 6 (M.2.1 6) = mf (mf M 3 0) 2 0 := ma_id _ 6
      rw [e6] at this
      exact this
    · have np : ¬ nI p = 200 := fun w => ep ((nI_is 200 rfl (by omega) (by omega)).mp w)
      refine ⟨fun _ => ?_, fun w => absurd w np⟩
      refine e101 p (pushG p g x) _ (by omega) rfl (by unfold pushP; rw [if_neg ep]) ((MFx.rf.sc _ rfl).sc _ rfl) m4 rfl (fun k hk => ?_) ?_ rfl rfl rfl rfl (hy.mf _ (by decide) (by decide))
      · show M.2.1 6 k = _
        unfold pushG
        rw [if_neg ep, va_up_other _ _ (by omega)]
        exact hpa k hk
      · unfold pushG
        rw [if_neg ep, va_up_same]
  · refine ⟨fun w => ?_, fun _ => s_no l _ 4 _ (h1 i j hi hj rfl rfl e)⟩
    exact absurd ((nI_leI (b := 0) (by omega) (by omega)).mp w) (by omega)
theorem k_why (l : Launch) (h : CY S n P kd ct sc) (hx : x < P ^ n) (s0 : S.1 0 = nI x) (a b : Int32) (post : Int32 → CS → Prop) (h0 : (¬ ((∃ i, i < P ∧ a = nI i) ∧ ∃ j, j < P ∧ b = nI j)) → post (-1) S) (h1 : ∀ i j, i < P → j < P → a = nI i → b = nI j → ∀ T, CFr lA lB nn S T → LK T n P kd x → post (nI (whyN n kd ct sc (dgs P x) i j)) T) : cX_X8_why l S a b post := by
  have hP2 := h.2.2.2.1
  refine c_X8_why l S a b _ ?_
  unfold cT_X8_why_e
  refine k_isPeg l h.1 hP2.2 a _ (fun q => ⟨fun _ => h0 (fun w => q w.1), fun w => absurd rfl w⟩) (fun i hi ea => ⟨fun w => absurd w (by decide), fun _ => ?_⟩)
  refine k_isPeg l h.1 hP2.2 b _ (fun q => ⟨fun w => absurd rfl w, fun _ => h0 (fun w => q w.2)⟩) (fun j hj eb => ⟨fun _ => ?_, fun w => absurd w (by decide)⟩)
  subst ea
  subst eb
  rw [s0]
  refine k_read l h hx _ (fun T fT hT => ?_)
  refine k_hind l (h.fr fT) hT (by omega) (by omega) _ (h1 i j hi hj rfl rfl T fT hT)
theorem o_move (l : Launch) (h : Rl S M n P kd ct sc sm x y) (a b : Int32) : cX_X8_move l S a b (fun r1 S1 => mX_move l M a b (fun r2 M1 => OKr S r1 S1 r2 M1)) := by
  have hP2 := h.P2
  have hn2 := h.n2
  have hb := pow_b hP2 hn2.2
  obtain ⟨p, q, g, hpq, s9, m4, s10, m5, hg, hea, hla⟩ := id h.2.2.2.2.1
  refine c_X8_move l S a b _ ?_
  unfold cT_X8_move_e
  have sm' := s_move l h (g := g) (show p ≤ 200 by omega) m4 (fun i hi => (hg i (by omega)).2.2) a b
  refine k_why l h.cy h.hx h.sx a b _ (fun q => ⟨fun w => absurd rfl w, fun _ => k_none l _ 1 _ ?_⟩) (fun i j hi hj ea eb T fT hT => ?_)
  · exact sm' _ (fun _ => ⟨rfl, ⟨n, P, kd, ct, sc, sm, x, y, (h.th 0).tr 1⟩, rfl⟩) (fun i j hi hj ea eb => absurd ⟨⟨i, hi, ea⟩, j, hj, eb⟩ q) (fun i j hi hj ea eb => absurd ⟨⟨i, hi, ea⟩, j, hj, eb⟩ q)
  · have hw : whyN n kd ct sc (dgs P x) i j ≤ 5 := by
      unfold whyN
      repeat' split
      all_goals omega
    have hww := h.why (dgs P x) (show i < 5 by omega) (show j < 5 by omega)
    have eij : ∀ i' j', i' < P → j' < P → a = nI i' → b = nI j' → i = i' ∧ j = j' := fun i' j' h1 h2 e1 e2 => ⟨(nI_eq (by omega) (by omega)).mp (ea.symm.trans e1), (nI_eq (by omega) (by omega)).mp (eb.symm.trans e2)⟩
    refine ⟨fun _ => ⟨fun c => ?_, fun c => ?_⟩, fun w => absurd w (nI_m1 (by omega))⟩
    · have c : whyN n kd ct sc (dgs P x) i j = 0 := (nI_is 0 rfl (by omega) (by omega)).mp c
      have ht := whyN_top c
      rw [fT.1 0 rfl, h.sx]
      refine k_keep l (g := g) (show p ≤ 200 by omega) (by rw [fT.1 9 rfl]; exact s9) (fun i hi => by rw [(fT.2.1 20 rfl).1]; exact hea i hi) _ (fun f hf => ?_)
      subst ea
      subst eb
      refine k_land l h.hx (S := cf (cf (ca T 20 f) 9 (nI (pushP p))) 10 0) hT (by omega) ht _ ?_
      refine k_size l (x := x) (S := cf (cf (cf (cf (ca T 20 f) 9 (nI (pushP p))) 10 0) 0 (nI (packN (movN n kd (dgs P x) i j) P n 0))) 2 0) hT (by omega) ht _ ?_
      refine sm' _ (fun w => absurd ⟨⟨i, hi, rfl⟩, j, hj, rfl⟩ w) (fun i' j' h1 h2 e1 e2 w => ?_) (fun i' j' h1 h2 e1 e2 w N f' fN n6 n4 n5 n2 nr2 nr3 nr8 nr9 hf' => ?_)
      · obtain ⟨q1, q2⟩ := eij i' j' h1 h2 e1 e2
        rw [← q1, ← q2, ← hww] at w
        exact absurd c w
      · obtain ⟨q1, q2⟩ := eij i' j' h1 h2 e1 e2
        subst q1
        subst q2
        have hmv : ∀ k, k < n → movN n kd (dgs P x) i j k < P := fun k _ => by
          unfold movN
          split
          · exact hj
          · exact dgs_lt (by omega) _ _
        have hz : packN (movN n kd (dgs P x) i j) P n 0 < P ^ n := by rw [packN0]; exact numN_lt n hmv
        refine ⟨rfl, ⟨n, P, kd, ct, sc, sm, packN (movN n kd (dgs P x) i j) P n 0, y, ?_⟩, (have hq := lens_eq fT; hq)⟩
        refine h.mkx (((((fT.x.ca _ rfl).cf _ rfl).cf _ rfl).cf _ rfl).cf _ rfl) fN ⟨rfl, hz, by rw [nr2]; exact hf', ?_⟩ ?_ n2.symm ?_ ?_ ?_
        · rw [rgt_RR]
          refine RR.congr (RR.move (rgt_RR.mp h.2.1.2.2.2) (fun q => h.dz i q) (by omega) c) (fun k hk => ?_)
          rw [packN0, dgs_num (by omega) n hmv k hk]
        · show RS n P kd (T.1 1) (N.2.1 3) y
          rw [fT.1 1 rfl, nr3]; exact h.2.2.1
        · rw [n4, n5]
          refine ⟨pushP p, 0, pushG p g x, ?_, rfl, rfl, rfl, rfl, fun k hk => ?_, fun k hk => hf k hk, fun k hk => absurd hk (Nat.not_lt_zero _)⟩
          · unfold pushP; split <;> omega
          · refine ⟨?_, ?_, n6 k hk⟩
            all_goals unfold pushG; unfold pushP at hk
            all_goals split
            all_goals first
              | (rename_i e; rw [if_pos e] at hk
                 by_cases e2 : k < 199
                 · simp only [if_pos e2]; first | exact (hg (k + 1) (by omega)).1 | exact (hg (k + 1) (by omega)).2.1
                 · simp only [if_neg e2]; first | exact h.hx | exact h.2.1.2.2.2)
              | (rename_i e; rw [if_neg e] at hk
                 by_cases e2 : k = p
                 · subst e2; rw [va_up_same]; first | exact h.hx | exact h.2.1.2.2.2
                 · rw [va_up_other _ _ e2]; first | exact (hg k (by omega)).1 | exact (hg k (by omega)).2.1)
        · obtain ⟨τ, h8⟩ := h.m8
          exact ⟨τ, fun j hj => by rw [nr8]; exact h8 j hj⟩
        · obtain ⟨τ, h9⟩ := h.m9
          exact ⟨τ, fun j hj => by rw [nr9]; exact h9 j hj⟩
    · have c : whyN n kd ct sc (dgs P x) i j ≠ 0 := fun q => c (by rw [q]; rfl)
      refine k_none l _ 4 _ (sm' _ (fun w => absurd ⟨⟨i, hi, ea⟩, j, hj, eb⟩ w) (fun i' j' h1 h2 e1 e2 w => ⟨rfl, ⟨n, P, kd, ct, sc, sm, x, y, ((h.look fT).th 0).tr 4⟩, (have hq := lens_eq fT; hq)⟩) (fun i' j' h1 h2 e1 e2 w => ?_))
      obtain ⟨q1, q2⟩ := eij i' j' h1 h2 e1 e2
      rw [← q1, ← q2, ← hww] at w
      exact absurd w c
end Ops6
end
