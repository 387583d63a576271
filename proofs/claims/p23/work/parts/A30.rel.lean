-- class and reference hold the same yard
def rgt (n P : Nat) (kd : Nat → Nat) (x : Nat) : Bool := rightN kd (dgs P x) n n 0
def RB (S : CS) (M : MS) (n P : Nat) (kd ct sc sm : Nat → Nat) : Prop := CY S n P kd ct sc ∧ MY M n P kd ct sm ∧ (∀ j, j < 25 → ct j ≠ 0 → sc j = sm j) ∧ (∀ a b, a < 5 → b < 5 → (a = b ∨ P ≤ a ∨ P ≤ b) → ct (5 * a + b) = 0)
/-- a stand: its number, its row -/
def RS (n P : Nat) (kd : Nat → Nat) (v : Int32) (f : Nat → Int32) (x : Nat) : Prop := v = nI x ∧ x < P ^ n ∧ (∀ j, j < 7 → f j = nI (dgs P x j)) ∧ rgt n P kd x = true
/-- the moves that can be undone, and done again -/
def RP (n P : Nat) (kd : Nat → Nat) (d u : Int32) (ea la : Nat → Int32) (d' u' : Int32) (pa : Nat → Int32) : Prop := ∃ (p q : Nat) (g : Nat → Nat), p + q ≤ 200 ∧ d = nI p ∧ d' = nI p ∧ u = nI q ∧ u' = nI q ∧ (∀ i, i < p + q → g i < P ^ n ∧ rgt n P kd (g i) = true ∧ pa i = nI (g i)) ∧ (∀ i, i < p → ea i = nI (g i)) ∧ (∀ i, i < q → la i = nI (g (p + q - 1 - i)))
def RPl (len : Int32) (co : Nat → Int32) (cap : Nat) (len' : Int32) (co' : Nat → Int32) : Prop := ∃ L, L ≤ 20000 ∧ len = nI L ∧ len' = nI L ∧ (∀ i, i < L → co i = co' i) ∧ L ≤ cap ∧ 16 ≤ cap ∧ cap ≤ 40000
/-- the steps of the schemes: of which scheme, how much lower, the roles -/
def KSt (q : Nat) (of : Nat → Option Nat) (le ro : Nat → Nat) (cal les rol : Nat → Int32) (k : Nat) : Prop := (of k = none ∧ cal k = -1 ∧ ∀ j, j < 2 → ro (5 * k + j) < 5 ∧ rol (5 * k + j) = nI (ro (5 * k + j))) ∨ (∃ o, of k = some o ∧ o < q ∧ 1 ≤ le k ∧ le k ≤ 4 ∧ cal k = nI o ∧ les k = nI (le k) ∧ ∀ j, j < 5 → ro (5 * k + j) < 5 ∧ rol (5 * k + j) = nI (ro (5 * k + j)))
def KSc (q : Nat) (w : Nat → Nat) (of : Nat → Option Nat) (le ro : Nat → Nat) (made : Int32) (ln cal les rol : Nat → Int32) : Prop := q ≤ 8 ∧ made = nI q ∧ (∀ s, s < q → w s ≤ 8 ∧ ln s = nI (w s)) ∧ (∀ s i, s < q → i < w s → KSt q of le ro cal les rol (8 * s + i))
def RK (made : Int32) (ln cal les rol : Nat → Int32) (tal : Nat → Int64) (made' : Int32) (ln' cal' les' rol' : Nat → Int32) : Prop := (∃ q w of le ro, KSc q w of le ro made ln cal les rol ∧ KSc q w of le ro made' ln' cal' les' rol') ∧ (∀ s, s < 8 → tal s = 0)
def RC (S : CS) (n P : Nat) (kd ct sc : Nat → Nat) : Prop := ∃ LA, CL S LA ∧ LA ≤ 20000 ∧ (S.1 12 = -1 ∨ ∃ s0, S.1 12 = nI s0 ∧ s0 < P ^ n ∧ P ^ n ≤ LA ∧ SOK S n P kd ct sc s0)
def KL (S : CS) (LK : Nat) : Prop := S.2.2.2 30 = LK ∧ S.2.2.2 31 = LK ∧ S.2.2.2 32 = LK ∧ S.2.2.2 33 = LK ∧ S.2.2.2 34 = LK ∧ S.2.2.2 35 = LK ∧ S.2.2.2 36 = LK ∧ S.2.2.2 37 = LK
def KOK (S : CS) (n P : Nat) (kd ct sc : Nat → Nat) : Prop := ∃ q m sn ov pl ix st sz, JF (tl n P kd ct sc) (rgt n P kd) (P ^ n) (jst q 0 0 m sn ov pl ix st sz) ∧ KF S (P ^ n) m st sz (lvS n P kd ct sc st (P ^ n))
def RN (S : CS) (n P : Nat) (kd ct sc : Nat → Nat) : Prop := ∃ LK, KL S LK ∧ LK ≤ 20000 ∧ (S.1 17 = 0 ∨ (S.1 17 = 1 ∧ P ^ n ≤ LK ∧ KOK S n P kd ct sc))
def Rl (S : CS) (M : MS) (n P : Nat) (kd ct sc sm : Nat → Nat) (x y : Nat) : Prop := RB S M n P kd ct sc sm ∧ RS n P kd (S.1 0) (M.2.1 2) x ∧ RS n P kd (S.1 1) (M.2.1 3) y ∧ S.1 2 = M.1 2 ∧ RP n P kd (S.1 9) (S.1 10) (S.2.1 20) (S.2.1 21) (M.1 4) (M.1 5) (M.2.1 6) ∧ RPl (S.1 11) (S.2.1 22) (S.2.2.2 22) (M.1 6) (M.2.1 7) ∧
  RK (S.1 19) (S.2.1 38) (S.2.1 39) (S.2.1 40) (S.2.1 41) (S.2.2.1 42) (M.1 9) (M.2.1 29) (M.2.1 30) (M.2.1 31) (M.2.1 32) ∧ ((∃ τ, MA M 8 τ) ∧ (∃ τ, MA M 9 τ)) ∧ RC S n P kd ct sc ∧ RN S n P kd ct sc
def Rel (S : CS) (M : MS) : Prop := ∃ n P kd ct sc sm x y, Rl S M n P kd ct sc sm x y
theorem SOK.fr {a b c : Nat → Bool} {S T : CS} {n P : Nat} {kd ct sg : Nat → Nat} {st : Nat} (h : SOK S n P kd ct sg st) (f : CFr a b c S T) (h13 : a 13 = false := by rfl) (h24 : b 24 = false := by rfl) (h25 : b 25 = false := by rfl) (h26 : b 26 = false := by rfl) : SOK T n P kd ct sg st := by
  unfold SOK
  rw [f.1 13 h13, (f.2.1 24 h24).1, (f.2.1 25 h25).2, (f.2.1 26 h26).1]
  exact h
theorem KL.fr {a b c : Nat → Bool} {S T : CS} {LK : Nat} (h : KL S LK) (f : CFr a b c S T) (h30 : c 30 = false := by rfl) (h31 : c 31 = false := by rfl) (h32 : c 32 = false := by rfl) (h33 : c 33 = false := by rfl) (h34 : c 34 = false := by rfl) (h35 : c 35 = false := by rfl) (h36 : c 36 = false := by rfl) (h37 : c 37 = false := by rfl) : KL T LK := by
  unfold KL
  rw [f.2.2 30 h30, f.2.2 31 h31, f.2.2 32 h32, f.2.2 33 h33, f.2.2 34 h34, f.2.2 35 h35, f.2.2 36 h36, f.2.2 37 h37]
  exact h
theorem KOK.fr {a b c : Nat → Bool} {S T : CS} {n P : Nat} {kd ct sg : Nat → Nat} (h : KOK S n P kd ct sg) (f : CFr a b c S T) (h18 : a 18 = false := by rfl) (h35 : b 35 = false := by rfl) (h36 : b 36 = false := by rfl) (h37 : b 37 = false := by rfl) : KOK T n P kd ct sg := by
  unfold KOK KF
  rw [f.1 18 h18, (f.2.1 35 h35).1, (f.2.1 36 h36).1, (f.2.1 37 h37).1]
  exact h
theorem RC.fr {a b c : Nat → Bool} {S T : CS} {n P : Nat} {kd ct sg : Nat → Nat} (h : RC S n P kd ct sg) (f : CFr a b c S T) (h12 : a 12 = false := by rfl) (h13 : a 13 = false := by rfl) (h24 : b 24 = false := by rfl) (h25 : b 25 = false := by rfl) (h26 : b 26 = false := by rfl) (c24 : c 24 = false := by rfl) (c25 : c 25 = false := by rfl) (c26 : c 26 = false := by rfl) (c27 : c 27 = false := by rfl) (c28 : c 28 = false := by rfl) (c29 : c 29 = false := by rfl) : RC T n P kd ct sg := by
  obtain ⟨LA, h1, h2, h3⟩ := h
  refine ⟨LA, h1.fr f c24 c25 c26 c27 c28 c29, h2, ?_⟩
  rw [f.1 12 h12]
  rcases h3 with h3 | ⟨s0, q1, q2, q3, q4⟩
  · exact Or.inl h3
  · exact Or.inr ⟨s0, q1, q2, q3, q4.fr f h13 h24 h25 h26⟩
theorem RN.fr {a b c : Nat → Bool} {S T : CS} {n P : Nat} {kd ct sg : Nat → Nat} (h : RN S n P kd ct sg) (f : CFr a b c S T) (h17 : a 17 = false := by rfl) (h18 : a 18 = false := by rfl) (h35 : b 35 = false := by rfl) (h36 : b 36 = false := by rfl) (h37 : b 37 = false := by rfl) (c30 : c 30 = false := by rfl) (c31 : c 31 = false := by rfl) (c32 : c 32 = false := by rfl) (c33 : c 33 = false := by rfl) (c34 : c 34 = false := by rfl) (c35 : c 35 = false := by rfl) (c36 : c 36 = false := by rfl) (c37 : c 37 = false := by rfl) : RN T n P kd ct sg := by
  obtain ⟨LK, h1, h2, h3⟩ := h
  refine ⟨LK, h1.fr f c30 c31 c32 c33 c34 c35 c36 c37, h2, ?_⟩
  rw [f.1 17 h17]
  rcases h3 with h3 | ⟨q1, q2, q3⟩
  · exact Or.inl h3
  · exact Or.inr ⟨q1, q2, q3.fr f h18 h35 h36 h37⟩
section RlS
variable {S T : CS} {M N : MS} {n P x y : Nat} {kd ct sc sm : Nat → Nat}
/-- the look alone has changed -/
theorem Rl.look (h : Rl S M n P kd ct sc sm x y) (f : CFr lA lB nn S T) : Rl T M n P kd ct sc sm x y := by
  obtain ⟨⟨b1, b2, b3, b4⟩, h2, h3, h4, h5, h6, h7, h8, h9, h10⟩ := h
  refine ⟨⟨b1.fr f, b2, b3, b4⟩, ?_, ?_, ?_, ?_, ?_, ?_, h8, h9.fr f, h10.fr f⟩
  · rw [f.1 0 rfl]; exact h2
  · rw [f.1 1 rfl]; exact h3
  · rw [f.1 2 rfl]; exact h4
  · rw [f.1 9 rfl, f.1 10 rfl, (f.2.1 20 rfl).1, (f.2.1 21 rfl).1]; exact h5
  · rw [f.1 11 rfl, (f.2.1 22 rfl).1, f.2.2 22 rfl]; exact h6
  · rw [f.1 19 rfl, (f.2.1 38 rfl).1, (f.2.1 39 rfl).1, (f.2.1 40 rfl).1, (f.2.1 41 rfl).1, (f.2.1 42 rfl).2]; exact h7
/-- the reference's scratch rows alone have changed -/
theorem Rl.scr (h : Rl S M n P kd ct sc sm x y) (f : MK M N) : Rl S N n P kd ct sc sm x y := by
  obtain ⟨⟨b1, b2, b3, b4⟩, h2, h3, h4, h5, h6, h7, -, h9, h10⟩ := h
  refine ⟨⟨b1, f.my b2, b3, b4⟩, ?_, ?_, ?_, ?_, ?_, ?_, f.2.2, h9, h10⟩
  · rw [f.2.1 2 (by decide)]; exact h2
  · rw [f.2.1 3 (by decide)]; exact h3
  · rw [f.1 2 (by decide) (by decide) (by decide)]; exact h4
  · rw [f.1 4 (by decide) (by decide) (by decide), f.1 5 (by decide) (by decide) (by decide), f.2.1 6 (by decide)]; exact h5
  · rw [f.1 6 (by decide) (by decide) (by decide), f.2.1 7 (by decide)]; exact h6
  · rw [f.1 9 (by decide) (by decide) (by decide), f.2.1 29 (by decide), f.2.1 30 (by decide), f.2.1 31 (by decide), f.2.1 32 (by decide)]; exact h7
theorem Rl.th (h : Rl S M n P kd ct sc sm x y) (v : Int32) : Rl S (mf M 3 v) n P kd ct sc sm x y := h.scr ⟨fun k a _ _ => mf_get_ne _ _ a, fun _ _ => rfl, h.2.2.2.2.2.2.2.1⟩
/-- the trouble is told -/
theorem Rl.tr (h : Rl S M n P kd ct sc sm x y) (v : Int32) : Rl (cf S 2 v) (mf M 2 v) n P kd ct sc sm x y := by
  obtain ⟨⟨b1, b2, b3, b4⟩, h2, h3, h4, h5, h6, h7, h8, h9, h10⟩ := h
  exact ⟨⟨b1, b2.mf v (by decide) (by decide), b3, b4⟩, h2, h3, rfl, h5, h6, h7, h8, h9, h10⟩
theorem Rl.P2 (h : Rl S M n P kd ct sc sm x y) : 2 ≤ P ∧ P ≤ 5 := h.1.1.2.2.2.1
theorem Rl.n2 (h : Rl S M n P kd ct sc sm x y) : 1 ≤ n ∧ n ≤ 7 := h.1.1.2.2.2.2.1
theorem Rl.cy (h : Rl S M n P kd ct sc sm x y) : CY S n P kd ct sc := h.1.1
theorem Rl.my (h : Rl S M n P kd ct sc sm x y) : MY M n P kd ct sm := h.1.2.1
theorem Rl.xa (h : Rl S M n P kd ct sc sm x y) : MA M 2 (dgs P x) := fun j hj => ⟨h.2.1.2.2.1 j hj, by have := dgs_lt (P := P) (by have := h.P2; omega) x j; have := h.P2; omega⟩
theorem Rl.ya (h : Rl S M n P kd ct sc sm x y) : MA M 3 (dgs P y) := fun j hj => ⟨h.2.2.1.2.2.1 j hj, by have := dgs_lt (P := P) (by have := h.P2; omega) y j; have := h.P2; omega⟩
theorem Rl.hx (h : Rl S M n P kd ct sc sm x y) : x < P ^ n := h.2.1.2.1
theorem Rl.hy (h : Rl S M n P kd ct sc sm x y) : y < P ^ n := h.2.2.1.2.1
theorem Rl.sx (h : Rl S M n P kd ct sc sm x y) : S.1 0 = nI x := h.2.1.1
theorem Rl.sy (h : Rl S M n P kd ct sc sm x y) : S.1 1 = nI y := h.2.2.1.1
theorem Rl.m8 (h : Rl S M n P kd ct sc sm x y) : ∃ τ, MA M 8 τ := h.2.2.2.2.2.2.2.1.1
theorem Rl.m9 (h : Rl S M n P kd ct sc sm x y) : ∃ τ, MA M 9 τ := h.2.2.2.2.2.2.2.1.2
theorem Rl.dz (h : Rl S M n P kd ct sc sm x y) : ∀ a, a < 5 → ct (5 * a + a) = 0 := fun a ha => h.1.2.2.2 a a ha ha (Or.inl rfl)
/-- WHY and the moves are the same on both sides -/
theorem Rl.why (h : Rl S M n P kd ct sc sm x y) (σ : Nat → Nat) {a b : Nat} (ha : a < 5) (hb : b < 5) : whyN n kd ct sc σ a b = whyN n kd ct sm σ a b := by
  unfold whyN
  by_cases e : ct (5 * a + b) = 0
  · rw [if_pos e, if_pos e]
  · rw [h.1.2.2.1 (5 * a + b) (by omega) e]
theorem Rl.tg (h : Rl S M n P kd ct sc sm x y) : tgN n P kd ct sc = tgN n P kd ct sm := by
  funext s a b
  unfold tgN
  by_cases e : a < P ∧ b < P
  · have hP := h.P2
    rw [h.why (dgs P s) (show a < 5 by omega) (show b < 5 by omega)]
  · rw [if_neg (fun q => e ⟨q.1, q.2.1⟩), if_neg (fun q => e ⟨q.1, q.2.1⟩)]
theorem Rl.mv (h : Rl S M n P kd ct sc sm x y) : mvL n P kd ct sc = mvL n P kd ct sm := by
  funext s
  unfold mvL
  rw [h.tg]
end RlS
-- the class's small methods
theorem k_refuse (l : Launch) (S : CS) (a : Int32) (post : Bool → CS → Prop) (h : post false (cf S 2 a)) : cX_X8_refuse l S a post := c_X8_refuse l S a post h
theorem k_accept (l : Launch) (S : CS) (post : Bool → CS → Prop) (h : post true (cf S 2 0)) : cX_X8_accept l S post := c_X8_accept l S post h
theorem k_none (l : Launch) (S : CS) (a : Int32) (post : Int32 → CS → Prop) (h : post (-1) (cf S 2 a)) : cX_X8_none l S a post := c_X8_none l S a post h
theorem k_forget (l : Launch) (S : CS) (post : CS → Prop) (h : post (cf (cf S 9 0) 10 0)) : cX_X4_forget l S post := c_X4_forget l S post h
theorem k_forgetAll (l : Launch) (S : CS) (post : CS → Prop) (h : post (cf (cf (cf (cf S 9 0) 10 0) 12 (-1)) 17 0)) : cX_X8_forgetAll l S post := by
  refine c_X8_forgetAll l S post ?_
  unfold cT_X8_forgetAll_e
  exact c_X4_forget l _ _ (c_X6_forget l _ _ (c_X2_forget l _ _ h))
/-- a number from 0 on, below N -/
theorem k_below {a : Int32} {N : Nat} (hN : N < 2 ^ 31) {A B : Prop} (h0 : (¬ ∃ i, i < N ∧ a = nI i) → A) (h1 : ∀ i, i < N → a = nI i → B) : (a < 0 → A) ∧ (¬ a < 0 → (nI N ≤ a → A) ∧ (¬ nI N ≤ a → B)) := by
  refine ⟨fun c => h0 ?_, fun c => ⟨fun c2 => h0 ?_, fun c2 => ?_⟩⟩
  · rintro ⟨i, hi, rfl⟩
    exact absurd c (nI_pos (by omega))
  · rintro ⟨i, hi, rfl⟩
    exact absurd c2 (nI_ge hi hN)
  · obtain ⟨j, hj, e⟩ := nI_of c
    subst e
    refine h1 j ?_ rfl
    rcases Nat.lt_or_ge j N with q | q
    · exact q
    · exact absurd (nI_le q hj) c2
theorem k_isPeg (l : Launch) {S : CS} {P : Nat} (hP : S.1 3 = nI P) (hP5 : P ≤ 5) (a : Int32) (post : Bool → CS → Prop) (h0 : (¬ ∃ i, i < P ∧ a = nI i) → post false S) (h1 : ∀ i, i < P → a = nI i → post true S) : cX_X0_isPeg l S a post := by
  refine c_X0_isPeg l S a post ?_
  unfold cT_X0_isPeg_e
  rw [hP]
  exact k_below (by omega) h0 h1
theorem k_isDisc (l : Launch) {S : CS} {n : Nat} (hn : S.1 4 = nI n) (hn7 : n ≤ 7) (a : Int32) (post : Bool → CS → Prop) (h0 : (¬ ∃ i, i < n ∧ a = nI i) → post false S) (h1 : ∀ i, i < n → a = nI i → post true S) : cX_X0_isDisc l S a post := by
  refine c_X0_isDisc l S a post ?_
  unfold cT_X0_isDisc_e
  rw [hn]
  exact k_below (by omega) h0 h1
theorem k_has (l : Launch) {S : CS} {q : Nat} (hq : S.1 19 = nI q) (hq8 : q ≤ 8) (a : Int32) (post : Bool → CS → Prop) (h0 : (¬ ∃ i, i < q ∧ a = nI i) → post false S) (h1 : ∀ i, i < q → a = nI i → post true S) : cX_X1_has l S a post := by
  refine c_X1_has l S a post ?_
  unfold cT_X1_has_e
  rw [hq]
  exact k_below (by omega) h0 h1
/-- the reference's in(), of a range from L to H -/
theorem in_rng {a : Int32} {L H : Nat} (hL : L < 2 ^ 31) (hH : H < 2 ^ 31) : (nI L ≤ a ∧ a ≤ nI H) ↔ ∃ i, L ≤ i ∧ i ≤ H ∧ a = nI i := by
  constructor
  · rintro ⟨h1, h2⟩
    have h0 : ¬ a < 0 := by
      have q1 := Int32.le_iff_toInt_le.mp h1
      rw [nI_toInt hL] at q1
      intro q
      have q2 := Int32.lt_iff_toInt_lt.mp q
      have q3 : (0 : Int32).toInt = 0 := by decide
      omega
    obtain ⟨j, hj, rfl⟩ := nI_of h0
    exact ⟨j, (nI_leI hL hj).mp h1, (nI_leI hj hH).mp h2, rfl⟩
  · rintro ⟨i, h1, h2, rfl⟩
    exact ⟨nI_le h1 (by omega), nI_le h2 hH⟩
theorem s_inC (l : Launch) (S : MS) (a b c : Int32) (post : Bool → MS → Prop) {L H : Nat} (hb : b = nI L) (hc : c = nI H) (hL : L < 2 ^ 31) (hH : H < 2 ^ 31) (h0 : (¬ ∃ i, L ≤ i ∧ i ≤ H ∧ a = nI i) → post false S) (h1 : ∀ i, L ≤ i → i ≤ H → a = nI i → post true S) : mX_in l S a b c post := by
  refine s_in l S a b c post ?_
  rw [hb, hc]
  by_cases q : ∃ i, L ≤ i ∧ i ≤ H ∧ a = nI i
  · rw [decide_eq_true ((in_rng hL hH).mpr q)]
    obtain ⟨i, q1, q2, q3⟩ := q
    exact h1 i q1 q2 q3
  · rw [decide_eq_false (fun w => q ((in_rng hL hH).mp w))]
    exact h0 q
/-- in(), from 0 to N - 1 -/
theorem s_inB (l : Launch) (S : MS) (a c : Int32) (post : Bool → MS → Prop) {N : Nat} (hc : c = nI N - 1) (hN : N < 2 ^ 31) (h0 : (¬ ∃ i, i < N ∧ a = nI i) → post false S) (h1 : ∀ i, i < N → a = nI i → post true S) : mX_in l S a 0 c post := by
  rcases Nat.eq_zero_or_pos N with e | e
  · subst e
    refine s_in l S a 0 c post ?_
    have : c = -1 := by rw [hc]; decide
    rw [decide_eq_false]
    · exact h0 (fun ⟨i, hi, _⟩ => absurd hi (Nat.not_lt_zero _))
    · rintro ⟨q1, q2⟩
      rw [this] at q2
      have w1 := Int32.le_iff_toInt_le.mp q1
      have w2 := Int32.le_iff_toInt_le.mp q2
      have w3 : (0 : Int32).toInt = 0 := by decide
      have w4 : (-1 : Int32).toInt = -1 := by decide
      omega
  · obtain ⟨M, rfl⟩ : ∃ M, N = M + 1 := ⟨N - 1, by omega⟩
    rw [nI_pred] at hc
    refine s_inC l S a 0 c post (L := 0) (H := M) rfl hc (by decide) (by omega) (fun q => h0 (fun ⟨i, hi, e⟩ => q ⟨i, Nat.zero_le _, by omega, e⟩)) (fun i _ hi e => h1 i (by omega) e)
-- frames of the reference
def MFx (a b : Nat → Bool) (S T : MS) : Prop := (∀ k, a k = false → T.1 k = S.1 k) ∧ (∀ k, b k = false → T.2.1 k = S.2.1 k)
section MFxS
variable {a b a' b' : Nat → Bool} {S T U : MS}
theorem MFx.rf : MFx a b S S := ⟨fun _ _ => rfl, fun _ _ => rfl⟩
theorem MFx.tr (h1 : MFx a b S T) (h2 : MFx a b T U) : MFx a b S U := ⟨fun k hk => (h2.1 k hk).trans (h1.1 k hk), fun k hk => (h2.2 k hk).trans (h1.2 k hk)⟩
theorem MFx.sc (h : MFx a b S T) {k : Nat} (v : Int32) (hk : a k = true) : MFx a b S (mf T k v) := ⟨fun j hj => by rw [mf_get_ne _ _ (fun e => by rw [e, hk] at hj; cases hj)]; exact h.1 j hj, h.2⟩
theorem MFx.row (h : MFx a b S T) {k : Nat} (f : Nat → Int32) (hk : b k = true) : MFx a b S (ma T k f) := ⟨h.1, fun j hj => by rw [ma_get_ne _ _ (fun e => by rw [e, hk] at hj; cases hj)]; exact h.2 j hj⟩
theorem MFx.lng (h : MFx a b S T) {k : Nat} (f : Nat → Int64) : MFx a b S (ml T k f) := h
end MFxS
/-- nothing can be undone -/
theorem RP0 {n P : Nat} {kd : Nat → Nat} {ea la pa : Nat → Int32} : RP n P kd 0 0 ea la 0 0 pa := ⟨0, 0, fun _ => 0, by omega, rfl, rfl, rfl, rfl, fun i hi => absurd hi (by omega), fun i hi => absurd hi (by omega), fun i hi => absurd hi (by omega)⟩
theorem RC.none {S T : CS} {n P n' P' : Nat} {kd ct sc kd' ct' sc' : Nat → Nat} (h : RC S n P kd ct sc) (h1 : T.2.2.2 = S.2.2.2) (h12 : T.1 12 = -1) : RC T n' P' kd' ct' sc' := by
  obtain ⟨LA, h1', h2, -⟩ := h
  exact ⟨LA, by unfold CL; rw [h1]; exact h1', h2, Or.inl h12⟩
theorem RN.none {S T : CS} {n P n' P' : Nat} {kd ct sc kd' ct' sc' : Nat → Nat} (h : RN S n P kd ct sc) (h1 : T.2.2.2 = S.2.2.2) (h17 : T.1 17 = 0) : RN T n' P' kd' ct' sc' := by
  obtain ⟨LK, h1', h2, -⟩ := h
  exact ⟨LK, by unfold KL; rw [h1]; exact h1', h2, Or.inl h17⟩
