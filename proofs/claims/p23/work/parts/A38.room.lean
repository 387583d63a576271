-- the room that the searches take: the sizes of yards
def Vp : List Nat := [2, 4, 8, 16, 32, 64, 128, 3, 9, 27, 81, 243, 729, 2187, 4, 16, 64, 256, 1024, 4096, 16384, 5, 25, 125, 625, 3125, 15625, 78125]
def CT (L : Nat) : Nat := (Vp.filter (fun v => decide (v ≤ L))).length
def TS (L : Nat) : Nat := (Vp.filter (fun v => decide (v ≤ L))).foldr (· + ·) 0
theorem Vp_has : ∀ P, P < 4 → ∀ n, n < 7 → Vp.contains ((P + 2) ^ (n + 1)) = true := by decide
theorem Vp_mem (P : Nat) (h1 : P < 6) (n : Nat) (h2 : n < 8) (h3 : 2 ≤ P) (h4 : 1 ≤ n) : P ^ n ∈ Vp := by
  have := Vp_has (P - 2) (by omega) (n - 1) (by omega)
  rw [Nat.sub_add_cancel h3, Nat.sub_add_cancel h4] at this
  exact List.contains_iff_mem.mp this
theorem flt_mono {L L' : Nat} (h : L ≤ L') : ∀ V : List Nat, (V.filter (fun v => decide (v ≤ L))).length ≤ (V.filter (fun v => decide (v ≤ L'))).length ∧ (V.filter (fun v => decide (v ≤ L))).foldr (· + ·) 0 ≤ (V.filter (fun v => decide (v ≤ L'))).foldr (· + ·) 0 := by
  intro V
  induction V with
  | nil => exact ⟨Nat.le_refl _, Nat.le_refl _⟩
  | cons a V ih =>
    rw [List.filter_cons, List.filter_cons]
    by_cases e : a ≤ L
    · have e2 : a ≤ L' := by omega
      simp only [decide_eq_true e, decide_eq_true e2, if_true, List.length_cons, List.foldr_cons]
      omega
    · by_cases e2 : a ≤ L'
      · simp only [decide_eq_false e, decide_eq_true e2, if_true, List.length_cons, List.foldr_cons]
        simp only [Bool.false_eq_true, if_false]
        omega
      · simp only [decide_eq_false e, decide_eq_false e2, Bool.false_eq_true, if_false]
        exact ih
theorem flt_step {L v : Nat} (h : L < v) : ∀ V : List Nat, v ∈ V → (V.filter (fun w => decide (w ≤ L))).length + 1 ≤ (V.filter (fun w => decide (w ≤ v))).length ∧ (V.filter (fun w => decide (w ≤ L))).foldr (· + ·) 0 + v ≤ (V.filter (fun w => decide (w ≤ v))).foldr (· + ·) 0 := by
  intro V
  induction V with
  | nil => intro q; cases q
  | cons a V ih =>
    intro hv
    rw [List.filter_cons, List.filter_cons]
    by_cases e : a = v
    · subst e
      have m := flt_mono (show L ≤ a by omega) V
      have e1 : ¬ a ≤ L := by omega
      simp only [decide_eq_false e1, decide_eq_true (Nat.le_refl a), if_true, List.length_cons, List.foldr_cons, Bool.false_eq_true, if_false]
      omega
    · have hv : v ∈ V := by
        rcases List.mem_cons.mp hv with q | q
        · exact absurd q.symm e
        · exact q
      have m := ih hv
      by_cases e1 : a ≤ L
      · have e2 : a ≤ v := by omega
        simp only [decide_eq_true e1, decide_eq_true e2, if_true, List.length_cons, List.foldr_cons]
        omega
      · by_cases e2 : a ≤ v
        · simp only [decide_eq_false e1, decide_eq_true e2, if_true, List.length_cons, List.foldr_cons, Bool.false_eq_true, if_false]
          omega
        · simp only [decide_eq_false e1, decide_eq_false e2, Bool.false_eq_true, if_false]
          exact m
theorem CT_step {L P n : Nat} (hP : 2 ≤ P ∧ P ≤ 5) (hn : 1 ≤ n ∧ n ≤ 7) (h : L < P ^ n) : CT L + 1 ≤ CT (P ^ n) ∧ TS L + P ^ n ≤ TS (P ^ n) := flt_step h Vp (Vp_mem P (by omega) n (by omega) hP.1 hn.1)
theorem CT_max {L : Nat} (h : L ≤ 20000) : CT L ≤ 27 ∧ TS L ≤ 50000 := by
  have m := flt_mono h Vp
  have e1 : CT 20000 = 27 := by decide
  have e2 : TS 20000 ≤ 50000 := by decide
  unfold CT TS at *
  omega
/-- the room that was taken, at most -/
def Fc (S : CS) : Nat := 6 * CT (S.2.2.2 24) + 8 * CT (S.2.2.2 30) + S.2.2.2 22
def Fs (S : CS) : Nat := 6 * TS (S.2.2.2 24) + 8 * TS (S.2.2.2 30) + 2 * S.2.2.2 22
def OKa {α : Type} (S : CS) (mc ms : Nat) (r1 : α) (S1 : CS) (r2 : α) (M1 : MS) : Prop := r1 = r2 ∧ Rel S1 M1 ∧ Fc S + mc ≤ Fc S1 + 3 ∧ Fs S + ms ≤ Fs S1 + 55
-- the searching calls
def hA : Nat → Bool := fun k => fA k || decide (k = 2)
def uA : Nat → Bool := fun k => fA k || decide (k = 2) || decide (k = 11)
def uB : Nat → Bool := fun k => fB k || decide (k = 22)
def uC : Nat → Bool := fun k => pC k || decide (k = 22)
theorem hA_u (k : Nat) (h : uA k = false) : hA k = false := by
  unfold uA at h; unfold hA
  rw [Bool.or_eq_false_iff] at h; exact h.1
theorem fA_h (k : Nat) (h : hA k = false) : fA k = false := by
  unfold hA at h
  rw [Bool.or_eq_false_iff] at h; exact h.1
theorem fB_u (k : Nat) (h : uB k = false) : fB k = false := by
  unfold uB at h
  rw [Bool.or_eq_false_iff] at h; exact h.1
theorem pC_u (k : Nat) (h : uC k = false) : pC k = false := by
  unfold uC at h
  rw [Bool.or_eq_false_iff] at h; exact h.1
theorem tgN_P {n P : Nat} {kd ct sg : Nat → Nat} (s a b t : Nat) (h : tgN n P kd ct sg s a b = some t) : a < P ∧ b < P := by
  unfold tgN at h
  split at h
  · rename_i w; exact ⟨w.1, w.2.1⟩
  · cases h
theorem tgN_pos {n P : Nat} {kd ct sg : Nat → Nat} (s a b t : Nat) (h : tgN n P kd ct sg s a b = some t) : 0 < ct (5 * a + b) := Nat.pos_of_ne_zero (tgN_cost h)
section Srch
variable {S : CS} {M : MS} {n P x y : Nat} {kd ct sc sm : Nat → Nat}
theorem Rl.srch {T : CS} {N : MS} {LA : Nat} (h : Rl S M n P kd ct sc sm x y) (fT : CFr uA uB uC S T) (hl : CL T LA) (hLA : LA ≤ 20000) (hN : P ^ n ≤ LA) (h12 : T.1 12 = nI x) (hS : SOK T n P kd ct sc x) (h2 : T.1 2 = 0) (fN : MKp (mf (mf M 3 0) 2 0) N) (hp : RPl (T.1 11) (T.2.1 22) (T.2.2.2 22) (N.1 6) (N.2.1 7)) : Rl T N n P kd ct sc sm x y := by
  obtain ⟨⟨b1, b2, b3, b4⟩, q2, q3, q4, q5, q6, q7, -, q9, q10⟩ := id h
  refine ⟨⟨b1.fr fT, fN.my ((b2.mf _ (by decide) (by decide)).mf _ (by decide) (by decide)), b3, b4⟩, ?_, ?_, ?_, ?_, hp, ?_, fN.2.2, ⟨LA, hl, hLA, Or.inr ⟨x, h12, h.hx, hN, hS⟩⟩, q10.fr fT⟩
  · rw [fT.1 0 rfl, fN.2.1 2 (by decide)]; exact q2
  · rw [fT.1 1 rfl, fN.2.1 3 (by decide)]; exact q3
  · rw [h2, fN.1 2 (by decide) (by decide) (by decide) (by decide)]; rfl
  · rw [fT.1 9 rfl, fT.1 10 rfl, (fT.2.1 20 rfl).1, (fT.2.1 21 rfl).1, fN.1 4 (by decide) (by decide) (by decide) (by decide), fN.1 5 (by decide) (by decide) (by decide) (by decide), fN.2.1 6 (by decide)]; exact q5
  · rw [fT.1 19 rfl, (fT.2.1 38 rfl).1, (fT.2.1 39 rfl).1, (fT.2.1 40 rfl).1, (fT.2.1 41 rfl).1, (fT.2.1 42 rfl).2, fN.1 9 (by decide) (by decide) (by decide) (by decide), fN.2.1 29 (by decide), fN.2.1 30 (by decide), fN.2.1 31 (by decide), fN.2.1 32 (by decide)]; exact q7
theorem Rl.srch0 {T : CS} {N : MS} {LA : Nat} (h : Rl S M n P kd ct sc sm x y) (fT : CFr hA fB pC S T) (hl : CL T LA) (hLA : LA ≤ 20000) (hN : P ^ n ≤ LA) (h12 : T.1 12 = nI x) (hS : SOK T n P kd ct sc x) (h2 : T.1 2 = 0) (fN : MK (mf (mf M 3 0) 2 0) N) : Rl T N n P kd ct sc sm x y := by
  refine h.srch (fT.mono hA_u fB_u pC_u) hl hLA hN h12 hS h2 fN.p ?_
  rw [fT.1 11 rfl, (fT.2.1 22 rfl).1, fT.2.2 22 rfl, fN.1 6 (by decide) (by decide) (by decide), fN.2.1 7 (by decide)]
  exact h.2.2.2.2.2.1
/-- what a search asks for -/
def srC (LA N : Nat) : Nat := if LA < N ∧ N ≤ 20000 then 6 else 0
def srS (LA N : Nat) : Nat := if LA < N ∧ N ≤ 20000 then 6 * N else 0
theorem sr_b (LA N : Nat) : srC LA N ≤ 6 ∧ srS LA N ≤ 120000 := by
  unfold srC srS
  split <;> omega
theorem sr_F (hP : 2 ≤ P ∧ P ≤ 5) (hn : 1 ≤ n ∧ n ≤ 7) (LA : Nat) (hN : P ^ n ≤ 20000) : 6 * CT LA + srC LA (P ^ n) ≤ 6 * CT (max LA (P ^ n)) ∧ 6 * TS LA + srS LA (P ^ n) ≤ 6 * TS (max LA (P ^ n)) := by
  unfold srC srS
  by_cases e : LA < P ^ n
  · have := CT_step hP hn e
    rw [if_pos ⟨e, hN⟩, if_pos ⟨e, hN⟩, Nat.max_eq_right (by omega)]
    omega
  · rw [if_neg (fun q => e q.1), if_neg (fun q => e q.1), Nat.max_eq_left (by omega)]
    exact ⟨Nat.le_refl _, Nat.le_refl _⟩
theorem k_searched (l : Launch) (h : Rl S M n P kd ct sc sm x y) {LA : Nat} (hLA : S.2.2.2 24 = LA) (post : Bool → CS → Prop) (h0 : ¬ P ^ n ≤ 20000 → post false (cf S 2 2)) (h1 : P ^ n ≤ 20000 → ∀ T, CFr hA fB pC S T → CL T (max LA (P ^ n)) → max LA (P ^ n) ≤ 20000 → T.1 12 = nI x → SOK T n P kd ct sc x → T.1 2 = 0 → post true T) : cX_X8_searched l (srC LA (P ^ n)) (srS LA (P ^ n)) S post := by
  have hP2 := h.P2
  have hn2 := h.n2
  have hb := pow_b hP2 hn2.2
  refine c_X8_searched l _ _ S post ?_
  unfold cT_X8_searched_e
  rw [h.cy.2.2.1, h.sx]
  obtain ⟨LA', hl, hLA', hst⟩ := id h.2.2.2.2.2.2.2.2.1
  have : LA' = LA := by rw [← hLA, ← hl.1]
  subst this
  refine ⟨fun c => ?_, fun c => ⟨Nat.zero_le _, Nat.zero_le _, k_refuse l S 2 _ ⟨Nat.zero_le _, Nat.zero_le _, h0 (fun q => c (nI_le (b := 20000) q (by omega)))⟩⟩⟩
  have hN : P ^ n ≤ 20000 := (nI_leI (b := 20000) (by omega) (by omega)).mp c
  have g := h1 hN
  refine ⟨srC LA' (P ^ n), srS LA' (P ^ n), by omega, by omega, ?_⟩
  have fin : ∀ T, CFr fA fB pC S T → CL T (max LA' (P ^ n)) → T.1 12 = nI x → SOK T n P kd ct sc x → 0 + srC LA' (P ^ n) ≤ srC LA' (P ^ n) ∧ 0 + srS LA' (P ^ n) ≤ srS LA' (P ^ n) ∧ cX_X8_accept l T (fun b8 S7 => 0 + srC LA' (P ^ n) ≤ srC LA' (P ^ n) ∧ 0 + srS LA' (P ^ n) ≤ srS LA' (P ^ n) ∧ post b8 S7) := by
    intro T fT t1 t2 t3
    refine ⟨by omega, by omega, k_accept l _ _ ⟨by omega, by omega, ?_⟩⟩
    exact g _ ((fT.mono fA_h (fun _ q => q) (fun _ q => q)).cf _ rfl) t1 (by omega) t2 t3 rfl
  by_cases e : S.1 12 = nI x
  · rcases hst with q | ⟨s0, q1, q2, q3, q4⟩
    · rw [q] at e
      exact absurd e.symm (nI_m1 (by have := h.hx; omega))
    · have : s0 = x := (nI_eq (by omega) (by have := h.hx; omega)).mp (q1.symm.trans e)
      subst this
      refine c_X6_from l _ _ S _ _ ?_
      intro B35 B121 _ _
      unfold cT_X6_from_e
      refine ⟨fun w => absurd e w, fun _ => ⟨Nat.zero_le _, Nat.zero_le _, ?_⟩⟩
      refine fin S CFr.rf ?_ e q4
      rw [Nat.max_eq_left q3]; exact hl
  · refine k_from l h.cy h.dz hN h.hx hl hLA' (fun q => ?_) e _ fin
    unfold srC srS
    rw [if_pos ⟨q, hN⟩, if_pos ⟨q, hN⟩]
    exact ⟨Nat.le_refl _, Nat.le_refl _⟩
theorem F_srch {T : CS} {LA : Nat} (hP : 2 ≤ P ∧ P ≤ 5) (hn : 1 ≤ n ∧ n ≤ 7) (hN : P ^ n ≤ 20000) (hLA : S.2.2.2 24 = LA) (fT : CFr hA fB pC S T) (hl : CL T (max LA (P ^ n))) : Fc S + srC LA (P ^ n) ≤ Fc T + 3 ∧ Fs S + srS LA (P ^ n) ≤ Fs T + 55 := by
  have := sr_F hP hn LA hN
  unfold Fc Fs
  rw [hl.1, fT.2.2 30 rfl, fT.2.2 22 rfl, hLA]
  omega
theorem sr_none {LA : Nat} (h : ¬ P ^ n ≤ 20000) : srC LA (P ^ n) = 0 ∧ srS LA (P ^ n) = 0 := by
  unfold srC srS
  rw [if_neg (fun q => h q.2), if_neg (fun q => h q.2)]
  exact ⟨rfl, rfl⟩
theorem Rl.many (h : Rl S M n P kd ct sc sm x y) {LA : Nat} {α : Type} (v : α) (c : ¬ P ^ n ≤ 20000) : OKa S (srC LA (P ^ n)) (srS LA (P ^ n)) v (cf S 2 2) v (mf (mf M 3 0) 2 2) := by
  obtain ⟨e1, e2⟩ := sr_none (LA := LA) c
  refine ⟨rfl, ⟨n, P, kd, ct, sc, sm, x, y, (h.th 0).tr 2⟩, ?_, ?_⟩
  · rw [e1]; show Fc S + 0 ≤ Fc S + 3; omega
  · rw [e2]; show Fs S + 0 ≤ Fs S + 55; omega
theorem Rl.ds (h : Rl S M n P kd ct sc sm x y) {fr fr2 : Nat → Option Nat} (h1 : DS (P ^ n) x (tgN n P kd ct sc) (fun a b => ct (5 * a + b)) fr) (h2 : DS (P ^ n) x (tgN n P kd ct sm) (fun a b => ct (5 * a + b)) fr2) : fr2 = fr := by
  rw [← h.tg] at h2
  exact DS.uniq h2 h1 (c := fun a b => ct (5 * a + b)) tgN_pos
theorem o_fewest (l : Launch) (h : Rl S M n P kd ct sc sm x y) : ∃ mc ms, mc ≤ 50000 ∧ ms ≤ 300000 ∧ cX_X8_fewest l mc ms S (fun r1 S1 => mX_fewest l M (fun r2 M1 => OKa S mc ms r1 S1 r2 M1)) := by
  have hP2 := h.P2
  have hn2 := h.n2
  have hb := sr_b (S.2.2.2 24) (P ^ n)
  refine ⟨srC (S.2.2.2 24) (P ^ n), srS (S.2.2.2 24) (P ^ n), by omega, by omega, ?_⟩
  refine c_X8_fewest l _ _ S _ ?_
  unfold cT_X8_fewest_e
  refine ⟨_, _, Nat.le_of_eq (Nat.zero_add _), Nat.le_of_eq (Nat.zero_add _), k_searched l h rfl _ (fun c => ?_) (fun hN T fT hl hLA h12 hS h2 => ?_)⟩
  · refine ⟨fun w => absurd rfl w, fun _ => ⟨by omega, by omega, ?_⟩⟩
    exact s_fewest l h.my h.hx h.xa h.hy h.ya h.m8 h.m9 _ (fun _ => h.many _ c) (fun q => absurd q c)
  · refine ⟨fun _ => ⟨by omega, by omega, c_X6_costTo l _ _ _ ?_⟩, fun w => absurd w (by decide)⟩
    unfold cT_X6_costTo_e
    obtain ⟨fr, mt, hD, hnd, hmem, hsort, hfb, h24, h13, h26, hRI, hz⟩ := id hS
    have hy := h.hy
    rw [fT.1 1 rfl, h.sy, nI_clamp (show y < 2 ^ 31 by omega), h24 y hy, hl.1]
    have fin : mX_fewest l M (fun r2 M1 => OKa S (srC (S.2.2.2 24) (P ^ n)) (srS (S.2.2.2 24) (P ^ n)) (few (fr y)) T r2 M1) := by
      refine s_fewest l h.my h.hx h.xa h.hy h.ya h.m8 h.m9 _ (fun q => absurd hN q) (fun _ N fr2 mt2 fN hM => ?_)
      have e := h.ds hD hM.1
      subst e
      exact ⟨rfl, ⟨n, P, kd, ct, sc, sm, x, y, h.srch0 fT hl hLA (Nat.le_max_right _ _) h12 hS h2 fN⟩, F_srch hP2 hn2 hN rfl fT hl⟩
    refine ⟨vp_in_nI (by have := Nat.le_max_right (S.2.2.2 24) (P ^ n); omega) (by omega), fun c => ⟨by omega, by omega, ?_⟩, fun c => ⟨by omega, by omega, ?_⟩⟩
    · cases e : fr y with
      | none => rw [e] at c; exact absurd rfl c
      | some m => rw [e] at fin; exact fin
    · have e := (lab_none (fun m hm => by have := hfb y m hm; omega)).mp c
      rw [e] at fin
      exact fin
theorem o_reach (l : Launch) (h : Rl S M n P kd ct sc sm x y) : ∃ mc ms, mc ≤ 50000 ∧ ms ≤ 300000 ∧ cX_X8_reach l mc ms S (fun r1 S1 => mX_reach l M (fun r2 M1 => OKa S mc ms r1 S1 r2 M1)) := by
  have hP2 := h.P2
  have hn2 := h.n2
  have hb := sr_b (S.2.2.2 24) (P ^ n)
  refine ⟨srC (S.2.2.2 24) (P ^ n), srS (S.2.2.2 24) (P ^ n), by omega, by omega, ?_⟩
  refine c_X8_reach l _ _ S _ ?_
  unfold cT_X8_reach_e
  refine ⟨_, _, Nat.le_of_eq (Nat.zero_add _), Nat.le_of_eq (Nat.zero_add _), k_searched l h rfl _ (fun c => ?_) (fun hN T fT hl hLA h12 hS h2 => ?_)⟩
  · refine ⟨fun _ => ⟨by omega, by omega, ?_⟩, fun w => absurd rfl w⟩
    exact s_reach l h.my h.hx h.xa h.m8 h.m9 _ (fun _ => h.many _ c) (fun q => absurd q c)
  · refine ⟨fun w => absurd w (by decide), fun _ => ⟨by omega, by omega, ?_⟩⟩
    obtain ⟨fr, mt, hD, hnd, hmem, hsort, hfb, h24, h13, h26, hRI, hz⟩ := id hS
    refine s_reach l h.my h.hx h.xa h.m8 h.m9 _ (fun q => absurd hN q) (fun _ N fr2 mt2 fN hM => ?_)
    have e := h.ds hD hM.1
    subst e
    have ep := perm_of_mem mt mt2 hnd hM.2.1 (fun z => (hmem z).trans (hM.2.2.1 z).symm)
    exact ⟨by rw [h13, ep.length_eq], ⟨n, P, kd, ct, sc, sm, x, y, h.srch0 fT hl hLA (Nat.le_max_right _ _) h12 hS h2 fN⟩, F_srch hP2 hn2 hN rfl fT hl⟩
theorem o_ways (l : Launch) (h : Rl S M n P kd ct sc sm x y) : ∃ mc ms, mc ≤ 50000 ∧ ms ≤ 300000 ∧ cX_X8_ways l mc ms S (fun r1 S1 => mX_ways l M (fun r2 M1 => OKa S mc ms r1 S1 r2 M1)) := by
  have hP2 := h.P2
  have hn2 := h.n2
  have hb := sr_b (S.2.2.2 24) (P ^ n)
  refine ⟨srC (S.2.2.2 24) (P ^ n), srS (S.2.2.2 24) (P ^ n), by omega, by omega, ?_⟩
  refine c_X8_ways l _ _ S _ ?_
  unfold cT_X8_ways_e
  refine ⟨_, _, Nat.le_of_eq (Nat.zero_add _), Nat.le_of_eq (Nat.zero_add _), k_searched l h rfl _ (fun c => ?_) (fun hN T fT hl hLA h12 hS h2 => ?_)⟩
  · refine ⟨fun w => absurd rfl w, fun _ => ⟨by omega, by omega, ?_⟩⟩
    exact s_ways l h.my h.hx h.xa h.hy h.ya h.m8 h.m9 _ (fun _ => h.many _ c) (fun q => absurd q c) (fun q => absurd q c)
  · refine ⟨fun _ => ⟨by omega, by omega, c_X6_rowsTo l _ _ _ ?_⟩, fun w => absurd w (by decide)⟩
    unfold cT_X6_rowsTo_e
    obtain ⟨fr, mt, hD, hnd, hmem, hsort, hfb, h24, h13, h26, hRI, hz⟩ := id hS
    have hy := h.hy
    rw [fT.1 1 rfl, h.sy, nI_clamp (show y < 2 ^ 31 by omega), hl.2.1]
    refine ⟨vp_in_nI (by have := Nat.le_max_right (S.2.2.2 24) (P ^ n); omega) (by omega), by omega, by omega, ?_⟩
    refine s_ways l h.my h.hx h.xa h.hy h.ya h.m8 h.m9 _ (fun q => absurd hN q) (fun _ N fr2 mt2 fN hM hn => ?_) (fun _ N fr2 mt2 fN hM hn hR2 => ?_)
    · have e := h.ds hD hM.1
      subst e
      exact ⟨hz y hy hn, ⟨n, P, kd, ct, sc, sm, x, y, h.srch0 fT hl hLA (Nat.le_max_right _ _) h12 hS h2 fN⟩, F_srch hP2 hn2 hN rfl fT hl⟩
    · have e := h.ds hD hM.1
      subst e
      rw [← h.tg, ← h.mv] at hR2
      have ep := perm_of_mem mt mt2 hnd hM.2.1 (fun z => (hmem z).trans (hM.2.2.1 z).symm)
      obtain ⟨m, hm⟩ := Option.ne_none_iff_exists'.mp hn
      exact ⟨RI.uniq hRI hR2 (allE_perm ep) tgN_pos m y m (Nat.le_refl _) hm, ⟨n, P, kd, ct, sc, sm, x, y, h.srch0 fT hl hLA (Nat.le_max_right _ _) h12 hS h2 fN⟩, F_srch hP2 hn2 hN rfl fT hl⟩
/-- the last one settled -/
theorem last_max {N st : Nat} {tg : Nat → Nat → Nat → Option Nat} {c : Nat → Nat → Nat} {fr : Nat → Option Nat} {mt : List Nat} (hD : DS N st tg c fr) (hnd : mt.Nodup) (hmem : ∀ x, x ∈ mt ↔ fr x ≠ none) (hsort : mt.Pairwise fun x y => ∀ m k, fr x = some m → fr y = some k → m ≤ k) : ∃ (z m : Nat), mt[mt.length - 1]? = some z ∧ 0 < mt.length ∧ z < N ∧ fr z = some m ∧ mt.length ≤ N ∧ (∀ w k, fr w = some k → k ≤ m) := by
  have h0 : 0 < mt.length := by
    have : st ∈ mt := (hmem st).mpr (by rw [hD.1]; exact Option.some_ne_none 0)
    exact List.length_pos_of_mem this
  obtain ⟨z, hz⟩ : ∃ z, mt[mt.length - 1]? = some z := ⟨_, List.getElem?_eq_getElem (by omega)⟩
  obtain ⟨m, hm⟩ := Option.ne_none_iff_exists'.mp ((hmem z).mp (List.mem_of_getElem? hz))
  refine ⟨z, m, hz, h0, hD.2.1 z (by rw [hm]; exact Option.some_ne_none m), hm, nodup_len _ mt hnd (fun w hw => hD.2.1 w ((hmem w).mp hw)), fun w k hk => ?_⟩
  obtain ⟨i, hi⟩ := idx_of ((hmem w).mpr (by rw [hk]; exact Option.some_ne_none k))
  obtain ⟨li, ei⟩ := List.getElem?_eq_some_iff.mp hi
  obtain ⟨lj, ej⟩ := List.getElem?_eq_some_iff.mp hz
  rcases Nat.lt_or_ge i (mt.length - 1) with q | q
  · have := (List.pairwise_iff_getElem.mp hsort) i (mt.length - 1) li lj q
    rw [ei, ej] at this
    exact this k m hk hm
  · have : i = mt.length - 1 := by omega
    subst this
    rw [ei] at ej
    subst ej
    rw [hk] at hm
    cases hm
    exact Nat.le_refl _
theorem k_greatest (l : Launch) {T : CS} {LA m z : Nat} {fr : Nat → Option Nat} {mt : List Nat} (hl : CL T LA) (hLA : LA ≤ 20000) (hN : P ^ n ≤ LA) (h24 : ∀ x, x < P ^ n → T.2.1 24 x = lab (fr x)) (h13 : T.1 13 = nI mt.length) (h26 : ∀ k x, mt[k]? = some x → T.2.1 26 k = nI x) (hz : mt[mt.length - 1]? = some z) (h0 : 0 < mt.length) (hzN : z < P ^ n) (hm : fr z = some m) (hlen : mt.length ≤ P ^ n) (post : Int32 → CS → Prop) (h : post (nI m) T) : cX_X6_greatestCost l T post := by
  refine c_X6_greatestCost l T post ?_
  unfold cT_X6_greatestCost_e
  obtain ⟨r, hr⟩ : ∃ r, mt.length = r + 1 := ⟨mt.length - 1, by omega⟩
  rw [hr, Nat.add_sub_cancel] at hz
  rw [h13, hr, nI_pred, nI_clamp (show r < 2 ^ 31 by omega), h26 r z hz, nI_clamp (show z < 2 ^ 31 by omega), h24 z hzN, hm, hl.1, hl.2.2.1]
  refine ⟨fun _ => ⟨vp_in_nI (by omega) (by omega), vp_in_nI (by omega) (by omega), h⟩, fun w => ?_⟩
  exact absurd ((nI_is 0 rfl (by omega) (by omega)).mp w) (by omega)
theorem o_far (l : Launch) (h : Rl S M n P kd ct sc sm x y) : ∃ mc ms, mc ≤ 50000 ∧ ms ≤ 300000 ∧ cX_X8_far l mc ms S (fun r1 S1 => mX_far l M (fun r2 M1 => OKa S mc ms r1 S1 r2 M1)) := by
  have hP2 := h.P2
  have hn2 := h.n2
  have hb := sr_b (S.2.2.2 24) (P ^ n)
  refine ⟨srC (S.2.2.2 24) (P ^ n), srS (S.2.2.2 24) (P ^ n), by omega, by omega, ?_⟩
  refine c_X8_far l _ _ S _ ?_
  unfold cT_X8_far_e
  refine ⟨_, _, Nat.le_of_eq (Nat.zero_add _), Nat.le_of_eq (Nat.zero_add _), k_searched l h rfl _ (fun c => ?_) (fun hN T fT hl hLA h12 hS h2 => ?_)⟩
  · refine ⟨fun _ => ⟨by omega, by omega, ?_⟩, fun w => absurd rfl w⟩
    exact s_far l h.my h.hx h.xa h.m8 h.m9 _ (fun _ => h.many _ c) (fun q => absurd q c)
  · refine ⟨fun w => absurd w (by decide), fun _ => ⟨by omega, by omega, ?_⟩⟩
    obtain ⟨fr, mt, hD, hnd, hmem, hsort, hfb, h24, h13, h26, hRI, hz⟩ := id hS
    obtain ⟨z, m, z1, z2, z3, z4, z5, z6⟩ := last_max hD hnd hmem hsort
    refine k_greatest l hl hLA (Nat.le_max_right _ _) h24 h13 h26 z1 z2 z3 z4 z5 _ ⟨by omega, by omega, ?_⟩
    refine s_far l h.my h.hx h.xa h.m8 h.m9 _ (fun q => absurd hN q) (fun _ N fr2 mt2 z' m' fN hM hm1 hm2 => ?_)
    have e := h.ds hD hM.1
    subst e
    have em : m = m' := Nat.le_antisymm (hm2 z m z4) (z6 z' m' hm1)
    exact ⟨by rw [em], ⟨n, P, kd, ct, sc, sm, x, y, h.srch0 fT hl hLA (Nat.le_max_right _ _) h12 hS h2 fN⟩, F_srch hP2 hn2 hN rfl fT hl⟩
theorem o_farthest (l : Launch) (h : Rl S M n P kd ct sc sm x y) : ∃ mc ms, mc ≤ 50000 ∧ ms ≤ 300000 ∧ cX_X8_farthest l mc ms S (fun r1 S1 => mX_farthest l M (fun r2 M1 => OKa S mc ms r1 S1 r2 M1)) := by
  have hP2 := h.P2
  have hn2 := h.n2
  have hb := sr_b (S.2.2.2 24) (P ^ n)
  refine ⟨srC (S.2.2.2 24) (P ^ n), srS (S.2.2.2 24) (P ^ n), by omega, by omega, ?_⟩
  refine c_X8_farthest l _ _ S _ ?_
  unfold cT_X8_farthest_e
  refine ⟨_, _, Nat.le_of_eq (Nat.zero_add _), Nat.le_of_eq (Nat.zero_add _), k_searched l h rfl _ (fun c => ?_) (fun hN T fT hl hLA h12 hS h2 => ?_)⟩
  · refine ⟨fun _ => ⟨by omega, by omega, ?_⟩, fun w => absurd rfl w⟩
    exact s_farthest l h.my h.hx h.xa h.m8 h.m9 _ (fun _ => h.many _ c) (fun q => absurd q c)
  · refine ⟨fun w => absurd w (by decide), fun _ => ⟨by omega, by omega, ?_⟩⟩
    obtain ⟨fr, mt, hD, hnd, hmem, hsort, hfb, h24, h13, h26, hRI, hz⟩ := id hS
    obtain ⟨zl, m, z1, z2, z3, z4, z5, z6⟩ := last_max hD hnd hmem hsort
    have hmx := Nat.le_max_right (S.2.2.2 24) (P ^ n)
    have fin : ∀ z, fr z = some m → (∀ w, fr w = some m → z ≤ w) → 0 + srC (S.2.2.2 24) (P ^ n) ≤ srC (S.2.2.2 24) (P ^ n) ∧ 0 + srS (S.2.2.2 24) (P ^ n) ≤ srS (S.2.2.2 24) (P ^ n) ∧ mX_farthest l M (fun r2 M1 => OKa S (srC (S.2.2.2 24) (P ^ n)) (srS (S.2.2.2 24) (P ^ n)) (nI z) T r2 M1) := by
      intro z q1 q2
      refine ⟨by omega, by omega, ?_⟩
      refine s_farthest l h.my h.hx h.xa h.m8 h.m9 _ (fun q => absurd hN q) (fun _ N fr2 mt2 z' m' fN hM hm1 hm2 hm3 => ?_)
      have e := h.ds hD hM.1
      subst e
      have em : m = m' := Nat.le_antisymm (hm2 zl m z4) (z6 z' m' hm1)
      subst em
      have ez : z = z' := Nat.le_antisymm (q2 z' hm1) (hm3 z q1)
      exact ⟨by rw [ez], ⟨n, P, kd, ct, sc, sm, x, y, h.srch0 fT hl hLA (Nat.le_max_right _ _) h12 hS h2 fN⟩, F_srch hP2 hn2 hN rfl fT hl⟩
    refine c_X6_leastOfFarthest l T _ ?_
    intro B17 B56 B63 h17 h56 h63
    unfold cT_X6_leastOfFarthest_e
    refine k_greatest l hl hLA hmx h24 h13 h26 z1 z2 z3 z4 z5 _ (fun v ev v3 ev3 => ?_)
    rw [h12] at ev
    rw [h13] at ev3
    subst ev
    subst ev3
    have key : ∀ k, k ≤ mt.length → ∀ z, (k < mt.length → fr z = some m ∧ ∀ i w, k ≤ i → mt[i]? = some w → fr w = some m → z ≤ w) → B17 T (nI m) (nI z) (nI k - 1) := by
      intro k
      induction k with
      | zero =>
        intro _ z hzz
        refine h17 _ _ _ _ ?_
        unfold cT_X6_leastOfFarthest_17
        refine ⟨fun _ => fin z (hzz (by omega)).1 (fun w hw => ?_), fun w => absurd (by decide) w⟩
        obtain ⟨i, hi⟩ := idx_of ((hmem w).mpr (by rw [hw]; exact Option.some_ne_none m))
        exact (hzz (by omega)).2 i w (Nat.zero_le _) hi hw
      | succ k ih =>
        intro hk z hzz
        obtain ⟨u, hu⟩ : ∃ u, mt[k]? = some u := ⟨_, List.getElem?_eq_getElem (by omega)⟩
        obtain ⟨mu, hmu⟩ := Option.ne_none_iff_exists'.mp ((hmem u).mp (List.mem_of_getElem? hu))
        have huN := hD.2.1 u (by rw [hmu]; exact Option.some_ne_none mu)
        have hmuB := hfb u mu hmu
        have hmB := hfb zl m z4
        have nxt : ∀ z', fr z' = some m → (∀ i w, k ≤ i → mt[i]? = some w → fr w = some m → z' ≤ w) → B63 T (nI m) (nI z') (nI k) := by
          intro z' q1 q2
          refine h63 _ _ _ _ ?_
          unfold cT_X6_leastOfFarthest_63
          rw [i_sub1]
          exact ih (by omega) z' (fun _ => ⟨q1, q2⟩)
        have take56 : mu = m → (k + 1 < mt.length → u < z) → B56 T (nI m) (nI k) := by
          intro q1 q2
          refine h56 _ _ _ ?_
          unfold cT_X6_leastOfFarthest_56
          rw [nI_clamp (show k < 2 ^ 31 by omega), h26 k u hu, hl.2.2.1]
          refine ⟨vp_in_nI (by omega) (by omega), fun v hv => ?_⟩
          subst hv
          subst q1
          refine nxt u hmu (fun i w i1 i2 i3 => ?_)
          by_cases e : i = k
          · subst e
            rw [hu] at i2
            cases i2
            exact Nat.le_refl _
          · have hlt : k + 1 < mt.length := by
              have := (List.getElem?_eq_some_iff.mp i2).1
              omega
            have := (hzz hlt).2 i w (by omega) i2 i3
            have := q2 hlt
            omega
        refine h17 _ _ _ _ ?_
        unfold cT_X6_leastOfFarthest_17
        rw [nI_pred, nI_clamp (show k < 2 ^ 31 by omega), h26 k u hu, nI_clamp (show u < 2 ^ 31 by omega), h24 u huN, hmu, hl.1, hl.2.2.1, h13]
        refine ⟨fun w => absurd w (nI_pos (by omega)), fun _ => ⟨vp_in_nI (by omega) (by omega), vp_in_nI (by omega) (by omega), fun c => ?_, fun c => ?_⟩⟩
        · have c : mu ≠ m := fun q => c (by rw [q]; rfl)
          have hk1 : k + 1 < mt.length := by
            rcases Nat.lt_or_ge (k + 1) mt.length with q | q
            · exact q
            · have : mt.length - 1 = k := by omega
              rw [this, hu] at z1
              cases z1
              rw [hmu] at z4
              cases z4
              exact absurd rfl c
          refine fin z (hzz hk1).1 (fun w hw => ?_)
          obtain ⟨i, hi⟩ := idx_of ((hmem w).mpr (by rw [hw]; exact Option.some_ne_none m))
          rcases Nat.lt_or_ge k i with q | q
          · exact (hzz hk1).2 i w q hi hw
          · exfalso
            have hmu_le := z6 u mu hmu
            obtain ⟨li, ei⟩ := List.getElem?_eq_some_iff.mp hi
            obtain ⟨lj, ej⟩ := List.getElem?_eq_some_iff.mp hu
            rcases Nat.lt_or_ge i k with q3 | q3
            · have := (List.pairwise_iff_getElem.mp hsort) i k li lj q3
              rw [ei, ej] at this
              have := this m mu hw hmu
              omega
            · have : i = k := by omega
              subst this
              rw [hu] at hi
              cases hi
              rw [hmu] at hw
              cases hw
              exact c rfl
        · have c : mu = m := (nI_eq (show mu < 2 ^ 31 by omega) (by omega)).mp c
          refine ⟨fun c2 => take56 c (fun q => ?_), fun c2 => ⟨vp_in_nI (by omega) (by omega), fun c3 => ?_, fun c3 => ?_⟩⟩
          · obtain ⟨r, hr⟩ : ∃ r, mt.length = r + 1 := ⟨mt.length - 1, by omega⟩
            rw [hr, nI_pred] at c2
            have := (nI_eq (show k < 2 ^ 31 by omega) (by omega)).mp c2
            omega
          · have hk1 : k + 1 < mt.length := by
              rcases Nat.lt_or_ge (k + 1) mt.length with q | q
              · exact q
              · have : mt.length = k + 1 := by omega
                exact absurd (by rw [this, nI_pred]) c2
            obtain ⟨g1, g2⟩ := hzz hk1
            have hzN := hD.2.1 z (by rw [g1]; exact Option.some_ne_none m)
            have c3 : z ≤ u := (nI_leI (by omega) (by omega)).mp c3
            refine nxt z g1 (fun i w i1 i2 i3 => ?_)
            by_cases e : i = k
            · subst e
              rw [hu] at i2
              cases i2
              exact c3
            · exact g2 i w (by omega) i2 i3
          · refine take56 c (fun q => ?_)
            have hzN := hD.2.1 z (by rw [(hzz q).1]; exact Option.some_ne_none m)
            rcases Nat.lt_or_ge u z with q | q
            · exact q
            · exact absurd (nI_le q (by omega)) c3
    exact key mt.length (Nat.le_refl _) x (fun q => absurd q (Nat.lt_irrefl _))
end Srch
