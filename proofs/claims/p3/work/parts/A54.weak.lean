-- joined(): the class's search for the sets, its ranges
section FindC
variable {S : CS} {n P LK : Nat} {kd ct sc : Nat → Nat}
theorem KL.nn {a b : Nat → Bool} {S T : CS} {LK : Nat} (h : KL S LK) (f : CFr a b nn S T) : KL T LK := by
  have e : T.2.2.2 = S.2.2.2 := lens_eq f
  unfold KL
  rw [e]; exact h
theorem w_walk (l : Launch) (hy : CY S n P kd ct sc) (hz : ∀ a, a < 5 → ct (5 * a + a) = 0) {q d p m x : Nat} (h : WI S (P ^ n) q d p m) (hl : KL S LK) (hN : P ^ n ≤ LK) (hK : LK ≤ 20000) (hx : x < P ^ n) (h0 : S.2.1 30 x = 0) (post : CS → Prop) (hp : ∀ T q d p m, CFr kA kB nn S T → WI T (P ^ n) q d p m → post T) : cX_X2_walk l S (nI x) post := by
  refine c_X2_walk l S _ post ?_
  intro B8 B70 h8 h70
  unfold cT_X2_walk_e
  have key : ∀ e i, i + e = 2 * P ^ n → ∀ V q d p m, CFr kA kB nn S V → WI V (P ^ n) q d p m → B8 V (nI i) := by
    intro e
    induction e with
    | zero =>
      intro i hi V q d p m fV wV
      have hyV := hy.fr fV
      refine h8 _ _ ?_
      unfold cT_X2_walk_8
      rw [hyV.2.2.1, show (2 : Int32) * nI (P ^ n) = nI (2 * P ^ n) from pk_mul 2 (P ^ n)]
      exact ⟨fun _ => hp V q d p m fV wV, fun z => absurd (nI_le (by omega) (by omega)) z⟩
    | succ e ih =>
      intro i hi V q d p m fV wV
      have hyV := hy.fr fV
      have hlV := hl.nn fV
      refine h8 _ _ ?_
      unfold cT_X2_walk_8
      rw [hyV.2.2.1, show (2 : Int32) * nI (P ^ n) = nI (2 * P ^ n) from pk_mul 2 (P ^ n), wV.2.1]
      refine ⟨fun _ => hp V q d p m fV wV, fun _ => ⟨fun _ => hp V q d p m fV wV, fun c => ?_⟩⟩
      have hd0 : d ≠ 0 := fun z => c (by rw [z]; decide)
      obtain ⟨r, rfl⟩ : ∃ r, d = r + 1 := ⟨d - 1, by omega⟩
      obtain ⟨g1, g2, g3, g4, g5, g6, g7, g8, g9, g10⟩ := id wV
      have hq0 := cntP_le (fun x => decide (V.2.1 30 x ≠ 0)) (P ^ n)
      rw [g5] at hq0
      obtain ⟨y, j, y1, y2, y3, y4⟩ := g8 r (by omega)
      rw [nI_pred, nI_clamp (show r < 2 ^ 31 by omega), y3, hlV.2.2.2.1]
      refine ⟨vp_in_nI (by omega) (by omega), fun v hv => ?_⟩
      subst hv
      have nxt : ∀ W q d p m, CFr kA kB nn S W → WI W (P ^ n) q d p m → B70 W (nI i) := by
        intro W q d p m fW wW
        refine h70 _ _ ?_
        unfold cT_X2_walk_70
        rw [← nI_succ]
        exact ih (i + 1) (by omega) W q d p m fW wW
      refine w_next l hyV hz wV hlV hN hK y1 y2 y4 _ (fun W fW wW => ⟨fun c => absurd rfl c, fun _ => ?_⟩) (fun W t fW wW ht h0t => ⟨fun _ => ?_, fun c => absurd c (nI_m1 (by omega))⟩)
      · exact w_leave l wW (hlV.nn fW) hN hK y1 _ (fun X p' m' fX _ wX => nxt X q r p' m' (fV.tr (fW.tr fX)) wX)
      · exact w_enter l wW (hlV.nn fW) hN hK ht h0t _ (fun X fX _ wX => nxt X _ _ _ _ (fV.tr (fW.tr fX)) wX)
  exact w_enter l h hl hN hK hx h0 _ (fun X fX _ wX => key (2 * P ^ n) 0 (Nat.zero_add _) X _ _ _ _ fX wX)
theorem w_seek (l : Launch) (hy : CY S n P kd ct sc) (hz : ∀ a, a < 5 → ct (5 * a + a) = 0) {x k : Nat} (hl : KL S LK) (hN : P ^ n ≤ LK) (hK : LK ≤ 20000) (hx : x < P ^ n) (hk : k < P ^ n) (h35 : S.2.1 35 x = nI k) (post : CS → Prop) (hp : ∀ T, CFr lA okB nn S T → post T) : cX_X2_seekWayOut l S (nI x) post := by
  have hP2 := hy.2.2.2.1
  refine c_X2_seekWayOut l S _ post ?_
  intro B34 B68 h34 h68
  unfold cT_X2_seekWayOut_e
  rw [nI_clamp (show x < 2 ^ 31 by omega), h35, hl.2.2.2.2.2.1]
  refine ⟨vp_in_nI (by omega) (by omega), fun v hv => ?_⟩
  subst hv
  rw [nI_clamp (show k < 2 ^ 31 by omega), hl.2.2.2.2.2.2.2]
  refine ⟨vp_in_nI (by omega) (by omega), fun _ => ?_, fun _ => hp S CFr.rf⟩
  refine k_read l hy hx _ (fun T fT hT => k_spread l (hy.fr fT) hz hx hT _ (fun U fU hU => ?_))
  have fSU : CFr lA lB nn S U := fT.tr (fU.mono sA_l sB_l)
  have hlen := mvL_len (n := n) (kd := kd) (ct := ct) (sg := sc) (x := x) hP2.2
  have key : ∀ d i, i + d = (mvL n P kd ct sc x).length → ∀ V, CFr lA okB nn S V → SPL V n P kd ct sc x (mvL n P kd ct sc x) → B34 V (nI k) (nI i) := by
    intro d
    induction d with
    | zero =>
      intro i hi V fV sV
      refine h34 _ _ _ ?_
      unfold cT_X2_seekWayOut_34
      rw [sV.1]
      exact ⟨fun _ => hp V fV, fun z => absurd (nI_le (by omega) (by omega)) z⟩
    | succ d ih =>
      intro i hi V fV sV
      obtain ⟨t, t1, t2, t3⟩ := tl_at sV (by omega) (show i < (mvL n P kd ct sc x).length by omega)
      have hlV := hl.nn fV
      have nxt : ∀ W, CFr lA okB nn S W → SPL W n P kd ct sc x (mvL n P kd ct sc x) → B68 W (nI k) (nI i) := by
        intro W fW sW
        refine h68 _ _ _ ?_
        unfold cT_X2_seekWayOut_68
        rw [← nI_succ]
        exact ih (i + 1) (by omega) W fW sW
      refine h34 _ _ _ ?_
      unfold cT_X2_seekWayOut_34
      rw [sV.1, nI_clamp (show i < 2 ^ 31 by omega), t2, nI_clamp (show t < 2 ^ 31 by omega), hlV.2.2.2.2.2.1, hlV.2.2.2.2.2.2.2]
      exact ⟨fun z => absurd z (nI_ge (by omega) (by omega)), fun _ => ⟨vp_in_nI (by omega) (by omega), vp_in_nI (by omega) (by omega), fun _ => nxt V fV sV, fun _ => ⟨vp_in_nI (by omega) (by omega), nxt _ (fV.ca _ rfl) sV⟩⟩⟩
  exact key _ 0 (Nat.zero_add _) U (fSU.mono (fun _ q => q) lB_ok) hU
theorem kA_nn {S T U : CS} (h1 : CFr jA kB kC S T) (h2 : CFr kA kB nn T U) : CFr jA kB kC S U := h1.tr (h2.mono kA_j (fun _ q => q))
/-- find(), where nothing was found yet -/
theorem w_find (l : Launch) {mc ms : Nat} (hy : CY S n P kd ct sc) (hz : ∀ a, a < 5 → ct (5 * a + a) = 0) (h17 : S.1 17 = 0) (hl : KL S LK) (hK : LK ≤ 20000) (hN : P ^ n ≤ 20000) (hb : LK < P ^ n → 8 ≤ mc ∧ 8 * P ^ n ≤ ms) (post : CS → Prop) (hp : ∀ T, CFr jA kB kC S T → KL T (max LK (P ^ n)) → T.1 17 = 1 → KOK T n P kd ct sc → post T) : cX_X2_find l mc ms S post := by
  have hP2 := hy.2.2.2.1
  refine c_X2_find l mc ms S post ?_
  intro B23 B60 B68 B93 h23 h60 h68 h93
  unfold cT_X2_find_e
  refine ⟨fun _ => ⟨mc, ms, by omega, by omega, ?_⟩, fun c => absurd h17 c⟩
  have f0 : CFr jA kB kC S (cf S 17 1) := CFr.rf.cf _ rfl
  rw [hy.2.2.1]
  refine k_prepK l (S := cf S 17 1) (LK := LK) hl hK hN hb _ (fun T fT hT hr t14 t15 t16 t18 => ?_)
  have hT1 : T.1 17 = 1 := by rw [fT.1 17 rfl]; exact cf_get _ _ _
  have hM : max LK (P ^ n) ≤ 20000 := by omega
  have hM2 : P ^ n ≤ max LK (P ^ n) := by omega
  have second : ∀ e i, i + e = P ^ n → ∀ V m, CFr jA kB kC S V → KL V (max LK (P ^ n)) → V.1 17 = 1 → m ≤ P ^ n → V.1 18 = nI m → (∀ x, x < P ^ n → V.2.1 35 x = -1 ∨ ∃ k, k < m ∧ V.2.1 35 x = nI k) → B68 (0 + mc) (0 + ms) V (nI i) := by
    intro e
    induction e with
    | zero =>
      intro i hi V m fV hV v17 hm v18 v35
      refine h68 _ _ _ _ ?_
      unfold cT_X2_find_68
      have hyV := hy.fr fV
      rw [hyV.2.2.1]
      exact ⟨fun _ => ⟨by omega, by omega, hp V fV hV v17 ⟨m, hm, v18, v35⟩⟩, fun z => absurd (nI_le (by omega) (by omega)) z⟩
    | succ e ih =>
      intro i hi V m fV hV v17 hm v18 v35
      have hyV := hy.fr fV
      have nxt : ∀ W, CFr lA okB nn V W → B93 (0 + mc) (0 + ms) W (nI i) := by
        intro W fW
        refine h93 _ _ _ _ ?_
        unfold cT_X2_find_93
        rw [← nI_succ]
        refine ih (i + 1) (by omega) W m (kA_nn fV (fW.mono lA_k okB_k)) (hV.nn fW) ?_ hm ?_ ?_
        · rw [fW.1 17 rfl]; exact v17
        · rw [fW.1 18 rfl]; exact v18
        · rw [(fW.2.1 35 rfl).1]; exact v35
      refine h68 _ _ _ _ ?_
      unfold cT_X2_find_68
      rw [hyV.2.2.1, nI_clamp (show i < 2 ^ 31 by omega), hV.2.2.2.2.2.1]
      refine ⟨fun z => absurd z (nI_ge (by omega) (by omega)), fun _ => ⟨vp_in_nI (by omega) (by omega), fun _ => nxt V CFr.rf, fun c => ⟨by omega, by omega, ?_⟩⟩⟩
      rcases v35 i (by omega) with q | ⟨k, k1, k2⟩
      · exact absurd q c
      · exact w_seek l hyV hz hV hM2 hM (by omega) (by omega) k2 _ (fun W fW => nxt W fW)
  have first : ∀ e i, i + e = P ^ n → ∀ V q d p m, CFr jA kB kC S V → KL V (max LK (P ^ n)) → V.1 17 = 1 → WI V (P ^ n) q d p m → B23 (0 + mc) (0 + ms) V (nI i) := by
    intro e
    induction e with
    | zero =>
      intro i hi V q d p m fV hV v17 wV
      have hyV := hy.fr fV
      refine h23 _ _ _ _ ?_
      unfold cT_X2_find_23
      rw [hyV.2.2.1]
      refine ⟨fun _ => ?_, fun z => absurd (nI_le (by omega) (by omega)) z⟩
      obtain ⟨g1, g2, g3, g4, g5, g6, g7, g8, g9, g10⟩ := wV
      have hq0 := cntP_le (fun x => decide (V.2.1 30 x ≠ 0)) (P ^ n)
      rw [g5] at hq0
      exact second (P ^ n) 0 (Nat.zero_add _) V m fV hV v17 (by omega) g4 g10
    | succ e ih =>
      intro i hi V q d p m fV hV v17 wV
      have hyV := hy.fr fV
      have nxt : ∀ W q d p m, CFr kA kB nn V W → W.1 17 = 1 → WI W (P ^ n) q d p m → B60 (0 + mc) (0 + ms) W (nI i) := by
        intro W q d p m fW w17 wW
        refine h60 _ _ _ _ ?_
        unfold cT_X2_find_60
        rw [← nI_succ]
        exact ih (i + 1) (by omega) W q d p m (kA_nn fV fW) (hV.nn fW) w17 wW
      refine h23 _ _ _ _ ?_
      unfold cT_X2_find_23
      rw [hyV.2.2.1, nI_clamp (show i < 2 ^ 31 by omega), hV.1]
      refine ⟨fun z => absurd z (nI_ge (by omega) (by omega)), fun _ => ⟨vp_in_nI (by omega) (by omega), fun _ => nxt V q d p m CFr.rf v17 wV, fun c => ⟨by omega, by omega, ?_⟩⟩⟩
      refine k_read l hyV (show i < P ^ n by omega) _ (fun W fW hW => ⟨fun _ => nxt W q d p m (fW.mono lA_k lB_k) (by rw [fW.1 17 rfl]; exact v17) (wV.look fW), fun _ => ⟨by omega, by omega, ?_⟩⟩)
      refine w_walk l (hyV.fr fW) hz (wV.look fW) (hV.nn fW) hM2 hM (by omega) (by rw [(fW.2.1 30 rfl).1]; exact c) _ (fun X q d p m fX wX => ?_)
      exact nxt X q d p m ((fW.mono lA_k lB_k).tr fX) (by rw [fX.1 17 rfl, fW.1 17 rfl]; exact v17) wX
  refine first (P ^ n) 0 (Nat.zero_add _) T 0 0 0 0 (f0.tr (fT.mono kA_j (fun _ q => q))) hT hT1 ⟨t14, t15, t16, t18, ?_, by omega, by omega, fun i hi => absurd hi (Nat.not_lt_zero _), fun i hi => absurd hi (Nat.not_lt_zero _), fun x hx => Or.inl (hr x hx).2.1⟩
  have := cntP_congr (p := fun x => decide (T.2.1 30 x ≠ 0)) (q := fun _ => false) (P ^ n) (fun x hx => decide_eq_false (fun c => c (hr x hx).1))
  rw [this]
  have z : ∀ k, cntP (fun _ => false) k = 0 := by
    intro k
    induction k with
    | zero => rfl
    | succ k ih => unfold cntP; rw [ih]; rfl
  exact z _
end FindC
