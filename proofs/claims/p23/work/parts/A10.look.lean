/-- the look at a stand σ with the number x, from disc d on -/
def LKd (T : CS) (n P : Nat) (kd σ : Nat → Nat) (x d : Nat) : Prop :=
  (∀ j, d ≤ j → j < n → T.2.1 13 j = nI (σ j)) ∧
  (∀ p, p < 5 → (tpN σ p (n - d) d < n → T.2.1 14 p = nI (tpN σ p (n - d) d) ∧ T.2.1 15 p = nI (pkE kd σ n (tpN σ p (n - d) d)) ∧ T.2.1 16 p = nI (ldF P (tpN σ p (n - d) d) (pkE kd σ n (tpN σ p (n - d) d) + 1 - tpN σ p (n - d) d))) ∧ (¬ tpN σ p (n - d) d < n → T.2.1 14 p = -1)) ∧
  T.1 8 = bI (rightN kd σ n (n - d) d) ∧ T.1 7 = nI x
theorem LKd.fr {T U : CS} {n P : Nat} {kd σ : Nat → Nat} {x d : Nat} (h : LKd T n P kd σ x d) (f : CFr sA sB nn T U) : LKd U n P kd σ x d := by
  unfold LKd
  rw [f.1 8 rfl, f.1 7 rfl, (f.2.1 13 rfl).1, (f.2.1 14 rfl).1, (f.2.1 15 rfl).1, (f.2.1 16 rfl).1]
  exact h
set_option maxHeartbeats 1000000 in
theorem k_lay (l : Launch) {S : CS} {n P : Nat} {kd ct sg σ : Nat → Nat} (hy : CY S n P kd ct sg) {x d : Nat} (hd : d < n) (hσ : σ d < 5) (h13 : S.2.1 13 d = nI (σ d)) (h : LKd S n P kd σ x (d + 1)) (post : CS → Prop) (hp : ∀ T, CFr lA lB nn S T → LKd T n P kd σ x d → post T) : cX_X3_lay l S (nI d) (nI (σ d)) post := by
  obtain ⟨yP, yn, yN, yP2, yn2, yw, ykd, yct, ysg⟩ := hy
  obtain ⟨k13, ktp, krt, kx⟩ := h
  refine c_X3_lay l S _ _ post ?_
  intro B73 B92 h73 h92
  have hw := yw d hd
  have kdd := ykd d (by omega)
  have hb := tpN_le σ (σ d) (n - (d + 1)) (d + 1)
  -- behind 92
  have fin : ∀ (T : CS) (x6 : Int32), CFr lA lB nn S T → T.2.1 13 = S.2.1 13 → T.2.1 14 = S.2.1 14 → (∀ p, p ≠ σ d → T.2.1 15 p = S.2.1 15 p ∧ T.2.1 16 p = S.2.1 16 p) → T.2.1 15 (σ d) = nI (pkE kd σ n d) → T.2.1 16 (σ d) = nI (ldF P d (pkE kd σ n d + 1 - d)) → T.1 8 = S.1 8 → T.1 7 = S.1 7 → (x6 = 2 ↔ (tpN σ (σ d) (n - (d + 1)) (d + 1) < n ∧ kd (tpN σ (σ d) (n - (d + 1)) (d + 1)) = 2)) → B92 T (nI (kd d)) x6 := by
    intro T x6 f t13 t14 tne t15 t16 t8 t7 hx6
    refine h92 _ _ _ ?_
    unfold cT_X3_lay_92
    rw [nI_clamp (show σ d < 2 ^ 31 by omega)]
    have hin : vp_in (nI (σ d)) 5 := vp_in_nI hσ (by omega)
    have rest : ∀ U : CS, CFr lA lB nn S U → U.2.1 = T.2.1 → U.1 7 = T.1 7 → U.1 8 = bI (rightN kd σ n (n - d) d) → post (ca U 14 (upd (U.2.1 14) (σ d) (nI d))) := by
      intro U fU uT u7 u8
      refine hp _ (fU.ca _ rfl) ⟨fun j h1 h2 => ?_, fun p h5 => ?_, u8, u7.trans (t7.trans kx)⟩
      · rw [ca_get_ne _ _ (by decide), uT, t13]
        by_cases e : j = d
        · rw [e]; exact h13
        · exact k13 j (by omega) h2
      · rw [ca_get, ca_get_ne _ _ (by decide), ca_get_ne _ _ (by decide), uT, tpN_at hd]
        by_cases e : σ d = p
        · rw [if_pos e]
          subst e
          exact ⟨fun _ => ⟨upd_same _ _ _, t15, t16⟩, fun q => absurd hd q⟩
        · rw [if_neg e, upd_other _ _ (fun q => e q.symm), t14, (tne p (fun q => e q.symm)).1, (tne p (fun q => e q.symm)).2]
          exact ktp p h5
    have hr : rightN kd σ n (n - d) d = (okD kd σ n d && rightN kd σ n (n - (d + 1)) (d + 1)) := by
      rw [show n - d = (n - (d + 1)) + 1 by omega]
      rfl
    refine ⟨fun c => ⟨hin, ?_⟩, fun c => ⟨fun c2 => ⟨hin, ?_⟩, fun c2 => ⟨hin, ?_⟩⟩⟩
    · refine rest T f rfl rfl ?_
      have ho : okD kd σ n d = true := by
        unfold okD
        by_cases q1 : tpN σ (σ d) (n - (d + 1)) (d + 1) < n
        · have q2 : ¬ kd (tpN σ (σ d) (n - (d + 1)) (d + 1)) = 2 := fun q => c (hx6.mpr ⟨q1, q⟩)
          simp [q2]
        · simp [q1]
      rw [hr, ho, Bool.true_and, t8]
      exact krt
    · refine rest T f rfl rfl ?_
      have c2 : kd d = 2 := (nI_is 2 rfl (by omega) (by omega)).mp c2
      have ho : okD kd σ n d = true := by unfold okD; simp [c2]
      rw [hr, ho, Bool.true_and, t8]
      exact krt
    · refine rest (cf T 8 0) (f.cf _ rfl) rfl rfl ?_
      have c2 : ¬ kd d = 2 := fun q => c2 (by rw [q]; rfl)
      have c1 := hx6.mp c
      have ho : okD kd σ n d = false := by unfold okD; simp [c1.1, c1.2, c2]
      rw [hr, ho, Bool.false_and]
      exact cf_get _ _ _
  -- behind 73: a pack of its own
  have own : pkE kd σ n d = d → ∀ x6 : Int32, (x6 = 2 ↔ (tpN σ (σ d) (n - (d + 1)) (d + 1) < n ∧ kd (tpN σ (σ d) (n - (d + 1)) (d + 1)) = 2)) → B73 S (nI (kd d)) x6 := by
    intro hpk x6 hx6
    refine h73 _ _ _ ?_
    unfold cT_X3_lay_73
    rw [nI_clamp (show σ d < 2 ^ 31 by omega), nI_clamp (show d < 2 ^ 31 by omega), hw]
    refine ⟨vp_in_nI hσ (by omega), vp_in_nI (by omega) (by omega), vp_in_nI hσ (by omega), fin _ _ ((CFr.rf.ca _ rfl).ca _ rfl) rfl rfl (fun p q => ?_) ?_ ?_ rfl rfl hx6⟩
    · rw [ca_get_ne _ _ (by decide), ca_get, ca_get, upd_other _ _ q, upd_other _ _ q]
      exact ⟨rfl, rfl⟩
    · rw [ca_get_ne _ _ (by decide), ca_get, upd_same, hpk]
    · rw [ca_get, upd_same, hpk, show d + 1 - d = 1 by omega]
      simp [ldF]
  unfold cT_X3_lay_e
  rw [nI_clamp (show d < 2 ^ 31 by omega), nI_clamp (show σ d < 2 ^ 31 by omega)]
  refine ⟨vp_in_nI (by omega) (by omega), fun v4 e4 => ⟨vp_in_nI hσ (by omega), fun v5 e5 => ?_⟩⟩
  rw [kdd.1] at e4
  subst e4
  have kt := ktp (σ d) hσ
  by_cases hlt : tpN σ (σ d) (n - (d + 1)) (d + 1) < n
  · have kt := kt.1 hlt
    have hhit : σ (tpN σ (σ d) (n - (d + 1)) (d + 1)) = σ d := tpN_hit σ (σ d) _ _ (by omega)
    have hx6 : (nI (kd (tpN σ (σ d) (n - (d + 1)) (d + 1))) = 2 ↔ (tpN σ (σ d) (n - (d + 1)) (d + 1) < n ∧ kd (tpN σ (σ d) (n - (d + 1)) (d + 1)) = 2)) := by
      have := (ykd (tpN σ (σ d) (n - (d + 1)) (d + 1)) (by omega)).2
      exact ⟨fun q => ⟨hlt, (nI_is 2 rfl (by omega) (by omega)).mp q⟩, fun q => by rw [q.2]; rfl⟩
    generalize htp : tpN σ (σ d) (n - (d + 1)) (d + 1) = t at *
    rw [kt.1] at e5
    subst e5
    have kdt := ykd t (by omega)
    have hne : ¬ (t = d + 1 ∧ kd d = 3 ∧ kd t = 3) → pkE kd σ n d = d := by
      intro q
      refine pkE_stop hd (fun w => q ?_)
      have e1 : t = d + 1 := by
        rw [← htp]
        by_cases c : d + 1 < n
        · rw [show n - (d + 1) = (n - (d + 2)) + 1 by omega]
          unfold tpN
          rw [if_pos w.2.2.2]
        · omega
      exact ⟨e1, w.1, by rw [e1]; exact w.2.2.1⟩
    refine ⟨fun _ => ⟨vp_in_nI (by omega) (by omega), fun v6 e6 => ?_⟩, fun q => absurd q (nI_m1 (by omega))⟩
    rw [nI_clamp (show t < 2 ^ 31 by omega), kdt.1] at e6
    subst e6
    rw [show nI d + 1 = nI (d + 1) from (nI_succ d).symm]
    refine ⟨fun c => own (hne fun q => c (by rw [q.1])) _ hx6, fun c => ⟨fun c2 => own (hne fun q => c2 (by rw [q.2.1]; rfl)) _ hx6, fun c2 => ⟨fun c3 => own (hne fun q => c3 (by rw [q.2.2]; rfl)) _ hx6, fun c3 => ?_⟩⟩⟩
    have c : t = d + 1 := (nI_eq (by omega) (by omega)).mp c
    have c2 : kd d = 3 := (nI_is 3 rfl (by omega) (by omega)).mp c2
    have c3 : kd t = 3 := (nI_is 3 rfl (by omega) (by omega)).mp c3
    have hpk : pkE kd σ n d = pkE kd σ n t := by rw [c]; exact pkE_step c2 (by omega) (by rw [← c]; exact c3) (by rw [← c]; exact hhit)
    have hgt := pkE_lt (kd := kd) (σ := σ) hlt
    refine ⟨vp_in_nI hσ (by omega), vp_in_nI (by omega) (by omega), vp_in_nI hσ (by omega), fin _ _ (CFr.rf.ca _ rfl) rfl rfl (fun p q => ?_) ?_ ?_ rfl rfl hx6⟩
    · rw [ca_get_ne _ _ (by decide), ca_get, upd_other _ _ q]
      exact ⟨rfl, rfl⟩
    · rw [ca_get_ne _ _ (by decide), kt.2.1, hpk]
    · rw [ca_get, upd_same, kt.2.2, hw, nI_add, hpk]
      rw [show pkE kd σ n t + 1 - d = (pkE kd σ n t + 1 - t) + 1 by omega]
      show _ = nI (P ^ d + ldF P (d + 1) _)
      rw [← c, Nat.add_comm]
  · have kt := kt.2 hlt
    have hx6 : ((0 : Int32) = 2 ↔ (tpN σ (σ d) (n - (d + 1)) (d + 1) < n ∧ kd (tpN σ (σ d) (n - (d + 1)) (d + 1)) = 2)) := ⟨fun q => absurd q (by decide), fun q => absurd q.1 hlt⟩
    have hpk : pkE kd σ n d = d := by
      refine pkE_stop hd (fun w => hlt ?_)
      rw [show n - (d + 1) = (n - (d + 2)) + 1 by omega]
      unfold tpN
      rw [if_pos w.2.2.2]
      exact w.2.1
    rw [kt] at e5
    subst e5
    rw [show nI d + 1 = nI (d + 1) from (nI_succ d).symm]
    exact ⟨fun q => absurd rfl q, fun _ => ⟨fun _ => own hpk _ hx6, fun q => absurd q.symm (nI_m1 (by omega))⟩⟩
theorem k_read (l : Launch) {S : CS} {n P : Nat} {kd ct sg : Nat → Nat} (hy : CY S n P kd ct sg) {x : Nat} (hx : x < P ^ n) (post : CS → Prop) (hp : ∀ T, CFr lA lB nn S T → LKd T n P kd (dgs P x) x 0 → post T) : cX_X3_read l S (nI x) post := by
  have hy0 := hy
  obtain ⟨yP, yn, yN, yP2, yn2, yw, ykd, yct, ysg⟩ := hy
  refine c_X3_read l S _ post ?_
  intro B28 B45 B73 h28 h45 h73
  unfold cT_X3_read_e
  have hpb := pow_b yP2 yn2.2
  have key : ∀ d, d ≤ n → ∀ T, CFr lA lB nn S T → LKd T n P kd (dgs P x) x d → B28 T (nI (x % P ^ d)) (nI d - 1) := by
    intro d
    induction d with
    | zero =>
      intro _ T fT hT
      refine h28 _ _ _ ?_
      unfold cT_X3_read_28
      exact ⟨fun _ => hp T fT hT, fun q => absurd (by decide) q⟩
    | succ d ih =>
      intro hd T fT hT
      have hyT := hy0.fr fT
      have hq5 : dgs P x d < P := dgs_lt (by omega) x d
      have hPd : P ^ (d + 1) ≤ P ^ n := Nat.pow_le_pow_right (by omega) hd
      have hPd1 : 0 < P ^ d := Nat.pow_pos (by omega)
      refine h28 _ _ _ ?_
      unfold cT_X3_read_28
      rw [nI_pred, nI_clamp (show d < 2 ^ 31 by omega), hyT.2.2.2.2.2.1 d (by omega)]
      refine ⟨fun q => absurd q (nI_pos (by omega)), fun _ => ⟨vp_in_nI (by omega) (by omega), fun v5 e5 => ?_⟩⟩
      subst e5
      obtain ⟨r, hr⟩ : ∃ r, r = x % P ^ (d + 1) := ⟨_, rfl⟩
      rw [← hr]
      have hrl : r < P ^ (d + 1) := by rw [hr]; exact Nat.mod_lt _ (Nat.pow_pos (by omega))
      have hrq : r / P ^ d = dgs P x d := by
        rw [hr, Nat.pow_succ, Nat.mod_mul_right_div_self]; rfl
      have hrm : r % P ^ d = x % P ^ d := by rw [hr, Nat.pow_succ, Nat.mod_mul_right_mod]
      have hdm : r = dgs P x d * P ^ d + r % P ^ d := by
        rw [← hrq, Nat.mul_comm]; exact (Nat.div_add_mod r (P ^ d)).symm
      have hml : r % P ^ d < P ^ d := Nat.mod_lt _ hPd1
      have hge : dgs P x d * P ^ d ≤ r := by
        have := Nat.le_add_right (dgs P x d * P ^ d) (r % P ^ d)
        rw [← hdm] at this
        exact this
      have hPd0 : P ^ d ≤ P ^ n := Nat.pow_le_pow_right (by omega) (by omega)
      have e73 : B73 T (nI (r - dgs P x d * P ^ d)) (nI d) (nI (dgs P x d)) := by
        refine h73 _ _ _ _ ?_
        unfold cT_X3_read_73
        refine ⟨vp_in_nI (by omega) (by omega), ?_⟩
        rw [nI_clamp (show d < 2 ^ 31 by omega)]
        have f2 : CFr lA lB nn S (ca T 13 (upd (T.2.1 13) d (nI (dgs P x d)))) := fT.ca _ rfl
        refine k_lay l (hy0.fr f2) (σ := dgs P x) (x := x) (by omega) (by omega) (by rw [ca_get, upd_same]) ?_ _ (fun U fU hU => ?_)
        · obtain ⟨a1, a2, a3, a4⟩ := hT
          refine ⟨fun j h1 h2 => ?_, a2, a3, a4⟩
          rw [ca_get, upd_other _ _ (by omega)]
          exact a1 j h1 h2
        · rw [i_sub1, show r - dgs P x d * P ^ d = x % P ^ d by omega]
          exact ih (by omega) U (f2.tr fU) hU
      have e45 : ∀ k p, p + k = dgs P x d → B45 T (nI (r - p * P ^ d)) (nI d) (nI (P ^ d)) (nI p) := by
        intro k
        induction k with
        | zero =>
          intro p hpq
          have : p = dgs P x d := by omega
          subst this
          refine h45 _ _ _ _ _ ?_
          unfold cT_X3_read_45
          refine ⟨fun _ => e73, fun _ => ⟨fun _ => e73, fun q => absurd (nI_lt ?_ ?_) q⟩⟩
          · omega
          · omega
        | succ k ihk =>
          intro p hpq
          have hmm : (p + 1) * P ^ d ≤ dgs P x d * P ^ d := Nat.mul_le_mul_right _ (by omega)
          rw [Nat.succ_mul] at hmm
          refine h45 _ _ _ _ _ ?_
          unfold cT_X3_read_45
          rw [hyT.1]
          obtain ⟨P', hP'⟩ : ∃ P', P = P' + 1 := ⟨P - 1, by omega⟩
          rw [show nI P - 1 = nI (P - 1) by rw [hP', nI_pred]; rfl]
          refine ⟨fun q => absurd q (nI_ge (by omega) (by omega)), fun _ => ⟨fun q => absurd q (nI_nlt (by omega) (by omega)), fun _ v e => ?_⟩⟩
          rw [pk_sub (by omega)] at e
          rw [e, ← nI_succ, show r - p * P ^ d - P ^ d = r - (p + 1) * P ^ d by rw [Nat.succ_mul]; omega]
          exact ihk (p + 1) (by omega)
      have := e45 (dgs P x d) 0 (by omega)
      rw [Nat.zero_mul, Nat.sub_zero] at this
      exact this
  intro v e
  rw [yn] at e
  rw [e]
  have h1 : CFr lA lB nn S (ca (cf (cf S 7 (nI x)) 8 1) 14 (filI (S.2.1 14) 5 (-1))) := ((CFr.rf.cf _ rfl).cf _ rfl).ca _ rfl
  have := key n (Nat.le_refl n) _ h1 ?_
  · rw [Nat.mod_eq_of_lt hx] at this
    exact this
  · refine ⟨fun j h1 h2 => absurd h2 (by omega), fun p hp5 => ?_, ?_, ?_⟩
    · rw [Nat.sub_self]
      refine ⟨fun q => absurd q (by simp [tpN]), fun _ => ?_⟩
      rw [ca_get]
      unfold filI
      rw [if_pos hp5]
    · rw [Nat.sub_self]
      show va_up (va_up S.1 7 (nI x)) 8 1 8 = _
      rw [va_up_same]; rfl
    · show va_up (va_up S.1 7 (nI x)) 8 1 7 = _
      rw [va_up_other _ _ (by decide), va_up_same]
/-- the look at the stand x -/
abbrev LK (T : CS) (n P : Nat) (kd : Nat → Nat) (x : Nat) : Prop := LKd T n P kd (dgs P x) x 0
theorem LK.top {T : CS} {n P : Nat} {kd : Nat → Nat} {x : Nat} (h : LK T n P kd x) {p : Nat} (hp : p < 5) (ht : topN (dgs P x) p n < n) : T.2.1 14 p = nI (topN (dgs P x) p n) ∧ T.2.1 15 p = nI (pkE kd (dgs P x) n (topN (dgs P x) p n)) ∧ T.2.1 16 p = nI (ldF P (topN (dgs P x) p n) (pkE kd (dgs P x) n (topN (dgs P x) p n) + 1 - topN (dgs P x) p n)) := (h.2.1 p hp).1 ht
theorem LK.bare {T : CS} {n P : Nat} {kd : Nat → Nat} {x : Nat} (h : LK T n P kd x) {p : Nat} (hp : p < 5) (ht : topN (dgs P x) p n = n) : T.2.1 14 p = -1 := (h.2.1 p hp).2 (by show ¬ topN (dgs P x) p n < n; omega)
theorem ix5 {a b : Nat} : nI a * 5 + nI b = nI (5 * a + b) := by
  rw [show (5 : Int32) = nI 5 from rfl, pk_mul, nI_add, Nat.mul_comm]
theorem k_hind (l : Launch) {S : CS} {n P : Nat} {kd ct sg : Nat → Nat} (hy : CY S n P kd ct sg) {x : Nat} (hk : LK S n P kd x) {a b : Nat} (ha : a < 5) (hb : b < 5) (post : Int32 → CS → Prop) (h : post (nI (whyN n kd ct sg (dgs P x) a b)) S) : cX_X3_hindrance l S (nI a) (nI b) post := by
  obtain ⟨yP, yn, yN, yP2, yn2, yw, ykd, yct, ysg⟩ := hy
  refine c_X3_hindrance l S _ _ post ?_
  intro B52 B67 h52 h67
  unfold cT_X3_hindrance_e
  rw [ix5, nI_clamp (show 5 * a + b < 2 ^ 31 by omega), nI_clamp (show a < 2 ^ 31 by omega)]
  have c0 := yct (5 * a + b) (by omega)
  have g0 := ysg (5 * a + b) (by omega)
  have i25 : vp_in (nI (5 * a + b)) 25 := vp_in_nI (by omega) (by omega)
  have ia : vp_in (nI a) 5 := vp_in_nI ha (by omega)
  have ib : vp_in (nI b) 5 := vp_in_nI hb (by omega)
  have hle := topN_le (dgs P x) a n
  have hle2 := topN_le (dgs P x) b n
  rw [c0.1]
  refine ⟨i25, fun c => ⟨ia, fun c2 => ⟨ia, ?_⟩, fun c2 => ?_⟩, fun c => ?_⟩
  · have c1 : ¬ ct (5 * a + b) = 0 := fun q => c (by rw [q]; rfl)
    have hd : topN (dgs P x) a n < n := by
      rcases Nat.lt_or_ge (topN (dgs P x) a n) n with q | q
      · exact q
      · exact absurd (hk.bare ha (by omega)) c2
    obtain ⟨t1, t2, t3⟩ := hk.top ha hd
    have hg := pkE_lt (kd := kd) (σ := dgs P x) hd
    have hgk := pkE_kd (kd := kd) (σ := dgs P x) hd
    rw [t2]
    generalize hge : pkE kd (dgs P x) n (topN (dgs P x) a n) = g at hg hgk t2 ⊢
    have kg := ykd g (by omega)
    refine ⟨vp_in_nI (by omega) (by omega), fun v4 e4 => ?_⟩
    rw [nI_clamp (show g < 2 ^ 31 by omega), kg.1] at e4
    subst e4
    have b67 : ¬ ((kd (topN (dgs P x) a n) = 1 ∨ kd (topN (dgs P x) a n) = 2) ∧ sg (5 * a + b) = 0) → B67 S (nI (kd g)) := fun c3 => by
      refine h67 _ _ ?_
      unfold cT_X3_hindrance_67
      rw [nI_clamp (show b < 2 ^ 31 by omega), nI_clamp (show a < 2 ^ 31 by omega), t2]
      refine ⟨ib, fun v5 e5 => ?_⟩
      have hw : whyN n kd ct sg (dgs P x) a b = if topN (dgs P x) b n = n then 0 else if topN (dgs P x) b n < g then 4 else if kd (topN (dgs P x) b n) = 2 ∧ kd g ≠ 2 then 5 else 0 := by
        unfold whyN
        rw [if_neg c1, if_neg (by omega), if_neg c3, hge]
      by_cases ht : topN (dgs P x) b n < n
      · rw [(hk.top hb ht).1] at e5
        subst e5
        rw [if_neg (by omega)] at hw
        have kt := ykd (topN (dgs P x) b n) (by omega)
        refine ⟨fun _ => ⟨ia, fun c4 => ⟨vp_in_nI (by omega) (by omega), ?_⟩, fun c4 => ?_⟩, fun q => absurd q (nI_m1 (by omega))⟩
        · have c4 : g ≤ topN (dgs P x) b n := (nI_leI (by omega) (by omega)).mp c4
          rw [if_neg (by omega)] at hw
          rw [nI_clamp (show topN (dgs P x) b n < 2 ^ 31 by omega), kt.1]
          refine ⟨fun c5 => ?_, fun c5 => ⟨fun c6 => ?_, fun c6 => ?_⟩⟩
          · rw [if_neg (fun q => c5 (by rw [q.1]; rfl))] at hw
            rw [hw] at h; exact h
          · have c6 : kd g = 2 := (nI_is 2 rfl (by omega) (by omega)).mp c6
            rw [if_neg (fun q => q.2 c6)] at hw
            rw [hw] at h; exact h
          · have c5 : kd (topN (dgs P x) b n) = 2 := (nI_is 2 rfl (by omega) (by omega)).mp c5
            rw [if_pos ⟨c5, fun q => c6 (by rw [q]; rfl)⟩] at hw
            rw [hw] at h; exact h
        · have c4 : topN (dgs P x) b n < g := by
            rcases Nat.lt_or_ge (topN (dgs P x) b n) g with q | q
            · exact q
            · exact absurd (nI_le q (by omega)) c4
          rw [if_pos c4] at hw
          rw [hw] at h; exact h
      · rw [hk.bare hb (by omega)] at e5
        subst e5
        rw [if_pos (by omega)] at hw
        refine ⟨fun q => absurd rfl q, fun _ => ?_⟩
        rw [hw] at h; exact h
    have b52 : (kd (topN (dgs P x) a n) = 1 ∨ kd (topN (dgs P x) a n) = 2) → B52 S (nI (kd g)) := fun c3 => by
      refine h52 _ _ ?_
      unfold cT_X3_hindrance_52
      rw [ix5, nI_clamp (show 5 * a + b < 2 ^ 31 by omega), g0.1]
      refine ⟨i25, fun c4 => b67 (fun q => c4 (by rw [q.2]; rfl)), fun c4 => ?_⟩
      have c4 : sg (5 * a + b) = 0 := (nI_is 0 rfl (by omega) (by omega)).mp c4
      have hw : whyN n kd ct sg (dgs P x) a b = 3 := by
        unfold whyN
        rw [if_neg c1, if_neg (by omega), if_pos ⟨c3, c4⟩]
      rw [hw] at h; exact h
    refine ⟨fun c3 => b52 ?_, fun c3 => ⟨fun c4 => b67 ?_, fun c4 => b52 ?_⟩⟩
    · rw [← hgk]; exact Or.inl ((nI_is 1 rfl (by omega) (by omega)).mp c3)
    · rintro ⟨q | q, -⟩
      · exact c3 (by rw [hgk, q]; rfl)
      · exact c4 (by rw [hgk, q]; rfl)
    · rw [← hgk]; exact Or.inr ((nI_is 2 rfl (by omega) (by omega)).mp c4)
  · have c1 : ¬ ct (5 * a + b) = 0 := fun q => c (by rw [q]; rfl)
    have hd : topN (dgs P x) a n = n := by
      rcases Nat.lt_or_ge (topN (dgs P x) a n) n with q | q
      · rw [(hk.top ha q).1] at c2
        exact absurd c2 (nI_m1 (by omega))
      · omega
    have hw : whyN n kd ct sg (dgs P x) a b = 2 := by
      unfold whyN
      rw [if_neg c1, if_pos hd]
    rw [hw] at h; exact h
  · have c1 : ct (5 * a + b) = 0 := (nI_is 0 rfl (by omega) (by omega)).mp c
    have hw : whyN n kd ct sg (dgs P x) a b = 1 := by unfold whyN; rw [if_pos c1]
    rw [hw] at h; exact h
theorem i32_land {x a b L t : Int32} (h : t + a * L = x + b * L) : x + (b - a) * L = t := by grind
theorem k_land (l : Launch) {S : CS} {n P : Nat} {kd : Nat → Nat} {x : Nat} (hx : x < P ^ n) (hk : LK S n P kd x) {a b : Nat} (ha : a < 5) (ht : topN (dgs P x) a n < n) (post : Int32 → CS → Prop) (h : post (nI (packN (movN n kd (dgs P x) a b) P n 0)) S) : cX_X3_landing l S (nI a) (nI b) post := by
  refine c_X3_landing l S _ _ post ?_
  unfold cT_X3_landing_e
  rw [nI_clamp (show a < 2 ^ 31 by omega), hk.2.2.2, (hk.top ha ht).2.2]
  refine ⟨vp_in_nI ha (by omega), ?_⟩
  have e := mov_num (kd := kd) (a := a) (b := b) hx ht
  rw [i32_land (t := nI (packN (movN n kd (dgs P x) a b) P n 0)) (by rw [pk_mul, nI_add, e, pk_mul, nI_add])]
  exact h
theorem k_size (l : Launch) {S : CS} {n P : Nat} {kd : Nat → Nat} {x : Nat} (hk : LK S n P kd x) {a : Nat} (ha : a < 5) (ht : topN (dgs P x) a n < n) (post : Int32 → CS → Prop) (h : post (nI (pkE kd (dgs P x) n (topN (dgs P x) a n) - topN (dgs P x) a n + 1)) S) : cX_X3_packSize l S (nI a) post := by
  refine c_X3_packSize l S _ post ?_
  unfold cT_X3_packSize_e
  have hg := pkE_lt (kd := kd) (σ := dgs P x) ht
  rw [nI_clamp (show a < 2 ^ 31 by omega), (hk.top ha ht).2.1, (hk.top ha ht).1, pk_sub hg.1, nI_1]
  exact ⟨vp_in_nI ha (by omega), vp_in_nI ha (by omega), h⟩
