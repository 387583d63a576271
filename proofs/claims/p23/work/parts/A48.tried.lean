-- tried(), failed()
def trA2 : Nat → Bool := fun k => trA k || decide (k = 2)
theorem trA_2 (k : Nat) (h : trA2 k = false) : trA k = false := by
  unfold trA2 at h
  rw [Bool.or_eq_false_iff] at h; exact h.1
def tnA : Nat → Bool := fun k => decide (k = 2) || decide (k = 3) || decide (k = 10)
def tnB : Nat → Bool := fun k => decide (k = 8) || decide (k = 26) || (decide (34 ≤ k) && decide (k ≤ 37))
theorem tmA_n (k : Nat) (h : tnA k = false) : tmA k = false := by
  unfold tnA at h
  rw [Bool.or_eq_false_iff] at h; exact h.2
theorem tmB_n (k : Nat) (h : tnB k = false) : tmB k = false := by
  simp only [tnB, tmB, Bool.or_eq_false_iff, Bool.and_eq_false_iff, decide_eq_false_iff_not] at *
  omega
theorem MFx.mono {a b a' b' : Nat → Bool} {S T : MS} (h : MFx a b S T) (ha : ∀ k, a' k = false → a k = false) (hb : ∀ k, b' k = false → b k = false) : MFx a' b' S T := ⟨fun k hk => h.1 k (ha k hk), fun k hk => h.2 k (hb k hk)⟩
section Tri
variable {S : CS} {M : MS} {n P x y : Nat} {kd ct sc sm : Nat → Nat} {q : Nat} {w : Nat → Nat} {of : Nat → Option Nat} {le ro : Nat → Nat}
theorem Rl.tri {T : CS} {N : MS} (h : Rl S M n P kd ct sc sm x y) (fT : CFr trA2 trB nn S T) (fN : MFx tnA tnB M N) (h2 : T.1 2 = N.1 2) (h8 : ∃ τ, MA N 8 τ) : Rl T N n P kd ct sc sm x y := by
  obtain ⟨⟨b1, b2, b3, b4⟩, q2, q3, -, q5, q6, q7, ⟨-, ⟨ρ, m9⟩⟩, q9, q10⟩ := h
  refine ⟨⟨b1.fr fT, b2.frx fN, b3, b4⟩, ?_, ?_, h2, ?_, ?_, ?_, ⟨h8, ⟨ρ, fun j hj => ?_⟩⟩, q9.fr fT, q10.fr fT⟩
  · rw [fT.1 0 rfl, fN.2 2 rfl]; exact q2
  · rw [fT.1 1 rfl, fN.2 3 rfl]; exact q3
  · rw [fT.1 9 rfl, fT.1 10 rfl, (fT.2.1 20 rfl).1, (fT.2.1 21 rfl).1, fN.1 4 rfl, fN.1 5 rfl, fN.2 6 rfl]; exact q5
  · rw [fT.1 11 rfl, (fT.2.1 22 rfl).1, fT.2.2 22 rfl, fN.1 6 rfl, fN.2 7 rfl]; exact q6
  · rw [fT.1 19 rfl, (fT.2.1 38 rfl).1, (fT.2.1 39 rfl).1, (fT.2.1 40 rfl).1, (fT.2.1 41 rfl).1, (fT.2.1 42 rfl).2, fN.1 9 rfl, fN.2 29 rfl, fN.2 30 rfl, fN.2 31 rfl, fN.2 32 rfl]; exact q7
  · rw [fN.2 9 rfl]; exact m9 j hj
theorem o_failed (l : Launch) (h : Rl S M n P kd ct sc sm x y) : cX_X8_failed l S (fun _ S1 => mX_failed l M (fun _ M1 => Rel S1 M1 ∧ S1.2.2.2 = S.2.2.2)) :=
  c_X8_failed l S _ (m_failed l M _ ⟨⟨n, P, kd, ct, sc, sm, x, y, h.th 0⟩, rfl⟩)
theorem sh1_sg (h : Rl S M n P kd ct sc sm x y) {hh : Nat} {f t : Option Nat} {st : TSt} (hf : ∀ v, f = some v → v < P) (ht : ∀ v, t = some v → v < P) : sh1 n P kd ct sc hh f t st = sh1 n P kd ct sm hh f t st := by
  have hP2 := h.P2
  unfold sh1
  cases f with
  | none => rfl
  | some a =>
    cases t with
    | none => rfl
    | some c =>
      simp only
      rw [h.why (dgs P st.2.2) (show a < 5 by have := hf a rfl; omega) (show c < 5 by have := ht c rfl; omega)]
theorem perfS_sg (h : Rl S M n P kd ct sc sm x y) {r1 r2 : Nat → Nat → (Nat → Option Nat) → TSt → Nat × TSt} (hr : ∀ o hh pg st, pOK P pg → r1 o hh pg st = r2 o hh pg st) {hh s : Nat} {pg : Nat → Option Nat} (hpg : pOK P pg) : ∀ m k st, perfS n P kd ct sc of le ro r1 hh s pg m k st = perfS n P kd ct sm of le ro r2 hh s pg m k st := by
  intro m
  induction m with
  | zero => intro k st; rfl
  | succ m ih =>
    intro k st
    unfold perfS
    rw [sh1_sg h (fun v hv => hpg _ v hv) (fun v hv => hpg _ v hv)]
    simp only [ih]
    cases of (8 * s + k) with
    | none => rfl
    | some o => simp only; rw [hr _ _ _ _ (fun j v hv => hpg _ v hv)]
theorem perf_sg (h : Rl S M n P kd ct sc sm x y) : ∀ f s hh pg st, pOK P pg → perf n P kd ct sc w of le ro f s hh pg st = perf n P kd ct sm w of le ro f s hh pg st := by
  intro f
  induction f with
  | zero => intro s hh pg st _; rfl
  | succ f ih =>
    intro s hh pg st hpg
    exact perfS_sg h (fun o hh pg st q => ih o hh pg st q) hpg (w s) 0 st
theorem s_tried (l : Launch) (hr : Rl S M n P kd ct sc sm x y) (km : KM M q w of le ro) (a b c0 c1 c2 c3 c4 : Int32) (post : Int32 → MS → Prop)
    (h0 : (¬ ((∃ s, s < q ∧ a = nI s) ∧ (∃ h, 1 ≤ h ∧ h ≤ n ∧ b = nI h) ∧ ∃ ν, NM (n5 (M.2.1 26) c0 c1 c2 c3 c4) P ν)) → ∀ T, MFx tnA tnB M T → (∃ τ, MA T 8 τ) → post (-1) (mf T 2 1))
    (h1 : ∀ s h ν, s < q → a = nI s → 1 ≤ h → h ≤ n → b = nI h → NM (n5 (M.2.1 26) c0 c1 c2 c3 c4) P ν → ∀ T, MFx tnA tnB M T → T.1 2 = 0 → (∃ τ, MA T 8 τ) → post (tryV P (ν 1) h (perf n P kd ct sm w of le ro 7 s h (pg0 P ν) (1, 0, z0 n P ν))) T) : mX_tried l M a b c0 c1 c2 c3 c4 post := by
  have hP2 := hr.P2
  have hn2 := hr.n2
  have hq := km.1
  refine m_tried l M a b c0 c1 c2 c3 c4 post ?_
  intro B42 B61 B121 B169 B274 B341 B504 B541 h42 h61 h121 h169 h274 h341 h504 h541
  unfold mT_tried_e
  have no : (¬ ((∃ s, s < q ∧ a = nI s) ∧ (∃ h, 1 ≤ h ∧ h ≤ n ∧ b = nI h) ∧ ∃ ν, NM (n5 (M.2.1 26) c0 c1 c2 c3 c4) P ν)) → ∀ T, MFx tnA tnB M T → (∃ τ, MA T 8 τ) → B42 T := fun z T fT uT => h42 _ (s_no l _ 1 _ (h0 z T fT uT))
  have hy : MY (mf M 3 0) n P kd ct sm := (hr.th 0).my
  refine s_isScheme l (mf M 3 0) km.2.1 hq a _ (fun z => ⟨fun _ => no (fun v => z v.1) _ (MFx.rf.sc _ rfl) hr.m8, fun v => absurd rfl v⟩) (fun s hs ea => ⟨fun v => absurd v (by decide), fun _ => ?_⟩)
  refine s_inC l _ b 1 _ _ (L := 1) (H := n) rfl hy.2.1 (by decide) (by omega) (fun z => ⟨fun _ => no (fun v => z v.2.1) _ (MFx.rf.sc _ rfl) hr.m8, fun v => absurd rfl v⟩) (fun h hh1 hh2 eb => ⟨fun v => absurd v (by decide), fun _ => ?_⟩)
  refine s_areNames l (mf M 3 0) (P := P) hy.1 hP2 c0 c1 c2 c3 c4 _ (fun z => ⟨fun v => absurd rfl v, fun _ => no (fun v => z v.2.2) _ ((MFx.rf.sc _ rfl).row _ rfl) hr.m8⟩) (fun ν hν => ⟨fun _ => ?_, fun v => absurd v (by decide)⟩)
  have g := h1 s h ν hs ea hh1 hh2 eb hν
  have hνP : ∀ k, k < P → ν k < P := fun k hk => (hν.1 k hk).2
  have hzz : z0 n P ν < P ^ n := numN_lt n (fun j _ => hνP 0 (by omega))
  have hpg : pOK P (pg0 P ν) := fun j v hv => by
    unfold pg0 at hv
    split at hv
    · cases hv; exact hνP j (by assumption)
    · cases hv
  have f0 : MFx tnA tnB M (mf (mf (ma (mf M 3 0) 26 (n5 (M.2.1 26) c0 c1 c2 c3 c4)) 2 0) 10 (-1)) := (((MFx.rf.sc _ rfl).row _ rfl).sc _ rfl).sc _ rfl
  have n26 : ∀ T : MS, T.2.1 26 = n5 (M.2.1 26) c0 c1 c2 c3 c4 → ∀ k, k < P → T.2.1 26 k = nI (ν k) := fun T e k hk => by rw [e]; exact (hν.1 k hk).1
  -- the end: where are the discs?
  have eEnd : ∀ (T : MS) (r : Nat × TSt), r.1 = 0 → tOK n P r.2 → MFx tnA tnB M T → T.1 2 = 0 → U8 T n P r.2.2.2 → post (tryV P (ν 1) h r) T → B541 T (nI (ν 1)) (nI r.2.2.1) (nI 0) := by
    intro T r r0 ok fT t2 uT hp
    obtain ⟨σ, u1, u2⟩ := id uT
    unfold tryV at hp
    rw [if_pos r0] at hp
    have key : ∀ d k, k + d = h → (∀ j, j < k → dgs P r.2.2.2 j = ν 1) → B541 T (nI (ν 1)) (nI r.2.2.1) (nI k) := by
      intro d
      induction d with
      | zero =>
        intro k hk hall
        have : k = h := by omega
        subst this
        refine h541 _ _ _ _ ?_
        unfold mT_tried_541
        rw [eb]
        rw [(allOn_at k).mpr hall] at hp
        exact ⟨fun _ => hp, fun c => absurd (nI_le (Nat.le_refl _) (by omega)) c⟩
      | succ d ih =>
        intro k hk hall
        have d1 : dgs P r.2.2.2 k < P := dgs_lt (by omega) _ _
        have d2 := hνP 1 (by omega)
        refine h541 _ _ _ _ ?_
        unfold mT_tried_541
        rw [eb, nI_clamp (show k < 2 ^ 31 by omega), (u1 k (by omega)).1, u2 k (by omega), ← nI_succ]
        refine ⟨fun c => absurd c (nI_ge (by omega) (by omega)), fun _ => ⟨vp_in_nI (by omega) (by omega), fun c => ?_, fun c => ?_⟩⟩
        · have c : dgs P r.2.2.2 k = ν 1 := (nI_eq (by omega) (by omega)).mp c
          refine ih (k + 1) (by omega) (fun j hj => ?_)
          by_cases e : j = k
          · subst e; exact c
          · exact hall j (by omega)
        · have c : dgs P r.2.2.2 k ≠ ν 1 := fun z => c (by rw [z])
          have hno : allOn (dgs P r.2.2.2) (ν 1) h = false := by
            cases e : allOn (dgs P r.2.2.2) (ν 1) h with
            | false => rfl
            | true => exact absurd ((allOn_at h).mp e k (by omega)) c
          rw [hno] at hp
          exact hp
    exact key h 0 (by omega) (fun j hj => absurd hj (Nat.not_lt_zero _))
  -- the roles' pegs, then the performance
  have e121 : ∀ d k, k + d = 5 → ∀ T, MFx tnA tnB M T → T.1 2 = 0 → U8 T n P (z0 n P ν) → T.2.1 26 = n5 (M.2.1 26) c0 c1 c2 c3 c4 → T.2.1 34 0 = nI s → T.2.1 35 0 = nI h → T.2.1 36 0 = nI 0 → (∀ j, j < k → T.2.1 37 j = lab (pg0 P ν j)) → B121 T (nI (ν 1)) (nI k) := by
    intro d
    induction d with
    | zero =>
      intro k hk T fT t2 uT t26 t34 t35 t36 t37
      have : k = 5 := by omega
      subst this
      refine h121 _ _ _ ?_
      unfold mT_tried_121
      refine ⟨fun _ => ?_, fun c => absurd (show (5 : Int32) ≤ nI 5 by decide) c⟩
      have hok := perf_ok (n := n) (P := P) (kd := kd) (ct := ct) (sg := sm) (w := w) (of := of) (le := le) (ro := ro) (by omega) 7 s h (pg0 P ν) (1, 0, z0 n P ν) hpg ⟨by show 1 ≤ 5000; omega, by show 0 ≤ 1; omega, hzz⟩
      have hm : B169 T (nI (ν 1)) (nI (0 + 1)) (nI 1) (nI 0) := m_perf (n := n) (P := P) (kd := kd) (ct := ct) (sg := sm) (q := q) (w := w) (of := of) (le := le) (ro := ro) l h169 h274 h341 h504 6 0 (by omega) s h (pg0 P ν) hs hh1 (by omega) hh2 hpg (w s) 0 (by omega) T (1, 0, z0 n P ν) (hr.my.frx fT) (by unfold KM; rw [fT.1 9 rfl, fT.2 29 rfl, fT.2 30 rfl, fT.2 31 rfl, fT.2 32 rfl]; exact km) ⟨t34, t35, t36, fun j hj => by rw [Nat.mul_zero, Nat.zero_add]; exact t37 j hj⟩ uT ⟨by show 1 ≤ 5000; omega, by show 0 ≤ 1; omega, hzz⟩ (fun z T' m' u' => ?_) (fun z T' m' u' => ?_)
      · exact hm
      · refine h169 _ _ _ _ _ ?_
        unfold mT_tried_169
        refine ⟨fun _ => ?_, fun c => absurd (by decide) c⟩
        have fT' : MFx tnA tnB M T' := fT.tr (m'.1.mono tmA_n tmB_n)
        have t2' : T'.1 2 = 0 := by rw [m'.1.1 2 rfl]; exact t2
        exact eEnd T' _ z hok.1 fT' t2' u' (g T' fT' t2' u'.at)
      · have fT' : MFx tnA tnB M T' := fT.tr (m'.mono tmA_n tmB_n)
        have := g T' fT' (by rw [m'.1 2 rfl]; exact t2) u'
        unfold tryV at this
        rw [if_neg (show ¬ (perf n P kd ct sm w of le ro 7 s h (pg0 P ν) (1, 0, z0 n P ν)).1 = 0 from z)] at this
        exact this
    | succ d ih =>
      intro k hk T fT t2 uT t26 t34 t35 t36 t37
      refine h121 _ _ _ ?_
      unfold mT_tried_121
      rw [(hr.my.frx fT).1, nI_clamp (show k < 2 ^ 31 by omega), ← nI_succ]
      refine ⟨fun c => absurd c (nI_ge (a := k) (b := 5) (by omega) (by omega)), fun _ => ⟨fun c => ⟨vp_in_nI (by omega) (by omega), ?_⟩, fun c => ⟨vp_in_nI (by omega) (by omega), vp_in_nI (by omega) (by omega), ?_⟩⟩⟩
      · have c : P ≤ k := (nI_leI (by omega) (by omega)).mp c
        refine ih (k + 1) (by omega) _ (fT.row _ rfl) t2 uT t26 t34 t35 t36 (fun j hj => ?_)
        show upd (T.2.1 37) k (-1) j = _
        by_cases e : j = k
        · subst e; rw [upd_same]; unfold pg0; rw [if_neg (by omega)]; rfl
        · rw [upd_other _ _ e]; exact t37 j (by omega)
      · have c : k < P := by
          rcases Nat.lt_or_ge k P with z | z
          · exact z
          · exact absurd (nI_le z (by omega)) c
        rw [n26 T t26 k c]
        refine ih (k + 1) (by omega) _ (fT.row _ rfl) t2 uT t26 t34 t35 t36 (fun j hj => ?_)
        show upd (T.2.1 37) k (nI (ν k)) j = _
        by_cases e : j = k
        · subst e; rw [upd_same]; unfold pg0; rw [if_pos (by omega)]; rfl
        · rw [upd_other _ _ e]; exact t37 j (by omega)
  have e61 : ∀ d k, k + d = n → ∀ T, MFx tnA tnB M T → T.1 2 = 0 → (∃ τ, MA T 8 τ) → (∀ j, j < k → T.2.1 8 j = nI (ν 0)) → T.2.1 26 = n5 (M.2.1 26) c0 c1 c2 c3 c4 → B61 T (nI k) := by
    intro d
    induction d with
    | zero =>
      intro k hk T fT t2 uT t8 t26
      have : k = n := by omega
      subst this
      have hv0 := hνP 0 (by omega)
      refine h61 _ _ ?_
      unfold mT_tried_61
      rw [(hr.my.frx fT).2.1, show (1 : Int32).toNatClampNeg = 1 from rfl, show (0 : Int32).toNatClampNeg = 0 from rfl, n26 T t26 1 (by omega)]
      refine ⟨fun _ => ⟨vp_in_nI (n := 1) (by omega) (by omega), fun v hv => ⟨vp_in_nI (n := 0) (by omega) (by omega), vp_in_nI (n := 0) (by omega) (by omega), vp_in_nI (n := 0) (by omega) (by omega), ?_⟩⟩, fun c => absurd (nI_le (Nat.le_refl _) (by omega)) c⟩
      subst hv
      have uz : U8 T k P (z0 k P ν) := by
        obtain ⟨τ, hτ⟩ := uT
        refine ⟨fun j => if j < k then ν 0 else τ j, fun j hj => ?_, fun j hj => ?_⟩
        · show T.2.1 8 j = nI (if j < k then ν 0 else τ j) ∧ (if j < k then ν 0 else τ j) < 5
          by_cases e : j < k
          · rw [if_pos e]; exact ⟨t8 j e, by omega⟩
          · rw [if_neg e]; exact hτ j hj
        · show (if j < k then ν 0 else τ j) = _
          rw [if_pos hj]
          unfold z0
          rw [dgs_num (by omega) k (fun _ _ => hv0) j hj]
      refine e121 5 0 (by omega) _ (((fT.row _ rfl).row _ rfl).row _ rfl) t2 uz t26 ?_ ?_ ?_ (fun j hj => absurd hj (Nat.not_lt_zero _))
      · show upd (T.2.1 34) 0 a 0 = _
        rw [upd_same, ea]
      · show upd (T.2.1 35) 0 b 0 = _
        rw [upd_same, eb]
      · show upd (T.2.1 36) 0 0 0 = _
        rw [upd_same]; rfl
    | succ d ih =>
      intro k hk T fT t2 uT t8 t26
      have hv0 := hνP 0 (by omega)
      refine h61 _ _ ?_
      unfold mT_tried_61
      rw [(hr.my.frx fT).2.1, show (0 : Int32).toNatClampNeg = 0 from rfl, nI_clamp (show k < 2 ^ 31 by omega), n26 T t26 0 (by omega), ← nI_succ]
      refine ⟨fun c => absurd c (nI_ge (by omega) (by omega)), fun _ => ⟨vp_in_nI (n := 0) (by omega) (by omega), vp_in_nI (by omega) (by omega), ?_⟩⟩
      obtain ⟨τ, hτ⟩ := uT
      refine ih (k + 1) (by omega) _ (fT.row _ rfl) t2 ⟨va_up τ k (ν 0), fun j hj => ?_⟩ (fun j hj => ?_) t26
      · show upd (T.2.1 8) k (nI (ν 0)) j = _ ∧ _
        by_cases e : j = k
        · subst e; rw [upd_same, va_up_same]; exact ⟨rfl, by omega⟩
        · rw [upd_other _ _ e, va_up_other _ _ e]; exact hτ j hj
      · show upd (T.2.1 8) k (nI (ν 0)) j = _
        by_cases e : j = k
        · subst e; exact upd_same _ _ _
        · rw [upd_other _ _ e]; exact t8 j (by omega)
  exact e61 n 0 (by omega) _ f0 rfl hr.m8 (fun j hj => absurd hj (Nat.not_lt_zero _)) rfl
theorem o_tried (l : Launch) (h : Rl S M n P kd ct sc sm x y) (a b c0 c1 c2 c3 c4 : Int32) : ∃ mc ms, mc ≤ 50000 ∧ ms ≤ 300000 ∧ cX_X8_tried l mc ms S a b c0 c1 c2 c3 c4 (fun r1 S1 => mX_tried l M a b c0 c1 c2 c3 c4 (fun r2 M1 => OKa S mc ms r1 S1 r2 M1)) := by
  obtain ⟨⟨q, w, of, le, ro, kc, km⟩, tz⟩ := id h.2.2.2.2.2.2.1
  have hq := kc.1
  have hP2 := h.P2
  have hn2 := h.n2
  refine ⟨1, 5, by omega, by omega, c_X8_tried l 1 5 S a b c0 c1 c2 c3 c4 _ ?_⟩
  intro B79 h79
  unfold cT_X8_tried_e
  have e0 : upd (upd (upd (upd (upd (fun _ => (0 : Int32)) (0 : Int32).toNatClampNeg c0) (1 : Int32).toNatClampNeg c1) (2 : Int32).toNatClampNeg c2) (3 : Int32).toNatClampNeg c3) (4 : Int32).toNatClampNeg c4 = n5 (fun _ => 0) c0 c1 c2 c3 c4 := rfl
  rw [e0]
  have eqf : ∀ k, k < P → n5 (fun _ => 0) c0 c1 c2 c3 c4 k = n5 (M.2.1 26) c0 c1 c2 c3 c4 k := fun k hk => n5_eq _ _ c0 c1 c2 c3 c4 k (by omega)
  have hy0 : CY (cf S 23 (-1)) n P kd ct sc := h.cy
  have ss := s_tried l h km a b c0 c1 c2 c3 c4
  have no : (¬ ((∃ s, s < q ∧ a = nI s) ∧ (∃ h, 1 ≤ h ∧ h ≤ n ∧ b = nI h) ∧ ∃ ν, NM (n5 (M.2.1 26) c0 c1 c2 c3 c4) P ν)) → ∀ f, B79 (0 + 1) (0 + 5) (cf S 23 (-1)) f := by
    intro z f
    refine h79 _ _ _ _ ⟨by omega, by omega, k_none l _ 1 _ ⟨by omega, by omega, ?_⟩⟩
    refine ss _ (fun _ N fN uN => OKa.of (by omega) (by omega) rfl ⟨n, P, kd, ct, sc, sm, x, y, h.tri ((CFr.rf.cf _ rfl).cf _ rfl) (fN.sc _ rfl) rfl uN⟩ rfl) (fun s hh ν hs ea h1 h2 eb hν => absurd ⟨⟨s, hs, ea⟩, ⟨hh, h1, h2, eb⟩, ν, hν⟩ z)
  refine ⟨by omega, by omega, by omega, by omega, k_has l (S := cf S 23 (-1)) kc.2.1 hq a _ (fun z => ⟨fun _ => no (fun v => z v.1) _, fun v => absurd rfl v⟩) (fun s hs ea => ⟨fun v => absurd v (by decide), fun _ => ?_⟩)⟩
  rw [hy0.2.1, hy0.1]
  refine ⟨fun z => no (fun v => ?_) _, fun z1 => ⟨fun z => no (fun v => ?_) _, fun z2 => ⟨by omega, by omega, ?_⟩⟩⟩
  · obtain ⟨L, hL1, hL2, ec⟩ := v.2.1
    rw [ec] at z
    exact absurd z (nI_nlt (b := 1) hL1 (by omega))
  · obtain ⟨L, hL1, hL2, ec⟩ := v.2.1
    rw [ec] at z
    exact absurd z (nI_nlt hL2 (by omega))
  obtain ⟨H, hH1, hH2, eb⟩ := (in_rng (L := 1) (H := n) (a := b) (by decide) (by omega)).mp ⟨Int32.not_lt.mp z1, Int32.not_lt.mp z2⟩
  refine k_isRearr l (cf S 23 (-1)) (K := P) (by omega) (by omega) (by omega) _ (fun z => ⟨fun v => absurd rfl v, fun _ => no (fun v => z (by obtain ⟨ν, hν⟩ := v.2.2; exact ⟨ν, hν.congr (fun k hk => (eqf k hk).symm)⟩)) _⟩) (fun ν hν => ⟨fun _ => ⟨by omega, by omega, ?_⟩, fun v => absurd v (by decide)⟩)
  subst ea
  subst eb
  have hy1 : CY (cf (cf S 23 (-1)) 2 0) n P kd ct sc := h.cy
  have hk1 : KS (cf (cf S 23 (-1)) 2 0) q w of le ro := kc
  refine k_prep7 l hy1 hν.1 _ (fun T fT tT pT t2 => ⟨by omega, by omega, ?_⟩)
  have hpg : pOK P (pg0 P ν) := fun j v hv => by
    unfold pg0 at hv
    split at hv
    · cases hv; exact (hν.1 j (by assumption)).2
    · cases hv
  refine k_run l (hy1.fr fT) (hk1.fr fT) hs hH1 hH2 (fun k hk => (hν.1 k hk).2) tT pT _ (fun U fU => ⟨by omega, by omega, ?_⟩)
  refine ss _ (fun z => absurd ⟨⟨s, hs, rfl⟩, ⟨H, hH1, hH2, rfl⟩, ν, hν.congr eqf⟩ z) (fun s' h' ν' hs' ea h1' h2' eb hν' N fN n2 uN => ?_)
  have e1 : s = s' := (nI_eq (by omega) (by omega)).mp ea
  have e2 : H = h' := (nI_eq (by omega) (by omega)).mp eb
  subst e1
  subst e2
  have eν : ∀ i, i < P → ν' i = ν i := fun i hi => by
    have w1 := hν'.1 i hi
    have w2 := hν.1 i hi
    rw [eqf i hi] at w2
    exact (nI_eq (by omega) (by omega)).mp (w1.1.symm.trans w2.1)
  have epg : pg0 P ν' = pg0 P ν := by
    funext j
    unfold pg0
    by_cases e : j < P
    · rw [if_pos e, if_pos e, eν j e]
    · rw [if_neg e, if_neg e]
  have ez : z0 n P ν' = z0 n P ν := by unfold z0; rw [eν 0 (by omega)]
  refine OKa.of (by omega) (by omega) ?_ ⟨n, P, kd, ct, sc, sm, x, y, h.tri ?_ fN ?_ uN⟩ ?_
  · rw [epg, ez, eν 1 (by omega), perf_sg h 7 s H (pg0 P ν) (1, 0, z0 n P ν) hpg]
  · exact ((CFr.rf.cf _ rfl).cf _ rfl : CFr trA2 trB nn S (cf (cf S 23 (-1)) 2 0)).tr ((fT.tr fU).mono trA_2 (fun _ z => z))
  · rw [fU.1 2 rfl, t2, n2]; rfl
  · have l1 := lens_eq fT
    have l2 := lens_eq fU
    exact l2.trans l1
end Tri
