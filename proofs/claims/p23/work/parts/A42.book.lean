-- scheme(), single(), call()
theorem KSt.mono {q q' : Nat} {of : Nat → Option Nat} {le ro : Nat → Nat} {cal les rol : Nat → Int32} {k : Nat} (h : KSt q of le ro cal les rol k) (hq : q ≤ q') : KSt q' of le ro cal les rol k := by
  rcases h with h | ⟨o, h1, h2, h3⟩
  · exact Or.inl h
  · exact Or.inr ⟨o, h1, by omega, h3⟩
theorem KSt.congr {q : Nat} {of of' : Nat → Option Nat} {le le' ro ro' : Nat → Nat} {cal les rol cal' les' rol' : Nat → Int32} {k : Nat} (h : KSt q of le ro cal les rol k) (h1 : of' k = of k) (h2 : le' k = le k) (h3 : ∀ j, 5 * k ≤ j → j < 5 * k + 5 → ro' j = ro j) (h4 : cal' k = cal k) (h5 : les' k = les k) (h6 : ∀ j, 5 * k ≤ j → j < 5 * k + 5 → rol' j = rol j) : KSt q of' le' ro' cal' les' rol' k := by
  rcases h with ⟨w1, w2, w3⟩ | ⟨o, w1, w2, w3, w4, w5, w6, w7⟩
  · refine Or.inl ⟨by rw [h1, w1], by rw [h4, w2], fun j hj => ?_⟩
    rw [h3 _ (by omega) (by omega), h6 _ (by omega) (by omega)]; exact w3 j hj
  · refine Or.inr ⟨o, by rw [h1, w1], w2, by rw [h2]; exact w3, by rw [h2]; exact w4, by rw [h4, w5], by rw [h5, h2, w6], fun j hj => ?_⟩
    rw [h3 _ (by omega) (by omega), h6 _ (by omega) (by omega)]; exact w7 j hj
theorem KSc.opn {q : Nat} {w : Nat → Nat} {of : Nat → Option Nat} {le ro : Nat → Nat} {made : Int32} {ln cal les rol : Nat → Int32} (h : KSc q w of le ro made ln cal les rol) (hq : q < 8) : KSc (q + 1) (va_up w q 0) of le ro (nI (q + 1)) (upd ln q 0) cal les rol := by
  obtain ⟨h1, h2, h3, h4⟩ := h
  refine ⟨by omega, rfl, fun s hs => ?_, fun s i hs hi => ?_⟩
  · by_cases e : s = q
    · subst e; rw [va_up_same, upd_same]; exact ⟨by omega, rfl⟩
    · rw [va_up_other _ _ e, upd_other _ _ e]; exact h3 s (by omega)
  · by_cases e : s = q
    · subst e; rw [va_up_same] at hi; exact absurd hi (Nat.not_lt_zero _)
    · rw [va_up_other _ _ e] at hi
      exact (h4 s i (by omega) hi).mono (by omega)
theorem KSc.put {q : Nat} {w : Nat → Nat} {of of' : Nat → Option Nat} {le ro le' ro' : Nat → Nat} {made : Int32} {ln cal les rol cal' les' rol' : Nat → Int32} (h : KSc q w of le ro made ln cal les rol) {s : Nat} (hs : s < q) (hw : w s < 8) (e1 : ∀ j, j ≠ 8 * s + w s → of' j = of j ∧ le' j = le j ∧ cal' j = cal j ∧ les' j = les j) (e2 : ∀ j, (j < 5 * (8 * s + w s) ∨ 5 * (8 * s + w s) + 5 ≤ j) → ro' j = ro j ∧ rol' j = rol j) (hk : KSt q of' le' ro' cal' les' rol' (8 * s + w s)) : KSc q (va_up w s (w s + 1)) of' le' ro' made (upd ln s (nI (w s + 1))) cal' les' rol' := by
  obtain ⟨h1, h2, h3, h4⟩ := h
  refine ⟨h1, h2, fun t ht => ?_, fun t i ht hi => ?_⟩
  · by_cases e : t = s
    · subst e; rw [va_up_same, upd_same]; exact ⟨by omega, rfl⟩
    · rw [va_up_other _ _ e, upd_other _ _ e]; exact h3 t ht
  · have hb := (h3 t ht).1
    by_cases e : t = s
    · subst e
      rw [va_up_same] at hi
      by_cases e3 : i = w t
      · subst e3; exact hk
      · have a := e1 (8 * t + i) (by omega)
        exact (h4 t i ht (by omega)).congr a.1 a.2.1 (fun j q1 q2 => (e2 j (by omega)).1) a.2.2.1 a.2.2.2 (fun j q1 q2 => (e2 j (by omega)).2)
    · rw [va_up_other _ _ e] at hi
      have a := e1 (8 * t + i) (by omega)
      exact (h4 t i ht hi).congr a.1 a.2.1 (fun j q1 q2 => (e2 j (by omega)).1) a.2.2.1 a.2.2.2 (fun j q1 q2 => (e2 j (by omega)).2)
def bkA : Nat → Bool := fun k => decide (k = 2) || decide (k = 19)
def bkB : Nat → Bool := fun k => decide (38 ≤ k) && decide (k ≤ 41)
def bkM : Nat → Bool := fun k => decide (k = 2) || decide (k = 3) || decide (k = 9)
def bkR : Nat → Bool := fun k => decide (29 ≤ k) && decide (k ≤ 32)
section Book
variable {S : CS} {M : MS} {n P x y : Nat} {kd ct sc sm : Nat → Nat}
theorem Rl.book {T : CS} {N : MS} (h : Rl S M n P kd ct sc sm x y) (fT : CFr bkA bkB nn S T) (fN : MFx bkM bkR M N) (h2 : T.1 2 = N.1 2) (hk : ∃ q w of le ro, KSc q w of le ro (T.1 19) (T.2.1 38) (T.2.1 39) (T.2.1 40) (T.2.1 41) ∧ KSc q w of le ro (N.1 9) (N.2.1 29) (N.2.1 30) (N.2.1 31) (N.2.1 32)) : Rl T N n P kd ct sc sm x y := by
  obtain ⟨⟨b1, b2, b3, b4⟩, q2, q3, -, q5, q6, q7, ⟨⟨τ, m8⟩, ⟨ρ, m9⟩⟩, q9, q10⟩ := h
  refine ⟨⟨b1.fr fT, ?_, b3, b4⟩, ?_, ?_, h2, ?_, ?_, ⟨hk, ?_⟩, ⟨⟨τ, fun j hj => ?_⟩, ⟨ρ, fun j hj => ?_⟩⟩, q9.fr fT, q10.fr fT⟩
  · obtain ⟨c1, c2, c3, c4, c5, c6, c7⟩ := b2
    refine ⟨?_, ?_, c3, c4, ?_, ?_, ?_⟩
    · rw [fN.1 0 rfl]; exact c1
    · rw [fN.1 1 rfl]; exact c2
    · rw [fN.2 1 rfl]; exact c5
    · rw [fN.2 4 rfl]; exact c6
    · rw [fN.2 5 rfl]; exact c7
  · rw [fT.1 0 rfl, fN.2 2 rfl]; exact q2
  · rw [fT.1 1 rfl, fN.2 3 rfl]; exact q3
  · rw [fT.1 9 rfl, fT.1 10 rfl, (fT.2.1 20 rfl).1, (fT.2.1 21 rfl).1, fN.1 4 rfl, fN.1 5 rfl, fN.2 6 rfl]; exact q5
  · rw [fT.1 11 rfl, (fT.2.1 22 rfl).1, fT.2.2 22 rfl, fN.1 6 rfl, fN.2 7 rfl]; exact q6
  · rw [(fT.2.1 42 rfl).2]; exact q7.2
  · rw [fN.2 8 rfl]; exact m8 j hj
  · rw [fN.2 9 rfl]; exact m9 j hj
theorem o_scheme (l : Launch) (h : Rl S M n P kd ct sc sm x y) : cX_X8_scheme l S (fun r1 S1 => mX_scheme l M (fun r2 M1 => OKr S r1 S1 r2 M1)) := by
  obtain ⟨⟨q, w, of, le, ro, kc, km⟩, tz⟩ := id h.2.2.2.2.2.2.1
  have hq := kc.1
  refine c_X8_scheme l S _ ?_
  unfold cT_X8_scheme_e
  rw [kc.2.1]
  refine ⟨fun c => ?_, fun c => ?_⟩
  · have c : q < 8 := (nI_ltI (b := 8) (by omega) (by omega)).mp c
    refine c_X1_open l _ _ ?_
    unfold cT_X1_open_e
    rw [show (cf S 2 0).1 19 = nI q from kc.2.1, nI_clamp (show q < 2 ^ 31 by omega), ← nI_succ]
    refine ⟨vp_in_nI (by omega) (by omega), m_scheme l M _ ?_⟩
    unfold mT_scheme_e
    rw [km.2.1, nI_clamp (show q < 2 ^ 31 by omega), ← nI_succ]
    refine ⟨fun _ => ⟨vp_in_nI (by omega) (by omega), rfl, ⟨n, P, kd, ct, sc, sm, x, y, ?_⟩, rfl⟩, fun w => absurd ((nI_is 8 rfl (by omega) (by omega)).mp w) (by omega)⟩
    exact h.book (((CFr.rf.cf _ rfl).ca _ rfl).cf _ rfl) ((((MFx.rf.sc _ rfl).row _ rfl).sc _ rfl).sc _ rfl) rfl ⟨q + 1, va_up w q 0, of, le, ro, kc.opn c, km.opn c⟩
  · have c : q = 8 := by
      rcases Nat.lt_or_ge q 8 with w | w
      · exact absurd (nI_lt (b := 8) w (by omega)) c
      · omega
    subst c
    refine k_none l _ 5 _ (m_scheme l M _ ?_)
    unfold mT_scheme_e
    rw [km.2.1]
    exact ⟨fun w => absurd rfl w, fun _ => s_no l _ 5 _ ⟨rfl, ⟨n, P, kd, ct, sc, sm, x, y, (h.th 0).tr 5⟩, rfl⟩⟩
def apF (f : Nat → Int32) (k m : Nat) (g : Nat → Int32) : Nat → Int32 := fun j => if 5 * k ≤ j ∧ j < 5 * k + m then g (j - 5 * k) else f j
theorem apF_0 (f : Nat → Int32) (k : Nat) (g : Nat → Int32) : apF f k 0 g = f := by
  funext j
  unfold apF
  rw [if_neg (by omega)]
theorem apF_s (f : Nat → Int32) (k m : Nat) (g : Nat → Int32) : upd (apF f k m g) (5 * k + m) (g m) = apF f k (m + 1) g := by
  funext j
  by_cases e : j = 5 * k + m
  · rw [e, upd_same]
    unfold apF
    rw [if_pos (by omega)]
    congr 1
    omega
  · rw [upd_other _ _ e]
    unfold apF
    by_cases c : 5 * k ≤ j ∧ j < 5 * k + m
    · rw [if_pos c, if_pos (by omega)]
    · rw [if_neg c, if_neg (by omega)]
theorem k_append (l : Launch) {S : CS} {s w m : Nat} {of less : Int32} {g : Nat → Int32} (hs : s < 8) (hw : w < 8) (h38 : S.2.1 38 s = nI w) (hm : m ≤ 5) (post : Int32 → CS → Prop) (h : post (nI (w + 1)) (ca (ca (ca (ca S 39 (upd (S.2.1 39) (8 * s + w) of)) 40 (upd (S.2.1 40) (8 * s + w) less)) 41 (apF (S.2.1 41) (8 * s + w) m g)) 38 (upd (S.2.1 38) s (nI (w + 1))))) : cX_X1_append l S (nI s) of less m g post := by
  refine c_X1_append l S _ of less m g post ?_
  intro B32 B69 h32 h69
  unfold cT_X1_append_e
  rw [nI_clamp (show s < 2 ^ 31 by omega), h38]
  refine ⟨vp_in_nI (by omega) (by omega), fun v hv => ?_⟩
  have hv : v = nI (8 * s + w) := by rw [hv, show (8 : Int32) = nI 8 from rfl, pk_mul, nI_add]; congr 1; omega
  subst hv
  rw [nI_clamp (show 8 * s + w < 2 ^ 31 by omega)]
  refine ⟨vp_in_nI (by omega) (by omega), vp_in_nI (by omega) (by omega), ?_⟩
  have fin : B69 (ca (ca (ca S 39 (upd (S.2.1 39) (8 * s + w) of)) 40 (upd (S.2.1 40) (8 * s + w) less)) 41 (apF (S.2.1 41) (8 * s + w) m g)) := by
    refine h69 _ ?_
    unfold cT_X1_append_69
    rw [nI_clamp (show s < 2 ^ 31 by omega), upd_same]
    have e : (ca (ca (ca S 39 (upd (S.2.1 39) (8 * s + w) of)) 40 (upd (S.2.1 40) (8 * s + w) less)) 41 (apF (S.2.1 41) (8 * s + w) m g)).2.1 38 = S.2.1 38 := rfl
    rw [e, h38, ← nI_succ]
    exact ⟨vp_in_nI (by omega) (by omega), vp_in_nI (by omega) (by omega), vp_in_nI (by omega) (by omega), h⟩
  have key : ∀ d k, k + d = m → B32 (ca (ca (ca S 39 (upd (S.2.1 39) (8 * s + w) of)) 40 (upd (S.2.1 40) (8 * s + w) less)) 41 (apF (S.2.1 41) (8 * s + w) k g)) (nI (8 * s + w)) (nI k) := by
    intro d
    induction d with
    | zero =>
      intro k hk
      have : k = m := by omega
      subst this
      refine h32 _ _ _ ?_
      unfold cT_X1_append_32
      exact ⟨fun _ => fin, fun c => absurd (nI_le (Nat.le_refl _) (by omega)) c⟩
    | succ d ih =>
      intro k hk
      refine h32 _ _ _ ?_
      unfold cT_X1_append_32
      rw [ix5, nI_clamp (show k < 2 ^ 31 by omega), nI_clamp (show 5 * (8 * s + w) + k < 2 ^ 31 by omega), ← nI_succ]
      refine ⟨fun c => absurd c (nI_ge (by omega) (by omega)), fun _ => ⟨fun c => absurd c (nI_ge (a := k) (b := 5) (by omega) (by omega)), fun _ => ⟨vp_in_nI (by omega) (by omega), vp_in_nI (by omega) (by omega), ?_⟩⟩⟩
      have e : ∀ (U : CS) (f g : Nat → Int32), ca (ca U 41 f) 41 g = ca U 41 g := by
        intro U f g
        unfold ca
        have : va_up (va_up U.2.1 41 f) 41 g = va_up U.2.1 41 g := by
          funext j
          unfold va_up
          by_cases q : j = 41
          · rw [if_pos q, if_pos q]
          · rw [if_neg q, if_neg q, if_neg q]
        simp only [this]
      rw [e, ca_get, apF_s]
      exact ih (k + 1) (by omega)
  have := key m 0 (by omega)
  rw [apF_0] at this
  have e2 : ca (ca (ca S 39 (upd (S.2.1 39) (8 * s + w) of)) 40 (upd (S.2.1 40) (8 * s + w) less)) 41 (S.2.1 41) = ca (ca S 39 (upd (S.2.1 39) (8 * s + w) of)) 40 (upd (S.2.1 40) (8 * s + w) less) := by
    unfold ca
    simp only
    congr 2
    funext j
    unfold va_up
    by_cases q : j = 41
    · rw [if_pos q, if_neg (by omega), if_neg (by omega), q]
    · rw [if_neg q]
  rw [e2] at this
  exact this
theorem k_addStep (l : Launch) {S : CS} {s w m : Nat} {of less : Int32} {g : Nat → Int32} (hs : s < 8) (hw : w ≤ 8) (h38 : S.2.1 38 s = nI w) (hm : m ≤ 5) (post : Int32 → CS → Prop) (h0 : w = 8 → post (-1) (cf S 2 5)) (h : w < 8 → post (nI (w + 1)) (ca (ca (ca (ca (cf S 2 0) 39 (upd (S.2.1 39) (8 * s + w) of)) 40 (upd (S.2.1 40) (8 * s + w) less)) 41 (apF (S.2.1 41) (8 * s + w) m g)) 38 (upd (S.2.1 38) s (nI (w + 1))))) : cX_X8_addStep l S (nI s) of less m g post := by
  refine c_X8_addStep l S _ of less m g post ?_
  unfold cT_X8_addStep_e
  refine c_X1_isFull l S _ _ ?_
  unfold cT_X1_isFull_e
  rw [nI_clamp (show s < 2 ^ 31 by omega), h38]
  refine ⟨vp_in_nI (by omega) (by omega), fun c => ⟨fun _ => ?_, fun q => absurd rfl q⟩, fun c => ⟨fun q => absurd q (by decide), fun _ => k_none l _ 5 _ (h0 ?_)⟩⟩
  · have c : w < 8 := (nI_ltI (b := 8) (by omega) (by omega)).mp c
    exact k_append l (S := cf S 2 0) hs c h38 hm _ (h c)
  · rcases Nat.lt_or_ge w 8 with q | q
    · exact absurd (nI_lt (b := 8) q (by omega)) c
    · omega
theorem s_isScheme (l : Launch) (M : MS) {q : Nat} (h9 : M.1 9 = nI q) (hq : q ≤ 8) (a : Int32) (post : Bool → MS → Prop) (h0 : (¬ ∃ i, i < q ∧ a = nI i) → post false M) (h1 : ∀ i, i < q → a = nI i → post true M) : mX_isScheme l M a post := by
  refine m_isScheme l M a post ?_
  unfold mT_isScheme_e
  exact s_inB l M a _ _ (N := q) (by rw [h9]) (by omega) h0 h1
theorem k_isRole (l : Launch) (S : CS) (a : Int32) (post : Bool → CS → Prop) (h0 : (¬ ∃ i, i < 5 ∧ a = nI i) → post false S) (h1 : ∀ i, i < 5 → a = nI i → post true S) : cX_X8_isRole l S a post := by
  refine c_X8_isRole l S a post ?_
  unfold cT_X8_isRole_e
  exact k_below (N := 5) (by omega) h0 h1
end Book
