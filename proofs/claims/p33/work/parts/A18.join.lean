section
-- the class's search
def lab (o : Option Nat) : Int32 := match o with
  | none => -1
  | some m => nI m
theorem lab_none {o : Option Nat} (h : ∀ m, o = some m → m < 2 ^ 31) : lab o = -1 ↔ o = none := by
  cases o with
  | none => exact ⟨fun _ => rfl, fun _ => rfl⟩
  | some m => exact ⟨fun q => absurd q (nI_m1 (h m rfl)), fun q => by cases q⟩
/-- the lengths of the search's rows -/
def CL (T : CS) (LA : Nat) : Prop := T.2.2.2 24 = LA ∧ T.2.2.2 25 = LA ∧ T.2.2.2 26 = LA ∧ T.2.2.2 27 = LA ∧ T.2.2.2 28 = LA ∧ T.2.2.2 29 = LA
/-- but for the stands e the rows hold the labels, the settled ones and the slots -/
def CRx (N : Nat) (T : CS) (fr : Nat → Option Nat) (mt : List Nat) (L : Nat → List Nat) (e : Nat → Prop) : Prop :=
  (∀ x, x < N → T.2.1 24 x = lab (fr x)) ∧ T.1 13 = nI mt.length ∧ (∀ k x, mt[k]? = some x → T.2.1 26 k = nI x) ∧
  BQ 128 N (T.2.1 23) (T.2.1 27) (T.2.1 28) L ∧ (∀ b x, b < 128 → (x ∈ L b ↔ ¬ e x ∧ x ∉ mt ∧ ∃ m, fr x = some m ∧ m % 128 = b))
abbrev CR0 (N : Nat) (T : CS) (fr : Nat → Option Nat) (mt : List Nat) (L : Nat → List Nat) : Prop := CRx N T fr mt L (fun _ => False)
theorem and127 {m : Nat} (h : m < 2 ^ 31) : nI m &&& 127 = nI (m % 128) := pk_andN (by omega) 7 (by decide)
/-- rows 23, 27, 28 alone may have changed -/
def qA : Nat → Bool := fun _ => false
def qB : Nat → Bool := fun k => decide (k = 23) || decide (k = 27) || decide (k = 28)
theorem CRx.out (l : Launch) {N LA : Nat} {T : CS} {fr : Nat → Option Nat} {mt : List Nat} {L : Nat → List Nat} (h : CR0 N T fr mt L) (hl : CL T LA) (hLA : N ≤ LA) (hLA2 : LA ≤ 20000) {t m : Nat} (ht : t ∉ mt) (hf : fr t = some m) (hm : m < 2 ^ 31) (post : CS → Prop)
    (hp : ∀ (U : CS) (L' : Nat → List Nat), CFr qA qB nn T U → U.2.2 = T.2.2 → CRx N U fr mt L' (fun x => x = t) → post U) : cX_X6_takeOut l T (nI t) post := by
  obtain ⟨h1, h2, h3, h4, h5⟩ := h
  have hb : m % 128 < 128 := Nat.mod_lt _ (by decide)
  have hin : t ∈ L (m % 128) := (h5 _ t hb).mpr ⟨fun q => q, ht, m, hf, rfl⟩
  have htN : t < N := h4.2.2.2 _ t hb hin
  have hun := h4.unlink (by omega) hb hin
  have haft : T.2.1 27 t = -1 ∨ ∃ y, y < N ∧ T.2.1 27 t = nI y := by
    rcases dl_aft _ _ _ (h4.1 _ hb) hin with q | ⟨y, hy, q⟩
    · exact Or.inl q
    · exact Or.inr ⟨y, h4.2.2.2 _ y hb hy, q⟩
  have hlt : T.2.1 24 t = nI m := by rw [h1 t htN, hf]; rfl
  have memb : ∀ (c x : Nat), c < 128 → (x ∈ va_up L (m % 128) ((L (m % 128)).erase t) c ↔ ¬ x = t ∧ x ∉ mt ∧ ∃ k, fr x = some k ∧ k % 128 = c) := by
    intro c x hc
    by_cases e : c = m % 128
    · subst e
      rw [va_up_same, List.Nodup.mem_erase_iff (h4.2.1 _ hb), h5 _ x hb]
      exact ⟨fun q => ⟨q.1, q.2.2⟩, fun q => ⟨q.1, fun w => w, q.2⟩⟩
    · rw [va_up_other _ _ e, h5 c x hc]
      refine ⟨fun q => ⟨fun w => ?_, q.2⟩, fun q => ⟨fun w => w, q.2⟩⟩
      obtain ⟨k, hk, hk2⟩ := q.2.2
      rw [w, hf] at hk
      cases hk
      exact e hk2.symm
  refine c_X6_takeOut l T (nI t) post ?_
  intro B44 h44
  unfold cT_X6_takeOut_e
  rw [hl.2.2.2.2.1, hl.2.2.2.1, hl.1, nI_clamp (show t < 2 ^ 31 by omega), hlt, and127 hm, nI_clamp (show m % 128 < 2 ^ 31 by omega)]
  have iT : vp_in (nI t) LA := vp_in_nI (by omega) (by omega)
  refine ⟨iT, fun v2 e2 => ⟨iT, fun v3 e3 => ?_⟩⟩
  subst e2
  subst e3
  -- behind 44
  have fin : ∀ (U : CS) (L' : Nat → List Nat), CFr qA qB nn T U → U.2.2 = T.2.2 → BQ 128 N (U.2.1 23) (U.2.1 27) (rePrev (T.2.1 28) (T.2.1 27 t) (T.2.1 28 t)) L' → U.2.1 28 = T.2.1 28 → (∀ (c x : Nat), c < 128 → (x ∈ L' c ↔ ¬ x = t ∧ x ∉ mt ∧ ∃ k, fr x = some k ∧ k % 128 = c)) → B44 U (T.2.1 28 t) (T.2.1 27 t) := by
    intro U L' fU u2 hB u28 hmem
    refine h44 _ _ _ ?_
    unfold cT_X6_takeOut_44
    have e28 : U.2.2.2 28 = LA := by rw [u2]; exact hl.2.2.2.2.1
    refine ⟨fun c => ?_, fun c => ?_⟩
    · refine hp U L' fU u2 ⟨?_, ?_, ?_, ?_, hmem⟩
      · rw [(fU.2.1 24 rfl).1]; exact h1
      · rw [fU.1 13 rfl]; exact h2
      · rw [(fU.2.1 26 rfl).1]; exact h3
      · unfold rePrev at hB
        rw [if_pos c] at hB
        rw [u28]; exact hB
    · rcases haft with q | ⟨y, hy, q⟩
      · exact absurd q c
      · rw [e28]
        refine ⟨by rw [q]; exact vp_in_nI (by omega) (by omega), ?_⟩
        refine hp _ L' (fU.ca _ rfl) u2 ⟨?_, ?_, ?_, ?_, hmem⟩
        · rw [ca_get_ne _ _ (by decide), (fU.2.1 24 rfl).1]; exact h1
        · show U.1 13 = _
          rw [fU.1 13 rfl]; exact h2
        · rw [ca_get_ne _ _ (by decide), (fU.2.1 26 rfl).1]; exact h3
        · unfold rePrev at hB
          rw [if_neg c] at hB
          rw [ca_get, ca_get_ne _ _ (by decide), ca_get_ne _ _ (by decide), u28]
          exact hB
  refine ⟨fun c => ?_, fun c => ?_⟩
  · rcases hun with ⟨q, -, -⟩ | ⟨z, hz, hz2, q, hbk⟩
    · exact absurd q c
    · have hzN := h4.2.2.2 _ z hb hz
      refine ⟨by rw [q]; exact vp_in_nI (by omega) (by omega), fin _ _ (CFr.rf.ca _ rfl) rfl ?_ rfl memb⟩
      rw [ca_get_ne _ _ (by decide), ca_get]
      have hc : (T.2.1 28 t).toNatClampNeg = z := by rw [q]; exact nI_clamp (by omega)
      rw [hc]
      exact hbk
  · rcases hun with ⟨q, -, hbk⟩ | ⟨z, hz, hz2, q, -⟩
    · refine ⟨iT, vp_in_nI hb (by omega), fin _ _ (CFr.rf.ca _ rfl) rfl ?_ rfl memb⟩
      rw [ca_get_ne _ _ (show (27 : Nat) ≠ 23 by decide), ca_get]
      exact hbk
    · have hzN := h4.2.2.2 _ z hb hz
      rw [q] at c
      exact absurd c (nI_m1 (by omega))
theorem CRx.inn (l : Launch) {N LA : Nat} {T : CS} {fr : Nat → Option Nat} {mt : List Nat} {L : Nat → List Nat} {t : Nat} (h : CRx N T fr mt L (fun x => x = t)) (hl : CL T LA) (hLA : N ≤ LA) (hLA2 : LA ≤ 20000) {m : Nat} (htN : t < N) (ht : t ∉ mt) (hf : fr t = some m) (hm : m < 2 ^ 31) (post : CS → Prop)
    (hp : ∀ (U : CS) (L' : Nat → List Nat), CFr qA qB nn T U → U.2.2 = T.2.2 → CR0 N U fr mt L' → post U) : cX_X6_putIn l T (nI t) post := by
  obtain ⟨h1, h2, h3, h4, h5⟩ := h
  have hb : m % 128 < 128 := Nat.mod_lt _ (by decide)
  have hno : ∀ c, c < 128 → t ∉ L c := fun c hc q => ((h5 c t hc).mp q).1 rfl
  have hlt : T.2.1 24 t = nI m := by rw [h1 t htN, hf]; rfl
  have hbk := h4.link (by omega) hb htN hno
  have memb : ∀ (c x : Nat), c < 128 → (x ∈ va_up L (m % 128) (t :: L (m % 128)) c ↔ ¬ False ∧ x ∉ mt ∧ ∃ k, fr x = some k ∧ k % 128 = c) := by
    intro c x hc
    by_cases e : c = m % 128
    · subst e
      rw [va_up_same, List.mem_cons, h5 _ x hb]
      by_cases ex : x = t
      · subst ex
        exact ⟨fun _ => ⟨fun q => q, ht, m, hf, rfl⟩, fun _ => Or.inl rfl⟩
      · exact ⟨fun q => ⟨fun w => w, (q.resolve_left ex).2⟩, fun q => Or.inr ⟨ex, q.2⟩⟩
    · rw [va_up_other _ _ e, h5 c x hc]
      by_cases ex : x = t
      · subst ex
        refine ⟨fun q => absurd rfl q.1, fun q => ?_⟩
        obtain ⟨k, hk, hk2⟩ := q.2.2
        rw [hf] at hk
        cases hk
        exact absurd hk2.symm e
      · exact ⟨fun q => ⟨fun w => w, q.2⟩, fun q => ⟨ex, q.2⟩⟩
  refine c_X6_putIn l T (nI t) post ?_
  unfold cT_X6_putIn_e
  rw [hl.1, hl.2.2.2.2.1, hl.2.2.2.1, nI_clamp (show t < 2 ^ 31 by omega), hlt, and127 hm]
  have iT : vp_in (nI t) LA := vp_in_nI (by omega) (by omega)
  refine ⟨iT, fun v2 e2 => ?_⟩
  subst e2
  rw [nI_clamp (show m % 128 < 2 ^ 31 by omega)]
  refine ⟨vp_in_nI hb (by omega), fun v3 e3 => ⟨iT, iT, fun c => ⟨vp_in_nI hb (by omega), ?_⟩, fun c => ?_⟩⟩
  · subst e3
    refine hp _ _ (((CFr.rf.ca _ rfl).ca _ rfl).ca _ rfl) rfl ⟨?_, h2, ?_, ?_, memb⟩
    · rw [ca_get_ne _ _ (by decide), ca_get_ne _ _ (by decide), ca_get_ne _ _ (by decide)]; exact h1
    · rw [ca_get_ne _ _ (by decide), ca_get_ne _ _ (by decide), ca_get_ne _ _ (by decide)]; exact h3
    · rw [ca_get, ca_get_ne _ _ (show (27 : Nat) ≠ 23 by decide), ca_get, ca_get_ne _ _ (show (28 : Nat) ≠ 23 by decide), ca_get_ne _ _ (show (28 : Nat) ≠ 27 by decide), ca_get]
      unfold rePrev at hbk
      rw [if_pos c] at hbk
      exact hbk
  · subst e3
    rcases h4.head hb with ⟨q, -⟩ | ⟨y, ys, -, q, hy⟩
    · exact absurd q c
    · refine ⟨by rw [q]; exact vp_in_nI (by omega) (by omega), vp_in_nI hb (by omega), ?_⟩
      refine hp _ _ ((((CFr.rf.ca _ rfl).ca _ rfl).ca _ rfl).ca _ rfl) rfl ⟨?_, h2, ?_, ?_, memb⟩
      · rw [ca_get_ne _ _ (by decide), ca_get_ne _ _ (by decide), ca_get_ne _ _ (by decide), ca_get_ne _ _ (by decide)]; exact h1
      · rw [ca_get_ne _ _ (by decide), ca_get_ne _ _ (by decide), ca_get_ne _ _ (by decide), ca_get_ne _ _ (by decide)]; exact h3
      · rw [ca_get, ca_get_ne _ _ (show (27 : Nat) ≠ 23 by decide), ca_get_ne _ _ (show (27 : Nat) ≠ 28 by decide), ca_get, ca_get_ne _ _ (show (28 : Nat) ≠ 23 by decide), ca_get]
        unfold rePrev at hbk
        rw [if_neg c] at hbk
        exact hbk
/-- the offers' frame -/
def oB : Nat → Bool := fun k => qB k || decide (k = 24) || decide (k = 25)
/-- the search's own rows and the look's -/
def pC : Nat → Bool := fun k => decide (24 ≤ k) && decide (k ≤ 29)
def fA : Nat → Bool := fun k => (decide (6 ≤ k) && decide (k ≤ 8)) || decide (k = 12) || decide (k = 13)
def fB : Nat → Bool := fun k => (decide (13 ≤ k) && decide (k ≤ 19)) || (decide (23 ≤ k) && decide (k ≤ 29))
theorem lA_f (k : Nat) (h : fA k = false) : lA k = false := by
  unfold fA at h; unfold lA
  simp only [Bool.or_eq_false_iff] at h
  exact h.1.1
theorem lB_f (k : Nat) (h : fB k = false) : lB k = false := by
  unfold fB at h; unfold lB
  simp only [Bool.or_eq_false_iff] at h
  exact h.1
theorem qB_f (k : Nat) (h : fB k = false) : qB k = false := by
  unfold fB at h; unfold qB
  simp only [Bool.or_eq_false_iff, Bool.and_eq_false_iff, decide_eq_false_iff_not] at h ⊢
  omega
/-- one offer -/
theorem k_offer (l : Launch) {N LA st d : Nat} {tg : Nat → Nat → Nat → Option Nat} {c : Nat → Nat → Nat} {T : CS} {fr : Nat → Option Nat} {mt : List Nat} {L : Nat → List Nat} {P P' : Nat → Nat → Nat → Prop} {E : List (Nat × Nat × Nat)}
    (hI : MI N st tg c fr mt d P) (h : CR0 N T fr mt L) (hR : RI st tg c fr (T.2.2.1 25) E) (hE : ∀ s a b, (s, a, b) ∈ E → s ∈ mt ∧ ¬ P s a b) (hl : CL T LA) (hLA : N ≤ LA) (hLA2 : LA ≤ 20000) {y a b t : Nat} (hy : y ∈ mt) (hfy : fr y = some d) (ht : tg y a b = some t) (htN : t < N) (hc0 : 0 < c a b) (hc : c a b ≤ 100) (hdl : d + c a b ≤ 100 * mt.length) (hp : ∀ s a' b', P s a' b' → P' s a' b' ∨ (s = y ∧ a' = a ∧ b' = b)) (post : CS → Prop)
    (k : ∀ (U : CS) (fr' : Nat → Option Nat) (L' : Nat → List Nat), CFr qA oB nn T U → U.2.2.2 = T.2.2.2 → MI N st tg c fr' mt d P' → CR0 N U fr' mt L' → RI st tg c fr' (U.2.2.1 25) (E ++ [(y, a, b)]) → fr' y = some d → (∀ x, fr' x = none → fr x = none ∧ U.2.2.1 25 x = T.2.2.1 25 x) → post U) : cX_X6_offer l T (nI t) (nI (d + c a b)) (T.2.2.1 25 y) post := by
  have hmtl : mt.length ≤ 20000 := by
    have := nodup_len N mt hI.1.1 hI.1.2
    omega
  have hfb : ∀ m, fr t = some m → m < 2 ^ 31 := fun m hm => by
    have := hI.2.2.2.2.2.2.2.1 t m hm
    omega
  have htm : ∀ m, fr t = some m → d + c a b ≤ m → t ∉ mt := by
    intro m hm hle q
    obtain ⟨m', e, hm'⟩ := hI.2.2.1 t q
    rw [hm] at e
    cases e
    omega
  have hlt : T.2.1 24 t = lab (fr t) := h.1 t htN
  have iT : vp_in (nI t) LA := vp_in_nI (by omega) (by omega)
  refine c_X6_offer l T _ _ _ post ?_
  intro B39 B50 h39 h50
  unfold cT_X6_offer_e
  rw [hl.1, hl.2.1, nI_clamp (show t < 2 ^ 31 by omega), hlt]
  refine ⟨iT, fun v5 e5 => ?_⟩
  subst e5
  -- a better label, once the stand is out of its slot
  have put : (∀ m, fr t = some m → d + c a b < m) → t ∉ mt → ∀ (U : CS) (L' : Nat → List Nat), CFr qA qB nn T U → U.2.2 = T.2.2 → CRx N U fr mt L' (fun x => x = t) → B50 U := by
    intro hb htn U L' fU u2 hU
    have hlU : CL U LA := by unfold CL; rw [u2]; exact hl
    refine h50 _ ?_
    unfold cT_X6_offer_50
    rw [hlU.1, hlU.2.1, nI_clamp (show t < 2 ^ 31 by omega)]
    refine ⟨iT, iT, ?_⟩
    obtain ⟨u1, u13, u26, uB, um⟩ := hU
    have hnew : CRx N (cj (ca U 24 (upd (U.2.1 24) t (nI (d + c a b)))) 25 (vp_updL (U.2.2.1 25) t (T.2.2.1 25 y))) (va_up fr t (some (d + c a b))) mt L' (fun x => x = t) := by
      refine ⟨fun x hx => ?_, u13, ?_, ?_, fun b' x hb' => ?_⟩
      · show upd (U.2.1 24) t (nI (d + c a b)) x = _
        by_cases e : x = t
        · subst e; rw [upd_same, va_up_same]; rfl
        · rw [upd_other _ _ e, va_up_other _ _ e]; exact u1 x hx
      · exact u26
      · exact uB
      · rw [um b' x hb']
        by_cases e : x = t
        · exact ⟨fun q => absurd e q.1, fun q => absurd e q.1⟩
        · rw [va_up_other _ _ e]
    refine hnew.inn l (LA := LA) hlU hLA hLA2 htN htn (va_up_same _ _ _) (by omega) _ (fun V L2 fV v2 hV => ?_)
    have hyt : y ≠ t := fun e => htn (by rw [← e]; exact hy)
    have hts : t ≠ st := fun e => absurd (hb 0 (by rw [e]; exact hI.2.2.2.2.2.2.2.2)) (Nat.not_lt_zero _)
    refine k V _ L2 ?_ ?_ (hI.label hy hfy ht htn htN hc hdl hb hp) hV ?_ (by rw [va_up_other _ _ hyt]; exact hfy) ?_
    · have f1 : CFr qA oB nn T (cj (ca U 24 (upd (U.2.1 24) t (nI (d + c a b)))) 25 (vp_updL (U.2.2.1 25) t (T.2.2.1 25 y))) := ((fU.mono (fun k hk => hk) (fun k hk => by unfold oB at hk; simp only [Bool.or_eq_false_iff] at hk; exact hk.1.1)).ca _ rfl).cj _ rfl
      exact f1.tr (fV.mono (fun k hk => hk) (fun k hk => by unfold oB at hk; simp only [Bool.or_eq_false_iff] at hk; exact hk.1.1))
    · rw [v2]; show U.2.2.2 = _; rw [u2]
    · have e1 : V.2.2.1 25 = vp_updL (T.2.2.1 25) t (T.2.2.1 25 y) := by
        rw [v2]
        show vp_updL (U.2.2.1 25) t (T.2.2.1 25 y) = _
        rw [u2]
      rw [e1]
      refine hR.label ht hfy hts hyt (fun s a' b' q e => htn (by rw [← e]; exact (hE s a' b' q).1)) (fun s a' b' q w => ?_) hb
      obtain ⟨q1, q2⟩ := hE s a' b' q
      obtain ⟨k', m', w1, w2, w3⟩ := hI.2.2.2.2.2.2.1 s q1 a' b' t w q2
      exact ⟨k', m', w1, w2, w3⟩
    · intro x hx
      have hxt : x ≠ t := fun e => by rw [e, va_up_same] at hx; cases hx
      rw [va_up_other _ _ hxt] at hx
      refine ⟨hx, ?_⟩
      have e1 : V.2.2.1 25 = vp_updL (T.2.2.1 25) t (T.2.2.1 25 y) := by
        rw [v2]
        show vp_updL (U.2.2.1 25) t (T.2.2.1 25 y) = _
        rw [u2]
      rw [e1]
      unfold vp_updL
      rw [if_neg hxt]
  have stay : ∀ m, fr t = some m → m ≤ d + c a b → MI N st tg c fr mt d P' := by
    intro m hm hle
    refine hI.shrink (fun s a' b' _ q => ?_)
    rcases hp s a' b' q with w | ⟨w1, w2, w3⟩
    · exact Or.inl w
    · subst w1; subst w2; subst w3
      refine Or.inr (fun t' ht' => ?_)
      rw [ht] at ht'
      cases ht'
      exact ⟨d, m, hfy, hm, hle⟩
  cases hft : fr t with
  | none =>
    refine ⟨fun _ => ⟨fun _ => h39 _ _ ?_, fun q => absurd rfl q⟩, fun q => absurd q.symm (nI_m1 (by omega))⟩
    unfold cT_X6_offer_39
    refine ⟨fun _ => ?_, fun q => absurd rfl q⟩
    have htn : t ∉ mt := by
      intro q
      obtain ⟨m', e, -⟩ := hI.2.2.1 t q
      rw [hft] at e
      cases e
    refine put (fun m hm => by rw [hft] at hm; cases hm) htn T L CFr.rf rfl ⟨h.1, h.2.1, h.2.2.1, h.2.2.2.1, fun b' x hb' => ?_⟩
    rw [h.2.2.2.2 b' x hb']
    refine ⟨fun q => ⟨fun e => ?_, q.2⟩, fun q => ⟨fun w => w, q.2⟩⟩
    obtain ⟨m', hm', -⟩ := q.2.2
    rw [e, hft] at hm'
    cases hm'
  | some m =>
    have hmb := hfb m hft
    show (¬ nI m = nI (d + c a b) → _) ∧ (nI m = nI (d + c a b) → _)
    refine ⟨fun c1 => ⟨fun q => absurd q (nI_m1 hmb), fun _ => ⟨fun c2 => ?_, fun c2 => ?_⟩⟩, fun c1 => ?_⟩
    · have c1 : m ≠ d + c a b := fun q => c1 (by rw [q])
      have c2 : m ≤ d + c a b := (nI_leI hmb (by omega)).mp c2
      exact k T fr L CFr.rf rfl (stay m hft c2) h (hR.skip ht hfy hft c1) hfy (fun x hx => ⟨hx, rfl⟩)
    · have c2 : d + c a b < m := by
        rcases Nat.lt_or_ge (d + c a b) m with q | q
        · exact q
        · exact absurd (nI_le q (by omega)) c2
      refine h39 _ _ ?_
      unfold cT_X6_offer_39
      refine ⟨fun q => absurd q (nI_m1 hmb), fun _ => ?_⟩
      have htn := htm m hft (by omega)
      exact h.out l hl hLA hLA2 htn hft hmb _ (fun U L' fU u2 hU => put (fun m' hm' => by rw [hft] at hm'; cases hm'; exact c2) htn U L' fU u2 hU)
    · have c1 : m = d + c a b := (nI_eq hmb (by omega)).mp c1
      subst c1
      have htn := htm _ hft (Nat.le_refl _)
      have hyt : y ≠ t := fun e => htn (by rw [← e]; exact hy)
      refine ⟨iT, iT, ?_⟩
      refine k _ fr L (CFr.rf.cj _ rfl) rfl (stay _ hft (Nat.le_refl _)) h ?_ hfy (fun x hx => ⟨hx, ?_⟩)
      rotate_left
      · rw [cj_get]
        unfold vp_updL
        rw [if_neg (fun e => by rw [e, hft] at hx; cases hx)]
      rw [cj_get]
      exact hR.same ht hfy hft (fun s a' b' q e => htn (by rw [← e]; exact (hE s a' b' q).1)) hyt
/-- the first slot that isn't empty -/
theorem k_slot (l : Launch) {T : CS} {d : Nat} (hd : d < 2 ^ 30) (post : Int32 → CS → Prop) (h0 : (∀ b, b < 128 → T.2.1 23 b = -1) → post (-1) T) (h1 : ∀ k, k < 128 → T.2.1 23 ((d + k) % 128) ≠ -1 → (∀ j, j < k → T.2.1 23 ((d + j) % 128) = -1) → post (nI ((d + k) % 128)) T) : cX_X6_slotFrom l T (nI d) post := by
  refine c_X6_slotFrom l T _ post ?_
  intro B2 h2
  unfold cT_X6_slotFrom_e
  have key : ∀ t k, k + t = 128 → (∀ j, j < k → T.2.1 23 ((d + j) % 128) = -1) → B2 T (nI k) := by
    intro t
    induction t with
    | zero =>
      intro k hk hj
      have : k = 128 := by omega
      subst this
      refine h2 _ _ ?_
      unfold cT_X6_slotFrom_2
      refine ⟨fun _ => h0 (fun b hb => ?_), fun q => absurd (show (128 : Int32) ≤ nI 128 by decide) q⟩
      have := hj ((b + 128 - d % 128) % 128) (Nat.mod_lt _ (by decide))
      rw [show (d + (b + 128 - d % 128) % 128) % 128 = b by omega] at this
      exact this
    | succ t ih =>
      intro k hk hj
      refine h2 _ _ ?_
      unfold cT_X6_slotFrom_2
      refine ⟨fun q => absurd q (nI_ge (a := k) (b := 128) (by omega) (by omega)), fun _ v e => ?_⟩
      rw [nI_add, and127 (by omega)] at e
      subst e
      rw [nI_clamp (show (d + k) % 128 < 2 ^ 31 by omega)]
      refine ⟨vp_in_nI (Nat.mod_lt _ (by decide)) (by omega), fun c => ?_, fun c => h1 k (by omega) c hj⟩
      rw [← nI_succ]
      refine ih (k + 1) (by omega) (fun j hj2 => ?_)
      by_cases e : j = k
      · rw [e]; exact c
      · exact hj j (by omega)
  exact key 128 0 (by omega) (fun j hj => absurd hj (Nat.not_lt_zero _))
end
section
/-- what a search leaves: the least costs from st, the stands that are reached in their order, the numbers of rows -/
def SOK (T : CS) (n P : Nat) (kd ct sg : Nat → Nat) (st : Nat) : Prop := ∃ (fr : Nat → Option Nat) (mt : List Nat), DS (P ^ n) st (tgN n P kd ct sg) (fun a b => ct (5 * a + b)) fr ∧ mt.Nodup ∧ (∀ x, x ∈ mt ↔ fr x ≠ none) ∧ (mt.Pairwise fun x y => ∀ m k, fr x = some m → fr y = some k → m ≤ k) ∧ (∀ x m, fr x = some m → m ≤ 2000000) ∧
  (∀ x, x < P ^ n → T.2.1 24 x = lab (fr x)) ∧ T.1 13 = nI mt.length ∧ (∀ k x, mt[k]? = some x → T.2.1 26 k = nI x) ∧ RI st (tgN n P kd ct sg) (fun a b => ct (5 * a + b)) fr (T.2.2.1 25) (allE (mvL n P kd ct sg) mt) ∧ (∀ x, x < P ^ n → fr x = none → T.2.2.1 25 x = 0)
def pA : Nat → Bool := fun k => decide (k = 13)
def pB : Nat → Bool := fun k => decide (23 ≤ k) && decide (k ≤ 29)
theorem pA_f (k : Nat) (h : fA k = false) : pA k = false := by
  unfold fA at h; unfold pA
  simp only [Bool.or_eq_false_iff] at h
  exact h.2
theorem pB_f (k : Nat) (h : fB k = false) : pB k = false := by
  unfold fB at h; unfold pB
  simp only [Bool.or_eq_false_iff] at h
  exact h.2
set_option maxHeartbeats 1000000 in
theorem k_prep (l : Launch) {mc ms : Nat} {S : CS} {LA N : Nat} (hl : CL S LA) (hLA : LA ≤ 20000) (hN : N ≤ 20000) (hb : LA < N → 6 ≤ mc ∧ 6 * N ≤ ms) (post : CS → Prop) (k : ∀ T, CFr pA pB pC S T → CL T (max LA N) → (∀ x, x < N → T.2.1 24 x = -1 ∧ T.2.2.1 25 x = 0) → (∀ b, b < 128 → T.2.1 23 b = -1) → T.1 13 = 0 → post T) : cX_X6_prepare l mc ms S (nI N) post := by
  refine c_X6_prepare l mc ms S _ post ?_
  intro B51 h51
  have fin : ∀ (kc ks : Nat) (U : CS) (M : Nat), kc ≤ mc → ks ≤ ms → CFr pA pB pC S U → CL U M → M = max LA N → B51 kc ks U := by
    intro kc ks U M hkc hks fU hU hM
    have hM2 : M ≤ 20000 := by omega
    have hM3 : N ≤ M := by omega
    refine h51 _ _ _ ?_
    unfold cT_X6_prepare_51
    rw [hU.1, hU.2.1]
    refine ⟨by omega, hkc, hks, hkc, hks, by omega, hkc, hks, hkc, hks, k _ ?_ ?_ (fun x hx => ⟨?_, ?_⟩) (fun b hb => ?_) ?_⟩
    · exact (((fU.ca _ rfl).ca _ rfl).cj _ rfl).cf _ rfl
    · rw [← hM]; exact hU
    · show filI (U.2.1 24) M (-1) x = -1
      unfold filI
      rw [if_pos (by omega)]
    · show filL (U.2.2.1 25) M 0 x = 0
      unfold filL
      rw [if_pos (by omega)]
    · show filI (U.2.1 23) 128 (-1) b = -1
      unfold filI
      rw [if_pos hb]
    · exact cf_get _ _ _
  unfold cT_X6_prepare_e
  rw [hl.1, nI_clamp (show N < 2 ^ 31 by omega)]
  refine ⟨fun c => ?_, fun c => ?_⟩
  · have c : N ≤ LA := (nI_leI (by omega) (by omega)).mp c
    exact fin 0 0 S LA (Nat.zero_le _) (Nat.zero_le _) CFr.rf hl (by omega)
  · have c : LA < N := by
      rcases Nat.lt_or_ge LA N with q | q
      · exact q
      · exact absurd (nI_le q (by omega)) c
    obtain ⟨b1, b2⟩ := hb c
    have i0 : ¬ nI N < 0 := nI_pos (by omega)
    have i8 : N * 8 ≤ 536870912 := by omega
    refine ⟨i0, i8, by omega, by omega, i0, i8, by omega, by omega, i0, i8, by omega, by omega, i0, i8, by omega, by omega, i0, i8, by omega, by omega, i0, i8, by omega, by omega, fin _ _ _ N (by omega) (by omega) ?_ ⟨rfl, rfl, rfl, rfl, rfl, rfl⟩ (by omega)⟩
    exact (((((((((((CFr.rf.ca _ rfl).cn _ rfl).cj _ rfl).cn _ rfl).ca _ rfl).cn _ rfl).ca _ rfl).cn _ rfl).ca _ rfl).cn _ rfl).ca _ rfl).cn _ rfl
theorem CRx.fr {a b c : Nat → Bool} {N : Nat} {T U : CS} {fr : Nat → Option Nat} {mt : List Nat} {L : Nat → List Nat} {e : Nat → Prop} (h : CRx N T fr mt L e) (f : CFr a b c T U) (h13 : a 13 = false := by rfl) (h23 : b 23 = false := by rfl) (h24 : b 24 = false := by rfl) (h26 : b 26 = false := by rfl) (h27 : b 27 = false := by rfl) (h28 : b 28 = false := by rfl) : CRx N U fr mt L e := by
  unfold CRx
  rw [f.1 13 h13, (f.2.1 23 h23).1, (f.2.1 24 h24).1, (f.2.1 26 h26).1, (f.2.1 27 h27).1, (f.2.1 28 h28).1]
  exact h
theorem CL.fr {a b c : Nat → Bool} {T U : CS} {LA : Nat} (h : CL T LA) (f : CFr a b c T U) (h24 : c 24 = false := by rfl) (h25 : c 25 = false := by rfl) (h26 : c 26 = false := by rfl) (h27 : c 27 = false := by rfl) (h28 : c 28 = false := by rfl) (h29 : c 29 = false := by rfl) : CL U LA := by
  unfold CL
  rw [f.2.2 24 h24, f.2.2 25 h25, f.2.2 26 h26, f.2.2 27 h27, f.2.2 28 h28, f.2.2 29 h29]
  exact h
theorem SPL.fr {a b c : Nat → Bool} {T U : CS} {n P : Nat} {kd ct sg : Nat → Nat} {x : Nat} {M : List (Nat × Nat)} (h : SPL T n P kd ct sg x M) (f : CFr a b c T U) (h6 : a 6 = false := by rfl) (h17 : b 17 = false := by rfl) (h18 : b 18 = false := by rfl) (h19 : b 19 = false := by rfl) : SPL U n P kd ct sg x M := by
  unfold SPL
  rw [f.1 6 h6, (f.2.1 17 h17).1, (f.2.1 18 h18).1, (f.2.1 19 h19).1]
  exact h
theorem take_mem {L : List (Nat × Nat)} {i : Nat} {p q : Nat × Nat} (h : L[i]? = some p) : q ∈ L.take (i + 1) ↔ q ∈ L.take i ∨ q = p := by
  rw [List.take_add_one, h]
  simp
theorem take_map {L : List (Nat × Nat)} {i y a b : Nat} (h : L[i]? = some (a, b)) : (L.take (i + 1)).map (fun q => (y, q.1, q.2)) = (L.take i).map (fun q => (y, q.1, q.2)) ++ [(y, a, b)] := by
  rw [List.take_add_one, h]
  simp
theorem full_mem {N : Nat} {mt : List Nat} (h1 : mt.Nodup) (h2 : ∀ x, x ∈ mt → x < N) (h3 : N ≤ mt.length) {x : Nat} (hx : x < N) : x ∈ mt := by
  by_cases q : x ∈ mt
  · exact q
  · have := nodup_len N (x :: mt) (List.nodup_cons.mpr ⟨q, h1⟩) (fun z hz => by
      rcases List.mem_cons.mp hz with e | e
      · rw [e]; exact hx
      · exact h2 z e)
    rw [List.length_cons] at this
    omega
theorem oB_f (k : Nat) (h : fB k = false) : oB k = false := by
  unfold fB at h; unfold oB qB
  simp only [Bool.or_eq_false_iff, Bool.and_eq_false_iff, decide_eq_false_iff_not] at h ⊢
  omega
theorem qA_f (k : Nat) (_ : fA k = false) : qA k = false := rfl
set_option maxHeartbeats 2000000 in
theorem k_from (l : Launch) {mc ms : Nat} {S : CS} {n P : Nat} {kd ct sg : Nat → Nat} (hy : CY S n P kd ct sg) (hz : ∀ a, a < 5 → ct (5 * a + a) = 0) (hN : P ^ n ≤ 20000) {st LA : Nat} (hst : st < P ^ n) (hl : CL S LA) (hLA : LA ≤ 20000) (hb : LA < P ^ n → 6 ≤ mc ∧ 6 * P ^ n ≤ ms) (hnew : S.1 12 ≠ nI st) (post : CS → Prop) (kk : ∀ T, CFr fA fB pC S T → CL T (max LA (P ^ n)) → T.1 12 = nI st → SOK T n P kd ct sg st → post T) : cX_X6_from l mc ms S (nI st) post := by
  have hP2 := hy.2.2.2.1
  have hn2 := hy.2.2.2.2.1
  obtain ⟨M, hM⟩ : ∃ M, M = max LA (P ^ n) := ⟨_, rfl⟩
  rw [← hM] at kk
  have hM1 : P ^ n ≤ M := by omega
  have hM2 : M ≤ 20000 := by omega
  have cpos : ∀ s a b t, tgN n P kd ct sg s a b = some t → 0 < ct (5 * a + b) := fun s a b t h => Nat.pos_of_ne_zero (tgN_cost h)
  have tgP : ∀ s a b t, tgN n P kd ct sg s a b = some t → a < P ∧ b < P := fun s a b t q => by
    unfold tgN at q
    split at q
    · next w => exact ⟨w.1, w.2.1⟩
    · cases q
  refine c_X6_from l mc ms S _ post ?_
  intro B35 B121 h35 h121
  unfold cT_X6_from_e
  refine ⟨fun _ => ?_, fun q => absurd q hnew⟩
  refine ⟨mc, ms, by omega, by omega, ?_⟩
  rw [hy.2.2.1]
  have f0 : CFr fA fB pC S (cf S 12 (nI st)) := CFr.rf.cf _ rfl
  refine k_prep l (S := cf S 12 (nI st)) (LA := LA) hl hLA hN hb _ (fun T fT hT h24 h23 h13 => ⟨by omega, by omega, ?_⟩)
  have fST : CFr fA fB pC S T := f0.tr (fT.mono pA_f pB_f)
  have t12 : T.1 12 = nI st := by rw [fT.1 12 rfl]; exact cf_get _ _ _
  rw [← hM] at hT
  -- the invariant of the outer loop gives the end
  have done : ∀ (T : CS) (fr : Nat → Option Nat) (mt : List Nat) (L : Nat → List Nat) (d : Nat), CFr fA fB pC S T → CL T M → T.1 12 = nI st → MI (P ^ n) st (tgN n P kd ct sg) (fun a b => ct (5 * a + b)) fr mt d (fun _ _ _ => False) → CR0 (P ^ n) T fr mt L → RI st (tgN n P kd ct sg) (fun a b => ct (5 * a + b)) fr (T.2.2.1 25) (allE (mvL n P kd ct sg) mt) → (∀ x, x < P ^ n → fr x = none → T.2.2.1 25 x = 0) → (∀ x, fr x ≠ none → x ∈ mt) → post T := by
    intro T fr mt L d fT hT t12 hI hC hR hZ hall
    refine kk T fT hT t12 ⟨fr, mt, hI.ds hall, hI.1.1, fun x => ⟨fun q => ?_, hall x⟩, hI.2.2.2.2.1, fun x m hm => ?_, hC.1, hC.2.1, hC.2.2.1, hR, hZ⟩
    · obtain ⟨m, e, -⟩ := hI.2.2.1 x q
      rw [e]; exact Option.some_ne_none m
    · have h1 := hI.2.2.2.2.2.2.2.1 x m hm
      have h2 := nodup_len _ mt hI.1.1 hI.1.2
      omega
  -- the outer loop
  have outer : ∀ r k, k + r = P ^ n → ∀ (T : CS) (fr : Nat → Option Nat) (mt : List Nat) (L : Nat → List Nat) (d : Nat), mt.length = k → CFr fA fB pC S T → CL T M → T.1 12 = nI st → MI (P ^ n) st (tgN n P kd ct sg) (fun a b => ct (5 * a + b)) fr mt d (fun _ _ _ => False) → d ≤ 2000000 → CR0 (P ^ n) T fr mt L → RI st (tgN n P kd ct sg) (fun a b => ct (5 * a + b)) fr (T.2.2.1 25) (allE (mvL n P kd ct sg) mt) → (∀ x, x < P ^ n → fr x = none → T.2.2.1 25 x = 0) → B35 (0 + mc) (0 + ms) T (nI d) (nI k) := by
    intro r
    induction r with
    | zero =>
      intro k hk T fr mt L d hml fT hT t12 hI hd hC hR hZ
      have : k = P ^ n := by omega
      subst this
      refine h35 _ _ _ _ _ ?_
      unfold cT_X6_from_35
      rw [(hy.fr fT).2.2.1]
      refine ⟨fun _ => ⟨by omega, by omega, done T fr mt L d fT hT t12 hI hC hR hZ (fun x hx => full_mem hI.1.1 hI.1.2 (by omega) (hI.2.1 x hx))⟩, fun q => absurd (nI_le (Nat.le_refl _) (by omega)) q⟩
    | succ r ih =>
      intro k hk T fr mt L d hml fT hT t12 hI hd hC hR hZ
      have hyT := hy.fr fT
      refine h35 _ _ _ _ _ ?_
      unfold cT_X6_from_35
      rw [hyT.2.2.1]
      refine ⟨fun q => absurd q (nI_ge (by omega) (by omega)), fun _ => ⟨by omega, by omega, ?_⟩⟩
      refine k_slot l (by omega) _ (fun hemp => ?_) (fun j hj hne hbef => ?_)
      · refine ⟨fun q => absurd rfl q, fun _ => ⟨by omega, by omega, done T fr mt L d fT hT t12 hI hC hR hZ (fun x hx => ?_)⟩⟩
        by_cases q : x ∈ mt
        · exact q
        · obtain ⟨m, hm⟩ := Option.ne_none_iff_exists'.mp hx
          have hb := Nat.mod_lt m (show 0 < 128 by decide)
          have hin : x ∈ L (m % 128) := (hC.2.2.2.2 _ x hb).mpr ⟨fun w => w, q, m, hm, rfl⟩
          rcases hC.2.2.2.1.head hb with ⟨-, w⟩ | ⟨y, ys, -, w, hyN⟩
          · rw [w] at hin; cases hin
          · rw [hemp _ hb] at w
            exact absurd w.symm (nI_m1 (by omega))
      · have hb := Nat.mod_lt (d + j) (show 0 < 128 by decide)
        rcases hC.2.2.2.1.head hb with ⟨w, -⟩ | ⟨y, ys, hL, w, hyN⟩
        · exact absurd w hne
        have hin : y ∈ L ((d + j) % 128) := by rw [hL]; exact List.mem_cons_self
        obtain ⟨-, hym, m, hfm, hmm⟩ := (hC.2.2.2.2 _ y hb).mp hin
        have hmd := hI.2.2.2.1 y m hym hfm
        have hmj : m = d + j := by omega
        have hmin : ∀ x m', x ∉ mt → fr x = some m' → m ≤ m' := by
          intro x m' hx hm'
          have hw := hI.2.2.2.1 x m' hx hm'
          rcases Nat.lt_or_ge m' m with q | q
          · exfalso
            have hb2 := Nat.mod_lt m' (show 0 < 128 by decide)
            have hin2 : x ∈ L (m' % 128) := (hC.2.2.2.2 _ x hb2).mpr ⟨fun w => w, hx, m', hm', rfl⟩
            have he := hbef (m' - d) (by omega)
            rw [show d + (m' - d) = m' by omega] at he
            rcases hC.2.2.2.1.head hb2 with ⟨-, w2⟩ | ⟨z, zs, -, w2, hzN⟩
            · rw [w2] at hin2; cases hin2
            · rw [he] at w2
              exact absurd w2.symm (nI_m1 (by omega))
          · exact q
        have hI2 := hI.jump (d' := m) (by omega) hmin
        have hmt1 := hI.2.2.2.2.2.2.2.1 y m hfm
        have hml2 := nodup_len _ mt hI.1.1 hI.1.2
        refine ⟨fun _ => ⟨vp_in_nI hb (by omega), fun v7 e7 => ⟨by omega, by omega, ?_⟩⟩, fun q => absurd q (nI_m1 (by omega))⟩
        rw [nI_clamp (show (d + j) % 128 < 2 ^ 31 by omega), w] at e7
        subst e7
        refine hC.out l hT hM1 hM2 hym hfm (by omega) _ (fun U L' fU u2 hU => ?_)
        have hUl : CL U M := by unfold CL; rw [u2]; exact hT
        have fSU : CFr fA fB pC S U := fT.tr (fU.mono qA_f qB_f)
        rw [hUl.1, hUl.2.2.1, nI_clamp (show y < 2 ^ 31 by omega), hU.1 y hyN, hfm, hU.2.1, hml]
        refine ⟨vp_in_nI (by omega) (by omega), fun v4 e4 => ⟨vp_in_nI (by omega) (by omega), by omega, by omega, ?_⟩⟩
        have e4 : v4 = nI m := e4
        subst e4
        rw [nI_clamp (show k < 2 ^ 31 by omega), nI_1]
        -- the stand is settled
        obtain ⟨V, hV⟩ : ∃ V : CS, V = cf (ca U 26 (upd (U.2.1 26) k (nI y))) 13 (nI (k + 1)) := ⟨_, rfl⟩
        rw [← hV]
        have fSV : CFr fA fB pC S V := by rw [hV]; exact (fSU.ca _ rfl).cf _ rfl
        have hVl : CL V M := by rw [hV]; exact hUl
        have v12 : V.1 12 = nI st := by rw [hV, cf_get_ne _ _ (by decide)]; show U.1 12 = _; rw [fU.1 12 rfl]; exact t12
        have vR : V.2.2 = T.2.2 := by rw [hV]; exact u2
        have hVC : CR0 (P ^ n) V fr (mt ++ [y]) L' := by
          rw [hV]
          obtain ⟨g1, g2, g3, g4, g5⟩ := hU
          refine ⟨?_, ?_, fun k' x hk' => ?_, ?_, fun b x hb => ?_⟩
          · exact g1
          · rw [cf_get, List.length_append, List.length_singleton, hml]
          · show upd (U.2.1 26) k (nI y) k' = _
            by_cases e : k' = k
            · subst e
              rw [List.getElem?_append_right (by omega), hml, Nat.sub_self] at hk'
              cases hk'
              exact upd_same _ _ _
            · have hkl : k' < mt.length := by
                have := (List.getElem?_eq_some_iff.mp hk').1
                rw [List.length_append, List.length_singleton] at this
                omega
              rw [List.getElem?_append_left hkl] at hk'
              rw [upd_other _ _ e]
              exact g3 k' x hk'
          · exact g4
          · rw [g5 b x hb]
            exact ⟨fun w => ⟨fun z => z, by simp [w.1, w.2.1], w.2.2⟩, fun w => ⟨fun z => w.2.1 (by simp [z]), fun z => w.2.1 (by simp [z]), w.2.2⟩⟩
        have hVI := hI2.pop hym hfm
        refine k_read l (hy.fr fSV) hyN _ (fun A fA' hA => ⟨by omega, by omega, ?_⟩)
        have fSA : CFr fA fB pC S A := fSV.tr (fA'.mono lA_f lB_f)
        refine k_spread l (hy.fr fSA) hz hyN hA _ (fun B fB' hB => ?_)
        have fVB : CFr lA lB nn V B := fA'.tr (fB'.mono sA_l sB_l)
        have fSB : CFr fA fB pC S B := fSV.tr (fVB.mono lA_f lB_f)
        have hBC : CR0 (P ^ n) B fr (mt ++ [y]) L' := hVC.fr fVB
        have hBl : CL B M := hVl.fr fVB
        have b12 : B.1 12 = nI st := by rw [fVB.1 12 rfl]; exact v12
        have b25 : B.2.2.1 25 = T.2.2.1 25 := by rw [(fVB.2.1 25 rfl).2, vR]
        rw [← b25] at hR hZ
        have hyy : y ∈ mt ++ [y] := by simp
        have hlen2 : (mt ++ [y]).length = k + 1 := by rw [List.length_append, List.length_singleton, hml]
        have hlenM := mvL_len (n := n) (kd := kd) (ct := ct) (sg := sg) (x := y) (P := P) (by omega)
        -- the inner loop
        have inner : ∀ q i, i + q = (mvL n P kd ct sg y).length → ∀ (B : CS) (fr : Nat → Option Nat) (L : Nat → List Nat), CFr fA fB pC S B → CL B M → B.1 12 = nI st → SPL B n P kd ct sg y (mvL n P kd ct sg y) → MI (P ^ n) st (tgN n P kd ct sg) (fun a b => ct (5 * a + b)) fr (mt ++ [y]) m (fun s a b => s = y ∧ (a, b) ∉ (mvL n P kd ct sg y).take i) → CR0 (P ^ n) B fr (mt ++ [y]) L → RI st (tgN n P kd ct sg) (fun a b => ct (5 * a + b)) fr (B.2.2.1 25) (allE (mvL n P kd ct sg) mt ++ ((mvL n P kd ct sg y).take i).map (fun q => (y, q.1, q.2))) → (∀ x, x < P ^ n → fr x = none → B.2.2.1 25 x = 0) → fr y = some m → B121 (0 + mc) (0 + ms) B (nI m) (nI k) (nI y) (nI i) := by
          intro q
          induction q with
          | zero =>
            intro i hi B fr L fSB hBl b12 hB hI hC hR hZ hfy
            refine h121 _ _ _ _ _ _ _ ?_
            unfold cT_X6_from_121
            rw [hB.1]
            refine ⟨fun _ => ?_, fun w => absurd (nI_le (by omega) (by omega)) w⟩
            rw [← nI_succ]
            have ht : (mvL n P kd ct sg y).take i = mvL n P kd ct sg y := List.take_of_length_le (by omega)
            rw [ht] at hI hR
            refine ih (k + 1) (by omega) B fr (mt ++ [y]) L m hlen2 fSB hBl b12 (hI.shrink (fun s a b _ w => Or.inr (fun t htg => absurd ?_ w.2))) (by omega) hC ?_ hZ
            · rw [w.1] at htg
              exact mvL_mem.mpr (by rw [htg]; rfl)
            · have e : allE (mvL n P kd ct sg) (mt ++ [y]) = allE (mvL n P kd ct sg) mt ++ (mvL n P kd ct sg y).map (fun q => (y, q.1, q.2)) := by
                unfold allE
                rw [List.flatMap_append, List.flatMap_cons, List.flatMap_nil, List.append_nil]
              rw [e]; exact hR
          | succ q ihq =>
            intro i hi B fr L fSB hBl b12 hB hI hC hR hZ hfy
            obtain ⟨⟨a, b⟩, hab⟩ : ∃ p, (mvL n P kd ct sg y)[i]? = some p := ⟨_, List.getElem?_eq_getElem (by omega)⟩
            obtain ⟨t, htg, h17, h18, h19⟩ := hB.2 i a b hab
            have htN := tgN_lt (by omega) htg
            have hPab := tgP y a b t htg
            have hc100 : ct (5 * a + b) ≤ 100 := ((hy.2.2.2.2.2.2.2.1) (5 * a + b) (by omega)).2
            refine h121 _ _ _ _ _ _ _ ?_
            unfold cT_X6_from_121
            rw [hB.1, hBl.2.1, nI_clamp (show i < 2 ^ 31 by omega), nI_clamp (show y < 2 ^ 31 by omega), h18, h19, nI_add]
            refine ⟨fun w => absurd w (nI_ge (by omega) (by omega)), fun _ => ⟨vp_in_nI (by omega) (by omega), vp_in_nI (by omega) (by omega), vp_in_nI (by omega) (by omega), by omega, by omega, ?_⟩⟩
            refine k_offer l (c := fun a b => ct (5 * a + b)) (P' := fun s a' b' => s = y ∧ (a', b') ∉ (mvL n P kd ct sg y).take (i + 1)) hI hC hR (fun s a' b' w => ?_) hBl hM1 hM2 hyy hfy htg htN (cpos y a b t htg) hc100 ?_ (fun s a' b' w => ?_) _ (fun U fr' L' fU u2 hI' hC' hR' hfy' hz' => ?_)
            · rcases List.mem_append.mp w with w | w
              · have := (allE_mem.mp w).1
                exact ⟨by simp [this], fun z => hym (by rw [← z.1]; exact this)⟩
              · obtain ⟨p, hp, e⟩ := List.mem_map.mp w
                cases e
                exact ⟨hyy, fun z => z.2 hp⟩
            · show m + ct (5 * a + b) ≤ _
              rw [hlen2]; omega
            · by_cases e : (a', b') = (a, b)
              · cases e; exact Or.inr ⟨w.1, rfl, rfl⟩
              · refine Or.inl ⟨w.1, fun z => ?_⟩
                rcases (take_mem hab).mp z with z | z
                · exact w.2 z
                · exact e z
            · have fBU : CFr qA oB nn B U := fU
              rw [← nI_succ]
              refine ihq (i + 1) (by omega) U fr' L' (fSB.tr (fBU.mono qA_f oB_f)) ?_ (by rw [fBU.1 12 rfl]; exact b12) (hB.fr fBU) hI' hC' ?_ (fun x hx hn => ?_) hfy'
              · unfold CL; rw [u2]; exact hBl
              · rw [take_map hab, ← List.append_assoc]; exact hR'
              · obtain ⟨z1, z2⟩ := hz' x hn
                rw [z2]; exact hZ x hx z1
        have := inner (mvL n P kd ct sg y).length 0 (by omega) B fr L' fSB hBl b12 hB (hVI.shrink (fun s a b _ w => Or.inl ⟨w, by simp⟩)) hBC (by rw [List.take_zero, List.map_nil, List.append_nil]; exact hR) hZ hfm
        exact this
  -- the start
  have iS : vp_in (nI st) M := vp_in_nI (by omega) (by omega)
  have hbq : BQ 128 (P ^ n) (T.2.1 23) (T.2.1 27) (T.2.1 28) (fun _ => []) := ⟨fun b hb => h23 b hb, fun _ _ => List.nodup_nil, fun b c x _ _ hx => (by cases hx), fun b x _ hx => by cases hx⟩
  refine c_X6_offer l T _ _ _ _ ?_
  intro C39 C50 g39 g50
  unfold cT_X6_offer_e
  rw [hT.1, hT.2.1, nI_clamp (show st < 2 ^ 31 by omega), (h24 st hst).1]
  refine ⟨iS, fun v5 e5 => ?_⟩
  subst e5
  refine ⟨fun _ => ⟨fun _ => g39 _ _ ?_, fun q => absurd rfl q⟩, fun q => absurd q (by decide)⟩
  unfold cT_X6_offer_39
  refine ⟨fun _ => g50 _ ?_, fun q => absurd rfl q⟩
  unfold cT_X6_offer_50
  rw [hT.1, hT.2.1, nI_clamp (show st < 2 ^ 31 by omega)]
  refine ⟨iS, iS, ?_⟩
  have hnew : CRx (P ^ n) (cj (ca T 24 (upd (T.2.1 24) st 0)) 25 (vp_updL (T.2.2.1 25) st 1)) (va_up (fun _ => none) st (some 0)) [] (fun _ => []) (fun x => x = st) := by
    refine ⟨fun x hx => ?_, h13, fun k x hk => (by cases hk), ?_, fun b x hb => ⟨fun q => (by cases q), fun q => ?_⟩⟩
    · show upd (T.2.1 24) st 0 x = _
      by_cases e : x = st
      · subst e; rw [upd_same, va_up_same]; rfl
      · rw [upd_other _ _ e, va_up_other _ _ e]; exact (h24 x hx).1
    · exact hbq
    · obtain ⟨m, hm, -⟩ := q.2.2
      rw [va_up_other _ _ q.1] at hm
      cases hm
  refine hnew.inn l (LA := M) hT hM1 hM2 hst List.not_mem_nil (va_up_same _ _ _) (by decide) _ (fun U L' fU u2 hU => ?_)
  have u25 : U.2.2.1 25 = vp_updL (T.2.2.1 25) st 1 := by rw [u2]; exact cj_get _ _ _
  have fTU : CFr qA oB nn T U := ((CFr.rf.ca _ rfl).cj _ rfl).tr (fU.mono (fun k hk => hk) (fun k hk => by unfold oB at hk; simp only [Bool.or_eq_false_iff] at hk; exact hk.1.1))
  refine outer (P ^ n) 0 (by omega) U _ [] L' 0 rfl (fST.tr (fTU.mono qA_f oB_f)) ?_ (by rw [fTU.1 12 rfl]; exact t12) (MI.begin hst) (by omega) hU ?_ (fun x hx hn => ?_)
  · unfold CL; rw [u2]; exact hT
  · rw [u25]
    show RI _ _ _ _ _ []
    exact RI.begin
  · rw [u25]
    have hxs : x ≠ st := fun e => by rw [e, va_up_same] at hn; cases hn
    unfold vp_updL
    rw [if_neg hxs]
    exact (h24 x hx).2
end
section
-- moves along cheapest rows to a goal
def nearX (tg : Nat → Nat → Nat → Option Nat) (c : Nat → Nat → Nat) (fr : Nat → Option Nat) (x a b t : Nat) : Prop := tg x a b = some t ∧ ∃ k, fr x = some k ∧ fr t = some (k + c a b)
def GK (tg : Nat → Nat → Nat → Option Nat) (c : Nat → Nat → Nat) (fr : Nat → Option Nat) (g : Nat) : Nat → Nat → Prop
  | 0, x => x = g
  | k + 1, x => x = g ∨ ∃ a b t, nearX tg c fr x a b t ∧ GK tg c fr g k t
def Good (tg : Nat → Nat → Nat → Option Nat) (c : Nat → Nat → Nat) (fr : Nat → Option Nat) (g x : Nat) : Prop := ∃ k, GK tg c fr g k x
section GoodS
variable {N st g : Nat} {tg : Nat → Nat → Nat → Option Nat} {c : Nat → Nat → Nat} {fr : Nat → Option Nat}
theorem Good.iff {x : Nat} : Good tg c fr g x ↔ x = g ∨ ∃ a b t, nearX tg c fr x a b t ∧ Good tg c fr g t := by
  constructor
  · rintro ⟨k, h⟩
    cases k with
    | zero => exact Or.inl h
    | succ k =>
      rcases h with h | ⟨a, b, t, h1, h2⟩
      · exact Or.inl h
      · exact Or.inr ⟨a, b, t, h1, k, h2⟩
  · rintro (h | ⟨a, b, t, h1, k, h2⟩)
    · exact ⟨0, h⟩
    · exact ⟨k + 1, Or.inr ⟨a, b, t, h1, h2⟩⟩
theorem Good.le {mg : Nat} (hg : fr g = some mg) : ∀ k x, GK tg c fr g k x → ∃ m, fr x = some m ∧ m ≤ mg := by
  intro k
  induction k with
  | zero => intro x h; rw [show x = g from h]; exact ⟨mg, hg, Nat.le_refl _⟩
  | succ k ih =>
    rintro x (h | ⟨a, b, t, ⟨h1, m, h2, h3⟩, h4⟩)
    · rw [h]; exact ⟨mg, hg, Nat.le_refl _⟩
    · obtain ⟨m', e, hm⟩ := ih t h4
      rw [h3] at e
      cases e
      exact ⟨m, h2, by omega⟩
theorem Good.lt {mg x : Nat} (hg : fr g = some mg) (hc : ∀ s a b t, tg s a b = some t → 0 < c a b) (h : Good tg c fr g x) (hx : x ≠ g) : ∃ m, fr x = some m ∧ m < mg := by
  rcases Good.iff.mp h with q | ⟨a, b, t, ⟨h1, m, h2, h3⟩, k, h4⟩
  · exact absurd q hx
  · obtain ⟨m', e, hm⟩ := Good.le hg k t h4
    rw [h3] at e
    cases e
    have := hc x a b t h1
    exact ⟨m, h2, by omega⟩
/-- the start leads on to each stand that has a label -/
theorem Good.start (h : DS N st tg c fr) (hc : ∀ s a b t, tg s a b = some t → 0 < c a b) : ∀ M x m, m ≤ M → fr x = some m → Good tg c fr g x → Good tg c fr g st := by
  intro M
  induction M with
  | zero =>
    intro x m hm hx hG
    rcases h.2.2.1 x m hx with ⟨e, -⟩ | ⟨s, a, b, k, q1, q2, q3⟩
    · rw [← e]; exact hG
    · have := hc s a b x q1; omega
  | succ M ih =>
    intro x m hm hx hG
    rcases h.2.2.1 x m hx with ⟨e, -⟩ | ⟨s, a, b, k, q1, q2, q3⟩
    · rw [← e]; exact hG
    · have := hc s a b x q1
      exact ih s k (by omega) q2 (Good.iff.mpr (Or.inr ⟨a, b, x, ⟨q1, k, q2, by rw [hx, q3]⟩, hG⟩))
end GoodS
/-- one pair of pegs ahead of another one -/
def lexLt (a b a' b' : Nat) : Prop := a < a' ∨ (a = a' ∧ b < b')
/-- the first move that leads on -/
def fstG (tg : Nat → Nat → Nat → Option Nat) (c : Nat → Nat → Nat) (fr : Nat → Option Nat) (g x a b t : Nat) : Prop := nearX tg c fr x a b t ∧ Good tg c fr g t ∧ ∀ a' b', lexLt a' b' a b → ¬ ∃ t', nearX tg c fr x a' b' t' ∧ Good tg c fr g t'
theorem fstG.uniq {tg : Nat → Nat → Nat → Option Nat} {c : Nat → Nat → Nat} {fr : Nat → Option Nat} {g x a b t a' b' t' : Nat} (h1 : fstG tg c fr g x a b t) (h2 : fstG tg c fr g x a' b' t') : a = a' ∧ b = b' ∧ t = t' := by
  have q1 : ¬ lexLt a b a' b' := fun q => h2.2.2 a b q ⟨t, h1.1, h1.2.1⟩
  have q2 : ¬ lexLt a' b' a b := fun q => h1.2.2 a' b' q ⟨t', h2.1, h2.2.1⟩
  unfold lexLt at q1 q2
  have e1 : a = a' := by omega
  have e2 : b = b' := by omega
  subst e1
  subst e2
  exact ⟨rfl, rfl, Option.some.inj (h1.1.1.symm.trans h2.1.1)⟩
/-- the first row's moves, from x on -/
def PL (tg : Nat → Nat → Nat → Option Nat) (c : Nat → Nat → Nat) (fr : Nat → Option Nat) (g : Nat) : List Nat → Nat → Prop
  | [], x => x = g
  | q :: qs, x => x ≠ g ∧ ∃ a b t, fstG tg c fr g x a b t ∧ q = 10 * a + b ∧ PL tg c fr g qs t
theorem PL.uniq {tg : Nat → Nat → Nat → Option Nat} {c : Nat → Nat → Nat} {fr : Nat → Option Nat} {g : Nat} : ∀ qs rs x, PL tg c fr g qs x → PL tg c fr g rs x → qs = rs := by
  intro qs
  induction qs with
  | nil =>
    intro rs x h1 h2
    cases rs with
    | nil => rfl
    | cons r rs => exact absurd h1 h2.1
  | cons q qs ih =>
    intro rs x h1 h2
    cases rs with
    | nil => exact absurd h2 h1.1
    | cons r rs =>
      obtain ⟨-, a, b, t, f1, e1, p1⟩ := h1
      obtain ⟨-, a', b', t', f2, e2, p2⟩ := h2
      obtain ⟨w1, w2, w3⟩ := f1.uniq f2
      subst w1
      subst w2
      subst w3
      rw [e1, e2, ih rs t p1 p2]
-- the moves' order
theorem mvB_sorted {g : Nat → Nat → Bool} {a : Nat} : ∀ k b, (mvB g a k b).Pairwise (fun p q => lexLt p.1 p.2 q.1 q.2) := by
  intro k
  induction k with
  | zero => intro b; exact List.Pairwise.nil
  | succ k ih =>
    intro b
    unfold mvB
    split
    · refine List.Pairwise.cons (fun q hq => ?_) (ih (b + 1))
      obtain ⟨h1, h2, -⟩ := (mvB_mem k (b + 1) q.1 q.2).mp hq
      exact Or.inr ⟨h1.symm, by show b < q.2; omega⟩
    · exact ih (b + 1)
theorem mvA_sorted {g : Nat → Nat → Bool} {P : Nat} : ∀ k a, (mvA g P k a).Pairwise (fun p q => lexLt p.1 p.2 q.1 q.2) := by
  intro k
  induction k with
  | zero => intro a; exact List.Pairwise.nil
  | succ k ih =>
    intro a
    unfold mvA
    rw [List.pairwise_append]
    refine ⟨mvB_sorted P 0, ih (a + 1), fun p hp q hq => ?_⟩
    obtain ⟨h1, -⟩ := (mvB_mem P 0 p.1 p.2).mp hp
    obtain ⟨h2, -⟩ := (mvA_mem k (a + 1) q.1 q.2).mp hq
    exact Or.inl (by omega)
theorem mvL_idx {n P : Nat} {kd ct sg : Nat → Nat} {x i j a b a' b' : Nat} (h1 : (mvL n P kd ct sg x)[i]? = some (a, b)) (h2 : (mvL n P kd ct sg x)[j]? = some (a', b')) (h : lexLt a' b' a b) : j < i := by
  have hs : (mvL n P kd ct sg x).Pairwise (fun p q => lexLt p.1 p.2 q.1 q.2) := mvA_sorted P 0
  rcases Nat.lt_or_ge j i with q | q
  · exact q
  · exfalso
    rcases Nat.lt_or_eq_of_le q with w | w
    · obtain ⟨li, ei⟩ := List.getElem?_eq_some_iff.mp h1
      obtain ⟨lj, ej⟩ := List.getElem?_eq_some_iff.mp h2
      have := (List.pairwise_iff_getElem.mp hs) i j li lj w
      rw [ei, ej] at this
      have this : lexLt a b a' b' := this
      unfold lexLt at h this
      omega
    · subst w
      rw [h1] at h2
      cases h2
      unfold lexLt at h
      omega
/-- least costs are there -/
def Pt (st : Nat) (tg : Nat → Nat → Nat → Option Nat) (c : Nat → Nat → Nat) : Nat → Nat → Nat → Prop
  | 0, m, x => x = st ∧ m = 0
  | k + 1, m, x => ∃ s a b m', Pt st tg c k m' s ∧ tg s a b = some x ∧ m = m' + c a b
theorem DS.exist {N st : Nat} {tg : Nat → Nat → Nat → Option Nat} {c : Nat → Nat → Nat} (hst : st < N) (htg : ∀ s a b t, tg s a b = some t → t < N) : ∃ fr, DS N st tg c fr := by
  have h : ∀ x, ∃ o : Option Nat, (o = none ∧ ¬ ∃ m k, Pt st tg c k m x) ∨ (∃ m, o = some m ∧ (∃ k, Pt st tg c k m x) ∧ ∀ j, j < m → ¬ ∃ k, Pt st tg c k j x) := by
    intro x
    by_cases q : ∃ m k, Pt st tg c k m x
    · obtain ⟨m, h1, h2⟩ := pk_least (fun m => ∃ k, Pt st tg c k m x) q
      exact ⟨some m, Or.inr ⟨m, rfl, h1, h2⟩⟩
    · exact ⟨none, Or.inl ⟨rfl, q⟩⟩
  obtain ⟨fr, hf⟩ := Classical.axiomOfChoice h
  have least : ∀ x m k, Pt st tg c k m x → ∃ m', fr x = some m' ∧ m' ≤ m := by
    intro x m k hp
    rcases hf x with ⟨-, q⟩ | ⟨m', e, -, q⟩
    · exact absurd ⟨m, k, hp⟩ q
    · refine ⟨m', e, ?_⟩
      rcases Nat.lt_or_ge m m' with w | w
      · exact absurd ⟨k, hp⟩ (q m w)
      · exact w
  have isP : ∀ x m, fr x = some m → ∃ k, Pt st tg c k m x := by
    intro x m e
    rcases hf x with ⟨q, -⟩ | ⟨m', e', q, -⟩
    · rw [e] at q; cases q
    · rw [e] at e'; cases e'; exact q
  refine ⟨fr, ?_, fun x hx => ?_, fun x m hm => ?_, fun s k a b t hs ht => ?_⟩
  · obtain ⟨m, e, hm⟩ := least st 0 0 ⟨rfl, rfl⟩
    rw [e, show m = 0 by omega]
  · obtain ⟨m, e⟩ := Option.ne_none_iff_exists'.mp hx
    obtain ⟨k, hk⟩ := isP x m e
    cases k with
    | zero => rw [hk.1]; exact hst
    | succ k => obtain ⟨s, a, b, m', -, q, -⟩ := hk; exact htg s a b x q
  · obtain ⟨k, hk⟩ := isP x m hm
    cases k with
    | zero => exact Or.inl hk
    | succ k =>
      obtain ⟨s, a, b, m', q1, q2, q3⟩ := hk
      obtain ⟨m2, e2, w2⟩ := least s m' k q1
      obtain ⟨k2, hk2⟩ := isP s m2 e2
      obtain ⟨m3, e3, w3⟩ := least x (m2 + c a b) (k2 + 1) ⟨s, a, b, m2, hk2, q2, rfl⟩
      rw [hm] at e3
      cases e3
      exact Or.inr ⟨s, a, b, m2, q2, e2, by omega⟩
  · obtain ⟨k2, hk2⟩ := isP s k hs
    exact least t (k + c a b) (k2 + 1) ⟨s, a, b, k, hk2, ht, rfl⟩
/-- the first of some pairs below P -/
theorem lex_first (P : Nat) (Q : Nat → Nat → Prop) (h : ∃ a b, a < P ∧ b < P ∧ Q a b) : ∃ a b, a < P ∧ b < P ∧ Q a b ∧ ∀ a' b', a' < P → b' < P → lexLt a' b' a b → ¬ Q a' b' := by
  obtain ⟨a, ⟨ha, b0, hb0, hq0⟩, hmin⟩ := pk_least (fun a => a < P ∧ ∃ b, b < P ∧ Q a b) (by obtain ⟨a, b, h1, h2, h3⟩ := h; exact ⟨a, h1, b, h2, h3⟩)
  obtain ⟨b, ⟨hb, hq⟩, hmb⟩ := pk_least (fun b => b < P ∧ Q a b) ⟨b0, hb0, hq0⟩
  refine ⟨a, b, ha, hb, hq, fun a' b' h1 h2 hl w => ?_⟩
  rcases hl with q | ⟨q1, q2⟩
  · exact hmin a' q ⟨h1, b', h2, w⟩
  · subst q1; exact hmb b' q2 ⟨h2, w⟩
/-- the first row is there -/
theorem PL.exist {N P g mg : Nat} {tg : Nat → Nat → Nat → Option Nat} {c : Nat → Nat → Nat} {fr : Nat → Option Nat} (hc : ∀ s a b t, tg s a b = some t → 0 < c a b) (htP : ∀ s a b t, tg s a b = some t → a < P ∧ b < P) (hg : fr g = some mg) : ∀ M x m, fr x = some m → mg ≤ m + M → Good tg c fr g x → ∃ qs, PL tg c fr g qs x := by
  intro M
  induction M with
  | zero =>
    intro x m hx hM hG
    by_cases e : x = g
    · exact ⟨[], e⟩
    · obtain ⟨m', q1, q2⟩ := hG.lt hg hc e
      rw [hx] at q1
      cases q1
      omega
  | succ M ih =>
    intro x m hx hM hG
    by_cases e : x = g
    · exact ⟨[], e⟩
    · rcases Good.iff.mp hG with q | ⟨a, b, t, h1, h2⟩
      · exact absurd q e
      · have hab := htP x a b t h1.1
        obtain ⟨a, b, ha, hb, ⟨t, h1, h2⟩, hmin⟩ := lex_first P (fun a b => ∃ t, nearX tg c fr x a b t ∧ Good tg c fr g t) ⟨a, b, hab.1, hab.2, t, h1, h2⟩
        obtain ⟨-, k, hk, ht⟩ := id h1
        rw [hx] at hk
        cases hk
        have := hc x a b t h1.1
        obtain ⟨qs, hqs⟩ := ih t _ ht (by omega) h2
        refine ⟨(10 * a + b) :: qs, e, a, b, t, ⟨h1, h2, fun a' b' hl w => ?_⟩, rfl, hqs⟩
        obtain ⟨t', w1, w2⟩ := w
        have := htP x a' b' t' w1.1
        exact hmin a' b' this.1 this.2 hl ⟨t', w1, w2⟩
/-- the room that the plan's row has behind L moves -/
def capA (C0 : Nat) : Nat → Nat
  | 0 => C0
  | L + 1 => if L = capA C0 L then 2 * L else capA C0 L
theorem capA_ge {C0 : Nat} (h : 1 ≤ C0) : ∀ L, C0 ≤ capA C0 L ∧ L ≤ capA C0 L := by
  intro L
  induction L with
  | zero => exact ⟨Nat.le_refl _, Nat.zero_le _⟩
  | succ L ih =>
    unfold capA
    split
    · next e => omega
    · next e => omega
theorem capA_mono {C0 : Nat} (h : 1 ≤ C0) (L : Nat) : capA C0 L ≤ capA C0 (L + 1) := by
  have := capA_ge h L
  conv => rhs; unfold capA
  split <;> omega
theorem capA_b {C0 B : Nat} (h : C0 ≤ B) : ∀ L, 2 * L ≤ B → capA C0 (L + 1) ≤ B := by
  intro L
  induction L with
  | zero =>
    intro _
    unfold capA
    split
    · omega
    · exact h
  | succ L ih =>
    intro hL
    have := ih (by omega)
    conv => lhs; unfold capA
    split
    · omega
    · exact this
end
section
-- the class: moves that lead on, the plan
theorem lab_eq {o : Option Nat} {m : Nat} (h : ∀ k, o = some k → k < 2 ^ 31) (hm : m < 2 ^ 31) : lab o = nI m ↔ o = some m := by
  cases o with
  | none => exact ⟨fun q => absurd q.symm (nI_m1 hm), fun q => by cases q⟩
  | some k =>
    constructor
    · intro q
      rw [(nI_eq (h k rfl) hm).mp q]
    · intro q; cases q; rfl
theorem k_first (l : Launch) {T : CS} {n P : Nat} {kd ct sg : Nat → Nat} (hy : CY T n P kd ct sg) (hz : ∀ a, a < 5 → ct (5 * a + a) = 0) {x M m : Nat} (hx : x < P ^ n) (hl : CL T M) (hM1 : P ^ n ≤ M) (hM2 : M ≤ 20000) {fr : Nat → Option Nat} (h24 : ∀ z, z < P ^ n → T.2.1 24 z = lab (fr z)) (hfb : ∀ z k, fr z = some k → k ≤ 2000000) (hm : fr x = some m) (post : Int32 → CS → Prop)
    (h0 : (∀ (i a b t : Nat), (mvL n P kd ct sg x)[i]? = some (a, b) → tgN n P kd ct sg x a b = some t → ¬ (T.2.1 29 t = 1 ∧ fr t = some (m + ct (5 * a + b)))) → ∀ U, CFr lA lB nn T U → post (-1) U)
    (h1 : ∀ (i a b t : Nat), (mvL n P kd ct sg x)[i]? = some (a, b) → tgN n P kd ct sg x a b = some t → T.2.1 29 t = 1 → fr t = some (m + ct (5 * a + b)) → (∀ (j a' b' t' : Nat), j < i → (mvL n P kd ct sg x)[j]? = some (a', b') → tgN n P kd ct sg x a' b' = some t' → ¬ (T.2.1 29 t' = 1 ∧ fr t' = some (m + ct (5 * a' + b')))) → ∀ U, CFr lA lB nn T U → U.2.1 17 i = nI (10 * a + b) → U.2.1 18 i = nI t → post (nI i) U) : cX_X6_firstLeading l T (nI x) post := by
  have hP2 := hy.2.2.2.1
  refine c_X6_firstLeading l T _ post ?_
  intro B14 B70 h14 h70
  unfold cT_X6_firstLeading_e
  refine k_read l hy hx _ (fun A fA' hA => ?_)
  refine k_spread l (hy.fr fA') hz hx hA _ (fun U fU' hU => ?_)
  have fU : CFr lA lB nn T U := fA'.tr (fU'.mono sA_l sB_l)
  have hlU := hl.fr fU
  have hlen := mvL_len (n := n) (kd := kd) (ct := ct) (sg := sg) (x := x) (P := P) (by omega)
  have key : ∀ r i, i + r = (mvL n P kd ct sg x).length → (∀ (j a' b' t' : Nat), j < i → (mvL n P kd ct sg x)[j]? = some (a', b') → tgN n P kd ct sg x a' b' = some t' → ¬ (T.2.1 29 t' = 1 ∧ fr t' = some (m + ct (5 * a' + b')))) → B14 U (nI i) := by
    intro r
    induction r with
    | zero =>
      intro i hi hno
      refine h14 _ _ ?_
      unfold cT_X6_firstLeading_14
      rw [hU.1]
      refine ⟨fun _ => h0 (fun j a b t hj ht => hno j a b t ?_ hj ht) U fU, fun q => absurd (nI_le (by omega) (by omega)) q⟩
      have := (List.getElem?_eq_some_iff.mp hj).1
      omega
    | succ r ih =>
      intro i hi hno
      obtain ⟨⟨a, b⟩, hab⟩ : ∃ p, (mvL n P kd ct sg x)[i]? = some p := ⟨_, List.getElem?_eq_getElem (by omega)⟩
      obtain ⟨t, htg, e17, e18, e19⟩ := hU.2 i a b hab
      have htN := tgN_lt (by omega) htg
      have hab5 : a < P ∧ b < P := by
        unfold tgN at htg
        split at htg
        · next w => exact ⟨w.1, w.2.1⟩
        · cases htg
      have hc100 : ct (5 * a + b) ≤ 100 := (hy.2.2.2.2.2.2.2.1 (5 * a + b) (by omega)).2
      have nxt : ¬ (T.2.1 29 t = 1 ∧ fr t = some (m + ct (5 * a + b))) → B70 U (nI i) := by
        intro hn
        refine h70 _ _ ?_
        unfold cT_X6_firstLeading_70
        rw [← nI_succ]
        refine ih (i + 1) (by omega) (fun j a' b' t' hj h2 h3 => ?_)
        by_cases e : j = i
        · subst e
          rw [hab] at h2
          cases h2
          rw [htg] at h3
          cases h3
          exact hn
        · exact hno j a' b' t' (by omega) h2 h3
      refine h14 _ _ ?_
      unfold cT_X6_firstLeading_14
      rw [hU.1, hlU.2.2.2.2.2, hlU.1, nI_clamp (show i < 2 ^ 31 by omega), e18, e19]
      refine ⟨fun q => absurd q (nI_ge (by omega) (by omega)), fun _ => ⟨vp_in_nI (by omega) (by omega), fun v e => ?_⟩⟩
      subst e
      rw [nI_clamp (show t < 2 ^ 31 by omega), nI_clamp (show x < 2 ^ 31 by omega), (fU.2.1 29 rfl).1, (fU.2.1 24 rfl).1, h24 t htN, h24 x hx, hm]
      have hmb := hfb x m hm
      have hle : lab (fr t) = nI m + nI (ct (5 * a + b)) ↔ fr t = some (m + ct (5 * a + b)) := by
        rw [nI_add]
        exact lab_eq (fun k hk => by have := hfb t k hk; omega) (by omega)
      refine ⟨vp_in_nI (by omega) (by omega), fun c => nxt (fun q => c q.1), fun c => ⟨vp_in_nI (by omega) (by omega), vp_in_nI (by omega) (by omega), vp_in_nI (by omega) (by omega), fun c2 => nxt (fun q => c2 (hle.mpr q.2)), fun c2 => ?_⟩⟩
      exact h1 i a b t hab htg c (hle.mp c2) hno U fU e17 e18
  exact key (mvL n P kd ct sg x).length 0 (by omega) (fun j a b t hj => absurd hj (Nat.not_lt_zero _))
/-- the frame of marking: the look and the marks -/
def gB : Nat → Bool := fun k => lB k || decide (k = 29)
theorem lB_g (k : Nat) (h : gB k = false) : lB k = false := by
  unfold gB at h
  simp only [Bool.or_eq_false_iff] at h
  exact h.1
theorem idx_of {mt : List Nat} {x : Nat} (h : x ∈ mt) : ∃ i : Nat, mt[i]? = some x := by
  obtain ⟨i, hi, e⟩ := List.getElem_of_mem h
  exact ⟨i, by rw [List.getElem?_eq_getElem hi, e]⟩
theorem nodup_idx {mt : List Nat} (h : mt.Nodup) {i j x : Nat} (h1 : mt[i]? = some x) (h2 : mt[j]? = some x) : i = j := by
  obtain ⟨li, ei⟩ := List.getElem?_eq_some_iff.mp h1
  obtain ⟨lj, ej⟩ := List.getElem?_eq_some_iff.mp h2
  rcases Nat.lt_trichotomy i j with q | q | q
  · have := (List.pairwise_iff_getElem.mp h) i j li lj q
    rw [ei, ej] at this
    exact absurd rfl this
  · exact q
  · have := (List.pairwise_iff_getElem.mp h) j i lj li q
    rw [ei, ej] at this
    exact absurd rfl this
set_option maxHeartbeats 1000000 in
theorem k_mark (l : Launch) {T : CS} {n P : Nat} {kd ct sg : Nat → Nat} (hy : CY T n P kd ct sg) (hz : ∀ a, a < 5 → ct (5 * a + a) = 0) {g st M mg : Nat} (hg : g < P ^ n) (hl : CL T M) (hM1 : P ^ n ≤ M) (hM2 : M ≤ 20000) {fr : Nat → Option Nat} {mt : List Nat} (hD : DS (P ^ n) st (tgN n P kd ct sg) (fun a b => ct (5 * a + b)) fr) (hnd : mt.Nodup) (hmem : ∀ x, x ∈ mt ↔ fr x ≠ none) (hsort : mt.Pairwise fun x y => ∀ m k, fr x = some m → fr y = some k → m ≤ k) (h24 : ∀ z, z < P ^ n → T.2.1 24 z = lab (fr z)) (hfb : ∀ z k, fr z = some k → k ≤ 2000000) (h13 : T.1 13 = nI mt.length) (h26 : ∀ k x, mt[k]? = some x → T.2.1 26 k = nI x) (hmg : fr g = some mg) (post : CS → Prop)
    (k : ∀ U, CFr lA gB nn T U → (∀ z, z < P ^ n → (U.2.1 29 z = 1 ↔ Good (tgN n P kd ct sg) (fun a b => ct (5 * a + b)) fr g z)) → post U) : cX_X6_markLeading l T (nI g) post := by
  have hP2 := hy.2.2.2.1
  have cpos : ∀ s a b t, tgN n P kd ct sg s a b = some t → 0 < ct (5 * a + b) := fun s a b t h => Nat.pos_of_ne_zero (tgN_cost h)
  have hmlen : mt.length ≤ P ^ n := nodup_len _ mt hnd (fun x hx => hD.2.1 x ((hmem x).mp hx))
  refine c_X6_markLeading l T _ post ?_
  intro B23 B73 h23 h73
  unfold cT_X6_markLeading_e
  rw [hl.2.2.2.2.2, nI_clamp (show g < 2 ^ 31 by omega), h13]
  refine ⟨by omega, vp_in_nI (by omega) (by omega), fun v e => ?_⟩
  have key : ∀ q, q ≤ mt.length → ∀ U, CFr lA gB nn T U → (∀ z, z < P ^ n → (U.2.1 29 z = 1 ↔ Good (tgN n P kd ct sg) (fun a b => ct (5 * a + b)) fr g z ∧ (z = g ∨ ∃ i, q ≤ i ∧ mt[i]? = some z))) → B23 U (nI q - 1) := by
    intro q
    induction q with
    | zero =>
      intro _ U fU hU
      refine h23 _ _ ?_
      unfold cT_X6_markLeading_23
      refine ⟨fun _ => k U fU (fun z hz => ?_), fun w => absurd (by decide) w⟩
      rw [hU z hz]
      refine ⟨fun w => w.1, fun w => ⟨w, Or.inr ?_⟩⟩
      obtain ⟨kk, hk⟩ := id w
      obtain ⟨m, e, -⟩ := Good.le hmg kk z hk
      obtain ⟨i, hi⟩ := idx_of ((hmem z).mpr (by rw [e]; exact Option.some_ne_none m))
      exact ⟨i, Nat.zero_le _, hi⟩
    | succ q ih =>
      intro hq U fU hU
      obtain ⟨y, hyq⟩ : ∃ y, mt[q]? = some y := ⟨_, List.getElem?_eq_getElem (by omega)⟩
      have hymt : y ∈ mt := List.mem_of_getElem? hyq
      obtain ⟨my, hmy⟩ := Option.ne_none_iff_exists'.mp ((hmem y).mp hymt)
      have hyN := hD.2.1 y (by rw [hmy]; exact Option.some_ne_none my)
      have hyT := hy.fr fU
      have hlU : CL U M := hl.fr fU
      have u26 : U.2.1 26 q = nI y := by rw [(fU.2.1 26 rfl).1]; exact h26 q y hyq
      have u24 : ∀ z, z < P ^ n → U.2.1 24 z = lab (fr z) := by rw [(fU.2.1 24 rfl).1]; exact h24
      have hmyb := hfb y my hmy
      have hmgb := hfb g mg hmg
      -- on to the next one ahead
      have nxt : ∀ V, CFr lA gB nn T V → (∀ z, z < P ^ n → (V.2.1 29 z = 1 ↔ Good (tgN n P kd ct sg) (fun a b => ct (5 * a + b)) fr g z ∧ (z = g ∨ ∃ i, q ≤ i ∧ mt[i]? = some z))) → B73 V (nI q) := by
        intro V fV hV
        refine h73 _ _ ?_
        unfold cT_X6_markLeading_73
        rw [i_sub1]
        exact ih (by omega) V fV hV
      have same : ∀ V, CFr lA gB nn T V → V.2.1 29 = U.2.1 29 → ¬ (Good (tgN n P kd ct sg) (fun a b => ct (5 * a + b)) fr g y ∧ y ≠ g) → B73 V (nI q) := by
        intro V fV v29 hn
        refine nxt V fV (fun z hz => ?_)
        rw [v29, hU z hz]
        constructor
        · rintro ⟨w1, w2⟩
          refine ⟨w1, w2.imp id ?_⟩
          rintro ⟨i, hi, e⟩
          exact ⟨i, by omega, e⟩
        · rintro ⟨w1, w2⟩
          refine ⟨w1, ?_⟩
          rcases w2 with w2 | ⟨i, hi, e⟩
          · exact Or.inl w2
          · by_cases ei : i = q
            · subst ei
              rw [hyq] at e
              cases e
              by_cases eg : y = g
              · exact Or.inl eg
              · exact absurd ⟨w1, eg⟩ hn
            · exact Or.inr ⟨i, by omega, e⟩
      refine h23 _ _ ?_
      unfold cT_X6_markLeading_23
      rw [nI_pred, hlU.2.2.1, hlU.1, nI_clamp (show q < 2 ^ 31 by omega), nI_clamp (show g < 2 ^ 31 by omega), u26, u24 g hg, hmg]
      refine ⟨fun w => absurd w (nI_pos (by omega)), fun _ => ⟨vp_in_nI (by omega) (by omega), fun v5 e5 => ?_⟩⟩
      subst e5
      rw [nI_clamp (show y < 2 ^ 31 by omega), u24 y hyN, hmy]
      refine ⟨vp_in_nI (by omega) (by omega), vp_in_nI (by omega) (by omega), fun c => ?_, fun c => ?_⟩
      · have c : mg ≤ my := (nI_leI (by omega) (by omega)).mp c
        refine same U fU rfl (fun w => ?_)
        obtain ⟨m', e, hlt⟩ := w.1.lt hmg (c := fun a b => ct (5 * a + b)) cpos w.2
        rw [hmy] at e
        cases e
        omega
      · have c : my < mg := by
          rcases Nat.lt_or_ge my mg with w | w
          · exact w
          · exact absurd (nI_le w (by omega)) c
        have hyg : y ≠ g := fun e => by rw [e, hmg] at hmy; cases hmy; omega
        -- a near stand is marked just if it is good
        have nearOk : ∀ a b t, tgN n P kd ct sg y a b = some t → fr t = some (my + ct (5 * a + b)) → (U.2.1 29 t = 1 ↔ Good (tgN n P kd ct sg) (fun a b => ct (5 * a + b)) fr g t) := by
          intro a b t htg hft
          rw [hU t (tgN_lt (by omega) htg)]
          refine ⟨fun w => w.1, fun w => ⟨w, Or.inr ?_⟩⟩
          obtain ⟨i, hi⟩ := idx_of ((hmem t).mpr (by rw [hft]; exact Option.some_ne_none _))
          refine ⟨i, ?_, hi⟩
          have := cpos y a b t htg
          rcases Nat.lt_or_ge q i with w | w
          · omega
          · exfalso
            rcases Nat.lt_or_eq_of_le w with w | w
            · obtain ⟨li, ei⟩ := List.getElem?_eq_some_iff.mp hi
              obtain ⟨lj, ej⟩ := List.getElem?_eq_some_iff.mp hyq
              have := (List.pairwise_iff_getElem.mp hsort) i q li lj w
              rw [ei, ej] at this
              have := this _ _ hft hmy
              omega
            · subst w
              rw [hyq] at hi
              cases hi
              rw [hmy] at hft
              have := Option.some.inj hft
              omega
        refine k_first l hyT hz hyN hlU hM1 hM2 u24 hfb hmy _ (fun hno V fV => ⟨fun _ => ?_, fun w => absurd rfl w⟩) (fun i a b t hab htg hlead hft _ V fV _ _ => ⟨fun w => absurd w (nI_m1 ?_), fun _ => ?_⟩)
        · refine same V (fU.tr (fV.mono (fun k hk => hk) lB_g)) (fV.2.1 29 rfl).1 (fun w => ?_)
          rcases Good.iff.mp w.1 with q1 | ⟨a, b, t, ⟨h1, k1, h2, h3⟩, h4⟩
          · exact w.2 q1
          · rw [hmy] at h2
            cases h2
            obtain ⟨i, hi⟩ : ∃ i, (mvL n P kd ct sg y)[i]? = some (a, b) := by
              have : (a, b) ∈ mvL n P kd ct sg y := mvL_mem.mpr (by rw [h1]; rfl)
              obtain ⟨i, hi, e⟩ := List.getElem_of_mem this
              exact ⟨i, by rw [List.getElem?_eq_getElem hi, e]⟩
            exact hno i a b t hi h1 ⟨(nearOk a b t h1 h3).mpr h4, h3⟩
        · have := (List.getElem?_eq_some_iff.mp hab).1
          have := mvL_len (n := n) (kd := kd) (ct := ct) (sg := sg) (x := y) (P := P) (by omega)
          omega
        · have hlV : CL V M := hlU.fr fV
          rw [hlV.2.2.2.2.2]
          refine ⟨vp_in_nI (by omega) (by omega), ?_⟩
          have fTV : CFr lA gB nn T V := fU.tr (fV.mono (fun k hk => hk) lB_g)
          refine nxt _ (fTV.ca _ rfl) (fun z hz => ?_)
          rw [ca_get]
          have hGy : Good (tgN n P kd ct sg) (fun a b => ct (5 * a + b)) fr g y := Good.iff.mpr (Or.inr ⟨a, b, t, ⟨htg, my, hmy, hft⟩, (nearOk a b t htg hft).mp hlead⟩)
          by_cases e : z = y
          · subst e
            rw [upd_same]
            exact ⟨fun _ => ⟨hGy, Or.inr ⟨q, Nat.le_refl _, hyq⟩⟩, fun _ => rfl⟩
          · rw [upd_other _ _ e, (fV.2.1 29 rfl).1, hU z hz]
            constructor
            · rintro ⟨w1, w2⟩
              refine ⟨w1, w2.imp id ?_⟩
              rintro ⟨i, hi, e2⟩
              exact ⟨i, by omega, e2⟩
            · rintro ⟨w1, w2⟩
              refine ⟨w1, w2.imp id ?_⟩
              rintro ⟨i, hi, e2⟩
              have : i ≠ q := fun w => by
                subst w
                rw [hyq] at e2
                cases e2
                exact e rfl
              exact ⟨i, by omega, e2⟩
  rw [e]
  refine key mt.length (Nat.le_refl _) _ ((CFr.rf.ca _ rfl).ca _ rfl) (fun z hz => ?_)
  rw [ca_get]
  by_cases e : z = g
  · subst e
    rw [upd_same]
    exact ⟨fun _ => ⟨⟨0, rfl⟩, Or.inl rfl⟩, fun _ => rfl⟩
  · rw [upd_other _ _ e]
    unfold filI
    rw [if_pos (by omega)]
    refine ⟨fun w => absurd w (by decide), fun w => ?_⟩
    rcases w.2 with w2 | ⟨i, hi, e2⟩
    · exact absurd w2 e
    · have := (List.getElem?_eq_some_iff.mp e2).1
      omega
/-- the plan's own -/
def aA : Nat → Bool := fun k => decide (k = 11)
def aB : Nat → Bool := fun k => decide (k = 22)
theorem k_add (l : Launch) {T : CS} {C0 L q : Nat} (hC : 1 ≤ C0) (h11 : T.1 11 = nI L) (h22 : T.2.2.2 22 = capA C0 L) (hB : capA C0 (L + 1) ≤ 40000) (hL : L ≤ 20000) (post : CS → Prop)
    (k : ∀ U, CFr aA aB aB T U → U.1 11 = nI (L + 1) → U.2.2.2 22 = capA C0 (L + 1) → (∀ j, j < L → U.2.1 22 j = T.2.1 22 j) → U.2.1 22 L = nI q → post U) : cX_X5_add l (capA C0 (L + 1) - capA C0 L) (2 * (capA C0 (L + 1) - capA C0 L)) T (nI q) post := by
  have hge := capA_ge hC L
  have hge2 := capA_ge hC (L + 1)
  refine c_X5_add l _ _ T _ post ?_
  intro B29 h29
  have fin : ∀ (kc ks : Nat) (U : CS), kc ≤ capA C0 (L + 1) - capA C0 L → ks ≤ 2 * (capA C0 (L + 1) - capA C0 L) → CFr aA aB aB T U → U.1 11 = nI L → U.2.2.2 22 = capA C0 (L + 1) → (∀ j, j < L → U.2.1 22 j = T.2.1 22 j) → B29 kc ks U := by
    intro kc ks U hkc hks fU u11 u22 uj
    refine h29 _ _ _ ?_
    unfold cT_X5_add_29
    rw [u11, u22, nI_clamp (show L < 2 ^ 31 by omega)]
    refine ⟨vp_in_nI (by omega) (by omega), hkc, hks, k _ ((fU.ca _ rfl).cf _ rfl) ?_ u22 (fun j hj => ?_) ?_⟩
    · rw [cf_get, nI_1]
    · show upd (U.2.1 22) L (nI q) j = _
      rw [upd_other _ _ (by omega)]
      exact uj j hj
    · show upd (U.2.1 22) L (nI q) L = _
      rw [upd_same]
  unfold cT_X5_add_e
  rw [h11, h22]
  have e2 : (2 : Int32) * nI L = nI (2 * L) := by rw [show (2 : Int32) = nI 2 from rfl, pk_mul]
  rw [e2, nI_clamp (show 2 * L < 2 ^ 31 by omega)]
  refine ⟨fun c => ?_, fun c => ?_⟩
  · have c : ¬ L = capA C0 L := fun w => c (by rw [← w])
    have e : capA C0 (L + 1) = capA C0 L := by
      conv => lhs; unfold capA
      rw [if_neg c]
    exact fin 0 0 T (Nat.zero_le _) (Nat.zero_le _) CFr.rf h11 (by rw [e]; exact h22) (fun _ _ => rfl)
  · have hm := capA_mono hC L
    have c : L = capA C0 L := (nI_eq (by omega) (by omega)).mp c
    have e : capA C0 (L + 1) = 2 * L := by
      conv => lhs; unfold capA
      rw [if_pos c]
    refine ⟨nI_pos (by omega), by omega, by omega, by omega, by omega, by omega, fin _ _ _ (by omega) (by omega) ((CFr.rf.ca _ rfl).cn _ rfl) h11 ?_ (fun j hj => ?_)⟩
    · rw [cn_get, e]
    · show va_cpy (T.2.1 22) (fun _ => 0) 0 0 (capA C0 L) j = _
      rw [pk_cpy_in (by omega) (by omega), Nat.zero_add, Nat.sub_zero]
/-- a first row visits each stand once -/
theorem PL.len {N g : Nat} {tg : Nat → Nat → Nat → Option Nat} {c : Nat → Nat → Nat} {fr : Nat → Option Nat} (hc : ∀ s a b t, tg s a b = some t → 0 < c a b) (hN : ∀ x, fr x ≠ none → x < N) : ∀ qs x m, fr x = some m → PL tg c fr g qs x → ∃ vs : List Nat, vs.length = qs.length + 1 ∧ vs.Nodup ∧ ∀ z, z ∈ vs → z < N ∧ ∃ m', fr z = some m' ∧ m ≤ m' := by
  intro qs
  induction qs with
  | nil =>
    intro x m hx h
    refine ⟨[x], rfl, List.nodup_cons.mpr ⟨List.not_mem_nil, List.nodup_nil⟩, fun z hz => ?_⟩
    have : z = x := by simpa using hz
    subst this
    exact ⟨hN z (by rw [hx]; exact Option.some_ne_none m), m, hx, Nat.le_refl _⟩
  | cons q qs ih =>
    intro x m hx h
    obtain ⟨-, a, b, t, ⟨⟨h1, k, h2, h3⟩, -⟩, -, h4⟩ := h
    rw [hx] at h2
    cases h2
    have := hc x a b t h1
    obtain ⟨vs, v1, v2, v3⟩ := ih t _ h3 h4
    refine ⟨x :: vs, by rw [List.length_cons, v1, List.length_cons], List.nodup_cons.mpr ⟨fun w => ?_, v2⟩, fun z hz => ?_⟩
    · obtain ⟨-, m', e, hm⟩ := v3 x w
      rw [hx] at e
      cases e
      omega
    · rcases List.mem_cons.mp hz with e | e
      · subst e
        exact ⟨hN z (by rw [hx]; exact Option.some_ne_none m), m, hx, Nat.le_refl _⟩
      · obtain ⟨w1, m', w2, w3⟩ := v3 z e
        exact ⟨w1, m', w2, by omega⟩
/-- the frame of writing the plan -/
def wA : Nat → Bool := fun k => lA k || decide (k = 11)
def wB : Nat → Bool := fun k => lB k || decide (k = 29) || decide (k = 22)
theorem gB_w (k : Nat) (h : wB k = false) : gB k = false := by
  unfold wB at h; unfold gB
  simp only [Bool.or_eq_false_iff] at h ⊢
  exact h.1
theorem lB_w (k : Nat) (h : wB k = false) : lB k = false := lB_g k (gB_w k h)
theorem lA_w (k : Nat) (h : wA k = false) : lA k = false := by
  unfold wA at h
  simp only [Bool.or_eq_false_iff] at h
  exact h.1
theorem aA_w (k : Nat) (h : wA k = false) : aA k = false := by
  unfold wA at h; unfold aA
  simp only [Bool.or_eq_false_iff] at h
  exact h.2
theorem aB_w (k : Nat) (h : wB k = false) : aB k = false := by
  unfold wB at h; unfold aB
  simp only [Bool.or_eq_false_iff] at h
  exact h.2
set_option maxHeartbeats 1000000 in
theorem k_write (l : Launch) {T : CS} {n P : Nat} {kd ct sg : Nat → Nat} (hy : CY T n P kd ct sg) (hz : ∀ a, a < 5 → ct (5 * a + a) = 0) {g st M C0 : Nat} (hN : P ^ n ≤ 20000) (hg : g < P ^ n) (hl : CL T M) (hM1 : P ^ n ≤ M) (hM2 : M ≤ 20000) (h12 : T.1 12 = nI st) (hst : st < P ^ n) {fr : Nat → Option Nat} {mt : List Nat} (hD : DS (P ^ n) st (tgN n P kd ct sg) (fun a b => ct (5 * a + b)) fr) (hnd : mt.Nodup) (hmem : ∀ x, x ∈ mt ↔ fr x ≠ none) (hsort : mt.Pairwise fun x y => ∀ m k, fr x = some m → fr y = some k → m ≤ k) (h24 : ∀ z, z < P ^ n → T.2.1 24 z = lab (fr z)) (hfb : ∀ z k, fr z = some k → k ≤ 2000000) (h13 : T.1 13 = nI mt.length) (h26 : ∀ k x, mt[k]? = some x → T.2.1 26 k = nI x) (hmg : fr g ≠ none) (h22 : T.2.2.2 22 = C0) (hC0 : 1 ≤ C0) (hC1 : C0 ≤ 40000) {qs : List Nat} (hqs : PL (tgN n P kd ct sg) (fun a b => ct (5 * a + b)) fr g qs st) (post : CS → Prop)
    (k : ∀ U, CFr wA wB aB T U → U.1 11 = nI qs.length → U.2.2.2 22 = capA C0 qs.length → (∀ (i q : Nat), qs[i]? = some q → U.2.1 22 i = nI q) → post U) : cX_X6_writePlan l (capA C0 qs.length - C0) (2 * (capA C0 qs.length - C0)) T (nI g) post := by
  have hP2 := hy.2.2.2.1
  have cpos : ∀ s a b t, tgN n P kd ct sg s a b = some t → 0 < ct (5 * a + b) := fun s a b t h => Nat.pos_of_ne_zero (tgN_cost h)
  obtain ⟨mg, hmg⟩ := Option.ne_none_iff_exists'.mp hmg
  have hlenq : qs.length + 1 ≤ P ^ n := by
    obtain ⟨vs, v1, v2, v3⟩ := PL.len (c := fun a b => ct (5 * a + b)) cpos hD.2.1 qs st 0 hD.1 hqs
    have := nodup_len _ vs v2 (fun z hz => (v3 z hz).1)
    omega
  have mono : ∀ a b, a ≤ b → capA C0 a ≤ capA C0 b := by
    intro a b hab
    induction b with
    | zero => rw [show a = 0 by omega]; exact Nat.le_refl _
    | succ b ih =>
      by_cases e : a = b + 1
      · rw [e]; exact Nat.le_refl _
      · exact Nat.le_trans (ih (by omega)) (capA_mono hC0 b)
  refine c_X6_writePlan l _ _ T _ post ?_
  intro B22 h22'
  unfold cT_X6_writePlan_e
  refine ⟨Nat.zero_le _, Nat.zero_le _, ?_⟩
  refine k_mark l hy hz hg hl hM1 hM2 hD hnd hmem hsort h24 hfb h13 h26 hmg _ (fun V fV hV v5 e5 => ?_)
  rw [fV.1 12 rfl, h12] at e5
  subst e5
  have key : ∀ (rs ps : List Nat) (x : Nat) (U : CS), ps ++ rs = qs → CFr wA wB aB T U → (∀ z, z < P ^ n → (U.2.1 29 z = 1 ↔ Good (tgN n P kd ct sg) (fun a b => ct (5 * a + b)) fr g z)) → U.1 11 = nI ps.length → U.2.2.2 22 = capA C0 ps.length → (∀ (i q : Nat), ps[i]? = some q → U.2.1 22 i = nI q) → x < P ^ n → fr x ≠ none → PL (tgN n P kd ct sg) (fun a b => ct (5 * a + b)) fr g rs x → B22 (capA C0 ps.length - C0) (2 * (capA C0 ps.length - C0)) U (nI x) (nI ps.length) := by
    intro rs
    induction rs with
    | nil =>
      intro ps x U hps fU hU u11 u22 uj hx hfx hpl
      rw [List.append_nil] at hps
      subst hps
      have hpl : x = g := hpl
      subst hpl
      refine h22' _ _ _ _ _ ?_
      unfold cT_X6_writePlan_22
      have fin := k U fU u11 u22 uj
      exact ⟨fun _ => ⟨Nat.le_refl _, Nat.le_refl _, fin⟩, fun _ => ⟨fun _ => ⟨Nat.le_refl _, Nat.le_refl _, fin⟩, fun w => absurd rfl w⟩⟩
    | cons q rs ih =>
      intro ps x U hps fU hU u11 u22 uj hx hfx hpl
      obtain ⟨hxg, a, b, t, hfst, hq, hpl2⟩ := hpl
      have hlq : ps.length < qs.length := by rw [← hps, List.length_append, List.length_cons]; omega
      have hmo := mono ps.length qs.length (by omega)
      have hmo1 := mono (ps.length + 1) qs.length (by omega)
      have hge := capA_ge hC0 ps.length
      have hge1 := capA_mono hC0 ps.length
      obtain ⟨mx, hmx⟩ := Option.ne_none_iff_exists'.mp hfx
      have hyU := hy.fr fU
      have hlU : CL U M := hl.fr fU
      have u24 : ∀ z, z < P ^ n → U.2.1 24 z = lab (fr z) := by rw [(fU.2.1 24 rfl).1]; exact h24
      refine h22' _ _ _ _ _ ?_
      unfold cT_X6_writePlan_22
      rw [hyU.2.2.1]
      refine ⟨fun w => absurd w (nI_ge (by omega) (by omega)), fun _ => ⟨fun w => absurd ((nI_eq (by omega) (by omega)).mp w) hxg, fun _ => ⟨by omega, by omega, ?_⟩⟩⟩
      have isF : ∀ (i a' b' t' : Nat), (mvL n P kd ct sg x)[i]? = some (a', b') → tgN n P kd ct sg x a' b' = some t' → U.2.1 29 t' = 1 → fr t' = some (mx + ct (5 * a' + b')) → nearX (tgN n P kd ct sg) (fun a b => ct (5 * a + b)) fr x a' b' t' ∧ Good (tgN n P kd ct sg) (fun a b => ct (5 * a + b)) fr g t' := by
        intro i a' b' t' h1 h2 h3 h4
        exact ⟨⟨h2, mx, hmx, h4⟩, (hU t' (tgN_lt (by omega) h2)).mp h3⟩
      obtain ⟨i0, hi0⟩ : ∃ i, (mvL n P kd ct sg x)[i]? = some (a, b) := by
        have : (a, b) ∈ mvL n P kd ct sg x := mvL_mem.mpr (by rw [hfst.1.1]; rfl)
        obtain ⟨i, hi, e⟩ := List.getElem_of_mem this
        exact ⟨i, by rw [List.getElem?_eq_getElem hi, e]⟩
      have hnt : fr t = some (mx + ct (5 * a + b)) := by
        obtain ⟨-, k', h2, h3⟩ := hfst.1
        rw [hmx] at h2
        cases h2
        exact h3
      have htN : t < P ^ n := tgN_lt (by omega) hfst.1.1
      have hlt1 : U.2.1 29 t = 1 := (hU t htN).mpr hfst.2.1
      have hlenM := mvL_len (n := n) (kd := kd) (ct := ct) (sg := sg) (x := x) (P := P) (by omega)
      refine k_first l hyU hz hx hlU hM1 hM2 u24 hfb hmx _ (fun hno W fW => absurd ⟨hlt1, hnt⟩ (hno i0 a b t hi0 hfst.1.1)) (fun i a' b' t' hab htg hlead hft hbef W fW w17 w18 => ⟨fun _ => ?_, fun w => absurd w (nI_m1 ?_)⟩)
      · have hli := (List.getElem?_eq_some_iff.mp hab).1
        -- it is the first one
        have same : a' = a ∧ b' = b ∧ t' = t := by
          have f2 : fstG (tgN n P kd ct sg) (fun a b => ct (5 * a + b)) fr g x a' b' t' := by
            refine ⟨(isF i a' b' t' hab htg hlead hft).1, (isF i a' b' t' hab htg hlead hft).2, fun a2 b2 hlex w => ?_⟩
            obtain ⟨t2, ⟨w1, k2, w2, w3⟩, w4⟩ := w
            rw [hmx] at w2
            cases w2
            obtain ⟨j, hj⟩ : ∃ j, (mvL n P kd ct sg x)[j]? = some (a2, b2) := by
              have : (a2, b2) ∈ mvL n P kd ct sg x := mvL_mem.mpr (by rw [w1]; rfl)
              obtain ⟨j, hj, e⟩ := List.getElem_of_mem this
              exact ⟨j, by rw [List.getElem?_eq_getElem hj, e]⟩
            exact hbef j a2 b2 t2 (mvL_idx hab hj hlex) hj w1 ⟨(hU t2 (tgN_lt (by omega) w1)).mpr w4, w3⟩
          exact f2.uniq hfst
        obtain ⟨s1, s2, s3⟩ := same
        subst s1
        subst s2
        subst s3
        rw [nI_clamp (show i < 2 ^ 31 by omega), w17]
        refine ⟨vp_in_nI (by omega) (by omega), capA C0 (ps.length + 1) - capA C0 ps.length, 2 * (capA C0 (ps.length + 1) - capA C0 ps.length), by omega, by omega, ?_⟩
        have fTW : CFr wA wB aB T W := fU.tr (fW.mono lA_w lB_w)
        refine k_add l hC0 (by rw [fW.1 11 rfl]; exact u11) (by rw [fW.2.2 22 rfl]; exact u22) (capA_b hC1 _ (by omega)) (by omega) _ (fun X fX x11 x22 xj xL => ⟨vp_in_nI (by omega) (by omega), fun v5 e5 => ?_⟩)
        rw [(fX.2.1 18 rfl).1, w18] at e5
        subst e5
        have hlen1 : (ps ++ [q]).length = ps.length + 1 := by rw [List.length_append, List.length_singleton]
        have := ih (ps ++ [q]) t' X (by rw [List.append_assoc]; exact hps) (fTW.tr (fX.mono aA_w aB_w)) (fun z hz => by rw [(fX.2.1 29 rfl).1, (fW.2.1 29 rfl).1]; exact hU z hz) (by rw [hlen1]; exact x11) (by rw [hlen1]; exact x22) (fun j r hj => ?_) htN (by rw [hnt]; exact Option.some_ne_none _) hpl2
        · rw [hlen1] at this
          rw [← nI_succ, show capA C0 ps.length - C0 + (capA C0 (ps.length + 1) - capA C0 ps.length) = capA C0 (ps.length + 1) - C0 by omega, show 2 * (capA C0 ps.length - C0) + 2 * (capA C0 (ps.length + 1) - capA C0 ps.length) = 2 * (capA C0 (ps.length + 1) - C0) by omega]
          exact this
        · by_cases e : j = ps.length
          · subst e
            rw [List.getElem?_append_right (Nat.le_refl _), Nat.sub_self] at hj
            cases hj
            rw [xL, hq]
          · have hjl : j < ps.length := by
              have := (List.getElem?_eq_some_iff.mp hj).1
              rw [hlen1] at this
              omega
            rw [List.getElem?_append_left hjl] at hj
            rw [xj j hjl, (fW.2.1 22 rfl).1]
            exact uj j r hj
      · have := (List.getElem?_eq_some_iff.mp hab).1
        omega
  have hc0 : capA C0 0 = C0 := rfl
  have := key qs [] st (cf V 11 0) rfl ((fV.mono (fun k hk => lA_w k hk) gB_w).cf _ rfl) hV (cf_get _ _ _) (by show V.2.2.2 22 = _; rw [fV.2.2 22 rfl]; exact h22) (fun i q h => by cases h) hst (by rw [hD.1]; exact Option.some_ne_none 0) hqs
  rw [List.length_nil, hc0, Nat.sub_self] at this
  exact this
end
section
-- two nested loops over pairs of pegs
theorem pair_loop {α : Type} {P : Nat} {Bo : α → Nat → Prop} {Bi : α → Nat → Nat → Prop} {I : Nat → Nat → α → Prop}
    (h1 : ∀ T p, p < P → I p 0 T → Bi T p 0 → Bo T p) (h2 : ∀ T, I P 0 T → Bo T P) (h3 : ∀ T p q, p < P → q < P → I p q T → (∀ T', I p (q + 1) T' → Bi T' p (q + 1)) → Bi T p q)
    (h4 : ∀ T p, p < P → I p P T → Bo T (p + 1) → Bi T p P) (h5 : ∀ T p, p < P → I p P T → I (p + 1) 0 T) : ∀ T, I 0 0 T → Bo T 0 := by
  have key : ∀ d p, p + d = P → ∀ T, I p 0 T → Bo T p := by
    intro d
    induction d with
    | zero =>
      intro p hp T hT
      have : p = P := by omega
      subst this
      exact h2 T hT
    | succ d ih =>
      intro p hp T hT
      have inner : ∀ d2 q, q + d2 = P → ∀ T, I p q T → Bi T p q := by
        intro d2
        induction d2 with
        | zero =>
          intro q hq T hT
          have : q = P := by omega
          subst this
          exact h4 T p (by omega) hT (ih (p + 1) (by omega) T (h5 T p (by omega) hT))
        | succ d2 ih2 =>
          intro q hq T hT
          exact h3 T p q (by omega) (by omega) hT (fun T' hT' => ih2 (q + 1) (by omega) T' hT')
      exact h1 T p (by omega) hT (inner P 0 (by omega) T hT)
  exact fun T hT => key P 0 (by omega) T hT
/-- row 8 holds the stand s -/
def U8 (T : MS) (n P s : Nat) : Prop := ∃ σ : Nat → Nat, MA T 8 σ ∧ ∀ j, j < n → σ j = dgs P s j
def W9 (S T : MS) : Prop := T.1 = S.1 ∧ T.2.2 = S.2.2 ∧ (∀ k, k ≠ 9 → T.2.1 k = S.2.1 k) ∧ ∃ τ, MA T 9 τ
theorem W9.my {S T : MS} {n P : Nat} {kd ct sg : Nat → Nat} (h : W9 S T) (hy : MY S n P kd ct sg) : MY T n P kd ct sg := by
  unfold MY
  rw [h.1, h.2.2.1 1 (by decide), h.2.2.1 4 (by decide), h.2.2.1 5 (by decide)]
  exact hy
theorem W9.u8 {S T : MS} {n P s : Nat} (h : W9 S T) (hu : U8 S n P s) : U8 T n P s := by
  obtain ⟨σ, h1, h2⟩ := hu
  exact ⟨σ, fun j hj => by rw [h.2.2.1 8 (by decide)]; exact h1 j hj, h2⟩
theorem s_ld (l : Launch) {S : MS} {n P : Nat} {kd ct sg : Nat → Nat} (hy : MY S n P kd ct sg) {s a b : Nat} (h8 : U8 S n P s) (h9 : ∃ τ, MA S 9 τ) (ha : a < P) (hb : b < P) (post : Int32 → MS → Prop) (h : ∀ T, W9 S T → post (lab (tgN n P kd ct sg s a b)) T) : mX_leads l S (nI a) (nI b) post := by
  obtain ⟨σ, h1, h2⟩ := h8
  obtain ⟨τ, hτ⟩ := h9
  refine s_lead l S s a b post hy h1 h2 hτ ha hb (fun q => ?_) (fun t q g ρ hg => ?_)
  · have := h S ⟨rfl, rfl, fun _ _ => rfl, τ, hτ⟩
    rw [q] at this
    exact this
  · have := h (ma S 9 g) ⟨rfl, rfl, fun k hk => ma_get_ne _ _ hk, ρ, fun j hj => by rw [ma_get]; exact hg j hj⟩
    rw [q] at this
    exact this
theorem s_unp (l : Launch) {S : MS} {n P : Nat} {kd ct sg : Nat → Nat} (hy : MY S n P kd ct sg) {s : Nat} (hs : s < 2 ^ 31) (h8 : ∃ τ, MA S 8 τ) (post : MS → Prop) (h : ∀ g : Nat → Int32, U8 (ma S 8 g) n P s → post (ma S 8 g)) : mX_unpack l S (nI s) 8 post := by
  have hP2 := hy.2.2.1
  have hn2 := hy.2.2.2.1
  obtain ⟨τ, hτ⟩ := h8
  refine s_unpack l S s 8 m7_8' post hy.2.1 hy.1 hP2 (by omega) hs (h _ ⟨fun j => if j < n then dgs P s j else τ j, fun j hj => ?_, fun j hj => if_pos hj⟩)
  rw [ma_get]
  unfold unpF
  by_cases e : j < n
  · simp only [e, if_true]
    exact ⟨rfl, by have := dgs_lt (P := P) (by omega) s j; omega⟩
  · simp only [e, if_false]
    exact hτ j hj
theorem U8.at {T : MS} {n P s : Nat} (h : U8 T n P s) : ∃ τ, MA T 8 τ := ⟨_, h.choose_spec.1⟩
/-- what the searches of the reference may change: scalars 3, 7, 8, scratch rows -/
def MK (S T : MS) : Prop := (∀ k, k ≠ 3 → k ≠ 7 → k ≠ 8 → T.1 k = S.1 k) ∧ (∀ k, k < 8 ∨ (28 < k ∧ k < 34) → T.2.1 k = S.2.1 k) ∧ (∃ τ, MA T 8 τ) ∧ (∃ τ, MA T 9 τ)
theorem MK.my {S T : MS} {n P : Nat} {kd ct sg : Nat → Nat} (h : MK S T) (hy : MY S n P kd ct sg) : MY T n P kd ct sg := by
  unfold MY
  rw [h.1 0 (by decide) (by decide) (by decide), h.1 1 (by decide) (by decide) (by decide), h.2.1 1 (by decide), h.2.1 4 (by decide), h.2.1 5 (by decide)]
  exact hy
theorem MK.tr {S T U : MS} (h1 : MK S T) (h2 : MK T U) : MK S U := ⟨fun k a b c => (h2.1 k a b c).trans (h1.1 k a b c), fun k hk => (h2.2.1 k hk).trans (h1.2.1 k hk), h2.2.2⟩
theorem MFr.mk {S T : MS} (h : MFr S T) : MK S T := ⟨fun k _ hk _ => h.1 k hk, fun k hk => h.2.1 k (by omega), h.2.2.2⟩
theorem MK.of9 {S T : MS} (h : W9 S T) (h8 : ∃ τ, MA S 8 τ) : MK S T := ⟨fun k _ _ _ => by rw [h.1], fun k hk => h.2.2.1 k (by omega), by obtain ⟨τ, h8⟩ := h8; exact ⟨τ, fun j hj => by rw [h.2.2.1 8 (by decide)]; exact h8 j hj⟩, h.2.2.2⟩
theorem MK.mar {S T : MS} (h : MK S T) {k : Nat} (f : Nat → Int32) (hk : 9 < k ∧ k ≤ 28 ∨ 34 ≤ k) : MK S (ma T k f) := by
  obtain ⟨h1, h2, ⟨τ, h3⟩, ⟨ρ, h4⟩⟩ := h
  refine ⟨h1, fun j hj => ?_, ⟨τ, fun j hj => ?_⟩, ⟨ρ, fun j hj => ?_⟩⟩
  · rw [ma_get_ne _ _ (by omega)]; exact h2 j hj
  · rw [ma_get_ne _ _ (by omega)]; exact h3 j hj
  · rw [ma_get_ne _ _ (by omega)]; exact h4 j hj
theorem MK.mls {S T : MS} (h : MK S T) {k : Nat} (f : Nat → Int64) : MK S (ml T k f) := h
theorem MK.mfs {S T : MS} (h : MK S T) {k : Nat} (v : Int32) (hk : k = 3 ∨ k = 7 ∨ k = 8) : MK S (mf T k v) := ⟨fun j a b c => by rw [mf_get_ne _ _ (by omega)]; exact h.1 j a b c, h.2⟩
theorem MK.m8 {S T : MS} (h : MK S T) {n P s : Nat} {f : Nat → Int32} (hu : U8 (ma T 8 f) n P s) : MK S (ma T 8 f) := by
  obtain ⟨h1, h2, -, ⟨ρ, h4⟩⟩ := h
  refine ⟨h1, fun j hj => ?_, hu.at, ⟨ρ, fun j hj => ?_⟩⟩
  · rw [ma_get_ne _ _ (by omega)]; exact h2 j hj
  · rw [ma_get_ne _ _ (by omega)]; exact h4 j hj
/-- what measure() leaves -/
def MOK (T : MS) (n P : Nat) (kd ct sg : Nat → Nat) (st : Nat) (fr : Nat → Option Nat) (mt : List Nat) : Prop := DS (P ^ n) st (tgN n P kd ct sg) (fun a b => ct (5 * a + b)) fr ∧ mt.Nodup ∧ (∀ x, x ∈ mt ↔ fr x ≠ none) ∧ (mt.Pairwise fun x y => ∀ m k, fr x = some m → fr y = some k → m ≤ k) ∧ (∀ x m, fr x = some m → m ≤ 2000000) ∧
  (∀ x, x < P ^ n → T.2.1 10 x = farV (fr x)) ∧ T.1 7 = nI mt.length ∧ (∀ k x, mt[k]? = some x → T.2.1 14 k = nI x)
theorem s_meas (l : Launch) {S : MS} {n P : Nat} {kd ct sg : Nat → Nat} (hy : MY S n P kd ct sg) {x : Nat} (hx : x < P ^ n) (h2 : MA S 2 (dgs P x)) (h8 : ∃ τ, MA S 8 τ) (h9 : ∃ τ, MA S 9 τ) (hN : P ^ n ≤ 20000) (post : MS → Prop) (h : ∀ T fr mt, MK S T → MOK T n P kd ct sg x fr mt → post T) : mX_measure l S post := by
  have hP2 := hy.2.2.1
  refine s_measure l S post hy h2 (fun j _ => dgs_lt (by omega) x j) h8 h9 hN (fun T fr mt L d hF hI hR hall => h T fr mt hF.mk ?_)
  rw [dgs_pack hx] at hI
  refine ⟨hI.ds hall, hI.1.1, fun z => ⟨fun q => ?_, hall z⟩, hI.2.2.2.2.1, fun z m hm => ?_, fun z hz => hR.1 z hz (fun q => q), hR.2.2.1, hR.2.2.2.1⟩
  · obtain ⟨m, e, -⟩ := hI.2.2.1 z q
    rw [e]; exact Option.some_ne_none m
  · have h1 := hI.2.2.2.2.2.2.2.1 z m hm
    have h2 := nodup_len _ mt hI.1.1 hI.1.2
    omega
theorem farV_eq {o : Option Nat} {m : Nat} (h : ∀ k, o = some k → k ≤ 2000000) (hm : m ≤ 2000100) : farV o = nI m ↔ o = some m := by
  cases o with
  | none => exact ⟨fun q => absurd ((nI_eq (a := 2147483647) (by omega) (by omega)).mp q) (by omega), fun q => by cases q⟩
  | some k =>
    have := h k rfl
    constructor
    · intro q
      rw [(nI_eq (by omega) (by omega)).mp q]
    · intro q; cases q; rfl
theorem farV_none {o : Option Nat} (h : ∀ k, o = some k → k ≤ 2000000) : farV o = 2147483647 ↔ o = none := by
  cases o with
  | none => exact ⟨fun _ => rfl, fun _ => rfl⟩
  | some k =>
    have := h k rfl
    exact ⟨fun q => absurd ((nI_eq (b := 2147483647) (by omega) (by omega)).mp q) (by omega), fun q => by cases q⟩
/-- isNear() of a stand that leads on, or not at all -/
theorem s_near (l : Launch) {T : MS} {n P : Nat} {kd ct sg : Nat → Nat} (hy : MY T n P kd ct sg) (hN : P ^ n ≤ 20000) {fr : Nat → Option Nat} (h10 : ∀ x, x < P ^ n → T.2.1 10 x = farV (fr x)) (hfb : ∀ x m, fr x = some m → m ≤ 2000000) {s m a b : Nat} (hs : s < P ^ n) (hm : fr s = some m) (ha : a < P) (hb : b < P) (post : Bool → MS → Prop)
    (h0 : (∀ t, ¬ nearX (tgN n P kd ct sg) (fun a b => ct (5 * a + b)) fr s a b t) → post false T) (h1 : ∀ t, tgN n P kd ct sg s a b = some t → nearX (tgN n P kd ct sg) (fun a b => ct (5 * a + b)) fr s a b t → post true T) : mX_isNear l T (nI s) (lab (tgN n P kd ct sg s a b)) (nI a) (nI b) post := by
  have hP2 := hy.2.2.1
  refine m_isNear l T _ _ _ _ post ?_
  unfold mT_isNear_e
  cases ht : tgN n P kd ct sg s a b with
  | none => exact ⟨fun _ => h0 (fun t q => by have := q.1; rw [ht] at this; cases this), fun q => absurd rfl q⟩
  | some t =>
    have htN := tgN_lt (by omega) ht
    have hc := (hy.2.2.2.2.2.1 (5 * a + b) (by omega))
    have hmb := hfb s m hm
    show (nI t = -1 → _) ∧ (¬ nI t = -1 → _)
    refine ⟨fun q => absurd q (nI_m1 (by omega)), fun _ => ?_⟩
    show vp_in (nI t) 20000 ∧ _
    have e1 : (lab (some t)).toNatClampNeg = t := nI_clamp (by omega)
    rw [e1, ix25 (by omega) (by omega), nI_clamp (show s < 2 ^ 31 by omega), nI_clamp (show 5 * a + b < 2 ^ 31 by omega), h10 t htN, h10 s hs, hm, hc.1]
    have e2 : farV (some m) + nI (ct (5 * a + b)) = nI (m + ct (5 * a + b)) := nI_add _ _
    rw [e2]
    have hiff := farV_eq (o := fr t) (m := m + ct (5 * a + b)) (fun k hk => hfb t k hk) (by omega)
    refine ⟨vp_in_nI (by omega) (by omega), vp_in_nI (by omega) (by omega), vp_in_nI (by omega) (by omega), fun c => h0 (fun t' q => ?_), fun c => h1 t ht ⟨ht, m, hm, hiff.mp c⟩⟩
    obtain ⟨q1, k, q2, q3⟩ := q
    rw [ht] at q1
    cases q1
    rw [hm] at q2
    cases q2
    exact c (hiff.mpr q3)
def few (o : Option Nat) : Int32 := match o with
  | none => -2
  | some m => nI m
section MSearch
variable {S : MS} {n P x y : Nat} {kd ct sg : Nat → Nat}
theorem s_fewest (l : Launch) (hy : MY S n P kd ct sg) (hx : x < P ^ n) (hxa : MA S 2 (dgs P x)) (hg : y < P ^ n) (hga : MA S 3 (dgs P y)) (h8 : ∃ τ, MA S 8 τ) (h9 : ∃ τ, MA S 9 τ) (post : Int32 → MS → Prop)
    (h0 : ¬ P ^ n ≤ 20000 → post (-1) (mf (mf S 3 0) 2 2)) (h1 : P ^ n ≤ 20000 → ∀ T fr mt, MK (mf (mf S 3 0) 2 0) T → MOK T n P kd ct sg x fr mt → post (few (fr y)) T) : mX_fewest l S post := by
  have hP2 := hy.2.2.1
  have hn2 := hy.2.2.2.1
  refine m_fewest l S post ?_
  unfold mT_fewest_e
  refine s_fits l _ _ (n := n) (P := P) hy.2.1 hy.1 (by omega) hP2 ⟨fun c => ?_, fun c => ?_⟩
  · have hN : P ^ n ≤ 20000 := of_decide_eq_true (bI_n0.mp c)
    have hy2 : MY (mf (mf S 3 0) 2 0) n P kd ct sg := (hy.mf 0 (by decide) (by decide)).mf 0 (by decide) (by decide)
    refine s_meas l hy2 hx hxa h8 h9 hN _ (fun T fr mt hK hM => ?_)
    have hyT := hK.my hy2
    have hgT : ∀ j, j < n → T.2.1 3 j = nI (dgs P y j) := fun j hj => by rw [hK.2.1 3 (by decide)]; exact (hga j (by omega)).1
    refine s_pack l T 3 (by unfold m7; decide) _ hyT.2.1 hyT.1 (by omega) hgT ?_
    rw [dgs_pack hg, nI_clamp (show y < 2 ^ 31 by omega)]
    refine ⟨vp_in_nI (by omega) (by omega), fun v e => ?_⟩
    rw [hM.2.2.2.2.2.1 y hg] at e
    subst e
    have := h1 hN T fr mt hK hM
    have hfn := farV_none (o := fr y) (fun k hk => hM.2.2.2.2.1 y k hk)
    cases e : fr y with
    | none => rw [e] at this; exact ⟨fun q => absurd rfl q, fun _ => this⟩
    | some m =>
      rw [e] at this hfn
      exact ⟨fun _ => this, fun q => by have := hfn.mp q; cases this⟩
  · have hN : ¬ P ^ n ≤ 20000 := of_decide_eq_false (bI_0.mp c)
    exact s_no l _ 2 _ (h0 hN)
theorem s_reach (l : Launch) (hy : MY S n P kd ct sg) (hx : x < P ^ n) (hxa : MA S 2 (dgs P x)) (h8 : ∃ τ, MA S 8 τ) (h9 : ∃ τ, MA S 9 τ) (post : Int32 → MS → Prop)
    (h0 : ¬ P ^ n ≤ 20000 → post (-1) (mf (mf S 3 0) 2 2)) (h1 : P ^ n ≤ 20000 → ∀ T fr mt, MK (mf (mf S 3 0) 2 0) T → MOK T n P kd ct sg x fr mt → post (nI mt.length) T) : mX_reach l S post := by
  have hP2 := hy.2.2.1
  have hn2 := hy.2.2.2.1
  refine m_reach l S post ?_
  unfold mT_reach_e
  refine s_fits l _ _ (n := n) (P := P) hy.2.1 hy.1 (by omega) hP2 ⟨fun c => ?_, fun c => ?_⟩
  · have hN : P ^ n ≤ 20000 := of_decide_eq_true (bI_n0.mp c)
    have hy2 : MY (mf (mf S 3 0) 2 0) n P kd ct sg := (hy.mf 0 (by decide) (by decide)).mf 0 (by decide) (by decide)
    refine s_meas l hy2 hx hxa h8 h9 hN _ (fun T fr mt hK hM => ?_)
    rw [hM.2.2.2.2.2.2.1]
    exact h1 hN T fr mt hK hM
  · have hN : ¬ P ^ n ≤ 20000 := of_decide_eq_false (bI_0.mp c)
    exact s_no l _ 2 _ (h0 hN)
/-- the last stand that is met -/
theorem MOK.last {T : MS} {st : Nat} {fr : Nat → Option Nat} {mt : List Nat} (hM : MOK T n P kd ct sg st fr mt) : ∃ (z m : Nat), mt[mt.length - 1]? = some z ∧ 0 < mt.length ∧ z < P ^ n ∧ fr z = some m ∧ mt.length ≤ P ^ n ∧ (∀ w k, fr w = some k → k ≤ m) := by
  obtain ⟨hD, hnd, hmem, hsort, hfb, -⟩ := hM
  have h0 : 0 < mt.length := by
    have : st ∈ mt := (hmem st).mpr (by rw [hD.1]; exact Option.some_ne_none 0)
    exact List.length_pos_of_mem this
  obtain ⟨z, hz⟩ : ∃ z, mt[mt.length - 1]? = some z := ⟨_, List.getElem?_eq_getElem (by omega)⟩
  obtain ⟨m, hm⟩ := Option.ne_none_iff_exists'.mp ((hmem z).mp (List.mem_of_getElem? hz))
  refine ⟨z, m, hz, h0, hD.2.1 z (by rw [hm]; exact Option.some_ne_none m), hm, nodup_len _ mt hnd (fun w hw => hD.2.1 w ((hmem w).mp hw)), fun w k hk => ?_⟩
  obtain ⟨i, hi⟩ := idx_of ((hmem w).mpr (by rw [hk]; exact Option.some_ne_none k))
  obtain ⟨li, ei⟩ := List.getElem?_eq_some_iff.mp hi
  obtain ⟨lj, ej⟩ := List.getElem?_eq_some_iff.mp hz
  rcases Nat.lt_or_ge i (mt.length - 1) with q | q
  · have := (List.pairwise_iff_getElem.mp hsort) i (mt.length - 1) li lj q
    rw [ei, ej] at this
    exact this k m hk hm
  · have : i = mt.length - 1 := by omega
    subst this
    rw [ei] at ej
    subst ej
    rw [hk] at hm
    cases hm
    exact Nat.le_refl _
theorem s_far (l : Launch) (hy : MY S n P kd ct sg) (hx : x < P ^ n) (hxa : MA S 2 (dgs P x)) (h8 : ∃ τ, MA S 8 τ) (h9 : ∃ τ, MA S 9 τ) (post : Int32 → MS → Prop)
    (h0 : ¬ P ^ n ≤ 20000 → post (-1) (mf (mf S 3 0) 2 2)) (h1 : P ^ n ≤ 20000 → ∀ T fr mt (z m : Nat), MK (mf (mf S 3 0) 2 0) T → MOK T n P kd ct sg x fr mt → fr z = some m → (∀ w k, fr w = some k → k ≤ m) → post (nI m) T) : mX_far l S post := by
  have hP2 := hy.2.2.1
  have hn2 := hy.2.2.2.1
  refine m_far l S post ?_
  unfold mT_far_e
  refine s_fits l _ _ (n := n) (P := P) hy.2.1 hy.1 (by omega) hP2 ⟨fun c => ?_, fun c => ?_⟩
  · have hN : P ^ n ≤ 20000 := of_decide_eq_true (bI_n0.mp c)
    have hy2 : MY (mf (mf S 3 0) 2 0) n P kd ct sg := (hy.mf 0 (by decide) (by decide)).mf 0 (by decide) (by decide)
    refine s_meas l hy2 hx hxa h8 h9 hN _ (fun T fr mt hK hM => ?_)
    obtain ⟨z, m, q1, q2, q3, q4, q5, q6⟩ := hM.last
    obtain ⟨L, hL⟩ : ∃ L, mt.length = L + 1 := ⟨mt.length - 1, by omega⟩
    rw [hL, Nat.add_sub_cancel] at q1
    rw [hM.2.2.2.2.2.2.1, hL, nI_pred, nI_clamp (show L < 2 ^ 31 by omega), hM.2.2.2.2.2.2.2 L z q1, nI_clamp (show z < 2 ^ 31 by omega), hM.2.2.2.2.2.1 z q3, q4]
    exact ⟨vp_in_nI (by omega) (by omega), vp_in_nI (by omega) (by omega), h1 hN T fr mt z m hK hM q4 q6⟩
  · have hN : ¬ P ^ n ≤ 20000 := of_decide_eq_false (bI_0.mp c)
    exact s_no l _ 2 _ (h0 hN)
theorem s_farthest (l : Launch) (hy : MY S n P kd ct sg) (hx : x < P ^ n) (hxa : MA S 2 (dgs P x)) (h8 : ∃ τ, MA S 8 τ) (h9 : ∃ τ, MA S 9 τ) (post : Int32 → MS → Prop)
    (h0 : ¬ P ^ n ≤ 20000 → post (-1) (mf (mf S 3 0) 2 2)) (h1 : P ^ n ≤ 20000 → ∀ T fr mt (z m : Nat), MK (mf (mf S 3 0) 2 0) T → MOK T n P kd ct sg x fr mt → fr z = some m → (∀ w k, fr w = some k → k ≤ m) → (∀ w, fr w = some m → z ≤ w) → post (nI z) T) : mX_farthest l S post := by
  have hP2 := hy.2.2.1
  have hn2 := hy.2.2.2.1
  refine m_farthest l S post ?_
  intro B41 B86 h41 h86
  unfold mT_farthest_e
  refine s_fits l _ _ (n := n) (P := P) hy.2.1 hy.1 (by omega) hP2 ⟨fun c => ?_, fun c => ?_⟩
  · have hN : P ^ n ≤ 20000 := of_decide_eq_true (bI_n0.mp c)
    have hy2 : MY (mf (mf S 3 0) 2 0) n P kd ct sg := (hy.mf 0 (by decide) (by decide)).mf 0 (by decide) (by decide)
    refine s_meas l hy2 hx hxa h8 h9 hN _ (fun T fr mt hK hM => ?_)
    obtain ⟨z, m, q1, q2, q3, q4, q5, q6⟩ := hM.last
    have hD := hM.1
    have hmem := hM.2.2.1
    obtain ⟨L, hL⟩ : ∃ L, mt.length = L + 1 := ⟨mt.length - 1, by omega⟩
    have q1' := q1
    rw [hL, Nat.add_sub_cancel] at q1'
    have key : ∀ d k, k + d = mt.length → ∀ b, b < P ^ n → fr b = some m → (∀ i w, i < k → mt[i]? = some w → fr w = some m → b ≤ w) → B41 T (nI b) (nI k) := by
      intro d
      induction d with
      | zero =>
        intro k hk b hbN hb hbest
        refine h41 _ _ _ ?_
        unfold mT_farthest_41
        rw [hM.2.2.2.2.2.2.1]
        refine ⟨fun _ => h1 hN T fr mt b m hK hM hb q6 (fun w hw => ?_), fun q => absurd (nI_le (by omega) (by omega)) q⟩
        obtain ⟨i, hi⟩ := idx_of ((hmem w).mpr (by rw [hw]; exact Option.some_ne_none m))
        exact hbest i w (by have := (List.getElem?_eq_some_iff.mp hi).1; omega) hi hw
      | succ d ih =>
        intro k hk b hbN hb hbest
        obtain ⟨w, hw⟩ : ∃ w, mt[k]? = some w := ⟨_, List.getElem?_eq_getElem (by omega)⟩
        have hwf := (hmem w).mp (List.mem_of_getElem? hw)
        have hwN := hD.2.1 w hwf
        obtain ⟨mw, hmw⟩ := Option.ne_none_iff_exists'.mp hwf
        have hmwb := hM.2.2.2.2.1 w mw hmw
        have hmb := hM.2.2.2.2.1 b m hb
        have nxt : ∀ b', b' < P ^ n → fr b' = some m → (∀ i w, i < k + 1 → mt[i]? = some w → fr w = some m → b' ≤ w) → B86 T (nI b') (nI k) := by
          intro b' h1' h2' h3'
          refine h86 _ _ _ ?_
          unfold mT_farthest_86
          rw [← nI_succ]
          exact ih (k + 1) (by omega) b' h1' h2' h3'
        refine h41 _ _ _ ?_
        unfold mT_farthest_41
        rw [hM.2.2.2.2.2.2.1, nI_clamp (show k < 2 ^ 31 by omega), hM.2.2.2.2.2.2.2 k w hw, nI_clamp (show w < 2 ^ 31 by omega), nI_clamp (show b < 2 ^ 31 by omega), hM.2.2.2.2.2.1 w hwN, hM.2.2.2.2.2.1 b hbN, hmw, hb]
        refine ⟨fun q => absurd q (nI_ge (by omega) (by omega)), fun _ => ⟨vp_in_nI (by omega) (by omega), vp_in_nI (by omega) (by omega), vp_in_nI (by omega) (by omega), fun c1 => nxt b hbN hb (fun i v hi hv hfv => ?_), fun c1 => ⟨vp_in_nI (by omega) (by omega), fun c2 => nxt b hbN hb (fun i v hi hv hfv => ?_), fun c2 => ⟨vp_in_nI (by omega) (by omega), fun v9 e9 => ?_⟩⟩⟩⟩
        · by_cases e : i = k
          · subst e
            rw [hw] at hv
            cases hv
            rw [hmw] at hfv
            exact absurd (by rw [Option.some.inj hfv]) c1
          · exact hbest i v (by omega) hv hfv
        · by_cases e : i = k
          · subst e
            rw [hw] at hv
            cases hv
            exact (nI_leI (by omega) (by omega)).mp c2
          · exact hbest i v (by omega) hv hfv
        · subst e9
          have c1 : mw = m := (nI_eq (by omega) (by omega)).mp c1
          subst c1
          have c2 : w < b := by
            rcases Nat.lt_or_ge w b with q | q
            · exact q
            · exact absurd (nI_le q (by omega)) c2
          refine nxt w hwN hmw (fun i v hi hv hfv => ?_)
          by_cases e : i = k
          · subst e
            rw [hw] at hv
            cases hv
            exact Nat.le_refl _
          · have := hbest i v (by omega) hv hfv
            omega
    rw [hM.2.2.2.2.2.2.1, hL, nI_pred, nI_clamp (show L < 2 ^ 31 by omega), hM.2.2.2.2.2.2.2 L z q1']
    refine ⟨vp_in_nI (by omega) (by omega), fun v e => ?_⟩
    subst e
    exact key mt.length 0 (by omega) z q3 q4 (fun i w hi => absurd hi (Nat.not_lt_zero _))
  · have hN : ¬ P ^ n ≤ 20000 := of_decide_eq_false (bI_0.mp c)
    exact s_no l _ 2 _ (h0 hN)
end MSearch
end
section
-- the reference: the plan
def MKp (S T : MS) : Prop := (∀ k, k ≠ 3 → k ≠ 6 → k ≠ 7 → k ≠ 8 → T.1 k = S.1 k) ∧ (∀ k, k < 7 ∨ (28 < k ∧ k < 34) → T.2.1 k = S.2.1 k) ∧ (∃ τ, MA T 8 τ) ∧ (∃ τ, MA T 9 τ)
theorem MK.p {S T : MS} (h : MK S T) : MKp S T := ⟨fun k a _ b c => h.1 k a b c, fun k hk => h.2.1 k (by omega), h.2.2⟩
theorem MKp.tr {S T U : MS} (h1 : MKp S T) (h2 : MKp T U) : MKp S U := ⟨fun k a b c d => (h2.1 k a b c d).trans (h1.1 k a b c d), fun k hk => (h2.2.1 k hk).trans (h1.2.1 k hk), h2.2.2⟩
theorem MKp.my {S T : MS} {n P : Nat} {kd ct sg : Nat → Nat} (h : MKp S T) (hy : MY S n P kd ct sg) : MY T n P kd ct sg := by
  unfold MY
  rw [h.1 0 (by decide) (by decide) (by decide) (by decide), h.1 1 (by decide) (by decide) (by decide) (by decide), h.2.1 1 (by decide), h.2.1 4 (by decide), h.2.1 5 (by decide)]
  exact hy
theorem MOK.keep {T V : MS} {n P : Nat} {kd ct sg : Nat → Nat} {st : Nat} {fr : Nat → Option Nat} {mt : List Nat} (h : MOK T n P kd ct sg st fr mt) (h1 : V.2.1 10 = T.2.1 10) (h2 : V.1 7 = T.1 7) (h3 : V.2.1 14 = T.2.1 14) : MOK V n P kd ct sg st fr mt := by
  unfold MOK
  rw [h1, h2, h3]
  exact h
theorem lex_step {a b p r : Nat} : lexLt a b p (r + 1) ↔ lexLt a b p r ∨ (a = p ∧ b = r) := by
  unfold lexLt
  omega
/-- a mark of a stand -/
def mk1 (v : Int32) (Q : Prop) : Prop := (v = 1 ∧ Q) ∨ (v = 0 ∧ ¬ Q)
theorem mk1.iff {v : Int32} {Q R : Prop} (h : mk1 v Q) (e : Q ↔ R) : mk1 v R := by
  rcases h with ⟨h1, h2⟩ | ⟨h1, h2⟩
  · exact Or.inl ⟨h1, e.mp h2⟩
  · exact Or.inr ⟨h1, fun q => h2 (e.mpr q)⟩
theorem mk1.zero {v : Int32} {Q : Prop} (h : mk1 v Q) : v = 0 ↔ ¬ Q := by
  rcases h with ⟨h1, h2⟩ | ⟨h1, h2⟩
  · exact ⟨fun q => absurd (h1.symm.trans q) (by decide), fun q => absurd h2 q⟩
  · exact ⟨fun _ => h2, fun _ => h1⟩
set_option maxHeartbeats 1000000 in
theorem s_plan (l : Launch) {S : MS} {n P x y : Nat} {kd ct sg : Nat → Nat} (hy : MY S n P kd ct sg) (hx : x < P ^ n) (hxa : MA S 2 (dgs P x)) (hg : y < P ^ n) (hga : MA S 3 (dgs P y)) (h8 : ∃ τ, MA S 8 τ) (h9 : ∃ τ, MA S 9 τ) (post : Int32 → MS → Prop)
    (h0 : ¬ P ^ n ≤ 20000 → post (-1) (mf (mf S 3 0) 2 2))
    (h1 : P ^ n ≤ 20000 → ∀ T fr mt, MK (mf (mf S 3 0) 2 0) T → MOK T n P kd ct sg x fr mt → fr y = none → post (-2) T)
    (h2 : P ^ n ≤ 20000 → ∀ T fr (qs : List Nat), MKp (mf (mf S 3 0) 2 0) T → DS (P ^ n) x (tgN n P kd ct sg) (fun a b => ct (5 * a + b)) fr → fr y ≠ none → PL (tgN n P kd ct sg) (fun a b => ct (5 * a + b)) fr y qs x → T.1 6 = nI qs.length → (∀ (i q : Nat), qs[i]? = some q → T.2.1 7 i = nI q) → post (nI qs.length) T) : mX_plan l S post := by
  have hP2 := hy.2.2.1
  have hn2 := hy.2.2.2.1
  refine m_plan l S post ?_
  intro B57 B96 B108 B158 B190 B209 B226 B307 B313 B319 h57 h96 h108 h158 h190 h209 h226 h307 h313 h319
  unfold mT_plan_e
  refine s_fits l _ _ (n := n) (P := P) hy.2.1 hy.1 (by omega) hP2 ⟨fun c => ?_, fun c => ?_⟩
  rotate_left
  · have hN : ¬ P ^ n ≤ 20000 := of_decide_eq_false (bI_0.mp c)
    exact s_no l _ 2 _ (h0 hN)
  have hN : P ^ n ≤ 20000 := of_decide_eq_true (bI_n0.mp c)
  have hy2 : MY (mf (mf S 3 0) 2 0) n P kd ct sg := (hy.mf 0 (by decide) (by decide)).mf 0 (by decide) (by decide)
  refine s_meas l hy2 hx hxa h8 h9 hN _ (fun T fr mt hK hM => ?_)
  have hyT := hK.my hy2
  have hgT : ∀ j, j < n → T.2.1 3 j = nI (dgs P y j) := fun j hj => by rw [hK.2.1 3 (by decide)]; exact (hga j (by omega)).1
  refine s_pack l T 3 (by unfold m7; decide) _ hyT.2.1 hyT.1 (by omega) hgT ?_
  rw [dgs_pack hg, nI_clamp (show y < 2 ^ 31 by omega), hM.2.2.2.2.2.1 y hg]
  have hfn := farV_none (o := fr y) (fun k hk => hM.2.2.2.2.1 y k hk)
  refine ⟨vp_in_nI (by omega) (by omega), fun c2 => ?_, fun c2 => h1 hN T fr mt hK hM (hfn.mp c2)⟩
  have hfy : fr y ≠ none := fun q => c2 (hfn.mpr q)
  obtain ⟨mg, hmg⟩ := Option.ne_none_iff_exists'.mp hfy
  have hD := hM.1
  have hmem := hM.2.2.1
  have hsort := hM.2.2.2.1
  have hfb := hM.2.2.2.2.1
  have cpos : ∀ s a b t, tgN n P kd ct sg s a b = some t → 0 < ct (5 * a + b) := fun s a b t h => Nat.pos_of_ne_zero (tgN_cost h)
  have tgP : ∀ s a b t, tgN n P kd ct sg s a b = some t → a < P ∧ b < P := fun s a b t q => by
    unfold tgN at q
    split at q
    · next w => exact ⟨w.1, w.2.1⟩
    · cases q
  have hmlen : mt.length ≤ P ^ n := nodup_len _ mt hM.2.1 (fun z hz => hD.2.1 z ((hmem z).mp hz))
  obtain ⟨qs, hqs⟩ := PL.exist (N := P ^ n) (P := P) (g := y) (c := fun a b => ct (5 * a + b)) cpos tgP hmg mg x 0 hD.1 (by omega) (Good.start hD cpos mg y mg (Nat.le_refl _) hmg ⟨0, rfl⟩)
  have hlenq : qs.length + 1 ≤ P ^ n := by
    obtain ⟨vs, v1, v2, v3⟩ := PL.len (c := fun a b => ct (5 * a + b)) cpos hD.2.1 qs x 0 hD.1 hqs
    have := nodup_len _ vs v2 (fun z hz => (v3 z hz).1)
    omega
  -- the walk along the plan
  have walk : ∀ (rs ps : List Nat) (z : Nat) (U : MS), ps ++ rs = qs → MKp (mf (mf S 3 0) 2 0) U → MOK U n P kd ct sg x fr mt → (∀ w, fr w ≠ none → mk1 (U.2.1 16 w) (Good (tgN n P kd ct sg) (fun a b => ct (5 * a + b)) fr y w)) → U.1 6 = nI ps.length → (∀ (i q : Nat), ps[i]? = some q → U.2.1 7 i = nI q) → z < P ^ n → fr z ≠ none → PL (tgN n P kd ct sg) (fun a b => ct (5 * a + b)) fr y rs z → B190 U (nI y) (nI z) := by
    intro rs
    induction rs with
    | nil =>
      intro ps z U hps hKU hMU hmk u6 u7 hz hfz hpl
      rw [List.append_nil] at hps
      subst hps
      have hpl : z = y := hpl
      subst hpl
      refine h190 _ _ _ ?_
      unfold mT_plan_190
      rw [u6]
      exact ⟨fun _ => h2 hN U fr ps hKU hD hfy hqs u6 u7, fun w => absurd rfl w⟩
    | cons q rs ih =>
      intro ps z U hps hKU hMU hmk u6 u7 hz hfz hpl
      obtain ⟨hzy, a, b, t, hfst, hq, hpl2⟩ := hpl
      obtain ⟨mz, hmz⟩ := Option.ne_none_iff_exists'.mp hfz
      have hab := tgP z a b t hfst.1.1
      have hlq : ps.length < qs.length := by rw [← hps, List.length_append, List.length_cons]; omega
      refine h190 _ _ _ ?_
      unfold mT_plan_190
      refine ⟨fun w => absurd ((nI_eq (by omega) (by omega)).mp w) hzy, fun _ => ?_⟩
      refine s_unp l (hKU.my hy2) (by omega) hKU.2.2.1 _ (fun f hu => ?_)
      -- the loop over pairs, up to the first one
      have key := pair_loop (α := MS) (P := P) (Bo := fun U p => B209 U (nI y) (nI z) (-1) (nI p)) (Bi := fun U p r => B226 U (nI y) (nI z) (-1) (nI p) (nI r))
        (I := fun p r U => MKp (mf (mf S 3 0) 2 0) U ∧ MOK U n P kd ct sg x fr mt ∧ (∀ w, fr w ≠ none → mk1 (U.2.1 16 w) (Good (tgN n P kd ct sg) (fun a b => ct (5 * a + b)) fr y w)) ∧ U.1 6 = nI ps.length ∧ (∀ (i q : Nat), ps[i]? = some q → U.2.1 7 i = nI q) ∧ U8 U n P z ∧ ¬ lexLt a b p r) ?_ ?_ ?_ ?_ ?_
      · refine key (ma U 8 f) ⟨?_, hMU.keep (by rw [ma_get_ne _ _ (by decide)]) rfl (by rw [ma_get_ne _ _ (by decide)]), ?_, u6, ?_, hu, fun w => by unfold lexLt at w; omega⟩
        · obtain ⟨k1, k2, -, ⟨ρ, k4⟩⟩ := hKU
          exact ⟨k1, fun j hj => by rw [ma_get_ne _ _ (by omega)]; exact k2 j hj, hu.at, ρ, fun j hj => by rw [ma_get_ne _ _ (by decide)]; exact k4 j hj⟩
        · intro w hw; rw [ma_get_ne _ _ (by decide)]; exact hmk w hw
        · intro i q hi; rw [ma_get_ne _ _ (by decide)]; exact u7 i q hi
      · rintro V p hp ⟨k1, k2, k3, k4, k5, k6, k7⟩ hBi
        refine h209 _ _ _ _ _ ?_
        unfold mT_plan_209
        rw [(k1.my hy2).1]
        exact ⟨fun w => absurd w (nI_ge (by omega) (by omega)), fun _ => ⟨fun w => absurd rfl w, fun _ => hBi⟩⟩
      · rintro V ⟨k1, k2, k3, k4, k5, k6, k7⟩
        exact absurd (Or.inl hab.1) k7
      · rintro V p r hp hr ⟨k1, k2, k3, k4, k5, k6, k7⟩ nxt
        have hyV := k1.my hy2
        refine h226 _ _ _ _ _ _ ?_
        unfold mT_plan_226
        rw [hyV.1]
        refine ⟨fun w => absurd w (nI_ge (by omega) (by omega)), fun _ => ⟨fun w => absurd rfl w, fun _ => ?_⟩⟩
        refine s_ld l hyV k6 k1.2.2.2 hp hr _ (fun W hW => ?_)
        have hyW := hW.my hyV
        have w10 : ∀ z, z < P ^ n → W.2.1 10 z = farV (fr z) := by rw [hW.2.2.1 10 (by decide)]; exact k2.2.2.2.2.2.1
        have hKW : MKp (mf (mf S 3 0) 2 0) W := k1.tr (MK.of9 hW k1.2.2.1).p
        have hMW : MOK W n P kd ct sg x fr mt := k2.keep (hW.2.2.1 10 (by decide)) (by rw [hW.1]) (hW.2.2.1 14 (by decide))
        have hkW : ∀ w, fr w ≠ none → mk1 (W.2.1 16 w) (Good (tgN n P kd ct sg) (fun a b => ct (5 * a + b)) fr y w) := by rw [hW.2.2.1 16 (by decide)]; exact k3
        have w6 : W.1 6 = nI ps.length := by rw [hW.1]; exact k4
        have w7 : ∀ (i q : Nat), ps[i]? = some q → W.2.1 7 i = nI q := by rw [hW.2.2.1 7 (by decide)]; exact k5
        have skip : ¬ (a = p ∧ b = r) → B307 W (nI y) (nI z) (-1) (nI p) (nI r) := by
          intro hne
          refine h307 _ _ _ _ _ _ ?_
          unfold mT_plan_307
          rw [← nI_succ]
          exact nxt W ⟨hKW, hMW, hkW, w6, w7, hW.u8 k6, fun w => (lex_step.mp w).elim k7 hne⟩
        refine s_near l hyW hN w10 hfb hz hmz hp hr _ (fun hno => ⟨fun _ => skip (fun w => ?_), fun w => absurd rfl w⟩) (fun t' ht' hnr => ⟨fun w => absurd w (by decide), fun _ => ?_⟩)
        · rw [← w.1, ← w.2] at hno
          exact hno t hfst.1
        · have ht'N := tgN_lt (by omega) ht'
          obtain ⟨-, km, -, hkm⟩ := id hnr
          have hft' : fr t' ≠ none := by rw [hkm]; exact Option.some_ne_none _
          rw [ht']
          show vp_in (nI t') 20000 ∧ _
          have e1 : (lab (some t')).toNatClampNeg = t' := nI_clamp (by omega)
          rw [e1]
          have hmz' := (hkW t' hft').zero
          refine ⟨vp_in_nI (by omega) (by omega), fun c3 => ⟨by rw [w6]; exact vp_in_nI (by omega) (by omega), ?_⟩, fun c3 => skip (fun w => ?_)⟩
          · have hgt' : Good (tgN n P kd ct sg) (fun a b => ct (5 * a + b)) fr y t' := Classical.byContradiction (fun q => c3 (hmz'.mpr q))
            -- it is the first one
            have same : p = a ∧ r = b := by
              rcases Nat.lt_trichotomy p a with q | q | q
              · exact absurd ⟨t', hnr, hgt'⟩ (hfst.2.2 p r (Or.inl q))
              · rcases Nat.lt_trichotomy r b with q2 | q2 | q2
                · exact absurd ⟨t', hnr, hgt'⟩ (hfst.2.2 p r (Or.inr ⟨q, q2⟩))
                · exact ⟨q, q2⟩
                · exact absurd (Or.inr ⟨q.symm, q2⟩) k7
              · exact absurd (Or.inl q) k7
            obtain ⟨s1, s2⟩ := same
            subst s1
            subst s2
            have ht2 : t' = t := Option.some.inj (ht'.symm.trans hfst.1.1)
            subst ht2
            have hlen1 : (ps ++ [q]).length = ps.length + 1 := by rw [List.length_append, List.length_singleton]
            rw [w6, nI_clamp (show ps.length < 2 ^ 31 by omega)]
            have e10 : (10 : Int32) * nI p + nI r = nI q := by rw [show (10 : Int32) = nI 10 from rfl, pk_mul, nI_add, hq]
            rw [e10, nI_1]
            have fin := ih (ps ++ [q]) t' (mf (ma W 7 (upd (W.2.1 7) ps.length (nI q))) 6 (nI (ps.length + 1))) (by rw [List.append_assoc]; exact hps) ?_ ?_ ?_ ?_ ?_ ht'N hft' hpl2
            · have e319 : B319 (mf (ma W 7 (upd (W.2.1 7) ps.length (nI q))) 6 (nI (ps.length + 1))) (nI y) (nI t') := h319 _ _ _ fin
              have hne1 : ¬ nI t' = -1 := nI_m1 (by omega)
              refine h307 _ _ _ _ _ _ ?_
              unfold mT_plan_307
              refine h226 _ _ _ _ _ _ ?_
              unfold mT_plan_226
              have e313 : B313 (mf (ma W 7 (upd (W.2.1 7) ps.length (nI q))) 6 (nI (ps.length + 1))) (nI y) (nI z) (nI t') (nI p) := by
                refine h313 _ _ _ _ _ ?_
                unfold mT_plan_313
                refine h209 _ _ _ _ _ ?_
                unfold mT_plan_209
                exact ⟨fun _ => e319, fun _ => ⟨fun _ => e319, fun w => absurd w hne1⟩⟩
              exact ⟨fun _ => e313, fun _ => ⟨fun _ => e313, fun w => absurd w hne1⟩⟩
            · obtain ⟨j1, j2, ⟨τ, j3⟩, ⟨ρ, j4⟩⟩ := hKW
              refine ⟨fun k a1 a2 a3 a4 => ?_, fun k hk => ?_, ⟨τ, fun j hj => ?_⟩, ⟨ρ, fun j hj => ?_⟩⟩
              · rw [mf_get_ne _ _ a2]; exact j1 k a1 a2 a3 a4
              · show (ma W 7 _).2.1 k = _
                rw [ma_get_ne _ _ (by omega)]; exact j2 k hk
              · exact j3 j hj
              · exact j4 j hj
            · exact hMW.keep rfl (by rw [mf_get_ne _ _ (by decide)]; rfl) rfl
            · exact hkW
            · rw [mf_get, hlen1]
            · intro i r' hi
              show upd (W.2.1 7) ps.length (nI q) i = nI r'
              by_cases e : i = ps.length
              · subst e
                rw [List.getElem?_append_right (Nat.le_refl _), Nat.sub_self] at hi
                cases hi
                exact upd_same _ _ _
              · have hil : i < ps.length := by
                  have := (List.getElem?_eq_some_iff.mp hi).1
                  rw [hlen1] at this
                  omega
                rw [List.getElem?_append_left hil] at hi
                rw [upd_other _ _ e]
                exact w7 i r' hi
          · have hng := hmz'.mp c3
            rw [← w.1, ← w.2, hfst.1.1] at ht'
            cases ht'
            exact hng hfst.2.1
      · rintro V p hp ⟨k1, k2, k3, k4, k5, k6, k7⟩ hBo
        have e313 : B313 V (nI y) (nI z) (-1) (nI p) := by
          refine h313 _ _ _ _ _ ?_
          unfold mT_plan_313
          rw [← nI_succ]
          exact hBo
        refine h226 _ _ _ _ _ _ ?_
        unfold mT_plan_226
        rw [(k1.my hy2).1]
        exact ⟨fun _ => e313, fun w => absurd (nI_le (Nat.le_refl _) (by omega)) w⟩
      · rintro V p hp ⟨k1, k2, k3, k4, k5, k6, k7⟩
        refine ⟨k1, k2, k3, k4, k5, k6, fun w => k7 ?_⟩
        unfold lexLt at w ⊢
        omega
  -- the marks
  have marks : ∀ q, q ≤ mt.length → ∀ V : MS, MK (mf (mf S 3 0) 2 0) V → MOK V n P kd ct sg x fr mt → (∀ i w, q ≤ i → mt[i]? = some w → mk1 (V.2.1 16 w) (Good (tgN n P kd ct sg) (fun a b => ct (5 * a + b)) fr y w)) → B57 V (nI y) (nI q - 1) := by
    intro q
    induction q with
    | zero =>
      intro _ V hKV hMV hmk
      refine h57 _ _ _ ?_
      unfold mT_plan_57
      refine ⟨fun _ => ?_, fun w => absurd (by decide) w⟩
      have hyV := hKV.my hy2
      have hxV : ∀ j, j < n → V.2.1 2 j = nI (dgs P x j) := fun j hj => by rw [hKV.2.1 2 (by decide)]; exact (hxa j (by omega)).1
      refine s_pack l (mf V 6 0) 2 (by unfold m7; decide) _ (n := n) (P := P) hyV.2.1 hyV.1 (by omega) hxV ?_
      rw [dgs_pack hx]
      refine walk qs [] x (mf V 6 0) rfl ?_ ?_ (fun w hw => ?_) (mf_get _ _ _) (fun i q h => by cases h) hx (by rw [hD.1]; exact Option.some_ne_none 0) hqs
      · obtain ⟨j1, j2, j3, j4⟩ := hKV
        exact ⟨fun k a1 a2 a3 a4 => by rw [mf_get_ne _ _ a2]; exact j1 k a1 a3 a4, fun k hk => j2 k (by omega), j3, j4⟩
      · exact hMV.keep rfl (by rw [mf_get_ne _ _ (by decide)]) rfl
      · obtain ⟨i, hi⟩ := idx_of ((hmem w).mpr hw)
        exact hmk i w (Nat.zero_le _) hi
    | succ q ih =>
      intro hq V hKV hMV hmk
      obtain ⟨s, hs⟩ : ∃ s, mt[q]? = some s := ⟨_, List.getElem?_eq_getElem (by omega)⟩
      have hsf := (hmem s).mp (List.mem_of_getElem? hs)
      obtain ⟨ms, hms⟩ := Option.ne_none_iff_exists'.mp hsf
      have hsN := hD.2.1 s hsf
      -- a near stand lies behind
      have near_idx : ∀ a b t, nearX (tgN n P kd ct sg) (fun a b => ct (5 * a + b)) fr s a b t → t ≠ s ∧ ∃ i, q + 1 ≤ i ∧ mt[i]? = some t := by
        intro a b t hn
        obtain ⟨n1, k, n2, n3⟩ := hn
        rw [hms] at n2
        cases n2
        have n3 : fr t = some (ms + ct (5 * a + b)) := n3
        have hc := cpos s a b t n1
        have hts : t ≠ s := fun e => by rw [e, hms] at n3; have := Option.some.inj n3; omega
        refine ⟨hts, ?_⟩
        obtain ⟨i, hi⟩ := idx_of ((hmem t).mpr (by rw [n3]; exact Option.some_ne_none _))
        refine ⟨i, ?_, hi⟩
        rcases Nat.lt_trichotomy i q with w | w | w
        · obtain ⟨li, ei⟩ := List.getElem?_eq_some_iff.mp hi
          obtain ⟨lj, ej⟩ := List.getElem?_eq_some_iff.mp hs
          have := (List.pairwise_iff_getElem.mp hsort) i q li lj w
          rw [ei, ej] at this
          have := this _ _ n3 hms
          omega
        · subst w
          rw [hs] at hi
          cases hi
          exact absurd rfl hts
        · omega
      -- the pairs of pegs
      have loop : ∀ V : MS, MK (mf (mf S 3 0) 2 0) V → MOK V n P kd ct sg x fr mt → (∀ i w, q + 1 ≤ i → mt[i]? = some w → mk1 (V.2.1 16 w) (Good (tgN n P kd ct sg) (fun a b => ct (5 * a + b)) fr y w)) → U8 V n P s → mk1 (V.2.1 16 s) (s = y) → B96 V (nI y) (nI q) (nI s) (nI 0) := by
        intro V hKV hMV hmk hU hms1
        refine pair_loop (α := MS) (P := P) (Bo := fun U p => B96 U (nI y) (nI q) (nI s) (nI p)) (Bi := fun U p r => B108 U (nI y) (nI q) (nI s) (nI p) (nI r))
          (I := fun p r U => MK (mf (mf S 3 0) 2 0) U ∧ MOK U n P kd ct sg x fr mt ∧ (∀ i w, q + 1 ≤ i → mt[i]? = some w → mk1 (U.2.1 16 w) (Good (tgN n P kd ct sg) (fun a b => ct (5 * a + b)) fr y w)) ∧ U8 U n P s ∧ mk1 (U.2.1 16 s) (s = y ∨ ∃ a b t, lexLt a b p r ∧ nearX (tgN n P kd ct sg) (fun a b => ct (5 * a + b)) fr s a b t ∧ Good (tgN n P kd ct sg) (fun a b => ct (5 * a + b)) fr y t)) ?_ ?_ ?_ ?_ ?_ V ?_
        · rintro U p hp ⟨k1, k2, k3, k4, k5⟩ hBi
          refine h96 _ _ _ _ _ ?_
          unfold mT_plan_96
          rw [(k1.my hy2).1]
          exact ⟨fun w => absurd w (nI_ge (by omega) (by omega)), fun _ => hBi⟩
        · rintro U ⟨k1, k2, k3, k4, k5⟩
          refine h96 _ _ _ _ _ ?_
          unfold mT_plan_96
          rw [(k1.my hy2).1, i_sub1]
          refine ⟨fun _ => ih (by omega) U k1 k2 (fun i w hi hw => ?_), fun w => absurd (nI_le (Nat.le_refl _) (by omega)) w⟩
          by_cases e : i = q
          · subst e
            rw [hs] at hw
            cases hw
            refine k5.iff ?_
            rw [Good.iff]
            constructor
            · rintro (w | ⟨a, b, t, -, w2, w3⟩)
              · exact Or.inl w
              · exact Or.inr ⟨a, b, t, w2, w3⟩
            · rintro (w | ⟨a, b, t, w2, w3⟩)
              · exact Or.inl w
              · exact Or.inr ⟨a, b, t, Or.inl (tgP s a b t w2.1).1, w2, w3⟩
          · exact k3 i w (by omega) hw
        · rintro U p r hp hr ⟨k1, k2, k3, k4, k5⟩ nxt
          have hyU := k1.my hy2
          refine h108 _ _ _ _ _ _ ?_
          unfold mT_plan_108
          rw [hyU.1]
          refine ⟨fun w => absurd w (nI_ge (by omega) (by omega)), fun _ => ?_⟩
          refine s_ld l hyU k4 k1.2.2.2 hp hr _ (fun W hW => ?_)
          have hyW := hW.my hyU
          have w10 : ∀ z, z < P ^ n → W.2.1 10 z = farV (fr z) := by rw [hW.2.2.1 10 (by decide)]; exact k2.2.2.2.2.2.1
          have hKW : MK (mf (mf S 3 0) 2 0) W := k1.tr (MK.of9 hW k1.2.2.1)
          have hMW : MOK W n P kd ct sg x fr mt := k2.keep (hW.2.2.1 10 (by decide)) (by rw [hW.1]) (hW.2.2.1 14 (by decide))
          have w16 : W.2.1 16 = U.2.1 16 := hW.2.2.1 16 (by decide)
          have go : ∀ Z : MS, MK (mf (mf S 3 0) 2 0) Z → MOK Z n P kd ct sg x fr mt → (∀ w, w ≠ s → Z.2.1 16 w = U.2.1 16 w) → U8 Z n P s → mk1 (Z.2.1 16 s) (s = y ∨ ∃ a b t, lexLt a b p (r + 1) ∧ nearX (tgN n P kd ct sg) (fun a b => ct (5 * a + b)) fr s a b t ∧ Good (tgN n P kd ct sg) (fun a b => ct (5 * a + b)) fr y t) → B158 Z (nI y) (nI q) (nI s) (nI p) (nI r) := by
            intro Z z1 z2 z3 z4 z5
            refine h158 _ _ _ _ _ _ ?_
            unfold mT_plan_158
            rw [← nI_succ]
            refine nxt Z ⟨z1, z2, fun i w hi hw => ?_, z4, z5⟩
            have hws : w ≠ s := fun e => by
              have := nodup_idx hM.2.1 hw (by rw [e]; exact hs)
              omega
            rw [z3 w hws]
            exact k3 i w hi hw
          have stay : ¬ (∃ t, nearX (tgN n P kd ct sg) (fun a b => ct (5 * a + b)) fr s p r t ∧ Good (tgN n P kd ct sg) (fun a b => ct (5 * a + b)) fr y t) → B158 W (nI y) (nI q) (nI s) (nI p) (nI r) := by
            intro hno
            refine go W hKW hMW (fun w _ => by rw [w16]) (hW.u8 k4) ?_
            rw [w16]
            refine k5.iff ?_
            constructor
            · rintro (w | ⟨a, b, t, w1, w2⟩)
              · exact Or.inl w
              · exact Or.inr ⟨a, b, t, lex_step.mpr (Or.inl w1), w2⟩
            · rintro (w | ⟨a, b, t, w1, w2⟩)
              · exact Or.inl w
              · rcases lex_step.mp w1 with w3 | ⟨w3, w4⟩
                · exact Or.inr ⟨a, b, t, w3, w2⟩
                · subst w3
                  subst w4
                  exact absurd ⟨t, w2⟩ hno
          refine s_near l hyW hN w10 hfb hsN hms hp hr _ (fun hno => ⟨fun _ => stay (fun w => hno _ w.choose_spec.1), fun w => absurd rfl w⟩) (fun t ht hnr => ⟨fun w => absurd w (by decide), fun _ => ?_⟩)
          have htN := tgN_lt (by omega) ht
          obtain ⟨hts, i, hi, hit⟩ := near_idx p r t hnr
          rw [ht]
          show vp_in (nI t) 20000 ∧ _
          have e1 : (lab (some t)).toNatClampNeg = t := nI_clamp (by omega)
          rw [e1, w16, nI_clamp (show s < 2 ^ 31 by omega)]
          have hmt := (k3 i t hi hit).zero
          refine ⟨vp_in_nI (by omega) (by omega), fun c3 => stay (fun w => ?_), fun c3 => ⟨vp_in_nI (by omega) (by omega), ?_⟩⟩
          · obtain ⟨t', w1, w2⟩ := w
            have e : t' = t := Option.some.inj (w1.1.symm.trans ht)
            subst e
            exact hmt.mp c3 w2
          · have hgt : Good (tgN n P kd ct sg) (fun a b => ct (5 * a + b)) fr y t := Classical.byContradiction (fun w => c3 (hmt.mpr w))
            refine go _ (hKW.mar _ (by decide)) (hMW.keep rfl rfl rfl) (fun w hw => ?_) ?_ (Or.inl ⟨?_, Or.inr ⟨p, r, t, lex_step.mpr (Or.inr ⟨rfl, rfl⟩), hnr, hgt⟩⟩)
            · rw [ma_get, upd_other _ _ hw]
            · obtain ⟨σ, v1, v2⟩ := hW.u8 k4
              exact ⟨σ, fun j hj => by rw [ma_get_ne _ _ (by decide)]; exact v1 j hj, v2⟩
            · rw [ma_get, upd_same]; rfl
        · rintro U p hp ⟨k1, k2, k3, k4, k5⟩ hBo
          refine h108 _ _ _ _ _ _ ?_
          unfold mT_plan_108
          rw [(k1.my hy2).1, ← nI_succ]
          exact ⟨fun _ => hBo, fun w => absurd (nI_le (Nat.le_refl _) (by omega)) w⟩
        · rintro U p hp ⟨k1, k2, k3, k4, k5⟩
          refine ⟨k1, k2, k3, k4, k5.iff ?_⟩
          constructor
          · rintro (w | ⟨a, b, t, w1, w2⟩)
            · exact Or.inl w
            · exact Or.inr ⟨a, b, t, by unfold lexLt at w1 ⊢; omega, w2⟩
          · rintro (w | ⟨a, b, t, w1, w2⟩)
            · exact Or.inl w
            · have := (tgP s a b t w2.1.1).2
              exact Or.inr ⟨a, b, t, by unfold lexLt at w1 ⊢; omega, w2⟩
        · refine ⟨hKV, hMV, hmk, hU, hms1.iff ⟨Or.inl, ?_⟩⟩
          rintro (w | ⟨a, b, t, w1, -⟩)
          · exact w
          · unfold lexLt at w1; omega
      -- the stand itself
      have set16 : ∀ v : Int32, mk1 v (s = y) → mX_unpack l (ma V 16 (upd (V.2.1 16) s v)) (nI s) 8 (fun S8 => B96 S8 (nI y) (nI q) (nI s) 0) := by
        intro v hv
        have hK1 : MK (mf (mf S 3 0) 2 0) (ma V 16 (upd (V.2.1 16) s v)) := hKV.mar _ (by decide)
        refine s_unp l (hK1.my hy2) (by omega) hK1.2.2.1 _ (fun f hu => ?_)
        refine loop _ (hK1.m8 hu) (hMV.keep rfl rfl rfl) (fun i w hi hw => ?_) hu ?_
        · have hws : w ≠ s := fun e => by
            have := nodup_idx hM.2.1 hw (by rw [e]; exact hs)
            omega
          show mk1 (upd (V.2.1 16) s v w) _
          rw [upd_other _ _ hws]
          exact hmk i w hi hw
        · show mk1 (upd (V.2.1 16) s v s) _
          rw [upd_same]; exact hv
      refine h57 _ _ _ ?_
      unfold mT_plan_57
      rw [nI_pred, nI_clamp (show q < 2 ^ 31 by omega), hMV.2.2.2.2.2.2.2 q s hs]
      refine ⟨fun w => absurd w (nI_pos (by omega)), fun _ => ⟨vp_in_nI (by omega) (by omega), fun v3 e3 => ?_⟩⟩
      subst e3
      rw [nI_clamp (show s < 2 ^ 31 by omega)]
      refine ⟨fun c3 => ⟨vp_in_nI (by omega) (by omega), set16 _ (Or.inr ⟨rfl, fun w => c3 (by rw [w])⟩)⟩, fun c3 => ⟨vp_in_nI (by omega) (by omega), set16 _ (Or.inl ⟨rfl, (nI_eq (by omega) (by omega)).mp c3⟩)⟩⟩
  intro v e
  rw [hM.2.2.2.2.2.2.1] at e
  rw [e]
  exact marks mt.length (Nat.le_refl _) T hK hM (fun i w hi hw => absurd (List.getElem?_eq_some_iff.mp hw).1 (by omega))
end
section
-- the reference: how many cheapest rows there are
/-- the moves of s that come at or behind a pair -/
def remE (g : Nat → Nat → Bool) (P p r : Nat) : List (Nat × Nat) := mvB g p (P - r) r ++ mvA g P (P - (p + 1)) (p + 1)
theorem remE_0 {g : Nat → Nat → Bool} {P : Nat} (h : 0 < P) : remE g P 0 0 = mvA g P P 0 := by
  obtain ⟨k, rfl⟩ : ∃ k, P = k + 1 := ⟨P - 1, by omega⟩
  unfold remE
  conv => rhs; unfold mvA
  rw [Nat.sub_zero, show k + 1 - (0 + 1) = k by omega]
theorem remE_in {g : Nat → Nat → Bool} {P p r : Nat} (h : r < P) : remE g P p r = if g p r then (p, r) :: remE g P p (r + 1) else remE g P p (r + 1) := by
  unfold remE
  rw [show P - r = (P - (r + 1)) + 1 by omega]
  conv => lhs; unfold mvB
  split
  · rw [List.cons_append]
  · rfl
theorem remE_row {g : Nat → Nat → Bool} {P p : Nat} (h : p < P) (hg : ∀ q, g P q = false) : remE g P p P = remE g P (p + 1) 0 := by
  unfold remE
  rw [Nat.sub_self, Nat.sub_zero, show mvB g p 0 P = [] from rfl, List.nil_append]
  by_cases e : p + 1 = P
  · rw [e, Nat.sub_self, show P - (P + 1) = 0 by omega, mvB_nil P 0 (fun q _ _ => hg q)]
    rfl
  · rw [show P - (p + 1) = (P - (p + 1 + 1)) + 1 by omega]
    rfl
theorem remE_end {g : Nat → Nat → Bool} {P : Nat} (hg : ∀ q, g P q = false) : remE g P P 0 = [] := by
  unfold remE
  rw [Nat.sub_zero, show P - (P + 1) = 0 by omega, mvB_nil P 0 (fun q _ _ => hg q)]
  rfl
set_option maxHeartbeats 1000000 in
theorem s_ways (l : Launch) {S : MS} {n P x y : Nat} {kd ct sg : Nat → Nat} (hy : MY S n P kd ct sg) (hx : x < P ^ n) (hxa : MA S 2 (dgs P x)) (hg : y < P ^ n) (hga : MA S 3 (dgs P y)) (h8 : ∃ τ, MA S 8 τ) (h9 : ∃ τ, MA S 9 τ) (post : Int64 → MS → Prop)
    (h0 : ¬ P ^ n ≤ 20000 → post (-1) (mf (mf S 3 0) 2 2))
    (h1 : P ^ n ≤ 20000 → ∀ T fr mt, MK (mf (mf S 3 0) 2 0) T → MOK T n P kd ct sg x fr mt → fr y = none → post 0 T)
    (h2 : P ^ n ≤ 20000 → ∀ T fr mt, MK (mf (mf S 3 0) 2 0) T → MOK T n P kd ct sg x fr mt → fr y ≠ none → RI x (tgN n P kd ct sg) (fun a b => ct (5 * a + b)) fr (T.2.2 15) (allE (mvL n P kd ct sg) mt) → post (T.2.2 15 y) T) : mX_ways l S post := by
  have hP2 := hy.2.2.1
  have hn2 := hy.2.2.2.1
  refine m_ways l S post ?_
  intro B52 B88 B115 B127 B176 h52 h88 h115 h127 h176
  unfold mT_ways_e
  refine s_fits l _ _ (n := n) (P := P) hy.2.1 hy.1 (by omega) hP2 ⟨fun c => ?_, fun c => ?_⟩
  rotate_left
  · have hN : ¬ P ^ n ≤ 20000 := of_decide_eq_false (bI_0.mp c)
    exact s_no l _ 2 _ (h0 hN)
  have hN : P ^ n ≤ 20000 := of_decide_eq_true (bI_n0.mp c)
  have hy2 : MY (mf (mf S 3 0) 2 0) n P kd ct sg := (hy.mf 0 (by decide) (by decide)).mf 0 (by decide) (by decide)
  refine s_meas l hy2 hx hxa h8 h9 hN _ (fun T fr mt hK hM => ?_)
  have hyT := hK.my hy2
  have hgT : ∀ j, j < n → T.2.1 3 j = nI (dgs P y j) := fun j hj => by rw [hK.2.1 3 (by decide)]; exact (hga j (by omega)).1
  refine s_pack l T 3 (by unfold m7; decide) _ hyT.2.1 hyT.1 (by omega) hgT ?_
  rw [dgs_pack hg, nI_clamp (show y < 2 ^ 31 by omega), hM.2.2.2.2.2.1 y hg]
  have hfn := farV_none (o := fr y) (fun k hk => hM.2.2.2.2.1 y k hk)
  refine ⟨vp_in_nI (by omega) (by omega), fun c2 => ?_, fun c2 => h1 hN T fr mt hK hM (hfn.mp c2)⟩
  have hfy : fr y ≠ none := fun q => c2 (hfn.mpr q)
  have hD := hM.1
  have hmem := hM.2.2.1
  have hsort := hM.2.2.2.1
  have hfb := hM.2.2.2.2.1
  have cpos : ∀ s a b t, tgN n P kd ct sg s a b = some t → 0 < ct (5 * a + b) := fun s a b t h => Nat.pos_of_ne_zero (tgN_cost h)
  have tgP : ∀ s a b t, tgN n P kd ct sg s a b = some t → a < P ∧ b < P := fun s a b t q => by
    unfold tgN at q
    split at q
    · next w => exact ⟨w.1, w.2.1⟩
    · cases q
  have hmlen : mt.length ≤ P ^ n := nodup_len _ mt hM.2.1 (fun z hz => hD.2.1 z ((hmem z).mp hz))
  -- the first one that is met is the start
  have first : ∀ z, mt[0]? = some z ↔ z = x := by
    have hx0 : mt[0]? = some x := by
      obtain ⟨i, hi⟩ := idx_of ((hmem x).mpr (by rw [hD.1]; exact Option.some_ne_none 0))
      rcases Nat.eq_zero_or_pos i with w | w
      · rw [w] at hi; exact hi
      · obtain ⟨li, ei⟩ := List.getElem?_eq_some_iff.mp hi
        have hl0 : 0 < mt.length := by omega
        have h0' : mt[0]? = some mt[0] := List.getElem?_eq_getElem hl0
        have := (List.pairwise_iff_getElem.mp hsort) 0 i hl0 li w
        rw [ei] at this
        obtain ⟨m0, hm0⟩ := Option.ne_none_iff_exists'.mp ((hmem mt[0]).mp (List.getElem_mem hl0))
        have hz := this m0 0 hm0 hD.1
        rcases hD.2.2.1 mt[0] m0 hm0 with ⟨e, -⟩ | ⟨s, a, b, k, q1, q2, q3⟩
        · rw [h0', e]
        · have := cpos s a b _ q1
          have q3 : m0 = k + ct (5 * a + b) := q3
          omega
    intro z
    rw [hx0]
    exact ⟨fun q => (Option.some.inj q).symm, fun q => by rw [q]⟩
  -- the second loop
  have outer : ∀ d k, k + d = mt.length → ∀ V : MS, MK (mf (mf S 3 0) 2 0) V → MOK V n P kd ct sg x fr mt → RI x (tgN n P kd ct sg) (fun a b => ct (5 * a + b)) fr (V.2.2 15) (allE (mvL n P kd ct sg) (mt.take k)) → B88 V (nI y) (nI k) := by
    intro d
    induction d with
    | zero =>
      intro k hk V hKV hMV hR
      refine h88 _ _ _ ?_
      unfold mT_ways_88
      rw [hMV.2.2.2.2.2.2.1, nI_clamp (show y < 2 ^ 31 by omega)]
      rw [List.take_of_length_le (by omega)] at hR
      exact ⟨fun _ => ⟨vp_in_nI (by omega) (by omega), h2 hN V fr mt hKV hMV hfy hR⟩, fun q => absurd (nI_le (by omega) (by omega)) q⟩
    | succ d ih =>
      intro k hk V hKV hMV hR
      obtain ⟨s, hs⟩ : ∃ s, mt[k]? = some s := ⟨_, List.getElem?_eq_getElem (by omega)⟩
      have hsf := (hmem s).mp (List.mem_of_getElem? hs)
      obtain ⟨ms, hms⟩ := Option.ne_none_iff_exists'.mp hsf
      have hsN := hD.2.1 s hsf
      have near_idx : ∀ a b t, nearX (tgN n P kd ct sg) (fun a b => ct (5 * a + b)) fr s a b t → t ≠ s ∧ ∀ i, mt[i]? = some t → k < i := by
        intro a b t hn
        obtain ⟨n1, k', n2, n3⟩ := hn
        rw [hms] at n2
        cases n2
        have n3 : fr t = some (ms + ct (5 * a + b)) := n3
        have hc := cpos s a b t n1
        have hts : t ≠ s := fun e => by rw [e, hms] at n3; have := Option.some.inj n3; omega
        refine ⟨hts, fun i hi => ?_⟩
        rcases Nat.lt_trichotomy i k with w | w | w
        · obtain ⟨li, ei⟩ := List.getElem?_eq_some_iff.mp hi
          obtain ⟨lj, ej⟩ := List.getElem?_eq_some_iff.mp hs
          have := (List.pairwise_iff_getElem.mp hsort) i k li lj w
          rw [ei, ej] at this
          have := this _ _ n3 hms
          omega
        · subst w
          rw [hs] at hi
          cases hi
          exact absurd rfl hts
        · exact w
      obtain ⟨g, hge⟩ : ∃ g : Nat → Nat → Bool, g = fun a b => (tgN n P kd ct sg s a b).isSome := ⟨_, rfl⟩
      have hgP : ∀ q, g P q = false := by
        intro q
        rw [hge]
        show (tgN n P kd ct sg s P q).isSome = false
        cases e : tgN n P kd ct sg s P q with
        | none => rfl
        | some t => have := (tgP s P q t e).1; omega
      have hmv : mvL n P kd ct sg s = mvA g P P 0 := by rw [hge]; rfl
      have loop : ∀ V : MS, MK (mf (mf S 3 0) 2 0) V → MOK V n P kd ct sg x fr mt → U8 V n P s → RI x (tgN n P kd ct sg) (fun a b => ct (5 * a + b)) fr (V.2.2 15) (allE (mvL n P kd ct sg) (mt.take k)) → B115 V (nI y) (nI k) (nI s) (nI 0) := by
        intro V hKV hMV hU hR
        refine pair_loop (α := MS) (P := P) (Bo := fun U p => B115 U (nI y) (nI k) (nI s) (nI p)) (Bi := fun U p r => B127 U (nI y) (nI k) (nI s) (nI p) (nI r))
          (I := fun p r U => MK (mf (mf S 3 0) 2 0) U ∧ MOK U n P kd ct sg x fr mt ∧ U8 U n P s ∧ ∃ L, L ++ remE g P p r = mvL n P kd ct sg s ∧ RI x (tgN n P kd ct sg) (fun a b => ct (5 * a + b)) fr (U.2.2 15) (allE (mvL n P kd ct sg) (mt.take k) ++ L.map (fun q => (s, q.1, q.2)))) ?_ ?_ ?_ ?_ ?_ V ?_
        · rintro U p hp ⟨k1, k2, k3, k4⟩ hBi
          refine h115 _ _ _ _ _ ?_
          unfold mT_ways_115
          rw [(k1.my hy2).1]
          exact ⟨fun w => absurd w (nI_ge (by omega) (by omega)), fun _ => hBi⟩
        · rintro U ⟨k1, k2, k3, L, k4, k5⟩
          refine h115 _ _ _ _ _ ?_
          unfold mT_ways_115
          rw [(k1.my hy2).1, ← nI_succ]
          refine ⟨fun _ => ih (k + 1) (by omega) U k1 k2 ?_, fun w => absurd (nI_le (Nat.le_refl _) (by omega)) w⟩
          rw [remE_end hgP, List.append_nil] at k4
          subst k4
          have e : allE (mvL n P kd ct sg) (mt.take (k + 1)) = allE (mvL n P kd ct sg) (mt.take k) ++ (mvL n P kd ct sg s).map (fun q => (s, q.1, q.2)) := by
            rw [List.take_add_one, hs]
            unfold allE
            rw [List.flatMap_append]
            simp
          rw [e]; exact k5
        · rintro U p r hp hr ⟨k1, k2, k3, L, k4, k5⟩ nxt
          have hyU := k1.my hy2
          refine h127 _ _ _ _ _ _ ?_
          unfold mT_ways_127
          rw [hyU.1]
          refine ⟨fun w => absurd w (nI_ge (by omega) (by omega)), fun _ => ?_⟩
          refine s_ld l hyU k3 k1.2.2.2 hp hr _ (fun W hW => ?_)
          have hyW := hW.my hyU
          have w10 : ∀ z, z < P ^ n → W.2.1 10 z = farV (fr z) := by rw [hW.2.2.1 10 (by decide)]; exact k2.2.2.2.2.2.1
          have hKW : MK (mf (mf S 3 0) 2 0) W := k1.tr (MK.of9 hW k1.2.2.1)
          have hMW : MOK W n P kd ct sg x fr mt := k2.keep (hW.2.2.1 10 (by decide)) (by rw [hW.1]) (hW.2.2.1 14 (by decide))
          have w15 : W.2.2 15 = U.2.2 15 := by rw [hW.2.1]
          have go : ∀ (Z : MS) (L' : List (Nat × Nat)), MK (mf (mf S 3 0) 2 0) Z → MOK Z n P kd ct sg x fr mt → U8 Z n P s → L' ++ remE g P p (r + 1) = mvL n P kd ct sg s → RI x (tgN n P kd ct sg) (fun a b => ct (5 * a + b)) fr (Z.2.2 15) (allE (mvL n P kd ct sg) (mt.take k) ++ L'.map (fun q => (s, q.1, q.2))) → B176 Z (nI y) (nI k) (nI s) (nI p) (nI r) := by
            intro Z L' z1 z2 z3 z4 z5
            refine h176 _ _ _ _ _ _ ?_
            unfold mT_ways_176
            rw [← nI_succ]
            exact nxt Z ⟨z1, z2, z3, L', z4, z5⟩
          have hmap : ∀ L : List (Nat × Nat), allE (mvL n P kd ct sg) (mt.take k) ++ (L ++ [(p, r)]).map (fun q => (s, q.1, q.2)) = (allE (mvL n P kd ct sg) (mt.take k) ++ L.map (fun q => (s, q.1, q.2))) ++ [(s, p, r)] := by
            intro L
            rw [List.map_append, List.append_assoc]
            rfl
          have hrem := remE_in (g := g) (P := P) (p := p) (r := r) hr
          have gpr : g p r = (tgN n P kd ct sg s p r).isSome := by rw [hge]
          refine s_near l hyW hN w10 hfb hsN hms hp hr _ (fun hno => ⟨fun _ => ?_, fun w => absurd rfl w⟩) (fun t ht hnr => ⟨fun w => absurd w (by decide), fun _ => ?_⟩)
          · cases ht : tgN n P kd ct sg s p r with
            | none =>
              rw [gpr, ht] at hrem
              refine go W L hKW hMW (hW.u8 k3) (by rw [← k4, hrem]; rfl) (by rw [w15]; exact k5)
            | some t =>
              rw [gpr, ht] at hrem
              refine go W (L ++ [(p, r)]) hKW hMW (hW.u8 k3) (by rw [← k4, hrem, List.append_assoc]; rfl) ?_
              rw [w15, hmap]
              obtain ⟨mt', q1, q2⟩ := hD.2.2.2 s ms p r t hms ht
              exact k5.skip ht hms q1 (fun w => hno t ⟨ht, ms, hms, by rw [q1, w]⟩)
          · have htN := tgN_lt (by omega) ht
            obtain ⟨hts, hti⟩ := near_idx p r t hnr
            rw [gpr, ht] at hrem
            rw [ht]
            show vp_in (nI t) 20000 ∧ _
            have e1 : (lab (some t)).toNatClampNeg = t := nI_clamp (by omega)
            rw [e1, nI_clamp (show s < 2 ^ 31 by omega), w15]
            refine ⟨vp_in_nI (by omega) (by omega), vp_in_nI (by omega) (by omega), vp_in_nI (by omega) (by omega), ?_⟩
            have hu : U8 (ml W 15 (vp_updL (U.2.2 15) t (U.2.2 15 t + U.2.2 15 s))) n P s := hW.u8 k3
            refine go _ (L ++ [(p, r)]) (hKW.mls _) hMW hu (by rw [← k4, hrem, List.append_assoc]; rfl) ?_
            rw [hmap]
            show RI _ _ _ _ (va_up W.2.2 15 (vp_updL (U.2.2 15) t (U.2.2 15 t + U.2.2 15 s)) 15) _
            rw [va_up_same]
            obtain ⟨-, k', q2, q3⟩ := hnr
            rw [hms] at q2
            cases q2
            refine k5.same ht hms q3 (fun s' a' b' w e => ?_) (Ne.symm hts)
            rcases List.mem_append.mp w with w | w
            · obtain ⟨i, hi, e2⟩ := List.getElem_of_mem (allE_mem.mp w).1
              have hil : i < k := by
                rw [List.length_take] at hi
                omega
              have : mt[i]? = some t := by
                rw [← e, ← e2, List.getElem_take]
                exact List.getElem?_eq_getElem _
              have := hti i this
              omega
            · obtain ⟨q', -, e2⟩ := List.mem_map.mp w
              cases e2
              exact hts e.symm
        · rintro U p hp ⟨k1, k2, k3, k4⟩ hBo
          refine h127 _ _ _ _ _ _ ?_
          unfold mT_ways_127
          rw [(k1.my hy2).1, ← nI_succ]
          exact ⟨fun _ => hBo, fun w => absurd (nI_le (Nat.le_refl _) (by omega)) w⟩
        · rintro U p hp ⟨k1, k2, k3, L, k4, k5⟩
          exact ⟨k1, k2, k3, L, by rw [← remE_row hp hgP]; exact k4, k5⟩
        · refine ⟨hKV, hMV, hU, [], ?_, ?_⟩
          · rw [List.nil_append, remE_0 (by omega), hmv]
          · rw [List.map_nil, List.append_nil]; exact hR
      refine h88 _ _ _ ?_
      unfold mT_ways_88
      rw [hMV.2.2.2.2.2.2.1, nI_clamp (show k < 2 ^ 31 by omega), hMV.2.2.2.2.2.2.2 k s hs]
      refine ⟨fun q => absurd q (nI_ge (by omega) (by omega)), fun _ => ⟨vp_in_nI (by omega) (by omega), fun v3 e3 => ?_⟩⟩
      subst e3
      refine s_unp l (hKV.my hy2) (by omega) hKV.2.2.1 _ (fun f hu => ?_)
      exact loop _ (hKV.m8 hu) (hMV.keep rfl rfl rfl) hu hR
  -- the first loop
  have init : ∀ d k, k + d = mt.length → ∀ V : MS, MK (mf (mf S 3 0) 2 0) V → MOK V n P kd ct sg x fr mt → (∀ i w, i < k → mt[i]? = some w → V.2.2 15 w = if w = x then 1 else 0) → B52 V (nI y) (nI k) := by
    intro d
    induction d with
    | zero =>
      intro k hk V hKV hMV hv
      refine h52 _ _ _ ?_
      unfold mT_ways_52
      rw [hMV.2.2.2.2.2.2.1]
      refine ⟨fun _ => outer mt.length 0 (by omega) V hKV hMV (fun z m hz => ?_), fun q => absurd (nI_le (by omega) (by omega)) q⟩
      obtain ⟨i, hi⟩ := idx_of ((hmem z).mpr (by rw [hz]; exact Option.some_ne_none m))
      rw [hv i z (by have := (List.getElem?_eq_some_iff.mp hi).1; omega) hi]
      show _ = _ + 0
      rw [Int64.add_zero]
    | succ d ih =>
      intro k hk V hKV hMV hv
      obtain ⟨s, hs⟩ : ∃ s, mt[k]? = some s := ⟨_, List.getElem?_eq_getElem (by omega)⟩
      have hsN := hD.2.1 s ((hmem s).mp (List.mem_of_getElem? hs))
      have nxt : ∀ v : Int64, v = (if s = x then 1 else 0) → B52 (ml V 15 (vp_updL (V.2.2 15) s v)) (nI y) (nI k + 1) := by
        intro v hv1
        rw [← nI_succ]
        refine ih (k + 1) (by omega) _ (hKV.mls _) hMV (fun i w hi hw => ?_)
        show va_up V.2.2 15 (vp_updL (V.2.2 15) s v) 15 w = _
        rw [va_up_same]
        unfold vp_updL
        by_cases e : w = s
        · rw [if_pos e, hv1, e]
        · rw [if_neg e]
          have : i ≠ k := fun q => by
            subst q
            rw [hs] at hw
            cases hw
            exact e rfl
          exact hv i w (by omega) hw
      refine h52 _ _ _ ?_
      unfold mT_ways_52
      rw [hMV.2.2.2.2.2.2.1, nI_clamp (show k < 2 ^ 31 by omega), hMV.2.2.2.2.2.2.2 k s hs, nI_clamp (show s < 2 ^ 31 by omega)]
      refine ⟨fun q => absurd q (nI_ge (by omega) (by omega)), fun _ => ⟨vp_in_nI (by omega) (by omega), fun c3 => ⟨vp_in_nI (by omega) (by omega), nxt 0 ?_⟩, fun c3 => ⟨vp_in_nI (by omega) (by omega), nxt 1 ?_⟩⟩⟩
      · have hk0 : k ≠ 0 := fun q => c3 (by rw [q]; rfl)
        rw [if_neg (fun q => hk0 ?_)]
        rw [q] at hs
        exact nodup_idx hM.2.1 hs ((first x).mpr rfl)
      · have hk0 : k = 0 := (nI_is 0 rfl (by omega) (by omega)).mp c3
        subst hk0
        rw [if_pos ((first s).mp hs)]
  exact init mt.length 0 (by omega) T hK hM (fun i w hi => absurd hi (Nat.not_lt_zero _))
end
