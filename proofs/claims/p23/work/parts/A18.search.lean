-- the class's search
def lab (o : Option Nat) : Int32 := match o with
  | none => -1
  | some m => nI m
theorem lab_none {o : Option Nat} (h : ∀ m, o = some m → m < 2 ^ 31) : lab o = -1 ↔ o = none := by
  cases o with
  | none => exact ⟨fun _ => rfl, fun _ => rfl⟩
  | some m => exact ⟨fun q => absurd q (nI_m1 (h m rfl)), fun q => by cases q⟩
/-- the lengths of the search's rows -/
def CL (T : CS) (LA : Nat) : Prop := T.2.2.2 24 = LA ∧ T.2.2.2 25 = LA ∧ T.2.2.2 26 = LA ∧ T.2.2.2 27 = LA ∧ T.2.2.2 28 = LA ∧ T.2.2.2 29 = LA
/-- but for the stands e the rows hold the labels, the settled ones and the slots -/
def CRx (N : Nat) (T : CS) (fr : Nat → Option Nat) (mt : List Nat) (L : Nat → List Nat) (e : Nat → Prop) : Prop :=
  (∀ x, x < N → T.2.1 24 x = lab (fr x)) ∧ T.1 13 = nI mt.length ∧ (∀ k x, mt[k]? = some x → T.2.1 26 k = nI x) ∧
  BQ 128 N (T.2.1 23) (T.2.1 27) (T.2.1 28) L ∧ (∀ b x, b < 128 → (x ∈ L b ↔ ¬ e x ∧ x ∉ mt ∧ ∃ m, fr x = some m ∧ m % 128 = b))
abbrev CR0 (N : Nat) (T : CS) (fr : Nat → Option Nat) (mt : List Nat) (L : Nat → List Nat) : Prop := CRx N T fr mt L (fun _ => False)
theorem and127 {m : Nat} (h : m < 2 ^ 31) : nI m &&& 127 = nI (m % 128) := pk_andN (by omega) 7 (by decide)
/-- rows 23, 27, 28 alone may have changed -/
def qA : Nat → Bool := fun _ => false
def qB : Nat → Bool := fun k => decide (k = 23) || decide (k = 27) || decide (k = 28)
theorem CRx.out (l : Launch) {N LA : Nat} {T : CS} {fr : Nat → Option Nat} {mt : List Nat} {L : Nat → List Nat} (h : CR0 N T fr mt L) (hl : CL T LA) (hLA : N ≤ LA) (hLA2 : LA ≤ 20000) {t m : Nat} (ht : t ∉ mt) (hf : fr t = some m) (hm : m < 2 ^ 31) (post : CS → Prop)
    (hp : ∀ (U : CS) (L' : Nat → List Nat), CFr qA qB nn T U → U.2.2 = T.2.2 → CRx N U fr mt L' (fun x => x = t) → post U) : cX_X6_takeOut l T (nI t) post := by
  obtain ⟨h1, h2, h3, h4, h5⟩ := h
  have hb : m % 128 < 128 := Nat.mod_lt _ (by decide)
  have hin : t ∈ L (m % 128) := (h5 _ t hb).mpr ⟨fun q => q, ht, m, hf, rfl⟩
  have htN : t < N := h4.2.2.2 _ t hb hin
  have hun := h4.unlink (by omega) hb hin
  have haft : T.2.1 27 t = -1 ∨ ∃ y, y < N ∧ T.2.1 27 t = nI y := by
    rcases dl_aft _ _ _ (h4.1 _ hb) hin with q | ⟨y, hy, q⟩
    · exact Or.inl q
    · exact Or.inr ⟨y, h4.2.2.2 _ y hb hy, q⟩
  have hlt : T.2.1 24 t = nI m := by rw [h1 t htN, hf]; rfl
  have memb : ∀ (c x : Nat), c < 128 → (x ∈ va_up L (m % 128) ((L (m % 128)).erase t) c ↔ ¬ x = t ∧ x ∉ mt ∧ ∃ k, fr x = some k ∧ k % 128 = c) := by
    intro c x hc
    by_cases e : c = m % 128
    · subst e
      rw [va_up_same, List.Nodup.mem_erase_iff (h4.2.1 _ hb), h5 _ x hb]
      exact ⟨fun q => ⟨q.1, q.2.2⟩, fun q => ⟨q.1, fun w => w, q.2⟩⟩
    · rw [va_up_other _ _ e, h5 c x hc]
      refine ⟨fun q => ⟨fun w => ?_, q.2⟩, fun q => ⟨fun w => w, q.2⟩⟩
      obtain ⟨k, hk, hk2⟩ := q.2.2
      rw [w, hf] at hk
      cases hk
      exact e hk2.symm
  refine c_X6_takeOut l T (nI t) post ?_
  intro B44 h44
  unfold cT_X6_takeOut_e
  rw [hl.2.2.2.2.1, hl.2.2.2.1, hl.1, nI_clamp (show t < 2 ^ 31 by omega), hlt, and127 hm, nI_clamp (show m % 128 < 2 ^ 31 by omega)]
  have iT : vp_in (nI t) LA := vp_in_nI (by omega) (by omega)
  refine ⟨iT, fun v2 e2 => ⟨iT, fun v3 e3 => ?_⟩⟩
  subst e2
  subst e3
  -- behind 44
  have fin : ∀ (U : CS) (L' : Nat → List Nat), CFr qA qB nn T U → U.2.2 = T.2.2 → BQ 128 N (U.2.1 23) (U.2.1 27) (rePrev (T.2.1 28) (T.2.1 27 t) (T.2.1 28 t)) L' → U.2.1 28 = T.2.1 28 → (∀ (c x : Nat), c < 128 → (x ∈ L' c ↔ ¬ x = t ∧ x ∉ mt ∧ ∃ k, fr x = some k ∧ k % 128 = c)) → B44 U (T.2.1 28 t) (T.2.1 27 t) := by
    intro U L' fU u2 hB u28 hmem
    refine h44 _ _ _ ?_
    unfold cT_X6_takeOut_44
    have e28 : U.2.2.2 28 = LA := by rw [u2]; exact hl.2.2.2.2.1
    refine ⟨fun c => ?_, fun c => ?_⟩
    · refine hp U L' fU u2 ⟨?_, ?_, ?_, ?_, hmem⟩
      · rw [(fU.2.1 24 rfl).1]; exact h1
      · rw [fU.1 13 rfl]; exact h2
      · rw [(fU.2.1 26 rfl).1]; exact h3
      · unfold rePrev at hB
        rw [if_pos c] at hB
        rw [u28]; exact hB
    · rcases haft with q | ⟨y, hy, q⟩
      · exact absurd q c
      · rw [e28]
        refine ⟨by rw [q]; exact vp_in_nI (by omega) (by omega), ?_⟩
        refine hp _ L' (fU.ca _ rfl) u2 ⟨?_, ?_, ?_, ?_, hmem⟩
        · rw [ca_get_ne _ _ (by decide), (fU.2.1 24 rfl).1]; exact h1
        · show U.1 13 = _
          rw [fU.1 13 rfl]; exact h2
        · rw [ca_get_ne _ _ (by decide), (fU.2.1 26 rfl).1]; exact h3
        · unfold rePrev at hB
          rw [if_neg c] at hB
          rw [ca_get, ca_get_ne _ _ (by decide), ca_get_ne _ _ (by decide), u28]
          exact hB
  refine ⟨fun c => ?_, fun c => ?_⟩
  · rcases hun with ⟨q, -, -⟩ | ⟨z, hz, hz2, q, hbk⟩
    · exact absurd q c
    · have hzN := h4.2.2.2 _ z hb hz
      refine ⟨by rw [q]; exact vp_in_nI (by omega) (by omega), fin _ _ (CFr.rf.ca _ rfl) rfl ?_ rfl memb⟩
      rw [ca_get_ne _ _ (by decide), ca_get]
      have hc : (T.2.1 28 t).toNatClampNeg = z := by rw [q]; exact nI_clamp (by omega)
      rw [hc]
      exact hbk
  · rcases hun with ⟨q, -, hbk⟩ | ⟨z, hz, hz2, q, -⟩
    · refine ⟨iT, vp_in_nI hb (by omega), fin _ _ (CFr.rf.ca _ rfl) rfl ?_ rfl memb⟩
      rw [ca_get_ne _ _ (show (27 : Nat) ≠ 23 by decide), ca_get]
      exact hbk
    · have hzN := h4.2.2.2 _ z hb hz
      rw [q] at c
      exact absurd c (nI_m1 (by omega))
theorem CRx.inn (l : Launch) {N LA : Nat} {T : CS} {fr : Nat → Option Nat} {mt : List Nat} {L : Nat → List Nat} {t : Nat} (h : CRx N T fr mt L (fun x => x = t)) (hl : CL T LA) (hLA : N ≤ LA) (hLA2 : LA ≤ 20000) {m : Nat} (htN : t < N) (ht : t ∉ mt) (hf : fr t = some m) (hm : m < 2 ^ 31) (post : CS → Prop)
    (hp : ∀ (U : CS) (L' : Nat → List Nat), CFr qA qB nn T U → U.2.2 = T.2.2 → CR0 N U fr mt L' → post U) : cX_X6_putIn l T (nI t) post := by
  obtain ⟨h1, h2, h3, h4, h5⟩ := h
  have hb : m % 128 < 128 := Nat.mod_lt _ (by decide)
  have hno : ∀ c, c < 128 → t ∉ L c := fun c hc q => ((h5 c t hc).mp q).1 rfl
  have hlt : T.2.1 24 t = nI m := by rw [h1 t htN, hf]; rfl
  have hbk := h4.link (by omega) hb htN hno
  have memb : ∀ (c x : Nat), c < 128 → (x ∈ va_up L (m % 128) (t :: L (m % 128)) c ↔ ¬ False ∧ x ∉ mt ∧ ∃ k, fr x = some k ∧ k % 128 = c) := by
    intro c x hc
    by_cases e : c = m % 128
    · subst e
      rw [va_up_same, List.mem_cons, h5 _ x hb]
      by_cases ex : x = t
      · subst ex
        exact ⟨fun _ => ⟨fun q => q, ht, m, hf, rfl⟩, fun _ => Or.inl rfl⟩
      · exact ⟨fun q => ⟨fun w => w, (q.resolve_left ex).2⟩, fun q => Or.inr ⟨ex, q.2⟩⟩
    · rw [va_up_other _ _ e, h5 c x hc]
      by_cases ex : x = t
      · subst ex
        refine ⟨fun q => absurd rfl q.1, fun q => ?_⟩
        obtain ⟨k, hk, hk2⟩ := q.2.2
        rw [hf] at hk
        cases hk
        exact absurd hk2.symm e
      · exact ⟨fun q => ⟨fun w => w, q.2⟩, fun q => ⟨ex, q.2⟩⟩
  refine c_X6_putIn l T (nI t) post ?_
  unfold cT_X6_putIn_e
  rw [hl.1, hl.2.2.2.2.1, hl.2.2.2.1, nI_clamp (show t < 2 ^ 31 by omega), hlt, and127 hm]
  have iT : vp_in (nI t) LA := vp_in_nI (by omega) (by omega)
  refine ⟨iT, fun v2 e2 => ?_⟩
  subst e2
  rw [nI_clamp (show m % 128 < 2 ^ 31 by omega)]
  refine ⟨vp_in_nI hb (by omega), fun v3 e3 => ⟨iT, iT, fun c => ⟨vp_in_nI hb (by omega), ?_⟩, fun c => ?_⟩⟩
  · subst e3
    refine hp _ _ (((CFr.rf.ca _ rfl).ca _ rfl).ca _ rfl) rfl ⟨?_, h2, ?_, ?_, memb⟩
    · rw [ca_get_ne _ _ (by decide), ca_get_ne _ _ (by decide), ca_get_ne _ _ (by decide)]; exact h1
    · rw [ca_get_ne _ _ (by decide), ca_get_ne _ _ (by decide), ca_get_ne _ _ (by decide)]; exact h3
    · rw [ca_get, ca_get_ne _ _ (show (27 : Nat) ≠ 23 by decide), ca_get, ca_get_ne _ _ (show (28 : Nat) ≠ 23 by decide), ca_get_ne _ _ (show (28 : Nat) ≠ 27 by decide), ca_get]
      unfold rePrev at hbk
      rw [if_pos c] at hbk
      exact hbk
  · subst e3
    rcases h4.head hb with ⟨q, -⟩ | ⟨y, ys, -, q, hy⟩
    · exact absurd q c
    · refine ⟨by rw [q]; exact vp_in_nI (by omega) (by omega), vp_in_nI hb (by omega), ?_⟩
      refine hp _ _ ((((CFr.rf.ca _ rfl).ca _ rfl).ca _ rfl).ca _ rfl) rfl ⟨?_, h2, ?_, ?_, memb⟩
      · rw [ca_get_ne _ _ (by decide), ca_get_ne _ _ (by decide), ca_get_ne _ _ (by decide), ca_get_ne _ _ (by decide)]; exact h1
      · rw [ca_get_ne _ _ (by decide), ca_get_ne _ _ (by decide), ca_get_ne _ _ (by decide), ca_get_ne _ _ (by decide)]; exact h3
      · rw [ca_get, ca_get_ne _ _ (show (27 : Nat) ≠ 23 by decide), ca_get_ne _ _ (show (27 : Nat) ≠ 28 by decide), ca_get, ca_get_ne _ _ (show (28 : Nat) ≠ 23 by decide), ca_get]
        unfold rePrev at hbk
        rw [if_neg c] at hbk
        exact hbk
/-- the offers' frame -/
def oB : Nat → Bool := fun k => qB k || decide (k = 24) || decide (k = 25)
/-- the search's own rows and the look's -/
def pC : Nat → Bool := fun k => decide (24 ≤ k) && decide (k ≤ 29)
def fA : Nat → Bool := fun k => (decide (6 ≤ k) && decide (k ≤ 8)) || decide (k = 12) || decide (k = 13)
def fB : Nat → Bool := fun k => (decide (13 ≤ k) && decide (k ≤ 19)) || (decide (23 ≤ k) && decide (k ≤ 29))
theorem lA_f (k : Nat) (h : fA k = false) : lA k = false := by
  unfold fA at h; unfold lA
  simp only [Bool.or_eq_false_iff] at h
  exact h.1.1
theorem lB_f (k : Nat) (h : fB k = false) : lB k = false := by
  unfold fB at h; unfold lB
  simp only [Bool.or_eq_false_iff] at h
  exact h.1
theorem qB_f (k : Nat) (h : fB k = false) : qB k = false := by
  unfold fB at h; unfold qB
  simp only [Bool.or_eq_false_iff, Bool.and_eq_false_iff, decide_eq_false_iff_not] at h ⊢
  omega
/-- one offer -/
theorem k_offer (l : Launch) {N LA st d : Nat} {tg : Nat → Nat → Nat → Option Nat} {c : Nat → Nat → Nat} {T : CS} {fr : Nat → Option Nat} {mt : List Nat} {L : Nat → List Nat} {P P' : Nat → Nat → Nat → Prop} {E : List (Nat × Nat × Nat)}
    (hI : MI N st tg c fr mt d P) (h : CR0 N T fr mt L) (hR : RI st tg c fr (T.2.2.1 25) E) (hE : ∀ s a b, (s, a, b) ∈ E → s ∈ mt ∧ ¬ P s a b) (hl : CL T LA) (hLA : N ≤ LA) (hLA2 : LA ≤ 20000) {y a b t : Nat} (hy : y ∈ mt) (hfy : fr y = some d) (ht : tg y a b = some t) (htN : t < N) (hc0 : 0 < c a b) (hc : c a b ≤ 100) (hdl : d + c a b ≤ 100 * mt.length) (hp : ∀ s a' b', P s a' b' → P' s a' b' ∨ (s = y ∧ a' = a ∧ b' = b)) (post : CS → Prop)
    (k : ∀ (U : CS) (fr' : Nat → Option Nat) (L' : Nat → List Nat), CFr qA oB nn T U → U.2.2.2 = T.2.2.2 → MI N st tg c fr' mt d P' → CR0 N U fr' mt L' → RI st tg c fr' (U.2.2.1 25) (E ++ [(y, a, b)]) → fr' y = some d → (∀ x, fr' x = none → fr x = none ∧ U.2.2.1 25 x = T.2.2.1 25 x) → post U) : cX_X6_offer l T (nI t) (nI (d + c a b)) (T.2.2.1 25 y) post := by
  have hmtl : mt.length ≤ 20000 := by
    have := nodup_len N mt hI.1.1 hI.1.2
    omega
  have hfb : ∀ m, fr t = some m → m < 2 ^ 31 := fun m hm => by
    have := hI.2.2.2.2.2.2.2.1 t m hm
    omega
  have htm : ∀ m, fr t = some m → d + c a b ≤ m → t ∉ mt := by
    intro m hm hle q
    obtain ⟨m', e, hm'⟩ := hI.2.2.1 t q
    rw [hm] at e
    cases e
    omega
  have hlt : T.2.1 24 t = lab (fr t) := h.1 t htN
  have iT : vp_in (nI t) LA := vp_in_nI (by omega) (by omega)
  refine c_X6_offer l T _ _ _ post ?_
  intro B39 B50 h39 h50
  unfold cT_X6_offer_e
  rw [hl.1, hl.2.1, nI_clamp (show t < 2 ^ 31 by omega), hlt]
  refine ⟨iT, fun v5 e5 => ?_⟩
  subst e5
  -- a better label, once the stand is out of its slot
  have put : (∀ m, fr t = some m → d + c a b < m) → t ∉ mt → ∀ (U : CS) (L' : Nat → List Nat), CFr qA qB nn T U → U.2.2 = T.2.2 → CRx N U fr mt L' (fun x => x = t) → B50 U := by
    intro hb htn U L' fU u2 hU
    have hlU : CL U LA := by unfold CL; rw [u2]; exact hl
    refine h50 _ ?_
    unfold cT_X6_offer_50
    rw [hlU.1, hlU.2.1, nI_clamp (show t < 2 ^ 31 by omega)]
    refine ⟨iT, iT, ?_⟩
    obtain ⟨u1, u13, u26, uB, um⟩ := hU
    have hnew : CRx N (cj (ca U 24 (upd (U.2.1 24) t (nI (d + c a b)))) 25 (vp_updL (U.2.2.1 25) t (T.2.2.1 25 y))) (va_up fr t (some (d + c a b))) mt L' (fun x => x = t) := by
      refine ⟨fun x hx => ?_, u13, ?_, ?_, fun b' x hb' => ?_⟩
      · show upd (U.2.1 24) t (nI (d + c a b)) x = _
        by_cases e : x = t
        · subst e; rw [upd_same, va_up_same]; rfl
        · rw [upd_other _ _ e, va_up_other _ _ e]; exact u1 x hx
      · exact u26
      · exact uB
      · rw [um b' x hb']
        by_cases e : x = t
        · exact ⟨fun q => absurd e q.1, fun q => absurd e q.1⟩
        · rw [va_up_other _ _ e]
    refine hnew.inn l (LA := LA) hlU hLA hLA2 htN htn (va_up_same _ _ _) (by omega) _ (fun V L2 fV v2 hV => ?_)
    have hyt : y ≠ t := fun e => htn (by rw [← e]; exact hy)
    have hts : t ≠ st := fun e => absurd (hb 0 (by rw [e]; exact hI.2.2.2.2.2.2.2.2)) (Nat.not_lt_zero _)
    refine k V _ L2 ?_ ?_ (hI.label hy hfy ht htn htN hc hdl hb hp) hV ?_ (by rw [va_up_other _ _ hyt]; exact hfy) ?_
    · have f1 : CFr qA oB nn T (cj (ca U 24 (upd (U.2.1 24) t (nI (d + c a b)))) 25 (vp_updL (U.2.2.1 25) t (T.2.2.1 25 y))) := ((fU.mono (fun k hk => hk) (fun k hk => by unfold oB at hk; simp only [Bool.or_eq_false_iff] at hk; exact hk.1.1)).ca _ rfl).cj _ rfl
      exact f1.tr (fV.mono (fun k hk => hk) (fun k hk => by unfold oB at hk; simp only [Bool.or_eq_false_iff] at hk; exact hk.1.1))
    · rw [v2]; show U.2.2.2 = _; rw [u2]
    · have e1 : V.2.2.1 25 = vp_updL (T.2.2.1 25) t (T.2.2.1 25 y) := by
        rw [v2]
        show vp_updL (U.2.2.1 25) t (T.2.2.1 25 y) = _
        rw [u2]
      rw [e1]
      refine hR.label ht hfy hts hyt (fun s a' b' q e => htn (by rw [← e]; exact (hE s a' b' q).1)) (fun s a' b' q w => ?_) hb
      obtain ⟨q1, q2⟩ := hE s a' b' q
      obtain ⟨k', m', w1, w2, w3⟩ := hI.2.2.2.2.2.2.1 s q1 a' b' t w q2
      exact ⟨k', m', w1, w2, w3⟩
    · intro x hx
      have hxt : x ≠ t := fun e => by rw [e, va_up_same] at hx; cases hx
      rw [va_up_other _ _ hxt] at hx
      refine ⟨hx, ?_⟩
      have e1 : V.2.2.1 25 = vp_updL (T.2.2.1 25) t (T.2.2.1 25 y) := by
        rw [v2]
        show vp_updL (U.2.2.1 25) t (T.2.2.1 25 y) = _
        rw [u2]
      rw [e1]
      unfold vp_updL
      rw [if_neg hxt]
  have stay : ∀ m, fr t = some m → m ≤ d + c a b → MI N st tg c fr mt d P' := by
    intro m hm hle
    refine hI.shrink (fun s a' b' _ q => ?_)
    rcases hp s a' b' q with w | ⟨w1, w2, w3⟩
    · exact Or.inl w
    · subst w1; subst w2; subst w3
      refine Or.inr (fun t' ht' => ?_)
      rw [ht] at ht'
      cases ht'
      exact ⟨d, m, hfy, hm, hle⟩
  cases hft : fr t with
  | none =>
    refine ⟨fun _ => ⟨fun _ => h39 _ _ ?_, fun q => absurd rfl q⟩, fun q => absurd q.symm (nI_m1 (by omega))⟩
    unfold cT_X6_offer_39
    refine ⟨fun _ => ?_, fun q => absurd rfl q⟩
    have htn : t ∉ mt := by
      intro q
      obtain ⟨m', e, -⟩ := hI.2.2.1 t q
      rw [hft] at e
      cases e
    refine put (fun m hm => by rw [hft] at hm; cases hm) htn T L CFr.rf rfl ⟨h.1, h.2.1, h.2.2.1, h.2.2.2.1, fun b' x hb' => ?_⟩
    rw [h.2.2.2.2 b' x hb']
    refine ⟨fun q => ⟨fun e => ?_, q.2⟩, fun q => ⟨fun w => w, q.2⟩⟩
    obtain ⟨m', hm', -⟩ := q.2.2
    rw [e, hft] at hm'
    cases hm'
  | some m =>
    have hmb := hfb m hft
    show (¬ nI m = nI (d + c a b) → _) ∧ (nI m = nI (d + c a b) → _)
    refine ⟨fun c1 => ⟨fun q => absurd q (nI_m1 hmb), fun _ => ⟨fun c2 => ?_, fun c2 => ?_⟩⟩, fun c1 => ?_⟩
    · have c1 : m ≠ d + c a b := fun q => c1 (by rw [q])
      have c2 : m ≤ d + c a b := (nI_leI hmb (by omega)).mp c2
      exact k T fr L CFr.rf rfl (stay m hft c2) h (hR.skip ht hfy hft c1) hfy (fun x hx => ⟨hx, rfl⟩)
    · have c2 : d + c a b < m := by
        rcases Nat.lt_or_ge (d + c a b) m with q | q
        · exact q
        · exact absurd (nI_le q (by omega)) c2
      refine h39 _ _ ?_
      unfold cT_X6_offer_39
      refine ⟨fun q => absurd q (nI_m1 hmb), fun _ => ?_⟩
      have htn := htm m hft (by omega)
      exact h.out l hl hLA hLA2 htn hft hmb _ (fun U L' fU u2 hU => put (fun m' hm' => by rw [hft] at hm'; cases hm'; exact c2) htn U L' fU u2 hU)
    · have c1 : m = d + c a b := (nI_eq hmb (by omega)).mp c1
      subst c1
      have htn := htm _ hft (Nat.le_refl _)
      have hyt : y ≠ t := fun e => htn (by rw [← e]; exact hy)
      refine ⟨iT, iT, ?_⟩
      refine k _ fr L (CFr.rf.cj _ rfl) rfl (stay _ hft (Nat.le_refl _)) h ?_ hfy (fun x hx => ⟨hx, ?_⟩)
      rotate_left
      · rw [cj_get]
        unfold vp_updL
        rw [if_neg (fun e => by rw [e, hft] at hx; cases hx)]
      rw [cj_get]
      exact hR.same ht hfy hft (fun s a' b' q e => htn (by rw [← e]; exact (hE s a' b' q).1)) hyt
/-- the first slot that isn't empty -/
theorem k_slot (l : Launch) {T : CS} {d : Nat} (hd : d < 2 ^ 30) (post : Int32 → CS → Prop) (h0 : (∀ b, b < 128 → T.2.1 23 b = -1) → post (-1) T) (h1 : ∀ k, k < 128 → T.2.1 23 ((d + k) % 128) ≠ -1 → (∀ j, j < k → T.2.1 23 ((d + j) % 128) = -1) → post (nI ((d + k) % 128)) T) : cX_X6_slotFrom l T (nI d) post := by
  refine c_X6_slotFrom l T _ post ?_
  intro B2 h2
  unfold cT_X6_slotFrom_e
  have key : ∀ t k, k + t = 128 → (∀ j, j < k → T.2.1 23 ((d + j) % 128) = -1) → B2 T (nI k) := by
    intro t
    induction t with
    | zero =>
      intro k hk hj
      have : k = 128 := by omega
      subst this
      refine h2 _ _ ?_
      unfold cT_X6_slotFrom_2
      refine ⟨fun _ => h0 (fun b hb => ?_), fun q => absurd (show (128 : Int32) ≤ nI 128 by decide) q⟩
      have := hj ((b + 128 - d % 128) % 128) (Nat.mod_lt _ (by decide))
      rw [show (d + (b + 128 - d % 128) % 128) % 128 = b by omega] at this
      exact this
    | succ t ih =>
      intro k hk hj
      refine h2 _ _ ?_
      unfold cT_X6_slotFrom_2
      refine ⟨fun q => absurd q (nI_ge (a := k) (b := 128) (by omega) (by omega)), fun _ v e => ?_⟩
      rw [nI_add, and127 (by omega)] at e
      subst e
      rw [nI_clamp (show (d + k) % 128 < 2 ^ 31 by omega)]
      refine ⟨vp_in_nI (Nat.mod_lt _ (by decide)) (by omega), fun c => ?_, fun c => h1 k (by omega) c hj⟩
      rw [← nI_succ]
      refine ih (k + 1) (by omega) (fun j hj2 => ?_)
      by_cases e : j = k
      · rw [e]; exact c
      · exact hj j (by omega)
  exact key 128 0 (by omega) (fun j hj => absurd hj (Nat.not_lt_zero _))
