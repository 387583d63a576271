-- joined(): the ways out of a set
theorem tl_at {T : CS} {n P : Nat} {kd ct sg : Nat → Nat} {x : Nat} (h : SPL T n P kd ct sg x (mvL n P kd ct sg x)) (hP : 0 < P) {i : Nat} (hi : i < (mvL n P kd ct sg x).length) : ∃ t, (tl n P kd ct sg x)[i]? = some t ∧ T.2.1 18 i = nI t ∧ t < P ^ n := by
  obtain ⟨q, hq⟩ : ∃ q, (mvL n P kd ct sg x)[i]? = some q := ⟨_, List.getElem?_eq_getElem hi⟩
  obtain ⟨a, b⟩ := q
  obtain ⟨t, h1, -, h2, -⟩ := h.2 i a b hq
  refine ⟨t, ?_, h2, tgN_lt hP h1⟩
  unfold tl
  rw [List.getElem?_map, hq]
  show some ((tgN n P kd ct sg x a b).getD 0) = some t
  rw [h1]; rfl
theorem tl_len (n P : Nat) (kd ct sg : Nat → Nat) (x : Nat) : (tl n P kd ct sg x).length = (mvL n P kd ct sg x).length := List.length_map ..
def oA : Nat → Bool := lA
def okB : Nat → Bool := fun k => lB k || decide (k = 37)
theorem lB_ok (k : Nat) (h : okB k = false) : lB k = false := by
  unfold okB at h
  rw [Bool.or_eq_false_iff] at h; exact h.1
section Seek
variable {S : CS} {n P m LK : Nat} {kd ct sc : Nat → Nat} {st : Nat → Option Nat} {sz lv : Nat → Nat}
theorem k_seek (l : Launch) (hy : CY S n P kd ct sc) (hz : ∀ a, a < 5 → ct (5 * a + a) = 0) (h : KF S (P ^ n) m st sz lv) (hl : KL S LK) (hN : P ^ n ≤ LK) (hK : LK ≤ 20000) {x k : Nat} (hx : x < P ^ n) (hk : st x = some k) (post : CS → Prop) (hp : ∀ T, CFr lA okB nn S T → KF T (P ^ n) m st sz (va_up lv k (if outB n P kd ct sc st x then 1 else lv k)) → post T) : cX_X2_seekWayOut l S (nI x) post := by
  have hP2 := hy.2.2.2.1
  obtain ⟨h1, h2, h3, h4, h5, h6⟩ := id h
  have hkm := h4 x k hk
  have hlv := h6 k hkm
  refine c_X2_seekWayOut l S _ post ?_
  intro B34 B68 h34 h68
  unfold cT_X2_seekWayOut_e
  rw [nI_clamp (show x < 2 ^ 31 by omega), h3 x hx, hk, hl.2.2.2.2.2.1]
  refine ⟨vp_in_nI (by omega) (by omega), fun v hv => ?_⟩
  have hv : v = nI k := hv
  subst hv
  rw [nI_clamp (show k < 2 ^ 31 by omega), hlv.1, hl.2.2.2.2.2.2.2]
  refine ⟨vp_in_nI (by omega) (by omega), fun c => ?_, fun c => ?_⟩
  · have c : lv k ≠ 1 := fun z => c (by rw [z]; rfl)
    refine k_read l hy hx _ (fun T fT hT => k_spread l (hy.fr fT) hz hx hT _ (fun U fU hU => ?_))
    have fSU : CFr lA lB nn S U := fT.tr (fU.mono sA_l sB_l)
    have hlen := mvL_len (n := n) (kd := kd) (ct := ct) (sg := sc) (x := x) hP2.2
    have key : ∀ d i, i + d = (mvL n P kd ct sc x).length → ∀ V, CFr lA okB nn S V → SPL V n P kd ct sc x (mvL n P kd ct sc x) → KF V (P ^ n) m st sz (va_up lv k (if ((tl n P kd ct sc x).take i).any (fun t => decide (st t ≠ st x)) then 1 else lv k)) → B34 V (nI k) (nI i) := by
      intro d
      induction d with
      | zero =>
        intro i hi V fV sV kV
        refine h34 _ _ _ ?_
        unfold cT_X2_seekWayOut_34
        rw [sV.1]
        refine ⟨fun _ => hp V fV ?_, fun z => absurd (nI_le (by omega) (by omega)) z⟩
        rw [List.take_of_length_le (by rw [tl_len]; omega)] at kV
        exact kV
      | succ d ih =>
        intro i hi V fV sV kV
        obtain ⟨t, t1, t2, t3⟩ := tl_at sV (by omega) (show i < (mvL n P kd ct sc x).length by omega)
        have hlV : V.2.2.2 = S.2.2.2 := lens_eq fV
        have etk : (tl n P kd ct sc x).take (i + 1) = (tl n P kd ct sc x).take i ++ [t] := by
          rw [List.take_add_one, t1]; rfl
        have nxt : ∀ W, CFr lA okB nn S W → SPL W n P kd ct sc x (mvL n P kd ct sc x) → KF W (P ^ n) m st sz (va_up lv k (if ((tl n P kd ct sc x).take (i + 1)).any (fun t => decide (st t ≠ st x)) then 1 else lv k)) → B68 W (nI k) (nI i) := by
          intro W fW sW kW
          refine h68 _ _ _ ?_
          unfold cT_X2_seekWayOut_68
          rw [← nI_succ]
          exact ih (i + 1) (by omega) W fW sW kW
        refine h34 _ _ _ ?_
        unfold cT_X2_seekWayOut_34
        rw [sV.1, nI_clamp (show i < 2 ^ 31 by omega), t2, nI_clamp (show t < 2 ^ 31 by omega), kV.2.2.1 t t3, hlV, hl.2.2.2.2.2.1, hl.2.2.2.2.2.2.2, nI_clamp (show k < 2 ^ 31 by omega)]
        refine ⟨fun z => absurd z (nI_ge (by omega) (by omega)), fun _ => ⟨vp_in_nI (by omega) (by omega), vp_in_nI (by omega) (by omega), fun z => nxt V fV sV ?_, fun z => ⟨vp_in_nI (by omega) (by omega), nxt _ (fV.ca _ rfl) sV ?_⟩⟩⟩
        · have ez : st t = st x := by
            rw [hk]
            cases e : st t with
            | none => rw [e] at z; exact absurd z.symm (nI_m1 (by omega))
            | some k' =>
              rw [e] at z
              have := h4 t k' e
              exact congrArg some ((nI_eq (by omega) (by omega)).mp z)
          rw [etk, List.any_append, List.any_cons, List.any_nil, ez]
          simpa using kV
        · have ez : st t ≠ st x := by
            rw [hk]
            intro e
            rw [e] at z
            exact z rfl
          rw [etk, List.any_append, List.any_cons, decide_eq_true ez, Bool.true_or, Bool.or_true, if_pos rfl]
          obtain ⟨g1, g2, g3, g4, g5, g6⟩ := kV
          refine ⟨g1, g2, g3, g4, g5, fun j hj => ?_⟩
          show upd (V.2.1 37) k 1 j = _ ∧ _
          by_cases e : j = k
          · subst e; rw [upd_same, va_up_same]; exact ⟨rfl, Nat.le_refl _⟩
          · rw [upd_other _ _ e, va_up_other _ _ e]
            have := g6 j hj
            rw [va_up_other _ _ e] at this
            exact this
    refine key (mvL n P kd ct sc x).length 0 (Nat.zero_add _) U (fSU.mono (fun _ q => q) lB_ok) hU ?_
    rw [List.take_zero]
    show KF U (P ^ n) m st sz (va_up lv k (lv k))
    rw [va_up_id]
    unfold KF
    rw [fSU.1 18 rfl, (fSU.2.1 35 rfl).1, (fSU.2.1 36 rfl).1, (fSU.2.1 37 rfl).1]
    exact h
  · have c : lv k = 1 := (nI_is 1 rfl (by omega) (by omega)).mp c
    refine hp S CFr.rf ?_
    have e : (if outB n P kd ct sc st x then 1 else lv k) = lv k := by
      rw [c]; split <;> rfl
    rw [e, va_up_id]
    exact h
end Seek
