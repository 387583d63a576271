/-- K chains, apart from each other, of numbers below N -/
def BQ (K N : Nat) (hd aft bef : Nat → Int32) (L : Nat → List Nat) : Prop :=
  (∀ b, b < K → dl aft bef (-1) (L b) (hd b)) ∧ (∀ b, b < K → (L b).Nodup) ∧ (∀ b c x, b < K → c < K → x ∈ L b → x ∈ L c → b = c) ∧ (∀ b x, b < K → x ∈ L b → x < N)
theorem BQ.head {K N : Nat} {hd aft bef : Nat → Int32} {L : Nat → List Nat} (h : BQ K N hd aft bef L) {b : Nat} (hb : b < K) : (hd b = -1 ∧ L b = []) ∨ ∃ y ys, L b = y :: ys ∧ hd b = nI y ∧ y < N := by
  have h1 := h.1 b hb
  cases hL : L b with
  | nil => rw [hL] at h1; exact Or.inl ⟨h1, rfl⟩
  | cons y ys => rw [hL] at h1; exact Or.inr ⟨y, ys, rfl, h1.1, h.2.2.2 b y hb (by rw [hL]; exact List.mem_cons_self)⟩
theorem BQ.link {K N : Nat} {hd aft bef : Nat → Int32} {L : Nat → List Nat} (h : BQ K N hd aft bef L) (hN : N < 2 ^ 31) {b s : Nat} (hb : b < K) (hs : s < N) (hn : ∀ c, c < K → s ∉ L c) : BQ K N (upd hd b (nI s)) (upd aft s (hd b)) (rePrev (upd bef s (-1)) (hd b) (nI s)) (va_up L b (s :: L b)) := by
  obtain ⟨h1, h2, h3, h4⟩ := h
  have hnd : (s :: L b).Nodup := List.nodup_cons.mpr ⟨hn b hb, h2 b hb⟩
  have hcur : hd b = -1 ∨ ∃ y, y < 2 ^ 31 ∧ hd b = nI y := dl_cur (h1 b hb) (fun x hx => by have := h4 b x hb hx; omega)
  refine ⟨fun c hc => ?_, fun c hc => ?_, fun c d x hc hd' hx hy => ?_, fun c x hc hx => ?_⟩
  · by_cases e : c = b
    · subst e
      rw [va_up_same, upd_same]
      exact dl_push (h1 c hb) (fun x hx => by have := h4 c x hb hx; omega) (by omega) hnd
    · rw [va_up_other _ _ e, upd_other _ _ e]
      refine dl_congr (L c) _ _ (fun x hx => ?_) (h1 c hc)
      have hxN := h4 c x hc hx
      have hxs : x ≠ s := fun q => hn c hc (by rw [← q]; exact hx)
      refine ⟨(upd_other _ _ hxs).symm, ?_⟩
      have hne : hd b ≠ nI x := by
        intro q
        have h5 := h1 b hb
        cases hL : L b with
        | nil => rw [hL] at h5; rw [show hd b = -1 from h5] at q; exact nI_m1 (by omega) q.symm
        | cons y ys =>
          rw [hL] at h5
          have hy : y ∈ L b := by rw [hL]; exact List.mem_cons_self
          have hyN := h4 b y hb hy
          have e2 : y = x := (nI_eq (by omega) (by omega)).mp (h5.1.symm.trans q)
          exact e (h3 c b x hc hb hx (by rw [← e2]; exact hy))
      rw [rePrev_ne (by omega) hne hcur, upd_other _ _ hxs]
  · by_cases e : c = b
    · subst e; rw [va_up_same]; exact hnd
    · rw [va_up_other _ _ e]; exact h2 c hc
  · by_cases e : c = b
    · by_cases e2 : d = b
      · rw [e, e2]
      · subst e
        rw [va_up_same] at hx
        rw [va_up_other _ _ e2] at hy
        rcases List.mem_cons.mp hx with q | q
        · exact absurd (by rw [← q]; exact hy) (hn d hd')
        · exact h3 c d x hc hd' q hy
    · rw [va_up_other _ _ e] at hx
      by_cases e2 : d = b
      · subst e2
        rw [va_up_same] at hy
        rcases List.mem_cons.mp hy with q | q
        · exact absurd (by rw [← q]; exact hx) (hn c hc)
        · exact h3 c d x hc hd' hx q
      · rw [va_up_other _ _ e2] at hy
        exact h3 c d x hc hd' hx hy
  · by_cases e : c = b
    · subst e
      rw [va_up_same] at hx
      rcases List.mem_cons.mp hx with q | q
      · rw [q]; exact hs
      · exact h4 c x hc q
    · rw [va_up_other _ _ e] at hx
      exact h4 c x hc hx
/-- a chain that another one's change leaves as it is -/
theorem BQ.keep {K N : Nat} {hd aft bef : Nat → Int32} {L : Nat → List Nat} (h : BQ K N hd aft bef L) (hN : N < 2 ^ 31) {b c s : Nat} (hb : b < K) (hc : c < K) (e : c ≠ b) (hs : s ∈ L b) (p : Int32) (x : Nat) (hx : x ∈ L c) : rePrev bef (aft s) p x = bef x := by
  obtain ⟨h1, h2, h3, h4⟩ := h
  have hxN := h4 c x hc hx
  have key : ∀ (xs : List Nat) (pr cu : Int32), dl aft bef pr xs cu → s ∈ xs → aft s = -1 ∨ ∃ y, y ∈ xs ∧ aft s = nI y := by
    intro xs
    induction xs with
    | nil => intro pr cu _ hm; cases hm
    | cons w ws ih =>
      intro pr cu hd' hm
      rcases List.mem_cons.mp hm with q | q
      · subst q
        have h5 := hd'.2.2
        cases ws with
        | nil => exact Or.inl h5
        | cons y ys => exact Or.inr ⟨y, by simp, h5.1⟩
      · rcases ih _ _ hd'.2.2 q with r | ⟨y, hy, r⟩
        · exact Or.inl r
        · exact Or.inr ⟨y, List.mem_cons_of_mem _ hy, r⟩
  rcases key _ _ _ (h1 b hb) hs with q | ⟨y, hy, q⟩
  · unfold rePrev; rw [if_pos q]
  · have hyN := h4 b y hb hy
    refine rePrev_ne (by omega) ?_ (Or.inr ⟨y, by omega, q⟩)
    rw [q]
    intro r
    have r := (nI_eq (by omega) (by omega)).mp r
    exact e (h3 c b x hc hb hx (by rw [← r]; exact hy))
/-- unlink: s goes out of chain b; at its head, or behind z -/
theorem BQ.unlink {K N : Nat} {hd aft bef : Nat → Int32} {L : Nat → List Nat} (h : BQ K N hd aft bef L) (hN : N < 2 ^ 31) {b s : Nat} (hb : b < K) (hs : s ∈ L b) :
    (bef s = -1 ∧ hd b = nI s ∧ BQ K N (upd hd b (aft s)) aft (rePrev bef (aft s) (bef s)) (va_up L b ((L b).erase s))) ∨
    (∃ z, z ∈ L b ∧ z ≠ s ∧ bef s = nI z ∧ BQ K N hd (upd aft z (aft s)) (rePrev bef (aft s) (bef s)) (va_up L b ((L b).erase s))) := by
  have hk := fun (c : Nat) (hc : c < K) (e : c ≠ b) (p : Int32) (x : Nat) (hx : x ∈ L c) => h.keep hN hb hc e hs p x hx
  obtain ⟨h1, h2, h3, h4⟩ := h
  have hb4 : ∀ x, x ∈ L b → x < 2 ^ 31 := fun x hx => by have := h4 b x hb hx; omega
  have er : ∀ x, x ∈ (L b).erase s → x ∈ L b := fun x hx => List.mem_of_mem_erase hx
  have e2 : ∀ c, c < K → (va_up L b ((L b).erase s) c).Nodup := fun c hc => by
    by_cases e : c = b
    · subst e; rw [va_up_same]; exact (h2 c hc).erase s
    · rw [va_up_other _ _ e]; exact h2 c hc
  have sub : ∀ c x, c < K → x ∈ va_up L b ((L b).erase s) c → x ∈ L c := fun c x hc hx => by
    by_cases e : c = b
    · subst e; rw [va_up_same] at hx; exact er x hx
    · rw [va_up_other _ _ e] at hx; exact hx
  have e3 : ∀ c d x, c < K → d < K → x ∈ va_up L b ((L b).erase s) c → x ∈ va_up L b ((L b).erase s) d → c = d := fun c d x hc hd' hx hy => h3 c d x hc hd' (sub c x hc hx) (sub d x hd' hy)
  have e4 : ∀ c x, c < K → x ∈ va_up L b ((L b).erase s) c → x < N := fun c x hc hx => h4 c x hc (sub c x hc hx)
  obtain ⟨us, vs, hL⟩ := List.append_of_mem hs
  have hd1 := h1 b hb
  have hn := h2 b hb
  rcases List.eq_nil_or_concat us with hu | ⟨ws, z, hu⟩
  · subst hu
    left
    rw [List.nil_append] at hL
    rw [hL] at hd1 hn hb4
    obtain ⟨q1, q2, q3⟩ := dl_pop hd1 hb4 hn
    refine ⟨q2, q1, fun c hc => ?_, e2, e3, e4⟩
    by_cases e : c = b
    · subst e
      rw [va_up_same, upd_same, hL, List.erase_cons_head, q2]
      exact q3
    · rw [va_up_other _ _ e, upd_other _ _ e]
      exact dl_congr (L c) _ _ (fun x hx => ⟨rfl, (hk c hc e _ x hx).symm⟩) (h1 c hc)
  · right
    subst hu
    rw [List.concat_eq_append, List.append_assoc] at hL
    have hL : L b = ws ++ z :: s :: vs := hL
    have hz : z ∈ L b := by rw [hL]; simp
    rw [hL] at hd1 hn hb4
    obtain ⟨q1, q2⟩ := dl_del ws z _ _ hd1 hb4 hn
    have hzs : z ≠ s := by
      intro q
      have := (List.nodup_append.mp hn).2.1
      exact (List.nodup_cons.mp this).1 (by rw [q]; exact List.mem_cons_self)
    have hsw : s ∉ ws := fun q => by
      have := (List.nodup_append.mp hn).2.2 s q s (by simp)
      exact this rfl
    refine ⟨z, hz, hzs, q1, fun c hc => ?_, e2, e3, e4⟩
    by_cases e : c = b
    · subst e
      rw [va_up_same, hL, List.erase_append_right _ hsw, List.erase_cons_tail (by simpa using hzs), List.erase_cons_head, q1]
      exact q2
    · rw [va_up_other _ _ e]
      refine dl_congr (L c) _ _ (fun x hx => ⟨?_, (hk c hc e _ x hx).symm⟩) (h1 c hc)
      exact (upd_other _ _ (fun q => e (h3 c b x hc hb hx (by rw [q]; exact hz)))).symm
