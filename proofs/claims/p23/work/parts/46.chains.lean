-- chains: a list of nodes, each with the next (aft) and the one ahead (bef); -1 is none
def dl (aft bef : Nat → Int32) : Int32 → List Nat → Int32 → Prop
  | _, [], cur => cur = -1
  | prev, x :: xs, cur => cur = nI x ∧ bef x = prev ∧ dl aft bef (nI x) xs (aft x)
theorem dl_congr {aft aft' bef bef' : Nat → Int32} : ∀ (xs : List Nat) (prev cur : Int32), (∀ x, x ∈ xs → aft x = aft' x ∧ bef x = bef' x) → dl aft bef prev xs cur → dl aft' bef' prev xs cur := by
  intro xs
  induction xs with
  | nil => intro prev cur _ h; exact h
  | cons x xs ih =>
    intro prev cur hc h
    obtain ⟨h1, h2, h3⟩ := h
    have hx := hc x List.mem_cons_self
    refine ⟨h1, by rw [← hx.2]; exact h2, ?_⟩
    rw [← hx.1]
    exact ih _ _ (fun y hy => hc y (List.mem_cons_of_mem _ hy)) h3
/-- the node that a chain begins with gets another one ahead -/
def rePrev (bef : Nat → Int32) (cur p : Int32) : Nat → Int32 := if cur = -1 then bef else upd bef cur.toNatClampNeg p
theorem upd_same (f : Nat → Int32) (k : Nat) (x : Int32) : upd f k x k = x := by simp [upd]
theorem upd_other (f : Nat → Int32) {k j : Nat} (x : Int32) (h : j ≠ k) : upd f k x j = f j := by simp [upd, h]
theorem rePrev_ne {bef : Nat → Int32} {cur p : Int32} {x : Nat} (hx : x < 2 ^ 31) (h : cur ≠ nI x) (hc : cur = -1 ∨ ∃ y, y < 2 ^ 31 ∧ cur = nI y) : rePrev bef cur p x = bef x := by
  unfold rePrev
  split
  · rfl
  · next c =>
    rcases hc with q | ⟨y, hy, q⟩
    · exact absurd q c
    · subst q
      rw [nI_clamp hy]
      exact upd_other _ _ (fun e => h (by rw [e]))
theorem dl_cur {aft bef : Nat → Int32} {prev cur : Int32} {xs : List Nat} (h : dl aft bef prev xs cur) (hb : ∀ x, x ∈ xs → x < 2 ^ 31) : cur = -1 ∨ ∃ y, y < 2 ^ 31 ∧ cur = nI y := by
  cases xs with
  | nil => exact Or.inl h
  | cons x xs => exact Or.inr ⟨x, hb x List.mem_cons_self, h.1⟩
theorem dl_reprev {aft bef : Nat → Int32} {p q cur : Int32} {xs : List Nat} (h : dl aft bef p xs cur) (hb : ∀ x, x ∈ xs → x < 2 ^ 31) (hn : xs.Nodup) : dl aft (rePrev bef cur q) q xs cur := by
  cases xs with
  | nil => exact h
  | cons x xs =>
    obtain ⟨h1, h2, h3⟩ := h
    have hx := hb x List.mem_cons_self
    have hcu : ¬ cur = -1 := by rw [h1]; exact nI_m1 hx
    refine ⟨h1, ?_, ?_⟩
    · unfold rePrev
      rw [if_neg hcu, h1, nI_clamp hx]
      exact upd_same _ _ _
    · refine dl_congr xs _ _ (fun y hy => ⟨rfl, ?_⟩) h3
      unfold rePrev
      rw [if_neg hcu, h1, nI_clamp hx]
      have hyx : y ≠ x := fun e => (List.nodup_cons.mp hn).1 (by rw [← e]; exact hy)
      exact (upd_other _ _ hyx).symm
/-- link: a node comes ahead of a chain -/
theorem dl_push {aft bef : Nat → Int32} {cur : Int32} {xs : List Nat} {s : Nat} (h : dl aft bef (-1) xs cur) (hb : ∀ x, x ∈ xs → x < 2 ^ 31) (hs : s < 2 ^ 31) (hn : (s :: xs).Nodup) : dl (upd aft s cur) (rePrev (upd bef s (-1)) cur (nI s)) (-1) (s :: xs) (nI s) := by
  obtain ⟨hn1, hn2⟩ := List.nodup_cons.mp hn
  have hne : cur ≠ nI s := by
    cases xs with
    | nil => rw [show cur = -1 from h]; exact fun e => nI_m1 hs e.symm
    | cons x xs =>
      rw [h.1]
      intro e
      exact hn1 (((nI_eq (hb x List.mem_cons_self) hs).mp e) ▸ List.mem_cons_self)
  refine ⟨rfl, ?_, ?_⟩
  · rw [rePrev_ne hs hne (dl_cur h hb)]
    exact upd_same _ _ _
  · rw [upd_same]
    refine dl_reprev (p := -1) ?_ hb hn2
    refine dl_congr xs _ _ (fun y hy => ?_) h
    have hy2 : y ≠ s := fun e => hn1 (e ▸ hy)
    exact ⟨(upd_other _ _ hy2).symm, (upd_other _ _ hy2).symm⟩
/-- unlink: a node goes out of a chain; at its head -/
theorem dl_pop {aft bef : Nat → Int32} {prev cur : Int32} {xs : List Nat} {s : Nat} (h : dl aft bef prev (s :: xs) cur) (hb : ∀ x, x ∈ s :: xs → x < 2 ^ 31) (hn : (s :: xs).Nodup) : cur = nI s ∧ bef s = prev ∧ dl aft (rePrev bef (aft s) prev) prev xs (aft s) :=
  ⟨h.1, h.2.1, dl_reprev h.2.2 (fun x hx => hb x (List.mem_cons_of_mem _ hx)) (List.nodup_cons.mp hn).2⟩
/-- unlink, behind another node z -/
theorem dl_del {aft bef : Nat → Int32} {s : Nat} {ys : List Nat} : ∀ (xs : List Nat) (z : Nat) (prev cur : Int32), dl aft bef prev (xs ++ z :: s :: ys) cur → (∀ x, x ∈ xs ++ z :: s :: ys → x < 2 ^ 31) → (xs ++ z :: s :: ys).Nodup → bef s = nI z ∧ dl (upd aft z (aft s)) (rePrev bef (aft s) (nI z)) prev (xs ++ z :: ys) cur := by
  intro xs
  induction xs with
  | nil =>
    intro z prev cur h hb hn
    obtain ⟨h1, h2, h3, h4, h5⟩ := h
    obtain ⟨hn1, hn2⟩ := List.nodup_cons.mp hn
    obtain ⟨hn3, hn4⟩ := List.nodup_cons.mp hn2
    have hbz : z < 2 ^ 31 := hb z (by simp)
    have hbs : s < 2 ^ 31 := hb s (by simp)
    have hby : ∀ x, x ∈ ys → x < 2 ^ 31 := fun x hx => hb x (by simp [hx])
    have hcz : aft s ≠ nI z := by
      cases ys with
      | nil => rw [show aft s = -1 from h5]; exact fun e => nI_m1 hbz e.symm
      | cons y ys =>
        rw [h5.1]
        intro e
        have e := (nI_eq (hby y List.mem_cons_self) hbz).mp e
        exact hn1 (by subst e; simp)
    refine ⟨h4, h1, ?_, ?_⟩
    · rw [rePrev_ne hbz hcz (dl_cur h5 hby)]; exact h2
    · rw [upd_same]
      have h6 := dl_reprev (q := nI z) h5 hby hn4
      refine dl_congr ys _ _ (fun y hy => ⟨?_, rfl⟩) h6
      exact (upd_other _ _ (fun e => hn1 (by subst e; simp [hy]))).symm
  | cons x xs ih =>
    intro z prev cur h hb hn
    obtain ⟨h1, h2, h3⟩ := h
    obtain ⟨hn1, hn2⟩ := List.nodup_cons.mp hn
    have hb2 : ∀ w, w ∈ xs ++ z :: s :: ys → w < 2 ^ 31 := fun w hw => hb w (List.mem_cons_of_mem _ hw)
    obtain ⟨i1, i2⟩ := ih z _ _ h3 hb2 hn2
    have hxz : x ≠ z := fun e => hn1 (by subst e; simp)
    refine ⟨i1, h1, ?_, ?_⟩
    · -- the node behind s isn't x
      have hx := hb x List.mem_cons_self
      have hs := hb2 s (by simp)
      have hcs : aft s = -1 ∨ ∃ y, y ∈ ys ∧ aft s = nI y := by
        have : ∀ (ws : List Nat) (p c : Int32), dl aft bef p (ws ++ z :: s :: ys) c → aft s = -1 ∨ ∃ y, y ∈ ys ∧ aft s = nI y := by
          intro ws
          induction ws with
          | nil =>
            intro p c hd
            obtain ⟨-, -, -, -, hd⟩ := hd
            cases ys with
            | nil => exact Or.inl hd
            | cons y ys => exact Or.inr ⟨y, List.mem_cons_self, hd.1⟩
          | cons w ws ih2 => intro p c hd; exact ih2 _ _ hd.2.2
        exact this xs _ _ h3
      rcases hcs with q | ⟨y, hy, q⟩
      · unfold rePrev; rw [if_pos q]; exact h2
      · rw [rePrev_ne hx (by rw [q]; intro e; have e := (nI_eq (hb2 y (by simp [hy])) hx).mp e; exact hn1 (by subst e; simp [hy])) (Or.inr ⟨y, hb2 y (by simp [hy]), q⟩)]
        exact h2
    · rw [upd_other _ _ hxz]; exact i2
