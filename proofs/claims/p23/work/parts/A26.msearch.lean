-- two nested loops over pairs of pegs
theorem pair_loop {α : Type} {P : Nat} {Bo : α → Nat → Prop} {Bi : α → Nat → Nat → Prop} {I : Nat → Nat → α → Prop}
    (h1 : ∀ T p, p < P → I p 0 T → Bi T p 0 → Bo T p) (h2 : ∀ T, I P 0 T → Bo T P) (h3 : ∀ T p q, p < P → q < P → I p q T → (∀ T', I p (q + 1) T' → Bi T' p (q + 1)) → Bi T p q)
    (h4 : ∀ T p, p < P → I p P T → Bo T (p + 1) → Bi T p P) (h5 : ∀ T p, p < P → I p P T → I (p + 1) 0 T) : ∀ T, I 0 0 T → Bo T 0 := by
  have key : ∀ d p, p + d = P → ∀ T, I p 0 T → Bo T p := by
    intro d
    induction d with
    | zero =>
      intro p hp T hT
      have : p = P := by omega
      subst this
      exact h2 T hT
    | succ d ih =>
      intro p hp T hT
      have inner : ∀ d2 q, q + d2 = P → ∀ T, I p q T → Bi T p q := by
        intro d2
        induction d2 with
        | zero =>
          intro q hq T hT
          have : q = P := by omega
          subst this
          exact h4 T p (by omega) hT (ih (p + 1) (by omega) T (h5 T p (by omega) hT))
        | succ d2 ih2 =>
          intro q hq T hT
          exact h3 T p q (by omega) (by omega) hT (fun T' hT' => ih2 (q + 1) (by omega) T' hT')
      exact h1 T p (by omega) hT (inner P 0 (by omega) T hT)
  exact fun T hT => key P 0 (by omega) T hT
/-- row 8 holds the stand s -/
def U8 (T : MS) (n P s : Nat) : Prop := ∃ σ : Nat → Nat, MA T 8 σ ∧ ∀ j, j < n → σ j = dgs P s j
def W9 (S T : MS) : Prop := T.1 = S.1 ∧ T.2.2 = S.2.2 ∧ (∀ k, k ≠ 9 → T.2.1 k = S.2.1 k) ∧ ∃ τ, MA T 9 τ
theorem W9.my {S T : MS} {n P : Nat} {kd ct sg : Nat → Nat} (h : W9 S T) (hy : MY S n P kd ct sg) : MY T n P kd ct sg := by
  unfold MY
  rw [h.1, h.2.2.1 1 (by decide), h.2.2.1 4 (by decide), h.2.2.1 5 (by decide)]
  exact hy
theorem W9.u8 {S T : MS} {n P s : Nat} (h : W9 S T) (hu : U8 S n P s) : U8 T n P s := by
  obtain ⟨σ, h1, h2⟩ := hu
  exact ⟨σ, fun j hj => by rw [h.2.2.1 8 (by decide)]; exact h1 j hj, h2⟩
theorem s_ld (l : Launch) {S : MS} {n P : Nat} {kd ct sg : Nat → Nat} (hy : MY S n P kd ct sg) {s a b : Nat} (h8 : U8 S n P s) (h9 : ∃ τ, MA S 9 τ) (ha : a < P) (hb : b < P) (post : Int32 → MS → Prop) (h : ∀ T, W9 S T → post (lab (tgN n P kd ct sg s a b)) T) : mX_leads l S (nI a) (nI b) post := by
  obtain ⟨σ, h1, h2⟩ := h8
  obtain ⟨τ, hτ⟩ := h9
  refine s_lead l S s a b post hy h1 h2 hτ ha hb (fun q => ?_) (fun t q g ρ hg => ?_)
  · have := h S ⟨rfl, rfl, fun _ _ => rfl, τ, hτ⟩
    rw [q] at this
    exact this
  · have := h (ma S 9 g) ⟨rfl, rfl, fun k hk => ma_get_ne _ _ hk, ρ, fun j hj => by rw [ma_get]; exact hg j hj⟩
    rw [q] at this
    exact this
theorem s_unp (l : Launch) {S : MS} {n P : Nat} {kd ct sg : Nat → Nat} (hy : MY S n P kd ct sg) {s : Nat} (hs : s < 2 ^ 31) (h8 : ∃ τ, MA S 8 τ) (post : MS → Prop) (h : ∀ g : Nat → Int32, U8 (ma S 8 g) n P s → post (ma S 8 g)) : mX_unpack l S (nI s) 8 post := by
  have hP2 := hy.2.2.1
  have hn2 := hy.2.2.2.1
  obtain ⟨τ, hτ⟩ := h8
  refine s_unpack l S s 8 m7_8' post hy.2.1 hy.1 hP2 (by omega) hs (h _ ⟨fun j => if j < n then dgs P s j else τ j, fun j hj => ?_, fun j hj => if_pos hj⟩)
  rw [ma_get]
  unfold unpF
  by_cases e : j < n
  · simp only [e, if_true]
    exact ⟨rfl, by have := dgs_lt (P := P) (by omega) s j; omega⟩
  · simp only [e, if_false]
    exact hτ j hj
theorem U8.at {T : MS} {n P s : Nat} (h : U8 T n P s) : ∃ τ, MA T 8 τ := ⟨_, h.choose_spec.1⟩
/-- what the searches of the reference may change: scalars 3, 7, 8, scratch rows -/
def MK (S T : MS) : Prop := (∀ k, k ≠ 3 → k ≠ 7 → k ≠ 8 → T.1 k = S.1 k) ∧ (∀ k, k < 8 ∨ (28 < k ∧ k < 34) → T.2.1 k = S.2.1 k) ∧ (∃ τ, MA T 8 τ) ∧ (∃ τ, MA T 9 τ)
theorem MK.my {S T : MS} {n P : Nat} {kd ct sg : Nat → Nat} (h : MK S T) (hy : MY S n P kd ct sg) : MY T n P kd ct sg := by
  unfold MY
  rw [h.1 0 (by decide) (by decide) (by decide), h.1 1 (by decide) (by decide) (by decide), h.2.1 1 (by decide), h.2.1 4 (by decide), h.2.1 5 (by decide)]
  exact hy
theorem MK.tr {S T U : MS} (h1 : MK S T) (h2 : MK T U) : MK S U := ⟨fun k a b c => (h2.1 k a b c).trans (h1.1 k a b c), fun k hk => (h2.2.1 k hk).trans (h1.2.1 k hk), h2.2.2⟩
theorem MFr.mk {S T : MS} (h : MFr S T) : MK S T := ⟨fun k _ hk _ => h.1 k hk, fun k hk => h.2.1 k (by omega), h.2.2.2⟩
theorem MK.of9 {S T : MS} (h : W9 S T) (h8 : ∃ τ, MA S 8 τ) : MK S T := ⟨fun k _ _ _ => by rw [h.1], fun k hk => h.2.2.1 k (by omega), by obtain ⟨τ, h8⟩ := h8; exact ⟨τ, fun j hj => by rw [h.2.2.1 8 (by decide)]; exact h8 j hj⟩, h.2.2.2⟩
theorem MK.mar {S T : MS} (h : MK S T) {k : Nat} (f : Nat → Int32) (hk : 9 < k ∧ k ≤ 28 ∨ 34 ≤ k) : MK S (ma T k f) := by
  obtain ⟨h1, h2, ⟨τ, h3⟩, ⟨ρ, h4⟩⟩ := h
  refine ⟨h1, fun j hj => ?_, ⟨τ, fun j hj => ?_⟩, ⟨ρ, fun j hj => ?_⟩⟩
  · rw [ma_get_ne _ _ (by omega)]; exact h2 j hj
  · rw [ma_get_ne _ _ (by omega)]; exact h3 j hj
  · rw [ma_get_ne _ _ (by omega)]; exact h4 j hj
theorem MK.mls {S T : MS} (h : MK S T) {k : Nat} (f : Nat → Int64) : MK S (ml T k f) := h
theorem MK.mfs {S T : MS} (h : MK S T) {k : Nat} (v : Int32) (hk : k = 3 ∨ k = 7 ∨ k = 8) : MK S (mf T k v) := ⟨fun j a b c => by rw [mf_get_ne _ _ (by omega)]; exact h.1 j a b c, h.2⟩
theorem MK.m8 {S T : MS} (h : MK S T) {n P s : Nat} {f : Nat → Int32} (hu : U8 (ma T 8 f) n P s) : MK S (ma T 8 f) := by
  obtain ⟨h1, h2, -, ⟨ρ, h4⟩⟩ := h
  refine ⟨h1, fun j hj => ?_, hu.at, ⟨ρ, fun j hj => ?_⟩⟩
  · rw [ma_get_ne _ _ (by omega)]; exact h2 j hj
  · rw [ma_get_ne _ _ (by omega)]; exact h4 j hj
/-- what measure() leaves -/
def MOK (T : MS) (n P : Nat) (kd ct sg : Nat → Nat) (st : Nat) (fr : Nat → Option Nat) (mt : List Nat) : Prop := DS (P ^ n) st (tgN n P kd ct sg) (fun a b => ct (5 * a + b)) fr ∧ mt.Nodup ∧ (∀ x, x ∈ mt ↔ fr x ≠ none) ∧ (mt.Pairwise fun x y => ∀ m k, fr x = some m → fr y = some k → m ≤ k) ∧ (∀ x m, fr x = some m → m ≤ 2000000) ∧
  (∀ x, x < P ^ n → T.2.1 10 x = farV (fr x)) ∧ T.1 7 = nI mt.length ∧ (∀ k x, mt[k]? = some x → T.2.1 14 k = nI x)
theorem s_meas (l : Launch) {S : MS} {n P : Nat} {kd ct sg : Nat → Nat} (hy : MY S n P kd ct sg) {x : Nat} (hx : x < P ^ n) (h2 : MA S 2 (dgs P x)) (h8 : ∃ τ, MA S 8 τ) (h9 : ∃ τ, MA S 9 τ) (hN : P ^ n ≤ 20000) (post : MS → Prop) (h : ∀ T fr mt, MK S T → MOK T n P kd ct sg x fr mt → post T) : mX_measure l S post := by
  have hP2 := hy.2.2.1
  refine s_measure l S post hy h2 (fun j _ => dgs_lt (by omega) x j) h8 h9 hN (fun T fr mt L d hF hI hR hall => h T fr mt hF.mk ?_)
  rw [dgs_pack hx] at hI
  refine ⟨hI.ds hall, hI.1.1, fun z => ⟨fun q => ?_, hall z⟩, hI.2.2.2.2.1, fun z m hm => ?_, fun z hz => hR.1 z hz (fun q => q), hR.2.2.1, hR.2.2.2.1⟩
  · obtain ⟨m, e, -⟩ := hI.2.2.1 z q
    rw [e]; exact Option.some_ne_none m
  · have h1 := hI.2.2.2.2.2.2.2.1 z m hm
    have h2 := nodup_len _ mt hI.1.1 hI.1.2
    omega
theorem farV_eq {o : Option Nat} {m : Nat} (h : ∀ k, o = some k → k ≤ 2000000) (hm : m ≤ 2000100) : farV o = nI m ↔ o = some m := by
  cases o with
  | none => exact ⟨fun q => absurd ((nI_eq (a := 2147483647) (by omega) (by omega)).mp q) (by omega), fun q => by cases q⟩
  | some k =>
    have := h k rfl
    constructor
    · intro q
      rw [(nI_eq (by omega) (by omega)).mp q]
    · intro q; cases q; rfl
theorem farV_none {o : Option Nat} (h : ∀ k, o = some k → k ≤ 2000000) : farV o = 2147483647 ↔ o = none := by
  cases o with
  | none => exact ⟨fun _ => rfl, fun _ => rfl⟩
  | some k =>
    have := h k rfl
    exact ⟨fun q => absurd ((nI_eq (b := 2147483647) (by omega) (by omega)).mp q) (by omega), fun q => by cases q⟩
/-- isNear() of a stand that leads on, or not at all -/
theorem s_near (l : Launch) {T : MS} {n P : Nat} {kd ct sg : Nat → Nat} (hy : MY T n P kd ct sg) (hN : P ^ n ≤ 20000) {fr : Nat → Option Nat} (h10 : ∀ x, x < P ^ n → T.2.1 10 x = farV (fr x)) (hfb : ∀ x m, fr x = some m → m ≤ 2000000) {s m a b : Nat} (hs : s < P ^ n) (hm : fr s = some m) (ha : a < P) (hb : b < P) (post : Bool → MS → Prop)
    (h0 : (∀ t, ¬ nearX (tgN n P kd ct sg) (fun a b => ct (5 * a + b)) fr s a b t) → post false T) (h1 : ∀ t, tgN n P kd ct sg s a b = some t → nearX (tgN n P kd ct sg) (fun a b => ct (5 * a + b)) fr s a b t → post true T) : mX_isNear l T (nI s) (lab (tgN n P kd ct sg s a b)) (nI a) (nI b) post := by
  have hP2 := hy.2.2.1
  refine m_isNear l T _ _ _ _ post ?_
  unfold mT_isNear_e
  cases ht : tgN n P kd ct sg s a b with
  | none => exact ⟨fun _ => h0 (fun t q => by have := q.1; rw [ht] at this; cases this), fun q => absurd rfl q⟩
  | some t =>
    have htN := tgN_lt (by omega) ht
    have hc := (hy.2.2.2.2.2.1 (5 * a + b) (by omega))
    have hmb := hfb s m hm
    show (nI t = -1 → _) ∧ (¬ nI t = -1 → _)
    refine ⟨fun q => absurd q (nI_m1 (by omega)), fun _ => ?_⟩
    show vp_in (nI t) 20000 ∧ _
    have e1 : (lab (some t)).toNatClampNeg = t := nI_clamp (by omega)
    rw [e1, ix25 (by omega) (by omega), nI_clamp (show s < 2 ^ 31 by omega), nI_clamp (show 5 * a + b < 2 ^ 31 by omega), h10 t htN, h10 s hs, hm, hc.1]
    have e2 : farV (some m) + nI (ct (5 * a + b)) = nI (m + ct (5 * a + b)) := nI_add _ _
    rw [e2]
    have hiff := farV_eq (o := fr t) (m := m + ct (5 * a + b)) (fun k hk => hfb t k hk) (by omega)
    refine ⟨vp_in_nI (by omega) (by omega), vp_in_nI (by omega) (by omega), vp_in_nI (by omega) (by omega), fun c => h0 (fun t' q => ?_), fun c => h1 t ht ⟨ht, m, hm, hiff.mp c⟩⟩
    obtain ⟨q1, k, q2, q3⟩ := q
    rw [ht] at q1
    cases q1
    rw [hm] at q2
    cases q2
    exact c (hiff.mpr q3)
def few (o : Option Nat) : Int32 := match o with
  | none => -2
  | some m => nI m
section MSearch
variable {S : MS} {n P x y : Nat} {kd ct sg : Nat → Nat}
theorem s_fewest (l : Launch) (hy : MY S n P kd ct sg) (hx : x < P ^ n) (hxa : MA S 2 (dgs P x)) (hg : y < P ^ n) (hga : MA S 3 (dgs P y)) (h8 : ∃ τ, MA S 8 τ) (h9 : ∃ τ, MA S 9 τ) (post : Int32 → MS → Prop)
    (h0 : ¬ P ^ n ≤ 20000 → post (-1) (mf (mf S 3 0) 2 2)) (h1 : P ^ n ≤ 20000 → ∀ T fr mt, MK (mf (mf S 3 0) 2 0) T → MOK T n P kd ct sg x fr mt → post (few (fr y)) T) : mX_fewest l S post := by
  have hP2 := hy.2.2.1
  have hn2 := hy.2.2.2.1
  refine m_fewest l S post ?_
  unfold mT_fewest_e
  refine s_fits l _ _ (n := n) (P := P) hy.2.1 hy.1 (by omega) hP2 ⟨fun c => ?_, fun c => ?_⟩
  · have hN : P ^ n ≤ 20000 := of_decide_eq_true (bI_n0.mp c)
    have hy2 : MY (mf (mf S 3 0) 2 0) n P kd ct sg := (hy.mf 0 (by decide) (by decide)).mf 0 (by decide) (by decide)
    refine s_meas l hy2 hx hxa h8 h9 hN _ (fun T fr mt hK hM => ?_)
    have hyT := hK.my hy2
    have hgT : ∀ j, j < n → T.2.1 3 j = nI (dgs P y j) := fun j hj => by rw [hK.2.1 3 (by decide)]; exact (hga j (by omega)).1
    refine s_pack l T 3 (by unfold m7; decide) _ hyT.2.1 hyT.1 (by omega) hgT ?_
    rw [dgs_pack hg, nI_clamp (show y < 2 ^ 31 by omega)]
    refine ⟨vp_in_nI (by omega) (by omega), fun v e => ?_⟩
    rw [hM.2.2.2.2.2.1 y hg] at e
    subst e
    have := h1 hN T fr mt hK hM
    have hfn := farV_none (o := fr y) (fun k hk => hM.2.2.2.2.1 y k hk)
    cases e : fr y with
    | none => rw [e] at this; exact ⟨fun q => absurd rfl q, fun _ => this⟩
    | some m =>
      rw [e] at this hfn
      exact ⟨fun _ => this, fun q => by have := hfn.mp q; cases this⟩
  · have hN : ¬ P ^ n ≤ 20000 := of_decide_eq_false (bI_0.mp c)
    exact s_no l _ 2 _ (h0 hN)
theorem s_reach (l : Launch) (hy : MY S n P kd ct sg) (hx : x < P ^ n) (hxa : MA S 2 (dgs P x)) (h8 : ∃ τ, MA S 8 τ) (h9 : ∃ τ, MA S 9 τ) (post : Int32 → MS → Prop)
    (h0 : ¬ P ^ n ≤ 20000 → post (-1) (mf (mf S 3 0) 2 2)) (h1 : P ^ n ≤ 20000 → ∀ T fr mt, MK (mf (mf S 3 0) 2 0) T → MOK T n P kd ct sg x fr mt → post (nI mt.length) T) : mX_reach l S post := by
  have hP2 := hy.2.2.1
  have hn2 := hy.2.2.2.1
  refine m_reach l S post ?_
  unfold mT_reach_e
  refine s_fits l _ _ (n := n) (P := P) hy.2.1 hy.1 (by omega) hP2 ⟨fun c => ?_, fun c => ?_⟩
  · have hN : P ^ n ≤ 20000 := of_decide_eq_true (bI_n0.mp c)
    have hy2 : MY (mf (mf S 3 0) 2 0) n P kd ct sg := (hy.mf 0 (by decide) (by decide)).mf 0 (by decide) (by decide)
    refine s_meas l hy2 hx hxa h8 h9 hN _ (fun T fr mt hK hM => ?_)
    rw [hM.2.2.2.2.2.2.1]
    exact h1 hN T fr mt hK hM
  · have hN : ¬ P ^ n ≤ 20000 := of_decide_eq_false (bI_0.mp c)
    exact s_no l _ 2 _ (h0 hN)
/-- the last stand that is met -/
theorem MOK.last {T : MS} {st : Nat} {fr : Nat → Option Nat} {mt : List Nat} (hM : MOK T n P kd ct sg st fr mt) : ∃ (z m : Nat), mt[mt.length - 1]? = some z ∧ 0 < mt.length ∧ z < P ^ n ∧ fr z = some m ∧ mt.length ≤ P ^ n ∧ (∀ w k, fr w = some k → k ≤ m) := by
  obtain ⟨hD, hnd, hmem, hsort, hfb, -⟩ := hM
  have h0 : 0 < mt.length := by
    have : st ∈ mt := (hmem st).mpr (by rw [hD.1]; exact Option.some_ne_none 0)
    exact List.length_pos_of_mem this
  obtain ⟨z, hz⟩ : ∃ z, mt[mt.length - 1]? = some z := ⟨_, List.getElem?_eq_getElem (by omega)⟩
  obtain ⟨m, hm⟩ := Option.ne_none_iff_exists'.mp ((hmem z).mp (List.mem_of_getElem? hz))
  refine ⟨z, m, hz, h0, hD.2.1 z (by rw [hm]; exact Option.some_ne_none m), hm, nodup_len _ mt hnd (fun w hw => hD.2.1 w ((hmem w).mp hw)), fun w k hk => ?_⟩
  obtain ⟨i, hi⟩ := idx_of ((hmem w).mpr (by rw [hk]; exact Option.some_ne_none k))
  obtain ⟨li, ei⟩ := List.getElem?_eq_some_iff.mp hi
  obtain ⟨lj, ej⟩ := List.getElem?_eq_some_iff.mp hz
  rcases Nat.lt_or_ge i (mt.length - 1) with q | q
  · have := (List.pairwise_iff_getElem.mp hsort) i (mt.length - 1) li lj q
    rw [ei, ej] at this
    exact this k m hk hm
  · have : i = mt.length - 1 := by omega
    subst this
    rw [ei] at ej
    subst ej
    rw [hk] at hm
    cases hm
    exact Nat.le_refl _
theorem s_far (l : Launch) (hy : MY S n P kd ct sg) (hx : x < P ^ n) (hxa : MA S 2 (dgs P x)) (h8 : ∃ τ, MA S 8 τ) (h9 : ∃ τ, MA S 9 τ) (post : Int32 → MS → Prop)
    (h0 : ¬ P ^ n ≤ 20000 → post (-1) (mf (mf S 3 0) 2 2)) (h1 : P ^ n ≤ 20000 → ∀ T fr mt (z m : Nat), MK (mf (mf S 3 0) 2 0) T → MOK T n P kd ct sg x fr mt → fr z = some m → (∀ w k, fr w = some k → k ≤ m) → post (nI m) T) : mX_far l S post := by
  have hP2 := hy.2.2.1
  have hn2 := hy.2.2.2.1
  refine m_far l S post ?_
  unfold mT_far_e
  refine s_fits l _ _ (n := n) (P := P) hy.2.1 hy.1 (by omega) hP2 ⟨fun c => ?_, fun c => ?_⟩
  · have hN : P ^ n ≤ 20000 := of_decide_eq_true (bI_n0.mp c)
    have hy2 : MY (mf (mf S 3 0) 2 0) n P kd ct sg := (hy.mf 0 (by decide) (by decide)).mf 0 (by decide) (by decide)
    refine s_meas l hy2 hx hxa h8 h9 hN _ (fun T fr mt hK hM => ?_)
    obtain ⟨z, m, q1, q2, q3, q4, q5, q6⟩ := hM.last
    obtain ⟨L, hL⟩ : ∃ L, mt.length = L + 1 := ⟨mt.length - 1, by omega⟩
    rw [hL, Nat.add_sub_cancel] at q1
    rw [hM.2.2.2.2.2.2.1, hL, nI_pred, nI_clamp (show L < 2 ^ 31 by omega), hM.2.2.2.2.2.2.2 L z q1, nI_clamp (show z < 2 ^ 31 by omega), hM.2.2.2.2.2.1 z q3, q4]
    exact ⟨vp_in_nI (by omega) (by omega), vp_in_nI (by omega) (by omega), h1 hN T fr mt z m hK hM q4 q6⟩
  · have hN : ¬ P ^ n ≤ 20000 := of_decide_eq_false (bI_0.mp c)
    exact s_no l _ 2 _ (h0 hN)
theorem s_farthest (l : Launch) (hy : MY S n P kd ct sg) (hx : x < P ^ n) (hxa : MA S 2 (dgs P x)) (h8 : ∃ τ, MA S 8 τ) (h9 : ∃ τ, MA S 9 τ) (post : Int32 → MS → Prop)
    (h0 : ¬ P ^ n ≤ 20000 → post (-1) (mf (mf S 3 0) 2 2)) (h1 : P ^ n ≤ 20000 → ∀ T fr mt (z m : Nat), MK (mf (mf S 3 0) 2 0) T → MOK T n P kd ct sg x fr mt → fr z = some m → (∀ w k, fr w = some k → k ≤ m) → (∀ w, fr w = some m → z ≤ w) → post (nI z) T) : mX_farthest l S post := by
  have hP2 := hy.2.2.1
  have hn2 := hy.2.2.2.1
  refine m_farthest l S post ?_
  intro B41 B86 h41 h86
  unfold mT_farthest_e
  refine s_fits l _ _ (n := n) (P := P) hy.2.1 hy.1 (by omega) hP2 ⟨fun c => ?_, fun c => ?_⟩
  · have hN : P ^ n ≤ 20000 := of_decide_eq_true (bI_n0.mp c)
    have hy2 : MY (mf (mf S 3 0) 2 0) n P kd ct sg := (hy.mf 0 (by decide) (by decide)).mf 0 (by decide) (by decide)
    refine s_meas l hy2 hx hxa h8 h9 hN _ (fun T fr mt hK hM => ?_)
    obtain ⟨z, m, q1, q2, q3, q4, q5, q6⟩ := hM.last
    have hD := hM.1
    have hmem := hM.2.2.1
    obtain ⟨L, hL⟩ : ∃ L, mt.length = L + 1 := ⟨mt.length - 1, by omega⟩
    have q1' := q1
    rw [hL, Nat.add_sub_cancel] at q1'
    have key : ∀ d k, k + d = mt.length → ∀ b, b < P ^ n → fr b = some m → (∀ i w, i < k → mt[i]? = some w → fr w = some m → b ≤ w) → B41 T (nI b) (nI k) := by
      intro d
      induction d with
      | zero =>
        intro k hk b hbN hb hbest
        refine h41 _ _ _ ?_
        unfold mT_farthest_41
        rw [hM.2.2.2.2.2.2.1]
        refine ⟨fun _ => h1 hN T fr mt b m hK hM hb q6 (fun w hw => ?_), fun q => absurd (nI_le (by omega) (by omega)) q⟩
        obtain ⟨i, hi⟩ := idx_of ((hmem w).mpr (by rw [hw]; exact Option.some_ne_none m))
        exact hbest i w (by have := (List.getElem?_eq_some_iff.mp hi).1; omega) hi hw
      | succ d ih =>
        intro k hk b hbN hb hbest
        obtain ⟨w, hw⟩ : ∃ w, mt[k]? = some w := ⟨_, List.getElem?_eq_getElem (by omega)⟩
        have hwf := (hmem w).mp (List.mem_of_getElem? hw)
        have hwN := hD.2.1 w hwf
        obtain ⟨mw, hmw⟩ := Option.ne_none_iff_exists'.mp hwf
        have hmwb := hM.2.2.2.2.1 w mw hmw
        have hmb := hM.2.2.2.2.1 b m hb
        have nxt : ∀ b', b' < P ^ n → fr b' = some m → (∀ i w, i < k + 1 → mt[i]? = some w → fr w = some m → b' ≤ w) → B86 T (nI b') (nI k) := by
          intro b' h1' h2' h3'
          refine h86 _ _ _ ?_
          unfold mT_farthest_86
          rw [← nI_succ]
          exact ih (k + 1) (by omega) b' h1' h2' h3'
        refine h41 _ _ _ ?_
        unfold mT_farthest_41
        rw [hM.2.2.2.2.2.2.1, nI_clamp (show k < 2 ^ 31 by omega), hM.2.2.2.2.2.2.2 k w hw, nI_clamp (show w < 2 ^ 31 by omega), nI_clamp (show b < 2 ^ 31 by omega), hM.2.2.2.2.2.1 w hwN, hM.2.2.2.2.2.1 b hbN, hmw, hb]
        refine ⟨fun q => absurd q (nI_ge (by omega) (by omega)), fun _ => ⟨vp_in_nI (by omega) (by omega), vp_in_nI (by omega) (by omega), vp_in_nI (by omega) (by omega), fun c1 => nxt b hbN hb (fun i v hi hv hfv => ?_), fun c1 => ⟨vp_in_nI (by omega) (by omega), fun c2 => nxt b hbN hb (fun i v hi hv hfv => ?_), fun c2 => ⟨vp_in_nI (by omega) (by omega), fun v9 e9 => ?_⟩⟩⟩⟩
        · by_cases e : i = k
          · subst e
            rw [hw] at hv
            cases hv
            rw [hmw] at hfv
            exact absurd (by rw [Option.some.inj hfv]) c1
          · exact hbest i v (by omega) hv hfv
        · by_cases e : i = k
          · subst e
            rw [hw] at hv
            cases hv
            exact (nI_leI (by omega) (by omega)).mp c2
          · exact hbest i v (by omega) hv hfv
        · subst e9
          have c1 : mw = m := (nI_eq (by omega) (by omega)).mp c1
          subst c1
          have c2 : w < b := by
            rcases Nat.lt_or_ge w b with q | q
            · exact q
            · exact absurd (nI_le q (by omega)) c2
          refine nxt w hwN hmw (fun i v hi hv hfv => ?_)
          by_cases e : i = k
          · subst e
            rw [hw] at hv
            cases hv
            exact Nat.le_refl _
          · have := hbest i v (by omega) hv hfv
            omega
    rw [hM.2.2.2.2.2.2.1, hL, nI_pred, nI_clamp (show L < 2 ^ 31 by omega), hM.2.2.2.2.2.2.2 L z q1']
    refine ⟨vp_in_nI (by omega) (by omega), fun v e => ?_⟩
    subst e
    exact key mt.length 0 (by omega) z q3 q4 (fun i w hi => absurd hi (Nat.not_lt_zero _))
  · have hN : ¬ P ^ n ≤ 20000 := of_decide_eq_false (bI_0.mp c)
    exact s_no l _ 2 _ (h0 hN)
end MSearch
