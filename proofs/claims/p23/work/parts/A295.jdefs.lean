-- joined(): the words of the search
/-- the sets: how many, of which stand, how great, and whether a row leads out -/
def KF (S : CS) (N m : Nat) (st : Nat → Option Nat) (sz lv : Nat → Nat) : Prop := m ≤ N ∧ S.1 18 = nI m ∧ (∀ x, x < N → S.2.1 35 x = lab (st x)) ∧ (∀ x k, st x = some k → k < m) ∧ (∀ k, k < m → S.2.1 36 k = nI (sz k) ∧ sz k ≤ N) ∧ ∀ k, k < m → S.2.1 37 k = nI (lv k) ∧ lv k ≤ 1
def tl (n P : Nat) (kd ct sg : Nat → Nat) (x : Nat) : List Nat := (mvL n P kd ct sg x).map (fun q => (tgN n P kd ct sg x q.1 q.2).getD 0)
/-- does a row lead out of x's set? -/
def outB (n P : Nat) (kd ct sg : Nat → Nat) (st : Nat → Option Nat) (x : Nat) : Bool := (tl n P kd ct sg x).any (fun t => decide (st t ≠ st x))
abbrev JA : Type := (Nat × Nat × Nat × Nat) × (Nat → Bool) × (Nat → Nat) × (Nat → Nat) × (Nat → Nat) × (Nat → Option Nat) × (Nat → Nat)
/-- marked, on the path, on the pile, sets; who is marked, by which number; the pile, the path by places of the pile; sets, sizes -/
def jst (q d p m : Nat) (sn : Nat → Bool) (ov pl ix : Nat → Nat) (st : Nat → Option Nat) (sz : Nat → Nat) : JA := ((q, d, p, m), sn, ov, pl, ix, st, sz)
def onP (sn : Nat → Bool) (st : Nat → Option Nat) (t : Nat) : Prop := sn t = true ∧ st t = none
/-- a way from the part above place j0 of the pile to below it -/
def WP (tg : Nat → List Nat) (p : Nat) (sn : Nat → Bool) (ov pl : Nat → Nat) (st : Nat → Option Nat) (j0 : Nat) : Prop := ∃ j t, j0 ≤ j ∧ j < p ∧ t ∈ tg (pl j) ∧ onP sn st t ∧ ov t < ov (pl j0)
def popS (st : Nat → Option Nat) (pl : Nat → Nat) (m p : Nat) : Nat → Nat → Option Nat
  | 0 => st
  | r + 1 => va_up (popS st pl m p r) (pl (p - 1 - r)) (some m)
def JStep (tg : Nat → List Nat) (A B : JA) : Prop := ∃ q r p m sn ov pl ix st sz, A = jst q (r + 1) p m sn ov pl ix st sz ∧ ((∃ t, (tg (pl (ix r))).find? (fun t => !sn t) = some t ∧ B = jst (q + 1) (r + 1 + 1) (p + 1) m (va_up sn t true) (va_up ov t q) (va_up pl p t) (va_up ix (r + 1) p) st sz) ∨ ((tg (pl (ix r))).find? (fun t => !sn t) = none ∧ WP tg p sn ov pl st (ix r) ∧ B = jst q r p m sn ov pl ix st sz) ∨ ((tg (pl (ix r))).find? (fun t => !sn t) = none ∧ ¬ WP tg p sn ov pl st (ix r) ∧ B = jst q r (ix r) (m + 1) sn ov pl ix (popS st pl m p (p - ix r)) (va_up sz m (p - ix r))))
def JRn (tg : Nat → List Nat) : Nat → JA → JA → Prop
  | 0, A, B => A = B
  | k + 1, A, B => ∃ C, JRn tg k A C ∧ JStep tg C B
/-- behind all roots below f -/
def JF (tg : Nat → List Nat) (R : Nat → Bool) : Nat → JA → Prop
  | 0, B => B = jst 0 0 0 0 (fun _ => false) (fun _ => 0) (fun _ => 0) (fun _ => 0) (fun _ => none) (fun _ => 0)
  | f + 1, B => ∃ q m sn ov pl ix st sz, JF tg R f (jst q 0 0 m sn ov pl ix st sz) ∧ (((sn f = true ∨ R f = false) ∧ B = jst q 0 0 m sn ov pl ix st sz) ∨ (sn f = false ∧ R f = true ∧ B.1.2.1 = 0 ∧ ∃ k, JRn tg k (jst (q + 1) 1 1 m (va_up sn f true) (va_up ov f q) (va_up pl 0 f) (va_up ix 0 0) st sz) B))
def lvS (n P : Nat) (kd ct sg : Nat → Nat) (st : Nat → Option Nat) : Nat → Nat → Nat
  | 0 => fun _ => 0
  | s + 1 => match st s with
    | none => lvS n P kd ct sg st s
    | some k => va_up (lvS n P kd ct sg st s) k (if outB n P kd ct sg st s then 1 else lvS n P kd ct sg st s k)
