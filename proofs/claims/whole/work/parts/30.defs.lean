/-! what class and reference share: P partitions; numbers l (last), d (durable), c (complete), u (under way); command n: ic (a command, no marker), ml (MULTI), hm (home), xo (its run); dn (done), cm (came); queues, log, tables, clients -/
def b2 (b : Bool) : Int32 := if b then 1 else 0
abbrev Oc : Type := Int32 × Fn × Fn × Int32 × Fn
def xd (xo : Nat → DB → Oc) (n : Nat) (s : DB) : DB := ((xo n s).2.1, (xo n s).2.2.1)
abbrev z0 : Fn := fun _ => 0
def wt (ic ml : Nat → Bool) (hm : Nat → Nat) (dn : Nat → Bool) (cm : Nat → Nat → Bool) (i n : Nat) : Bool := !dn n && (if ic n then (ml n || decide (hm n = i)) else !cm n i)
def rv (ic ml : Nat → Bool) (hm : Nat → Nat) (i n : Nat) : Bool := !ic n || ml n || decide (hm n = i)
def bt (f : Nat → Bool) : Nat := (if f 0 then 1 else 0) + (if f 1 then 2 else 0) + (if f 2 then 4 else 0) + (if f 3 then 8 else 0)
/-- the numbers above c, up to l -/
abbrev nu (c l : Nat) : List Nat := List.range' (c + 1) (l - c)
def cpl (dn ic : Nat → Bool) (n : Nat) : Bool := dn n && ic n
/-! what holds of them -/
def JN (P l d c u : Nat) : Prop := 1 ≤ P ∧ P ≤ 4 ∧ c ≤ d ∧ d ≤ l ∧ u ≤ l ∧ (u = 0 ∨ c < u)
def JX (P l : Nat) (ic ml : Nat → Bool) (hm : Nat → Nat) (xo : Nat → DB → Oc) : Prop := ∀ n, 1 ≤ n → n ≤ l → ic n = true → hm n < P ∧ (ml n = false → sgl (nI P) (xd xo) (nI (hm n)) n ∧ ∀ s s2, agD (nI P) (nI (hm n)) s s2 → (xo n s).1 = (xo n s2).1 ∧ (xo n s).2.2.2 = (xo n s2).2.2.2)
def JQ (P l u : Nat) (ic ml : Nat → Bool) (hm : Nat → Nat) (dn : Nat → Bool) (cm : Nat → Nat → Bool) (q : Nat → List Nat) (sd mk : Nat → Bool) : Prop :=
  (∀ i, i < P → q i = (nu 0 l).filter (wt ic ml hm dn cm i)) ∧ (∀ n, 1 ≤ n → n ≤ l → ic n = false → n ≠ u → dn n = true ∨ ∀ i, i < P → cm n i = true) ∧ (u ≠ 0 → ic u = false ∧ dn u = false ∧ ∀ i, i < P → mk i = cm u i) ∧
  (∀ i, i < P → ∀ m n, 1 ≤ m → m < n → n ≤ l → wt ic ml hm dn cm i m = true → rv ic ml hm i n = true → dn n = false ∧ cm n i = false) ∧
  (∀ i, i < P → (sd i = true ↔ ∃ n, 1 ≤ n ∧ n ≤ l ∧ ic n = true ∧ ml n = true ∧ dn n = false ∧ cm n i = true)) ∧ ∀ n i, P ≤ i → cm n i = false
def JG (l c : Nat) (ic : Nat → Bool) (lg : List Nat) : Prop := lg = (nu c l).filter ic
def ocm (xo : Nat → DB → Oc) (n : Nat) (s : DB) (fA oA wA : Fn) : Prop := fA n = (xo n s).1 ∧ oA n = (xo n s).2.2.2.1 ∧ ∀ k, k < ix (oA n) → wA (4 * n + k) = (xo n s).2.2.2.2 k
def JF (l c : Nat) (ic dn : Nat → Bool) (xo : Nat → DB → Oc) (live base : DB) (fA oA wA : Fn) : Prop := live = fo (xd xo) (cpl dn ic) c base (l - c) ∧ (∀ n, 1 ≤ n → n ≤ c → ic n = true → dn n = true) ∧ ∀ n, c < n → n ≤ l → dn n = true → ic n = true → ocm xo n (fo (xd xo) (cpl dn ic) c base (n - 1 - c)) fA oA wA
def JM (P c u : Nat) (ic : Nat → Bool) (xo : Nat → DB → Oc) (cm : Nat → Nat → Bool) (base mid : DB) : Prop := u ≠ 0 → ∀ i, i < P → cm u i = true → agD (nI P) (nI i) mid (fo (xd xo) ic c base (u - 1 - c))
def JK (l d : Nat) (ic dn : Nat → Bool) (cl : Nat → Nat) (cs : Fn) (cn : Nat → Nat) (cd cc : Nat → Bool) (cf : Fn) (co : Nat → Nat) (cw : Nat → Fn) (fA oA wA : Fn) : Prop :=
  (∀ c, c < 4 → cs c = 1 → 1 ≤ cn c ∧ cn c ≤ l ∧ ic (cn c) = true ∧ cl (cn c) = c ∧ cd c = dn (cn c) ∧ ¬ (cd c = true ∧ cn c ≤ d) ∧ (cd c = true → (cc c = true ↔ fA (cn c) < 0) ∧ (cc c = false → cf c = fA (cn c)) ∧ co c ≤ 4 ∧ oA (cn c) = nI (co c) ∧ ∀ k, k < co c → cw c k = wA (4 * cn c + k))) ∧
  ∀ n, 1 ≤ n → n ≤ l → ic n = true → dn n = false → cl n < 4 ∧ cs (cl n) = 1 ∧ cn (cl n) = n
/-! the reference's arrays and numbers -/
def RN (P l d c u : Nat) (F : RF) : Prop := F 0 = nI P ∧ F 15 = nI l ∧ F 23 = nI d ∧ F 24 = nI c ∧ F 25 = nI u
def RT (live base : DB) (A : RA) : Prop := A 1 = live.1 ∧ A 2 = live.2 ∧ A 3 = base.1 ∧ A 4 = base.2 ∧ b01 (A 1) ∧ b01 (A 3) ∧ (∀ j, 40 ≤ j → A 1 j = A 3 j ∧ A 2 j = A 4 j) ∧ ∀ j, 6 ≤ j → A 32 j = 0
def RC (P l : Nat) (ic ml : Nat → Bool) (hm : Nat → Nat) (xo : Nat → DB → Oc) (A : RA) (F : RF) : Prop := ∀ n, 1 ≤ n → n ≤ l → (ic n = false → A 16 n = -1) ∧ (ic n = true → ∃ p sn, A 16 n = nI p ∧ (okP A p sn ∧ A 7 p = 1) ∧ (A 8 p = 0 ↔ ml n = false) ∧ pt (A 17 (3 * n)) (nI P) = nI (hm n) ∧ hm n < P ∧ ∀ s : DB, exn A F n p sn s.1 s.2 z0 = xo n s)
def RG (l : Nat) (dn : Nat → Bool) (cm : Nat → Nat → Bool) (A : RA) : Prop := ∀ n, 1 ≤ n → n ≤ l → A 18 n = b2 (dn n) ∧ A 19 n = nI (bt (cm n))
def RS (lf : Nat → Nat) (A : RA) : Prop := ∀ i, i < 4 → A 26 i = nI (lf i) ∧ lf i ≤ 32
def RK (cs : Fn) (cn : Nat → Nat) (cf : Fn) (co : Nat → Nat) (cw : Nat → Fn) (A : RA) : Prop := ∀ c, c < 4 → A 27 c = cs c ∧ A 28 c = nI (cn c) ∧ cn c ≤ 513 ∧ (cs c = 2 → A 29 c = nI (co c) ∧ co c ≤ 4 ∧ ∀ k, k < co c → A 30 (4 * c + k) = cw c k) ∧ (cs c = 3 → A 31 c = cf c)
/-- procedure p has statements so .. as add lets them in, sn of them -/
def pok (mul : Fn) (sn : Nat → Nat) (so sx sy sz : Nat → Fn) (p : Nat) : Prop := (mul p = 0 ∨ mul p = 1) ∧ sn p ≤ 8 ∧ ∀ k, k < sn p → okS (so p k) (sx p k) (sy p k) (sz p k)
def JP (dr : Option Nat) (dep : Nat → Bool) (mul : Fn) (sn : Nat → Nat) (so sx sy sz : Nat → Fn) : Prop := (∀ p, p < 6 → dep p = true → pok mul sn so sx sy sz p ∧ (mul p = 0 → ∀ k, k < sn p → ¬ so p k = 9)) ∧ ∀ p, dr = some p → p < 6 ∧ dep p = false ∧ pok mul sn so sx sy sz p
def RQ (dr : Option Nat) (dep : Nat → Bool) (mul : Fn) (sn : Nat → Nat) (so sx sy sz : Nat → Fn) (A : RA) (F : RF) : Prop :=
  (∀ p, p < 6 → A 7 p = b2 (dep p)) ∧ (∀ p, p < 6 → dep p = true → A 8 p = mul p ∧ A 9 p = nI (sn p) ∧ ∀ k, k < sn p → A 10 (8 * p + k) = so p k ∧ A 11 (8 * p + k) = sx p k ∧ A 12 (8 * p + k) = sy p k ∧ A 13 (8 * p + k) = sz p k) ∧
  (dr = none → F 14 = -1) ∧ ∀ p, dr = some p → F 14 = nI p ∧ A 8 6 = mul p ∧ A 9 6 = nI (sn p) ∧ ∀ k, k < sn p → A 10 (48 + k) = so p k ∧ A 11 (48 + k) = sx p k ∧ A 12 (48 + k) = sy p k ∧ A 13 (48 + k) = sz p k
/-! the class's heap -/
def St (P l d c u : Nat) (dr : Option Nat) (M : wM) : Prop := M (0, 0) = some (ob 0 [vI (nI P), vR (some (30, 0)), vR (dr.map fun p => (2, p)), vR (some (31, 0)), vR (some (32, 0)), vR (some (8, 20)), vR (some (3, 0)), vR (some (6, 2)), vI (nI c), vR (some (6, 3)), vI (nI u), vI (nI l), vI (nI d)]) ∧
  (∃ f, M (30, 0) = some (ar 4 6 f) ∧ ∀ p, p < 6 → f p = some (2, p)) ∧ (∃ f, M (31, 0) = some (ar 6 P f) ∧ ∀ i, i < P → f i = some (4, i)) ∧ (∃ f, M (32, 0) = some (ar 5 4 f) ∧ ∀ i, i < 4 → f i = some (1, i)) ∧ M (90, 0) = some eE
def Pr (dep : Nat → Bool) (mul : Fn) (sn : Nat → Nat) (so sx sy sz : Nat → Fn) (M : wM) : Prop := (∀ p, p < 6 → M (2, p) = some (ob 2 [vR (some (8, p)), vI (mul p), vI (b2 (dep p))]) ∧ ∃ xs, Lst p xs M ∧ xs.length = sn p ∧ (∀ x, x ∈ xs → ∃ j fs, x = (5, j) ∧ M (5, j) = some (ob 5 fs)) ∧ ∀ k, k < sn p → ∃ j, xs[k]? = some (5, j) ∧ M (5, j) = some (ob 5 [vI (so p k), vI (sx p k), vI (sy p k), vI (sz p k)])) ∧ ∃ j0, ∀ j, j0 ≤ j → M (5, j) = none
def Tk (P l : Nat) (dep : Nat → Bool) (mul : Fn) (sn : Nat → Nat) (so sx sy sz : Nat → Fn) (ic ml : Nat → Bool) (hm : Nat → Nat) (xo : Nat → DB → Oc) (cl : Nat → Nat) (tk : Nat → Nat) (M : wM) : Prop := (∀ n, 1 ≤ n → n ≤ l → (ic n = false → M (7, tk n) = some (ob 7 [vI (nI n), vI (-1), vR none, vI 0, vI 0, vI 0])) ∧ (ic n = true → ∃ p a b e, M (7, tk n) = some (ob 7 [vI (nI n), vI (nI (cl n)), vR (some (2, p)), vI a, vI b, vI e]) ∧ p < 6 ∧ dep p = true ∧ (mul p = 0 ↔ ml n = false) ∧ pt a (nI P) = nI (hm n) ∧ hm n < P ∧ cl n < 4 ∧ ∀ s : DB, ex (mul p) (nI P) (pt a (nI P)) (sn p) (so p) (sx p) (sy p) (sz p) a b e s.1 s.2 z0 = xo n s)) ∧ ∃ t0, ∀ t, t0 ≤ t → M (7, t) = none
abbrev tq (tk : Nat → Nat) (q : List Nat) : List Ro := q.map fun n => (7, tk n)
def Si (P : Nat) (tk : Nat → Nat) (q : Nat → List Nat) (sd mk : Nat → Bool) (lf : Nat → Nat) (M : wM) : Prop := ∀ i, i < P → M (4, i) = some (ob 4 [vR (some (8, 10 + i)), vI (b2 (sd i)), vI (b2 (mk i)), vI (nI (lf i))]) ∧ Lst (10 + i) (tq tk (q i)) M
def Cl (cs : Fn) (cn : Nat → Nat) (cd cc : Nat → Bool) (cf : Fn) (co : Nat → Nat) (cw : Nat → Fn) (M : wM) : Prop := ∀ c, c < 4 → M (1, c) = some (ob 1 [vI (cs c), vI (nI (cn c)), vI (b2 (cd c)), vI (b2 (cc c)), vI (cf c), vI (nI (co c)), vR (some (21, c))]) ∧ ∃ f, M (21, c) = some (ai 0 4 f) ∧ ∀ k, k < 4 → f k = cw c k
def Ru (P : Nat) (live base mid : DB) (M : wM) : Prop := (∃ hm g o w fl, Rn (nI P) hm g o w fl M ∧ ∀ j, 6 ≤ j → g j = 0) ∧ Tb 0 live M ∧ (∃ s, Tb 1 s M) ∧ Tb 2 base M ∧ Tb 3 mid M
