/-! ===== the cast, how many casts ===== -/
def mxs (A : sA) (x : Int32) (j : Nat) (z : Int32) : Int32 := if bt x j then (if z = -1 ∨ A 5 z.toNatClampNeg < A 5 j then nI j else z) else z
/-- the most skilled one of a set, -1: nobody -/
def mx (A : sA) (x : Int32) : Int32 := itr (mxs A x) 14 (-1)
theorem mx_or {A : sA} {x : Int32} : ∀ {n : Nat}, (itr (mxs A x) n (-1) = -1 ∧ ∀ i, i < n → bt x i = false) ∨ ∃ i, i < n ∧ itr (mxs A x) n (-1) = nI i ∧ bt x i = true
  | 0 => Or.inl ⟨rfl, fun i hi => absurd hi (by omega)⟩
  | n + 1 => by
    rw [itr]
    have ih := mx_or (A := A) (x := x) (n := n)
    cases e : bt x n
    · have e2 : mxs A x n (itr (mxs A x) n (-1)) = itr (mxs A x) n (-1) := by unfold mxs; rw [e]; rfl
      rw [e2]
      rcases ih with ⟨h1, h2⟩ | ⟨i, h1, h2, h3⟩
      · refine Or.inl ⟨h1, fun i hi => ?_⟩
        by_cases e3 : i = n
        · rw [e3]; exact e
        · exact h2 i (by omega)
      · exact Or.inr ⟨i, by omega, h2, h3⟩
    · right
      unfold mxs
      rw [e, if_pos rfl]
      split
      · exact ⟨n, by omega, rfl, e⟩
      · rename_i h
        rcases ih with ⟨h1, h2⟩ | ⟨i, h1, h2, h3⟩
        · exact absurd (Or.inl h1) h
        · exact ⟨i, by omega, h2, h3⟩
/-- sums of what some have -/
def wc (w : Nat → Nat) (p : Nat → Bool) : Nat → Nat
  | 0 => 0
  | k + 1 => wc w p k + (if p k then w k else 0)
theorem wc_congr {w : Nat → Nat} {p q : Nat → Bool} : ∀ {n : Nat}, (∀ i, i < n → p i = q i) → wc w p n = wc w q n
  | 0, _ => rfl
  | n + 1, h => by rw [wc, wc, wc_congr (fun i hi => h i (by omega)), h n (by omega)]
theorem wc_flip {w : Nat → Nat} {p q : Nat → Bool} {i : Nat} : ∀ {n : Nat}, i < n → (∀ j, j < n → j ≠ i → p j = q j) → p i = false → q i = true → wc w q n = wc w p n + w i
  | 0, h, _, _, _ => absurd h (by omega)
  | n + 1, h, h1, h2, h3 => by
    rw [wc, wc]
    by_cases e : i = n
    · subst e
      rw [wc_congr (p := q) (q := p) (fun j hj => (h1 j (by omega) (by omega)).symm), h2, h3]
      simp
    · rw [wc_flip (w := w) (p := p) (q := q) (n := n) (by omega) (fun j hj => h1 j (by omega)) h2 h3, h1 n (by omega) (by omega)]
      omega
theorem cn_wc {p : Nat → Bool} : ∀ {n : Nat}, cn p n = wc (fun _ => 1) p n
  | 0 => rfl
  | n + 1 => by rw [cn, wc, cn_wc]
theorem cn_flip {p q : Nat → Bool} {i n : Nat} (h : i < n) (h1 : ∀ j, j < n → j ≠ i → p j = q j) (h2 : p i = false) (h3 : q i = true) : cn q n = cn p n + 1 := by
  rw [cn_wc, cn_wc, wc_flip h h1 h2 h3]
theorem cn_pos {p : Nat → Bool} {n : Nat} (h : 0 < cn p n) : ∃ i, i < n ∧ p i = true := by
  apply Classical.byContradiction
  intro hn
  rw [cn_false (fun i hi => by
    cases e : p i
    · rfl
    · exact absurd ⟨i, hi, e⟩ hn)] at h
  omega
theorem wc_to {w : Nat → Nat} {p : Nat → Bool} {n : Nat} : ∀ {N : Nat}, n ≤ N → (∀ i, n ≤ i → i < N → p i = false) → wc w p N = wc w p n
  | 0, h, _ => by rw [show n = 0 by omega]
  | N + 1, h, hp => by
    by_cases e : n = N + 1
    · rw [e]
    · rw [wc, hp N (by omega) (by omega), wc_to (by omega) (fun i h1 h2 => hp i h1 (by omega))]
      rfl
theorem wc_le {w : Nat → Nat} {p : Nat → Bool} {b : Nat} : ∀ {n : Nat}, (∀ i, i < n → p i = true → w i ≤ b) → wc w p n ≤ b * n
  | 0, _ => Nat.zero_le _
  | n + 1, h => by
    have ih := wc_le (w := w) (p := p) (b := b) (n := n) (fun i hi => h i (by omega))
    have h2 := h n (by omega)
    rw [wc, Nat.mul_succ]
    cases e : p n
    · simp; omega
    · have := h2 e
      simp; omega
/-- skills together -/
def sk (A : sA) (x : Int32) : Nat := wc (A 5) (bt x) 14
def mov (A : sA) (z : Int32) : Int32 := if z = -1 then -1 else nI (A 5 z.toNatClampNeg)
theorem mov_m {A : sA} : mov A (-1) = -1 := rfl
theorem mov_n {A : sA} {i : Nat} (h : i < 2 ^ 31) : mov A (nI i) = nI (A 5 i) := by
  unfold mov
  rw [if_neg (sn_ne1 h), nI_clamp h]
theorem x_lem1' {a : Nat} (ha : a < 2 ^ 31) : (nI a ≤ -1) = False := x_lem1 ha
def pk (A : sA) (x : Int32) (r : Nat) (z : Int32 × Nat) : Int32 × Nat := (z.1 ||| bo (mx A (ab A x r 0 &&& (z.1 ^^^ -1))), z.2 + A 5 (mx A (ab A x r 0 &&& (z.1 ^^^ -1))).toNatClampNeg)
def pkr (A : sA) (x : Int32) (p k : Nat) (z : Int32 × Nat) : Int32 × Nat := itr (fun _ => pk A x (4 * p + k)) (A 6 (4 * p + k)) z
/-- ahead of the j-th choice in a row -/
def pkI (A : sA) (x : Int32) (p k j : Nat) (z : Int32 × Nat) : Prop := (∀ i, i < 14 → bt z.1 i = true → A 2 i < k ∨ bt (ab A x (4 * p + k) 0) i = true) ∧ pc (ab A x (4 * p + k) 0 &&& (z.1 ^^^ -1)) + j = pc (ab A x (4 * p + k) 0) ∧ z.2 = sk A z.1 ∧ (∀ i, A 0 0 ≤ i → bt z.1 i = false)
/-- ahead of a row -/
def pkO (A : sA) (k : Nat) (z : Int32 × Nat) : Prop := (∀ i, i < 14 → bt z.1 i = true → A 2 i < k) ∧ z.2 = sk A z.1 ∧ (∀ i, A 0 0 ≤ i → bt z.1 i = false)
theorem ab_p {A : sA} {x : Int32} {r i : Nat} (hi : i < 14) (h : bt (ab A x r 0) i = true) : i < A 0 0 ∧ A 2 i = r % 4 := by
  rw [bt_ab hi] at h
  unfold fu at h
  simp only [Bool.and_eq_true, decide_eq_true_eq] at h
  exact ⟨h.2.1.1.1, h.2.1.2⟩
section PK
variable {A : sA} {x : Int32} {p k : Nat}
theorem pk_left {z : Int32 × Nat} (hk : k < 4) (h : pkO A k z) : ab A x (4 * p + k) 0 &&& (z.1 ^^^ -1) = ab A x (4 * p + k) 0 := by
  apply b_ext14 (lo14_and lo14_ab) lo14_ab
  intro i hi
  rw [b_and, bt_not (by omega)]
  cases e : bt (ab A x (4 * p + k) 0) i
  · rfl
  · have h2 := (ab_p hi e).2
    cases e2 : bt z.1 i
    · rfl
    · have := h.1 i hi e2
      omega
theorem pkI_0 {z : Int32 × Nat} (hk : k < 4) (h : pkO A k z) : pkI A x p k 0 z := ⟨fun i hi hb => Or.inl (h.1 i hi hb), by rw [pk_left hk h]; rfl, h.2.1, h.2.2⟩
theorem pkO_s {z : Int32 × Nat} {j : Nat} (hk : k < 4) (h : pkI A x p k j z) : pkO A (k + 1) z := by
  refine ⟨fun i hi hb => ?_, h.2.2.1, h.2.2.2⟩
  rcases h.1 i hi hb with h1 | h1
  · omega
  · have := (ab_p hi h1).2
    omega
theorem pk_mx {z : Int32 × Nat} {j n : Nat} (h : pkI A x p k j z) (hj : j < n) (hn : n ≤ pc (ab A x (4 * p + k) 0)) : ∃ i, i < 14 ∧ i < A 0 0 ∧ mx A (ab A x (4 * p + k) 0 &&& (z.1 ^^^ -1)) = nI i ∧ bt (ab A x (4 * p + k) 0) i = true ∧ bt z.1 i = false := by
  have h2 := h.2.1
  obtain ⟨i, h3, h4⟩ := cn_pos (p := bt (ab A x (4 * p + k) 0 &&& (z.1 ^^^ -1))) (n := 14) (by show 0 < pc _; omega)
  rcases mx_or (A := A) (x := ab A x (4 * p + k) 0 &&& (z.1 ^^^ -1)) (n := 14) with ⟨-, h6⟩ | ⟨i, h5, h6, h7⟩
  · rw [h6 i h3] at h4; cases h4
  · rw [b_and, bt_not (by omega)] at h7
    simp only [Bool.and_eq_true, Bool.not_eq_true'] at h7
    exact ⟨i, h5, (ab_p h5 h7.1).1, h6, h7.1, h7.2⟩
theorem pkI_s {z : Int32 × Nat} {j n : Nat} (h : pkI A x p k j z) (hj : j < n) (hn : n ≤ pc (ab A x (4 * p + k) 0)) : pkI A x p k (j + 1) (pk A x (4 * p + k) z) := by
  obtain ⟨i, i1, i2, i3, i4, i5⟩ := pk_mx h hj hn
  obtain ⟨h1, h2, h3, h4⟩ := h
  have e1 : (pk A x (4 * p + k) z).1 = z.1 ||| b1 i := by unfold pk; rw [i3, bo_n (by omega)]
  have e2 : (pk A x (4 * p + k) z).2 = z.2 + A 5 i := by unfold pk; rw [i3, nI_clamp (by omega)]
  have b3 : ∀ s, s < 32 → bt (z.1 ||| b1 i) s = (bt z.1 s || decide (i = s)) := fun s hs => by rw [b_or, bt_b1 (by omega) hs]
  unfold pkI
  rw [e1, e2]
  refine ⟨fun s hs hb => ?_, ?_, ?_, fun s hs => ?_⟩
  · rw [b3 s (by omega), Bool.or_eq_true, decide_eq_true_eq] at hb
    rcases hb with hb | rfl
    · exact h1 s hs hb
    · exact Or.inr i4
  · have : pc (ab A x (4 * p + k) 0 &&& (z.1 ^^^ -1)) = pc (ab A x (4 * p + k) 0 &&& ((z.1 ||| b1 i) ^^^ -1)) + 1 := by
      unfold pc
      refine cn_flip i1 (fun s hs hne => ?_) ?_ ?_
      · rw [b_and, b_and, bt_not (by omega), bt_not (by omega), b3 s (by omega), decide_eq_false (fun q => hne q.symm), Bool.or_false]
      · rw [b_and, bt_not (by omega), b3 i (by omega), decide_eq_true rfl, Bool.or_true]
        simp
      · rw [b_and, bt_not (by omega), i4, i5]
        rfl
    omega
  · rw [h3]
    unfold sk
    refine (wc_flip i1 (fun s hs hne => ?_) i5 ?_).symm
    · rw [b3 s (by omega), decide_eq_false (fun q => hne q.symm), Bool.or_false]
    · rw [b3 i (by omega), decide_eq_true rfl, Bool.or_true]
  · by_cases h32 : s < 32
    · rw [b3 s h32, h4 s hs, decide_eq_false (by omega)]
      rfl
    · exact b_big (by omega)
end PK
section QU
variable {A : sA} {R : Nat → List Nat} {t : Nat} {C M : sm_MI}
theorem c_most (hw : wA A) (hc : cA A t C) {x : Int32} (hx : ∀ i, i < 14 → bt x i = true → i < A 0 0) : F_Choir_mostSkilled t x C = some (bo (mx A x)) := by
  have hn := hw.1
  unfold F_Choir_mostSkilled
  have lp := lp_in (fun f j z => F_Choir_mostSkilled_6 t C f x (bo z) (mov A z) j) (fun z => some (bo z)) (mxs A x) (fun j z => z = itr (mxs A x) j (-1)) 14 (-1) rfl (by omega) ?_ ?_
  · have lp : F_Choir_mostSkilled_6 t C sd_fu x (bo (-1)) (-1) 0 = _ := lp.1
    rw [bo_m] at lp
    exact lp
  · intro f z _
    show F_Choir_mostSkilled_6B t (F_Choir_mostSkilled_6 t C f) x (bo z) (mov A z) (nI 14) C = _
    unfold F_Choir_mostSkilled_6B
    simp (disch := omega) only [↓g_in, ↓g_c0, ↓g_c1, ↓reduceIte, ↓y_lt, ↓y_q1, ↓y_q2, ↓sn_q3, ↓sn_t1l, ↓sn_t1r, ↓sn_t2l, ↓sn_t2r, y_q1, y_q2, sn_q3, sn_t1l, sn_t1r, sn_t2l, sn_t2r, nI_clamp, x_leT, x_leF, x_ltT, x_ltF, x_eqT, x_eqF, x_le0T, x_le0F, x_0leT, x_lt0F, x_0ltT, x_0ltF, x_eq0T, x_eq0F, x_le1T, x_le1F, x_1leT, x_1leF, x_1ltT, x_1ltF, x_lt1T, x_lt1F, x_eq1T, x_eq1F, x_m1F, nI_add, nI_1, sn_mul, x_sub, x_sub1, sn_m1, l2, l3, l4, l5, l6, l7, l8, l9, l10, l11, l12, l13, l14, l15, l20, l30, l40, l48, l60, l64, l99, l100, l700, l999, not_true_eq_false, not_false_eq_true, x_t0, x_t1, lts1, x_10, x_1sub, eq_self, Nat.reduceSub, Nat.reduceAdd, Nat.reduceMul]
  · intro f j z hj hz
    refine ⟨by rw [itr, ← hz], ?_⟩
    show F_Choir_mostSkilled_6B t (F_Choir_mostSkilled_6 t C f) x (bo z) (mov A z) (nI j) C = F_Choir_mostSkilled_6 t C f x (bo (mxs A x j z)) (mov A (mxs A x j z)) (nI (j + 1))
    unfold F_Choir_mostSkilled_6B mxs
    cases e : bt x j
    · simp (disch := omega) only [↓g_in, ↓g_c0, ↓g_c1, ↓reduceIte, ↓y_lt, ↓y_q1, ↓y_q2, ↓sn_q3, ↓sn_t1l, ↓sn_t1r, ↓sn_t2l, ↓sn_t2r, y_q1, y_q2, sn_q3, sn_t1l, sn_t1r, sn_t2l, sn_t2r, nI_clamp, x_leT, x_leF, x_ltT, x_ltF, x_eqT, x_eqF, x_le0T, x_le0F, x_0leT, x_lt0F, x_0ltT, x_0ltF, x_eq0T, x_eq0F, x_le1T, x_le1F, x_1leT, x_1leF, x_1ltT, x_1ltF, x_lt1T, x_lt1F, x_eq1T, x_eq1F, x_m1F, nI_add, nI_1, sn_mul, x_sub, x_sub1, sn_m1, l2, l3, l4, l5, l6, l7, l8, l9, l10, l11, l12, l13, l14, l15, l20, l30, l40, l48, l60, l64, l99, l100, l700, l999, not_true_eq_false, not_false_eq_true, x_t0, x_t1, lts1, x_10, x_1sub, eq_self, Nat.reduceSub, Nat.reduceAdd, Nat.reduceMul, e, Bool.false_eq_true]
    · have hjn := hx j hj e
      obtain ⟨-, -, -, -, c5⟩ := hc.2.2.2.1 j hjn
      obtain ⟨-, -, -, -, w5⟩ := hw.2.2.2.2.1 j hjn
      rcases mx_or (A := A) (x := x) (n := j) with ⟨h1, -⟩ | ⟨i, h1, h2, h3⟩
      · rw [h1] at hz
        subst hz
        simp (disch := omega) only [↓g_in, ↓g_c0, ↓g_c1, ↓reduceIte, ↓y_lt, ↓y_q1, ↓y_q2, ↓sn_q3, ↓sn_t1l, ↓sn_t1r, ↓sn_t2l, ↓sn_t2r, y_q1, y_q2, sn_q3, sn_t1l, sn_t1r, sn_t2l, sn_t2r, nI_clamp, x_leT, x_leF, x_ltT, x_ltF, x_eqT, x_eqF, x_le0T, x_le0F, x_0leT, x_lt0F, x_0ltT, x_0ltF, x_eq0T, x_eq0F, x_le1T, x_le1F, x_1leT, x_1leF, x_1ltT, x_1ltF, x_lt1T, x_lt1F, x_eq1T, x_eq1F, x_m1F, nI_add, nI_1, sn_mul, x_sub, x_sub1, sn_m1, l2, l3, l4, l5, l6, l7, l8, l9, l10, l11, l12, l13, l14, l15, l20, l30, l40, l48, l60, l64, l99, l100, l700, l999, not_true_eq_false, not_false_eq_true, x_t0, x_t1, lts1, x_10, x_1sub, eq_self, Nat.reduceSub, Nat.reduceAdd, Nat.reduceMul, e, Bool.true_eq_false, mov_m, c5, x_lem1, true_or, bo_n, mov_n]
      · rw [h2] at hz
        subst hz
        have hin := hx i (by omega) h3
        obtain ⟨-, -, -, -, w6⟩ := hw.2.2.2.2.1 i hin
        by_cases e2 : A 5 i < A 5 j
        · simp (disch := omega) only [↓g_in, ↓g_c0, ↓g_c1, ↓reduceIte, ↓y_lt, ↓y_q1, ↓y_q2, ↓sn_q3, ↓sn_t1l, ↓sn_t1r, ↓sn_t2l, ↓sn_t2r, y_q1, y_q2, sn_q3, sn_t1l, sn_t1r, sn_t2l, sn_t2r, nI_clamp, x_leT, x_leF, x_ltT, x_ltF, x_eqT, x_eqF, x_le0T, x_le0F, x_0leT, x_lt0F, x_0ltT, x_0ltF, x_eq0T, x_eq0F, x_le1T, x_le1F, x_1leT, x_1leF, x_1ltT, x_1ltF, x_lt1T, x_lt1F, x_eq1T, x_eq1F, x_m1F, nI_add, nI_1, sn_mul, x_sub, x_sub1, sn_m1, l2, l3, l4, l5, l6, l7, l8, l9, l10, l11, l12, l13, l14, l15, l20, l30, l40, l48, l60, l64, l99, l100, l700, l999, not_true_eq_false, not_false_eq_true, x_t0, x_t1, lts1, x_10, x_1sub, eq_self, Nat.reduceSub, Nat.reduceAdd, Nat.reduceMul, e, Bool.true_eq_false, c5, bo_n, mov_n, e2, or_true]
        · simp (disch := omega) only [↓g_in, ↓g_c0, ↓g_c1, ↓reduceIte, ↓y_lt, ↓y_q1, ↓y_q2, ↓sn_q3, ↓sn_t1l, ↓sn_t1r, ↓sn_t2l, ↓sn_t2r, y_q1, y_q2, sn_q3, sn_t1l, sn_t1r, sn_t2l, sn_t2r, nI_clamp, x_leT, x_leF, x_ltT, x_ltF, x_eqT, x_eqF, x_le0T, x_le0F, x_0leT, x_lt0F, x_0ltT, x_0ltF, x_eq0T, x_eq0F, x_le1T, x_le1F, x_1leT, x_1leF, x_1ltT, x_1ltF, x_lt1T, x_lt1F, x_eq1T, x_eq1F, x_m1F, nI_add, nI_1, sn_mul, x_sub, x_sub1, sn_m1, l2, l3, l4, l5, l6, l7, l8, l9, l10, l11, l12, l13, l14, l15, l20, l30, l40, l48, l60, l64, l99, l100, l700, l999, not_true_eq_false, not_false_eq_true, x_t0, x_t1, lts1, x_10, x_1sub, eq_self, Nat.reduceSub, Nat.reduceAdd, Nat.reduceMul, e, Bool.true_eq_false, c5, bo_n, mov_n, e2, or_self]
theorem c_skills (hw : wA A) (hc : cA A t C) {x : Int32} (hx : ∀ i, A 0 0 ≤ i → bt x i = false) : F_Valley_skillsOf t x C = some (nI (sk A x)) := by
  have hn := hw.1
  unfold F_Valley_skillsOf
  have key : ∀ n, itr (fun j (z : Nat) => if bt x j then z + A 5 j else z) n 0 = wc (A 5) (bt x) n := by
    intro n
    induction n with
    | zero => rfl
    | succ n ih =>
      rw [itr, wc, ih]
      cases bt x n <;> rfl
  have lp := lp_in (fun f j z => F_Valley_skillsOf_4 t C f x (nI z) j) (fun z => some (nI z)) (fun j (z : Nat) => if bt x j then z + A 5 j else z) (fun _ _ => True) 14 0 trivial (by omega) ?_ ?_
  · rw [key] at lp
    exact lp.1
  · intro f z _
    show F_Valley_skillsOf_4B t (F_Valley_skillsOf_4 t C f) x (nI z) (nI 14) C = _
    unfold F_Valley_skillsOf_4B
    simp (disch := omega) only [↓g_in, ↓g_c0, ↓g_c1, ↓reduceIte, ↓y_lt, ↓y_q1, ↓y_q2, ↓sn_q3, ↓sn_t1l, ↓sn_t1r, ↓sn_t2l, ↓sn_t2r, y_q1, y_q2, sn_q3, sn_t1l, sn_t1r, sn_t2l, sn_t2r, nI_clamp, x_leT, x_leF, x_ltT, x_ltF, x_eqT, x_eqF, x_le0T, x_le0F, x_0leT, x_lt0F, x_0ltT, x_0ltF, x_eq0T, x_eq0F, x_le1T, x_le1F, x_1leT, x_1leF, x_1ltT, x_1ltF, x_lt1T, x_lt1F, x_eq1T, x_eq1F, x_m1F, nI_add, nI_1, sn_mul, x_sub, x_sub1, sn_m1, l2, l3, l4, l5, l6, l7, l8, l9, l10, l11, l12, l13, l14, l15, l20, l30, l40, l48, l60, l64, l99, l100, l700, l999, not_true_eq_false, not_false_eq_true, x_t0, x_t1, lts1, x_10, x_1sub, eq_self, Nat.reduceSub, Nat.reduceAdd, Nat.reduceMul]
  · intro f j z hj _
    refine ⟨trivial, ?_⟩
    show F_Valley_skillsOf_4B t (F_Valley_skillsOf_4 t C f) x (nI z) (nI j) C = F_Valley_skillsOf_4 t C f x (nI (if bt x j then z + A 5 j else z)) (nI (j + 1))
    unfold F_Valley_skillsOf_4B
    cases e : bt x j
    · simp (disch := omega) only [↓g_in, ↓g_c0, ↓g_c1, ↓reduceIte, ↓y_lt, ↓y_q1, ↓y_q2, ↓sn_q3, ↓sn_t1l, ↓sn_t1r, ↓sn_t2l, ↓sn_t2r, y_q1, y_q2, sn_q3, sn_t1l, sn_t1r, sn_t2l, sn_t2r, nI_clamp, x_leT, x_leF, x_ltT, x_ltF, x_eqT, x_eqF, x_le0T, x_le0F, x_0leT, x_lt0F, x_0ltT, x_0ltF, x_eq0T, x_eq0F, x_le1T, x_le1F, x_1leT, x_1leF, x_1ltT, x_1ltF, x_lt1T, x_lt1F, x_eq1T, x_eq1F, x_m1F, nI_add, nI_1, sn_mul, x_sub, x_sub1, sn_m1, l2, l3, l4, l5, l6, l7, l8, l9, l10, l11, l12, l13, l14, l15, l20, l30, l40, l48, l60, l64, l99, l100, l700, l999, not_true_eq_false, not_false_eq_true, x_t0, x_t1, lts1, x_10, x_1sub, eq_self, Nat.reduceSub, Nat.reduceAdd, Nat.reduceMul, e, Bool.false_eq_true]
    · have hjn : j < A 0 0 := by
        apply Classical.byContradiction
        intro h
        rw [hx j (by omega)] at e
        cases e
      obtain ⟨-, -, -, -, c5⟩ := hc.2.2.2.1 j hjn
      simp (disch := omega) only [↓g_in, ↓g_c0, ↓g_c1, ↓reduceIte, ↓y_lt, ↓y_q1, ↓y_q2, ↓sn_q3, ↓sn_t1l, ↓sn_t1r, ↓sn_t2l, ↓sn_t2r, y_q1, y_q2, sn_q3, sn_t1l, sn_t1r, sn_t2l, sn_t2r, nI_clamp, x_leT, x_leF, x_ltT, x_ltF, x_eqT, x_eqF, x_le0T, x_le0F, x_0leT, x_lt0F, x_0ltT, x_0ltF, x_eq0T, x_eq0F, x_le1T, x_le1F, x_1leT, x_1leF, x_1ltT, x_1ltF, x_lt1T, x_lt1F, x_eq1T, x_eq1F, x_m1F, nI_add, nI_1, sn_mul, x_sub, x_sub1, sn_m1, l2, l3, l4, l5, l6, l7, l8, l9, l10, l11, l12, l13, l14, l15, l20, l30, l40, l48, l60, l64, l99, l100, l700, l999, not_true_eq_false, not_false_eq_true, x_t0, x_t1, lts1, x_10, x_1sub, eq_self, Nat.reduceSub, Nat.reduceAdd, Nat.reduceMul, e, Bool.true_eq_false, c5]
theorem cs_need {x : Int32} {p k : Nat} (hcs : cs A x p 0 = true) (hk : k < 4) : A 6 (4 * p + k) ≤ pc (ab A x (4 * p + k) 0) := by
  unfold cs at hcs
  rw [Bool.and_eq_true] at hcs
  have := al_iff.mp hcs.2 (4 * p + k) (by omega) (by omega)
  rwa [decide_eq_true_eq] at this
theorem pkO_0 : pkO A 0 (0, 0) := by
  refine ⟨fun i _ hb => ?_, ?_, fun i _ => b_0 i⟩
  · rw [b_0] at hb; cases hb
  · show 0 = sk A 0
    unfold sk
    rw [wc_to (n := 0) (by omega) (fun i _ _ => b_0 i)]
    rfl
theorem pkO_4 {x : Int32} {p : Nat} (hcs : cs A x p 0 = true) : ∀ {k : Nat}, k ≤ 4 → pkO A k (itr (pkr A x p) k (0, 0))
  | 0, _ => pkO_0
  | k + 1, hk => by
    have ih := pkO_4 (x := x) (p := p) hcs (k := k) (by omega)
    rw [itr]
    have key : ∀ j, j ≤ A 6 (4 * p + k) → pkI A x p k j (itr (fun _ => pk A x (4 * p + k)) j (itr (pkr A x p) k (0, 0))) := by
      intro j
      induction j with
      | zero => intro _; exact pkI_0 (by omega) ih
      | succ j ih2 => intro hj; rw [itr]; exact pkI_s (ih2 (by omega)) (by omega) (cs_need hcs (by omega))
    exact pkO_s (by omega) (key _ (Nat.le_refl _))
theorem c_bestCast (hw : wA A) (hc : cA A t C) {x : Int32} {p : Nat} (hp : p < 5) (hcs : cs A x p 0 = true) : F_Choir_bestCast t x (nI p) C = some (itr (pkr A x p) 4 (0, 0)).1 := by
  have hn := hw.1
  unfold F_Choir_bestCast
  have lp := lp_in (fun f j (z : Int32 × Nat) => F_Choir_bestCast_4 t C f x (nI p) z.1 j) (fun z => some z.1) (pkr A x p) (fun _ _ => True) 4 (0, 0) trivial (by omega) ?_ ?_
  · exact lp.1
  · intro f z _
    show F_Choir_bestCast_4B t (F_Choir_bestCast_4 t C f) x (nI p) z.1 (nI 4) C = _
    unfold F_Choir_bestCast_4B
    simp (disch := omega) only [↓g_in, ↓g_c0, ↓g_c1, ↓reduceIte, ↓y_lt, ↓y_q1, ↓y_q2, ↓sn_q3, ↓sn_t1l, ↓sn_t1r, ↓sn_t2l, ↓sn_t2r, y_q1, y_q2, sn_q3, sn_t1l, sn_t1r, sn_t2l, sn_t2r, nI_clamp, x_leT, x_leF, x_ltT, x_ltF, x_eqT, x_eqF, x_le0T, x_le0F, x_0leT, x_lt0F, x_0ltT, x_0ltF, x_eq0T, x_eq0F, x_le1T, x_le1F, x_1leT, x_1leF, x_1ltT, x_1ltF, x_lt1T, x_lt1F, x_eq1T, x_eq1F, x_m1F, nI_add, nI_1, sn_mul, x_sub, x_sub1, sn_m1, l2, l3, l4, l5, l6, l7, l8, l9, l10, l11, l12, l13, l14, l15, l20, l30, l40, l48, l60, l64, l99, l100, l700, l999, not_true_eq_false, not_false_eq_true, x_t0, x_t1, lts1, x_10, x_1sub, eq_self, Nat.reduceSub, Nat.reduceAdd, Nat.reduceMul]
  · intro f k z hk _
    refine ⟨trivial, ?_⟩
    have hr : 4 * p + k < 20 := by omega
    have q1 := (hc.2.2.2.2.1 (4 * p + k) hr).1
    have w4 := (hw.2.2.2.2.2 (4 * p + k) hr).1
    show F_Choir_bestCast_4B t (F_Choir_bestCast_4 t C f) x (nI p) z.1 (nI k) C = F_Choir_bestCast_4 t C f x (nI p) (pkr A x p k z).1 (nI (k + 1))
    unfold F_Choir_bestCast_4B
    simp (disch := omega) only [↓g_in, ↓g_c0, ↓g_c1, ↓reduceIte, ↓y_lt, ↓y_q1, ↓y_q2, ↓sn_q3, ↓sn_t1l, ↓sn_t1r, ↓sn_t2l, ↓sn_t2r, y_q1, y_q2, sn_q3, sn_t1l, sn_t1r, sn_t2l, sn_t2r, nI_clamp, x_leT, x_leF, x_ltT, x_ltF, x_eqT, x_eqF, x_le0T, x_le0F, x_0leT, x_lt0F, x_0ltT, x_0ltF, x_eq0T, x_eq0F, x_le1T, x_le1F, x_1leT, x_1leF, x_1ltT, x_1ltF, x_lt1T, x_lt1F, x_eq1T, x_eq1F, x_m1F, nI_add, nI_1, sn_mul, x_sub, x_sub1, sn_m1, l2, l3, l4, l5, l6, l7, l8, l9, l10, l11, l12, l13, l14, l15, l20, l30, l40, l48, l60, l64, l99, l100, l700, l999, not_true_eq_false, not_false_eq_true, x_t0, x_t1, lts1, x_10, x_1sub, eq_self, Nat.reduceSub, Nat.reduceAdd, Nat.reduceMul, Nat.mul_comm p 4]
    have lq := lp_in (fun g j (z : Int32 × Nat) => F_Choir_bestCast_15 t (F_Choir_bestCast_4 t C f) C g x (nI p) z.1 (nI k) (nI (4 * p + k)) j) (fun z => F_Choir_bestCast_4 t C f x (nI p) z.1 (nI (k + 1))) (fun _ => pk A x (4 * p + k)) (fun _ _ => True) (A 6 (4 * p + k)) z trivial (by omega) ?_ ?_
    · exact lq.1
    · intro g z _
      show F_Choir_bestCast_15B t (F_Choir_bestCast_4 t C f) (F_Choir_bestCast_15 t (F_Choir_bestCast_4 t C f) C g) x (nI p) z.1 (nI k) (nI (4 * p + k)) (nI (A 6 (4 * p + k))) C = _
      unfold F_Choir_bestCast_15B
      simp (disch := omega) only [↓g_in, ↓g_c0, ↓g_c1, ↓reduceIte, ↓y_lt, ↓y_q1, ↓y_q2, ↓sn_q3, ↓sn_t1l, ↓sn_t1r, ↓sn_t2l, ↓sn_t2r, y_q1, y_q2, sn_q3, sn_t1l, sn_t1r, sn_t2l, sn_t2r, nI_clamp, x_leT, x_leF, x_ltT, x_ltF, x_eqT, x_eqF, x_le0T, x_le0F, x_0leT, x_lt0F, x_0ltT, x_0ltF, x_eq0T, x_eq0F, x_le1T, x_le1F, x_1leT, x_1leF, x_1ltT, x_1ltF, x_lt1T, x_lt1F, x_eq1T, x_eq1F, x_m1F, nI_add, nI_1, sn_mul, x_sub, x_sub1, sn_m1, l2, l3, l4, l5, l6, l7, l8, l9, l10, l11, l12, l13, l14, l15, l20, l30, l40, l48, l60, l64, l99, l100, l700, l999, not_true_eq_false, not_false_eq_true, x_t0, x_t1, lts1, x_10, x_1sub, eq_self, Nat.reduceSub, Nat.reduceAdd, Nat.reduceMul, q1]
    · intro g j z hj _
      refine ⟨trivial, ?_⟩
      show F_Choir_bestCast_15B t (F_Choir_bestCast_4 t C f) (F_Choir_bestCast_15 t (F_Choir_bestCast_4 t C f) C g) x (nI p) z.1 (nI k) (nI (4 * p + k)) (nI j) C = F_Choir_bestCast_15 t (F_Choir_bestCast_4 t C f) C g x (nI p) (pk A x (4 * p + k) z).1 (nI k) (nI (4 * p + k)) (nI (j + 1))
      unfold F_Choir_bestCast_15B pk
      have em := c_most (x := ab A x (4 * p + k) 0 &&& (z.1 ^^^ -1)) hw hc (fun i hi hb => by rw [b_and, Bool.and_eq_true] at hb; exact (ab_p hi hb.1).1)
      simp (disch := omega) only [↓g_in, ↓g_c0, ↓g_c1, ↓reduceIte, ↓y_lt, ↓y_q1, ↓y_q2, ↓sn_q3, ↓sn_t1l, ↓sn_t1r, ↓sn_t2l, ↓sn_t2r, y_q1, y_q2, sn_q3, sn_t1l, sn_t1r, sn_t2l, sn_t2r, nI_clamp, x_leT, x_leF, x_ltT, x_ltF, x_eqT, x_eqF, x_le0T, x_le0F, x_0leT, x_lt0F, x_0ltT, x_0ltF, x_eq0T, x_eq0F, x_le1T, x_le1F, x_1leT, x_1leF, x_1ltT, x_1ltF, x_lt1T, x_lt1F, x_eq1T, x_eq1F, x_m1F, nI_add, nI_1, sn_mul, x_sub, x_sub1, sn_m1, l2, l3, l4, l5, l6, l7, l8, l9, l10, l11, l12, l13, l14, l15, l20, l30, l40, l48, l60, l64, l99, l100, l700, l999, not_true_eq_false, not_false_eq_true, x_t0, x_t1, lts1, x_10, x_1sub, eq_self, Nat.reduceSub, Nat.reduceAdd, Nat.reduceMul, q1, ab_fit hc hr, em]
theorem q_cast (h : Rel A R t C M) (x y : Int32) : ∃ r, F_VM_cast t x y C = some r ∧ mq (F_Mo_cast x y M) M (cv r) := by
  obtain ⟨M1, hM1, h0, h, hs⟩ := h.start
  have hw := h.wa
  have hc := h.ca
  have hm := h.ma
  have hst := h.st
  have hn := hw.1
  have h5 := hw.2.1
  unfold F_VM_cast F_Mo_cast
  rw [hM1]
  rcases ix_or x (n := A 0 1) (by omega) with hx | ⟨p, hp, rfl⟩
  · refine ⟨.inr 1, by rw [c_chP0 hw hc hx]; rfl, mq_t hs (v := 0) ?_⟩
    simp (disch := omega) only [↓g_in, ↓g_c0, ↓g_c1, ↓reduceIte, ↓y_lt, ↓y_q1, ↓y_q2, ↓sn_q3, ↓sn_t1l, ↓sn_t1r, ↓sn_t2l, ↓sn_t2r, y_q1, y_q2, sn_q3, sn_t1l, sn_t1r, sn_t2l, sn_t2r, nI_clamp, x_leT, x_leF, x_ltT, x_ltF, x_eqT, x_eqF, x_le0T, x_le0F, x_0leT, x_lt0F, x_0ltT, x_0ltF, x_eq0T, x_eq0F, x_le1T, x_le1F, x_1leT, x_1leF, x_1ltT, x_1ltF, x_lt1T, x_lt1F, x_eq1T, x_eq1F, x_m1F, nI_add, nI_1, sn_mul, x_sub, x_sub1, sn_m1, l2, l3, l4, l5, l6, l7, l8, l9, l10, l11, l12, l13, l14, l15, l20, l30, l40, l48, l60, l64, l99, l100, l700, l999, not_true_eq_false, not_false_eq_true, x_t0, x_t1, lts1, x_10, x_1sub, eq_self, Nat.reduceSub, Nat.reduceAdd, Nat.reduceMul, ↓q2_of (m_isP0 hw hm h0 hx)]
  · rcases ix_or y (n := 2) (by omega) with hy | ⟨w, hk, rfl⟩
    · refine ⟨.inr 1, ?_, mq_t hs (v := 0) ?_⟩
      · rcases hy with hy | hy
        · simp (disch := omega) only [↓g_in, ↓g_c0, ↓g_c1, ↓reduceIte, ↓y_lt, ↓y_q1, ↓y_q2, ↓sn_q3, ↓sn_t1l, ↓sn_t1r, ↓sn_t2l, ↓sn_t2r, y_q1, y_q2, sn_q3, sn_t1l, sn_t1r, sn_t2l, sn_t2r, nI_clamp, x_leT, x_leF, x_ltT, x_ltF, x_eqT, x_eqF, x_le0T, x_le0F, x_0leT, x_lt0F, x_0ltT, x_0ltF, x_eq0T, x_eq0F, x_le1T, x_le1F, x_1leT, x_1leF, x_1ltT, x_1ltF, x_lt1T, x_lt1F, x_eq1T, x_eq1F, x_m1F, nI_add, nI_1, sn_mul, x_sub, x_sub1, sn_m1, l2, l3, l4, l5, l6, l7, l8, l9, l10, l11, l12, l13, l14, l15, l20, l30, l40, l48, l60, l64, l99, l100, l700, l999, not_true_eq_false, not_false_eq_true, x_t0, x_t1, lts1, x_10, x_1sub, eq_self, Nat.reduceSub, Nat.reduceAdd, Nat.reduceMul, ↓t1_of (c_chP1 hw hc hp), hy]
        · have e1 := ix_lt hy (by omega)
          have e2 : ¬ y ≤ 1 := ix_99 (n := 1) hy (by omega)
          simp (disch := omega) only [↓g_in, ↓g_c0, ↓g_c1, ↓reduceIte, ↓y_lt, ↓y_q1, ↓y_q2, ↓sn_q3, ↓sn_t1l, ↓sn_t1r, ↓sn_t2l, ↓sn_t2r, y_q1, y_q2, sn_q3, sn_t1l, sn_t1r, sn_t2l, sn_t2r, nI_clamp, x_leT, x_leF, x_ltT, x_ltF, x_eqT, x_eqF, x_le0T, x_le0F, x_0leT, x_lt0F, x_0ltT, x_0ltF, x_eq0T, x_eq0F, x_le1T, x_le1F, x_1leT, x_1leF, x_1ltT, x_1ltF, x_lt1T, x_lt1F, x_eq1T, x_eq1F, x_m1F, nI_add, nI_1, sn_mul, x_sub, x_sub1, sn_m1, l2, l3, l4, l5, l6, l7, l8, l9, l10, l11, l12, l13, l14, l15, l20, l30, l40, l48, l60, l64, l99, l100, l700, l999, not_true_eq_false, not_false_eq_true, x_t0, x_t1, lts1, x_10, x_1sub, eq_self, Nat.reduceSub, Nat.reduceAdd, Nat.reduceMul, ↓t1_of (c_chP1 hw hc hp), e1, e2]
      · simp (disch := omega) only [↓g_in, ↓g_c0, ↓g_c1, ↓reduceIte, ↓y_lt, ↓y_q1, ↓y_q2, ↓sn_q3, ↓sn_t1l, ↓sn_t1r, ↓sn_t2l, ↓sn_t2r, y_q1, y_q2, sn_q3, sn_t1l, sn_t1r, sn_t2l, sn_t2r, nI_clamp, x_leT, x_leF, x_ltT, x_ltF, x_eqT, x_eqF, x_le0T, x_le0F, x_0leT, x_lt0F, x_0ltT, x_0ltF, x_eq0T, x_eq0F, x_le1T, x_le1F, x_1leT, x_1leF, x_1ltT, x_1ltF, x_lt1T, x_lt1F, x_eq1T, x_eq1F, x_m1F, nI_add, nI_1, sn_mul, x_sub, x_sub1, sn_m1, l2, l3, l4, l5, l6, l7, l8, l9, l10, l11, l12, l13, l14, l15, l20, l30, l40, l48, l60, l64, l99, l100, l700, l999, not_true_eq_false, not_false_eq_true, x_t0, x_t1, lts1, x_10, x_1sub, eq_self, Nat.reduceSub, Nat.reduceAdd, Nat.reduceMul, ↓q2_of (m_isP1 hw hm h0 hp), ↓q2_of (m_isW0 (y := 1) (n := 1) h0 hy (by omega) rfl)]
    · have ec := c_canBeSung (p := p) (x := C 9 0) hw hc (by omega)
      have em := mo_canBeSung (p := p) (x := C 9 0) (u := 0) hw hm (by omega) (by decide)
      have em : F_Mo_canBeSung (C 9 0) (nI p) 0 M1 = some (if cs A (C 9 0) p 0 = true then 1 else 0) := em
      cases hcs : cs A (C 9 0) p 0
      · rw [hcs] at ec em
        refine ⟨.inl (-1), ?_, mq_v (M' := M1) ?_ h0 hs⟩
        · simp (disch := omega) only [↓g_in, ↓g_c0, ↓g_c1, ↓reduceIte, ↓y_lt, ↓y_q1, ↓y_q2, ↓sn_q3, ↓sn_t1l, ↓sn_t1r, ↓sn_t2l, ↓sn_t2r, y_q1, y_q2, sn_q3, sn_t1l, sn_t1r, sn_t2l, sn_t2r, nI_clamp, x_leT, x_leF, x_ltT, x_ltF, x_eqT, x_eqF, x_le0T, x_le0F, x_0leT, x_lt0F, x_0ltT, x_0ltF, x_eq0T, x_eq0F, x_le1T, x_le1F, x_1leT, x_1leF, x_1ltT, x_1ltF, x_lt1T, x_lt1F, x_eq1T, x_eq1F, x_m1F, nI_add, nI_1, sn_mul, x_sub, x_sub1, sn_m1, l2, l3, l4, l5, l6, l7, l8, l9, l10, l11, l12, l13, l14, l15, l20, l30, l40, l48, l60, l64, l99, l100, l700, l999, not_true_eq_false, not_false_eq_true, x_t0, x_t1, lts1, x_10, x_1sub, eq_self, Nat.reduceSub, Nat.reduceAdd, Nat.reduceMul, ↓t1_of (c_chP1 hw hc hp), ↓q1_of ec, Bool.false_eq_true]
        · simp (disch := omega) only [↓g_in, ↓g_c0, ↓g_c1, ↓reduceIte, ↓y_lt, ↓y_q1, ↓y_q2, ↓sn_q3, ↓sn_t1l, ↓sn_t1r, ↓sn_t2l, ↓sn_t2r, y_q1, y_q2, sn_q3, sn_t1l, sn_t1r, sn_t2l, sn_t2r, nI_clamp, x_leT, x_leF, x_ltT, x_ltF, x_eqT, x_eqF, x_le0T, x_le0F, x_0leT, x_lt0F, x_0ltT, x_0ltF, x_eq0T, x_eq0F, x_le1T, x_le1F, x_1leT, x_1leF, x_1ltT, x_1ltF, x_lt1T, x_lt1F, x_eq1T, x_eq1F, x_m1F, nI_add, nI_1, sn_mul, x_sub, x_sub1, sn_m1, l2, l3, l4, l5, l6, l7, l8, l9, l10, l11, l12, l13, l14, l15, l20, l30, l40, l48, l60, l64, l99, l100, l700, l999, not_true_eq_false, not_false_eq_true, x_t0, x_t1, lts1, x_10, x_1sub, eq_self, Nat.reduceSub, Nat.reduceAdd, Nat.reduceMul, ↓q2_of (m_isP1 hw hm h0 hp), ↓q2_of (m_isW1 (y := 1) (n := 1) h0 hk (by omega) rfl), ↓q1_of (mo_so0 hw hm hst), ↓q1_of em, Bool.false_eq_true]
      · rw [hcs] at ec em
        have hO := pkO_4 (k := 4) hcs (by omega)
        have lp := lp_in (fun f j (z : Int32 × Nat) => F_Mo_cast_36 f (nI p) (nI w) (C 9 0) z.1 (nI z.2) (nI (4 * p) + j) M1) (fun z => if w = 0 then some (z.1, M1) else some (nI z.2, M1)) (pkr A (C 9 0) p) (fun k z => pkO A k z) 4 (0, 0) pkO_0 (by omega) ?_ ?_
        · have lp := lp.1
          simp only [nI_add, Nat.add_zero] at lp
          have lp : F_Mo_cast_36 sd_fu (nI p) (nI w) (C 9 0) 0 0 (nI (4 * p)) M1 = _ := lp
          have e3 : sk A (itr (pkr A (C 9 0) p) 4 (0, 0)).1 = (itr (pkr A (C 9 0) p) 4 (0, 0)).2 := hO.2.1.symm
          by_cases hw0 : w = 0
          · subst hw0
            refine ⟨.inl (itr (pkr A (C 9 0) p) 4 (0, 0)).1, ?_, mq_v (M' := M1) ?_ h0 hs⟩
            · simp (disch := omega) only [↓g_in, ↓g_c0, ↓g_c1, ↓reduceIte, ↓y_lt, ↓y_q1, ↓y_q2, ↓sn_q3, ↓sn_t1l, ↓sn_t1r, ↓sn_t2l, ↓sn_t2r, y_q1, y_q2, sn_q3, sn_t1l, sn_t1r, sn_t2l, sn_t2r, nI_clamp, x_leT, x_leF, x_ltT, x_ltF, x_eqT, x_eqF, x_le0T, x_le0F, x_0leT, x_lt0F, x_0ltT, x_0ltF, x_eq0T, x_eq0F, x_le1T, x_le1F, x_1leT, x_1leF, x_1ltT, x_1ltF, x_lt1T, x_lt1F, x_eq1T, x_eq1F, x_m1F, nI_add, nI_1, sn_mul, x_sub, x_sub1, sn_m1, l2, l3, l4, l5, l6, l7, l8, l9, l10, l11, l12, l13, l14, l15, l20, l30, l40, l48, l60, l64, l99, l100, l700, l999, not_true_eq_false, not_false_eq_true, x_t0, x_t1, lts1, x_10, x_1sub, eq_self, Nat.reduceSub, Nat.reduceAdd, Nat.reduceMul, ↓t1_of (c_chP1 hw hc hp), ↓q1_of ec, c_bestCast hw hc (show p < 5 by omega) hcs]
            · simp (disch := omega) only [↓g_in, ↓g_c0, ↓g_c1, ↓reduceIte, ↓y_lt, ↓y_q1, ↓y_q2, ↓sn_q3, ↓sn_t1l, ↓sn_t1r, ↓sn_t2l, ↓sn_t2r, y_q1, y_q2, sn_q3, sn_t1l, sn_t1r, sn_t2l, sn_t2r, nI_clamp, x_leT, x_leF, x_ltT, x_ltF, x_eqT, x_eqF, x_le0T, x_le0F, x_0leT, x_lt0F, x_0ltT, x_0ltF, x_eq0T, x_eq0F, x_le1T, x_le1F, x_1leT, x_1leF, x_1ltT, x_1ltF, x_lt1T, x_lt1F, x_eq1T, x_eq1F, x_m1F, nI_add, nI_1, sn_mul, x_sub, x_sub1, sn_m1, l2, l3, l4, l5, l6, l7, l8, l9, l10, l11, l12, l13, l14, l15, l20, l30, l40, l48, l60, l64, l99, l100, l700, l999, not_true_eq_false, not_false_eq_true, x_t0, x_t1, lts1, x_10, x_1sub, eq_self, Nat.reduceSub, Nat.reduceAdd, Nat.reduceMul, ↓q2_of (m_isP1 hw hm h0 hp), ↓q2_of (m_isW1 (y := 1) (n := 1) h0 hk (by omega) rfl), ↓q1_of (mo_so0 hw hm hst), ↓q1_of em]
              exact lp
          · refine ⟨.inl (nI (itr (pkr A (C 9 0) p) 4 (0, 0)).2), ?_, mq_v (M' := M1) ?_ h0 hs⟩
            · simp (disch := omega) only [↓g_in, ↓g_c0, ↓g_c1, ↓reduceIte, ↓y_lt, ↓y_q1, ↓y_q2, ↓sn_q3, ↓sn_t1l, ↓sn_t1r, ↓sn_t2l, ↓sn_t2r, y_q1, y_q2, sn_q3, sn_t1l, sn_t1r, sn_t2l, sn_t2r, nI_clamp, x_leT, x_leF, x_ltT, x_ltF, x_eqT, x_eqF, x_le0T, x_le0F, x_0leT, x_lt0F, x_0ltT, x_0ltF, x_eq0T, x_eq0F, x_le1T, x_le1F, x_1leT, x_1leF, x_1ltT, x_1ltF, x_lt1T, x_lt1F, x_eq1T, x_eq1F, x_m1F, nI_add, nI_1, sn_mul, x_sub, x_sub1, sn_m1, l2, l3, l4, l5, l6, l7, l8, l9, l10, l11, l12, l13, l14, l15, l20, l30, l40, l48, l60, l64, l99, l100, l700, l999, not_true_eq_false, not_false_eq_true, x_t0, x_t1, lts1, x_10, x_1sub, eq_self, Nat.reduceSub, Nat.reduceAdd, Nat.reduceMul, ↓t1_of (c_chP1 hw hc hp), ↓q1_of ec, c_bestCast hw hc (show p < 5 by omega) hcs, c_skills hw hc hO.2.2, e3]
            · rw [if_neg hw0] at lp
              simp (disch := omega) only [↓g_in, ↓g_c0, ↓g_c1, ↓reduceIte, ↓y_lt, ↓y_q1, ↓y_q2, ↓sn_q3, ↓sn_t1l, ↓sn_t1r, ↓sn_t2l, ↓sn_t2r, y_q1, y_q2, sn_q3, sn_t1l, sn_t1r, sn_t2l, sn_t2r, nI_clamp, x_leT, x_leF, x_ltT, x_ltF, x_eqT, x_eqF, x_le0T, x_le0F, x_0leT, x_lt0F, x_0ltT, x_0ltF, x_eq0T, x_eq0F, x_le1T, x_le1F, x_1leT, x_1leF, x_1ltT, x_1ltF, x_lt1T, x_lt1F, x_eq1T, x_eq1F, x_m1F, nI_add, nI_1, sn_mul, x_sub, x_sub1, sn_m1, l2, l3, l4, l5, l6, l7, l8, l9, l10, l11, l12, l13, l14, l15, l20, l30, l40, l48, l60, l64, l99, l100, l700, l999, not_true_eq_false, not_false_eq_true, x_t0, x_t1, lts1, x_10, x_1sub, eq_self, Nat.reduceSub, Nat.reduceAdd, Nat.reduceMul, ↓q2_of (m_isP1 hw hm h0 hp), ↓q2_of (m_isW1 (y := 1) (n := 1) h0 hk (by omega) rfl), ↓q1_of (mo_so0 hw hm hst), ↓q1_of em]
              exact lp
        · intro f z _
          show F_Mo_cast_36B (F_Mo_cast_36 f) (nI p) (nI w) (C 9 0) z.1 (nI z.2) (nI (4 * p) + nI 4) M1 = _
          unfold F_Mo_cast_36B
          by_cases hw0 : w = 0
          · simp (disch := omega) only [↓g_in, ↓g_c0, ↓g_c1, ↓reduceIte, ↓y_lt, ↓y_q1, ↓y_q2, ↓sn_q3, ↓sn_t1l, ↓sn_t1r, ↓sn_t2l, ↓sn_t2r, y_q1, y_q2, sn_q3, sn_t1l, sn_t1r, sn_t2l, sn_t2r, nI_clamp, x_leT, x_leF, x_ltT, x_ltF, x_eqT, x_eqF, x_le0T, x_le0F, x_0leT, x_lt0F, x_0ltT, x_0ltF, x_eq0T, x_eq0F, x_le1T, x_le1F, x_1leT, x_1leF, x_1ltT, x_1ltF, x_lt1T, x_lt1F, x_eq1T, x_eq1F, x_m1F, nI_add, nI_1, sn_mul, x_sub, x_sub1, sn_m1, l2, l3, l4, l5, l6, l7, l8, l9, l10, l11, l12, l13, l14, l15, l20, l30, l40, l48, l60, l64, l99, l100, l700, l999, not_true_eq_false, not_false_eq_true, x_t0, x_t1, lts1, x_10, x_1sub, eq_self, Nat.reduceSub, Nat.reduceAdd, Nat.reduceMul, hw0]
          · simp (disch := omega) only [↓g_in, ↓g_c0, ↓g_c1, ↓reduceIte, ↓y_lt, ↓y_q1, ↓y_q2, ↓sn_q3, ↓sn_t1l, ↓sn_t1r, ↓sn_t2l, ↓sn_t2r, y_q1, y_q2, sn_q3, sn_t1l, sn_t1r, sn_t2l, sn_t2r, nI_clamp, x_leT, x_leF, x_ltT, x_ltF, x_eqT, x_eqF, x_le0T, x_le0F, x_0leT, x_lt0F, x_0ltT, x_0ltF, x_eq0T, x_eq0F, x_le1T, x_le1F, x_1leT, x_1leF, x_1ltT, x_1ltF, x_lt1T, x_lt1F, x_eq1T, x_eq1F, x_m1F, nI_add, nI_1, sn_mul, x_sub, x_sub1, sn_m1, l2, l3, l4, l5, l6, l7, l8, l9, l10, l11, l12, l13, l14, l15, l20, l30, l40, l48, l60, l64, l99, l100, l700, l999, not_true_eq_false, not_false_eq_true, x_t0, x_t1, lts1, x_10, x_1sub, eq_self, Nat.reduceSub, Nat.reduceAdd, Nat.reduceMul, hw0]
        · intro f k z hk hz
          have hr : 4 * p + k < 20 := by omega
          have q1 := (hm.2.2.2.2 (4 * p + k) hr).1
          have w4 := (hw.2.2.2.2.2 (4 * p + k) hr).1
          have e9 := mo_ableOf (A := A) (I := M1) (r := 4 * p + k) (x := C 9 0) (u := 0) hw hm (by omega) (by decide)
          have e9 : F_Mo_ableOf (C 9 0) (nI (4 * p + k)) 0 M1 = some (ab A (C 9 0) (4 * p + k) 0) := e9
          have lq := lp_in (fun g j (z : Int32 × Nat) => F_Mo_cast_51 (F_Mo_cast_36 f) g (nI p) (nI w) (C 9 0) z.1 (nI z.2) (nI (4 * p + k)) (ab A (C 9 0) (4 * p + k) 0 &&& (z.1 ^^^ -1)) j M1) (fun z => F_Mo_cast_36 f (nI p) (nI w) (C 9 0) z.1 (nI z.2) (nI (4 * p + k) + 1) M1) (fun _ => pk A (C 9 0) (4 * p + k)) (fun j z => pkI A (C 9 0) p k j z) (A 6 (4 * p + k)) z (pkI_0 hk hz) (by omega) ?_ ?_
          · refine ⟨pkO_s hk lq.2, ?_⟩
            show F_Mo_cast_36B (F_Mo_cast_36 f) (nI p) (nI w) (C 9 0) z.1 (nI z.2) (nI (4 * p) + nI k) M1 = F_Mo_cast_36 f (nI p) (nI w) (C 9 0) (pkr A (C 9 0) p k z).1 (nI (pkr A (C 9 0) p k z).2) (nI (4 * p) + nI (k + 1)) M1
            unfold F_Mo_cast_36B
            simp (disch := omega) only [↓g_in, ↓g_c0, ↓g_c1, ↓reduceIte, ↓y_lt, ↓y_q1, ↓y_q2, ↓sn_q3, ↓sn_t1l, ↓sn_t1r, ↓sn_t2l, ↓sn_t2r, y_q1, y_q2, sn_q3, sn_t1l, sn_t1r, sn_t2l, sn_t2r, nI_clamp, x_leT, x_leF, x_ltT, x_ltF, x_eqT, x_eqF, x_le0T, x_le0F, x_0leT, x_lt0F, x_0ltT, x_0ltF, x_eq0T, x_eq0F, x_le1T, x_le1F, x_1leT, x_1leF, x_1ltT, x_1ltF, x_lt1T, x_lt1F, x_eq1T, x_eq1F, x_m1F, nI_add, nI_1, sn_mul, x_sub, x_sub1, sn_m1, l2, l3, l4, l5, l6, l7, l8, l9, l10, l11, l12, l13, l14, l15, l20, l30, l40, l48, l60, l64, l99, l100, l700, l999, not_true_eq_false, not_false_eq_true, x_t0, x_t1, lts1, x_10, x_1sub, eq_self, Nat.reduceSub, Nat.reduceAdd, Nat.reduceMul, e9]
            have lq := lq.1
            rw [pk_left hk hz, nI_1, Nat.add_assoc] at lq
            exact lq
          · intro g z _
            show F_Mo_cast_51B (F_Mo_cast_36 f) (F_Mo_cast_51 (F_Mo_cast_36 f) g) (nI p) (nI w) (C 9 0) z.1 (nI z.2) (nI (4 * p + k)) (ab A (C 9 0) (4 * p + k) 0 &&& (z.1 ^^^ -1)) (nI (A 6 (4 * p + k))) M1 = _
            unfold F_Mo_cast_51B
            simp (disch := omega) only [↓g_in, ↓g_c0, ↓g_c1, ↓reduceIte, ↓y_lt, ↓y_q1, ↓y_q2, ↓sn_q3, ↓sn_t1l, ↓sn_t1r, ↓sn_t2l, ↓sn_t2r, y_q1, y_q2, sn_q3, sn_t1l, sn_t1r, sn_t2l, sn_t2r, nI_clamp, x_leT, x_leF, x_ltT, x_ltF, x_eqT, x_eqF, x_le0T, x_le0F, x_0leT, x_lt0F, x_0ltT, x_0ltF, x_eq0T, x_eq0F, x_le1T, x_le1F, x_1leT, x_1leF, x_1ltT, x_1ltF, x_lt1T, x_lt1F, x_eq1T, x_eq1F, x_m1F, nI_add, nI_1, sn_mul, x_sub, x_sub1, sn_m1, l2, l3, l4, l5, l6, l7, l8, l9, l10, l11, l12, l13, l14, l15, l20, l30, l40, l48, l60, l64, l99, l100, l700, l999, not_true_eq_false, not_false_eq_true, x_t0, x_t1, lts1, x_10, x_1sub, eq_self, Nat.reduceSub, Nat.reduceAdd, Nat.reduceMul, q1]
          · intro g j z hj hz
            refine ⟨pkI_s hz hj (cs_need hcs hk), ?_⟩
            obtain ⟨i, i1, i2, i3, i4, i5⟩ := pk_mx hz hj (cs_need hcs hk)
            show F_Mo_cast_51B (F_Mo_cast_36 f) (F_Mo_cast_51 (F_Mo_cast_36 f) g) (nI p) (nI w) (C 9 0) z.1 (nI z.2) (nI (4 * p + k)) (ab A (C 9 0) (4 * p + k) 0 &&& (z.1 ^^^ -1)) (nI j) M1 = F_Mo_cast_51 (F_Mo_cast_36 f) g (nI p) (nI w) (C 9 0) (pk A (C 9 0) (4 * p + k) z).1 (nI (pk A (C 9 0) (4 * p + k) z).2) (nI (4 * p + k)) (ab A (C 9 0) (4 * p + k) 0 &&& ((pk A (C 9 0) (4 * p + k) z).1 ^^^ -1)) (nI (j + 1)) M1
            have e1 : (pk A (C 9 0) (4 * p + k) z).1 = z.1 ||| b1 i := by unfold pk; rw [i3, bo_n (by omega)]
            have e2 : (pk A (C 9 0) (4 * p + k) z).2 = z.2 + A 5 i := by unfold pk; rw [i3, nI_clamp (by omega)]
            have e3 : ab A (C 9 0) (4 * p + k) 0 &&& ((z.1 ||| b1 i) ^^^ -1) = ab A (C 9 0) (4 * p + k) 0 &&& (z.1 ^^^ -1) &&& (b1 i ^^^ -1) := by
              apply b_ext
              intro s hs
              rw [b_and, b_and, b_and, bt_not hs, bt_not hs, bt_not hs, b_or]
              cases bt (ab A (C 9 0) (4 * p + k) 0) s <;> cases bt z.1 s <;> cases bt (b1 i) s <;> rfl
            unfold F_Mo_cast_51B
            simp (disch := omega) only [↓g_in, ↓g_c0, ↓g_c1, ↓reduceIte, ↓y_lt, ↓y_q1, ↓y_q2, ↓sn_q3, ↓sn_t1l, ↓sn_t1r, ↓sn_t2l, ↓sn_t2r, y_q1, y_q2, sn_q3, sn_t1l, sn_t1r, sn_t2l, sn_t2r, nI_clamp, x_leT, x_leF, x_ltT, x_ltF, x_eqT, x_eqF, x_le0T, x_le0F, x_0leT, x_lt0F, x_0ltT, x_0ltF, x_eq0T, x_eq0F, x_le1T, x_le1F, x_1leT, x_1leF, x_1ltT, x_1ltF, x_lt1T, x_lt1F, x_eq1T, x_eq1F, x_m1F, nI_add, nI_1, sn_mul, x_sub, x_sub1, sn_m1, l2, l3, l4, l5, l6, l7, l8, l9, l10, l11, l12, l13, l14, l15, l20, l30, l40, l48, l60, l64, l99, l100, l700, l999, not_true_eq_false, not_false_eq_true, x_t0, x_t1, lts1, x_10, x_1sub, eq_self, Nat.reduceSub, Nat.reduceAdd, Nat.reduceMul, q1, e1, e2, e3]
            generalize hlf : ab A (C 9 0) (4 * p + k) 0 &&& (z.1 ^^^ -1) = lf at *
            have hlb : ∀ s, s < 14 → bt lf s = true → s < A 0 0 := fun s hs hb => by
              rw [← hlf, b_and, Bool.and_eq_true] at hb
              exact (ab_p hs hb.1).1
            have lr := lp_in (fun o s (b : Int32) => F_Mo_cast_61 (F_Mo_cast_51 (F_Mo_cast_36 f) g) o (nI p) (nI w) (C 9 0) z.1 (nI z.2) (nI (4 * p + k)) lf (nI j) b s M1) (fun b => F_Mo_cast_51 (F_Mo_cast_36 f) g (nI p) (nI w) (C 9 0) (z.1 ||| b1 i) (nI (z.2 + A 5 i)) (nI (4 * p + k)) (lf &&& (b1 i ^^^ -1)) (nI (j + 1)) M1) (mxs A lf) (fun s b => b = itr (mxs A lf) s (-1)) (A 0 0) (-1) rfl (by omega) ?_ ?_
            · exact lr.1
            · intro o b hb
              have hb2 : b = nI i := by
                rw [hb, ← i3]
                unfold mx
                rw [itr_to (n := A 0 0) hn (fun s b h1 h2 => ?_)]
                unfold mxs
                cases e : bt lf s
                · rfl
                · have := hlb s h2 e
                  omega
              subst hb2
              obtain ⟨-, -, -, -, m5⟩ := hm.2.2.2.1 i i2
              show F_Mo_cast_61B (F_Mo_cast_51 (F_Mo_cast_36 f) g) (F_Mo_cast_61 (F_Mo_cast_51 (F_Mo_cast_36 f) g) o) (nI p) (nI w) (C 9 0) z.1 (nI z.2) (nI (4 * p + k)) lf (nI j) (nI i) (nI (A 0 0)) M1 = _
              unfold F_Mo_cast_61B
              simp (disch := omega) only [↓g_in, ↓g_c0, ↓g_c1, ↓reduceIte, ↓y_lt, ↓y_q1, ↓y_q2, ↓sn_q3, ↓sn_t1l, ↓sn_t1r, ↓sn_t2l, ↓sn_t2r, y_q1, y_q2, sn_q3, sn_t1l, sn_t1r, sn_t2l, sn_t2r, nI_clamp, x_leT, x_leF, x_ltT, x_ltF, x_eqT, x_eqF, x_le0T, x_le0F, x_0leT, x_lt0F, x_0ltT, x_0ltF, x_eq0T, x_eq0F, x_le1T, x_le1F, x_1leT, x_1leF, x_1ltT, x_1ltF, x_lt1T, x_lt1F, x_eq1T, x_eq1F, x_m1F, nI_add, nI_1, sn_mul, x_sub, x_sub1, sn_m1, l2, l3, l4, l5, l6, l7, l8, l9, l10, l11, l12, l13, l14, l15, l20, l30, l40, l48, l60, l64, l99, l100, l700, l999, not_true_eq_false, not_false_eq_true, x_t0, x_t1, lts1, x_10, x_1sub, eq_self, Nat.reduceSub, Nat.reduceAdd, Nat.reduceMul, hm.1, m5]
            · intro o s b hs1 hb
              refine ⟨by rw [itr, ← hb], ?_⟩
              obtain ⟨-, -, -, -, m5⟩ := hm.2.2.2.1 s hs1
              obtain ⟨-, -, -, -, w5⟩ := hw.2.2.2.2.1 s hs1
              show F_Mo_cast_61B (F_Mo_cast_51 (F_Mo_cast_36 f) g) (F_Mo_cast_61 (F_Mo_cast_51 (F_Mo_cast_36 f) g) o) (nI p) (nI w) (C 9 0) z.1 (nI z.2) (nI (4 * p + k)) lf (nI j) b (nI s) M1 = F_Mo_cast_61 (F_Mo_cast_51 (F_Mo_cast_36 f) g) o (nI p) (nI w) (C 9 0) z.1 (nI z.2) (nI (4 * p + k)) lf (nI j) (mxs A lf s b) (nI (s + 1)) M1
              unfold F_Mo_cast_61B mxs
              cases e : bt lf s
              · simp (disch := omega) only [↓g_in, ↓g_c0, ↓g_c1, ↓reduceIte, ↓y_lt, ↓y_q1, ↓y_q2, ↓sn_q3, ↓sn_t1l, ↓sn_t1r, ↓sn_t2l, ↓sn_t2r, y_q1, y_q2, sn_q3, sn_t1l, sn_t1r, sn_t2l, sn_t2r, nI_clamp, x_leT, x_leF, x_ltT, x_ltF, x_eqT, x_eqF, x_le0T, x_le0F, x_0leT, x_lt0F, x_0ltT, x_0ltF, x_eq0T, x_eq0F, x_le1T, x_le1F, x_1leT, x_1leF, x_1ltT, x_1ltF, x_lt1T, x_lt1F, x_eq1T, x_eq1F, x_m1F, nI_add, nI_1, sn_mul, x_sub, x_sub1, sn_m1, l2, l3, l4, l5, l6, l7, l8, l9, l10, l11, l12, l13, l14, l15, l20, l30, l40, l48, l60, l64, l99, l100, l700, l999, not_true_eq_false, not_false_eq_true, x_t0, x_t1, lts1, x_10, x_1sub, eq_self, Nat.reduceSub, Nat.reduceAdd, Nat.reduceMul, hm.1, e, Bool.false_eq_true]
              · rcases mx_or (A := A) (x := lf) (n := s) with ⟨g1, -⟩ | ⟨v, g1, g2, g3⟩
                · rw [g1] at hb
                  subst hb
                  simp (disch := omega) only [↓g_in, ↓g_c0, ↓g_c1, ↓reduceIte, ↓y_lt, ↓y_q1, ↓y_q2, ↓sn_q3, ↓sn_t1l, ↓sn_t1r, ↓sn_t2l, ↓sn_t2r, y_q1, y_q2, sn_q3, sn_t1l, sn_t1r, sn_t2l, sn_t2r, nI_clamp, x_leT, x_leF, x_ltT, x_ltF, x_eqT, x_eqF, x_le0T, x_le0F, x_0leT, x_lt0F, x_0ltT, x_0ltF, x_eq0T, x_eq0F, x_le1T, x_le1F, x_1leT, x_1leF, x_1ltT, x_1ltF, x_lt1T, x_lt1F, x_eq1T, x_eq1F, x_m1F, nI_add, nI_1, sn_mul, x_sub, x_sub1, sn_m1, l2, l3, l4, l5, l6, l7, l8, l9, l10, l11, l12, l13, l14, l15, l20, l30, l40, l48, l60, l64, l99, l100, l700, l999, not_true_eq_false, not_false_eq_true, x_t0, x_t1, lts1, x_10, x_1sub, eq_self, Nat.reduceSub, Nat.reduceAdd, Nat.reduceMul, hm.1, e, true_or]
                · rw [g2] at hb
                  subst hb
                  have hv := hlb v (by omega) g3
                  obtain ⟨-, -, -, -, n5⟩ := hm.2.2.2.1 v hv
                  obtain ⟨-, -, -, -, w6⟩ := hw.2.2.2.2.1 v hv
                  by_cases e6 : A 5 v < A 5 s
                  · simp (disch := omega) only [↓g_in, ↓g_c0, ↓g_c1, ↓reduceIte, ↓y_lt, ↓y_q1, ↓y_q2, ↓sn_q3, ↓sn_t1l, ↓sn_t1r, ↓sn_t2l, ↓sn_t2r, y_q1, y_q2, sn_q3, sn_t1l, sn_t1r, sn_t2l, sn_t2r, nI_clamp, x_leT, x_leF, x_ltT, x_ltF, x_eqT, x_eqF, x_le0T, x_le0F, x_0leT, x_lt0F, x_0ltT, x_0ltF, x_eq0T, x_eq0F, x_le1T, x_le1F, x_1leT, x_1leF, x_1ltT, x_1ltF, x_lt1T, x_lt1F, x_eq1T, x_eq1F, x_m1F, nI_add, nI_1, sn_mul, x_sub, x_sub1, sn_m1, l2, l3, l4, l5, l6, l7, l8, l9, l10, l11, l12, l13, l14, l15, l20, l30, l40, l48, l60, l64, l99, l100, l700, l999, not_true_eq_false, not_false_eq_true, x_t0, x_t1, lts1, x_10, x_1sub, eq_self, Nat.reduceSub, Nat.reduceAdd, Nat.reduceMul, hm.1, e, m5, n5, e6, or_true]
                  · simp (disch := omega) only [↓g_in, ↓g_c0, ↓g_c1, ↓reduceIte, ↓y_lt, ↓y_q1, ↓y_q2, ↓sn_q3, ↓sn_t1l, ↓sn_t1r, ↓sn_t2l, ↓sn_t2r, y_q1, y_q2, sn_q3, sn_t1l, sn_t1r, sn_t2l, sn_t2r, nI_clamp, x_leT, x_leF, x_ltT, x_ltF, x_eqT, x_eqF, x_le0T, x_le0F, x_0leT, x_lt0F, x_0ltT, x_0ltF, x_eq0T, x_eq0F, x_le1T, x_le1F, x_1leT, x_1leF, x_1ltT, x_1ltF, x_lt1T, x_lt1F, x_eq1T, x_eq1F, x_m1F, nI_add, nI_1, sn_mul, x_sub, x_sub1, sn_m1, l2, l3, l4, l5, l6, l7, l8, l9, l10, l11, l12, l13, l14, l15, l20, l30, l40, l48, l60, l64, l99, l100, l700, l999, not_true_eq_false, not_false_eq_true, x_t0, x_t1, lts1, x_10, x_1sub, eq_self, Nat.reduceSub, Nat.reduceAdd, Nat.reduceMul, hm.1, e, m5, n5, e6, or_self]
end QU
