/-! ===== kinds of tokens ===== -/
def txt (j : Nat) : Nat := sm_text.getD j 0
def wsl : List Nat := [0, 6, 12, 20, 28, 33, 39, 44, 50, 56, 62, 66, 69, 73, 77, 81, 86, 90, 96, 103, 107, 113, 118, 125, 130]
def wsx (w : Nat) : Nat := wsl.getD w 130
def wln (w : Nat) : Nat := wsx (w + 1) - 1 - wsx w
def sbt (b : Nat → Nat) : Nat → Nat → List Nat
  | 0, _ => []
  | m + 1, i => b i :: sbt b m (i + 1)
theorem sbt_0 {b : Nat → Nat} {i : Nat} : sbt b 0 i = [] := by unfold sbt; rfl
theorem wsx_ok : ∀ w, w < 24 → wsx w + wln w + 1 = wsx (w + 1) ∧ wsx (w + 1) ≤ 130 ∧ 2 ≤ wln w ∧ wln w ≤ 7 ∧ txt (wsx w + wln w) = 32 ∧ ∀ j, j < 7 → j < wln w → ltr (txt (wsx w + j)) = true := by decide +kernel
theorem wsx_b : ∀ w, w ≤ 24 → wsx w ≤ 130 := by decide
theorem wsx_24 : wsx 24 = 130 := rfl
/-- the token of so many letters is this word -/
def isw (b : Nat → Nat) (i l w : Nat) : Bool := decide (wln w = l) && decide (sbt txt l (wsx w) = sbt b l i)
def wif (b : Nat → Nat) (i l : Nat) : Nat → Nat → Nat
  | 0, w => w
  | m + 1, w => if isw b i l w then w else wif b i l m (w + 1)
def nvl (b : Nat → Nat) : Nat → Nat → Nat → Nat
  | 0, _, a => a
  | m + 1, i, a => nvl b m (i + 1) (a * 10 + b i - 48)
def kd (b : Nat → Nat) (n i : Nat) : Nat := if ltr (b i) then wif b i (te b n i - i) 24 0 else if dgt (b i) then (if te b n i - i ≤ 4 then 10000 + nvl b (te b n i - i) i 0 else 31) else if sgn (b i) then 1000 + b i else 32
theorem nvl_le {b : Nat → Nat} : ∀ m i a, (∀ j, j < m → dgt (b (i + j)) = true) → nvl b m i a + 1 ≤ (a + 1) * 10 ^ m
  | 0, i, a, h => by unfold nvl; omega
  | m + 1, i, a, h => by
    have h0 := dgt_iff.mp (h 0 (by omega))
    rw [Nat.add_zero] at h0
    have ih := nvl_le (b := b) m (i + 1) (a * 10 + b i - 48) (fun j hj => by rw [show i + 1 + j = i + (j + 1) by omega]; exact h (j + 1) (by omega))
    show nvl b m (i + 1) (a * 10 + b i - 48) + 1 ≤ _
    refine Nat.le_trans ih ?_
    rw [show (a + 1) * 10 ^ (m + 1) = ((a + 1) * 10) * 10 ^ m by rw [Nat.pow_succ, Nat.mul_assoc, Nat.mul_comm 10]]
    exact Nat.mul_le_mul_right _ (by omega)
theorem nvl_4 {b : Nat → Nat} {m i : Nat} (hm : m ≤ 4) (h : ∀ j, j < m → dgt (b (i + j)) = true) : nvl b m i 0 ≤ 9999 := by
  have h1 := nvl_le (b := b) m i 0 h
  have h2 : 10 ^ m ≤ 10 ^ 4 := Nat.pow_le_pow_right (by omega) hm
  omega
theorem wif_le {b : Nat → Nat} {i l : Nat} : ∀ m w, w ≤ wif b i l m w ∧ wif b i l m w ≤ w + m
  | 0, w => ⟨Nat.le_refl _, Nat.le_refl _⟩
  | m + 1, w => by
    have := wif_le (b := b) (i := i) (l := l) m (w + 1)
    unfold wif
    split <;> omega
theorem te_dg {b : Nat → Nat} {n i : Nat} (h : i < n) (hl : ltr (b i) = false) (hd : dgt (b i) = true) : ∀ j, i + j < te b n i → dgt (b (i + j)) = true := by
  intro j hj
  unfold te at hj
  rw [hl, if_neg (by decide), hd, if_pos rfl] at hj
  exact rn_at _ i (i + j) (by omega) hj
theorem te_lt {b : Nat → Nat} {n i : Nat} (hl : ltr (b i) = true) : ∀ j, i + j < te b n i → ltr (b (i + j)) = true := by
  intro j hj
  unfold te at hj
  rw [hl, if_pos rfl] at hj
  exact rn_at _ i (i + j) (by omega) hj
theorem kd_lt {b : Nat → Nat} {n i : Nat} (h : i < n) (hb : ∀ j, j < n → b j < 256) : kd b n i < 20000 := by
  have h1 := hb i h
  have h2 := wif_le (b := b) (i := i) (l := te b n i - i) 24 0
  have h3 := te_le (b := b) h
  unfold kd
  split
  · omega
  · rename_i hl
    split
    · rename_i hd
      split
      · rename_i h4
        have := nvl_4 h4 (fun j hj => te_dg h (Bool.eq_false_iff.mpr hl) hd j (by omega))
        omega
      · omega
    · split <;> omega
/-- the class's tape holds the bytes b, n of them -/
def tb (b : Nat → Nat) (n : Nat) (C : sm_MI) : Prop := n ≤ 700 ∧ C 4 5 = nI n ∧ ∀ j, j < n → b j < 256 ∧ C 5 j = nI (b j)
section TP
variable {b : Nat → Nat} {n : Nat} {C : sm_MI}
theorem c_byte {j : Nat} (h : tb b n C) (hj : j < n) : F_Tape_byteAt (nI j) C = some (nI (b j)) := by
  obtain ⟨h1, h2, h3⟩ := h
  unfold F_Tape_byteAt
  simp (disch := omega) only [↓g_in, ↓g_c0, ↓g_c1, ↓reduceIte, ↓y_lt, ↓y_q1, ↓y_q2, ↓sn_q3, ↓sn_t1l, ↓sn_t1r, ↓sn_t2l, ↓sn_t2r, y_q1, y_q2, sn_q3, sn_t1l, sn_t1r, sn_t2l, sn_t2r, nI_clamp, x_leT, x_leF, x_ltT, x_ltF, x_eqT, x_eqF, x_le0T, x_le0F, x_0leT, x_lt0F, x_0ltT, x_0ltF, x_eq0T, x_eq0F, x_le1T, x_le1F, x_1leT, x_1leF, x_1ltT, x_1ltF, x_lt1T, x_lt1F, x_eq1T, x_eq1F, x_m1F, nI_add, nI_1, sn_mul, x_sub, x_sub1, sn_m1, l2, l3, l4, l5, l6, l7, l8, l9, l10, l11, l12, l13, l14, l15, l20, l30, l40, l48, l60, l64, l99, l100, l700, l999, not_true_eq_false, not_false_eq_true, x_t0, x_t1, lts1, x_10, x_1sub, eq_self, Nat.reduceSub, Nat.reduceAdd, Nat.reduceMul, h2, (h3 j hj).2]
theorem c_byte0 {j : Nat} (h : tb b n C) (hj : n ≤ j) (hj2 : j < 2 ^ 31) : F_Tape_byteAt (nI j) C = some (-1) := by
  obtain ⟨h1, h2, h3⟩ := h
  unfold F_Tape_byteAt
  simp (disch := omega) only [↓g_in, ↓g_c0, ↓g_c1, ↓reduceIte, ↓y_lt, ↓y_q1, ↓y_q2, ↓sn_q3, ↓sn_t1l, ↓sn_t1r, ↓sn_t2l, ↓sn_t2r, y_q1, y_q2, sn_q3, sn_t1l, sn_t1r, sn_t2l, sn_t2r, nI_clamp, x_leT, x_leF, x_ltT, x_ltF, x_eqT, x_eqF, x_le0T, x_le0F, x_0leT, x_lt0F, x_0ltT, x_0ltF, x_eq0T, x_eq0F, x_le1T, x_le1F, x_1leT, x_1leF, x_1ltT, x_1ltF, x_lt1T, x_lt1F, x_eq1T, x_eq1F, x_m1F, nI_add, nI_1, sn_mul, x_sub, x_sub1, sn_m1, l2, l3, l4, l5, l6, l7, l8, l9, l10, l11, l12, l13, l14, l15, l20, l30, l40, l48, l60, l64, l99, l100, l700, l999, not_true_eq_false, not_false_eq_true, x_t0, x_t1, lts1, x_10, x_1sub, eq_self, Nat.reduceSub, Nat.reduceAdd, Nat.reduceMul, h2]
theorem c_letter {x : Nat} (h : x < 256) : F_Tape_isLetter (nI x) = some (if ltr x then 1 else 0) := by
  unfold F_Tape_isLetter
  by_cases h1 : x < 97
  · rw [ltr_no.mpr (Or.inl h1)]
    simp (disch := omega) only [↓g_in, ↓g_c0, ↓g_c1, ↓reduceIte, ↓y_lt, ↓y_q1, ↓y_q2, ↓sn_q3, ↓sn_t1l, ↓sn_t1r, ↓sn_t2l, ↓sn_t2r, y_q1, y_q2, sn_q3, sn_t1l, sn_t1r, sn_t2l, sn_t2r, nI_clamp, x_leT, x_leF, x_ltT, x_ltF, x_eqT, x_eqF, x_le0T, x_le0F, x_0leT, x_lt0F, x_0ltT, x_0ltF, x_eq0T, x_eq0F, x_le1T, x_le1F, x_1leT, x_1leF, x_1ltT, x_1ltF, x_lt1T, x_lt1F, x_eq1T, x_eq1F, x_m1F, nI_add, nI_1, sn_mul, x_sub, x_sub1, sn_m1, l2, l3, l4, l5, l6, l7, l8, l9, l10, l11, l12, l13, l14, l15, l20, l30, l40, l48, l60, l64, l99, l100, l700, l999, not_true_eq_false, not_false_eq_true, x_t0, x_t1, lts1, x_10, x_1sub, eq_self, Nat.reduceSub, Nat.reduceAdd, Nat.reduceMul, l97, l122]
    rfl
  · by_cases h2 : 122 < x
    · rw [ltr_no.mpr (Or.inr h2)]
      simp (disch := omega) only [↓g_in, ↓g_c0, ↓g_c1, ↓reduceIte, ↓y_lt, ↓y_q1, ↓y_q2, ↓sn_q3, ↓sn_t1l, ↓sn_t1r, ↓sn_t2l, ↓sn_t2r, y_q1, y_q2, sn_q3, sn_t1l, sn_t1r, sn_t2l, sn_t2r, nI_clamp, x_leT, x_leF, x_ltT, x_ltF, x_eqT, x_eqF, x_le0T, x_le0F, x_0leT, x_lt0F, x_0ltT, x_0ltF, x_eq0T, x_eq0F, x_le1T, x_le1F, x_1leT, x_1leF, x_1ltT, x_1ltF, x_lt1T, x_lt1F, x_eq1T, x_eq1F, x_m1F, nI_add, nI_1, sn_mul, x_sub, x_sub1, sn_m1, l2, l3, l4, l5, l6, l7, l8, l9, l10, l11, l12, l13, l14, l15, l20, l30, l40, l48, l60, l64, l99, l100, l700, l999, not_true_eq_false, not_false_eq_true, x_t0, x_t1, lts1, x_10, x_1sub, eq_self, Nat.reduceSub, Nat.reduceAdd, Nat.reduceMul, l97, l122]
      rfl
    · rw [ltr_iff.mpr (by omega)]
      simp (disch := omega) only [↓g_in, ↓g_c0, ↓g_c1, ↓reduceIte, ↓y_lt, ↓y_q1, ↓y_q2, ↓sn_q3, ↓sn_t1l, ↓sn_t1r, ↓sn_t2l, ↓sn_t2r, y_q1, y_q2, sn_q3, sn_t1l, sn_t1r, sn_t2l, sn_t2r, nI_clamp, x_leT, x_leF, x_ltT, x_ltF, x_eqT, x_eqF, x_le0T, x_le0F, x_0leT, x_lt0F, x_0ltT, x_0ltF, x_eq0T, x_eq0F, x_le1T, x_le1F, x_1leT, x_1leF, x_1ltT, x_1ltF, x_lt1T, x_lt1F, x_eq1T, x_eq1F, x_m1F, nI_add, nI_1, sn_mul, x_sub, x_sub1, sn_m1, l2, l3, l4, l5, l6, l7, l8, l9, l10, l11, l12, l13, l14, l15, l20, l30, l40, l48, l60, l64, l99, l100, l700, l999, not_true_eq_false, not_false_eq_true, x_t0, x_t1, lts1, x_10, x_1sub, eq_self, Nat.reduceSub, Nat.reduceAdd, Nat.reduceMul, l97, l122]
theorem c_digit {x : Nat} (h : x < 256) : F_Tape_isDigit (nI x) = some (if dgt x then 1 else 0) := by
  unfold F_Tape_isDigit
  by_cases h1 : x < 48
  · rw [dgt_no.mpr (Or.inl h1)]
    simp (disch := omega) only [↓g_in, ↓g_c0, ↓g_c1, ↓reduceIte, ↓y_lt, ↓y_q1, ↓y_q2, ↓sn_q3, ↓sn_t1l, ↓sn_t1r, ↓sn_t2l, ↓sn_t2r, y_q1, y_q2, sn_q3, sn_t1l, sn_t1r, sn_t2l, sn_t2r, nI_clamp, x_leT, x_leF, x_ltT, x_ltF, x_eqT, x_eqF, x_le0T, x_le0F, x_0leT, x_lt0F, x_0ltT, x_0ltF, x_eq0T, x_eq0F, x_le1T, x_le1F, x_1leT, x_1leF, x_1ltT, x_1ltF, x_lt1T, x_lt1F, x_eq1T, x_eq1F, x_m1F, nI_add, nI_1, sn_mul, x_sub, x_sub1, sn_m1, l2, l3, l4, l5, l6, l7, l8, l9, l10, l11, l12, l13, l14, l15, l20, l30, l40, l48, l60, l64, l99, l100, l700, l999, not_true_eq_false, not_false_eq_true, x_t0, x_t1, lts1, x_10, x_1sub, eq_self, Nat.reduceSub, Nat.reduceAdd, Nat.reduceMul, l48, l57]
    rfl
  · by_cases h2 : 57 < x
    · rw [dgt_no.mpr (Or.inr h2)]
      simp (disch := omega) only [↓g_in, ↓g_c0, ↓g_c1, ↓reduceIte, ↓y_lt, ↓y_q1, ↓y_q2, ↓sn_q3, ↓sn_t1l, ↓sn_t1r, ↓sn_t2l, ↓sn_t2r, y_q1, y_q2, sn_q3, sn_t1l, sn_t1r, sn_t2l, sn_t2r, nI_clamp, x_leT, x_leF, x_ltT, x_ltF, x_eqT, x_eqF, x_le0T, x_le0F, x_0leT, x_lt0F, x_0ltT, x_0ltF, x_eq0T, x_eq0F, x_le1T, x_le1F, x_1leT, x_1leF, x_1ltT, x_1ltF, x_lt1T, x_lt1F, x_eq1T, x_eq1F, x_m1F, nI_add, nI_1, sn_mul, x_sub, x_sub1, sn_m1, l2, l3, l4, l5, l6, l7, l8, l9, l10, l11, l12, l13, l14, l15, l20, l30, l40, l48, l60, l64, l99, l100, l700, l999, not_true_eq_false, not_false_eq_true, x_t0, x_t1, lts1, x_10, x_1sub, eq_self, Nat.reduceSub, Nat.reduceAdd, Nat.reduceMul, l48, l57]
      rfl
    · rw [dgt_iff.mpr (by omega)]
      simp (disch := omega) only [↓g_in, ↓g_c0, ↓g_c1, ↓reduceIte, ↓y_lt, ↓y_q1, ↓y_q2, ↓sn_q3, ↓sn_t1l, ↓sn_t1r, ↓sn_t2l, ↓sn_t2r, y_q1, y_q2, sn_q3, sn_t1l, sn_t1r, sn_t2l, sn_t2r, nI_clamp, x_leT, x_leF, x_ltT, x_ltF, x_eqT, x_eqF, x_le0T, x_le0F, x_0leT, x_lt0F, x_0ltT, x_0ltF, x_eq0T, x_eq0F, x_le1T, x_le1F, x_1leT, x_1leF, x_1ltT, x_1ltF, x_lt1T, x_lt1F, x_eq1T, x_eq1F, x_m1F, nI_add, nI_1, sn_mul, x_sub, x_sub1, sn_m1, l2, l3, l4, l5, l6, l7, l8, l9, l10, l11, l12, l13, l14, l15, l20, l30, l40, l48, l60, l64, l99, l100, l700, l999, not_true_eq_false, not_false_eq_true, x_t0, x_t1, lts1, x_10, x_1sub, eq_self, Nat.reduceSub, Nat.reduceAdd, Nat.reduceMul, l48, l57]
theorem c_run7 (h : tb b n C) : ∀ m j f, j + m = n → m < f → F_Tape_endOfToken_7 C f (nI j) = some (nI (rn ltr b m j))
  | 0, j, f, hj, hf => by
    obtain ⟨f, rfl⟩ : ∃ g, f = g + 1 := ⟨f - 1, by omega⟩
    have h1 := h.1
    show F_Tape_endOfToken_7B _ (nI j) C = _
    unfold F_Tape_endOfToken_7B
    simp (disch := omega) only [↓g_in, ↓g_c0, ↓g_c1, ↓reduceIte, ↓y_lt, ↓y_q1, ↓y_q2, ↓sn_q3, ↓sn_t1l, ↓sn_t1r, ↓sn_t2l, ↓sn_t2r, y_q1, y_q2, sn_q3, sn_t1l, sn_t1r, sn_t2l, sn_t2r, nI_clamp, x_leT, x_leF, x_ltT, x_ltF, x_eqT, x_eqF, x_le0T, x_le0F, x_0leT, x_lt0F, x_0ltT, x_0ltF, x_eq0T, x_eq0F, x_le1T, x_le1F, x_1leT, x_1leF, x_1ltT, x_1ltF, x_lt1T, x_lt1F, x_eq1T, x_eq1F, x_m1F, nI_add, nI_1, sn_mul, x_sub, x_sub1, sn_m1, l2, l3, l4, l5, l6, l7, l8, l9, l10, l11, l12, l13, l14, l15, l20, l30, l40, l48, l60, l64, l99, l100, l700, l999, not_true_eq_false, not_false_eq_true, x_t0, x_t1, lts1, x_10, x_1sub, eq_self, Nat.reduceSub, Nat.reduceAdd, Nat.reduceMul, h.2.1]
    rfl
  | m + 1, j, f, hj, hf => by
    obtain ⟨f, rfl⟩ : ∃ g, f = g + 1 := ⟨f - 1, by omega⟩
    have h1 := h.1
    have ih := c_run7 h m (j + 1) f (by omega) (by omega)
    have ih : F_Tape_endOfToken_7 C f (nI (j + 1)) = _ := ih
    show F_Tape_endOfToken_7B (F_Tape_endOfToken_7 C f) (nI j) C = _
    unfold F_Tape_endOfToken_7B rn
    cases e : ltr (b j)
    · simp (disch := omega) only [↓g_in, ↓g_c0, ↓g_c1, ↓reduceIte, ↓y_lt, ↓y_q1, ↓y_q2, ↓sn_q3, ↓sn_t1l, ↓sn_t1r, ↓sn_t2l, ↓sn_t2r, y_q1, y_q2, sn_q3, sn_t1l, sn_t1r, sn_t2l, sn_t2r, nI_clamp, x_leT, x_leF, x_ltT, x_ltF, x_eqT, x_eqF, x_le0T, x_le0F, x_0leT, x_lt0F, x_0ltT, x_0ltF, x_eq0T, x_eq0F, x_le1T, x_le1F, x_1leT, x_1leF, x_1ltT, x_1ltF, x_lt1T, x_lt1F, x_eq1T, x_eq1F, x_m1F, nI_add, nI_1, sn_mul, x_sub, x_sub1, sn_m1, l2, l3, l4, l5, l6, l7, l8, l9, l10, l11, l12, l13, l14, l15, l20, l30, l40, l48, l60, l64, l99, l100, l700, l999, not_true_eq_false, not_false_eq_true, x_t0, x_t1, lts1, x_10, x_1sub, eq_self, Nat.reduceSub, Nat.reduceAdd, Nat.reduceMul, h.2.1, ↓q1_of (c_byte h (show j < n by omega)), ↓q1_of (c_letter (h.2.2 j (show j < n by omega)).1), e]
      rfl
    · simp (disch := omega) only [↓g_in, ↓g_c0, ↓g_c1, ↓reduceIte, ↓y_lt, ↓y_q1, ↓y_q2, ↓sn_q3, ↓sn_t1l, ↓sn_t1r, ↓sn_t2l, ↓sn_t2r, y_q1, y_q2, sn_q3, sn_t1l, sn_t1r, sn_t2l, sn_t2r, nI_clamp, x_leT, x_leF, x_ltT, x_ltF, x_eqT, x_eqF, x_le0T, x_le0F, x_0leT, x_lt0F, x_0ltT, x_0ltF, x_eq0T, x_eq0F, x_le1T, x_le1F, x_1leT, x_1leF, x_1ltT, x_1ltF, x_lt1T, x_lt1F, x_eq1T, x_eq1F, x_m1F, nI_add, nI_1, sn_mul, x_sub, x_sub1, sn_m1, l2, l3, l4, l5, l6, l7, l8, l9, l10, l11, l12, l13, l14, l15, l20, l30, l40, l48, l60, l64, l99, l100, l700, l999, not_true_eq_false, not_false_eq_true, x_t0, x_t1, lts1, x_10, x_1sub, eq_self, Nat.reduceSub, Nat.reduceAdd, Nat.reduceMul, h.2.1, ↓q1_of (c_byte h (show j < n by omega)), ↓q1_of (c_letter (h.2.2 j (show j < n by omega)).1), e, ih]
theorem c_run18 (h : tb b n C) : ∀ m j f, j + m = n → m < f → F_Tape_endOfToken_18 C f (nI j) = some (nI (rn dgt b m j))
  | 0, j, f, hj, hf => by
    obtain ⟨f, rfl⟩ : ∃ g, f = g + 1 := ⟨f - 1, by omega⟩
    have h1 := h.1
    show F_Tape_endOfToken_18B _ (nI j) C = _
    unfold F_Tape_endOfToken_18B
    simp (disch := omega) only [↓g_in, ↓g_c0, ↓g_c1, ↓reduceIte, ↓y_lt, ↓y_q1, ↓y_q2, ↓sn_q3, ↓sn_t1l, ↓sn_t1r, ↓sn_t2l, ↓sn_t2r, y_q1, y_q2, sn_q3, sn_t1l, sn_t1r, sn_t2l, sn_t2r, nI_clamp, x_leT, x_leF, x_ltT, x_ltF, x_eqT, x_eqF, x_le0T, x_le0F, x_0leT, x_lt0F, x_0ltT, x_0ltF, x_eq0T, x_eq0F, x_le1T, x_le1F, x_1leT, x_1leF, x_1ltT, x_1ltF, x_lt1T, x_lt1F, x_eq1T, x_eq1F, x_m1F, nI_add, nI_1, sn_mul, x_sub, x_sub1, sn_m1, l2, l3, l4, l5, l6, l7, l8, l9, l10, l11, l12, l13, l14, l15, l20, l30, l40, l48, l60, l64, l99, l100, l700, l999, not_true_eq_false, not_false_eq_true, x_t0, x_t1, lts1, x_10, x_1sub, eq_self, Nat.reduceSub, Nat.reduceAdd, Nat.reduceMul, h.2.1]
    rfl
  | m + 1, j, f, hj, hf => by
    obtain ⟨f, rfl⟩ : ∃ g, f = g + 1 := ⟨f - 1, by omega⟩
    have h1 := h.1
    have ih := c_run18 h m (j + 1) f (by omega) (by omega)
    have ih : F_Tape_endOfToken_18 C f (nI (j + 1)) = _ := ih
    show F_Tape_endOfToken_18B (F_Tape_endOfToken_18 C f) (nI j) C = _
    unfold F_Tape_endOfToken_18B rn
    cases e : dgt (b j)
    · simp (disch := omega) only [↓g_in, ↓g_c0, ↓g_c1, ↓reduceIte, ↓y_lt, ↓y_q1, ↓y_q2, ↓sn_q3, ↓sn_t1l, ↓sn_t1r, ↓sn_t2l, ↓sn_t2r, y_q1, y_q2, sn_q3, sn_t1l, sn_t1r, sn_t2l, sn_t2r, nI_clamp, x_leT, x_leF, x_ltT, x_ltF, x_eqT, x_eqF, x_le0T, x_le0F, x_0leT, x_lt0F, x_0ltT, x_0ltF, x_eq0T, x_eq0F, x_le1T, x_le1F, x_1leT, x_1leF, x_1ltT, x_1ltF, x_lt1T, x_lt1F, x_eq1T, x_eq1F, x_m1F, nI_add, nI_1, sn_mul, x_sub, x_sub1, sn_m1, l2, l3, l4, l5, l6, l7, l8, l9, l10, l11, l12, l13, l14, l15, l20, l30, l40, l48, l60, l64, l99, l100, l700, l999, not_true_eq_false, not_false_eq_true, x_t0, x_t1, lts1, x_10, x_1sub, eq_self, Nat.reduceSub, Nat.reduceAdd, Nat.reduceMul, h.2.1, ↓q1_of (c_byte h (show j < n by omega)), ↓q1_of (c_digit (h.2.2 j (show j < n by omega)).1), e]
      rfl
    · simp (disch := omega) only [↓g_in, ↓g_c0, ↓g_c1, ↓reduceIte, ↓y_lt, ↓y_q1, ↓y_q2, ↓sn_q3, ↓sn_t1l, ↓sn_t1r, ↓sn_t2l, ↓sn_t2r, y_q1, y_q2, sn_q3, sn_t1l, sn_t1r, sn_t2l, sn_t2r, nI_clamp, x_leT, x_leF, x_ltT, x_ltF, x_eqT, x_eqF, x_le0T, x_le0F, x_0leT, x_lt0F, x_0ltT, x_0ltF, x_eq0T, x_eq0F, x_le1T, x_le1F, x_1leT, x_1leF, x_1ltT, x_1ltF, x_lt1T, x_lt1F, x_eq1T, x_eq1F, x_m1F, nI_add, nI_1, sn_mul, x_sub, x_sub1, sn_m1, l2, l3, l4, l5, l6, l7, l8, l9, l10, l11, l12, l13, l14, l15, l20, l30, l40, l48, l60, l64, l99, l100, l700, l999, not_true_eq_false, not_false_eq_true, x_t0, x_t1, lts1, x_10, x_1sub, eq_self, Nat.reduceSub, Nat.reduceAdd, Nat.reduceMul, h.2.1, ↓q1_of (c_byte h (show j < n by omega)), ↓q1_of (c_digit (h.2.2 j (show j < n by omega)).1), e, ih]
theorem c_endT {i : Nat} (h : tb b n C) (hi : i < n) : ∃ r, F_Tape_endOfToken (nI i) C = some (nI r) ∧ r ≤ n ∧ (if i + 1 < r then r else i + 1) = te b n i := by
  have h1 := h.1
  have hle := rn_le (p := ltr) (b := b) (n - i) i
  have hle2 := rn_le (p := dgt) (b := b) (n - i) i
  unfold F_Tape_endOfToken te
  cases e : ltr (b i)
  · refine ⟨rn dgt b (n - i) i, ?_, by omega, ?_⟩
    · have := c_run18 h (n - i) i sd_fu (by omega) (by rw [sd_fu_val]; omega)
      simp (disch := omega) only [↓g_in, ↓g_c0, ↓g_c1, ↓reduceIte, ↓y_lt, ↓y_q1, ↓y_q2, ↓sn_q3, ↓sn_t1l, ↓sn_t1r, ↓sn_t2l, ↓sn_t2r, y_q1, y_q2, sn_q3, sn_t1l, sn_t1r, sn_t2l, sn_t2r, nI_clamp, x_leT, x_leF, x_ltT, x_ltF, x_eqT, x_eqF, x_le0T, x_le0F, x_0leT, x_lt0F, x_0ltT, x_0ltF, x_eq0T, x_eq0F, x_le1T, x_le1F, x_1leT, x_1leF, x_1ltT, x_1ltF, x_lt1T, x_lt1F, x_eq1T, x_eq1F, x_m1F, nI_add, nI_1, sn_mul, x_sub, x_sub1, sn_m1, l2, l3, l4, l5, l6, l7, l8, l9, l10, l11, l12, l13, l14, l15, l20, l30, l40, l48, l60, l64, l99, l100, l700, l999, not_true_eq_false, not_false_eq_true, x_t0, x_t1, lts1, x_10, x_1sub, eq_self, Nat.reduceSub, Nat.reduceAdd, Nat.reduceMul, ↓q1_of (c_byte h hi), ↓q1_of (c_letter (h.2.2 i hi).1), e]
      exact this
    · obtain ⟨m, hm⟩ : ∃ m, n - i = m + 1 := ⟨n - i - 1, by omega⟩
      rw [if_neg (show ¬ (false = true) by decide)]
      cases e2 : dgt (b i)
      · rw [hm]
        unfold rn
        rw [e2, if_neg (show ¬ (false = true) by decide), if_neg (by omega), if_neg (show ¬ (false = true) by decide)]
      · rw [if_pos rfl, hm]
        unfold rn
        rw [e2, if_pos rfl]
        have := rn_le (p := dgt) (b := b) m (i + 1)
        split <;> omega
  · refine ⟨rn ltr b (n - i) i, ?_, by omega, ?_⟩
    · have := c_run7 h (n - i) i sd_fu (by omega) (by rw [sd_fu_val]; omega)
      simp (disch := omega) only [↓g_in, ↓g_c0, ↓g_c1, ↓reduceIte, ↓y_lt, ↓y_q1, ↓y_q2, ↓sn_q3, ↓sn_t1l, ↓sn_t1r, ↓sn_t2l, ↓sn_t2r, y_q1, y_q2, sn_q3, sn_t1l, sn_t1r, sn_t2l, sn_t2r, nI_clamp, x_leT, x_leF, x_ltT, x_ltF, x_eqT, x_eqF, x_le0T, x_le0F, x_0leT, x_lt0F, x_0ltT, x_0ltF, x_eq0T, x_eq0F, x_le1T, x_le1F, x_1leT, x_1leF, x_1ltT, x_1ltF, x_lt1T, x_lt1F, x_eq1T, x_eq1F, x_m1F, nI_add, nI_1, sn_mul, x_sub, x_sub1, sn_m1, l2, l3, l4, l5, l6, l7, l8, l9, l10, l11, l12, l13, l14, l15, l20, l30, l40, l48, l60, l64, l99, l100, l700, l999, not_true_eq_false, not_false_eq_true, x_t0, x_t1, lts1, x_10, x_1sub, eq_self, Nat.reduceSub, Nat.reduceAdd, Nat.reduceMul, ↓q1_of (c_byte h hi), ↓q1_of (c_letter (h.2.2 i hi).1), e]
      exact this
    · obtain ⟨m, hm⟩ : ∃ m, n - i = m + 1 := ⟨n - i - 1, by omega⟩
      rw [if_pos rfl, hm]
      unfold rn
      rw [e, if_pos rfl]
      have := rn_le (p := ltr) (b := b) m (i + 1)
      split <;> omega
theorem c_numB (h : tb b n C) (to : Nat) (hto : to ≤ n) : ∀ m i a f, i + m = to → m < f → a * 10 ^ m + 10 ^ m ≤ 10 ^ 6 → (∀ j, j < m → dgt (b (i + j)) = true) → F_Tape_numberBetween_11 C f (nI to) (nI a) (nI i) = some (nI (10000 + nvl b m i a))
  | 0, i, a, f, hj, hf, ha, hd => by
    obtain ⟨f, rfl⟩ : ∃ g, f = g + 1 := ⟨f - 1, by omega⟩
    have h1 := h.1
    show F_Tape_numberBetween_11B _ (nI to) (nI a) (nI i) C = _
    unfold F_Tape_numberBetween_11B
    simp (disch := omega) only [↓g_in, ↓g_c0, ↓g_c1, ↓reduceIte, ↓y_lt, ↓y_q1, ↓y_q2, ↓sn_q3, ↓sn_t1l, ↓sn_t1r, ↓sn_t2l, ↓sn_t2r, y_q1, y_q2, sn_q3, sn_t1l, sn_t1r, sn_t2l, sn_t2r, nI_clamp, x_leT, x_leF, x_ltT, x_ltF, x_eqT, x_eqF, x_le0T, x_le0F, x_0leT, x_lt0F, x_0ltT, x_0ltF, x_eq0T, x_eq0F, x_le1T, x_le1F, x_1leT, x_1leF, x_1ltT, x_1ltF, x_lt1T, x_lt1F, x_eq1T, x_eq1F, x_m1F, nI_add, nI_1, sn_mul, x_sub, x_sub1, sn_m1, l2, l3, l4, l5, l6, l7, l8, l9, l10, l11, l12, l13, l14, l15, l20, l30, l40, l48, l60, l64, l99, l100, l700, l999, not_true_eq_false, not_false_eq_true, x_t0, x_t1, lts1, x_10, x_1sub, eq_self, Nat.reduceSub, Nat.reduceAdd, Nat.reduceMul, l10000]
    rfl
  | m + 1, i, a, f, hj, hf, ha, hd => by
    obtain ⟨f, rfl⟩ : ∃ g, f = g + 1 := ⟨f - 1, by omega⟩
    have h1 := h.1
    have h0 := dgt_iff.mp (hd 0 (by omega))
    rw [Nat.add_zero] at h0
    have ih := c_numB h to hto m (i + 1) (a * 10 + b i - 48) f (by omega) (by omega) (by
      refine Nat.le_trans ?_ ha
      rw [Nat.pow_succ, show a * (10 ^ m * 10) + 10 ^ m * 10 = (a * 10) * 10 ^ m + 10 * 10 ^ m by rw [Nat.mul_comm (10 ^ m) 10, ← Nat.mul_assoc], ← Nat.add_mul, ← Nat.succ_mul]
      exact Nat.mul_le_mul_right _ (by omega)) (fun j hj => by rw [show i + 1 + j = i + (j + 1) by omega]; exact hd (j + 1) (by omega))
    show F_Tape_numberBetween_11B (F_Tape_numberBetween_11 C f) (nI to) (nI a) (nI i) C = _
    unfold F_Tape_numberBetween_11B
    simp (disch := omega) only [↓g_in, ↓g_c0, ↓g_c1, ↓reduceIte, ↓y_lt, ↓y_q1, ↓y_q2, ↓sn_q3, ↓sn_t1l, ↓sn_t1r, ↓sn_t2l, ↓sn_t2r, y_q1, y_q2, sn_q3, sn_t1l, sn_t1r, sn_t2l, sn_t2r, nI_clamp, x_leT, x_leF, x_ltT, x_ltF, x_eqT, x_eqF, x_le0T, x_le0F, x_0leT, x_lt0F, x_0ltT, x_0ltF, x_eq0T, x_eq0F, x_le1T, x_le1F, x_1leT, x_1leF, x_1ltT, x_1ltF, x_lt1T, x_lt1F, x_eq1T, x_eq1F, x_m1F, nI_add, nI_1, sn_mul, x_sub, x_sub1, sn_m1, l2, l3, l4, l5, l6, l7, l8, l9, l10, l11, l12, l13, l14, l15, l20, l30, l40, l48, l60, l64, l99, l100, l700, l999, not_true_eq_false, not_false_eq_true, x_t0, x_t1, lts1, x_10, x_1sub, eq_self, Nat.reduceSub, Nat.reduceAdd, Nat.reduceMul, ↓q1_of (c_byte h (show i < n by omega)), ih]
    rfl
theorem c_number {i : Nat} (h : tb b n C) (hi : i < n) (hl : ltr (b i) = false) (hd : dgt (b i) = true) : F_Tape_numberBetween (nI i) (nI (te b n i)) C = some (nI (if te b n i - i ≤ 4 then 10000 + nvl b (te b n i - i) i 0 else 31)) := by
  have h1 := h.1
  have h2 := te_le (b := b) hi
  unfold F_Tape_numberBetween
  by_cases e : te b n i - i ≤ 4
  · rw [if_pos e]
    have := c_numB h (te b n i) h2.2 (te b n i - i) i 0 sd_fu (by omega) (by rw [sd_fu_val]; omega) (by
      have : 10 ^ (te b n i - i) ≤ 10 ^ 4 := Nat.pow_le_pow_right (by omega) e
      omega) (fun j hj => te_dg hi hl hd j (by omega))
    simp (disch := omega) only [↓g_in, ↓g_c0, ↓g_c1, ↓reduceIte, ↓y_lt, ↓y_q1, ↓y_q2, ↓sn_q3, ↓sn_t1l, ↓sn_t1r, ↓sn_t2l, ↓sn_t2r, y_q1, y_q2, sn_q3, sn_t1l, sn_t1r, sn_t2l, sn_t2r, nI_clamp, x_leT, x_leF, x_ltT, x_ltF, x_eqT, x_eqF, x_le0T, x_le0F, x_0leT, x_lt0F, x_0ltT, x_0ltF, x_eq0T, x_eq0F, x_le1T, x_le1F, x_1leT, x_1leF, x_1ltT, x_1ltF, x_lt1T, x_lt1F, x_eq1T, x_eq1F, x_m1F, nI_add, nI_1, sn_mul, x_sub, x_sub1, sn_m1, l2, l3, l4, l5, l6, l7, l8, l9, l10, l11, l12, l13, l14, l15, l20, l30, l40, l48, l60, l64, l99, l100, l700, l999, not_true_eq_false, not_false_eq_true, x_t0, x_t1, lts1, x_10, x_1sub, eq_self, Nat.reduceSub, Nat.reduceAdd, Nat.reduceMul]
    exact this
  · rw [if_neg e]
    simp (disch := omega) only [↓g_in, ↓g_c0, ↓g_c1, ↓reduceIte, ↓y_lt, ↓y_q1, ↓y_q2, ↓sn_q3, ↓sn_t1l, ↓sn_t1r, ↓sn_t2l, ↓sn_t2r, y_q1, y_q2, sn_q3, sn_t1l, sn_t1r, sn_t2l, sn_t2r, nI_clamp, x_leT, x_leF, x_ltT, x_ltF, x_eqT, x_eqF, x_le0T, x_le0F, x_0leT, x_lt0F, x_0ltT, x_0ltF, x_eq0T, x_eq0F, x_le1T, x_le1F, x_1leT, x_1leF, x_1ltT, x_1ltF, x_lt1T, x_lt1F, x_eq1T, x_eq1F, x_m1F, nI_add, nI_1, sn_mul, x_sub, x_sub1, sn_m1, l2, l3, l4, l5, l6, l7, l8, l9, l10, l11, l12, l13, l14, l15, l20, l30, l40, l48, l60, l64, l99, l100, l700, l999, not_true_eq_false, not_false_eq_true, x_t0, x_t1, lts1, x_10, x_1sub, eq_self, Nat.reduceSub, Nat.reduceAdd, Nat.reduceMul, l31]
theorem c_same {i w : Nat} (h : tb b n C) (hw : w < 24) (hi : i + wln w ≤ n) : ∀ m j f, j + m = wln w → m < f → F_Tape_sameLetters_2 C f (nI (wsx w)) (nI (wsx w + wln w)) (nI i) (nI (wsx w + j)) = some (if sbt txt m (wsx w + j) = sbt b m (i + j) then 1 else 0)
  | 0, j, f, hj, hf => by
    obtain ⟨f, rfl⟩ : ∃ g, f = g + 1 := ⟨f - 1, by omega⟩
    have h1 := wsx_ok w hw
    show F_Tape_sameLetters_2B _ (nI (wsx w)) (nI (wsx w + wln w)) (nI i) (nI (wsx w + j)) C = _
    unfold F_Tape_sameLetters_2B
    rw [sbt_0, sbt_0, if_pos rfl]
    simp (disch := omega) only [↓g_in, ↓g_c0, ↓g_c1, ↓reduceIte, ↓y_lt, ↓y_q1, ↓y_q2, ↓sn_q3, ↓sn_t1l, ↓sn_t1r, ↓sn_t2l, ↓sn_t2r, y_q1, y_q2, sn_q3, sn_t1l, sn_t1r, sn_t2l, sn_t2r, nI_clamp, x_leT, x_leF, x_ltT, x_ltF, x_eqT, x_eqF, x_le0T, x_le0F, x_0leT, x_lt0F, x_0ltT, x_0ltF, x_eq0T, x_eq0F, x_le1T, x_le1F, x_1leT, x_1leF, x_1ltT, x_1ltF, x_lt1T, x_lt1F, x_eq1T, x_eq1F, x_m1F, nI_add, nI_1, sn_mul, x_sub, x_sub1, sn_m1, l2, l3, l4, l5, l6, l7, l8, l9, l10, l11, l12, l13, l14, l15, l20, l30, l40, l48, l60, l64, l99, l100, l700, l999, not_true_eq_false, not_false_eq_true, x_t0, x_t1, lts1, x_10, x_1sub, eq_self, Nat.reduceSub, Nat.reduceAdd, Nat.reduceMul]
  | m + 1, j, f, hj, hf => by
    obtain ⟨f, rfl⟩ : ∃ g, f = g + 1 := ⟨f - 1, by omega⟩
    have h1 := wsx_ok w hw
    have hn := h.1
    have ih := c_same h hw hi m (j + 1) f (by omega) (by omega)
    rw [show wsx w + (j + 1) = wsx w + j + 1 by omega, show i + (j + 1) = i + j + 1 by omega] at ih
    have hl := ltr_iff.mp (h1.2.2.2.2.2 j (by omega) (by omega))
    have hb := (h.2.2 (i + j) (by omega)).1
    have e1 : i + (wsx w + j) - wsx w = i + j := by omega
    show F_Tape_sameLetters_2B (F_Tape_sameLetters_2 C f) (nI (wsx w)) (nI (wsx w + wln w)) (nI i) (nI (wsx w + j)) C = _
    unfold F_Tape_sameLetters_2B
    have e2 : Int32.ofNat (sm_text.getD (wsx w + j) 0) = nI (txt (wsx w + j)) := rfl
    unfold sbt
    by_cases e : txt (wsx w + j) = b (i + j)
    · simp (disch := omega) only [↓g_in, ↓g_c0, ↓g_c1, ↓reduceIte, ↓y_lt, ↓y_q1, ↓y_q2, ↓sn_q3, ↓sn_t1l, ↓sn_t1r, ↓sn_t2l, ↓sn_t2r, y_q1, y_q2, sn_q3, sn_t1l, sn_t1r, sn_t2l, sn_t2r, nI_clamp, x_leT, x_leF, x_ltT, x_ltF, x_eqT, x_eqF, x_le0T, x_le0F, x_0leT, x_lt0F, x_0ltT, x_0ltF, x_eq0T, x_eq0F, x_le1T, x_le1F, x_1leT, x_1leF, x_1ltT, x_1ltF, x_lt1T, x_lt1F, x_eq1T, x_eq1F, x_m1F, nI_add, nI_1, sn_mul, x_sub, x_sub1, sn_m1, l2, l3, l4, l5, l6, l7, l8, l9, l10, l11, l12, l13, l14, l15, l20, l30, l40, l48, l60, l64, l99, l100, l700, l999, not_true_eq_false, not_false_eq_true, x_t0, x_t1, lts1, x_10, x_1sub, eq_self, Nat.reduceSub, Nat.reduceAdd, Nat.reduceMul, l130, e1, ↓q1_of (c_byte h (show i + j < n by omega)), e2, e, ih]
      simp only [List.cons.injEq, true_and]
    · rw [if_neg (fun z => e (List.cons.inj z).1)]
      simp (disch := omega) only [↓g_in, ↓g_c0, ↓g_c1, ↓reduceIte, ↓y_lt, ↓y_q1, ↓y_q2, ↓sn_q3, ↓sn_t1l, ↓sn_t1r, ↓sn_t2l, ↓sn_t2r, y_q1, y_q2, sn_q3, sn_t1l, sn_t1r, sn_t2l, sn_t2r, nI_clamp, x_leT, x_leF, x_ltT, x_ltF, x_eqT, x_eqF, x_le0T, x_le0F, x_0leT, x_lt0F, x_0ltT, x_0ltF, x_eq0T, x_eq0F, x_le1T, x_le1F, x_1leT, x_1leF, x_1ltT, x_1ltF, x_lt1T, x_lt1F, x_eq1T, x_eq1F, x_m1F, nI_add, nI_1, sn_mul, x_sub, x_sub1, sn_m1, l2, l3, l4, l5, l6, l7, l8, l9, l10, l11, l12, l13, l14, l15, l20, l30, l40, l48, l60, l64, l99, l100, l700, l999, not_true_eq_false, not_false_eq_true, x_t0, x_t1, lts1, x_10, x_1sub, eq_self, Nat.reduceSub, Nat.reduceAdd, Nat.reduceMul, l130, e1, ↓q1_of (c_byte h (show i + j < n by omega)), e2]
theorem c_wskip {i to w : Nat} (hw : w < 24) : ∀ m j f, j + m = wln w → F_Tape_wordBetween_6 C (f + m) (nI i) (nI to) (nI w) (nI (wsx w)) (nI (wsx w + j)) = F_Tape_wordBetween_6 C f (nI i) (nI to) (nI w) (nI (wsx w)) (nI (wsx w + wln w))
  | 0, j, f, hj => by rw [show wsx w + j = wsx w + wln w by omega]; rfl
  | m + 1, j, f, hj => by
    have h1 := wsx_ok w hw
    have ih := c_wskip (i := i) (to := to) hw m (j + 1) f (by omega)
    rw [← ih]
    have hl := ltr_iff.mp (h1.2.2.2.2.2 j (by omega) (by omega))
    have e2 : Int32.ofNat (sm_text.getD (wsx w + j) 0) = nI (txt (wsx w + j)) := rfl
    show F_Tape_wordBetween_6B (F_Tape_wordBetween_6 C (f + m)) (nI i) (nI to) (nI w) (nI (wsx w)) (nI (wsx w + j)) C = _
    unfold F_Tape_wordBetween_6B
    simp (disch := omega) only [↓g_in, ↓g_c0, ↓g_c1, ↓reduceIte, ↓y_lt, ↓y_q1, ↓y_q2, ↓sn_q3, ↓sn_t1l, ↓sn_t1r, ↓sn_t2l, ↓sn_t2r, y_q1, y_q2, sn_q3, sn_t1l, sn_t1r, sn_t2l, sn_t2r, nI_clamp, x_leT, x_leF, x_ltT, x_ltF, x_eqT, x_eqF, x_le0T, x_le0F, x_0leT, x_lt0F, x_0ltT, x_0ltF, x_eq0T, x_eq0F, x_le1T, x_le1F, x_1leT, x_1leF, x_1ltT, x_1ltF, x_lt1T, x_lt1F, x_eq1T, x_eq1F, x_m1F, nI_add, nI_1, sn_mul, x_sub, x_sub1, sn_m1, l2, l3, l4, l5, l6, l7, l8, l9, l10, l11, l12, l13, l14, l15, l20, l30, l40, l48, l60, l64, l99, l100, l700, l999, not_true_eq_false, not_false_eq_true, x_t0, x_t1, lts1, x_10, x_1sub, eq_self, Nat.reduceSub, Nat.reduceAdd, Nat.reduceMul, l130, e2, l32]
    rfl
theorem c_words {i to : Nat} (h : tb b n C) (hi : i < to) (hto : to ≤ n) : ∀ m w f, w + m = 24 → 8 * m < f → F_Tape_wordBetween_6 C f (nI i) (nI to) (nI w) (nI (wsx w)) (nI (wsx w)) = some (nI (wif b i (to - i) m w))
  | 0, w, f, hw, hf => by
    obtain ⟨f, rfl⟩ : ∃ g, f = g + 1 := ⟨f - 1, by omega⟩
    obtain rfl : w = 24 := by omega
    have hu : ∀ a c d, F_Tape_wordBetween_6 C (f + 1) (nI i) (nI to) a c d = F_Tape_wordBetween_6B (F_Tape_wordBetween_6 C f) (nI i) (nI to) a c d C := fun _ _ _ => rfl
    rw [hu]
    unfold F_Tape_wordBetween_6B
    rw [wsx_24]
    simp (disch := omega) only [↓g_in, ↓g_c0, ↓g_c1, ↓reduceIte, ↓y_lt, ↓y_q1, ↓y_q2, ↓sn_q3, ↓sn_t1l, ↓sn_t1r, ↓sn_t2l, ↓sn_t2r, y_q1, y_q2, sn_q3, sn_t1l, sn_t1r, sn_t2l, sn_t2r, nI_clamp, x_leT, x_leF, x_ltT, x_ltF, x_eqT, x_eqF, x_le0T, x_le0F, x_0leT, x_lt0F, x_0ltT, x_0ltF, x_eq0T, x_eq0F, x_le1T, x_le1F, x_1leT, x_1leF, x_1ltT, x_1ltF, x_lt1T, x_lt1F, x_eq1T, x_eq1F, x_m1F, nI_add, nI_1, sn_mul, x_sub, x_sub1, sn_m1, l2, l3, l4, l5, l6, l7, l8, l9, l10, l11, l12, l13, l14, l15, l20, l30, l40, l48, l60, l64, l99, l100, l700, l999, not_true_eq_false, not_false_eq_true, x_t0, x_t1, lts1, x_10, x_1sub, eq_self, Nat.reduceSub, Nat.reduceAdd, Nat.reduceMul, l130, l24]
    rfl
  | m + 1, w, f, hw, hf => by
    have h1 := wsx_ok w (by omega)
    have hn := h.1
    obtain ⟨f, rfl⟩ : ∃ g, f = g + 1 + wln w := ⟨f - 1 - wln w, by omega⟩
    have sk : F_Tape_wordBetween_6 C (f + 1 + wln w) (nI i) (nI to) (nI w) (nI (wsx w)) (nI (wsx w)) = _ := c_wskip (C := C) (i := i) (to := to) (w := w) (by omega) (wln w) 0 (f + 1) (by omega)
    rw [sk]
    have ih := c_words h hi hto m (w + 1) f (by omega) (by omega)
    rw [← h1.1] at ih
    show F_Tape_wordBetween_6B (F_Tape_wordBetween_6 C f) (nI i) (nI to) (nI w) (nI (wsx w)) (nI (wsx w + wln w)) C = _
    unfold F_Tape_wordBetween_6B wif
    have e2 : Int32.ofNat (sm_text.getD (wsx w + wln w) 0) = nI (txt (wsx w + wln w)) := rfl
    by_cases e : wln w = to - i
    · have sm := c_same h (show w < 24 by omega) (show i + wln w ≤ n by omega) (wln w) 0 sd_fu (by omega) (by rw [sd_fu_val]; omega)
      rw [Nat.add_zero, Nat.add_zero] at sm
      have sm : F_Tape_sameLetters (nI (wsx w)) (nI (wsx w + wln w)) (nI i) C = _ := sm
      by_cases g : sbt txt (wln w) (wsx w) = sbt b (wln w) i
      · rw [if_pos g] at sm
        rw [if_pos (show isw b i (to - i) w = true by unfold isw; rw [← e, g, decide_eq_true rfl, decide_eq_true rfl]; rfl)]
        simp (disch := omega) only [↓g_in, ↓g_c0, ↓g_c1, ↓reduceIte, ↓y_lt, ↓y_q1, ↓y_q2, ↓sn_q3, ↓sn_t1l, ↓sn_t1r, ↓sn_t2l, ↓sn_t2r, y_q1, y_q2, sn_q3, sn_t1l, sn_t1r, sn_t2l, sn_t2r, nI_clamp, x_leT, x_leF, x_ltT, x_ltF, x_eqT, x_eqF, x_le0T, x_le0F, x_0leT, x_lt0F, x_0ltT, x_0ltF, x_eq0T, x_eq0F, x_le1T, x_le1F, x_1leT, x_1leF, x_1ltT, x_1ltF, x_lt1T, x_lt1F, x_eq1T, x_eq1F, x_m1F, nI_add, nI_1, sn_mul, x_sub, x_sub1, sn_m1, l2, l3, l4, l5, l6, l7, l8, l9, l10, l11, l12, l13, l14, l15, l20, l30, l40, l48, l60, l64, l99, l100, l700, l999, not_true_eq_false, not_false_eq_true, x_t0, x_t1, lts1, x_10, x_1sub, eq_self, Nat.reduceSub, Nat.reduceAdd, Nat.reduceMul, l130, e2, l32, h1.2.2.2.2.1, ↓q1_of sm]
      · rw [if_neg g] at sm
        rw [if_neg (show ¬ isw b i (to - i) w = true by unfold isw; rw [← e, decide_eq_false g, Bool.and_false]; decide)]
        simp (disch := omega) only [↓g_in, ↓g_c0, ↓g_c1, ↓reduceIte, ↓y_lt, ↓y_q1, ↓y_q2, ↓sn_q3, ↓sn_t1l, ↓sn_t1r, ↓sn_t2l, ↓sn_t2r, y_q1, y_q2, sn_q3, sn_t1l, sn_t1r, sn_t2l, sn_t2r, nI_clamp, x_leT, x_leF, x_ltT, x_ltF, x_eqT, x_eqF, x_le0T, x_le0F, x_0leT, x_lt0F, x_0ltT, x_0ltF, x_eq0T, x_eq0F, x_le1T, x_le1F, x_1leT, x_1leF, x_1ltT, x_1ltF, x_lt1T, x_lt1F, x_eq1T, x_eq1F, x_m1F, nI_add, nI_1, sn_mul, x_sub, x_sub1, sn_m1, l2, l3, l4, l5, l6, l7, l8, l9, l10, l11, l12, l13, l14, l15, l20, l30, l40, l48, l60, l64, l99, l100, l700, l999, not_true_eq_false, not_false_eq_true, x_t0, x_t1, lts1, x_10, x_1sub, eq_self, Nat.reduceSub, Nat.reduceAdd, Nat.reduceMul, l130, e2, l32, h1.2.2.2.2.1, ↓q1_of sm, ih]
    · rw [if_neg (show ¬ isw b i (to - i) w = true by unfold isw; rw [decide_eq_false e, Bool.false_and]; decide)]
      simp (disch := omega) only [↓g_in, ↓g_c0, ↓g_c1, ↓reduceIte, ↓y_lt, ↓y_q1, ↓y_q2, ↓sn_q3, ↓sn_t1l, ↓sn_t1r, ↓sn_t2l, ↓sn_t2r, y_q1, y_q2, sn_q3, sn_t1l, sn_t1r, sn_t2l, sn_t2r, nI_clamp, x_leT, x_leF, x_ltT, x_ltF, x_eqT, x_eqF, x_le0T, x_le0F, x_0leT, x_lt0F, x_0ltT, x_0ltF, x_eq0T, x_eq0F, x_le1T, x_le1F, x_1leT, x_1leF, x_1ltT, x_1ltF, x_lt1T, x_lt1F, x_eq1T, x_eq1F, x_m1F, nI_add, nI_1, sn_mul, x_sub, x_sub1, sn_m1, l2, l3, l4, l5, l6, l7, l8, l9, l10, l11, l12, l13, l14, l15, l20, l30, l40, l48, l60, l64, l99, l100, l700, l999, not_true_eq_false, not_false_eq_true, x_t0, x_t1, lts1, x_10, x_1sub, eq_self, Nat.reduceSub, Nat.reduceAdd, Nat.reduceMul, l130, e2, l32, h1.2.2.2.2.1, ih]
theorem kd_sg : ∀ x, x < 256 → (if nI x = 40 then some (1000 + nI x) else if nI x = 41 then some (1000 + nI x) else if nI x = 42 then some (1000 + nI x) else if nI x = 43 then some (1000 + nI x) else if nI x = 44 then some 32
  else if nI x = 45 then some (1000 + nI x) else if nI x = 46 then some 32 else if nI x = 47 then some (1000 + nI x) else if nI x = 48 then some 32 else if nI x = 49 then some 32 else if nI x = 50 then some 32 else if nI x = 51 then some 32
  else if nI x = 52 then some 32 else if nI x = 53 then some 32 else if nI x = 54 then some 32 else if nI x = 55 then some 32 else if nI x = 56 then some 32 else if nI x = 57 then some 32 else if nI x = 58 then some 32
  else if nI x = 59 then some (1000 + nI x) else if nI x = 60 then some (1000 + nI x) else if nI x = 61 then some (1000 + nI x) else some 32) = some (nI (if sgn x then 1000 + x else 32)) := by decide +kernel
theorem c_kind {i : Nat} (h : tb b n C) (hi : i < n) : F_Tape_kindBetween (nI i) (nI (te b n i)) C = some (nI (kd b n i)) := by
  have h1 := te_le (b := b) hi
  have hb := (h.2.2 i hi).1
  have cl := c_letter hb
  have cd := c_digit hb
  unfold F_Tape_kindBetween kd
  cases e : ltr (b i)
  · rw [e] at cl
    have cl : F_Tape_isLetter (nI (b i)) = some 0 := cl
    rw [if_neg (show ¬ (false = true) by decide)]
    cases g : dgt (b i)
    · rw [g] at cd
      have cd : F_Tape_isDigit (nI (b i)) = some 0 := cd
      have no := dgt_no.mp g
      rw [if_neg (show ¬ (false = true) by decide)]
      rw [q1_of (c_byte h hi), q1_of cl, if_pos rfl, q1_of cd, if_pos rfl]
      exact kd_sg _ hb
    · rw [g] at cd
      have cd : F_Tape_isDigit (nI (b i)) = some 1 := cd
      rw [if_pos rfl]
      simp (disch := omega) only [↓g_in, ↓g_c0, ↓g_c1, ↓reduceIte, ↓y_lt, ↓y_q1, ↓y_q2, ↓sn_q3, ↓sn_t1l, ↓sn_t1r, ↓sn_t2l, ↓sn_t2r, y_q1, y_q2, sn_q3, sn_t1l, sn_t1r, sn_t2l, sn_t2r, nI_clamp, x_leT, x_leF, x_ltT, x_ltF, x_eqT, x_eqF, x_le0T, x_le0F, x_0leT, x_lt0F, x_0ltT, x_0ltF, x_eq0T, x_eq0F, x_le1T, x_le1F, x_1leT, x_1leF, x_1ltT, x_1ltF, x_lt1T, x_lt1F, x_eq1T, x_eq1F, x_m1F, nI_add, nI_1, sn_mul, x_sub, x_sub1, sn_m1, l2, l3, l4, l5, l6, l7, l8, l9, l10, l11, l12, l13, l14, l15, l20, l30, l40, l48, l60, l64, l99, l100, l700, l999, not_true_eq_false, not_false_eq_true, x_t0, x_t1, lts1, x_10, x_1sub, eq_self, Nat.reduceSub, Nat.reduceAdd, Nat.reduceMul, ↓q1_of (c_byte h hi), ↓q1_of cl, ↓q1_of cd, ↓q1_of (c_number h hi e g)]
  · rw [e] at cl
    have cl : F_Tape_isLetter (nI (b i)) = some 1 := cl
    rw [if_pos rfl]
    have ww : F_Tape_wordBetween (nI i) (nI (te b n i)) C = _ := c_words h h1.1 h1.2 24 0 sd_fu (by omega) (by rw [sd_fu_val]; omega)
    simp (disch := omega) only [↓g_in, ↓g_c0, ↓g_c1, ↓reduceIte, ↓y_lt, ↓y_q1, ↓y_q2, ↓sn_q3, ↓sn_t1l, ↓sn_t1r, ↓sn_t2l, ↓sn_t2r, y_q1, y_q2, sn_q3, sn_t1l, sn_t1r, sn_t2l, sn_t2r, nI_clamp, x_leT, x_leF, x_ltT, x_ltF, x_eqT, x_eqF, x_le0T, x_le0F, x_0leT, x_lt0F, x_0ltT, x_0ltF, x_eq0T, x_eq0F, x_le1T, x_le1F, x_1leT, x_1leF, x_1ltT, x_1ltF, x_lt1T, x_lt1F, x_eq1T, x_eq1F, x_m1F, nI_add, nI_1, sn_mul, x_sub, x_sub1, sn_m1, l2, l3, l4, l5, l6, l7, l8, l9, l10, l11, l12, l13, l14, l15, l20, l30, l40, l48, l60, l64, l99, l100, l700, l999, not_true_eq_false, not_false_eq_true, x_t0, x_t1, lts1, x_10, x_1sub, eq_self, Nat.reduceSub, Nat.reduceAdd, Nat.reduceMul, ↓q1_of (c_byte h hi), ↓q1_of cl, ↓q1_of ww]
end TP
