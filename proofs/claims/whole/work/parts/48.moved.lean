/-! ===== the fewest notes that are moved ===== -/
def wi (v lo hi : Int) : Bool := decide (lo ≤ v) && decide (v ≤ hi)
def mv0 (A : sA) (r lo hi i : Nat) : Bool := wi (A 8 (12 * r + i)) lo hi
def mv1 (A : sA) (r lo hi i : Nat) : Bool := wi ((A 8 (12 * r + i) : Int) - 12) lo hi || wi ((A 8 (12 * r + i) : Int) + 12) lo hi
def mvo (A : sA) (r lo hi : Nat) : Bool := al (fun i => mv0 A r lo hi i || mv1 A r lo hi i) (A 7 r) 0
def mvn (A : sA) (r lo hi : Nat) : Nat := cn (fun i => !mv0 A r lo hi i) (A 7 r)
/-- 1000: it can't be done -/
def mvN (A : sA) (r lo hi : Nat) : Nat := if mvo A r lo hi then mvn A r lo hi else 1000
theorem wi_mono {v lo hi lo' hi' : Int} (h1 : lo' ≤ lo) (h2 : hi ≤ hi') (h : wi v lo hi = true) : wi v lo' hi' = true := by
  unfold wi at h ⊢
  simp only [Bool.and_eq_true, decide_eq_true_eq] at h ⊢
  omega
theorem mvN_mono {A : sA} {r lo hi lo' hi' : Nat} (h12 : A 7 r ≤ 12) (h1 : lo' ≤ lo) (h2 : hi ≤ hi') : mvN A r lo' hi' ≤ mvN A r lo hi := by
  have m0 : ∀ i, mv0 A r lo hi i = true → mv0 A r lo' hi' i = true := fun i h => wi_mono (by omega) (by omega) h
  have m1 : ∀ i, mv1 A r lo hi i = true → mv1 A r lo' hi' i = true := fun i h => by
    unfold mv1 at h ⊢
    rw [Bool.or_eq_true] at h ⊢
    exact h.imp (wi_mono (by omega) (by omega)) (wi_mono (by omega) (by omega))
  have b1 : mvn A r lo' hi' ≤ 12 := Nat.le_trans (cn_le _ _) h12
  unfold mvN
  by_cases h : mvo A r lo hi = true
  · have h' : mvo A r lo' hi' = true := by
      unfold mvo at h ⊢
      rw [al_iff] at h ⊢
      intro i h3 h4
      have := h i h3 h4
      rw [Bool.or_eq_true] at this ⊢
      exact this.imp (m0 i) (m1 i)
    rw [if_pos h, if_pos h']
    unfold mvn
    refine cn_mono (fun i _ hb => ?_)
    cases e : mv0 A r lo hi i
    · rfl
    · rw [m0 i e] at hb; exact hb
  · rw [if_neg h]
    split <;> omega
theorem mvN_b {A : sA} {r lo hi : Nat} (h12 : A 7 r ≤ 12) : mvN A r lo hi ≤ 12 ∨ mvN A r lo hi = 1000 := by
  unfold mvN
  split
  · exact Or.inl (Nat.le_trans (cn_le _ _) h12)
  · exact Or.inr rfl
theorem c_wi {a b : Nat} {x : Int32} (ha : a < 2 ^ 31) (hb : b < 2 ^ 31) : F_Choir_within x (nI a) (nI b) = some (if wi x.toInt a b then 1 else 0) := by
  unfold F_Choir_within wi
  have e1 : (x < nI a) = ¬ (a : Int) ≤ x.toInt := by rw [Int32.lt_iff_toInt_lt, nI_toInt ha]; apply propext; omega
  have e2 : (nI b < x) = ¬ x.toInt ≤ (b : Int) := by rw [Int32.lt_iff_toInt_lt, nI_toInt hb]; apply propext; omega
  by_cases h1 : (a : Int) ≤ x.toInt
  · by_cases h2 : x.toInt ≤ (b : Int)
    · simp only [e1, e2, h1, h2, not_true_eq_false, ↓reduceIte, decide_true, Bool.and_self]
    · simp only [e1, e2, h1, h2, not_true_eq_false, not_false_eq_true, ↓reduceIte, decide_true, decide_false, Bool.and_false, Bool.false_eq_true]
  · simp only [e1, h1, not_false_eq_true, ↓reduceIte, decide_false, Bool.false_and, Bool.false_eq_true]
theorem m_wi {a b : Nat} {x : Int32} (ha : a < 2 ^ 31) (hb : b < 2 ^ 31) : F_Mo_within x (nI a) (nI b) = some (if wi x.toInt a b then 1 else 0) := by
  rw [mo_within]
  unfold wi
  have e : (nI a ≤ x ∧ x ≤ nI b) = ((decide ((a : Int) ≤ x.toInt) && decide (x.toInt ≤ (b : Int))) = true) := by
    rw [le_ti ha, ti_le hb, Bool.and_eq_true, decide_eq_true_eq, decide_eq_true_eq]
  simp only [e]
theorem al_split {p : Nat → Bool} {n : Nat} {j : Nat} (hj : j < n) (h : p j = false) : al p n 0 = false := by
  cases e : al p n 0
  · rfl
  · rw [al_iff.mp e j (by omega) (by omega)] at h; cases h
theorem al_snoc {p : Nat → Bool} {n : Nat} (h : al p n 0 = true) (h2 : p n = true) : al p (n + 1) 0 = true := by
  rw [al_iff] at h ⊢
  intro i h3 h4
  by_cases e : i = n
  · rw [e]; exact h2
  · exact h i h3 (by omega)
section QU
variable {A : sA} {R : Nat → List Nat} {t : Nat} {C M : sm_MI}
theorem c_moves (hw : wA A) (hc : cA A t C) {r lo hi : Nat} (hr : r < 20) (hlo : lo ≤ 48) (hhi : hi ≤ 48) : F_Choir_movesInto t (nI r) (nI lo) (nI hi) C = some (nI (mvN A r lo hi)) := by
  have h12 := A7_le hw hr
  obtain ⟨-, q2, q3, -⟩ := hc.2.2.2.2.1 r hr
  obtain ⟨-, -, -, v4⟩ := hw.2.2.2.2.2 r hr
  unfold F_Choir_movesInto
  have lp := lp_R (fun f j (z : Nat) => F_Choir_movesInto_4 t C f (nI r) (nI lo) (nI hi) (nI z) j) (fun j z => z = cn (fun i => !mv0 A r lo hi i) j ∧ al (fun i => mv0 A r lo hi i || mv1 A r lo hi i) j 0 = true) (fun b => b = nI (mvN A r lo hi)) (A 7 r) 0 ⟨rfl, rfl⟩ (by omega) ?_ ?_
  · obtain ⟨b, e, hb⟩ := lp
    rw [← hb]; exact e
  · intro f z hz
    refine ⟨nI z, ?_, ?_⟩
    · show F_Choir_movesInto_4B t (F_Choir_movesInto_4 t C f) (nI r) (nI lo) (nI hi) (nI z) (nI (A 7 r)) C = _
      unfold F_Choir_movesInto_4B
      simp (disch := omega) only [↓g_in, ↓g_c0, ↓g_c1, ↓reduceIte, ↓y_lt, ↓y_q1, ↓y_q2, ↓sn_q3, ↓sn_t1l, ↓sn_t1r, ↓sn_t2l, ↓sn_t2r, y_q1, y_q2, sn_q3, sn_t1l, sn_t1r, sn_t2l, sn_t2r, nI_clamp, x_leT, x_leF, x_ltT, x_ltF, x_eqT, x_eqF, x_le0T, x_le0F, x_0leT, x_lt0F, x_0ltT, x_0ltF, x_eq0T, x_eq0F, x_le1T, x_le1F, x_1leT, x_1leF, x_1ltT, x_1ltF, x_lt1T, x_lt1F, x_eq1T, x_eq1F, x_m1F, nI_add, nI_1, sn_mul, x_sub, x_sub1, sn_m1, l2, l3, l4, l5, l6, l7, l8, l9, l10, l11, l12, l13, l14, l15, l20, l30, l40, l48, l60, l64, l99, l100, l700, l999, not_true_eq_false, not_false_eq_true, x_t0, x_t1, lts1, x_10, x_1sub, eq_self, Nat.reduceSub, Nat.reduceAdd, Nat.reduceMul, q2]
    · unfold mvN mvo mvn
      rw [if_pos hz.2, hz.1]
  · intro f i z hi1 hz
    have e7 := q3 i hi1
    have e8 := v4 i hi1
    have s1 : (nI (A 8 (12 * r + i)) - nI 12).toInt = (A 8 (12 * r + i) : Int) - 12 := by rw [pk_sub_toInt (by omega) (by omega)]; rfl
    have s2 : (nI (A 8 (12 * r + i) + 12)).toInt = (A 8 (12 * r + i) : Int) + 12 := by rw [nI_toInt (by omega)]; omega
    show (∃ a', _ ∧ F_Choir_movesInto_4B t (F_Choir_movesInto_4 t C f) (nI r) (nI lo) (nI hi) (nI z) (nI i) C = F_Choir_movesInto_4 t C f (nI r) (nI lo) (nI hi) (nI a') (nI (i + 1))) ∨ ∃ b, F_Choir_movesInto_4B t (F_Choir_movesInto_4 t C f) (nI r) (nI lo) (nI hi) (nI z) (nI i) C = some b ∧ _
    unfold F_Choir_movesInto_4B
    have g0 : wi (nI (A 8 (12 * r + i))).toInt lo hi = mv0 A r lo hi i := by rw [nI_toInt (by omega)]; rfl
    cases k0 : mv0 A r lo hi i
    · cases k1 : wi ((A 8 (12 * r + i) : Int) - 12) lo hi
      · cases k2 : wi ((A 8 (12 * r + i) : Int) + 12) lo hi
        · right
          refine ⟨nI 1000, ?_, ?_⟩
          · simp (disch := omega) only [↓g_in, ↓g_c0, ↓g_c1, ↓reduceIte, ↓y_lt, ↓y_q1, ↓y_q2, ↓sn_q3, ↓sn_t1l, ↓sn_t1r, ↓sn_t2l, ↓sn_t2r, y_q1, y_q2, sn_q3, sn_t1l, sn_t1r, sn_t2l, sn_t2r, nI_clamp, x_leT, x_leF, x_ltT, x_ltF, x_eqT, x_eqF, x_le0T, x_le0F, x_0leT, x_lt0F, x_0ltT, x_0ltF, x_eq0T, x_eq0F, x_le1T, x_le1F, x_1leT, x_1leF, x_1ltT, x_1ltF, x_lt1T, x_lt1F, x_eq1T, x_eq1F, x_m1F, nI_add, nI_1, sn_mul, x_sub, x_sub1, sn_m1, l2, l3, l4, l5, l6, l7, l8, l9, l10, l11, l12, l13, l14, l15, l20, l30, l40, l48, l60, l64, l99, l100, l700, l999, not_true_eq_false, not_false_eq_true, x_t0, x_t1, lts1, x_10, x_1sub, eq_self, Nat.reduceSub, Nat.reduceAdd, Nat.reduceMul, q2, Nat.mul_comm r 12, e7, c_wi, g0, k0, s1, k1, s2, k2, Bool.false_eq_true, l1000]
          · unfold mvN mvo
            rw [al_split hi1 (by show (mv0 A r lo hi i || mv1 A r lo hi i) = false; unfold mv1; rw [k0, k1, k2]; rfl)]
            rfl
        · left
          refine ⟨z + 1, ⟨by rw [cn, ← hz.1, k0]; rfl, al_snoc hz.2 (by show (mv0 A r lo hi i || mv1 A r lo hi i) = true; unfold mv1; rw [k2, Bool.or_true, Bool.or_true])⟩, ?_⟩
          simp (disch := omega) only [↓g_in, ↓g_c0, ↓g_c1, ↓reduceIte, ↓y_lt, ↓y_q1, ↓y_q2, ↓sn_q3, ↓sn_t1l, ↓sn_t1r, ↓sn_t2l, ↓sn_t2r, y_q1, y_q2, sn_q3, sn_t1l, sn_t1r, sn_t2l, sn_t2r, nI_clamp, x_leT, x_leF, x_ltT, x_ltF, x_eqT, x_eqF, x_le0T, x_le0F, x_0leT, x_lt0F, x_0ltT, x_0ltF, x_eq0T, x_eq0F, x_le1T, x_le1F, x_1leT, x_1leF, x_1ltT, x_1ltF, x_lt1T, x_lt1F, x_eq1T, x_eq1F, x_m1F, nI_add, nI_1, sn_mul, x_sub, x_sub1, sn_m1, l2, l3, l4, l5, l6, l7, l8, l9, l10, l11, l12, l13, l14, l15, l20, l30, l40, l48, l60, l64, l99, l100, l700, l999, not_true_eq_false, not_false_eq_true, x_t0, x_t1, lts1, x_10, x_1sub, eq_self, Nat.reduceSub, Nat.reduceAdd, Nat.reduceMul, q2, Nat.mul_comm r 12, e7, c_wi, g0, k0, s1, k1, s2, k2, Bool.false_eq_true]
      · left
        refine ⟨z + 1, ⟨by rw [cn, ← hz.1, k0]; rfl, al_snoc hz.2 (by show (mv0 A r lo hi i || mv1 A r lo hi i) = true; unfold mv1; rw [k1, Bool.true_or, Bool.or_true])⟩, ?_⟩
        simp (disch := omega) only [↓g_in, ↓g_c0, ↓g_c1, ↓reduceIte, ↓y_lt, ↓y_q1, ↓y_q2, ↓sn_q3, ↓sn_t1l, ↓sn_t1r, ↓sn_t2l, ↓sn_t2r, y_q1, y_q2, sn_q3, sn_t1l, sn_t1r, sn_t2l, sn_t2r, nI_clamp, x_leT, x_leF, x_ltT, x_ltF, x_eqT, x_eqF, x_le0T, x_le0F, x_0leT, x_lt0F, x_0ltT, x_0ltF, x_eq0T, x_eq0F, x_le1T, x_le1F, x_1leT, x_1leF, x_1ltT, x_1ltF, x_lt1T, x_lt1F, x_eq1T, x_eq1F, x_m1F, nI_add, nI_1, sn_mul, x_sub, x_sub1, sn_m1, l2, l3, l4, l5, l6, l7, l8, l9, l10, l11, l12, l13, l14, l15, l20, l30, l40, l48, l60, l64, l99, l100, l700, l999, not_true_eq_false, not_false_eq_true, x_t0, x_t1, lts1, x_10, x_1sub, eq_self, Nat.reduceSub, Nat.reduceAdd, Nat.reduceMul, q2, Nat.mul_comm r 12, e7, c_wi, g0, k0, s1, k1, Bool.false_eq_true]
    · left
      refine ⟨z, ⟨by rw [cn, ← hz.1, k0]; rfl, al_snoc hz.2 (by show (mv0 A r lo hi i || mv1 A r lo hi i) = true; rw [k0]; rfl)⟩, ?_⟩
      simp (disch := omega) only [↓g_in, ↓g_c0, ↓g_c1, ↓reduceIte, ↓y_lt, ↓y_q1, ↓y_q2, ↓sn_q3, ↓sn_t1l, ↓sn_t1r, ↓sn_t2l, ↓sn_t2r, y_q1, y_q2, sn_q3, sn_t1l, sn_t1r, sn_t2l, sn_t2r, nI_clamp, x_leT, x_leF, x_ltT, x_ltF, x_eqT, x_eqF, x_le0T, x_le0F, x_0leT, x_lt0F, x_0ltT, x_0ltF, x_eq0T, x_eq0F, x_le1T, x_le1F, x_1leT, x_1leF, x_1ltT, x_1ltF, x_lt1T, x_lt1F, x_eq1T, x_eq1F, x_m1F, nI_add, nI_1, sn_mul, x_sub, x_sub1, sn_m1, l2, l3, l4, l5, l6, l7, l8, l9, l10, l11, l12, l13, l14, l15, l20, l30, l40, l48, l60, l64, l99, l100, l700, l999, not_true_eq_false, not_false_eq_true, x_t0, x_t1, lts1, x_10, x_1sub, eq_self, Nat.reduceSub, Nat.reduceAdd, Nat.reduceMul, q2, Nat.mul_comm r 12, e7, c_wi, g0, k0]
def mvI (v : Nat) : Int32 := if v = 1000 then -1 else nI v
theorem m_moves (hw : wA A) (hm : mA A M) {r lo hi : Nat} (hr : r < 20) (hq : 0 < A 6 r) (hlo : lo ≤ 48) (hhi : hi ≤ 48) : F_Mo_movedFor (nI r) (nI lo) (nI hi) M = some (mvI (mvN A r lo hi)) := by
  have h12 := A7_le hw hr
  obtain ⟨q2, q3⟩ := (hm.2.2.2.2 r hr).2 hq
  obtain ⟨-, -, -, v4⟩ := hw.2.2.2.2.2 r hr
  unfold F_Mo_movedFor
  have lp := lp_R (fun f j (z : Nat) => F_Mo_movedFor_4 M f (nI r) (nI lo) (nI hi) (nI z) j) (fun j z => z = cn (fun i => !mv0 A r lo hi i) j ∧ al (fun i => mv0 A r lo hi i || mv1 A r lo hi i) j 0 = true) (fun b => b = mvI (mvN A r lo hi)) (A 7 r) 0 ⟨rfl, rfl⟩ (by omega) ?_ ?_
  · obtain ⟨b, e, hb⟩ := lp
    rw [← hb]; exact e
  · intro f z hz
    refine ⟨nI z, ?_, ?_⟩
    · show F_Mo_movedFor_4B (F_Mo_movedFor_4 M f) (nI r) (nI lo) (nI hi) (nI z) (nI (A 7 r)) M = _
      unfold F_Mo_movedFor_4B
      simp (disch := omega) only [↓g_in, ↓g_c0, ↓g_c1, ↓reduceIte, ↓y_lt, ↓y_q1, ↓y_q2, ↓sn_q3, ↓sn_t1l, ↓sn_t1r, ↓sn_t2l, ↓sn_t2r, y_q1, y_q2, sn_q3, sn_t1l, sn_t1r, sn_t2l, sn_t2r, nI_clamp, x_leT, x_leF, x_ltT, x_ltF, x_eqT, x_eqF, x_le0T, x_le0F, x_0leT, x_lt0F, x_0ltT, x_0ltF, x_eq0T, x_eq0F, x_le1T, x_le1F, x_1leT, x_1leF, x_1ltT, x_1ltF, x_lt1T, x_lt1F, x_eq1T, x_eq1F, x_m1F, nI_add, nI_1, sn_mul, x_sub, x_sub1, sn_m1, l2, l3, l4, l5, l6, l7, l8, l9, l10, l11, l12, l13, l14, l15, l20, l30, l40, l48, l60, l64, l99, l100, l700, l999, not_true_eq_false, not_false_eq_true, x_t0, x_t1, lts1, x_10, x_1sub, eq_self, Nat.reduceSub, Nat.reduceAdd, Nat.reduceMul, q2]
    · have hzb : z ≤ 12 := by rw [hz.1]; exact Nat.le_trans (cn_le _ _) h12
      unfold mvI mvN mvo mvn
      rw [if_pos hz.2, ← hz.1, if_neg (by omega)]
  · intro f i z hi1 hz
    have e7 := q3 i hi1
    have e8 := v4 i hi1
    have s1 : (nI (A 8 (12 * r + i)) - nI 12).toInt = (A 8 (12 * r + i) : Int) - 12 := by rw [pk_sub_toInt (by omega) (by omega)]; rfl
    have s2 : (nI (A 8 (12 * r + i) + 12)).toInt = (A 8 (12 * r + i) : Int) + 12 := by rw [nI_toInt (by omega)]; omega
    show (∃ a', _ ∧ F_Mo_movedFor_4B (F_Mo_movedFor_4 M f) (nI r) (nI lo) (nI hi) (nI z) (nI i) M = F_Mo_movedFor_4 M f (nI r) (nI lo) (nI hi) (nI a') (nI (i + 1))) ∨ ∃ b, F_Mo_movedFor_4B (F_Mo_movedFor_4 M f) (nI r) (nI lo) (nI hi) (nI z) (nI i) M = some b ∧ _
    unfold F_Mo_movedFor_4B
    have g0 : wi (nI (A 8 (12 * r + i))).toInt lo hi = mv0 A r lo hi i := by rw [nI_toInt (by omega)]; rfl
    cases k0 : mv0 A r lo hi i
    · cases k1 : wi ((A 8 (12 * r + i) : Int) - 12) lo hi
      · cases k2 : wi ((A 8 (12 * r + i) : Int) + 12) lo hi
        · right
          refine ⟨-1, ?_, ?_⟩
          · simp (disch := omega) only [↓g_in, ↓g_c0, ↓g_c1, ↓reduceIte, ↓y_lt, ↓y_q1, ↓y_q2, ↓sn_q3, ↓sn_t1l, ↓sn_t1r, ↓sn_t2l, ↓sn_t2r, y_q1, y_q2, sn_q3, sn_t1l, sn_t1r, sn_t2l, sn_t2r, nI_clamp, x_leT, x_leF, x_ltT, x_ltF, x_eqT, x_eqF, x_le0T, x_le0F, x_0leT, x_lt0F, x_0ltT, x_0ltF, x_eq0T, x_eq0F, x_le1T, x_le1F, x_1leT, x_1leF, x_1ltT, x_1ltF, x_lt1T, x_lt1F, x_eq1T, x_eq1F, x_m1F, nI_add, nI_1, sn_mul, x_sub, x_sub1, sn_m1, l2, l3, l4, l5, l6, l7, l8, l9, l10, l11, l12, l13, l14, l15, l20, l30, l40, l48, l60, l64, l99, l100, l700, l999, not_true_eq_false, not_false_eq_true, x_t0, x_t1, lts1, x_10, x_1sub, eq_self, Nat.reduceSub, Nat.reduceAdd, Nat.reduceMul, q2, e7, m_wi, g0, k0, s1, k1, s2, k2, Bool.false_eq_true]
          · unfold mvI mvN mvo
            rw [al_split hi1 (by show (mv0 A r lo hi i || mv1 A r lo hi i) = false; unfold mv1; rw [k0, k1, k2]; rfl)]
            rfl
        · left
          refine ⟨z + 1, ⟨by rw [cn, ← hz.1, k0]; rfl, al_snoc hz.2 (by show (mv0 A r lo hi i || mv1 A r lo hi i) = true; unfold mv1; rw [k2, Bool.or_true, Bool.or_true])⟩, ?_⟩
          simp (disch := omega) only [↓g_in, ↓g_c0, ↓g_c1, ↓reduceIte, ↓y_lt, ↓y_q1, ↓y_q2, ↓sn_q3, ↓sn_t1l, ↓sn_t1r, ↓sn_t2l, ↓sn_t2r, y_q1, y_q2, sn_q3, sn_t1l, sn_t1r, sn_t2l, sn_t2r, nI_clamp, x_leT, x_leF, x_ltT, x_ltF, x_eqT, x_eqF, x_le0T, x_le0F, x_0leT, x_lt0F, x_0ltT, x_0ltF, x_eq0T, x_eq0F, x_le1T, x_le1F, x_1leT, x_1leF, x_1ltT, x_1ltF, x_lt1T, x_lt1F, x_eq1T, x_eq1F, x_m1F, nI_add, nI_1, sn_mul, x_sub, x_sub1, sn_m1, l2, l3, l4, l5, l6, l7, l8, l9, l10, l11, l12, l13, l14, l15, l20, l30, l40, l48, l60, l64, l99, l100, l700, l999, not_true_eq_false, not_false_eq_true, x_t0, x_t1, lts1, x_10, x_1sub, eq_self, Nat.reduceSub, Nat.reduceAdd, Nat.reduceMul, q2, e7, m_wi, g0, k0, s1, k1, s2, k2, Bool.false_eq_true]
      · left
        refine ⟨z + 1, ⟨by rw [cn, ← hz.1, k0]; rfl, al_snoc hz.2 (by show (mv0 A r lo hi i || mv1 A r lo hi i) = true; unfold mv1; rw [k1, Bool.true_or, Bool.or_true])⟩, ?_⟩
        simp (disch := omega) only [↓g_in, ↓g_c0, ↓g_c1, ↓reduceIte, ↓y_lt, ↓y_q1, ↓y_q2, ↓sn_q3, ↓sn_t1l, ↓sn_t1r, ↓sn_t2l, ↓sn_t2r, y_q1, y_q2, sn_q3, sn_t1l, sn_t1r, sn_t2l, sn_t2r, nI_clamp, x_leT, x_leF, x_ltT, x_ltF, x_eqT, x_eqF, x_le0T, x_le0F, x_0leT, x_lt0F, x_0ltT, x_0ltF, x_eq0T, x_eq0F, x_le1T, x_le1F, x_1leT, x_1leF, x_1ltT, x_1ltF, x_lt1T, x_lt1F, x_eq1T, x_eq1F, x_m1F, nI_add, nI_1, sn_mul, x_sub, x_sub1, sn_m1, l2, l3, l4, l5, l6, l7, l8, l9, l10, l11, l12, l13, l14, l15, l20, l30, l40, l48, l60, l64, l99, l100, l700, l999, not_true_eq_false, not_false_eq_true, x_t0, x_t1, lts1, x_10, x_1sub, eq_self, Nat.reduceSub, Nat.reduceAdd, Nat.reduceMul, q2, e7, m_wi, g0, k0, s1, k1, Bool.false_eq_true]
    · left
      refine ⟨z, ⟨by rw [cn, ← hz.1, k0]; rfl, al_snoc hz.2 (by show (mv0 A r lo hi i || mv1 A r lo hi i) = true; rw [k0]; rfl)⟩, ?_⟩
      simp (disch := omega) only [↓g_in, ↓g_c0, ↓g_c1, ↓reduceIte, ↓y_lt, ↓y_q1, ↓y_q2, ↓sn_q3, ↓sn_t1l, ↓sn_t1r, ↓sn_t2l, ↓sn_t2r, y_q1, y_q2, sn_q3, sn_t1l, sn_t1r, sn_t2l, sn_t2r, nI_clamp, x_leT, x_leF, x_ltT, x_ltF, x_eqT, x_eqF, x_le0T, x_le0F, x_0leT, x_lt0F, x_0ltT, x_0ltF, x_eq0T, x_eq0F, x_le1T, x_le1F, x_1leT, x_1leF, x_1ltT, x_1ltF, x_lt1T, x_lt1F, x_eq1T, x_eq1F, x_m1F, nI_add, nI_1, sn_mul, x_sub, x_sub1, sn_m1, l2, l3, l4, l5, l6, l7, l8, l9, l10, l11, l12, l13, l14, l15, l20, l30, l40, l48, l60, l64, l99, l100, l700, l999, not_true_eq_false, not_false_eq_true, x_t0, x_t1, lts1, x_10, x_1sub, eq_self, Nat.reduceSub, Nat.reduceAdd, Nat.reduceMul, q2, e7, m_wi, g0, k0]
end QU
/-- the least of many -/
def mn1 (c : Nat → Nat) (n z : Nat) : Nat := itr (fun j z => if c j < z then c j else z) n z
def mn2 (c : Nat → Nat → Nat) (n m : Nat) : Nat := itr (fun i z => mn1 (c i) n z) m 1000
theorem mn1_p {c : Nat → Nat} {z : Nat} : ∀ n, mn1 c n z ≤ z ∧ (∀ j, j < n → mn1 c n z ≤ c j) ∧ (mn1 c n z = z ∨ ∃ j, j < n ∧ mn1 c n z = c j)
  | 0 => ⟨Nat.le_refl _, fun j hj => absurd hj (by omega), Or.inl rfl⟩
  | n + 1 => by
    obtain ⟨h1, h2, h3⟩ := mn1_p (c := c) (z := z) n
    have e : mn1 c (n + 1) z = if c n < mn1 c n z then c n else mn1 c n z := rfl
    rw [e]
    split
    · refine ⟨by omega, fun j hj => ?_, Or.inr ⟨n, by omega, rfl⟩⟩
      by_cases e : j = n
      · rw [e]; exact Nat.le_refl _
      · have := h2 j (by omega); omega
    · refine ⟨h1, fun j hj => ?_, h3.imp id (fun ⟨j, a, b⟩ => ⟨j, by omega, b⟩)⟩
      by_cases e : j = n
      · rw [e]; omega
      · exact h2 j (by omega)
theorem mn2_p {c : Nat → Nat → Nat} {n : Nat} : ∀ m, mn2 c n m ≤ 1000 ∧ (∀ i j, i < m → j < n → mn2 c n m ≤ c i j) ∧ (mn2 c n m = 1000 ∨ ∃ i j, i < m ∧ j < n ∧ mn2 c n m = c i j)
  | 0 => ⟨Nat.le_refl _, fun i j hi _ => absurd hi (by omega), Or.inl rfl⟩
  | m + 1 => by
    obtain ⟨h1, h2, h3⟩ := mn2_p (c := c) (n := n) m
    have e : mn2 c n (m + 1) = mn1 (c m) n (mn2 c n m) := rfl
    obtain ⟨g1, g2, g3⟩ := mn1_p (c := c m) (z := mn2 c n m) n
    rw [e]
    refine ⟨by omega, fun i j hi hj => ?_, ?_⟩
    · by_cases e : i = m
      · rw [e]; exact g2 j hj
      · have := h2 i j (by omega) hj; omega
    · rcases g3 with g | ⟨j, a, b⟩
      · rw [g]
        exact h3.imp id (fun ⟨i, j, a, b, d⟩ => ⟨i, j, by omega, b, d⟩)
      · exact Or.inr ⟨m, j, by omega, a, b⟩
/-- who of a set has a range that holds what two have in common -/
def rch (A : sA) (x : Int32) (i j s : Nat) : Bool := bt x s && decide (A 3 s ≤ A 3 i) && decide (A 4 j ≤ A 4 s)
def cdC (A : sA) (x : Int32) (r i j : Nat) : Nat := if (bt x i && bt x j && decide (A 6 r ≤ cn (rch A x i j) 14)) then mvN A r (A 3 i) (A 4 j) else 1000
def cdM (A : sA) (x : Int32) (r i j : Nat) : Nat := if A 6 r ≤ cn (rch A x i j) 14 then mvN A r (A 3 i) (A 4 j) else 1000
theorem top_of {p : Nat → Bool} (w : Nat → Nat) : ∀ n, (∀ i, i < n → p i = false) ∨ ∃ i, i < n ∧ p i = true ∧ ∀ j, j < n → p j = true → w j ≤ w i
  | 0 => Or.inl (fun i hi => absurd hi (by omega))
  | n + 1 => by
    cases e : p n
    · rcases top_of (p := p) w n with h | ⟨i, h1, h2, h3⟩
      · refine Or.inl (fun i hi => ?_)
        by_cases e2 : i = n
        · rw [e2]; exact e
        · exact h i (by omega)
      · refine Or.inr ⟨i, by omega, h2, fun j hj hp => ?_⟩
        by_cases e2 : j = n
        · rw [e2, e] at hp; cases hp
        · exact h3 j (by omega) hp
    · right
      rcases top_of (p := p) w n with h | ⟨i, h1, h2, h3⟩
      · refine ⟨n, by omega, e, fun j hj hp => ?_⟩
        by_cases e2 : j = n
        · rw [e2]; exact Nat.le_refl _
        · rw [h j (by omega)] at hp; cases hp
      · by_cases hc : w i ≤ w n
        · refine ⟨n, by omega, e, fun j hj hp => ?_⟩
          by_cases e2 : j = n
          · rw [e2]; exact Nat.le_refl _
          · have := h3 j (by omega) hp; omega
        · refine ⟨i, by omega, h2, fun j hj hp => ?_⟩
          by_cases e2 : j = n
          · rw [e2]; omega
          · exact h3 j (by omega) hp
section QU
variable {A : sA} {R : Nat → List Nat} {t : Nat} {C M : sm_MI}
theorem mv_eq (hw : wA A) {x : Int32} {r : Nat} (hr : r < 20) (hq : 0 < A 6 r) (hx : ∀ i, A 0 0 ≤ i → bt x i = false) : mn2 (cdC A x r) 14 14 = mn2 (cdM A x r) (A 0 0) (A 0 0) := by
  have hn := hw.1
  have h12 := A7_le hw hr
  obtain ⟨a1, a2, a3⟩ := mn2_p (c := cdC A x r) (n := 14) 14
  obtain ⟨b1, b2, b3⟩ := mn2_p (c := cdM A x r) (n := A 0 0) (A 0 0)
  have hlt : ∀ i, bt x i = true → i < A 0 0 := fun i h => by
    apply Classical.byContradiction
    intro hh
    rw [hx i (by omega)] at h
    cases h
  apply Nat.le_antisymm
  · rcases b3 with h | ⟨i, j, i1, j1, h⟩
    · rw [h]; exact a1
    · rw [h]
      unfold cdM
      split
      · rename_i hnd
        obtain ⟨s0, s1, s2⟩ := cn_pos (p := rch A x i j) (n := 14) (by omega)
        rcases top_of (p := rch A x i j) (A 3) 14 with hh | ⟨k, k1, k2, k3⟩
        · rw [hh s0 s1] at s2; cases s2
        · rcases top_of (p := rch A x i j) (fun s => 48 - A 4 s) 14 with hh | ⟨l, l1, l2, l3⟩
          · rw [hh s0 s1] at s2; cases s2
          · have hk := k2
            have hl := l2
            unfold rch at hk hl
            simp only [Bool.and_eq_true, decide_eq_true_eq] at hk hl
            have hcn : cn (rch A x i j) 14 ≤ cn (rch A x k l) 14 := cn_mono (fun s hs hp => by
              have p1 := k3 s hs hp
              have p2 := l3 s hs hp
              unfold rch at hp ⊢
              simp only [Bool.and_eq_true, decide_eq_true_eq] at hp ⊢
              have p3 := hw.2.2.2.2.1 s (hlt s hp.1.1)
              have p4 := hw.2.2.2.2.1 l (hlt l hl.1.1)
              exact ⟨⟨hp.1.1, p1⟩, by omega⟩)
            have := a2 k l k1 l1
            have e : cdC A x r k l = mvN A r (A 3 k) (A 4 l) := by
              unfold cdC
              rw [hk.1.1, hl.1.1, decide_eq_true (show A 6 r ≤ cn (rch A x k l) 14 by omega)]
              rfl
            rw [e] at this
            exact Nat.le_trans this (mvN_mono h12 hk.1.2 hl.2)
      · exact a1
  · rcases a3 with h | ⟨i, j, i1, j1, h⟩
    · rw [h]; exact b1
    · rw [h]
      unfold cdC
      split
      · rename_i hnd
        simp only [Bool.and_eq_true, decide_eq_true_eq] at hnd
        have := b2 i j (hlt i hnd.1.1) (hlt j hnd.1.2)
        unfold cdM at this
        rw [if_pos hnd.2] at this
        exact this
      · exact b1
theorem c_rowMoves (hw : wA A) (hc : cA A t C) {x : Int32} {r : Nat} (hr : r < 20) (hx : ∀ i, A 0 0 ≤ i → bt x i = false) : F_Choir_rowMoves t x (nI r) C = some (nI (mn2 (cdC A x r) 14 14)) := by
  have hn := hw.1
  have h12 := A7_le hw hr
  have q1 := (hc.2.2.2.2.1 r hr).1
  have w4 := (hw.2.2.2.2.2 r hr).1
  have hlt : ∀ i, bt x i = true → i < A 0 0 := fun i h => by
    apply Classical.byContradiction
    intro hh
    rw [hx i (by omega)] at h
    cases h
  unfold F_Choir_rowMoves mn2
  have lp := lp_in (fun f j z => F_Choir_rowMoves_4 t C f x (nI r) (nI z) j) (fun z => some (nI z)) (fun i z => mn1 (cdC A x r i) 14 z) (fun _ z => z ≤ 1000) 14 1000 (by omega) (by omega) ?_ ?_
  · exact lp.1
  · intro f z _
    show F_Choir_rowMoves_4B t (F_Choir_rowMoves_4 t C f) x (nI r) (nI z) (nI 14) C = _
    unfold F_Choir_rowMoves_4B
    simp (disch := omega) only [↓g_in, ↓g_c0, ↓g_c1, ↓reduceIte, ↓y_lt, ↓y_q1, ↓y_q2, ↓sn_q3, ↓sn_t1l, ↓sn_t1r, ↓sn_t2l, ↓sn_t2r, y_q1, y_q2, sn_q3, sn_t1l, sn_t1r, sn_t2l, sn_t2r, nI_clamp, x_leT, x_leF, x_ltT, x_ltF, x_eqT, x_eqF, x_le0T, x_le0F, x_0leT, x_lt0F, x_0ltT, x_0ltF, x_eq0T, x_eq0F, x_le1T, x_le1F, x_1leT, x_1leF, x_1ltT, x_1ltF, x_lt1T, x_lt1F, x_eq1T, x_eq1F, x_m1F, nI_add, nI_1, sn_mul, x_sub, x_sub1, sn_m1, l2, l3, l4, l5, l6, l7, l8, l9, l10, l11, l12, l13, l14, l15, l20, l30, l40, l48, l60, l64, l99, l100, l700, l999, not_true_eq_false, not_false_eq_true, x_t0, x_t1, lts1, x_10, x_1sub, eq_self, Nat.reduceSub, Nat.reduceAdd, Nat.reduceMul]
  · intro f i z hi hz
    have lq := lp_in (fun g j z => F_Choir_rowMoves_9 t (F_Choir_rowMoves_4 t C f) C g x (nI r) (nI z) (nI i) j) (fun z => F_Choir_rowMoves_4 t C f x (nI r) (nI z) (nI (i + 1))) (fun j z => if cdC A x r i j < z then cdC A x r i j else z) (fun _ z => z ≤ 1000) 14 z hz (by omega) ?_ ?_
    · refine ⟨lq.2, ?_⟩
      show F_Choir_rowMoves_4B t (F_Choir_rowMoves_4 t C f) x (nI r) (nI z) (nI i) C = _
      unfold F_Choir_rowMoves_4B
      simp (disch := omega) only [↓g_in, ↓g_c0, ↓g_c1, ↓reduceIte, ↓y_lt, ↓y_q1, ↓y_q2, ↓sn_q3, ↓sn_t1l, ↓sn_t1r, ↓sn_t2l, ↓sn_t2r, y_q1, y_q2, sn_q3, sn_t1l, sn_t1r, sn_t2l, sn_t2r, nI_clamp, x_leT, x_leF, x_ltT, x_ltF, x_eqT, x_eqF, x_le0T, x_le0F, x_0leT, x_lt0F, x_0ltT, x_0ltF, x_eq0T, x_eq0F, x_le1T, x_le1F, x_1leT, x_1leF, x_1ltT, x_1ltF, x_lt1T, x_lt1F, x_eq1T, x_eq1F, x_m1F, nI_add, nI_1, sn_mul, x_sub, x_sub1, sn_m1, l2, l3, l4, l5, l6, l7, l8, l9, l10, l11, l12, l13, l14, l15, l20, l30, l40, l48, l60, l64, l99, l100, l700, l999, not_true_eq_false, not_false_eq_true, x_t0, x_t1, lts1, x_10, x_1sub, eq_self, Nat.reduceSub, Nat.reduceAdd, Nat.reduceMul]
      exact lq.1
    · intro g z _
      show F_Choir_rowMoves_9B t (F_Choir_rowMoves_4 t C f) (F_Choir_rowMoves_9 t (F_Choir_rowMoves_4 t C f) C g) x (nI r) (nI z) (nI i) (nI 14) C = _
      unfold F_Choir_rowMoves_9B
      simp (disch := omega) only [↓g_in, ↓g_c0, ↓g_c1, ↓reduceIte, ↓y_lt, ↓y_q1, ↓y_q2, ↓sn_q3, ↓sn_t1l, ↓sn_t1r, ↓sn_t2l, ↓sn_t2r, y_q1, y_q2, sn_q3, sn_t1l, sn_t1r, sn_t2l, sn_t2r, nI_clamp, x_leT, x_leF, x_ltT, x_ltF, x_eqT, x_eqF, x_le0T, x_le0F, x_0leT, x_lt0F, x_0ltT, x_0ltF, x_eq0T, x_eq0F, x_le1T, x_le1F, x_1leT, x_1leF, x_1ltT, x_1ltF, x_lt1T, x_lt1F, x_eq1T, x_eq1F, x_m1F, nI_add, nI_1, sn_mul, x_sub, x_sub1, sn_m1, l2, l3, l4, l5, l6, l7, l8, l9, l10, l11, l12, l13, l14, l15, l20, l30, l40, l48, l60, l64, l99, l100, l700, l999, not_true_eq_false, not_false_eq_true, x_t0, x_t1, lts1, x_10, x_1sub, eq_self, Nat.reduceSub, Nat.reduceAdd, Nat.reduceMul]
    · intro g j z hj hz
      refine ⟨by split <;> omega, ?_⟩
      show F_Choir_rowMoves_9B t (F_Choir_rowMoves_4 t C f) (F_Choir_rowMoves_9 t (F_Choir_rowMoves_4 t C f) C g) x (nI r) (nI z) (nI i) (nI j) C = F_Choir_rowMoves_9 t (F_Choir_rowMoves_4 t C f) C g x (nI r) (nI (if cdC A x r i j < z then cdC A x r i j else z)) (nI i) (nI (j + 1))
      unfold F_Choir_rowMoves_9B cdC
      have n1000 : (1000 < z) = False := eq_false (by omega)
      cases e1 : bt x i
      · simp (disch := omega) only [↓g_in, ↓g_c0, ↓g_c1, ↓reduceIte, ↓y_lt, ↓y_q1, ↓y_q2, ↓sn_q3, ↓sn_t1l, ↓sn_t1r, ↓sn_t2l, ↓sn_t2r, y_q1, y_q2, sn_q3, sn_t1l, sn_t1r, sn_t2l, sn_t2r, nI_clamp, x_leT, x_leF, x_ltT, x_ltF, x_eqT, x_eqF, x_le0T, x_le0F, x_0leT, x_lt0F, x_0ltT, x_0ltF, x_eq0T, x_eq0F, x_le1T, x_le1F, x_1leT, x_1leF, x_1ltT, x_1ltF, x_lt1T, x_lt1F, x_eq1T, x_eq1F, x_m1F, nI_add, nI_1, sn_mul, x_sub, x_sub1, sn_m1, l2, l3, l4, l5, l6, l7, l8, l9, l10, l11, l12, l13, l14, l15, l20, l30, l40, l48, l60, l64, l99, l100, l700, l999, not_true_eq_false, not_false_eq_true, x_t0, x_t1, lts1, x_10, x_1sub, eq_self, Nat.reduceSub, Nat.reduceAdd, Nat.reduceMul, e1, Bool.false_and, Bool.false_eq_true, n1000]
      · cases e2 : bt x j
        · simp (disch := omega) only [↓g_in, ↓g_c0, ↓g_c1, ↓reduceIte, ↓y_lt, ↓y_q1, ↓y_q2, ↓sn_q3, ↓sn_t1l, ↓sn_t1r, ↓sn_t2l, ↓sn_t2r, y_q1, y_q2, sn_q3, sn_t1l, sn_t1r, sn_t2l, sn_t2r, nI_clamp, x_leT, x_leF, x_ltT, x_ltF, x_eqT, x_eqF, x_le0T, x_le0F, x_0leT, x_lt0F, x_0ltT, x_0ltF, x_eq0T, x_eq0F, x_le1T, x_le1F, x_1leT, x_1leF, x_1ltT, x_1ltF, x_lt1T, x_lt1F, x_eq1T, x_eq1F, x_m1F, nI_add, nI_1, sn_mul, x_sub, x_sub1, sn_m1, l2, l3, l4, l5, l6, l7, l8, l9, l10, l11, l12, l13, l14, l15, l20, l30, l40, l48, l60, l64, l99, l100, l700, l999, not_true_eq_false, not_false_eq_true, x_t0, x_t1, lts1, x_10, x_1sub, eq_self, Nat.reduceSub, Nat.reduceAdd, Nat.reduceMul, e1, e2, Bool.true_eq_false, Bool.and_false, Bool.false_and, Bool.false_eq_true, n1000]
        · have hin := hlt i e1
          have hjn := hlt j e2
          obtain ⟨-, -, d3, -, -⟩ := hc.2.2.2.1 i hin
          obtain ⟨-, -, -, d4, -⟩ := hc.2.2.2.1 j hjn
          obtain ⟨-, -, g3, g4, -⟩ := hw.2.2.2.2.1 i hin
          obtain ⟨-, -, g5, g6, -⟩ := hw.2.2.2.2.1 j hjn
          have er : F_Valley_reaching t x (nI (A 3 i)) (nI (A 4 j)) C = some (bs (rch A x i j) 14) := by
            rw [c_reaching (A := A)]
            congr 1
            refine bs_congr (fun s hs => ?_)
            unfold rch
            cases e : bt x s
            · rfl
            · have hsn := hlt s e
              obtain ⟨-, -, k3, k4, -⟩ := hc.2.2.2.1 s hsn
              obtain ⟨-, -, m3, m4, -⟩ := hw.2.2.2.2.1 s hsn
              rw [k3, k4]
              simp only [nI_leI (show A 3 s < 2 ^ 31 by omega) (show A 3 i < 2 ^ 31 by omega), nI_leI (show A 4 j < 2 ^ 31 by omega) (show A 4 s < 2 ^ 31 by omega)]
          have ep : pc (bs (rch A x i j) 14) = cn (rch A x i j) 14 := by
            unfold pc
            exact cn_congr (fun s hs => by rw [bt_bs (by omega) (by omega), decide_eq_true hs, Bool.true_and])
          have hb := cn_le (rch A x i j) 14
          have hmb := mvN_b (A := A) (r := r) (lo := A 3 i) (hi := A 4 j) h12
          by_cases e3 : A 6 r ≤ cn (rch A x i j) 14
          · unfold F_Math_min
            by_cases e4 : mvN A r (A 3 i) (A 4 j) < z
            · simp (disch := omega) only [↓g_in, ↓g_c0, ↓g_c1, ↓reduceIte, ↓y_lt, ↓y_q1, ↓y_q2, ↓sn_q3, ↓sn_t1l, ↓sn_t1r, ↓sn_t2l, ↓sn_t2r, y_q1, y_q2, sn_q3, sn_t1l, sn_t1r, sn_t2l, sn_t2r, nI_clamp, x_leT, x_leF, x_ltT, x_ltF, x_eqT, x_eqF, x_le0T, x_le0F, x_0leT, x_lt0F, x_0ltT, x_0ltF, x_eq0T, x_eq0F, x_le1T, x_le1F, x_1leT, x_1leF, x_1ltT, x_1ltF, x_lt1T, x_lt1F, x_eq1T, x_eq1F, x_m1F, nI_add, nI_1, sn_mul, x_sub, x_sub1, sn_m1, l2, l3, l4, l5, l6, l7, l8, l9, l10, l11, l12, l13, l14, l15, l20, l30, l40, l48, l60, l64, l99, l100, l700, l999, not_true_eq_false, not_false_eq_true, x_t0, x_t1, lts1, x_10, x_1sub, eq_self, Nat.reduceSub, Nat.reduceAdd, Nat.reduceMul, e1, e2, Bool.true_eq_false, d3, d4, er, int_bc (lo14_bs (p := rch A x i j) (n := 14) (Nat.le_refl _)), ep, q1, e3, decide_true, Bool.and_self, c_moves hw hc hr (show A 3 i ≤ 48 by omega) (show A 4 j ≤ 48 by omega), e4]
            · simp (disch := omega) only [↓g_in, ↓g_c0, ↓g_c1, ↓reduceIte, ↓y_lt, ↓y_q1, ↓y_q2, ↓sn_q3, ↓sn_t1l, ↓sn_t1r, ↓sn_t2l, ↓sn_t2r, y_q1, y_q2, sn_q3, sn_t1l, sn_t1r, sn_t2l, sn_t2r, nI_clamp, x_leT, x_leF, x_ltT, x_ltF, x_eqT, x_eqF, x_le0T, x_le0F, x_0leT, x_lt0F, x_0ltT, x_0ltF, x_eq0T, x_eq0F, x_le1T, x_le1F, x_1leT, x_1leF, x_1ltT, x_1ltF, x_lt1T, x_lt1F, x_eq1T, x_eq1F, x_m1F, nI_add, nI_1, sn_mul, x_sub, x_sub1, sn_m1, l2, l3, l4, l5, l6, l7, l8, l9, l10, l11, l12, l13, l14, l15, l20, l30, l40, l48, l60, l64, l99, l100, l700, l999, not_true_eq_false, not_false_eq_true, x_t0, x_t1, lts1, x_10, x_1sub, eq_self, Nat.reduceSub, Nat.reduceAdd, Nat.reduceMul, e1, e2, Bool.true_eq_false, d3, d4, er, int_bc (lo14_bs (p := rch A x i j) (n := 14) (Nat.le_refl _)), ep, q1, e3, decide_true, Bool.and_self, c_moves hw hc hr (show A 3 i ≤ 48 by omega) (show A 4 j ≤ 48 by omega), e4]
          · simp (disch := omega) only [↓g_in, ↓g_c0, ↓g_c1, ↓reduceIte, ↓y_lt, ↓y_q1, ↓y_q2, ↓sn_q3, ↓sn_t1l, ↓sn_t1r, ↓sn_t2l, ↓sn_t2r, y_q1, y_q2, sn_q3, sn_t1l, sn_t1r, sn_t2l, sn_t2r, nI_clamp, x_leT, x_leF, x_ltT, x_ltF, x_eqT, x_eqF, x_le0T, x_le0F, x_0leT, x_lt0F, x_0ltT, x_0ltF, x_eq0T, x_eq0F, x_le1T, x_le1F, x_1leT, x_1leF, x_1ltT, x_1ltF, x_lt1T, x_lt1F, x_eq1T, x_eq1F, x_m1F, nI_add, nI_1, sn_mul, x_sub, x_sub1, sn_m1, l2, l3, l4, l5, l6, l7, l8, l9, l10, l11, l12, l13, l14, l15, l20, l30, l40, l48, l60, l64, l99, l100, l700, l999, not_true_eq_false, not_false_eq_true, x_t0, x_t1, lts1, x_10, x_1sub, eq_self, Nat.reduceSub, Nat.reduceAdd, Nat.reduceMul, e1, e2, Bool.true_eq_false, d3, d4, er, int_bc (lo14_bs (p := rch A x i j) (n := 14) (Nat.le_refl _)), ep, q1, e3, decide_false, Bool.and_false, Bool.false_eq_true, n1000]
end QU
