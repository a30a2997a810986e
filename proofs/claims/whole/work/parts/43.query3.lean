/-! ===== rows, spare, keys, bargain ===== -/
theorem bs0 (x : Int32) {i : Nat} (hi : i < 32) : (x &&& b1 i = 0) = (bt x i = false) := propext (bt_a0 x hi)
theorem fu_r {A : sA} (hw : wA A) {r s : Nat} {u : Int} (h : 4 * A 0 1 ≤ r) (h20 : r < 20) : fu A r u s = false := by
  have h3 := hw.2.2.2.2.2 r h20
  rcases Nat.eq_zero_or_pos (A 6 r) with z | z
  · exact fu_0 z
  · have := (h3.2.2.1 z).1
    omega
theorem an_as (x y z : Int32) : x &&& (y &&& z) = (x &&& z) &&& y := by
  apply b_ext
  intro i _
  rw [b_and, b_and, b_and, b_and, Bool.and_assoc, Bool.and_comm (bt y i)]
theorem pc_mono {x y : Int32} (h : ∀ i, i < 14 → bt x i = true → bt y i = true) : pc x ≤ pc y := cn_mono h
theorem cs_mono {A : sA} {x y : Int32} {p : Nat} {u : Int} (h : ∀ i, i < 14 → bt x i = true → bt y i = true) (hc : cs A x p u = true) : cs A y p u = true := by
  unfold cs at hc ⊢
  rw [Bool.and_eq_true] at hc ⊢
  refine ⟨hc.1, ?_⟩
  rw [al_iff]
  have hc2 := al_iff.mp hc.2
  intro i h1 h2
  have h3 := hc2 i h1 h2
  rw [decide_eq_true_eq] at h3 ⊢
  refine Nat.le_trans h3 (pc_mono (fun s hs hb => ?_))
  rw [bt_ab hs, Bool.and_eq_true] at hb ⊢
  exact ⟨h s hs hb.1, hb.2⟩
theorem cn_lt {p q : Nat → Bool} : ∀ {n : Nat}, (∀ i, i < n → p i = true → q i = true) → (∃ i, i < n ∧ p i = false ∧ q i = true) → cn p n < cn q n
  | 0, _, ⟨i, hi, _⟩ => absurd hi (by omega)
  | n + 1, h, ⟨i, hi, h1, h2⟩ => by
    rw [cn, cn]
    by_cases e : i = n
    · subst e
      have := cn_mono (p := p) (q := q) (n := i) (fun j hj => h j (by omega))
      rw [h1, h2]
      simp
      omega
    · have ih := cn_lt (p := p) (q := q) (n := n) (fun j hj => h j (by omega)) ⟨i, by omega, h1, h2⟩
      have h3 := h n (by omega)
      cases hp : p n
      · simp; omega
      · rw [h3 hp]; simp; omega
theorem bt_sg {A : sA} {x : Int32} {i : Nat} (hi : i < 5) : bt (sg A x) i = cs A x i 0 := by
  unfold sg
  rw [bt_bs (by omega) (by omega), decide_eq_true hi, Bool.true_and]
theorem bt_sg5 {A : sA} {x : Int32} {i : Nat} (hi : 5 ≤ i) : bt (sg A x) i = false := by
  by_cases h : i < 32
  · unfold sg
    rw [bt_bs h (by omega), decide_eq_false (by omega), Bool.false_and]
  · exact b_big (by omega)
theorem sg_lt {A : sA} {x y : Int32} (h : ∀ i, i < 14 → bt x i = true → bt y i = true) : pc (sg A x) < pc (sg A y) ↔ ¬ sg A x = sg A y := by
  constructor
  · intro h1 h2
    rw [h2] at h1
    omega
  · intro h1
    unfold pc
    refine cn_lt (fun i hi hb => ?_) ?_
    · by_cases h5 : i < 5
      · rw [bt_sg h5] at hb ⊢
        exact cs_mono h hb
      · rw [bt_sg5 (by omega)] at hb; cases hb
    · apply Classical.byContradiction
      intro hn
      apply h1
      apply b_ext
      intro i _
      by_cases h5 : i < 5
      · rw [bt_sg h5, bt_sg h5]
        cases e1 : cs A x i 0
        · cases e2 : cs A y i 0
          · rfl
          · exact absurd ⟨i, by omega, by rw [bt_sg h5]; exact e1, by rw [bt_sg h5]; exact e2⟩ hn
        · exact (cs_mono h e1).symm
      · rw [bt_sg5 (by omega), bt_sg5 (by omega)]
section QU
variable {A : sA} {R : Nat → List Nat} {t : Nat} {C M : sm_MI}
theorem q_rows (h : Rel A R t C M) (x : Int32) : ∃ r, F_VM_rows t x C = some r ∧ mq (F_Mo_rows x M) M (cv r) := by
  obtain ⟨M1, hM1, h0, h, hs⟩ := h.start
  have hw := h.wa
  have hc := h.ca
  have hm := h.ma
  have hst := h.st
  have hn := hw.1
  have h5 := hw.2.1
  unfold F_VM_rows F_Mo_rows
  rw [hM1]
  rcases ix_or x (n := A 0 0) (by omega) with hx | ⟨s, hs1, rfl⟩
  · refine ⟨.inr 1, by rw [c_chS0 hw hc hx]; rfl, mq_t hs (v := 0) ?_⟩
    simp (disch := omega) only [↓g_in, ↓g_c0, ↓g_c1, ↓reduceIte, ↓y_lt, ↓y_q1, ↓y_q2, ↓sn_q3, ↓sn_t1l, ↓sn_t1r, ↓sn_t2l, ↓sn_t2r, y_q1, y_q2, sn_q3, sn_t1l, sn_t1r, sn_t2l, sn_t2r, nI_clamp, x_leT, x_leF, x_ltT, x_ltF, x_eqT, x_eqF, x_le0T, x_le0F, x_0leT, x_lt0F, x_0ltT, x_0ltF, x_eq0T, x_eq0F, x_le1T, x_le1F, x_1leT, x_1leF, x_1ltT, x_1ltF, x_lt1T, x_lt1F, x_eq1T, x_eq1F, x_m1F, nI_add, nI_1, sn_mul, x_sub, x_sub1, sn_m1, l2, l3, l4, l5, l6, l7, l8, l9, l10, l11, l12, l13, l14, l15, l20, l30, l40, l48, l60, l64, l99, l100, l700, l999, not_true_eq_false, not_false_eq_true, x_t0, x_t1, lts1, x_10, x_1sub, eq_self, Nat.reduceSub, Nat.reduceAdd, Nat.reduceMul, ↓q2_of (m_isS0 hw hm h0 hx)]
  · refine ⟨.inl (nI (cn (fun r => bt (ab A (C 9 0) r 0) s) 20)), ?_, mq_v (M' := M1) ?_ h0 hs⟩
    · have lp := lp_in (fun f j (z : Int32) => F_VM_rows_16 t C f (b1 s &&& C 9 0) z j) (fun z => some (.inl z)) (fun j z => if bt (ab A (C 9 0) j 0) s then z + 1 else z) (fun _ _ => True) 20 0 trivial (by omega) ?_ ?_
      · rw [itr_cn (p := fun j => bt (ab A (C 9 0) j 0) s)] at lp
        simp (disch := omega) only [↓g_in, ↓g_c0, ↓g_c1, ↓reduceIte, ↓y_lt, ↓y_q1, ↓y_q2, ↓sn_q3, ↓sn_t1l, ↓sn_t1r, ↓sn_t2l, ↓sn_t2r, y_q1, y_q2, sn_q3, sn_t1l, sn_t1r, sn_t2l, sn_t2r, nI_clamp, x_leT, x_leF, x_ltT, x_ltF, x_eqT, x_eqF, x_le0T, x_le0F, x_0leT, x_lt0F, x_0ltT, x_0ltF, x_eq0T, x_eq0F, x_le1T, x_le1F, x_1leT, x_1leF, x_1ltT, x_1ltF, x_lt1T, x_lt1F, x_eq1T, x_eq1F, x_m1F, nI_add, nI_1, sn_mul, x_sub, x_sub1, sn_m1, l2, l3, l4, l5, l6, l7, l8, l9, l10, l11, l12, l13, l14, l15, l20, l30, l40, l48, l60, l64, l99, l100, l700, l999, not_true_eq_false, not_false_eq_true, x_t0, x_t1, lts1, x_10, x_1sub, eq_self, Nat.reduceSub, Nat.reduceAdd, Nat.reduceMul, ↓t1_of (c_chS1 hw hc hs1)]
        exact lp.1
      · intro f z _
        show F_VM_rows_16B t (F_VM_rows_16 t C f) (b1 s &&& C 9 0) z (nI 20) C = _
        unfold F_VM_rows_16B
        simp (disch := omega) only [↓g_in, ↓g_c0, ↓g_c1, ↓reduceIte, ↓y_lt, ↓y_q1, ↓y_q2, ↓sn_q3, ↓sn_t1l, ↓sn_t1r, ↓sn_t2l, ↓sn_t2r, y_q1, y_q2, sn_q3, sn_t1l, sn_t1r, sn_t2l, sn_t2r, nI_clamp, x_leT, x_leF, x_ltT, x_ltF, x_eqT, x_eqF, x_le0T, x_le0F, x_0leT, x_lt0F, x_0ltT, x_0ltF, x_eq0T, x_eq0F, x_le1T, x_le1F, x_1leT, x_1leF, x_1ltT, x_1ltF, x_lt1T, x_lt1F, x_eq1T, x_eq1F, x_m1F, nI_add, nI_1, sn_mul, x_sub, x_sub1, sn_m1, l2, l3, l4, l5, l6, l7, l8, l9, l10, l11, l12, l13, l14, l15, l20, l30, l40, l48, l60, l64, l99, l100, l700, l999, not_true_eq_false, not_false_eq_true, x_t0, x_t1, lts1, x_10, x_1sub, eq_self, Nat.reduceSub, Nat.reduceAdd, Nat.reduceMul]
      · intro f j z hj _
        refine ⟨trivial, ?_⟩
        show F_VM_rows_16B t (F_VM_rows_16 t C f) (b1 s &&& C 9 0) z (nI j) C = F_VM_rows_16 t C f (b1 s &&& C 9 0) _ (nI (j + 1))
        unfold F_VM_rows_16B
        have e : C (t + 11) j &&& (b1 s &&& C 9 0) = ab A (C 9 0) j 0 &&& b1 s := by rw [an_as, ab_fit hc hj]
        simp (disch := omega) only [↓g_in, ↓g_c0, ↓g_c1, ↓reduceIte, ↓y_lt, ↓y_q1, ↓y_q2, ↓sn_q3, ↓sn_t1l, ↓sn_t1r, ↓sn_t2l, ↓sn_t2r, y_q1, y_q2, sn_q3, sn_t1l, sn_t1r, sn_t2l, sn_t2r, nI_clamp, x_leT, x_leF, x_ltT, x_ltF, x_eqT, x_eqF, x_le0T, x_le0F, x_0leT, x_lt0F, x_0ltT, x_0ltF, x_eq0T, x_eq0F, x_le1T, x_le1F, x_1leT, x_1leF, x_1ltT, x_1ltF, x_lt1T, x_lt1F, x_eq1T, x_eq1F, x_m1F, nI_add, nI_1, sn_mul, x_sub, x_sub1, sn_m1, l2, l3, l4, l5, l6, l7, l8, l9, l10, l11, l12, l13, l14, l15, l20, l30, l40, l48, l60, l64, l99, l100, l700, l999, not_true_eq_false, not_false_eq_true, x_t0, x_t1, lts1, x_10, x_1sub, eq_self, Nat.reduceSub, Nat.reduceAdd, Nat.reduceMul, e, bs0]
        cases bt (ab A (C 9 0) j 0) s <;> rfl
    · have lp := lp_in (fun f j (z : Int32) => F_Mo_rows_13 f (nI s) z j M1) (fun z => some (z, M1)) (fun j z => if bt (ab A (C 9 0) j 0) s then z + 1 else z) (fun _ _ => True) (4 * A 0 1) 0 trivial (by omega) ?_ ?_
      · rw [itr_cn (p := fun j => bt (ab A (C 9 0) j 0) s)] at lp
        simp (disch := omega) only [↓g_in, ↓g_c0, ↓g_c1, ↓reduceIte, ↓y_lt, ↓y_q1, ↓y_q2, ↓sn_q3, ↓sn_t1l, ↓sn_t1r, ↓sn_t2l, ↓sn_t2r, y_q1, y_q2, sn_q3, sn_t1l, sn_t1r, sn_t2l, sn_t2r, nI_clamp, x_leT, x_leF, x_ltT, x_ltF, x_eqT, x_eqF, x_le0T, x_le0F, x_0leT, x_lt0F, x_0ltT, x_0ltF, x_eq0T, x_eq0F, x_le1T, x_le1F, x_1leT, x_1leF, x_1ltT, x_1ltF, x_lt1T, x_lt1F, x_eq1T, x_eq1F, x_m1F, nI_add, nI_1, sn_mul, x_sub, x_sub1, sn_m1, l2, l3, l4, l5, l6, l7, l8, l9, l10, l11, l12, l13, l14, l15, l20, l30, l40, l48, l60, l64, l99, l100, l700, l999, not_true_eq_false, not_false_eq_true, x_t0, x_t1, lts1, x_10, x_1sub, eq_self, Nat.reduceSub, Nat.reduceAdd, Nat.reduceMul, ↓q2_of (m_isS1 hw hm h0 hs1)]
        rw [cn_to (n := 4 * A 0 1) (by omega) (fun r h1 h2 => by rw [bt_ab (by omega), fu_r hw h1 h2, Bool.and_false])]
        exact lp.1
      · intro f z _
        show F_Mo_rows_13B (F_Mo_rows_13 f) (nI s) z (nI (4 * A 0 1)) M1 = _
        unfold F_Mo_rows_13B
        simp (disch := omega) only [↓g_in, ↓g_c0, ↓g_c1, ↓reduceIte, ↓y_lt, ↓y_q1, ↓y_q2, ↓sn_q3, ↓sn_t1l, ↓sn_t1r, ↓sn_t2l, ↓sn_t2r, y_q1, y_q2, sn_q3, sn_t1l, sn_t1r, sn_t2l, sn_t2r, nI_clamp, x_leT, x_leF, x_ltT, x_ltF, x_eqT, x_eqF, x_le0T, x_le0F, x_0leT, x_lt0F, x_0ltT, x_0ltF, x_eq0T, x_eq0F, x_le1T, x_le1F, x_1leT, x_1leF, x_1ltT, x_1ltF, x_lt1T, x_lt1F, x_eq1T, x_eq1F, x_m1F, nI_add, nI_1, sn_mul, x_sub, x_sub1, sn_m1, l2, l3, l4, l5, l6, l7, l8, l9, l10, l11, l12, l13, l14, l15, l20, l30, l40, l48, l60, l64, l99, l100, l700, l999, not_true_eq_false, not_false_eq_true, x_t0, x_t1, lts1, x_10, x_1sub, eq_self, Nat.reduceSub, Nat.reduceAdd, Nat.reduceMul, hm.2.1]
      · intro f j z hj _
        refine ⟨trivial, ?_⟩
        show F_Mo_rows_13B (F_Mo_rows_13 f) (nI s) z (nI j) M1 = F_Mo_rows_13 f (nI s) _ (nI (j + 1)) M1
        unfold F_Mo_rows_13B
        have e := mo_ableOf (A := A) (I := M1) (r := j) (x := C 9 0) (u := 0) hw hm (by omega) (by decide)
        have e : F_Mo_ableOf (C 9 0) (nI j) 0 M1 = some (ab A (C 9 0) j 0) := e
        simp (disch := omega) only [↓g_in, ↓g_c0, ↓g_c1, ↓reduceIte, ↓y_lt, ↓y_q1, ↓y_q2, ↓sn_q3, ↓sn_t1l, ↓sn_t1r, ↓sn_t2l, ↓sn_t2r, y_q1, y_q2, sn_q3, sn_t1l, sn_t1r, sn_t2l, sn_t2r, nI_clamp, x_leT, x_leF, x_ltT, x_ltF, x_eqT, x_eqF, x_le0T, x_le0F, x_0leT, x_lt0F, x_0ltT, x_0ltF, x_eq0T, x_eq0F, x_le1T, x_le1F, x_1leT, x_1leF, x_1ltT, x_1ltF, x_lt1T, x_lt1F, x_eq1T, x_eq1F, x_m1F, nI_add, nI_1, sn_mul, x_sub, x_sub1, sn_m1, l2, l3, l4, l5, l6, l7, l8, l9, l10, l11, l12, l13, l14, l15, l20, l30, l40, l48, l60, l64, l99, l100, l700, l999, not_true_eq_false, not_false_eq_true, x_t0, x_t1, lts1, x_10, x_1sub, eq_self, Nat.reduceSub, Nat.reduceAdd, Nat.reduceMul, hm.2.1, ↓q1_of (mo_so0 hw hm hst), e, bt_test (ab A (C 9 0) j 0) (show s < 32 by omega)]
        cases bt (ab A (C 9 0) j 0) s
        · simp only [Bool.false_eq_true, ↓reduceIte, Int32.add_zero]
        · rfl
def sps (A : sA) (x : Int32) (p j : Nat) (z : Nat) : Nat := if A 6 (4 * p + j) = 0 then z else if pc (ab A x (4 * p + j) 0) - A 6 (4 * p + j) < z then pc (ab A x (4 * p + j) 0) - A 6 (4 * p + j) else z
theorem sps_or {A : sA} {x : Int32} {p : Nat} : ∀ {n : Nat}, n ≤ 4 → itr (sps A x p) n 14 = itr (sps A x p) n 99 ∨ (itr (sps A x p) n 14 = 14 ∧ itr (sps A x p) n 99 = 99 ∧ ∀ j, j < n → A 6 (4 * p + j) = 0)
  | 0, _ => Or.inr ⟨rfl, rfl, fun j hj => absurd hj (by omega)⟩
  | n + 1, hn => by
    rw [itr, itr]
    rcases sps_or (A := A) (x := x) (p := p) (n := n) (by omega) with h | ⟨h1, h2, h3⟩
    · exact Or.inl (by rw [h])
    · rw [h1, h2]
      by_cases e : A 6 (4 * p + n) = 0
      · refine Or.inr ⟨by unfold sps; rw [if_pos e], by unfold sps; rw [if_pos e], fun j hj => ?_⟩
        by_cases e2 : j = n
        · rw [e2]; exact e
        · exact h3 j (by omega)
      · have := pc_le (ab A x (4 * p + n) 0)
        refine Or.inl ?_
        unfold sps
        rw [if_neg e, if_neg e, if_pos (by omega), if_pos (by omega)]
theorem sps_eq {A : sA} {x : Int32} {p : Nat} (h : cs A x p 0 = true) : itr (sps A x p) 4 14 = itr (sps A x p) 4 99 := by
  rcases sps_or (A := A) (x := x) (p := p) (n := 4) (by omega) with h1 | ⟨-, -, h3⟩
  · exact h1
  · exfalso
    unfold cs at h
    rw [Bool.and_eq_true] at h
    have : nr A p = true := by
      unfold nr
      rw [al_iff]
      intro i h4 h5
      have := h3 (i - 4 * p) (by omega)
      rw [show 4 * p + (i - 4 * p) = i by omega] at this
      exact decide_eq_true this
    rw [this] at h
    exact absurd h.1 (by decide)
theorem sps_le {A : sA} {x : Int32} {p : Nat} {a : Nat} : ∀ {n : Nat}, itr (sps A x p) n a ≤ a
  | 0 => Nat.le_refl _
  | n + 1 => by
    rw [itr]
    have := sps_le (A := A) (x := x) (p := p) (a := a) (n := n)
    unfold sps at this ⊢
    split
    · exact this
    · split <;> omega
theorem q_spare (h : Rel A R t C M) (x : Int32) : ∃ r, F_VM_spare t x C = some r ∧ mq (F_Mo_spare x M) M (cv r) := by
  obtain ⟨M1, hM1, h0, h, hs⟩ := h.start
  have hw := h.wa
  have hc := h.ca
  have hm := h.ma
  have hst := h.st
  have h5 := hw.2.1
  unfold F_VM_spare F_Mo_spare F_Choir_sparable
  rw [hM1]
  rcases ix_or x (n := A 0 1) (by omega) with hx | ⟨p, hp, rfl⟩
  · refine ⟨.inr 1, by rw [c_chP0 hw hc hx]; rfl, mq_t hs (v := 0) ?_⟩
    simp (disch := omega) only [↓g_in, ↓g_c0, ↓g_c1, ↓reduceIte, ↓y_lt, ↓y_q1, ↓y_q2, ↓sn_q3, ↓sn_t1l, ↓sn_t1r, ↓sn_t2l, ↓sn_t2r, y_q1, y_q2, sn_q3, sn_t1l, sn_t1r, sn_t2l, sn_t2r, nI_clamp, x_leT, x_leF, x_ltT, x_ltF, x_eqT, x_eqF, x_le0T, x_le0F, x_0leT, x_lt0F, x_0ltT, x_0ltF, x_eq0T, x_eq0F, x_le1T, x_le1F, x_1leT, x_1leF, x_1ltT, x_1ltF, x_lt1T, x_lt1F, x_eq1T, x_eq1F, x_m1F, nI_add, nI_1, sn_mul, x_sub, x_sub1, sn_m1, l2, l3, l4, l5, l6, l7, l8, l9, l10, l11, l12, l13, l14, l15, l20, l30, l40, l48, l60, l64, l99, l100, l700, l999, not_true_eq_false, not_false_eq_true, x_t0, x_t1, lts1, x_10, x_1sub, eq_self, Nat.reduceSub, Nat.reduceAdd, Nat.reduceMul, ↓q2_of (m_isP0 hw hm h0 hx)]
  · have ec := c_canBeSung (p := p) (x := C 9 0) hw hc (by omega)
    have em := mo_canBeSung (p := p) (x := C 9 0) (u := 0) hw hm (by omega) (by decide)
    have em : F_Mo_canBeSung (C 9 0) (nI p) 0 M1 = some (if cs A (C 9 0) p 0 = true then 1 else 0) := em
    cases hcs : cs A (C 9 0) p 0
    · rw [hcs] at ec em
      refine ⟨.inl (-1), ?_, mq_v (M' := M1) ?_ h0 hs⟩
      · simp (disch := omega) only [↓g_in, ↓g_c0, ↓g_c1, ↓reduceIte, ↓y_lt, ↓y_q1, ↓y_q2, ↓sn_q3, ↓sn_t1l, ↓sn_t1r, ↓sn_t2l, ↓sn_t2r, y_q1, y_q2, sn_q3, sn_t1l, sn_t1r, sn_t2l, sn_t2r, nI_clamp, x_leT, x_leF, x_ltT, x_ltF, x_eqT, x_eqF, x_le0T, x_le0F, x_0leT, x_lt0F, x_0ltT, x_0ltF, x_eq0T, x_eq0F, x_le1T, x_le1F, x_1leT, x_1leF, x_1ltT, x_1ltF, x_lt1T, x_lt1F, x_eq1T, x_eq1F, x_m1F, nI_add, nI_1, sn_mul, x_sub, x_sub1, sn_m1, l2, l3, l4, l5, l6, l7, l8, l9, l10, l11, l12, l13, l14, l15, l20, l30, l40, l48, l60, l64, l99, l100, l700, l999, not_true_eq_false, not_false_eq_true, x_t0, x_t1, lts1, x_10, x_1sub, eq_self, Nat.reduceSub, Nat.reduceAdd, Nat.reduceMul, ↓t1_of (c_chP1 hw hc hp), ↓q1_of ec, Bool.false_eq_true]
      · simp (disch := omega) only [↓g_in, ↓g_c0, ↓g_c1, ↓reduceIte, ↓y_lt, ↓y_q1, ↓y_q2, ↓sn_q3, ↓sn_t1l, ↓sn_t1r, ↓sn_t2l, ↓sn_t2r, y_q1, y_q2, sn_q3, sn_t1l, sn_t1r, sn_t2l, sn_t2r, nI_clamp, x_leT, x_leF, x_ltT, x_ltF, x_eqT, x_eqF, x_le0T, x_le0F, x_0leT, x_lt0F, x_0ltT, x_0ltF, x_eq0T, x_eq0F, x_le1T, x_le1F, x_1leT, x_1leF, x_1ltT, x_1ltF, x_lt1T, x_lt1F, x_eq1T, x_eq1F, x_m1F, nI_add, nI_1, sn_mul, x_sub, x_sub1, sn_m1, l2, l3, l4, l5, l6, l7, l8, l9, l10, l11, l12, l13, l14, l15, l20, l30, l40, l48, l60, l64, l99, l100, l700, l999, not_true_eq_false, not_false_eq_true, x_t0, x_t1, lts1, x_10, x_1sub, eq_self, Nat.reduceSub, Nat.reduceAdd, Nat.reduceMul, ↓q2_of (m_isP1 hw hm h0 hp), ↓q1_of (mo_so0 hw hm hst), ↓q1_of em, Bool.false_eq_true]
    · rw [hcs] at ec em
      refine ⟨.inl (nI (itr (sps A (C 9 0) p) 4 14)), ?_, mq_v (M' := M1) ?_ h0 hs⟩
      · have lp := lp_in (fun f j (z : Nat) => F_Choir_sparable_11 t C f (C 9 0) (nI p) (nI z) j) (fun z => some (nI z)) (sps A (C 9 0) p) (fun _ z => z ≤ 14) 4 14 (by omega) (by omega) ?_ ?_
        · simp (disch := omega) only [↓g_in, ↓g_c0, ↓g_c1, ↓reduceIte, ↓y_lt, ↓y_q1, ↓y_q2, ↓sn_q3, ↓sn_t1l, ↓sn_t1r, ↓sn_t2l, ↓sn_t2r, y_q1, y_q2, sn_q3, sn_t1l, sn_t1r, sn_t2l, sn_t2r, nI_clamp, x_leT, x_leF, x_ltT, x_ltF, x_eqT, x_eqF, x_le0T, x_le0F, x_0leT, x_lt0F, x_0ltT, x_0ltF, x_eq0T, x_eq0F, x_le1T, x_le1F, x_1leT, x_1leF, x_1ltT, x_1ltF, x_lt1T, x_lt1F, x_eq1T, x_eq1F, x_m1F, nI_add, nI_1, sn_mul, x_sub, x_sub1, sn_m1, l2, l3, l4, l5, l6, l7, l8, l9, l10, l11, l12, l13, l14, l15, l20, l30, l40, l48, l60, l64, l99, l100, l700, l999, not_true_eq_false, not_false_eq_true, x_t0, x_t1, lts1, x_10, x_1sub, eq_self, Nat.reduceSub, Nat.reduceAdd, Nat.reduceMul, ↓t1_of (c_chP1 hw hc hp), ↓q1_of ec]
          have lp : F_Choir_sparable_11 t C sd_fu (C 9 0) (nI p) (nI 14) 0 = _ := lp.1
          rw [lp]
          rfl
        · intro f z _
          show F_Choir_sparable_11B t (F_Choir_sparable_11 t C f) (C 9 0) (nI p) (nI z) (nI 4) C = _
          unfold F_Choir_sparable_11B
          simp (disch := omega) only [↓g_in, ↓g_c0, ↓g_c1, ↓reduceIte, ↓y_lt, ↓y_q1, ↓y_q2, ↓sn_q3, ↓sn_t1l, ↓sn_t1r, ↓sn_t2l, ↓sn_t2r, y_q1, y_q2, sn_q3, sn_t1l, sn_t1r, sn_t2l, sn_t2r, nI_clamp, x_leT, x_leF, x_ltT, x_ltF, x_eqT, x_eqF, x_le0T, x_le0F, x_0leT, x_lt0F, x_0ltT, x_0ltF, x_eq0T, x_eq0F, x_le1T, x_le1F, x_1leT, x_1leF, x_1ltT, x_1ltF, x_lt1T, x_lt1F, x_eq1T, x_eq1F, x_m1F, nI_add, nI_1, sn_mul, x_sub, x_sub1, sn_m1, l2, l3, l4, l5, l6, l7, l8, l9, l10, l11, l12, l13, l14, l15, l20, l30, l40, l48, l60, l64, l99, l100, l700, l999, not_true_eq_false, not_false_eq_true, x_t0, x_t1, lts1, x_10, x_1sub, eq_self, Nat.reduceSub, Nat.reduceAdd, Nat.reduceMul]
        · intro f j z hj hz
          have hr : 4 * p + j < 20 := by omega
          have hn := (hw.2.2.2.2.2 (4 * p + j) hr).1
          have hpc := pc_le (ab A (C 9 0) (4 * p + j) 0)
          have hall : A 6 (4 * p + j) ≤ pc (ab A (C 9 0) (4 * p + j) 0) := by
            unfold cs at hcs
            rw [Bool.and_eq_true] at hcs
            have := al_iff.mp hcs.2 (4 * p + j) (by omega) (by omega)
            rwa [decide_eq_true_eq] at this
          refine ⟨by unfold sps; split; exact hz; split <;> omega, ?_⟩
          show F_Choir_sparable_11B t (F_Choir_sparable_11 t C f) (C 9 0) (nI p) (nI z) (nI j) C = F_Choir_sparable_11 t C f (C 9 0) (nI p) _ (nI (j + 1))
          unfold F_Choir_sparable_11B sps
          have q1 := (hc.2.2.2.2.1 (4 * p + j) hr).1
          by_cases e : A 6 (4 * p + j) = 0
          · simp (disch := omega) only [↓g_in, ↓g_c0, ↓g_c1, ↓reduceIte, ↓y_lt, ↓y_q1, ↓y_q2, ↓sn_q3, ↓sn_t1l, ↓sn_t1r, ↓sn_t2l, ↓sn_t2r, y_q1, y_q2, sn_q3, sn_t1l, sn_t1r, sn_t2l, sn_t2r, nI_clamp, x_leT, x_leF, x_ltT, x_ltF, x_eqT, x_eqF, x_le0T, x_le0F, x_0leT, x_lt0F, x_0ltT, x_0ltF, x_eq0T, x_eq0F, x_le1T, x_le1F, x_1leT, x_1leF, x_1ltT, x_1ltF, x_lt1T, x_lt1F, x_eq1T, x_eq1F, x_m1F, nI_add, nI_1, sn_mul, x_sub, x_sub1, sn_m1, l2, l3, l4, l5, l6, l7, l8, l9, l10, l11, l12, l13, l14, l15, l20, l30, l40, l48, l60, l64, l99, l100, l700, l999, not_true_eq_false, not_false_eq_true, x_t0, x_t1, lts1, x_10, x_1sub, eq_self, Nat.reduceSub, Nat.reduceAdd, Nat.reduceMul, Nat.mul_comm p 4, q1, e]
          · unfold F_Math_min
            by_cases e2 : pc (ab A (C 9 0) (4 * p + j) 0) - A 6 (4 * p + j) < z
            · simp (disch := omega) only [↓g_in, ↓g_c0, ↓g_c1, ↓reduceIte, ↓y_lt, ↓y_q1, ↓y_q2, ↓sn_q3, ↓sn_t1l, ↓sn_t1r, ↓sn_t2l, ↓sn_t2r, y_q1, y_q2, sn_q3, sn_t1l, sn_t1r, sn_t2l, sn_t2r, nI_clamp, x_leT, x_leF, x_ltT, x_ltF, x_eqT, x_eqF, x_le0T, x_le0F, x_0leT, x_lt0F, x_0ltT, x_0ltF, x_eq0T, x_eq0F, x_le1T, x_le1F, x_1leT, x_1leF, x_1ltT, x_1ltF, x_lt1T, x_lt1F, x_eq1T, x_eq1F, x_m1F, nI_add, nI_1, sn_mul, x_sub, x_sub1, sn_m1, l2, l3, l4, l5, l6, l7, l8, l9, l10, l11, l12, l13, l14, l15, l20, l30, l40, l48, l60, l64, l99, l100, l700, l999, not_true_eq_false, not_false_eq_true, x_t0, x_t1, lts1, x_10, x_1sub, eq_self, Nat.reduceSub, Nat.reduceAdd, Nat.reduceMul, Nat.mul_comm p 4, q1, ab_fit hc hr, int_bc lo14_ab, e, e2]
            · simp (disch := omega) only [↓g_in, ↓g_c0, ↓g_c1, ↓reduceIte, ↓y_lt, ↓y_q1, ↓y_q2, ↓sn_q3, ↓sn_t1l, ↓sn_t1r, ↓sn_t2l, ↓sn_t2r, y_q1, y_q2, sn_q3, sn_t1l, sn_t1r, sn_t2l, sn_t2r, nI_clamp, x_leT, x_leF, x_ltT, x_ltF, x_eqT, x_eqF, x_le0T, x_le0F, x_0leT, x_lt0F, x_0ltT, x_0ltF, x_eq0T, x_eq0F, x_le1T, x_le1F, x_1leT, x_1leF, x_1ltT, x_1ltF, x_lt1T, x_lt1F, x_eq1T, x_eq1F, x_m1F, nI_add, nI_1, sn_mul, x_sub, x_sub1, sn_m1, l2, l3, l4, l5, l6, l7, l8, l9, l10, l11, l12, l13, l14, l15, l20, l30, l40, l48, l60, l64, l99, l100, l700, l999, not_true_eq_false, not_false_eq_true, x_t0, x_t1, lts1, x_10, x_1sub, eq_self, Nat.reduceSub, Nat.reduceAdd, Nat.reduceMul, Nat.mul_comm p 4, q1, ab_fit hc hr, int_bc lo14_ab, e, e2]
      · rw [sps_eq hcs]
        have lp := lp_in (fun f j (z : Nat) => F_Mo_spare_29 f (nI p) (C 9 0) (nI z) (nI (4 * p) + j) M1) (fun z => some (nI z, M1)) (sps A (C 9 0) p) (fun _ z => z ≤ 99) 4 99 (by omega) (by omega) ?_ ?_
        · simp (disch := omega) only [↓g_in, ↓g_c0, ↓g_c1, ↓reduceIte, ↓y_lt, ↓y_q1, ↓y_q2, ↓sn_q3, ↓sn_t1l, ↓sn_t1r, ↓sn_t2l, ↓sn_t2r, y_q1, y_q2, sn_q3, sn_t1l, sn_t1r, sn_t2l, sn_t2r, nI_clamp, x_leT, x_leF, x_ltT, x_ltF, x_eqT, x_eqF, x_le0T, x_le0F, x_0leT, x_lt0F, x_0ltT, x_0ltF, x_eq0T, x_eq0F, x_le1T, x_le1F, x_1leT, x_1leF, x_1ltT, x_1ltF, x_lt1T, x_lt1F, x_eq1T, x_eq1F, x_m1F, nI_add, nI_1, sn_mul, x_sub, x_sub1, sn_m1, l2, l3, l4, l5, l6, l7, l8, l9, l10, l11, l12, l13, l14, l15, l20, l30, l40, l48, l60, l64, l99, l100, l700, l999, not_true_eq_false, not_false_eq_true, x_t0, x_t1, lts1, x_10, x_1sub, eq_self, Nat.reduceSub, Nat.reduceAdd, Nat.reduceMul, ↓q2_of (m_isP1 hw hm h0 hp), ↓q1_of (mo_so0 hw hm hst), ↓q1_of em]
          have lp := lp.1
          simp only [nI_add, Nat.add_zero] at lp
          exact lp
        · intro f z _
          show F_Mo_spare_29B (F_Mo_spare_29 f) (nI p) (C 9 0) (nI z) (nI (4 * p) + nI 4) M1 = _
          unfold F_Mo_spare_29B
          simp (disch := omega) only [↓g_in, ↓g_c0, ↓g_c1, ↓reduceIte, ↓y_lt, ↓y_q1, ↓y_q2, ↓sn_q3, ↓sn_t1l, ↓sn_t1r, ↓sn_t2l, ↓sn_t2r, y_q1, y_q2, sn_q3, sn_t1l, sn_t1r, sn_t2l, sn_t2r, nI_clamp, x_leT, x_leF, x_ltT, x_ltF, x_eqT, x_eqF, x_le0T, x_le0F, x_0leT, x_lt0F, x_0ltT, x_0ltF, x_eq0T, x_eq0F, x_le1T, x_le1F, x_1leT, x_1leF, x_1ltT, x_1ltF, x_lt1T, x_lt1F, x_eq1T, x_eq1F, x_m1F, nI_add, nI_1, sn_mul, x_sub, x_sub1, sn_m1, l2, l3, l4, l5, l6, l7, l8, l9, l10, l11, l12, l13, l14, l15, l20, l30, l40, l48, l60, l64, l99, l100, l700, l999, not_true_eq_false, not_false_eq_true, x_t0, x_t1, lts1, x_10, x_1sub, eq_self, Nat.reduceSub, Nat.reduceAdd, Nat.reduceMul]
        · intro f j z hj hz
          have hr : 4 * p + j < 20 := by omega
          have hn := (hw.2.2.2.2.2 (4 * p + j) hr).1
          have hpc := pc_le (ab A (C 9 0) (4 * p + j) 0)
          have hall : A 6 (4 * p + j) ≤ pc (ab A (C 9 0) (4 * p + j) 0) := by
            unfold cs at hcs
            rw [Bool.and_eq_true] at hcs
            have := al_iff.mp hcs.2 (4 * p + j) (by omega) (by omega)
            rwa [decide_eq_true_eq] at this
          refine ⟨by unfold sps; split; exact hz; split <;> omega, ?_⟩
          show F_Mo_spare_29B (F_Mo_spare_29 f) (nI p) (C 9 0) (nI z) (nI (4 * p) + nI j) M1 = F_Mo_spare_29 f (nI p) (C 9 0) _ (nI (4 * p) + nI (j + 1)) M1
          unfold F_Mo_spare_29B sps F_Mo_spare_54
          have q1 := (hm.2.2.2.2 (4 * p + j) hr).1
          have e := mo_ableOf (A := A) (I := M1) (r := 4 * p + j) (x := C 9 0) (u := 0) hw hm (by omega) (by decide)
          have e9 : F_Mo_ableOf (C 9 0) (nI (4 * p + j)) 0 M1 = some (ab A (C 9 0) (4 * p + j) 0) := e
          by_cases e : A 6 (4 * p + j) = 0
          · simp (disch := omega) only [↓g_in, ↓g_c0, ↓g_c1, ↓reduceIte, ↓y_lt, ↓y_q1, ↓y_q2, ↓sn_q3, ↓sn_t1l, ↓sn_t1r, ↓sn_t2l, ↓sn_t2r, y_q1, y_q2, sn_q3, sn_t1l, sn_t1r, sn_t2l, sn_t2r, nI_clamp, x_leT, x_leF, x_ltT, x_ltF, x_eqT, x_eqF, x_le0T, x_le0F, x_0leT, x_lt0F, x_0ltT, x_0ltF, x_eq0T, x_eq0F, x_le1T, x_le1F, x_1leT, x_1leF, x_1ltT, x_1ltF, x_lt1T, x_lt1F, x_eq1T, x_eq1F, x_m1F, nI_add, nI_1, sn_mul, x_sub, x_sub1, sn_m1, l2, l3, l4, l5, l6, l7, l8, l9, l10, l11, l12, l13, l14, l15, l20, l30, l40, l48, l60, l64, l99, l100, l700, l999, not_true_eq_false, not_false_eq_true, x_t0, x_t1, lts1, x_10, x_1sub, eq_self, Nat.reduceSub, Nat.reduceAdd, Nat.reduceMul, q1, e, Nat.add_assoc]
          · by_cases e2 : pc (ab A (C 9 0) (4 * p + j) 0) - A 6 (4 * p + j) < z
            · simp (disch := omega) only [↓g_in, ↓g_c0, ↓g_c1, ↓reduceIte, ↓y_lt, ↓y_q1, ↓y_q2, ↓sn_q3, ↓sn_t1l, ↓sn_t1r, ↓sn_t2l, ↓sn_t2r, y_q1, y_q2, sn_q3, sn_t1l, sn_t1r, sn_t2l, sn_t2r, nI_clamp, x_leT, x_leF, x_ltT, x_ltF, x_eqT, x_eqF, x_le0T, x_le0F, x_0leT, x_lt0F, x_0ltT, x_0ltF, x_eq0T, x_eq0F, x_le1T, x_le1F, x_1leT, x_1leF, x_1ltT, x_1ltF, x_lt1T, x_lt1F, x_eq1T, x_eq1F, x_m1F, nI_add, nI_1, sn_mul, x_sub, x_sub1, sn_m1, l2, l3, l4, l5, l6, l7, l8, l9, l10, l11, l12, l13, l14, l15, l20, l30, l40, l48, l60, l64, l99, l100, l700, l999, not_true_eq_false, not_false_eq_true, x_t0, x_t1, lts1, x_10, x_1sub, eq_self, Nat.reduceSub, Nat.reduceAdd, Nat.reduceMul, q1, e9, mo_bits, e, e2, Nat.add_assoc]
            · simp (disch := omega) only [↓g_in, ↓g_c0, ↓g_c1, ↓reduceIte, ↓y_lt, ↓y_q1, ↓y_q2, ↓sn_q3, ↓sn_t1l, ↓sn_t1r, ↓sn_t2l, ↓sn_t2r, y_q1, y_q2, sn_q3, sn_t1l, sn_t1r, sn_t2l, sn_t2r, nI_clamp, x_leT, x_leF, x_ltT, x_ltF, x_eqT, x_eqF, x_le0T, x_le0F, x_0leT, x_lt0F, x_0ltT, x_0ltF, x_eq0T, x_eq0F, x_le1T, x_le1F, x_1leT, x_1leF, x_1ltT, x_1ltF, x_lt1T, x_lt1F, x_eq1T, x_eq1F, x_m1F, nI_add, nI_1, sn_mul, x_sub, x_sub1, sn_m1, l2, l3, l4, l5, l6, l7, l8, l9, l10, l11, l12, l13, l14, l15, l20, l30, l40, l48, l60, l64, l99, l100, l700, l999, not_true_eq_false, not_false_eq_true, x_t0, x_t1, lts1, x_10, x_1sub, eq_self, Nat.reduceSub, Nat.reduceAdd, Nat.reduceMul, q1, e9, mo_bits, e, e2, Nat.add_assoc]
def key (A : sA) (x : Int32) (s : Nat) : Bool := bt x s && decide (¬ sg A (x &&& (b1 s ^^^ -1)) = sg A x)
theorem q_keys (h : Rel A R t C M) : ∃ v, F_VM_keys t C = some v ∧ mq (F_Mo_keys M) M (.inl v) := by
  obtain ⟨M1, hM1, h0, h, hs⟩ := h.start
  have hw := h.wa
  have hc := h.ca
  have hm := h.ma
  have hst := h.st
  have hn := hw.1
  unfold F_VM_keys F_Mo_keys F_Choir_keySingers
  rw [hM1]
  refine ⟨bs (key A (C 9 0)) 14, ?_, mq_v (M' := M1) ?_ h0 hs⟩
  · have lp := lp_in (fun f j (z : Int32) => F_Choir_keySingers_8 t C f (C 9 0) (sg A (C 9 0)) z j) (fun z => some z) (fun j a => if key A (C 9 0) j then a ||| b1 j else a) (fun _ _ => True) 14 0 trivial (by omega) ?_ ?_
    · rw [itr_bs] at lp
      simp (disch := omega) only [↓g_in, ↓g_c0, ↓g_c1, ↓reduceIte, ↓y_lt, ↓y_q1, ↓y_q2, ↓sn_q3, ↓sn_t1l, ↓sn_t1r, ↓sn_t2l, ↓sn_t2r, y_q1, y_q2, sn_q3, sn_t1l, sn_t1r, sn_t2l, sn_t2r, nI_clamp, x_leT, x_leF, x_ltT, x_ltF, x_eqT, x_eqF, x_le0T, x_le0F, x_0leT, x_lt0F, x_0ltT, x_0ltF, x_eq0T, x_eq0F, x_le1T, x_le1F, x_1leT, x_1leF, x_1ltT, x_1ltF, x_lt1T, x_lt1F, x_eq1T, x_eq1F, x_m1F, nI_add, nI_1, sn_mul, x_sub, x_sub1, sn_m1, l2, l3, l4, l5, l6, l7, l8, l9, l10, l11, l12, l13, l14, l15, l20, l30, l40, l48, l60, l64, l99, l100, l700, l999, not_true_eq_false, not_false_eq_true, x_t0, x_t1, lts1, x_10, x_1sub, eq_self, Nat.reduceSub, Nat.reduceAdd, Nat.reduceMul, c_singable hw hc]
      have lp : F_Choir_keySingers_8 t C sd_fu (C 9 0) (sg A (C 9 0)) 0 0 = _ := lp.1
      rw [lp]
      rfl
    · intro f z _
      show F_Choir_keySingers_8B t (F_Choir_keySingers_8 t C f) (C 9 0) (sg A (C 9 0)) z (nI 14) C = _
      unfold F_Choir_keySingers_8B
      simp (disch := omega) only [↓g_in, ↓g_c0, ↓g_c1, ↓reduceIte, ↓y_lt, ↓y_q1, ↓y_q2, ↓sn_q3, ↓sn_t1l, ↓sn_t1r, ↓sn_t2l, ↓sn_t2r, y_q1, y_q2, sn_q3, sn_t1l, sn_t1r, sn_t2l, sn_t2r, nI_clamp, x_leT, x_leF, x_ltT, x_ltF, x_eqT, x_eqF, x_le0T, x_le0F, x_0leT, x_lt0F, x_0ltT, x_0ltF, x_eq0T, x_eq0F, x_le1T, x_le1F, x_1leT, x_1leF, x_1ltT, x_1ltF, x_lt1T, x_lt1F, x_eq1T, x_eq1F, x_m1F, nI_add, nI_1, sn_mul, x_sub, x_sub1, sn_m1, l2, l3, l4, l5, l6, l7, l8, l9, l10, l11, l12, l13, l14, l15, l20, l30, l40, l48, l60, l64, l99, l100, l700, l999, not_true_eq_false, not_false_eq_true, x_t0, x_t1, lts1, x_10, x_1sub, eq_self, Nat.reduceSub, Nat.reduceAdd, Nat.reduceMul]
    · intro f j z hj _
      refine ⟨trivial, ?_⟩
      show F_Choir_keySingers_8B t (F_Choir_keySingers_8 t C f) (C 9 0) (sg A (C 9 0)) z (nI j) C = F_Choir_keySingers_8 t C f (C 9 0) (sg A (C 9 0)) _ (nI (j + 1))
      unfold F_Choir_keySingers_8B key
      cases e1 : bt (C 9 0) j
      · simp (disch := omega) only [↓g_in, ↓g_c0, ↓g_c1, ↓reduceIte, ↓y_lt, ↓y_q1, ↓y_q2, ↓sn_q3, ↓sn_t1l, ↓sn_t1r, ↓sn_t2l, ↓sn_t2r, y_q1, y_q2, sn_q3, sn_t1l, sn_t1r, sn_t2l, sn_t2r, nI_clamp, x_leT, x_leF, x_ltT, x_ltF, x_eqT, x_eqF, x_le0T, x_le0F, x_0leT, x_lt0F, x_0ltT, x_0ltF, x_eq0T, x_eq0F, x_le1T, x_le1F, x_1leT, x_1leF, x_1ltT, x_1ltF, x_lt1T, x_lt1F, x_eq1T, x_eq1F, x_m1F, nI_add, nI_1, sn_mul, x_sub, x_sub1, sn_m1, l2, l3, l4, l5, l6, l7, l8, l9, l10, l11, l12, l13, l14, l15, l20, l30, l40, l48, l60, l64, l99, l100, l700, l999, not_true_eq_false, not_false_eq_true, x_t0, x_t1, lts1, x_10, x_1sub, eq_self, Nat.reduceSub, Nat.reduceAdd, Nat.reduceMul, bs0, e1, Bool.false_and, Bool.false_eq_true]
      · by_cases e2 : sg A (C 9 0 &&& (b1 j ^^^ -1)) = sg A (C 9 0)
        · simp (disch := omega) only [↓g_in, ↓g_c0, ↓g_c1, ↓reduceIte, ↓y_lt, ↓y_q1, ↓y_q2, ↓sn_q3, ↓sn_t1l, ↓sn_t1r, ↓sn_t2l, ↓sn_t2r, y_q1, y_q2, sn_q3, sn_t1l, sn_t1r, sn_t2l, sn_t2r, nI_clamp, x_leT, x_leF, x_ltT, x_ltF, x_eqT, x_eqF, x_le0T, x_le0F, x_0leT, x_lt0F, x_0ltT, x_0ltF, x_eq0T, x_eq0F, x_le1T, x_le1F, x_1leT, x_1leF, x_1ltT, x_1ltF, x_lt1T, x_lt1F, x_eq1T, x_eq1F, x_m1F, nI_add, nI_1, sn_mul, x_sub, x_sub1, sn_m1, l2, l3, l4, l5, l6, l7, l8, l9, l10, l11, l12, l13, l14, l15, l20, l30, l40, l48, l60, l64, l99, l100, l700, l999, not_true_eq_false, not_false_eq_true, x_t0, x_t1, lts1, x_10, x_1sub, eq_self, Nat.reduceSub, Nat.reduceAdd, Nat.reduceMul, bs0, e1, c_singable hw hc, e2, Bool.true_eq_false, Bool.true_and, decide_false, Bool.false_eq_true]
        · simp (disch := omega) only [↓g_in, ↓g_c0, ↓g_c1, ↓reduceIte, ↓y_lt, ↓y_q1, ↓y_q2, ↓sn_q3, ↓sn_t1l, ↓sn_t1r, ↓sn_t2l, ↓sn_t2r, y_q1, y_q2, sn_q3, sn_t1l, sn_t1r, sn_t2l, sn_t2r, nI_clamp, x_leT, x_leF, x_ltT, x_ltF, x_eqT, x_eqF, x_le0T, x_le0F, x_0leT, x_lt0F, x_0ltT, x_0ltF, x_eq0T, x_eq0F, x_le1T, x_le1F, x_1leT, x_1leF, x_1ltT, x_1ltF, x_lt1T, x_lt1F, x_eq1T, x_eq1F, x_m1F, nI_add, nI_1, sn_mul, x_sub, x_sub1, sn_m1, l2, l3, l4, l5, l6, l7, l8, l9, l10, l11, l12, l13, l14, l15, l20, l30, l40, l48, l60, l64, l99, l100, l700, l999, not_true_eq_false, not_false_eq_true, x_t0, x_t1, lts1, x_10, x_1sub, eq_self, Nat.reduceSub, Nat.reduceAdd, Nat.reduceMul, bs0, e1, c_singable hw hc, e2, Bool.true_eq_false, Bool.true_and, decide_true]
  · have lp := lp_in (fun f j (z : Int32) => F_Mo_keys_18 f (C 9 0) (nI (pc (sg A (C 9 0)))) z j M1) (fun z => some (z, M1)) (fun j a => if key A (C 9 0) j then a ||| b1 j else a) (fun _ _ => True) (A 0 0) 0 trivial (by omega) ?_ ?_
    · rw [itr_bs] at lp
      simp (disch := omega) only [↓g_in, ↓g_c0, ↓g_c1, ↓reduceIte, ↓y_lt, ↓y_q1, ↓y_q2, ↓sn_q3, ↓sn_t1l, ↓sn_t1r, ↓sn_t2l, ↓sn_t2r, y_q1, y_q2, sn_q3, sn_t1l, sn_t1r, sn_t2l, sn_t2r, nI_clamp, x_leT, x_leF, x_ltT, x_ltF, x_eqT, x_eqF, x_le0T, x_le0F, x_0leT, x_lt0F, x_0ltT, x_0ltF, x_eq0T, x_eq0F, x_le1T, x_le1F, x_1leT, x_1leF, x_1ltT, x_1ltF, x_lt1T, x_lt1F, x_eq1T, x_eq1F, x_m1F, nI_add, nI_1, sn_mul, x_sub, x_sub1, sn_m1, l2, l3, l4, l5, l6, l7, l8, l9, l10, l11, l12, l13, l14, l15, l20, l30, l40, l48, l60, l64, l99, l100, l700, l999, not_true_eq_false, not_false_eq_true, x_t0, x_t1, lts1, x_10, x_1sub, eq_self, Nat.reduceSub, Nat.reduceAdd, Nat.reduceMul, ↓q1_of (mo_so0 hw hm hst), mo_sungBy hw hm, mo_bits]
      rw [bs_to (n := A 0 0) hn (fun i h1 h2 => by unfold key; rw [(hst.1 i h1).1, Bool.false_and])]
      exact lp.1
    · intro f z _
      show F_Mo_keys_18B (F_Mo_keys_18 f) (C 9 0) (nI (pc (sg A (C 9 0)))) z (nI (A 0 0)) M1 = _
      unfold F_Mo_keys_18B
      simp (disch := omega) only [↓g_in, ↓g_c0, ↓g_c1, ↓reduceIte, ↓y_lt, ↓y_q1, ↓y_q2, ↓sn_q3, ↓sn_t1l, ↓sn_t1r, ↓sn_t2l, ↓sn_t2r, y_q1, y_q2, sn_q3, sn_t1l, sn_t1r, sn_t2l, sn_t2r, nI_clamp, x_leT, x_leF, x_ltT, x_ltF, x_eqT, x_eqF, x_le0T, x_le0F, x_0leT, x_lt0F, x_0ltT, x_0ltF, x_eq0T, x_eq0F, x_le1T, x_le1F, x_1leT, x_1leF, x_1ltT, x_1ltF, x_lt1T, x_lt1F, x_eq1T, x_eq1F, x_m1F, nI_add, nI_1, sn_mul, x_sub, x_sub1, sn_m1, l2, l3, l4, l5, l6, l7, l8, l9, l10, l11, l12, l13, l14, l15, l20, l30, l40, l48, l60, l64, l99, l100, l700, l999, not_true_eq_false, not_false_eq_true, x_t0, x_t1, lts1, x_10, x_1sub, eq_self, Nat.reduceSub, Nat.reduceAdd, Nat.reduceMul, hm.1]
    · intro f j z hj _
      refine ⟨trivial, ?_⟩
      have p1 := pc_le (sg A (C 9 0))
      have p2 := pc_le (sg A (C 9 0 &&& (b1 j ^^^ -1)))
      have p3 := sg_lt (A := A) (x := C 9 0 &&& (b1 j ^^^ -1)) (y := C 9 0) (fun i hi hb => by rw [b_and, Bool.and_eq_true] at hb; exact hb.1)
      show F_Mo_keys_18B (F_Mo_keys_18 f) (C 9 0) (nI (pc (sg A (C 9 0)))) z (nI j) M1 = F_Mo_keys_18 f (C 9 0) (nI (pc (sg A (C 9 0)))) _ (nI (j + 1)) M1
      unfold F_Mo_keys_18B key
      cases e1 : bt (C 9 0) j
      · simp (disch := omega) only [↓g_in, ↓g_c0, ↓g_c1, ↓reduceIte, ↓y_lt, ↓y_q1, ↓y_q2, ↓sn_q3, ↓sn_t1l, ↓sn_t1r, ↓sn_t2l, ↓sn_t2r, y_q1, y_q2, sn_q3, sn_t1l, sn_t1r, sn_t2l, sn_t2r, nI_clamp, x_leT, x_leF, x_ltT, x_ltF, x_eqT, x_eqF, x_le0T, x_le0F, x_0leT, x_lt0F, x_0ltT, x_0ltF, x_eq0T, x_eq0F, x_le1T, x_le1F, x_1leT, x_1leF, x_1ltT, x_1ltF, x_lt1T, x_lt1F, x_eq1T, x_eq1F, x_m1F, nI_add, nI_1, sn_mul, x_sub, x_sub1, sn_m1, l2, l3, l4, l5, l6, l7, l8, l9, l10, l11, l12, l13, l14, l15, l20, l30, l40, l48, l60, l64, l99, l100, l700, l999, not_true_eq_false, not_false_eq_true, x_t0, x_t1, lts1, x_10, x_1sub, eq_self, Nat.reduceSub, Nat.reduceAdd, Nat.reduceMul, hm.1, e1, or0, Bool.false_and, Bool.false_eq_true]
      · by_cases e2 : sg A (C 9 0 &&& (b1 j ^^^ -1)) = sg A (C 9 0)
        · simp (disch := omega) only [↓g_in, ↓g_c0, ↓g_c1, ↓reduceIte, ↓y_lt, ↓y_q1, ↓y_q2, ↓sn_q3, ↓sn_t1l, ↓sn_t1r, ↓sn_t2l, ↓sn_t2r, y_q1, y_q2, sn_q3, sn_t1l, sn_t1r, sn_t2l, sn_t2r, nI_clamp, x_leT, x_leF, x_ltT, x_ltF, x_eqT, x_eqF, x_le0T, x_le0F, x_0leT, x_lt0F, x_0ltT, x_0ltF, x_eq0T, x_eq0F, x_le1T, x_le1F, x_1leT, x_1leF, x_1ltT, x_1ltF, x_lt1T, x_lt1F, x_eq1T, x_eq1F, x_m1F, nI_add, nI_1, sn_mul, x_sub, x_sub1, sn_m1, l2, l3, l4, l5, l6, l7, l8, l9, l10, l11, l12, l13, l14, l15, l20, l30, l40, l48, l60, l64, l99, l100, l700, l999, not_true_eq_false, not_false_eq_true, x_t0, x_t1, lts1, x_10, x_1sub, eq_self, Nat.reduceSub, Nat.reduceAdd, Nat.reduceMul, hm.1, e1, e2, mo_sungBy hw hm, mo_bits, or0, Bool.true_and, decide_false, Bool.false_eq_true]
        · have p4 := p3.mpr e2
          simp (disch := omega) only [↓g_in, ↓g_c0, ↓g_c1, ↓reduceIte, ↓y_lt, ↓y_q1, ↓y_q2, ↓sn_q3, ↓sn_t1l, ↓sn_t1r, ↓sn_t2l, ↓sn_t2r, y_q1, y_q2, sn_q3, sn_t1l, sn_t1r, sn_t2l, sn_t2r, nI_clamp, x_leT, x_leF, x_ltT, x_ltF, x_eqT, x_eqF, x_le0T, x_le0F, x_0leT, x_lt0F, x_0ltT, x_0ltF, x_eq0T, x_eq0F, x_le1T, x_le1F, x_1leT, x_1leF, x_1ltT, x_1ltF, x_lt1T, x_lt1F, x_eq1T, x_eq1F, x_m1F, nI_add, nI_1, sn_mul, x_sub, x_sub1, sn_m1, l2, l3, l4, l5, l6, l7, l8, l9, l10, l11, l12, l13, l14, l15, l20, l30, l40, l48, l60, l64, l99, l100, l700, l999, not_true_eq_false, not_false_eq_true, x_t0, x_t1, lts1, x_10, x_1sub, eq_self, Nat.reduceSub, Nat.reduceAdd, Nat.reduceMul, hm.1, e1, e2, mo_sungBy hw hm, mo_bits, Bool.true_and, decide_true]
def bgs (A : sA) (c : Nat → Int32) (i j : Nat) (z : Int32 × Nat) : Int32 × Nat := if (bt (sd A 0 &&& c 1) i && bt (sd A 1 &&& c 1) j) then (if z.2 < pc (sg A (c 0 ||| b1 i ||| b1 j)) then (nI (100 * i + j), pc (sg A (c 0 ||| b1 i ||| b1 j))) else z) else z
def bgo (A : sA) (c : Nat → Int32) (n i : Nat) (z : Int32 × Nat) : Int32 × Nat := itr (bgs A c i) n z
theorem bgs_le {A : sA} {c : Nat → Int32} {i j : Nat} {z : Int32 × Nat} (h : z.2 ≤ 14) : (bgs A c i j z).2 ≤ 14 := by
  unfold bgs
  split
  · split
    · exact pc_le _
    · exact h
  · exact h
theorem q_bargain (h : Rel A R t C M) : ∃ v, F_VM_bargain t C = some v ∧ mq (F_Mo_bargain M) M (.inl v) := by
  obtain ⟨M1, hM1, h0, h, hs⟩ := h.start
  have hw := h.wa
  have hc := h.ca
  have hm := h.ma
  have hst := h.st
  have hn := hw.1
  have s0 : F_Valley_ofSide t 0 C = some (sd A 0) := c_ofSide' (k := 0) hc (by omega)
  have s1 : F_Valley_ofSide t 1 C = some (sd A 1) := c_ofSide' (k := 1) hc (by omega)
  unfold F_VM_bargain F_Mo_bargain F_Choir_bestExchange
  rw [hM1]
  refine ⟨(itr (bgo A (C 9) 14) 14 (-1, pc (sg A (C 9 0)))).1, ?_, mq_v (M' := M1) ?_ h0 hs⟩
  · have lp := lp_in (fun f j (z : Int32 × Nat) => F_Choir_bestExchange_24 t C f (sd A 0 &&& C 9 1) (sd A 1 &&& C 9 1) (nI z.2) z.1 j) (fun z => some z.1) (bgo A (C 9) 14) (fun _ z => z.2 ≤ 14) 14 (-1, pc (sg A (C 9 0))) (pc_le _) (by omega) ?_ ?_
    · simp (disch := omega) only [↓g_in, ↓g_c0, ↓g_c1, ↓reduceIte, ↓y_lt, ↓y_q1, ↓y_q2, ↓sn_q3, ↓sn_t1l, ↓sn_t1r, ↓sn_t2l, ↓sn_t2r, y_q1, y_q2, sn_q3, sn_t1l, sn_t1r, sn_t2l, sn_t2r, nI_clamp, x_leT, x_leF, x_ltT, x_ltF, x_eqT, x_eqF, x_le0T, x_le0F, x_0leT, x_lt0F, x_0ltT, x_0ltF, x_eq0T, x_eq0F, x_le1T, x_le1F, x_1leT, x_1leF, x_1ltT, x_1ltF, x_lt1T, x_lt1F, x_eq1T, x_eq1F, x_m1F, nI_add, nI_1, sn_mul, x_sub, x_sub1, sn_m1, l2, l3, l4, l5, l6, l7, l8, l9, l10, l11, l12, l13, l14, l15, l20, l30, l40, l48, l60, l64, l99, l100, l700, l999, not_true_eq_false, not_false_eq_true, x_t0, x_t1, lts1, x_10, x_1sub, eq_self, Nat.reduceSub, Nat.reduceAdd, Nat.reduceMul, s0, s1, c_singable hw hc, int_bc lo14_sg]
      have lp : F_Choir_bestExchange_24 t C sd_fu (sd A 0 &&& C 9 1) (sd A 1 &&& C 9 1) (nI (pc (sg A (C 9 0)))) (-1) 0 = _ := lp.1
      rw [lp]
      rfl
    · intro f z _
      show F_Choir_bestExchange_24B t (F_Choir_bestExchange_24 t C f) (sd A 0 &&& C 9 1) (sd A 1 &&& C 9 1) (nI z.2) z.1 (nI 14) C = _
      unfold F_Choir_bestExchange_24B
      simp (disch := omega) only [↓g_in, ↓g_c0, ↓g_c1, ↓reduceIte, ↓y_lt, ↓y_q1, ↓y_q2, ↓sn_q3, ↓sn_t1l, ↓sn_t1r, ↓sn_t2l, ↓sn_t2r, y_q1, y_q2, sn_q3, sn_t1l, sn_t1r, sn_t2l, sn_t2r, nI_clamp, x_leT, x_leF, x_ltT, x_ltF, x_eqT, x_eqF, x_le0T, x_le0F, x_0leT, x_lt0F, x_0ltT, x_0ltF, x_eq0T, x_eq0F, x_le1T, x_le1F, x_1leT, x_1leF, x_1ltT, x_1ltF, x_lt1T, x_lt1F, x_eq1T, x_eq1F, x_m1F, nI_add, nI_1, sn_mul, x_sub, x_sub1, sn_m1, l2, l3, l4, l5, l6, l7, l8, l9, l10, l11, l12, l13, l14, l15, l20, l30, l40, l48, l60, l64, l99, l100, l700, l999, not_true_eq_false, not_false_eq_true, x_t0, x_t1, lts1, x_10, x_1sub, eq_self, Nat.reduceSub, Nat.reduceAdd, Nat.reduceMul]
    · intro f i z hi hz
      have lq := lp_in (fun g j (z : Int32 × Nat) => F_Choir_bestExchange_29 t (F_Choir_bestExchange_24 t C f) C g (sd A 0 &&& C 9 1) (sd A 1 &&& C 9 1) (nI z.2) z.1 (nI i) j) (fun z => F_Choir_bestExchange_24 t C f (sd A 0 &&& C 9 1) (sd A 1 &&& C 9 1) (nI z.2) z.1 (nI (i + 1))) (bgs A (C 9) i) (fun _ z => z.2 ≤ 14) 14 z hz (by omega) ?_ ?_
      · refine ⟨lq.2, ?_⟩
        show F_Choir_bestExchange_24B t (F_Choir_bestExchange_24 t C f) (sd A 0 &&& C 9 1) (sd A 1 &&& C 9 1) (nI z.2) z.1 (nI i) C = _
        unfold F_Choir_bestExchange_24B
        simp (disch := omega) only [↓g_in, ↓g_c0, ↓g_c1, ↓reduceIte, ↓y_lt, ↓y_q1, ↓y_q2, ↓sn_q3, ↓sn_t1l, ↓sn_t1r, ↓sn_t2l, ↓sn_t2r, y_q1, y_q2, sn_q3, sn_t1l, sn_t1r, sn_t2l, sn_t2r, nI_clamp, x_leT, x_leF, x_ltT, x_ltF, x_eqT, x_eqF, x_le0T, x_le0F, x_0leT, x_lt0F, x_0ltT, x_0ltF, x_eq0T, x_eq0F, x_le1T, x_le1F, x_1leT, x_1leF, x_1ltT, x_1ltF, x_lt1T, x_lt1F, x_eq1T, x_eq1F, x_m1F, nI_add, nI_1, sn_mul, x_sub, x_sub1, sn_m1, l2, l3, l4, l5, l6, l7, l8, l9, l10, l11, l12, l13, l14, l15, l20, l30, l40, l48, l60, l64, l99, l100, l700, l999, not_true_eq_false, not_false_eq_true, x_t0, x_t1, lts1, x_10, x_1sub, eq_self, Nat.reduceSub, Nat.reduceAdd, Nat.reduceMul]
        exact lq.1
      · intro g z _
        show F_Choir_bestExchange_29B t (F_Choir_bestExchange_24 t C f) (F_Choir_bestExchange_29 t (F_Choir_bestExchange_24 t C f) C g) (sd A 0 &&& C 9 1) (sd A 1 &&& C 9 1) (nI z.2) z.1 (nI i) (nI 14) C = _
        unfold F_Choir_bestExchange_29B
        simp (disch := omega) only [↓g_in, ↓g_c0, ↓g_c1, ↓reduceIte, ↓y_lt, ↓y_q1, ↓y_q2, ↓sn_q3, ↓sn_t1l, ↓sn_t1r, ↓sn_t2l, ↓sn_t2r, y_q1, y_q2, sn_q3, sn_t1l, sn_t1r, sn_t2l, sn_t2r, nI_clamp, x_leT, x_leF, x_ltT, x_ltF, x_eqT, x_eqF, x_le0T, x_le0F, x_0leT, x_lt0F, x_0ltT, x_0ltF, x_eq0T, x_eq0F, x_le1T, x_le1F, x_1leT, x_1leF, x_1ltT, x_1ltF, x_lt1T, x_lt1F, x_eq1T, x_eq1F, x_m1F, nI_add, nI_1, sn_mul, x_sub, x_sub1, sn_m1, l2, l3, l4, l5, l6, l7, l8, l9, l10, l11, l12, l13, l14, l15, l20, l30, l40, l48, l60, l64, l99, l100, l700, l999, not_true_eq_false, not_false_eq_true, x_t0, x_t1, lts1, x_10, x_1sub, eq_self, Nat.reduceSub, Nat.reduceAdd, Nat.reduceMul]
      · intro g j z hj hz
        refine ⟨bgs_le hz, ?_⟩
        have p1 := pc_le (sg A (C 9 0 ||| b1 i ||| b1 j))
        show F_Choir_bestExchange_29B t (F_Choir_bestExchange_24 t C f) (F_Choir_bestExchange_29 t (F_Choir_bestExchange_24 t C f) C g) (sd A 0 &&& C 9 1) (sd A 1 &&& C 9 1) (nI z.2) z.1 (nI i) (nI j) C = F_Choir_bestExchange_29 t (F_Choir_bestExchange_24 t C f) C g (sd A 0 &&& C 9 1) (sd A 1 &&& C 9 1) (nI (bgs A (C 9) i j z).2) (bgs A (C 9) i j z).1 (nI i) (nI (j + 1))
        unfold F_Choir_bestExchange_29B bgs
        cases e1 : bt (sd A 0 &&& C 9 1) i
        · simp (disch := omega) only [↓g_in, ↓g_c0, ↓g_c1, ↓reduceIte, ↓y_lt, ↓y_q1, ↓y_q2, ↓sn_q3, ↓sn_t1l, ↓sn_t1r, ↓sn_t2l, ↓sn_t2r, y_q1, y_q2, sn_q3, sn_t1l, sn_t1r, sn_t2l, sn_t2r, nI_clamp, x_leT, x_leF, x_ltT, x_ltF, x_eqT, x_eqF, x_le0T, x_le0F, x_0leT, x_lt0F, x_0ltT, x_0ltF, x_eq0T, x_eq0F, x_le1T, x_le1F, x_1leT, x_1leF, x_1ltT, x_1ltF, x_lt1T, x_lt1F, x_eq1T, x_eq1F, x_m1F, nI_add, nI_1, sn_mul, x_sub, x_sub1, sn_m1, l2, l3, l4, l5, l6, l7, l8, l9, l10, l11, l12, l13, l14, l15, l20, l30, l40, l48, l60, l64, l99, l100, l700, l999, not_true_eq_false, not_false_eq_true, x_t0, x_t1, lts1, x_10, x_1sub, eq_self, Nat.reduceSub, Nat.reduceAdd, Nat.reduceMul, e1, Bool.false_and, Bool.false_eq_true]
        · cases e2 : bt (sd A 1 &&& C 9 1) j
          · simp (disch := omega) only [↓g_in, ↓g_c0, ↓g_c1, ↓reduceIte, ↓y_lt, ↓y_q1, ↓y_q2, ↓sn_q3, ↓sn_t1l, ↓sn_t1r, ↓sn_t2l, ↓sn_t2r, y_q1, y_q2, sn_q3, sn_t1l, sn_t1r, sn_t2l, sn_t2r, nI_clamp, x_leT, x_leF, x_ltT, x_ltF, x_eqT, x_eqF, x_le0T, x_le0F, x_0leT, x_lt0F, x_0ltT, x_0ltF, x_eq0T, x_eq0F, x_le1T, x_le1F, x_1leT, x_1leF, x_1ltT, x_1ltF, x_lt1T, x_lt1F, x_eq1T, x_eq1F, x_m1F, nI_add, nI_1, sn_mul, x_sub, x_sub1, sn_m1, l2, l3, l4, l5, l6, l7, l8, l9, l10, l11, l12, l13, l14, l15, l20, l30, l40, l48, l60, l64, l99, l100, l700, l999, not_true_eq_false, not_false_eq_true, x_t0, x_t1, lts1, x_10, x_1sub, eq_self, Nat.reduceSub, Nat.reduceAdd, Nat.reduceMul, e1, e2, Bool.and_false, Bool.true_eq_false, Bool.false_eq_true]
          · by_cases e3 : z.2 < pc (sg A (C 9 0 ||| b1 i ||| b1 j))
            · simp (disch := omega) only [↓g_in, ↓g_c0, ↓g_c1, ↓reduceIte, ↓y_lt, ↓y_q1, ↓y_q2, ↓sn_q3, ↓sn_t1l, ↓sn_t1r, ↓sn_t2l, ↓sn_t2r, y_q1, y_q2, sn_q3, sn_t1l, sn_t1r, sn_t2l, sn_t2r, nI_clamp, x_leT, x_leF, x_ltT, x_ltF, x_eqT, x_eqF, x_le0T, x_le0F, x_0leT, x_lt0F, x_0ltT, x_0ltF, x_eq0T, x_eq0F, x_le1T, x_le1F, x_1leT, x_1leF, x_1ltT, x_1ltF, x_lt1T, x_lt1F, x_eq1T, x_eq1F, x_m1F, nI_add, nI_1, sn_mul, x_sub, x_sub1, sn_m1, l2, l3, l4, l5, l6, l7, l8, l9, l10, l11, l12, l13, l14, l15, l20, l30, l40, l48, l60, l64, l99, l100, l700, l999, not_true_eq_false, not_false_eq_true, x_t0, x_t1, lts1, x_10, x_1sub, eq_self, Nat.reduceSub, Nat.reduceAdd, Nat.reduceMul, e1, e2, Bool.true_eq_false, Bool.and_self, c_singable hw hc, int_bc lo14_sg, e3]
            · simp (disch := omega) only [↓g_in, ↓g_c0, ↓g_c1, ↓reduceIte, ↓y_lt, ↓y_q1, ↓y_q2, ↓sn_q3, ↓sn_t1l, ↓sn_t1r, ↓sn_t2l, ↓sn_t2r, y_q1, y_q2, sn_q3, sn_t1l, sn_t1r, sn_t2l, sn_t2r, nI_clamp, x_leT, x_leF, x_ltT, x_ltF, x_eqT, x_eqF, x_le0T, x_le0F, x_0leT, x_lt0F, x_0ltT, x_0ltF, x_eq0T, x_eq0F, x_le1T, x_le1F, x_1leT, x_1leF, x_1ltT, x_1ltF, x_lt1T, x_lt1F, x_eq1T, x_eq1F, x_m1F, nI_add, nI_1, sn_mul, x_sub, x_sub1, sn_m1, l2, l3, l4, l5, l6, l7, l8, l9, l10, l11, l12, l13, l14, l15, l20, l30, l40, l48, l60, l64, l99, l100, l700, l999, not_true_eq_false, not_false_eq_true, x_t0, x_t1, lts1, x_10, x_1sub, eq_self, Nat.reduceSub, Nat.reduceAdd, Nat.reduceMul, e1, e2, Bool.true_eq_false, Bool.and_self, c_singable hw hc, int_bc lo14_sg, e3]
  · have e14 : itr (bgo A (C 9) 14) 14 (-1, pc (sg A (C 9 0))) = itr (bgo A (C 9) (A 0 0)) (A 0 0) (-1, pc (sg A (C 9 0))) := by
      have out : ∀ i, A 0 0 ≤ i → ∀ σ, bt (sd A σ &&& C 9 1) i = false := fun i hi σ => by rw [b_and, (hst.1 i hi).2.1, Bool.and_false]
      rw [itr_to (n := A 0 0) hn (fun i b h1 h2 => ?_)]
      · refine itr_congr (fun i b hi => ?_)
        unfold bgo
        rw [itr_to (n := A 0 0) hn (fun j b h1 h2 => ?_)]
        unfold bgs
        rw [out j h1, Bool.and_false]
        rfl
      · unfold bgo
        rw [itr_to (n := 0) (by omega) (fun j b h3 h4 => ?_)]
        · rfl
        · unfold bgs
          rw [out i h1, Bool.false_and]
          rfl
    rw [e14]
    have lp := lp_in (fun f j (z : Int32 × Nat) => F_Mo_bargain_18 f (C 9 0) z.1 (nI z.2) j M1) (fun z => some (z.1, M1)) (bgo A (C 9) (A 0 0)) (fun _ z => z.2 ≤ 14) (A 0 0) (-1, pc (sg A (C 9 0))) (pc_le _) (by omega) ?_ ?_
    · simp (disch := omega) only [↓g_in, ↓g_c0, ↓g_c1, ↓reduceIte, ↓y_lt, ↓y_q1, ↓y_q2, ↓sn_q3, ↓sn_t1l, ↓sn_t1r, ↓sn_t2l, ↓sn_t2r, y_q1, y_q2, sn_q3, sn_t1l, sn_t1r, sn_t2l, sn_t2r, nI_clamp, x_leT, x_leF, x_ltT, x_ltF, x_eqT, x_eqF, x_le0T, x_le0F, x_0leT, x_lt0F, x_0ltT, x_0ltF, x_eq0T, x_eq0F, x_le1T, x_le1F, x_1leT, x_1leF, x_1ltT, x_1ltF, x_lt1T, x_lt1F, x_eq1T, x_eq1F, x_m1F, nI_add, nI_1, sn_mul, x_sub, x_sub1, sn_m1, l2, l3, l4, l5, l6, l7, l8, l9, l10, l11, l12, l13, l14, l15, l20, l30, l40, l48, l60, l64, l99, l100, l700, l999, not_true_eq_false, not_false_eq_true, x_t0, x_t1, lts1, x_10, x_1sub, eq_self, Nat.reduceSub, Nat.reduceAdd, Nat.reduceMul, ↓q1_of (mo_so0 hw hm hst), mo_sungBy hw hm, mo_bits]
      exact lp.1
    · intro f z _
      show F_Mo_bargain_18B (F_Mo_bargain_18 f) (C 9 0) z.1 (nI z.2) (nI (A 0 0)) M1 = _
      unfold F_Mo_bargain_18B
      simp (disch := omega) only [↓g_in, ↓g_c0, ↓g_c1, ↓reduceIte, ↓y_lt, ↓y_q1, ↓y_q2, ↓sn_q3, ↓sn_t1l, ↓sn_t1r, ↓sn_t2l, ↓sn_t2r, y_q1, y_q2, sn_q3, sn_t1l, sn_t1r, sn_t2l, sn_t2r, nI_clamp, x_leT, x_leF, x_ltT, x_ltF, x_eqT, x_eqF, x_le0T, x_le0F, x_0leT, x_lt0F, x_0ltT, x_0ltF, x_eq0T, x_eq0F, x_le1T, x_le1F, x_1leT, x_1leF, x_1ltT, x_1ltF, x_lt1T, x_lt1F, x_eq1T, x_eq1F, x_m1F, nI_add, nI_1, sn_mul, x_sub, x_sub1, sn_m1, l2, l3, l4, l5, l6, l7, l8, l9, l10, l11, l12, l13, l14, l15, l20, l30, l40, l48, l60, l64, l99, l100, l700, l999, not_true_eq_false, not_false_eq_true, x_t0, x_t1, lts1, x_10, x_1sub, eq_self, Nat.reduceSub, Nat.reduceAdd, Nat.reduceMul, hm.1]
    · intro f i z hi hz
      have lq := lp_in (fun g j (z : Int32 × Nat) => F_Mo_bargain_24 (F_Mo_bargain_18 f) g (C 9 0) z.1 (nI z.2) (nI i) j M1) (fun z => F_Mo_bargain_18 f (C 9 0) z.1 (nI z.2) (nI (i + 1)) M1) (bgs A (C 9) i) (fun _ z => z.2 ≤ 14) (A 0 0) z hz (by omega) ?_ ?_
      · refine ⟨lq.2, ?_⟩
        show F_Mo_bargain_18B (F_Mo_bargain_18 f) (C 9 0) z.1 (nI z.2) (nI i) M1 = _
        unfold F_Mo_bargain_18B
        simp (disch := omega) only [↓g_in, ↓g_c0, ↓g_c1, ↓reduceIte, ↓y_lt, ↓y_q1, ↓y_q2, ↓sn_q3, ↓sn_t1l, ↓sn_t1r, ↓sn_t2l, ↓sn_t2r, y_q1, y_q2, sn_q3, sn_t1l, sn_t1r, sn_t2l, sn_t2r, nI_clamp, x_leT, x_leF, x_ltT, x_ltF, x_eqT, x_eqF, x_le0T, x_le0F, x_0leT, x_lt0F, x_0ltT, x_0ltF, x_eq0T, x_eq0F, x_le1T, x_le1F, x_1leT, x_1leF, x_1ltT, x_1ltF, x_lt1T, x_lt1F, x_eq1T, x_eq1F, x_m1F, nI_add, nI_1, sn_mul, x_sub, x_sub1, sn_m1, l2, l3, l4, l5, l6, l7, l8, l9, l10, l11, l12, l13, l14, l15, l20, l30, l40, l48, l60, l64, l99, l100, l700, l999, not_true_eq_false, not_false_eq_true, x_t0, x_t1, lts1, x_10, x_1sub, eq_self, Nat.reduceSub, Nat.reduceAdd, Nat.reduceMul, hm.1]
        exact lq.1
      · intro g z _
        show F_Mo_bargain_24B (F_Mo_bargain_18 f) (F_Mo_bargain_24 (F_Mo_bargain_18 f) g) (C 9 0) z.1 (nI z.2) (nI i) (nI (A 0 0)) M1 = _
        unfold F_Mo_bargain_24B
        simp (disch := omega) only [↓g_in, ↓g_c0, ↓g_c1, ↓reduceIte, ↓y_lt, ↓y_q1, ↓y_q2, ↓sn_q3, ↓sn_t1l, ↓sn_t1r, ↓sn_t2l, ↓sn_t2r, y_q1, y_q2, sn_q3, sn_t1l, sn_t1r, sn_t2l, sn_t2r, nI_clamp, x_leT, x_leF, x_ltT, x_ltF, x_eqT, x_eqF, x_le0T, x_le0F, x_0leT, x_lt0F, x_0ltT, x_0ltF, x_eq0T, x_eq0F, x_le1T, x_le1F, x_1leT, x_1leF, x_1ltT, x_1ltF, x_lt1T, x_lt1F, x_eq1T, x_eq1F, x_m1F, nI_add, nI_1, sn_mul, x_sub, x_sub1, sn_m1, l2, l3, l4, l5, l6, l7, l8, l9, l10, l11, l12, l13, l14, l15, l20, l30, l40, l48, l60, l64, l99, l100, l700, l999, not_true_eq_false, not_false_eq_true, x_t0, x_t1, lts1, x_10, x_1sub, eq_self, Nat.reduceSub, Nat.reduceAdd, Nat.reduceMul, hm.1]
      · intro g j z hj hz
        refine ⟨bgs_le hz, ?_⟩
        have p1 := pc_le (sg A (C 9 0 ||| b1 i ||| b1 j))
        obtain ⟨d1, -⟩ := hm.2.2.2.1 i hi
        obtain ⟨g1, -⟩ := hw.2.2.2.2.1 i hi
        obtain ⟨d2, -⟩ := hm.2.2.2.1 j hj
        obtain ⟨g2, -⟩ := hw.2.2.2.2.1 j hj
        have hb1 := (stR_b hst hi).2.1
        have hb2 := (stR_b hst hj).2.1
        show F_Mo_bargain_24B (F_Mo_bargain_18 f) (F_Mo_bargain_24 (F_Mo_bargain_18 f) g) (C 9 0) z.1 (nI z.2) (nI i) (nI j) M1 = F_Mo_bargain_24 (F_Mo_bargain_18 f) g (C 9 0) (bgs A (C 9) i j z).1 (nI (bgs A (C 9) i j z).2) (nI i) (nI (j + 1)) M1
        unfold F_Mo_bargain_24B bgs
        rw [b_and, b_and, bt_sd hw, bt_sd hw, ← hb1, ← hb2, decide_eq_true hi, decide_eq_true hj]
        by_cases e1 : A 1 i = 0
        · by_cases e2 : A 1 j = 1
          · by_cases e3 : M1 86 i = 1
            · by_cases e4 : M1 86 j = 1
              · by_cases e5 : z.2 < pc (sg A (C 9 0 ||| b1 i ||| b1 j))
                · simp (disch := omega) only [↓g_in, ↓g_c0, ↓g_c1, ↓reduceIte, ↓y_lt, ↓y_q1, ↓y_q2, ↓sn_q3, ↓sn_t1l, ↓sn_t1r, ↓sn_t2l, ↓sn_t2r, y_q1, y_q2, sn_q3, sn_t1l, sn_t1r, sn_t2l, sn_t2r, nI_clamp, x_leT, x_leF, x_ltT, x_ltF, x_eqT, x_eqF, x_le0T, x_le0F, x_0leT, x_lt0F, x_0ltT, x_0ltF, x_eq0T, x_eq0F, x_le1T, x_le1F, x_1leT, x_1leF, x_1ltT, x_1ltF, x_lt1T, x_lt1F, x_eq1T, x_eq1F, x_m1F, nI_add, nI_1, sn_mul, x_sub, x_sub1, sn_m1, l2, l3, l4, l5, l6, l7, l8, l9, l10, l11, l12, l13, l14, l15, l20, l30, l40, l48, l60, l64, l99, l100, l700, l999, not_true_eq_false, not_false_eq_true, x_t0, x_t1, lts1, x_10, x_1sub, eq_self, Nat.reduceSub, Nat.reduceAdd, Nat.reduceMul, hm.1, d1, d2, e1, e2, e3, e4, decide_true, Bool.and_self, mo_sungBy hw hm, mo_bits, e5]
                · simp (disch := omega) only [↓g_in, ↓g_c0, ↓g_c1, ↓reduceIte, ↓y_lt, ↓y_q1, ↓y_q2, ↓sn_q3, ↓sn_t1l, ↓sn_t1r, ↓sn_t2l, ↓sn_t2r, y_q1, y_q2, sn_q3, sn_t1l, sn_t1r, sn_t2l, sn_t2r, nI_clamp, x_leT, x_leF, x_ltT, x_ltF, x_eqT, x_eqF, x_le0T, x_le0F, x_0leT, x_lt0F, x_0ltT, x_0ltF, x_eq0T, x_eq0F, x_le1T, x_le1F, x_1leT, x_1leF, x_1ltT, x_1ltF, x_lt1T, x_lt1F, x_eq1T, x_eq1F, x_m1F, nI_add, nI_1, sn_mul, x_sub, x_sub1, sn_m1, l2, l3, l4, l5, l6, l7, l8, l9, l10, l11, l12, l13, l14, l15, l20, l30, l40, l48, l60, l64, l99, l100, l700, l999, not_true_eq_false, not_false_eq_true, x_t0, x_t1, lts1, x_10, x_1sub, eq_self, Nat.reduceSub, Nat.reduceAdd, Nat.reduceMul, hm.1, d1, d2, e1, e2, e3, e4, decide_true, Bool.and_self, mo_sungBy hw hm, mo_bits, e5]
              · simp (disch := omega) only [↓g_in, ↓g_c0, ↓g_c1, ↓reduceIte, ↓y_lt, ↓y_q1, ↓y_q2, ↓sn_q3, ↓sn_t1l, ↓sn_t1r, ↓sn_t2l, ↓sn_t2r, y_q1, y_q2, sn_q3, sn_t1l, sn_t1r, sn_t2l, sn_t2r, nI_clamp, x_leT, x_leF, x_ltT, x_ltF, x_eqT, x_eqF, x_le0T, x_le0F, x_0leT, x_lt0F, x_0ltT, x_0ltF, x_eq0T, x_eq0F, x_le1T, x_le1F, x_1leT, x_1leF, x_1ltT, x_1ltF, x_lt1T, x_lt1F, x_eq1T, x_eq1F, x_m1F, nI_add, nI_1, sn_mul, x_sub, x_sub1, sn_m1, l2, l3, l4, l5, l6, l7, l8, l9, l10, l11, l12, l13, l14, l15, l20, l30, l40, l48, l60, l64, l99, l100, l700, l999, not_true_eq_false, not_false_eq_true, x_t0, x_t1, lts1, x_10, x_1sub, eq_self, Nat.reduceSub, Nat.reduceAdd, Nat.reduceMul, hm.1, d1, d2, e1, e2, e3, e4, decide_true, decide_false, Bool.and_false, Bool.false_eq_true]
            · simp (disch := omega) only [↓g_in, ↓g_c0, ↓g_c1, ↓reduceIte, ↓y_lt, ↓y_q1, ↓y_q2, ↓sn_q3, ↓sn_t1l, ↓sn_t1r, ↓sn_t2l, ↓sn_t2r, y_q1, y_q2, sn_q3, sn_t1l, sn_t1r, sn_t2l, sn_t2r, nI_clamp, x_leT, x_leF, x_ltT, x_ltF, x_eqT, x_eqF, x_le0T, x_le0F, x_0leT, x_lt0F, x_0ltT, x_0ltF, x_eq0T, x_eq0F, x_le1T, x_le1F, x_1leT, x_1leF, x_1ltT, x_1ltF, x_lt1T, x_lt1F, x_eq1T, x_eq1F, x_m1F, nI_add, nI_1, sn_mul, x_sub, x_sub1, sn_m1, l2, l3, l4, l5, l6, l7, l8, l9, l10, l11, l12, l13, l14, l15, l20, l30, l40, l48, l60, l64, l99, l100, l700, l999, not_true_eq_false, not_false_eq_true, x_t0, x_t1, lts1, x_10, x_1sub, eq_self, Nat.reduceSub, Nat.reduceAdd, Nat.reduceMul, hm.1, d1, d2, e1, e2, e3, decide_true, decide_false, Bool.and_false, Bool.false_and, Bool.false_eq_true]
          · simp (disch := omega) only [↓g_in, ↓g_c0, ↓g_c1, ↓reduceIte, ↓y_lt, ↓y_q1, ↓y_q2, ↓sn_q3, ↓sn_t1l, ↓sn_t1r, ↓sn_t2l, ↓sn_t2r, y_q1, y_q2, sn_q3, sn_t1l, sn_t1r, sn_t2l, sn_t2r, nI_clamp, x_leT, x_leF, x_ltT, x_ltF, x_eqT, x_eqF, x_le0T, x_le0F, x_0leT, x_lt0F, x_0ltT, x_0ltF, x_eq0T, x_eq0F, x_le1T, x_le1F, x_1leT, x_1leF, x_1ltT, x_1ltF, x_lt1T, x_lt1F, x_eq1T, x_eq1F, x_m1F, nI_add, nI_1, sn_mul, x_sub, x_sub1, sn_m1, l2, l3, l4, l5, l6, l7, l8, l9, l10, l11, l12, l13, l14, l15, l20, l30, l40, l48, l60, l64, l99, l100, l700, l999, not_true_eq_false, not_false_eq_true, x_t0, x_t1, lts1, x_10, x_1sub, eq_self, Nat.reduceSub, Nat.reduceAdd, Nat.reduceMul, hm.1, d1, d2, e1, e2, decide_false, Bool.and_false, Bool.false_and, Bool.false_eq_true]
        · simp (disch := omega) only [↓g_in, ↓g_c0, ↓g_c1, ↓reduceIte, ↓y_lt, ↓y_q1, ↓y_q2, ↓sn_q3, ↓sn_t1l, ↓sn_t1r, ↓sn_t2l, ↓sn_t2r, y_q1, y_q2, sn_q3, sn_t1l, sn_t1r, sn_t2l, sn_t2r, nI_clamp, x_leT, x_leF, x_ltT, x_ltF, x_eqT, x_eqF, x_le0T, x_le0F, x_0leT, x_lt0F, x_0ltT, x_0ltF, x_eq0T, x_eq0F, x_le1T, x_le1F, x_1leT, x_1leF, x_1ltT, x_1ltF, x_lt1T, x_lt1F, x_eq1T, x_eq1F, x_m1F, nI_add, nI_1, sn_mul, x_sub, x_sub1, sn_m1, l2, l3, l4, l5, l6, l7, l8, l9, l10, l11, l12, l13, l14, l15, l20, l30, l40, l48, l60, l64, l99, l100, l700, l999, not_true_eq_false, not_false_eq_true, x_t0, x_t1, lts1, x_10, x_1sub, eq_self, Nat.reduceSub, Nat.reduceAdd, Nat.reduceMul, hm.1, d1, d2, e1, decide_false, Bool.and_false, Bool.false_and, Bool.false_eq_true]
end QU
